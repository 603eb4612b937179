set_option maxHeartbeats 4000000 in
set_option maxRecDepth 100000 in
theorem M_sixteenth_ok {J : gS → gS} {z0 : Int} {s0 : gS} {a0 a1 : Int} {s : gS} (h : M_sixteenth a0 a1 s = some (z0, s0)) : Ct M_M_sixteenth g_S [gi a0, gi a1] (J s) (QF g_S J z0 s0) := by
  refine Ct_of [some (gi a0), some (gi a1)] (plainFor_of_name (by decide)) rfl (Nat.le_of_ble_eq_true rfl) rfl (by decide) q_rF ?_
  unfold M_sixteenth at h
  refine G_iload_n (g_da dt_M_sixteenth 0 rfl) rfl rfl ?_
  refine G_i2l (g_da dt_M_sixteenth 1 rfl) ?_
  refine G_iload_n (g_da dt_M_sixteenth 2 rfl) rfl rfl ?_
  refine G_i2l (g_da dt_M_sixteenth 3 rfl) ?_
  refine G_lmul (g_da dt_M_sixteenth 4 rfl) ?_
  refine G_iconst (g_da dt_M_sixteenth 5 rfl) ?_
  refine G_lshr (g_da dt_M_sixteenth 6 rfl) ?_
  exact G_lreturn (g_da dt_M_sixteenth 7 rfl) rfl rfl (g_nz rfl) (q_f h)
set_option maxHeartbeats 4000000 in
set_option maxRecDepth 100000 in
theorem M_xOf_ok {J : gS → gS} (hJm : g_jm J) {z0 : Int} {s0 : gS} {a1 : Int} {s : gS} (h : M_xOf a1 s = some (z0, s0)) : Ct M_M_xOf g_S [.ref 49, gi a1] (J s) (QF g_S J z0 s0) := by
  refine Ct_of [some (.ref 49), some (gi a1)] (plainFor_of_name (by decide)) rfl (Nat.le_of_ble_eq_true rfl) rfl (by decide) q_rF ?_
  unfold M_xOf at h
  refine G_aload_n (g_da dt_M_xOf 0 rfl) rfl rfl ?_
  refine G_getR (g_da dt_M_xOf 1 rfl) sh_49 fl_15_47 rfl ?_
  refine G_iconst (g_da dt_M_xOf 2 rfl) ?_
  refine H_iaload (g_da dt_M_xOf 3 rfl) sh_62 (hJm 62 rfl) w_2 ⟨by decide, by decide⟩ rfl ?_
  refine G_i2l (g_da dt_M_xOf 4 rfl) ?_
  refine G_aload_n (g_da dt_M_xOf 5 rfl) rfl rfl ?_
  refine G_getR (g_da dt_M_xOf 6 rfl) sh_49 fl_15_47 rfl ?_
  refine G_iconst (g_da dt_M_xOf 7 rfl) ?_
  refine H_iaload (g_da dt_M_xOf 8 rfl) sh_62 (hJm 62 rfl) w_0 ⟨by decide, by decide⟩ rfl ?_
  refine G_iload_n (g_da dt_M_xOf 9 rfl) rfl rfl ?_
  obtain ⟨r1, s2, hc3, h⟩ := o_b h
  refine H_cSF (M_sixteenth_ok hc3) (g_da dt_M_xOf 10 rfl) lk_15_181 ms_M_sixteenth rfl rfl rfl rfl rfl rfl ?_
  refine G_ladd (g_da dt_M_xOf 11 rfl) ?_
  exact G_lreturn (g_da dt_M_xOf 12 rfl) rfl rfl (g_nz rfl) (q_f h)
set_option maxHeartbeats 4000000 in
set_option maxRecDepth 100000 in
theorem M_yOf_ok {J : gS → gS} (hJm : g_jm J) {z0 : Int} {s0 : gS} {a1 : Int} {s : gS} (h : M_yOf a1 s = some (z0, s0)) : Ct M_M_yOf g_S [.ref 49, gi a1] (J s) (QF g_S J z0 s0) := by
  refine Ct_of [some (.ref 49), some (gi a1)] (plainFor_of_name (by decide)) rfl (Nat.le_of_ble_eq_true rfl) rfl (by decide) q_rF ?_
  unfold M_yOf at h
  refine G_aload_n (g_da dt_M_yOf 0 rfl) rfl rfl ?_
  refine G_getR (g_da dt_M_yOf 1 rfl) sh_49 fl_15_47 rfl ?_
  refine G_iconst (g_da dt_M_yOf 2 rfl) ?_
  refine H_iaload (g_da dt_M_yOf 3 rfl) sh_62 (hJm 62 rfl) w_3 ⟨by decide, by decide⟩ rfl ?_
  refine G_i2l (g_da dt_M_yOf 4 rfl) ?_
  refine G_aload_n (g_da dt_M_yOf 5 rfl) rfl rfl ?_
  refine G_getR (g_da dt_M_yOf 6 rfl) sh_49 fl_15_47 rfl ?_
  refine G_iconst (g_da dt_M_yOf 7 rfl) ?_
  refine H_iaload (g_da dt_M_yOf 8 rfl) sh_62 (hJm 62 rfl) w_1 ⟨by decide, by decide⟩ rfl ?_
  refine G_iload_n (g_da dt_M_yOf 9 rfl) rfl rfl ?_
  obtain ⟨r1, s2, hc3, h⟩ := o_b h
  refine H_cSF (M_sixteenth_ok hc3) (g_da dt_M_yOf 10 rfl) lk_15_181 ms_M_sixteenth rfl rfl rfl rfl rfl rfl ?_
  refine G_ladd (g_da dt_M_yOf 11 rfl) ?_
  exact G_lreturn (g_da dt_M_yOf 12 rfl) rfl rfl (g_nz rfl) (q_f h)
set_option maxHeartbeats 4000000 in
set_option maxRecDepth 100000 in
theorem M_along_196_ok {J : gS → gS} (hJm : g_jm J) {z0 : Int} {s0 : gS} {k77 : Int → Int → Int → Int → Int → Int → gS → gA} (hk77 : ∀ (l7 l8 l9 l10 l11 l12 : Int) (s : gS), k77 l7 l8 l9 l10 l11 l12 s = some (z0, s0) → G M_M_along (QE g_S J z0 s0) (g_S, 0, 0) (J s) 77 [none, none, none, none, none, none, none, some (gi l7), some (gi l8), some (gi l9), some (gi l10), some (gi l11), some (gi l12), none, none, none, none, none, none] [])  {l7 l8 l9 l10 l11 l12 : Int} {s : gS} (h : M_along_196 k77 l7 l8 l9 l10 l11 l12 s = some (z0, s0)) : G M_M_along (QE g_S J z0 s0) (g_S, 0, 0) (J s) 196 [none, none, none, none, none, none, none, some (gi l7), some (gi l8), some (gi l9), some (gi l10), some (gi l11), some (gi l12), none, none, none, none, none, none] [] := by
  unfold M_along_196 at h
  refine G_goto (g_da dt_M_along 107 rfl) rfl ?_
  exact G_subK (hk77 _ _ _ _ _ _ _ h) ⟨rfl, ⟨rfl, ⟨rfl, ⟨rfl, ⟨rfl, ⟨rfl, trivial⟩⟩⟩⟩⟩⟩
set_option maxHeartbeats 4000000 in
set_option maxRecDepth 100000 in
theorem M_along_77_ok {J : gS → gS} (hJm : g_jm J) {z0 : Int} {s0 : gS} {k77 : Int → Int → Int → Int → Int → Int → gS → gA} {k199 : Int → Int → Int → gS → gA} (hk77 : ∀ (l7 l8 l9 l10 l11 l12 : Int) (s : gS), k77 l7 l8 l9 l10 l11 l12 s = some (z0, s0) → G M_M_along (QE g_S J z0 s0) (g_S, 0, 0) (J s) 77 [none, none, none, none, none, none, none, some (gi l7), some (gi l8), some (gi l9), some (gi l10), some (gi l11), some (gi l12), none, none, none, none, none, none] []) (hk199 : ∀ (l7 l10 l11 : Int) (s : gS), k199 l7 l10 l11 s = some (z0, s0) → G M_M_along (QE g_S J z0 s0) (g_S, 0, 0) (J s) 199 [none, none, none, none, none, none, none, some (gi l7), none, none, some (gi l10), some (gi l11), none, none, none, none, none, none, none] [])  {l7 l8 l9 l10 l11 l12 : Int} {s : gS} (h : M_along_77 k77 k199 l7 l8 l9 l10 l11 l12 s = some (z0, s0)) : G M_M_along (QE g_S J z0 s0) (g_S, 0, 0) (J s) 77 [none, none, none, none, none, none, none, some (gi l7), some (gi l8), some (gi l9), some (gi l10), some (gi l11), some (gi l12), none, none, none, none, none, none] [] := by
  unfold M_along_77 at h
  refine G_iload (g_da dt_M_along 39 rfl) rfl ?_
  refine G_iconst (g_da dt_M_along 40 rfl) ?_
  refine G_icmp_le (g_da dt_M_along 41 rfl) rfl rfl w_1 (fun hc13 => ?_) (fun hc13 => ?_)
  · have h := o_t hc13 h
    exact G_subK (hk199 _ _ _ _ h) ⟨rfl, ⟨rfl, ⟨rfl, trivial⟩⟩⟩
  · have h := o_f hc13 h
    refine G_iload (g_da dt_M_along 42 rfl) rfl ?_
    refine G_if_le (g_da dt_M_along 43 rfl) rfl rfl  (fun hc14 => ?_) (fun hc14 => ?_)
    · have h := o_t hc14 h
      exact G_subK (hk199 _ _ _ _ h) ⟨rfl, ⟨rfl, ⟨rfl, trivial⟩⟩⟩
    · have h := o_f hc14 h
      refine G_iload (g_da dt_M_along 44 rfl) rfl ?_
      refine G_iload (g_da dt_M_along 45 rfl) rfl ?_
      refine G_icmp_ge (g_da dt_M_along 46 rfl) rfl rfl rfl (fun hc15 => ?_) (fun hc15 => ?_)
      · have h := o_t hc15 h
        exact G_subK (hk199 _ _ _ _ h) ⟨rfl, ⟨rfl, ⟨rfl, trivial⟩⟩⟩
      · have h := o_f hc15 h
        refine G_iload (g_da dt_M_along 47 rfl) rfl ?_
        refine G_iload (g_da dt_M_along 48 rfl) rfl ?_
        refine G_iadd (g_da dt_M_along 49 rfl) ?_
        refine G_iconst (g_da dt_M_along 50 rfl) ?_
        refine G_ishr (g_da dt_M_along 51 rfl) ?_
        refine H_topi (fun v16 e17 => ?_)
        have h := o_l h v16 e17
        refine G_istore (lv' := [none, none, none, none, none, none, none, _, _, _, _, _, _, _, none, none, none, none, none]) (g_da dt_M_along 52 rfl) (Nat.le_of_ble_eq_true rfl) rfl rfl ?_
        refine G_iload (g_da dt_M_along 53 rfl) rfl ?_
        refine G_iload (g_da dt_M_along 54 rfl) rfl ?_
        refine G_iadd (g_da dt_M_along 55 rfl) ?_
        refine G_iconst (g_da dt_M_along 56 rfl) ?_
        refine G_ishr (g_da dt_M_along 57 rfl) ?_
        refine H_topi (fun v18 e19 => ?_)
        have h := o_l h v18 e19
        refine G_istore (lv' := [none, none, none, none, none, none, none, _, _, _, _, _, _, _, _, none, none, none, none]) (g_da dt_M_along 58 rfl) (Nat.le_of_ble_eq_true rfl) rfl rfl ?_
        refine G_iload (g_da dt_M_along 59 rfl) rfl ?_
        refine G_iload (g_da dt_M_along 60 rfl) rfl ?_
        refine G_iadd (g_da dt_M_along 61 rfl) ?_
        refine G_iconst (g_da dt_M_along 62 rfl) ?_
        refine G_ishr (g_da dt_M_along 63 rfl) ?_
        refine H_topi (fun v20 e21 => ?_)
        have h := o_l h v20 e21
        refine G_istore (lv' := [none, none, none, none, none, none, none, _, _, _, _, _, _, _, _, _, none, none, none]) (g_da dt_M_along 64 rfl) (Nat.le_of_ble_eq_true rfl) rfl rfl ?_
        refine G_iload (g_da dt_M_along 65 rfl) rfl ?_
        refine G_iload (g_da dt_M_along 66 rfl) rfl ?_
        refine G_iadd (g_da dt_M_along 67 rfl) ?_
        refine G_iconst (g_da dt_M_along 68 rfl) ?_
        refine G_ishr (g_da dt_M_along 69 rfl) ?_
        refine H_topi (fun v22 e23 => ?_)
        have h := o_l h v22 e23
        refine G_istore (lv' := [none, none, none, none, none, none, none, _, _, _, _, _, _, _, _, _, _, none, none]) (g_da dt_M_along 70 rfl) (Nat.le_of_ble_eq_true rfl) rfl rfl ?_
        refine G_iload (g_da dt_M_along 71 rfl) rfl ?_
        refine G_iload (g_da dt_M_along 72 rfl) rfl ?_
        refine G_iadd (g_da dt_M_along 73 rfl) ?_
        refine G_iconst (g_da dt_M_along 74 rfl) ?_
        refine G_ishr (g_da dt_M_along 75 rfl) ?_
        refine H_topi (fun v24 e25 => ?_)
        have h := o_l h v24 e25
        refine G_istore (lv' := [none, none, none, none, none, none, none, _, _, _, _, _, _, _, _, _, _, _, none]) (g_da dt_M_along 76 rfl) (Nat.le_of_ble_eq_true rfl) rfl rfl ?_
        refine G_iload (g_da dt_M_along 77 rfl) rfl ?_
        refine G_iload (g_da dt_M_along 78 rfl) rfl ?_
        refine G_iadd (g_da dt_M_along 79 rfl) ?_
        refine G_iconst (g_da dt_M_along 80 rfl) ?_
        refine G_ishr (g_da dt_M_along 81 rfl) ?_
        refine H_topi (fun v26 e27 => ?_)
        have h := o_l h v26 e27
        refine G_istore (lv' := [none, none, none, none, none, none, none, _, _, _, _, _, _, _, _, _, _, _, _]) (g_da dt_M_along 82 rfl) (Nat.le_of_ble_eq_true rfl) rfl rfl ?_
        refine G_iload (g_da dt_M_along 83 rfl) rfl ?_
        refine G_iconst (g_da dt_M_along 84 rfl) ?_
        refine G_idiv (g_da dt_M_along 85 rfl) (by rw [w_2]; decide) ?_
        refine H_topi (fun v29 e30 => ?_)
        have h := o_l h v29 e30
        refine G_istore (lv' := [none, none, none, none, none, none, none, _, _, _, _, _, _, _, _, _, _, _, _]) (g_da dt_M_along 86 rfl) (Nat.le_of_ble_eq_true rfl) rfl rfl ?_
        refine G_iload (g_da dt_M_along 87 rfl) rfl ?_
        refine G_iload (g_da dt_M_along 88 rfl) rfl ?_
        refine G_icmp_gt (g_da dt_M_along 89 rfl) rfl rfl rfl (fun hc31 => ?_) (fun hc31 => ?_)
        · have h := o_t hc31 h
          refine G_iload (g_da dt_M_along 97 rfl) rfl ?_
          refine G_iload (g_da dt_M_along 98 rfl) rfl ?_
          refine G_isub (g_da dt_M_along 99 rfl) ?_
          refine H_topi (fun v32 e33 => ?_)
          have h := o_l h v32 e33
          refine G_istore (lv' := [none, none, none, none, none, none, none, _, _, _, _, _, _, _, _, _, _, _, _]) (g_da dt_M_along 100 rfl) (Nat.le_of_ble_eq_true rfl) rfl rfl ?_
          refine G_iload (g_da dt_M_along 101 rfl) rfl ?_
          refine G_istore (lv' := [none, none, none, none, none, none, none, _, _, _, _, _, _, _, _, _, _, _, _]) (g_da dt_M_along 102 rfl) (Nat.le_of_ble_eq_true rfl) rfl rfl ?_
          refine G_iload (g_da dt_M_along 103 rfl) rfl ?_
          refine G_istore (lv' := [none, none, none, none, none, none, none, _, _, _, _, _, _, _, _, _, _, _, _]) (g_da dt_M_along 104 rfl) (Nat.le_of_ble_eq_true rfl) rfl rfl ?_
          refine G_iload (g_da dt_M_along 105 rfl) rfl ?_
          refine G_istore (lv' := [none, none, none, none, none, none, none, _, _, _, _, _, _, _, _, _, _, _, _]) (g_da dt_M_along 106 rfl) (Nat.le_of_ble_eq_true rfl) rfl rfl ?_
          exact G_subK (M_along_196_ok hJm hk77 h) ⟨rfl, ⟨rfl, ⟨rfl, ⟨rfl, ⟨rfl, ⟨rfl, trivial⟩⟩⟩⟩⟩⟩
        · have h := o_f hc31 h
          refine G_iload (g_da dt_M_along 90 rfl) rfl ?_
          refine G_istore (lv' := [none, none, none, none, none, none, none, _, _, _, _, _, _, _, _, _, _, _, _]) (g_da dt_M_along 91 rfl) (Nat.le_of_ble_eq_true rfl) rfl rfl ?_
          refine G_iload (g_da dt_M_along 92 rfl) rfl ?_
          refine G_istore (lv' := [none, none, none, none, none, none, none, _, _, _, _, _, _, _, _, _, _, _, _]) (g_da dt_M_along 93 rfl) (Nat.le_of_ble_eq_true rfl) rfl rfl ?_
          refine G_iload (g_da dt_M_along 94 rfl) rfl ?_
          refine G_istore (lv' := [none, none, none, none, none, none, none, _, _, _, _, _, _, _, _, _, _, _, _]) (g_da dt_M_along 95 rfl) (Nat.le_of_ble_eq_true rfl) rfl rfl ?_
          refine G_goto (g_da dt_M_along 96 rfl) rfl ?_
          exact G_subK (M_along_196_ok hJm hk77 h) ⟨rfl, ⟨rfl, ⟨rfl, ⟨rfl, ⟨rfl, ⟨rfl, trivial⟩⟩⟩⟩⟩⟩
set_option maxHeartbeats 4000000 in
set_option maxRecDepth 100000 in
theorem M_along_77L_ok {J : gS → gS} (hJm : g_jm J) {z0 : Int} {s0 : gS} {k199 : Int → Int → Int → gS → gA} (hk199 : ∀ (l7 l10 l11 : Int) (s : gS), k199 l7 l10 l11 s = some (z0, s0) → G M_M_along (QE g_S J z0 s0) (g_S, 0, 0) (J s) 199 [none, none, none, none, none, none, none, some (gi l7), none, none, some (gi l10), some (gi l11), none, none, none, none, none, none, none] []) : ∀ (n : Nat) {l7 l8 l9 l10 l11 l12 : Int} {s : gS}, M_along_77L k199 n l7 l8 l9 l10 l11 l12 s = some (z0, s0) → G M_M_along (QE g_S J z0 s0) (g_S, 0, 0) (J s) 77 [none, none, none, none, none, none, none, some (gi l7), some (gi l8), some (gi l9), some (gi l10), some (gi l11), some (gi l12), none, none, none, none, none, none] [] := by
  intro n
  induction n with
  | zero => intro _ _ _ _ _ _ _ h; cases h
  | succ n ih => intro _ _ _ _ _ _ _ h; exact M_along_77_ok hJm (fun _ _ _ _ _ _ _ h => ih h) hk199 h
set_option maxHeartbeats 4000000 in
set_option maxRecDepth 100000 in
theorem M_along_199_ok {J : gS → gS} (hJm : g_jm J) {z0 : Int} {s0 : gS}  {l7 l10 l11 : Int} {s : gS} (h : M_along_199 l7 l10 l11 s = some (z0, s0)) : G M_M_along (QE g_S J z0 s0) (g_S, 0, 0) (J s) 199 [none, none, none, none, none, none, none, some (gi l7), none, none, some (gi l10), some (gi l11), none, none, none, none, none, none, none] [] := by
  unfold M_along_199 at h
  refine G_iload (g_da dt_M_along 108 rfl) rfl ?_
  refine G_if_ne (g_da dt_M_along 109 rfl) rfl rfl  (fun hc34 => ?_) (fun hc34 => ?_)
  · have h := o_f hc34 h
    refine G_iload (g_da dt_M_along 112 rfl) rfl ?_
    exact G_ireturn (g_da dt_M_along 113 rfl) rfl rfl rfl (g_nz rfl) (q_e h)
  · have h := o_t hc34 h
    refine G_iload (g_da dt_M_along 110 rfl) rfl ?_
    refine G_goto (g_da dt_M_along 111 rfl) rfl ?_
    exact G_ireturn (g_da dt_M_along 113 rfl) rfl rfl rfl (g_nz rfl) (q_e h)
set_option maxHeartbeats 4000000 in
set_option maxRecDepth 100000 in
theorem M_along_67_ok {J : gS → gS} (hJm : g_jm J) {z0 : Int} {s0 : gS}  {l1 l7 l8 l9 t0 : Int} {s : gS} (h : M_along_67 l1 l7 l8 l9 t0 s = some (z0, s0)) : G M_M_along (QE g_S J z0 s0) (g_S, 0, 0) (J s) 67 [none, some (gi l1), none, none, none, none, none, some (gi l7), some (gi l8), some (gi l9), none, none, none, none, none, none, none, none, none] [gl t0] := by
  unfold M_along_67 at h
  refine G_l2i (g_da dt_M_along 33 rfl) ?_
  refine G_istore (lv' := [none, _, none, none, none, none, none, _, _, _, _, none, none, none, none, none, none, none, none]) (g_da dt_M_along 34 rfl) (Nat.le_of_ble_eq_true rfl) rfl rfl ?_
  refine G_iload_n (g_da dt_M_along 35 rfl) rfl rfl ?_
  refine G_istore (lv' := [none, _, none, none, none, none, none, _, _, _, _, _, none, none, none, none, none, none, none]) (g_da dt_M_along 36 rfl) (Nat.le_of_ble_eq_true rfl) rfl rfl ?_
  refine G_bipush (g_da dt_M_along 37 rfl) b8w_8 ?_
  refine G_istore (lv' := [none, _, none, none, none, none, none, _, _, _, _, _, _, none, none, none, none, none, none]) (g_da dt_M_along 38 rfl) (Nat.le_of_ble_eq_true rfl) rfl rfl ?_
  exact G_subK (M_along_77L_ok hJm (fun _ _ _ _ h => M_along_199_ok hJm h) gFu h) ⟨rfl, ⟨rfl, ⟨rfl, ⟨rfl, ⟨rfl, ⟨rfl, trivial⟩⟩⟩⟩⟩⟩
set_option maxHeartbeats 4000000 in
set_option maxRecDepth 100000 in
theorem M_along_44_ok {J : gS → gS} (hJm : g_jm J) {z0 : Int} {s0 : gS}  {l1 l5 l6 l7 l8 t0 : Int} {s : gS} (h : M_along_44 l1 l5 l6 l7 l8 t0 s = some (z0, s0)) : G M_M_along (QE g_S J z0 s0) (g_S, 0, 0) (J s) 44 [some (.ref 49), some (gi l1), none, none, none, some (gi l5), some (gi l6), some (gi l7), some (gi l8), none, none, none, none, none, none, none, none, none, none] [gl t0] := by
  unfold M_along_44 at h
  refine G_l2i (g_da dt_M_along 22 rfl) ?_
  refine G_istore (lv' := [_, _, none, none, none, _, _, _, _, _, none, none, none, none, none, none, none, none, none]) (g_da dt_M_along 23 rfl) (Nat.le_of_ble_eq_true rfl) rfl rfl ?_
  refine G_iload (g_da dt_M_along 24 rfl) rfl ?_
  refine G_if_eq (g_da dt_M_along 25 rfl) rfl rfl  (fun hc9 => ?_) (fun hc9 => ?_)
  · have h := o_t hc9 h
    refine G_aload_n (g_da dt_M_along 30 rfl) rfl rfl ?_
    refine G_iload (g_da dt_M_along 31 rfl) rfl ?_
    obtain ⟨r10, s11, hc12, h⟩ := o_b h
    refine H_cVF (M_yOf_ok hJm hc12) (g_da dt_M_along 32 rfl) lk_15_197 mv_M_yOf rfl sh_49 rfl rfl rfl rfl rfl rfl ?_
    exact G_subK (M_along_67_ok hJm h) ⟨rfl, ⟨rfl, ⟨rfl, ⟨rfl, trivial⟩⟩⟩⟩
  · have h := o_f hc9 h
    refine G_aload_n (g_da dt_M_along 26 rfl) rfl rfl ?_
    refine G_iload (g_da dt_M_along 27 rfl) rfl ?_
    obtain ⟨r35, s36, hc37, h⟩ := o_b h
    refine H_cVF (M_xOf_ok hJm hc37) (g_da dt_M_along 28 rfl) lk_15_188 mv_M_xOf rfl sh_49 rfl rfl rfl rfl rfl rfl ?_
    refine G_goto (g_da dt_M_along 29 rfl) rfl ?_
    exact G_subK (M_along_67_ok hJm h) ⟨rfl, ⟨rfl, ⟨rfl, ⟨rfl, trivial⟩⟩⟩⟩
set_option maxHeartbeats 4000000 in
set_option maxRecDepth 100000 in
theorem M_along_21_ok {J : gS → gS} (hJm : g_jm J) {z0 : Int} {s0 : gS}  {l1 l4 l5 l6 l7 t0 : Int} {s : gS} (h : M_along_21 l1 l4 l5 l6 l7 t0 s = some (z0, s0)) : G M_M_along (QE g_S J z0 s0) (g_S, 0, 0) (J s) 21 [some (.ref 49), some (gi l1), none, none, some (gi l4), some (gi l5), some (gi l6), some (gi l7), none, none, none, none, none, none, none, none, none, none, none] [gl t0] := by
  unfold M_along_21 at h
  refine G_l2i (g_da dt_M_along 11 rfl) ?_
  refine G_istore (lv' := [_, _, none, none, _, _, _, _, _, none, none, none, none, none, none, none, none, none, none]) (g_da dt_M_along 12 rfl) (Nat.le_of_ble_eq_true rfl) rfl rfl ?_
  refine G_iload (g_da dt_M_along 13 rfl) rfl ?_
  refine G_if_eq (g_da dt_M_along 14 rfl) rfl rfl  (fun hc5 => ?_) (fun hc5 => ?_)
  · have h := o_t hc5 h
    refine G_aload_n (g_da dt_M_along 19 rfl) rfl rfl ?_
    refine G_iload (g_da dt_M_along 20 rfl) rfl ?_
    obtain ⟨r6, s7, hc8, h⟩ := o_b h
    refine H_cVF (M_yOf_ok hJm hc8) (g_da dt_M_along 21 rfl) lk_15_197 mv_M_yOf rfl sh_49 rfl rfl rfl rfl rfl rfl ?_
    exact G_subK (M_along_44_ok hJm h) ⟨rfl, ⟨rfl, ⟨rfl, ⟨rfl, ⟨rfl, ⟨rfl, trivial⟩⟩⟩⟩⟩⟩
  · have h := o_f hc5 h
    refine G_aload_n (g_da dt_M_along 15 rfl) rfl rfl ?_
    refine G_iload (g_da dt_M_along 16 rfl) rfl ?_
    obtain ⟨r38, s39, hc40, h⟩ := o_b h
    refine H_cVF (M_xOf_ok hJm hc40) (g_da dt_M_along 17 rfl) lk_15_188 mv_M_xOf rfl sh_49 rfl rfl rfl rfl rfl rfl ?_
    refine G_goto (g_da dt_M_along 18 rfl) rfl ?_
    exact G_subK (M_along_44_ok hJm h) ⟨rfl, ⟨rfl, ⟨rfl, ⟨rfl, ⟨rfl, ⟨rfl, trivial⟩⟩⟩⟩⟩⟩
set_option maxHeartbeats 4000000 in
set_option maxRecDepth 100000 in
theorem M_along_ok {J : gS → gS} (hJm : g_jm J) {z0 : Int} {s0 : gS} {a1 a2 a3 a4 a5 a6 : Int} {s : gS} (h : M_along a1 a2 a3 a4 a5 a6 s = some (z0, s0)) : Ct M_M_along g_S [.ref 49, gi a1, gi a2, gi a3, gi a4, gi a5, gi a6] (J s) (QE g_S J z0 s0) := by
  refine Ct_of [some (.ref 49), some (gi a1), some (gi a2), some (gi a3), some (gi a4), some (gi a5), some (gi a6), none, none, none, none, none, none, none, none, none, none, none, none] (plainFor_of_name (by decide)) rfl (Nat.le_of_ble_eq_true rfl) rfl (by decide) q_rE ?_
  unfold M_along at h
  refine G_iload_n (g_da dt_M_along 0 rfl) rfl rfl ?_
  refine G_istore (lv' := [_, _, _, _, _, _, _, _, none, none, none, none, none, none, none, none, none, none, none]) (g_da dt_M_along 1 rfl) (Nat.le_of_ble_eq_true rfl) rfl rfl ?_
  refine G_iload (g_da dt_M_along 2 rfl) rfl ?_
  refine G_if_eq (g_da dt_M_along 3 rfl) rfl rfl  (fun hc1 => ?_) (fun hc1 => ?_)
  · have h := o_t hc1 h
    refine G_aload_n (g_da dt_M_along 8 rfl) rfl rfl ?_
    refine G_iload_n (g_da dt_M_along 9 rfl) rfl rfl ?_
    obtain ⟨r2, s3, hc4, h⟩ := o_b h
    refine H_cVF (M_yOf_ok hJm hc4) (g_da dt_M_along 10 rfl) lk_15_197 mv_M_yOf rfl sh_49 rfl rfl rfl rfl rfl rfl ?_
    exact G_subK (M_along_21_ok hJm h) ⟨rfl, ⟨rfl, ⟨rfl, ⟨rfl, ⟨rfl, ⟨rfl, trivial⟩⟩⟩⟩⟩⟩
  · have h := o_f hc1 h
    refine G_aload_n (g_da dt_M_along 4 rfl) rfl rfl ?_
    refine G_iload_n (g_da dt_M_along 5 rfl) rfl rfl ?_
    obtain ⟨r41, s42, hc43, h⟩ := o_b h
    refine H_cVF (M_xOf_ok hJm hc43) (g_da dt_M_along 6 rfl) lk_15_188 mv_M_xOf rfl sh_49 rfl rfl rfl rfl rfl rfl ?_
    refine G_goto (g_da dt_M_along 7 rfl) rfl ?_
    exact G_subK (M_along_21_ok hJm h) ⟨rfl, ⟨rfl, ⟨rfl, ⟨rfl, ⟨rfl, ⟨rfl, trivial⟩⟩⟩⟩⟩⟩
set_option maxHeartbeats 4000000 in
set_option maxRecDepth 100000 in
theorem M_isLikeAbove_53_ok {J : gS → gS} (hJm : g_jm J) {z0 : Int} {s0 : gS} {k5 : Int → Int → Int → Int → gS → gA} (hk5 : ∀ (l1 l2 l3 l4 : Int) (s : gS), k5 l1 l2 l3 l4 s = some (z0, s0) → G M_M_isLikeAbove (QE g_S J z0 s0) (g_S, 0, 0) (J s) 5 [some (.ref 49), some (gi l1), some (gi l2), some (gi l3), some (gi l4)] [])  {l1 l2 l4 t0 : Int} {s : gS} (h : M_isLikeAbove_53 k5 l1 l2 l4 t0 s = some (z0, s0)) : G M_M_isLikeAbove (QE g_S J z0 s0) (g_S, 0, 0) (J s) 53 [some (.ref 49), some (gi l1), some (gi l2), none, some (gi l4)] [gi t0] := by
  unfold M_isLikeAbove_53 at h
  refine G_istore_n (lv' := [_, _, _, _, _]) (g_da dt_M_isLikeAbove 31 rfl) rfl (Nat.le_of_ble_eq_true rfl) rfl rfl ?_
  refine G_iinc (lv' := [_, _, _, _, _]) (g_da dt_M_isLikeAbove 32 rfl) rfl (Nat.le_of_ble_eq_true rfl) rfl rfl ?_
  refine G_goto (g_da dt_M_isLikeAbove 33 rfl) rfl ?_
  exact G_subK (hk5 _ _ _ _ _ h) ⟨rfl, ⟨rfl, ⟨rfl, ⟨rfl, ⟨rfl, trivial⟩⟩⟩⟩⟩
set_option maxHeartbeats 4000000 in
set_option maxRecDepth 100000 in
theorem M_isLikeAbove_52_ok {J : gS → gS} (hJm : g_jm J) {z0 : Int} {s0 : gS} {k5 : Int → Int → Int → Int → gS → gA} (hk5 : ∀ (l1 l2 l3 l4 : Int) (s : gS), k5 l1 l2 l3 l4 s = some (z0, s0) → G M_M_isLikeAbove (QE g_S J z0 s0) (g_S, 0, 0) (J s) 5 [some (.ref 49), some (gi l1), some (gi l2), some (gi l3), some (gi l4)] [])  {l1 l2 l4 : Int} {s : gS} (h : M_isLikeAbove_52 k5 l1 l2 l4 s = some (z0, s0)) : G M_M_isLikeAbove (QE g_S J z0 s0) (g_S, 0, 0) (J s) 52 [some (.ref 49), some (gi l1), some (gi l2), none, some (gi l4)] [] := by
  unfold M_isLikeAbove_52 at h
  refine G_iconst (g_da dt_M_isLikeAbove 30 rfl) ?_
  exact G_subK (M_isLikeAbove_53_ok hJm hk5 h) ⟨rfl, ⟨rfl, ⟨rfl, ⟨rfl, trivial⟩⟩⟩⟩
set_option maxHeartbeats 4000000 in
set_option maxRecDepth 100000 in
theorem M_isLikeAbove_45_ok {J : gS → gS} (hJm : g_jm J) {z0 : Int} {s0 : gS} {k5 : Int → Int → Int → Int → gS → gA} (hk5 : ∀ (l1 l2 l3 l4 : Int) (s : gS), k5 l1 l2 l3 l4 s = some (z0, s0) → G M_M_isLikeAbove (QE g_S J z0 s0) (g_S, 0, 0) (J s) 5 [some (.ref 49), some (gi l1), some (gi l2), some (gi l3), some (gi l4)] [])  {l1 l2 l4 t0 t1 : Int} {s : gS} (h : M_isLikeAbove_45 k5 l1 l2 l4 t0 t1 s = some (z0, s0)) : G M_M_isLikeAbove (QE g_S J z0 s0) (g_S, 0, 0) (J s) 45 [some (.ref 49), some (gi l1), some (gi l2), none, some (gi l4)] [gi t1, gi t0] := by
  unfold M_isLikeAbove_45 at h
  refine G_icmp_ne (g_da dt_M_isLikeAbove 27 rfl) rfl rfl rfl (fun hc12 => ?_) (fun hc12 => ?_)
  · have h := o_f hc12 h
    exact G_subK (M_isLikeAbove_52_ok hJm hk5 h) ⟨rfl, ⟨rfl, ⟨rfl, ⟨rfl, trivial⟩⟩⟩⟩
  · have h := o_t hc12 h
    refine G_iconst (g_da dt_M_isLikeAbove 28 rfl) ?_
    refine G_goto (g_da dt_M_isLikeAbove 29 rfl) rfl ?_
    exact G_subK (M_isLikeAbove_53_ok hJm hk5 h) ⟨rfl, ⟨rfl, ⟨rfl, ⟨rfl, trivial⟩⟩⟩⟩
set_option maxHeartbeats 4000000 in
set_option maxRecDepth 100000 in
theorem M_isLikeAbove_5_ok {J : gS → gS} (hJm : g_jm J) {z0 : Int} {s0 : gS} {k5 : Int → Int → Int → Int → gS → gA} (hk5 : ∀ (l1 l2 l3 l4 : Int) (s : gS), k5 l1 l2 l3 l4 s = some (z0, s0) → G M_M_isLikeAbove (QE g_S J z0 s0) (g_S, 0, 0) (J s) 5 [some (.ref 49), some (gi l1), some (gi l2), some (gi l3), some (gi l4)] [])  {l1 l2 l3 l4 : Int} {s : gS} (h : M_isLikeAbove_5 k5 l1 l2 l3 l4 s = some (z0, s0)) : G M_M_isLikeAbove (QE g_S J z0 s0) (g_S, 0, 0) (J s) 5 [some (.ref 49), some (gi l1), some (gi l2), some (gi l3), some (gi l4)] [] := by
  unfold M_isLikeAbove_5 at h
  refine G_iload (g_da dt_M_isLikeAbove 4 rfl) rfl ?_
  refine G_bipush (g_da dt_M_isLikeAbove 5 rfl) b8w_8 ?_
  refine G_icmp_ge (g_da dt_M_isLikeAbove 6 rfl) rfl rfl w_8 (fun hc1 => ?_) (fun hc1 => ?_)
  · have h := o_t hc1 h
    refine G_iload_n (g_da dt_M_isLikeAbove 34 rfl) rfl rfl ?_
    obtain ⟨hz2, h⟩ := o_g h
    exact G_ireturn (g_da dt_M_isLikeAbove 35 rfl) rfl (g_bool hz2).1 rfl (g_nz rfl) (q_e h)
  · have h := o_f hc1 h
    refine G_iload_n (g_da dt_M_isLikeAbove 7 rfl) rfl rfl ?_
    refine G_if_eq (g_da dt_M_isLikeAbove 8 rfl) rfl rfl  (fun hc3 => ?_) (fun hc3 => ?_)
    · have h := o_t hc3 h
      exact G_subK (M_isLikeAbove_52_ok hJm hk5 h) ⟨rfl, ⟨rfl, ⟨rfl, ⟨rfl, trivial⟩⟩⟩⟩
    · have h := o_f hc3 h
      refine G_aload_n (g_da dt_M_isLikeAbove 9 rfl) rfl rfl ?_
      refine G_iload_n (g_da dt_M_isLikeAbove 10 rfl) rfl rfl ?_
      refine G_iload_n (g_da dt_M_isLikeAbove 11 rfl) rfl rfl ?_
      refine G_iload (g_da dt_M_isLikeAbove 12 rfl) rfl ?_
      obtain ⟨r4, s5, hc6, h⟩ := o_b h
      refine H_cVE (M_byteOf_ok hJm hc6) (g_da dt_M_isLikeAbove 13 rfl) lk_15_305 mv_M_byteOf rfl sh_49 rfl rfl rfl rfl rfl rfl ?_
      refine G_iload_n (g_da dt_M_isLikeAbove 14 rfl) rfl rfl ?_
      refine G_bipush (g_da dt_M_isLikeAbove 15 rfl) b8w_8 ?_
      refine G_irem (g_da dt_M_isLikeAbove 16 rfl) (by rw [w_8]; decide) ?_
      refine G_if_ne (g_da dt_M_isLikeAbove 17 rfl) rfl rfl  (fun hc8 => ?_) (fun hc8 => ?_)
      · have h := o_f hc8 h
        refine G_aload_n (g_da dt_M_isLikeAbove 20 rfl) rfl rfl ?_
        refine G_iload_n (g_da dt_M_isLikeAbove 21 rfl) rfl rfl ?_
        refine G_iload_n (g_da dt_M_isLikeAbove 22 rfl) rfl rfl ?_
        refine G_iconst (g_da dt_M_isLikeAbove 23 rfl) ?_
        refine G_isub (g_da dt_M_isLikeAbove 24 rfl) ?_
        refine G_iload (g_da dt_M_isLikeAbove 25 rfl) rfl ?_
        obtain ⟨r9, s10, hc11, h⟩ := o_b h
        refine H_cVE (M_byteOf_ok hJm hc11) (g_da dt_M_isLikeAbove 26 rfl) lk_15_305 mv_M_byteOf rfl sh_49 rfl rfl rfl rfl rfl rfl ?_
        exact G_subK (M_isLikeAbove_45_ok hJm hk5 h) ⟨rfl, ⟨rfl, ⟨rfl, ⟨rfl, trivial⟩⟩⟩⟩
      · have h := o_t hc8 h
        refine G_iconst (g_da dt_M_isLikeAbove 18 rfl) ?_
        refine G_goto (g_da dt_M_isLikeAbove 19 rfl) rfl ?_
        exact G_subK (M_isLikeAbove_45_ok hJm hk5 h) ⟨rfl, ⟨rfl, ⟨rfl, ⟨rfl, trivial⟩⟩⟩⟩
set_option maxHeartbeats 4000000 in
set_option maxRecDepth 100000 in
theorem M_isLikeAbove_5L_ok {J : gS → gS} (hJm : g_jm J) {z0 : Int} {s0 : gS} : ∀ (n : Nat) {l1 l2 l3 l4 : Int} {s : gS}, M_isLikeAbove_5L n l1 l2 l3 l4 s = some (z0, s0) → G M_M_isLikeAbove (QE g_S J z0 s0) (g_S, 0, 0) (J s) 5 [some (.ref 49), some (gi l1), some (gi l2), some (gi l3), some (gi l4)] [] := by
  intro n
  induction n with
  | zero => intro _ _ _ _ _ h; cases h
  | succ n ih => intro _ _ _ _ _ h; exact M_isLikeAbove_5_ok hJm (fun _ _ _ _ _ h => ih h) h
set_option maxHeartbeats 4000000 in
set_option maxRecDepth 100000 in
theorem M_isLikeAbove_ok {J : gS → gS} (hJm : g_jm J) {z0 : Int} {s0 : gS} {a1 a2 : Int} {s : gS} (h : M_isLikeAbove a1 a2 s = some (z0, s0)) : Ct M_M_isLikeAbove g_S [.ref 49, gi a1, gi a2] (J s) (QE g_S J z0 s0) := by
  refine Ct_of [some (.ref 49), some (gi a1), some (gi a2), none, none] (plainFor_of_name (by decide)) rfl (Nat.le_of_ble_eq_true rfl) rfl (by decide) q_rE ?_
  unfold M_isLikeAbove at h
  refine G_iconst (g_da dt_M_isLikeAbove 0 rfl) ?_
  refine G_istore_n (lv' := [_, _, _, _, none]) (g_da dt_M_isLikeAbove 1 rfl) rfl (Nat.le_of_ble_eq_true rfl) rfl rfl ?_
  refine G_iconst (g_da dt_M_isLikeAbove 2 rfl) ?_
  refine G_istore (lv' := [_, _, _, _, _]) (g_da dt_M_isLikeAbove 3 rfl) (Nat.le_of_ble_eq_true rfl) rfl rfl ?_
  exact G_subK (M_isLikeAbove_5L_ok hJm gFu h) ⟨rfl, ⟨rfl, ⟨rfl, ⟨rfl, ⟨rfl, trivial⟩⟩⟩⟩⟩
set_option maxHeartbeats 4000000 in
set_option maxRecDepth 100000 in
theorem M_out_ok {J : gS → gS} (hJm : g_jm J) {z0 : Int} {s0 : gS} {a1 : Int} {s : gS} (h : M_out a1 s = some (z0, s0)) : Ct M_M_out g_S [.ref 49, gi a1] (J s) (QG g_S J z0 s0) := by
  refine Ct_of [some (.ref 49), some (gi a1)] (plainFor_of_name (by decide)) rfl (Nat.le_of_ble_eq_true rfl) rfl (by decide) q_rG ?_
  unfold M_out at h
  refine G_aload_n (g_da dt_M_out 0 rfl) rfl rfl ?_
  refine G_getR (g_da dt_M_out 1 rfl) sh_49 fl_15_59 rfl ?_
  refine G_aload_n (g_da dt_M_out 2 rfl) rfl rfl ?_
  refine H_getI (g_da dt_M_out 3 rfl) sh_49 fl_15_309 rfl (hJm 49 rfl) ?_
  refine G_iload_n (g_da dt_M_out 4 rfl) rfl rfl ?_
  obtain ⟨hb1, h⟩ := o_g h
  refine H_iastore (g_da dt_M_out 5 rfl) sh_66 (hJm 66 rfl) rfl hb1 rfl (fun s2 e3 => ?_)
  have h := o_l h s2 e3
  refine G_aload_n (g_da dt_M_out 6 rfl) rfl rfl ?_
  refine G_dup (g_da dt_M_out 7 rfl) rfl ?_
  refine H_getI (g_da dt_M_out 8 rfl) sh_49 fl_15_309 rfl (hJm 49 rfl) ?_
  refine G_iconst (g_da dt_M_out 9 rfl) ?_
  refine G_iadd (g_da dt_M_out 10 rfl) ?_
  refine H_putI (g_da dt_M_out 11 rfl) sh_49 fp_15_309 rfl (hJm 49 rfl) (fun s4 e5 => ?_)
  have h := o_l h s4 e5
  exact G_return (g_da dt_M_out 12 rfl) rfl rfl (g_nz rfl) (q_g h)
set_option maxHeartbeats 4000000 in
set_option maxRecDepth 100000 in
theorem M_line_47_ok {J : gS → gS} (hJm : g_jm J) {z0 : Int} {s0 : gS} {k47 : Int → Int → Int → Int → gS → gA} {k76 : Int → Int → Int → Int → gS → gA} (hk47 : ∀ (l1 l2 l3 l4 : Int) (s : gS), k47 l1 l2 l3 l4 s = some (z0, s0) → G M_M_line (QG g_S J z0 s0) (g_S, 0, 0) (J s) 47 [some (.ref 49), some (gi l1), some (gi l2), some (gi l3), some (gi l4), none] []) (hk76 : ∀ (l1 l2 l3 l4 : Int) (s : gS), k76 l1 l2 l3 l4 s = some (z0, s0) → G M_M_line (QG g_S J z0 s0) (g_S, 0, 0) (J s) 76 [some (.ref 49), some (gi l1), some (gi l2), some (gi l3), some (gi l4), none] [])  {l1 l2 l3 l4 : Int} {s : gS} (h : M_line_47 k47 k76 l1 l2 l3 l4 s = some (z0, s0)) : G M_M_line (QG g_S J z0 s0) (g_S, 0, 0) (J s) 47 [some (.ref 49), some (gi l1), some (gi l2), some (gi l3), some (gi l4), none] [] := by
  unfold M_line_47 at h
  refine G_iload_n (g_da dt_M_line 27 rfl) rfl rfl ?_
  refine G_iload (g_da dt_M_line 28 rfl) rfl ?_
  refine G_iadd (g_da dt_M_line 29 rfl) ?_
  refine G_bipush (g_da dt_M_line 30 rfl) b8w_8 ?_
  refine G_icmp_ge (g_da dt_M_line 31 rfl) rfl rfl w_8 (fun hc6 => ?_) (fun hc6 => ?_)
  · have h := o_t hc6 h
    exact G_subK (hk76 _ _ _ _ _ h) ⟨rfl, ⟨rfl, ⟨rfl, ⟨rfl, ⟨rfl, trivial⟩⟩⟩⟩⟩
  · have h := o_f hc6 h
    refine G_aload_n (g_da dt_M_line 32 rfl) rfl rfl ?_
    refine G_iload_n (g_da dt_M_line 33 rfl) rfl rfl ?_
    refine G_iload_n (g_da dt_M_line 34 rfl) rfl rfl ?_
    refine G_iload_n (g_da dt_M_line 35 rfl) rfl rfl ?_
    refine G_iload (g_da dt_M_line 36 rfl) rfl ?_
    refine G_iadd (g_da dt_M_line 37 rfl) ?_
    obtain ⟨r7, s8, hc9, h⟩ := o_b h
    refine H_cVE (M_alike_ok hJm hc9) (g_da dt_M_line 38 rfl) lk_15_312 mv_M_alike rfl sh_49 rfl rfl rfl rfl rfl rfl ?_
    refine G_iconst (g_da dt_M_line 39 rfl) ?_
    refine G_icmp_ge (g_da dt_M_line 40 rfl) rfl rfl w_2 (fun hc10 => ?_) (fun hc10 => ?_)
    · have h := o_t hc10 h
      exact G_subK (hk76 _ _ _ _ _ h) ⟨rfl, ⟨rfl, ⟨rfl, ⟨rfl, ⟨rfl, trivial⟩⟩⟩⟩⟩
    · have h := o_f hc10 h
      refine G_iinc (lv' := [_, _, _, _, _, none]) (g_da dt_M_line 41 rfl) rfl (Nat.le_of_ble_eq_true rfl) rfl rfl ?_
      refine G_goto (g_da dt_M_line 42 rfl) rfl ?_
      exact G_subK (hk47 _ _ _ _ _ h) ⟨rfl, ⟨rfl, ⟨rfl, ⟨rfl, ⟨rfl, trivial⟩⟩⟩⟩⟩
set_option maxHeartbeats 4000000 in
set_option maxRecDepth 100000 in
theorem M_line_47L_ok {J : gS → gS} (hJm : g_jm J) {z0 : Int} {s0 : gS} {k76 : Int → Int → Int → Int → gS → gA} (hk76 : ∀ (l1 l2 l3 l4 : Int) (s : gS), k76 l1 l2 l3 l4 s = some (z0, s0) → G M_M_line (QG g_S J z0 s0) (g_S, 0, 0) (J s) 76 [some (.ref 49), some (gi l1), some (gi l2), some (gi l3), some (gi l4), none] []) : ∀ (n : Nat) {l1 l2 l3 l4 : Int} {s : gS}, M_line_47L k76 n l1 l2 l3 l4 s = some (z0, s0) → G M_M_line (QG g_S J z0 s0) (g_S, 0, 0) (J s) 47 [some (.ref 49), some (gi l1), some (gi l2), some (gi l3), some (gi l4), none] [] := by
  intro n
  induction n with
  | zero => intro _ _ _ _ _ h; cases h
  | succ n ih => intro _ _ _ _ _ h; exact M_line_47_ok hJm (fun _ _ _ _ _ h => ih h) hk76 h
set_option maxHeartbeats 4000000 in
set_option maxRecDepth 100000 in
theorem M_line_85_ok {J : gS → gS} (hJm : g_jm J) {z0 : Int} {s0 : gS} {k85 : Int → Int → Int → Int → Int → gS → gA} {k112 : Int → Int → Int → Int → gS → gA} (hk85 : ∀ (l1 l2 l3 l4 l5 : Int) (s : gS), k85 l1 l2 l3 l4 l5 s = some (z0, s0) → G M_M_line (QG g_S J z0 s0) (g_S, 0, 0) (J s) 85 [some (.ref 49), some (gi l1), some (gi l2), some (gi l3), some (gi l4), some (gi l5)] []) (hk112 : ∀ (l1 l2 l3 l4 : Int) (s : gS), k112 l1 l2 l3 l4 s = some (z0, s0) → G M_M_line (QG g_S J z0 s0) (g_S, 0, 0) (J s) 112 [some (.ref 49), some (gi l1), some (gi l2), some (gi l3), some (gi l4), none] [])  {l1 l2 l3 l4 l5 : Int} {s : gS} (h : M_line_85 k85 k112 l1 l2 l3 l4 l5 s = some (z0, s0)) : G M_M_line (QG g_S J z0 s0) (g_S, 0, 0) (J s) 85 [some (.ref 49), some (gi l1), some (gi l2), some (gi l3), some (gi l4), some (gi l5)] [] := by
  unfold M_line_85 at h
  refine G_iload (g_da dt_M_line 48 rfl) rfl ?_
  refine G_iload (g_da dt_M_line 49 rfl) rfl ?_
  refine G_icmp_ge (g_da dt_M_line 50 rfl) rfl rfl rfl (fun hc14 => ?_) (fun hc14 => ?_)
  · have h := o_t hc14 h
    exact G_subK (hk112 _ _ _ _ _ h) ⟨rfl, ⟨rfl, ⟨rfl, ⟨rfl, ⟨rfl, trivial⟩⟩⟩⟩⟩
  · have h := o_f hc14 h
    refine G_aload_n (g_da dt_M_line 51 rfl) rfl rfl ?_
    refine G_aload_n (g_da dt_M_line 52 rfl) rfl rfl ?_
    refine G_iload_n (g_da dt_M_line 53 rfl) rfl rfl ?_
    refine G_iload_n (g_da dt_M_line 54 rfl) rfl rfl ?_
    refine G_iload_n (g_da dt_M_line 55 rfl) rfl rfl ?_
    refine G_iload (g_da dt_M_line 56 rfl) rfl ?_
    refine G_iadd (g_da dt_M_line 57 rfl) ?_
    obtain ⟨r15, s16, hc17, h⟩ := o_b h
    refine H_cVE (M_byteOf_ok hJm hc17) (g_da dt_M_line 58 rfl) lk_15_305 mv_M_byteOf rfl sh_49 rfl rfl rfl rfl rfl rfl ?_
    obtain ⟨r18, s19, hc20, h⟩ := o_b h
    refine H_cVG (M_out_ok hJm hc20) (g_da dt_M_line 59 rfl) lk_15_315 mv_M_out rfl sh_49 rfl rfl rfl rfl rfl rfl ?_
    refine G_iinc (lv' := [_, _, _, _, _, _]) (g_da dt_M_line 60 rfl) rfl (Nat.le_of_ble_eq_true rfl) rfl rfl ?_
    refine G_goto (g_da dt_M_line 61 rfl) rfl ?_
    exact G_subK (hk85 _ _ _ _ _ _ h) ⟨rfl, ⟨rfl, ⟨rfl, ⟨rfl, ⟨rfl, ⟨rfl, trivial⟩⟩⟩⟩⟩⟩
set_option maxHeartbeats 4000000 in
set_option maxRecDepth 100000 in
theorem M_line_85L_ok {J : gS → gS} (hJm : g_jm J) {z0 : Int} {s0 : gS} {k112 : Int → Int → Int → Int → gS → gA} (hk112 : ∀ (l1 l2 l3 l4 : Int) (s : gS), k112 l1 l2 l3 l4 s = some (z0, s0) → G M_M_line (QG g_S J z0 s0) (g_S, 0, 0) (J s) 112 [some (.ref 49), some (gi l1), some (gi l2), some (gi l3), some (gi l4), none] []) : ∀ (n : Nat) {l1 l2 l3 l4 l5 : Int} {s : gS}, M_line_85L k112 n l1 l2 l3 l4 l5 s = some (z0, s0) → G M_M_line (QG g_S J z0 s0) (g_S, 0, 0) (J s) 85 [some (.ref 49), some (gi l1), some (gi l2), some (gi l3), some (gi l4), some (gi l5)] [] := by
  intro n
  induction n with
  | zero => intro _ _ _ _ _ _ h; cases h
  | succ n ih => intro _ _ _ _ _ _ h; exact M_line_85_ok hJm (fun _ _ _ _ _ _ h => ih h) hk112 h
set_option maxHeartbeats 4000000 in
set_option maxRecDepth 100000 in
theorem M_line_112_ok {J : gS → gS} (hJm : g_jm J) {z0 : Int} {s0 : gS} {k2 : Int → Int → Int → gS → gA} (hk2 : ∀ (l1 l2 l3 : Int) (s : gS), k2 l1 l2 l3 s = some (z0, s0) → G M_M_line (QG g_S J z0 s0) (g_S, 0, 0) (J s) 2 [some (.ref 49), some (gi l1), some (gi l2), some (gi l3), none, none] [])  {l1 l2 l3 l4 : Int} {s : gS} (h : M_line_112 k2 l1 l2 l3 l4 s = some (z0, s0)) : G M_M_line (QG g_S J z0 s0) (g_S, 0, 0) (J s) 112 [some (.ref 49), some (gi l1), some (gi l2), some (gi l3), some (gi l4), none] [] := by
  unfold M_line_112 at h
  refine G_iload_n (g_da dt_M_line 62 rfl) rfl rfl ?_
  refine G_iload (g_da dt_M_line 63 rfl) rfl ?_
  refine G_iadd (g_da dt_M_line 64 rfl) ?_
  refine H_topi (fun v21 e22 => ?_)
  have h := o_l h v21 e22
  refine G_istore_n (lv' := [_, _, _, _, _, none]) (g_da dt_M_line 65 rfl) rfl (Nat.le_of_ble_eq_true rfl) rfl rfl ?_
  refine G_goto (g_da dt_M_line 66 rfl) rfl ?_
  exact G_subK (hk2 _ _ _ _ h) ⟨rfl, ⟨rfl, ⟨rfl, ⟨rfl, trivial⟩⟩⟩⟩
set_option maxHeartbeats 4000000 in
set_option maxRecDepth 100000 in
theorem M_line_76_ok {J : gS → gS} (hJm : g_jm J) {z0 : Int} {s0 : gS} {k2 : Int → Int → Int → gS → gA} (hk2 : ∀ (l1 l2 l3 : Int) (s : gS), k2 l1 l2 l3 s = some (z0, s0) → G M_M_line (QG g_S J z0 s0) (g_S, 0, 0) (J s) 2 [some (.ref 49), some (gi l1), some (gi l2), some (gi l3), none, none] [])  {l1 l2 l3 l4 : Int} {s : gS} (h : M_line_76 k2 l1 l2 l3 l4 s = some (z0, s0)) : G M_M_line (QG g_S J z0 s0) (g_S, 0, 0) (J s) 76 [some (.ref 49), some (gi l1), some (gi l2), some (gi l3), some (gi l4), none] [] := by
  unfold M_line_76 at h
  refine G_aload_n (g_da dt_M_line 43 rfl) rfl rfl ?_
  refine G_iload (g_da dt_M_line 44 rfl) rfl ?_
  obtain ⟨r11, s12, hc13, h⟩ := o_b h
  refine H_cVG (M_out_ok hJm hc13) (g_da dt_M_line 45 rfl) lk_15_315 mv_M_out rfl sh_49 rfl rfl rfl rfl rfl rfl ?_
  refine G_iconst (g_da dt_M_line 46 rfl) ?_
  refine G_istore (lv' := [_, _, _, _, _, _]) (g_da dt_M_line 47 rfl) (Nat.le_of_ble_eq_true rfl) rfl rfl ?_
  exact G_subK (M_line_85L_ok hJm (fun _ _ _ _ _ h => M_line_112_ok hJm hk2 h) gFu h) ⟨rfl, ⟨rfl, ⟨rfl, ⟨rfl, ⟨rfl, ⟨rfl, trivial⟩⟩⟩⟩⟩⟩
set_option maxHeartbeats 4000000 in
set_option maxRecDepth 100000 in
theorem M_line_2_ok {J : gS → gS} (hJm : g_jm J) {z0 : Int} {s0 : gS} {k2 : Int → Int → Int → gS → gA} (hk2 : ∀ (l1 l2 l3 : Int) (s : gS), k2 l1 l2 l3 s = some (z0, s0) → G M_M_line (QG g_S J z0 s0) (g_S, 0, 0) (J s) 2 [some (.ref 49), some (gi l1), some (gi l2), some (gi l3), none, none] [])  {l1 l2 l3 : Int} {s : gS} (h : M_line_2 k2 l1 l2 l3 s = some (z0, s0)) : G M_M_line (QG g_S J z0 s0) (g_S, 0, 0) (J s) 2 [some (.ref 49), some (gi l1), some (gi l2), some (gi l3), none, none] [] := by
  unfold M_line_2 at h
  refine G_iload_n (g_da dt_M_line 2 rfl) rfl rfl ?_
  refine G_bipush (g_da dt_M_line 3 rfl) b8w_8 ?_
  refine G_icmp_ge (g_da dt_M_line 4 rfl) rfl rfl w_8 (fun hc1 => ?_) (fun hc1 => ?_)
  · have h := o_t hc1 h
    exact G_return (g_da dt_M_line 67 rfl) rfl rfl (g_nz rfl) (q_g h)
  · have h := o_f hc1 h
    refine G_aload_n (g_da dt_M_line 5 rfl) rfl rfl ?_
    refine G_iload_n (g_da dt_M_line 6 rfl) rfl rfl ?_
    refine G_iload_n (g_da dt_M_line 7 rfl) rfl rfl ?_
    refine G_iload_n (g_da dt_M_line 8 rfl) rfl rfl ?_
    obtain ⟨r2, s3, hc4, h⟩ := o_b h
    refine H_cVE (M_alike_ok hJm hc4) (g_da dt_M_line 9 rfl) lk_15_312 mv_M_alike rfl sh_49 rfl rfl rfl rfl rfl rfl ?_
    refine G_istore (lv' := [_, _, _, _, _, none]) (g_da dt_M_line 10 rfl) (Nat.le_of_ble_eq_true rfl) rfl rfl ?_
    refine G_iload (g_da dt_M_line 11 rfl) rfl ?_
    refine G_iconst (g_da dt_M_line 12 rfl) ?_
    refine G_icmp_le (g_da dt_M_line 13 rfl) rfl rfl w_1 (fun hc5 => ?_) (fun hc5 => ?_)
    · have h := o_t hc5 h
      exact G_subK (M_line_47L_ok hJm (fun _ _ _ _ _ h => M_line_76_ok hJm hk2 h) gFu h) ⟨rfl, ⟨rfl, ⟨rfl, ⟨rfl, ⟨rfl, trivial⟩⟩⟩⟩⟩
    · have h := o_f hc5 h
      refine G_aload_n (g_da dt_M_line 14 rfl) rfl rfl ?_
      refine G_sipush (g_da dt_M_line 15 rfl) s16w_128 ?_
      refine G_iload (g_da dt_M_line 16 rfl) rfl ?_
      refine G_iadd (g_da dt_M_line 17 rfl) ?_
      obtain ⟨r23, s24, hc25, h⟩ := o_b h
      refine H_cVG (M_out_ok hJm hc25) (g_da dt_M_line 18 rfl) lk_15_315 mv_M_out rfl sh_49 rfl rfl rfl rfl rfl rfl ?_
      refine G_aload_n (g_da dt_M_line 19 rfl) rfl rfl ?_
      refine G_aload_n (g_da dt_M_line 20 rfl) rfl rfl ?_
      refine G_iload_n (g_da dt_M_line 21 rfl) rfl rfl ?_
      refine G_iload_n (g_da dt_M_line 22 rfl) rfl rfl ?_
      refine G_iload_n (g_da dt_M_line 23 rfl) rfl rfl ?_
      obtain ⟨r26, s27, hc28, h⟩ := o_b h
      refine H_cVE (M_byteOf_ok hJm hc28) (g_da dt_M_line 24 rfl) lk_15_305 mv_M_byteOf rfl sh_49 rfl rfl rfl rfl rfl rfl ?_
      obtain ⟨r29, s30, hc31, h⟩ := o_b h
      refine H_cVG (M_out_ok hJm hc31) (g_da dt_M_line 25 rfl) lk_15_315 mv_M_out rfl sh_49 rfl rfl rfl rfl rfl rfl ?_
      refine G_goto (g_da dt_M_line 26 rfl) rfl ?_
      exact G_subK (M_line_112_ok hJm hk2 h) ⟨rfl, ⟨rfl, ⟨rfl, ⟨rfl, ⟨rfl, trivial⟩⟩⟩⟩⟩
set_option maxHeartbeats 4000000 in
set_option maxRecDepth 100000 in
theorem M_line_2L_ok {J : gS → gS} (hJm : g_jm J) {z0 : Int} {s0 : gS} : ∀ (n : Nat) {l1 l2 l3 : Int} {s : gS}, M_line_2L n l1 l2 l3 s = some (z0, s0) → G M_M_line (QG g_S J z0 s0) (g_S, 0, 0) (J s) 2 [some (.ref 49), some (gi l1), some (gi l2), some (gi l3), none, none] [] := by
  intro n
  induction n with
  | zero => intro _ _ _ _ h; cases h
  | succ n ih => intro _ _ _ _ h; exact M_line_2_ok hJm (fun _ _ _ _ h => ih h) h
set_option maxHeartbeats 4000000 in
set_option maxRecDepth 100000 in
theorem M_line_ok {J : gS → gS} (hJm : g_jm J) {z0 : Int} {s0 : gS} {a1 a2 : Int} {s : gS} (h : M_line a1 a2 s = some (z0, s0)) : Ct M_M_line g_S [.ref 49, gi a1, gi a2] (J s) (QG g_S J z0 s0) := by
  refine Ct_of [some (.ref 49), some (gi a1), some (gi a2), none, none, none] (plainFor_of_name (by decide)) rfl (Nat.le_of_ble_eq_true rfl) rfl (by decide) q_rG ?_
  unfold M_line at h
  refine G_iconst (g_da dt_M_line 0 rfl) ?_
  refine G_istore_n (lv' := [_, _, _, _, none, none]) (g_da dt_M_line 1 rfl) rfl (Nat.le_of_ble_eq_true rfl) rfl rfl ?_
  exact G_subK (M_line_2L_ok hJm gFu h) ⟨rfl, ⟨rfl, ⟨rfl, ⟨rfl, trivial⟩⟩⟩⟩
set_option maxHeartbeats 4000000 in
set_option maxRecDepth 100000 in
theorem M_pack_47_ok {J : gS → gS} (hJm : g_jm J) {z0 : Int} {s0 : gS} {k47 : Int → Int → Int → Int → gS → gA} {k79 : Int → Int → Int → Int → gS → gA} (hk47 : ∀ (l1 l2 l3 l4 : Int) (s : gS), k47 l1 l2 l3 l4 s = some (z0, s0) → G M_M_pack (QE g_S J z0 s0) (g_S, 0, 0) (J s) 47 [some (.ref 49), some (gi l1), some (gi l2), some (gi l3), some (gi l4)] []) (hk79 : ∀ (l1 l2 l3 l4 : Int) (s : gS), k79 l1 l2 l3 l4 s = some (z0, s0) → G M_M_pack (QE g_S J z0 s0) (g_S, 0, 0) (J s) 79 [some (.ref 49), some (gi l1), some (gi l2), some (gi l3), some (gi l4)] [])  {l1 l2 l3 l4 : Int} {s : gS} (h : M_pack_47 k47 k79 l1 l2 l3 l4 s = some (z0, s0)) : G M_M_pack (QE g_S J z0 s0) (g_S, 0, 0) (J s) 47 [some (.ref 49), some (gi l1), some (gi l2), some (gi l3), some (gi l4)] [] := by
  unfold M_pack_47 at h
  refine G_iload_n (g_da dt_M_pack 29 rfl) rfl rfl ?_
  refine G_iload (g_da dt_M_pack 30 rfl) rfl ?_
  refine G_iadd (g_da dt_M_pack 31 rfl) ?_
  refine G_bipush (g_da dt_M_pack 32 rfl) b8w_8 ?_
  refine G_iload_n (g_da dt_M_pack 33 rfl) rfl rfl ?_
  refine G_imul (g_da dt_M_pack 34 rfl) ?_
  refine G_bipush (g_da dt_M_pack 35 rfl) b8w_8 ?_
  refine G_iadd (g_da dt_M_pack 36 rfl) ?_
  refine G_icmp_ge (g_da dt_M_pack 37 rfl) rfl rfl rfl (fun hc10 => ?_) (fun hc10 => ?_)
  · have h := o_t hc10 h
    exact G_subK (hk79 _ _ _ _ _ h) ⟨rfl, ⟨rfl, ⟨rfl, ⟨rfl, ⟨rfl, trivial⟩⟩⟩⟩⟩
  · have h := o_f hc10 h
    refine G_aload_n (g_da dt_M_pack 38 rfl) rfl rfl ?_
    refine G_iload_n (g_da dt_M_pack 39 rfl) rfl rfl ?_
    refine G_iload_n (g_da dt_M_pack 40 rfl) rfl rfl ?_
    refine G_iload (g_da dt_M_pack 41 rfl) rfl ?_
    refine G_iadd (g_da dt_M_pack 42 rfl) ?_
    obtain ⟨r11, s12, hc13, h⟩ := o_b h
    refine H_cVE (M_isLikeAbove_ok hJm hc13) (g_da dt_M_pack 43 rfl) lk_15_318 mv_M_isLikeAbove rfl sh_49 rfl rfl rfl rfl rfl rfl ?_
    refine G_if_eq (g_da dt_M_pack 44 rfl) rfl rfl  (fun hc14 => ?_) (fun hc14 => ?_)
    · have h := o_t hc14 h
      exact G_subK (hk79 _ _ _ _ _ h) ⟨rfl, ⟨rfl, ⟨rfl, ⟨rfl, ⟨rfl, trivial⟩⟩⟩⟩⟩
    · have h := o_f hc14 h
      refine G_iinc (lv' := [_, _, _, _, _]) (g_da dt_M_pack 45 rfl) rfl (Nat.le_of_ble_eq_true rfl) rfl rfl ?_
      refine G_goto (g_da dt_M_pack 46 rfl) rfl ?_
      exact G_subK (hk47 _ _ _ _ _ h) ⟨rfl, ⟨rfl, ⟨rfl, ⟨rfl, ⟨rfl, trivial⟩⟩⟩⟩⟩
set_option maxHeartbeats 4000000 in
set_option maxRecDepth 100000 in
theorem M_pack_47L_ok {J : gS → gS} (hJm : g_jm J) {z0 : Int} {s0 : gS} {k79 : Int → Int → Int → Int → gS → gA} (hk79 : ∀ (l1 l2 l3 l4 : Int) (s : gS), k79 l1 l2 l3 l4 s = some (z0, s0) → G M_M_pack (QE g_S J z0 s0) (g_S, 0, 0) (J s) 79 [some (.ref 49), some (gi l1), some (gi l2), some (gi l3), some (gi l4)] []) : ∀ (n : Nat) {l1 l2 l3 l4 : Int} {s : gS}, M_pack_47L k79 n l1 l2 l3 l4 s = some (z0, s0) → G M_M_pack (QE g_S J z0 s0) (g_S, 0, 0) (J s) 47 [some (.ref 49), some (gi l1), some (gi l2), some (gi l3), some (gi l4)] [] := by
  intro n
  induction n with
  | zero => intro _ _ _ _ _ h; cases h
  | succ n ih => intro _ _ _ _ _ h; exact M_pack_47_ok hJm (fun _ _ _ _ _ h => ih h) hk79 h
set_option maxHeartbeats 4000000 in
set_option maxRecDepth 100000 in
theorem M_pack_115_ok {J : gS → gS} (hJm : g_jm J) {z0 : Int} {s0 : gS} {k33 : Int → Int → Int → gS → gA} (hk33 : ∀ (l1 l2 l3 : Int) (s : gS), k33 l1 l2 l3 s = some (z0, s0) → G M_M_pack (QE g_S J z0 s0) (g_S, 0, 0) (J s) 33 [some (.ref 49), some (gi l1), some (gi l2), some (gi l3), none] [])  {l1 l2 t0 t1 : Int} {s : gS} (h : M_pack_115 k33 l1 l2 t0 t1 s = some (z0, s0)) : G M_M_pack (QE g_S J z0 s0) (g_S, 0, 0) (J s) 115 [some (.ref 49), some (gi l1), some (gi l2), none, none] [gi t1, gi t0] := by
  unfold M_pack_115 at h
  refine G_iadd (g_da dt_M_pack 65 rfl) ?_
  refine H_topi (fun v20 e21 => ?_)
  have h := o_l h v20 e21
  refine G_istore_n (lv' := [_, _, _, _, none]) (g_da dt_M_pack 66 rfl) rfl (Nat.le_of_ble_eq_true rfl) rfl rfl ?_
  refine G_goto (g_da dt_M_pack 67 rfl) rfl ?_
  exact G_subK (hk33 _ _ _ _ h) ⟨rfl, ⟨rfl, ⟨rfl, ⟨rfl, trivial⟩⟩⟩⟩
set_option maxHeartbeats 4000000 in
set_option maxRecDepth 100000 in
theorem M_pack_103_ok {J : gS → gS} (hJm : g_jm J) {z0 : Int} {s0 : gS} {k33 : Int → Int → Int → gS → gA} (hk33 : ∀ (l1 l2 l3 : Int) (s : gS), k33 l1 l2 l3 s = some (z0, s0) → G M_M_pack (QE g_S J z0 s0) (g_S, 0, 0) (J s) 33 [some (.ref 49), some (gi l1), some (gi l2), some (gi l3), none] [])  {l1 l2 l3 l4 : Int} {s : gS} (h : M_pack_103 k33 l1 l2 l3 l4 s = some (z0, s0)) : G M_M_pack (QE g_S J z0 s0) (g_S, 0, 0) (J s) 103 [some (.ref 49), some (gi l1), some (gi l2), some (gi l3), some (gi l4)] [] := by
  unfold M_pack_103 at h
  refine G_iload_n (g_da dt_M_pack 59 rfl) rfl rfl ?_
  refine G_iload (g_da dt_M_pack 60 rfl) rfl ?_
  refine G_if_le (g_da dt_M_pack 61 rfl) rfl rfl  (fun hc19 => ?_) (fun hc19 => ?_)
  · have h := o_t hc19 h
    refine G_iconst (g_da dt_M_pack 64 rfl) ?_
    exact G_subK (M_pack_115_ok hJm hk33 h) ⟨rfl, ⟨rfl, ⟨rfl, trivial⟩⟩⟩
  · have h := o_f hc19 h
    refine G_iload (g_da dt_M_pack 62 rfl) rfl ?_
    refine G_goto (g_da dt_M_pack 63 rfl) rfl ?_
    exact G_subK (M_pack_115_ok hJm hk33 h) ⟨rfl, ⟨rfl, ⟨rfl, trivial⟩⟩⟩
set_option maxHeartbeats 4000000 in
set_option maxRecDepth 100000 in
theorem M_pack_79_ok {J : gS → gS} (hJm : g_jm J) {z0 : Int} {s0 : gS} {k33 : Int → Int → Int → gS → gA} (hk33 : ∀ (l1 l2 l3 : Int) (s : gS), k33 l1 l2 l3 s = some (z0, s0) → G M_M_pack (QE g_S J z0 s0) (g_S, 0, 0) (J s) 33 [some (.ref 49), some (gi l1), some (gi l2), some (gi l3), none] [])  {l1 l2 l3 l4 : Int} {s : gS} (h : M_pack_79 k33 l1 l2 l3 l4 s = some (z0, s0)) : G M_M_pack (QE g_S J z0 s0) (g_S, 0, 0) (J s) 79 [some (.ref 49), some (gi l1), some (gi l2), some (gi l3), some (gi l4)] [] := by
  unfold M_pack_79 at h
  refine G_iload (g_da dt_M_pack 47 rfl) rfl ?_
  refine G_if_le (g_da dt_M_pack 48 rfl) rfl rfl  (fun hc15 => ?_) (fun hc15 => ?_)
  · have h := o_t hc15 h
    refine G_aload_n (g_da dt_M_pack 55 rfl) rfl rfl ?_
    refine G_iload_n (g_da dt_M_pack 56 rfl) rfl rfl ?_
    refine G_iload_n (g_da dt_M_pack 57 rfl) rfl rfl ?_
    obtain ⟨r16, s17, hc18, h⟩ := o_b h
    refine H_cVG (M_line_ok hJm hc18) (g_da dt_M_pack 58 rfl) lk_15_321 mv_M_line rfl sh_49 rfl rfl rfl rfl rfl rfl ?_
    exact G_subK (M_pack_103_ok hJm hk33 h) ⟨rfl, ⟨rfl, ⟨rfl, ⟨rfl, ⟨rfl, trivial⟩⟩⟩⟩⟩
  · have h := o_f hc15 h
    refine G_aload_n (g_da dt_M_pack 49 rfl) rfl rfl ?_
    refine G_sipush (g_da dt_M_pack 50 rfl) s16w_192 ?_
    refine G_iload (g_da dt_M_pack 51 rfl) rfl ?_
    refine G_iadd (g_da dt_M_pack 52 rfl) ?_
    obtain ⟨r22, s23, hc24, h⟩ := o_b h
    refine H_cVG (M_out_ok hJm hc24) (g_da dt_M_pack 53 rfl) lk_15_315 mv_M_out rfl sh_49 rfl rfl rfl rfl rfl rfl ?_
    refine G_goto (g_da dt_M_pack 54 rfl) rfl ?_
    exact G_subK (M_pack_103_ok hJm hk33 h) ⟨rfl, ⟨rfl, ⟨rfl, ⟨rfl, ⟨rfl, trivial⟩⟩⟩⟩⟩
set_option maxHeartbeats 4000000 in
set_option maxRecDepth 100000 in
theorem M_pack_33_ok {J : gS → gS} (hJm : g_jm J) {z0 : Int} {s0 : gS} {k33 : Int → Int → Int → gS → gA} (hk33 : ∀ (l1 l2 l3 : Int) (s : gS), k33 l1 l2 l3 s = some (z0, s0) → G M_M_pack (QE g_S J z0 s0) (g_S, 0, 0) (J s) 33 [some (.ref 49), some (gi l1), some (gi l2), some (gi l3), none] [])  {l1 l2 l3 : Int} {s : gS} (h : M_pack_33 k33 l1 l2 l3 s = some (z0, s0)) : G M_M_pack (QE g_S J z0 s0) (g_S, 0, 0) (J s) 33 [some (.ref 49), some (gi l1), some (gi l2), some (gi l3), none] [] := by
  unfold M_pack_33 at h
  refine G_iload_n (g_da dt_M_pack 20 rfl) rfl rfl ?_
  refine G_bipush (g_da dt_M_pack 21 rfl) b8w_8 ?_
  refine G_iload_n (g_da dt_M_pack 22 rfl) rfl rfl ?_
  refine G_imul (g_da dt_M_pack 23 rfl) ?_
  refine G_bipush (g_da dt_M_pack 24 rfl) b8w_8 ?_
  refine G_iadd (g_da dt_M_pack 25 rfl) ?_
  refine G_icmp_ge (g_da dt_M_pack 26 rfl) rfl rfl rfl (fun hc9 => ?_) (fun hc9 => ?_)
  · have h := o_t hc9 h
    refine G_iconst (g_da dt_M_pack 68 rfl) ?_
    exact G_ireturn (g_da dt_M_pack 69 rfl) rfl (g_bool (Or.inr w_1)).1 rfl (g_nz rfl) (q_e h)
  · have h := o_f hc9 h
    refine G_iconst (g_da dt_M_pack 27 rfl) ?_
    refine G_istore (lv' := [_, _, _, _, _]) (g_da dt_M_pack 28 rfl) (Nat.le_of_ble_eq_true rfl) rfl rfl ?_
    exact G_subK (M_pack_47L_ok hJm (fun _ _ _ _ _ h => M_pack_79_ok hJm hk33 h) gFu h) ⟨rfl, ⟨rfl, ⟨rfl, ⟨rfl, ⟨rfl, trivial⟩⟩⟩⟩⟩
set_option maxHeartbeats 4000000 in
set_option maxRecDepth 100000 in
theorem M_pack_33L_ok {J : gS → gS} (hJm : g_jm J) {z0 : Int} {s0 : gS} : ∀ (n : Nat) {l1 l2 l3 : Int} {s : gS}, M_pack_33L n l1 l2 l3 s = some (z0, s0) → G M_M_pack (QE g_S J z0 s0) (g_S, 0, 0) (J s) 33 [some (.ref 49), some (gi l1), some (gi l2), some (gi l3), none] [] := by
  intro n
  induction n with
  | zero => intro _ _ _ _ h; cases h
  | succ n ih => intro _ _ _ _ h; exact M_pack_33_ok hJm (fun _ _ _ _ h => ih h) h
set_option maxHeartbeats 4000000 in
set_option maxRecDepth 100000 in
theorem M_pack_ok {J : gS → gS} (hJm : g_jm J) {z0 : Int} {s0 : gS} {a1 a2 : Int} {s : gS} (h : M_pack a1 a2 s = some (z0, s0)) : Ct M_M_pack g_S [.ref 49, gi a1, gi a2] (J s) (QE g_S J z0 s0) := by
  refine Ct_of [some (.ref 49), some (gi a1), some (gi a2), none, none] (plainFor_of_name (by decide)) rfl (Nat.le_of_ble_eq_true rfl) rfl (by decide) q_rE ?_
  unfold M_pack at h
  refine G_iload_n (g_da dt_M_pack 0 rfl) rfl rfl ?_
  refine G_if_lt (g_da dt_M_pack 1 rfl) rfl rfl  (fun hc1 => ?_) (fun hc1 => ?_)
  · have h := o_t hc1 h
    refine G_iconst (g_da dt_M_pack 11 rfl) ?_
    exact G_ireturn (g_da dt_M_pack 12 rfl) rfl (g_bool (Or.inl w_0)).1 rfl (g_nz rfl) (q_e h)
  · have h := o_f hc1 h
    refine G_iload_n (g_da dt_M_pack 2 rfl) rfl rfl ?_
    refine G_aload_n (g_da dt_M_pack 3 rfl) rfl rfl ?_
    refine H_getI (g_da dt_M_pack 4 rfl) sh_49 fl_15_139 rfl (hJm 49 rfl) ?_
    refine G_icmp_ge (g_da dt_M_pack 5 rfl) rfl rfl rfl (fun hc2 => ?_) (fun hc2 => ?_)
    · have h := o_t hc2 h
      refine G_iconst (g_da dt_M_pack 11 rfl) ?_
      exact G_ireturn (g_da dt_M_pack 12 rfl) rfl (g_bool (Or.inl w_0)).1 rfl (g_nz rfl) (q_e h)
    · have h := o_f hc2 h
      refine G_iload_n (g_da dt_M_pack 6 rfl) rfl rfl ?_
      refine G_if_lt (g_da dt_M_pack 7 rfl) rfl rfl  (fun hc3 => ?_) (fun hc3 => ?_)
      · have h := o_t hc3 h
        refine G_iconst (g_da dt_M_pack 11 rfl) ?_
        exact G_ireturn (g_da dt_M_pack 12 rfl) rfl (g_bool (Or.inl w_0)).1 rfl (g_nz rfl) (q_e h)
      · have h := o_f hc3 h
        refine G_iload_n (g_da dt_M_pack 8 rfl) rfl rfl ?_
        refine G_iconst (g_da dt_M_pack 9 rfl) ?_
        refine G_icmp_le (g_da dt_M_pack 10 rfl) rfl rfl w_5 (fun hc4 => ?_) (fun hc4 => ?_)
        · have h := o_t hc4 h
          refine G_aload_n (g_da dt_M_pack 13 rfl) rfl rfl ?_
          refine G_iconst (g_da dt_M_pack 14 rfl) ?_
          refine H_putI (g_da dt_M_pack 15 rfl) sh_49 fp_15_309 rfl (hJm 49 rfl) (fun s5 e6 => ?_)
          have h := o_l h s5 e6
          refine G_bipush (g_da dt_M_pack 16 rfl) b8w_8 ?_
          refine G_iload_n (g_da dt_M_pack 17 rfl) rfl rfl ?_
          refine G_imul (g_da dt_M_pack 18 rfl) ?_
          refine H_topi (fun v7 e8 => ?_)
          have h := o_l h v7 e8
          refine G_istore_n (lv' := [_, _, _, _, none]) (g_da dt_M_pack 19 rfl) rfl (Nat.le_of_ble_eq_true rfl) rfl rfl ?_
          exact G_subK (M_pack_33L_ok hJm gFu h) ⟨rfl, ⟨rfl, ⟨rfl, ⟨rfl, trivial⟩⟩⟩⟩
        · have h := o_f hc4 h
          refine G_iconst (g_da dt_M_pack 11 rfl) ?_
          exact G_ireturn (g_da dt_M_pack 12 rfl) rfl (g_bool (Or.inl w_0)).1 rfl (g_nz rfl) (q_e h)
set_option maxHeartbeats 4000000 in
set_option maxRecDepth 100000 in
theorem M_band_ok {J : gS → gS} (hJm : g_jm J) {z0 : Int} {s0 : gS} {a1 a2 : Int} {s : gS} (h : M_band a1 a2 s = some (z0, s0)) : Ct M_M_band g_S [.ref 49, gi a1, gi a2] (J s) (QE g_S J z0 s0) := by
  refine Ct_of [some (.ref 49), some (gi a1), some (gi a2)] (plainFor_of_name (by decide)) rfl (Nat.le_of_ble_eq_true rfl) rfl (by decide) q_rE ?_
  unfold M_band at h
  refine G_aload_n (g_da dt_M_band 0 rfl) rfl rfl ?_
  refine G_iconst (g_da dt_M_band 1 rfl) ?_
  refine H_putI (g_da dt_M_band 2 rfl) sh_49 fp_15_83 rfl (hJm 49 rfl) (fun s1 e2 => ?_)
  have h := o_l h s1 e2
  refine G_aload_n (g_da dt_M_band 3 rfl) rfl rfl ?_
  refine G_iload_n (g_da dt_M_band 4 rfl) rfl rfl ?_
  refine G_iload_n (g_da dt_M_band 5 rfl) rfl rfl ?_
  obtain ⟨r3, s4, hc5, h⟩ := o_b h
  refine H_cVE (M_pack_ok hJm hc5) (g_da dt_M_band 6 rfl) lk_15_324 mv_M_pack rfl sh_49 rfl rfl rfl rfl rfl rfl ?_
  refine G_if_eq (g_da dt_M_band 7 rfl) rfl rfl  (fun hc6 => ?_) (fun hc6 => ?_)
  · have h := o_t hc6 h
    refine G_iconst (g_da dt_M_band 11 rfl) ?_
    exact G_ireturn (g_da dt_M_band 12 rfl) rfl rfl rfl (g_nz rfl) (q_e h)
  · have h := o_f hc6 h
    refine G_aload_n (g_da dt_M_band 8 rfl) rfl rfl ?_
    refine H_getI (g_da dt_M_band 9 rfl) sh_49 fl_15_309 rfl (hJm 49 rfl) ?_
    refine G_goto (g_da dt_M_band 10 rfl) rfl ?_
    exact G_ireturn (g_da dt_M_band 12 rfl) rfl rfl rfl (g_nz rfl) (q_e h)
set_option maxHeartbeats 4000000 in
set_option maxRecDepth 100000 in
theorem M_closing_45_ok {J : gS → gS} (hJm : g_jm J) {z0 : Int} {s0 : gS} {k4 : Int → Int → Int → gS → gA} (hk4 : ∀ (l1 l2 l3 : Int) (s : gS), k4 l1 l2 l3 s = some (z0, s0) → G M_M_closing (QE g_S J z0 s0) (g_S, 0, 0) (J s) 4 [some (.ref 49), some (gi l1), some (gi l2), some (gi l3)] [])  {l1 l3 t0 t1 : Int} {s : gS} (h : M_closing_45 k4 l1 l3 t0 t1 s = some (z0, s0)) : G M_M_closing (QE g_S J z0 s0) (g_S, 0, 0) (J s) 45 [some (.ref 49), some (gi l1), none, some (gi l3)] [gi t1, gi t0] := by
  unfold M_closing_45 at h
  refine G_iadd (g_da dt_M_closing 27 rfl) ?_
  refine H_topi (fun v6 e7 => ?_)
  have h := o_l h v6 e7
  refine G_istore_n (lv' := [_, _, _, _]) (g_da dt_M_closing 28 rfl) rfl (Nat.le_of_ble_eq_true rfl) rfl rfl ?_
  refine G_iinc (lv' := [_, _, _, _]) (g_da dt_M_closing 29 rfl) rfl (Nat.le_of_ble_eq_true rfl) rfl rfl ?_
  refine G_goto (g_da dt_M_closing 30 rfl) rfl ?_
  exact G_subK (hk4 _ _ _ _ h) ⟨rfl, ⟨rfl, ⟨rfl, ⟨rfl, trivial⟩⟩⟩⟩
set_option maxHeartbeats 4000000 in
set_option maxRecDepth 100000 in
theorem M_closing_13_ok {J : gS → gS} (hJm : g_jm J) {z0 : Int} {s0 : gS} {k4 : Int → Int → Int → gS → gA} (hk4 : ∀ (l1 l2 l3 : Int) (s : gS), k4 l1 l2 l3 s = some (z0, s0) → G M_M_closing (QE g_S J z0 s0) (g_S, 0, 0) (J s) 4 [some (.ref 49), some (gi l1), some (gi l2), some (gi l3)] [])  {l1 l2 l3 : Int} {s : gS} (h : M_closing_13 k4 l1 l2 l3 s = some (z0, s0)) : G M_M_closing (QE g_S J z0 s0) (g_S, 0, 0) (J s) 13 [some (.ref 49), some (gi l1), some (gi l2), some (gi l3)] [] := by
  unfold M_closing_13 at h
  refine G_iload_n (g_da dt_M_closing 9 rfl) rfl rfl ?_
  refine G_aload_n (g_da dt_M_closing 10 rfl) rfl rfl ?_
  refine G_getR (g_da dt_M_closing 11 rfl) sh_49 fl_15_13 rfl ?_
  refine G_iload_n (g_da dt_M_closing 12 rfl) rfl rfl ?_
  obtain ⟨hb2, h⟩ := o_g h
  refine H_iaload (g_da dt_M_closing 13 rfl) sh_51 (hJm 51 rfl) rfl hb2 rfl ?_
  refine G_bipush (g_da dt_M_closing 14 rfl) b8w_123 ?_
  refine G_icmp_ne (g_da dt_M_closing 15 rfl) rfl rfl w_123 (fun hc3 => ?_) (fun hc3 => ?_)
  · have h := o_f hc3 h
    refine G_aload_n (g_da dt_M_closing 18 rfl) rfl rfl ?_
    refine G_getR (g_da dt_M_closing 19 rfl) sh_49 fl_15_13 rfl ?_
    refine G_iload_n (g_da dt_M_closing 20 rfl) rfl rfl ?_
    obtain ⟨hb4, h⟩ := o_g h
    refine H_iaload (g_da dt_M_closing 21 rfl) sh_51 (hJm 51 rfl) rfl hb4 rfl ?_
    refine G_bipush (g_da dt_M_closing 22 rfl) b8w_125 ?_
    refine G_icmp_ne (g_da dt_M_closing 23 rfl) rfl rfl w_125 (fun hc5 => ?_) (fun hc5 => ?_)
    · have h := o_f hc5 h
      refine G_iconst (g_da dt_M_closing 26 rfl) ?_
      exact G_subK (M_closing_45_ok hJm hk4 h) ⟨rfl, ⟨rfl, ⟨rfl, trivial⟩⟩⟩
    · have h := o_t hc5 h
      refine G_iconst (g_da dt_M_closing 24 rfl) ?_
      refine G_goto (g_da dt_M_closing 25 rfl) rfl ?_
      exact G_subK (M_closing_45_ok hJm hk4 h) ⟨rfl, ⟨rfl, ⟨rfl, trivial⟩⟩⟩
  · have h := o_t hc3 h
    refine G_iconst (g_da dt_M_closing 16 rfl) ?_
    refine G_goto (g_da dt_M_closing 17 rfl) rfl ?_
    exact G_subK (M_closing_45_ok hJm hk4 h) ⟨rfl, ⟨rfl, ⟨rfl, trivial⟩⟩⟩
set_option maxHeartbeats 4000000 in
set_option maxRecDepth 100000 in
theorem M_closing_4_ok {J : gS → gS} (hJm : g_jm J) {z0 : Int} {s0 : gS} {k4 : Int → Int → Int → gS → gA} (hk4 : ∀ (l1 l2 l3 : Int) (s : gS), k4 l1 l2 l3 s = some (z0, s0) → G M_M_closing (QE g_S J z0 s0) (g_S, 0, 0) (J s) 4 [some (.ref 49), some (gi l1), some (gi l2), some (gi l3)] [])  {l1 l2 l3 : Int} {s : gS} (h : M_closing_4 k4 l1 l2 l3 s = some (z0, s0)) : G M_M_closing (QE g_S J z0 s0) (g_S, 0, 0) (J s) 4 [some (.ref 49), some (gi l1), some (gi l2), some (gi l3)] [] := by
  unfold M_closing_4 at h
  refine G_iload_n (g_da dt_M_closing 4 rfl) rfl rfl ?_
  refine G_if_gt (g_da dt_M_closing 5 rfl) rfl rfl  (fun hc1 => ?_) (fun hc1 => ?_)
  · have h := o_t hc1 h
    exact G_subK (M_closing_13_ok hJm hk4 h) ⟨rfl, ⟨rfl, ⟨rfl, ⟨rfl, trivial⟩⟩⟩⟩
  · have h := o_f hc1 h
    refine G_iload_n (g_da dt_M_closing 6 rfl) rfl rfl ?_
    refine G_iload_n (g_da dt_M_closing 7 rfl) rfl rfl ?_
    refine G_icmp_ne (g_da dt_M_closing 8 rfl) rfl rfl rfl (fun hc8 => ?_) (fun hc8 => ?_)
    · have h := o_f hc8 h
      refine G_iload_n (g_da dt_M_closing 31 rfl) rfl rfl ?_
      refine G_iconst (g_da dt_M_closing 32 rfl) ?_
      refine G_isub (g_da dt_M_closing 33 rfl) ?_
      exact G_ireturn (g_da dt_M_closing 34 rfl) rfl rfl rfl (g_nz rfl) (q_e h)
    · have h := o_t hc8 h
      exact G_subK (M_closing_13_ok hJm hk4 h) ⟨rfl, ⟨rfl, ⟨rfl, ⟨rfl, trivial⟩⟩⟩⟩
set_option maxHeartbeats 4000000 in
set_option maxRecDepth 100000 in
theorem M_closing_4L_ok {J : gS → gS} (hJm : g_jm J) {z0 : Int} {s0 : gS} : ∀ (n : Nat) {l1 l2 l3 : Int} {s : gS}, M_closing_4L n l1 l2 l3 s = some (z0, s0) → G M_M_closing (QE g_S J z0 s0) (g_S, 0, 0) (J s) 4 [some (.ref 49), some (gi l1), some (gi l2), some (gi l3)] [] := by
  intro n
  induction n with
  | zero => intro _ _ _ _ h; cases h
  | succ n ih => intro _ _ _ _ h; exact M_closing_4_ok hJm (fun _ _ _ _ h => ih h) h
set_option maxHeartbeats 4000000 in
set_option maxRecDepth 100000 in
theorem M_closing_ok {J : gS → gS} (hJm : g_jm J) {z0 : Int} {s0 : gS} {a1 : Int} {s : gS} (h : M_closing a1 s = some (z0, s0)) : Ct M_M_closing g_S [.ref 49, gi a1] (J s) (QE g_S J z0 s0) := by
  refine Ct_of [some (.ref 49), some (gi a1), none, none] (plainFor_of_name (by decide)) rfl (Nat.le_of_ble_eq_true rfl) rfl (by decide) q_rE ?_
  unfold M_closing at h
  refine G_iconst (g_da dt_M_closing 0 rfl) ?_
  refine G_istore_n (lv' := [_, _, _, none]) (g_da dt_M_closing 1 rfl) rfl (Nat.le_of_ble_eq_true rfl) rfl rfl ?_
  refine G_iload_n (g_da dt_M_closing 2 rfl) rfl rfl ?_
  refine G_istore_n (lv' := [_, _, _, _]) (g_da dt_M_closing 3 rfl) rfl (Nat.le_of_ble_eq_true rfl) rfl rfl ?_
  exact G_subK (M_closing_4L_ok hJm gFu h) ⟨rfl, ⟨rfl, ⟨rfl, ⟨rfl, trivial⟩⟩⟩⟩
set_option maxHeartbeats 4000000 in
set_option maxRecDepth 100000 in
theorem M_cover_ok {J : gS → gS} (hJm : g_jm J) {z0 : Int} {s0 : gS} {a1 : Int} {s : gS} (h : M_cover a1 s = some (z0, s0)) : Ct M_M_cover g_S [.ref 49, gi a1] (J s) (QE g_S J z0 s0) := by
  refine Ct_of [some (.ref 49), some (gi a1), none] (plainFor_of_name (by decide)) rfl (Nat.le_of_ble_eq_true rfl) rfl (by decide) q_rE ?_
  unfold M_cover at h
  refine G_aload_n (g_da dt_M_cover 0 rfl) rfl rfl ?_
  refine G_iconst (g_da dt_M_cover 1 rfl) ?_
  refine H_putI (g_da dt_M_cover 2 rfl) sh_49 fp_15_83 rfl (hJm 49 rfl) (fun s1 e2 => ?_)
  have h := o_l h s1 e2
  refine G_aload_n (g_da dt_M_cover 3 rfl) rfl rfl ?_
  refine H_getI (g_da dt_M_cover 4 rfl) sh_49 fl_15_354 rfl (hJm 49 rfl) ?_
  refine H_topi (fun v3 e4 => ?_)
  have h := o_l h v3 e4
  refine G_istore_n (lv' := [_, _, _]) (g_da dt_M_cover 5 rfl) rfl (Nat.le_of_ble_eq_true rfl) rfl rfl ?_
  refine G_aload_n (g_da dt_M_cover 6 rfl) rfl rfl ?_
  refine G_iload_n (g_da dt_M_cover 7 rfl) rfl rfl ?_
  obtain ⟨hz5, h⟩ := o_g h
  refine H_putZ (g_da dt_M_cover 8 rfl) sh_49 fp_15_354 rfl (hJm 49 rfl) hz5 (fun s6 e7 => ?_)
  have h := o_l h s6 e7
  refine G_iload_n (g_da dt_M_cover 9 rfl) rfl rfl ?_
  refine G_iload_n (g_da dt_M_cover 10 rfl) rfl rfl ?_
  refine G_icmp_eq (g_da dt_M_cover 11 rfl) rfl rfl rfl (fun hc8 => ?_) (fun hc8 => ?_)
  · have h := o_t hc8 h
    refine G_iconst (g_da dt_M_cover 14 rfl) ?_
    exact G_ireturn (g_da dt_M_cover 15 rfl) rfl (g_bool (Or.inl w_0)).1 rfl (g_nz rfl) (q_e h)
  · have h := o_f hc8 h
    refine G_iconst (g_da dt_M_cover 12 rfl) ?_
    refine G_goto (g_da dt_M_cover 13 rfl) rfl ?_
    exact G_ireturn (g_da dt_M_cover 15 rfl) rfl (g_bool (Or.inr w_1)).1 rfl (g_nz rfl) (q_e h)
set_option maxHeartbeats 4000000 in
set_option maxRecDepth 100000 in
theorem M_meets_42_ok {J : gS → gS} {z0 : Int} {s0 : gS}  {l0 l1 l2 l3 l4 l5 : Int} {s : gS} (h : M_meets_42 l0 l1 l2 l3 l4 l5 s = some (z0, s0)) : G M_M_meets (QE g_S J z0 s0) (g_S, 0, 0) (J s) 42 [some (gi l0), some (gi l1), some (gi l2), some (gi l3), some (gi l4), some (gi l5)] [] := by
  unfold M_meets_42 at h
  refine G_iload_n (g_da dt_M_meets 30 rfl) rfl rfl ?_
  refine G_iload (g_da dt_M_meets 31 rfl) rfl ?_
  refine G_icmp_gt (g_da dt_M_meets 32 rfl) rfl rfl rfl (fun hc2 => ?_) (fun hc2 => ?_)
  · have h := o_t hc2 h
    refine G_iconst (g_da dt_M_meets 60 rfl) ?_
    exact G_ireturn (g_da dt_M_meets 61 rfl) rfl rfl rfl (g_nz rfl) (q_e h)
  · have h := o_f hc2 h
    refine G_iload (g_da dt_M_meets 33 rfl) rfl ?_
    refine G_iload_n (g_da dt_M_meets 34 rfl) rfl rfl ?_
    refine G_icmp_ge (g_da dt_M_meets 35 rfl) rfl rfl rfl (fun hc3 => ?_) (fun hc3 => ?_)
    · have h := o_t hc3 h
      refine G_iconst (g_da dt_M_meets 60 rfl) ?_
      exact G_ireturn (g_da dt_M_meets 61 rfl) rfl rfl rfl (g_nz rfl) (q_e h)
    · have h := o_f hc3 h
      refine G_iload (g_da dt_M_meets 36 rfl) rfl ?_
      refine G_iload_n (g_da dt_M_meets 37 rfl) rfl rfl ?_
      refine G_isub (g_da dt_M_meets 38 rfl) ?_
      refine G_i2l (g_da dt_M_meets 39 rfl) ?_
      refine G_iload_n (g_da dt_M_meets 40 rfl) rfl rfl ?_
      refine G_iload_n (g_da dt_M_meets 41 rfl) rfl rfl ?_
      refine G_isub (g_da dt_M_meets 42 rfl) ?_
      refine G_i2l (g_da dt_M_meets 43 rfl) ?_
      refine G_lmul (g_da dt_M_meets 44 rfl) ?_
      refine G_iload (g_da dt_M_meets 45 rfl) rfl ?_
      refine G_iload_n (g_da dt_M_meets 46 rfl) rfl rfl ?_
      refine G_isub (g_da dt_M_meets 47 rfl) ?_
      refine G_i2l (g_da dt_M_meets 48 rfl) ?_
      refine G_iload_n (g_da dt_M_meets 49 rfl) rfl rfl ?_
      refine G_iload_n (g_da dt_M_meets 50 rfl) rfl rfl ?_
      refine G_isub (g_da dt_M_meets 51 rfl) ?_
      refine G_i2l (g_da dt_M_meets 52 rfl) ?_
      refine G_lmul (g_da dt_M_meets 53 rfl) ?_
      refine G_lcmp (g_da dt_M_meets 54 rfl) ?_
      refine G_if_gt (g_da dt_M_meets 55 rfl) rfl rfl  (fun hc4 => ?_) (fun hc4 => ?_)
      · have h := o_t hc4 h
        refine G_iconst (g_da dt_M_meets 58 rfl) ?_
        exact G_ireturn (g_da dt_M_meets 59 rfl) rfl rfl rfl (g_nz rfl) (q_e h)
      · have h := o_f hc4 h
        refine G_iconst (g_da dt_M_meets 56 rfl) ?_
        refine G_goto (g_da dt_M_meets 57 rfl) rfl ?_
        exact G_ireturn (g_da dt_M_meets 59 rfl) rfl rfl rfl (g_nz rfl) (q_e h)
set_option maxHeartbeats 4000000 in
set_option maxRecDepth 100000 in
theorem M_meets_ok {J : gS → gS} {z0 : Int} {s0 : gS} {a0 a1 a2 a3 a4 a5 : Int} {s : gS} (h : M_meets a0 a1 a2 a3 a4 a5 s = some (z0, s0)) : Ct M_M_meets g_S [gi a0, gi a1, gi a2, gi a3, gi a4, gi a5] (J s) (QE g_S J z0 s0) := by
  refine Ct_of [some (gi a0), some (gi a1), some (gi a2), some (gi a3), some (gi a4), some (gi a5)] (plainFor_of_name (by decide)) rfl (Nat.le_of_ble_eq_true rfl) rfl (by decide) q_rE ?_
  unfold M_meets at h
  refine G_iload_n (g_da dt_M_meets 0 rfl) rfl rfl ?_
  refine G_iload (g_da dt_M_meets 1 rfl) rfl ?_
  refine G_icmp_gt (g_da dt_M_meets 2 rfl) rfl rfl rfl (fun hc1 => ?_) (fun hc1 => ?_)
  · have h := o_t hc1 h
    exact G_subK (M_meets_42_ok h) ⟨rfl, ⟨rfl, ⟨rfl, ⟨rfl, ⟨rfl, ⟨rfl, trivial⟩⟩⟩⟩⟩⟩
  · have h := o_f hc1 h
    refine G_iload (g_da dt_M_meets 3 rfl) rfl ?_
    refine G_iload_n (g_da dt_M_meets 4 rfl) rfl rfl ?_
    refine G_icmp_ge (g_da dt_M_meets 5 rfl) rfl rfl rfl (fun hc5 => ?_) (fun hc5 => ?_)
    · have h := o_t hc5 h
      exact G_subK (M_meets_42_ok h) ⟨rfl, ⟨rfl, ⟨rfl, ⟨rfl, ⟨rfl, ⟨rfl, trivial⟩⟩⟩⟩⟩⟩
    · have h := o_f hc5 h
      refine G_iload (g_da dt_M_meets 6 rfl) rfl ?_
      refine G_iload_n (g_da dt_M_meets 7 rfl) rfl rfl ?_
      refine G_isub (g_da dt_M_meets 8 rfl) ?_
      refine G_i2l (g_da dt_M_meets 9 rfl) ?_
      refine G_iload_n (g_da dt_M_meets 10 rfl) rfl rfl ?_
      refine G_iload_n (g_da dt_M_meets 11 rfl) rfl rfl ?_
      refine G_isub (g_da dt_M_meets 12 rfl) ?_
      refine G_i2l (g_da dt_M_meets 13 rfl) ?_
      refine G_lmul (g_da dt_M_meets 14 rfl) ?_
      refine G_iload (g_da dt_M_meets 15 rfl) rfl ?_
      refine G_iload_n (g_da dt_M_meets 16 rfl) rfl rfl ?_
      refine G_isub (g_da dt_M_meets 17 rfl) ?_
      refine G_i2l (g_da dt_M_meets 18 rfl) ?_
      refine G_iload_n (g_da dt_M_meets 19 rfl) rfl rfl ?_
      refine G_iload_n (g_da dt_M_meets 20 rfl) rfl rfl ?_
      refine G_isub (g_da dt_M_meets 21 rfl) ?_
      refine G_i2l (g_da dt_M_meets 22 rfl) ?_
      refine G_lmul (g_da dt_M_meets 23 rfl) ?_
      refine G_lcmp (g_da dt_M_meets 24 rfl) ?_
      refine G_if_gt (g_da dt_M_meets 25 rfl) rfl rfl  (fun hc6 => ?_) (fun hc6 => ?_)
      · have h := o_t hc6 h
        refine G_iconst (g_da dt_M_meets 28 rfl) ?_
        exact G_ireturn (g_da dt_M_meets 29 rfl) rfl rfl rfl (g_nz rfl) (q_e h)
      · have h := o_f hc6 h
        refine G_iconst (g_da dt_M_meets 26 rfl) ?_
        refine G_goto (g_da dt_M_meets 27 rfl) rfl ?_
        exact G_ireturn (g_da dt_M_meets 29 rfl) rfl rfl rfl (g_nz rfl) (q_e h)
set_option maxHeartbeats 4000000 in
set_option maxRecDepth 100000 in
theorem M_isIn_135_ok {J : gS → gS} (hJm : g_jm J) {z0 : Int} {s0 : gS} {k12 : Int → Int → Int → Int → Int → Int → Int → gS → gA} (hk12 : ∀ (l1 l2 l3 l4 l5 l6 l7 : Int) (s : gS), k12 l1 l2 l3 l4 l5 l6 l7 s = some (z0, s0) → G M_M_isIn (QE g_S J z0 s0) (g_S, 0, 0) (J s) 12 [some (.ref 49), some (gi l1), some (gi l2), some (gi l3), some (gi l4), some (gi l5), some (gi l6), some (gi l7), none, none, none] [])  {l1 l2 l3 l4 l6 l7 t0 t1 : Int} {s : gS} (h : M_isIn_135 k12 l1 l2 l3 l4 l6 l7 t0 t1 s = some (z0, s0)) : G M_M_isIn (QE g_S J z0 s0) (g_S, 0, 0) (J s) 135 [some (.ref 49), some (gi l1), some (gi l2), some (gi l3), some (gi l4), none, some (gi l6), some (gi l7), none, none, none] [gi t1, gi t0] := by
  unfold M_isIn_135 at h
  refine G_iadd (g_da dt_M_isIn 74 rfl) ?_
  refine H_topi (fun v16 e17 => ?_)
  have h := o_l h v16 e17
  refine G_istore (lv' := [_, _, _, _, _, _, _, _, none, none, none]) (g_da dt_M_isIn 75 rfl) (Nat.le_of_ble_eq_true rfl) rfl rfl ?_
  refine G_iinc (lv' := [_, _, _, _, _, _, _, _, none, none, none]) (g_da dt_M_isIn 76 rfl) rfl (Nat.le_of_ble_eq_true rfl) rfl rfl ?_
  refine G_goto (g_da dt_M_isIn 77 rfl) rfl ?_
  exact G_subK (hk12 _ _ _ _ _ _ _ _ h) ⟨rfl, ⟨rfl, ⟨rfl, ⟨rfl, ⟨rfl, ⟨rfl, ⟨rfl, ⟨rfl, trivial⟩⟩⟩⟩⟩⟩⟩⟩
set_option maxHeartbeats 4000000 in
set_option maxRecDepth 100000 in
theorem M_isIn_79_ok {J : gS → gS} (hJm : g_jm J) {z0 : Int} {s0 : gS} {k12 : Int → Int → Int → Int → Int → Int → Int → gS → gA} (hk12 : ∀ (l1 l2 l3 l4 l5 l6 l7 : Int) (s : gS), k12 l1 l2 l3 l4 l5 l6 l7 s = some (z0, s0) → G M_M_isIn (QE g_S J z0 s0) (g_S, 0, 0) (J s) 12 [some (.ref 49), some (gi l1), some (gi l2), some (gi l3), some (gi l4), some (gi l5), some (gi l6), some (gi l7), none, none, none] [])  {l1 l2 l3 l4 l5 l6 l7 t0 : Int} {s : gS} (h : M_isIn_79 k12 l1 l2 l3 l4 l5 l6 l7 t0 s = some (z0, s0)) : G M_M_isIn (QE g_S J z0 s0) (g_S, 0, 0) (J s) 79 [some (.ref 49), some (gi l1), some (gi l2), some (gi l3), some (gi l4), some (gi l5), some (gi l6), some (gi l7), none, none, none] [gi t0] := by
  unfold M_isIn_79 at h
  refine G_istore (lv' := [_, _, _, _, _, _, _, _, none, _, none]) (g_da dt_M_isIn 43 rfl) (Nat.le_of_ble_eq_true rfl) rfl rfl ?_
  refine G_aload_n (g_da dt_M_isIn 44 rfl) rfl rfl ?_
  refine G_getR (g_da dt_M_isIn 45 rfl) sh_49 fl_15_38 rfl ?_
  refine G_iload (g_da dt_M_isIn 46 rfl) rfl ?_
  obtain ⟨hb6, h⟩ := o_g h
  refine H_iaload (g_da dt_M_isIn 47 rfl) sh_59 (hJm 59 rfl) rfl hb6 rfl ?_
  refine G_aload_n (g_da dt_M_isIn 48 rfl) rfl rfl ?_
  refine G_getR (g_da dt_M_isIn 49 rfl) sh_49 fl_15_41 rfl ?_
  refine G_iload (g_da dt_M_isIn 50 rfl) rfl ?_
  obtain ⟨hb7, h⟩ := o_g h
  refine H_iaload (g_da dt_M_isIn 51 rfl) sh_60 (hJm 60 rfl) rfl hb7 rfl ?_
  refine G_aload_n (g_da dt_M_isIn 52 rfl) rfl rfl ?_
  refine G_getR (g_da dt_M_isIn 53 rfl) sh_49 fl_15_38 rfl ?_
  refine G_iload (g_da dt_M_isIn 54 rfl) rfl ?_
  obtain ⟨hb8, h⟩ := o_g h
  refine H_iaload (g_da dt_M_isIn 55 rfl) sh_59 (hJm 59 rfl) rfl hb8 rfl ?_
  refine G_aload_n (g_da dt_M_isIn 56 rfl) rfl rfl ?_
  refine G_getR (g_da dt_M_isIn 57 rfl) sh_49 fl_15_41 rfl ?_
  refine G_iload (g_da dt_M_isIn 58 rfl) rfl ?_
  obtain ⟨hb9, h⟩ := o_g h
  refine H_iaload (g_da dt_M_isIn 59 rfl) sh_60 (hJm 60 rfl) rfl hb9 rfl ?_
  refine G_iload_n (g_da dt_M_isIn 60 rfl) rfl rfl ?_
  refine G_iload_n (g_da dt_M_isIn 61 rfl) rfl rfl ?_
  obtain ⟨r10, s11, hc12, h⟩ := o_b h
  refine H_cSE (M_meets_ok hc12) (g_da dt_M_isIn 62 rfl) lk_15_289 ms_M_meets rfl rfl rfl rfl rfl rfl ?_
  refine G_istore (lv' := [_, _, _, _, _, _, _, _, none, _, _]) (g_da dt_M_isIn 63 rfl) (Nat.le_of_ble_eq_true rfl) rfl rfl ?_
  refine G_iload (g_da dt_M_isIn 64 rfl) rfl ?_
  refine G_iload (g_da dt_M_isIn 65 rfl) rfl ?_
  refine G_iadd (g_da dt_M_isIn 66 rfl) ?_
  refine H_topi (fun v13 e14 => ?_)
  have h := o_l h v13 e14
  refine G_istore (lv' := [_, _, _, _, _, _, _, _, none, _, _]) (g_da dt_M_isIn 67 rfl) (Nat.le_of_ble_eq_true rfl) rfl rfl ?_
  refine G_iload (g_da dt_M_isIn 68 rfl) rfl ?_
  refine G_iload (g_da dt_M_isIn 69 rfl) rfl ?_
  refine G_if_eq (g_da dt_M_isIn 70 rfl) rfl rfl  (fun hc15 => ?_) (fun hc15 => ?_)
  · have h := o_t hc15 h
    refine G_iconst (g_da dt_M_isIn 73 rfl) ?_
    exact G_subK (M_isIn_135_ok hJm hk12 h) ⟨rfl, ⟨rfl, ⟨rfl, ⟨rfl, ⟨rfl, ⟨rfl, ⟨rfl, trivial⟩⟩⟩⟩⟩⟩⟩
  · have h := o_f hc15 h
    refine G_iconst (g_da dt_M_isIn 71 rfl) ?_
    refine G_goto (g_da dt_M_isIn 72 rfl) rfl ?_
    exact G_subK (M_isIn_135_ok hJm hk12 h) ⟨rfl, ⟨rfl, ⟨rfl, ⟨rfl, ⟨rfl, ⟨rfl, ⟨rfl, trivial⟩⟩⟩⟩⟩⟩⟩
set_option maxHeartbeats 4000000 in
set_option maxRecDepth 100000 in
theorem M_isIn_63_ok {J : gS → gS} (hJm : g_jm J) {z0 : Int} {s0 : gS} {k12 : Int → Int → Int → Int → Int → Int → Int → gS → gA} (hk12 : ∀ (l1 l2 l3 l4 l5 l6 l7 : Int) (s : gS), k12 l1 l2 l3 l4 l5 l6 l7 s = some (z0, s0) → G M_M_isIn (QE g_S J z0 s0) (g_S, 0, 0) (J s) 12 [some (.ref 49), some (gi l1), some (gi l2), some (gi l3), some (gi l4), some (gi l5), some (gi l6), some (gi l7), none, none, none] [])  {l1 l2 l3 l4 l5 l6 l7 t0 : Int} {s : gS} (h : M_isIn_63 k12 l1 l2 l3 l4 l5 l6 l7 t0 s = some (z0, s0)) : G M_M_isIn (QE g_S J z0 s0) (g_S, 0, 0) (J s) 63 [some (.ref 49), some (gi l1), some (gi l2), some (gi l3), some (gi l4), some (gi l5), some (gi l6), some (gi l7), none, none, none] [gi t0] := by
  unfold M_isIn_63 at h
  refine G_istore (lv' := [_, _, _, _, _, _, _, _, _, none, none]) (g_da dt_M_isIn 35 rfl) (Nat.le_of_ble_eq_true rfl) rfl rfl ?_
  refine G_iload (g_da dt_M_isIn 36 rfl) rfl ?_
  refine G_if_eq (g_da dt_M_isIn 37 rfl) rfl rfl  (fun hc5 => ?_) (fun hc5 => ?_)
  · have h := o_t hc5 h
    refine G_iload (g_da dt_M_isIn 40 rfl) rfl ?_
    refine G_iconst (g_da dt_M_isIn 41 rfl) ?_
    refine G_iadd (g_da dt_M_isIn 42 rfl) ?_
    exact G_subK (M_isIn_79_ok hJm hk12 h) ⟨rfl, ⟨rfl, ⟨rfl, ⟨rfl, ⟨rfl, ⟨rfl, ⟨rfl, ⟨rfl, trivial⟩⟩⟩⟩⟩⟩⟩⟩
  · have h := o_f hc5 h
    refine G_iload (g_da dt_M_isIn 38 rfl) rfl ?_
    refine G_goto (g_da dt_M_isIn 39 rfl) rfl ?_
    exact G_subK (M_isIn_79_ok hJm hk12 h) ⟨rfl, ⟨rfl, ⟨rfl, ⟨rfl, ⟨rfl, ⟨rfl, ⟨rfl, ⟨rfl, trivial⟩⟩⟩⟩⟩⟩⟩⟩
set_option maxHeartbeats 4000000 in
set_option maxRecDepth 100000 in
theorem M_isIn_58_ok {J : gS → gS} (hJm : g_jm J) {z0 : Int} {s0 : gS} {k12 : Int → Int → Int → Int → Int → Int → Int → gS → gA} (hk12 : ∀ (l1 l2 l3 l4 l5 l6 l7 : Int) (s : gS), k12 l1 l2 l3 l4 l5 l6 l7 s = some (z0, s0) → G M_M_isIn (QE g_S J z0 s0) (g_S, 0, 0) (J s) 12 [some (.ref 49), some (gi l1), some (gi l2), some (gi l3), some (gi l4), some (gi l5), some (gi l6), some (gi l7), none, none, none] [])  {l1 l2 l3 l4 l5 l6 l7 : Int} {s : gS} (h : M_isIn_58 k12 l1 l2 l3 l4 l5 l6 l7 s = some (z0, s0)) : G M_M_isIn (QE g_S J z0 s0) (g_S, 0, 0) (J s) 58 [some (.ref 49), some (gi l1), some (gi l2), some (gi l3), some (gi l4), some (gi l5), some (gi l6), some (gi l7), none, none, none] [] := by
  unfold M_isIn_58 at h
  refine G_iconst (g_da dt_M_isIn 32 rfl) ?_
  refine G_goto (g_da dt_M_isIn 33 rfl) rfl ?_
  exact G_subK (M_isIn_63_ok hJm hk12 h) ⟨rfl, ⟨rfl, ⟨rfl, ⟨rfl, ⟨rfl, ⟨rfl, ⟨rfl, ⟨rfl, trivial⟩⟩⟩⟩⟩⟩⟩⟩
set_option maxHeartbeats 4000000 in
set_option maxRecDepth 100000 in
theorem M_isIn_35_ok {J : gS → gS} (hJm : g_jm J) {z0 : Int} {s0 : gS} {k12 : Int → Int → Int → Int → Int → Int → Int → gS → gA} (hk12 : ∀ (l1 l2 l3 l4 l5 l6 l7 : Int) (s : gS), k12 l1 l2 l3 l4 l5 l6 l7 s = some (z0, s0) → G M_M_isIn (QE g_S J z0 s0) (g_S, 0, 0) (J s) 12 [some (.ref 49), some (gi l1), some (gi l2), some (gi l3), some (gi l4), some (gi l5), some (gi l6), some (gi l7), none, none, none] [])  {l1 l2 l3 l4 l5 l6 l7 : Int} {s : gS} (h : M_isIn_35 k12 l1 l2 l3 l4 l5 l6 l7 s = some (z0, s0)) : G M_M_isIn (QE g_S J z0 s0) (g_S, 0, 0) (J s) 35 [some (.ref 49), some (gi l1), some (gi l2), some (gi l3), some (gi l4), some (gi l5), some (gi l6), some (gi l7), none, none, none] [] := by
  unfold M_isIn_35 at h
  refine G_iload (g_da dt_M_isIn 19 rfl) rfl ?_
  refine G_iconst (g_da dt_M_isIn 20 rfl) ?_
  refine G_iadd (g_da dt_M_isIn 21 rfl) ?_
  refine G_aload_n (g_da dt_M_isIn 22 rfl) rfl rfl ?_
  refine H_getI (g_da dt_M_isIn 23 rfl) sh_49 fl_15_220 rfl (hJm 49 rfl) ?_
  refine G_icmp_eq (g_da dt_M_isIn 24 rfl) rfl rfl rfl (fun hc4 => ?_) (fun hc4 => ?_)
  · have h := o_t hc4 h
    exact G_subK (M_isIn_58_ok hJm hk12 h) ⟨rfl, ⟨rfl, ⟨rfl, ⟨rfl, ⟨rfl, ⟨rfl, ⟨rfl, ⟨rfl, trivial⟩⟩⟩⟩⟩⟩⟩⟩
  · have h := o_f hc4 h
    refine G_aload_n (g_da dt_M_isIn 25 rfl) rfl rfl ?_
    refine G_getR (g_da dt_M_isIn 26 rfl) sh_49 fl_15_44 rfl ?_
    refine G_iload (g_da dt_M_isIn 27 rfl) rfl ?_
    refine G_iconst (g_da dt_M_isIn 28 rfl) ?_
    refine G_iadd (g_da dt_M_isIn 29 rfl) ?_
    obtain ⟨hb18, h⟩ := o_g h
    refine H_zaload (g_da dt_M_isIn 30 rfl) sh_61 (hJm 61 rfl) rfl hb18 rfl ?_
    refine G_if_eq (g_da dt_M_isIn 31 rfl) rfl rfl  (fun hc19 => ?_) (fun hc19 => ?_)
    · have h := o_t hc19 h
      refine G_iconst (g_da dt_M_isIn 34 rfl) ?_
      exact G_subK (M_isIn_63_ok hJm hk12 h) ⟨rfl, ⟨rfl, ⟨rfl, ⟨rfl, ⟨rfl, ⟨rfl, ⟨rfl, ⟨rfl, trivial⟩⟩⟩⟩⟩⟩⟩⟩
    · have h := o_f hc19 h
      exact G_subK (M_isIn_58_ok hJm hk12 h) ⟨rfl, ⟨rfl, ⟨rfl, ⟨rfl, ⟨rfl, ⟨rfl, ⟨rfl, ⟨rfl, trivial⟩⟩⟩⟩⟩⟩⟩⟩
set_option maxHeartbeats 4000000 in
set_option maxRecDepth 100000 in
theorem M_isIn_12_ok {J : gS → gS} (hJm : g_jm J) {z0 : Int} {s0 : gS} {k12 : Int → Int → Int → Int → Int → Int → Int → gS → gA} {k144 : Int → Int → Int → gS → gA} (hk12 : ∀ (l1 l2 l3 l4 l5 l6 l7 : Int) (s : gS), k12 l1 l2 l3 l4 l5 l6 l7 s = some (z0, s0) → G M_M_isIn (QE g_S J z0 s0) (g_S, 0, 0) (J s) 12 [some (.ref 49), some (gi l1), some (gi l2), some (gi l3), some (gi l4), some (gi l5), some (gi l6), some (gi l7), none, none, none] []) (hk144 : ∀ (l3 l4 l5 : Int) (s : gS), k144 l3 l4 l5 s = some (z0, s0) → G M_M_isIn (QE g_S J z0 s0) (g_S, 0, 0) (J s) 144 [none, none, none, some (gi l3), some (gi l4), some (gi l5), none, none, none, none, none] [])  {l1 l2 l3 l4 l5 l6 l7 : Int} {s : gS} (h : M_isIn_12 k12 k144 l1 l2 l3 l4 l5 l6 l7 s = some (z0, s0)) : G M_M_isIn (QE g_S J z0 s0) (g_S, 0, 0) (J s) 12 [some (.ref 49), some (gi l1), some (gi l2), some (gi l3), some (gi l4), some (gi l5), some (gi l6), some (gi l7), none, none, none] [] := by
  unfold M_isIn_12 at h
  refine G_iload (g_da dt_M_isIn 8 rfl) rfl ?_
  refine G_aload_n (g_da dt_M_isIn 9 rfl) rfl rfl ?_
  refine H_getI (g_da dt_M_isIn 10 rfl) sh_49 fl_15_220 rfl (hJm 49 rfl) ?_
  refine G_icmp_ge (g_da dt_M_isIn 11 rfl) rfl rfl rfl (fun hc1 => ?_) (fun hc1 => ?_)
  · have h := o_t hc1 h
    exact G_subK (hk144 _ _ _ _ h) ⟨rfl, ⟨rfl, ⟨rfl, trivial⟩⟩⟩
  · have h := o_f hc1 h
    refine G_aload_n (g_da dt_M_isIn 12 rfl) rfl rfl ?_
    refine G_getR (g_da dt_M_isIn 13 rfl) sh_49 fl_15_44 rfl ?_
    refine G_iload (g_da dt_M_isIn 14 rfl) rfl ?_
    obtain ⟨hb2, h⟩ := o_g h
    refine H_zaload (g_da dt_M_isIn 15 rfl) sh_61 (hJm 61 rfl) rfl hb2 rfl ?_
    refine G_if_eq (g_da dt_M_isIn 16 rfl) rfl rfl  (fun hc3 => ?_) (fun hc3 => ?_)
    · have h := o_t hc3 h
      exact G_subK (M_isIn_35_ok hJm hk12 h) ⟨rfl, ⟨rfl, ⟨rfl, ⟨rfl, ⟨rfl, ⟨rfl, ⟨rfl, ⟨rfl, trivial⟩⟩⟩⟩⟩⟩⟩⟩
    · have h := o_f hc3 h
      refine G_iload (g_da dt_M_isIn 17 rfl) rfl ?_
      refine G_istore (lv' := [_, _, _, _, _, _, _, _, none, none, none]) (g_da dt_M_isIn 18 rfl) (Nat.le_of_ble_eq_true rfl) rfl rfl ?_
      exact G_subK (M_isIn_35_ok hJm hk12 h) ⟨rfl, ⟨rfl, ⟨rfl, ⟨rfl, ⟨rfl, ⟨rfl, ⟨rfl, ⟨rfl, trivial⟩⟩⟩⟩⟩⟩⟩⟩
set_option maxHeartbeats 4000000 in
set_option maxRecDepth 100000 in
theorem M_isIn_12L_ok {J : gS → gS} (hJm : g_jm J) {z0 : Int} {s0 : gS} {k144 : Int → Int → Int → gS → gA} (hk144 : ∀ (l3 l4 l5 : Int) (s : gS), k144 l3 l4 l5 s = some (z0, s0) → G M_M_isIn (QE g_S J z0 s0) (g_S, 0, 0) (J s) 144 [none, none, none, some (gi l3), some (gi l4), some (gi l5), none, none, none, none, none] []) : ∀ (n : Nat) {l1 l2 l3 l4 l5 l6 l7 : Int} {s : gS}, M_isIn_12L k144 n l1 l2 l3 l4 l5 l6 l7 s = some (z0, s0) → G M_M_isIn (QE g_S J z0 s0) (g_S, 0, 0) (J s) 12 [some (.ref 49), some (gi l1), some (gi l2), some (gi l3), some (gi l4), some (gi l5), some (gi l6), some (gi l7), none, none, none] [] := by
  intro n
  induction n with
  | zero => intro _ _ _ _ _ _ _ _ h; cases h
  | succ n ih => intro _ _ _ _ _ _ _ _ h; exact M_isIn_12_ok hJm (fun _ _ _ _ _ _ _ _ h => ih h) hk144 h
set_option maxHeartbeats 4000000 in
set_option maxRecDepth 100000 in
theorem M_isIn_144_ok {J : gS → gS} (hJm : g_jm J) {z0 : Int} {s0 : gS}  {l3 l4 l5 : Int} {s : gS} (h : M_isIn_144 l3 l4 l5 s = some (z0, s0)) : G M_M_isIn (QE g_S J z0 s0) (g_S, 0, 0) (J s) 144 [none, none, none, some (gi l3), some (gi l4), some (gi l5), none, none, none, none, none] [] := by
  unfold M_isIn_144 at h
  refine G_iload_n (g_da dt_M_isIn 78 rfl) rfl rfl ?_
  refine G_if_eq (g_da dt_M_isIn 79 rfl) rfl rfl  (fun hc20 => ?_) (fun hc20 => ?_)
  · have h := o_t hc20 h
    refine G_iload (g_da dt_M_isIn 86 rfl) rfl ?_
    refine G_iconst (g_da dt_M_isIn 87 rfl) ?_
    refine G_irem (g_da dt_M_isIn 88 rfl) (by rw [w_2]; decide) ?_
    refine G_iconst (g_da dt_M_isIn 89 rfl) ?_
    refine G_icmp_ne (g_da dt_M_isIn 90 rfl) rfl rfl w_1 (fun hc22 => ?_) (fun hc22 => ?_)
    · have h := o_f hc22 h
      refine G_iconst (g_da dt_M_isIn 93 rfl) ?_
      exact G_ireturn (g_da dt_M_isIn 94 rfl) rfl (g_bool (Or.inl w_0)).1 rfl (g_nz rfl) (q_e h)
    · have h := o_t hc22 h
      refine G_iconst (g_da dt_M_isIn 91 rfl) ?_
      refine G_goto (g_da dt_M_isIn 92 rfl) rfl ?_
      exact G_ireturn (g_da dt_M_isIn 94 rfl) rfl (g_bool (Or.inr w_1)).1 rfl (g_nz rfl) (q_e h)
  · have h := o_f hc20 h
    refine G_iload (g_da dt_M_isIn 80 rfl) rfl ?_
    refine G_if_eq (g_da dt_M_isIn 81 rfl) rfl rfl  (fun hc23 => ?_) (fun hc23 => ?_)
    · have h := o_t hc23 h
      refine G_iconst (g_da dt_M_isIn 84 rfl) ?_
      refine G_goto (g_da dt_M_isIn 85 rfl) rfl ?_
      exact G_ireturn (g_da dt_M_isIn 94 rfl) rfl (g_bool (Or.inl w_0)).1 rfl (g_nz rfl) (q_e h)
    · have h := o_f hc23 h
      refine G_iconst (g_da dt_M_isIn 82 rfl) ?_
      refine G_goto (g_da dt_M_isIn 83 rfl) rfl ?_
      exact G_ireturn (g_da dt_M_isIn 94 rfl) rfl (g_bool (Or.inr w_1)).1 rfl (g_nz rfl) (q_e h)
set_option maxHeartbeats 4000000 in
set_option maxRecDepth 100000 in
theorem M_isIn_ok {J : gS → gS} (hJm : g_jm J) {z0 : Int} {s0 : gS} {a1 a2 a3 : Int} {s : gS} (h : M_isIn a1 a2 a3 s = some (z0, s0)) : Ct M_M_isIn g_S [.ref 49, gi a1, gi a2, gi a3] (J s) (QE g_S J z0 s0) := by
  refine Ct_of [some (.ref 49), some (gi a1), some (gi a2), some (gi a3), none, none, none, none, none, none, none] (plainFor_of_name (by decide)) rfl (Nat.le_of_ble_eq_true rfl) rfl (by decide) q_rE ?_
  unfold M_isIn at h
  refine G_iconst (g_da dt_M_isIn 0 rfl) ?_
  refine G_istore (lv' := [_, _, _, _, _, none, none, none, none, none, none]) (g_da dt_M_isIn 1 rfl) (Nat.le_of_ble_eq_true rfl) rfl rfl ?_
  refine G_iconst (g_da dt_M_isIn 2 rfl) ?_
  refine G_istore (lv' := [_, _, _, _, _, _, none, none, none, none, none]) (g_da dt_M_isIn 3 rfl) (Nat.le_of_ble_eq_true rfl) rfl rfl ?_
  refine G_iconst (g_da dt_M_isIn 4 rfl) ?_
  refine G_istore (lv' := [_, _, _, _, _, _, _, none, none, none, none]) (g_da dt_M_isIn 5 rfl) (Nat.le_of_ble_eq_true rfl) rfl rfl ?_
  refine G_iconst (g_da dt_M_isIn 6 rfl) ?_
  refine G_istore (lv' := [_, _, _, _, _, _, _, _, none, none, none]) (g_da dt_M_isIn 7 rfl) (Nat.le_of_ble_eq_true rfl) rfl rfl ?_
  exact G_subK (M_isIn_12L_ok hJm (fun _ _ _ _ h => M_isIn_144_ok hJm h) gFu h) ⟨rfl, ⟨rfl, ⟨rfl, ⟨rfl, ⟨rfl, ⟨rfl, ⟨rfl, ⟨rfl, trivial⟩⟩⟩⟩⟩⟩⟩⟩
set_option maxHeartbeats 4000000 in
set_option maxRecDepth 100000 in
theorem M_look_94_ok {J : gS → gS} (hJm : g_jm J) {z0 : Int} {s0 : gS} {k16 : Int → Int → Int → Int → Int → gS → gA} (hk16 : ∀ (l1 l2 l3 l4 l5 : Int) (s : gS), k16 l1 l2 l3 l4 l5 s = some (z0, s0) → G M_M_look (QE g_S J z0 s0) (g_S, 0, 0) (J s) 16 [some (.ref 49), some (gi l1), some (gi l2), some (gi l3), some (gi l4), some (gi l5), none] [])  {l1 l3 l5 l6 t0 t1 : Int} {s : gS} (h : M_look_94 k16 l1 l3 l5 l6 t0 t1 s = some (z0, s0)) : G M_M_look (QE g_S J z0 s0) (g_S, 0, 0) (J s) 94 [some (.ref 49), some (gi l1), none, some (gi l3), none, some (gi l5), some (gi l6)] [gi t1, gi t0] := by
  unfold M_look_94 at h
  refine G_iadd (g_da dt_M_look 57 rfl) ?_
  refine H_topi (fun v12 e13 => ?_)
  have h := o_l h v12 e13
  refine G_istore_n (lv' := [_, _, _, _, none, _, _]) (g_da dt_M_look 58 rfl) rfl (Nat.le_of_ble_eq_true rfl) rfl rfl ?_
  refine G_aload_n (g_da dt_M_look 59 rfl) rfl rfl ?_
  refine G_getR (g_da dt_M_look 60 rfl) sh_49 fl_15_56 rfl ?_
  refine G_iload (g_da dt_M_look 61 rfl) rfl ?_
  obtain ⟨hb14, h⟩ := o_g h
  refine H_zaload (g_da dt_M_look 62 rfl) sh_65 (hJm 65 rfl) rfl hb14 rfl ?_
  refine H_topi (fun v15 e16 => ?_)
  have h := o_l h v15 e16
  refine G_istore (lv' := [_, _, _, _, _, _, _]) (g_da dt_M_look 63 rfl) (Nat.le_of_ble_eq_true rfl) rfl rfl ?_
  refine G_iinc (lv' := [_, _, _, _, _, _, _]) (g_da dt_M_look 64 rfl) rfl (Nat.le_of_ble_eq_true rfl) rfl rfl ?_
  refine G_goto (g_da dt_M_look 65 rfl) rfl ?_
  exact G_subK (hk16 _ _ _ _ _ _ h) ⟨rfl, ⟨rfl, ⟨rfl, ⟨rfl, ⟨rfl, ⟨rfl, trivial⟩⟩⟩⟩⟩⟩
set_option maxHeartbeats 4000000 in
set_option maxRecDepth 100000 in
theorem M_look_93_ok {J : gS → gS} (hJm : g_jm J) {z0 : Int} {s0 : gS} {k16 : Int → Int → Int → Int → Int → gS → gA} (hk16 : ∀ (l1 l2 l3 l4 l5 : Int) (s : gS), k16 l1 l2 l3 l4 l5 s = some (z0, s0) → G M_M_look (QE g_S J z0 s0) (g_S, 0, 0) (J s) 16 [some (.ref 49), some (gi l1), some (gi l2), some (gi l3), some (gi l4), some (gi l5), none] [])  {l1 l3 l5 l6 t0 : Int} {s : gS} (h : M_look_93 k16 l1 l3 l5 l6 t0 s = some (z0, s0)) : G M_M_look (QE g_S J z0 s0) (g_S, 0, 0) (J s) 93 [some (.ref 49), some (gi l1), none, some (gi l3), none, some (gi l5), some (gi l6)] [gi t0] := by
  unfold M_look_93 at h
  refine G_iconst (g_da dt_M_look 56 rfl) ?_
  exact G_subK (M_look_94_ok hJm hk16 h) ⟨rfl, ⟨rfl, ⟨rfl, ⟨rfl, ⟨rfl, trivial⟩⟩⟩⟩⟩
set_option maxHeartbeats 4000000 in
set_option maxRecDepth 100000 in
theorem M_look_72_ok {J : gS → gS} (hJm : g_jm J) {z0 : Int} {s0 : gS} {k16 : Int → Int → Int → Int → Int → gS → gA} (hk16 : ∀ (l1 l2 l3 l4 l5 : Int) (s : gS), k16 l1 l2 l3 l4 l5 s = some (z0, s0) → G M_M_look (QE g_S J z0 s0) (g_S, 0, 0) (J s) 16 [some (.ref 49), some (gi l1), some (gi l2), some (gi l3), some (gi l4), some (gi l5), none] [])  {l1 l2 l3 l4 l5 l6 t1 t2 : Int} {s : gS} (h : M_look_72 k16 l1 l2 l3 l4 l5 l6 t1 t2 s = some (z0, s0)) : G M_M_look (QE g_S J z0 s0) (g_S, 0, 0) (J s) 72 [some (.ref 49), some (gi l1), some (gi l2), some (gi l3), some (gi l4), some (gi l5), some (gi l6)] [gi t2, gi t1, .ref 65] := by
  unfold M_look_72 at h
  obtain ⟨hb7, h⟩ := o_g h
  refine H_zastore (g_da dt_M_look 45 rfl) sh_65 (hJm 65 rfl) rfl hb7 rfl (fun s8 e9 => ?_)
  have h := o_l h s8 e9
  refine G_iload_n (g_da dt_M_look 46 rfl) rfl rfl ?_
  refine G_aload_n (g_da dt_M_look 47 rfl) rfl rfl ?_
  refine G_getR (g_da dt_M_look 48 rfl) sh_49 fl_15_56 rfl ?_
  refine G_iload (g_da dt_M_look 49 rfl) rfl ?_
  obtain ⟨hb10, h⟩ := o_g h
  refine H_zaload (g_da dt_M_look 50 rfl) sh_65 (hJm 65 rfl) rfl hb10 rfl ?_
  refine G_if_eq (g_da dt_M_look 51 rfl) rfl rfl  (fun hc11 => ?_) (fun hc11 => ?_)
  · have h := o_t hc11 h
    exact G_subK (M_look_93_ok hJm hk16 h) ⟨rfl, ⟨rfl, ⟨rfl, ⟨rfl, ⟨rfl, trivial⟩⟩⟩⟩⟩
  · have h := o_f hc11 h
    refine G_iload (g_da dt_M_look 52 rfl) rfl ?_
    refine G_if_ne (g_da dt_M_look 53 rfl) rfl rfl  (fun hc17 => ?_) (fun hc17 => ?_)
    · have h := o_f hc17 h
      exact G_subK (M_look_93_ok hJm hk16 h) ⟨rfl, ⟨rfl, ⟨rfl, ⟨rfl, ⟨rfl, trivial⟩⟩⟩⟩⟩
    · have h := o_t hc17 h
      refine G_iconst (g_da dt_M_look 54 rfl) ?_
      refine G_goto (g_da dt_M_look 55 rfl) rfl ?_
      exact G_subK (M_look_94_ok hJm hk16 h) ⟨rfl, ⟨rfl, ⟨rfl, ⟨rfl, ⟨rfl, trivial⟩⟩⟩⟩⟩
set_option maxHeartbeats 4000000 in
set_option maxRecDepth 100000 in
theorem M_look_71_ok {J : gS → gS} (hJm : g_jm J) {z0 : Int} {s0 : gS} {k16 : Int → Int → Int → Int → Int → gS → gA} (hk16 : ∀ (l1 l2 l3 l4 l5 : Int) (s : gS), k16 l1 l2 l3 l4 l5 s = some (z0, s0) → G M_M_look (QE g_S J z0 s0) (g_S, 0, 0) (J s) 16 [some (.ref 49), some (gi l1), some (gi l2), some (gi l3), some (gi l4), some (gi l5), none] [])  {l1 l2 l3 l4 l5 l6 t1 : Int} {s : gS} (h : M_look_71 k16 l1 l2 l3 l4 l5 l6 t1 s = some (z0, s0)) : G M_M_look (QE g_S J z0 s0) (g_S, 0, 0) (J s) 71 [some (.ref 49), some (gi l1), some (gi l2), some (gi l3), some (gi l4), some (gi l5), some (gi l6)] [gi t1, .ref 65] := by
  unfold M_look_71 at h
  refine G_iconst (g_da dt_M_look 44 rfl) ?_
  exact G_subK (M_look_72_ok hJm hk16 h) ⟨rfl, ⟨rfl, ⟨rfl, ⟨rfl, ⟨rfl, ⟨rfl, ⟨rfl, trivial⟩⟩⟩⟩⟩⟩⟩
set_option maxHeartbeats 4000000 in
set_option maxRecDepth 100000 in
theorem M_look_16_ok {J : gS → gS} (hJm : g_jm J) {z0 : Int} {s0 : gS} {k16 : Int → Int → Int → Int → Int → gS → gA} {k111 : Int → Int → Int → gS → gA} (hk16 : ∀ (l1 l2 l3 l4 l5 : Int) (s : gS), k16 l1 l2 l3 l4 l5 s = some (z0, s0) → G M_M_look (QE g_S J z0 s0) (g_S, 0, 0) (J s) 16 [some (.ref 49), some (gi l1), some (gi l2), some (gi l3), some (gi l4), some (gi l5), none] []) (hk111 : ∀ (l1 l2 l3 : Int) (s : gS), k111 l1 l2 l3 s = some (z0, s0) → G M_M_look (QE g_S J z0 s0) (g_S, 0, 0) (J s) 111 [some (.ref 49), some (gi l1), some (gi l2), some (gi l3), none, none, none] [])  {l1 l2 l3 l4 l5 : Int} {s : gS} (h : M_look_16 k16 k111 l1 l2 l3 l4 l5 s = some (z0, s0)) : G M_M_look (QE g_S J z0 s0) (g_S, 0, 0) (J s) 16 [some (.ref 49), some (gi l1), some (gi l2), some (gi l3), some (gi l4), some (gi l5), none] [] := by
  unfold M_look_16 at h
  refine G_iload (g_da dt_M_look 11 rfl) rfl ?_
  refine G_bipush (g_da dt_M_look 12 rfl) b8w_64 ?_
  refine G_icmp_ge (g_da dt_M_look 13 rfl) rfl rfl w_64 (fun hc2 => ?_) (fun hc2 => ?_)
  · have h := o_t hc2 h
    exact G_subK (hk111 _ _ _ _ h) ⟨rfl, ⟨rfl, ⟨rfl, ⟨rfl, trivial⟩⟩⟩⟩
  · have h := o_f hc2 h
    refine G_bipush (g_da dt_M_look 14 rfl) b8w_64 ?_
    refine G_iload_n (g_da dt_M_look 15 rfl) rfl rfl ?_
    refine G_imul (g_da dt_M_look 16 rfl) ?_
    refine G_iload (g_da dt_M_look 17 rfl) rfl ?_
    refine G_iadd (g_da dt_M_look 18 rfl) ?_
    refine H_topi (fun v3 e4 => ?_)
    have h := o_l h v3 e4
    refine G_istore (lv' := [_, _, _, _, _, _, _]) (g_da dt_M_look 19 rfl) (Nat.le_of_ble_eq_true rfl) rfl rfl ?_
    refine G_aload_n (g_da dt_M_look 20 rfl) rfl rfl ?_
    refine G_getR (g_da dt_M_look 21 rfl) sh_49 fl_15_56 rfl ?_
    refine G_iload (g_da dt_M_look 22 rfl) rfl ?_
    refine G_aload_n (g_da dt_M_look 23 rfl) rfl rfl ?_
    refine G_getR (g_da dt_M_look 24 rfl) sh_49 fl_15_50 rfl ?_
    refine G_iload (g_da dt_M_look 25 rfl) rfl ?_
    obtain ⟨hb5, h⟩ := o_g h
    refine H_zaload (g_da dt_M_look 26 rfl) sh_63 (hJm 63 rfl) rfl hb5 rfl ?_
    refine G_if_eq (g_da dt_M_look 27 rfl) rfl rfl  (fun hc6 => ?_) (fun hc6 => ?_)
    · have h := o_t hc6 h
      exact G_subK (M_look_71_ok hJm hk16 h) ⟨rfl, ⟨rfl, ⟨rfl, ⟨rfl, ⟨rfl, ⟨rfl, ⟨rfl, trivial⟩⟩⟩⟩⟩⟩⟩
    · have h := o_f hc6 h
      refine G_aload_n (g_da dt_M_look 28 rfl) rfl rfl ?_
      refine G_iconst (g_da dt_M_look 29 rfl) ?_
      refine G_iload (g_da dt_M_look 30 rfl) rfl ?_
      refine G_imul (g_da dt_M_look 31 rfl) ?_
      refine G_iconst (g_da dt_M_look 32 rfl) ?_
      refine G_iadd (g_da dt_M_look 33 rfl) ?_
      refine G_iconst (g_da dt_M_look 34 rfl) ?_
      refine G_iload_n (g_da dt_M_look 35 rfl) rfl rfl ?_
      refine G_imul (g_da dt_M_look 36 rfl) ?_
      refine G_iconst (g_da dt_M_look 37 rfl) ?_
      refine G_iadd (g_da dt_M_look 38 rfl) ?_
      refine G_iload_n (g_da dt_M_look 39 rfl) rfl rfl ?_
      obtain ⟨r18, s19, hc20, h⟩ := o_b h
      refine H_cVE (M_isIn_ok hJm hc20) (g_da dt_M_look 40 rfl) lk_15_293 mv_M_isIn rfl sh_49 rfl rfl rfl rfl rfl rfl ?_
      refine G_if_eq (g_da dt_M_look 41 rfl) rfl rfl  (fun hc21 => ?_) (fun hc21 => ?_)
      · have h := o_t hc21 h
        exact G_subK (M_look_71_ok hJm hk16 h) ⟨rfl, ⟨rfl, ⟨rfl, ⟨rfl, ⟨rfl, ⟨rfl, ⟨rfl, trivial⟩⟩⟩⟩⟩⟩⟩
      · have h := o_f hc21 h
        refine G_iconst (g_da dt_M_look 42 rfl) ?_
        refine G_goto (g_da dt_M_look 43 rfl) rfl ?_
        exact G_subK (M_look_72_ok hJm hk16 h) ⟨rfl, ⟨rfl, ⟨rfl, ⟨rfl, ⟨rfl, ⟨rfl, ⟨rfl, trivial⟩⟩⟩⟩⟩⟩⟩
set_option maxHeartbeats 4000000 in
set_option maxRecDepth 100000 in
theorem M_look_16L_ok {J : gS → gS} (hJm : g_jm J) {z0 : Int} {s0 : gS} {k111 : Int → Int → Int → gS → gA} (hk111 : ∀ (l1 l2 l3 : Int) (s : gS), k111 l1 l2 l3 s = some (z0, s0) → G M_M_look (QE g_S J z0 s0) (g_S, 0, 0) (J s) 111 [some (.ref 49), some (gi l1), some (gi l2), some (gi l3), none, none, none] []) : ∀ (n : Nat) {l1 l2 l3 l4 l5 : Int} {s : gS}, M_look_16L k111 n l1 l2 l3 l4 l5 s = some (z0, s0) → G M_M_look (QE g_S J z0 s0) (g_S, 0, 0) (J s) 16 [some (.ref 49), some (gi l1), some (gi l2), some (gi l3), some (gi l4), some (gi l5), none] [] := by
  intro n
  induction n with
  | zero => intro _ _ _ _ _ _ h; cases h
  | succ n ih => intro _ _ _ _ _ _ h; exact M_look_16_ok hJm (fun _ _ _ _ _ _ h => ih h) hk111 h
set_option maxHeartbeats 4000000 in
set_option maxRecDepth 100000 in
theorem M_look_111_ok {J : gS → gS} (hJm : g_jm J) {z0 : Int} {s0 : gS} {k4 : Int → Int → Int → gS → gA} (hk4 : ∀ (l1 l2 l3 : Int) (s : gS), k4 l1 l2 l3 s = some (z0, s0) → G M_M_look (QE g_S J z0 s0) (g_S, 0, 0) (J s) 4 [some (.ref 49), some (gi l1), some (gi l2), some (gi l3), none, none, none] [])  {l1 l2 l3 : Int} {s : gS} (h : M_look_111 k4 l1 l2 l3 s = some (z0, s0)) : G M_M_look (QE g_S J z0 s0) (g_S, 0, 0) (J s) 111 [some (.ref 49), some (gi l1), some (gi l2), some (gi l3), none, none, none] [] := by
  unfold M_look_111 at h
  refine G_iinc (lv' := [_, _, _, _, none, none, none]) (g_da dt_M_look 66 rfl) rfl (Nat.le_of_ble_eq_true rfl) rfl rfl ?_
  refine G_goto (g_da dt_M_look 67 rfl) rfl ?_
  exact G_subK (hk4 _ _ _ _ h) ⟨rfl, ⟨rfl, ⟨rfl, ⟨rfl, trivial⟩⟩⟩⟩
set_option maxHeartbeats 4000000 in
set_option maxRecDepth 100000 in
theorem M_look_4_ok {J : gS → gS} (hJm : g_jm J) {z0 : Int} {s0 : gS} {k4 : Int → Int → Int → gS → gA} (hk4 : ∀ (l1 l2 l3 : Int) (s : gS), k4 l1 l2 l3 s = some (z0, s0) → G M_M_look (QE g_S J z0 s0) (g_S, 0, 0) (J s) 4 [some (.ref 49), some (gi l1), some (gi l2), some (gi l3), none, none, none] [])  {l1 l2 l3 : Int} {s : gS} (h : M_look_4 k4 l1 l2 l3 s = some (z0, s0)) : G M_M_look (QE g_S J z0 s0) (g_S, 0, 0) (J s) 4 [some (.ref 49), some (gi l1), some (gi l2), some (gi l3), none, none, none] [] := by
  unfold M_look_4 at h
  refine G_iload_n (g_da dt_M_look 4 rfl) rfl rfl ?_
  refine G_bipush (g_da dt_M_look 5 rfl) b8w_48 ?_
  refine G_icmp_ge (g_da dt_M_look 6 rfl) rfl rfl w_48 (fun hc1 => ?_) (fun hc1 => ?_)
  · have h := o_t hc1 h
    refine G_iload_n (g_da dt_M_look 68 rfl) rfl rfl ?_
    exact G_ireturn (g_da dt_M_look 69 rfl) rfl rfl rfl (g_nz rfl) (q_e h)
  · have h := o_f hc1 h
    refine G_iconst (g_da dt_M_look 7 rfl) ?_
    refine G_istore (lv' := [_, _, _, _, _, none, none]) (g_da dt_M_look 8 rfl) (Nat.le_of_ble_eq_true rfl) rfl rfl ?_
    refine G_iconst (g_da dt_M_look 9 rfl) ?_
    refine G_istore (lv' := [_, _, _, _, _, _, none]) (g_da dt_M_look 10 rfl) (Nat.le_of_ble_eq_true rfl) rfl rfl ?_
    exact G_subK (M_look_16L_ok hJm (fun _ _ _ _ h => M_look_111_ok hJm hk4 h) gFu h) ⟨rfl, ⟨rfl, ⟨rfl, ⟨rfl, ⟨rfl, ⟨rfl, trivial⟩⟩⟩⟩⟩⟩
set_option maxHeartbeats 4000000 in
set_option maxRecDepth 100000 in
theorem M_look_4L_ok {J : gS → gS} (hJm : g_jm J) {z0 : Int} {s0 : gS} : ∀ (n : Nat) {l1 l2 l3 : Int} {s : gS}, M_look_4L n l1 l2 l3 s = some (z0, s0) → G M_M_look (QE g_S J z0 s0) (g_S, 0, 0) (J s) 4 [some (.ref 49), some (gi l1), some (gi l2), some (gi l3), none, none, none] [] := by
  intro n
  induction n with
  | zero => intro _ _ _ _ h; cases h
  | succ n ih => intro _ _ _ _ h; exact M_look_4_ok hJm (fun _ _ _ _ h => ih h) h
set_option maxHeartbeats 4000000 in
set_option maxRecDepth 100000 in
theorem M_look_ok {J : gS → gS} (hJm : g_jm J) {z0 : Int} {s0 : gS} {a1 : Int} {s : gS} (h : M_look a1 s = some (z0, s0)) : Ct M_M_look g_S [.ref 49, gi a1] (J s) (QE g_S J z0 s0) := by
  refine Ct_of [some (.ref 49), some (gi a1), none, none, none, none, none] (plainFor_of_name (by decide)) rfl (Nat.le_of_ble_eq_true rfl) rfl (by decide) q_rE ?_
  unfold M_look at h
  refine G_iconst (g_da dt_M_look 0 rfl) ?_
  refine G_istore_n (lv' := [_, _, _, none, none, none, none]) (g_da dt_M_look 1 rfl) rfl (Nat.le_of_ble_eq_true rfl) rfl rfl ?_
  refine G_iconst (g_da dt_M_look 2 rfl) ?_
  refine G_istore_n (lv' := [_, _, _, _, none, none, none]) (g_da dt_M_look 3 rfl) rfl (Nat.le_of_ble_eq_true rfl) rfl rfl ?_
  exact G_subK (M_look_4L_ok hJm gFu h) ⟨rfl, ⟨rfl, ⟨rfl, ⟨rfl, trivial⟩⟩⟩⟩
set_option maxHeartbeats 4000000 in
set_option maxRecDepth 100000 in
theorem M_noPath_ok {J : gS → gS} (hJm : g_jm J) {z0 : Int} {s0 : gS} {s : gS} (h : M_noPath s = some (z0, s0)) : Ct M_M_noPath g_S [.ref 49] (J s) (QG g_S J z0 s0) := by
  refine Ct_of [some (.ref 49)] (plainFor_of_name (by decide)) rfl (Nat.le_of_ble_eq_true rfl) rfl (by decide) q_rG ?_
  unfold M_noPath at h
  refine G_aload_n (g_da dt_M_noPath 0 rfl) rfl rfl ?_
  refine G_iconst (g_da dt_M_noPath 1 rfl) ?_
  refine H_putI (g_da dt_M_noPath 2 rfl) sh_49 fp_15_220 rfl (hJm 49 rfl) (fun s1 e2 => ?_)
  have h := o_l h s1 e2
  refine G_aload_n (g_da dt_M_noPath 3 rfl) rfl rfl ?_
  refine G_iconst (g_da dt_M_noPath 4 rfl) ?_
  refine H_putZ (g_da dt_M_noPath 5 rfl) sh_49 fp_15_217 rfl (hJm 49 rfl) (Or.inl w_0) (fun s3 e4 => ?_)
  have h := o_l h s3 e4
  refine G_aload_n (g_da dt_M_noPath 6 rfl) rfl rfl ?_
  refine G_iconst (g_da dt_M_noPath 7 rfl) ?_
  refine H_putZ (g_da dt_M_noPath 8 rfl) sh_49 fp_15_203 rfl (hJm 49 rfl) (Or.inl w_0) (fun s5 e6 => ?_)
  have h := o_l h s5 e6
  exact G_return (g_da dt_M_noPath 9 rfl) rfl rfl (g_nz rfl) (q_g h)
set_option maxHeartbeats 4000000 in
set_option maxRecDepth 100000 in
theorem M_cut_8_ok {J : gS → gS} (hJm : g_jm J) {z0 : Int} {s0 : gS} {k8 : Int → gS → gA} (hk8 : ∀ (l1 : Int) (s : gS), k8 l1 s = some (z0, s0) → G M_M_cut (QG g_S J z0 s0) (g_S, 0, 0) (J s) 8 [some (.ref 49), some (gi l1)] [])  {l1 : Int} {s : gS} (h : M_cut_8 k8 l1 s = some (z0, s0)) : G M_M_cut (QG g_S J z0 s0) (g_S, 0, 0) (J s) 8 [some (.ref 49), some (gi l1)] [] := by
  unfold M_cut_8 at h
  refine G_iload_n (g_da dt_M_cut 6 rfl) rfl rfl ?_
  refine G_sipush (g_da dt_M_cut 7 rfl) s16w_3072 ?_
  refine G_icmp_ge (g_da dt_M_cut 8 rfl) rfl rfl w_3072 (fun hc4 => ?_) (fun hc4 => ?_)
  · have h := o_t hc4 h
    refine G_aload_n (g_da dt_M_cut 19 rfl) rfl rfl ?_
    obtain ⟨r5, s6, hc7, h⟩ := o_b h
    refine H_cVG (M_noPath_ok hJm hc7) (g_da dt_M_cut 20 rfl) lk_15_154 mv_M_noPath rfl sh_49 rfl rfl rfl rfl rfl rfl ?_
    exact G_return (g_da dt_M_cut 21 rfl) rfl rfl (g_nz rfl) (q_g h)
  · have h := o_f hc4 h
    refine G_aload_n (g_da dt_M_cut 9 rfl) rfl rfl ?_
    refine G_getR (g_da dt_M_cut 10 rfl) sh_49 fl_15_50 rfl ?_
    refine G_iload_n (g_da dt_M_cut 11 rfl) rfl rfl ?_
    refine G_aload_n (g_da dt_M_cut 12 rfl) rfl rfl ?_
    refine G_getR (g_da dt_M_cut 13 rfl) sh_49 fl_15_56 rfl ?_
    refine G_iload_n (g_da dt_M_cut 14 rfl) rfl rfl ?_
    obtain ⟨hb8, h⟩ := o_g h
    refine H_zaload (g_da dt_M_cut 15 rfl) sh_65 (hJm 65 rfl) rfl hb8 rfl ?_
    obtain ⟨hb9, h⟩ := o_g h
    refine H_zastore (g_da dt_M_cut 16 rfl) sh_63 (hJm 63 rfl) rfl hb9 rfl (fun s10 e11 => ?_)
    have h := o_l h s10 e11
    refine G_iinc (lv' := [_, _]) (g_da dt_M_cut 17 rfl) rfl (Nat.le_of_ble_eq_true rfl) rfl rfl ?_
    refine G_goto (g_da dt_M_cut 18 rfl) rfl ?_
    exact G_subK (hk8 _ _ h) ⟨rfl, ⟨rfl, trivial⟩⟩
set_option maxHeartbeats 4000000 in
set_option maxRecDepth 100000 in
theorem M_cut_8L_ok {J : gS → gS} (hJm : g_jm J) {z0 : Int} {s0 : gS} : ∀ (n : Nat) {l1 : Int} {s : gS}, M_cut_8L n l1 s = some (z0, s0) → G M_M_cut (QG g_S J z0 s0) (g_S, 0, 0) (J s) 8 [some (.ref 49), some (gi l1)] [] := by
  intro n
  induction n with
  | zero => intro _ _ h; cases h
  | succ n ih => intro _ _ h; exact M_cut_8_ok hJm (fun _ _ h => ih h) h
set_option maxHeartbeats 4000000 in
set_option maxRecDepth 100000 in
theorem M_cut_ok {J : gS → gS} (hJm : g_jm J) {z0 : Int} {s0 : gS} {s : gS} (h : M_cut s = some (z0, s0)) : Ct M_M_cut g_S [.ref 49] (J s) (QG g_S J z0 s0) := by
  refine Ct_of [some (.ref 49), none] (plainFor_of_name (by decide)) rfl (Nat.le_of_ble_eq_true rfl) rfl (by decide) q_rG ?_
  unfold M_cut at h
  refine G_aload_n (g_da dt_M_cut 0 rfl) rfl rfl ?_
  refine G_iconst (g_da dt_M_cut 1 rfl) ?_
  obtain ⟨r1, s2, hc3, h⟩ := o_b h
  refine H_cVE (M_look_ok hJm hc3) (g_da dt_M_cut 2 rfl) lk_15_226 mv_M_look rfl sh_49 rfl rfl rfl rfl rfl rfl ?_
  refine G_pop (g_da dt_M_cut 3 rfl) rfl ?_
  refine G_iconst (g_da dt_M_cut 4 rfl) ?_
  refine G_istore_n (lv' := [_, _]) (g_da dt_M_cut 5 rfl) rfl (Nat.le_of_ble_eq_true rfl) rfl rfl ?_
  exact G_subK (M_cut_8L_ok hJm gFu h) ⟨rfl, ⟨rfl, trivial⟩⟩
set_option maxHeartbeats 4000000 in
set_option maxRecDepth 100000 in
theorem M_isDigit_ok {J : gS → gS} {z0 : Int} {s0 : gS} {a0 : Int} {s : gS} (h : M_isDigit a0 s = some (z0, s0)) : Ct M_M_isDigit g_S [gi a0] (J s) (QE g_S J z0 s0) := by
  refine Ct_of [some (gi a0)] (plainFor_of_name (by decide)) rfl (Nat.le_of_ble_eq_true rfl) rfl (by decide) q_rE ?_
  unfold M_isDigit at h
  refine G_iload_n (g_da dt_M_isDigit 0 rfl) rfl rfl ?_
  refine G_bipush (g_da dt_M_isDigit 1 rfl) b8w_48 ?_
  refine G_icmp_lt (g_da dt_M_isDigit 2 rfl) rfl rfl w_48 (fun hc1 => ?_) (fun hc1 => ?_)
  · have h := o_t hc1 h
    refine G_iconst (g_da dt_M_isDigit 8 rfl) ?_
    exact G_ireturn (g_da dt_M_isDigit 9 rfl) rfl (g_bool (Or.inl w_0)).1 rfl (g_nz rfl) (q_e h)
  · have h := o_f hc1 h
    refine G_iload_n (g_da dt_M_isDigit 3 rfl) rfl rfl ?_
    refine G_bipush (g_da dt_M_isDigit 4 rfl) b8w_57 ?_
    refine G_icmp_gt (g_da dt_M_isDigit 5 rfl) rfl rfl w_57 (fun hc2 => ?_) (fun hc2 => ?_)
    · have h := o_t hc2 h
      refine G_iconst (g_da dt_M_isDigit 8 rfl) ?_
      exact G_ireturn (g_da dt_M_isDigit 9 rfl) rfl (g_bool (Or.inl w_0)).1 rfl (g_nz rfl) (q_e h)
    · have h := o_f hc2 h
      refine G_iconst (g_da dt_M_isDigit 6 rfl) ?_
      refine G_goto (g_da dt_M_isDigit 7 rfl) rfl ?_
      exact G_ireturn (g_da dt_M_isDigit 9 rfl) rfl (g_bool (Or.inr w_1)).1 rfl (g_nz rfl) (q_e h)
set_option maxHeartbeats 4000000 in
set_option maxRecDepth 100000 in
theorem M_isLetter_ok {J : gS → gS} {z0 : Int} {s0 : gS} {a0 : Int} {s : gS} (h : M_isLetter a0 s = some (z0, s0)) : Ct M_M_isLetter g_S [gi a0] (J s) (QE g_S J z0 s0) := by
  refine Ct_of [some (gi a0)] (plainFor_of_name (by decide)) rfl (Nat.le_of_ble_eq_true rfl) rfl (by decide) q_rE ?_
  unfold M_isLetter at h
  refine G_iload_n (g_da dt_M_isLetter 0 rfl) rfl rfl ?_
  refine G_bipush (g_da dt_M_isLetter 1 rfl) b8w_97 ?_
  refine G_icmp_lt (g_da dt_M_isLetter 2 rfl) rfl rfl w_97 (fun hc1 => ?_) (fun hc1 => ?_)
  · have h := o_t hc1 h
    refine G_iconst (g_da dt_M_isLetter 8 rfl) ?_
    exact G_ireturn (g_da dt_M_isLetter 9 rfl) rfl (g_bool (Or.inl w_0)).1 rfl (g_nz rfl) (q_e h)
  · have h := o_f hc1 h
    refine G_iload_n (g_da dt_M_isLetter 3 rfl) rfl rfl ?_
    refine G_bipush (g_da dt_M_isLetter 4 rfl) b8w_122 ?_
    refine G_icmp_gt (g_da dt_M_isLetter 5 rfl) rfl rfl w_122 (fun hc2 => ?_) (fun hc2 => ?_)
    · have h := o_t hc2 h
      refine G_iconst (g_da dt_M_isLetter 8 rfl) ?_
      exact G_ireturn (g_da dt_M_isLetter 9 rfl) rfl (g_bool (Or.inl w_0)).1 rfl (g_nz rfl) (q_e h)
    · have h := o_f hc2 h
      refine G_iconst (g_da dt_M_isLetter 6 rfl) ?_
      refine G_goto (g_da dt_M_isLetter 7 rfl) rfl ?_
      exact G_ireturn (g_da dt_M_isLetter 9 rfl) rfl (g_bool (Or.inr w_1)).1 rfl (g_nz rfl) (q_e h)
set_option maxHeartbeats 4000000 in
set_option maxRecDepth 100000 in
theorem M_needs_387_ok {J : gS → gS} {z0 : Int} {s0 : gS}  {l0 : Int} {s : gS} (h : M_needs_387 l0 s = some (z0, s0)) : G M_M_needs (QE g_S J z0 s0) (g_S, 0, 0) (J s) 387 [some (gi l0)] [] := by
  unfold M_needs_387 at h
  refine G_iload_n (g_da dt_M_needs 12 rfl) rfl rfl ?_
  obtain ⟨r91, s92, hc93, h⟩ := o_b h
  refine H_cSE (M_isDigit_ok hc93) (g_da dt_M_needs 13 rfl) lk_15_96 ms_M_isDigit rfl rfl rfl rfl rfl rfl ?_
  refine G_if_ne (g_da dt_M_needs 14 rfl) rfl rfl  (fun hc94 => ?_) (fun hc94 => ?_)
  · have h := o_f hc94 h
    refine G_iconst (g_da dt_M_needs 18 rfl) ?_
    refine G_goto (g_da dt_M_needs 19 rfl) rfl ?_
    exact G_ireturn (g_da dt_M_needs 21 rfl) rfl rfl rfl (g_nz rfl) (q_e h)
  · have h := o_t hc94 h
    refine G_iload_n (g_da dt_M_needs 15 rfl) rfl rfl ?_
    obtain ⟨r95, s96, hc97, h⟩ := o_b h
    refine H_cSE (M_isLetter_ok hc97) (g_da dt_M_needs 16 rfl) lk_15_100 ms_M_isLetter rfl rfl rfl rfl rfl rfl ?_
    refine G_if_eq (g_da dt_M_needs 17 rfl) rfl rfl  (fun hc98 => ?_) (fun hc98 => ?_)
    · have h := o_t hc98 h
      refine G_iconst (g_da dt_M_needs 20 rfl) ?_
      exact G_ireturn (g_da dt_M_needs 21 rfl) rfl rfl rfl (g_nz rfl) (q_e h)
    · have h := o_f hc98 h
      refine G_iconst (g_da dt_M_needs 18 rfl) ?_
      refine G_goto (g_da dt_M_needs 19 rfl) rfl ?_
      exact G_ireturn (g_da dt_M_needs 21 rfl) rfl rfl rfl (g_nz rfl) (q_e h)
set_option maxHeartbeats 4000000 in
set_option maxRecDepth 100000 in
theorem M_needs_ok {J : gS → gS} {z0 : Int} {s0 : gS} {a0 : Int} {s : gS} (h : M_needs a0 s = some (z0, s0)) : Ct M_M_needs g_S [gi a0] (J s) (QE g_S J z0 s0) := by
  refine Ct_of [some (gi a0)] (plainFor_of_name (by decide)) rfl (Nat.le_of_ble_eq_true rfl) rfl (by decide) q_rE ?_
  unfold M_needs at h
  refine G_iload_n (g_da dt_M_needs 0 rfl) rfl rfl ?_
  refine G_table [(37, 380), (38, 387), (39, 387), (40, 387), (41, 387), (42, 380), (43, 380), (44, 387), (45, 380), (46, 387), (47, 380), (48, 387), (49, 387), (50, 387), (51, 387), (52, 387), (53, 387), (54, 387), (55, 387), (56, 387), (57, 387), (58, 378), (59, 387), (60, 380), (61, 380), (62, 387), (63, 382), (64, 387), (65, 387), (66, 387), (67, 384), (68, 378), (69, 376), (70, 376), (71, 378), (72, 387), (73, 387), (74, 387), (75, 387), (76, 380), (77, 380), (78, 376), (79, 378), (80, 376), (81, 376), (82, 380), (83, 380), (84, 380), (85, 376), (86, 376), (87, 376), (88, 380), (89, 387), (90, 376), (91, 387), (92, 387), (93, 387), (94, 387), (95, 387), (96, 387), (97, 387), (98, 387), (99, 387), (100, 387), (101, 387), (102, 387), (103, 387), (104, 387), (105, 387), (106, 387), (107, 387), (108, 387), (109, 387), (110, 387), (111, 387), (112, 387), (113, 387), (114, 387), (115, 387), (116, 387), (117, 387), (118, 387), (119, 387), (120, 387), (121, 387), (122, 387), (123, 376), (124, 387), (125, 376), (126, 378)] 387 (g_da dt_M_needs 1 rfl) rfl rfl rfl ⟨fun hc1 => ?_, fun hc1 => ⟨fun hc2 => ?_, fun hc2 => ⟨fun hc3 => ?_, fun hc3 => ⟨fun hc4 => ?_, fun hc4 => ⟨fun hc5 => ?_, fun hc5 => ⟨fun hc6 => ?_, fun hc6 => ⟨fun hc7 => ?_, fun hc7 => ⟨fun hc8 => ?_, fun hc8 => ⟨fun hc9 => ?_, fun hc9 => ⟨fun hc10 => ?_, fun hc10 => ⟨fun hc11 => ?_, fun hc11 => ⟨fun hc12 => ?_, fun hc12 => ⟨fun hc13 => ?_, fun hc13 => ⟨fun hc14 => ?_, fun hc14 => ⟨fun hc15 => ?_, fun hc15 => ⟨fun hc16 => ?_, fun hc16 => ⟨fun hc17 => ?_, fun hc17 => ⟨fun hc18 => ?_, fun hc18 => ⟨fun hc19 => ?_, fun hc19 => ⟨fun hc20 => ?_, fun hc20 => ⟨fun hc21 => ?_, fun hc21 => ⟨fun hc22 => ?_, fun hc22 => ⟨fun hc23 => ?_, fun hc23 => ⟨fun hc24 => ?_, fun hc24 => ⟨fun hc25 => ?_, fun hc25 => ⟨fun hc26 => ?_, fun hc26 => ⟨fun hc27 => ?_, fun hc27 => ⟨fun hc28 => ?_, fun hc28 => ⟨fun hc29 => ?_, fun hc29 => ⟨fun hc30 => ?_, fun hc30 => ⟨fun hc31 => ?_, fun hc31 => ⟨fun hc32 => ?_, fun hc32 => ⟨fun hc33 => ?_, fun hc33 => ⟨fun hc34 => ?_, fun hc34 => ⟨fun hc35 => ?_, fun hc35 => ⟨fun hc36 => ?_, fun hc36 => ⟨fun hc37 => ?_, fun hc37 => ⟨fun hc38 => ?_, fun hc38 => ⟨fun hc39 => ?_, fun hc39 => ⟨fun hc40 => ?_, fun hc40 => ⟨fun hc41 => ?_, fun hc41 => ⟨fun hc42 => ?_, fun hc42 => ⟨fun hc43 => ?_, fun hc43 => ⟨fun hc44 => ?_, fun hc44 => ⟨fun hc45 => ?_, fun hc45 => ⟨fun hc46 => ?_, fun hc46 => ⟨fun hc47 => ?_, fun hc47 => ⟨fun hc48 => ?_, fun hc48 => ⟨fun hc49 => ?_, fun hc49 => ⟨fun hc50 => ?_, fun hc50 => ⟨fun hc51 => ?_, fun hc51 => ⟨fun hc52 => ?_, fun hc52 => ⟨fun hc53 => ?_, fun hc53 => ⟨fun hc54 => ?_, fun hc54 => ⟨fun hc55 => ?_, fun hc55 => ⟨fun hc56 => ?_, fun hc56 => ⟨fun hc57 => ?_, fun hc57 => ⟨fun hc58 => ?_, fun hc58 => ⟨fun hc59 => ?_, fun hc59 => ⟨fun hc60 => ?_, fun hc60 => ⟨fun hc61 => ?_, fun hc61 => ⟨fun hc62 => ?_, fun hc62 => ⟨fun hc63 => ?_, fun hc63 => ⟨fun hc64 => ?_, fun hc64 => ⟨fun hc65 => ?_, fun hc65 => ⟨fun hc66 => ?_, fun hc66 => ⟨fun hc67 => ?_, fun hc67 => ⟨fun hc68 => ?_, fun hc68 => ⟨fun hc69 => ?_, fun hc69 => ⟨fun hc70 => ?_, fun hc70 => ⟨fun hc71 => ?_, fun hc71 => ⟨fun hc72 => ?_, fun hc72 => ⟨fun hc73 => ?_, fun hc73 => ⟨fun hc74 => ?_, fun hc74 => ⟨fun hc75 => ?_, fun hc75 => ⟨fun hc76 => ?_, fun hc76 => ⟨fun hc77 => ?_, fun hc77 => ⟨fun hc78 => ?_, fun hc78 => ⟨fun hc79 => ?_, fun hc79 => ⟨fun hc80 => ?_, fun hc80 => ⟨fun hc81 => ?_, fun hc81 => ⟨fun hc82 => ?_, fun hc82 => ⟨fun hc83 => ?_, fun hc83 => ⟨fun hc84 => ?_, fun hc84 => ⟨fun hc85 => ?_, fun hc85 => ⟨fun hc86 => ?_, fun hc86 => ⟨fun hc87 => ?_, fun hc87 => ⟨fun hc88 => ?_, fun hc88 => ⟨fun hc89 => ?_, fun hc89 => ⟨fun hc90 => ?_, fun hc90 => ?_⟩⟩⟩⟩⟩⟩⟩⟩⟩⟩⟩⟩⟩⟩⟩⟩⟩⟩⟩⟩⟩⟩⟩⟩⟩⟩⟩⟩⟩⟩⟩⟩⟩⟩⟩⟩⟩⟩⟩⟩⟩⟩⟩⟩⟩⟩⟩⟩⟩⟩⟩⟩⟩⟩⟩⟩⟩⟩⟩⟩⟩⟩⟩⟩⟩⟩⟩⟩⟩⟩⟩⟩⟩⟩⟩⟩⟩⟩⟩⟩⟩⟩⟩⟩⟩⟩⟩⟩⟩⟩
  · have h := o_t hc1 h
    refine G_iconst (g_da dt_M_needs 6 rfl) ?_
    exact G_ireturn (g_da dt_M_needs 7 rfl) rfl rfl rfl (g_nz rfl) (q_e h)
  · have h := o_f hc1 h
    have h := o_t hc2 h
    exact G_subK (M_needs_387_ok h) ⟨rfl, trivial⟩
  · have h := o_f hc1 h
    have h := o_f hc2 h
    have h := o_t hc3 h
    exact G_subK (M_needs_387_ok h) ⟨rfl, trivial⟩
  · have h := o_f hc1 h
    have h := o_f hc2 h
    have h := o_f hc3 h
    have h := o_t hc4 h
    exact G_subK (M_needs_387_ok h) ⟨rfl, trivial⟩
  · have h := o_f hc1 h
    have h := o_f hc2 h
    have h := o_f hc3 h
    have h := o_f hc4 h
    have h := o_t hc5 h
    exact G_subK (M_needs_387_ok h) ⟨rfl, trivial⟩
  · have h := o_f hc1 h
    have h := o_f hc2 h
    have h := o_f hc3 h
    have h := o_f hc4 h
    have h := o_f hc5 h
    have h := o_t hc6 h
    refine G_iconst (g_da dt_M_needs 6 rfl) ?_
    exact G_ireturn (g_da dt_M_needs 7 rfl) rfl rfl rfl (g_nz rfl) (q_e h)
  · have h := o_f hc1 h
    have h := o_f hc2 h
    have h := o_f hc3 h
    have h := o_f hc4 h
    have h := o_f hc5 h
    have h := o_f hc6 h
    have h := o_t hc7 h
    refine G_iconst (g_da dt_M_needs 6 rfl) ?_
    exact G_ireturn (g_da dt_M_needs 7 rfl) rfl rfl rfl (g_nz rfl) (q_e h)
  · have h := o_f hc1 h
    have h := o_f hc2 h
    have h := o_f hc3 h
    have h := o_f hc4 h
    have h := o_f hc5 h
    have h := o_f hc6 h
    have h := o_f hc7 h
    have h := o_t hc8 h
    exact G_subK (M_needs_387_ok h) ⟨rfl, trivial⟩
  · have h := o_f hc1 h
    have h := o_f hc2 h
    have h := o_f hc3 h
    have h := o_f hc4 h
    have h := o_f hc5 h
    have h := o_f hc6 h
    have h := o_f hc7 h
    have h := o_f hc8 h
    have h := o_t hc9 h
    refine G_iconst (g_da dt_M_needs 6 rfl) ?_
    exact G_ireturn (g_da dt_M_needs 7 rfl) rfl rfl rfl (g_nz rfl) (q_e h)
  · have h := o_f hc1 h
    have h := o_f hc2 h
    have h := o_f hc3 h
    have h := o_f hc4 h
    have h := o_f hc5 h
    have h := o_f hc6 h
    have h := o_f hc7 h
    have h := o_f hc8 h
    have h := o_f hc9 h
    have h := o_t hc10 h
    exact G_subK (M_needs_387_ok h) ⟨rfl, trivial⟩
  · have h := o_f hc1 h
    have h := o_f hc2 h
    have h := o_f hc3 h
    have h := o_f hc4 h
    have h := o_f hc5 h
    have h := o_f hc6 h
    have h := o_f hc7 h
    have h := o_f hc8 h
    have h := o_f hc9 h
    have h := o_f hc10 h
    have h := o_t hc11 h
    refine G_iconst (g_da dt_M_needs 6 rfl) ?_
    exact G_ireturn (g_da dt_M_needs 7 rfl) rfl rfl rfl (g_nz rfl) (q_e h)
  · have h := o_f hc1 h
    have h := o_f hc2 h
    have h := o_f hc3 h
    have h := o_f hc4 h
    have h := o_f hc5 h
    have h := o_f hc6 h
    have h := o_f hc7 h
    have h := o_f hc8 h
    have h := o_f hc9 h
    have h := o_f hc10 h
    have h := o_f hc11 h
    have h := o_t hc12 h
    exact G_subK (M_needs_387_ok h) ⟨rfl, trivial⟩
  · have h := o_f hc1 h
    have h := o_f hc2 h
    have h := o_f hc3 h
    have h := o_f hc4 h
    have h := o_f hc5 h
    have h := o_f hc6 h
    have h := o_f hc7 h
    have h := o_f hc8 h
    have h := o_f hc9 h
    have h := o_f hc10 h
    have h := o_f hc11 h
    have h := o_f hc12 h
    have h := o_t hc13 h
    exact G_subK (M_needs_387_ok h) ⟨rfl, trivial⟩
  · have h := o_f hc1 h
    have h := o_f hc2 h
    have h := o_f hc3 h
    have h := o_f hc4 h
    have h := o_f hc5 h
    have h := o_f hc6 h
    have h := o_f hc7 h
    have h := o_f hc8 h
    have h := o_f hc9 h
    have h := o_f hc10 h
    have h := o_f hc11 h
    have h := o_f hc12 h
    have h := o_f hc13 h
    have h := o_t hc14 h
    exact G_subK (M_needs_387_ok h) ⟨rfl, trivial⟩
  · have h := o_f hc1 h
    have h := o_f hc2 h
    have h := o_f hc3 h
    have h := o_f hc4 h
    have h := o_f hc5 h
    have h := o_f hc6 h
    have h := o_f hc7 h
    have h := o_f hc8 h
    have h := o_f hc9 h
    have h := o_f hc10 h
    have h := o_f hc11 h
    have h := o_f hc12 h
    have h := o_f hc13 h
    have h := o_f hc14 h
    have h := o_t hc15 h
    exact G_subK (M_needs_387_ok h) ⟨rfl, trivial⟩
  · have h := o_f hc1 h
    have h := o_f hc2 h
    have h := o_f hc3 h
    have h := o_f hc4 h
    have h := o_f hc5 h
    have h := o_f hc6 h
    have h := o_f hc7 h
    have h := o_f hc8 h
    have h := o_f hc9 h
    have h := o_f hc10 h
    have h := o_f hc11 h
    have h := o_f hc12 h
    have h := o_f hc13 h
    have h := o_f hc14 h
    have h := o_f hc15 h
    have h := o_t hc16 h
    exact G_subK (M_needs_387_ok h) ⟨rfl, trivial⟩
  · have h := o_f hc1 h
    have h := o_f hc2 h
    have h := o_f hc3 h
    have h := o_f hc4 h
    have h := o_f hc5 h
    have h := o_f hc6 h
    have h := o_f hc7 h
    have h := o_f hc8 h
    have h := o_f hc9 h
    have h := o_f hc10 h
    have h := o_f hc11 h
    have h := o_f hc12 h
    have h := o_f hc13 h
    have h := o_f hc14 h
    have h := o_f hc15 h
    have h := o_f hc16 h
    have h := o_t hc17 h
    exact G_subK (M_needs_387_ok h) ⟨rfl, trivial⟩
  · have h := o_f hc1 h
    have h := o_f hc2 h
    have h := o_f hc3 h
    have h := o_f hc4 h
    have h := o_f hc5 h
    have h := o_f hc6 h
    have h := o_f hc7 h
    have h := o_f hc8 h
    have h := o_f hc9 h
    have h := o_f hc10 h
    have h := o_f hc11 h
    have h := o_f hc12 h
    have h := o_f hc13 h
    have h := o_f hc14 h
    have h := o_f hc15 h
    have h := o_f hc16 h
    have h := o_f hc17 h
    have h := o_t hc18 h
    exact G_subK (M_needs_387_ok h) ⟨rfl, trivial⟩
  · have h := o_f hc1 h
    have h := o_f hc2 h
    have h := o_f hc3 h
    have h := o_f hc4 h
    have h := o_f hc5 h
    have h := o_f hc6 h
    have h := o_f hc7 h
    have h := o_f hc8 h
    have h := o_f hc9 h
    have h := o_f hc10 h
    have h := o_f hc11 h
    have h := o_f hc12 h
    have h := o_f hc13 h
    have h := o_f hc14 h
    have h := o_f hc15 h
    have h := o_f hc16 h
    have h := o_f hc17 h
    have h := o_f hc18 h
    have h := o_t hc19 h
    exact G_subK (M_needs_387_ok h) ⟨rfl, trivial⟩
  · have h := o_f hc1 h
    have h := o_f hc2 h
    have h := o_f hc3 h
    have h := o_f hc4 h
    have h := o_f hc5 h
    have h := o_f hc6 h
    have h := o_f hc7 h
    have h := o_f hc8 h
    have h := o_f hc9 h
    have h := o_f hc10 h
    have h := o_f hc11 h
    have h := o_f hc12 h
    have h := o_f hc13 h
    have h := o_f hc14 h
    have h := o_f hc15 h
    have h := o_f hc16 h
    have h := o_f hc17 h
    have h := o_f hc18 h
    have h := o_f hc19 h
    have h := o_t hc20 h
    exact G_subK (M_needs_387_ok h) ⟨rfl, trivial⟩
  · have h := o_f hc1 h
    have h := o_f hc2 h
    have h := o_f hc3 h
    have h := o_f hc4 h
    have h := o_f hc5 h
    have h := o_f hc6 h
    have h := o_f hc7 h
    have h := o_f hc8 h
    have h := o_f hc9 h
    have h := o_f hc10 h
    have h := o_f hc11 h
    have h := o_f hc12 h
    have h := o_f hc13 h
    have h := o_f hc14 h
    have h := o_f hc15 h
    have h := o_f hc16 h
    have h := o_f hc17 h
    have h := o_f hc18 h
    have h := o_f hc19 h
    have h := o_f hc20 h
    have h := o_t hc21 h
    exact G_subK (M_needs_387_ok h) ⟨rfl, trivial⟩
  · have h := o_f hc1 h
    have h := o_f hc2 h
    have h := o_f hc3 h
    have h := o_f hc4 h
    have h := o_f hc5 h
    have h := o_f hc6 h
    have h := o_f hc7 h
    have h := o_f hc8 h
    have h := o_f hc9 h
    have h := o_f hc10 h
    have h := o_f hc11 h
    have h := o_f hc12 h
    have h := o_f hc13 h
    have h := o_f hc14 h
    have h := o_f hc15 h
    have h := o_f hc16 h
    have h := o_f hc17 h
    have h := o_f hc18 h
    have h := o_f hc19 h
    have h := o_f hc20 h
    have h := o_f hc21 h
    have h := o_t hc22 h
    refine G_iconst (g_da dt_M_needs 4 rfl) ?_
    exact G_ireturn (g_da dt_M_needs 5 rfl) rfl rfl rfl (g_nz rfl) (q_e h)
  · have h := o_f hc1 h
    have h := o_f hc2 h
    have h := o_f hc3 h
    have h := o_f hc4 h
    have h := o_f hc5 h
    have h := o_f hc6 h
    have h := o_f hc7 h
    have h := o_f hc8 h
    have h := o_f hc9 h
    have h := o_f hc10 h
    have h := o_f hc11 h
    have h := o_f hc12 h
    have h := o_f hc13 h
    have h := o_f hc14 h
    have h := o_f hc15 h
    have h := o_f hc16 h
    have h := o_f hc17 h
    have h := o_f hc18 h
    have h := o_f hc19 h
    have h := o_f hc20 h
    have h := o_f hc21 h
    have h := o_f hc22 h
    have h := o_t hc23 h
    exact G_subK (M_needs_387_ok h) ⟨rfl, trivial⟩
  · have h := o_f hc1 h
    have h := o_f hc2 h
    have h := o_f hc3 h
    have h := o_f hc4 h
    have h := o_f hc5 h
    have h := o_f hc6 h
    have h := o_f hc7 h
    have h := o_f hc8 h
    have h := o_f hc9 h
    have h := o_f hc10 h
    have h := o_f hc11 h
    have h := o_f hc12 h
    have h := o_f hc13 h
    have h := o_f hc14 h
    have h := o_f hc15 h
    have h := o_f hc16 h
    have h := o_f hc17 h
    have h := o_f hc18 h
    have h := o_f hc19 h
    have h := o_f hc20 h
    have h := o_f hc21 h
    have h := o_f hc22 h
    have h := o_f hc23 h
    have h := o_t hc24 h
    refine G_iconst (g_da dt_M_needs 6 rfl) ?_
    exact G_ireturn (g_da dt_M_needs 7 rfl) rfl rfl rfl (g_nz rfl) (q_e h)
  · have h := o_f hc1 h
    have h := o_f hc2 h
    have h := o_f hc3 h
    have h := o_f hc4 h
    have h := o_f hc5 h
    have h := o_f hc6 h
    have h := o_f hc7 h
    have h := o_f hc8 h
    have h := o_f hc9 h
    have h := o_f hc10 h
    have h := o_f hc11 h
    have h := o_f hc12 h
    have h := o_f hc13 h
    have h := o_f hc14 h
    have h := o_f hc15 h
    have h := o_f hc16 h
    have h := o_f hc17 h
    have h := o_f hc18 h
    have h := o_f hc19 h
    have h := o_f hc20 h
    have h := o_f hc21 h
    have h := o_f hc22 h
    have h := o_f hc23 h
    have h := o_f hc24 h
    have h := o_t hc25 h
    refine G_iconst (g_da dt_M_needs 6 rfl) ?_
    exact G_ireturn (g_da dt_M_needs 7 rfl) rfl rfl rfl (g_nz rfl) (q_e h)
  · have h := o_f hc1 h
    have h := o_f hc2 h
    have h := o_f hc3 h
    have h := o_f hc4 h
    have h := o_f hc5 h
    have h := o_f hc6 h
    have h := o_f hc7 h
    have h := o_f hc8 h
    have h := o_f hc9 h
    have h := o_f hc10 h
    have h := o_f hc11 h
    have h := o_f hc12 h
    have h := o_f hc13 h
    have h := o_f hc14 h
    have h := o_f hc15 h
    have h := o_f hc16 h
    have h := o_f hc17 h
    have h := o_f hc18 h
    have h := o_f hc19 h
    have h := o_f hc20 h
    have h := o_f hc21 h
    have h := o_f hc22 h
    have h := o_f hc23 h
    have h := o_f hc24 h
    have h := o_f hc25 h
    have h := o_t hc26 h
    exact G_subK (M_needs_387_ok h) ⟨rfl, trivial⟩
  · have h := o_f hc1 h
    have h := o_f hc2 h
    have h := o_f hc3 h
    have h := o_f hc4 h
    have h := o_f hc5 h
    have h := o_f hc6 h
    have h := o_f hc7 h
    have h := o_f hc8 h
    have h := o_f hc9 h
    have h := o_f hc10 h
    have h := o_f hc11 h
    have h := o_f hc12 h
    have h := o_f hc13 h
    have h := o_f hc14 h
    have h := o_f hc15 h
    have h := o_f hc16 h
    have h := o_f hc17 h
    have h := o_f hc18 h
    have h := o_f hc19 h
    have h := o_f hc20 h
    have h := o_f hc21 h
    have h := o_f hc22 h
    have h := o_f hc23 h
    have h := o_f hc24 h
    have h := o_f hc25 h
    have h := o_f hc26 h
    have h := o_t hc27 h
    refine G_iconst (g_da dt_M_needs 8 rfl) ?_
    exact G_ireturn (g_da dt_M_needs 9 rfl) rfl rfl rfl (g_nz rfl) (q_e h)
  · have h := o_f hc1 h
    have h := o_f hc2 h
    have h := o_f hc3 h
    have h := o_f hc4 h
    have h := o_f hc5 h
    have h := o_f hc6 h
    have h := o_f hc7 h
    have h := o_f hc8 h
    have h := o_f hc9 h
    have h := o_f hc10 h
    have h := o_f hc11 h
    have h := o_f hc12 h
    have h := o_f hc13 h
    have h := o_f hc14 h
    have h := o_f hc15 h
    have h := o_f hc16 h
    have h := o_f hc17 h
    have h := o_f hc18 h
    have h := o_f hc19 h
    have h := o_f hc20 h
    have h := o_f hc21 h
    have h := o_f hc22 h
    have h := o_f hc23 h
    have h := o_f hc24 h
    have h := o_f hc25 h
    have h := o_f hc26 h
    have h := o_f hc27 h
    have h := o_t hc28 h
    exact G_subK (M_needs_387_ok h) ⟨rfl, trivial⟩
  · have h := o_f hc1 h
    have h := o_f hc2 h
    have h := o_f hc3 h
    have h := o_f hc4 h
    have h := o_f hc5 h
    have h := o_f hc6 h
    have h := o_f hc7 h
    have h := o_f hc8 h
    have h := o_f hc9 h
    have h := o_f hc10 h
    have h := o_f hc11 h
    have h := o_f hc12 h
    have h := o_f hc13 h
    have h := o_f hc14 h
    have h := o_f hc15 h
    have h := o_f hc16 h
    have h := o_f hc17 h
    have h := o_f hc18 h
    have h := o_f hc19 h
    have h := o_f hc20 h
    have h := o_f hc21 h
    have h := o_f hc22 h
    have h := o_f hc23 h
    have h := o_f hc24 h
    have h := o_f hc25 h
    have h := o_f hc26 h
    have h := o_f hc27 h
    have h := o_f hc28 h
    have h := o_t hc29 h
    exact G_subK (M_needs_387_ok h) ⟨rfl, trivial⟩
  · have h := o_f hc1 h
    have h := o_f hc2 h
    have h := o_f hc3 h
    have h := o_f hc4 h
    have h := o_f hc5 h
    have h := o_f hc6 h
    have h := o_f hc7 h
    have h := o_f hc8 h
    have h := o_f hc9 h
    have h := o_f hc10 h
    have h := o_f hc11 h
    have h := o_f hc12 h
    have h := o_f hc13 h
    have h := o_f hc14 h
    have h := o_f hc15 h
    have h := o_f hc16 h
    have h := o_f hc17 h
    have h := o_f hc18 h
    have h := o_f hc19 h
    have h := o_f hc20 h
    have h := o_f hc21 h
    have h := o_f hc22 h
    have h := o_f hc23 h
    have h := o_f hc24 h
    have h := o_f hc25 h
    have h := o_f hc26 h
    have h := o_f hc27 h
    have h := o_f hc28 h
    have h := o_f hc29 h
    have h := o_t hc30 h
    exact G_subK (M_needs_387_ok h) ⟨rfl, trivial⟩
  · have h := o_f hc1 h
    have h := o_f hc2 h
    have h := o_f hc3 h
    have h := o_f hc4 h
    have h := o_f hc5 h
    have h := o_f hc6 h
    have h := o_f hc7 h
    have h := o_f hc8 h
    have h := o_f hc9 h
    have h := o_f hc10 h
    have h := o_f hc11 h
    have h := o_f hc12 h
    have h := o_f hc13 h
    have h := o_f hc14 h
    have h := o_f hc15 h
    have h := o_f hc16 h
    have h := o_f hc17 h
    have h := o_f hc18 h
    have h := o_f hc19 h
    have h := o_f hc20 h
    have h := o_f hc21 h
    have h := o_f hc22 h
    have h := o_f hc23 h
    have h := o_f hc24 h
    have h := o_f hc25 h
    have h := o_f hc26 h
    have h := o_f hc27 h
    have h := o_f hc28 h
    have h := o_f hc29 h
    have h := o_f hc30 h
    have h := o_t hc31 h
    refine G_bipush (g_da dt_M_needs 10 rfl) b8w_6 ?_
    exact G_ireturn (g_da dt_M_needs 11 rfl) rfl rfl rfl (g_nz rfl) (q_e h)
  · have h := o_f hc1 h
    have h := o_f hc2 h
    have h := o_f hc3 h
    have h := o_f hc4 h
    have h := o_f hc5 h
    have h := o_f hc6 h
    have h := o_f hc7 h
    have h := o_f hc8 h
    have h := o_f hc9 h
    have h := o_f hc10 h
    have h := o_f hc11 h
    have h := o_f hc12 h
    have h := o_f hc13 h
    have h := o_f hc14 h
    have h := o_f hc15 h
    have h := o_f hc16 h
    have h := o_f hc17 h
    have h := o_f hc18 h
    have h := o_f hc19 h
    have h := o_f hc20 h
    have h := o_f hc21 h
    have h := o_f hc22 h
    have h := o_f hc23 h
    have h := o_f hc24 h
    have h := o_f hc25 h
    have h := o_f hc26 h
    have h := o_f hc27 h
    have h := o_f hc28 h
    have h := o_f hc29 h
    have h := o_f hc30 h
    have h := o_f hc31 h
    have h := o_t hc32 h
    refine G_iconst (g_da dt_M_needs 4 rfl) ?_
    exact G_ireturn (g_da dt_M_needs 5 rfl) rfl rfl rfl (g_nz rfl) (q_e h)
  · have h := o_f hc1 h
    have h := o_f hc2 h
    have h := o_f hc3 h
    have h := o_f hc4 h
    have h := o_f hc5 h
    have h := o_f hc6 h
    have h := o_f hc7 h
    have h := o_f hc8 h
    have h := o_f hc9 h
    have h := o_f hc10 h
    have h := o_f hc11 h
    have h := o_f hc12 h
    have h := o_f hc13 h
    have h := o_f hc14 h
    have h := o_f hc15 h
    have h := o_f hc16 h
    have h := o_f hc17 h
    have h := o_f hc18 h
    have h := o_f hc19 h
    have h := o_f hc20 h
    have h := o_f hc21 h
    have h := o_f hc22 h
    have h := o_f hc23 h
    have h := o_f hc24 h
    have h := o_f hc25 h
    have h := o_f hc26 h
    have h := o_f hc27 h
    have h := o_f hc28 h
    have h := o_f hc29 h
    have h := o_f hc30 h
    have h := o_f hc31 h
    have h := o_f hc32 h
    have h := o_t hc33 h
    refine G_iconst (g_da dt_M_needs 2 rfl) ?_
    exact G_ireturn (g_da dt_M_needs 3 rfl) rfl rfl rfl (g_nz rfl) (q_e h)
  · have h := o_f hc1 h
    have h := o_f hc2 h
    have h := o_f hc3 h
    have h := o_f hc4 h
    have h := o_f hc5 h
    have h := o_f hc6 h
    have h := o_f hc7 h
    have h := o_f hc8 h
    have h := o_f hc9 h
    have h := o_f hc10 h
    have h := o_f hc11 h
    have h := o_f hc12 h
    have h := o_f hc13 h
    have h := o_f hc14 h
    have h := o_f hc15 h
    have h := o_f hc16 h
    have h := o_f hc17 h
    have h := o_f hc18 h
    have h := o_f hc19 h
    have h := o_f hc20 h
    have h := o_f hc21 h
    have h := o_f hc22 h
    have h := o_f hc23 h
    have h := o_f hc24 h
    have h := o_f hc25 h
    have h := o_f hc26 h
    have h := o_f hc27 h
    have h := o_f hc28 h
    have h := o_f hc29 h
    have h := o_f hc30 h
    have h := o_f hc31 h
    have h := o_f hc32 h
    have h := o_f hc33 h
    have h := o_t hc34 h
    refine G_iconst (g_da dt_M_needs 2 rfl) ?_
    exact G_ireturn (g_da dt_M_needs 3 rfl) rfl rfl rfl (g_nz rfl) (q_e h)
  · have h := o_f hc1 h
    have h := o_f hc2 h
    have h := o_f hc3 h
    have h := o_f hc4 h
    have h := o_f hc5 h
    have h := o_f hc6 h
    have h := o_f hc7 h
    have h := o_f hc8 h
    have h := o_f hc9 h
    have h := o_f hc10 h
    have h := o_f hc11 h
    have h := o_f hc12 h
    have h := o_f hc13 h
    have h := o_f hc14 h
    have h := o_f hc15 h
    have h := o_f hc16 h
    have h := o_f hc17 h
    have h := o_f hc18 h
    have h := o_f hc19 h
    have h := o_f hc20 h
    have h := o_f hc21 h
    have h := o_f hc22 h
    have h := o_f hc23 h
    have h := o_f hc24 h
    have h := o_f hc25 h
    have h := o_f hc26 h
    have h := o_f hc27 h
    have h := o_f hc28 h
    have h := o_f hc29 h
    have h := o_f hc30 h
    have h := o_f hc31 h
    have h := o_f hc32 h
    have h := o_f hc33 h
    have h := o_f hc34 h
    have h := o_t hc35 h
    refine G_iconst (g_da dt_M_needs 4 rfl) ?_
    exact G_ireturn (g_da dt_M_needs 5 rfl) rfl rfl rfl (g_nz rfl) (q_e h)
  · have h := o_f hc1 h
    have h := o_f hc2 h
    have h := o_f hc3 h
    have h := o_f hc4 h
    have h := o_f hc5 h
    have h := o_f hc6 h
    have h := o_f hc7 h
    have h := o_f hc8 h
    have h := o_f hc9 h
    have h := o_f hc10 h
    have h := o_f hc11 h
    have h := o_f hc12 h
    have h := o_f hc13 h
    have h := o_f hc14 h
    have h := o_f hc15 h
    have h := o_f hc16 h
    have h := o_f hc17 h
    have h := o_f hc18 h
    have h := o_f hc19 h
    have h := o_f hc20 h
    have h := o_f hc21 h
    have h := o_f hc22 h
    have h := o_f hc23 h
    have h := o_f hc24 h
    have h := o_f hc25 h
    have h := o_f hc26 h
    have h := o_f hc27 h
    have h := o_f hc28 h
    have h := o_f hc29 h
    have h := o_f hc30 h
    have h := o_f hc31 h
    have h := o_f hc32 h
    have h := o_f hc33 h
    have h := o_f hc34 h
    have h := o_f hc35 h
    have h := o_t hc36 h
    exact G_subK (M_needs_387_ok h) ⟨rfl, trivial⟩
  · have h := o_f hc1 h
    have h := o_f hc2 h
    have h := o_f hc3 h
    have h := o_f hc4 h
    have h := o_f hc5 h
    have h := o_f hc6 h
    have h := o_f hc7 h
    have h := o_f hc8 h
    have h := o_f hc9 h
    have h := o_f hc10 h
    have h := o_f hc11 h
    have h := o_f hc12 h
    have h := o_f hc13 h
    have h := o_f hc14 h
    have h := o_f hc15 h
    have h := o_f hc16 h
    have h := o_f hc17 h
    have h := o_f hc18 h
    have h := o_f hc19 h
    have h := o_f hc20 h
    have h := o_f hc21 h
    have h := o_f hc22 h
    have h := o_f hc23 h
    have h := o_f hc24 h
    have h := o_f hc25 h
    have h := o_f hc26 h
    have h := o_f hc27 h
    have h := o_f hc28 h
    have h := o_f hc29 h
    have h := o_f hc30 h
    have h := o_f hc31 h
    have h := o_f hc32 h
    have h := o_f hc33 h
    have h := o_f hc34 h
    have h := o_f hc35 h
    have h := o_f hc36 h
    have h := o_t hc37 h
    exact G_subK (M_needs_387_ok h) ⟨rfl, trivial⟩
  · have h := o_f hc1 h
    have h := o_f hc2 h
    have h := o_f hc3 h
    have h := o_f hc4 h
    have h := o_f hc5 h
    have h := o_f hc6 h
    have h := o_f hc7 h
    have h := o_f hc8 h
    have h := o_f hc9 h
    have h := o_f hc10 h
    have h := o_f hc11 h
    have h := o_f hc12 h
    have h := o_f hc13 h
    have h := o_f hc14 h
    have h := o_f hc15 h
    have h := o_f hc16 h
    have h := o_f hc17 h
    have h := o_f hc18 h
    have h := o_f hc19 h
    have h := o_f hc20 h
    have h := o_f hc21 h
    have h := o_f hc22 h
    have h := o_f hc23 h
    have h := o_f hc24 h
    have h := o_f hc25 h
    have h := o_f hc26 h
    have h := o_f hc27 h
    have h := o_f hc28 h
    have h := o_f hc29 h
    have h := o_f hc30 h
    have h := o_f hc31 h
    have h := o_f hc32 h
    have h := o_f hc33 h
    have h := o_f hc34 h
    have h := o_f hc35 h
    have h := o_f hc36 h
    have h := o_f hc37 h
    have h := o_t hc38 h
    exact G_subK (M_needs_387_ok h) ⟨rfl, trivial⟩
  · have h := o_f hc1 h
    have h := o_f hc2 h
    have h := o_f hc3 h
    have h := o_f hc4 h
    have h := o_f hc5 h
    have h := o_f hc6 h
    have h := o_f hc7 h
    have h := o_f hc8 h
    have h := o_f hc9 h
    have h := o_f hc10 h
    have h := o_f hc11 h
    have h := o_f hc12 h
    have h := o_f hc13 h
    have h := o_f hc14 h
    have h := o_f hc15 h
    have h := o_f hc16 h
    have h := o_f hc17 h
    have h := o_f hc18 h
    have h := o_f hc19 h
    have h := o_f hc20 h
    have h := o_f hc21 h
    have h := o_f hc22 h
    have h := o_f hc23 h
    have h := o_f hc24 h
    have h := o_f hc25 h
    have h := o_f hc26 h
    have h := o_f hc27 h
    have h := o_f hc28 h
    have h := o_f hc29 h
    have h := o_f hc30 h
    have h := o_f hc31 h
    have h := o_f hc32 h
    have h := o_f hc33 h
    have h := o_f hc34 h
    have h := o_f hc35 h
    have h := o_f hc36 h
    have h := o_f hc37 h
    have h := o_f hc38 h
    have h := o_t hc39 h
    exact G_subK (M_needs_387_ok h) ⟨rfl, trivial⟩
  · have h := o_f hc1 h
    have h := o_f hc2 h
    have h := o_f hc3 h
    have h := o_f hc4 h
    have h := o_f hc5 h
    have h := o_f hc6 h
    have h := o_f hc7 h
    have h := o_f hc8 h
    have h := o_f hc9 h
    have h := o_f hc10 h
    have h := o_f hc11 h
    have h := o_f hc12 h
    have h := o_f hc13 h
    have h := o_f hc14 h
    have h := o_f hc15 h
    have h := o_f hc16 h
    have h := o_f hc17 h
    have h := o_f hc18 h
    have h := o_f hc19 h
    have h := o_f hc20 h
    have h := o_f hc21 h
    have h := o_f hc22 h
    have h := o_f hc23 h
    have h := o_f hc24 h
    have h := o_f hc25 h
    have h := o_f hc26 h
    have h := o_f hc27 h
    have h := o_f hc28 h
    have h := o_f hc29 h
    have h := o_f hc30 h
    have h := o_f hc31 h
    have h := o_f hc32 h
    have h := o_f hc33 h
    have h := o_f hc34 h
    have h := o_f hc35 h
    have h := o_f hc36 h
    have h := o_f hc37 h
    have h := o_f hc38 h
    have h := o_f hc39 h
    have h := o_t hc40 h
    refine G_iconst (g_da dt_M_needs 6 rfl) ?_
    exact G_ireturn (g_da dt_M_needs 7 rfl) rfl rfl rfl (g_nz rfl) (q_e h)
  · have h := o_f hc1 h
    have h := o_f hc2 h
    have h := o_f hc3 h
    have h := o_f hc4 h
    have h := o_f hc5 h
    have h := o_f hc6 h
    have h := o_f hc7 h
    have h := o_f hc8 h
    have h := o_f hc9 h
    have h := o_f hc10 h
    have h := o_f hc11 h
    have h := o_f hc12 h
    have h := o_f hc13 h
    have h := o_f hc14 h
    have h := o_f hc15 h
    have h := o_f hc16 h
    have h := o_f hc17 h
    have h := o_f hc18 h
    have h := o_f hc19 h
    have h := o_f hc20 h
    have h := o_f hc21 h
    have h := o_f hc22 h
    have h := o_f hc23 h
    have h := o_f hc24 h
    have h := o_f hc25 h
    have h := o_f hc26 h
    have h := o_f hc27 h
    have h := o_f hc28 h
    have h := o_f hc29 h
    have h := o_f hc30 h
    have h := o_f hc31 h
    have h := o_f hc32 h
    have h := o_f hc33 h
    have h := o_f hc34 h
    have h := o_f hc35 h
    have h := o_f hc36 h
    have h := o_f hc37 h
    have h := o_f hc38 h
    have h := o_f hc39 h
    have h := o_f hc40 h
    have h := o_t hc41 h
    refine G_iconst (g_da dt_M_needs 6 rfl) ?_
    exact G_ireturn (g_da dt_M_needs 7 rfl) rfl rfl rfl (g_nz rfl) (q_e h)
  · have h := o_f hc1 h
    have h := o_f hc2 h
    have h := o_f hc3 h
    have h := o_f hc4 h
    have h := o_f hc5 h
    have h := o_f hc6 h
    have h := o_f hc7 h
    have h := o_f hc8 h
    have h := o_f hc9 h
    have h := o_f hc10 h
    have h := o_f hc11 h
    have h := o_f hc12 h
    have h := o_f hc13 h
    have h := o_f hc14 h
    have h := o_f hc15 h
    have h := o_f hc16 h
    have h := o_f hc17 h
    have h := o_f hc18 h
    have h := o_f hc19 h
    have h := o_f hc20 h
    have h := o_f hc21 h
    have h := o_f hc22 h
    have h := o_f hc23 h
    have h := o_f hc24 h
    have h := o_f hc25 h
    have h := o_f hc26 h
    have h := o_f hc27 h
    have h := o_f hc28 h
    have h := o_f hc29 h
    have h := o_f hc30 h
    have h := o_f hc31 h
    have h := o_f hc32 h
    have h := o_f hc33 h
    have h := o_f hc34 h
    have h := o_f hc35 h
    have h := o_f hc36 h
    have h := o_f hc37 h
    have h := o_f hc38 h
    have h := o_f hc39 h
    have h := o_f hc40 h
    have h := o_f hc41 h
    have h := o_t hc42 h
    refine G_iconst (g_da dt_M_needs 2 rfl) ?_
    exact G_ireturn (g_da dt_M_needs 3 rfl) rfl rfl rfl (g_nz rfl) (q_e h)
  · have h := o_f hc1 h
    have h := o_f hc2 h
    have h := o_f hc3 h
    have h := o_f hc4 h
    have h := o_f hc5 h
    have h := o_f hc6 h
    have h := o_f hc7 h
    have h := o_f hc8 h
    have h := o_f hc9 h
    have h := o_f hc10 h
    have h := o_f hc11 h
    have h := o_f hc12 h
    have h := o_f hc13 h
    have h := o_f hc14 h
    have h := o_f hc15 h
    have h := o_f hc16 h
    have h := o_f hc17 h
    have h := o_f hc18 h
    have h := o_f hc19 h
    have h := o_f hc20 h
    have h := o_f hc21 h
    have h := o_f hc22 h
    have h := o_f hc23 h
    have h := o_f hc24 h
    have h := o_f hc25 h
    have h := o_f hc26 h
    have h := o_f hc27 h
    have h := o_f hc28 h
    have h := o_f hc29 h
    have h := o_f hc30 h
    have h := o_f hc31 h
    have h := o_f hc32 h
    have h := o_f hc33 h
    have h := o_f hc34 h
    have h := o_f hc35 h
    have h := o_f hc36 h
    have h := o_f hc37 h
    have h := o_f hc38 h
    have h := o_f hc39 h
    have h := o_f hc40 h
    have h := o_f hc41 h
    have h := o_f hc42 h
    have h := o_t hc43 h
    refine G_iconst (g_da dt_M_needs 4 rfl) ?_
    exact G_ireturn (g_da dt_M_needs 5 rfl) rfl rfl rfl (g_nz rfl) (q_e h)
  · have h := o_f hc1 h
    have h := o_f hc2 h
    have h := o_f hc3 h
    have h := o_f hc4 h
    have h := o_f hc5 h
    have h := o_f hc6 h
    have h := o_f hc7 h
    have h := o_f hc8 h
    have h := o_f hc9 h
    have h := o_f hc10 h
    have h := o_f hc11 h
    have h := o_f hc12 h
    have h := o_f hc13 h
    have h := o_f hc14 h
    have h := o_f hc15 h
    have h := o_f hc16 h
    have h := o_f hc17 h
    have h := o_f hc18 h
    have h := o_f hc19 h
    have h := o_f hc20 h
    have h := o_f hc21 h
    have h := o_f hc22 h
    have h := o_f hc23 h
    have h := o_f hc24 h
    have h := o_f hc25 h
    have h := o_f hc26 h
    have h := o_f hc27 h
    have h := o_f hc28 h
    have h := o_f hc29 h
    have h := o_f hc30 h
    have h := o_f hc31 h
    have h := o_f hc32 h
    have h := o_f hc33 h
    have h := o_f hc34 h
    have h := o_f hc35 h
    have h := o_f hc36 h
    have h := o_f hc37 h
    have h := o_f hc38 h
    have h := o_f hc39 h
    have h := o_f hc40 h
    have h := o_f hc41 h
    have h := o_f hc42 h
    have h := o_f hc43 h
    have h := o_t hc44 h
    refine G_iconst (g_da dt_M_needs 2 rfl) ?_
    exact G_ireturn (g_da dt_M_needs 3 rfl) rfl rfl rfl (g_nz rfl) (q_e h)
  · have h := o_f hc1 h
    have h := o_f hc2 h
    have h := o_f hc3 h
    have h := o_f hc4 h
    have h := o_f hc5 h
    have h := o_f hc6 h
    have h := o_f hc7 h
    have h := o_f hc8 h
    have h := o_f hc9 h
    have h := o_f hc10 h
    have h := o_f hc11 h
    have h := o_f hc12 h
    have h := o_f hc13 h
    have h := o_f hc14 h
    have h := o_f hc15 h
    have h := o_f hc16 h
    have h := o_f hc17 h
    have h := o_f hc18 h
    have h := o_f hc19 h
    have h := o_f hc20 h
    have h := o_f hc21 h
    have h := o_f hc22 h
    have h := o_f hc23 h
    have h := o_f hc24 h
    have h := o_f hc25 h
    have h := o_f hc26 h
    have h := o_f hc27 h
    have h := o_f hc28 h
    have h := o_f hc29 h
    have h := o_f hc30 h
    have h := o_f hc31 h
    have h := o_f hc32 h
    have h := o_f hc33 h
    have h := o_f hc34 h
    have h := o_f hc35 h
    have h := o_f hc36 h
    have h := o_f hc37 h
    have h := o_f hc38 h
    have h := o_f hc39 h
    have h := o_f hc40 h
    have h := o_f hc41 h
    have h := o_f hc42 h
    have h := o_f hc43 h
    have h := o_f hc44 h
    have h := o_t hc45 h
    refine G_iconst (g_da dt_M_needs 2 rfl) ?_
    exact G_ireturn (g_da dt_M_needs 3 rfl) rfl rfl rfl (g_nz rfl) (q_e h)
  · have h := o_f hc1 h
    have h := o_f hc2 h
    have h := o_f hc3 h
    have h := o_f hc4 h
    have h := o_f hc5 h
    have h := o_f hc6 h
    have h := o_f hc7 h
    have h := o_f hc8 h
    have h := o_f hc9 h
    have h := o_f hc10 h
    have h := o_f hc11 h
    have h := o_f hc12 h
    have h := o_f hc13 h
    have h := o_f hc14 h
    have h := o_f hc15 h
    have h := o_f hc16 h
    have h := o_f hc17 h
    have h := o_f hc18 h
    have h := o_f hc19 h
    have h := o_f hc20 h
    have h := o_f hc21 h
    have h := o_f hc22 h
    have h := o_f hc23 h
    have h := o_f hc24 h
    have h := o_f hc25 h
    have h := o_f hc26 h
    have h := o_f hc27 h
    have h := o_f hc28 h
    have h := o_f hc29 h
    have h := o_f hc30 h
    have h := o_f hc31 h
    have h := o_f hc32 h
    have h := o_f hc33 h
    have h := o_f hc34 h
    have h := o_f hc35 h
    have h := o_f hc36 h
    have h := o_f hc37 h
    have h := o_f hc38 h
    have h := o_f hc39 h
    have h := o_f hc40 h
    have h := o_f hc41 h
    have h := o_f hc42 h
    have h := o_f hc43 h
    have h := o_f hc44 h
    have h := o_f hc45 h
    have h := o_t hc46 h
    refine G_iconst (g_da dt_M_needs 6 rfl) ?_
    exact G_ireturn (g_da dt_M_needs 7 rfl) rfl rfl rfl (g_nz rfl) (q_e h)
  · have h := o_f hc1 h
    have h := o_f hc2 h
    have h := o_f hc3 h
    have h := o_f hc4 h
    have h := o_f hc5 h
    have h := o_f hc6 h
    have h := o_f hc7 h
    have h := o_f hc8 h
    have h := o_f hc9 h
    have h := o_f hc10 h
    have h := o_f hc11 h
    have h := o_f hc12 h
    have h := o_f hc13 h
    have h := o_f hc14 h
    have h := o_f hc15 h
    have h := o_f hc16 h
    have h := o_f hc17 h
    have h := o_f hc18 h
    have h := o_f hc19 h
    have h := o_f hc20 h
    have h := o_f hc21 h
    have h := o_f hc22 h
    have h := o_f hc23 h
    have h := o_f hc24 h
    have h := o_f hc25 h
    have h := o_f hc26 h
    have h := o_f hc27 h
    have h := o_f hc28 h
    have h := o_f hc29 h
    have h := o_f hc30 h
    have h := o_f hc31 h
    have h := o_f hc32 h
    have h := o_f hc33 h
    have h := o_f hc34 h
    have h := o_f hc35 h
    have h := o_f hc36 h
    have h := o_f hc37 h
    have h := o_f hc38 h
    have h := o_f hc39 h
    have h := o_f hc40 h
    have h := o_f hc41 h
    have h := o_f hc42 h
    have h := o_f hc43 h
    have h := o_f hc44 h
    have h := o_f hc45 h
    have h := o_f hc46 h
    have h := o_t hc47 h
    refine G_iconst (g_da dt_M_needs 6 rfl) ?_
    exact G_ireturn (g_da dt_M_needs 7 rfl) rfl rfl rfl (g_nz rfl) (q_e h)
  · have h := o_f hc1 h
    have h := o_f hc2 h
    have h := o_f hc3 h
    have h := o_f hc4 h
    have h := o_f hc5 h
    have h := o_f hc6 h
    have h := o_f hc7 h
    have h := o_f hc8 h
    have h := o_f hc9 h
    have h := o_f hc10 h
    have h := o_f hc11 h
    have h := o_f hc12 h
    have h := o_f hc13 h
    have h := o_f hc14 h
    have h := o_f hc15 h
    have h := o_f hc16 h
    have h := o_f hc17 h
    have h := o_f hc18 h
    have h := o_f hc19 h
    have h := o_f hc20 h
    have h := o_f hc21 h
    have h := o_f hc22 h
    have h := o_f hc23 h
    have h := o_f hc24 h
    have h := o_f hc25 h
    have h := o_f hc26 h
    have h := o_f hc27 h
    have h := o_f hc28 h
    have h := o_f hc29 h
    have h := o_f hc30 h
    have h := o_f hc31 h
    have h := o_f hc32 h
    have h := o_f hc33 h
    have h := o_f hc34 h
    have h := o_f hc35 h
    have h := o_f hc36 h
    have h := o_f hc37 h
    have h := o_f hc38 h
    have h := o_f hc39 h
    have h := o_f hc40 h
    have h := o_f hc41 h
    have h := o_f hc42 h
    have h := o_f hc43 h
    have h := o_f hc44 h
    have h := o_f hc45 h
    have h := o_f hc46 h
    have h := o_f hc47 h
    have h := o_t hc48 h
    refine G_iconst (g_da dt_M_needs 6 rfl) ?_
    exact G_ireturn (g_da dt_M_needs 7 rfl) rfl rfl rfl (g_nz rfl) (q_e h)
  · have h := o_f hc1 h
    have h := o_f hc2 h
    have h := o_f hc3 h
    have h := o_f hc4 h
    have h := o_f hc5 h
    have h := o_f hc6 h
    have h := o_f hc7 h
    have h := o_f hc8 h
    have h := o_f hc9 h
    have h := o_f hc10 h
    have h := o_f hc11 h
    have h := o_f hc12 h
    have h := o_f hc13 h
    have h := o_f hc14 h
    have h := o_f hc15 h
    have h := o_f hc16 h
    have h := o_f hc17 h
    have h := o_f hc18 h
    have h := o_f hc19 h
    have h := o_f hc20 h
    have h := o_f hc21 h
    have h := o_f hc22 h
    have h := o_f hc23 h
    have h := o_f hc24 h
    have h := o_f hc25 h
    have h := o_f hc26 h
    have h := o_f hc27 h
    have h := o_f hc28 h
    have h := o_f hc29 h
    have h := o_f hc30 h
    have h := o_f hc31 h
    have h := o_f hc32 h
    have h := o_f hc33 h
    have h := o_f hc34 h
    have h := o_f hc35 h
    have h := o_f hc36 h
    have h := o_f hc37 h
    have h := o_f hc38 h
    have h := o_f hc39 h
    have h := o_f hc40 h
    have h := o_f hc41 h
    have h := o_f hc42 h
    have h := o_f hc43 h
    have h := o_f hc44 h
    have h := o_f hc45 h
    have h := o_f hc46 h
    have h := o_f hc47 h
    have h := o_f hc48 h
    have h := o_t hc49 h
    refine G_iconst (g_da dt_M_needs 2 rfl) ?_
    exact G_ireturn (g_da dt_M_needs 3 rfl) rfl rfl rfl (g_nz rfl) (q_e h)
  · have h := o_f hc1 h
    have h := o_f hc2 h
    have h := o_f hc3 h
    have h := o_f hc4 h
    have h := o_f hc5 h
    have h := o_f hc6 h
    have h := o_f hc7 h
    have h := o_f hc8 h
    have h := o_f hc9 h
    have h := o_f hc10 h
    have h := o_f hc11 h
    have h := o_f hc12 h
    have h := o_f hc13 h
    have h := o_f hc14 h
    have h := o_f hc15 h
    have h := o_f hc16 h
    have h := o_f hc17 h
    have h := o_f hc18 h
    have h := o_f hc19 h
    have h := o_f hc20 h
    have h := o_f hc21 h
    have h := o_f hc22 h
    have h := o_f hc23 h
    have h := o_f hc24 h
    have h := o_f hc25 h
    have h := o_f hc26 h
    have h := o_f hc27 h
    have h := o_f hc28 h
    have h := o_f hc29 h
    have h := o_f hc30 h
    have h := o_f hc31 h
    have h := o_f hc32 h
    have h := o_f hc33 h
    have h := o_f hc34 h
    have h := o_f hc35 h
    have h := o_f hc36 h
    have h := o_f hc37 h
    have h := o_f hc38 h
    have h := o_f hc39 h
    have h := o_f hc40 h
    have h := o_f hc41 h
    have h := o_f hc42 h
    have h := o_f hc43 h
    have h := o_f hc44 h
    have h := o_f hc45 h
    have h := o_f hc46 h
    have h := o_f hc47 h
    have h := o_f hc48 h
    have h := o_f hc49 h
    have h := o_t hc50 h
    refine G_iconst (g_da dt_M_needs 2 rfl) ?_
    exact G_ireturn (g_da dt_M_needs 3 rfl) rfl rfl rfl (g_nz rfl) (q_e h)
  · have h := o_f hc1 h
    have h := o_f hc2 h
    have h := o_f hc3 h
    have h := o_f hc4 h
    have h := o_f hc5 h
    have h := o_f hc6 h
    have h := o_f hc7 h
    have h := o_f hc8 h
    have h := o_f hc9 h
    have h := o_f hc10 h
    have h := o_f hc11 h
    have h := o_f hc12 h
    have h := o_f hc13 h
    have h := o_f hc14 h
    have h := o_f hc15 h
    have h := o_f hc16 h
    have h := o_f hc17 h
    have h := o_f hc18 h
    have h := o_f hc19 h
    have h := o_f hc20 h
    have h := o_f hc21 h
    have h := o_f hc22 h
    have h := o_f hc23 h
    have h := o_f hc24 h
    have h := o_f hc25 h
    have h := o_f hc26 h
    have h := o_f hc27 h
    have h := o_f hc28 h
    have h := o_f hc29 h
    have h := o_f hc30 h
    have h := o_f hc31 h
    have h := o_f hc32 h
    have h := o_f hc33 h
    have h := o_f hc34 h
    have h := o_f hc35 h
    have h := o_f hc36 h
    have h := o_f hc37 h
    have h := o_f hc38 h
    have h := o_f hc39 h
    have h := o_f hc40 h
    have h := o_f hc41 h
    have h := o_f hc42 h
    have h := o_f hc43 h
    have h := o_f hc44 h
    have h := o_f hc45 h
    have h := o_f hc46 h
    have h := o_f hc47 h
    have h := o_f hc48 h
    have h := o_f hc49 h
    have h := o_f hc50 h
    have h := o_t hc51 h
    refine G_iconst (g_da dt_M_needs 2 rfl) ?_
    exact G_ireturn (g_da dt_M_needs 3 rfl) rfl rfl rfl (g_nz rfl) (q_e h)
  · have h := o_f hc1 h
    have h := o_f hc2 h
    have h := o_f hc3 h
    have h := o_f hc4 h
    have h := o_f hc5 h
    have h := o_f hc6 h
    have h := o_f hc7 h
    have h := o_f hc8 h
    have h := o_f hc9 h
    have h := o_f hc10 h
    have h := o_f hc11 h
    have h := o_f hc12 h
    have h := o_f hc13 h
    have h := o_f hc14 h
    have h := o_f hc15 h
    have h := o_f hc16 h
    have h := o_f hc17 h
    have h := o_f hc18 h
    have h := o_f hc19 h
    have h := o_f hc20 h
    have h := o_f hc21 h
    have h := o_f hc22 h
    have h := o_f hc23 h
    have h := o_f hc24 h
    have h := o_f hc25 h
    have h := o_f hc26 h
    have h := o_f hc27 h
    have h := o_f hc28 h
    have h := o_f hc29 h
    have h := o_f hc30 h
    have h := o_f hc31 h
    have h := o_f hc32 h
    have h := o_f hc33 h
    have h := o_f hc34 h
    have h := o_f hc35 h
    have h := o_f hc36 h
    have h := o_f hc37 h
    have h := o_f hc38 h
    have h := o_f hc39 h
    have h := o_f hc40 h
    have h := o_f hc41 h
    have h := o_f hc42 h
    have h := o_f hc43 h
    have h := o_f hc44 h
    have h := o_f hc45 h
    have h := o_f hc46 h
    have h := o_f hc47 h
    have h := o_f hc48 h
    have h := o_f hc49 h
    have h := o_f hc50 h
    have h := o_f hc51 h
    have h := o_t hc52 h
    refine G_iconst (g_da dt_M_needs 6 rfl) ?_
    exact G_ireturn (g_da dt_M_needs 7 rfl) rfl rfl rfl (g_nz rfl) (q_e h)
  · have h := o_f hc1 h
    have h := o_f hc2 h
    have h := o_f hc3 h
    have h := o_f hc4 h
    have h := o_f hc5 h
    have h := o_f hc6 h
    have h := o_f hc7 h
    have h := o_f hc8 h
    have h := o_f hc9 h
    have h := o_f hc10 h
    have h := o_f hc11 h
    have h := o_f hc12 h
    have h := o_f hc13 h
    have h := o_f hc14 h
    have h := o_f hc15 h
    have h := o_f hc16 h
    have h := o_f hc17 h
    have h := o_f hc18 h
    have h := o_f hc19 h
    have h := o_f hc20 h
    have h := o_f hc21 h
    have h := o_f hc22 h
    have h := o_f hc23 h
    have h := o_f hc24 h
    have h := o_f hc25 h
    have h := o_f hc26 h
    have h := o_f hc27 h
    have h := o_f hc28 h
    have h := o_f hc29 h
    have h := o_f hc30 h
    have h := o_f hc31 h
    have h := o_f hc32 h
    have h := o_f hc33 h
    have h := o_f hc34 h
    have h := o_f hc35 h
    have h := o_f hc36 h
    have h := o_f hc37 h
    have h := o_f hc38 h
    have h := o_f hc39 h
    have h := o_f hc40 h
    have h := o_f hc41 h
    have h := o_f hc42 h
    have h := o_f hc43 h
    have h := o_f hc44 h
    have h := o_f hc45 h
    have h := o_f hc46 h
    have h := o_f hc47 h
    have h := o_f hc48 h
    have h := o_f hc49 h
    have h := o_f hc50 h
    have h := o_f hc51 h
    have h := o_f hc52 h
    have h := o_t hc53 h
    exact G_subK (M_needs_387_ok h) ⟨rfl, trivial⟩
  · have h := o_f hc1 h
    have h := o_f hc2 h
    have h := o_f hc3 h
    have h := o_f hc4 h
    have h := o_f hc5 h
    have h := o_f hc6 h
    have h := o_f hc7 h
    have h := o_f hc8 h
    have h := o_f hc9 h
    have h := o_f hc10 h
    have h := o_f hc11 h
    have h := o_f hc12 h
    have h := o_f hc13 h
    have h := o_f hc14 h
    have h := o_f hc15 h
    have h := o_f hc16 h
    have h := o_f hc17 h
    have h := o_f hc18 h
    have h := o_f hc19 h
    have h := o_f hc20 h
    have h := o_f hc21 h
    have h := o_f hc22 h
    have h := o_f hc23 h
    have h := o_f hc24 h
    have h := o_f hc25 h
    have h := o_f hc26 h
    have h := o_f hc27 h
    have h := o_f hc28 h
    have h := o_f hc29 h
    have h := o_f hc30 h
    have h := o_f hc31 h
    have h := o_f hc32 h
    have h := o_f hc33 h
    have h := o_f hc34 h
    have h := o_f hc35 h
    have h := o_f hc36 h
    have h := o_f hc37 h
    have h := o_f hc38 h
    have h := o_f hc39 h
    have h := o_f hc40 h
    have h := o_f hc41 h
    have h := o_f hc42 h
    have h := o_f hc43 h
    have h := o_f hc44 h
    have h := o_f hc45 h
    have h := o_f hc46 h
    have h := o_f hc47 h
    have h := o_f hc48 h
    have h := o_f hc49 h
    have h := o_f hc50 h
    have h := o_f hc51 h
    have h := o_f hc52 h
    have h := o_f hc53 h
    have h := o_t hc54 h
    refine G_iconst (g_da dt_M_needs 2 rfl) ?_
    exact G_ireturn (g_da dt_M_needs 3 rfl) rfl rfl rfl (g_nz rfl) (q_e h)
  · have h := o_f hc1 h
    have h := o_f hc2 h
    have h := o_f hc3 h
    have h := o_f hc4 h
    have h := o_f hc5 h
    have h := o_f hc6 h
    have h := o_f hc7 h
    have h := o_f hc8 h
    have h := o_f hc9 h
    have h := o_f hc10 h
    have h := o_f hc11 h
    have h := o_f hc12 h
    have h := o_f hc13 h
    have h := o_f hc14 h
    have h := o_f hc15 h
    have h := o_f hc16 h
    have h := o_f hc17 h
    have h := o_f hc18 h
    have h := o_f hc19 h
    have h := o_f hc20 h
    have h := o_f hc21 h
    have h := o_f hc22 h
    have h := o_f hc23 h
    have h := o_f hc24 h
    have h := o_f hc25 h
    have h := o_f hc26 h
    have h := o_f hc27 h
    have h := o_f hc28 h
    have h := o_f hc29 h
    have h := o_f hc30 h
    have h := o_f hc31 h
    have h := o_f hc32 h
    have h := o_f hc33 h
    have h := o_f hc34 h
    have h := o_f hc35 h
    have h := o_f hc36 h
    have h := o_f hc37 h
    have h := o_f hc38 h
    have h := o_f hc39 h
    have h := o_f hc40 h
    have h := o_f hc41 h
    have h := o_f hc42 h
    have h := o_f hc43 h
    have h := o_f hc44 h
    have h := o_f hc45 h
    have h := o_f hc46 h
    have h := o_f hc47 h
    have h := o_f hc48 h
    have h := o_f hc49 h
    have h := o_f hc50 h
    have h := o_f hc51 h
    have h := o_f hc52 h
    have h := o_f hc53 h
    have h := o_f hc54 h
    have h := o_t hc55 h
    exact G_subK (M_needs_387_ok h) ⟨rfl, trivial⟩
  · have h := o_f hc1 h
    have h := o_f hc2 h
    have h := o_f hc3 h
    have h := o_f hc4 h
    have h := o_f hc5 h
    have h := o_f hc6 h
    have h := o_f hc7 h
    have h := o_f hc8 h
    have h := o_f hc9 h
    have h := o_f hc10 h
    have h := o_f hc11 h
    have h := o_f hc12 h
    have h := o_f hc13 h
    have h := o_f hc14 h
    have h := o_f hc15 h
    have h := o_f hc16 h
    have h := o_f hc17 h
    have h := o_f hc18 h
    have h := o_f hc19 h
    have h := o_f hc20 h
    have h := o_f hc21 h
    have h := o_f hc22 h
    have h := o_f hc23 h
    have h := o_f hc24 h
    have h := o_f hc25 h
    have h := o_f hc26 h
    have h := o_f hc27 h
    have h := o_f hc28 h
    have h := o_f hc29 h
    have h := o_f hc30 h
    have h := o_f hc31 h
    have h := o_f hc32 h
    have h := o_f hc33 h
    have h := o_f hc34 h
    have h := o_f hc35 h
    have h := o_f hc36 h
    have h := o_f hc37 h
    have h := o_f hc38 h
    have h := o_f hc39 h
    have h := o_f hc40 h
    have h := o_f hc41 h
    have h := o_f hc42 h
    have h := o_f hc43 h
    have h := o_f hc44 h
    have h := o_f hc45 h
    have h := o_f hc46 h
    have h := o_f hc47 h
    have h := o_f hc48 h
    have h := o_f hc49 h
    have h := o_f hc50 h
    have h := o_f hc51 h
    have h := o_f hc52 h
    have h := o_f hc53 h
    have h := o_f hc54 h
    have h := o_f hc55 h
    have h := o_t hc56 h
    exact G_subK (M_needs_387_ok h) ⟨rfl, trivial⟩
  · have h := o_f hc1 h
    have h := o_f hc2 h
    have h := o_f hc3 h
    have h := o_f hc4 h
    have h := o_f hc5 h
    have h := o_f hc6 h
    have h := o_f hc7 h
    have h := o_f hc8 h
    have h := o_f hc9 h
    have h := o_f hc10 h
    have h := o_f hc11 h
    have h := o_f hc12 h
    have h := o_f hc13 h
    have h := o_f hc14 h
    have h := o_f hc15 h
    have h := o_f hc16 h
    have h := o_f hc17 h
    have h := o_f hc18 h
    have h := o_f hc19 h
    have h := o_f hc20 h
    have h := o_f hc21 h
    have h := o_f hc22 h
    have h := o_f hc23 h
    have h := o_f hc24 h
    have h := o_f hc25 h
    have h := o_f hc26 h
    have h := o_f hc27 h
    have h := o_f hc28 h
    have h := o_f hc29 h
    have h := o_f hc30 h
    have h := o_f hc31 h
    have h := o_f hc32 h
    have h := o_f hc33 h
    have h := o_f hc34 h
    have h := o_f hc35 h
    have h := o_f hc36 h
    have h := o_f hc37 h
    have h := o_f hc38 h
    have h := o_f hc39 h
    have h := o_f hc40 h
    have h := o_f hc41 h
    have h := o_f hc42 h
    have h := o_f hc43 h
    have h := o_f hc44 h
    have h := o_f hc45 h
    have h := o_f hc46 h
    have h := o_f hc47 h
    have h := o_f hc48 h
    have h := o_f hc49 h
    have h := o_f hc50 h
    have h := o_f hc51 h
    have h := o_f hc52 h
    have h := o_f hc53 h
    have h := o_f hc54 h
    have h := o_f hc55 h
    have h := o_f hc56 h
    have h := o_t hc57 h
    exact G_subK (M_needs_387_ok h) ⟨rfl, trivial⟩
  · have h := o_f hc1 h
    have h := o_f hc2 h
    have h := o_f hc3 h
    have h := o_f hc4 h
    have h := o_f hc5 h
    have h := o_f hc6 h
    have h := o_f hc7 h
    have h := o_f hc8 h
    have h := o_f hc9 h
    have h := o_f hc10 h
    have h := o_f hc11 h
    have h := o_f hc12 h
    have h := o_f hc13 h
    have h := o_f hc14 h
    have h := o_f hc15 h
    have h := o_f hc16 h
    have h := o_f hc17 h
    have h := o_f hc18 h
    have h := o_f hc19 h
    have h := o_f hc20 h
    have h := o_f hc21 h
    have h := o_f hc22 h
    have h := o_f hc23 h
    have h := o_f hc24 h
    have h := o_f hc25 h
    have h := o_f hc26 h
    have h := o_f hc27 h
    have h := o_f hc28 h
    have h := o_f hc29 h
    have h := o_f hc30 h
    have h := o_f hc31 h
    have h := o_f hc32 h
    have h := o_f hc33 h
    have h := o_f hc34 h
    have h := o_f hc35 h
    have h := o_f hc36 h
    have h := o_f hc37 h
    have h := o_f hc38 h
    have h := o_f hc39 h
    have h := o_f hc40 h
    have h := o_f hc41 h
    have h := o_f hc42 h
    have h := o_f hc43 h
    have h := o_f hc44 h
    have h := o_f hc45 h
    have h := o_f hc46 h
    have h := o_f hc47 h
    have h := o_f hc48 h
    have h := o_f hc49 h
    have h := o_f hc50 h
    have h := o_f hc51 h
    have h := o_f hc52 h
    have h := o_f hc53 h
    have h := o_f hc54 h
    have h := o_f hc55 h
    have h := o_f hc56 h
    have h := o_f hc57 h
    have h := o_t hc58 h
    exact G_subK (M_needs_387_ok h) ⟨rfl, trivial⟩
  · have h := o_f hc1 h
    have h := o_f hc2 h
    have h := o_f hc3 h
    have h := o_f hc4 h
    have h := o_f hc5 h
    have h := o_f hc6 h
    have h := o_f hc7 h
    have h := o_f hc8 h
    have h := o_f hc9 h
    have h := o_f hc10 h
    have h := o_f hc11 h
    have h := o_f hc12 h
    have h := o_f hc13 h
    have h := o_f hc14 h
    have h := o_f hc15 h
    have h := o_f hc16 h
    have h := o_f hc17 h
    have h := o_f hc18 h
    have h := o_f hc19 h
    have h := o_f hc20 h
    have h := o_f hc21 h
    have h := o_f hc22 h
    have h := o_f hc23 h
    have h := o_f hc24 h
    have h := o_f hc25 h
    have h := o_f hc26 h
    have h := o_f hc27 h
    have h := o_f hc28 h
    have h := o_f hc29 h
    have h := o_f hc30 h
    have h := o_f hc31 h
    have h := o_f hc32 h
    have h := o_f hc33 h
    have h := o_f hc34 h
    have h := o_f hc35 h
    have h := o_f hc36 h
    have h := o_f hc37 h
    have h := o_f hc38 h
    have h := o_f hc39 h
    have h := o_f hc40 h
    have h := o_f hc41 h
    have h := o_f hc42 h
    have h := o_f hc43 h
    have h := o_f hc44 h
    have h := o_f hc45 h
    have h := o_f hc46 h
    have h := o_f hc47 h
    have h := o_f hc48 h
    have h := o_f hc49 h
    have h := o_f hc50 h
    have h := o_f hc51 h
    have h := o_f hc52 h
    have h := o_f hc53 h
    have h := o_f hc54 h
    have h := o_f hc55 h
    have h := o_f hc56 h
    have h := o_f hc57 h
    have h := o_f hc58 h
    have h := o_t hc59 h
    exact G_subK (M_needs_387_ok h) ⟨rfl, trivial⟩
  · have h := o_f hc1 h
    have h := o_f hc2 h
    have h := o_f hc3 h
    have h := o_f hc4 h
    have h := o_f hc5 h
    have h := o_f hc6 h
    have h := o_f hc7 h
    have h := o_f hc8 h
    have h := o_f hc9 h
    have h := o_f hc10 h
    have h := o_f hc11 h
    have h := o_f hc12 h
    have h := o_f hc13 h
    have h := o_f hc14 h
    have h := o_f hc15 h
    have h := o_f hc16 h
    have h := o_f hc17 h
    have h := o_f hc18 h
    have h := o_f hc19 h
    have h := o_f hc20 h
    have h := o_f hc21 h
    have h := o_f hc22 h
    have h := o_f hc23 h
    have h := o_f hc24 h
    have h := o_f hc25 h
    have h := o_f hc26 h
    have h := o_f hc27 h
    have h := o_f hc28 h
    have h := o_f hc29 h
    have h := o_f hc30 h
    have h := o_f hc31 h
    have h := o_f hc32 h
    have h := o_f hc33 h
    have h := o_f hc34 h
    have h := o_f hc35 h
    have h := o_f hc36 h
    have h := o_f hc37 h
    have h := o_f hc38 h
    have h := o_f hc39 h
    have h := o_f hc40 h
    have h := o_f hc41 h
    have h := o_f hc42 h
    have h := o_f hc43 h
    have h := o_f hc44 h
    have h := o_f hc45 h
    have h := o_f hc46 h
    have h := o_f hc47 h
    have h := o_f hc48 h
    have h := o_f hc49 h
    have h := o_f hc50 h
    have h := o_f hc51 h
    have h := o_f hc52 h
    have h := o_f hc53 h
    have h := o_f hc54 h
    have h := o_f hc55 h
    have h := o_f hc56 h
    have h := o_f hc57 h
    have h := o_f hc58 h
    have h := o_f hc59 h
    have h := o_t hc60 h
    exact G_subK (M_needs_387_ok h) ⟨rfl, trivial⟩
  · have h := o_f hc1 h
    have h := o_f hc2 h
    have h := o_f hc3 h
    have h := o_f hc4 h
    have h := o_f hc5 h
    have h := o_f hc6 h
    have h := o_f hc7 h
    have h := o_f hc8 h
    have h := o_f hc9 h
    have h := o_f hc10 h
    have h := o_f hc11 h
    have h := o_f hc12 h
    have h := o_f hc13 h
    have h := o_f hc14 h
    have h := o_f hc15 h
    have h := o_f hc16 h
    have h := o_f hc17 h
    have h := o_f hc18 h
    have h := o_f hc19 h
    have h := o_f hc20 h
    have h := o_f hc21 h
    have h := o_f hc22 h
    have h := o_f hc23 h
    have h := o_f hc24 h
    have h := o_f hc25 h
    have h := o_f hc26 h
    have h := o_f hc27 h
    have h := o_f hc28 h
    have h := o_f hc29 h
    have h := o_f hc30 h
    have h := o_f hc31 h
    have h := o_f hc32 h
    have h := o_f hc33 h
    have h := o_f hc34 h
    have h := o_f hc35 h
    have h := o_f hc36 h
    have h := o_f hc37 h
    have h := o_f hc38 h
    have h := o_f hc39 h
    have h := o_f hc40 h
    have h := o_f hc41 h
    have h := o_f hc42 h
    have h := o_f hc43 h
    have h := o_f hc44 h
    have h := o_f hc45 h
    have h := o_f hc46 h
    have h := o_f hc47 h
    have h := o_f hc48 h
    have h := o_f hc49 h
    have h := o_f hc50 h
    have h := o_f hc51 h
    have h := o_f hc52 h
    have h := o_f hc53 h
    have h := o_f hc54 h
    have h := o_f hc55 h
    have h := o_f hc56 h
    have h := o_f hc57 h
    have h := o_f hc58 h
    have h := o_f hc59 h
    have h := o_f hc60 h
    have h := o_t hc61 h
    exact G_subK (M_needs_387_ok h) ⟨rfl, trivial⟩
  · have h := o_f hc1 h
    have h := o_f hc2 h
    have h := o_f hc3 h
    have h := o_f hc4 h
    have h := o_f hc5 h
    have h := o_f hc6 h
    have h := o_f hc7 h
    have h := o_f hc8 h
    have h := o_f hc9 h
    have h := o_f hc10 h
    have h := o_f hc11 h
    have h := o_f hc12 h
    have h := o_f hc13 h
    have h := o_f hc14 h
    have h := o_f hc15 h
    have h := o_f hc16 h
    have h := o_f hc17 h
    have h := o_f hc18 h
    have h := o_f hc19 h
    have h := o_f hc20 h
    have h := o_f hc21 h
    have h := o_f hc22 h
    have h := o_f hc23 h
    have h := o_f hc24 h
    have h := o_f hc25 h
    have h := o_f hc26 h
    have h := o_f hc27 h
    have h := o_f hc28 h
    have h := o_f hc29 h
    have h := o_f hc30 h
    have h := o_f hc31 h
    have h := o_f hc32 h
    have h := o_f hc33 h
    have h := o_f hc34 h
    have h := o_f hc35 h
    have h := o_f hc36 h
    have h := o_f hc37 h
    have h := o_f hc38 h
    have h := o_f hc39 h
    have h := o_f hc40 h
    have h := o_f hc41 h
    have h := o_f hc42 h
    have h := o_f hc43 h
    have h := o_f hc44 h
    have h := o_f hc45 h
    have h := o_f hc46 h
    have h := o_f hc47 h
    have h := o_f hc48 h
    have h := o_f hc49 h
    have h := o_f hc50 h
    have h := o_f hc51 h
    have h := o_f hc52 h
    have h := o_f hc53 h
    have h := o_f hc54 h
    have h := o_f hc55 h
    have h := o_f hc56 h
    have h := o_f hc57 h
    have h := o_f hc58 h
    have h := o_f hc59 h
    have h := o_f hc60 h
    have h := o_f hc61 h
    have h := o_t hc62 h
    exact G_subK (M_needs_387_ok h) ⟨rfl, trivial⟩
  · have h := o_f hc1 h
    have h := o_f hc2 h
    have h := o_f hc3 h
    have h := o_f hc4 h
    have h := o_f hc5 h
    have h := o_f hc6 h
    have h := o_f hc7 h
    have h := o_f hc8 h
    have h := o_f hc9 h
    have h := o_f hc10 h
    have h := o_f hc11 h
    have h := o_f hc12 h
    have h := o_f hc13 h
    have h := o_f hc14 h
    have h := o_f hc15 h
    have h := o_f hc16 h
    have h := o_f hc17 h
    have h := o_f hc18 h
    have h := o_f hc19 h
    have h := o_f hc20 h
    have h := o_f hc21 h
    have h := o_f hc22 h
    have h := o_f hc23 h
    have h := o_f hc24 h
    have h := o_f hc25 h
    have h := o_f hc26 h
    have h := o_f hc27 h
    have h := o_f hc28 h
    have h := o_f hc29 h
    have h := o_f hc30 h
    have h := o_f hc31 h
    have h := o_f hc32 h
    have h := o_f hc33 h
    have h := o_f hc34 h
    have h := o_f hc35 h
    have h := o_f hc36 h
    have h := o_f hc37 h
    have h := o_f hc38 h
    have h := o_f hc39 h
    have h := o_f hc40 h
    have h := o_f hc41 h
    have h := o_f hc42 h
    have h := o_f hc43 h
    have h := o_f hc44 h
    have h := o_f hc45 h
    have h := o_f hc46 h
    have h := o_f hc47 h
    have h := o_f hc48 h
    have h := o_f hc49 h
    have h := o_f hc50 h
    have h := o_f hc51 h
    have h := o_f hc52 h
    have h := o_f hc53 h
    have h := o_f hc54 h
    have h := o_f hc55 h
    have h := o_f hc56 h
    have h := o_f hc57 h
    have h := o_f hc58 h
    have h := o_f hc59 h
    have h := o_f hc60 h
    have h := o_f hc61 h
    have h := o_f hc62 h
    have h := o_t hc63 h
    exact G_subK (M_needs_387_ok h) ⟨rfl, trivial⟩
  · have h := o_f hc1 h
    have h := o_f hc2 h
    have h := o_f hc3 h
    have h := o_f hc4 h
    have h := o_f hc5 h
    have h := o_f hc6 h
    have h := o_f hc7 h
    have h := o_f hc8 h
    have h := o_f hc9 h
    have h := o_f hc10 h
    have h := o_f hc11 h
    have h := o_f hc12 h
    have h := o_f hc13 h
    have h := o_f hc14 h
    have h := o_f hc15 h
    have h := o_f hc16 h
    have h := o_f hc17 h
    have h := o_f hc18 h
    have h := o_f hc19 h
    have h := o_f hc20 h
    have h := o_f hc21 h
    have h := o_f hc22 h
    have h := o_f hc23 h
    have h := o_f hc24 h
    have h := o_f hc25 h
    have h := o_f hc26 h
    have h := o_f hc27 h
    have h := o_f hc28 h
    have h := o_f hc29 h
    have h := o_f hc30 h
    have h := o_f hc31 h
    have h := o_f hc32 h
    have h := o_f hc33 h
    have h := o_f hc34 h
    have h := o_f hc35 h
    have h := o_f hc36 h
    have h := o_f hc37 h
    have h := o_f hc38 h
    have h := o_f hc39 h
    have h := o_f hc40 h
    have h := o_f hc41 h
    have h := o_f hc42 h
    have h := o_f hc43 h
    have h := o_f hc44 h
    have h := o_f hc45 h
    have h := o_f hc46 h
    have h := o_f hc47 h
    have h := o_f hc48 h
    have h := o_f hc49 h
    have h := o_f hc50 h
    have h := o_f hc51 h
    have h := o_f hc52 h
    have h := o_f hc53 h
    have h := o_f hc54 h
    have h := o_f hc55 h
    have h := o_f hc56 h
    have h := o_f hc57 h
    have h := o_f hc58 h
    have h := o_f hc59 h
    have h := o_f hc60 h
    have h := o_f hc61 h
    have h := o_f hc62 h
    have h := o_f hc63 h
    have h := o_t hc64 h
    exact G_subK (M_needs_387_ok h) ⟨rfl, trivial⟩
  · have h := o_f hc1 h
    have h := o_f hc2 h
    have h := o_f hc3 h
    have h := o_f hc4 h
    have h := o_f hc5 h
    have h := o_f hc6 h
    have h := o_f hc7 h
    have h := o_f hc8 h
    have h := o_f hc9 h
    have h := o_f hc10 h
    have h := o_f hc11 h
    have h := o_f hc12 h
    have h := o_f hc13 h
    have h := o_f hc14 h
    have h := o_f hc15 h
    have h := o_f hc16 h
    have h := o_f hc17 h
    have h := o_f hc18 h
    have h := o_f hc19 h
    have h := o_f hc20 h
    have h := o_f hc21 h
    have h := o_f hc22 h
    have h := o_f hc23 h
    have h := o_f hc24 h
    have h := o_f hc25 h
    have h := o_f hc26 h
    have h := o_f hc27 h
    have h := o_f hc28 h
    have h := o_f hc29 h
    have h := o_f hc30 h
    have h := o_f hc31 h
    have h := o_f hc32 h
    have h := o_f hc33 h
    have h := o_f hc34 h
    have h := o_f hc35 h
    have h := o_f hc36 h
    have h := o_f hc37 h
    have h := o_f hc38 h
    have h := o_f hc39 h
    have h := o_f hc40 h
    have h := o_f hc41 h
    have h := o_f hc42 h
    have h := o_f hc43 h
    have h := o_f hc44 h
    have h := o_f hc45 h
    have h := o_f hc46 h
    have h := o_f hc47 h
    have h := o_f hc48 h
    have h := o_f hc49 h
    have h := o_f hc50 h
    have h := o_f hc51 h
    have h := o_f hc52 h
    have h := o_f hc53 h
    have h := o_f hc54 h
    have h := o_f hc55 h
    have h := o_f hc56 h
    have h := o_f hc57 h
    have h := o_f hc58 h
    have h := o_f hc59 h
    have h := o_f hc60 h
    have h := o_f hc61 h
    have h := o_f hc62 h
    have h := o_f hc63 h
    have h := o_f hc64 h
    have h := o_t hc65 h
    exact G_subK (M_needs_387_ok h) ⟨rfl, trivial⟩
  · have h := o_f hc1 h
    have h := o_f hc2 h
    have h := o_f hc3 h
    have h := o_f hc4 h
    have h := o_f hc5 h
    have h := o_f hc6 h
    have h := o_f hc7 h
    have h := o_f hc8 h
    have h := o_f hc9 h
    have h := o_f hc10 h
    have h := o_f hc11 h
    have h := o_f hc12 h
    have h := o_f hc13 h
    have h := o_f hc14 h
    have h := o_f hc15 h
    have h := o_f hc16 h
    have h := o_f hc17 h
    have h := o_f hc18 h
    have h := o_f hc19 h
    have h := o_f hc20 h
    have h := o_f hc21 h
    have h := o_f hc22 h
    have h := o_f hc23 h
    have h := o_f hc24 h
    have h := o_f hc25 h
    have h := o_f hc26 h
    have h := o_f hc27 h
    have h := o_f hc28 h
    have h := o_f hc29 h
    have h := o_f hc30 h
    have h := o_f hc31 h
    have h := o_f hc32 h
    have h := o_f hc33 h
    have h := o_f hc34 h
    have h := o_f hc35 h
    have h := o_f hc36 h
    have h := o_f hc37 h
    have h := o_f hc38 h
    have h := o_f hc39 h
    have h := o_f hc40 h
    have h := o_f hc41 h
    have h := o_f hc42 h
    have h := o_f hc43 h
    have h := o_f hc44 h
    have h := o_f hc45 h
    have h := o_f hc46 h
    have h := o_f hc47 h
    have h := o_f hc48 h
    have h := o_f hc49 h
    have h := o_f hc50 h
    have h := o_f hc51 h
    have h := o_f hc52 h
    have h := o_f hc53 h
    have h := o_f hc54 h
    have h := o_f hc55 h
    have h := o_f hc56 h
    have h := o_f hc57 h
    have h := o_f hc58 h
    have h := o_f hc59 h
    have h := o_f hc60 h
    have h := o_f hc61 h
    have h := o_f hc62 h
    have h := o_f hc63 h
    have h := o_f hc64 h
    have h := o_f hc65 h
    have h := o_t hc66 h
    exact G_subK (M_needs_387_ok h) ⟨rfl, trivial⟩
  · have h := o_f hc1 h
    have h := o_f hc2 h
    have h := o_f hc3 h
    have h := o_f hc4 h
    have h := o_f hc5 h
    have h := o_f hc6 h
    have h := o_f hc7 h
    have h := o_f hc8 h
    have h := o_f hc9 h
    have h := o_f hc10 h
    have h := o_f hc11 h
    have h := o_f hc12 h
    have h := o_f hc13 h
    have h := o_f hc14 h
    have h := o_f hc15 h
    have h := o_f hc16 h
    have h := o_f hc17 h
    have h := o_f hc18 h
    have h := o_f hc19 h
    have h := o_f hc20 h
    have h := o_f hc21 h
    have h := o_f hc22 h
    have h := o_f hc23 h
    have h := o_f hc24 h
    have h := o_f hc25 h
    have h := o_f hc26 h
    have h := o_f hc27 h
    have h := o_f hc28 h
    have h := o_f hc29 h
    have h := o_f hc30 h
    have h := o_f hc31 h
    have h := o_f hc32 h
    have h := o_f hc33 h
    have h := o_f hc34 h
    have h := o_f hc35 h
    have h := o_f hc36 h
    have h := o_f hc37 h
    have h := o_f hc38 h
    have h := o_f hc39 h
    have h := o_f hc40 h
    have h := o_f hc41 h
    have h := o_f hc42 h
    have h := o_f hc43 h
    have h := o_f hc44 h
    have h := o_f hc45 h
    have h := o_f hc46 h
    have h := o_f hc47 h
    have h := o_f hc48 h
    have h := o_f hc49 h
    have h := o_f hc50 h
    have h := o_f hc51 h
    have h := o_f hc52 h
    have h := o_f hc53 h
    have h := o_f hc54 h
    have h := o_f hc55 h
    have h := o_f hc56 h
    have h := o_f hc57 h
    have h := o_f hc58 h
    have h := o_f hc59 h
    have h := o_f hc60 h
    have h := o_f hc61 h
    have h := o_f hc62 h
    have h := o_f hc63 h
    have h := o_f hc64 h
    have h := o_f hc65 h
    have h := o_f hc66 h
    have h := o_t hc67 h
    exact G_subK (M_needs_387_ok h) ⟨rfl, trivial⟩
  · have h := o_f hc1 h
    have h := o_f hc2 h
    have h := o_f hc3 h
    have h := o_f hc4 h
    have h := o_f hc5 h
    have h := o_f hc6 h
    have h := o_f hc7 h
    have h := o_f hc8 h
    have h := o_f hc9 h
    have h := o_f hc10 h
    have h := o_f hc11 h
    have h := o_f hc12 h
    have h := o_f hc13 h
    have h := o_f hc14 h
    have h := o_f hc15 h
    have h := o_f hc16 h
    have h := o_f hc17 h
    have h := o_f hc18 h
    have h := o_f hc19 h
    have h := o_f hc20 h
    have h := o_f hc21 h
    have h := o_f hc22 h
    have h := o_f hc23 h
    have h := o_f hc24 h
    have h := o_f hc25 h
    have h := o_f hc26 h
    have h := o_f hc27 h
    have h := o_f hc28 h
    have h := o_f hc29 h
    have h := o_f hc30 h
    have h := o_f hc31 h
    have h := o_f hc32 h
    have h := o_f hc33 h
    have h := o_f hc34 h
    have h := o_f hc35 h
    have h := o_f hc36 h
    have h := o_f hc37 h
    have h := o_f hc38 h
    have h := o_f hc39 h
    have h := o_f hc40 h
    have h := o_f hc41 h
    have h := o_f hc42 h
    have h := o_f hc43 h
    have h := o_f hc44 h
    have h := o_f hc45 h
    have h := o_f hc46 h
    have h := o_f hc47 h
    have h := o_f hc48 h
    have h := o_f hc49 h
    have h := o_f hc50 h
    have h := o_f hc51 h
    have h := o_f hc52 h
    have h := o_f hc53 h
    have h := o_f hc54 h
    have h := o_f hc55 h
    have h := o_f hc56 h
    have h := o_f hc57 h
    have h := o_f hc58 h
    have h := o_f hc59 h
    have h := o_f hc60 h
    have h := o_f hc61 h
    have h := o_f hc62 h
    have h := o_f hc63 h
    have h := o_f hc64 h
    have h := o_f hc65 h
    have h := o_f hc66 h
    have h := o_f hc67 h
    have h := o_t hc68 h
    exact G_subK (M_needs_387_ok h) ⟨rfl, trivial⟩
  · have h := o_f hc1 h
    have h := o_f hc2 h
    have h := o_f hc3 h
    have h := o_f hc4 h
    have h := o_f hc5 h
    have h := o_f hc6 h
    have h := o_f hc7 h
    have h := o_f hc8 h
    have h := o_f hc9 h
    have h := o_f hc10 h
    have h := o_f hc11 h
    have h := o_f hc12 h
    have h := o_f hc13 h
    have h := o_f hc14 h
    have h := o_f hc15 h
    have h := o_f hc16 h
    have h := o_f hc17 h
    have h := o_f hc18 h
    have h := o_f hc19 h
    have h := o_f hc20 h
    have h := o_f hc21 h
    have h := o_f hc22 h
    have h := o_f hc23 h
    have h := o_f hc24 h
    have h := o_f hc25 h
    have h := o_f hc26 h
    have h := o_f hc27 h
    have h := o_f hc28 h
    have h := o_f hc29 h
    have h := o_f hc30 h
    have h := o_f hc31 h
    have h := o_f hc32 h
    have h := o_f hc33 h
    have h := o_f hc34 h
    have h := o_f hc35 h
    have h := o_f hc36 h
    have h := o_f hc37 h
    have h := o_f hc38 h
    have h := o_f hc39 h
    have h := o_f hc40 h
    have h := o_f hc41 h
    have h := o_f hc42 h
    have h := o_f hc43 h
    have h := o_f hc44 h
    have h := o_f hc45 h
    have h := o_f hc46 h
    have h := o_f hc47 h
    have h := o_f hc48 h
    have h := o_f hc49 h
    have h := o_f hc50 h
    have h := o_f hc51 h
    have h := o_f hc52 h
    have h := o_f hc53 h
    have h := o_f hc54 h
    have h := o_f hc55 h
    have h := o_f hc56 h
    have h := o_f hc57 h
    have h := o_f hc58 h
    have h := o_f hc59 h
    have h := o_f hc60 h
    have h := o_f hc61 h
    have h := o_f hc62 h
    have h := o_f hc63 h
    have h := o_f hc64 h
    have h := o_f hc65 h
    have h := o_f hc66 h
    have h := o_f hc67 h
    have h := o_f hc68 h
    have h := o_t hc69 h
    exact G_subK (M_needs_387_ok h) ⟨rfl, trivial⟩
  · have h := o_f hc1 h
    have h := o_f hc2 h
    have h := o_f hc3 h
    have h := o_f hc4 h
    have h := o_f hc5 h
    have h := o_f hc6 h
    have h := o_f hc7 h
    have h := o_f hc8 h
    have h := o_f hc9 h
    have h := o_f hc10 h
    have h := o_f hc11 h
    have h := o_f hc12 h
    have h := o_f hc13 h
    have h := o_f hc14 h
    have h := o_f hc15 h
    have h := o_f hc16 h
    have h := o_f hc17 h
    have h := o_f hc18 h
    have h := o_f hc19 h
    have h := o_f hc20 h
    have h := o_f hc21 h
    have h := o_f hc22 h
    have h := o_f hc23 h
    have h := o_f hc24 h
    have h := o_f hc25 h
    have h := o_f hc26 h
    have h := o_f hc27 h
    have h := o_f hc28 h
    have h := o_f hc29 h
    have h := o_f hc30 h
    have h := o_f hc31 h
    have h := o_f hc32 h
    have h := o_f hc33 h
    have h := o_f hc34 h
    have h := o_f hc35 h
    have h := o_f hc36 h
    have h := o_f hc37 h
    have h := o_f hc38 h
    have h := o_f hc39 h
    have h := o_f hc40 h
    have h := o_f hc41 h
    have h := o_f hc42 h
    have h := o_f hc43 h
    have h := o_f hc44 h
    have h := o_f hc45 h
    have h := o_f hc46 h
    have h := o_f hc47 h
    have h := o_f hc48 h
    have h := o_f hc49 h
    have h := o_f hc50 h
    have h := o_f hc51 h
    have h := o_f hc52 h
    have h := o_f hc53 h
    have h := o_f hc54 h
    have h := o_f hc55 h
    have h := o_f hc56 h
    have h := o_f hc57 h
    have h := o_f hc58 h
    have h := o_f hc59 h
    have h := o_f hc60 h
    have h := o_f hc61 h
    have h := o_f hc62 h
    have h := o_f hc63 h
    have h := o_f hc64 h
    have h := o_f hc65 h
    have h := o_f hc66 h
    have h := o_f hc67 h
    have h := o_f hc68 h
    have h := o_f hc69 h
    have h := o_t hc70 h
    exact G_subK (M_needs_387_ok h) ⟨rfl, trivial⟩
  · have h := o_f hc1 h
    have h := o_f hc2 h
    have h := o_f hc3 h
    have h := o_f hc4 h
    have h := o_f hc5 h
    have h := o_f hc6 h
    have h := o_f hc7 h
    have h := o_f hc8 h
    have h := o_f hc9 h
    have h := o_f hc10 h
    have h := o_f hc11 h
    have h := o_f hc12 h
    have h := o_f hc13 h
    have h := o_f hc14 h
    have h := o_f hc15 h
    have h := o_f hc16 h
    have h := o_f hc17 h
    have h := o_f hc18 h
    have h := o_f hc19 h
    have h := o_f hc20 h
    have h := o_f hc21 h
    have h := o_f hc22 h
    have h := o_f hc23 h
    have h := o_f hc24 h
    have h := o_f hc25 h
    have h := o_f hc26 h
    have h := o_f hc27 h
    have h := o_f hc28 h
    have h := o_f hc29 h
    have h := o_f hc30 h
    have h := o_f hc31 h
    have h := o_f hc32 h
    have h := o_f hc33 h
    have h := o_f hc34 h
    have h := o_f hc35 h
    have h := o_f hc36 h
    have h := o_f hc37 h
    have h := o_f hc38 h
    have h := o_f hc39 h
    have h := o_f hc40 h
    have h := o_f hc41 h
    have h := o_f hc42 h
    have h := o_f hc43 h
    have h := o_f hc44 h
    have h := o_f hc45 h
    have h := o_f hc46 h
    have h := o_f hc47 h
    have h := o_f hc48 h
    have h := o_f hc49 h
    have h := o_f hc50 h
    have h := o_f hc51 h
    have h := o_f hc52 h
    have h := o_f hc53 h
    have h := o_f hc54 h
    have h := o_f hc55 h
    have h := o_f hc56 h
    have h := o_f hc57 h
    have h := o_f hc58 h
    have h := o_f hc59 h
    have h := o_f hc60 h
    have h := o_f hc61 h
    have h := o_f hc62 h
    have h := o_f hc63 h
    have h := o_f hc64 h
    have h := o_f hc65 h
    have h := o_f hc66 h
    have h := o_f hc67 h
    have h := o_f hc68 h
    have h := o_f hc69 h
    have h := o_f hc70 h
    have h := o_t hc71 h
    exact G_subK (M_needs_387_ok h) ⟨rfl, trivial⟩
  · have h := o_f hc1 h
    have h := o_f hc2 h
    have h := o_f hc3 h
    have h := o_f hc4 h
    have h := o_f hc5 h
    have h := o_f hc6 h
    have h := o_f hc7 h
    have h := o_f hc8 h
    have h := o_f hc9 h
    have h := o_f hc10 h
    have h := o_f hc11 h
    have h := o_f hc12 h
    have h := o_f hc13 h
    have h := o_f hc14 h
    have h := o_f hc15 h
    have h := o_f hc16 h
    have h := o_f hc17 h
    have h := o_f hc18 h
    have h := o_f hc19 h
    have h := o_f hc20 h
    have h := o_f hc21 h
    have h := o_f hc22 h
    have h := o_f hc23 h
    have h := o_f hc24 h
    have h := o_f hc25 h
    have h := o_f hc26 h
    have h := o_f hc27 h
    have h := o_f hc28 h
    have h := o_f hc29 h
    have h := o_f hc30 h
    have h := o_f hc31 h
    have h := o_f hc32 h
    have h := o_f hc33 h
    have h := o_f hc34 h
    have h := o_f hc35 h
    have h := o_f hc36 h
    have h := o_f hc37 h
    have h := o_f hc38 h
    have h := o_f hc39 h
    have h := o_f hc40 h
    have h := o_f hc41 h
    have h := o_f hc42 h
    have h := o_f hc43 h
    have h := o_f hc44 h
    have h := o_f hc45 h
    have h := o_f hc46 h
    have h := o_f hc47 h
    have h := o_f hc48 h
    have h := o_f hc49 h
    have h := o_f hc50 h
    have h := o_f hc51 h
    have h := o_f hc52 h
    have h := o_f hc53 h
    have h := o_f hc54 h
    have h := o_f hc55 h
    have h := o_f hc56 h
    have h := o_f hc57 h
    have h := o_f hc58 h
    have h := o_f hc59 h
    have h := o_f hc60 h
    have h := o_f hc61 h
    have h := o_f hc62 h
    have h := o_f hc63 h
    have h := o_f hc64 h
    have h := o_f hc65 h
    have h := o_f hc66 h
    have h := o_f hc67 h
    have h := o_f hc68 h
    have h := o_f hc69 h
    have h := o_f hc70 h
    have h := o_f hc71 h
    have h := o_t hc72 h
    exact G_subK (M_needs_387_ok h) ⟨rfl, trivial⟩
  · have h := o_f hc1 h
    have h := o_f hc2 h
    have h := o_f hc3 h
    have h := o_f hc4 h
    have h := o_f hc5 h
    have h := o_f hc6 h
    have h := o_f hc7 h
    have h := o_f hc8 h
    have h := o_f hc9 h
    have h := o_f hc10 h
    have h := o_f hc11 h
    have h := o_f hc12 h
    have h := o_f hc13 h
    have h := o_f hc14 h
    have h := o_f hc15 h
    have h := o_f hc16 h
    have h := o_f hc17 h
    have h := o_f hc18 h
    have h := o_f hc19 h
    have h := o_f hc20 h
    have h := o_f hc21 h
    have h := o_f hc22 h
    have h := o_f hc23 h
    have h := o_f hc24 h
    have h := o_f hc25 h
    have h := o_f hc26 h
    have h := o_f hc27 h
    have h := o_f hc28 h
    have h := o_f hc29 h
    have h := o_f hc30 h
    have h := o_f hc31 h
    have h := o_f hc32 h
    have h := o_f hc33 h
    have h := o_f hc34 h
    have h := o_f hc35 h
    have h := o_f hc36 h
    have h := o_f hc37 h
    have h := o_f hc38 h
    have h := o_f hc39 h
    have h := o_f hc40 h
    have h := o_f hc41 h
    have h := o_f hc42 h
    have h := o_f hc43 h
    have h := o_f hc44 h
    have h := o_f hc45 h
    have h := o_f hc46 h
    have h := o_f hc47 h
    have h := o_f hc48 h
    have h := o_f hc49 h
    have h := o_f hc50 h
    have h := o_f hc51 h
    have h := o_f hc52 h
    have h := o_f hc53 h
    have h := o_f hc54 h
    have h := o_f hc55 h
    have h := o_f hc56 h
    have h := o_f hc57 h
    have h := o_f hc58 h
    have h := o_f hc59 h
    have h := o_f hc60 h
    have h := o_f hc61 h
    have h := o_f hc62 h
    have h := o_f hc63 h
    have h := o_f hc64 h
    have h := o_f hc65 h
    have h := o_f hc66 h
    have h := o_f hc67 h
    have h := o_f hc68 h
    have h := o_f hc69 h
    have h := o_f hc70 h
    have h := o_f hc71 h
    have h := o_f hc72 h
    have h := o_t hc73 h
    exact G_subK (M_needs_387_ok h) ⟨rfl, trivial⟩
  · have h := o_f hc1 h
    have h := o_f hc2 h
    have h := o_f hc3 h
    have h := o_f hc4 h
    have h := o_f hc5 h
    have h := o_f hc6 h
    have h := o_f hc7 h
    have h := o_f hc8 h
    have h := o_f hc9 h
    have h := o_f hc10 h
    have h := o_f hc11 h
    have h := o_f hc12 h
    have h := o_f hc13 h
    have h := o_f hc14 h
    have h := o_f hc15 h
    have h := o_f hc16 h
    have h := o_f hc17 h
    have h := o_f hc18 h
    have h := o_f hc19 h
    have h := o_f hc20 h
    have h := o_f hc21 h
    have h := o_f hc22 h
    have h := o_f hc23 h
    have h := o_f hc24 h
    have h := o_f hc25 h
    have h := o_f hc26 h
    have h := o_f hc27 h
    have h := o_f hc28 h
    have h := o_f hc29 h
    have h := o_f hc30 h
    have h := o_f hc31 h
    have h := o_f hc32 h
    have h := o_f hc33 h
    have h := o_f hc34 h
    have h := o_f hc35 h
    have h := o_f hc36 h
    have h := o_f hc37 h
    have h := o_f hc38 h
    have h := o_f hc39 h
    have h := o_f hc40 h
    have h := o_f hc41 h
    have h := o_f hc42 h
    have h := o_f hc43 h
    have h := o_f hc44 h
    have h := o_f hc45 h
    have h := o_f hc46 h
    have h := o_f hc47 h
    have h := o_f hc48 h
    have h := o_f hc49 h
    have h := o_f hc50 h
    have h := o_f hc51 h
    have h := o_f hc52 h
    have h := o_f hc53 h
    have h := o_f hc54 h
    have h := o_f hc55 h
    have h := o_f hc56 h
    have h := o_f hc57 h
    have h := o_f hc58 h
    have h := o_f hc59 h
    have h := o_f hc60 h
    have h := o_f hc61 h
    have h := o_f hc62 h
    have h := o_f hc63 h
    have h := o_f hc64 h
    have h := o_f hc65 h
    have h := o_f hc66 h
    have h := o_f hc67 h
    have h := o_f hc68 h
    have h := o_f hc69 h
    have h := o_f hc70 h
    have h := o_f hc71 h
    have h := o_f hc72 h
    have h := o_f hc73 h
    have h := o_t hc74 h
    exact G_subK (M_needs_387_ok h) ⟨rfl, trivial⟩
  · have h := o_f hc1 h
    have h := o_f hc2 h
    have h := o_f hc3 h
    have h := o_f hc4 h
    have h := o_f hc5 h
    have h := o_f hc6 h
    have h := o_f hc7 h
    have h := o_f hc8 h
    have h := o_f hc9 h
    have h := o_f hc10 h
    have h := o_f hc11 h
    have h := o_f hc12 h
    have h := o_f hc13 h
    have h := o_f hc14 h
    have h := o_f hc15 h
    have h := o_f hc16 h
    have h := o_f hc17 h
    have h := o_f hc18 h
    have h := o_f hc19 h
    have h := o_f hc20 h
    have h := o_f hc21 h
    have h := o_f hc22 h
    have h := o_f hc23 h
    have h := o_f hc24 h
    have h := o_f hc25 h
    have h := o_f hc26 h
    have h := o_f hc27 h
    have h := o_f hc28 h
    have h := o_f hc29 h
    have h := o_f hc30 h
    have h := o_f hc31 h
    have h := o_f hc32 h
    have h := o_f hc33 h
    have h := o_f hc34 h
    have h := o_f hc35 h
    have h := o_f hc36 h
    have h := o_f hc37 h
    have h := o_f hc38 h
    have h := o_f hc39 h
    have h := o_f hc40 h
    have h := o_f hc41 h
    have h := o_f hc42 h
    have h := o_f hc43 h
    have h := o_f hc44 h
    have h := o_f hc45 h
    have h := o_f hc46 h
    have h := o_f hc47 h
    have h := o_f hc48 h
    have h := o_f hc49 h
    have h := o_f hc50 h
    have h := o_f hc51 h
    have h := o_f hc52 h
    have h := o_f hc53 h
    have h := o_f hc54 h
    have h := o_f hc55 h
    have h := o_f hc56 h
    have h := o_f hc57 h
    have h := o_f hc58 h
    have h := o_f hc59 h
    have h := o_f hc60 h
    have h := o_f hc61 h
    have h := o_f hc62 h
    have h := o_f hc63 h
    have h := o_f hc64 h
    have h := o_f hc65 h
    have h := o_f hc66 h
    have h := o_f hc67 h
    have h := o_f hc68 h
    have h := o_f hc69 h
    have h := o_f hc70 h
    have h := o_f hc71 h
    have h := o_f hc72 h
    have h := o_f hc73 h
    have h := o_f hc74 h
    have h := o_t hc75 h
    exact G_subK (M_needs_387_ok h) ⟨rfl, trivial⟩
  · have h := o_f hc1 h
    have h := o_f hc2 h
    have h := o_f hc3 h
    have h := o_f hc4 h
    have h := o_f hc5 h
    have h := o_f hc6 h
    have h := o_f hc7 h
    have h := o_f hc8 h
    have h := o_f hc9 h
    have h := o_f hc10 h
    have h := o_f hc11 h
    have h := o_f hc12 h
    have h := o_f hc13 h
    have h := o_f hc14 h
    have h := o_f hc15 h
    have h := o_f hc16 h
    have h := o_f hc17 h
    have h := o_f hc18 h
    have h := o_f hc19 h
    have h := o_f hc20 h
    have h := o_f hc21 h
    have h := o_f hc22 h
    have h := o_f hc23 h
    have h := o_f hc24 h
    have h := o_f hc25 h
    have h := o_f hc26 h
    have h := o_f hc27 h
    have h := o_f hc28 h
    have h := o_f hc29 h
    have h := o_f hc30 h
    have h := o_f hc31 h
    have h := o_f hc32 h
    have h := o_f hc33 h
    have h := o_f hc34 h
    have h := o_f hc35 h
    have h := o_f hc36 h
    have h := o_f hc37 h
    have h := o_f hc38 h
    have h := o_f hc39 h
    have h := o_f hc40 h
    have h := o_f hc41 h
    have h := o_f hc42 h
    have h := o_f hc43 h
    have h := o_f hc44 h
    have h := o_f hc45 h
    have h := o_f hc46 h
    have h := o_f hc47 h
    have h := o_f hc48 h
    have h := o_f hc49 h
    have h := o_f hc50 h
    have h := o_f hc51 h
    have h := o_f hc52 h
    have h := o_f hc53 h
    have h := o_f hc54 h
    have h := o_f hc55 h
    have h := o_f hc56 h
    have h := o_f hc57 h
    have h := o_f hc58 h
    have h := o_f hc59 h
    have h := o_f hc60 h
    have h := o_f hc61 h
    have h := o_f hc62 h
    have h := o_f hc63 h
    have h := o_f hc64 h
    have h := o_f hc65 h
    have h := o_f hc66 h
    have h := o_f hc67 h
    have h := o_f hc68 h
    have h := o_f hc69 h
    have h := o_f hc70 h
    have h := o_f hc71 h
    have h := o_f hc72 h
    have h := o_f hc73 h
    have h := o_f hc74 h
    have h := o_f hc75 h
    have h := o_t hc76 h
    exact G_subK (M_needs_387_ok h) ⟨rfl, trivial⟩
  · have h := o_f hc1 h
    have h := o_f hc2 h
    have h := o_f hc3 h
    have h := o_f hc4 h
    have h := o_f hc5 h
    have h := o_f hc6 h
    have h := o_f hc7 h
    have h := o_f hc8 h
    have h := o_f hc9 h
    have h := o_f hc10 h
    have h := o_f hc11 h
    have h := o_f hc12 h
    have h := o_f hc13 h
    have h := o_f hc14 h
    have h := o_f hc15 h
    have h := o_f hc16 h
    have h := o_f hc17 h
    have h := o_f hc18 h
    have h := o_f hc19 h
    have h := o_f hc20 h
    have h := o_f hc21 h
    have h := o_f hc22 h
    have h := o_f hc23 h
    have h := o_f hc24 h
    have h := o_f hc25 h
    have h := o_f hc26 h
    have h := o_f hc27 h
    have h := o_f hc28 h
    have h := o_f hc29 h
    have h := o_f hc30 h
    have h := o_f hc31 h
    have h := o_f hc32 h
    have h := o_f hc33 h
    have h := o_f hc34 h
    have h := o_f hc35 h
    have h := o_f hc36 h
    have h := o_f hc37 h
    have h := o_f hc38 h
    have h := o_f hc39 h
    have h := o_f hc40 h
    have h := o_f hc41 h
    have h := o_f hc42 h
    have h := o_f hc43 h
    have h := o_f hc44 h
    have h := o_f hc45 h
    have h := o_f hc46 h
    have h := o_f hc47 h
    have h := o_f hc48 h
    have h := o_f hc49 h
    have h := o_f hc50 h
    have h := o_f hc51 h
    have h := o_f hc52 h
    have h := o_f hc53 h
    have h := o_f hc54 h
    have h := o_f hc55 h
    have h := o_f hc56 h
    have h := o_f hc57 h
    have h := o_f hc58 h
    have h := o_f hc59 h
    have h := o_f hc60 h
    have h := o_f hc61 h
    have h := o_f hc62 h
    have h := o_f hc63 h
    have h := o_f hc64 h
    have h := o_f hc65 h
    have h := o_f hc66 h
    have h := o_f hc67 h
    have h := o_f hc68 h
    have h := o_f hc69 h
    have h := o_f hc70 h
    have h := o_f hc71 h
    have h := o_f hc72 h
    have h := o_f hc73 h
    have h := o_f hc74 h
    have h := o_f hc75 h
    have h := o_f hc76 h
    have h := o_t hc77 h
    exact G_subK (M_needs_387_ok h) ⟨rfl, trivial⟩
  · have h := o_f hc1 h
    have h := o_f hc2 h
    have h := o_f hc3 h
    have h := o_f hc4 h
    have h := o_f hc5 h
    have h := o_f hc6 h
    have h := o_f hc7 h
    have h := o_f hc8 h
    have h := o_f hc9 h
    have h := o_f hc10 h
    have h := o_f hc11 h
    have h := o_f hc12 h
    have h := o_f hc13 h
    have h := o_f hc14 h
    have h := o_f hc15 h
    have h := o_f hc16 h
    have h := o_f hc17 h
    have h := o_f hc18 h
    have h := o_f hc19 h
    have h := o_f hc20 h
    have h := o_f hc21 h
    have h := o_f hc22 h
    have h := o_f hc23 h
    have h := o_f hc24 h
    have h := o_f hc25 h
    have h := o_f hc26 h
    have h := o_f hc27 h
    have h := o_f hc28 h
    have h := o_f hc29 h
    have h := o_f hc30 h
    have h := o_f hc31 h
    have h := o_f hc32 h
    have h := o_f hc33 h
    have h := o_f hc34 h
    have h := o_f hc35 h
    have h := o_f hc36 h
    have h := o_f hc37 h
    have h := o_f hc38 h
    have h := o_f hc39 h
    have h := o_f hc40 h
    have h := o_f hc41 h
    have h := o_f hc42 h
    have h := o_f hc43 h
    have h := o_f hc44 h
    have h := o_f hc45 h
    have h := o_f hc46 h
    have h := o_f hc47 h
    have h := o_f hc48 h
    have h := o_f hc49 h
    have h := o_f hc50 h
    have h := o_f hc51 h
    have h := o_f hc52 h
    have h := o_f hc53 h
    have h := o_f hc54 h
    have h := o_f hc55 h
    have h := o_f hc56 h
    have h := o_f hc57 h
    have h := o_f hc58 h
    have h := o_f hc59 h
    have h := o_f hc60 h
    have h := o_f hc61 h
    have h := o_f hc62 h
    have h := o_f hc63 h
    have h := o_f hc64 h
    have h := o_f hc65 h
    have h := o_f hc66 h
    have h := o_f hc67 h
    have h := o_f hc68 h
    have h := o_f hc69 h
    have h := o_f hc70 h
    have h := o_f hc71 h
    have h := o_f hc72 h
    have h := o_f hc73 h
    have h := o_f hc74 h
    have h := o_f hc75 h
    have h := o_f hc76 h
    have h := o_f hc77 h
    have h := o_t hc78 h
    exact G_subK (M_needs_387_ok h) ⟨rfl, trivial⟩
  · have h := o_f hc1 h
    have h := o_f hc2 h
    have h := o_f hc3 h
    have h := o_f hc4 h
    have h := o_f hc5 h
    have h := o_f hc6 h
    have h := o_f hc7 h
    have h := o_f hc8 h
    have h := o_f hc9 h
    have h := o_f hc10 h
    have h := o_f hc11 h
    have h := o_f hc12 h
    have h := o_f hc13 h
    have h := o_f hc14 h
    have h := o_f hc15 h
    have h := o_f hc16 h
    have h := o_f hc17 h
    have h := o_f hc18 h
    have h := o_f hc19 h
    have h := o_f hc20 h
    have h := o_f hc21 h
    have h := o_f hc22 h
    have h := o_f hc23 h
    have h := o_f hc24 h
    have h := o_f hc25 h
    have h := o_f hc26 h
    have h := o_f hc27 h
    have h := o_f hc28 h
    have h := o_f hc29 h
    have h := o_f hc30 h
    have h := o_f hc31 h
    have h := o_f hc32 h
    have h := o_f hc33 h
    have h := o_f hc34 h
    have h := o_f hc35 h
    have h := o_f hc36 h
    have h := o_f hc37 h
    have h := o_f hc38 h
    have h := o_f hc39 h
    have h := o_f hc40 h
    have h := o_f hc41 h
    have h := o_f hc42 h
    have h := o_f hc43 h
    have h := o_f hc44 h
    have h := o_f hc45 h
    have h := o_f hc46 h
    have h := o_f hc47 h
    have h := o_f hc48 h
    have h := o_f hc49 h
    have h := o_f hc50 h
    have h := o_f hc51 h
    have h := o_f hc52 h
    have h := o_f hc53 h
    have h := o_f hc54 h
    have h := o_f hc55 h
    have h := o_f hc56 h
    have h := o_f hc57 h
    have h := o_f hc58 h
    have h := o_f hc59 h
    have h := o_f hc60 h
    have h := o_f hc61 h
    have h := o_f hc62 h
    have h := o_f hc63 h
    have h := o_f hc64 h
    have h := o_f hc65 h
    have h := o_f hc66 h
    have h := o_f hc67 h
    have h := o_f hc68 h
    have h := o_f hc69 h
    have h := o_f hc70 h
    have h := o_f hc71 h
    have h := o_f hc72 h
    have h := o_f hc73 h
    have h := o_f hc74 h
    have h := o_f hc75 h
    have h := o_f hc76 h
    have h := o_f hc77 h
    have h := o_f hc78 h
    have h := o_t hc79 h
    exact G_subK (M_needs_387_ok h) ⟨rfl, trivial⟩
  · have h := o_f hc1 h
    have h := o_f hc2 h
    have h := o_f hc3 h
    have h := o_f hc4 h
    have h := o_f hc5 h
    have h := o_f hc6 h
    have h := o_f hc7 h
    have h := o_f hc8 h
    have h := o_f hc9 h
    have h := o_f hc10 h
    have h := o_f hc11 h
    have h := o_f hc12 h
    have h := o_f hc13 h
    have h := o_f hc14 h
    have h := o_f hc15 h
    have h := o_f hc16 h
    have h := o_f hc17 h
    have h := o_f hc18 h
    have h := o_f hc19 h
    have h := o_f hc20 h
    have h := o_f hc21 h
    have h := o_f hc22 h
    have h := o_f hc23 h
    have h := o_f hc24 h
    have h := o_f hc25 h
    have h := o_f hc26 h
    have h := o_f hc27 h
    have h := o_f hc28 h
    have h := o_f hc29 h
    have h := o_f hc30 h
    have h := o_f hc31 h
    have h := o_f hc32 h
    have h := o_f hc33 h
    have h := o_f hc34 h
    have h := o_f hc35 h
    have h := o_f hc36 h
    have h := o_f hc37 h
    have h := o_f hc38 h
    have h := o_f hc39 h
    have h := o_f hc40 h
    have h := o_f hc41 h
    have h := o_f hc42 h
    have h := o_f hc43 h
    have h := o_f hc44 h
    have h := o_f hc45 h
    have h := o_f hc46 h
    have h := o_f hc47 h
    have h := o_f hc48 h
    have h := o_f hc49 h
    have h := o_f hc50 h
    have h := o_f hc51 h
    have h := o_f hc52 h
    have h := o_f hc53 h
    have h := o_f hc54 h
    have h := o_f hc55 h
    have h := o_f hc56 h
    have h := o_f hc57 h
    have h := o_f hc58 h
    have h := o_f hc59 h
    have h := o_f hc60 h
    have h := o_f hc61 h
    have h := o_f hc62 h
    have h := o_f hc63 h
    have h := o_f hc64 h
    have h := o_f hc65 h
    have h := o_f hc66 h
    have h := o_f hc67 h
    have h := o_f hc68 h
    have h := o_f hc69 h
    have h := o_f hc70 h
    have h := o_f hc71 h
    have h := o_f hc72 h
    have h := o_f hc73 h
    have h := o_f hc74 h
    have h := o_f hc75 h
    have h := o_f hc76 h
    have h := o_f hc77 h
    have h := o_f hc78 h
    have h := o_f hc79 h
    have h := o_t hc80 h
    exact G_subK (M_needs_387_ok h) ⟨rfl, trivial⟩
  · have h := o_f hc1 h
    have h := o_f hc2 h
    have h := o_f hc3 h
    have h := o_f hc4 h
    have h := o_f hc5 h
    have h := o_f hc6 h
    have h := o_f hc7 h
    have h := o_f hc8 h
    have h := o_f hc9 h
    have h := o_f hc10 h
    have h := o_f hc11 h
    have h := o_f hc12 h
    have h := o_f hc13 h
    have h := o_f hc14 h
    have h := o_f hc15 h
    have h := o_f hc16 h
    have h := o_f hc17 h
    have h := o_f hc18 h
    have h := o_f hc19 h
    have h := o_f hc20 h
    have h := o_f hc21 h
    have h := o_f hc22 h
    have h := o_f hc23 h
    have h := o_f hc24 h
    have h := o_f hc25 h
    have h := o_f hc26 h
    have h := o_f hc27 h
    have h := o_f hc28 h
    have h := o_f hc29 h
    have h := o_f hc30 h
    have h := o_f hc31 h
    have h := o_f hc32 h
    have h := o_f hc33 h
    have h := o_f hc34 h
    have h := o_f hc35 h
    have h := o_f hc36 h
    have h := o_f hc37 h
    have h := o_f hc38 h
    have h := o_f hc39 h
    have h := o_f hc40 h
    have h := o_f hc41 h
    have h := o_f hc42 h
    have h := o_f hc43 h
    have h := o_f hc44 h
    have h := o_f hc45 h
    have h := o_f hc46 h
    have h := o_f hc47 h
    have h := o_f hc48 h
    have h := o_f hc49 h
    have h := o_f hc50 h
    have h := o_f hc51 h
    have h := o_f hc52 h
    have h := o_f hc53 h
    have h := o_f hc54 h
    have h := o_f hc55 h
    have h := o_f hc56 h
    have h := o_f hc57 h
    have h := o_f hc58 h
    have h := o_f hc59 h
    have h := o_f hc60 h
    have h := o_f hc61 h
    have h := o_f hc62 h
    have h := o_f hc63 h
    have h := o_f hc64 h
    have h := o_f hc65 h
    have h := o_f hc66 h
    have h := o_f hc67 h
    have h := o_f hc68 h
    have h := o_f hc69 h
    have h := o_f hc70 h
    have h := o_f hc71 h
    have h := o_f hc72 h
    have h := o_f hc73 h
    have h := o_f hc74 h
    have h := o_f hc75 h
    have h := o_f hc76 h
    have h := o_f hc77 h
    have h := o_f hc78 h
    have h := o_f hc79 h
    have h := o_f hc80 h
    have h := o_t hc81 h
    exact G_subK (M_needs_387_ok h) ⟨rfl, trivial⟩
  · have h := o_f hc1 h
    have h := o_f hc2 h
    have h := o_f hc3 h
    have h := o_f hc4 h
    have h := o_f hc5 h
    have h := o_f hc6 h
    have h := o_f hc7 h
    have h := o_f hc8 h
    have h := o_f hc9 h
    have h := o_f hc10 h
    have h := o_f hc11 h
    have h := o_f hc12 h
    have h := o_f hc13 h
    have h := o_f hc14 h
    have h := o_f hc15 h
    have h := o_f hc16 h
    have h := o_f hc17 h
    have h := o_f hc18 h
    have h := o_f hc19 h
    have h := o_f hc20 h
    have h := o_f hc21 h
    have h := o_f hc22 h
    have h := o_f hc23 h
    have h := o_f hc24 h
    have h := o_f hc25 h
    have h := o_f hc26 h
    have h := o_f hc27 h
    have h := o_f hc28 h
    have h := o_f hc29 h
    have h := o_f hc30 h
    have h := o_f hc31 h
    have h := o_f hc32 h
    have h := o_f hc33 h
    have h := o_f hc34 h
    have h := o_f hc35 h
    have h := o_f hc36 h
    have h := o_f hc37 h
    have h := o_f hc38 h
    have h := o_f hc39 h
    have h := o_f hc40 h
    have h := o_f hc41 h
    have h := o_f hc42 h
    have h := o_f hc43 h
    have h := o_f hc44 h
    have h := o_f hc45 h
    have h := o_f hc46 h
    have h := o_f hc47 h
    have h := o_f hc48 h
    have h := o_f hc49 h
    have h := o_f hc50 h
    have h := o_f hc51 h
    have h := o_f hc52 h
    have h := o_f hc53 h
    have h := o_f hc54 h
    have h := o_f hc55 h
    have h := o_f hc56 h
    have h := o_f hc57 h
    have h := o_f hc58 h
    have h := o_f hc59 h
    have h := o_f hc60 h
    have h := o_f hc61 h
    have h := o_f hc62 h
    have h := o_f hc63 h
    have h := o_f hc64 h
    have h := o_f hc65 h
    have h := o_f hc66 h
    have h := o_f hc67 h
    have h := o_f hc68 h
    have h := o_f hc69 h
    have h := o_f hc70 h
    have h := o_f hc71 h
    have h := o_f hc72 h
    have h := o_f hc73 h
    have h := o_f hc74 h
    have h := o_f hc75 h
    have h := o_f hc76 h
    have h := o_f hc77 h
    have h := o_f hc78 h
    have h := o_f hc79 h
    have h := o_f hc80 h
    have h := o_f hc81 h
    have h := o_t hc82 h
    exact G_subK (M_needs_387_ok h) ⟨rfl, trivial⟩
  · have h := o_f hc1 h
    have h := o_f hc2 h
    have h := o_f hc3 h
    have h := o_f hc4 h
    have h := o_f hc5 h
    have h := o_f hc6 h
    have h := o_f hc7 h
    have h := o_f hc8 h
    have h := o_f hc9 h
    have h := o_f hc10 h
    have h := o_f hc11 h
    have h := o_f hc12 h
    have h := o_f hc13 h
    have h := o_f hc14 h
    have h := o_f hc15 h
    have h := o_f hc16 h
    have h := o_f hc17 h
    have h := o_f hc18 h
    have h := o_f hc19 h
    have h := o_f hc20 h
    have h := o_f hc21 h
    have h := o_f hc22 h
    have h := o_f hc23 h
    have h := o_f hc24 h
    have h := o_f hc25 h
    have h := o_f hc26 h
    have h := o_f hc27 h
    have h := o_f hc28 h
    have h := o_f hc29 h
    have h := o_f hc30 h
    have h := o_f hc31 h
    have h := o_f hc32 h
    have h := o_f hc33 h
    have h := o_f hc34 h
    have h := o_f hc35 h
    have h := o_f hc36 h
    have h := o_f hc37 h
    have h := o_f hc38 h
    have h := o_f hc39 h
    have h := o_f hc40 h
    have h := o_f hc41 h
    have h := o_f hc42 h
    have h := o_f hc43 h
    have h := o_f hc44 h
    have h := o_f hc45 h
    have h := o_f hc46 h
    have h := o_f hc47 h
    have h := o_f hc48 h
    have h := o_f hc49 h
    have h := o_f hc50 h
    have h := o_f hc51 h
    have h := o_f hc52 h
    have h := o_f hc53 h
    have h := o_f hc54 h
    have h := o_f hc55 h
    have h := o_f hc56 h
    have h := o_f hc57 h
    have h := o_f hc58 h
    have h := o_f hc59 h
    have h := o_f hc60 h
    have h := o_f hc61 h
    have h := o_f hc62 h
    have h := o_f hc63 h
    have h := o_f hc64 h
    have h := o_f hc65 h
    have h := o_f hc66 h
    have h := o_f hc67 h
    have h := o_f hc68 h
    have h := o_f hc69 h
    have h := o_f hc70 h
    have h := o_f hc71 h
    have h := o_f hc72 h
    have h := o_f hc73 h
    have h := o_f hc74 h
    have h := o_f hc75 h
    have h := o_f hc76 h
    have h := o_f hc77 h
    have h := o_f hc78 h
    have h := o_f hc79 h
    have h := o_f hc80 h
    have h := o_f hc81 h
    have h := o_f hc82 h
    have h := o_t hc83 h
    exact G_subK (M_needs_387_ok h) ⟨rfl, trivial⟩
  · have h := o_f hc1 h
    have h := o_f hc2 h
    have h := o_f hc3 h
    have h := o_f hc4 h
    have h := o_f hc5 h
    have h := o_f hc6 h
    have h := o_f hc7 h
    have h := o_f hc8 h
    have h := o_f hc9 h
    have h := o_f hc10 h
    have h := o_f hc11 h
    have h := o_f hc12 h
    have h := o_f hc13 h
    have h := o_f hc14 h
    have h := o_f hc15 h
    have h := o_f hc16 h
    have h := o_f hc17 h
    have h := o_f hc18 h
    have h := o_f hc19 h
    have h := o_f hc20 h
    have h := o_f hc21 h
    have h := o_f hc22 h
    have h := o_f hc23 h
    have h := o_f hc24 h
    have h := o_f hc25 h
    have h := o_f hc26 h
    have h := o_f hc27 h
    have h := o_f hc28 h
    have h := o_f hc29 h
    have h := o_f hc30 h
    have h := o_f hc31 h
    have h := o_f hc32 h
    have h := o_f hc33 h
    have h := o_f hc34 h
    have h := o_f hc35 h
    have h := o_f hc36 h
    have h := o_f hc37 h
    have h := o_f hc38 h
    have h := o_f hc39 h
    have h := o_f hc40 h
    have h := o_f hc41 h
    have h := o_f hc42 h
    have h := o_f hc43 h
    have h := o_f hc44 h
    have h := o_f hc45 h
    have h := o_f hc46 h
    have h := o_f hc47 h
    have h := o_f hc48 h
    have h := o_f hc49 h
    have h := o_f hc50 h
    have h := o_f hc51 h
    have h := o_f hc52 h
    have h := o_f hc53 h
    have h := o_f hc54 h
    have h := o_f hc55 h
    have h := o_f hc56 h
    have h := o_f hc57 h
    have h := o_f hc58 h
    have h := o_f hc59 h
    have h := o_f hc60 h
    have h := o_f hc61 h
    have h := o_f hc62 h
    have h := o_f hc63 h
    have h := o_f hc64 h
    have h := o_f hc65 h
    have h := o_f hc66 h
    have h := o_f hc67 h
    have h := o_f hc68 h
    have h := o_f hc69 h
    have h := o_f hc70 h
    have h := o_f hc71 h
    have h := o_f hc72 h
    have h := o_f hc73 h
    have h := o_f hc74 h
    have h := o_f hc75 h
    have h := o_f hc76 h
    have h := o_f hc77 h
    have h := o_f hc78 h
    have h := o_f hc79 h
    have h := o_f hc80 h
    have h := o_f hc81 h
    have h := o_f hc82 h
    have h := o_f hc83 h
    have h := o_t hc84 h
    exact G_subK (M_needs_387_ok h) ⟨rfl, trivial⟩
  · have h := o_f hc1 h
    have h := o_f hc2 h
    have h := o_f hc3 h
    have h := o_f hc4 h
    have h := o_f hc5 h
    have h := o_f hc6 h
    have h := o_f hc7 h
    have h := o_f hc8 h
    have h := o_f hc9 h
    have h := o_f hc10 h
    have h := o_f hc11 h
    have h := o_f hc12 h
    have h := o_f hc13 h
    have h := o_f hc14 h
    have h := o_f hc15 h
    have h := o_f hc16 h
    have h := o_f hc17 h
    have h := o_f hc18 h
    have h := o_f hc19 h
    have h := o_f hc20 h
    have h := o_f hc21 h
    have h := o_f hc22 h
    have h := o_f hc23 h
    have h := o_f hc24 h
    have h := o_f hc25 h
    have h := o_f hc26 h
    have h := o_f hc27 h
    have h := o_f hc28 h
    have h := o_f hc29 h
    have h := o_f hc30 h
    have h := o_f hc31 h
    have h := o_f hc32 h
    have h := o_f hc33 h
    have h := o_f hc34 h
    have h := o_f hc35 h
    have h := o_f hc36 h
    have h := o_f hc37 h
    have h := o_f hc38 h
    have h := o_f hc39 h
    have h := o_f hc40 h
    have h := o_f hc41 h
    have h := o_f hc42 h
    have h := o_f hc43 h
    have h := o_f hc44 h
    have h := o_f hc45 h
    have h := o_f hc46 h
    have h := o_f hc47 h
    have h := o_f hc48 h
    have h := o_f hc49 h
    have h := o_f hc50 h
    have h := o_f hc51 h
    have h := o_f hc52 h
    have h := o_f hc53 h
    have h := o_f hc54 h
    have h := o_f hc55 h
    have h := o_f hc56 h
    have h := o_f hc57 h
    have h := o_f hc58 h
    have h := o_f hc59 h
    have h := o_f hc60 h
    have h := o_f hc61 h
    have h := o_f hc62 h
    have h := o_f hc63 h
    have h := o_f hc64 h
    have h := o_f hc65 h
    have h := o_f hc66 h
    have h := o_f hc67 h
    have h := o_f hc68 h
    have h := o_f hc69 h
    have h := o_f hc70 h
    have h := o_f hc71 h
    have h := o_f hc72 h
    have h := o_f hc73 h
    have h := o_f hc74 h
    have h := o_f hc75 h
    have h := o_f hc76 h
    have h := o_f hc77 h
    have h := o_f hc78 h
    have h := o_f hc79 h
    have h := o_f hc80 h
    have h := o_f hc81 h
    have h := o_f hc82 h
    have h := o_f hc83 h
    have h := o_f hc84 h
    have h := o_t hc85 h
    exact G_subK (M_needs_387_ok h) ⟨rfl, trivial⟩
  · have h := o_f hc1 h
    have h := o_f hc2 h
    have h := o_f hc3 h
    have h := o_f hc4 h
    have h := o_f hc5 h
    have h := o_f hc6 h
    have h := o_f hc7 h
    have h := o_f hc8 h
    have h := o_f hc9 h
    have h := o_f hc10 h
    have h := o_f hc11 h
    have h := o_f hc12 h
    have h := o_f hc13 h
    have h := o_f hc14 h
    have h := o_f hc15 h
    have h := o_f hc16 h
    have h := o_f hc17 h
    have h := o_f hc18 h
    have h := o_f hc19 h
    have h := o_f hc20 h
    have h := o_f hc21 h
    have h := o_f hc22 h
    have h := o_f hc23 h
    have h := o_f hc24 h
    have h := o_f hc25 h
    have h := o_f hc26 h
    have h := o_f hc27 h
    have h := o_f hc28 h
    have h := o_f hc29 h
    have h := o_f hc30 h
    have h := o_f hc31 h
    have h := o_f hc32 h
    have h := o_f hc33 h
    have h := o_f hc34 h
    have h := o_f hc35 h
    have h := o_f hc36 h
    have h := o_f hc37 h
    have h := o_f hc38 h
    have h := o_f hc39 h
    have h := o_f hc40 h
    have h := o_f hc41 h
    have h := o_f hc42 h
    have h := o_f hc43 h
    have h := o_f hc44 h
    have h := o_f hc45 h
    have h := o_f hc46 h
    have h := o_f hc47 h
    have h := o_f hc48 h
    have h := o_f hc49 h
    have h := o_f hc50 h
    have h := o_f hc51 h
    have h := o_f hc52 h
    have h := o_f hc53 h
    have h := o_f hc54 h
    have h := o_f hc55 h
    have h := o_f hc56 h
    have h := o_f hc57 h
    have h := o_f hc58 h
    have h := o_f hc59 h
    have h := o_f hc60 h
    have h := o_f hc61 h
    have h := o_f hc62 h
    have h := o_f hc63 h
    have h := o_f hc64 h
    have h := o_f hc65 h
    have h := o_f hc66 h
    have h := o_f hc67 h
    have h := o_f hc68 h
    have h := o_f hc69 h
    have h := o_f hc70 h
    have h := o_f hc71 h
    have h := o_f hc72 h
    have h := o_f hc73 h
    have h := o_f hc74 h
    have h := o_f hc75 h
    have h := o_f hc76 h
    have h := o_f hc77 h
    have h := o_f hc78 h
    have h := o_f hc79 h
    have h := o_f hc80 h
    have h := o_f hc81 h
    have h := o_f hc82 h
    have h := o_f hc83 h
    have h := o_f hc84 h
    have h := o_f hc85 h
    have h := o_t hc86 h
    exact G_subK (M_needs_387_ok h) ⟨rfl, trivial⟩
  · have h := o_f hc1 h
    have h := o_f hc2 h
    have h := o_f hc3 h
    have h := o_f hc4 h
    have h := o_f hc5 h
    have h := o_f hc6 h
    have h := o_f hc7 h
    have h := o_f hc8 h
    have h := o_f hc9 h
    have h := o_f hc10 h
    have h := o_f hc11 h
    have h := o_f hc12 h
    have h := o_f hc13 h
    have h := o_f hc14 h
    have h := o_f hc15 h
    have h := o_f hc16 h
    have h := o_f hc17 h
    have h := o_f hc18 h
    have h := o_f hc19 h
    have h := o_f hc20 h
    have h := o_f hc21 h
    have h := o_f hc22 h
    have h := o_f hc23 h
    have h := o_f hc24 h
    have h := o_f hc25 h
    have h := o_f hc26 h
    have h := o_f hc27 h
    have h := o_f hc28 h
    have h := o_f hc29 h
    have h := o_f hc30 h
    have h := o_f hc31 h
    have h := o_f hc32 h
    have h := o_f hc33 h
    have h := o_f hc34 h
    have h := o_f hc35 h
    have h := o_f hc36 h
    have h := o_f hc37 h
    have h := o_f hc38 h
    have h := o_f hc39 h
    have h := o_f hc40 h
    have h := o_f hc41 h
    have h := o_f hc42 h
    have h := o_f hc43 h
    have h := o_f hc44 h
    have h := o_f hc45 h
    have h := o_f hc46 h
    have h := o_f hc47 h
    have h := o_f hc48 h
    have h := o_f hc49 h
    have h := o_f hc50 h
    have h := o_f hc51 h
    have h := o_f hc52 h
    have h := o_f hc53 h
    have h := o_f hc54 h
    have h := o_f hc55 h
    have h := o_f hc56 h
    have h := o_f hc57 h
    have h := o_f hc58 h
    have h := o_f hc59 h
    have h := o_f hc60 h
    have h := o_f hc61 h
    have h := o_f hc62 h
    have h := o_f hc63 h
    have h := o_f hc64 h
    have h := o_f hc65 h
    have h := o_f hc66 h
    have h := o_f hc67 h
    have h := o_f hc68 h
    have h := o_f hc69 h
    have h := o_f hc70 h
    have h := o_f hc71 h
    have h := o_f hc72 h
    have h := o_f hc73 h
    have h := o_f hc74 h
    have h := o_f hc75 h
    have h := o_f hc76 h
    have h := o_f hc77 h
    have h := o_f hc78 h
    have h := o_f hc79 h
    have h := o_f hc80 h
    have h := o_f hc81 h
    have h := o_f hc82 h
    have h := o_f hc83 h
    have h := o_f hc84 h
    have h := o_f hc85 h
    have h := o_f hc86 h
    have h := o_t hc87 h
    refine G_iconst (g_da dt_M_needs 2 rfl) ?_
    exact G_ireturn (g_da dt_M_needs 3 rfl) rfl rfl rfl (g_nz rfl) (q_e h)
  · have h := o_f hc1 h
    have h := o_f hc2 h
    have h := o_f hc3 h
    have h := o_f hc4 h
    have h := o_f hc5 h
    have h := o_f hc6 h
    have h := o_f hc7 h
    have h := o_f hc8 h
    have h := o_f hc9 h
    have h := o_f hc10 h
    have h := o_f hc11 h
    have h := o_f hc12 h
    have h := o_f hc13 h
    have h := o_f hc14 h
    have h := o_f hc15 h
    have h := o_f hc16 h
    have h := o_f hc17 h
    have h := o_f hc18 h
    have h := o_f hc19 h
    have h := o_f hc20 h
    have h := o_f hc21 h
    have h := o_f hc22 h
    have h := o_f hc23 h
    have h := o_f hc24 h
    have h := o_f hc25 h
    have h := o_f hc26 h
    have h := o_f hc27 h
    have h := o_f hc28 h
    have h := o_f hc29 h
    have h := o_f hc30 h
    have h := o_f hc31 h
    have h := o_f hc32 h
    have h := o_f hc33 h
    have h := o_f hc34 h
    have h := o_f hc35 h
    have h := o_f hc36 h
    have h := o_f hc37 h
    have h := o_f hc38 h
    have h := o_f hc39 h
    have h := o_f hc40 h
    have h := o_f hc41 h
    have h := o_f hc42 h
    have h := o_f hc43 h
    have h := o_f hc44 h
    have h := o_f hc45 h
    have h := o_f hc46 h
    have h := o_f hc47 h
    have h := o_f hc48 h
    have h := o_f hc49 h
    have h := o_f hc50 h
    have h := o_f hc51 h
    have h := o_f hc52 h
    have h := o_f hc53 h
    have h := o_f hc54 h
    have h := o_f hc55 h
    have h := o_f hc56 h
    have h := o_f hc57 h
    have h := o_f hc58 h
    have h := o_f hc59 h
    have h := o_f hc60 h
    have h := o_f hc61 h
    have h := o_f hc62 h
    have h := o_f hc63 h
    have h := o_f hc64 h
    have h := o_f hc65 h
    have h := o_f hc66 h
    have h := o_f hc67 h
    have h := o_f hc68 h
    have h := o_f hc69 h
    have h := o_f hc70 h
    have h := o_f hc71 h
    have h := o_f hc72 h
    have h := o_f hc73 h
    have h := o_f hc74 h
    have h := o_f hc75 h
    have h := o_f hc76 h
    have h := o_f hc77 h
    have h := o_f hc78 h
    have h := o_f hc79 h
    have h := o_f hc80 h
    have h := o_f hc81 h
    have h := o_f hc82 h
    have h := o_f hc83 h
    have h := o_f hc84 h
    have h := o_f hc85 h
    have h := o_f hc86 h
    have h := o_f hc87 h
    have h := o_t hc88 h
    exact G_subK (M_needs_387_ok h) ⟨rfl, trivial⟩
  · have h := o_f hc1 h
    have h := o_f hc2 h
    have h := o_f hc3 h
    have h := o_f hc4 h
    have h := o_f hc5 h
    have h := o_f hc6 h
    have h := o_f hc7 h
    have h := o_f hc8 h
    have h := o_f hc9 h
    have h := o_f hc10 h
    have h := o_f hc11 h
    have h := o_f hc12 h
    have h := o_f hc13 h
    have h := o_f hc14 h
    have h := o_f hc15 h
    have h := o_f hc16 h
    have h := o_f hc17 h
    have h := o_f hc18 h
    have h := o_f hc19 h
    have h := o_f hc20 h
    have h := o_f hc21 h
    have h := o_f hc22 h
    have h := o_f hc23 h
    have h := o_f hc24 h
    have h := o_f hc25 h
    have h := o_f hc26 h
    have h := o_f hc27 h
    have h := o_f hc28 h
    have h := o_f hc29 h
    have h := o_f hc30 h
    have h := o_f hc31 h
    have h := o_f hc32 h
    have h := o_f hc33 h
    have h := o_f hc34 h
    have h := o_f hc35 h
    have h := o_f hc36 h
    have h := o_f hc37 h
    have h := o_f hc38 h
    have h := o_f hc39 h
    have h := o_f hc40 h
    have h := o_f hc41 h
    have h := o_f hc42 h
    have h := o_f hc43 h
    have h := o_f hc44 h
    have h := o_f hc45 h
    have h := o_f hc46 h
    have h := o_f hc47 h
    have h := o_f hc48 h
    have h := o_f hc49 h
    have h := o_f hc50 h
    have h := o_f hc51 h
    have h := o_f hc52 h
    have h := o_f hc53 h
    have h := o_f hc54 h
    have h := o_f hc55 h
    have h := o_f hc56 h
    have h := o_f hc57 h
    have h := o_f hc58 h
    have h := o_f hc59 h
    have h := o_f hc60 h
    have h := o_f hc61 h
    have h := o_f hc62 h
    have h := o_f hc63 h
    have h := o_f hc64 h
    have h := o_f hc65 h
    have h := o_f hc66 h
    have h := o_f hc67 h
    have h := o_f hc68 h
    have h := o_f hc69 h
    have h := o_f hc70 h
    have h := o_f hc71 h
    have h := o_f hc72 h
    have h := o_f hc73 h
    have h := o_f hc74 h
    have h := o_f hc75 h
    have h := o_f hc76 h
    have h := o_f hc77 h
    have h := o_f hc78 h
    have h := o_f hc79 h
    have h := o_f hc80 h
    have h := o_f hc81 h
    have h := o_f hc82 h
    have h := o_f hc83 h
    have h := o_f hc84 h
    have h := o_f hc85 h
    have h := o_f hc86 h
    have h := o_f hc87 h
    have h := o_f hc88 h
    have h := o_t hc89 h
    refine G_iconst (g_da dt_M_needs 2 rfl) ?_
    exact G_ireturn (g_da dt_M_needs 3 rfl) rfl rfl rfl (g_nz rfl) (q_e h)
  · have h := o_f hc1 h
    have h := o_f hc2 h
    have h := o_f hc3 h
    have h := o_f hc4 h
    have h := o_f hc5 h
    have h := o_f hc6 h
    have h := o_f hc7 h
    have h := o_f hc8 h
    have h := o_f hc9 h
    have h := o_f hc10 h
    have h := o_f hc11 h
    have h := o_f hc12 h
    have h := o_f hc13 h
    have h := o_f hc14 h
    have h := o_f hc15 h
    have h := o_f hc16 h
    have h := o_f hc17 h
    have h := o_f hc18 h
    have h := o_f hc19 h
    have h := o_f hc20 h
    have h := o_f hc21 h
    have h := o_f hc22 h
    have h := o_f hc23 h
    have h := o_f hc24 h
    have h := o_f hc25 h
    have h := o_f hc26 h
    have h := o_f hc27 h
    have h := o_f hc28 h
    have h := o_f hc29 h
    have h := o_f hc30 h
    have h := o_f hc31 h
    have h := o_f hc32 h
    have h := o_f hc33 h
    have h := o_f hc34 h
    have h := o_f hc35 h
    have h := o_f hc36 h
    have h := o_f hc37 h
    have h := o_f hc38 h
    have h := o_f hc39 h
    have h := o_f hc40 h
    have h := o_f hc41 h
    have h := o_f hc42 h
    have h := o_f hc43 h
    have h := o_f hc44 h
    have h := o_f hc45 h
    have h := o_f hc46 h
    have h := o_f hc47 h
    have h := o_f hc48 h
    have h := o_f hc49 h
    have h := o_f hc50 h
    have h := o_f hc51 h
    have h := o_f hc52 h
    have h := o_f hc53 h
    have h := o_f hc54 h
    have h := o_f hc55 h
    have h := o_f hc56 h
    have h := o_f hc57 h
    have h := o_f hc58 h
    have h := o_f hc59 h
    have h := o_f hc60 h
    have h := o_f hc61 h
    have h := o_f hc62 h
    have h := o_f hc63 h
    have h := o_f hc64 h
    have h := o_f hc65 h
    have h := o_f hc66 h
    have h := o_f hc67 h
    have h := o_f hc68 h
    have h := o_f hc69 h
    have h := o_f hc70 h
    have h := o_f hc71 h
    have h := o_f hc72 h
    have h := o_f hc73 h
    have h := o_f hc74 h
    have h := o_f hc75 h
    have h := o_f hc76 h
    have h := o_f hc77 h
    have h := o_f hc78 h
    have h := o_f hc79 h
    have h := o_f hc80 h
    have h := o_f hc81 h
    have h := o_f hc82 h
    have h := o_f hc83 h
    have h := o_f hc84 h
    have h := o_f hc85 h
    have h := o_f hc86 h
    have h := o_f hc87 h
    have h := o_f hc88 h
    have h := o_f hc89 h
    have h := o_t hc90 h
    refine G_iconst (g_da dt_M_needs 4 rfl) ?_
    exact G_ireturn (g_da dt_M_needs 5 rfl) rfl rfl rfl (g_nz rfl) (q_e h)
  · have h := o_f hc1 h
    have h := o_f hc2 h
    have h := o_f hc3 h
    have h := o_f hc4 h
    have h := o_f hc5 h
    have h := o_f hc6 h
    have h := o_f hc7 h
    have h := o_f hc8 h
    have h := o_f hc9 h
    have h := o_f hc10 h
    have h := o_f hc11 h
    have h := o_f hc12 h
    have h := o_f hc13 h
    have h := o_f hc14 h
    have h := o_f hc15 h
    have h := o_f hc16 h
    have h := o_f hc17 h
    have h := o_f hc18 h
    have h := o_f hc19 h
    have h := o_f hc20 h
    have h := o_f hc21 h
    have h := o_f hc22 h
    have h := o_f hc23 h
    have h := o_f hc24 h
    have h := o_f hc25 h
    have h := o_f hc26 h
    have h := o_f hc27 h
    have h := o_f hc28 h
    have h := o_f hc29 h
    have h := o_f hc30 h
    have h := o_f hc31 h
    have h := o_f hc32 h
    have h := o_f hc33 h
    have h := o_f hc34 h
    have h := o_f hc35 h
    have h := o_f hc36 h
    have h := o_f hc37 h
    have h := o_f hc38 h
    have h := o_f hc39 h
    have h := o_f hc40 h
    have h := o_f hc41 h
    have h := o_f hc42 h
    have h := o_f hc43 h
    have h := o_f hc44 h
    have h := o_f hc45 h
    have h := o_f hc46 h
    have h := o_f hc47 h
    have h := o_f hc48 h
    have h := o_f hc49 h
    have h := o_f hc50 h
    have h := o_f hc51 h
    have h := o_f hc52 h
    have h := o_f hc53 h
    have h := o_f hc54 h
    have h := o_f hc55 h
    have h := o_f hc56 h
    have h := o_f hc57 h
    have h := o_f hc58 h
    have h := o_f hc59 h
    have h := o_f hc60 h
    have h := o_f hc61 h
    have h := o_f hc62 h
    have h := o_f hc63 h
    have h := o_f hc64 h
    have h := o_f hc65 h
    have h := o_f hc66 h
    have h := o_f hc67 h
    have h := o_f hc68 h
    have h := o_f hc69 h
    have h := o_f hc70 h
    have h := o_f hc71 h
    have h := o_f hc72 h
    have h := o_f hc73 h
    have h := o_f hc74 h
    have h := o_f hc75 h
    have h := o_f hc76 h
    have h := o_f hc77 h
    have h := o_f hc78 h
    have h := o_f hc79 h
    have h := o_f hc80 h
    have h := o_f hc81 h
    have h := o_f hc82 h
    have h := o_f hc83 h
    have h := o_f hc84 h
    have h := o_f hc85 h
    have h := o_f hc86 h
    have h := o_f hc87 h
    have h := o_f hc88 h
    have h := o_f hc89 h
    have h := o_f hc90 h
    exact G_subK (M_needs_387_ok h) ⟨rfl, trivial⟩
