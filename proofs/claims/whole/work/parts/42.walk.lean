set_option maxHeartbeats 4000000 in
set_option maxRecDepth 100000 in
theorem Pages_isFull_ok {J : gS → gS} (hJc : g_jc J) {z0 : Int} {s0 : gS} {s : gS} (h : Pages_isFull s = some (z0, s0)) : Ct M_Pages_isFull g_S [.ref 34] (J s) (QE g_S J z0 s0) := by
  refine Ct_of [some (.ref 34)] (plainFor_of_name (by decide)) rfl (Nat.le_of_ble_eq_true rfl) rfl (by decide) q_rE ?_
  unfold Pages_isFull at h
  refine G_aload_n (g_da dt_Pages_isFull 0 rfl) rfl rfl ?_
  refine H_getI (g_da dt_Pages_isFull 1 rfl) sh_34 fl_1_18 rfl (hJc 34 rfl) ?_
  refine G_bipush (g_da dt_Pages_isFull 2 rfl) b8w_8 ?_
  refine G_icmp_lt (g_da dt_Pages_isFull 3 rfl) rfl rfl w_8 (fun hc1 => ?_) (fun hc1 => ?_)
  · have h := o_t hc1 h
    refine G_iconst (g_da dt_Pages_isFull 6 rfl) ?_
    exact G_ireturn (g_da dt_Pages_isFull 7 rfl) rfl (g_bool (Or.inl w_0)).1 rfl (g_nz rfl) (q_e h)
  · have h := o_f hc1 h
    refine G_iconst (g_da dt_Pages_isFull 4 rfl) ?_
    refine G_goto (g_da dt_Pages_isFull 5 rfl) rfl ?_
    exact G_ireturn (g_da dt_Pages_isFull 7 rfl) rfl (g_bool (Or.inr w_1)).1 rfl (g_nz rfl) (q_e h)
set_option maxHeartbeats 4000000 in
set_option maxRecDepth 100000 in
theorem Settings_saved_ok {J : gS → gS} (hJc : g_jc J) {z0 : Int} {s0 : gS} {s : gS} (h : Settings_saved s = some (z0, s0)) : Ct M_Settings_saved g_S [.ref 21] (J s) (QE g_S J z0 s0) := by
  refine Ct_of [some (.ref 21)] (plainFor_of_name (by decide)) rfl (Nat.le_of_ble_eq_true rfl) rfl (by decide) q_rE ?_
  unfold Settings_saved at h
  refine G_aload_n (g_da dt_Settings_saved 0 rfl) rfl rfl ?_
  refine H_getI (g_da dt_Settings_saved 1 rfl) sh_21 fl_3_39 rfl (hJc 21 rfl) ?_
  exact G_ireturn (g_da dt_Settings_saved 2 rfl) rfl rfl rfl (g_nz rfl) (q_e h)
set_option maxHeartbeats 4000000 in
set_option maxRecDepth 100000 in
theorem Calls_innermostLoop_5_ok {J : gS → gS} (hJc : g_jc J) {z0 : Int} {s0 : gS} {k5 : Int → gS → gA} (hk5 : ∀ (l1 : Int) (s : gS), k5 l1 s = some (z0, s0) → G M_Calls_innermostLoop (QE g_S J z0 s0) (g_S, 0, 0) (J s) 5 [some (.ref 10), some (gi l1)] [])  {l1 : Int} {s : gS} (h : Calls_innermostLoop_5 k5 l1 s = some (z0, s0)) : G M_Calls_innermostLoop (QE g_S J z0 s0) (g_S, 0, 0) (J s) 5 [some (.ref 10), some (gi l1)] [] := by
  unfold Calls_innermostLoop_5 at h
  refine G_iload_n (g_da dt_Calls_innermostLoop 3 rfl) rfl rfl ?_
  refine G_if_lt (g_da dt_Calls_innermostLoop 4 rfl) rfl rfl  (fun hc3 => ?_) (fun hc3 => ?_)
  · have h := o_t hc3 h
    refine G_iconst (g_da dt_Calls_innermostLoop 14 rfl) ?_
    exact G_ireturn (g_da dt_Calls_innermostLoop 15 rfl) rfl rfl rfl (g_nz rfl) (q_e h)
  · have h := o_f hc3 h
    refine G_aload_n (g_da dt_Calls_innermostLoop 5 rfl) rfl rfl ?_
    refine G_getR (g_da dt_Calls_innermostLoop 6 rfl) sh_10 fl_7_21 rfl ?_
    refine G_iload_n (g_da dt_Calls_innermostLoop 7 rfl) rfl rfl ?_
    obtain ⟨hb4, h⟩ := o_g h
    refine H_iaload (g_da dt_Calls_innermostLoop 8 rfl) sh_14 (hJc 14 rfl) rfl hb4 rfl ?_
    refine G_if_le (g_da dt_Calls_innermostLoop 9 rfl) rfl rfl  (fun hc5 => ?_) (fun hc5 => ?_)
    · have h := o_t hc5 h
      refine G_iinc (lv' := [_, _]) (g_da dt_Calls_innermostLoop 12 rfl) rfl (Nat.le_of_ble_eq_true rfl) rfl rfl ?_
      refine G_goto (g_da dt_Calls_innermostLoop 13 rfl) rfl ?_
      exact G_subK (hk5 _ _ h) ⟨rfl, ⟨rfl, trivial⟩⟩
    · have h := o_f hc5 h
      refine G_iload_n (g_da dt_Calls_innermostLoop 10 rfl) rfl rfl ?_
      exact G_ireturn (g_da dt_Calls_innermostLoop 11 rfl) rfl rfl rfl (g_nz rfl) (q_e h)
set_option maxHeartbeats 4000000 in
set_option maxRecDepth 100000 in
theorem Calls_innermostLoop_5L_ok {J : gS → gS} (hJc : g_jc J) {z0 : Int} {s0 : gS} : ∀ (n : Nat) {l1 : Int} {s : gS}, Calls_innermostLoop_5L n l1 s = some (z0, s0) → G M_Calls_innermostLoop (QE g_S J z0 s0) (g_S, 0, 0) (J s) 5 [some (.ref 10), some (gi l1)] [] := by
  intro n
  induction n with
  | zero => intro _ _ h; cases h
  | succ n ih => intro _ _ h; exact Calls_innermostLoop_5_ok hJc (fun _ _ h => ih h) h
set_option maxHeartbeats 4000000 in
set_option maxRecDepth 100000 in
theorem Calls_innermostLoop_ok {J : gS → gS} (hJc : g_jc J) {z0 : Int} {s0 : gS} {s : gS} (h : Calls_innermostLoop s = some (z0, s0)) : Ct M_Calls_innermostLoop g_S [.ref 10] (J s) (QE g_S J z0 s0) := by
  refine Ct_of [some (.ref 10), none] (plainFor_of_name (by decide)) rfl (Nat.le_of_ble_eq_true rfl) rfl (by decide) q_rE ?_
  unfold Calls_innermostLoop at h
  refine G_aload_n (g_da dt_Calls_innermostLoop 0 rfl) rfl rfl ?_
  refine H_getI (g_da dt_Calls_innermostLoop 1 rfl) sh_10 fl_7_24 rfl (hJc 10 rfl) ?_
  refine H_topi (fun v1 e2 => ?_)
  have h := o_l h v1 e2
  refine G_istore_n (lv' := [_, _]) (g_da dt_Calls_innermostLoop 2 rfl) rfl (Nat.le_of_ble_eq_true rfl) rfl rfl ?_
  exact G_subK (Calls_innermostLoop_5L_ok hJc gFu h) ⟨rfl, ⟨rfl, trivial⟩⟩
set_option maxHeartbeats 4000000 in
set_option maxRecDepth 100000 in
theorem Job_errorOf_225_ok {J : gS → gS} (hJc : g_jc J) {z0 : Int} {s0 : gS}  {s : gS} (h : Job_errorOf_225 s = some (z0, s0)) : G M_Job_errorOf (QE g_S J z0 s0) (g_S, 0, 0) (J s) 225 [some (.ref 5), none, none] [] := by
  unfold Job_errorOf_225 at h
  refine G_aload_n (g_da dt_Job_errorOf 116 rfl) rfl rfl ?_
  refine H_getI (g_da dt_Job_errorOf 117 rfl) sh_5 fl_6_98 rfl (hJc 5 rfl) ?_
  refine G_aload_n (g_da dt_Job_errorOf 118 rfl) rfl rfl ?_
  refine H_getI (g_da dt_Job_errorOf 119 rfl) sh_5 fl_6_101 rfl (hJc 5 rfl) ?_
  refine G_icmp_lt (g_da dt_Job_errorOf 120 rfl) rfl rfl rfl (fun hc37 => ?_) (fun hc37 => ?_)
  · have h := o_t hc37 h
    refine G_iconst (g_da dt_Job_errorOf 123 rfl) ?_
    exact G_ireturn (g_da dt_Job_errorOf 124 rfl) rfl rfl rfl (g_nz rfl) (q_e h)
  · have h := o_f hc37 h
    refine G_bipush (g_da dt_Job_errorOf 121 rfl) b8w_12 ?_
    refine G_goto (g_da dt_Job_errorOf 122 rfl) rfl ?_
    exact G_ireturn (g_da dt_Job_errorOf 124 rfl) rfl rfl rfl (g_nz rfl) (q_e h)
set_option maxHeartbeats 4000000 in
set_option maxRecDepth 100000 in
theorem Job_errorOf_205_ok {J : gS → gS} (hJc : g_jc J) {z0 : Int} {s0 : gS}  {l1 : Int} {s : gS} (h : Job_errorOf_205 l1 s = some (z0, s0)) : G M_Job_errorOf (QE g_S J z0 s0) (g_S, 0, 0) (J s) 205 [some (.ref 5), some (gi l1), none] [] := by
  unfold Job_errorOf_205 at h
  refine G_iload_n (g_da dt_Job_errorOf 106 rfl) rfl rfl ?_
  refine G_bipush (g_da dt_Job_errorOf 107 rfl) b8w_81 ?_
  refine G_icmp_ne (g_da dt_Job_errorOf 108 rfl) rfl rfl w_81 (fun hc36 => ?_) (fun hc36 => ?_)
  · have h := o_f hc36 h
    exact G_subK (Job_errorOf_225_ok hJc h) ⟨rfl, trivial⟩
  · have h := o_t hc36 h
    refine G_aload_n (g_da dt_Job_errorOf 109 rfl) rfl rfl ?_
    refine G_getR (g_da dt_Job_errorOf 110 rfl) sh_5 fl_6_21 rfl ?_
    obtain ⟨r38, s39, hc40, h⟩ := o_b h
    refine H_cVE (Calls_innermostLoop_ok hJc hc40) (g_da dt_Job_errorOf 111 rfl) lk_6_168 mv_Calls_innermostLoop rfl sh_10 rfl rfl rfl rfl rfl rfl ?_
    refine G_iconst (g_da dt_Job_errorOf 112 rfl) ?_
    refine G_icmp_ne (g_da dt_Job_errorOf 113 rfl) rfl rfl w_m1 (fun hc41 => ?_) (fun hc41 => ?_)
    · have h := o_f hc41 h
      exact G_subK (Job_errorOf_225_ok hJc h) ⟨rfl, trivial⟩
    · have h := o_t hc41 h
      refine G_bipush (g_da dt_Job_errorOf 114 rfl) b8w_11 ?_
      exact G_ireturn (g_da dt_Job_errorOf 115 rfl) rfl rfl rfl (g_nz rfl) (q_e h)
set_option maxHeartbeats 4000000 in
set_option maxRecDepth 100000 in
theorem Job_errorOf_186_ok {J : gS → gS} (hJc : g_jc J) {z0 : Int} {s0 : gS}  {l1 : Int} {s : gS} (h : Job_errorOf_186 l1 s = some (z0, s0)) : G M_Job_errorOf (QE g_S J z0 s0) (g_S, 0, 0) (J s) 186 [some (.ref 5), some (gi l1), none] [] := by
  unfold Job_errorOf_186 at h
  refine G_iload_n (g_da dt_Job_errorOf 97 rfl) rfl rfl ?_
  refine G_bipush (g_da dt_Job_errorOf 98 rfl) b8w_86 ?_
  refine G_icmp_ne (g_da dt_Job_errorOf 99 rfl) rfl rfl w_86 (fun hc35 => ?_) (fun hc35 => ?_)
  · have h := o_f hc35 h
    exact G_subK (Job_errorOf_205_ok hJc h) ⟨rfl, ⟨rfl, trivial⟩⟩
  · have h := o_t hc35 h
    refine G_aload_n (g_da dt_Job_errorOf 100 rfl) rfl rfl ?_
    refine G_getR (g_da dt_Job_errorOf 101 rfl) sh_5 fl_6_46 rfl ?_
    obtain ⟨r42, s43, hc44, h⟩ := o_b h
    refine H_cVE (Settings_saved_ok hJc hc44) (g_da dt_Job_errorOf 102 rfl) lk_6_165 mv_Settings_saved rfl sh_21 rfl rfl rfl rfl rfl rfl ?_
    refine G_if_ne (g_da dt_Job_errorOf 103 rfl) rfl rfl  (fun hc45 => ?_) (fun hc45 => ?_)
    · have h := o_f hc45 h
      exact G_subK (Job_errorOf_205_ok hJc h) ⟨rfl, ⟨rfl, trivial⟩⟩
    · have h := o_t hc45 h
      refine G_bipush (g_da dt_Job_errorOf 104 rfl) b8w_10 ?_
      exact G_ireturn (g_da dt_Job_errorOf 105 rfl) rfl rfl rfl (g_nz rfl) (q_e h)
set_option maxHeartbeats 4000000 in
set_option maxRecDepth 100000 in
theorem Job_errorOf_169_ok {J : gS → gS} (hJc : g_jc J) {z0 : Int} {s0 : gS}  {l1 : Int} {s : gS} (h : Job_errorOf_169 l1 s = some (z0, s0)) : G M_Job_errorOf (QE g_S J z0 s0) (g_S, 0, 0) (J s) 169 [some (.ref 5), some (gi l1), none] [] := by
  unfold Job_errorOf_169 at h
  refine G_iload_n (g_da dt_Job_errorOf 89 rfl) rfl rfl ?_
  refine G_bipush (g_da dt_Job_errorOf 90 rfl) b8w_85 ?_
  refine G_icmp_ne (g_da dt_Job_errorOf 91 rfl) rfl rfl w_85 (fun hc34 => ?_) (fun hc34 => ?_)
  · have h := o_f hc34 h
    exact G_subK (Job_errorOf_186_ok hJc h) ⟨rfl, ⟨rfl, trivial⟩⟩
  · have h := o_t hc34 h
    refine G_aload_n (g_da dt_Job_errorOf 92 rfl) rfl rfl ?_
    refine G_getR (g_da dt_Job_errorOf 93 rfl) sh_5 fl_6_46 rfl ?_
    obtain ⟨r46, s47, hc48, h⟩ := o_b h
    refine H_cVE (Settings_saved_ok hJc hc48) (g_da dt_Job_errorOf 94 rfl) lk_6_165 mv_Settings_saved rfl sh_21 rfl rfl rfl rfl rfl rfl ?_
    refine G_iconst (g_da dt_Job_errorOf 95 rfl) ?_
    refine G_icmp_eq (g_da dt_Job_errorOf 96 rfl) rfl rfl w_4 (fun hc49 => ?_) (fun hc49 => ?_)
    · have h := o_t hc49 h
      refine G_bipush (g_da dt_Job_errorOf 104 rfl) b8w_10 ?_
      exact G_ireturn (g_da dt_Job_errorOf 105 rfl) rfl rfl rfl (g_nz rfl) (q_e h)
    · have h := o_f hc49 h
      exact G_subK (Job_errorOf_186_ok hJc h) ⟨rfl, ⟨rfl, trivial⟩⟩
set_option maxHeartbeats 4000000 in
set_option maxRecDepth 100000 in
theorem Job_errorOf_150_ok {J : gS → gS} (hJc : g_jc J) {z0 : Int} {s0 : gS}  {l1 : Int} {s : gS} (h : Job_errorOf_150 l1 s = some (z0, s0)) : G M_Job_errorOf (QE g_S J z0 s0) (g_S, 0, 0) (J s) 150 [some (.ref 5), some (gi l1), none] [] := by
  unfold Job_errorOf_150 at h
  refine G_iload_n (g_da dt_Job_errorOf 80 rfl) rfl rfl ?_
  refine G_bipush (g_da dt_Job_errorOf 81 rfl) b8w_80 ?_
  refine G_icmp_ne (g_da dt_Job_errorOf 82 rfl) rfl rfl w_80 (fun hc33 => ?_) (fun hc33 => ?_)
  · have h := o_f hc33 h
    exact G_subK (Job_errorOf_169_ok hJc h) ⟨rfl, ⟨rfl, trivial⟩⟩
  · have h := o_t hc33 h
    refine G_aload_n (g_da dt_Job_errorOf 83 rfl) rfl rfl ?_
    refine G_getR (g_da dt_Job_errorOf 84 rfl) sh_5 fl_6_60 rfl ?_
    obtain ⟨r50, s51, hc52, h⟩ := o_b h
    refine H_cVE (Pages_isFull_ok hJc hc52) (g_da dt_Job_errorOf 85 rfl) lk_6_162 mv_Pages_isFull rfl sh_34 rfl rfl rfl rfl rfl rfl ?_
    refine G_if_eq (g_da dt_Job_errorOf 86 rfl) rfl rfl  (fun hc53 => ?_) (fun hc53 => ?_)
    · have h := o_t hc53 h
      exact G_subK (Job_errorOf_169_ok hJc h) ⟨rfl, ⟨rfl, trivial⟩⟩
    · have h := o_f hc53 h
      refine G_bipush (g_da dt_Job_errorOf 87 rfl) b8w_9 ?_
      exact G_ireturn (g_da dt_Job_errorOf 88 rfl) rfl rfl rfl (g_nz rfl) (q_e h)
set_option maxHeartbeats 4000000 in
set_option maxRecDepth 100000 in
theorem Job_errorOf_139_ok {J : gS → gS} (hJc : g_jc J) {z0 : Int} {s0 : gS}  {l1 : Int} {s : gS} (h : Job_errorOf_139 l1 s = some (z0, s0)) : G M_Job_errorOf (QE g_S J z0 s0) (g_S, 0, 0) (J s) 139 [some (.ref 5), some (gi l1), none] [] := by
  unfold Job_errorOf_139 at h
  refine G_aload_n (g_da dt_Job_errorOf 74 rfl) rfl rfl ?_
  refine G_iload_n (g_da dt_Job_errorOf 75 rfl) rfl rfl ?_
  obtain ⟨r29, s30, hc31, h⟩ := o_b h
  refine H_cVE (Job_marksTooMuch_ok hJc hc31) (g_da dt_Job_errorOf 76 rfl) lk_6_159 mv_Job_marksTooMuch rfl sh_5 rfl rfl rfl rfl rfl rfl ?_
  refine G_if_eq (g_da dt_Job_errorOf 77 rfl) rfl rfl  (fun hc32 => ?_) (fun hc32 => ?_)
  · have h := o_t hc32 h
    exact G_subK (Job_errorOf_150_ok hJc h) ⟨rfl, ⟨rfl, trivial⟩⟩
  · have h := o_f hc32 h
    refine G_bipush (g_da dt_Job_errorOf 78 rfl) b8w_8 ?_
    exact G_ireturn (g_da dt_Job_errorOf 79 rfl) rfl rfl rfl (g_nz rfl) (q_e h)
set_option maxHeartbeats 4000000 in
set_option maxRecDepth 100000 in
theorem Job_errorOf_105_ok {J : gS → gS} (hJc : g_jc J) {z0 : Int} {s0 : gS}  {l1 : Int} {s : gS} (h : Job_errorOf_105 l1 s = some (z0, s0)) : G M_Job_errorOf (QE g_S J z0 s0) (g_S, 0, 0) (J s) 105 [some (.ref 5), some (gi l1), none] [] := by
  unfold Job_errorOf_105 at h
  refine G_aload_n (g_da dt_Job_errorOf 57 rfl) rfl rfl ?_
  refine G_getR (g_da dt_Job_errorOf 58 rfl) sh_5 fl_6_53 rfl ?_
  refine H_getI (g_da dt_Job_errorOf 59 rfl) sh_28 fl_6_155 rfl (hJc 28 rfl) ?_
  refine G_aload_n (g_da dt_Job_errorOf 60 rfl) rfl rfl ?_
  refine G_iload_n (g_da dt_Job_errorOf 61 rfl) rfl rfl ?_
  obtain ⟨r24, s25, hc26, h⟩ := o_b h
  refine H_cVE (Job_placesFor_ok hJc hc26) (g_da dt_Job_errorOf 62 rfl) lk_6_156 mv_Job_placesFor rfl sh_5 rfl rfl rfl rfl rfl rfl ?_
  refine G_iadd (g_da dt_Job_errorOf 63 rfl) ?_
  refine G_sipush (g_da dt_Job_errorOf 64 rfl) s16w_200 ?_
  refine G_icmp_le (g_da dt_Job_errorOf 65 rfl) rfl rfl w_200 (fun hc27 => ?_) (fun hc27 => ?_)
  · have h := o_t hc27 h
    refine G_iload_n (g_da dt_Job_errorOf 68 rfl) rfl rfl ?_
    refine G_bipush (g_da dt_Job_errorOf 69 rfl) b8w_70 ?_
    refine G_icmp_eq (g_da dt_Job_errorOf 70 rfl) rfl rfl w_70 (fun hc28 => ?_) (fun hc28 => ?_)
    · have h := o_t hc28 h
      exact G_subK (Job_errorOf_139_ok hJc h) ⟨rfl, ⟨rfl, trivial⟩⟩
    · have h := o_f hc28 h
      refine G_iload_n (g_da dt_Job_errorOf 71 rfl) rfl rfl ?_
      refine G_bipush (g_da dt_Job_errorOf 72 rfl) b8w_69 ?_
      refine G_icmp_ne (g_da dt_Job_errorOf 73 rfl) rfl rfl w_69 (fun hc54 => ?_) (fun hc54 => ?_)
      · have h := o_f hc54 h
        exact G_subK (Job_errorOf_150_ok hJc h) ⟨rfl, ⟨rfl, trivial⟩⟩
      · have h := o_t hc54 h
        exact G_subK (Job_errorOf_139_ok hJc h) ⟨rfl, ⟨rfl, trivial⟩⟩
  · have h := o_f hc27 h
    refine G_bipush (g_da dt_Job_errorOf 66 rfl) b8w_7 ?_
    exact G_ireturn (g_da dt_Job_errorOf 67 rfl) rfl rfl rfl (g_nz rfl) (q_e h)
set_option maxHeartbeats 4000000 in
set_option maxRecDepth 100000 in
theorem Job_errorOf_92_ok {J : gS → gS} (hJc : g_jc J) {z0 : Int} {s0 : gS}  {l1 : Int} {s : gS} (h : Job_errorOf_92 l1 s = some (z0, s0)) : G M_Job_errorOf (QE g_S J z0 s0) (g_S, 0, 0) (J s) 92 [some (.ref 5), some (gi l1), none] [] := by
  unfold Job_errorOf_92 at h
  refine G_aload_n (g_da dt_Job_errorOf 51 rfl) rfl rfl ?_
  refine G_getR (g_da dt_Job_errorOf 52 rfl) sh_5 fl_6_53 rfl ?_
  refine H_getI (g_da dt_Job_errorOf 53 rfl) sh_28 fl_6_155 rfl (hJc 28 rfl) ?_
  refine G_if_ne (g_da dt_Job_errorOf 54 rfl) rfl rfl  (fun hc23 => ?_) (fun hc23 => ?_)
  · have h := o_f hc23 h
    exact G_subK (Job_errorOf_105_ok hJc h) ⟨rfl, ⟨rfl, trivial⟩⟩
  · have h := o_t hc23 h
    refine G_bipush (g_da dt_Job_errorOf 55 rfl) b8w_6 ?_
    exact G_ireturn (g_da dt_Job_errorOf 56 rfl) rfl rfl rfl (g_nz rfl) (q_e h)
set_option maxHeartbeats 4000000 in
set_option maxRecDepth 100000 in
theorem Job_errorOf_64_ok {J : gS → gS} (hJc : g_jc J) {z0 : Int} {s0 : gS}  {l1 : Int} {s : gS} (h : Job_errorOf_64 l1 s = some (z0, s0)) : G M_Job_errorOf (QE g_S J z0 s0) (g_S, 0, 0) (J s) 64 [some (.ref 5), some (gi l1), none] [] := by
  unfold Job_errorOf_64 at h
  refine G_aload_n (g_da dt_Job_errorOf 36 rfl) rfl rfl ?_
  refine G_iload_n (g_da dt_Job_errorOf 37 rfl) rfl rfl ?_
  obtain ⟨r18, s19, hc20, h⟩ := o_b h
  refine H_cVE (Job_lacksRoom_ok hJc hc20) (g_da dt_Job_errorOf 38 rfl) lk_6_152 mv_Job_lacksRoom rfl sh_5 rfl rfl rfl rfl rfl rfl ?_
  refine G_if_eq (g_da dt_Job_errorOf 39 rfl) rfl rfl  (fun hc21 => ?_) (fun hc21 => ?_)
  · have h := o_t hc21 h
    refine G_iload_n (g_da dt_Job_errorOf 42 rfl) rfl rfl ?_
    refine G_bipush (g_da dt_Job_errorOf 43 rfl) b8w_76 ?_
    refine G_icmp_eq (g_da dt_Job_errorOf 44 rfl) rfl rfl w_76 (fun hc22 => ?_) (fun hc22 => ?_)
    · have h := o_t hc22 h
      exact G_subK (Job_errorOf_92_ok hJc h) ⟨rfl, ⟨rfl, trivial⟩⟩
    · have h := o_f hc22 h
      refine G_iload_n (g_da dt_Job_errorOf 45 rfl) rfl rfl ?_
      refine G_bipush (g_da dt_Job_errorOf 46 rfl) b8w_67 ?_
      refine G_icmp_eq (g_da dt_Job_errorOf 47 rfl) rfl rfl w_67 (fun hc55 => ?_) (fun hc55 => ?_)
      · have h := o_t hc55 h
        exact G_subK (Job_errorOf_92_ok hJc h) ⟨rfl, ⟨rfl, trivial⟩⟩
      · have h := o_f hc55 h
        refine G_iload_n (g_da dt_Job_errorOf 48 rfl) rfl rfl ?_
        refine G_bipush (g_da dt_Job_errorOf 49 rfl) b8w_90 ?_
        refine G_icmp_ne (g_da dt_Job_errorOf 50 rfl) rfl rfl w_90 (fun hc56 => ?_) (fun hc56 => ?_)
        · have h := o_f hc56 h
          exact G_subK (Job_errorOf_105_ok hJc h) ⟨rfl, ⟨rfl, trivial⟩⟩
        · have h := o_t hc56 h
          exact G_subK (Job_errorOf_92_ok hJc h) ⟨rfl, ⟨rfl, trivial⟩⟩
  · have h := o_f hc21 h
    refine G_iconst (g_da dt_Job_errorOf 40 rfl) ?_
    exact G_ireturn (g_da dt_Job_errorOf 41 rfl) rfl rfl rfl (g_nz rfl) (q_e h)
set_option maxHeartbeats 4000000 in
set_option maxRecDepth 100000 in
theorem Job_errorOf_51_ok {J : gS → gS} (hJc : g_jc J) {z0 : Int} {s0 : gS}  {l1 : Int} {s : gS} (h : Job_errorOf_51 l1 s = some (z0, s0)) : G M_Job_errorOf (QE g_S J z0 s0) (g_S, 0, 0) (J s) 51 [some (.ref 5), some (gi l1), none] [] := by
  unfold Job_errorOf_51 at h
  refine G_aload_n (g_da dt_Job_errorOf 29 rfl) rfl rfl ?_
  refine G_getR (g_da dt_Job_errorOf 30 rfl) sh_5 fl_6_35 rfl ?_
  refine G_iconst (g_da dt_Job_errorOf 31 rfl) ?_
  obtain ⟨r14, s15, hc16, h⟩ := o_b h
  refine H_cVE (Values_peek_ok hJc hc16) (g_da dt_Job_errorOf 32 rfl) lk_6_149 mv_Values_peek rfl sh_18 rfl rfl rfl rfl rfl rfl ?_
  refine G_if_ne (g_da dt_Job_errorOf 33 rfl) rfl rfl  (fun hc17 => ?_) (fun hc17 => ?_)
  · have h := o_f hc17 h
    exact G_subK (Job_errorOf_64_ok hJc h) ⟨rfl, ⟨rfl, trivial⟩⟩
  · have h := o_t hc17 h
    refine G_iconst (g_da dt_Job_errorOf 34 rfl) ?_
    exact G_ireturn (g_da dt_Job_errorOf 35 rfl) rfl rfl rfl (g_nz rfl) (q_e h)
set_option maxHeartbeats 4000000 in
set_option maxRecDepth 100000 in
theorem Job_errorOf_ok {J : gS → gS} (hJc : g_jc J) {z0 : Int} {s0 : gS} {a1 : Int} {s : gS} (h : Job_errorOf a1 s = some (z0, s0)) : Ct M_Job_errorOf g_S [.ref 5, gi a1] (J s) (QE g_S J z0 s0) := by
  refine Ct_of [some (.ref 5), some (gi a1), none] (plainFor_of_name (by decide)) rfl (Nat.le_of_ble_eq_true rfl) rfl (by decide) q_rE ?_
  unfold Job_errorOf at h
  refine G_iload_n (g_da dt_Job_errorOf 0 rfl) rfl rfl ?_
  obtain ⟨r1, s2, hc3, h⟩ := o_b h
  refine H_cSE (Job_needs_ok hc3) (g_da dt_Job_errorOf 1 rfl) lk_6_135 ms_Job_needs rfl rfl rfl rfl rfl rfl ?_
  refine G_istore_n (lv' := [_, _, _]) (g_da dt_Job_errorOf 2 rfl) rfl (Nat.le_of_ble_eq_true rfl) rfl rfl ?_
  refine G_aload_n (g_da dt_Job_errorOf 3 rfl) rfl rfl ?_
  refine G_getR (g_da dt_Job_errorOf 4 rfl) sh_5 fl_6_35 rfl ?_
  refine H_getI (g_da dt_Job_errorOf 5 rfl) sh_18 fl_6_138 rfl (hJc 18 rfl) ?_
  refine G_iload_n (g_da dt_Job_errorOf 6 rfl) rfl rfl ?_
  refine G_icmp_ge (g_da dt_Job_errorOf 7 rfl) rfl rfl rfl (fun hc4 => ?_) (fun hc4 => ?_)
  · have h := o_t hc4 h
    refine G_aload_n (g_da dt_Job_errorOf 10 rfl) rfl rfl ?_
    refine G_iload_n (g_da dt_Job_errorOf 11 rfl) rfl rfl ?_
    refine G_iload_n (g_da dt_Job_errorOf 12 rfl) rfl rfl ?_
    obtain ⟨r5, s6, hc7, h⟩ := o_b h
    refine H_cVE (Job_kindsFit_ok hJc hc7) (g_da dt_Job_errorOf 13 rfl) lk_6_141 mv_Job_kindsFit rfl sh_5 rfl rfl rfl rfl rfl rfl ?_
    refine G_if_ne (g_da dt_Job_errorOf 14 rfl) rfl rfl  (fun hc8 => ?_) (fun hc8 => ?_)
    · have h := o_f hc8 h
      refine G_aload_n (g_da dt_Job_errorOf 17 rfl) rfl rfl ?_
      refine G_iload_n (g_da dt_Job_errorOf 18 rfl) rfl rfl ?_
      obtain ⟨r9, s10, hc11, h⟩ := o_b h
      refine H_cVE (Job_goesBeyond_ok hJc hc11) (g_da dt_Job_errorOf 19 rfl) lk_6_145 mv_Job_goesBeyond rfl sh_5 rfl rfl rfl rfl rfl rfl ?_
      refine G_if_eq (g_da dt_Job_errorOf 20 rfl) rfl rfl  (fun hc12 => ?_) (fun hc12 => ?_)
      · have h := o_t hc12 h
        refine G_iload_n (g_da dt_Job_errorOf 23 rfl) rfl rfl ?_
        refine G_bipush (g_da dt_Job_errorOf 24 rfl) b8w_47 ?_
        refine G_icmp_eq (g_da dt_Job_errorOf 25 rfl) rfl rfl w_47 (fun hc13 => ?_) (fun hc13 => ?_)
        · have h := o_t hc13 h
          exact G_subK (Job_errorOf_51_ok hJc h) ⟨rfl, ⟨rfl, trivial⟩⟩
        · have h := o_f hc13 h
          refine G_iload_n (g_da dt_Job_errorOf 26 rfl) rfl rfl ?_
          refine G_bipush (g_da dt_Job_errorOf 27 rfl) b8w_37 ?_
          refine G_icmp_ne (g_da dt_Job_errorOf 28 rfl) rfl rfl w_37 (fun hc57 => ?_) (fun hc57 => ?_)
          · have h := o_f hc57 h
            exact G_subK (Job_errorOf_64_ok hJc h) ⟨rfl, ⟨rfl, trivial⟩⟩
          · have h := o_t hc57 h
            exact G_subK (Job_errorOf_51_ok hJc h) ⟨rfl, ⟨rfl, trivial⟩⟩
      · have h := o_f hc12 h
        refine G_iconst (g_da dt_Job_errorOf 21 rfl) ?_
        exact G_ireturn (g_da dt_Job_errorOf 22 rfl) rfl rfl rfl (g_nz rfl) (q_e h)
    · have h := o_t hc8 h
      refine G_iconst (g_da dt_Job_errorOf 15 rfl) ?_
      exact G_ireturn (g_da dt_Job_errorOf 16 rfl) rfl rfl rfl (g_nz rfl) (q_e h)
  · have h := o_f hc4 h
    refine G_iconst (g_da dt_Job_errorOf 8 rfl) ?_
    exact G_ireturn (g_da dt_Job_errorOf 9 rfl) rfl rfl rfl (g_nz rfl) (q_e h)
set_option maxHeartbeats 4000000 in
set_option maxRecDepth 100000 in
theorem Text_closing_ok {J : gS → gS} (hJc : g_jc J) {z0 : Int} {s0 : gS} {a1 : Int} {s : gS} (h : Text_closing a1 s = some (z0, s0)) : Ct M_Text_closing g_S [.ref 6, gi a1] (J s) (QE g_S J z0 s0) := by
  refine Ct_of [some (.ref 6), some (gi a1)] (plainFor_of_name (by decide)) rfl (Nat.le_of_ble_eq_true rfl) rfl (by decide) q_rE ?_
  unfold Text_closing at h
  refine G_iload_n (g_da dt_Text_closing 0 rfl) rfl rfl ?_
  refine G_if_lt (g_da dt_Text_closing 1 rfl) rfl rfl  (fun hc1 => ?_) (fun hc1 => ?_)
  · have h := o_t hc1 h
    refine G_aload_n (g_da dt_Text_closing 6 rfl) rfl rfl ?_
    refine H_getI (g_da dt_Text_closing 7 rfl) sh_6 fl_8_21 rfl (hJc 6 rfl) ?_
    refine G_goto (g_da dt_Text_closing 8 rfl) rfl ?_
    exact G_ireturn (g_da dt_Text_closing 13 rfl) rfl rfl rfl (g_nz rfl) (q_e h)
  · have h := o_f hc1 h
    refine G_iload_n (g_da dt_Text_closing 2 rfl) rfl rfl ?_
    refine G_aload_n (g_da dt_Text_closing 3 rfl) rfl rfl ?_
    refine H_getI (g_da dt_Text_closing 4 rfl) sh_6 fl_8_21 rfl (hJc 6 rfl) ?_
    refine G_icmp_lt (g_da dt_Text_closing 5 rfl) rfl rfl rfl (fun hc2 => ?_) (fun hc2 => ?_)
    · have h := o_t hc2 h
      refine G_aload_n (g_da dt_Text_closing 9 rfl) rfl rfl ?_
      refine G_getR (g_da dt_Text_closing 10 rfl) sh_6 fl_8_15 rfl ?_
      refine G_iload_n (g_da dt_Text_closing 11 rfl) rfl rfl ?_
      obtain ⟨hb3, h⟩ := o_g h
      refine H_iaload (g_da dt_Text_closing 12 rfl) sh_8 (hJc 8 rfl) rfl hb3 rfl ?_
      exact G_ireturn (g_da dt_Text_closing 13 rfl) rfl rfl rfl (g_nz rfl) (q_e h)
    · have h := o_f hc2 h
      refine G_aload_n (g_da dt_Text_closing 6 rfl) rfl rfl ?_
      refine H_getI (g_da dt_Text_closing 7 rfl) sh_6 fl_8_21 rfl (hJc 6 rfl) ?_
      refine G_goto (g_da dt_Text_closing 8 rfl) rfl ?_
      exact G_ireturn (g_da dt_Text_closing 13 rfl) rfl rfl rfl (g_nz rfl) (q_e h)
set_option maxHeartbeats 4000000 in
set_option maxRecDepth 100000 in
theorem Text_behindDigits_2_ok {J : gS → gS} (hJc : g_jc J) {z0 : Int} {s0 : gS} {k2 : Int → gS → gA} (hk2 : ∀ (l2 : Int) (s : gS), k2 l2 s = some (z0, s0) → G M_Text_behindDigits (QE g_S J z0 s0) (g_S, 0, 0) (J s) 2 [some (.ref 6), none, some (gi l2)] [])  {l2 : Int} {s : gS} (h : Text_behindDigits_2 k2 l2 s = some (z0, s0)) : G M_Text_behindDigits (QE g_S J z0 s0) (g_S, 0, 0) (J s) 2 [some (.ref 6), none, some (gi l2)] [] := by
  unfold Text_behindDigits_2 at h
  refine G_iload_n (g_da dt_Text_behindDigits 2 rfl) rfl rfl ?_
  refine G_aload_n (g_da dt_Text_behindDigits 3 rfl) rfl rfl ?_
  refine H_getI (g_da dt_Text_behindDigits 4 rfl) sh_6 fl_8_21 rfl (hJc 6 rfl) ?_
  refine G_icmp_ge (g_da dt_Text_behindDigits 5 rfl) rfl rfl rfl (fun hc1 => ?_) (fun hc1 => ?_)
  · have h := o_t hc1 h
    refine G_iload_n (g_da dt_Text_behindDigits 13 rfl) rfl rfl ?_
    exact G_ireturn (g_da dt_Text_behindDigits 14 rfl) rfl rfl rfl (g_nz rfl) (q_e h)
  · have h := o_f hc1 h
    refine G_aload_n (g_da dt_Text_behindDigits 6 rfl) rfl rfl ?_
    refine G_iload_n (g_da dt_Text_behindDigits 7 rfl) rfl rfl ?_
    obtain ⟨r2, s3, hc4, h⟩ := o_b h
    refine H_cVE (Text_sign_ok hJc hc4) (g_da dt_Text_behindDigits 8 rfl) lk_8_49 mv_Text_sign rfl sh_6 rfl rfl rfl rfl rfl rfl ?_
    obtain ⟨r5, s6, hc7, h⟩ := o_b h
    refine H_cSE (B_isDigit_ok hc7) (g_da dt_Text_behindDigits 9 rfl) lk_8_33 ms_B_isDigit rfl rfl rfl rfl rfl rfl ?_
    refine G_if_eq (g_da dt_Text_behindDigits 10 rfl) rfl rfl  (fun hc8 => ?_) (fun hc8 => ?_)
    · have h := o_t hc8 h
      refine G_iload_n (g_da dt_Text_behindDigits 13 rfl) rfl rfl ?_
      exact G_ireturn (g_da dt_Text_behindDigits 14 rfl) rfl rfl rfl (g_nz rfl) (q_e h)
    · have h := o_f hc8 h
      refine G_iinc (lv' := [_, none, _]) (g_da dt_Text_behindDigits 11 rfl) rfl (Nat.le_of_ble_eq_true rfl) rfl rfl ?_
      refine G_goto (g_da dt_Text_behindDigits 12 rfl) rfl ?_
      exact G_subK (hk2 _ _ h) ⟨rfl, ⟨rfl, trivial⟩⟩
set_option maxHeartbeats 4000000 in
set_option maxRecDepth 100000 in
theorem Text_behindDigits_2L_ok {J : gS → gS} (hJc : g_jc J) {z0 : Int} {s0 : gS} : ∀ (n : Nat) {l2 : Int} {s : gS}, Text_behindDigits_2L n l2 s = some (z0, s0) → G M_Text_behindDigits (QE g_S J z0 s0) (g_S, 0, 0) (J s) 2 [some (.ref 6), none, some (gi l2)] [] := by
  intro n
  induction n with
  | zero => intro _ _ h; cases h
  | succ n ih => intro _ _ h; exact Text_behindDigits_2_ok hJc (fun _ _ h => ih h) h
set_option maxHeartbeats 4000000 in
set_option maxRecDepth 100000 in
theorem Text_behindDigits_ok {J : gS → gS} (hJc : g_jc J) {z0 : Int} {s0 : gS} {a1 : Int} {s : gS} (h : Text_behindDigits a1 s = some (z0, s0)) : Ct M_Text_behindDigits g_S [.ref 6, gi a1] (J s) (QE g_S J z0 s0) := by
  refine Ct_of [some (.ref 6), some (gi a1), none] (plainFor_of_name (by decide)) rfl (Nat.le_of_ble_eq_true rfl) rfl (by decide) q_rE ?_
  unfold Text_behindDigits at h
  refine G_iload_n (g_da dt_Text_behindDigits 0 rfl) rfl rfl ?_
  refine G_istore_n (lv' := [_, _, _]) (g_da dt_Text_behindDigits 1 rfl) rfl (Nat.le_of_ble_eq_true rfl) rfl rfl ?_
  exact G_subK (Text_behindDigits_2L_ok hJc gFu h) ⟨rfl, ⟨rfl, trivial⟩⟩
set_option maxHeartbeats 4000000 in
set_option maxRecDepth 100000 in
theorem Text_behind_ok {J : gS → gS} (hJc : g_jc J) {z0 : Int} {s0 : gS} {a1 : Int} {s : gS} (h : Text_behind a1 s = some (z0, s0)) : Ct M_Text_behind g_S [.ref 6, gi a1] (J s) (QE g_S J z0 s0) := by
  refine Ct_of [some (.ref 6), some (gi a1), none] (plainFor_of_name (by decide)) rfl (Nat.le_of_ble_eq_true rfl) rfl (by decide) q_rE ?_
  unfold Text_behind at h
  refine G_aload_n (g_da dt_Text_behind 0 rfl) rfl rfl ?_
  refine G_iload_n (g_da dt_Text_behind 1 rfl) rfl rfl ?_
  obtain ⟨r1, s2, hc3, h⟩ := o_b h
  refine H_cVE (Text_sign_ok hJc hc3) (g_da dt_Text_behind 2 rfl) lk_8_49 mv_Text_sign rfl sh_6 rfl rfl rfl rfl rfl rfl ?_
  refine G_istore_n (lv' := [_, _, _]) (g_da dt_Text_behind 3 rfl) rfl (Nat.le_of_ble_eq_true rfl) rfl rfl ?_
  refine G_iload_n (g_da dt_Text_behind 4 rfl) rfl rfl ?_
  refine G_bipush (g_da dt_Text_behind 5 rfl) b8w_123 ?_
  refine G_icmp_ne (g_da dt_Text_behind 6 rfl) rfl rfl w_123 (fun hc4 => ?_) (fun hc4 => ?_)
  · have h := o_f hc4 h
    refine G_iload_n (g_da dt_Text_behind 13 rfl) rfl rfl ?_
    refine G_bipush (g_da dt_Text_behind 14 rfl) b8w_58 ?_
    refine G_icmp_ne (g_da dt_Text_behind 15 rfl) rfl rfl w_58 (fun hc5 => ?_) (fun hc5 => ?_)
    · have h := o_f hc5 h
      refine G_iload_n (g_da dt_Text_behind 20 rfl) rfl rfl ?_
      obtain ⟨r6, s7, hc8, h⟩ := o_b h
      refine H_cSE (B_isDigit_ok hc8) (g_da dt_Text_behind 21 rfl) lk_8_33 ms_B_isDigit rfl rfl rfl rfl rfl rfl ?_
      refine G_if_eq (g_da dt_Text_behind 22 rfl) rfl rfl  (fun hc9 => ?_) (fun hc9 => ?_)
      · have h := o_t hc9 h
        refine G_iload_n (g_da dt_Text_behind 27 rfl) rfl rfl ?_
        refine G_iconst (g_da dt_Text_behind 28 rfl) ?_
        refine G_iadd (g_da dt_Text_behind 29 rfl) ?_
        exact G_ireturn (g_da dt_Text_behind 30 rfl) rfl rfl rfl (g_nz rfl) (q_e h)
      · have h := o_f hc9 h
        refine G_aload_n (g_da dt_Text_behind 23 rfl) rfl rfl ?_
        refine G_iload_n (g_da dt_Text_behind 24 rfl) rfl rfl ?_
        obtain ⟨r10, s11, hc12, h⟩ := o_b h
        refine H_cVE (Text_behindDigits_ok hJc hc12) (g_da dt_Text_behind 25 rfl) lk_8_56 mv_Text_behindDigits rfl sh_6 rfl rfl rfl rfl rfl rfl ?_
        refine G_goto (g_da dt_Text_behind 26 rfl) rfl ?_
        exact G_ireturn (g_da dt_Text_behind 30 rfl) rfl rfl rfl (g_nz rfl) (q_e h)
    · have h := o_t hc5 h
      refine G_iload_n (g_da dt_Text_behind 16 rfl) rfl rfl ?_
      refine G_iconst (g_da dt_Text_behind 17 rfl) ?_
      refine G_iadd (g_da dt_Text_behind 18 rfl) ?_
      exact G_ireturn (g_da dt_Text_behind 19 rfl) rfl rfl rfl (g_nz rfl) (q_e h)
  · have h := o_t hc4 h
    refine G_aload_n (g_da dt_Text_behind 7 rfl) rfl rfl ?_
    refine G_iload_n (g_da dt_Text_behind 8 rfl) rfl rfl ?_
    obtain ⟨r13, s14, hc15, h⟩ := o_b h
    refine H_cVE (Text_closing_ok hJc hc15) (g_da dt_Text_behind 9 rfl) lk_8_53 mv_Text_closing rfl sh_6 rfl rfl rfl rfl rfl rfl ?_
    refine G_iconst (g_da dt_Text_behind 10 rfl) ?_
    refine G_iadd (g_da dt_Text_behind 11 rfl) ?_
    exact G_ireturn (g_da dt_Text_behind 12 rfl) rfl rfl rfl (g_nz rfl) (q_e h)
set_option maxHeartbeats 4000000 in
set_option maxRecDepth 100000 in
theorem Calls_goTo_ok {J : gS → gS} (hJc : g_jc J) {z0 : Int} {s0 : gS} {a1 : Int} {s : gS} (h : Calls_goTo a1 s = some (z0, s0)) : Ct M_Calls_goTo g_S [.ref 10, gi a1] (J s) (QG g_S J z0 s0) := by
  refine Ct_of [some (.ref 10), some (gi a1)] (plainFor_of_name (by decide)) rfl (Nat.le_of_ble_eq_true rfl) rfl (by decide) q_rG ?_
  unfold Calls_goTo at h
  refine G_aload_n (g_da dt_Calls_goTo 0 rfl) rfl rfl ?_
  refine H_getI (g_da dt_Calls_goTo 1 rfl) sh_10 fl_7_24 rfl (hJc 10 rfl) ?_
  refine G_if_lt (g_da dt_Calls_goTo 2 rfl) rfl rfl  (fun hc1 => ?_) (fun hc1 => ?_)
  · have h := o_t hc1 h
    exact G_return (g_da dt_Calls_goTo 9 rfl) rfl rfl (g_nz rfl) (q_g h)
  · have h := o_f hc1 h
    refine G_aload_n (g_da dt_Calls_goTo 3 rfl) rfl rfl ?_
    refine G_getR (g_da dt_Calls_goTo 4 rfl) sh_10 fl_7_9 rfl ?_
    refine G_aload_n (g_da dt_Calls_goTo 5 rfl) rfl rfl ?_
    refine H_getI (g_da dt_Calls_goTo 6 rfl) sh_10 fl_7_24 rfl (hJc 10 rfl) ?_
    refine G_iload_n (g_da dt_Calls_goTo 7 rfl) rfl rfl ?_
    obtain ⟨hb2, h⟩ := o_g h
    refine H_iastore (g_da dt_Calls_goTo 8 rfl) sh_11 (hJc 11 rfl) rfl hb2 rfl (fun s3 e4 => ?_)
    have h := o_l h s3 e4
    exact G_return (g_da dt_Calls_goTo 9 rfl) rfl rfl (g_nz rfl) (q_g h)
set_option maxHeartbeats 4000000 in
set_option maxRecDepth 100000 in
theorem Text_number_11_ok {J : gS → gS} (hJc : g_jc J) {z0 : Int} {s0 : gS} {k11 : Int → Int → Int → gS → gA} (hk11 : ∀ (l2 l3 l4 : Int) (s : gS), k11 l2 l3 l4 s = some (z0, s0) → G M_Text_number (QE g_S J z0 s0) (g_S, 0, 0) (J s) 11 [some (.ref 6), none, some (gi l2), some (gi l3), some (gi l4)] [])  {l2 l3 l4 : Int} {s : gS} (h : Text_number_11 k11 l2 l3 l4 s = some (z0, s0)) : G M_Text_number (QE g_S J z0 s0) (g_S, 0, 0) (J s) 11 [some (.ref 6), none, some (gi l2), some (gi l3), some (gi l4)] [] := by
  unfold Text_number_11 at h
  refine G_iload (g_da dt_Text_number 8 rfl) rfl ?_
  refine G_iload_n (g_da dt_Text_number 9 rfl) rfl rfl ?_
  refine G_icmp_ge (g_da dt_Text_number 10 rfl) rfl rfl rfl (fun hc4 => ?_) (fun hc4 => ?_)
  · have h := o_t hc4 h
    refine G_iload_n (g_da dt_Text_number 23 rfl) rfl rfl ?_
    exact G_ireturn (g_da dt_Text_number 24 rfl) rfl rfl rfl (g_nz rfl) (q_e h)
  · have h := o_f hc4 h
    refine G_bipush (g_da dt_Text_number 11 rfl) b8w_10 ?_
    refine G_iload_n (g_da dt_Text_number 12 rfl) rfl rfl ?_
    refine G_imul (g_da dt_Text_number 13 rfl) ?_
    refine G_aload_n (g_da dt_Text_number 14 rfl) rfl rfl ?_
    refine G_iload (g_da dt_Text_number 15 rfl) rfl ?_
    obtain ⟨r5, s6, hc7, h⟩ := o_b h
    refine H_cVE (Text_sign_ok hJc hc7) (g_da dt_Text_number 16 rfl) lk_8_49 mv_Text_sign rfl sh_6 rfl rfl rfl rfl rfl rfl ?_
    refine G_iadd (g_da dt_Text_number 17 rfl) ?_
    refine G_bipush (g_da dt_Text_number 18 rfl) b8w_48 ?_
    refine G_isub (g_da dt_Text_number 19 rfl) ?_
    refine H_topi (fun v8 e9 => ?_)
    have h := o_l h v8 e9
    refine G_istore_n (lv' := [_, none, _, _, _]) (g_da dt_Text_number 20 rfl) rfl (Nat.le_of_ble_eq_true rfl) rfl rfl ?_
    refine G_iinc (lv' := [_, none, _, _, _]) (g_da dt_Text_number 21 rfl) rfl (Nat.le_of_ble_eq_true rfl) rfl rfl ?_
    refine G_goto (g_da dt_Text_number 22 rfl) rfl ?_
    exact G_subK (hk11 _ _ _ _ h) ⟨rfl, ⟨rfl, ⟨rfl, ⟨rfl, trivial⟩⟩⟩⟩
set_option maxHeartbeats 4000000 in
set_option maxRecDepth 100000 in
theorem Text_number_11L_ok {J : gS → gS} (hJc : g_jc J) {z0 : Int} {s0 : gS} : ∀ (n : Nat) {l2 l3 l4 : Int} {s : gS}, Text_number_11L n l2 l3 l4 s = some (z0, s0) → G M_Text_number (QE g_S J z0 s0) (g_S, 0, 0) (J s) 11 [some (.ref 6), none, some (gi l2), some (gi l3), some (gi l4)] [] := by
  intro n
  induction n with
  | zero => intro _ _ _ _ h; cases h
  | succ n ih => intro _ _ _ _ h; exact Text_number_11_ok hJc (fun _ _ _ _ h => ih h) h
set_option maxHeartbeats 4000000 in
set_option maxRecDepth 100000 in
theorem Text_number_ok {J : gS → gS} (hJc : g_jc J) {z0 : Int} {s0 : gS} {a1 : Int} {s : gS} (h : Text_number a1 s = some (z0, s0)) : Ct M_Text_number g_S [.ref 6, gi a1] (J s) (QE g_S J z0 s0) := by
  refine Ct_of [some (.ref 6), some (gi a1), none, none, none] (plainFor_of_name (by decide)) rfl (Nat.le_of_ble_eq_true rfl) rfl (by decide) q_rE ?_
  unfold Text_number at h
  refine G_aload_n (g_da dt_Text_number 0 rfl) rfl rfl ?_
  refine G_iload_n (g_da dt_Text_number 1 rfl) rfl rfl ?_
  obtain ⟨r1, s2, hc3, h⟩ := o_b h
  refine H_cVE (Text_behindDigits_ok hJc hc3) (g_da dt_Text_number 2 rfl) lk_8_56 mv_Text_behindDigits rfl sh_6 rfl rfl rfl rfl rfl rfl ?_
  refine G_istore_n (lv' := [_, _, _, none, none]) (g_da dt_Text_number 3 rfl) rfl (Nat.le_of_ble_eq_true rfl) rfl rfl ?_
  refine G_iconst (g_da dt_Text_number 4 rfl) ?_
  refine G_istore_n (lv' := [_, _, _, _, none]) (g_da dt_Text_number 5 rfl) rfl (Nat.le_of_ble_eq_true rfl) rfl rfl ?_
  refine G_iload_n (g_da dt_Text_number 6 rfl) rfl rfl ?_
  refine G_istore (lv' := [_, _, _, _, _]) (g_da dt_Text_number 7 rfl) (Nat.le_of_ble_eq_true rfl) rfl rfl ?_
  exact G_subK (Text_number_11L_ok hJc gFu h) ⟨rfl, ⟨rfl, ⟨rfl, ⟨rfl, trivial⟩⟩⟩⟩
set_option maxHeartbeats 4000000 in
set_option maxRecDepth 100000 in
theorem Values_push_ok {J : gS → gS} (hJc : g_jc J) {z0 : Int} {s0 : gS} {a1 : Int} {s : gS} (h : Values_push a1 s = some (z0, s0)) : Ct M_Values_push g_S [.ref 18, gi a1] (J s) (QG g_S J z0 s0) := by
  refine Ct_of [some (.ref 18), some (gi a1)] (plainFor_of_name (by decide)) rfl (Nat.le_of_ble_eq_true rfl) rfl (by decide) q_rG ?_
  unfold Values_push at h
  refine G_aload_n (g_da dt_Values_push 0 rfl) rfl rfl ?_
  refine H_getI (g_da dt_Values_push 1 rfl) sh_18 fl_9_15 rfl (hJc 18 rfl) ?_
  refine G_bipush (g_da dt_Values_push 2 rfl) b8w_32 ?_
  refine G_icmp_ge (g_da dt_Values_push 3 rfl) rfl rfl w_32 (fun hc1 => ?_) (fun hc1 => ?_)
  · have h := o_t hc1 h
    exact G_return (g_da dt_Values_push 16 rfl) rfl rfl (g_nz rfl) (q_g h)
  · have h := o_f hc1 h
    refine G_aload_n (g_da dt_Values_push 4 rfl) rfl rfl ?_
    refine G_getR (g_da dt_Values_push 5 rfl) sh_18 fl_9_9 rfl ?_
    refine G_aload_n (g_da dt_Values_push 6 rfl) rfl rfl ?_
    refine H_getI (g_da dt_Values_push 7 rfl) sh_18 fl_9_15 rfl (hJc 18 rfl) ?_
    refine G_iload_n (g_da dt_Values_push 8 rfl) rfl rfl ?_
    obtain ⟨hb2, h⟩ := o_g h
    refine H_iastore (g_da dt_Values_push 9 rfl) sh_19 (hJc 19 rfl) rfl hb2 rfl (fun s3 e4 => ?_)
    have h := o_l h s3 e4
    refine G_aload_n (g_da dt_Values_push 10 rfl) rfl rfl ?_
    refine G_dup (g_da dt_Values_push 11 rfl) rfl ?_
    refine H_getI (g_da dt_Values_push 12 rfl) sh_18 fl_9_15 rfl (hJc 18 rfl) ?_
    refine G_iconst (g_da dt_Values_push 13 rfl) ?_
    refine G_iadd (g_da dt_Values_push 14 rfl) ?_
    refine H_putI (g_da dt_Values_push 15 rfl) sh_18 fp_9_15 rfl (hJc 18 rfl) (fun s5 e6 => ?_)
    have h := o_l h s5 e6
    exact G_return (g_da dt_Values_push 16 rfl) rfl rfl (g_nz rfl) (q_g h)
set_option maxHeartbeats 4000000 in
set_option maxRecDepth 100000 in
theorem Values_drop_ok {J : gS → gS} (hJc : g_jc J) {z0 : Int} {s0 : gS} {a1 : Int} {s : gS} (h : Values_drop a1 s = some (z0, s0)) : Ct M_Values_drop g_S [.ref 18, gi a1] (J s) (QG g_S J z0 s0) := by
  refine Ct_of [some (.ref 18), some (gi a1)] (plainFor_of_name (by decide)) rfl (Nat.le_of_ble_eq_true rfl) rfl (by decide) q_rG ?_
  unfold Values_drop at h
  refine G_aload_n (g_da dt_Values_drop 0 rfl) rfl rfl ?_
  refine G_iconst (g_da dt_Values_drop 1 rfl) ?_
  refine G_aload_n (g_da dt_Values_drop 2 rfl) rfl rfl ?_
  refine H_getI (g_da dt_Values_drop 3 rfl) sh_18 fl_9_15 rfl (hJc 18 rfl) ?_
  refine G_iload_n (g_da dt_Values_drop 4 rfl) rfl rfl ?_
  refine G_isub (g_da dt_Values_drop 5 rfl) ?_
  obtain ⟨r1, s2, hc3, h⟩ := o_b h
  refine H_cSE (Math_max_ok hc3) (g_da dt_Values_drop 6 rfl) lk_9_24 ms_Math_max rfl rfl rfl rfl rfl rfl ?_
  refine H_putI (g_da dt_Values_drop 7 rfl) sh_18 fp_9_15 rfl (hJc 18 rfl) (fun s4 e5 => ?_)
  have h := o_l h s4 e5
  exact G_return (g_da dt_Values_drop 8 rfl) rfl rfl (g_nz rfl) (q_g h)
set_option maxHeartbeats 4000000 in
set_option maxRecDepth 100000 in
theorem Job_assign_24_ok {J : gS → gS} (hJc : g_jc J) {z0 : Int} {s0 : gS}  {s : gS} (h : Job_assign_24 s = some (z0, s0)) : G M_Job_assign (QG g_S J z0 s0) (g_S, 0, 0) (J s) 24 [some (.ref 5), none] [] := by
  unfold Job_assign_24 at h
  refine G_aload_n (g_da dt_Job_assign 13 rfl) rfl rfl ?_
  refine G_getR (g_da dt_Job_assign 14 rfl) sh_5 fl_6_35 rfl ?_
  refine G_iconst (g_da dt_Job_assign 15 rfl) ?_
  obtain ⟨r5, s6, hc7, h⟩ := o_b h
  refine H_cVG (Values_drop_ok hJc hc7) (g_da dt_Job_assign 16 rfl) lk_6_75 mv_Values_drop rfl sh_18 rfl rfl rfl rfl rfl rfl ?_
  exact G_return (g_da dt_Job_assign 17 rfl) rfl rfl (g_nz rfl) (q_g h)
set_option maxHeartbeats 4000000 in
set_option maxRecDepth 100000 in
theorem Job_assign_ok {J : gS → gS} (hJc : g_jc J) {z0 : Int} {s0 : gS} {a1 : Int} {s : gS} (h : Job_assign a1 s = some (z0, s0)) : Ct M_Job_assign g_S [.ref 5, gi a1] (J s) (QG g_S J z0 s0) := by
  refine Ct_of [some (.ref 5), some (gi a1)] (plainFor_of_name (by decide)) rfl (Nat.le_of_ble_eq_true rfl) rfl (by decide) q_rG ?_
  unfold Job_assign at h
  refine G_iload_n (g_da dt_Job_assign 0 rfl) rfl rfl ?_
  obtain ⟨r1, s2, hc3, h⟩ := o_b h
  refine H_cSE (B_isLetter_ok hc3) (g_da dt_Job_assign 1 rfl) lk_6_208 ms_B_isLetter rfl rfl rfl rfl rfl rfl ?_
  refine G_if_eq (g_da dt_Job_assign 2 rfl) rfl rfl  (fun hc4 => ?_) (fun hc4 => ?_)
  · have h := o_t hc4 h
    exact G_subK (Job_assign_24_ok hJc h) ⟨rfl, trivial⟩
  · have h := o_f hc4 h
    refine G_aload_n (g_da dt_Job_assign 3 rfl) rfl rfl ?_
    refine G_getR (g_da dt_Job_assign 4 rfl) sh_5 fl_6_39 rfl ?_
    refine G_iload_n (g_da dt_Job_assign 5 rfl) rfl rfl ?_
    refine G_bipush (g_da dt_Job_assign 6 rfl) b8w_97 ?_
    refine G_isub (g_da dt_Job_assign 7 rfl) ?_
    refine G_aload_n (g_da dt_Job_assign 8 rfl) rfl rfl ?_
    refine G_getR (g_da dt_Job_assign 9 rfl) sh_5 fl_6_35 rfl ?_
    refine G_iconst (g_da dt_Job_assign 10 rfl) ?_
    obtain ⟨r8, s9, hc10, h⟩ := o_b h
    refine H_cVE (Values_peek_ok hJc hc10) (g_da dt_Job_assign 11 rfl) lk_6_149 mv_Values_peek rfl sh_18 rfl rfl rfl rfl rfl rfl ?_
    obtain ⟨hb11, h⟩ := o_g h
    refine H_iastore (g_da dt_Job_assign 12 rfl) sh_20 (hJc 20 rfl) rfl hb11 rfl (fun s12 e13 => ?_)
    have h := o_l h s12 e13
    exact G_subK (Job_assign_24_ok hJc h) ⟨rfl, trivial⟩
set_option maxHeartbeats 4000000 in
set_option maxRecDepth 100000 in
theorem String_isLatin1_ok {J : gS → gS} {z0 : Int} {s0 : gS} {s : gS} (h : String_isLatin1 s = some (z0, s0)) : Ct M_String_isLatin1 g_S [.ref 1000] (J s) (QE g_S J z0 s0) := by
  refine Ct_of [some (.ref 1000)] (plainFor_of_name (by decide)) rfl (Nat.le_of_ble_eq_true rfl) rfl (by decide) q_rE ?_
  unfold String_isLatin1 at h
  refine G_compact (g_da dt_String_isLatin1 0 rfl) fw_13_38 ?_
  refine G_if_eq (g_da dt_String_isLatin1 1 rfl) rfl w_1  (fun hc => absurd hc (by decide)) (fun _ => ?_)
  refine G_aload_n (g_da dt_String_isLatin1 2 rfl) rfl rfl ?_
  refine G_getSC (i := 0) (g_da dt_String_isLatin1 3 rfl) (by decide) fw_13_15 ?_
  refine G_if_ne (g_da dt_String_isLatin1 4 rfl) rfl w_0  (fun hc => absurd rfl hc) (fun _ => ?_)
  refine G_iconst (g_da dt_String_isLatin1 5 rfl) ?_
  refine G_goto (g_da dt_String_isLatin1 6 rfl) rfl ?_
  exact G_ireturn (g_da dt_String_isLatin1 8 rfl) rfl (g_bool (Or.inr w_1)).1 rfl (g_nz rfl) (q_e h)
set_option maxHeartbeats 4000000 in
set_option maxRecDepth 100000 in
theorem String_coder_ok {J : gS → gS} {z0 : Int} {s0 : gS} {s : gS} (h : String_coder s = some (z0, s0)) : Ct M_String_coder g_S [.ref 1000] (J s) (QE g_S J z0 s0) := by
  refine Ct_of [some (.ref 1000)] (plainFor_of_name (by decide)) rfl (Nat.le_of_ble_eq_true rfl) rfl (by decide) q_rE ?_
  unfold String_coder at h
  refine G_compact (g_da dt_String_coder 0 rfl) fw_13_38 ?_
  refine G_if_eq (g_da dt_String_coder 1 rfl) rfl w_1  (fun hc => absurd hc (by decide)) (fun _ => ?_)
  refine G_aload_n (g_da dt_String_coder 2 rfl) rfl rfl ?_
  refine G_getSC (i := 0) (g_da dt_String_coder 3 rfl) (by decide) fw_13_15 ?_
  refine G_goto (g_da dt_String_coder 4 rfl) rfl ?_
  exact G_ireturn (g_da dt_String_coder 6 rfl) rfl (by decide) rfl (g_nz rfl) (q_e h)
set_option maxHeartbeats 4000000 in
set_option maxRecDepth 100000 in
theorem String_length_ok {J : gS → gS} {z0 : Int} {s0 : gS} {s : gS} (h : String_length s = some (z0, s0)) : Ct M_String_length g_S [.ref 1000] (J s) (QE g_S J z0 s0) := by
  refine Ct_of [some (.ref 1000)] (plainFor_of_name (by decide)) rfl (Nat.le_of_ble_eq_true rfl) rfl (by decide) q_rE ?_
  unfold String_length at h
  refine G_aload_n (g_da dt_String_length 0 rfl) rfl rfl ?_
  refine G_getSV (i := 0) (g_da dt_String_length 1 rfl) (by decide) fw_13_9 ?_
  refine G_blen (i := 0) (z := 3) (g_da dt_String_length 2 rfl) (by decide) rfl ?_
  refine G_aload_n (g_da dt_String_length 3 rfl) rfl rfl ?_
  refine H_cKE (b := 0) (String_coder_ok (z0 := 0) (s0 := s) rfl) (g_da dt_String_length 4 rfl) lk_13_335 mv_String_coder rfl (by decide) rfl rfl rfl rfl rfl rfl ?_
  refine G_ishr (g_da dt_String_length 5 rfl) ?_
  exact G_ireturn (g_da dt_String_length 6 rfl) rfl rfl rfl (g_nz rfl) (q_e h)
set_option maxHeartbeats 4000000 in
set_option maxRecDepth 100000 in
theorem StringLatin1_canEncode_ok {J : gS → gS} {z0 : Int} {s0 : gS} {a0 : Int} {s : gS} (h : StringLatin1_canEncode a0 s = some (z0, s0)) : Ct M_StringLatin1_canEncode g_S [gi a0] (J s) (QE g_S J z0 s0) := by
  refine Ct_of [some (gi a0)] (plainFor_of_name (by decide)) rfl (Nat.le_of_ble_eq_true rfl) rfl (by decide) q_rE ?_
  unfold StringLatin1_canEncode at h
  refine G_iload_n (g_da dt_StringLatin1_canEncode 0 rfl) rfl rfl ?_
  refine G_if_lt (g_da dt_StringLatin1_canEncode 1 rfl) rfl rfl  (fun hc1 => ?_) (fun hc1 => ?_)
  · have h := o_t hc1 h
    refine G_iconst (g_da dt_StringLatin1_canEncode 7 rfl) ?_
    exact G_ireturn (g_da dt_StringLatin1_canEncode 8 rfl) rfl (g_bool (Or.inl w_0)).1 rfl (g_nz rfl) (q_e h)
  · have h := o_f hc1 h
    refine G_iload_n (g_da dt_StringLatin1_canEncode 2 rfl) rfl rfl ?_
    refine G_sipush (g_da dt_StringLatin1_canEncode 3 rfl) s16w_255 ?_
    refine G_icmp_gt (g_da dt_StringLatin1_canEncode 4 rfl) rfl rfl w_255 (fun hc2 => ?_) (fun hc2 => ?_)
    · have h := o_t hc2 h
      refine G_iconst (g_da dt_StringLatin1_canEncode 7 rfl) ?_
      exact G_ireturn (g_da dt_StringLatin1_canEncode 8 rfl) rfl (g_bool (Or.inl w_0)).1 rfl (g_nz rfl) (q_e h)
    · have h := o_f hc2 h
      refine G_iconst (g_da dt_StringLatin1_canEncode 5 rfl) ?_
      refine G_goto (g_da dt_StringLatin1_canEncode 6 rfl) rfl ?_
      exact G_ireturn (g_da dt_StringLatin1_canEncode 8 rfl) rfl (g_bool (Or.inr w_1)).1 rfl (g_nz rfl) (q_e h)
set_option maxHeartbeats 4000000 in
set_option maxRecDepth 100000 in
theorem Math_min1_ok {J : gS → gS} {z0 : Int} {s0 : gS} {a0 a1 : Int} {s : gS} (h : Math_min1 a0 a1 s = some (z0, s0)) : Ct M_Math_min1 g_S [gi a0, gi a1] (J s) (QE g_S J z0 s0) := by
  refine Ct_of [some (gi a0), some (gi a1)] (by decide +kernel) rfl (Nat.le_of_ble_eq_true rfl) rfl (by decide) q_rE ?_
  unfold Math_min1 at h
  refine G_iload_n (g_da dt_Math_min1 0 rfl) rfl rfl ?_
  refine G_iload_n (g_da dt_Math_min1 1 rfl) rfl rfl ?_
  refine G_icmp_gt (g_da dt_Math_min1 2 rfl) rfl rfl rfl (fun hc1 => ?_) (fun hc1 => ?_)
  · have h := o_t hc1 h
    refine G_iload_n (g_da dt_Math_min1 5 rfl) rfl rfl ?_
    exact G_ireturn (g_da dt_Math_min1 6 rfl) rfl rfl rfl (g_nz rfl) (q_e h)
  · have h := o_f hc1 h
    refine G_iload_n (g_da dt_Math_min1 3 rfl) rfl rfl ?_
    refine G_goto (g_da dt_Math_min1 4 rfl) rfl ?_
    exact G_ireturn (g_da dt_Math_min1 6 rfl) rfl rfl rfl (g_nz rfl) (q_e h)
set_option maxHeartbeats 4000000 in
set_option maxRecDepth 100000 in
theorem StringLatin1_indexOfChar_7_ok {J : gS → gS} {z0 : Int} {s0 : gS} {k7 : Int → Int → Int → gS → gA} (hk7 : ∀ (l3 l4 l5 : Int) (s : gS), k7 l3 l4 l5 s = some (z0, s0) → G M_StringLatin1_indexOfChar (QE g_S J z0 s0) (g_S, 0, 0) (J s) 7 [some (.ref 2000), none, none, some (gi l3), some (gi l4), some (gi l5)] [])  {l3 l4 l5 : Int} {s : gS} (h : StringLatin1_indexOfChar_7 k7 l3 l4 l5 s = some (z0, s0)) : G M_StringLatin1_indexOfChar (QE g_S J z0 s0) (g_S, 0, 0) (J s) 7 [some (.ref 2000), none, none, some (gi l3), some (gi l4), some (gi l5)] [] := by
  unfold StringLatin1_indexOfChar_7 at h
  refine G_iload (g_da dt_StringLatin1_indexOfChar 5 rfl) rfl ?_
  refine G_iload_n (g_da dt_StringLatin1_indexOfChar 6 rfl) rfl rfl ?_
  refine G_icmp_ge (g_da dt_StringLatin1_indexOfChar 7 rfl) rfl rfl rfl (fun hc3 => ?_) (fun hc3 => ?_)
  · have h := o_t hc3 h
    refine G_iconst (g_da dt_StringLatin1_indexOfChar 17 rfl) ?_
    exact G_ireturn (g_da dt_StringLatin1_indexOfChar 18 rfl) rfl rfl rfl (g_nz rfl) (q_e h)
  · have h := o_f hc3 h
    refine G_aload_n (g_da dt_StringLatin1_indexOfChar 8 rfl) rfl rfl ?_
    refine G_iload (g_da dt_StringLatin1_indexOfChar 9 rfl) rfl ?_
    obtain ⟨hb4, h⟩ := o_g h
    refine G_bald (i := 0) (g_da dt_StringLatin1_indexOfChar 10 rfl) (by decide) rfl hb4 ?_
    refine G_iload (g_da dt_StringLatin1_indexOfChar 11 rfl) rfl ?_
    refine G_icmp_ne (g_da dt_StringLatin1_indexOfChar 12 rfl) rfl rfl rfl (fun hc5 => ?_) (fun hc5 => ?_)
    · have h := o_f hc5 h
      refine G_iinc (lv' := [_, none, none, _, _, _]) (g_da dt_StringLatin1_indexOfChar 15 rfl) rfl (Nat.le_of_ble_eq_true rfl) rfl rfl ?_
      refine G_goto (g_da dt_StringLatin1_indexOfChar 16 rfl) rfl ?_
      exact G_subK (hk7 _ _ _ _ h) ⟨rfl, ⟨rfl, ⟨rfl, ⟨rfl, trivial⟩⟩⟩⟩
    · have h := o_t hc5 h
      refine G_iload (g_da dt_StringLatin1_indexOfChar 13 rfl) rfl ?_
      exact G_ireturn (g_da dt_StringLatin1_indexOfChar 14 rfl) rfl rfl rfl (g_nz rfl) (q_e h)
set_option maxHeartbeats 4000000 in
set_option maxRecDepth 100000 in
theorem StringLatin1_indexOfChar_7L_ok {J : gS → gS} {z0 : Int} {s0 : gS} : ∀ (n : Nat) {l3 l4 l5 : Int} {s : gS}, StringLatin1_indexOfChar_7L n l3 l4 l5 s = some (z0, s0) → G M_StringLatin1_indexOfChar (QE g_S J z0 s0) (g_S, 0, 0) (J s) 7 [some (.ref 2000), none, none, some (gi l3), some (gi l4), some (gi l5)] [] := by
  intro n
  induction n with
  | zero => intro _ _ _ _ h; cases h
  | succ n ih => intro _ _ _ _ h; exact StringLatin1_indexOfChar_7_ok (fun _ _ _ _ h => ih h) h
set_option maxHeartbeats 4000000 in
set_option maxRecDepth 100000 in
theorem StringLatin1_indexOfChar_ok {J : gS → gS} {z0 : Int} {s0 : gS} {a1 a2 a3 : Int} {s : gS} (h : StringLatin1_indexOfChar a1 a2 a3 s = some (z0, s0)) : Ct M_StringLatin1_indexOfChar g_S [.ref 2000, gi a1, gi a2, gi a3] (J s) (QE g_S J z0 s0) := by
  refine Ct_of [some (.ref 2000), some (gi a1), some (gi a2), some (gi a3), none, none] (plainFor_of_name (by decide)) rfl (Nat.le_of_ble_eq_true rfl) rfl (by decide) q_rE ?_
  unfold StringLatin1_indexOfChar at h
  refine G_iload_n (g_da dt_StringLatin1_indexOfChar 0 rfl) rfl rfl ?_
  refine G_i2b (g_da dt_StringLatin1_indexOfChar 1 rfl) ?_
  refine H_topi (fun v1 e2 => ?_)
  have h := o_l h v1 e2
  refine G_istore (lv' := [_, _, _, _, _, none]) (g_da dt_StringLatin1_indexOfChar 2 rfl) (Nat.le_of_ble_eq_true rfl) rfl rfl ?_
  refine G_iload_n (g_da dt_StringLatin1_indexOfChar 3 rfl) rfl rfl ?_
  refine G_istore (lv' := [_, _, _, _, _, _]) (g_da dt_StringLatin1_indexOfChar 4 rfl) (Nat.le_of_ble_eq_true rfl) rfl rfl ?_
  exact G_subK (StringLatin1_indexOfChar_7L_ok gFu h) ⟨rfl, ⟨rfl, ⟨rfl, ⟨rfl, trivial⟩⟩⟩⟩
set_option maxHeartbeats 4000000 in
set_option maxRecDepth 100000 in
theorem StringLatin1_indexOf_ok {J : gS → gS} {z0 : Int} {s0 : gS} {a1 a2 a3 : Int} {s : gS} (h : StringLatin1_indexOf a1 a2 a3 s = some (z0, s0)) : Ct M_StringLatin1_indexOf g_S [.ref 2000, gi a1, gi a2, gi a3] (J s) (QE g_S J z0 s0) := by
  refine Ct_of [some (.ref 2000), some (gi a1), some (gi a2), some (gi a3)] (plainFor_of_name (by decide)) rfl (Nat.le_of_ble_eq_true rfl) rfl (by decide) q_rE ?_
  unfold StringLatin1_indexOf at h
  refine G_iload_n (g_da dt_StringLatin1_indexOf 0 rfl) rfl rfl ?_
  obtain ⟨r1, s2, hc3, h⟩ := o_b h
  refine H_cSE (StringLatin1_canEncode_ok hc3) (g_da dt_StringLatin1_indexOf 1 rfl) lk_14_88 ms_StringLatin1_canEncode rfl rfl rfl rfl rfl rfl ?_
  refine G_if_ne (g_da dt_StringLatin1_indexOf 2 rfl) rfl rfl  (fun hc4 => ?_) (fun hc4 => ?_)
  · have h := o_f hc4 h
    refine G_iload_n (g_da dt_StringLatin1_indexOf 5 rfl) rfl rfl ?_
    refine G_iconst (g_da dt_StringLatin1_indexOf 6 rfl) ?_
    obtain ⟨r5, s6, hc7, h⟩ := o_b h
    refine H_cSE (Math_max_ok hc7) (g_da dt_StringLatin1_indexOf 7 rfl) lk_14_92 ms_Math_max rfl rfl rfl rfl rfl rfl ?_
    refine G_istore_n (lv' := [_, _, _, _]) (g_da dt_StringLatin1_indexOf 8 rfl) rfl (Nat.le_of_ble_eq_true rfl) rfl rfl ?_
    refine G_iload_n (g_da dt_StringLatin1_indexOf 9 rfl) rfl rfl ?_
    refine G_aload_n (g_da dt_StringLatin1_indexOf 10 rfl) rfl rfl ?_
    refine G_blen (i := 0) (z := 3) (g_da dt_StringLatin1_indexOf 11 rfl) (by decide) rfl ?_
    obtain ⟨r8, s9, hc10, h⟩ := o_b h
    refine H_cSE (Math_min1_ok hc10) (g_da dt_StringLatin1_indexOf 12 rfl) lk_14_38 ms_Math_min1 rfl rfl rfl rfl rfl rfl ?_
    refine G_istore_n (lv' := [_, _, _, _]) (g_da dt_StringLatin1_indexOf 13 rfl) rfl (Nat.le_of_ble_eq_true rfl) rfl rfl ?_
    refine G_iload_n (g_da dt_StringLatin1_indexOf 14 rfl) rfl rfl ?_
    refine G_iload_n (g_da dt_StringLatin1_indexOf 15 rfl) rfl rfl ?_
    refine G_icmp_lt (g_da dt_StringLatin1_indexOf 16 rfl) rfl rfl rfl (fun hc11 => ?_) (fun hc11 => ?_)
    · have h := o_t hc11 h
      refine G_aload_n (g_da dt_StringLatin1_indexOf 19 rfl) rfl rfl ?_
      refine G_iload_n (g_da dt_StringLatin1_indexOf 20 rfl) rfl rfl ?_
      refine G_iload_n (g_da dt_StringLatin1_indexOf 21 rfl) rfl rfl ?_
      refine G_iload_n (g_da dt_StringLatin1_indexOf 22 rfl) rfl rfl ?_
      obtain ⟨r12, s13, hc14, h⟩ := o_b h
      refine H_cSE (StringLatin1_indexOfChar_ok hc14) (g_da dt_StringLatin1_indexOf 23 rfl) lk_14_95 ms_StringLatin1_indexOfChar rfl rfl rfl rfl rfl rfl ?_
      exact G_ireturn (g_da dt_StringLatin1_indexOf 24 rfl) rfl rfl rfl (g_nz rfl) (q_e h)
    · have h := o_f hc11 h
      refine G_iconst (g_da dt_StringLatin1_indexOf 17 rfl) ?_
      exact G_ireturn (g_da dt_StringLatin1_indexOf 18 rfl) rfl rfl rfl (g_nz rfl) (q_e h)
  · have h := o_t hc4 h
    refine G_iconst (g_da dt_StringLatin1_indexOf 3 rfl) ?_
    exact G_ireturn (g_da dt_StringLatin1_indexOf 4 rfl) rfl rfl rfl (g_nz rfl) (q_e h)
set_option maxHeartbeats 4000000 in
set_option maxRecDepth 100000 in
theorem String_indexOf1_ok {J : gS → gS} {z0 : Int} {s0 : gS} {a1 a2 : Int} {s : gS} (h : String_indexOf1 a1 a2 s = some (z0, s0)) : Ct M_String_indexOf1 g_S [.ref 1000, gi a1, gi a2] (J s) (QE g_S J z0 s0) := by
  refine Ct_of [some (.ref 1000), some (gi a1), some (gi a2)] (plainFor_of_name (by decide)) rfl (Nat.le_of_ble_eq_true rfl) rfl (by decide) q_rE ?_
  unfold String_indexOf1 at h
  refine G_aload_n (g_da dt_String_indexOf1 0 rfl) rfl rfl ?_
  refine H_cKE (b := 0) (String_isLatin1_ok (z0 := 1) (s0 := s) rfl) (g_da dt_String_indexOf1 1 rfl) lk_13_492 mv_String_isLatin1 rfl (by decide) rfl rfl rfl rfl rfl rfl ?_
  refine G_if_eq (g_da dt_String_indexOf1 2 rfl) rfl w_1  (fun hc => absurd hc (by decide)) (fun _ => ?_)
  refine G_aload_n (g_da dt_String_indexOf1 3 rfl) rfl rfl ?_
  refine G_getSV (i := 0) (g_da dt_String_indexOf1 4 rfl) (by decide) fw_13_9 ?_
  refine G_iload_n (g_da dt_String_indexOf1 5 rfl) rfl rfl ?_
  refine G_iload_n (g_da dt_String_indexOf1 6 rfl) rfl rfl ?_
  refine G_aload_n (g_da dt_String_indexOf1 7 rfl) rfl rfl ?_
  obtain ⟨r1, s2, hc3, h⟩ := o_b h
  refine H_cKE (b := 0) (String_length_ok hc3) (g_da dt_String_indexOf1 8 rfl) lk_13_505 mv_String_length rfl (by decide) rfl rfl rfl rfl rfl rfl ?_
  obtain ⟨r4, s5, hc6, h⟩ := o_b h
  refine H_cSE (StringLatin1_indexOf_ok hc6) (g_da dt_String_indexOf1 9 rfl) lk_13_637 ms_StringLatin1_indexOf rfl rfl rfl rfl rfl rfl ?_
  refine G_goto (g_da dt_String_indexOf1 10 rfl) rfl ?_
  exact G_ireturn (g_da dt_String_indexOf1 18 rfl) rfl rfl rfl (g_nz rfl) (q_e h)
set_option maxHeartbeats 4000000 in
set_option maxRecDepth 100000 in
theorem String_indexOf_ok {J : gS → gS} {z0 : Int} {s0 : gS} {a1 : Int} {s : gS} (h : String_indexOf a1 s = some (z0, s0)) : Ct M_String_indexOf g_S [.ref 1000, gi a1] (J s) (QE g_S J z0 s0) := by
  refine Ct_of [some (.ref 1000), some (gi a1)] (plainFor_of_name (by decide)) rfl (Nat.le_of_ble_eq_true rfl) rfl (by decide) q_rE ?_
  unfold String_indexOf at h
  refine G_aload_n (g_da dt_String_indexOf 0 rfl) rfl rfl ?_
  refine G_iload_n (g_da dt_String_indexOf 1 rfl) rfl rfl ?_
  refine G_iconst (g_da dt_String_indexOf 2 rfl) ?_
  obtain ⟨r1, s2, hc3, h⟩ := o_b h
  refine H_cKE (b := 0) (String_indexOf1_ok hc3) (g_da dt_String_indexOf 3 rfl) lk_13_633 mv_String_indexOf1 rfl (by decide) rfl rfl rfl rfl rfl rfl ?_
  exact G_ireturn (g_da dt_String_indexOf 4 rfl) rfl rfl rfl (g_nz rfl) (q_e h)
set_option maxHeartbeats 4000000 in
set_option maxRecDepth 100000 in
theorem B_isOneOf_ok {J : gS → gS} {z0 : Int} {s0 : gS} {a1 : Int} {s : gS} (h : B_isOneOf a1 s = some (z0, s0)) : Ct M_B_isOneOf g_S [.ref 1000, gi a1] (J s) (QE g_S J z0 s0) := by
  refine Ct_of [some (.ref 1000), some (gi a1)] (plainFor_of_name (by decide)) rfl (Nat.le_of_ble_eq_true rfl) rfl (by decide) q_rE ?_
  unfold B_isOneOf at h
  refine G_aload_n (g_da dt_B_isOneOf 0 rfl) rfl rfl ?_
  refine G_iload_n (g_da dt_B_isOneOf 1 rfl) rfl rfl ?_
  refine G_i2c (g_da dt_B_isOneOf 2 rfl) ?_
  obtain ⟨r1, s2, hc3, h⟩ := o_b h
  refine H_cKE (b := 0) (String_indexOf_ok hc3) (g_da dt_B_isOneOf 3 rfl) lk_0_219 mv_String_indexOf rfl (by decide) rfl rfl rfl rfl rfl rfl ?_
  refine G_if_lt (g_da dt_B_isOneOf 4 rfl) rfl rfl  (fun hc4 => ?_) (fun hc4 => ?_)
  · have h := o_t hc4 h
    refine G_iconst (g_da dt_B_isOneOf 7 rfl) ?_
    exact G_ireturn (g_da dt_B_isOneOf 8 rfl) rfl (g_bool (Or.inl w_0)).1 rfl (g_nz rfl) (q_e h)
  · have h := o_f hc4 h
    refine G_iconst (g_da dt_B_isOneOf 5 rfl) ?_
    refine G_goto (g_da dt_B_isOneOf 6 rfl) rfl ?_
    exact G_ireturn (g_da dt_B_isOneOf 8 rfl) rfl (g_bool (Or.inr w_1)).1 rfl (g_nz rfl) (q_e h)
set_option maxHeartbeats 4000000 in
set_option maxRecDepth 100000 in
theorem Calls_leaveLoop_ok {J : gS → gS} (hJc : g_jc J) {z0 : Int} {s0 : gS} {s : gS} (h : Calls_leaveLoop s = some (z0, s0)) : Ct M_Calls_leaveLoop g_S [.ref 10] (J s) (QG g_S J z0 s0) := by
  refine Ct_of [some (.ref 10), none] (plainFor_of_name (by decide)) rfl (Nat.le_of_ble_eq_true rfl) rfl (by decide) q_rG ?_
  unfold Calls_leaveLoop at h
  refine G_aload_n (g_da dt_Calls_leaveLoop 0 rfl) rfl rfl ?_
  obtain ⟨r1, s2, hc3, h⟩ := o_b h
  refine H_cVE (Calls_innermostLoop_ok hJc hc3) (g_da dt_Calls_leaveLoop 1 rfl) lk_7_50 mv_Calls_innermostLoop rfl sh_10 rfl rfl rfl rfl rfl rfl ?_
  refine G_istore_n (lv' := [_, _]) (g_da dt_Calls_leaveLoop 2 rfl) rfl (Nat.le_of_ble_eq_true rfl) rfl rfl ?_
  refine G_iload_n (g_da dt_Calls_leaveLoop 3 rfl) rfl rfl ?_
  refine G_iconst (g_da dt_Calls_leaveLoop 4 rfl) ?_
  refine G_icmp_eq (g_da dt_Calls_leaveLoop 5 rfl) rfl rfl w_m1 (fun hc4 => ?_) (fun hc4 => ?_)
  · have h := o_t hc4 h
    exact G_return (g_da dt_Calls_leaveLoop 11 rfl) rfl rfl (g_nz rfl) (q_g h)
  · have h := o_f hc4 h
    refine G_aload_n (g_da dt_Calls_leaveLoop 6 rfl) rfl rfl ?_
    refine G_iload_n (g_da dt_Calls_leaveLoop 7 rfl) rfl rfl ?_
    refine G_iconst (g_da dt_Calls_leaveLoop 8 rfl) ?_
    refine G_isub (g_da dt_Calls_leaveLoop 9 rfl) ?_
    refine H_putI (g_da dt_Calls_leaveLoop 10 rfl) sh_10 fp_7_24 rfl (hJc 10 rfl) (fun s5 e6 => ?_)
    have h := o_l h s5 e6
    exact G_return (g_da dt_Calls_leaveLoop 11 rfl) rfl rfl (g_nz rfl) (q_g h)
set_option maxHeartbeats 4000000 in
set_option maxRecDepth 100000 in
theorem Text_skipBlanks_2_ok {J : gS → gS} (hJc : g_jc J) {z0 : Int} {s0 : gS} {k2 : Int → Int → gS → gA} (hk2 : ∀ (l2 l3 : Int) (s : gS), k2 l2 l3 s = some (z0, s0) → G M_Text_skipBlanks (QE g_S J z0 s0) (g_S, 0, 0) (J s) 2 [some (.ref 6), none, some (gi l2), some (gi l3)] [])  {l2 l3 : Int} {s : gS} (h : Text_skipBlanks_2 k2 l2 l3 s = some (z0, s0)) : G M_Text_skipBlanks (QE g_S J z0 s0) (g_S, 0, 0) (J s) 2 [some (.ref 6), none, some (gi l2), some (gi l3)] [] := by
  unfold Text_skipBlanks_2 at h
  refine G_iload_n (g_da dt_Text_skipBlanks 2 rfl) rfl rfl ?_
  refine G_iload_n (g_da dt_Text_skipBlanks 3 rfl) rfl rfl ?_
  refine G_icmp_ge (g_da dt_Text_skipBlanks 4 rfl) rfl rfl rfl (fun hc1 => ?_) (fun hc1 => ?_)
  · have h := o_t hc1 h
    refine G_iload_n (g_da dt_Text_skipBlanks 12 rfl) rfl rfl ?_
    exact G_ireturn (g_da dt_Text_skipBlanks 13 rfl) rfl rfl rfl (g_nz rfl) (q_e h)
  · have h := o_f hc1 h
    refine G_aload_n (g_da dt_Text_skipBlanks 5 rfl) rfl rfl ?_
    refine G_iload_n (g_da dt_Text_skipBlanks 6 rfl) rfl rfl ?_
    obtain ⟨r2, s3, hc4, h⟩ := o_b h
    refine H_cVE (Text_sign_ok hJc hc4) (g_da dt_Text_skipBlanks 7 rfl) lk_8_49 mv_Text_sign rfl sh_6 rfl rfl rfl rfl rfl rfl ?_
    refine G_bipush (g_da dt_Text_skipBlanks 8 rfl) b8w_32 ?_
    refine G_icmp_ne (g_da dt_Text_skipBlanks 9 rfl) rfl rfl w_32 (fun hc5 => ?_) (fun hc5 => ?_)
    · have h := o_f hc5 h
      refine G_iload_n (g_da dt_Text_skipBlanks 12 rfl) rfl rfl ?_
      exact G_ireturn (g_da dt_Text_skipBlanks 13 rfl) rfl rfl rfl (g_nz rfl) (q_e h)
    · have h := o_t hc5 h
      refine G_iinc (lv' := [_, none, _, _]) (g_da dt_Text_skipBlanks 10 rfl) rfl (Nat.le_of_ble_eq_true rfl) rfl rfl ?_
      refine G_goto (g_da dt_Text_skipBlanks 11 rfl) rfl ?_
      exact G_subK (hk2 _ _ _ h) ⟨rfl, ⟨rfl, ⟨rfl, trivial⟩⟩⟩
set_option maxHeartbeats 4000000 in
set_option maxRecDepth 100000 in
theorem Text_skipBlanks_2L_ok {J : gS → gS} (hJc : g_jc J) {z0 : Int} {s0 : gS} : ∀ (n : Nat) {l2 l3 : Int} {s : gS}, Text_skipBlanks_2L n l2 l3 s = some (z0, s0) → G M_Text_skipBlanks (QE g_S J z0 s0) (g_S, 0, 0) (J s) 2 [some (.ref 6), none, some (gi l2), some (gi l3)] [] := by
  intro n
  induction n with
  | zero => intro _ _ _ h; cases h
  | succ n ih => intro _ _ _ h; exact Text_skipBlanks_2_ok hJc (fun _ _ _ h => ih h) h
set_option maxHeartbeats 4000000 in
set_option maxRecDepth 100000 in
theorem Text_skipBlanks_ok {J : gS → gS} (hJc : g_jc J) {z0 : Int} {s0 : gS} {a1 a2 : Int} {s : gS} (h : Text_skipBlanks a1 a2 s = some (z0, s0)) : Ct M_Text_skipBlanks g_S [.ref 6, gi a1, gi a2] (J s) (QE g_S J z0 s0) := by
  refine Ct_of [some (.ref 6), some (gi a1), some (gi a2), none] (plainFor_of_name (by decide)) rfl (Nat.le_of_ble_eq_true rfl) rfl (by decide) q_rE ?_
  unfold Text_skipBlanks at h
  refine G_iload_n (g_da dt_Text_skipBlanks 0 rfl) rfl rfl ?_
  refine G_istore_n (lv' := [_, _, _, _]) (g_da dt_Text_skipBlanks 1 rfl) rfl (Nat.le_of_ble_eq_true rfl) rfl rfl ?_
  exact G_subK (Text_skipBlanks_2L_ok hJc gFu h) ⟨rfl, ⟨rfl, ⟨rfl, trivial⟩⟩⟩
set_option maxHeartbeats 4000000 in
set_option maxRecDepth 100000 in
theorem Calls_push_ok {J : gS → gS} (hJc : g_jc J) {z0 : Int} {s0 : gS} {a1 a2 a3 : Int} {s : gS} (h : Calls_push a1 a2 a3 s = some (z0, s0)) : Ct M_Calls_push g_S [.ref 10, gi a1, gi a2, gi a3] (J s) (QG g_S J z0 s0) := by
  refine Ct_of [some (.ref 10), some (gi a1), some (gi a2), some (gi a3)] (plainFor_of_name (by decide)) rfl (Nat.le_of_ble_eq_true rfl) rfl (by decide) q_rG ?_
  unfold Calls_push at h
  refine G_aload_n (g_da dt_Calls_push 0 rfl) rfl rfl ?_
  refine H_getI (g_da dt_Calls_push 1 rfl) sh_10 fl_7_24 rfl (hJc 10 rfl) ?_
  refine G_bipush (g_da dt_Calls_push 2 rfl) b8w_20 ?_
  refine G_icmp_ge (g_da dt_Calls_push 3 rfl) rfl rfl w_20 (fun hc1 => ?_) (fun hc1 => ?_)
  · have h := o_t hc1 h
    exact G_return (g_da dt_Calls_push 34 rfl) rfl rfl (g_nz rfl) (q_g h)
  · have h := o_f hc1 h
    refine G_aload_n (g_da dt_Calls_push 4 rfl) rfl rfl ?_
    refine G_dup (g_da dt_Calls_push 5 rfl) rfl ?_
    refine H_getI (g_da dt_Calls_push 6 rfl) sh_10 fl_7_24 rfl (hJc 10 rfl) ?_
    refine G_iconst (g_da dt_Calls_push 7 rfl) ?_
    refine G_iadd (g_da dt_Calls_push 8 rfl) ?_
    refine H_putI (g_da dt_Calls_push 9 rfl) sh_10 fp_7_24 rfl (hJc 10 rfl) (fun s2 e3 => ?_)
    have h := o_l h s2 e3
    refine G_aload_n (g_da dt_Calls_push 10 rfl) rfl rfl ?_
    refine G_getR (g_da dt_Calls_push 11 rfl) sh_10 fl_7_9 rfl ?_
    refine G_aload_n (g_da dt_Calls_push 12 rfl) rfl rfl ?_
    refine H_getI (g_da dt_Calls_push 13 rfl) sh_10 fl_7_24 rfl (hJc 10 rfl) ?_
    refine G_iload_n (g_da dt_Calls_push 14 rfl) rfl rfl ?_
    obtain ⟨hb4, h⟩ := o_g h
    refine H_iastore (g_da dt_Calls_push 15 rfl) sh_11 (hJc 11 rfl) rfl hb4 rfl (fun s5 e6 => ?_)
    have h := o_l h s5 e6
    refine G_aload_n (g_da dt_Calls_push 16 rfl) rfl rfl ?_
    refine G_getR (g_da dt_Calls_push 17 rfl) sh_10 fl_7_15 rfl ?_
    refine G_aload_n (g_da dt_Calls_push 18 rfl) rfl rfl ?_
    refine H_getI (g_da dt_Calls_push 19 rfl) sh_10 fl_7_24 rfl (hJc 10 rfl) ?_
    refine G_iload_n (g_da dt_Calls_push 20 rfl) rfl rfl ?_
    obtain ⟨hb7, h⟩ := o_g h
    refine H_iastore (g_da dt_Calls_push 21 rfl) sh_12 (hJc 12 rfl) rfl hb7 rfl (fun s8 e9 => ?_)
    have h := o_l h s8 e9
    refine G_aload_n (g_da dt_Calls_push 22 rfl) rfl rfl ?_
    refine G_getR (g_da dt_Calls_push 23 rfl) sh_10 fl_7_18 rfl ?_
    refine G_aload_n (g_da dt_Calls_push 24 rfl) rfl rfl ?_
    refine H_getI (g_da dt_Calls_push 25 rfl) sh_10 fl_7_24 rfl (hJc 10 rfl) ?_
    refine G_iload_n (g_da dt_Calls_push 26 rfl) rfl rfl ?_
    obtain ⟨hb10, h⟩ := o_g h
    refine H_iastore (g_da dt_Calls_push 27 rfl) sh_13 (hJc 13 rfl) rfl hb10 rfl (fun s11 e12 => ?_)
    have h := o_l h s11 e12
    refine G_aload_n (g_da dt_Calls_push 28 rfl) rfl rfl ?_
    refine G_getR (g_da dt_Calls_push 29 rfl) sh_10 fl_7_21 rfl ?_
    refine G_aload_n (g_da dt_Calls_push 30 rfl) rfl rfl ?_
    refine H_getI (g_da dt_Calls_push 31 rfl) sh_10 fl_7_24 rfl (hJc 10 rfl) ?_
    refine G_iload_n (g_da dt_Calls_push 32 rfl) rfl rfl ?_
    obtain ⟨hb13, h⟩ := o_g h
    refine H_iastore (g_da dt_Calls_push 33 rfl) sh_14 (hJc 14 rfl) rfl hb13 rfl (fun s14 e15 => ?_)
    have h := o_l h s14 e15
    exact G_return (g_da dt_Calls_push 34 rfl) rfl rfl (g_nz rfl) (q_g h)
set_option maxHeartbeats 4000000 in
set_option maxRecDepth 100000 in
theorem Calls_enter_ok {J : gS → gS} (hJc : g_jc J) {z0 : Int} {s0 : gS} {a2 a3 : Int} {s : gS} (h : Calls_enter a2 a3 s = some (z0, s0)) : Ct M_Calls_enter g_S [.ref 10, .ref 6, gi a2, gi a3] (J s) (QG g_S J z0 s0) := by
  refine Ct_of [some (.ref 10), some (.ref 6), some (gi a2), some (gi a3), none, none] (plainFor_of_name (by decide)) rfl (Nat.le_of_ble_eq_true rfl) rfl (by decide) q_rG ?_
  unfold Calls_enter at h
  refine G_iload_n (g_da dt_Calls_enter 0 rfl) rfl rfl ?_
  refine G_ldc (z := 2000000) (g_da dt_Calls_enter 1 rfl) cn_7_41 rfl ?_
  refine G_isub (g_da dt_Calls_enter 2 rfl) ?_
  refine H_topi (fun v1 e2 => ?_)
  have h := o_l h v1 e2
  refine G_istore (lv' := [_, _, _, _, _, none]) (g_da dt_Calls_enter 3 rfl) (Nat.le_of_ble_eq_true rfl) rfl rfl ?_
  refine G_aload_n (g_da dt_Calls_enter 4 rfl) rfl rfl ?_
  refine G_iload (g_da dt_Calls_enter 5 rfl) rfl ?_
  obtain ⟨r3, s4, hc5, h⟩ := o_b h
  refine H_cVE (Text_closing_ok hJc hc5) (g_da dt_Calls_enter 6 rfl) lk_7_42 mv_Text_closing rfl sh_6 rfl rfl rfl rfl rfl rfl ?_
  refine G_istore (lv' := [_, _, _, _, _, _]) (g_da dt_Calls_enter 7 rfl) (Nat.le_of_ble_eq_true rfl) rfl rfl ?_
  refine G_aload_n (g_da dt_Calls_enter 8 rfl) rfl rfl ?_
  refine G_iload (g_da dt_Calls_enter 9 rfl) rfl ?_
  refine G_iconst (g_da dt_Calls_enter 10 rfl) ?_
  refine G_iadd (g_da dt_Calls_enter 11 rfl) ?_
  refine G_iload (g_da dt_Calls_enter 12 rfl) rfl ?_
  obtain ⟨r6, s7, hc8, h⟩ := o_b h
  refine H_cVE (Text_skipBlanks_ok hJc hc8) (g_da dt_Calls_enter 13 rfl) lk_7_46 mv_Text_skipBlanks rfl sh_6 rfl rfl rfl rfl rfl rfl ?_
  refine G_iload (g_da dt_Calls_enter 14 rfl) rfl ?_
  refine G_icmp_ge (g_da dt_Calls_enter 15 rfl) rfl rfl rfl (fun hc9 => ?_) (fun hc9 => ?_)
  · have h := o_t hc9 h
    exact G_return (g_da dt_Calls_enter 23 rfl) rfl rfl (g_nz rfl) (q_g h)
  · have h := o_f hc9 h
    refine G_aload_n (g_da dt_Calls_enter 16 rfl) rfl rfl ?_
    refine G_iload (g_da dt_Calls_enter 17 rfl) rfl ?_
    refine G_iconst (g_da dt_Calls_enter 18 rfl) ?_
    refine G_iadd (g_da dt_Calls_enter 19 rfl) ?_
    refine G_iload (g_da dt_Calls_enter 20 rfl) rfl ?_
    refine G_iload_n (g_da dt_Calls_enter 21 rfl) rfl rfl ?_
    obtain ⟨r10, s11, hc12, h⟩ := o_b h
    refine H_cVG (Calls_push_ok hJc hc12) (g_da dt_Calls_enter 22 rfl) lk_7_33 mv_Calls_push rfl sh_10 rfl rfl rfl rfl rfl rfl ?_
    exact G_return (g_da dt_Calls_enter 23 rfl) rfl rfl (g_nz rfl) (q_g h)
set_option maxHeartbeats 4000000 in
set_option maxRecDepth 100000 in
theorem Job_control_76_ok {J : gS → gS} (hJc : g_jc J) {z0 : Int} {s0 : gS}  {t2 : Int} {s : gS} (h : Job_control_76 t2 s = some (z0, s0)) : G M_Job_control (QG g_S J z0 s0) (g_S, 0, 0) (J s) 76 [none, none, none, none, none] [gi t2, .ref 6, .ref 10] := by
  unfold Job_control_76 at h
  refine G_iconst (g_da dt_Job_control 38 rfl) ?_
  obtain ⟨r23, s24, hc25, h⟩ := o_b h
  refine H_cVG (Calls_enter_ok hJc hc25) (g_da dt_Job_control 39 rfl) lk_6_264 mv_Calls_enter rfl sh_10 rfl rfl rfl rfl rfl rfl ?_
  refine G_goto (g_da dt_Job_control 40 rfl) rfl ?_
  exact G_return (g_da dt_Job_control 55 rfl) rfl rfl (g_nz rfl) (q_g h)
set_option maxHeartbeats 4000000 in
set_option maxRecDepth 100000 in
theorem Job_control_ok {J : gS → gS} (hJc : g_jc J) {z0 : Int} {s0 : gS} {a1 : Int} {s : gS} (h : Job_control a1 s = some (z0, s0)) : Ct M_Job_control g_S [.ref 5, gi a1] (J s) (QG g_S J z0 s0) := by
  refine Ct_of [some (.ref 5), some (gi a1), none, none, none] (plainFor_of_name (by decide)) rfl (Nat.le_of_ble_eq_true rfl) rfl (by decide) q_rG ?_
  unfold Job_control at h
  refine G_aload_n (g_da dt_Job_control 0 rfl) rfl rfl ?_
  refine G_getR (g_da dt_Job_control 1 rfl) sh_5 fl_6_35 rfl ?_
  refine G_iconst (g_da dt_Job_control 2 rfl) ?_
  obtain ⟨r1, s2, hc3, h⟩ := o_b h
  refine H_cVE (Values_peek_ok hJc hc3) (g_da dt_Job_control 3 rfl) lk_6_149 mv_Values_peek rfl sh_18 rfl rfl rfl rfl rfl rfl ?_
  refine G_istore_n (lv' := [_, _, _, none, none]) (g_da dt_Job_control 4 rfl) rfl (Nat.le_of_ble_eq_true rfl) rfl rfl ?_
  refine G_aload_n (g_da dt_Job_control 5 rfl) rfl rfl ?_
  refine G_getR (g_da dt_Job_control 6 rfl) sh_5 fl_6_35 rfl ?_
  refine G_iconst (g_da dt_Job_control 7 rfl) ?_
  obtain ⟨r4, s5, hc6, h⟩ := o_b h
  refine H_cVE (Values_peek_ok hJc hc6) (g_da dt_Job_control 8 rfl) lk_6_149 mv_Values_peek rfl sh_18 rfl rfl rfl rfl rfl rfl ?_
  refine G_istore_n (lv' := [_, _, _, _, none]) (g_da dt_Job_control 9 rfl) rfl (Nat.le_of_ble_eq_true rfl) rfl rfl ?_
  refine G_aload_n (g_da dt_Job_control 10 rfl) rfl rfl ?_
  refine G_getR (g_da dt_Job_control 11 rfl) sh_5 fl_6_35 rfl ?_
  refine G_iconst (g_da dt_Job_control 12 rfl) ?_
  obtain ⟨r7, s8, hc9, h⟩ := o_b h
  refine H_cVE (Values_peek_ok hJc hc9) (g_da dt_Job_control 13 rfl) lk_6_149 mv_Values_peek rfl sh_18 rfl rfl rfl rfl rfl rfl ?_
  refine G_istore (lv' := [_, _, _, _, _]) (g_da dt_Job_control 14 rfl) (Nat.le_of_ble_eq_true rfl) rfl rfl ?_
  refine G_iload_n (g_da dt_Job_control 15 rfl) rfl rfl ?_
  refine G_bipush (g_da dt_Job_control 16 rfl) b8w_81 ?_
  refine G_icmp_ne (g_da dt_Job_control 17 rfl) rfl rfl w_81 (fun hc10 => ?_) (fun hc10 => ?_)
  · have h := o_f hc10 h
    refine G_iload_n (g_da dt_Job_control 22 rfl) rfl rfl ?_
    refine G_bipush (g_da dt_Job_control 23 rfl) b8w_63 ?_
    refine G_icmp_ne (g_da dt_Job_control 24 rfl) rfl rfl w_63 (fun hc11 => ?_) (fun hc11 => ?_)
    · have h := o_f hc11 h
      refine G_aload_n (g_da dt_Job_control 41 rfl) rfl rfl ?_
      refine G_getR (g_da dt_Job_control 42 rfl) sh_5 fl_6_35 rfl ?_
      refine G_iconst (g_da dt_Job_control 43 rfl) ?_
      obtain ⟨r12, s13, hc14, h⟩ := o_b h
      refine H_cVG (Values_drop_ok hJc hc14) (g_da dt_Job_control 44 rfl) lk_6_75 mv_Values_drop rfl sh_18 rfl rfl rfl rfl rfl rfl ?_
      refine G_iload_n (g_da dt_Job_control 45 rfl) rfl rfl ?_
      refine G_iconst (g_da dt_Job_control 46 rfl) ?_
      refine G_icmp_lt (g_da dt_Job_control 47 rfl) rfl rfl w_1 (fun hc15 => ?_) (fun hc15 => ?_)
      · have h := o_t hc15 h
        exact G_return (g_da dt_Job_control 55 rfl) rfl rfl (g_nz rfl) (q_g h)
      · have h := o_f hc15 h
        refine G_aload_n (g_da dt_Job_control 48 rfl) rfl rfl ?_
        refine G_getR (g_da dt_Job_control 49 rfl) sh_5 fl_6_21 rfl ?_
        refine G_aload_n (g_da dt_Job_control 50 rfl) rfl rfl ?_
        refine G_getR (g_da dt_Job_control 51 rfl) sh_5 fl_6_12 rfl ?_
        refine G_iload_n (g_da dt_Job_control 52 rfl) rfl rfl ?_
        refine G_iload_n (g_da dt_Job_control 53 rfl) rfl rfl ?_
        obtain ⟨r16, s17, hc18, h⟩ := o_b h
        refine H_cVG (Calls_enter_ok hJc hc18) (g_da dt_Job_control 54 rfl) lk_6_264 mv_Calls_enter rfl sh_10 rfl rfl rfl rfl rfl rfl ?_
        exact G_return (g_da dt_Job_control 55 rfl) rfl rfl (g_nz rfl) (q_g h)
    · have h := o_t hc11 h
      refine G_aload_n (g_da dt_Job_control 25 rfl) rfl rfl ?_
      refine G_getR (g_da dt_Job_control 26 rfl) sh_5 fl_6_35 rfl ?_
      refine G_iconst (g_da dt_Job_control 27 rfl) ?_
      obtain ⟨r19, s20, hc21, h⟩ := o_b h
      refine H_cVG (Values_drop_ok hJc hc21) (g_da dt_Job_control 28 rfl) lk_6_75 mv_Values_drop rfl sh_18 rfl rfl rfl rfl rfl rfl ?_
      refine G_aload_n (g_da dt_Job_control 29 rfl) rfl rfl ?_
      refine G_getR (g_da dt_Job_control 30 rfl) sh_5 fl_6_21 rfl ?_
      refine G_aload_n (g_da dt_Job_control 31 rfl) rfl rfl ?_
      refine G_getR (g_da dt_Job_control 32 rfl) sh_5 fl_6_12 rfl ?_
      refine G_iload (g_da dt_Job_control 33 rfl) rfl ?_
      refine G_if_eq (g_da dt_Job_control 34 rfl) rfl rfl  (fun hc22 => ?_) (fun hc22 => ?_)
      · have h := o_t hc22 h
        refine G_iload_n (g_da dt_Job_control 37 rfl) rfl rfl ?_
        exact G_subK (Job_control_76_ok hJc h) trivial
      · have h := o_f hc22 h
        refine G_iload_n (g_da dt_Job_control 35 rfl) rfl rfl ?_
        refine G_goto (g_da dt_Job_control 36 rfl) rfl ?_
        exact G_subK (Job_control_76_ok hJc h) trivial
  · have h := o_t hc10 h
    refine G_aload_n (g_da dt_Job_control 18 rfl) rfl rfl ?_
    refine G_getR (g_da dt_Job_control 19 rfl) sh_5 fl_6_21 rfl ?_
    obtain ⟨r26, s27, hc28, h⟩ := o_b h
    refine H_cVG (Calls_leaveLoop_ok hJc hc28) (g_da dt_Job_control 20 rfl) lk_6_261 mv_Calls_leaveLoop rfl sh_10 rfl rfl rfl rfl rfl rfl ?_
    refine G_goto (g_da dt_Job_control 21 rfl) rfl ?_
    exact G_return (g_da dt_Job_control 55 rfl) rfl rfl (g_nz rfl) (q_g h)
set_option maxHeartbeats 4000000 in
set_option maxRecDepth 100000 in
theorem String_isLatin1_b_ok {J : gS → gS} {z0 : Int} {s0 : gS} {s : gS} (h : String_isLatin1_b s = some (z0, s0)) : Ct M_String_isLatin1 g_S [.ref 1001] (J s) (QE g_S J z0 s0) := by
  refine Ct_of [some (.ref 1001)] (plainFor_of_name (by decide)) rfl (Nat.le_of_ble_eq_true rfl) rfl (by decide) q_rE ?_
  unfold String_isLatin1_b at h
  refine G_compact (g_da dt_String_isLatin1 0 rfl) fw_13_38 ?_
  refine G_if_eq (g_da dt_String_isLatin1 1 rfl) rfl w_1  (fun hc => absurd hc (by decide)) (fun _ => ?_)
  refine G_aload_n (g_da dt_String_isLatin1 2 rfl) rfl rfl ?_
  refine G_getSC (i := 1) (g_da dt_String_isLatin1 3 rfl) (by decide) fw_13_15 ?_
  refine G_if_ne (g_da dt_String_isLatin1 4 rfl) rfl w_0  (fun hc => absurd rfl hc) (fun _ => ?_)
  refine G_iconst (g_da dt_String_isLatin1 5 rfl) ?_
  refine G_goto (g_da dt_String_isLatin1 6 rfl) rfl ?_
  exact G_ireturn (g_da dt_String_isLatin1 8 rfl) rfl (g_bool (Or.inr w_1)).1 rfl (g_nz rfl) (q_e h)
set_option maxHeartbeats 4000000 in
set_option maxRecDepth 100000 in
theorem String_coder_b_ok {J : gS → gS} {z0 : Int} {s0 : gS} {s : gS} (h : String_coder_b s = some (z0, s0)) : Ct M_String_coder g_S [.ref 1001] (J s) (QE g_S J z0 s0) := by
  refine Ct_of [some (.ref 1001)] (plainFor_of_name (by decide)) rfl (Nat.le_of_ble_eq_true rfl) rfl (by decide) q_rE ?_
  unfold String_coder_b at h
  refine G_compact (g_da dt_String_coder 0 rfl) fw_13_38 ?_
  refine G_if_eq (g_da dt_String_coder 1 rfl) rfl w_1  (fun hc => absurd hc (by decide)) (fun _ => ?_)
  refine G_aload_n (g_da dt_String_coder 2 rfl) rfl rfl ?_
  refine G_getSC (i := 1) (g_da dt_String_coder 3 rfl) (by decide) fw_13_15 ?_
  refine G_goto (g_da dt_String_coder 4 rfl) rfl ?_
  exact G_ireturn (g_da dt_String_coder 6 rfl) rfl (by decide) rfl (g_nz rfl) (q_e h)
set_option maxHeartbeats 4000000 in
set_option maxRecDepth 100000 in
theorem String_length_b_ok {J : gS → gS} {z0 : Int} {s0 : gS} {s : gS} (h : String_length_b s = some (z0, s0)) : Ct M_String_length g_S [.ref 1001] (J s) (QE g_S J z0 s0) := by
  refine Ct_of [some (.ref 1001)] (plainFor_of_name (by decide)) rfl (Nat.le_of_ble_eq_true rfl) rfl (by decide) q_rE ?_
  unfold String_length_b at h
  refine G_aload_n (g_da dt_String_length 0 rfl) rfl rfl ?_
  refine G_getSV (i := 1) (g_da dt_String_length 1 rfl) (by decide) fw_13_9 ?_
  refine G_blen (i := 1) (z := 5) (g_da dt_String_length 2 rfl) (by decide) rfl ?_
  refine G_aload_n (g_da dt_String_length 3 rfl) rfl rfl ?_
  refine H_cKE (b := 1) (String_coder_b_ok (z0 := 0) (s0 := s) rfl) (g_da dt_String_length 4 rfl) lk_13_335 mv_String_coder rfl (by decide) rfl rfl rfl rfl rfl rfl ?_
  refine G_ishr (g_da dt_String_length 5 rfl) ?_
  exact G_ireturn (g_da dt_String_length 6 rfl) rfl rfl rfl (g_nz rfl) (q_e h)
set_option maxHeartbeats 4000000 in
set_option maxRecDepth 100000 in
theorem StringLatin1_indexOfChar_b_7_ok {J : gS → gS} {z0 : Int} {s0 : gS} {k7 : Int → Int → Int → gS → gA} (hk7 : ∀ (l3 l4 l5 : Int) (s : gS), k7 l3 l4 l5 s = some (z0, s0) → G M_StringLatin1_indexOfChar (QE g_S J z0 s0) (g_S, 0, 0) (J s) 7 [some (.ref 2001), none, none, some (gi l3), some (gi l4), some (gi l5)] [])  {l3 l4 l5 : Int} {s : gS} (h : StringLatin1_indexOfChar_b_7 k7 l3 l4 l5 s = some (z0, s0)) : G M_StringLatin1_indexOfChar (QE g_S J z0 s0) (g_S, 0, 0) (J s) 7 [some (.ref 2001), none, none, some (gi l3), some (gi l4), some (gi l5)] [] := by
  unfold StringLatin1_indexOfChar_b_7 at h
  refine G_iload (g_da dt_StringLatin1_indexOfChar 5 rfl) rfl ?_
  refine G_iload_n (g_da dt_StringLatin1_indexOfChar 6 rfl) rfl rfl ?_
  refine G_icmp_ge (g_da dt_StringLatin1_indexOfChar 7 rfl) rfl rfl rfl (fun hc3 => ?_) (fun hc3 => ?_)
  · have h := o_t hc3 h
    refine G_iconst (g_da dt_StringLatin1_indexOfChar 17 rfl) ?_
    exact G_ireturn (g_da dt_StringLatin1_indexOfChar 18 rfl) rfl rfl rfl (g_nz rfl) (q_e h)
  · have h := o_f hc3 h
    refine G_aload_n (g_da dt_StringLatin1_indexOfChar 8 rfl) rfl rfl ?_
    refine G_iload (g_da dt_StringLatin1_indexOfChar 9 rfl) rfl ?_
    obtain ⟨hb4, h⟩ := o_g h
    refine G_bald (i := 1) (g_da dt_StringLatin1_indexOfChar 10 rfl) (by decide) rfl hb4 ?_
    refine G_iload (g_da dt_StringLatin1_indexOfChar 11 rfl) rfl ?_
    refine G_icmp_ne (g_da dt_StringLatin1_indexOfChar 12 rfl) rfl rfl rfl (fun hc5 => ?_) (fun hc5 => ?_)
    · have h := o_f hc5 h
      refine G_iinc (lv' := [_, none, none, _, _, _]) (g_da dt_StringLatin1_indexOfChar 15 rfl) rfl (Nat.le_of_ble_eq_true rfl) rfl rfl ?_
      refine G_goto (g_da dt_StringLatin1_indexOfChar 16 rfl) rfl ?_
      exact G_subK (hk7 _ _ _ _ h) ⟨rfl, ⟨rfl, ⟨rfl, ⟨rfl, trivial⟩⟩⟩⟩
    · have h := o_t hc5 h
      refine G_iload (g_da dt_StringLatin1_indexOfChar 13 rfl) rfl ?_
      exact G_ireturn (g_da dt_StringLatin1_indexOfChar 14 rfl) rfl rfl rfl (g_nz rfl) (q_e h)
set_option maxHeartbeats 4000000 in
set_option maxRecDepth 100000 in
theorem StringLatin1_indexOfChar_b_7L_ok {J : gS → gS} {z0 : Int} {s0 : gS} : ∀ (n : Nat) {l3 l4 l5 : Int} {s : gS}, StringLatin1_indexOfChar_b_7L n l3 l4 l5 s = some (z0, s0) → G M_StringLatin1_indexOfChar (QE g_S J z0 s0) (g_S, 0, 0) (J s) 7 [some (.ref 2001), none, none, some (gi l3), some (gi l4), some (gi l5)] [] := by
  intro n
  induction n with
  | zero => intro _ _ _ _ h; cases h
  | succ n ih => intro _ _ _ _ h; exact StringLatin1_indexOfChar_b_7_ok (fun _ _ _ _ h => ih h) h
set_option maxHeartbeats 4000000 in
set_option maxRecDepth 100000 in
theorem StringLatin1_indexOfChar_b_ok {J : gS → gS} {z0 : Int} {s0 : gS} {a1 a2 a3 : Int} {s : gS} (h : StringLatin1_indexOfChar_b a1 a2 a3 s = some (z0, s0)) : Ct M_StringLatin1_indexOfChar g_S [.ref 2001, gi a1, gi a2, gi a3] (J s) (QE g_S J z0 s0) := by
  refine Ct_of [some (.ref 2001), some (gi a1), some (gi a2), some (gi a3), none, none] (plainFor_of_name (by decide)) rfl (Nat.le_of_ble_eq_true rfl) rfl (by decide) q_rE ?_
  unfold StringLatin1_indexOfChar_b at h
  refine G_iload_n (g_da dt_StringLatin1_indexOfChar 0 rfl) rfl rfl ?_
  refine G_i2b (g_da dt_StringLatin1_indexOfChar 1 rfl) ?_
  refine H_topi (fun v1 e2 => ?_)
  have h := o_l h v1 e2
  refine G_istore (lv' := [_, _, _, _, _, none]) (g_da dt_StringLatin1_indexOfChar 2 rfl) (Nat.le_of_ble_eq_true rfl) rfl rfl ?_
  refine G_iload_n (g_da dt_StringLatin1_indexOfChar 3 rfl) rfl rfl ?_
  refine G_istore (lv' := [_, _, _, _, _, _]) (g_da dt_StringLatin1_indexOfChar 4 rfl) (Nat.le_of_ble_eq_true rfl) rfl rfl ?_
  exact G_subK (StringLatin1_indexOfChar_b_7L_ok gFu h) ⟨rfl, ⟨rfl, ⟨rfl, ⟨rfl, trivial⟩⟩⟩⟩
set_option maxHeartbeats 4000000 in
set_option maxRecDepth 100000 in
theorem StringLatin1_indexOf_b_ok {J : gS → gS} {z0 : Int} {s0 : gS} {a1 a2 a3 : Int} {s : gS} (h : StringLatin1_indexOf_b a1 a2 a3 s = some (z0, s0)) : Ct M_StringLatin1_indexOf g_S [.ref 2001, gi a1, gi a2, gi a3] (J s) (QE g_S J z0 s0) := by
  refine Ct_of [some (.ref 2001), some (gi a1), some (gi a2), some (gi a3)] (plainFor_of_name (by decide)) rfl (Nat.le_of_ble_eq_true rfl) rfl (by decide) q_rE ?_
  unfold StringLatin1_indexOf_b at h
  refine G_iload_n (g_da dt_StringLatin1_indexOf 0 rfl) rfl rfl ?_
  obtain ⟨r1, s2, hc3, h⟩ := o_b h
  refine H_cSE (StringLatin1_canEncode_ok hc3) (g_da dt_StringLatin1_indexOf 1 rfl) lk_14_88 ms_StringLatin1_canEncode rfl rfl rfl rfl rfl rfl ?_
  refine G_if_ne (g_da dt_StringLatin1_indexOf 2 rfl) rfl rfl  (fun hc4 => ?_) (fun hc4 => ?_)
  · have h := o_f hc4 h
    refine G_iload_n (g_da dt_StringLatin1_indexOf 5 rfl) rfl rfl ?_
    refine G_iconst (g_da dt_StringLatin1_indexOf 6 rfl) ?_
    obtain ⟨r5, s6, hc7, h⟩ := o_b h
    refine H_cSE (Math_max_ok hc7) (g_da dt_StringLatin1_indexOf 7 rfl) lk_14_92 ms_Math_max rfl rfl rfl rfl rfl rfl ?_
    refine G_istore_n (lv' := [_, _, _, _]) (g_da dt_StringLatin1_indexOf 8 rfl) rfl (Nat.le_of_ble_eq_true rfl) rfl rfl ?_
    refine G_iload_n (g_da dt_StringLatin1_indexOf 9 rfl) rfl rfl ?_
    refine G_aload_n (g_da dt_StringLatin1_indexOf 10 rfl) rfl rfl ?_
    refine G_blen (i := 1) (z := 5) (g_da dt_StringLatin1_indexOf 11 rfl) (by decide) rfl ?_
    obtain ⟨r8, s9, hc10, h⟩ := o_b h
    refine H_cSE (Math_min1_ok hc10) (g_da dt_StringLatin1_indexOf 12 rfl) lk_14_38 ms_Math_min1 rfl rfl rfl rfl rfl rfl ?_
    refine G_istore_n (lv' := [_, _, _, _]) (g_da dt_StringLatin1_indexOf 13 rfl) rfl (Nat.le_of_ble_eq_true rfl) rfl rfl ?_
    refine G_iload_n (g_da dt_StringLatin1_indexOf 14 rfl) rfl rfl ?_
    refine G_iload_n (g_da dt_StringLatin1_indexOf 15 rfl) rfl rfl ?_
    refine G_icmp_lt (g_da dt_StringLatin1_indexOf 16 rfl) rfl rfl rfl (fun hc11 => ?_) (fun hc11 => ?_)
    · have h := o_t hc11 h
      refine G_aload_n (g_da dt_StringLatin1_indexOf 19 rfl) rfl rfl ?_
      refine G_iload_n (g_da dt_StringLatin1_indexOf 20 rfl) rfl rfl ?_
      refine G_iload_n (g_da dt_StringLatin1_indexOf 21 rfl) rfl rfl ?_
      refine G_iload_n (g_da dt_StringLatin1_indexOf 22 rfl) rfl rfl ?_
      obtain ⟨r12, s13, hc14, h⟩ := o_b h
      refine H_cSE (StringLatin1_indexOfChar_b_ok hc14) (g_da dt_StringLatin1_indexOf 23 rfl) lk_14_95 ms_StringLatin1_indexOfChar rfl rfl rfl rfl rfl rfl ?_
      exact G_ireturn (g_da dt_StringLatin1_indexOf 24 rfl) rfl rfl rfl (g_nz rfl) (q_e h)
    · have h := o_f hc11 h
      refine G_iconst (g_da dt_StringLatin1_indexOf 17 rfl) ?_
      exact G_ireturn (g_da dt_StringLatin1_indexOf 18 rfl) rfl rfl rfl (g_nz rfl) (q_e h)
  · have h := o_t hc4 h
    refine G_iconst (g_da dt_StringLatin1_indexOf 3 rfl) ?_
    exact G_ireturn (g_da dt_StringLatin1_indexOf 4 rfl) rfl rfl rfl (g_nz rfl) (q_e h)
set_option maxHeartbeats 4000000 in
set_option maxRecDepth 100000 in
theorem String_indexOf1_b_ok {J : gS → gS} {z0 : Int} {s0 : gS} {a1 a2 : Int} {s : gS} (h : String_indexOf1_b a1 a2 s = some (z0, s0)) : Ct M_String_indexOf1 g_S [.ref 1001, gi a1, gi a2] (J s) (QE g_S J z0 s0) := by
  refine Ct_of [some (.ref 1001), some (gi a1), some (gi a2)] (plainFor_of_name (by decide)) rfl (Nat.le_of_ble_eq_true rfl) rfl (by decide) q_rE ?_
  unfold String_indexOf1_b at h
  refine G_aload_n (g_da dt_String_indexOf1 0 rfl) rfl rfl ?_
  refine H_cKE (b := 1) (String_isLatin1_b_ok (z0 := 1) (s0 := s) rfl) (g_da dt_String_indexOf1 1 rfl) lk_13_492 mv_String_isLatin1 rfl (by decide) rfl rfl rfl rfl rfl rfl ?_
  refine G_if_eq (g_da dt_String_indexOf1 2 rfl) rfl w_1  (fun hc => absurd hc (by decide)) (fun _ => ?_)
  refine G_aload_n (g_da dt_String_indexOf1 3 rfl) rfl rfl ?_
  refine G_getSV (i := 1) (g_da dt_String_indexOf1 4 rfl) (by decide) fw_13_9 ?_
  refine G_iload_n (g_da dt_String_indexOf1 5 rfl) rfl rfl ?_
  refine G_iload_n (g_da dt_String_indexOf1 6 rfl) rfl rfl ?_
  refine G_aload_n (g_da dt_String_indexOf1 7 rfl) rfl rfl ?_
  obtain ⟨r1, s2, hc3, h⟩ := o_b h
  refine H_cKE (b := 1) (String_length_b_ok hc3) (g_da dt_String_indexOf1 8 rfl) lk_13_505 mv_String_length rfl (by decide) rfl rfl rfl rfl rfl rfl ?_
  obtain ⟨r4, s5, hc6, h⟩ := o_b h
  refine H_cSE (StringLatin1_indexOf_b_ok hc6) (g_da dt_String_indexOf1 9 rfl) lk_13_637 ms_StringLatin1_indexOf rfl rfl rfl rfl rfl rfl ?_
  refine G_goto (g_da dt_String_indexOf1 10 rfl) rfl ?_
  exact G_ireturn (g_da dt_String_indexOf1 18 rfl) rfl rfl rfl (g_nz rfl) (q_e h)
set_option maxHeartbeats 4000000 in
set_option maxRecDepth 100000 in
theorem String_indexOf_b_ok {J : gS → gS} {z0 : Int} {s0 : gS} {a1 : Int} {s : gS} (h : String_indexOf_b a1 s = some (z0, s0)) : Ct M_String_indexOf g_S [.ref 1001, gi a1] (J s) (QE g_S J z0 s0) := by
  refine Ct_of [some (.ref 1001), some (gi a1)] (plainFor_of_name (by decide)) rfl (Nat.le_of_ble_eq_true rfl) rfl (by decide) q_rE ?_
  unfold String_indexOf_b at h
  refine G_aload_n (g_da dt_String_indexOf 0 rfl) rfl rfl ?_
  refine G_iload_n (g_da dt_String_indexOf 1 rfl) rfl rfl ?_
  refine G_iconst (g_da dt_String_indexOf 2 rfl) ?_
  obtain ⟨r1, s2, hc3, h⟩ := o_b h
  refine H_cKE (b := 1) (String_indexOf1_b_ok hc3) (g_da dt_String_indexOf 3 rfl) lk_13_633 mv_String_indexOf1 rfl (by decide) rfl rfl rfl rfl rfl rfl ?_
  exact G_ireturn (g_da dt_String_indexOf 4 rfl) rfl rfl rfl (g_nz rfl) (q_e h)
set_option maxHeartbeats 4000000 in
set_option maxRecDepth 100000 in
theorem B_isOneOf_b_ok {J : gS → gS} {z0 : Int} {s0 : gS} {a1 : Int} {s : gS} (h : B_isOneOf_b a1 s = some (z0, s0)) : Ct M_B_isOneOf g_S [.ref 1001, gi a1] (J s) (QE g_S J z0 s0) := by
  refine Ct_of [some (.ref 1001), some (gi a1)] (plainFor_of_name (by decide)) rfl (Nat.le_of_ble_eq_true rfl) rfl (by decide) q_rE ?_
  unfold B_isOneOf_b at h
  refine G_aload_n (g_da dt_B_isOneOf 0 rfl) rfl rfl ?_
  refine G_iload_n (g_da dt_B_isOneOf 1 rfl) rfl rfl ?_
  refine G_i2c (g_da dt_B_isOneOf 2 rfl) ?_
  obtain ⟨r1, s2, hc3, h⟩ := o_b h
  refine H_cKE (b := 1) (String_indexOf_b_ok hc3) (g_da dt_B_isOneOf 3 rfl) lk_0_219 mv_String_indexOf rfl (by decide) rfl rfl rfl rfl rfl rfl ?_
  refine G_if_lt (g_da dt_B_isOneOf 4 rfl) rfl rfl  (fun hc4 => ?_) (fun hc4 => ?_)
  · have h := o_t hc4 h
    refine G_iconst (g_da dt_B_isOneOf 7 rfl) ?_
    exact G_ireturn (g_da dt_B_isOneOf 8 rfl) rfl (g_bool (Or.inl w_0)).1 rfl (g_nz rfl) (q_e h)
  · have h := o_f hc4 h
    refine G_iconst (g_da dt_B_isOneOf 5 rfl) ?_
    refine G_goto (g_da dt_B_isOneOf 6 rfl) rfl ?_
    exact G_ireturn (g_da dt_B_isOneOf 8 rfl) rfl (g_bool (Or.inr w_1)).1 rfl (g_nz rfl) (q_e h)
set_option maxHeartbeats 4000000 in
set_option maxRecDepth 100000 in
theorem Path_close_ok {J : gS → gS} (hJc : g_jc J) {z0 : Int} {s0 : gS} {s : gS} (h : Path_close s = some (z0, s0)) : Ct M_Path_close g_S [.ref 28] (J s) (QG g_S J z0 s0) := by
  refine Ct_of [some (.ref 28)] (plainFor_of_name (by decide)) rfl (Nat.le_of_ble_eq_true rfl) rfl (by decide) q_rG ?_
  unfold Path_close at h
  refine G_aload_n (g_da dt_Path_close 0 rfl) rfl rfl ?_
  refine G_iconst (g_da dt_Path_close 1 rfl) ?_
  refine H_putZ (g_da dt_Path_close 2 rfl) sh_28 fp_10_35 rfl (hJc 28 rfl) (Or.inr w_1) (fun s1 e2 => ?_)
  have h := o_l h s1 e2
  exact G_return (g_da dt_Path_close 3 rfl) rfl rfl (g_nz rfl) (q_g h)
set_option maxHeartbeats 4000000 in
set_option maxRecDepth 100000 in
theorem Job_placedX_ok {J : gS → gS} (hJc : g_jc J) {z0 : Int} {s0 : gS} {a1 : Int} {s : gS} (h : Job_placedX a1 s = some (z0, s0)) : Ct M_Job_placedX g_S [.ref 5, gi a1] (J s) (QE g_S J z0 s0) := by
  refine Ct_of [some (.ref 5), some (gi a1)] (plainFor_of_name (by decide)) rfl (Nat.le_of_ble_eq_true rfl) rfl (by decide) q_rE ?_
  unfold Job_placedX at h
  refine G_aload_n (g_da dt_Job_placedX 0 rfl) rfl rfl ?_
  refine G_getR (g_da dt_Job_placedX 1 rfl) sh_5 fl_6_46 rfl ?_
  refine G_aload_n (g_da dt_Job_placedX 2 rfl) rfl rfl ?_
  refine G_getR (g_da dt_Job_placedX 3 rfl) sh_5 fl_6_35 rfl ?_
  refine G_iload_n (g_da dt_Job_placedX 4 rfl) rfl rfl ?_
  obtain ⟨r1, s2, hc3, h⟩ := o_b h
  refine H_cVE (Values_peek_ok hJc hc3) (g_da dt_Job_placedX 5 rfl) lk_6_149 mv_Values_peek rfl sh_18 rfl rfl rfl rfl rfl rfl ?_
  obtain ⟨r4, s5, hc6, h⟩ := o_b h
  refine H_cVF (Settings_placedX_ok hJc hc6) (g_da dt_Job_placedX 6 rfl) lk_6_197 mv_Settings_placedX rfl sh_21 rfl rfl rfl rfl rfl rfl ?_
  refine G_l2i (g_da dt_Job_placedX 7 rfl) ?_
  exact G_ireturn (g_da dt_Job_placedX 8 rfl) rfl rfl rfl (g_nz rfl) (q_e h)
set_option maxHeartbeats 4000000 in
set_option maxRecDepth 100000 in
theorem Job_placedY_ok {J : gS → gS} (hJc : g_jc J) {z0 : Int} {s0 : gS} {a1 : Int} {s : gS} (h : Job_placedY a1 s = some (z0, s0)) : Ct M_Job_placedY g_S [.ref 5, gi a1] (J s) (QE g_S J z0 s0) := by
  refine Ct_of [some (.ref 5), some (gi a1)] (plainFor_of_name (by decide)) rfl (Nat.le_of_ble_eq_true rfl) rfl (by decide) q_rE ?_
  unfold Job_placedY at h
  refine G_aload_n (g_da dt_Job_placedY 0 rfl) rfl rfl ?_
  refine G_getR (g_da dt_Job_placedY 1 rfl) sh_5 fl_6_46 rfl ?_
  refine G_aload_n (g_da dt_Job_placedY 2 rfl) rfl rfl ?_
  refine G_getR (g_da dt_Job_placedY 3 rfl) sh_5 fl_6_35 rfl ?_
  refine G_iload_n (g_da dt_Job_placedY 4 rfl) rfl rfl ?_
  obtain ⟨r1, s2, hc3, h⟩ := o_b h
  refine H_cVE (Values_peek_ok hJc hc3) (g_da dt_Job_placedY 5 rfl) lk_6_149 mv_Values_peek rfl sh_18 rfl rfl rfl rfl rfl rfl ?_
  obtain ⟨r4, s5, hc6, h⟩ := o_b h
  refine H_cVF (Settings_placedY_ok hJc hc6) (g_da dt_Job_placedY 6 rfl) lk_6_202 mv_Settings_placedY rfl sh_21 rfl rfl rfl rfl rfl rfl ?_
  refine G_l2i (g_da dt_Job_placedY 7 rfl) ?_
  exact G_ireturn (g_da dt_Job_placedY 8 rfl) rfl rfl rfl (g_nz rfl) (q_e h)
set_option maxHeartbeats 4000000 in
set_option maxRecDepth 100000 in
theorem Path_add_ok {J : gS → gS} (hJc : g_jc J) {z0 : Int} {s0 : gS} {a1 a2 a3 : Int} {s : gS} (h : Path_add a1 a2 a3 s = some (z0, s0)) : Ct M_Path_add g_S [.ref 28, gi a1, gi a2, gi a3] (J s) (QG g_S J z0 s0) := by
  refine Ct_of [some (.ref 28), some (gi a1), some (gi a2), some (gi a3)] (plainFor_of_name (by decide)) rfl (Nat.le_of_ble_eq_true rfl) rfl (by decide) q_rG ?_
  unfold Path_add at h
  refine G_aload_n (g_da dt_Path_add 0 rfl) rfl rfl ?_
  refine H_getI (g_da dt_Path_add 1 rfl) sh_28 fl_10_28 rfl (hJc 28 rfl) ?_
  refine G_sipush (g_da dt_Path_add 2 rfl) s16w_200 ?_
  refine G_icmp_ge (g_da dt_Path_add 3 rfl) rfl rfl w_200 (fun hc1 => ?_) (fun hc1 => ?_)
  · have h := o_t hc1 h
    exact G_return (g_da dt_Path_add 28 rfl) rfl rfl (g_nz rfl) (q_g h)
  · have h := o_f hc1 h
    refine G_aload_n (g_da dt_Path_add 4 rfl) rfl rfl ?_
    refine G_getR (g_da dt_Path_add 5 rfl) sh_28 fl_10_9 rfl ?_
    refine G_aload_n (g_da dt_Path_add 6 rfl) rfl rfl ?_
    refine H_getI (g_da dt_Path_add 7 rfl) sh_28 fl_10_28 rfl (hJc 28 rfl) ?_
    refine G_iload_n (g_da dt_Path_add 8 rfl) rfl rfl ?_
    obtain ⟨hb2, h⟩ := o_g h
    refine H_iastore (g_da dt_Path_add 9 rfl) sh_29 (hJc 29 rfl) rfl hb2 rfl (fun s3 e4 => ?_)
    have h := o_l h s3 e4
    refine G_aload_n (g_da dt_Path_add 10 rfl) rfl rfl ?_
    refine G_getR (g_da dt_Path_add 11 rfl) sh_28 fl_10_15 rfl ?_
    refine G_aload_n (g_da dt_Path_add 12 rfl) rfl rfl ?_
    refine H_getI (g_da dt_Path_add 13 rfl) sh_28 fl_10_28 rfl (hJc 28 rfl) ?_
    refine G_iload_n (g_da dt_Path_add 14 rfl) rfl rfl ?_
    obtain ⟨hb5, h⟩ := o_g h
    refine H_iastore (g_da dt_Path_add 15 rfl) sh_30 (hJc 30 rfl) rfl hb5 rfl (fun s6 e7 => ?_)
    have h := o_l h s6 e7
    refine G_aload_n (g_da dt_Path_add 16 rfl) rfl rfl ?_
    refine G_getR (g_da dt_Path_add 17 rfl) sh_28 fl_10_18 rfl ?_
    refine G_aload_n (g_da dt_Path_add 18 rfl) rfl rfl ?_
    refine H_getI (g_da dt_Path_add 19 rfl) sh_28 fl_10_28 rfl (hJc 28 rfl) ?_
    refine G_iload_n (g_da dt_Path_add 20 rfl) rfl rfl ?_
    obtain ⟨hb8, h⟩ := o_g h
    refine H_zastore (g_da dt_Path_add 21 rfl) sh_31 (hJc 31 rfl) rfl hb8 rfl (fun s9 e10 => ?_)
    have h := o_l h s9 e10
    refine G_aload_n (g_da dt_Path_add 22 rfl) rfl rfl ?_
    refine G_dup (g_da dt_Path_add 23 rfl) rfl ?_
    refine H_getI (g_da dt_Path_add 24 rfl) sh_28 fl_10_28 rfl (hJc 28 rfl) ?_
    refine G_iconst (g_da dt_Path_add 25 rfl) ?_
    refine G_iadd (g_da dt_Path_add 26 rfl) ?_
    refine H_putI (g_da dt_Path_add 27 rfl) sh_28 fp_10_28 rfl (hJc 28 rfl) (fun s11 e12 => ?_)
    have h := o_l h s11 e12
    exact G_return (g_da dt_Path_add 28 rfl) rfl rfl (g_nz rfl) (q_g h)
set_option maxHeartbeats 4000000 in
set_option maxRecDepth 100000 in
theorem Path_begin_ok {J : gS → gS} (hJc : g_jc J) {z0 : Int} {s0 : gS} {a1 a2 : Int} {s : gS} (h : Path_begin a1 a2 s = some (z0, s0)) : Ct M_Path_begin g_S [.ref 28, gi a1, gi a2] (J s) (QG g_S J z0 s0) := by
  refine Ct_of [some (.ref 28), some (gi a1), some (gi a2)] (plainFor_of_name (by decide)) rfl (Nat.le_of_ble_eq_true rfl) rfl (by decide) q_rG ?_
  unfold Path_begin at h
  refine G_aload_n (g_da dt_Path_begin 0 rfl) rfl rfl ?_
  refine G_aload_n (g_da dt_Path_begin 1 rfl) rfl rfl ?_
  refine H_getI (g_da dt_Path_begin 2 rfl) sh_28 fl_10_28 rfl (hJc 28 rfl) ?_
  refine H_putI (g_da dt_Path_begin 3 rfl) sh_28 fp_10_32 rfl (hJc 28 rfl) (fun s1 e2 => ?_)
  have h := o_l h s1 e2
  refine G_aload_n (g_da dt_Path_begin 4 rfl) rfl rfl ?_
  refine G_iconst (g_da dt_Path_begin 5 rfl) ?_
  refine H_putZ (g_da dt_Path_begin 6 rfl) sh_28 fp_10_35 rfl (hJc 28 rfl) (Or.inl w_0) (fun s3 e4 => ?_)
  have h := o_l h s3 e4
  refine G_aload_n (g_da dt_Path_begin 7 rfl) rfl rfl ?_
  refine G_iload_n (g_da dt_Path_begin 8 rfl) rfl rfl ?_
  refine G_iload_n (g_da dt_Path_begin 9 rfl) rfl rfl ?_
  refine G_iconst (g_da dt_Path_begin 10 rfl) ?_
  obtain ⟨r5, s6, hc7, h⟩ := o_b h
  refine H_cVG (Path_add_ok hJc hc7) (g_da dt_Path_begin 11 rfl) lk_10_39 mv_Path_add rfl sh_28 rfl rfl rfl rfl rfl rfl ?_
  exact G_return (g_da dt_Path_begin 12 rfl) rfl rfl (g_nz rfl) (q_g h)
set_option maxHeartbeats 4000000 in
set_option maxRecDepth 100000 in
theorem Path_goOn_ok {J : gS → gS} (hJc : g_jc J) {z0 : Int} {s0 : gS} {s : gS} (h : Path_goOn s = some (z0, s0)) : Ct M_Path_goOn g_S [.ref 28] (J s) (QG g_S J z0 s0) := by
  refine Ct_of [some (.ref 28)] (plainFor_of_name (by decide)) rfl (Nat.le_of_ble_eq_true rfl) rfl (by decide) q_rG ?_
  unfold Path_goOn at h
  refine G_aload_n (g_da dt_Path_goOn 0 rfl) rfl rfl ?_
  refine H_getI (g_da dt_Path_goOn 1 rfl) sh_28 fl_10_35 rfl (hJc 28 rfl) ?_
  refine G_if_eq (g_da dt_Path_goOn 2 rfl) rfl rfl  (fun hc1 => ?_) (fun hc1 => ?_)
  · have h := o_t hc1 h
    exact G_return (g_da dt_Path_goOn 15 rfl) rfl rfl (g_nz rfl) (q_g h)
  · have h := o_f hc1 h
    refine G_aload_n (g_da dt_Path_goOn 3 rfl) rfl rfl ?_
    refine G_aload_n (g_da dt_Path_goOn 4 rfl) rfl rfl ?_
    refine G_getR (g_da dt_Path_goOn 5 rfl) sh_28 fl_10_9 rfl ?_
    refine G_aload_n (g_da dt_Path_goOn 6 rfl) rfl rfl ?_
    refine H_getI (g_da dt_Path_goOn 7 rfl) sh_28 fl_10_32 rfl (hJc 28 rfl) ?_
    obtain ⟨hb2, h⟩ := o_g h
    refine H_iaload (g_da dt_Path_goOn 8 rfl) sh_29 (hJc 29 rfl) rfl hb2 rfl ?_
    refine G_aload_n (g_da dt_Path_goOn 9 rfl) rfl rfl ?_
    refine G_getR (g_da dt_Path_goOn 10 rfl) sh_28 fl_10_15 rfl ?_
    refine G_aload_n (g_da dt_Path_goOn 11 rfl) rfl rfl ?_
    refine H_getI (g_da dt_Path_goOn 12 rfl) sh_28 fl_10_32 rfl (hJc 28 rfl) ?_
    obtain ⟨hb3, h⟩ := o_g h
    refine H_iaload (g_da dt_Path_goOn 13 rfl) sh_30 (hJc 30 rfl) rfl hb3 rfl ?_
    obtain ⟨r4, s5, hc6, h⟩ := o_b h
    refine H_cVG (Path_begin_ok hJc hc6) (g_da dt_Path_goOn 14 rfl) lk_10_63 mv_Path_begin rfl sh_28 rfl rfl rfl rfl rfl rfl ?_
    exact G_return (g_da dt_Path_goOn 15 rfl) rfl rfl (g_nz rfl) (q_g h)
set_option maxHeartbeats 4000000 in
set_option maxRecDepth 100000 in
theorem Path_lineTo_ok {J : gS → gS} (hJc : g_jc J) {z0 : Int} {s0 : gS} {a1 a2 : Int} {s : gS} (h : Path_lineTo a1 a2 s = some (z0, s0)) : Ct M_Path_lineTo g_S [.ref 28, gi a1, gi a2] (J s) (QG g_S J z0 s0) := by
  refine Ct_of [some (.ref 28), some (gi a1), some (gi a2)] (plainFor_of_name (by decide)) rfl (Nat.le_of_ble_eq_true rfl) rfl (by decide) q_rG ?_
  unfold Path_lineTo at h
  refine G_aload_n (g_da dt_Path_lineTo 0 rfl) rfl rfl ?_
  obtain ⟨r1, s2, hc3, h⟩ := o_b h
  refine H_cVG (Path_goOn_ok hJc hc3) (g_da dt_Path_lineTo 1 rfl) lk_10_43 mv_Path_goOn rfl sh_28 rfl rfl rfl rfl rfl rfl ?_
  refine G_aload_n (g_da dt_Path_lineTo 2 rfl) rfl rfl ?_
  refine G_iload_n (g_da dt_Path_lineTo 3 rfl) rfl rfl ?_
  refine G_iload_n (g_da dt_Path_lineTo 4 rfl) rfl rfl ?_
  refine G_iconst (g_da dt_Path_lineTo 5 rfl) ?_
  obtain ⟨r4, s5, hc6, h⟩ := o_b h
  refine H_cVG (Path_add_ok hJc hc6) (g_da dt_Path_lineTo 6 rfl) lk_10_39 mv_Path_add rfl sh_28 rfl rfl rfl rfl rfl rfl ?_
  exact G_return (g_da dt_Path_lineTo 7 rfl) rfl rfl (g_nz rfl) (q_g h)
set_option maxHeartbeats 4000000 in
set_option maxRecDepth 100000 in
theorem Path_bend_ok {J : gS → gS} (hJc : g_jc J) {z0 : Int} {s0 : gS} {a1 a2 a3 : Int} {s : gS} (h : Path_bend a1 a2 a3 s = some (z0, s0)) : Ct M_Path_bend g_S [.ref 28, gi a1, gi a2, gi a3] (J s) (QG g_S J z0 s0) := by
  refine Ct_of [some (.ref 28), some (gi a1), some (gi a2), some (gi a3)] (plainFor_of_name (by decide)) rfl (Nat.le_of_ble_eq_true rfl) rfl (by decide) q_rG ?_
  unfold Path_bend at h
  refine G_aload_n (g_da dt_Path_bend 0 rfl) rfl rfl ?_
  refine G_getR (g_da dt_Path_bend 1 rfl) sh_28 fl_10_22 rfl ?_
  refine G_iload_n (g_da dt_Path_bend 2 rfl) rfl rfl ?_
  refine G_bipush (g_da dt_Path_bend 3 rfl) b8w_8 ?_
  refine G_imul (g_da dt_Path_bend 4 rfl) ?_
  refine G_iload_n (g_da dt_Path_bend 5 rfl) rfl rfl ?_
  obtain ⟨hb1, h⟩ := o_g h
  refine H_iastore (g_da dt_Path_bend 6 rfl) sh_32 (hJc 32 rfl) rfl hb1 rfl (fun s2 e3 => ?_)
  have h := o_l h s2 e3
  refine G_aload_n (g_da dt_Path_bend 7 rfl) rfl rfl ?_
  refine G_getR (g_da dt_Path_bend 8 rfl) sh_28 fl_10_25 rfl ?_
  refine G_iload_n (g_da dt_Path_bend 9 rfl) rfl rfl ?_
  refine G_bipush (g_da dt_Path_bend 10 rfl) b8w_8 ?_
  refine G_imul (g_da dt_Path_bend 11 rfl) ?_
  refine G_iload_n (g_da dt_Path_bend 12 rfl) rfl rfl ?_
  obtain ⟨hb4, h⟩ := o_g h
  refine H_iastore (g_da dt_Path_bend 13 rfl) sh_33 (hJc 33 rfl) rfl hb4 rfl (fun s5 e6 => ?_)
  have h := o_l h s5 e6
  exact G_return (g_da dt_Path_bend 14 rfl) rfl rfl (g_nz rfl) (q_g h)
set_option maxHeartbeats 4000000 in
set_option maxRecDepth 100000 in
theorem Path_middle_ok {J : gS → gS} {z0 : Int} {s0 : gS} {a0 a1 : Int} {s : gS} (h : Path_middle a0 a1 s = some (z0, s0)) : Ct M_Path_middle g_S [gi a0, gi a1] (J s) (QE g_S J z0 s0) := by
  refine Ct_of [some (gi a0), some (gi a1)] (plainFor_of_name (by decide)) rfl (Nat.le_of_ble_eq_true rfl) rfl (by decide) q_rE ?_
  unfold Path_middle at h
  refine G_iload_n (g_da dt_Path_middle 0 rfl) rfl rfl ?_
  refine G_iload_n (g_da dt_Path_middle 1 rfl) rfl rfl ?_
  refine G_iadd (g_da dt_Path_middle 2 rfl) ?_
  refine G_iconst (g_da dt_Path_middle 3 rfl) ?_
  refine G_ishr (g_da dt_Path_middle 4 rfl) ?_
  exact G_ireturn (g_da dt_Path_middle 5 rfl) rfl rfl rfl (g_nz rfl) (q_e h)
set_option maxHeartbeats 4000000 in
set_option maxRecDepth 100000 in
theorem Path_halve_ok {J : gS → gS} (hJc : g_jc J) {z0 : Int} {s0 : gS} {a1 a2 : Int} {s : gS} (h : Path_halve a1 a2 s = some (z0, s0)) : Ct M_Path_halve g_S [.ref 32, gi a1, gi a2] (J s) (QG g_S J z0 s0) := by
  refine Ct_of [some (.ref 32), some (gi a1), some (gi a2), none, none, none, none, none, none] (plainFor_of_name (by decide)) rfl (Nat.le_of_ble_eq_true rfl) rfl (by decide) q_rG ?_
  unfold Path_halve at h
  refine G_iload_n (g_da dt_Path_halve 0 rfl) rfl rfl ?_
  refine G_iconst (g_da dt_Path_halve 1 rfl) ?_
  refine G_idiv (g_da dt_Path_halve 2 rfl) (by rw [w_2]; decide) ?_
  refine H_topi (fun v2 e3 => ?_)
  have h := o_l h v2 e3
  refine G_istore_n (lv' := [_, _, _, _, none, none, none, none, none]) (g_da dt_Path_halve 3 rfl) rfl (Nat.le_of_ble_eq_true rfl) rfl rfl ?_
  refine G_aload_n (g_da dt_Path_halve 4 rfl) rfl rfl ?_
  refine G_iload_n (g_da dt_Path_halve 5 rfl) rfl rfl ?_
  obtain ⟨hb4, h⟩ := o_g h
  refine H_iaload (g_da dt_Path_halve 6 rfl) sh_32 (hJc 32 rfl) rfl hb4 rfl ?_
  refine G_aload_n (g_da dt_Path_halve 7 rfl) rfl rfl ?_
  refine G_iload_n (g_da dt_Path_halve 8 rfl) rfl rfl ?_
  refine G_iload_n (g_da dt_Path_halve 9 rfl) rfl rfl ?_
  refine G_iadd (g_da dt_Path_halve 10 rfl) ?_
  obtain ⟨hb5, h⟩ := o_g h
  refine H_iaload (g_da dt_Path_halve 11 rfl) sh_32 (hJc 32 rfl) rfl hb5 rfl ?_
  obtain ⟨r6, s7, hc8, h⟩ := o_b h
  refine H_cSE (Path_middle_ok hc8) (g_da dt_Path_halve 12 rfl) lk_10_60 ms_Path_middle rfl rfl rfl rfl rfl rfl ?_
  refine G_istore (lv' := [_, _, _, _, _, none, none, none, none]) (g_da dt_Path_halve 13 rfl) (Nat.le_of_ble_eq_true rfl) rfl rfl ?_
  refine G_aload_n (g_da dt_Path_halve 14 rfl) rfl rfl ?_
  refine G_iload_n (g_da dt_Path_halve 15 rfl) rfl rfl ?_
  refine G_iload_n (g_da dt_Path_halve 16 rfl) rfl rfl ?_
  refine G_iadd (g_da dt_Path_halve 17 rfl) ?_
  obtain ⟨hb9, h⟩ := o_g h
  refine H_iaload (g_da dt_Path_halve 18 rfl) sh_32 (hJc 32 rfl) rfl hb9 rfl ?_
  refine G_aload_n (g_da dt_Path_halve 19 rfl) rfl rfl ?_
  refine G_iload_n (g_da dt_Path_halve 20 rfl) rfl rfl ?_
  refine G_iconst (g_da dt_Path_halve 21 rfl) ?_
  refine G_iload_n (g_da dt_Path_halve 22 rfl) rfl rfl ?_
  refine G_imul (g_da dt_Path_halve 23 rfl) ?_
  refine G_iadd (g_da dt_Path_halve 24 rfl) ?_
  obtain ⟨hb10, h⟩ := o_g h
  refine H_iaload (g_da dt_Path_halve 25 rfl) sh_32 (hJc 32 rfl) rfl hb10 rfl ?_
  obtain ⟨r11, s12, hc13, h⟩ := o_b h
  refine H_cSE (Path_middle_ok hc13) (g_da dt_Path_halve 26 rfl) lk_10_60 ms_Path_middle rfl rfl rfl rfl rfl rfl ?_
  refine G_istore (lv' := [_, _, _, _, _, _, none, none, none]) (g_da dt_Path_halve 27 rfl) (Nat.le_of_ble_eq_true rfl) rfl rfl ?_
  refine G_aload_n (g_da dt_Path_halve 28 rfl) rfl rfl ?_
  refine G_iload_n (g_da dt_Path_halve 29 rfl) rfl rfl ?_
  refine G_iconst (g_da dt_Path_halve 30 rfl) ?_
  refine G_iload_n (g_da dt_Path_halve 31 rfl) rfl rfl ?_
  refine G_imul (g_da dt_Path_halve 32 rfl) ?_
  refine G_iadd (g_da dt_Path_halve 33 rfl) ?_
  obtain ⟨hb14, h⟩ := o_g h
  refine H_iaload (g_da dt_Path_halve 34 rfl) sh_32 (hJc 32 rfl) rfl hb14 rfl ?_
  refine G_aload_n (g_da dt_Path_halve 35 rfl) rfl rfl ?_
  refine G_iload_n (g_da dt_Path_halve 36 rfl) rfl rfl ?_
  refine G_iconst (g_da dt_Path_halve 37 rfl) ?_
  refine G_iload_n (g_da dt_Path_halve 38 rfl) rfl rfl ?_
  refine G_imul (g_da dt_Path_halve 39 rfl) ?_
  refine G_iadd (g_da dt_Path_halve 40 rfl) ?_
  obtain ⟨hb15, h⟩ := o_g h
  refine H_iaload (g_da dt_Path_halve 41 rfl) sh_32 (hJc 32 rfl) rfl hb15 rfl ?_
  obtain ⟨r16, s17, hc18, h⟩ := o_b h
  refine H_cSE (Path_middle_ok hc18) (g_da dt_Path_halve 42 rfl) lk_10_60 ms_Path_middle rfl rfl rfl rfl rfl rfl ?_
  refine G_istore (lv' := [_, _, _, _, _, _, _, none, none]) (g_da dt_Path_halve 43 rfl) (Nat.le_of_ble_eq_true rfl) rfl rfl ?_
  refine G_iload (g_da dt_Path_halve 44 rfl) rfl ?_
  refine G_iload (g_da dt_Path_halve 45 rfl) rfl ?_
  obtain ⟨r19, s20, hc21, h⟩ := o_b h
  refine H_cSE (Path_middle_ok hc21) (g_da dt_Path_halve 46 rfl) lk_10_60 ms_Path_middle rfl rfl rfl rfl rfl rfl ?_
  refine G_istore (lv' := [_, _, _, _, _, _, _, _, none]) (g_da dt_Path_halve 47 rfl) (Nat.le_of_ble_eq_true rfl) rfl rfl ?_
  refine G_iload (g_da dt_Path_halve 48 rfl) rfl ?_
  refine G_iload (g_da dt_Path_halve 49 rfl) rfl ?_
  obtain ⟨r22, s23, hc24, h⟩ := o_b h
  refine H_cSE (Path_middle_ok hc24) (g_da dt_Path_halve 50 rfl) lk_10_60 ms_Path_middle rfl rfl rfl rfl rfl rfl ?_
  refine G_istore (lv' := [_, _, _, _, _, _, _, _, _]) (g_da dt_Path_halve 51 rfl) (Nat.le_of_ble_eq_true rfl) rfl rfl ?_
  refine G_aload_n (g_da dt_Path_halve 52 rfl) rfl rfl ?_
  refine G_iload_n (g_da dt_Path_halve 53 rfl) rfl rfl ?_
  refine G_iload_n (g_da dt_Path_halve 54 rfl) rfl rfl ?_
  refine G_iadd (g_da dt_Path_halve 55 rfl) ?_
  refine G_iload (g_da dt_Path_halve 56 rfl) rfl ?_
  obtain ⟨hb25, h⟩ := o_g h
  refine H_iastore (g_da dt_Path_halve 57 rfl) sh_32 (hJc 32 rfl) rfl hb25 rfl (fun s26 e27 => ?_)
  have h := o_l h s26 e27
  refine G_aload_n (g_da dt_Path_halve 58 rfl) rfl rfl ?_
  refine G_iload_n (g_da dt_Path_halve 59 rfl) rfl rfl ?_
  refine G_iconst (g_da dt_Path_halve 60 rfl) ?_
  refine G_iload_n (g_da dt_Path_halve 61 rfl) rfl rfl ?_
  refine G_imul (g_da dt_Path_halve 62 rfl) ?_
  refine G_iadd (g_da dt_Path_halve 63 rfl) ?_
  refine G_iload (g_da dt_Path_halve 64 rfl) rfl ?_
  obtain ⟨hb28, h⟩ := o_g h
  refine H_iastore (g_da dt_Path_halve 65 rfl) sh_32 (hJc 32 rfl) rfl hb28 rfl (fun s29 e30 => ?_)
  have h := o_l h s29 e30
  refine G_aload_n (g_da dt_Path_halve 66 rfl) rfl rfl ?_
  refine G_iload_n (g_da dt_Path_halve 67 rfl) rfl rfl ?_
  refine G_iconst (g_da dt_Path_halve 68 rfl) ?_
  refine G_iload_n (g_da dt_Path_halve 69 rfl) rfl rfl ?_
  refine G_imul (g_da dt_Path_halve 70 rfl) ?_
  refine G_iadd (g_da dt_Path_halve 71 rfl) ?_
  refine G_iload (g_da dt_Path_halve 72 rfl) rfl ?_
  refine G_iload (g_da dt_Path_halve 73 rfl) rfl ?_
  obtain ⟨r31, s32, hc33, h⟩ := o_b h
  refine H_cSE (Path_middle_ok hc33) (g_da dt_Path_halve 74 rfl) lk_10_60 ms_Path_middle rfl rfl rfl rfl rfl rfl ?_
  obtain ⟨hb34, h⟩ := o_g h
  refine H_iastore (g_da dt_Path_halve 75 rfl) sh_32 (hJc 32 rfl) rfl hb34 rfl (fun s35 e36 => ?_)
  have h := o_l h s35 e36
  refine G_aload_n (g_da dt_Path_halve 76 rfl) rfl rfl ?_
  refine G_iload_n (g_da dt_Path_halve 77 rfl) rfl rfl ?_
  refine G_iconst (g_da dt_Path_halve 78 rfl) ?_
  refine G_iload_n (g_da dt_Path_halve 79 rfl) rfl rfl ?_
  refine G_imul (g_da dt_Path_halve 80 rfl) ?_
  refine G_iadd (g_da dt_Path_halve 81 rfl) ?_
  refine G_iload (g_da dt_Path_halve 82 rfl) rfl ?_
  obtain ⟨hb37, h⟩ := o_g h
  refine H_iastore (g_da dt_Path_halve 83 rfl) sh_32 (hJc 32 rfl) rfl hb37 rfl (fun s38 e39 => ?_)
  have h := o_l h s38 e39
  refine G_aload_n (g_da dt_Path_halve 84 rfl) rfl rfl ?_
  refine G_iload_n (g_da dt_Path_halve 85 rfl) rfl rfl ?_
  refine G_iconst (g_da dt_Path_halve 86 rfl) ?_
  refine G_iload_n (g_da dt_Path_halve 87 rfl) rfl rfl ?_
  refine G_imul (g_da dt_Path_halve 88 rfl) ?_
  refine G_iadd (g_da dt_Path_halve 89 rfl) ?_
  refine G_iload (g_da dt_Path_halve 90 rfl) rfl ?_
  obtain ⟨hb40, h⟩ := o_g h
  refine H_iastore (g_da dt_Path_halve 91 rfl) sh_32 (hJc 32 rfl) rfl hb40 rfl (fun s41 e42 => ?_)
  have h := o_l h s41 e42
  exact G_return (g_da dt_Path_halve 92 rfl) rfl rfl (g_nz rfl) (q_g h)
set_option maxHeartbeats 4000000 in
set_option maxRecDepth 100000 in
theorem Path_halve_b_ok {J : gS → gS} (hJc : g_jc J) {z0 : Int} {s0 : gS} {a1 a2 : Int} {s : gS} (h : Path_halve_b a1 a2 s = some (z0, s0)) : Ct M_Path_halve g_S [.ref 33, gi a1, gi a2] (J s) (QG g_S J z0 s0) := by
  refine Ct_of [some (.ref 33), some (gi a1), some (gi a2), none, none, none, none, none, none] (plainFor_of_name (by decide)) rfl (Nat.le_of_ble_eq_true rfl) rfl (by decide) q_rG ?_
  unfold Path_halve_b at h
  refine G_iload_n (g_da dt_Path_halve 0 rfl) rfl rfl ?_
  refine G_iconst (g_da dt_Path_halve 1 rfl) ?_
  refine G_idiv (g_da dt_Path_halve 2 rfl) (by rw [w_2]; decide) ?_
  refine H_topi (fun v2 e3 => ?_)
  have h := o_l h v2 e3
  refine G_istore_n (lv' := [_, _, _, _, none, none, none, none, none]) (g_da dt_Path_halve 3 rfl) rfl (Nat.le_of_ble_eq_true rfl) rfl rfl ?_
  refine G_aload_n (g_da dt_Path_halve 4 rfl) rfl rfl ?_
  refine G_iload_n (g_da dt_Path_halve 5 rfl) rfl rfl ?_
  obtain ⟨hb4, h⟩ := o_g h
  refine H_iaload (g_da dt_Path_halve 6 rfl) sh_33 (hJc 33 rfl) rfl hb4 rfl ?_
  refine G_aload_n (g_da dt_Path_halve 7 rfl) rfl rfl ?_
  refine G_iload_n (g_da dt_Path_halve 8 rfl) rfl rfl ?_
  refine G_iload_n (g_da dt_Path_halve 9 rfl) rfl rfl ?_
  refine G_iadd (g_da dt_Path_halve 10 rfl) ?_
  obtain ⟨hb5, h⟩ := o_g h
  refine H_iaload (g_da dt_Path_halve 11 rfl) sh_33 (hJc 33 rfl) rfl hb5 rfl ?_
  obtain ⟨r6, s7, hc8, h⟩ := o_b h
  refine H_cSE (Path_middle_ok hc8) (g_da dt_Path_halve 12 rfl) lk_10_60 ms_Path_middle rfl rfl rfl rfl rfl rfl ?_
  refine G_istore (lv' := [_, _, _, _, _, none, none, none, none]) (g_da dt_Path_halve 13 rfl) (Nat.le_of_ble_eq_true rfl) rfl rfl ?_
  refine G_aload_n (g_da dt_Path_halve 14 rfl) rfl rfl ?_
  refine G_iload_n (g_da dt_Path_halve 15 rfl) rfl rfl ?_
  refine G_iload_n (g_da dt_Path_halve 16 rfl) rfl rfl ?_
  refine G_iadd (g_da dt_Path_halve 17 rfl) ?_
  obtain ⟨hb9, h⟩ := o_g h
  refine H_iaload (g_da dt_Path_halve 18 rfl) sh_33 (hJc 33 rfl) rfl hb9 rfl ?_
  refine G_aload_n (g_da dt_Path_halve 19 rfl) rfl rfl ?_
  refine G_iload_n (g_da dt_Path_halve 20 rfl) rfl rfl ?_
  refine G_iconst (g_da dt_Path_halve 21 rfl) ?_
  refine G_iload_n (g_da dt_Path_halve 22 rfl) rfl rfl ?_
  refine G_imul (g_da dt_Path_halve 23 rfl) ?_
  refine G_iadd (g_da dt_Path_halve 24 rfl) ?_
  obtain ⟨hb10, h⟩ := o_g h
  refine H_iaload (g_da dt_Path_halve 25 rfl) sh_33 (hJc 33 rfl) rfl hb10 rfl ?_
  obtain ⟨r11, s12, hc13, h⟩ := o_b h
  refine H_cSE (Path_middle_ok hc13) (g_da dt_Path_halve 26 rfl) lk_10_60 ms_Path_middle rfl rfl rfl rfl rfl rfl ?_
  refine G_istore (lv' := [_, _, _, _, _, _, none, none, none]) (g_da dt_Path_halve 27 rfl) (Nat.le_of_ble_eq_true rfl) rfl rfl ?_
  refine G_aload_n (g_da dt_Path_halve 28 rfl) rfl rfl ?_
  refine G_iload_n (g_da dt_Path_halve 29 rfl) rfl rfl ?_
  refine G_iconst (g_da dt_Path_halve 30 rfl) ?_
  refine G_iload_n (g_da dt_Path_halve 31 rfl) rfl rfl ?_
  refine G_imul (g_da dt_Path_halve 32 rfl) ?_
  refine G_iadd (g_da dt_Path_halve 33 rfl) ?_
  obtain ⟨hb14, h⟩ := o_g h
  refine H_iaload (g_da dt_Path_halve 34 rfl) sh_33 (hJc 33 rfl) rfl hb14 rfl ?_
  refine G_aload_n (g_da dt_Path_halve 35 rfl) rfl rfl ?_
  refine G_iload_n (g_da dt_Path_halve 36 rfl) rfl rfl ?_
  refine G_iconst (g_da dt_Path_halve 37 rfl) ?_
  refine G_iload_n (g_da dt_Path_halve 38 rfl) rfl rfl ?_
  refine G_imul (g_da dt_Path_halve 39 rfl) ?_
  refine G_iadd (g_da dt_Path_halve 40 rfl) ?_
  obtain ⟨hb15, h⟩ := o_g h
  refine H_iaload (g_da dt_Path_halve 41 rfl) sh_33 (hJc 33 rfl) rfl hb15 rfl ?_
  obtain ⟨r16, s17, hc18, h⟩ := o_b h
  refine H_cSE (Path_middle_ok hc18) (g_da dt_Path_halve 42 rfl) lk_10_60 ms_Path_middle rfl rfl rfl rfl rfl rfl ?_
  refine G_istore (lv' := [_, _, _, _, _, _, _, none, none]) (g_da dt_Path_halve 43 rfl) (Nat.le_of_ble_eq_true rfl) rfl rfl ?_
  refine G_iload (g_da dt_Path_halve 44 rfl) rfl ?_
  refine G_iload (g_da dt_Path_halve 45 rfl) rfl ?_
  obtain ⟨r19, s20, hc21, h⟩ := o_b h
  refine H_cSE (Path_middle_ok hc21) (g_da dt_Path_halve 46 rfl) lk_10_60 ms_Path_middle rfl rfl rfl rfl rfl rfl ?_
  refine G_istore (lv' := [_, _, _, _, _, _, _, _, none]) (g_da dt_Path_halve 47 rfl) (Nat.le_of_ble_eq_true rfl) rfl rfl ?_
  refine G_iload (g_da dt_Path_halve 48 rfl) rfl ?_
  refine G_iload (g_da dt_Path_halve 49 rfl) rfl ?_
  obtain ⟨r22, s23, hc24, h⟩ := o_b h
  refine H_cSE (Path_middle_ok hc24) (g_da dt_Path_halve 50 rfl) lk_10_60 ms_Path_middle rfl rfl rfl rfl rfl rfl ?_
  refine G_istore (lv' := [_, _, _, _, _, _, _, _, _]) (g_da dt_Path_halve 51 rfl) (Nat.le_of_ble_eq_true rfl) rfl rfl ?_
  refine G_aload_n (g_da dt_Path_halve 52 rfl) rfl rfl ?_
  refine G_iload_n (g_da dt_Path_halve 53 rfl) rfl rfl ?_
  refine G_iload_n (g_da dt_Path_halve 54 rfl) rfl rfl ?_
  refine G_iadd (g_da dt_Path_halve 55 rfl) ?_
  refine G_iload (g_da dt_Path_halve 56 rfl) rfl ?_
  obtain ⟨hb25, h⟩ := o_g h
  refine H_iastore (g_da dt_Path_halve 57 rfl) sh_33 (hJc 33 rfl) rfl hb25 rfl (fun s26 e27 => ?_)
  have h := o_l h s26 e27
  refine G_aload_n (g_da dt_Path_halve 58 rfl) rfl rfl ?_
  refine G_iload_n (g_da dt_Path_halve 59 rfl) rfl rfl ?_
  refine G_iconst (g_da dt_Path_halve 60 rfl) ?_
  refine G_iload_n (g_da dt_Path_halve 61 rfl) rfl rfl ?_
  refine G_imul (g_da dt_Path_halve 62 rfl) ?_
  refine G_iadd (g_da dt_Path_halve 63 rfl) ?_
  refine G_iload (g_da dt_Path_halve 64 rfl) rfl ?_
  obtain ⟨hb28, h⟩ := o_g h
  refine H_iastore (g_da dt_Path_halve 65 rfl) sh_33 (hJc 33 rfl) rfl hb28 rfl (fun s29 e30 => ?_)
  have h := o_l h s29 e30
  refine G_aload_n (g_da dt_Path_halve 66 rfl) rfl rfl ?_
  refine G_iload_n (g_da dt_Path_halve 67 rfl) rfl rfl ?_
  refine G_iconst (g_da dt_Path_halve 68 rfl) ?_
  refine G_iload_n (g_da dt_Path_halve 69 rfl) rfl rfl ?_
  refine G_imul (g_da dt_Path_halve 70 rfl) ?_
  refine G_iadd (g_da dt_Path_halve 71 rfl) ?_
  refine G_iload (g_da dt_Path_halve 72 rfl) rfl ?_
  refine G_iload (g_da dt_Path_halve 73 rfl) rfl ?_
  obtain ⟨r31, s32, hc33, h⟩ := o_b h
  refine H_cSE (Path_middle_ok hc33) (g_da dt_Path_halve 74 rfl) lk_10_60 ms_Path_middle rfl rfl rfl rfl rfl rfl ?_
  obtain ⟨hb34, h⟩ := o_g h
  refine H_iastore (g_da dt_Path_halve 75 rfl) sh_33 (hJc 33 rfl) rfl hb34 rfl (fun s35 e36 => ?_)
  have h := o_l h s35 e36
  refine G_aload_n (g_da dt_Path_halve 76 rfl) rfl rfl ?_
  refine G_iload_n (g_da dt_Path_halve 77 rfl) rfl rfl ?_
  refine G_iconst (g_da dt_Path_halve 78 rfl) ?_
  refine G_iload_n (g_da dt_Path_halve 79 rfl) rfl rfl ?_
  refine G_imul (g_da dt_Path_halve 80 rfl) ?_
  refine G_iadd (g_da dt_Path_halve 81 rfl) ?_
  refine G_iload (g_da dt_Path_halve 82 rfl) rfl ?_
  obtain ⟨hb37, h⟩ := o_g h
  refine H_iastore (g_da dt_Path_halve 83 rfl) sh_33 (hJc 33 rfl) rfl hb37 rfl (fun s38 e39 => ?_)
  have h := o_l h s38 e39
  refine G_aload_n (g_da dt_Path_halve 84 rfl) rfl rfl ?_
  refine G_iload_n (g_da dt_Path_halve 85 rfl) rfl rfl ?_
  refine G_iconst (g_da dt_Path_halve 86 rfl) ?_
  refine G_iload_n (g_da dt_Path_halve 87 rfl) rfl rfl ?_
  refine G_imul (g_da dt_Path_halve 88 rfl) ?_
  refine G_iadd (g_da dt_Path_halve 89 rfl) ?_
  refine G_iload (g_da dt_Path_halve 90 rfl) rfl ?_
  obtain ⟨hb40, h⟩ := o_g h
  refine H_iastore (g_da dt_Path_halve 91 rfl) sh_33 (hJc 33 rfl) rfl hb40 rfl (fun s41 e42 => ?_)
  have h := o_l h s41 e42
  exact G_return (g_da dt_Path_halve 92 rfl) rfl rfl (g_nz rfl) (q_g h)
set_option maxHeartbeats 4000000 in
set_option maxRecDepth 100000 in
theorem Path_curve_42_ok {J : gS → gS} (hJc : g_jc J) {z0 : Int} {s0 : gS} {k42 : Int → Int → gS → gA} {k75 : Int → gS → gA} (hk42 : ∀ (l2 l3 : Int) (s : gS), k42 l2 l3 s = some (z0, s0) → G M_Path_curve (QG g_S J z0 s0) (g_S, 0, 0) (J s) 42 [some (.ref 28), none, some (gi l2), some (gi l3)] []) (hk75 : ∀ (l2 : Int) (s : gS), k75 l2 s = some (z0, s0) → G M_Path_curve (QG g_S J z0 s0) (g_S, 0, 0) (J s) 75 [some (.ref 28), none, some (gi l2), none] [])  {l2 l3 : Int} {s : gS} (h : Path_curve_42 k42 k75 l2 l3 s = some (z0, s0)) : G M_Path_curve (QG g_S J z0 s0) (g_S, 0, 0) (J s) 42 [some (.ref 28), none, some (gi l2), some (gi l3)] [] := by
  unfold Path_curve_42 at h
  refine G_iload_n (g_da dt_Path_curve 27 rfl) rfl rfl ?_
  refine G_bipush (g_da dt_Path_curve 28 rfl) b8w_24 ?_
  refine G_icmp_ge (g_da dt_Path_curve 29 rfl) rfl rfl w_24 (fun hc13 => ?_) (fun hc13 => ?_)
  · have h := o_t hc13 h
    exact G_subK (hk75 _ _ h) ⟨rfl, ⟨rfl, trivial⟩⟩
  · have h := o_f hc13 h
    refine G_aload_n (g_da dt_Path_curve 30 rfl) rfl rfl ?_
    refine G_getR (g_da dt_Path_curve 31 rfl) sh_28 fl_10_22 rfl ?_
    refine G_iload_n (g_da dt_Path_curve 32 rfl) rfl rfl ?_
    refine G_iload_n (g_da dt_Path_curve 33 rfl) rfl rfl ?_
    obtain ⟨r14, s15, hc16, h⟩ := o_b h
    refine H_cSG (Path_halve_ok hJc hc16) (g_da dt_Path_curve 34 rfl) lk_10_56 ms_Path_halve rfl rfl rfl rfl rfl rfl ?_
    refine G_aload_n (g_da dt_Path_curve 35 rfl) rfl rfl ?_
    refine G_getR (g_da dt_Path_curve 36 rfl) sh_28 fl_10_25 rfl ?_
    refine G_iload_n (g_da dt_Path_curve 37 rfl) rfl rfl ?_
    refine G_iload_n (g_da dt_Path_curve 38 rfl) rfl rfl ?_
    obtain ⟨r17, s18, hc19, h⟩ := o_b h
    refine H_cSG (Path_halve_b_ok hJc hc19) (g_da dt_Path_curve 39 rfl) lk_10_56 ms_Path_halve rfl rfl rfl rfl rfl rfl ?_
    refine G_iload_n (g_da dt_Path_curve 40 rfl) rfl rfl ?_
    refine G_iconst (g_da dt_Path_curve 41 rfl) ?_
    refine G_iload_n (g_da dt_Path_curve 42 rfl) rfl rfl ?_
    refine G_imul (g_da dt_Path_curve 43 rfl) ?_
    refine G_iadd (g_da dt_Path_curve 44 rfl) ?_
    refine H_topi (fun v20 e21 => ?_)
    have h := o_l h v20 e21
    refine G_istore_n (lv' := [_, none, _, _]) (g_da dt_Path_curve 45 rfl) rfl (Nat.le_of_ble_eq_true rfl) rfl rfl ?_
    refine G_goto (g_da dt_Path_curve 46 rfl) rfl ?_
    exact G_subK (hk42 _ _ _ h) ⟨rfl, ⟨rfl, ⟨rfl, trivial⟩⟩⟩
set_option maxHeartbeats 4000000 in
set_option maxRecDepth 100000 in
theorem Path_curve_42L_ok {J : gS → gS} (hJc : g_jc J) {z0 : Int} {s0 : gS} {k75 : Int → gS → gA} (hk75 : ∀ (l2 : Int) (s : gS), k75 l2 s = some (z0, s0) → G M_Path_curve (QG g_S J z0 s0) (g_S, 0, 0) (J s) 75 [some (.ref 28), none, some (gi l2), none] []) : ∀ (n : Nat) {l2 l3 : Int} {s : gS}, Path_curve_42L k75 n l2 l3 s = some (z0, s0) → G M_Path_curve (QG g_S J z0 s0) (g_S, 0, 0) (J s) 42 [some (.ref 28), none, some (gi l2), some (gi l3)] [] := by
  intro n
  induction n with
  | zero => intro _ _ _ h; cases h
  | succ n ih => intro _ _ _ h; exact Path_curve_42_ok hJc (fun _ _ _ h => ih h) hk75 h
set_option maxHeartbeats 4000000 in
set_option maxRecDepth 100000 in
theorem Path_curve_75_ok {J : gS → gS} (hJc : g_jc J) {z0 : Int} {s0 : gS} {k35 : Int → gS → gA} (hk35 : ∀ (l2 : Int) (s : gS), k35 l2 s = some (z0, s0) → G M_Path_curve (QG g_S J z0 s0) (g_S, 0, 0) (J s) 35 [some (.ref 28), none, some (gi l2), none] [])  {l2 : Int} {s : gS} (h : Path_curve_75 k35 l2 s = some (z0, s0)) : G M_Path_curve (QG g_S J z0 s0) (g_S, 0, 0) (J s) 75 [some (.ref 28), none, some (gi l2), none] [] := by
  unfold Path_curve_75 at h
  refine G_iload_n (g_da dt_Path_curve 47 rfl) rfl rfl ?_
  refine G_iconst (g_da dt_Path_curve 48 rfl) ?_
  refine G_idiv (g_da dt_Path_curve 49 rfl) (by rw [w_2]; decide) ?_
  refine H_topi (fun v23 e24 => ?_)
  have h := o_l h v23 e24
  refine G_istore_n (lv' := [_, none, _, none]) (g_da dt_Path_curve 50 rfl) rfl (Nat.le_of_ble_eq_true rfl) rfl rfl ?_
  refine G_goto (g_da dt_Path_curve 51 rfl) rfl ?_
  exact G_subK (hk35 _ _ h) ⟨rfl, ⟨rfl, trivial⟩⟩
set_option maxHeartbeats 4000000 in
set_option maxRecDepth 100000 in
theorem Path_curve_35_ok {J : gS → gS} (hJc : g_jc J) {z0 : Int} {s0 : gS} {k35 : Int → gS → gA} {k82 : gS → gA} (hk35 : ∀ (l2 : Int) (s : gS), k35 l2 s = some (z0, s0) → G M_Path_curve (QG g_S J z0 s0) (g_S, 0, 0) (J s) 35 [some (.ref 28), none, some (gi l2), none] []) (hk82 : ∀ (s : gS), k82 s = some (z0, s0) → G M_Path_curve (QG g_S J z0 s0) (g_S, 0, 0) (J s) 82 [some (.ref 28), none, none, none] [])  {l2 : Int} {s : gS} (h : Path_curve_35 k35 k82 l2 s = some (z0, s0)) : G M_Path_curve (QG g_S J z0 s0) (g_S, 0, 0) (J s) 35 [some (.ref 28), none, some (gi l2), none] [] := by
  unfold Path_curve_35 at h
  refine G_iload_n (g_da dt_Path_curve 22 rfl) rfl rfl ?_
  refine G_iconst (g_da dt_Path_curve 23 rfl) ?_
  refine G_icmp_le (g_da dt_Path_curve 24 rfl) rfl rfl w_1 (fun hc12 => ?_) (fun hc12 => ?_)
  · have h := o_t hc12 h
    exact G_subK (hk82 _ h) ⟨rfl, trivial⟩
  · have h := o_f hc12 h
    refine G_iconst (g_da dt_Path_curve 25 rfl) ?_
    refine G_istore_n (lv' := [_, none, _, _]) (g_da dt_Path_curve 26 rfl) rfl (Nat.le_of_ble_eq_true rfl) rfl rfl ?_
    exact G_subK (Path_curve_42L_ok hJc (fun _ _ h => Path_curve_75_ok hJc hk35 h) gFu h) ⟨rfl, ⟨rfl, ⟨rfl, trivial⟩⟩⟩
set_option maxHeartbeats 4000000 in
set_option maxRecDepth 100000 in
theorem Path_curve_35L_ok {J : gS → gS} (hJc : g_jc J) {z0 : Int} {s0 : gS} {k82 : gS → gA} (hk82 : ∀ (s : gS), k82 s = some (z0, s0) → G M_Path_curve (QG g_S J z0 s0) (g_S, 0, 0) (J s) 82 [some (.ref 28), none, none, none] []) : ∀ (n : Nat) {l2 : Int} {s : gS}, Path_curve_35L k82 n l2 s = some (z0, s0) → G M_Path_curve (QG g_S J z0 s0) (g_S, 0, 0) (J s) 35 [some (.ref 28), none, some (gi l2), none] [] := by
  intro n
  induction n with
  | zero => intro _ _ h; cases h
  | succ n ih => intro _ _ h; exact Path_curve_35_ok hJc (fun _ _ h => ih h) hk82 h
set_option maxHeartbeats 4000000 in
set_option maxRecDepth 100000 in
theorem Path_curve_84_ok {J : gS → gS} (hJc : g_jc J) {z0 : Int} {s0 : gS} {k84 : Int → gS → gA} (hk84 : ∀ (l2 : Int) (s : gS), k84 l2 s = some (z0, s0) → G M_Path_curve (QG g_S J z0 s0) (g_S, 0, 0) (J s) 84 [some (.ref 28), none, some (gi l2), none] [])  {l2 : Int} {s : gS} (h : Path_curve_84 k84 l2 s = some (z0, s0)) : G M_Path_curve (QG g_S J z0 s0) (g_S, 0, 0) (J s) 84 [some (.ref 28), none, some (gi l2), none] [] := by
  unfold Path_curve_84 at h
  refine G_iload_n (g_da dt_Path_curve 54 rfl) rfl rfl ?_
  refine G_bipush (g_da dt_Path_curve 55 rfl) b8w_24 ?_
  refine G_icmp_gt (g_da dt_Path_curve 56 rfl) rfl rfl w_24 (fun hc25 => ?_) (fun hc25 => ?_)
  · have h := o_t hc25 h
    exact G_return (g_da dt_Path_curve 70 rfl) rfl rfl (g_nz rfl) (q_g h)
  · have h := o_f hc25 h
    refine G_aload_n (g_da dt_Path_curve 57 rfl) rfl rfl ?_
    refine G_aload_n (g_da dt_Path_curve 58 rfl) rfl rfl ?_
    refine G_getR (g_da dt_Path_curve 59 rfl) sh_28 fl_10_22 rfl ?_
    refine G_iload_n (g_da dt_Path_curve 60 rfl) rfl rfl ?_
    obtain ⟨hb26, h⟩ := o_g h
    refine H_iaload (g_da dt_Path_curve 61 rfl) sh_32 (hJc 32 rfl) rfl hb26 rfl ?_
    refine G_aload_n (g_da dt_Path_curve 62 rfl) rfl rfl ?_
    refine G_getR (g_da dt_Path_curve 63 rfl) sh_28 fl_10_25 rfl ?_
    refine G_iload_n (g_da dt_Path_curve 64 rfl) rfl rfl ?_
    obtain ⟨hb27, h⟩ := o_g h
    refine H_iaload (g_da dt_Path_curve 65 rfl) sh_33 (hJc 33 rfl) rfl hb27 rfl ?_
    refine G_iconst (g_da dt_Path_curve 66 rfl) ?_
    obtain ⟨r28, s29, hc30, h⟩ := o_b h
    refine H_cVG (Path_add_ok hJc hc30) (g_da dt_Path_curve 67 rfl) lk_10_39 mv_Path_add rfl sh_28 rfl rfl rfl rfl rfl rfl ?_
    refine G_iinc (lv' := [_, none, _, none]) (g_da dt_Path_curve 68 rfl) rfl (Nat.le_of_ble_eq_true rfl) rfl rfl ?_
    refine G_goto (g_da dt_Path_curve 69 rfl) rfl ?_
    exact G_subK (hk84 _ _ h) ⟨rfl, ⟨rfl, trivial⟩⟩
set_option maxHeartbeats 4000000 in
set_option maxRecDepth 100000 in
theorem Path_curve_84L_ok {J : gS → gS} (hJc : g_jc J) {z0 : Int} {s0 : gS} : ∀ (n : Nat) {l2 : Int} {s : gS}, Path_curve_84L n l2 s = some (z0, s0) → G M_Path_curve (QG g_S J z0 s0) (g_S, 0, 0) (J s) 84 [some (.ref 28), none, some (gi l2), none] [] := by
  intro n
  induction n with
  | zero => intro _ _ h; cases h
  | succ n ih => intro _ _ h; exact Path_curve_84_ok hJc (fun _ _ h => ih h) h
set_option maxHeartbeats 4000000 in
set_option maxRecDepth 100000 in
theorem Path_curve_82_ok {J : gS → gS} (hJc : g_jc J) {z0 : Int} {s0 : gS}  {s : gS} (h : Path_curve_82 s = some (z0, s0)) : G M_Path_curve (QG g_S J z0 s0) (g_S, 0, 0) (J s) 82 [some (.ref 28), none, none, none] [] := by
  unfold Path_curve_82 at h
  refine G_iconst (g_da dt_Path_curve 52 rfl) ?_
  refine G_istore_n (lv' := [_, none, _, none]) (g_da dt_Path_curve 53 rfl) rfl (Nat.le_of_ble_eq_true rfl) rfl rfl ?_
  exact G_subK (Path_curve_84L_ok hJc gFu h) ⟨rfl, ⟨rfl, trivial⟩⟩
set_option maxHeartbeats 4000000 in
set_option maxRecDepth 100000 in
theorem Path_curve_ok {J : gS → gS} (hJc : g_jc J) {z0 : Int} {s0 : gS} {s : gS} (h : Path_curve s = some (z0, s0)) : Ct M_Path_curve g_S [.ref 28] (J s) (QG g_S J z0 s0) := by
  refine Ct_of [some (.ref 28), none, none, none] (plainFor_of_name (by decide)) rfl (Nat.le_of_ble_eq_true rfl) rfl (by decide) q_rG ?_
  unfold Path_curve at h
  refine G_aload_n (g_da dt_Path_curve 0 rfl) rfl rfl ?_
  obtain ⟨r1, s2, hc3, h⟩ := o_b h
  refine H_cVG (Path_goOn_ok hJc hc3) (g_da dt_Path_curve 1 rfl) lk_10_43 mv_Path_goOn rfl sh_28 rfl rfl rfl rfl rfl rfl ?_
  refine G_iconst (g_da dt_Path_curve 2 rfl) ?_
  refine G_aload_n (g_da dt_Path_curve 3 rfl) rfl rfl ?_
  refine H_getI (g_da dt_Path_curve 4 rfl) sh_28 fl_10_28 rfl (hJc 28 rfl) ?_
  refine G_iconst (g_da dt_Path_curve 5 rfl) ?_
  refine G_isub (g_da dt_Path_curve 6 rfl) ?_
  obtain ⟨r4, s5, hc6, h⟩ := o_b h
  refine H_cSE (Math_max_ok hc6) (g_da dt_Path_curve 7 rfl) lk_10_46 ms_Math_max rfl rfl rfl rfl rfl rfl ?_
  refine G_istore_n (lv' := [_, _, none, none]) (g_da dt_Path_curve 8 rfl) rfl (Nat.le_of_ble_eq_true rfl) rfl rfl ?_
  refine G_aload_n (g_da dt_Path_curve 9 rfl) rfl rfl ?_
  refine G_iconst (g_da dt_Path_curve 10 rfl) ?_
  refine G_aload_n (g_da dt_Path_curve 11 rfl) rfl rfl ?_
  refine G_getR (g_da dt_Path_curve 12 rfl) sh_28 fl_10_9 rfl ?_
  refine G_iload_n (g_da dt_Path_curve 13 rfl) rfl rfl ?_
  obtain ⟨hb7, h⟩ := o_g h
  refine H_iaload (g_da dt_Path_curve 14 rfl) sh_29 (hJc 29 rfl) rfl hb7 rfl ?_
  refine G_aload_n (g_da dt_Path_curve 15 rfl) rfl rfl ?_
  refine G_getR (g_da dt_Path_curve 16 rfl) sh_28 fl_10_15 rfl ?_
  refine G_iload_n (g_da dt_Path_curve 17 rfl) rfl rfl ?_
  obtain ⟨hb8, h⟩ := o_g h
  refine H_iaload (g_da dt_Path_curve 18 rfl) sh_30 (hJc 30 rfl) rfl hb8 rfl ?_
  obtain ⟨r9, s10, hc11, h⟩ := o_b h
  refine H_cVG (Path_bend_ok hJc hc11) (g_da dt_Path_curve 19 rfl) lk_10_52 mv_Path_bend rfl sh_28 rfl rfl rfl rfl rfl rfl ?_
  refine G_bipush (g_da dt_Path_curve 20 rfl) b8w_8 ?_
  refine G_istore_n (lv' := [_, _, _, none]) (g_da dt_Path_curve 21 rfl) rfl (Nat.le_of_ble_eq_true rfl) rfl rfl ?_
  exact G_subK (Path_curve_35L_ok hJc (fun _ h => Path_curve_82_ok hJc h) gFu h) ⟨rfl, ⟨rfl, trivial⟩⟩
set_option maxHeartbeats 4000000 in
set_option maxRecDepth 100000 in
theorem Path_clear_ok {J : gS → gS} (hJc : g_jc J) {z0 : Int} {s0 : gS} {s : gS} (h : Path_clear s = some (z0, s0)) : Ct M_Path_clear g_S [.ref 28] (J s) (QG g_S J z0 s0) := by
  refine Ct_of [some (.ref 28)] (plainFor_of_name (by decide)) rfl (Nat.le_of_ble_eq_true rfl) rfl (by decide) q_rG ?_
  unfold Path_clear at h
  refine G_aload_n (g_da dt_Path_clear 0 rfl) rfl rfl ?_
  refine G_iconst (g_da dt_Path_clear 1 rfl) ?_
  refine H_putI (g_da dt_Path_clear 2 rfl) sh_28 fp_10_28 rfl (hJc 28 rfl) (fun s1 e2 => ?_)
  have h := o_l h s1 e2
  refine G_aload_n (g_da dt_Path_clear 3 rfl) rfl rfl ?_
  refine G_iconst (g_da dt_Path_clear 4 rfl) ?_
  refine H_putI (g_da dt_Path_clear 5 rfl) sh_28 fp_10_32 rfl (hJc 28 rfl) (fun s3 e4 => ?_)
  have h := o_l h s3 e4
  refine G_aload_n (g_da dt_Path_clear 6 rfl) rfl rfl ?_
  refine G_iconst (g_da dt_Path_clear 7 rfl) ?_
  refine H_putZ (g_da dt_Path_clear 8 rfl) sh_28 fp_10_35 rfl (hJc 28 rfl) (Or.inl w_0) (fun s5 e6 => ?_)
  have h := o_l h s5 e6
  exact G_return (g_da dt_Path_clear 9 rfl) rfl rfl (g_nz rfl) (q_g h)
set_option maxHeartbeats 4000000 in
set_option maxRecDepth 100000 in
theorem Job_draw_165_ok {J : gS → gS} (hJc : g_jc J) {z0 : Int} {s0 : gS}  {l1 : Int} {s : gS} (h : Job_draw_165 l1 s = some (z0, s0)) : G M_Job_draw (QG g_S J z0 s0) (g_S, 0, 0) (J s) 165 [some (.ref 5), some (gi l1)] [] := by
  unfold Job_draw_165 at h
  refine G_aload_n (g_da dt_Job_draw 63 rfl) rfl rfl ?_
  refine G_getR (g_da dt_Job_draw 64 rfl) sh_5 fl_6_35 rfl ?_
  refine G_iload_n (g_da dt_Job_draw 65 rfl) rfl rfl ?_
  obtain ⟨r35, s36, hc37, h⟩ := o_b h
  refine H_cSE (Job_needs_ok hc37) (g_da dt_Job_draw 66 rfl) lk_6_135 ms_Job_needs rfl rfl rfl rfl rfl rfl ?_
  obtain ⟨r38, s39, hc40, h⟩ := o_b h
  refine H_cVG (Values_drop_ok hJc hc40) (g_da dt_Job_draw 67 rfl) lk_6_75 mv_Values_drop rfl sh_18 rfl rfl rfl rfl rfl rfl ?_
  exact G_return (g_da dt_Job_draw 68 rfl) rfl rfl (g_nz rfl) (q_g h)
set_option maxHeartbeats 4000000 in
set_option maxRecDepth 100000 in
theorem Job_draw_ok {J : gS → gS} (hJc : g_jc J) {z0 : Int} {s0 : gS} {a1 : Int} {s : gS} (h : Job_draw a1 s = some (z0, s0)) : Ct M_Job_draw g_S [.ref 5, gi a1] (J s) (QG g_S J z0 s0) := by
  refine Ct_of [some (.ref 5), some (gi a1)] (plainFor_of_name (by decide)) rfl (Nat.le_of_ble_eq_true rfl) rfl (by decide) q_rG ?_
  unfold Job_draw at h
  refine G_iload_n (g_da dt_Job_draw 0 rfl) rfl rfl ?_
  refine G_lookup [(67, 84), (76, 64), (77, 44), (90, 148)] 158 (g_da dt_Job_draw 1 rfl) rfl rfl rfl ⟨fun hc1 => ?_, fun hc1 => ⟨fun hc2 => ?_, fun hc2 => ⟨fun hc3 => ?_, fun hc3 => ⟨fun hc4 => ?_, fun hc4 => ?_⟩⟩⟩⟩
  · have h := o_t hc1 h
    refine G_aload_n (g_da dt_Job_draw 22 rfl) rfl rfl ?_
    refine G_getR (g_da dt_Job_draw 23 rfl) sh_5 fl_6_53 rfl ?_
    refine G_iconst (g_da dt_Job_draw 24 rfl) ?_
    refine G_aload_n (g_da dt_Job_draw 25 rfl) rfl rfl ?_
    refine G_iconst (g_da dt_Job_draw 26 rfl) ?_
    obtain ⟨r5, s6, hc7, h⟩ := o_b h
    refine H_cVE (Job_placedX_ok hJc hc7) (g_da dt_Job_draw 27 rfl) lk_6_268 mv_Job_placedX rfl sh_5 rfl rfl rfl rfl rfl rfl ?_
    refine G_aload_n (g_da dt_Job_draw 28 rfl) rfl rfl ?_
    refine G_iconst (g_da dt_Job_draw 29 rfl) ?_
    obtain ⟨r8, s9, hc10, h⟩ := o_b h
    refine H_cVE (Job_placedY_ok hJc hc10) (g_da dt_Job_draw 30 rfl) lk_6_270 mv_Job_placedY rfl sh_5 rfl rfl rfl rfl rfl rfl ?_
    obtain ⟨r11, s12, hc13, h⟩ := o_b h
    refine H_cVG (Path_bend_ok hJc hc13) (g_da dt_Job_draw 31 rfl) lk_6_277 mv_Path_bend rfl sh_28 rfl rfl rfl rfl rfl rfl ?_
    refine G_aload_n (g_da dt_Job_draw 32 rfl) rfl rfl ?_
    refine G_getR (g_da dt_Job_draw 33 rfl) sh_5 fl_6_53 rfl ?_
    refine G_iconst (g_da dt_Job_draw 34 rfl) ?_
    refine G_aload_n (g_da dt_Job_draw 35 rfl) rfl rfl ?_
    refine G_iconst (g_da dt_Job_draw 36 rfl) ?_
    obtain ⟨r14, s15, hc16, h⟩ := o_b h
    refine H_cVE (Job_placedX_ok hJc hc16) (g_da dt_Job_draw 37 rfl) lk_6_268 mv_Job_placedX rfl sh_5 rfl rfl rfl rfl rfl rfl ?_
    refine G_aload_n (g_da dt_Job_draw 38 rfl) rfl rfl ?_
    refine G_iconst (g_da dt_Job_draw 39 rfl) ?_
    obtain ⟨r17, s18, hc19, h⟩ := o_b h
    refine H_cVE (Job_placedY_ok hJc hc19) (g_da dt_Job_draw 40 rfl) lk_6_270 mv_Job_placedY rfl sh_5 rfl rfl rfl rfl rfl rfl ?_
    obtain ⟨r20, s21, hc22, h⟩ := o_b h
    refine H_cVG (Path_bend_ok hJc hc22) (g_da dt_Job_draw 41 rfl) lk_6_277 mv_Path_bend rfl sh_28 rfl rfl rfl rfl rfl rfl ?_
    refine G_aload_n (g_da dt_Job_draw 42 rfl) rfl rfl ?_
    refine G_getR (g_da dt_Job_draw 43 rfl) sh_5 fl_6_53 rfl ?_
    refine G_iconst (g_da dt_Job_draw 44 rfl) ?_
    refine G_aload_n (g_da dt_Job_draw 45 rfl) rfl rfl ?_
    refine G_iconst (g_da dt_Job_draw 46 rfl) ?_
    obtain ⟨r23, s24, hc25, h⟩ := o_b h
    refine H_cVE (Job_placedX_ok hJc hc25) (g_da dt_Job_draw 47 rfl) lk_6_268 mv_Job_placedX rfl sh_5 rfl rfl rfl rfl rfl rfl ?_
    refine G_aload_n (g_da dt_Job_draw 48 rfl) rfl rfl ?_
    refine G_iconst (g_da dt_Job_draw 49 rfl) ?_
    obtain ⟨r26, s27, hc28, h⟩ := o_b h
    refine H_cVE (Job_placedY_ok hJc hc28) (g_da dt_Job_draw 50 rfl) lk_6_270 mv_Job_placedY rfl sh_5 rfl rfl rfl rfl rfl rfl ?_
    obtain ⟨r29, s30, hc31, h⟩ := o_b h
    refine H_cVG (Path_bend_ok hJc hc31) (g_da dt_Job_draw 51 rfl) lk_6_277 mv_Path_bend rfl sh_28 rfl rfl rfl rfl rfl rfl ?_
    refine G_aload_n (g_da dt_Job_draw 52 rfl) rfl rfl ?_
    refine G_getR (g_da dt_Job_draw 53 rfl) sh_5 fl_6_53 rfl ?_
    obtain ⟨r32, s33, hc34, h⟩ := o_b h
    refine H_cVG (Path_curve_ok hJc hc34) (g_da dt_Job_draw 54 rfl) lk_6_281 mv_Path_curve rfl sh_28 rfl rfl rfl rfl rfl rfl ?_
    refine G_goto (g_da dt_Job_draw 55 rfl) rfl ?_
    exact G_subK (Job_draw_165_ok hJc h) ⟨rfl, ⟨rfl, trivial⟩⟩
  · have h := o_f hc1 h
    have h := o_t hc2 h
    refine G_aload_n (g_da dt_Job_draw 12 rfl) rfl rfl ?_
    refine G_getR (g_da dt_Job_draw 13 rfl) sh_5 fl_6_53 rfl ?_
    refine G_aload_n (g_da dt_Job_draw 14 rfl) rfl rfl ?_
    refine G_iconst (g_da dt_Job_draw 15 rfl) ?_
    obtain ⟨r41, s42, hc43, h⟩ := o_b h
    refine H_cVE (Job_placedX_ok hJc hc43) (g_da dt_Job_draw 16 rfl) lk_6_268 mv_Job_placedX rfl sh_5 rfl rfl rfl rfl rfl rfl ?_
    refine G_aload_n (g_da dt_Job_draw 17 rfl) rfl rfl ?_
    refine G_iconst (g_da dt_Job_draw 18 rfl) ?_
    obtain ⟨r44, s45, hc46, h⟩ := o_b h
    refine H_cVE (Job_placedY_ok hJc hc46) (g_da dt_Job_draw 19 rfl) lk_6_270 mv_Job_placedY rfl sh_5 rfl rfl rfl rfl rfl rfl ?_
    obtain ⟨r47, s48, hc49, h⟩ := o_b h
    refine H_cVG (Path_lineTo_ok hJc hc49) (g_da dt_Job_draw 20 rfl) lk_6_274 mv_Path_lineTo rfl sh_28 rfl rfl rfl rfl rfl rfl ?_
    refine G_goto (g_da dt_Job_draw 21 rfl) rfl ?_
    exact G_subK (Job_draw_165_ok hJc h) ⟨rfl, ⟨rfl, trivial⟩⟩
  · have h := o_f hc1 h
    have h := o_f hc2 h
    have h := o_t hc3 h
    refine G_aload_n (g_da dt_Job_draw 2 rfl) rfl rfl ?_
    refine G_getR (g_da dt_Job_draw 3 rfl) sh_5 fl_6_53 rfl ?_
    refine G_aload_n (g_da dt_Job_draw 4 rfl) rfl rfl ?_
    refine G_iconst (g_da dt_Job_draw 5 rfl) ?_
    obtain ⟨r50, s51, hc52, h⟩ := o_b h
    refine H_cVE (Job_placedX_ok hJc hc52) (g_da dt_Job_draw 6 rfl) lk_6_268 mv_Job_placedX rfl sh_5 rfl rfl rfl rfl rfl rfl ?_
    refine G_aload_n (g_da dt_Job_draw 7 rfl) rfl rfl ?_
    refine G_iconst (g_da dt_Job_draw 8 rfl) ?_
    obtain ⟨r53, s54, hc55, h⟩ := o_b h
    refine H_cVE (Job_placedY_ok hJc hc55) (g_da dt_Job_draw 9 rfl) lk_6_270 mv_Job_placedY rfl sh_5 rfl rfl rfl rfl rfl rfl ?_
    obtain ⟨r56, s57, hc58, h⟩ := o_b h
    refine H_cVG (Path_begin_ok hJc hc58) (g_da dt_Job_draw 10 rfl) lk_6_272 mv_Path_begin rfl sh_28 rfl rfl rfl rfl rfl rfl ?_
    refine G_goto (g_da dt_Job_draw 11 rfl) rfl ?_
    exact G_subK (Job_draw_165_ok hJc h) ⟨rfl, ⟨rfl, trivial⟩⟩
  · have h := o_f hc1 h
    have h := o_f hc2 h
    have h := o_f hc3 h
    have h := o_t hc4 h
    refine G_aload_n (g_da dt_Job_draw 56 rfl) rfl rfl ?_
    refine G_getR (g_da dt_Job_draw 57 rfl) sh_5 fl_6_53 rfl ?_
    obtain ⟨r59, s60, hc61, h⟩ := o_b h
    refine H_cVG (Path_close_ok hJc hc61) (g_da dt_Job_draw 58 rfl) lk_6_284 mv_Path_close rfl sh_28 rfl rfl rfl rfl rfl rfl ?_
    refine G_goto (g_da dt_Job_draw 59 rfl) rfl ?_
    exact G_subK (Job_draw_165_ok hJc h) ⟨rfl, ⟨rfl, trivial⟩⟩
  · have h := o_f hc1 h
    have h := o_f hc2 h
    have h := o_f hc3 h
    have h := o_f hc4 h
    refine G_aload_n (g_da dt_Job_draw 60 rfl) rfl rfl ?_
    refine G_getR (g_da dt_Job_draw 61 rfl) sh_5 fl_6_53 rfl ?_
    obtain ⟨r62, s63, hc64, h⟩ := o_b h
    refine H_cVG (Path_clear_ok hJc hc64) (g_da dt_Job_draw 62 rfl) lk_6_88 mv_Path_clear rfl sh_28 rfl rfl rfl rfl rfl rfl ?_
    exact G_subK (Job_draw_165_ok hJc h) ⟨rfl, ⟨rfl, trivial⟩⟩
