set_option maxHeartbeats 4000000 in
set_option maxRecDepth 100000 in
theorem Text_copy_97_ok {J : gS → gS} (hJc : g_jc J) {z0 : Int} {s0 : gS} {k29 : Int → Int → gS → gA} (hk29 : ∀ (l2 l3 : Int) (s : gS), k29 l2 l3 s = some (z0, s0) → G M_Text_copy (QG g_S J z0 s0) (g_S, 0, 0) (J s) 29 [some (.ref 6), none, some (gi l2), some (gi l3)] [])  {l2 l3 : Int} {s : gS} (h : Text_copy_97 k29 l2 l3 s = some (z0, s0)) : G M_Text_copy (QG g_S J z0 s0) (g_S, 0, 0) (J s) 97 [some (.ref 6), none, some (gi l2), some (gi l3)] [] := by
  unfold Text_copy_97 at h
  refine G_iinc (lv' := [_, none, _, _]) (g_da dt_Text_copy 54 rfl) rfl (Nat.le_of_ble_eq_true rfl) rfl rfl ?_
  refine G_goto (g_da dt_Text_copy 55 rfl) rfl ?_
  exact G_subK (hk29 _ _ _ h) ⟨rfl, ⟨rfl, ⟨rfl, trivial⟩⟩⟩
set_option maxHeartbeats 4000000 in
set_option maxRecDepth 100000 in
theorem Text_copy_67_ok {J : gS → gS} (hJc : g_jc J) {z0 : Int} {s0 : gS} {k29 : Int → Int → gS → gA} (hk29 : ∀ (l2 l3 : Int) (s : gS), k29 l2 l3 s = some (z0, s0) → G M_Text_copy (QG g_S J z0 s0) (g_S, 0, 0) (J s) 29 [some (.ref 6), none, some (gi l2), some (gi l3)] [])  {l2 l3 : Int} {s : gS} (h : Text_copy_67 k29 l2 l3 s = some (z0, s0)) : G M_Text_copy (QG g_S J z0 s0) (g_S, 0, 0) (J s) 67 [some (.ref 6), none, some (gi l2), some (gi l3)] [] := by
  unfold Text_copy_67 at h
  refine G_aload_n (g_da dt_Text_copy 37 rfl) rfl rfl ?_
  refine G_getR (g_da dt_Text_copy 38 rfl) sh_6 fl_8_9 rfl ?_
  refine G_iload_n (g_da dt_Text_copy 39 rfl) rfl rfl ?_
  obtain ⟨hb9, h⟩ := o_g h
  refine H_iaload (g_da dt_Text_copy 40 rfl) sh_7 (hJc 7 rfl) rfl hb9 rfl ?_
  refine G_bipush (g_da dt_Text_copy 41 rfl) b8w_125 ?_
  refine G_icmp_ne (g_da dt_Text_copy 42 rfl) rfl rfl w_125 (fun hc10 => ?_) (fun hc10 => ?_)
  · have h := o_f hc10 h
    exact G_subK (Text_copy_97_ok hJc hk29 h) ⟨rfl, ⟨rfl, ⟨rfl, trivial⟩⟩⟩
  · have h := o_t hc10 h
    refine G_iload_n (g_da dt_Text_copy 43 rfl) rfl rfl ?_
    refine G_if_le (g_da dt_Text_copy 44 rfl) rfl rfl  (fun hc11 => ?_) (fun hc11 => ?_)
    · have h := o_t hc11 h
      exact G_subK (Text_copy_97_ok hJc hk29 h) ⟨rfl, ⟨rfl, ⟨rfl, trivial⟩⟩⟩
    · have h := o_f hc11 h
      refine G_iinc (lv' := [_, none, _, _]) (g_da dt_Text_copy 45 rfl) rfl (Nat.le_of_ble_eq_true rfl) rfl rfl ?_
      refine G_aload_n (g_da dt_Text_copy 46 rfl) rfl rfl ?_
      refine G_getR (g_da dt_Text_copy 47 rfl) sh_6 fl_8_15 rfl ?_
      refine G_aload_n (g_da dt_Text_copy 48 rfl) rfl rfl ?_
      refine G_getR (g_da dt_Text_copy 49 rfl) sh_6 fl_8_18 rfl ?_
      refine G_iload_n (g_da dt_Text_copy 50 rfl) rfl rfl ?_
      obtain ⟨hb12, h⟩ := o_g h
      refine H_iaload (g_da dt_Text_copy 51 rfl) sh_9 (hJc 9 rfl) rfl hb12 rfl ?_
      refine G_iload_n (g_da dt_Text_copy 52 rfl) rfl rfl ?_
      obtain ⟨hb13, h⟩ := o_g h
      refine H_iastore (g_da dt_Text_copy 53 rfl) sh_8 (hJc 8 rfl) rfl hb13 rfl (fun s14 e15 => ?_)
      have h := o_l h s14 e15
      exact G_subK (Text_copy_97_ok hJc hk29 h) ⟨rfl, ⟨rfl, ⟨rfl, trivial⟩⟩⟩
set_option maxHeartbeats 4000000 in
set_option maxRecDepth 100000 in
theorem Text_copy_29_ok {J : gS → gS} (hJc : g_jc J) {z0 : Int} {s0 : gS} {k29 : Int → Int → gS → gA} (hk29 : ∀ (l2 l3 : Int) (s : gS), k29 l2 l3 s = some (z0, s0) → G M_Text_copy (QG g_S J z0 s0) (g_S, 0, 0) (J s) 29 [some (.ref 6), none, some (gi l2), some (gi l3)] [])  {l2 l3 : Int} {s : gS} (h : Text_copy_29 k29 l2 l3 s = some (z0, s0)) : G M_Text_copy (QG g_S J z0 s0) (g_S, 0, 0) (J s) 29 [some (.ref 6), none, some (gi l2), some (gi l3)] [] := by
  unfold Text_copy_29 at h
  refine G_iload_n (g_da dt_Text_copy 17 rfl) rfl rfl ?_
  refine G_aload_n (g_da dt_Text_copy 18 rfl) rfl rfl ?_
  refine H_getI (g_da dt_Text_copy 19 rfl) sh_6 fl_8_21 rfl (hJc 6 rfl) ?_
  refine G_icmp_ge (g_da dt_Text_copy 20 rfl) rfl rfl rfl (fun hc6 => ?_) (fun hc6 => ?_)
  · have h := o_t hc6 h
    exact G_return (g_da dt_Text_copy 56 rfl) rfl rfl (g_nz rfl) (q_g h)
  · have h := o_f hc6 h
    refine G_aload_n (g_da dt_Text_copy 21 rfl) rfl rfl ?_
    refine G_getR (g_da dt_Text_copy 22 rfl) sh_6 fl_8_9 rfl ?_
    refine G_iload_n (g_da dt_Text_copy 23 rfl) rfl rfl ?_
    obtain ⟨hb7, h⟩ := o_g h
    refine H_iaload (g_da dt_Text_copy 24 rfl) sh_7 (hJc 7 rfl) rfl hb7 rfl ?_
    refine G_bipush (g_da dt_Text_copy 25 rfl) b8w_123 ?_
    refine G_icmp_ne (g_da dt_Text_copy 26 rfl) rfl rfl w_123 (fun hc8 => ?_) (fun hc8 => ?_)
    · have h := o_f hc8 h
      exact G_subK (Text_copy_67_ok hJc hk29 h) ⟨rfl, ⟨rfl, ⟨rfl, trivial⟩⟩⟩
    · have h := o_t hc8 h
      refine G_iload_n (g_da dt_Text_copy 27 rfl) rfl rfl ?_
      refine G_bipush (g_da dt_Text_copy 28 rfl) b8w_8 ?_
      refine G_icmp_ge (g_da dt_Text_copy 29 rfl) rfl rfl w_8 (fun hc16 => ?_) (fun hc16 => ?_)
      · have h := o_t hc16 h
        exact G_subK (Text_copy_67_ok hJc hk29 h) ⟨rfl, ⟨rfl, ⟨rfl, trivial⟩⟩⟩
      · have h := o_f hc16 h
        refine G_aload_n (g_da dt_Text_copy 30 rfl) rfl rfl ?_
        refine G_getR (g_da dt_Text_copy 31 rfl) sh_6 fl_8_18 rfl ?_
        refine G_iload_n (g_da dt_Text_copy 32 rfl) rfl rfl ?_
        refine G_iload_n (g_da dt_Text_copy 33 rfl) rfl rfl ?_
        obtain ⟨hb17, h⟩ := o_g h
        refine H_iastore (g_da dt_Text_copy 34 rfl) sh_9 (hJc 9 rfl) rfl hb17 rfl (fun s18 e19 => ?_)
        have h := o_l h s18 e19
        refine G_iinc (lv' := [_, none, _, _]) (g_da dt_Text_copy 35 rfl) rfl (Nat.le_of_ble_eq_true rfl) rfl rfl ?_
        refine G_goto (g_da dt_Text_copy 36 rfl) rfl ?_
        exact G_subK (Text_copy_97_ok hJc hk29 h) ⟨rfl, ⟨rfl, ⟨rfl, trivial⟩⟩⟩
set_option maxHeartbeats 4000000 in
set_option maxRecDepth 100000 in
theorem Text_copy_29L_ok {J : gS → gS} (hJc : g_jc J) {z0 : Int} {s0 : gS} : ∀ (n : Nat) {l2 l3 : Int} {s : gS}, Text_copy_29L n l2 l3 s = some (z0, s0) → G M_Text_copy (QG g_S J z0 s0) (g_S, 0, 0) (J s) 29 [some (.ref 6), none, some (gi l2), some (gi l3)] [] := by
  intro n
  induction n with
  | zero => intro _ _ _ h; cases h
  | succ n ih => intro _ _ _ h; exact Text_copy_29_ok hJc (fun _ _ _ h => ih h) h
set_option maxHeartbeats 4000000 in
set_option maxRecDepth 100000 in
theorem Text_copy_ok {J : gS → gS} (hJc : g_jc J) {z0 : Int} {s0 : gS} {s : gS} (h : Text_copy s = some (z0, s0)) : Ct M_Text_copy g_S [.ref 6, .ref 1] (J s) (QG g_S J z0 s0) := by
  refine Ct_of [some (.ref 6), some (.ref 1), none, none] (plainFor_of_name (by decide)) rfl (Nat.le_of_ble_eq_true rfl) rfl (by decide) q_rG ?_
  unfold Text_copy at h
  refine G_aload_n (g_da dt_Text_copy 0 rfl) rfl rfl ?_
  refine G_aload_n (g_da dt_Text_copy 1 rfl) rfl rfl ?_
  refine H_getI (g_da dt_Text_copy 2 rfl) sh_1 fl_8_21 rfl (hJc 1 rfl) ?_
  refine H_putI (g_da dt_Text_copy 3 rfl) sh_6 fp_8_21 rfl (hJc 6 rfl) (fun s1 e2 => ?_)
  have h := o_l h s1 e2
  refine G_aload_n (g_da dt_Text_copy 4 rfl) rfl rfl ?_
  refine G_getR (g_da dt_Text_copy 5 rfl) sh_1 fl_8_9 rfl ?_
  refine G_iconst (g_da dt_Text_copy 6 rfl) ?_
  refine G_aload_n (g_da dt_Text_copy 7 rfl) rfl rfl ?_
  refine G_getR (g_da dt_Text_copy 8 rfl) sh_6 fl_8_9 rfl ?_
  refine G_iconst (g_da dt_Text_copy 9 rfl) ?_
  refine G_aload_n (g_da dt_Text_copy 10 rfl) rfl rfl ?_
  refine H_getI (g_da dt_Text_copy 11 rfl) sh_6 fl_8_21 rfl (hJc 6 rfl) ?_
  obtain ⟨hb3, h⟩ := o_g h
  refine H_copyI (g_da dt_Text_copy 12 rfl) ac_8_43 sh_2 sh_7 rfl (hJc 2 rfl) (hJc 7 rfl) w_0 w_0 rfl rfl rfl rfl hb3 (fun s4 e5 => ?_)
  have h := o_l h s4 e5
  refine G_iconst (g_da dt_Text_copy 13 rfl) ?_
  refine G_istore_n (lv' := [_, _, _, none]) (g_da dt_Text_copy 14 rfl) rfl (Nat.le_of_ble_eq_true rfl) rfl rfl ?_
  refine G_iconst (g_da dt_Text_copy 15 rfl) ?_
  refine G_istore_n (lv' := [_, _, _, _]) (g_da dt_Text_copy 16 rfl) rfl (Nat.le_of_ble_eq_true rfl) rfl rfl ?_
  exact G_subK (Text_copy_29L_ok hJc gFu h) ⟨rfl, ⟨rfl, ⟨rfl, trivial⟩⟩⟩
set_option maxHeartbeats 4000000 in
set_option maxRecDepth 100000 in
theorem Calls_begin_ok {J : gS → gS} (hJc : g_jc J) {z0 : Int} {s0 : gS} {s : gS} (h : Calls_begin s = some (z0, s0)) : Ct M_Calls_begin g_S [.ref 10, .ref 6] (J s) (QG g_S J z0 s0) := by
  refine Ct_of [some (.ref 10), some (.ref 6)] (plainFor_of_name (by decide)) rfl (Nat.le_of_ble_eq_true rfl) rfl (by decide) q_rG ?_
  unfold Calls_begin at h
  refine G_aload_n (g_da dt_Calls_begin 0 rfl) rfl rfl ?_
  refine G_iconst (g_da dt_Calls_begin 1 rfl) ?_
  refine H_putI (g_da dt_Calls_begin 2 rfl) sh_10 fp_7_24 rfl (hJc 10 rfl) (fun s1 e2 => ?_)
  have h := o_l h s1 e2
  refine G_aload_n (g_da dt_Calls_begin 3 rfl) rfl rfl ?_
  refine G_iconst (g_da dt_Calls_begin 4 rfl) ?_
  refine G_aload_n (g_da dt_Calls_begin 5 rfl) rfl rfl ?_
  refine H_getI (g_da dt_Calls_begin 6 rfl) sh_6 fl_7_28 rfl (hJc 6 rfl) ?_
  refine G_iconst (g_da dt_Calls_begin 7 rfl) ?_
  obtain ⟨r3, s4, hc5, h⟩ := o_b h
  refine H_cVG (Calls_push_ok hJc hc5) (g_da dt_Calls_begin 8 rfl) lk_7_33 mv_Calls_push rfl sh_10 rfl rfl rfl rfl rfl rfl ?_
  refine G_aload_n (g_da dt_Calls_begin 9 rfl) rfl rfl ?_
  refine G_aload_n (g_da dt_Calls_begin 10 rfl) rfl rfl ?_
  obtain ⟨r6, s7, hc8, h⟩ := o_b h
  refine H_cVG (Calls_settle_ok hJc hc8) (g_da dt_Calls_begin 11 rfl) lk_7_37 mv_Calls_settle rfl sh_10 rfl rfl rfl rfl rfl rfl ?_
  exact G_return (g_da dt_Calls_begin 12 rfl) rfl rfl (g_nz rfl) (q_g h)
set_option maxHeartbeats 4000000 in
set_option maxRecDepth 100000 in
theorem Arrays_fill1_5_ok {J : gS → gS} (hJc : g_jc J) {z0 : Int} {s0 : gS} {k5 : Int → Int → Int → gS → gA} (hk5 : ∀ (l1 l2 l3 : Int) (s : gS), k5 l1 l2 l3 s = some (z0, s0) → G M_Arrays_fill1 (QG g_S J z0 s0) (g_S, 0, 0) (J s) 5 [some (.ref 20), some (gi l1), some (gi l2), some (gi l3)] [])  {l1 l2 l3 : Int} {s : gS} (h : Arrays_fill1_5 k5 l1 l2 l3 s = some (z0, s0)) : G M_Arrays_fill1 (QG g_S J z0 s0) (g_S, 0, 0) (J s) 5 [some (.ref 20), some (gi l1), some (gi l2), some (gi l3)] [] := by
  unfold Arrays_fill1_5 at h
  refine G_iload_n (g_da dt_Arrays_fill1 5 rfl) rfl rfl ?_
  refine G_iload_n (g_da dt_Arrays_fill1 6 rfl) rfl rfl ?_
  refine G_icmp_ge (g_da dt_Arrays_fill1 7 rfl) rfl rfl rfl (fun hc1 => ?_) (fun hc1 => ?_)
  · have h := o_t hc1 h
    exact G_return (g_da dt_Arrays_fill1 14 rfl) rfl rfl (g_nz rfl) (q_g h)
  · have h := o_f hc1 h
    refine G_aload_n (g_da dt_Arrays_fill1 8 rfl) rfl rfl ?_
    refine G_iload_n (g_da dt_Arrays_fill1 9 rfl) rfl rfl ?_
    refine G_iload_n (g_da dt_Arrays_fill1 10 rfl) rfl rfl ?_
    obtain ⟨hb2, h⟩ := o_g h
    refine H_iastore (g_da dt_Arrays_fill1 11 rfl) sh_20 (hJc 20 rfl) rfl hb2 rfl (fun s3 e4 => ?_)
    have h := o_l h s3 e4
    refine G_iinc (lv' := [_, _, _, _]) (g_da dt_Arrays_fill1 12 rfl) rfl (Nat.le_of_ble_eq_true rfl) rfl rfl ?_
    refine G_goto (g_da dt_Arrays_fill1 13 rfl) rfl ?_
    exact G_subK (hk5 _ _ _ _ h) ⟨rfl, ⟨rfl, ⟨rfl, ⟨rfl, trivial⟩⟩⟩⟩
set_option maxHeartbeats 4000000 in
set_option maxRecDepth 100000 in
theorem Arrays_fill1_5L_ok {J : gS → gS} (hJc : g_jc J) {z0 : Int} {s0 : gS} : ∀ (n : Nat) {l1 l2 l3 : Int} {s : gS}, Arrays_fill1_5L n l1 l2 l3 s = some (z0, s0) → G M_Arrays_fill1 (QG g_S J z0 s0) (g_S, 0, 0) (J s) 5 [some (.ref 20), some (gi l1), some (gi l2), some (gi l3)] [] := by
  intro n
  induction n with
  | zero => intro _ _ _ _ h; cases h
  | succ n ih => intro _ _ _ _ h; exact Arrays_fill1_5_ok hJc (fun _ _ _ _ h => ih h) h
set_option maxHeartbeats 4000000 in
set_option maxRecDepth 100000 in
theorem Arrays_fill1_ok {J : gS → gS} (hJc : g_jc J) {z0 : Int} {s0 : gS} {a1 : Int} {s : gS} (h : Arrays_fill1 a1 s = some (z0, s0)) : Ct M_Arrays_fill1 g_S [.ref 20, gi a1] (J s) (QG g_S J z0 s0) := by
  refine Ct_of [some (.ref 20), some (gi a1), none, none] (plainFor_of_name (by decide)) rfl (Nat.le_of_ble_eq_true rfl) rfl (by decide) q_rG ?_
  unfold Arrays_fill1 at h
  refine G_iconst (g_da dt_Arrays_fill1 0 rfl) ?_
  refine G_istore_n (lv' := [_, _, _, none]) (g_da dt_Arrays_fill1 1 rfl) rfl (Nat.le_of_ble_eq_true rfl) rfl rfl ?_
  refine G_aload_n (g_da dt_Arrays_fill1 2 rfl) rfl rfl ?_
  refine G_alen (z := 26) (g_da dt_Arrays_fill1 3 rfl) sh_20 (by decide) rfl ?_
  refine G_istore_n (lv' := [_, _, _, _]) (g_da dt_Arrays_fill1 4 rfl) rfl (Nat.le_of_ble_eq_true rfl) rfl rfl ?_
  exact G_subK (Arrays_fill1_5L_ok hJc gFu h) ⟨rfl, ⟨rfl, ⟨rfl, ⟨rfl, trivial⟩⟩⟩⟩
set_option maxHeartbeats 4000000 in
set_option maxRecDepth 100000 in
theorem Arrays_fill_b_6_ok {J : gS → gS} (hJc : g_jc J) {z0 : Int} {s0 : gS} {k6 : Int → Int → Int → gS → gA} (hk6 : ∀ (l1 l3 l4 : Int) (s : gS), k6 l1 l3 l4 s = some (z0, s0) → G M_Arrays_fill (QG g_S J z0 s0) (g_S, 0, 0) (J s) 6 [some (.ref 27), some (gl l1), none, some (gi l3), some (gi l4)] [])  {l1 l3 l4 : Int} {s : gS} (h : Arrays_fill_b_6 k6 l1 l3 l4 s = some (z0, s0)) : G M_Arrays_fill (QG g_S J z0 s0) (g_S, 0, 0) (J s) 6 [some (.ref 27), some (gl l1), none, some (gi l3), some (gi l4)] [] := by
  unfold Arrays_fill_b_6 at h
  refine G_iload_n (g_da dt_Arrays_fill 5 rfl) rfl rfl ?_
  refine G_iload (g_da dt_Arrays_fill 6 rfl) rfl ?_
  refine G_icmp_ge (g_da dt_Arrays_fill 7 rfl) rfl rfl rfl (fun hc1 => ?_) (fun hc1 => ?_)
  · have h := o_t hc1 h
    exact G_return (g_da dt_Arrays_fill 14 rfl) rfl rfl (g_nz rfl) (q_g h)
  · have h := o_f hc1 h
    refine G_aload_n (g_da dt_Arrays_fill 8 rfl) rfl rfl ?_
    refine G_iload_n (g_da dt_Arrays_fill 9 rfl) rfl rfl ?_
    refine G_lload_n (g_da dt_Arrays_fill 10 rfl) rfl rfl ?_
    obtain ⟨hb2, h⟩ := o_g h
    refine H_lastore (g_da dt_Arrays_fill 11 rfl) sh_27 (hJc 27 rfl) rfl hb2 rfl (fun s3 e4 => ?_)
    have h := o_l h s3 e4
    refine G_iinc (lv' := [_, _, none, _, _]) (g_da dt_Arrays_fill 12 rfl) rfl (Nat.le_of_ble_eq_true rfl) rfl rfl ?_
    refine G_goto (g_da dt_Arrays_fill 13 rfl) rfl ?_
    exact G_subK (hk6 _ _ _ _ h) ⟨rfl, ⟨rfl, ⟨rfl, ⟨rfl, trivial⟩⟩⟩⟩
set_option maxHeartbeats 4000000 in
set_option maxRecDepth 100000 in
theorem Arrays_fill_b_6L_ok {J : gS → gS} (hJc : g_jc J) {z0 : Int} {s0 : gS} : ∀ (n : Nat) {l1 l3 l4 : Int} {s : gS}, Arrays_fill_b_6L n l1 l3 l4 s = some (z0, s0) → G M_Arrays_fill (QG g_S J z0 s0) (g_S, 0, 0) (J s) 6 [some (.ref 27), some (gl l1), none, some (gi l3), some (gi l4)] [] := by
  intro n
  induction n with
  | zero => intro _ _ _ _ h; cases h
  | succ n ih => intro _ _ _ _ h; exact Arrays_fill_b_6_ok hJc (fun _ _ _ _ h => ih h) h
set_option maxHeartbeats 4000000 in
set_option maxRecDepth 100000 in
theorem Arrays_fill_b_ok {J : gS → gS} (hJc : g_jc J) {z0 : Int} {s0 : gS} {a1 : Int} {s : gS} (h : Arrays_fill_b a1 s = some (z0, s0)) : Ct M_Arrays_fill g_S [.ref 27, gl a1] (J s) (QG g_S J z0 s0) := by
  refine Ct_of [some (.ref 27), some (gl a1), none, none, none] (plainFor_of_name (by decide)) rfl (Nat.le_of_ble_eq_true rfl) rfl (by decide) q_rG ?_
  unfold Arrays_fill_b at h
  refine G_iconst (g_da dt_Arrays_fill 0 rfl) ?_
  refine G_istore_n (lv' := [_, _, none, _, none]) (g_da dt_Arrays_fill 1 rfl) rfl (Nat.le_of_ble_eq_true rfl) rfl rfl ?_
  refine G_aload_n (g_da dt_Arrays_fill 2 rfl) rfl rfl ?_
  refine G_alen (z := 240) (g_da dt_Arrays_fill 3 rfl) sh_27 (by decide) rfl ?_
  refine G_istore (lv' := [_, _, none, _, _]) (g_da dt_Arrays_fill 4 rfl) (Nat.le_of_ble_eq_true rfl) rfl rfl ?_
  exact G_subK (Arrays_fill_b_6L_ok hJc gFu h) ⟨rfl, ⟨rfl, ⟨rfl, ⟨rfl, trivial⟩⟩⟩⟩
set_option maxHeartbeats 4000000 in
set_option maxRecDepth 100000 in
theorem Settings_reset_ok {J : gS → gS} (hJc : g_jc J) {z0 : Int} {s0 : gS} {s : gS} (h : Settings_reset s = some (z0, s0)) : Ct M_Settings_reset g_S [.ref 21] (J s) (QG g_S J z0 s0) := by
  refine Ct_of [some (.ref 21)] (plainFor_of_name (by decide)) rfl (Nat.le_of_ble_eq_true rfl) rfl (by decide) q_rG ?_
  unfold Settings_reset at h
  refine G_aload_n (g_da dt_Settings_reset 0 rfl) rfl rfl ?_
  refine G_iconst (g_da dt_Settings_reset 1 rfl) ?_
  refine H_putI (g_da dt_Settings_reset 2 rfl) sh_21 fp_3_39 rfl (hJc 21 rfl) (fun s1 e2 => ?_)
  have h := o_l h s1 e2
  refine G_aload_n (g_da dt_Settings_reset 3 rfl) rfl rfl ?_
  refine G_getR (g_da dt_Settings_reset 4 rfl) sh_21 fl_3_9 rfl ?_
  refine G_iconst (g_da dt_Settings_reset 5 rfl) ?_
  refine G_bipush (g_da dt_Settings_reset 6 rfl) b8w_16 ?_
  refine H_iastore (g_da dt_Settings_reset 7 rfl) sh_22 (hJc 22 rfl) w_0 ⟨by decide, by decide⟩ rfl (fun s3 e4 => ?_)
  have h := o_l h s3 e4
  refine G_aload_n (g_da dt_Settings_reset 8 rfl) rfl rfl ?_
  refine G_getR (g_da dt_Settings_reset 9 rfl) sh_21 fl_3_15 rfl ?_
  refine G_iconst (g_da dt_Settings_reset 10 rfl) ?_
  refine G_bipush (g_da dt_Settings_reset 11 rfl) b8w_16 ?_
  refine H_iastore (g_da dt_Settings_reset 12 rfl) sh_23 (hJc 23 rfl) w_0 ⟨by decide, by decide⟩ rfl (fun s5 e6 => ?_)
  have h := o_l h s5 e6
  refine G_aload_n (g_da dt_Settings_reset 13 rfl) rfl rfl ?_
  refine G_getR (g_da dt_Settings_reset 14 rfl) sh_21 fl_3_18 rfl ?_
  refine G_iconst (g_da dt_Settings_reset 15 rfl) ?_
  refine G_iconst (g_da dt_Settings_reset 16 rfl) ?_
  refine H_iastore (g_da dt_Settings_reset 17 rfl) sh_24 (hJc 24 rfl) w_0 ⟨by decide, by decide⟩ rfl (fun s7 e8 => ?_)
  have h := o_l h s7 e8
  refine G_aload_n (g_da dt_Settings_reset 18 rfl) rfl rfl ?_
  refine G_getR (g_da dt_Settings_reset 19 rfl) sh_21 fl_3_21 rfl ?_
  refine G_iconst (g_da dt_Settings_reset 20 rfl) ?_
  refine G_iconst (g_da dt_Settings_reset 21 rfl) ?_
  refine H_iastore (g_da dt_Settings_reset 22 rfl) sh_25 (hJc 25 rfl) w_0 ⟨by decide, by decide⟩ rfl (fun s9 e10 => ?_)
  have h := o_l h s9 e10
  refine G_aload_n (g_da dt_Settings_reset 23 rfl) rfl rfl ?_
  refine G_getR (g_da dt_Settings_reset 24 rfl) sh_21 fl_3_24 rfl ?_
  refine G_iconst (g_da dt_Settings_reset 25 rfl) ?_
  refine G_bipush (g_da dt_Settings_reset 26 rfl) b8w_16 ?_
  refine H_iastore (g_da dt_Settings_reset 27 rfl) sh_26 (hJc 26 rfl) w_0 ⟨by decide, by decide⟩ rfl (fun s11 e12 => ?_)
  have h := o_l h s11 e12
  refine G_aload_n (g_da dt_Settings_reset 28 rfl) rfl rfl ?_
  refine G_getR (g_da dt_Settings_reset 29 rfl) sh_21 fl_3_27 rfl ?_
  refine G_ldc2 (z := (-1)) (g_da dt_Settings_reset 30 rfl) cn_3_31 rfl ?_
  obtain ⟨r13, s14, hc15, h⟩ := o_b h
  refine H_cSG (Arrays_fill_b_ok hJc hc15) (g_da dt_Settings_reset 31 rfl) lk_3_33 ms_Arrays_fill rfl rfl rfl rfl rfl rfl ?_
  exact G_return (g_da dt_Settings_reset 32 rfl) rfl rfl (g_nz rfl) (q_g h)
set_option maxHeartbeats 4000000 in
set_option maxRecDepth 100000 in
theorem Pages_clear_ok {J : gS → gS} (hJc : g_jc J) {z0 : Int} {s0 : gS} {s : gS} (h : Pages_clear s = some (z0, s0)) : Ct M_Pages_clear g_S [.ref 34] (J s) (QG g_S J z0 s0) := by
  refine Ct_of [some (.ref 34)] (plainFor_of_name (by decide)) rfl (Nat.le_of_ble_eq_true rfl) rfl (by decide) q_rG ?_
  unfold Pages_clear at h
  refine G_aload_n (g_da dt_Pages_clear 0 rfl) rfl rfl ?_
  refine G_iconst (g_da dt_Pages_clear 1 rfl) ?_
  refine H_putI (g_da dt_Pages_clear 2 rfl) sh_34 fp_1_18 rfl (hJc 34 rfl) (fun s1 e2 => ?_)
  have h := o_l h s1 e2
  refine G_aload_n (g_da dt_Pages_clear 3 rfl) rfl rfl ?_
  obtain ⟨r3, s4, hc5, h⟩ := o_b h
  refine H_cVG (Pages_clean_ok hJc hc5) (g_da dt_Pages_clear 4 rfl) lk_1_22 mv_Pages_clean rfl sh_34 rfl rfl rfl rfl rfl rfl ?_
  exact G_return (g_da dt_Pages_clear 5 rfl) rfl rfl (g_nz rfl) (q_g h)
set_option maxHeartbeats 4000000 in
set_option maxRecDepth 100000 in
theorem Job_begin_ok {J : gS → gS} (hJc : g_jc J) {z0 : Int} {s0 : gS} {a2 : Int} {s : gS} (h : Job_begin a2 s = some (z0, s0)) : Ct M_Job_begin g_S [.ref 5, .ref 1, gi a2] (J s) (QG g_S J z0 s0) := by
  refine Ct_of [some (.ref 5), some (.ref 1), some (gi a2)] (plainFor_of_name (by decide)) rfl (Nat.le_of_ble_eq_true rfl) rfl (by decide) q_rG ?_
  unfold Job_begin at h
  refine G_aload_n (g_da dt_Job_begin 0 rfl) rfl rfl ?_
  refine G_getR (g_da dt_Job_begin 1 rfl) sh_5 fl_6_12 rfl ?_
  refine G_aload_n (g_da dt_Job_begin 2 rfl) rfl rfl ?_
  obtain ⟨r1, s2, hc3, h⟩ := o_b h
  refine H_cVG (Text_copy_ok hJc hc3) (g_da dt_Job_begin 3 rfl) lk_6_68 mv_Text_copy rfl sh_6 rfl rfl rfl rfl rfl rfl ?_
  refine G_aload_n (g_da dt_Job_begin 4 rfl) rfl rfl ?_
  refine G_getR (g_da dt_Job_begin 5 rfl) sh_5 fl_6_21 rfl ?_
  refine G_aload_n (g_da dt_Job_begin 6 rfl) rfl rfl ?_
  refine G_getR (g_da dt_Job_begin 7 rfl) sh_5 fl_6_12 rfl ?_
  obtain ⟨r4, s5, hc6, h⟩ := o_b h
  refine H_cVG (Calls_begin_ok hJc hc6) (g_da dt_Job_begin 8 rfl) lk_6_72 mv_Calls_begin rfl sh_10 rfl rfl rfl rfl rfl rfl ?_
  refine G_aload_n (g_da dt_Job_begin 9 rfl) rfl rfl ?_
  refine G_getR (g_da dt_Job_begin 10 rfl) sh_5 fl_6_35 rfl ?_
  refine G_bipush (g_da dt_Job_begin 11 rfl) b8w_32 ?_
  obtain ⟨r7, s8, hc9, h⟩ := o_b h
  refine H_cVG (Values_drop_ok hJc hc9) (g_da dt_Job_begin 12 rfl) lk_6_75 mv_Values_drop rfl sh_18 rfl rfl rfl rfl rfl rfl ?_
  refine G_aload_n (g_da dt_Job_begin 13 rfl) rfl rfl ?_
  refine G_getR (g_da dt_Job_begin 14 rfl) sh_5 fl_6_39 rfl ?_
  refine G_iconst (g_da dt_Job_begin 15 rfl) ?_
  obtain ⟨r10, s11, hc12, h⟩ := o_b h
  refine H_cSG (Arrays_fill1_ok hJc hc12) (g_da dt_Job_begin 16 rfl) lk_6_79 ms_Arrays_fill1 rfl rfl rfl rfl rfl rfl ?_
  refine G_aload_n (g_da dt_Job_begin 17 rfl) rfl rfl ?_
  refine G_getR (g_da dt_Job_begin 18 rfl) sh_5 fl_6_46 rfl ?_
  obtain ⟨r13, s14, hc15, h⟩ := o_b h
  refine H_cVG (Settings_reset_ok hJc hc15) (g_da dt_Job_begin 19 rfl) lk_6_85 mv_Settings_reset rfl sh_21 rfl rfl rfl rfl rfl rfl ?_
  refine G_aload_n (g_da dt_Job_begin 20 rfl) rfl rfl ?_
  refine G_getR (g_da dt_Job_begin 21 rfl) sh_5 fl_6_53 rfl ?_
  obtain ⟨r16, s17, hc18, h⟩ := o_b h
  refine H_cVG (Path_clear_ok hJc hc18) (g_da dt_Job_begin 22 rfl) lk_6_88 mv_Path_clear rfl sh_28 rfl rfl rfl rfl rfl rfl ?_
  refine G_aload_n (g_da dt_Job_begin 23 rfl) rfl rfl ?_
  refine G_getR (g_da dt_Job_begin 24 rfl) sh_5 fl_6_60 rfl ?_
  obtain ⟨r19, s20, hc21, h⟩ := o_b h
  refine H_cVG (Pages_clear_ok hJc hc21) (g_da dt_Job_begin 25 rfl) lk_6_91 mv_Pages_clear rfl sh_34 rfl rfl rfl rfl rfl rfl ?_
  refine G_aload_n (g_da dt_Job_begin 26 rfl) rfl rfl ?_
  refine G_iconst (g_da dt_Job_begin 27 rfl) ?_
  refine H_putI (g_da dt_Job_begin 28 rfl) sh_5 fp_6_64 rfl (hJc 5 rfl) (fun s22 e23 => ?_)
  have h := o_l h s22 e23
  refine G_aload_n (g_da dt_Job_begin 29 rfl) rfl rfl ?_
  refine G_iconst (g_da dt_Job_begin 30 rfl) ?_
  refine H_putI (g_da dt_Job_begin 31 rfl) sh_5 fp_6_92 rfl (hJc 5 rfl) (fun s24 e25 => ?_)
  have h := o_l h s24 e25
  refine G_aload_n (g_da dt_Job_begin 32 rfl) rfl rfl ?_
  refine G_iconst (g_da dt_Job_begin 33 rfl) ?_
  refine H_putI (g_da dt_Job_begin 34 rfl) sh_5 fp_6_95 rfl (hJc 5 rfl) (fun s26 e27 => ?_)
  have h := o_l h s26 e27
  refine G_aload_n (g_da dt_Job_begin 35 rfl) rfl rfl ?_
  refine G_iconst (g_da dt_Job_begin 36 rfl) ?_
  refine H_putI (g_da dt_Job_begin 37 rfl) sh_5 fp_6_98 rfl (hJc 5 rfl) (fun s28 e29 => ?_)
  have h := o_l h s28 e29
  refine G_aload_n (g_da dt_Job_begin 38 rfl) rfl rfl ?_
  refine G_iload_n (g_da dt_Job_begin 39 rfl) rfl rfl ?_
  refine H_putI (g_da dt_Job_begin 40 rfl) sh_5 fp_6_101 rfl (hJc 5 rfl) (fun s30 e31 => ?_)
  have h := o_l h s30 e31
  exact G_return (g_da dt_Job_begin 41 rfl) rfl rfl (g_nz rfl) (q_g h)
set_option maxHeartbeats 4000000 in
set_option maxRecDepth 100000 in
theorem Order_begin_32_ok {J : gS → gS} (hJc : g_jc J) {z0 : Int} {s0 : gS} {k32 : Int → gS → gA} (hk32 : ∀ (l3 : Int) (s : gS), k32 l3 s = some (z0, s0) → G M_Order_begin (QG g_S J z0 s0) (g_S, 0, 0) (J s) 32 [some (.ref 37), none, none, some (gi l3)] [])  {l3 : Int} {s : gS} (h : Order_begin_32 k32 l3 s = some (z0, s0)) : G M_Order_begin (QG g_S J z0 s0) (g_S, 0, 0) (J s) 32 [some (.ref 37), none, none, some (gi l3)] [] := by
  unfold Order_begin_32 at h
  refine G_iload_n (g_da dt_Order_begin 20 rfl) rfl rfl ?_
  refine G_bipush (g_da dt_Order_begin 21 rfl) b8w_32 ?_
  refine G_icmp_ge (g_da dt_Order_begin 22 rfl) rfl rfl w_32 (fun hc14 => ?_) (fun hc14 => ?_)
  · have h := o_t hc14 h
    exact G_return (g_da dt_Order_begin 30 rfl) rfl rfl (g_nz rfl) (q_g h)
  · have h := o_f hc14 h
    refine G_aload_n (g_da dt_Order_begin 23 rfl) rfl rfl ?_
    refine G_getR (g_da dt_Order_begin 24 rfl) sh_37 fl_4_15 rfl ?_
    refine G_iload_n (g_da dt_Order_begin 25 rfl) rfl rfl ?_
    refine G_iconst (g_da dt_Order_begin 26 rfl) ?_
    obtain ⟨hb15, h⟩ := o_g h
    refine H_zastore (g_da dt_Order_begin 27 rfl) sh_39 (hJc 39 rfl) rfl hb15 rfl (fun s16 e17 => ?_)
    have h := o_l h s16 e17
    refine G_iinc (lv' := [_, none, none, _]) (g_da dt_Order_begin 28 rfl) rfl (Nat.le_of_ble_eq_true rfl) rfl rfl ?_
    refine G_goto (g_da dt_Order_begin 29 rfl) rfl ?_
    exact G_subK (hk32 _ _ h) ⟨rfl, ⟨rfl, trivial⟩⟩
set_option maxHeartbeats 4000000 in
set_option maxRecDepth 100000 in
theorem Order_begin_32L_ok {J : gS → gS} (hJc : g_jc J) {z0 : Int} {s0 : gS} : ∀ (n : Nat) {l3 : Int} {s : gS}, Order_begin_32L n l3 s = some (z0, s0) → G M_Order_begin (QG g_S J z0 s0) (g_S, 0, 0) (J s) 32 [some (.ref 37), none, none, some (gi l3)] [] := by
  intro n
  induction n with
  | zero => intro _ _ h; cases h
  | succ n ih => intro _ _ h; exact Order_begin_32_ok hJc (fun _ _ h => ih h) h
set_option maxHeartbeats 4000000 in
set_option maxRecDepth 100000 in
theorem Order_begin_ok {J : gS → gS} (hJc : g_jc J) {z0 : Int} {s0 : gS} {a1 a2 : Int} {s : gS} (h : Order_begin a1 a2 s = some (z0, s0)) : Ct M_Order_begin g_S [.ref 37, gi a1, gi a2] (J s) (QG g_S J z0 s0) := by
  refine Ct_of [some (.ref 37), some (gi a1), some (gi a2), none] (plainFor_of_name (by decide)) rfl (Nat.le_of_ble_eq_true rfl) rfl (by decide) q_rG ?_
  unfold Order_begin at h
  refine G_aload_n (g_da dt_Order_begin 0 rfl) rfl rfl ?_
  refine G_iload_n (g_da dt_Order_begin 1 rfl) rfl rfl ?_
  refine H_putI (g_da dt_Order_begin 2 rfl) sh_37 fp_4_19 rfl (hJc 37 rfl) (fun s1 e2 => ?_)
  have h := o_l h s1 e2
  refine G_aload_n (g_da dt_Order_begin 3 rfl) rfl rfl ?_
  refine G_iload_n (g_da dt_Order_begin 4 rfl) rfl rfl ?_
  obtain ⟨hz3, h⟩ := o_g h
  refine H_putZ (g_da dt_Order_begin 5 rfl) sh_37 fp_4_23 rfl (hJc 37 rfl) hz3 (fun s4 e5 => ?_)
  have h := o_l h s4 e5
  refine G_aload_n (g_da dt_Order_begin 6 rfl) rfl rfl ?_
  refine G_iconst (g_da dt_Order_begin 7 rfl) ?_
  refine H_putI (g_da dt_Order_begin 8 rfl) sh_37 fp_4_27 rfl (hJc 37 rfl) (fun s6 e7 => ?_)
  have h := o_l h s6 e7
  refine G_aload_n (g_da dt_Order_begin 9 rfl) rfl rfl ?_
  refine G_iconst (g_da dt_Order_begin 10 rfl) ?_
  refine H_putI (g_da dt_Order_begin 11 rfl) sh_37 fp_4_30 rfl (hJc 37 rfl) (fun s8 e9 => ?_)
  have h := o_l h s8 e9
  refine G_aload_n (g_da dt_Order_begin 12 rfl) rfl rfl ?_
  refine G_iconst (g_da dt_Order_begin 13 rfl) ?_
  refine H_putI (g_da dt_Order_begin 14 rfl) sh_37 fp_4_33 rfl (hJc 37 rfl) (fun s10 e11 => ?_)
  have h := o_l h s10 e11
  refine G_aload_n (g_da dt_Order_begin 15 rfl) rfl rfl ?_
  refine G_iconst (g_da dt_Order_begin 16 rfl) ?_
  refine H_putI (g_da dt_Order_begin 17 rfl) sh_37 fp_4_36 rfl (hJc 37 rfl) (fun s12 e13 => ?_)
  have h := o_l h s12 e13
  refine G_iconst (g_da dt_Order_begin 18 rfl) ?_
  refine G_istore_n (lv' := [_, _, _, _]) (g_da dt_Order_begin 19 rfl) rfl (Nat.le_of_ble_eq_true rfl) rfl rfl ?_
  exact G_subK (Order_begin_32L_ok hJc gFu h) ⟨rfl, ⟨rfl, trivial⟩⟩
set_option maxHeartbeats 4000000 in
set_option maxRecDepth 100000 in
theorem Text_clear_ok {J : gS → gS} (hJc : g_jc J) {z0 : Int} {s0 : gS} {s : gS} (h : Text_clear s = some (z0, s0)) : Ct M_Text_clear g_S [.ref 1] (J s) (QG g_S J z0 s0) := by
  refine Ct_of [some (.ref 1)] (plainFor_of_name (by decide)) rfl (Nat.le_of_ble_eq_true rfl) rfl (by decide) q_rG ?_
  unfold Text_clear at h
  refine G_aload_n (g_da dt_Text_clear 0 rfl) rfl rfl ?_
  refine G_iconst (g_da dt_Text_clear 1 rfl) ?_
  refine H_putI (g_da dt_Text_clear 2 rfl) sh_1 fp_8_21 rfl (hJc 1 rfl) (fun s1 e2 => ?_)
  have h := o_l h s1 e2
  exact G_return (g_da dt_Text_clear 3 rfl) rfl rfl (g_nz rfl) (q_g h)
set_option maxHeartbeats 4000000 in
set_option maxRecDepth 100000 in
theorem B_start_82_ok {J : gS → gS} (hJc : g_jc J) {z0 : Int} {s0 : gS}  {l4 : Int} {s : gS} (h : B_start_82 l4 s = some (z0, s0)) : G M_B_start (QE g_S J z0 s0) (g_S, 0, 0) (J s) 82 [some (.ref 0), none, none, none, some (gi l4)] [] := by
  unfold B_start_82 at h
  refine G_aload_n (g_da dt_B_start 42 rfl) rfl rfl ?_
  refine G_getR (g_da dt_B_start 43 rfl) sh_0 fl_0_10 rfl ?_
  obtain ⟨r17, s18, hc19, h⟩ := o_b h
  refine H_cVG (Text_clear_ok hJc hc19) (g_da dt_B_start 44 rfl) lk_0_68 mv_Text_clear rfl sh_1 rfl rfl rfl rfl rfl rfl ?_
  refine G_iload (g_da dt_B_start 45 rfl) rfl ?_
  refine G_iconst (g_da dt_B_start 46 rfl) ?_
  refine G_icmp_ne (g_da dt_B_start 47 rfl) rfl rfl w_m1 (fun hc20 => ?_) (fun hc20 => ?_)
  · have h := o_f hc20 h
    refine G_iload (g_da dt_B_start 50 rfl) rfl ?_
    refine G_iconst (g_da dt_B_start 51 rfl) ?_
    refine G_iadd (g_da dt_B_start 52 rfl) ?_
    exact G_ireturn (g_da dt_B_start 53 rfl) rfl rfl rfl (g_nz rfl) (q_e h)
  · have h := o_t hc20 h
    refine G_iconst (g_da dt_B_start 48 rfl) ?_
    refine G_goto (g_da dt_B_start 49 rfl) rfl ?_
    exact G_ireturn (g_da dt_B_start 53 rfl) rfl rfl rfl (g_nz rfl) (q_e h)
set_option maxHeartbeats 4000000 in
set_option maxRecDepth 100000 in
theorem B_start_ok {J : gS → gS} (hJc : g_jc J) {z0 : Int} {s0 : gS} {a1 a2 a3 : Int} {s : gS} (h : B_start a1 a2 a3 s = some (z0, s0)) : Ct M_B_start g_S [.ref 0, gi a1, gi a2, gi a3] (J s) (QE g_S J z0 s0) := by
  refine Ct_of [some (.ref 0), some (gi a1), some (gi a2), some (gi a3), none] (plainFor_of_name (by decide)) rfl (Nat.le_of_ble_eq_true rfl) rfl (by decide) q_rE ?_
  unfold B_start at h
  refine G_iload_n (g_da dt_B_start 0 rfl) rfl rfl ?_
  refine G_iconst (g_da dt_B_start 1 rfl) ?_
  refine G_icmp_lt (g_da dt_B_start 2 rfl) rfl rfl w_1 (fun hc1 => ?_) (fun hc1 => ?_)
  · have h := o_t hc1 h
    refine G_iconst (g_da dt_B_start 12 rfl) ?_
    exact G_ireturn (g_da dt_B_start 13 rfl) rfl rfl rfl (g_nz rfl) (q_e h)
  · have h := o_f hc1 h
    refine G_iload_n (g_da dt_B_start 3 rfl) rfl rfl ?_
    refine G_iconst (g_da dt_B_start 4 rfl) ?_
    refine G_icmp_gt (g_da dt_B_start 5 rfl) rfl rfl w_4 (fun hc2 => ?_) (fun hc2 => ?_)
    · have h := o_t hc2 h
      refine G_iconst (g_da dt_B_start 12 rfl) ?_
      exact G_ireturn (g_da dt_B_start 13 rfl) rfl rfl rfl (g_nz rfl) (q_e h)
    · have h := o_f hc2 h
      refine G_iload_n (g_da dt_B_start 6 rfl) rfl rfl ?_
      refine G_iconst (g_da dt_B_start 7 rfl) ?_
      refine G_icmp_lt (g_da dt_B_start 8 rfl) rfl rfl w_1 (fun hc3 => ?_) (fun hc3 => ?_)
      · have h := o_t hc3 h
        refine G_iconst (g_da dt_B_start 12 rfl) ?_
        exact G_ireturn (g_da dt_B_start 13 rfl) rfl rfl rfl (g_nz rfl) (q_e h)
      · have h := o_f hc3 h
        refine G_iload_n (g_da dt_B_start 9 rfl) rfl rfl ?_
        refine G_sipush (g_da dt_B_start 10 rfl) s16w_20000 ?_
        refine G_icmp_le (g_da dt_B_start 11 rfl) rfl rfl w_20000 (fun hc4 => ?_) (fun hc4 => ?_)
        · have h := o_t hc4 h
          refine G_aload_n (g_da dt_B_start 14 rfl) rfl rfl ?_
          refine G_getR (g_da dt_B_start 15 rfl) sh_0 fl_0_19 rfl ?_
          obtain ⟨r5, s6, hc7, h⟩ := o_b h
          refine H_cVE (Job_isUnderWay_ok hJc hc7) (g_da dt_B_start 16 rfl) lk_0_50 mv_Job_isUnderWay rfl sh_5 rfl rfl rfl rfl rfl rfl ?_
          refine G_if_ne (g_da dt_B_start 17 rfl) rfl rfl  (fun hc8 => ?_) (fun hc8 => ?_)
          · have h := o_f hc8 h
            refine G_iconst (g_da dt_B_start 22 rfl) ?_
            exact G_ireturn (g_da dt_B_start 23 rfl) rfl rfl rfl (g_nz rfl) (q_e h)
          · have h := o_t hc8 h
            refine G_aload_n (g_da dt_B_start 18 rfl) rfl rfl ?_
            refine G_getR (g_da dt_B_start 19 rfl) sh_0 fl_0_26 rfl ?_
            obtain ⟨r9, s10, hc11, h⟩ := o_b h
            refine H_cVE (Order_left_ok hJc hc11) (g_da dt_B_start 20 rfl) lk_0_54 mv_Order_left rfl sh_37 rfl rfl rfl rfl rfl rfl ?_
            refine G_if_le (g_da dt_B_start 21 rfl) rfl rfl  (fun hc12 => ?_) (fun hc12 => ?_)
            · have h := o_t hc12 h
              refine G_aload_n (g_da dt_B_start 24 rfl) rfl rfl ?_
              refine G_getR (g_da dt_B_start 25 rfl) sh_0 fl_0_10 rfl ?_
              obtain ⟨r13, s14, hc15, h⟩ := o_b h
              refine H_cVE (Text_fault_ok hJc hc15) (g_da dt_B_start 26 rfl) lk_0_58 mv_Text_fault rfl sh_1 rfl rfl rfl rfl rfl rfl ?_
              refine G_istore (lv' := [_, _, _, _, _]) (g_da dt_B_start 27 rfl) (Nat.le_of_ble_eq_true rfl) rfl rfl ?_
              refine G_iload (g_da dt_B_start 28 rfl) rfl ?_
              refine G_iconst (g_da dt_B_start 29 rfl) ?_
              refine G_icmp_ne (g_da dt_B_start 30 rfl) rfl rfl w_m1 (fun hc16 => ?_) (fun hc16 => ?_)
              · have h := o_f hc16 h
                exact G_subK (B_start_82_ok hJc h) ⟨rfl, ⟨rfl, trivial⟩⟩
              · have h := o_t hc16 h
                refine G_aload_n (g_da dt_B_start 31 rfl) rfl rfl ?_
                refine G_getR (g_da dt_B_start 32 rfl) sh_0 fl_0_19 rfl ?_
                refine G_aload_n (g_da dt_B_start 33 rfl) rfl rfl ?_
                refine G_getR (g_da dt_B_start 34 rfl) sh_0 fl_0_10 rfl ?_
                refine G_iload_n (g_da dt_B_start 35 rfl) rfl rfl ?_
                obtain ⟨r21, s22, hc23, h⟩ := o_b h
                refine H_cVG (Job_begin_ok hJc hc23) (g_da dt_B_start 36 rfl) lk_0_61 mv_Job_begin rfl sh_5 rfl rfl rfl rfl rfl rfl ?_
                refine G_aload_n (g_da dt_B_start 37 rfl) rfl rfl ?_
                refine G_getR (g_da dt_B_start 38 rfl) sh_0 fl_0_26 rfl ?_
                refine G_iload_n (g_da dt_B_start 39 rfl) rfl rfl ?_
                refine G_iload_n (g_da dt_B_start 40 rfl) rfl rfl ?_
                obtain ⟨r24, s25, hc26, h⟩ := o_b h
                refine H_cVG (Order_begin_ok hJc hc26) (g_da dt_B_start 41 rfl) lk_0_65 mv_Order_begin rfl sh_37 rfl rfl rfl rfl rfl rfl ?_
                exact G_subK (B_start_82_ok hJc h) ⟨rfl, ⟨rfl, trivial⟩⟩
            · have h := o_f hc12 h
              refine G_iconst (g_da dt_B_start 22 rfl) ?_
              exact G_ireturn (g_da dt_B_start 23 rfl) rfl rfl rfl (g_nz rfl) (q_e h)
        · have h := o_f hc4 h
          refine G_iconst (g_da dt_B_start 12 rfl) ?_
          exact G_ireturn (g_da dt_B_start 13 rfl) rfl rfl rfl (g_nz rfl) (q_e h)
set_option maxHeartbeats 4000000 in
set_option maxRecDepth 100000 in
theorem B_stick_ok {J : gS → gS} (hJc : g_jc J) {z0 : Int} {s0 : gS} {a1 a2 : Int} {s : gS} (h : B_stick a1 a2 s = some (z0, s0)) : Ct M_B_stick g_S [.ref 0, gi a1, gi a2] (J s) (QE g_S J z0 s0) := by
  refine Ct_of [some (.ref 0), some (gi a1), some (gi a2)] (plainFor_of_name (by decide)) rfl (Nat.le_of_ble_eq_true rfl) rfl (by decide) q_rE ?_
  unfold B_stick at h
  refine G_iload_n (g_da dt_B_stick 0 rfl) rfl rfl ?_
  obtain ⟨r1, s2, hc3, h⟩ := o_b h
  refine H_cSE (Machine_isSection_ok hc3) (g_da dt_B_stick 1 rfl) lk_0_169 ms_Machine_isSection rfl rfl rfl rfl rfl rfl ?_
  refine G_if_ne (g_da dt_B_stick 2 rfl) rfl rfl  (fun hc4 => ?_) (fun hc4 => ?_)
  · have h := o_f hc4 h
    refine G_aload_n (g_da dt_B_stick 5 rfl) rfl rfl ?_
    refine G_getR (g_da dt_B_stick 6 rfl) sh_0 fl_0_35 rfl ?_
    refine G_getR (g_da dt_B_stick 7 rfl) sh_40 fl_0_172 rfl ?_
    refine G_iload_n (g_da dt_B_stick 8 rfl) rfl rfl ?_
    refine G_iload_n (g_da dt_B_stick 9 rfl) rfl rfl ?_
    obtain ⟨hb5, h⟩ := o_g h
    refine H_zastore (g_da dt_B_stick 10 rfl) sh_43 (hJc 43 rfl) rfl hb5 rfl (fun s6 e7 => ?_)
    have h := o_l h s6 e7
    refine G_iconst (g_da dt_B_stick 11 rfl) ?_
    exact G_ireturn (g_da dt_B_stick 12 rfl) rfl (g_bool (Or.inr w_1)).1 rfl (g_nz rfl) (q_e h)
  · have h := o_t hc4 h
    refine G_iconst (g_da dt_B_stick 3 rfl) ?_
    exact G_ireturn (g_da dt_B_stick 4 rfl) rfl (g_bool (Or.inl w_0)).1 rfl (g_nz rfl) (q_e h)
set_option maxHeartbeats 4000000 in
set_option maxRecDepth 100000 in
theorem Machine_empty_ok {J : gS → gS} (hJc : g_jc J) {z0 : Int} {s0 : gS} {a1 : Int} {s : gS} (h : Machine_empty a1 s = some (z0, s0)) : Ct M_Machine_empty g_S [.ref 40, gi a1] (J s) (QG g_S J z0 s0) := by
  refine Ct_of [some (.ref 40), some (gi a1)] (plainFor_of_name (by decide)) rfl (Nat.le_of_ble_eq_true rfl) rfl (by decide) q_rG ?_
  unfold Machine_empty at h
  refine G_aload_n (g_da dt_Machine_empty 0 rfl) rfl rfl ?_
  refine G_getR (g_da dt_Machine_empty 1 rfl) sh_40 fl_5_9 rfl ?_
  refine G_iload_n (g_da dt_Machine_empty 2 rfl) rfl rfl ?_
  refine G_iconst (g_da dt_Machine_empty 3 rfl) ?_
  obtain ⟨hb1, h⟩ := o_g h
  refine H_iastore (g_da dt_Machine_empty 4 rfl) sh_41 (hJc 41 rfl) rfl hb1 rfl (fun s2 e3 => ?_)
  have h := o_l h s2 e3
  refine G_aload_n (g_da dt_Machine_empty 5 rfl) rfl rfl ?_
  refine G_getR (g_da dt_Machine_empty 6 rfl) sh_40 fl_5_15 rfl ?_
  refine G_iload_n (g_da dt_Machine_empty 7 rfl) rfl rfl ?_
  refine G_iconst (g_da dt_Machine_empty 8 rfl) ?_
  obtain ⟨hb4, h⟩ := o_g h
  refine H_iastore (g_da dt_Machine_empty 9 rfl) sh_42 (hJc 42 rfl) rfl hb4 rfl (fun s5 e6 => ?_)
  have h := o_l h s5 e6
  exact G_return (g_da dt_Machine_empty 10 rfl) rfl rfl (g_nz rfl) (q_g h)
set_option maxHeartbeats 4000000 in
set_option maxRecDepth 100000 in
theorem Machine_remove_26_ok {J : gS → gS} (hJc : g_jc J) {z0 : Int} {s0 : gS}  {l1 : Int} {s : gS} (h : Machine_remove_26 l1 s = some (z0, s0)) : G M_Machine_remove (QE g_S J z0 s0) (g_S, 0, 0) (J s) 26 [some (.ref 40), some (gi l1)] [] := by
  unfold Machine_remove_26 at h
  refine G_aload_n (g_da dt_Machine_remove 14 rfl) rfl rfl ?_
  refine G_iload_n (g_da dt_Machine_remove 15 rfl) rfl rfl ?_
  obtain ⟨r4, s5, hc6, h⟩ := o_b h
  refine H_cVG (Machine_empty_ok hJc hc6) (g_da dt_Machine_remove 16 rfl) lk_5_55 mv_Machine_empty rfl sh_40 rfl rfl rfl rfl rfl rfl ?_
  refine G_iconst (g_da dt_Machine_remove 17 rfl) ?_
  exact G_ireturn (g_da dt_Machine_remove 18 rfl) rfl (g_bool (Or.inr w_1)).1 rfl (g_nz rfl) (q_e h)
set_option maxHeartbeats 4000000 in
set_option maxRecDepth 100000 in
theorem Machine_remove_ok {J : gS → gS} (hJc : g_jc J) {z0 : Int} {s0 : gS} {a1 : Int} {s : gS} (h : Machine_remove a1 s = some (z0, s0)) : Ct M_Machine_remove g_S [.ref 40, gi a1] (J s) (QE g_S J z0 s0) := by
  refine Ct_of [some (.ref 40), some (gi a1)] (plainFor_of_name (by decide)) rfl (Nat.le_of_ble_eq_true rfl) rfl (by decide) q_rE ?_
  unfold Machine_remove at h
  refine G_aload_n (g_da dt_Machine_remove 0 rfl) rfl rfl ?_
  refine G_getR (g_da dt_Machine_remove 1 rfl) sh_40 fl_5_9 rfl ?_
  refine G_iload_n (g_da dt_Machine_remove 2 rfl) rfl rfl ?_
  obtain ⟨hb1, h⟩ := o_g h
  refine H_iaload (g_da dt_Machine_remove 3 rfl) sh_41 (hJc 41 rfl) rfl hb1 rfl ?_
  refine G_iconst (g_da dt_Machine_remove 4 rfl) ?_
  refine G_icmp_eq (g_da dt_Machine_remove 5 rfl) rfl rfl w_m1 (fun hc2 => ?_) (fun hc2 => ?_)
  · have h := o_t hc2 h
    refine G_iconst (g_da dt_Machine_remove 12 rfl) ?_
    exact G_ireturn (g_da dt_Machine_remove 13 rfl) rfl (g_bool (Or.inl w_0)).1 rfl (g_nz rfl) (q_e h)
  · have h := o_f hc2 h
    refine G_aload_n (g_da dt_Machine_remove 6 rfl) rfl rfl ?_
    refine H_getI (g_da dt_Machine_remove 7 rfl) sh_40 fl_5_32 rfl (hJc 40 rfl) ?_
    refine G_if_ne (g_da dt_Machine_remove 8 rfl) rfl rfl  (fun hc3 => ?_) (fun hc3 => ?_)
    · have h := o_f hc3 h
      exact G_subK (Machine_remove_26_ok hJc h) ⟨rfl, ⟨rfl, trivial⟩⟩
    · have h := o_t hc3 h
      refine G_aload_n (g_da dt_Machine_remove 9 rfl) rfl rfl ?_
      refine H_getI (g_da dt_Machine_remove 10 rfl) sh_40 fl_5_36 rfl (hJc 40 rfl) ?_
      refine G_if_ne (g_da dt_Machine_remove 11 rfl) rfl rfl  (fun hc7 => ?_) (fun hc7 => ?_)
      · have h := o_f hc7 h
        exact G_subK (Machine_remove_26_ok hJc h) ⟨rfl, ⟨rfl, trivial⟩⟩
      · have h := o_t hc7 h
        refine G_iconst (g_da dt_Machine_remove 12 rfl) ?_
        exact G_ireturn (g_da dt_Machine_remove 13 rfl) rfl (g_bool (Or.inl w_0)).1 rfl (g_nz rfl) (q_e h)
set_option maxHeartbeats 4000000 in
set_option maxRecDepth 100000 in
theorem B_take_ok {J : gS → gS} (hJc : g_jc J) {z0 : Int} {s0 : gS} {a1 : Int} {s : gS} (h : B_take a1 s = some (z0, s0)) : Ct M_B_take g_S [.ref 0, gi a1] (J s) (QE g_S J z0 s0) := by
  refine Ct_of [some (.ref 0), some (gi a1)] (plainFor_of_name (by decide)) rfl (Nat.le_of_ble_eq_true rfl) rfl (by decide) q_rE ?_
  unfold B_take at h
  refine G_iload_n (g_da dt_B_take 0 rfl) rfl rfl ?_
  obtain ⟨r1, s2, hc3, h⟩ := o_b h
  refine H_cSE (Machine_isSection_ok hc3) (g_da dt_B_take 1 rfl) lk_0_169 ms_Machine_isSection rfl rfl rfl rfl rfl rfl ?_
  refine G_if_eq (g_da dt_B_take 2 rfl) rfl rfl  (fun hc4 => ?_) (fun hc4 => ?_)
  · have h := o_t hc4 h
    refine G_iconst (g_da dt_B_take 10 rfl) ?_
    exact G_ireturn (g_da dt_B_take 11 rfl) rfl (g_bool (Or.inl w_0)).1 rfl (g_nz rfl) (q_e h)
  · have h := o_f hc4 h
    refine G_aload_n (g_da dt_B_take 3 rfl) rfl rfl ?_
    refine G_getR (g_da dt_B_take 4 rfl) sh_0 fl_0_35 rfl ?_
    refine G_iload_n (g_da dt_B_take 5 rfl) rfl rfl ?_
    obtain ⟨r5, s6, hc7, h⟩ := o_b h
    refine H_cVE (Machine_remove_ok hJc hc7) (g_da dt_B_take 6 rfl) lk_0_176 mv_Machine_remove rfl sh_40 rfl rfl rfl rfl rfl rfl ?_
    refine G_if_eq (g_da dt_B_take 7 rfl) rfl rfl  (fun hc8 => ?_) (fun hc8 => ?_)
    · have h := o_t hc8 h
      refine G_iconst (g_da dt_B_take 10 rfl) ?_
      exact G_ireturn (g_da dt_B_take 11 rfl) rfl (g_bool (Or.inl w_0)).1 rfl (g_nz rfl) (q_e h)
    · have h := o_f hc8 h
      refine G_iconst (g_da dt_B_take 8 rfl) ?_
      refine G_goto (g_da dt_B_take 9 rfl) rfl ?_
      exact G_ireturn (g_da dt_B_take 11 rfl) rfl (g_bool (Or.inr w_1)).1 rfl (g_nz rfl) (q_e h)
set_option maxHeartbeats 4000000 in
set_option maxRecDepth 100000 in
theorem Machine_anySticks_2_ok {J : gS → gS} (hJc : g_jc J) {z0 : Int} {s0 : gS} {k2 : Int → gS → gA} (hk2 : ∀ (l1 : Int) (s : gS), k2 l1 s = some (z0, s0) → G M_Machine_anySticks (QE g_S J z0 s0) (g_S, 0, 0) (J s) 2 [some (.ref 40), some (gi l1)] [])  {l1 : Int} {s : gS} (h : Machine_anySticks_2 k2 l1 s = some (z0, s0)) : G M_Machine_anySticks (QE g_S J z0 s0) (g_S, 0, 0) (J s) 2 [some (.ref 40), some (gi l1)] [] := by
  unfold Machine_anySticks_2 at h
  refine G_iload_n (g_da dt_Machine_anySticks 2 rfl) rfl rfl ?_
  refine G_iconst (g_da dt_Machine_anySticks 3 rfl) ?_
  refine G_icmp_ge (g_da dt_Machine_anySticks 4 rfl) rfl rfl w_4 (fun hc1 => ?_) (fun hc1 => ?_)
  · have h := o_t hc1 h
    refine G_iconst (g_da dt_Machine_anySticks 14 rfl) ?_
    exact G_ireturn (g_da dt_Machine_anySticks 15 rfl) rfl (g_bool (Or.inl w_0)).1 rfl (g_nz rfl) (q_e h)
  · have h := o_f hc1 h
    refine G_aload_n (g_da dt_Machine_anySticks 5 rfl) rfl rfl ?_
    refine G_getR (g_da dt_Machine_anySticks 6 rfl) sh_40 fl_5_18 rfl ?_
    refine G_iload_n (g_da dt_Machine_anySticks 7 rfl) rfl rfl ?_
    obtain ⟨hb2, h⟩ := o_g h
    refine H_zaload (g_da dt_Machine_anySticks 8 rfl) sh_43 (hJc 43 rfl) rfl hb2 rfl ?_
    refine G_if_eq (g_da dt_Machine_anySticks 9 rfl) rfl rfl  (fun hc3 => ?_) (fun hc3 => ?_)
    · have h := o_t hc3 h
      refine G_iinc (lv' := [_, _]) (g_da dt_Machine_anySticks 12 rfl) rfl (Nat.le_of_ble_eq_true rfl) rfl rfl ?_
      refine G_goto (g_da dt_Machine_anySticks 13 rfl) rfl ?_
      exact G_subK (hk2 _ _ h) ⟨rfl, ⟨rfl, trivial⟩⟩
    · have h := o_f hc3 h
      refine G_iconst (g_da dt_Machine_anySticks 10 rfl) ?_
      exact G_ireturn (g_da dt_Machine_anySticks 11 rfl) rfl (g_bool (Or.inr w_1)).1 rfl (g_nz rfl) (q_e h)
set_option maxHeartbeats 4000000 in
set_option maxRecDepth 100000 in
theorem Machine_anySticks_2L_ok {J : gS → gS} (hJc : g_jc J) {z0 : Int} {s0 : gS} : ∀ (n : Nat) {l1 : Int} {s : gS}, Machine_anySticks_2L n l1 s = some (z0, s0) → G M_Machine_anySticks (QE g_S J z0 s0) (g_S, 0, 0) (J s) 2 [some (.ref 40), some (gi l1)] [] := by
  intro n
  induction n with
  | zero => intro _ _ h; cases h
  | succ n ih => intro _ _ h; exact Machine_anySticks_2_ok hJc (fun _ _ h => ih h) h
set_option maxHeartbeats 4000000 in
set_option maxRecDepth 100000 in
theorem Machine_anySticks_ok {J : gS → gS} (hJc : g_jc J) {z0 : Int} {s0 : gS} {s : gS} (h : Machine_anySticks s = some (z0, s0)) : Ct M_Machine_anySticks g_S [.ref 40] (J s) (QE g_S J z0 s0) := by
  refine Ct_of [some (.ref 40), none] (plainFor_of_name (by decide)) rfl (Nat.le_of_ble_eq_true rfl) rfl (by decide) q_rE ?_
  unfold Machine_anySticks at h
  refine G_iconst (g_da dt_Machine_anySticks 0 rfl) ?_
  refine G_istore_n (lv' := [_, _]) (g_da dt_Machine_anySticks 1 rfl) rfl (Nat.le_of_ble_eq_true rfl) rfl rfl ?_
  exact G_subK (Machine_anySticks_2L_ok hJc gFu h) ⟨rfl, ⟨rfl, trivial⟩⟩
set_option maxHeartbeats 4000000 in
set_option maxRecDepth 100000 in
theorem Arrays_fill1_b_5_ok {J : gS → gS} (hJc : g_jc J) {z0 : Int} {s0 : gS} {k5 : Int → Int → Int → gS → gA} (hk5 : ∀ (l1 l2 l3 : Int) (s : gS), k5 l1 l2 l3 s = some (z0, s0) → G M_Arrays_fill1 (QG g_S J z0 s0) (g_S, 0, 0) (J s) 5 [some (.ref 45), some (gi l1), some (gi l2), some (gi l3)] [])  {l1 l2 l3 : Int} {s : gS} (h : Arrays_fill1_b_5 k5 l1 l2 l3 s = some (z0, s0)) : G M_Arrays_fill1 (QG g_S J z0 s0) (g_S, 0, 0) (J s) 5 [some (.ref 45), some (gi l1), some (gi l2), some (gi l3)] [] := by
  unfold Arrays_fill1_b_5 at h
  refine G_iload_n (g_da dt_Arrays_fill1 5 rfl) rfl rfl ?_
  refine G_iload_n (g_da dt_Arrays_fill1 6 rfl) rfl rfl ?_
  refine G_icmp_ge (g_da dt_Arrays_fill1 7 rfl) rfl rfl rfl (fun hc1 => ?_) (fun hc1 => ?_)
  · have h := o_t hc1 h
    exact G_return (g_da dt_Arrays_fill1 14 rfl) rfl rfl (g_nz rfl) (q_g h)
  · have h := o_f hc1 h
    refine G_aload_n (g_da dt_Arrays_fill1 8 rfl) rfl rfl ?_
    refine G_iload_n (g_da dt_Arrays_fill1 9 rfl) rfl rfl ?_
    refine G_iload_n (g_da dt_Arrays_fill1 10 rfl) rfl rfl ?_
    obtain ⟨hb2, h⟩ := o_g h
    refine H_iastore (g_da dt_Arrays_fill1 11 rfl) sh_45 (hJc 45 rfl) rfl hb2 rfl (fun s3 e4 => ?_)
    have h := o_l h s3 e4
    refine G_iinc (lv' := [_, _, _, _]) (g_da dt_Arrays_fill1 12 rfl) rfl (Nat.le_of_ble_eq_true rfl) rfl rfl ?_
    refine G_goto (g_da dt_Arrays_fill1 13 rfl) rfl ?_
    exact G_subK (hk5 _ _ _ _ h) ⟨rfl, ⟨rfl, ⟨rfl, ⟨rfl, trivial⟩⟩⟩⟩
set_option maxHeartbeats 4000000 in
set_option maxRecDepth 100000 in
theorem Arrays_fill1_b_5L_ok {J : gS → gS} (hJc : g_jc J) {z0 : Int} {s0 : gS} : ∀ (n : Nat) {l1 l2 l3 : Int} {s : gS}, Arrays_fill1_b_5L n l1 l2 l3 s = some (z0, s0) → G M_Arrays_fill1 (QG g_S J z0 s0) (g_S, 0, 0) (J s) 5 [some (.ref 45), some (gi l1), some (gi l2), some (gi l3)] [] := by
  intro n
  induction n with
  | zero => intro _ _ _ _ h; cases h
  | succ n ih => intro _ _ _ _ h; exact Arrays_fill1_b_5_ok hJc (fun _ _ _ _ h => ih h) h
set_option maxHeartbeats 4000000 in
set_option maxRecDepth 100000 in
theorem Arrays_fill1_b_ok {J : gS → gS} (hJc : g_jc J) {z0 : Int} {s0 : gS} {a1 : Int} {s : gS} (h : Arrays_fill1_b a1 s = some (z0, s0)) : Ct M_Arrays_fill1 g_S [.ref 45, gi a1] (J s) (QG g_S J z0 s0) := by
  refine Ct_of [some (.ref 45), some (gi a1), none, none] (plainFor_of_name (by decide)) rfl (Nat.le_of_ble_eq_true rfl) rfl (by decide) q_rG ?_
  unfold Arrays_fill1_b at h
  refine G_iconst (g_da dt_Arrays_fill1 0 rfl) ?_
  refine G_istore_n (lv' := [_, _, _, none]) (g_da dt_Arrays_fill1 1 rfl) rfl (Nat.le_of_ble_eq_true rfl) rfl rfl ?_
  refine G_aload_n (g_da dt_Arrays_fill1 2 rfl) rfl rfl ?_
  refine G_alen (z := 4) (g_da dt_Arrays_fill1 3 rfl) sh_45 (by decide) rfl ?_
  refine G_istore_n (lv' := [_, _, _, _]) (g_da dt_Arrays_fill1 4 rfl) rfl (Nat.le_of_ble_eq_true rfl) rfl rfl ?_
  exact G_subK (Arrays_fill1_b_5L_ok hJc gFu h) ⟨rfl, ⟨rfl, ⟨rfl, ⟨rfl, trivial⟩⟩⟩⟩
set_option maxHeartbeats 4000000 in
set_option maxRecDepth 100000 in
theorem Machine_ifFree_ok {J : gS → gS} (hJc : g_jc J) {z0 : Int} {s0 : gS} {a1 : Int} {s : gS} (h : Machine_ifFree a1 s = some (z0, s0)) : Ct M_Machine_ifFree g_S [.ref 40, gi a1] (J s) (QE g_S J z0 s0) := by
  refine Ct_of [some (.ref 40), some (gi a1)] (plainFor_of_name (by decide)) rfl (Nat.le_of_ble_eq_true rfl) rfl (by decide) q_rE ?_
  unfold Machine_ifFree at h
  refine G_aload_n (g_da dt_Machine_ifFree 0 rfl) rfl rfl ?_
  refine G_getR (g_da dt_Machine_ifFree 1 rfl) sh_40 fl_5_9 rfl ?_
  refine G_iload_n (g_da dt_Machine_ifFree 2 rfl) rfl rfl ?_
  obtain ⟨hb1, h⟩ := o_g h
  refine H_iaload (g_da dt_Machine_ifFree 3 rfl) sh_41 (hJc 41 rfl) rfl hb1 rfl ?_
  refine G_iconst (g_da dt_Machine_ifFree 4 rfl) ?_
  refine G_icmp_ne (g_da dt_Machine_ifFree 5 rfl) rfl rfl w_m1 (fun hc2 => ?_) (fun hc2 => ?_)
  · have h := o_f hc2 h
    refine G_iconst (g_da dt_Machine_ifFree 8 rfl) ?_
    exact G_ireturn (g_da dt_Machine_ifFree 9 rfl) rfl rfl rfl (g_nz rfl) (q_e h)
  · have h := o_t hc2 h
    refine G_iload_n (g_da dt_Machine_ifFree 6 rfl) rfl rfl ?_
    refine G_goto (g_da dt_Machine_ifFree 7 rfl) rfl ?_
    exact G_ireturn (g_da dt_Machine_ifFree 9 rfl) rfl rfl rfl (g_nz rfl) (q_e h)
set_option maxHeartbeats 4000000 in
set_option maxRecDepth 100000 in
theorem Machine_wayFrom_ok {J : gS → gS} (hJc : g_jc J) {z0 : Int} {s0 : gS} {a1 : Int} {s : gS} (h : Machine_wayFrom a1 s = some (z0, s0)) : Ct M_Machine_wayFrom g_S [.ref 40, gi a1] (J s) (QE g_S J z0 s0) := by
  refine Ct_of [some (.ref 40), some (gi a1)] (plainFor_of_name (by decide)) rfl (Nat.le_of_ble_eq_true rfl) rfl (by decide) q_rE ?_
  unfold Machine_wayFrom at h
  refine G_aload_n (g_da dt_Machine_wayFrom 0 rfl) rfl rfl ?_
  refine G_getR (g_da dt_Machine_wayFrom 1 rfl) sh_40 fl_5_9 rfl ?_
  refine G_iload_n (g_da dt_Machine_wayFrom 2 rfl) rfl rfl ?_
  obtain ⟨hb1, h⟩ := o_g h
  refine H_iaload (g_da dt_Machine_wayFrom 3 rfl) sh_41 (hJc 41 rfl) rfl hb1 rfl ?_
  refine G_iconst (g_da dt_Machine_wayFrom 4 rfl) ?_
  refine G_icmp_eq (g_da dt_Machine_wayFrom 5 rfl) rfl rfl w_m1 (fun hc2 => ?_) (fun hc2 => ?_)
  · have h := o_t hc2 h
    refine G_iconst (g_da dt_Machine_wayFrom 11 rfl) ?_
    exact G_ireturn (g_da dt_Machine_wayFrom 12 rfl) rfl rfl rfl (g_nz rfl) (q_e h)
  · have h := o_f hc2 h
    refine G_aload_n (g_da dt_Machine_wayFrom 6 rfl) rfl rfl ?_
    refine G_getR (g_da dt_Machine_wayFrom 7 rfl) sh_40 fl_5_22 rfl ?_
    refine G_iload_n (g_da dt_Machine_wayFrom 8 rfl) rfl rfl ?_
    obtain ⟨hb3, h⟩ := o_g h
    refine H_zaload (g_da dt_Machine_wayFrom 9 rfl) sh_44 (hJc 44 rfl) rfl hb3 rfl ?_
    refine G_if_eq (g_da dt_Machine_wayFrom 10 rfl) rfl rfl  (fun hc4 => ?_) (fun hc4 => ?_)
    · have h := o_t hc4 h
      refine G_iload_n (g_da dt_Machine_wayFrom 13 rfl) rfl rfl ?_
      refine G_table [(1, 80), (2, 48), (3, 74)] 86 (g_da dt_Machine_wayFrom 14 rfl) rfl rfl rfl ⟨fun hc5 => ?_, fun hc5 => ⟨fun hc6 => ?_, fun hc6 => ⟨fun hc7 => ?_, fun hc7 => ?_⟩⟩⟩
      · have h := o_t hc5 h
        refine G_aload_n (g_da dt_Machine_wayFrom 33 rfl) rfl rfl ?_
        refine G_iconst (g_da dt_Machine_wayFrom 34 rfl) ?_
        obtain ⟨r8, s9, hc10, h⟩ := o_b h
        refine H_cVE (Machine_ifFree_ok hJc hc10) (g_da dt_Machine_wayFrom 35 rfl) lk_5_104 mv_Machine_ifFree rfl sh_40 rfl rfl rfl rfl rfl rfl ?_
        exact G_ireturn (g_da dt_Machine_wayFrom 36 rfl) rfl rfl rfl (g_nz rfl) (q_e h)
      · have h := o_f hc5 h
        have h := o_t hc6 h
        refine G_aload_n (g_da dt_Machine_wayFrom 15 rfl) rfl rfl ?_
        refine G_getR (g_da dt_Machine_wayFrom 16 rfl) sh_40 fl_5_15 rfl ?_
        refine G_iconst (g_da dt_Machine_wayFrom 17 rfl) ?_
        refine H_iaload (g_da dt_Machine_wayFrom 18 rfl) sh_42 (hJc 42 rfl) w_2 ⟨by decide, by decide⟩ rfl ?_
        refine G_aload_n (g_da dt_Machine_wayFrom 19 rfl) rfl rfl ?_
        refine G_getR (g_da dt_Machine_wayFrom 20 rfl) sh_40 fl_5_28 rfl ?_
        obtain ⟨r11, s12, hc13, h⟩ := o_b h
        refine H_cVE (Order_sides_ok hJc hc13) (g_da dt_Machine_wayFrom 21 rfl) lk_5_101 mv_Order_sides rfl sh_37 rfl rfl rfl rfl rfl rfl ?_
        refine G_icmp_lt (g_da dt_Machine_wayFrom 22 rfl) rfl rfl rfl (fun hc14 => ?_) (fun hc14 => ?_)
        · have h := o_t hc14 h
          refine G_aload_n (g_da dt_Machine_wayFrom 25 rfl) rfl rfl ?_
          refine G_iconst (g_da dt_Machine_wayFrom 26 rfl) ?_
          obtain ⟨r15, s16, hc17, h⟩ := o_b h
          refine H_cVE (Machine_ifFree_ok hJc hc17) (g_da dt_Machine_wayFrom 27 rfl) lk_5_104 mv_Machine_ifFree rfl sh_40 rfl rfl rfl rfl rfl rfl ?_
          exact G_ireturn (g_da dt_Machine_wayFrom 28 rfl) rfl rfl rfl (g_nz rfl) (q_e h)
        · have h := o_f hc14 h
          refine G_iconst (g_da dt_Machine_wayFrom 23 rfl) ?_
          refine G_goto (g_da dt_Machine_wayFrom 24 rfl) rfl ?_
          exact G_ireturn (g_da dt_Machine_wayFrom 28 rfl) rfl rfl rfl (g_nz rfl) (q_e h)
      · have h := o_f hc5 h
        have h := o_f hc6 h
        have h := o_t hc7 h
        refine G_aload_n (g_da dt_Machine_wayFrom 29 rfl) rfl rfl ?_
        refine G_iconst (g_da dt_Machine_wayFrom 30 rfl) ?_
        obtain ⟨r18, s19, hc20, h⟩ := o_b h
        refine H_cVE (Machine_ifFree_ok hJc hc20) (g_da dt_Machine_wayFrom 31 rfl) lk_5_104 mv_Machine_ifFree rfl sh_40 rfl rfl rfl rfl rfl rfl ?_
        exact G_ireturn (g_da dt_Machine_wayFrom 32 rfl) rfl rfl rfl (g_nz rfl) (q_e h)
      · have h := o_f hc5 h
        have h := o_f hc6 h
        have h := o_f hc7 h
        refine G_aload_n (g_da dt_Machine_wayFrom 37 rfl) rfl rfl ?_
        refine H_getI (g_da dt_Machine_wayFrom 38 rfl) sh_40 fl_5_52 rfl (hJc 40 rfl) ?_
        refine G_bipush (g_da dt_Machine_wayFrom 39 rfl) b8w_80 ?_
        refine G_icmp_lt (g_da dt_Machine_wayFrom 40 rfl) rfl rfl w_80 (fun hc21 => ?_) (fun hc21 => ?_)
        · have h := o_t hc21 h
          refine G_iconst (g_da dt_Machine_wayFrom 45 rfl) ?_
          exact G_ireturn (g_da dt_Machine_wayFrom 46 rfl) rfl rfl rfl (g_nz rfl) (q_e h)
        · have h := o_f hc21 h
          refine G_aload_n (g_da dt_Machine_wayFrom 41 rfl) rfl rfl ?_
          refine G_iconst (g_da dt_Machine_wayFrom 42 rfl) ?_
          obtain ⟨r22, s23, hc24, h⟩ := o_b h
          refine H_cVE (Machine_ifFree_ok hJc hc24) (g_da dt_Machine_wayFrom 43 rfl) lk_5_104 mv_Machine_ifFree rfl sh_40 rfl rfl rfl rfl rfl rfl ?_
          refine G_goto (g_da dt_Machine_wayFrom 44 rfl) rfl ?_
          exact G_ireturn (g_da dt_Machine_wayFrom 46 rfl) rfl rfl rfl (g_nz rfl) (q_e h)
    · have h := o_f hc4 h
      refine G_iconst (g_da dt_Machine_wayFrom 11 rfl) ?_
      exact G_ireturn (g_da dt_Machine_wayFrom 12 rfl) rfl rfl rfl (g_nz rfl) (q_e h)
set_option maxHeartbeats 4000000 in
set_option maxRecDepth 100000 in
theorem Order_isLeft_ok {J : gS → gS} (hJc : g_jc J) {z0 : Int} {s0 : gS} {a1 : Int} {s : gS} (h : Order_isLeft a1 s = some (z0, s0)) : Ct M_Order_isLeft g_S [.ref 37, gi a1] (J s) (QE g_S J z0 s0) := by
  refine Ct_of [some (.ref 37), some (gi a1)] (plainFor_of_name (by decide)) rfl (Nat.le_of_ble_eq_true rfl) rfl (by decide) q_rE ?_
  unfold Order_isLeft at h
  refine G_iload_n (g_da dt_Order_isLeft 0 rfl) rfl rfl ?_
  refine G_if_lt (g_da dt_Order_isLeft 1 rfl) rfl rfl  (fun hc1 => ?_) (fun hc1 => ?_)
  · have h := o_t hc1 h
    refine G_iconst (g_da dt_Order_isLeft 13 rfl) ?_
    exact G_ireturn (g_da dt_Order_isLeft 14 rfl) rfl (g_bool (Or.inl w_0)).1 rfl (g_nz rfl) (q_e h)
  · have h := o_f hc1 h
    refine G_iload_n (g_da dt_Order_isLeft 2 rfl) rfl rfl ?_
    refine G_aload_n (g_da dt_Order_isLeft 3 rfl) rfl rfl ?_
    refine H_getI (g_da dt_Order_isLeft 4 rfl) sh_37 fl_4_33 rfl (hJc 37 rfl) ?_
    refine G_icmp_ge (g_da dt_Order_isLeft 5 rfl) rfl rfl rfl (fun hc2 => ?_) (fun hc2 => ?_)
    · have h := o_t hc2 h
      refine G_iconst (g_da dt_Order_isLeft 13 rfl) ?_
      exact G_ireturn (g_da dt_Order_isLeft 14 rfl) rfl (g_bool (Or.inl w_0)).1 rfl (g_nz rfl) (q_e h)
    · have h := o_f hc2 h
      refine G_aload_n (g_da dt_Order_isLeft 6 rfl) rfl rfl ?_
      refine G_getR (g_da dt_Order_isLeft 7 rfl) sh_37 fl_4_15 rfl ?_
      refine G_iload_n (g_da dt_Order_isLeft 8 rfl) rfl rfl ?_
      obtain ⟨hb3, h⟩ := o_g h
      refine H_zaload (g_da dt_Order_isLeft 9 rfl) sh_39 (hJc 39 rfl) rfl hb3 rfl ?_
      refine G_if_ne (g_da dt_Order_isLeft 10 rfl) rfl rfl  (fun hc4 => ?_) (fun hc4 => ?_)
      · have h := o_f hc4 h
        refine G_iconst (g_da dt_Order_isLeft 13 rfl) ?_
        exact G_ireturn (g_da dt_Order_isLeft 14 rfl) rfl (g_bool (Or.inl w_0)).1 rfl (g_nz rfl) (q_e h)
      · have h := o_t hc4 h
        refine G_iconst (g_da dt_Order_isLeft 11 rfl) ?_
        refine G_goto (g_da dt_Order_isLeft 12 rfl) rfl ?_
        exact G_ireturn (g_da dt_Order_isLeft 14 rfl) rfl (g_bool (Or.inr w_1)).1 rfl (g_nz rfl) (q_e h)
set_option maxHeartbeats 4000000 in
set_option maxRecDepth 100000 in
theorem Order_putOut_ok {J : gS → gS} (hJc : g_jc J) {z0 : Int} {s0 : gS} {a1 : Int} {s : gS} (h : Order_putOut a1 s = some (z0, s0)) : Ct M_Order_putOut g_S [.ref 37, gi a1] (J s) (QG g_S J z0 s0) := by
  refine Ct_of [some (.ref 37), some (gi a1)] (plainFor_of_name (by decide)) rfl (Nat.le_of_ble_eq_true rfl) rfl (by decide) q_rG ?_
  unfold Order_putOut at h
  refine G_aload_n (g_da dt_Order_putOut 0 rfl) rfl rfl ?_
  refine G_iload_n (g_da dt_Order_putOut 1 rfl) rfl rfl ?_
  obtain ⟨r1, s2, hc3, h⟩ := o_b h
  refine H_cVE (Order_isLeft_ok hJc hc3) (g_da dt_Order_putOut 2 rfl) lk_4_45 mv_Order_isLeft rfl sh_37 rfl rfl rfl rfl rfl rfl ?_
  refine G_if_eq (g_da dt_Order_putOut 3 rfl) rfl rfl  (fun hc4 => ?_) (fun hc4 => ?_)
  · have h := o_t hc4 h
    exact G_return (g_da dt_Order_putOut 25 rfl) rfl rfl (g_nz rfl) (q_g h)
  · have h := o_f hc4 h
    refine G_aload_n (g_da dt_Order_putOut 4 rfl) rfl rfl ?_
    refine H_getI (g_da dt_Order_putOut 5 rfl) sh_37 fl_4_36 rfl (hJc 37 rfl) ?_
    refine G_bipush (g_da dt_Order_putOut 6 rfl) b8w_32 ?_
    refine G_icmp_ge (g_da dt_Order_putOut 7 rfl) rfl rfl w_32 (fun hc5 => ?_) (fun hc5 => ?_)
    · have h := o_t hc5 h
      exact G_return (g_da dt_Order_putOut 25 rfl) rfl rfl (g_nz rfl) (q_g h)
    · have h := o_f hc5 h
      refine G_aload_n (g_da dt_Order_putOut 8 rfl) rfl rfl ?_
      refine G_getR (g_da dt_Order_putOut 9 rfl) sh_37 fl_4_15 rfl ?_
      refine G_iload_n (g_da dt_Order_putOut 10 rfl) rfl rfl ?_
      refine G_iconst (g_da dt_Order_putOut 11 rfl) ?_
      obtain ⟨hb6, h⟩ := o_g h
      refine H_zastore (g_da dt_Order_putOut 12 rfl) sh_39 (hJc 39 rfl) rfl hb6 rfl (fun s7 e8 => ?_)
      have h := o_l h s7 e8
      refine G_aload_n (g_da dt_Order_putOut 13 rfl) rfl rfl ?_
      refine G_getR (g_da dt_Order_putOut 14 rfl) sh_37 fl_4_9 rfl ?_
      refine G_aload_n (g_da dt_Order_putOut 15 rfl) rfl rfl ?_
      refine H_getI (g_da dt_Order_putOut 16 rfl) sh_37 fl_4_36 rfl (hJc 37 rfl) ?_
      refine G_iload_n (g_da dt_Order_putOut 17 rfl) rfl rfl ?_
      obtain ⟨hb9, h⟩ := o_g h
      refine H_iastore (g_da dt_Order_putOut 18 rfl) sh_38 (hJc 38 rfl) rfl hb9 rfl (fun s10 e11 => ?_)
      have h := o_l h s10 e11
      refine G_aload_n (g_da dt_Order_putOut 19 rfl) rfl rfl ?_
      refine G_dup (g_da dt_Order_putOut 20 rfl) rfl ?_
      refine H_getI (g_da dt_Order_putOut 21 rfl) sh_37 fl_4_36 rfl (hJc 37 rfl) ?_
      refine G_iconst (g_da dt_Order_putOut 22 rfl) ?_
      refine G_iadd (g_da dt_Order_putOut 23 rfl) ?_
      refine H_putI (g_da dt_Order_putOut 24 rfl) sh_37 fp_4_36 rfl (hJc 37 rfl) (fun s12 e13 => ?_)
      have h := o_l h s12 e13
      exact G_return (g_da dt_Order_putOut 25 rfl) rfl rfl (g_nz rfl) (q_g h)
set_option maxHeartbeats 4000000 in
set_option maxRecDepth 100000 in
theorem Machine_place_ok {J : gS → gS} (hJc : g_jc J) {z0 : Int} {s0 : gS} {a1 a2 a3 : Int} {s : gS} (h : Machine_place a1 a2 a3 s = some (z0, s0)) : Ct M_Machine_place g_S [.ref 40, gi a1, gi a2, gi a3] (J s) (QG g_S J z0 s0) := by
  refine Ct_of [some (.ref 40), some (gi a1), some (gi a2), some (gi a3)] (plainFor_of_name (by decide)) rfl (Nat.le_of_ble_eq_true rfl) rfl (by decide) q_rG ?_
  unfold Machine_place at h
  refine G_aload_n (g_da dt_Machine_place 0 rfl) rfl rfl ?_
  refine G_getR (g_da dt_Machine_place 1 rfl) sh_40 fl_5_9 rfl ?_
  refine G_iload_n (g_da dt_Machine_place 2 rfl) rfl rfl ?_
  refine G_iload_n (g_da dt_Machine_place 3 rfl) rfl rfl ?_
  obtain ⟨hb1, h⟩ := o_g h
  refine H_iastore (g_da dt_Machine_place 4 rfl) sh_41 (hJc 41 rfl) rfl hb1 rfl (fun s2 e3 => ?_)
  have h := o_l h s2 e3
  refine G_aload_n (g_da dt_Machine_place 5 rfl) rfl rfl ?_
  refine G_getR (g_da dt_Machine_place 6 rfl) sh_40 fl_5_15 rfl ?_
  refine G_iload_n (g_da dt_Machine_place 7 rfl) rfl rfl ?_
  refine G_iload_n (g_da dt_Machine_place 8 rfl) rfl rfl ?_
  obtain ⟨hb4, h⟩ := o_g h
  refine H_iastore (g_da dt_Machine_place 9 rfl) sh_42 (hJc 42 rfl) rfl hb4 rfl (fun s5 e6 => ?_)
  have h := o_l h s5 e6
  refine G_aload_n (g_da dt_Machine_place 10 rfl) rfl rfl ?_
  refine G_getR (g_da dt_Machine_place 11 rfl) sh_40 fl_5_22 rfl ?_
  refine G_iload_n (g_da dt_Machine_place 12 rfl) rfl rfl ?_
  refine G_iconst (g_da dt_Machine_place 13 rfl) ?_
  obtain ⟨hb7, h⟩ := o_g h
  refine H_zastore (g_da dt_Machine_place 14 rfl) sh_44 (hJc 44 rfl) rfl hb7 rfl (fun s8 e9 => ?_)
  have h := o_l h s8 e9
  exact G_return (g_da dt_Machine_place 15 rfl) rfl rfl (g_nz rfl) (q_g h)
set_option maxHeartbeats 4000000 in
set_option maxRecDepth 100000 in
theorem Machine_move_56_ok {J : gS → gS} (hJc : g_jc J) {z0 : Int} {s0 : gS}  {l1 : Int} {s : gS} (h : Machine_move_56 l1 s = some (z0, s0)) : G M_Machine_move (QG g_S J z0 s0) (g_S, 0, 0) (J s) 56 [some (.ref 40), some (gi l1), none, none] [] := by
  unfold Machine_move_56 at h
  refine G_aload_n (g_da dt_Machine_move 34 rfl) rfl rfl ?_
  refine G_iload_n (g_da dt_Machine_move 35 rfl) rfl rfl ?_
  obtain ⟨r8, s9, hc10, h⟩ := o_b h
  refine H_cVG (Machine_empty_ok hJc hc10) (g_da dt_Machine_move 36 rfl) lk_5_55 mv_Machine_empty rfl sh_40 rfl rfl rfl rfl rfl rfl ?_
  exact G_return (g_da dt_Machine_move 37 rfl) rfl rfl (g_nz rfl) (q_g h)
set_option maxHeartbeats 4000000 in
set_option maxRecDepth 100000 in
theorem Machine_move_22_ok {J : gS → gS} (hJc : g_jc J) {z0 : Int} {s0 : gS}  {l1 l2 t0 : Int} {s : gS} (h : Machine_move_22 l1 l2 t0 s = some (z0, s0)) : G M_Machine_move (QG g_S J z0 s0) (g_S, 0, 0) (J s) 22 [some (.ref 40), some (gi l1), some (gi l2), none] [gi t0] := by
  unfold Machine_move_22 at h
  refine G_istore_n (lv' := [_, _, _, _]) (g_da dt_Machine_move 14 rfl) rfl (Nat.le_of_ble_eq_true rfl) rfl rfl ?_
  refine G_iload_n (g_da dt_Machine_move 15 rfl) rfl rfl ?_
  refine G_iconst (g_da dt_Machine_move 16 rfl) ?_
  refine G_icmp_ne (g_da dt_Machine_move 17 rfl) rfl rfl w_4 (fun hc3 => ?_) (fun hc3 => ?_)
  · have h := o_f hc3 h
    refine G_aload_n (g_da dt_Machine_move 26 rfl) rfl rfl ?_
    refine G_iload_n (g_da dt_Machine_move 27 rfl) rfl rfl ?_
    refine G_aload_n (g_da dt_Machine_move 28 rfl) rfl rfl ?_
    refine G_getR (g_da dt_Machine_move 29 rfl) sh_40 fl_5_9 rfl ?_
    refine G_iload_n (g_da dt_Machine_move 30 rfl) rfl rfl ?_
    obtain ⟨hb4, h⟩ := o_g h
    refine H_iaload (g_da dt_Machine_move 31 rfl) sh_41 (hJc 41 rfl) rfl hb4 rfl ?_
    refine G_iload_n (g_da dt_Machine_move 32 rfl) rfl rfl ?_
    obtain ⟨r5, s6, hc7, h⟩ := o_b h
    refine H_cVG (Machine_place_ok hJc hc7) (g_da dt_Machine_move 33 rfl) lk_5_110 mv_Machine_place rfl sh_40 rfl rfl rfl rfl rfl rfl ?_
    exact G_subK (Machine_move_56_ok hJc h) ⟨rfl, ⟨rfl, trivial⟩⟩
  · have h := o_t hc3 h
    refine G_aload_n (g_da dt_Machine_move 18 rfl) rfl rfl ?_
    refine G_getR (g_da dt_Machine_move 19 rfl) sh_40 fl_5_28 rfl ?_
    refine G_aload_n (g_da dt_Machine_move 20 rfl) rfl rfl ?_
    refine G_getR (g_da dt_Machine_move 21 rfl) sh_40 fl_5_9 rfl ?_
    refine G_iload_n (g_da dt_Machine_move 22 rfl) rfl rfl ?_
    obtain ⟨hb11, h⟩ := o_g h
    refine H_iaload (g_da dt_Machine_move 23 rfl) sh_41 (hJc 41 rfl) rfl hb11 rfl ?_
    obtain ⟨r12, s13, hc14, h⟩ := o_b h
    refine H_cVG (Order_putOut_ok hJc hc14) (g_da dt_Machine_move 24 rfl) lk_5_107 mv_Order_putOut rfl sh_37 rfl rfl rfl rfl rfl rfl ?_
    refine G_goto (g_da dt_Machine_move 25 rfl) rfl ?_
    exact G_subK (Machine_move_56_ok hJc h) ⟨rfl, ⟨rfl, trivial⟩⟩
set_option maxHeartbeats 4000000 in
set_option maxRecDepth 100000 in
theorem Machine_move_ok {J : gS → gS} (hJc : g_jc J) {z0 : Int} {s0 : gS} {a1 a2 : Int} {s : gS} (h : Machine_move a1 a2 s = some (z0, s0)) : Ct M_Machine_move g_S [.ref 40, gi a1, gi a2] (J s) (QG g_S J z0 s0) := by
  refine Ct_of [some (.ref 40), some (gi a1), some (gi a2), none] (plainFor_of_name (by decide)) rfl (Nat.le_of_ble_eq_true rfl) rfl (by decide) q_rG ?_
  unfold Machine_move at h
  refine G_iload_n (g_da dt_Machine_move 0 rfl) rfl rfl ?_
  refine G_iconst (g_da dt_Machine_move 1 rfl) ?_
  refine G_icmp_ne (g_da dt_Machine_move 2 rfl) rfl rfl w_1 (fun hc1 => ?_) (fun hc1 => ?_)
  · have h := o_f hc1 h
    refine G_aload_n (g_da dt_Machine_move 10 rfl) rfl rfl ?_
    refine G_getR (g_da dt_Machine_move 11 rfl) sh_40 fl_5_15 rfl ?_
    refine G_iload_n (g_da dt_Machine_move 12 rfl) rfl rfl ?_
    obtain ⟨hb2, h⟩ := o_g h
    refine H_iaload (g_da dt_Machine_move 13 rfl) sh_42 (hJc 42 rfl) rfl hb2 rfl ?_
    exact G_subK (Machine_move_22_ok hJc h) ⟨rfl, ⟨rfl, ⟨rfl, trivial⟩⟩⟩
  · have h := o_t hc1 h
    refine G_aload_n (g_da dt_Machine_move 3 rfl) rfl rfl ?_
    refine G_getR (g_da dt_Machine_move 4 rfl) sh_40 fl_5_15 rfl ?_
    refine G_iload_n (g_da dt_Machine_move 5 rfl) rfl rfl ?_
    obtain ⟨hb15, h⟩ := o_g h
    refine H_iaload (g_da dt_Machine_move 6 rfl) sh_42 (hJc 42 rfl) rfl hb15 rfl ?_
    refine G_iconst (g_da dt_Machine_move 7 rfl) ?_
    refine G_iadd (g_da dt_Machine_move 8 rfl) ?_
    refine G_goto (g_da dt_Machine_move 9 rfl) rfl ?_
    exact G_subK (Machine_move_22_ok hJc h) ⟨rfl, ⟨rfl, ⟨rfl, trivial⟩⟩⟩
set_option maxHeartbeats 4000000 in
set_option maxRecDepth 100000 in
theorem Machine_moveFrom_40_ok {J : gS → gS} (hJc : g_jc J) {z0 : Int} {s0 : gS}  {l1 l2 : Int} {s : gS} (h : Machine_moveFrom_40 l1 l2 s = some (z0, s0)) : G M_Machine_moveFrom (QG g_S J z0 s0) (g_S, 0, 0) (J s) 40 [some (.ref 40), some (gi l1), some (gi l2)] [] := by
  unfold Machine_moveFrom_40 at h
  refine G_iload_n (g_da dt_Machine_moveFrom 26 rfl) rfl rfl ?_
  refine G_iconst (g_da dt_Machine_moveFrom 27 rfl) ?_
  refine G_icmp_eq (g_da dt_Machine_moveFrom 28 rfl) rfl rfl w_m1 (fun hc8 => ?_) (fun hc8 => ?_)
  · have h := o_t hc8 h
    exact G_return (g_da dt_Machine_moveFrom 38 rfl) rfl rfl (g_nz rfl) (q_g h)
  · have h := o_f hc8 h
    refine G_aload_n (g_da dt_Machine_moveFrom 29 rfl) rfl rfl ?_
    refine G_getR (g_da dt_Machine_moveFrom 30 rfl) sh_40 fl_5_18 rfl ?_
    refine G_iload_n (g_da dt_Machine_moveFrom 31 rfl) rfl rfl ?_
    obtain ⟨hb9, h⟩ := o_g h
    refine H_zaload (g_da dt_Machine_moveFrom 32 rfl) sh_43 (hJc 43 rfl) rfl hb9 rfl ?_
    refine G_if_ne (g_da dt_Machine_moveFrom 33 rfl) rfl rfl  (fun hc10 => ?_) (fun hc10 => ?_)
    · have h := o_f hc10 h
      exact G_return (g_da dt_Machine_moveFrom 38 rfl) rfl rfl (g_nz rfl) (q_g h)
    · have h := o_t hc10 h
      refine G_aload_n (g_da dt_Machine_moveFrom 34 rfl) rfl rfl ?_
      refine G_iload_n (g_da dt_Machine_moveFrom 35 rfl) rfl rfl ?_
      refine G_iload_n (g_da dt_Machine_moveFrom 36 rfl) rfl rfl ?_
      obtain ⟨r11, s12, hc13, h⟩ := o_b h
      refine H_cVG (Machine_move_ok hJc hc13) (g_da dt_Machine_moveFrom 37 rfl) lk_5_97 mv_Machine_move rfl sh_40 rfl rfl rfl rfl rfl rfl ?_
      exact G_return (g_da dt_Machine_moveFrom 38 rfl) rfl rfl (g_nz rfl) (q_g h)
set_option maxHeartbeats 4000000 in
set_option maxRecDepth 100000 in
theorem Machine_moveFrom_20_ok {J : gS → gS} (hJc : g_jc J) {z0 : Int} {s0 : gS}  {l1 l2 : Int} {s : gS} (h : Machine_moveFrom_20 l1 l2 s = some (z0, s0)) : G M_Machine_moveFrom (QG g_S J z0 s0) (g_S, 0, 0) (J s) 20 [some (.ref 40), some (gi l1), some (gi l2)] [] := by
  unfold Machine_moveFrom_20 at h
  refine G_aload_n (g_da dt_Machine_moveFrom 12 rfl) rfl rfl ?_
  refine G_getR (g_da dt_Machine_moveFrom 13 rfl) sh_40 fl_5_25 rfl ?_
  refine G_iload_n (g_da dt_Machine_moveFrom 14 rfl) rfl rfl ?_
  refine G_iconst (g_da dt_Machine_moveFrom 15 rfl) ?_
  obtain ⟨hb5, h⟩ := o_g h
  refine H_iastore (g_da dt_Machine_moveFrom 16 rfl) sh_45 (hJc 45 rfl) rfl hb5 rfl (fun s6 e7 => ?_)
  have h := o_l h s6 e7
  refine G_goto (g_da dt_Machine_moveFrom 17 rfl) rfl ?_
  exact G_subK (Machine_moveFrom_40_ok hJc h) ⟨rfl, ⟨rfl, ⟨rfl, trivial⟩⟩⟩
set_option maxHeartbeats 4000000 in
set_option maxRecDepth 100000 in
theorem Machine_moveFrom_ok {J : gS → gS} (hJc : g_jc J) {z0 : Int} {s0 : gS} {a1 : Int} {s : gS} (h : Machine_moveFrom a1 s = some (z0, s0)) : Ct M_Machine_moveFrom g_S [.ref 40, gi a1] (J s) (QG g_S J z0 s0) := by
  refine Ct_of [some (.ref 40), some (gi a1), none] (plainFor_of_name (by decide)) rfl (Nat.le_of_ble_eq_true rfl) rfl (by decide) q_rG ?_
  unfold Machine_moveFrom at h
  refine G_aload_n (g_da dt_Machine_moveFrom 0 rfl) rfl rfl ?_
  refine G_iload_n (g_da dt_Machine_moveFrom 1 rfl) rfl rfl ?_
  obtain ⟨r1, s2, hc3, h⟩ := o_b h
  refine H_cVE (Machine_wayFrom_ok hJc hc3) (g_da dt_Machine_moveFrom 2 rfl) lk_5_93 mv_Machine_wayFrom rfl sh_40 rfl rfl rfl rfl rfl rfl ?_
  refine G_istore_n (lv' := [_, _, _]) (g_da dt_Machine_moveFrom 3 rfl) rfl (Nat.le_of_ble_eq_true rfl) rfl rfl ?_
  refine G_iload_n (g_da dt_Machine_moveFrom 4 rfl) rfl rfl ?_
  refine G_iconst (g_da dt_Machine_moveFrom 5 rfl) ?_
  refine G_icmp_eq (g_da dt_Machine_moveFrom 6 rfl) rfl rfl w_m1 (fun hc4 => ?_) (fun hc4 => ?_)
  · have h := o_t hc4 h
    exact G_subK (Machine_moveFrom_20_ok hJc h) ⟨rfl, ⟨rfl, ⟨rfl, trivial⟩⟩⟩
  · have h := o_f hc4 h
    refine G_aload_n (g_da dt_Machine_moveFrom 7 rfl) rfl rfl ?_
    refine G_getR (g_da dt_Machine_moveFrom 8 rfl) sh_40 fl_5_18 rfl ?_
    refine G_iload_n (g_da dt_Machine_moveFrom 9 rfl) rfl rfl ?_
    obtain ⟨hb14, h⟩ := o_g h
    refine H_zaload (g_da dt_Machine_moveFrom 10 rfl) sh_43 (hJc 43 rfl) rfl hb14 rfl ?_
    refine G_if_ne (g_da dt_Machine_moveFrom 11 rfl) rfl rfl  (fun hc15 => ?_) (fun hc15 => ?_)
    · have h := o_f hc15 h
      refine G_aload_n (g_da dt_Machine_moveFrom 18 rfl) rfl rfl ?_
      refine G_getR (g_da dt_Machine_moveFrom 19 rfl) sh_40 fl_5_25 rfl ?_
      refine G_iload_n (g_da dt_Machine_moveFrom 20 rfl) rfl rfl ?_
      refine G_dup2_11 (g_da dt_Machine_moveFrom 21 rfl) rfl rfl ?_
      obtain ⟨hb16, h⟩ := o_g h
      refine H_iaload (g_da dt_Machine_moveFrom 22 rfl) sh_45 (hJc 45 rfl) rfl hb16 rfl ?_
      refine G_iconst (g_da dt_Machine_moveFrom 23 rfl) ?_
      refine G_iadd (g_da dt_Machine_moveFrom 24 rfl) ?_
      obtain ⟨hb17, h⟩ := o_g h
      refine H_iastore (g_da dt_Machine_moveFrom 25 rfl) sh_45 (hJc 45 rfl) rfl hb17 rfl (fun s18 e19 => ?_)
      have h := o_l h s18 e19
      exact G_subK (Machine_moveFrom_40_ok hJc h) ⟨rfl, ⟨rfl, ⟨rfl, trivial⟩⟩⟩
    · have h := o_t hc15 h
      exact G_subK (Machine_moveFrom_20_ok hJc h) ⟨rfl, ⟨rfl, ⟨rfl, trivial⟩⟩⟩
set_option maxHeartbeats 4000000 in
set_option maxRecDepth 100000 in
theorem Machine_isInside_2_ok {J : gS → gS} (hJc : g_jc J) {z0 : Int} {s0 : gS} {k2 : Int → Int → gS → gA} (hk2 : ∀ (l1 l2 : Int) (s : gS), k2 l1 l2 s = some (z0, s0) → G M_Machine_isInside (QE g_S J z0 s0) (g_S, 0, 0) (J s) 2 [some (.ref 40), some (gi l1), some (gi l2)] [])  {l1 l2 : Int} {s : gS} (h : Machine_isInside_2 k2 l1 l2 s = some (z0, s0)) : G M_Machine_isInside (QE g_S J z0 s0) (g_S, 0, 0) (J s) 2 [some (.ref 40), some (gi l1), some (gi l2)] [] := by
  unfold Machine_isInside_2 at h
  refine G_iload_n (g_da dt_Machine_isInside 2 rfl) rfl rfl ?_
  refine G_iconst (g_da dt_Machine_isInside 3 rfl) ?_
  refine G_icmp_ge (g_da dt_Machine_isInside 4 rfl) rfl rfl w_4 (fun hc1 => ?_) (fun hc1 => ?_)
  · have h := o_t hc1 h
    refine G_iconst (g_da dt_Machine_isInside 15 rfl) ?_
    exact G_ireturn (g_da dt_Machine_isInside 16 rfl) rfl (g_bool (Or.inl w_0)).1 rfl (g_nz rfl) (q_e h)
  · have h := o_f hc1 h
    refine G_aload_n (g_da dt_Machine_isInside 5 rfl) rfl rfl ?_
    refine G_getR (g_da dt_Machine_isInside 6 rfl) sh_40 fl_5_9 rfl ?_
    refine G_iload_n (g_da dt_Machine_isInside 7 rfl) rfl rfl ?_
    obtain ⟨hb2, h⟩ := o_g h
    refine H_iaload (g_da dt_Machine_isInside 8 rfl) sh_41 (hJc 41 rfl) rfl hb2 rfl ?_
    refine G_iload_n (g_da dt_Machine_isInside 9 rfl) rfl rfl ?_
    refine G_icmp_ne (g_da dt_Machine_isInside 10 rfl) rfl rfl rfl (fun hc3 => ?_) (fun hc3 => ?_)
    · have h := o_f hc3 h
      refine G_iinc (lv' := [_, _, _]) (g_da dt_Machine_isInside 13 rfl) rfl (Nat.le_of_ble_eq_true rfl) rfl rfl ?_
      refine G_goto (g_da dt_Machine_isInside 14 rfl) rfl ?_
      exact G_subK (hk2 _ _ _ h) ⟨rfl, ⟨rfl, ⟨rfl, trivial⟩⟩⟩
    · have h := o_t hc3 h
      refine G_iconst (g_da dt_Machine_isInside 11 rfl) ?_
      exact G_ireturn (g_da dt_Machine_isInside 12 rfl) rfl (g_bool (Or.inr w_1)).1 rfl (g_nz rfl) (q_e h)
set_option maxHeartbeats 4000000 in
set_option maxRecDepth 100000 in
theorem Machine_isInside_2L_ok {J : gS → gS} (hJc : g_jc J) {z0 : Int} {s0 : gS} : ∀ (n : Nat) {l1 l2 : Int} {s : gS}, Machine_isInside_2L n l1 l2 s = some (z0, s0) → G M_Machine_isInside (QE g_S J z0 s0) (g_S, 0, 0) (J s) 2 [some (.ref 40), some (gi l1), some (gi l2)] [] := by
  intro n
  induction n with
  | zero => intro _ _ _ h; cases h
  | succ n ih => intro _ _ _ h; exact Machine_isInside_2_ok hJc (fun _ _ _ h => ih h) h
set_option maxHeartbeats 4000000 in
set_option maxRecDepth 100000 in
theorem Machine_isInside_ok {J : gS → gS} (hJc : g_jc J) {z0 : Int} {s0 : gS} {a1 : Int} {s : gS} (h : Machine_isInside a1 s = some (z0, s0)) : Ct M_Machine_isInside g_S [.ref 40, gi a1] (J s) (QE g_S J z0 s0) := by
  refine Ct_of [some (.ref 40), some (gi a1), none] (plainFor_of_name (by decide)) rfl (Nat.le_of_ble_eq_true rfl) rfl (by decide) q_rE ?_
  unfold Machine_isInside at h
  refine G_iconst (g_da dt_Machine_isInside 0 rfl) ?_
  refine G_istore_n (lv' := [_, _, _]) (g_da dt_Machine_isInside 1 rfl) rfl (Nat.le_of_ble_eq_true rfl) rfl rfl ?_
  exact G_subK (Machine_isInside_2L_ok hJc gFu h) ⟨rfl, ⟨rfl, ⟨rfl, trivial⟩⟩⟩
set_option maxHeartbeats 4000000 in
set_option maxRecDepth 100000 in
theorem Machine_nextToMake_46_ok {J : gS → gS} (hJc : g_jc J) {z0 : Int} {s0 : gS} {k14 : Int → gS → gA} (hk14 : ∀ (l1 : Int) (s : gS), k14 l1 s = some (z0, s0) → G M_Machine_nextToMake (QE g_S J z0 s0) (g_S, 0, 0) (J s) 14 [some (.ref 40), some (gi l1)] [])  {l1 : Int} {s : gS} (h : Machine_nextToMake_46 k14 l1 s = some (z0, s0)) : G M_Machine_nextToMake (QE g_S J z0 s0) (g_S, 0, 0) (J s) 46 [some (.ref 40), some (gi l1)] [] := by
  unfold Machine_nextToMake_46 at h
  refine G_iinc (lv' := [_, _]) (g_da dt_Machine_nextToMake 24 rfl) rfl (Nat.le_of_ble_eq_true rfl) rfl rfl ?_
  refine G_goto (g_da dt_Machine_nextToMake 25 rfl) rfl ?_
  exact G_subK (hk14 _ _ h) ⟨rfl, ⟨rfl, trivial⟩⟩
set_option maxHeartbeats 4000000 in
set_option maxRecDepth 100000 in
theorem Machine_nextToMake_14_ok {J : gS → gS} (hJc : g_jc J) {z0 : Int} {s0 : gS} {k14 : Int → gS → gA} (hk14 : ∀ (l1 : Int) (s : gS), k14 l1 s = some (z0, s0) → G M_Machine_nextToMake (QE g_S J z0 s0) (g_S, 0, 0) (J s) 14 [some (.ref 40), some (gi l1)] [])  {l1 : Int} {s : gS} (h : Machine_nextToMake_14 k14 l1 s = some (z0, s0)) : G M_Machine_nextToMake (QE g_S J z0 s0) (g_S, 0, 0) (J s) 14 [some (.ref 40), some (gi l1)] [] := by
  unfold Machine_nextToMake_14 at h
  refine G_iload_n (g_da dt_Machine_nextToMake 8 rfl) rfl rfl ?_
  refine G_aload_n (g_da dt_Machine_nextToMake 9 rfl) rfl rfl ?_
  refine G_getR (g_da dt_Machine_nextToMake 10 rfl) sh_40 fl_5_28 rfl ?_
  refine H_getI (g_da dt_Machine_nextToMake 11 rfl) sh_37 fl_5_117 rfl (hJc 37 rfl) ?_
  refine G_icmp_ge (g_da dt_Machine_nextToMake 12 rfl) rfl rfl rfl (fun hc5 => ?_) (fun hc5 => ?_)
  · have h := o_t hc5 h
    refine G_iconst (g_da dt_Machine_nextToMake 26 rfl) ?_
    exact G_ireturn (g_da dt_Machine_nextToMake 27 rfl) rfl rfl rfl (g_nz rfl) (q_e h)
  · have h := o_f hc5 h
    refine G_aload_n (g_da dt_Machine_nextToMake 13 rfl) rfl rfl ?_
    refine G_getR (g_da dt_Machine_nextToMake 14 rfl) sh_40 fl_5_28 rfl ?_
    refine G_iload_n (g_da dt_Machine_nextToMake 15 rfl) rfl rfl ?_
    obtain ⟨r6, s7, hc8, h⟩ := o_b h
    refine H_cVE (Order_isLeft_ok hJc hc8) (g_da dt_Machine_nextToMake 16 rfl) lk_5_120 mv_Order_isLeft rfl sh_37 rfl rfl rfl rfl rfl rfl ?_
    refine G_if_eq (g_da dt_Machine_nextToMake 17 rfl) rfl rfl  (fun hc9 => ?_) (fun hc9 => ?_)
    · have h := o_t hc9 h
      exact G_subK (Machine_nextToMake_46_ok hJc hk14 h) ⟨rfl, ⟨rfl, trivial⟩⟩
    · have h := o_f hc9 h
      refine G_aload_n (g_da dt_Machine_nextToMake 18 rfl) rfl rfl ?_
      refine G_iload_n (g_da dt_Machine_nextToMake 19 rfl) rfl rfl ?_
      obtain ⟨r10, s11, hc12, h⟩ := o_b h
      refine H_cVE (Machine_isInside_ok hJc hc12) (g_da dt_Machine_nextToMake 20 rfl) lk_5_124 mv_Machine_isInside rfl sh_40 rfl rfl rfl rfl rfl rfl ?_
      refine G_if_ne (g_da dt_Machine_nextToMake 21 rfl) rfl rfl  (fun hc13 => ?_) (fun hc13 => ?_)
      · have h := o_f hc13 h
        exact G_subK (Machine_nextToMake_46_ok hJc hk14 h) ⟨rfl, ⟨rfl, trivial⟩⟩
      · have h := o_t hc13 h
        refine G_iload_n (g_da dt_Machine_nextToMake 22 rfl) rfl rfl ?_
        exact G_ireturn (g_da dt_Machine_nextToMake 23 rfl) rfl rfl rfl (g_nz rfl) (q_e h)
set_option maxHeartbeats 4000000 in
set_option maxRecDepth 100000 in
theorem Machine_nextToMake_14L_ok {J : gS → gS} (hJc : g_jc J) {z0 : Int} {s0 : gS} : ∀ (n : Nat) {l1 : Int} {s : gS}, Machine_nextToMake_14L n l1 s = some (z0, s0) → G M_Machine_nextToMake (QE g_S J z0 s0) (g_S, 0, 0) (J s) 14 [some (.ref 40), some (gi l1)] [] := by
  intro n
  induction n with
  | zero => intro _ _ h; cases h
  | succ n ih => intro _ _ h; exact Machine_nextToMake_14_ok hJc (fun _ _ h => ih h) h
set_option maxHeartbeats 4000000 in
set_option maxRecDepth 100000 in
theorem Machine_nextToMake_ok {J : gS → gS} (hJc : g_jc J) {z0 : Int} {s0 : gS} {s : gS} (h : Machine_nextToMake s = some (z0, s0)) : Ct M_Machine_nextToMake g_S [.ref 40] (J s) (QE g_S J z0 s0) := by
  refine Ct_of [some (.ref 40), none] (plainFor_of_name (by decide)) rfl (Nat.le_of_ble_eq_true rfl) rfl (by decide) q_rE ?_
  unfold Machine_nextToMake at h
  refine G_aload_n (g_da dt_Machine_nextToMake 0 rfl) rfl rfl ?_
  refine G_getR (g_da dt_Machine_nextToMake 1 rfl) sh_40 fl_5_28 rfl ?_
  obtain ⟨r1, s2, hc3, h⟩ := o_b h
  refine H_cVE (Order_left_ok hJc hc3) (g_da dt_Machine_nextToMake 2 rfl) lk_5_39 mv_Order_left rfl sh_37 rfl rfl rfl rfl rfl rfl ?_
  refine G_if_ne (g_da dt_Machine_nextToMake 3 rfl) rfl rfl  (fun hc4 => ?_) (fun hc4 => ?_)
  · have h := o_f hc4 h
    refine G_iconst (g_da dt_Machine_nextToMake 6 rfl) ?_
    refine G_istore_n (lv' := [_, _]) (g_da dt_Machine_nextToMake 7 rfl) rfl (Nat.le_of_ble_eq_true rfl) rfl rfl ?_
    exact G_subK (Machine_nextToMake_14L_ok hJc gFu h) ⟨rfl, ⟨rfl, trivial⟩⟩
  · have h := o_t hc4 h
    refine G_iconst (g_da dt_Machine_nextToMake 4 rfl) ?_
    exact G_ireturn (g_da dt_Machine_nextToMake 5 rfl) rfl rfl rfl (g_nz rfl) (q_e h)
set_option maxHeartbeats 4000000 in
set_option maxRecDepth 100000 in
theorem Machine_feed_ok {J : gS → gS} (hJc : g_jc J) {z0 : Int} {s0 : gS} {s : gS} (h : Machine_feed s = some (z0, s0)) : Ct M_Machine_feed g_S [.ref 40] (J s) (QG g_S J z0 s0) := by
  refine Ct_of [some (.ref 40), none] (plainFor_of_name (by decide)) rfl (Nat.le_of_ble_eq_true rfl) rfl (by decide) q_rG ?_
  unfold Machine_feed at h
  refine G_aload_n (g_da dt_Machine_feed 0 rfl) rfl rfl ?_
  refine H_getI (g_da dt_Machine_feed 1 rfl) sh_40 fl_5_48 rfl (hJc 40 rfl) ?_
  refine G_if_eq (g_da dt_Machine_feed 2 rfl) rfl rfl  (fun hc1 => ?_) (fun hc1 => ?_)
  · have h := o_t hc1 h
    exact G_return (g_da dt_Machine_feed 19 rfl) rfl rfl (g_nz rfl) (q_g h)
  · have h := o_f hc1 h
    refine G_aload_n (g_da dt_Machine_feed 3 rfl) rfl rfl ?_
    refine G_getR (g_da dt_Machine_feed 4 rfl) sh_40 fl_5_9 rfl ?_
    refine G_iconst (g_da dt_Machine_feed 5 rfl) ?_
    refine H_iaload (g_da dt_Machine_feed 6 rfl) sh_41 (hJc 41 rfl) w_0 ⟨by decide, by decide⟩ rfl ?_
    refine G_iconst (g_da dt_Machine_feed 7 rfl) ?_
    refine G_icmp_ne (g_da dt_Machine_feed 8 rfl) rfl rfl w_m1 (fun hc2 => ?_) (fun hc2 => ?_)
    · have h := o_f hc2 h
      exact G_return (g_da dt_Machine_feed 19 rfl) rfl rfl (g_nz rfl) (q_g h)
    · have h := o_t hc2 h
      refine G_aload_n (g_da dt_Machine_feed 9 rfl) rfl rfl ?_
      refine G_getR (g_da dt_Machine_feed 10 rfl) sh_40 fl_5_9 rfl ?_
      refine G_iconst (g_da dt_Machine_feed 11 rfl) ?_
      refine H_iaload (g_da dt_Machine_feed 12 rfl) sh_41 (hJc 41 rfl) w_3 ⟨by decide, by decide⟩ rfl ?_
      refine G_iconst (g_da dt_Machine_feed 13 rfl) ?_
      refine G_icmp_ne (g_da dt_Machine_feed 14 rfl) rfl rfl w_m1 (fun hc3 => ?_) (fun hc3 => ?_)
      · have h := o_f hc3 h
        exact G_return (g_da dt_Machine_feed 19 rfl) rfl rfl (g_nz rfl) (q_g h)
      · have h := o_t hc3 h
        refine G_aload_n (g_da dt_Machine_feed 15 rfl) rfl rfl ?_
        obtain ⟨r4, s5, hc6, h⟩ := o_b h
        refine H_cVE (Machine_inside_ok hJc hc6) (g_da dt_Machine_feed 16 rfl) lk_5_45 mv_Machine_inside rfl sh_40 rfl rfl rfl rfl rfl rfl ?_
        refine G_iconst (g_da dt_Machine_feed 17 rfl) ?_
        refine G_icmp_lt (g_da dt_Machine_feed 18 rfl) rfl rfl w_2 (fun hc7 => ?_) (fun hc7 => ?_)
        · have h := o_t hc7 h
          refine G_aload_n (g_da dt_Machine_feed 20 rfl) rfl rfl ?_
          obtain ⟨r8, s9, hc10, h⟩ := o_b h
          refine H_cVE (Machine_nextToMake_ok hJc hc10) (g_da dt_Machine_feed 21 rfl) lk_5_114 mv_Machine_nextToMake rfl sh_40 rfl rfl rfl rfl rfl rfl ?_
          refine G_istore_n (lv' := [_, _]) (g_da dt_Machine_feed 22 rfl) rfl (Nat.le_of_ble_eq_true rfl) rfl rfl ?_
          refine G_iload_n (g_da dt_Machine_feed 23 rfl) rfl rfl ?_
          refine G_iconst (g_da dt_Machine_feed 24 rfl) ?_
          refine G_icmp_eq (g_da dt_Machine_feed 25 rfl) rfl rfl w_m1 (fun hc11 => ?_) (fun hc11 => ?_)
          · have h := o_t hc11 h
            exact G_return (g_da dt_Machine_feed 37 rfl) rfl rfl (g_nz rfl) (q_g h)
          · have h := o_f hc11 h
            refine G_aload_n (g_da dt_Machine_feed 26 rfl) rfl rfl ?_
            refine G_dup (g_da dt_Machine_feed 27 rfl) rfl ?_
            refine H_getI (g_da dt_Machine_feed 28 rfl) sh_40 fl_5_48 rfl (hJc 40 rfl) ?_
            refine G_iconst (g_da dt_Machine_feed 29 rfl) ?_
            refine G_isub (g_da dt_Machine_feed 30 rfl) ?_
            refine H_putI (g_da dt_Machine_feed 31 rfl) sh_40 fp_5_48 rfl (hJc 40 rfl) (fun s12 e13 => ?_)
            have h := o_l h s12 e13
            refine G_aload_n (g_da dt_Machine_feed 32 rfl) rfl rfl ?_
            refine G_iconst (g_da dt_Machine_feed 33 rfl) ?_
            refine G_iload_n (g_da dt_Machine_feed 34 rfl) rfl rfl ?_
            refine G_iconst (g_da dt_Machine_feed 35 rfl) ?_
            obtain ⟨r14, s15, hc16, h⟩ := o_b h
            refine H_cVG (Machine_place_ok hJc hc16) (g_da dt_Machine_feed 36 rfl) lk_5_110 mv_Machine_place rfl sh_40 rfl rfl rfl rfl rfl rfl ?_
            exact G_return (g_da dt_Machine_feed 37 rfl) rfl rfl (g_nz rfl) (q_g h)
        · have h := o_f hc7 h
          exact G_return (g_da dt_Machine_feed 19 rfl) rfl rfl (g_nz rfl) (q_g h)
set_option maxHeartbeats 4000000 in
set_option maxRecDepth 100000 in
theorem Machine_moveAll_2_ok {J : gS → gS} (hJc : g_jc J) {z0 : Int} {s0 : gS} {k2 : Int → gS → gA} {k20 : gS → gA} (hk2 : ∀ (l1 : Int) (s : gS), k2 l1 s = some (z0, s0) → G M_Machine_moveAll (QG g_S J z0 s0) (g_S, 0, 0) (J s) 2 [some (.ref 40), some (gi l1)] []) (hk20 : ∀ (s : gS), k20 s = some (z0, s0) → G M_Machine_moveAll (QG g_S J z0 s0) (g_S, 0, 0) (J s) 20 [some (.ref 40), none] [])  {l1 : Int} {s : gS} (h : Machine_moveAll_2 k2 k20 l1 s = some (z0, s0)) : G M_Machine_moveAll (QG g_S J z0 s0) (g_S, 0, 0) (J s) 2 [some (.ref 40), some (gi l1)] [] := by
  unfold Machine_moveAll_2 at h
  refine G_iload_n (g_da dt_Machine_moveAll 2 rfl) rfl rfl ?_
  refine G_iconst (g_da dt_Machine_moveAll 3 rfl) ?_
  refine G_icmp_ge (g_da dt_Machine_moveAll 4 rfl) rfl rfl w_4 (fun hc1 => ?_) (fun hc1 => ?_)
  · have h := o_t hc1 h
    exact G_subK (hk20 _ h) ⟨rfl, trivial⟩
  · have h := o_f hc1 h
    refine G_aload_n (g_da dt_Machine_moveAll 5 rfl) rfl rfl ?_
    refine G_getR (g_da dt_Machine_moveAll 6 rfl) sh_40 fl_5_22 rfl ?_
    refine G_iload_n (g_da dt_Machine_moveAll 7 rfl) rfl rfl ?_
    refine G_iconst (g_da dt_Machine_moveAll 8 rfl) ?_
    obtain ⟨hb2, h⟩ := o_g h
    refine H_zastore (g_da dt_Machine_moveAll 9 rfl) sh_44 (hJc 44 rfl) rfl hb2 rfl (fun s3 e4 => ?_)
    have h := o_l h s3 e4
    refine G_iinc (lv' := [_, _]) (g_da dt_Machine_moveAll 10 rfl) rfl (Nat.le_of_ble_eq_true rfl) rfl rfl ?_
    refine G_goto (g_da dt_Machine_moveAll 11 rfl) rfl ?_
    exact G_subK (hk2 _ _ h) ⟨rfl, ⟨rfl, trivial⟩⟩
set_option maxHeartbeats 4000000 in
set_option maxRecDepth 100000 in
theorem Machine_moveAll_2L_ok {J : gS → gS} (hJc : g_jc J) {z0 : Int} {s0 : gS} {k20 : gS → gA} (hk20 : ∀ (s : gS), k20 s = some (z0, s0) → G M_Machine_moveAll (QG g_S J z0 s0) (g_S, 0, 0) (J s) 20 [some (.ref 40), none] []) : ∀ (n : Nat) {l1 : Int} {s : gS}, Machine_moveAll_2L k20 n l1 s = some (z0, s0) → G M_Machine_moveAll (QG g_S J z0 s0) (g_S, 0, 0) (J s) 2 [some (.ref 40), some (gi l1)] [] := by
  intro n
  induction n with
  | zero => intro _ _ h; cases h
  | succ n ih => intro _ _ h; exact Machine_moveAll_2_ok hJc (fun _ _ h => ih h) hk20 h
set_option maxHeartbeats 4000000 in
set_option maxRecDepth 100000 in
theorem Machine_moveAll_83_ok {J : gS → gS} (hJc : g_jc J) {z0 : Int} {s0 : gS} {k46 : Int → gS → gA} (hk46 : ∀ (l1 : Int) (s : gS), k46 l1 s = some (z0, s0) → G M_Machine_moveAll (QG g_S J z0 s0) (g_S, 0, 0) (J s) 46 [some (.ref 40), some (gi l1)] [])  {l1 : Int} {s : gS} (h : Machine_moveAll_83 k46 l1 s = some (z0, s0)) : G M_Machine_moveAll (QG g_S J z0 s0) (g_S, 0, 0) (J s) 83 [some (.ref 40), some (gi l1)] [] := by
  unfold Machine_moveAll_83 at h
  refine G_iinc (lv' := [_, _]) (g_da dt_Machine_moveAll 49 rfl) rfl (Nat.le_of_ble_eq_true rfl) rfl rfl ?_
  refine G_goto (g_da dt_Machine_moveAll 50 rfl) rfl ?_
  exact G_subK (hk46 _ _ h) ⟨rfl, ⟨rfl, trivial⟩⟩
set_option maxHeartbeats 4000000 in
set_option maxRecDepth 100000 in
theorem Machine_moveAll_46_ok {J : gS → gS} (hJc : g_jc J) {z0 : Int} {s0 : gS} {k46 : Int → gS → gA} (hk46 : ∀ (l1 : Int) (s : gS), k46 l1 s = some (z0, s0) → G M_Machine_moveAll (QG g_S J z0 s0) (g_S, 0, 0) (J s) 46 [some (.ref 40), some (gi l1)] [])  {l1 : Int} {s : gS} (h : Machine_moveAll_46 k46 l1 s = some (z0, s0)) : G M_Machine_moveAll (QG g_S J z0 s0) (g_S, 0, 0) (J s) 46 [some (.ref 40), some (gi l1)] [] := by
  unfold Machine_moveAll_46 at h
  refine G_iload_n (g_da dt_Machine_moveAll 28 rfl) rfl rfl ?_
  refine G_iconst (g_da dt_Machine_moveAll 29 rfl) ?_
  refine G_icmp_ge (g_da dt_Machine_moveAll 30 rfl) rfl rfl w_4 (fun hc20 => ?_) (fun hc20 => ?_)
  · have h := o_t hc20 h
    exact G_return (g_da dt_Machine_moveAll 51 rfl) rfl rfl (g_nz rfl) (q_g h)
  · have h := o_f hc20 h
    refine G_aload_n (g_da dt_Machine_moveAll 31 rfl) rfl rfl ?_
    refine G_getR (g_da dt_Machine_moveAll 32 rfl) sh_40 fl_5_25 rfl ?_
    refine G_iload_n (g_da dt_Machine_moveAll 33 rfl) rfl rfl ?_
    obtain ⟨hb21, h⟩ := o_g h
    refine H_iaload (g_da dt_Machine_moveAll 34 rfl) sh_45 (hJc 45 rfl) rfl hb21 rfl ?_
    refine G_iconst (g_da dt_Machine_moveAll 35 rfl) ?_
    refine G_icmp_lt (g_da dt_Machine_moveAll 36 rfl) rfl rfl w_4 (fun hc22 => ?_) (fun hc22 => ?_)
    · have h := o_t hc22 h
      exact G_subK (Machine_moveAll_83_ok hJc hk46 h) ⟨rfl, ⟨rfl, trivial⟩⟩
    · have h := o_f hc22 h
      refine G_aload_n (g_da dt_Machine_moveAll 37 rfl) rfl rfl ?_
      refine H_getI (g_da dt_Machine_moveAll 38 rfl) sh_40 fl_5_36 rfl (hJc 40 rfl) ?_
      refine G_if_ne (g_da dt_Machine_moveAll 39 rfl) rfl rfl  (fun hc23 => ?_) (fun hc23 => ?_)
      · have h := o_f hc23 h
        exact G_subK (Machine_moveAll_83_ok hJc hk46 h) ⟨rfl, ⟨rfl, trivial⟩⟩
      · have h := o_t hc23 h
        refine G_aload_n (g_da dt_Machine_moveAll 40 rfl) rfl rfl ?_
        refine G_iconst (g_da dt_Machine_moveAll 41 rfl) ?_
        refine H_putZ (g_da dt_Machine_moveAll 42 rfl) sh_40 fp_5_36 rfl (hJc 40 rfl) (Or.inr w_1) (fun s24 e25 => ?_)
        have h := o_l h s24 e25
        refine G_aload_n (g_da dt_Machine_moveAll 43 rfl) rfl rfl ?_
        refine G_dup (g_da dt_Machine_moveAll 44 rfl) rfl ?_
        refine H_getI (g_da dt_Machine_moveAll 45 rfl) sh_40 fl_5_90 rfl (hJc 40 rfl) ?_
        refine G_iconst (g_da dt_Machine_moveAll 46 rfl) ?_
        refine G_iadd (g_da dt_Machine_moveAll 47 rfl) ?_
        refine H_putI (g_da dt_Machine_moveAll 48 rfl) sh_40 fp_5_90 rfl (hJc 40 rfl) (fun s26 e27 => ?_)
        have h := o_l h s26 e27
        exact G_subK (Machine_moveAll_83_ok hJc hk46 h) ⟨rfl, ⟨rfl, trivial⟩⟩
set_option maxHeartbeats 4000000 in
set_option maxRecDepth 100000 in
theorem Machine_moveAll_46L_ok {J : gS → gS} (hJc : g_jc J) {z0 : Int} {s0 : gS} : ∀ (n : Nat) {l1 : Int} {s : gS}, Machine_moveAll_46L n l1 s = some (z0, s0) → G M_Machine_moveAll (QG g_S J z0 s0) (g_S, 0, 0) (J s) 46 [some (.ref 40), some (gi l1)] [] := by
  intro n
  induction n with
  | zero => intro _ _ h; cases h
  | succ n ih => intro _ _ h; exact Machine_moveAll_46_ok hJc (fun _ _ h => ih h) h
set_option maxHeartbeats 4000000 in
set_option maxRecDepth 100000 in
theorem Machine_moveAll_20_ok {J : gS → gS} (hJc : g_jc J) {z0 : Int} {s0 : gS}  {s : gS} (h : Machine_moveAll_20 s = some (z0, s0)) : G M_Machine_moveAll (QG g_S J z0 s0) (g_S, 0, 0) (J s) 20 [some (.ref 40), none] [] := by
  unfold Machine_moveAll_20 at h
  refine G_aload_n (g_da dt_Machine_moveAll 12 rfl) rfl rfl ?_
  refine G_iconst (g_da dt_Machine_moveAll 13 rfl) ?_
  obtain ⟨r5, s6, hc7, h⟩ := o_b h
  refine H_cVG (Machine_moveFrom_ok hJc hc7) (g_da dt_Machine_moveAll 14 rfl) lk_5_84 mv_Machine_moveFrom rfl sh_40 rfl rfl rfl rfl rfl rfl ?_
  refine G_aload_n (g_da dt_Machine_moveAll 15 rfl) rfl rfl ?_
  refine G_iconst (g_da dt_Machine_moveAll 16 rfl) ?_
  obtain ⟨r8, s9, hc10, h⟩ := o_b h
  refine H_cVG (Machine_moveFrom_ok hJc hc10) (g_da dt_Machine_moveAll 17 rfl) lk_5_84 mv_Machine_moveFrom rfl sh_40 rfl rfl rfl rfl rfl rfl ?_
  refine G_aload_n (g_da dt_Machine_moveAll 18 rfl) rfl rfl ?_
  refine G_iconst (g_da dt_Machine_moveAll 19 rfl) ?_
  obtain ⟨r11, s12, hc13, h⟩ := o_b h
  refine H_cVG (Machine_moveFrom_ok hJc hc13) (g_da dt_Machine_moveAll 20 rfl) lk_5_84 mv_Machine_moveFrom rfl sh_40 rfl rfl rfl rfl rfl rfl ?_
  refine G_aload_n (g_da dt_Machine_moveAll 21 rfl) rfl rfl ?_
  refine G_iconst (g_da dt_Machine_moveAll 22 rfl) ?_
  obtain ⟨r14, s15, hc16, h⟩ := o_b h
  refine H_cVG (Machine_moveFrom_ok hJc hc16) (g_da dt_Machine_moveAll 23 rfl) lk_5_84 mv_Machine_moveFrom rfl sh_40 rfl rfl rfl rfl rfl rfl ?_
  refine G_aload_n (g_da dt_Machine_moveAll 24 rfl) rfl rfl ?_
  obtain ⟨r17, s18, hc19, h⟩ := o_b h
  refine H_cVG (Machine_feed_ok hJc hc19) (g_da dt_Machine_moveAll 25 rfl) lk_5_87 mv_Machine_feed rfl sh_40 rfl rfl rfl rfl rfl rfl ?_
  refine G_iconst (g_da dt_Machine_moveAll 26 rfl) ?_
  refine G_istore_n (lv' := [_, _]) (g_da dt_Machine_moveAll 27 rfl) rfl (Nat.le_of_ble_eq_true rfl) rfl rfl ?_
  exact G_subK (Machine_moveAll_46L_ok hJc gFu h) ⟨rfl, ⟨rfl, trivial⟩⟩
set_option maxHeartbeats 4000000 in
set_option maxRecDepth 100000 in
theorem Machine_moveAll_ok {J : gS → gS} (hJc : g_jc J) {z0 : Int} {s0 : gS} {s : gS} (h : Machine_moveAll s = some (z0, s0)) : Ct M_Machine_moveAll g_S [.ref 40] (J s) (QG g_S J z0 s0) := by
  refine Ct_of [some (.ref 40), none] (plainFor_of_name (by decide)) rfl (Nat.le_of_ble_eq_true rfl) rfl (by decide) q_rG ?_
  unfold Machine_moveAll at h
  refine G_iconst (g_da dt_Machine_moveAll 0 rfl) ?_
  refine G_istore_n (lv' := [_, _]) (g_da dt_Machine_moveAll 1 rfl) rfl (Nat.le_of_ble_eq_true rfl) rfl rfl ?_
  exact G_subK (Machine_moveAll_2L_ok hJc (fun _ h => Machine_moveAll_20_ok hJc h) gFu h) ⟨rfl, ⟨rfl, trivial⟩⟩
set_option maxHeartbeats 4000000 in
set_option maxRecDepth 100000 in
theorem Machine_pass_113_ok {J : gS → gS} (hJc : g_jc J) {z0 : Int} {s0 : gS}  {s : gS} (h : Machine_pass_113 s = some (z0, s0)) : G M_Machine_pass (QG g_S J z0 s0) (g_S, 0, 0) (J s) 113 [some (.ref 40), none] [] := by
  unfold Machine_pass_113 at h
  refine G_aload_n (g_da dt_Machine_pass 55 rfl) rfl rfl ?_
  refine G_getR (g_da dt_Machine_pass 56 rfl) sh_40 fl_5_25 rfl ?_
  refine G_iconst (g_da dt_Machine_pass 57 rfl) ?_
  obtain ⟨r12, s13, hc14, h⟩ := o_b h
  refine H_cSG (Arrays_fill1_b_ok hJc hc14) (g_da dt_Machine_pass 58 rfl) lk_5_75 ms_Arrays_fill1 rfl rfl rfl rfl rfl rfl ?_
  refine G_goto (g_da dt_Machine_pass 59 rfl) rfl ?_
  exact G_return (g_da dt_Machine_pass 62 rfl) rfl rfl (g_nz rfl) (q_g h)
set_option maxHeartbeats 4000000 in
set_option maxRecDepth 100000 in
theorem Machine_pass_99_ok {J : gS → gS} (hJc : g_jc J) {z0 : Int} {s0 : gS}  {s : gS} (h : Machine_pass_99 s = some (z0, s0)) : G M_Machine_pass (QG g_S J z0 s0) (g_S, 0, 0) (J s) 99 [some (.ref 40), none] [] := by
  unfold Machine_pass_99 at h
  refine G_aload_n (g_da dt_Machine_pass 49 rfl) rfl rfl ?_
  refine H_getI (g_da dt_Machine_pass 50 rfl) sh_40 fl_5_32 rfl (hJc 40 rfl) ?_
  refine G_if_ne (g_da dt_Machine_pass 51 rfl) rfl rfl  (fun hc11 => ?_) (fun hc11 => ?_)
  · have h := o_f hc11 h
    exact G_subK (Machine_pass_113_ok hJc h) ⟨rfl, trivial⟩
  · have h := o_t hc11 h
    refine G_aload_n (g_da dt_Machine_pass 52 rfl) rfl rfl ?_
    refine H_getI (g_da dt_Machine_pass 53 rfl) sh_40 fl_5_36 rfl (hJc 40 rfl) ?_
    refine G_if_eq (g_da dt_Machine_pass 54 rfl) rfl rfl  (fun hc15 => ?_) (fun hc15 => ?_)
    · have h := o_t hc15 h
      refine G_aload_n (g_da dt_Machine_pass 60 rfl) rfl rfl ?_
      obtain ⟨r16, s17, hc18, h⟩ := o_b h
      refine H_cVG (Machine_moveAll_ok hJc hc18) (g_da dt_Machine_pass 61 rfl) lk_5_81 mv_Machine_moveAll rfl sh_40 rfl rfl rfl rfl rfl rfl ?_
      exact G_return (g_da dt_Machine_pass 62 rfl) rfl rfl (g_nz rfl) (q_g h)
    · have h := o_f hc15 h
      exact G_subK (Machine_pass_113_ok hJc h) ⟨rfl, trivial⟩
set_option maxHeartbeats 4000000 in
set_option maxRecDepth 100000 in
theorem Machine_pass_63_ok {J : gS → gS} (hJc : g_jc J) {z0 : Int} {s0 : gS}  {t1 : Int} {s : gS} (h : Machine_pass_63 t1 s = some (z0, s0)) : G M_Machine_pass (QG g_S J z0 s0) (g_S, 0, 0) (J s) 63 [some (.ref 40), none] [gi t1, .ref 40] := by
  unfold Machine_pass_63 at h
  refine H_putI (g_da dt_Machine_pass 33 rfl) sh_40 fp_5_52 rfl (hJc 40 rfl) (fun s8 e9 => ?_)
  have h := o_l h s8 e9
  refine G_aload_n (g_da dt_Machine_pass 34 rfl) rfl rfl ?_
  refine H_getI (g_da dt_Machine_pass 35 rfl) sh_40 fl_5_32 rfl (hJc 40 rfl) ?_
  refine G_if_ne (g_da dt_Machine_pass 36 rfl) rfl rfl  (fun hc10 => ?_) (fun hc10 => ?_)
  · have h := o_f hc10 h
    exact G_subK (Machine_pass_99_ok hJc h) ⟨rfl, trivial⟩
  · have h := o_t hc10 h
    refine G_aload_n (g_da dt_Machine_pass 37 rfl) rfl rfl ?_
    refine H_getI (g_da dt_Machine_pass 38 rfl) sh_40 fl_5_36 rfl (hJc 40 rfl) ?_
    refine G_if_eq (g_da dt_Machine_pass 39 rfl) rfl rfl  (fun hc19 => ?_) (fun hc19 => ?_)
    · have h := o_t hc19 h
      exact G_subK (Machine_pass_99_ok hJc h) ⟨rfl, trivial⟩
    · have h := o_f hc19 h
      refine G_aload_n (g_da dt_Machine_pass 40 rfl) rfl rfl ?_
      obtain ⟨r20, s21, hc22, h⟩ := o_b h
      refine H_cVE (Machine_inside_ok hJc hc22) (g_da dt_Machine_pass 41 rfl) lk_5_45 mv_Machine_inside rfl sh_40 rfl rfl rfl rfl rfl rfl ?_
      refine G_if_ne (g_da dt_Machine_pass 42 rfl) rfl rfl  (fun hc23 => ?_) (fun hc23 => ?_)
      · have h := o_f hc23 h
        exact G_subK (Machine_pass_99_ok hJc h) ⟨rfl, trivial⟩
      · have h := o_t hc23 h
        refine G_aload_n (g_da dt_Machine_pass 43 rfl) rfl rfl ?_
        obtain ⟨r24, s25, hc26, h⟩ := o_b h
        refine H_cVE (Machine_anySticks_ok hJc hc26) (g_da dt_Machine_pass 44 rfl) lk_5_71 mv_Machine_anySticks rfl sh_40 rfl rfl rfl rfl rfl rfl ?_
        refine G_if_ne (g_da dt_Machine_pass 45 rfl) rfl rfl  (fun hc27 => ?_) (fun hc27 => ?_)
        · have h := o_f hc27 h
          exact G_subK (Machine_pass_99_ok hJc h) ⟨rfl, trivial⟩
        · have h := o_t hc27 h
          refine G_aload_n (g_da dt_Machine_pass 46 rfl) rfl rfl ?_
          refine G_iconst (g_da dt_Machine_pass 47 rfl) ?_
          refine H_putZ (g_da dt_Machine_pass 48 rfl) sh_40 fp_5_36 rfl (hJc 40 rfl) (Or.inl w_0) (fun s28 e29 => ?_)
          have h := o_l h s28 e29
          exact G_subK (Machine_pass_99_ok hJc h) ⟨rfl, trivial⟩
set_option maxHeartbeats 4000000 in
set_option maxRecDepth 100000 in
theorem Machine_pass_32_ok {J : gS → gS} (hJc : g_jc J) {z0 : Int} {s0 : gS}  {t0 : Int} {s : gS} (h : Machine_pass_32 t0 s = some (z0, s0)) : G M_Machine_pass (QG g_S J z0 s0) (g_S, 0, 0) (J s) 32 [some (.ref 40), none] [gi t0] := by
  unfold Machine_pass_32 at h
  refine G_istore_n (lv' := [_, _]) (g_da dt_Machine_pass 16 rfl) rfl (Nat.le_of_ble_eq_true rfl) rfl rfl ?_
  refine G_aload_n (g_da dt_Machine_pass 17 rfl) rfl rfl ?_
  refine G_iload_n (g_da dt_Machine_pass 18 rfl) rfl rfl ?_
  refine G_if_eq (g_da dt_Machine_pass 19 rfl) rfl rfl  (fun hc4 => ?_) (fun hc4 => ?_)
  · have h := o_t hc4 h
    refine G_iconst (g_da dt_Machine_pass 27 rfl) ?_
    refine G_aload_n (g_da dt_Machine_pass 28 rfl) rfl rfl ?_
    refine H_getI (g_da dt_Machine_pass 29 rfl) sh_40 fl_5_52 rfl (hJc 40 rfl) ?_
    refine G_iconst (g_da dt_Machine_pass 30 rfl) ?_
    refine G_isub (g_da dt_Machine_pass 31 rfl) ?_
    obtain ⟨r5, s6, hc7, h⟩ := o_b h
    refine H_cSE (Math_max_ok hc7) (g_da dt_Machine_pass 32 rfl) lk_5_68 ms_Math_max rfl rfl rfl rfl rfl rfl ?_
    exact G_subK (Machine_pass_63_ok hJc h) ⟨rfl, trivial⟩
  · have h := o_f hc4 h
    refine G_bipush (g_da dt_Machine_pass 20 rfl) b8w_100 ?_
    refine G_aload_n (g_da dt_Machine_pass 21 rfl) rfl rfl ?_
    refine H_getI (g_da dt_Machine_pass 22 rfl) sh_40 fl_5_52 rfl (hJc 40 rfl) ?_
    refine G_bipush (g_da dt_Machine_pass 23 rfl) b8w_10 ?_
    refine G_iadd (g_da dt_Machine_pass 24 rfl) ?_
    obtain ⟨r30, s31, hc32, h⟩ := o_b h
    refine H_cSE (Math_min1_ok hc32) (g_da dt_Machine_pass 25 rfl) lk_5_62 ms_Math_min1 rfl rfl rfl rfl rfl rfl ?_
    refine G_goto (g_da dt_Machine_pass 26 rfl) rfl ?_
    exact G_subK (Machine_pass_63_ok hJc h) ⟨rfl, trivial⟩
set_option maxHeartbeats 4000000 in
set_option maxRecDepth 100000 in
theorem Machine_pass_31_ok {J : gS → gS} (hJc : g_jc J) {z0 : Int} {s0 : gS}  {s : gS} (h : Machine_pass_31 s = some (z0, s0)) : G M_Machine_pass (QG g_S J z0 s0) (g_S, 0, 0) (J s) 31 [some (.ref 40), none] [] := by
  unfold Machine_pass_31 at h
  refine G_iconst (g_da dt_Machine_pass 15 rfl) ?_
  exact G_subK (Machine_pass_32_ok hJc h) ⟨rfl, trivial⟩
set_option maxHeartbeats 4000000 in
set_option maxRecDepth 100000 in
theorem Machine_pass_ok {J : gS → gS} (hJc : g_jc J) {z0 : Int} {s0 : gS} {s : gS} (h : Machine_pass s = some (z0, s0)) : Ct M_Machine_pass g_S [.ref 40] (J s) (QG g_S J z0 s0) := by
  refine Ct_of [some (.ref 40), none] (plainFor_of_name (by decide)) rfl (Nat.le_of_ble_eq_true rfl) rfl (by decide) q_rG ?_
  unfold Machine_pass at h
  refine G_aload_n (g_da dt_Machine_pass 0 rfl) rfl rfl ?_
  refine G_dup (g_da dt_Machine_pass 1 rfl) rfl ?_
  refine H_getI (g_da dt_Machine_pass 2 rfl) sh_40 fl_5_59 rfl (hJc 40 rfl) ?_
  refine G_iconst (g_da dt_Machine_pass 3 rfl) ?_
  refine G_iadd (g_da dt_Machine_pass 4 rfl) ?_
  refine H_putI (g_da dt_Machine_pass 5 rfl) sh_40 fp_5_59 rfl (hJc 40 rfl) (fun s1 e2 => ?_)
  have h := o_l h s1 e2
  refine G_aload_n (g_da dt_Machine_pass 6 rfl) rfl rfl ?_
  refine H_getI (g_da dt_Machine_pass 7 rfl) sh_40 fl_5_32 rfl (hJc 40 rfl) ?_
  refine G_if_ne (g_da dt_Machine_pass 8 rfl) rfl rfl  (fun hc3 => ?_) (fun hc3 => ?_)
  · have h := o_f hc3 h
    exact G_subK (Machine_pass_31_ok hJc h) ⟨rfl, trivial⟩
  · have h := o_t hc3 h
    refine G_aload_n (g_da dt_Machine_pass 9 rfl) rfl rfl ?_
    refine G_getR (g_da dt_Machine_pass 10 rfl) sh_40 fl_5_28 rfl ?_
    obtain ⟨r33, s34, hc35, h⟩ := o_b h
    refine H_cVE (Order_left_ok hJc hc35) (g_da dt_Machine_pass 11 rfl) lk_5_39 mv_Order_left rfl sh_37 rfl rfl rfl rfl rfl rfl ?_
    refine G_if_le (g_da dt_Machine_pass 12 rfl) rfl rfl  (fun hc36 => ?_) (fun hc36 => ?_)
    · have h := o_t hc36 h
      exact G_subK (Machine_pass_31_ok hJc h) ⟨rfl, trivial⟩
    · have h := o_f hc36 h
      refine G_iconst (g_da dt_Machine_pass 13 rfl) ?_
      refine G_goto (g_da dt_Machine_pass 14 rfl) rfl ?_
      exact G_subK (Machine_pass_32_ok hJc h) ⟨rfl, trivial⟩
set_option maxHeartbeats 4000000 in
set_option maxRecDepth 100000 in
theorem B_tick_12_ok {J : gS → gS} (hJc : g_jc J) {t0 z0 : Int} {s0 : gS}  {s : gS} (h : B_tick_12 s = some (t0, z0, s0)) : G M_B_tick (QX g_S J t0 z0 s0) (g_S, 0, 0) (J s) 12 [none, none, none] [] := by
  unfold B_tick_12 at h
  exact G_throw 1 (g_da dt_B_tick 6 rfl) (g_da dt_B_tick 7 rfl) (g_da dt_B_tick 8 rfl) (g_da dt_B_tick 9 rfl) ex_0_74_76 (by decide) rfl rfl (q_t h)
set_option maxHeartbeats 4000000 in
set_option maxRecDepth 100000 in
theorem B_tick_22_ok {J : gS → gS} (hJc : g_jc J) {t0 z0 : Int} {s0 : gS} {k22 : Int → Int → gS → gT} (hk22 : ∀ (l1 l2 : Int) (s : gS), k22 l1 l2 s = some (t0, z0, s0) → G M_B_tick (QX g_S J t0 z0 s0) (g_S, 0, 0) (J s) 22 [some (.ref 0), some (gi l1), some (gi l2)] [])  {l1 l2 : Int} {s : gS} (h : B_tick_22 k22 l1 l2 s = some (t0, z0, s0)) : G M_B_tick (QX g_S J t0 z0 s0) (g_S, 0, 0) (J s) 22 [some (.ref 0), some (gi l1), some (gi l2)] [] := by
  unfold B_tick_22 at h
  refine G_iload_n (g_da dt_B_tick 12 rfl) rfl rfl ?_
  refine G_iload_n (g_da dt_B_tick 13 rfl) rfl rfl ?_
  refine G_icmp_ge (g_da dt_B_tick 14 rfl) rfl rfl rfl (fun hc3 => ?_) (fun hc3 => ?_)
  · have h := o_t hc3 h
    refine G_aload_n (g_da dt_B_tick 20 rfl) rfl rfl ?_
    refine G_getR (g_da dt_B_tick 21 rfl) sh_0 fl_0_35 rfl ?_
    obtain ⟨r4, s5, hc6, h⟩ := o_b h
    refine H_cVE (Machine_state_ok hJc hc6) (g_da dt_B_tick 22 rfl) lk_0_167 mv_Machine_state rfl sh_40 rfl rfl rfl rfl rfl rfl ?_
    exact G_ireturnX (g_da dt_B_tick 23 rfl) rfl rfl (Nat.zero_le _) (Nat.zero_le _) rfl (q_x h)
  · have h := o_f hc3 h
    refine G_aload_n (g_da dt_B_tick 15 rfl) rfl rfl ?_
    refine G_getR (g_da dt_B_tick 16 rfl) sh_0 fl_0_35 rfl ?_
    obtain ⟨r7, s8, hc9, h⟩ := o_b h
    refine H_cVG (Machine_pass_ok hJc hc9) (g_da dt_B_tick 17 rfl) lk_0_164 mv_Machine_pass rfl sh_40 rfl rfl rfl rfl rfl rfl ?_
    refine G_iinc (lv' := [_, _, _]) (g_da dt_B_tick 18 rfl) rfl (Nat.le_of_ble_eq_true rfl) rfl rfl ?_
    refine G_goto (g_da dt_B_tick 19 rfl) rfl ?_
    exact G_subK (hk22 _ _ _ h) ⟨rfl, ⟨rfl, ⟨rfl, trivial⟩⟩⟩
set_option maxHeartbeats 4000000 in
set_option maxRecDepth 100000 in
theorem B_tick_22L_ok {J : gS → gS} (hJc : g_jc J) {t0 z0 : Int} {s0 : gS} : ∀ (n : Nat) {l1 l2 : Int} {s : gS}, B_tick_22L n l1 l2 s = some (t0, z0, s0) → G M_B_tick (QX g_S J t0 z0 s0) (g_S, 0, 0) (J s) 22 [some (.ref 0), some (gi l1), some (gi l2)] [] := by
  intro n
  induction n with
  | zero => intro _ _ _ h; cases h
  | succ n ih => intro _ _ _ h; exact B_tick_22_ok hJc (fun _ _ _ h => ih h) h
set_option maxHeartbeats 4000000 in
set_option maxRecDepth 100000 in
theorem B_tick_ok {J : gS → gS} (hJc : g_jc J) {t0 z0 : Int} {s0 : gS} {a1 : Int} {s : gS} (h : B_tick a1 s = some (t0, z0, s0)) : G M_B_tick (QX g_S J t0 z0 s0) (g_S, 0, 0) (J s) 0 [some (.ref 0), some (gi a1), none] [] := by
  unfold B_tick at h
  refine G_iload_n (g_da dt_B_tick 0 rfl) rfl rfl ?_
  refine G_iconst (g_da dt_B_tick 1 rfl) ?_
  refine G_icmp_lt (g_da dt_B_tick 2 rfl) rfl rfl w_1 (fun hc1 => ?_) (fun hc1 => ?_)
  · have h := o_t hc1 h
    exact G_subK (B_tick_12_ok hJc h) trivial
  · have h := o_f hc1 h
    refine G_iload_n (g_da dt_B_tick 3 rfl) rfl rfl ?_
    refine G_sipush (g_da dt_B_tick 4 rfl) s16w_1000 ?_
    refine G_icmp_le (g_da dt_B_tick 5 rfl) rfl rfl w_1000 (fun hc2 => ?_) (fun hc2 => ?_)
    · have h := o_t hc2 h
      refine G_iconst (g_da dt_B_tick 10 rfl) ?_
      refine G_istore_n (lv' := [_, _, _]) (g_da dt_B_tick 11 rfl) rfl (Nat.le_of_ble_eq_true rfl) rfl rfl ?_
      exact G_subK (B_tick_22L_ok hJc gFu h) ⟨rfl, ⟨rfl, ⟨rfl, trivial⟩⟩⟩
    · have h := o_f hc2 h
      exact G_subK (B_tick_12_ok hJc h) trivial
set_option maxHeartbeats 4000000 in
set_option maxRecDepth 100000 in
theorem Text_byteOf_ok {J : gS → gS} {z0 : Int} {s0 : gS} {a0 a2 : Int} {s : gS} (h : Text_byteOf a0 a2 s = some (z0, s0)) : Ct M_Text_byteOf g_S [gl a0, gi a2] (J s) (QE g_S J z0 s0) := by
  refine Ct_of [some (gl a0), none, some (gi a2)] (plainFor_of_name (by decide)) rfl (Nat.le_of_ble_eq_true rfl) rfl (by decide) q_rE ?_
  unfold Text_byteOf at h
  refine G_lload_n (g_da dt_Text_byteOf 0 rfl) rfl rfl ?_
  refine G_bipush (g_da dt_Text_byteOf 1 rfl) b8w_8 ?_
  refine G_iload_n (g_da dt_Text_byteOf 2 rfl) rfl rfl ?_
  refine G_imul (g_da dt_Text_byteOf 3 rfl) ?_
  refine G_lushr (g_da dt_Text_byteOf 4 rfl) ?_
  refine G_l2i (g_da dt_Text_byteOf 5 rfl) ?_
  refine G_sipush (g_da dt_Text_byteOf 6 rfl) s16w_255 ?_
  refine G_iand (g_da dt_Text_byteOf 7 rfl) ?_
  exact G_ireturn (g_da dt_Text_byteOf 8 rfl) rfl rfl rfl (g_nz rfl) (q_e h)
set_option maxHeartbeats 4000000 in
set_option maxRecDepth 100000 in
theorem Text_isPlain_2_ok {J : gS → gS} {z0 : Int} {s0 : gS} {k2 : Int → Int → Int → gS → gA} (hk2 : ∀ (l0 l2 l3 : Int) (s : gS), k2 l0 l2 l3 s = some (z0, s0) → G M_Text_isPlain (QE g_S J z0 s0) (g_S, 0, 0) (J s) 2 [some (gl l0), none, some (gi l2), some (gi l3), none] [])  {l0 l2 l3 : Int} {s : gS} (h : Text_isPlain_2 k2 l0 l2 l3 s = some (z0, s0)) : G M_Text_isPlain (QE g_S J z0 s0) (g_S, 0, 0) (J s) 2 [some (gl l0), none, some (gi l2), some (gi l3), none] [] := by
  unfold Text_isPlain_2 at h
  refine G_iload_n (g_da dt_Text_isPlain 2 rfl) rfl rfl ?_
  refine G_iload_n (g_da dt_Text_isPlain 3 rfl) rfl rfl ?_
  refine G_icmp_ge (g_da dt_Text_isPlain 4 rfl) rfl rfl rfl (fun hc1 => ?_) (fun hc1 => ?_)
  · have h := o_t hc1 h
    refine G_iconst (g_da dt_Text_isPlain 19 rfl) ?_
    exact G_ireturn (g_da dt_Text_isPlain 20 rfl) rfl (g_bool (Or.inr w_1)).1 rfl (g_nz rfl) (q_e h)
  · have h := o_f hc1 h
    refine G_lload_n (g_da dt_Text_isPlain 5 rfl) rfl rfl ?_
    refine G_iload_n (g_da dt_Text_isPlain 6 rfl) rfl rfl ?_
    obtain ⟨r2, s3, hc4, h⟩ := o_b h
    refine H_cSE (Text_byteOf_ok hc4) (g_da dt_Text_isPlain 7 rfl) lk_8_29 ms_Text_byteOf rfl rfl rfl rfl rfl rfl ?_
    refine G_istore (lv' := [_, none, _, _, _]) (g_da dt_Text_isPlain 8 rfl) (Nat.le_of_ble_eq_true rfl) rfl rfl ?_
    refine G_iload (g_da dt_Text_isPlain 9 rfl) rfl ?_
    refine G_bipush (g_da dt_Text_isPlain 10 rfl) b8w_32 ?_
    refine G_icmp_lt (g_da dt_Text_isPlain 11 rfl) rfl rfl w_32 (fun hc5 => ?_) (fun hc5 => ?_)
    · have h := o_t hc5 h
      refine G_iconst (g_da dt_Text_isPlain 15 rfl) ?_
      exact G_ireturn (g_da dt_Text_isPlain 16 rfl) rfl (g_bool (Or.inl w_0)).1 rfl (g_nz rfl) (q_e h)
    · have h := o_f hc5 h
      refine G_iload (g_da dt_Text_isPlain 12 rfl) rfl ?_
      refine G_bipush (g_da dt_Text_isPlain 13 rfl) b8w_126 ?_
      refine G_icmp_le (g_da dt_Text_isPlain 14 rfl) rfl rfl w_126 (fun hc6 => ?_) (fun hc6 => ?_)
      · have h := o_t hc6 h
        refine G_iinc (lv' := [_, none, _, _, _]) (g_da dt_Text_isPlain 17 rfl) rfl (Nat.le_of_ble_eq_true rfl) rfl rfl ?_
        refine G_goto (g_da dt_Text_isPlain 18 rfl) rfl ?_
        exact G_subK (hk2 _ _ _ _ h) ⟨rfl, ⟨rfl, ⟨rfl, trivial⟩⟩⟩
      · have h := o_f hc6 h
        refine G_iconst (g_da dt_Text_isPlain 15 rfl) ?_
        exact G_ireturn (g_da dt_Text_isPlain 16 rfl) rfl (g_bool (Or.inl w_0)).1 rfl (g_nz rfl) (q_e h)
set_option maxHeartbeats 4000000 in
set_option maxRecDepth 100000 in
theorem Text_isPlain_2L_ok {J : gS → gS} {z0 : Int} {s0 : gS} : ∀ (n : Nat) {l0 l2 l3 : Int} {s : gS}, Text_isPlain_2L n l0 l2 l3 s = some (z0, s0) → G M_Text_isPlain (QE g_S J z0 s0) (g_S, 0, 0) (J s) 2 [some (gl l0), none, some (gi l2), some (gi l3), none] [] := by
  intro n
  induction n with
  | zero => intro _ _ _ _ h; cases h
  | succ n ih => intro _ _ _ _ h; exact Text_isPlain_2_ok (fun _ _ _ _ h => ih h) h
set_option maxHeartbeats 4000000 in
set_option maxRecDepth 100000 in
theorem Text_isPlain_ok {J : gS → gS} {z0 : Int} {s0 : gS} {a0 a2 : Int} {s : gS} (h : Text_isPlain a0 a2 s = some (z0, s0)) : Ct M_Text_isPlain g_S [gl a0, gi a2] (J s) (QE g_S J z0 s0) := by
  refine Ct_of [some (gl a0), none, some (gi a2), none, none] (plainFor_of_name (by decide)) rfl (Nat.le_of_ble_eq_true rfl) rfl (by decide) q_rE ?_
  unfold Text_isPlain at h
  refine G_iconst (g_da dt_Text_isPlain 0 rfl) ?_
  refine G_istore_n (lv' := [_, none, _, _, none]) (g_da dt_Text_isPlain 1 rfl) rfl (Nat.le_of_ble_eq_true rfl) rfl rfl ?_
  exact G_subK (Text_isPlain_2L_ok gFu h) ⟨rfl, ⟨rfl, ⟨rfl, trivial⟩⟩⟩
set_option maxHeartbeats 4000000 in
set_option maxRecDepth 100000 in
theorem Text_append_38_ok {J : gS → gS} (hJc : g_jc J) {z0 : Int} {s0 : gS} {k38 : Int → Int → gS → gA} (hk38 : ∀ (l1 l4 : Int) (s : gS), k38 l1 l4 s = some (z0, s0) → G M_Text_append (QE g_S J z0 s0) (g_S, 0, 0) (J s) 38 [some (.ref 1), some (gl l1), none, none, some (gi l4)] [])  {l1 l4 : Int} {s : gS} (h : Text_append_38 k38 l1 l4 s = some (z0, s0)) : G M_Text_append (QE g_S J z0 s0) (g_S, 0, 0) (J s) 38 [some (.ref 1), some (gl l1), none, none, some (gi l4)] [] := by
  unfold Text_append_38 at h
  refine G_iload (g_da dt_Text_append 22 rfl) rfl ?_
  refine G_if_lt (g_da dt_Text_append 23 rfl) rfl rfl  (fun hc10 => ?_) (fun hc10 => ?_)
  · have h := o_t hc10 h
    refine G_iconst (g_da dt_Text_append 40 rfl) ?_
    exact G_ireturn (g_da dt_Text_append 41 rfl) rfl (g_bool (Or.inr w_1)).1 rfl (g_nz rfl) (q_e h)
  · have h := o_f hc10 h
    refine G_aload_n (g_da dt_Text_append 24 rfl) rfl rfl ?_
    refine G_getR (g_da dt_Text_append 25 rfl) sh_1 fl_8_9 rfl ?_
    refine G_aload_n (g_da dt_Text_append 26 rfl) rfl rfl ?_
    refine H_getI (g_da dt_Text_append 27 rfl) sh_1 fl_8_21 rfl (hJc 1 rfl) ?_
    refine G_lload_n (g_da dt_Text_append 28 rfl) rfl rfl ?_
    refine G_iload (g_da dt_Text_append 29 rfl) rfl ?_
    obtain ⟨r11, s12, hc13, h⟩ := o_b h
    refine H_cSE (Text_byteOf_ok hc13) (g_da dt_Text_append 30 rfl) lk_8_29 ms_Text_byteOf rfl rfl rfl rfl rfl rfl ?_
    obtain ⟨hb14, h⟩ := o_g h
    refine H_iastore (g_da dt_Text_append 31 rfl) sh_2 (hJc 2 rfl) rfl hb14 rfl (fun s15 e16 => ?_)
    have h := o_l h s15 e16
    refine G_aload_n (g_da dt_Text_append 32 rfl) rfl rfl ?_
    refine G_dup (g_da dt_Text_append 33 rfl) rfl ?_
    refine H_getI (g_da dt_Text_append 34 rfl) sh_1 fl_8_21 rfl (hJc 1 rfl) ?_
    refine G_iconst (g_da dt_Text_append 35 rfl) ?_
    refine G_iadd (g_da dt_Text_append 36 rfl) ?_
    refine H_putI (g_da dt_Text_append 37 rfl) sh_1 fp_8_21 rfl (hJc 1 rfl) (fun s17 e18 => ?_)
    have h := o_l h s17 e18
    refine G_iinc (lv' := [_, _, none, none, _]) (g_da dt_Text_append 38 rfl) rfl (Nat.le_of_ble_eq_true rfl) rfl rfl ?_
    refine G_goto (g_da dt_Text_append 39 rfl) rfl ?_
    exact G_subK (hk38 _ _ _ h) ⟨rfl, ⟨rfl, ⟨rfl, trivial⟩⟩⟩
set_option maxHeartbeats 4000000 in
set_option maxRecDepth 100000 in
theorem Text_append_38L_ok {J : gS → gS} (hJc : g_jc J) {z0 : Int} {s0 : gS} : ∀ (n : Nat) {l1 l4 : Int} {s : gS}, Text_append_38L n l1 l4 s = some (z0, s0) → G M_Text_append (QE g_S J z0 s0) (g_S, 0, 0) (J s) 38 [some (.ref 1), some (gl l1), none, none, some (gi l4)] [] := by
  intro n
  induction n with
  | zero => intro _ _ _ h; cases h
  | succ n ih => intro _ _ _ h; exact Text_append_38_ok hJc (fun _ _ _ h => ih h) h
set_option maxHeartbeats 4000000 in
set_option maxRecDepth 100000 in
theorem Text_append_ok {J : gS → gS} (hJc : g_jc J) {z0 : Int} {s0 : gS} {a1 a3 : Int} {s : gS} (h : Text_append a1 a3 s = some (z0, s0)) : Ct M_Text_append g_S [.ref 1, gl a1, gi a3] (J s) (QE g_S J z0 s0) := by
  refine Ct_of [some (.ref 1), some (gl a1), none, some (gi a3), none] (plainFor_of_name (by decide)) rfl (Nat.le_of_ble_eq_true rfl) rfl (by decide) q_rE ?_
  unfold Text_append at h
  refine G_iload_n (g_da dt_Text_append 0 rfl) rfl rfl ?_
  refine G_iconst (g_da dt_Text_append 1 rfl) ?_
  refine G_icmp_lt (g_da dt_Text_append 2 rfl) rfl rfl w_1 (fun hc1 => ?_) (fun hc1 => ?_)
  · have h := o_t hc1 h
    refine G_iconst (g_da dt_Text_append 16 rfl) ?_
    exact G_ireturn (g_da dt_Text_append 17 rfl) rfl (g_bool (Or.inl w_0)).1 rfl (g_nz rfl) (q_e h)
  · have h := o_f hc1 h
    refine G_iload_n (g_da dt_Text_append 3 rfl) rfl rfl ?_
    refine G_bipush (g_da dt_Text_append 4 rfl) b8w_8 ?_
    refine G_icmp_gt (g_da dt_Text_append 5 rfl) rfl rfl w_8 (fun hc2 => ?_) (fun hc2 => ?_)
    · have h := o_t hc2 h
      refine G_iconst (g_da dt_Text_append 16 rfl) ?_
      exact G_ireturn (g_da dt_Text_append 17 rfl) rfl (g_bool (Or.inl w_0)).1 rfl (g_nz rfl) (q_e h)
    · have h := o_f hc2 h
      refine G_aload_n (g_da dt_Text_append 6 rfl) rfl rfl ?_
      refine H_getI (g_da dt_Text_append 7 rfl) sh_1 fl_8_21 rfl (hJc 1 rfl) ?_
      refine G_iload_n (g_da dt_Text_append 8 rfl) rfl rfl ?_
      refine G_iadd (g_da dt_Text_append 9 rfl) ?_
      refine G_sipush (g_da dt_Text_append 10 rfl) s16w_300 ?_
      refine G_icmp_gt (g_da dt_Text_append 11 rfl) rfl rfl w_300 (fun hc3 => ?_) (fun hc3 => ?_)
      · have h := o_t hc3 h
        refine G_iconst (g_da dt_Text_append 16 rfl) ?_
        exact G_ireturn (g_da dt_Text_append 17 rfl) rfl (g_bool (Or.inl w_0)).1 rfl (g_nz rfl) (q_e h)
      · have h := o_f hc3 h
        refine G_lload_n (g_da dt_Text_append 12 rfl) rfl rfl ?_
        refine G_iload_n (g_da dt_Text_append 13 rfl) rfl rfl ?_
        obtain ⟨r4, s5, hc6, h⟩ := o_b h
        refine H_cSE (Text_isPlain_ok hc6) (g_da dt_Text_append 14 rfl) lk_8_25 ms_Text_isPlain rfl rfl rfl rfl rfl rfl ?_
        refine G_if_ne (g_da dt_Text_append 15 rfl) rfl rfl  (fun hc7 => ?_) (fun hc7 => ?_)
        · have h := o_f hc7 h
          refine G_iload_n (g_da dt_Text_append 18 rfl) rfl rfl ?_
          refine G_iconst (g_da dt_Text_append 19 rfl) ?_
          refine G_isub (g_da dt_Text_append 20 rfl) ?_
          refine H_topi (fun v8 e9 => ?_)
          have h := o_l h v8 e9
          refine G_istore (lv' := [_, _, none, _, _]) (g_da dt_Text_append 21 rfl) (Nat.le_of_ble_eq_true rfl) rfl rfl ?_
          exact G_subK (Text_append_38L_ok hJc gFu h) ⟨rfl, ⟨rfl, ⟨rfl, trivial⟩⟩⟩
        · have h := o_t hc7 h
          refine G_iconst (g_da dt_Text_append 16 rfl) ?_
          exact G_ireturn (g_da dt_Text_append 17 rfl) rfl (g_bool (Or.inl w_0)).1 rfl (g_nz rfl) (q_e h)
set_option maxHeartbeats 4000000 in
set_option maxRecDepth 100000 in
theorem B_type_ok {J : gS → gS} (hJc : g_jc J) {z0 : Int} {s0 : gS} {a1 a3 : Int} {s : gS} (h : B_type a1 a3 s = some (z0, s0)) : Ct M_B_type g_S [.ref 0, gl a1, gi a3] (J s) (QE g_S J z0 s0) := by
  refine Ct_of [some (.ref 0), some (gl a1), none, some (gi a3)] (plainFor_of_name (by decide)) rfl (Nat.le_of_ble_eq_true rfl) rfl (by decide) q_rE ?_
  unfold B_type at h
  refine G_aload_n (g_da dt_B_type 0 rfl) rfl rfl ?_
  refine G_getR (g_da dt_B_type 1 rfl) sh_0 fl_0_10 rfl ?_
  refine G_lload_n (g_da dt_B_type 2 rfl) rfl rfl ?_
  refine G_iload_n (g_da dt_B_type 3 rfl) rfl rfl ?_
  obtain ⟨r1, s2, hc3, h⟩ := o_b h
  refine H_cVE (Text_append_ok hJc hc3) (g_da dt_B_type 4 rfl) lk_0_46 mv_Text_append rfl sh_1 rfl rfl rfl rfl rfl rfl ?_
  obtain ⟨hz4, h⟩ := o_g h
  exact G_ireturn (g_da dt_B_type 5 rfl) rfl (g_bool hz4).1 rfl (g_nz rfl) (q_e h)
set_option maxHeartbeats 4000000 in
set_option maxRecDepth 100000 in
theorem B_value_18_ok {J : gS → gS} (hJc : g_jc J) {t0 z0 : Int} {s0 : gS}  {s : gS} (h : B_value_18 s = some (t0, z0, s0)) : G M_B_value (QX g_S J t0 z0 s0) (g_S, 0, 0) (J s) 18 [none, none] [] := by
  unfold B_value_18 at h
  exact G_throw 2 (g_da dt_B_value 8 rfl) (g_da dt_B_value 9 rfl) (g_da dt_B_value 10 rfl) (g_da dt_B_value 11 rfl) ex_0_137_139 (by decide) rfl rfl (q_t h)
set_option maxHeartbeats 4000000 in
set_option maxRecDepth 100000 in
theorem B_value_ok {J : gS → gS} (hJc : g_jc J) {t0 z0 : Int} {s0 : gS} {a1 : Int} {s : gS} (h : B_value a1 s = some (t0, z0, s0)) : G M_B_value (QX g_S J t0 z0 s0) (g_S, 0, 0) (J s) 0 [some (.ref 0), some (gi a1)] [] := by
  unfold B_value at h
  refine G_iload_n (g_da dt_B_value 0 rfl) rfl rfl ?_
  refine G_if_lt (g_da dt_B_value 1 rfl) rfl rfl  (fun hc1 => ?_) (fun hc1 => ?_)
  · have h := o_t hc1 h
    exact G_subK (B_value_18_ok hJc h) trivial
  · have h := o_f hc1 h
    refine G_iload_n (g_da dt_B_value 2 rfl) rfl rfl ?_
    refine G_aload_n (g_da dt_B_value 3 rfl) rfl rfl ?_
    refine G_getR (g_da dt_B_value 4 rfl) sh_0 fl_0_19 rfl ?_
    refine G_getR (g_da dt_B_value 5 rfl) sh_5 fl_0_112 rfl ?_
    refine H_getI (g_da dt_B_value 6 rfl) sh_18 fl_0_116 rfl (hJc 18 rfl) ?_
    refine G_icmp_lt (g_da dt_B_value 7 rfl) rfl rfl rfl (fun hc2 => ?_) (fun hc2 => ?_)
    · have h := o_t hc2 h
      refine G_aload_n (g_da dt_B_value 12 rfl) rfl rfl ?_
      refine G_getR (g_da dt_B_value 13 rfl) sh_0 fl_0_19 rfl ?_
      refine G_getR (g_da dt_B_value 14 rfl) sh_5 fl_0_112 rfl ?_
      refine G_iload_n (g_da dt_B_value 15 rfl) rfl rfl ?_
      obtain ⟨r3, s4, hc5, h⟩ := o_b h
      refine H_cVE (Values_peek_ok hJc hc5) (g_da dt_B_value 16 rfl) lk_0_140 mv_Values_peek rfl sh_18 rfl rfl rfl rfl rfl rfl ?_
      exact G_ireturnX (g_da dt_B_value 17 rfl) rfl rfl (Nat.zero_le _) (Nat.zero_le _) rfl (q_x h)
    · have h := o_f hc2 h
      exact G_subK (B_value_18_ok hJc h) trivial
set_option maxHeartbeats 4000000 in
set_option maxRecDepth 100000 in
theorem B_variable_ok {J : gS → gS} (hJc : g_jc J) {z0 : Int} {s0 : gS} {a1 : Int} {s : gS} (h : B_variable a1 s = some (z0, s0)) : Ct M_B_variable g_S [.ref 0, gi a1] (J s) (QE g_S J z0 s0) := by
  refine Ct_of [some (.ref 0), some (gi a1)] (plainFor_of_name (by decide)) rfl (Nat.le_of_ble_eq_true rfl) rfl (by decide) q_rE ?_
  unfold B_variable at h
  refine G_iload_n (g_da dt_B_variable 0 rfl) rfl rfl ?_
  refine G_if_lt (g_da dt_B_variable 1 rfl) rfl rfl  (fun hc1 => ?_) (fun hc1 => ?_)
  · have h := o_t hc1 h
    refine G_iconst (g_da dt_B_variable 5 rfl) ?_
    refine G_goto (g_da dt_B_variable 6 rfl) rfl ?_
    exact G_ireturn (g_da dt_B_variable 12 rfl) rfl rfl rfl (g_nz rfl) (q_e h)
  · have h := o_f hc1 h
    refine G_iload_n (g_da dt_B_variable 2 rfl) rfl rfl ?_
    refine G_bipush (g_da dt_B_variable 3 rfl) b8w_26 ?_
    refine G_icmp_lt (g_da dt_B_variable 4 rfl) rfl rfl w_26 (fun hc2 => ?_) (fun hc2 => ?_)
    · have h := o_t hc2 h
      refine G_aload_n (g_da dt_B_variable 7 rfl) rfl rfl ?_
      refine G_getR (g_da dt_B_variable 8 rfl) sh_0 fl_0_19 rfl ?_
      refine G_getR (g_da dt_B_variable 9 rfl) sh_5 fl_0_144 rfl ?_
      refine G_iload_n (g_da dt_B_variable 10 rfl) rfl rfl ?_
      obtain ⟨hb3, h⟩ := o_g h
      refine H_iaload (g_da dt_B_variable 11 rfl) sh_20 (hJc 20 rfl) rfl hb3 rfl ?_
      exact G_ireturn (g_da dt_B_variable 12 rfl) rfl rfl rfl (g_nz rfl) (q_e h)
    · have h := o_f hc2 h
      refine G_iconst (g_da dt_B_variable 5 rfl) ?_
      refine G_goto (g_da dt_B_variable 6 rfl) rfl ?_
      exact G_ireturn (g_da dt_B_variable 12 rfl) rfl rfl rfl (g_nz rfl) (q_e h)
set_option maxHeartbeats 4000000 in
set_option maxRecDepth 100000 in
theorem M_byteOf_48_ok {J : gS → gS} (hJm : g_jm J) {z0 : Int} {s0 : gS} {k6 : Int → Int → Int → Int → Int → gS → gA} (hk6 : ∀ (l1 l2 l3 l4 l5 : Int) (s : gS), k6 l1 l2 l3 l4 l5 s = some (z0, s0) → G M_M_byteOf (QE g_S J z0 s0) (g_S, 0, 0) (J s) 6 [some (.ref 49), some (gi l1), some (gi l2), some (gi l3), some (gi l4), some (gi l5)] [])  {l1 l2 l3 l5 t0 t1 : Int} {s : gS} (h : M_byteOf_48 k6 l1 l2 l3 l5 t0 t1 s = some (z0, s0)) : G M_M_byteOf (QE g_S J z0 s0) (g_S, 0, 0) (J s) 48 [some (.ref 49), some (gi l1), some (gi l2), some (gi l3), none, some (gi l5)] [gi t1, gi t0] := by
  unfold M_byteOf_48 at h
  refine G_iadd (g_da dt_M_byteOf 30 rfl) ?_
  refine H_topi (fun v4 e5 => ?_)
  have h := o_l h v4 e5
  refine G_istore (lv' := [_, _, _, _, _, _]) (g_da dt_M_byteOf 31 rfl) (Nat.le_of_ble_eq_true rfl) rfl rfl ?_
  refine G_iinc (lv' := [_, _, _, _, _, _]) (g_da dt_M_byteOf 32 rfl) rfl (Nat.le_of_ble_eq_true rfl) rfl rfl ?_
  refine G_goto (g_da dt_M_byteOf 33 rfl) rfl ?_
  exact G_subK (hk6 _ _ _ _ _ _ h) ⟨rfl, ⟨rfl, ⟨rfl, ⟨rfl, ⟨rfl, ⟨rfl, trivial⟩⟩⟩⟩⟩⟩
set_option maxHeartbeats 4000000 in
set_option maxRecDepth 100000 in
theorem M_byteOf_6_ok {J : gS → gS} (hJm : g_jm J) {z0 : Int} {s0 : gS} {k6 : Int → Int → Int → Int → Int → gS → gA} (hk6 : ∀ (l1 l2 l3 l4 l5 : Int) (s : gS), k6 l1 l2 l3 l4 l5 s = some (z0, s0) → G M_M_byteOf (QE g_S J z0 s0) (g_S, 0, 0) (J s) 6 [some (.ref 49), some (gi l1), some (gi l2), some (gi l3), some (gi l4), some (gi l5)] [])  {l1 l2 l3 l4 l5 : Int} {s : gS} (h : M_byteOf_6 k6 l1 l2 l3 l4 l5 s = some (z0, s0)) : G M_M_byteOf (QE g_S J z0 s0) (g_S, 0, 0) (J s) 6 [some (.ref 49), some (gi l1), some (gi l2), some (gi l3), some (gi l4), some (gi l5)] [] := by
  unfold M_byteOf_6 at h
  refine G_iload (g_da dt_M_byteOf 4 rfl) rfl ?_
  refine G_bipush (g_da dt_M_byteOf 5 rfl) b8w_8 ?_
  refine G_icmp_ge (g_da dt_M_byteOf 6 rfl) rfl rfl w_8 (fun hc1 => ?_) (fun hc1 => ?_)
  · have h := o_t hc1 h
    refine G_iload (g_da dt_M_byteOf 34 rfl) rfl ?_
    exact G_ireturn (g_da dt_M_byteOf 35 rfl) rfl rfl rfl (g_nz rfl) (q_e h)
  · have h := o_f hc1 h
    refine G_iconst (g_da dt_M_byteOf 7 rfl) ?_
    refine G_iload (g_da dt_M_byteOf 8 rfl) rfl ?_
    refine G_imul (g_da dt_M_byteOf 9 rfl) ?_
    refine G_aload_n (g_da dt_M_byteOf 10 rfl) rfl rfl ?_
    refine G_getR (g_da dt_M_byteOf 11 rfl) sh_49 fl_15_53 rfl ?_
    refine G_sipush (g_da dt_M_byteOf 12 rfl) s16w_3072 ?_
    refine G_iload_n (g_da dt_M_byteOf 13 rfl) rfl rfl ?_
    refine G_imul (g_da dt_M_byteOf 14 rfl) ?_
    refine G_bipush (g_da dt_M_byteOf 15 rfl) b8w_64 ?_
    refine G_iload_n (g_da dt_M_byteOf 16 rfl) rfl rfl ?_
    refine G_imul (g_da dt_M_byteOf 17 rfl) ?_
    refine G_iadd (g_da dt_M_byteOf 18 rfl) ?_
    refine G_bipush (g_da dt_M_byteOf 19 rfl) b8w_8 ?_
    refine G_iload_n (g_da dt_M_byteOf 20 rfl) rfl rfl ?_
    refine G_imul (g_da dt_M_byteOf 21 rfl) ?_
    refine G_iadd (g_da dt_M_byteOf 22 rfl) ?_
    refine G_iload (g_da dt_M_byteOf 23 rfl) rfl ?_
    refine G_iadd (g_da dt_M_byteOf 24 rfl) ?_
    obtain ⟨hb2, h⟩ := o_g h
    refine H_zaload (g_da dt_M_byteOf 25 rfl) sh_64 (hJm 64 rfl) rfl hb2 rfl ?_
    refine G_if_eq (g_da dt_M_byteOf 26 rfl) rfl rfl  (fun hc3 => ?_) (fun hc3 => ?_)
    · have h := o_t hc3 h
      refine G_iconst (g_da dt_M_byteOf 29 rfl) ?_
      exact G_subK (M_byteOf_48_ok hJm hk6 h) ⟨rfl, ⟨rfl, ⟨rfl, ⟨rfl, ⟨rfl, trivial⟩⟩⟩⟩⟩
    · have h := o_f hc3 h
      refine G_iconst (g_da dt_M_byteOf 27 rfl) ?_
      refine G_goto (g_da dt_M_byteOf 28 rfl) rfl ?_
      exact G_subK (M_byteOf_48_ok hJm hk6 h) ⟨rfl, ⟨rfl, ⟨rfl, ⟨rfl, ⟨rfl, trivial⟩⟩⟩⟩⟩
set_option maxHeartbeats 4000000 in
set_option maxRecDepth 100000 in
theorem M_byteOf_6L_ok {J : gS → gS} (hJm : g_jm J) {z0 : Int} {s0 : gS} : ∀ (n : Nat) {l1 l2 l3 l4 l5 : Int} {s : gS}, M_byteOf_6L n l1 l2 l3 l4 l5 s = some (z0, s0) → G M_M_byteOf (QE g_S J z0 s0) (g_S, 0, 0) (J s) 6 [some (.ref 49), some (gi l1), some (gi l2), some (gi l3), some (gi l4), some (gi l5)] [] := by
  intro n
  induction n with
  | zero => intro _ _ _ _ _ _ h; cases h
  | succ n ih => intro _ _ _ _ _ _ h; exact M_byteOf_6_ok hJm (fun _ _ _ _ _ _ h => ih h) h
set_option maxHeartbeats 4000000 in
set_option maxRecDepth 100000 in
theorem M_byteOf_ok {J : gS → gS} (hJm : g_jm J) {z0 : Int} {s0 : gS} {a1 a2 a3 : Int} {s : gS} (h : M_byteOf a1 a2 a3 s = some (z0, s0)) : Ct M_M_byteOf g_S [.ref 49, gi a1, gi a2, gi a3] (J s) (QE g_S J z0 s0) := by
  refine Ct_of [some (.ref 49), some (gi a1), some (gi a2), some (gi a3), none, none] (plainFor_of_name (by decide)) rfl (Nat.le_of_ble_eq_true rfl) rfl (by decide) q_rE ?_
  unfold M_byteOf at h
  refine G_iconst (g_da dt_M_byteOf 0 rfl) ?_
  refine G_istore (lv' := [_, _, _, _, _, none]) (g_da dt_M_byteOf 1 rfl) (Nat.le_of_ble_eq_true rfl) rfl rfl ?_
  refine G_iconst (g_da dt_M_byteOf 2 rfl) ?_
  refine G_istore (lv' := [_, _, _, _, _, _]) (g_da dt_M_byteOf 3 rfl) (Nat.le_of_ble_eq_true rfl) rfl rfl ?_
  exact G_subK (M_byteOf_6L_ok hJm gFu h) ⟨rfl, ⟨rfl, ⟨rfl, ⟨rfl, ⟨rfl, ⟨rfl, trivial⟩⟩⟩⟩⟩⟩
set_option maxHeartbeats 4000000 in
set_option maxRecDepth 100000 in
theorem M_alike_3_ok {J : gS → gS} (hJm : g_jm J) {z0 : Int} {s0 : gS} {k3 : Int → Int → Int → Int → gS → gA} (hk3 : ∀ (l1 l2 l3 l4 : Int) (s : gS), k3 l1 l2 l3 l4 s = some (z0, s0) → G M_M_alike (QE g_S J z0 s0) (g_S, 0, 0) (J s) 3 [some (.ref 49), some (gi l1), some (gi l2), some (gi l3), some (gi l4)] [])  {l1 l2 l3 l4 : Int} {s : gS} (h : M_alike_3 k3 l1 l2 l3 l4 s = some (z0, s0)) : G M_M_alike (QE g_S J z0 s0) (g_S, 0, 0) (J s) 3 [some (.ref 49), some (gi l1), some (gi l2), some (gi l3), some (gi l4)] [] := by
  unfold M_alike_3 at h
  refine G_iload_n (g_da dt_M_alike 2 rfl) rfl rfl ?_
  refine G_iload (g_da dt_M_alike 3 rfl) rfl ?_
  refine G_iadd (g_da dt_M_alike 4 rfl) ?_
  refine G_bipush (g_da dt_M_alike 5 rfl) b8w_8 ?_
  refine G_icmp_ge (g_da dt_M_alike 6 rfl) rfl rfl w_8 (fun hc1 => ?_) (fun hc1 => ?_)
  · have h := o_t hc1 h
    refine G_iload (g_da dt_M_alike 22 rfl) rfl ?_
    exact G_ireturn (g_da dt_M_alike 23 rfl) rfl rfl rfl (g_nz rfl) (q_e h)
  · have h := o_f hc1 h
    refine G_aload_n (g_da dt_M_alike 7 rfl) rfl rfl ?_
    refine G_iload_n (g_da dt_M_alike 8 rfl) rfl rfl ?_
    refine G_iload_n (g_da dt_M_alike 9 rfl) rfl rfl ?_
    refine G_iload_n (g_da dt_M_alike 10 rfl) rfl rfl ?_
    refine G_iload (g_da dt_M_alike 11 rfl) rfl ?_
    refine G_iadd (g_da dt_M_alike 12 rfl) ?_
    obtain ⟨r2, s3, hc4, h⟩ := o_b h
    refine H_cVE (M_byteOf_ok hJm hc4) (g_da dt_M_alike 13 rfl) lk_15_305 mv_M_byteOf rfl sh_49 rfl rfl rfl rfl rfl rfl ?_
    refine G_aload_n (g_da dt_M_alike 14 rfl) rfl rfl ?_
    refine G_iload_n (g_da dt_M_alike 15 rfl) rfl rfl ?_
    refine G_iload_n (g_da dt_M_alike 16 rfl) rfl rfl ?_
    refine G_iload_n (g_da dt_M_alike 17 rfl) rfl rfl ?_
    obtain ⟨r5, s6, hc7, h⟩ := o_b h
    refine H_cVE (M_byteOf_ok hJm hc7) (g_da dt_M_alike 18 rfl) lk_15_305 mv_M_byteOf rfl sh_49 rfl rfl rfl rfl rfl rfl ?_
    refine G_icmp_ne (g_da dt_M_alike 19 rfl) rfl rfl rfl (fun hc8 => ?_) (fun hc8 => ?_)
    · have h := o_f hc8 h
      refine G_iload (g_da dt_M_alike 22 rfl) rfl ?_
      exact G_ireturn (g_da dt_M_alike 23 rfl) rfl rfl rfl (g_nz rfl) (q_e h)
    · have h := o_t hc8 h
      refine G_iinc (lv' := [_, _, _, _, _]) (g_da dt_M_alike 20 rfl) rfl (Nat.le_of_ble_eq_true rfl) rfl rfl ?_
      refine G_goto (g_da dt_M_alike 21 rfl) rfl ?_
      exact G_subK (hk3 _ _ _ _ _ h) ⟨rfl, ⟨rfl, ⟨rfl, ⟨rfl, ⟨rfl, trivial⟩⟩⟩⟩⟩
set_option maxHeartbeats 4000000 in
set_option maxRecDepth 100000 in
theorem M_alike_3L_ok {J : gS → gS} (hJm : g_jm J) {z0 : Int} {s0 : gS} : ∀ (n : Nat) {l1 l2 l3 l4 : Int} {s : gS}, M_alike_3L n l1 l2 l3 l4 s = some (z0, s0) → G M_M_alike (QE g_S J z0 s0) (g_S, 0, 0) (J s) 3 [some (.ref 49), some (gi l1), some (gi l2), some (gi l3), some (gi l4)] [] := by
  intro n
  induction n with
  | zero => intro _ _ _ _ _ h; cases h
  | succ n ih => intro _ _ _ _ _ h; exact M_alike_3_ok hJm (fun _ _ _ _ _ h => ih h) h
set_option maxHeartbeats 4000000 in
set_option maxRecDepth 100000 in
theorem M_alike_ok {J : gS → gS} (hJm : g_jm J) {z0 : Int} {s0 : gS} {a1 a2 a3 : Int} {s : gS} (h : M_alike a1 a2 a3 s = some (z0, s0)) : Ct M_M_alike g_S [.ref 49, gi a1, gi a2, gi a3] (J s) (QE g_S J z0 s0) := by
  refine Ct_of [some (.ref 49), some (gi a1), some (gi a2), some (gi a3), none] (plainFor_of_name (by decide)) rfl (Nat.le_of_ble_eq_true rfl) rfl (by decide) q_rE ?_
  unfold M_alike at h
  refine G_iconst (g_da dt_M_alike 0 rfl) ?_
  refine G_istore (lv' := [_, _, _, _, _]) (g_da dt_M_alike 1 rfl) (Nat.le_of_ble_eq_true rfl) rfl rfl ?_
  exact G_subK (M_alike_3L_ok hJm gFu h) ⟨rfl, ⟨rfl, ⟨rfl, ⟨rfl, ⟨rfl, trivial⟩⟩⟩⟩⟩
