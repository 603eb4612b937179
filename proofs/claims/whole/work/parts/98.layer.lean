/-! all calls; the fresh stores -/
section LY
variable {n : Int} {c m c' m' : gS}
theorem RA_74 {v : Int} (h : RA n c m) : RA n (g_up c 74 0 v) m := ⟨RP_congr (fun q hq => g_up_ne (fun e => by rw [e] at hq; cases hq)) (fun _ _ _ => rfl) h.1, JT_congr (g_up_ne (by decide)) (g_up_ne (by decide)) rfl rfl h.2.1, RH_congr (fun q a b => g_up_ne (by omega)) (fun _ _ _ => rfl) (fun _ _ _ => rfl) h.2.2⟩
theorem RA_p (hp : RP n c' m') (f1 : fC pcC c c') (f2 : fM pcM m m') (h : RA n c m) : RA n c' m' := by
  refine ⟨hp, JT_congr (f1 1 rfl) (f1 2 rfl) (f2 49 3 rfl) (funext fun j => f2 50 j rfl) h.2.1, RH_congr (fun q a b => f1 q ?_) (fun k a b => f2 49 k ?_) (fun q a b => funext fun j => f2 q j ?_) h.2.2⟩
  · unfold pcC
    simp only [Bool.and_eq_false_iff, decide_eq_false_iff_not]
    omega
  · unfold pcM
    simp only [Bool.or_eq_false_iff, Bool.and_eq_false_iff, decide_eq_false_iff_not]
    omega
  · unfold pcM
    simp only [Bool.or_eq_false_iff, Bool.and_eq_false_iff, decide_eq_false_iff_not]
    omega
theorem RA_t (ht : JT c' m') (f1 : fC tC c c') (f2 : fM tM m m') (h : RA n c m) : RA n c' m' := by
  refine ⟨RP_congr (fun q hq => f1 q ?_) (fun q k hq => f2 q k ?_) h.1, ht, RH_congr (fun q a b => f1 q ?_) (fun k a b => f2 49 k ?_) (fun q a b => funext fun j => f2 q j ?_) h.2.2⟩
  · unfold pcC at hq
    unfold tC
    simp only [Bool.and_eq_true, decide_eq_true_eq] at hq
    simp only [Bool.or_eq_false_iff, decide_eq_false_iff_not]
    omega
  · unfold ruM at hq
    unfold tM
    simp only [Bool.or_eq_true, Bool.and_eq_true, decide_eq_true_eq] at hq
    simp only [Bool.or_eq_false_iff, Bool.and_eq_false_iff, decide_eq_false_iff_not]
    omega
  · unfold tC
    simp only [Bool.or_eq_false_iff, decide_eq_false_iff_not]
    omega
  · unfold tM
    simp only [Bool.or_eq_false_iff, Bool.and_eq_false_iff, decide_eq_false_iff_not]
    omega
  · unfold tM
    simp only [Bool.or_eq_false_iff, Bool.and_eq_false_iff, decide_eq_false_iff_not]
    omega
theorem cl2_p {f g : gS → gA} (h : RA n c m) (o : oP n f g c m) : g_cl2 (RA n) f g c m := by
  obtain ⟨z, c', m', o1, o2, o3, o4, o5⟩ := o
  exact ⟨z, z, c', m', o1, o2, rfl, RA_p o3 o4 o5 h⟩
theorem cl2_e {f g : gS → gA} (o : ∃ (z z' : Int) (c' m' : gS), f c = some (z, c') ∧ g m = some (z', m') ∧ z = z' ∧ RA n c' m') : g_cl2 (RA n) f g c m := by
  obtain ⟨z, z', c', m', o1, o2, o3, o4⟩ := o
  exact ⟨z, z', c', m', o1, o2, by rw [o3], o4⟩
theorem all_calls (h : RA n c m) : g_stp (RA n) c m := by
  refine ⟨fun a0 a1 h0 h1 => ?_, fun a0 a1 a2 h0 h1 h2 => cl2_e (op_start h0 h1 h2 h), fun a ha => ?_, fun a ha => cl2_e (op_job ha h), fun a ha => ?_, fun a ha => cl2_e (op_variable ha h), fun a0 a1 a2 h0 h1 h2 => cl2_e (op_pixel h0 h1 h2 h), fun a0 a1 h0 h1 => cl2_e (op_band h0 h1 h), fun a0 a1 a2 h0 h1 h2 => cl2_e (op_octet h0 h1 h2 h), fun a ha => ?_, fun a0 a1 h0 h1 => cl2_p h (op_stick h0 h1 h.1), fun a ha => cl2_p h (op_take ha h.1), fun a ha => cl2_p h (op_load ha h.1), fun a ha => cl2_p h (op_cover ha h.1), fun a0 a1 h0 h1 => cl2_p h (op_section h0 h1 h.1), fun a0 a1 h0 h1 => cl2_p h (op_out h0 h1 h.1), fun a ha => cl2_p h (op_press ha h.1), h⟩
  · obtain ⟨z, c', m', o1, o2, o3, o4, o5⟩ := op_type (a := a0) (b := a1) h1 h.2.1
    exact ⟨z, z, c', m', o1, o2, rfl, RA_t o3 o4 o5 h⟩
  · obtain ⟨t, z, z', c', m', o1, o2, o3, o4⟩ := op_run ha h
    rcases o3 with ⟨rfl, e1, e2⟩ | ⟨rfl, e1⟩ | ⟨rfl, e1⟩
    · exact Or.inl ⟨z, z', c', m', o1, o2, by rw [e1]; rfl, fun _ => by rw [e2], by rw [if_pos rfl]; exact RA_74 o4⟩
    · exact Or.inr (Or.inl ⟨z, z', c', m', o1, o2, by rw [e1]; rfl, fun x => (by cases x), by rw [if_neg (by decide)]; exact o4⟩)
    · exact Or.inr (Or.inr ⟨z, z', c', m', o1, o2, by rw [e1]; rfl, fun x => (by cases x), by rw [if_neg (by decide)]; exact o4⟩)
  · obtain ⟨t, z, z', c', m', o1, o2, o3, o4⟩ := op_value ha h
    rcases o3 with ⟨rfl, e1, e2⟩ | ⟨rfl, e1⟩
    · exact Or.inl ⟨z, z', c', m', o1, o2, by rw [e1]; rfl, fun _ => by rw [e2], by rw [if_pos rfl]; exact RA_74 o4⟩
    · exact Or.inr ⟨z, z', c', m', o1, o2, by rw [e1]; rfl, fun x => (by cases x), by rw [if_neg (by decide)]; exact o4⟩
  · obtain ⟨t, z, c', m', o1, o2, o3, o4, o5, o6⟩ := op_tick ha h.1
    have hr := RA_p o4 o5 o6 h
    rcases o3 with ⟨rfl, e1⟩ | ⟨rfl, -, e1⟩
    · exact Or.inl ⟨z, z, c', m', o1, o2, by rw [e1]; rfl, fun _ => rfl, by rw [if_pos rfl]; exact RA_74 hr⟩
    · exact Or.inr ⟨z, z, c', m', o1, o2, by rw [e1]; rfl, fun x => (by cases x), by rw [if_neg (by decide)]; exact hr⟩
theorem nw_n {s : gS} {q i : Nat} (h : i ≠ q) : g_nw s q i = s i := by
  funext j
  show (if i = q then 0 else s i j) = _
  rw [if_neg h]
theorem nw_y {s : gS} {q : Nat} : g_nw s q q = fun _ => 0 := by
  funext j
  show (if q = q then 0 else s q j) = _
  rw [if_pos rfl]
def fz (x : gS) : gS := fun a b => if a = 27 ∧ b < 240 then -1 else x a b
theorem fz_n {x : gS} {q : Nat} (h : q ≠ 27) : fz x q = x q := by
  funext j
  show (if q = 27 ∧ j < 240 then -1 else x q j) = _
  rw [if_neg (fun e => h e.1)]
theorem fz_y {x : gS} {j : Nat} (h : j < 240) : fz x 27 j = -1 := by
  show (if 27 = 27 ∧ j < 240 then -1 else x 27 j) = _
  rw [if_pos ⟨rfl, h⟩]
theorem fillc_loop : ∀ (d i N : Nat) (x : gS), i + d = 240 → Arrays_fill_c_6L (N + d + 1) (-1) i 240 x = some (0, fun a b => if a = 27 ∧ i ≤ b ∧ b < 240 then -1 else x a b) := by
  intro d
  induction d with
  | zero =>
    intro i N x hi
    show Arrays_fill_c_6 _ _ _ _ _ = _
    unfold Arrays_fill_c_6
    rw [show i = 240 by omega, if_pos (by decide)]
    congr 2
    funext a b
    rw [if_neg (by omega)]
  | succ d ih =>
    intro i N x hi
    show Arrays_fill_c_6 (Arrays_fill_c_6L (N + d + 1)) _ _ _ _ = _
    unfold Arrays_fill_c_6
    rw [w_nat (by omega), if_neg (show ¬ w32 240 ≤ (i : Int) by rw [show w32 240 = 240 from rfl]; omega), if_pos ⟨by omega, by omega⟩, g_le_s, Int.toNat_natCast, show (i : Int) + 1 = ((i + 1 : Nat) : Int) by omega, ih (i + 1) N _ (by omega)]
    congr 2
    funext a b
    rw [g_up_at]
    by_cases e : a = 27 ∧ i ≤ b ∧ b < 240
    · rw [if_pos e]
      by_cases e2 : a = 27 ∧ i + 1 ≤ b ∧ b < 240
      · rw [if_pos e2]
      · rw [if_neg e2, if_pos (by omega)]
    · rw [if_neg e, if_neg (by omega), if_neg (by omega)]
theorem fillc (x : gS) : Arrays_fill_c (-1) x = some (0, fz x) := by
  have e := fillc_loop 240 0 (1000000000000 - 241) x (by omega)
  rw [show 1000000000000 - 241 + 240 + 1 = gFu from rfl, show ((0 : Nat) : Int) = 0 from rfl] at e
  have e2 : (fun a b => if a = 27 ∧ 0 ≤ b ∧ b < 240 then -1 else x a b) = fz x := by
    funext a b
    unfold fz
    by_cases q : a = 27 ∧ b < 240
    · rw [if_pos q, if_pos ⟨q.1, by omega, q.2⟩]
    · rw [if_neg q, if_neg (fun e => q ⟨e.1, e.2.2⟩)]
  unfold Arrays_fill_c
  rw [e, e2]
def okZ (s : gS) (q : Nat) : Prop := s q = fun _ => 0
theorem fresh_B : ∃ s, B_init_k0 (g_nw (fun _ _ => 0) 0) = some (0, s) ∧ (okZ s 1 ∧ okZ s 5 ∧ okZ s 6 ∧ okZ s 17 ∧ okZ s 18 ∧ okZ s 20 ∧ okZ s 21 ∧ okZ s 24 ∧ okZ s 25 ∧ okZ s 28 ∧ okZ s 34 ∧ okZ s 36 ∧ okZ s 37 ∧ okZ s 39 ∧ okZ s 40 ∧ okZ s 42 ∧ okZ s 43 ∧ okZ s 45) ∧ s 22 0 = 16 ∧ s 23 0 = 16 ∧ s 26 0 = 16 ∧ (∀ j, j < 240 → s 27 j = -1) ∧ s 41 0 = -1 ∧ s 41 1 = -1 ∧ s 41 2 = -1 ∧ s 41 3 = -1 := by
  refine ⟨?s, ?a, ?b⟩
  case a =>
    unfold B_init_k0 Text_init_k0 Job_init_k0 Order_init_k0 Machine_init_k0 Packer_init_k0 Text_init_k1 Calls_init_k0 Filler_init_k0 Values_init_k0 Settings_init_k0 Path_init_k0 Pages_init_k0
    repeat (first | rw [g_bi_s] | rw [fillc])
  case b =>
    unfold okZ
    refine ⟨⟨?_, ?_, ?_, ?_, ?_, ?_, ?_, ?_, ?_, ?_, ?_, ?_, ?_, ?_, ?_, ?_, ?_, ?_⟩, ?_, ?_, ?_, fun j hj => ?_, ?_, ?_, ?_, ?_⟩
    all_goals first
      | (simp (disch := decide) only [nw_n, nw_y, g_up_ne, up_y, up_n, fz_n]; done)
      | (simp (disch := first | decide | omega) only [nw_n, nw_y, g_up_ne, up_y, up_n, fz_n, fz_y]; done)
theorem fresh_M (s0 : gS) : ∃ s, M_init_k0 (g_nw s0 49) = some (0, s) ∧ (okZ s 49 ∧ okZ s 53 ∧ okZ s 64 ∧ okZ s 68 ∧ okZ s 69 ∧ okZ s 71 ∧ okZ s 73) ∧ (s 62 0 = 16 ∧ s 62 1 = 16 ∧ s 62 2 = 0 ∧ s 62 3 = 0 ∧ s 62 4 = 16) ∧ (s 67 0 = -1 ∧ s 67 1 = -1 ∧ s 67 2 = -1 ∧ s 67 3 = -1) ∧ ∀ q, q ≤ 48 → s q = s0 q := by
  refine ⟨_, rfl, ?_⟩
  unfold okZ
  refine ⟨⟨?_, ?_, ?_, ?_, ?_, ?_, ?_⟩, ⟨?_, ?_, ?_, ?_, ?_⟩, ⟨?_, ?_, ?_, ?_⟩, fun q hq => ?_⟩
  all_goals first
    | (simp (disch := decide) only [nw_n, nw_y, g_up_ne, up_y, up_n]; done)
    | (simp (disch := omega) only [nw_n, g_up_ne]; done)
end LY
