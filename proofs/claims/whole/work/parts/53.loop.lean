/-! the law's loop and what comes ahead of it (by program) -/
theorem g_ofNat (n : Nat) : Int32.ofNat n = Int32.ofInt (n : Int) := by
  first
    | rfl
    | simp
    | exact (Int32.ofInt_natCast n).symm
def g_stp (K : gS → gS → Prop) (sC sM : gS) : Prop := (∀ a0 a1 : Int, w64 a0 = a0 → w32 a1 = a1 → g_cl2 (K) (B_type a0 a1) (M_type a0 a1) sC sM) ∧ (∀ a0 a1 a2 : Int, w32 a0 = a0 → (a1 = 0 ∨ a1 = 1) → w32 a2 = a2 → g_cl2 (K) (B_start a0 a1 a2) (M_start a0 a1 a2) sC sM) ∧ (∀ a : Int, w32 a = a → g_clx (K) (B_run a) (M_run a) 0 0 sC sM ∨ g_clx (K) (B_run a) (M_run a) 1 1 sC sM ∨ g_clx (K) (B_run a) (M_run a) 2 2 sC sM) ∧ (∀ a0 : Int, w32 a0 = a0 → g_cl2 (K) (B_job a0) (M_job a0) sC sM) ∧ (∀ a : Int, w32 a = a → g_clx (K) (B_value a) (M_value a) 0 0 sC sM ∨ g_clx (K) (B_value a) (M_value a) 3 1 sC sM) ∧ (∀ a0 : Int, w32 a0 = a0 → g_cl2 (K) (B_variable a0) (M_variable a0) sC sM) ∧ (∀ a0 a1 a2 : Int, w32 a0 = a0 → w32 a1 = a1 → w32 a2 = a2 → g_cl2 (K) (B_pixel a0 a1 a2) (M_pixel a0 a1 a2) sC sM) ∧ (∀ a0 a1 : Int, w32 a0 = a0 → w32 a1 = a1 → g_cl2 (K) (B_band a0 a1) (M_band a0 a1) sC sM) ∧ (∀ a0 a1 a2 : Int, w32 a0 = a0 → w32 a1 = a1 → w32 a2 = a2 → g_cl2 (K) (B_octet a0 a1 a2) (M_octet a0 a1 a2) sC sM) ∧ (∀ a : Int, w32 a = a → g_clx (K) (B_tick a) (M_tick a) 0 0 sC sM ∨ g_clx (K) (B_tick a) (M_tick a) 2 1 sC sM) ∧ (∀ a0 a1 : Int, w32 a0 = a0 → (a1 = 0 ∨ a1 = 1) → g_cl2 (K) (B_stick a0 a1) (M_stick a0 a1) sC sM) ∧ (∀ a0 : Int, w32 a0 = a0 → g_cl2 (K) (B_take a0) (M_take a0) sC sM) ∧ (∀ a0 : Int, w32 a0 = a0 → g_cl2 (K) (B_load a0) (M_load a0) sC sM) ∧ (∀ a0 : Int, (a0 = 0 ∨ a0 = 1) → g_cl2 (K) (B_cover a0) (M_cover a0) sC sM) ∧ (∀ a0 a1 : Int, w32 a0 = a0 → w32 a1 = a1 → g_cl2 (K) (B_section a0 a1) (M_section a0 a1) sC sM) ∧ (∀ a0 a1 : Int, w32 a0 = a0 → w32 a1 = a1 → g_cl2 (K) (B_out a0 a1) (M_out1 a0 a1) sC sM) ∧ (∀ a0 : Int, w32 a0 = a0 → g_cl2 (K) (B_press a0) (M_press a0) sC sM) ∧ K sC sM
theorem g_cl2_mono {K K' : gS → gS → Prop} {f g : gS → gA} {sC sM : gS} (hK : ∀ a b, K a b → K' a b) (h : g_cl2 K f g sC sM) : g_cl2 K' f g sC sM := by
  obtain ⟨z, z', sC', sM', h1, h2, h3, h4⟩ := h
  exact ⟨z, z', sC', sM', h1, h2, h3, hK _ _ h4⟩
theorem g_clx_mono {K K' : gS → gS → Prop} {f : gS → gT} {g : gS → gA} {t0 a0 : Int} {sC sM : gS} (hK : ∀ a b, K a b → K' a b) (h : g_clx K f g t0 a0 sC sM) : g_clx K' f g t0 a0 sC sM := by
  obtain ⟨z, z', sC', sM', h1, h2, h3, h4, h5⟩ := h
  exact ⟨z, z', sC', sM', h1, h2, h3, h4, hK _ _ h5⟩
theorem G_wide {M : gM} {Q : gO → List gH → gS → Prop} {S : List gH} {c1 c2 c1' c2' : Nat} {sg : gS} {pc : Nat} {lv : List (Option Value)} {st : List Value} (h1 : c1 ≤ c1') (h2 : c2 ≤ c2') (ha : g_a M = false) (k : G M Q (S, c1', c2') sg pc lv st) : G M Q (S, c1, c2) sg pc lv st := by
  intro p l e R s m args below meth c D A ad ca X H locs ls Y T hT X1
  exact k p l e R s m args below meth c D A ad ca X H locs ls ⟨Y.1, Y.2.1, Y.2.2.1, Y.2.2.2.1, fun h => (by rw [ha] at h; cases h)⟩ T hT (stand_widen X1 h1 h2)
theorem G_flag {r : Nat × (Nat → Int32)} {Q : gO → List gH → gS → Prop} {Z : gZ} {sg : gS} {pc : Nat} {lv : List (Option Value)} {st : List Value} (k : G (M_law r false) Q Z sg pc lv st) : G (M_law r true) Q Z sg pc lv st := by
  intro p l e R s m args below meth c D A ad ca X H locs ls Y
  exact k p l e R s m args below meth c D A ad ca X H locs ls ⟨Y.1, Y.2.1, Y.2.2.1, Y.2.2.2.1, fun h => (by cases h)⟩
def QT : gO → List gH → gS → Prop := fun o _ _ => o = .inl (some (gi 1))
set_option maxHeartbeats 4000000 in
set_option maxRecDepth 100000 in
theorem law_inc {r : Nat × (Nat → Int32)} {Q : gO → List gH → gS → Prop} {Z : gZ} {sg : gS} {i : Int} (k : G (M_law r false) Q Z sg 23 [some (.ref 4000), some (.ref 0), some (.ref 49), some (.ref 74), some (gi (i + 4)), none, none] []) : G (M_law r false) Q Z sg 850 [some (.ref 4000), some (.ref 0), some (.ref 49), some (.ref 74), some (gi (i)), none, none] [] := by
  refine G_iinc (lv' := [some (.ref 4000), some (.ref 0), some (.ref 49), some (.ref 74), some (gi (i + 4)), none, none]) (g_da dt_law13 6 rfl) rfl (Nat.le_of_ble_eq_true rfl) rfl rfl ?_
  exact G_goto (g_da dt_law13 7 rfl) rfl k
set_option maxHeartbeats 4000000 in
set_option maxRecDepth 100000 in
theorem law_loop {r : Nat × (Nat → Int32)} (hL : r.1 ≤ 2048) (R : Nat → gS → gS → Prop) (hR : ∀ (k : Nat) (sC sM : gS), 4 * k + 4 ≤ r.1 → R k sC sM → g_stp (R (k + 1)) sC sM) : ∀ (n k : Nat) (sC sM : gS), n + k = 513 → R k sC sM → G (M_law r false) QT (g_S, 75 + k, 54000 + 6 * k) (g_j sC sM) 23 [some (.ref 4000), some (.ref 0), some (.ref 49), some (.ref 74), some (gi (4 * (k : Int))), none, none] [] := by
  have hL' : (r.1 : Int) ≤ 2048 := by omega
  intro n
  induction n with
  | zero =>
    intro k sC sM hk _
    have hw : w32 (4 * (k : Int)) = 4 * (k : Int) := w32_id (by omega) (by omega)
    have hw2 : w32 ((r.1 : Int) - 4) = (r.1 : Int) - 4 := w32_id (by omega) (by omega)
    refine G_iload (g_da dt_law0 13 rfl) rfl ?_
    refine G_aload_n (g_da dt_law0 14 rfl) rfl rfl ?_
    refine G_slen (z := (r.1 : Int)) (g_da dt_law0 15 rfl) rfl (g_ofNat r.1) ?_
    refine G_iconst (g_da dt_law0 16 rfl) ?_
    refine G_isub (g_da dt_law0 17 rfl) ?_
    refine G_icmp_gt (g_da dt_law0 18 rfl) rfl hw hw2 (fun _ => ?_) (fun hc => absurd (show (r.1 : Int) - 4 < 4 * (k : Int) by omega) hc)
    refine G_iconst (g_da dt_law13 8 rfl) ?_
    exact G_ireturnX (g_da dt_law13 9 rfl) rfl (g_bool (Or.inr w_1)).1 (show 75 + k ≤ 1103 by omega) (show 54000 + 6 * k ≤ 59611 by omega) rfl rfl
  | succ n ih =>
    intro k sC sM hk hRk
    have hw : w32 (4 * (k : Int)) = 4 * (k : Int) := w32_id (by omega) (by omega)
    have hw2 : w32 ((r.1 : Int) - 4) = (r.1 : Int) - 4 := w32_id (by omega) (by omega)
    refine G_iload (g_da dt_law0 13 rfl) rfl ?_
    refine G_aload_n (g_da dt_law0 14 rfl) rfl rfl ?_
    refine G_slen (z := (r.1 : Int)) (g_da dt_law0 15 rfl) rfl (g_ofNat r.1) ?_
    refine G_iconst (g_da dt_law0 16 rfl) ?_
    refine G_isub (g_da dt_law0 17 rfl) ?_
    refine G_icmp_gt (g_da dt_law0 18 rfl) rfl hw hw2 (fun _ => ?_) (fun hc => ?_)
    · refine G_iconst (g_da dt_law13 8 rfl) ?_
      exact G_ireturnX (g_da dt_law13 9 rfl) rfl (g_bool (Or.inr w_1)).1 (show 75 + k ≤ 1103 by omega) (show 54000 + 6 * k ≤ 59611 by omega) rfl rfl
    have hj : 4 * (k : Int) + 4 ≤ (r.1 : Int) := by omega
    have hi : 0 ≤ 4 * (k : Int) := by omega
    have hc1 : 75 + k ≤ 1103 := by omega
    have hc2 : 54000 + 6 * k ≤ 59611 := by omega
    have hx1 : 75 + k + 1 ≤ 1103 := by omega
    have hx2 : 54000 + 6 * k + 6 ≤ 59611 := by omega
    have hK : ∀ a b : gS, R (k + 1) a b → G (M_law r false) QT (g_S, 75 + k + 1, 54000 + 6 * k + 6) (g_j a b) 23 [some (.ref 4000), some (.ref 0), some (.ref 49), some (.ref 74), some (gi (4 * (k : Int) + 4)), none, none] [] := by
      intro a b hab
      have h := ih (k + 1) a b (by omega) hab
      rw [show 75 + (k + 1) = 75 + k + 1 by omega, show 54000 + 6 * (k + 1) = 54000 + 6 * k + 6 by omega, show (4 : Int) * ((k + 1 : Nat) : Int) = 4 * (k : Int) + 4 by omega] at h
      exact h
    have hKx : ∀ a b : gS, R (k + 1) a b → g_kt r QT (75 + k + 1) (54000 + 6 * k + 6) (4 * (k : Int)) a b := fun a b hab => law_inc (hK a b hab)
    have hK2 : ∀ a b : gS, R (k + 1) a b → g_kt r QT (75 + k) (54000 + 6 * k) (4 * (k : Int)) a b := fun a b hab => law_inc (G_wide (by omega) (by omega) rfl (hK a b hab))
    obtain ⟨h0, h1, h2, h3, h4, h5, h6, h7, h8, h9, h10, h11, h12, h13, h14, h15, h16, hd⟩ := hR k sC sM (by omega) hRk
    have hK0 := G_wide (M := M_law r false) (c1 := 75 + k) (c2 := 54000 + 6 * k) (by omega) (by omega) rfl (hK sC sM hd)
    refine G_aload_n (g_da dt_law0 19 rfl) rfl rfl ?_
    refine G_iload (g_da dt_law0 20 rfl) rfl ?_
    refine G_sld (g_da dt_law0 21 rfl) rfl hw ⟨by omega, by omega⟩ ?_
    refine G_bipush (g_da dt_law0 22 rfl) (by decide) ?_
    refine G_iand (g_da dt_law0 23 rfl) ?_
    refine G_table [(0, 120), (1, 189), (2, 254), (3, 310), (4, 335), (5, 391), (6, 416), (7, 465), (8, 502), (9, 551), (10, 607), (11, 660), (12, 685), (13, 710), (14, 751), (15, 788), (16, 825)] 850 (g_da dt_law0 24 rfl) rfl rfl rfl ?_
    exact ⟨fun _ => law_0 hc1 hc2 hi hj hL' (fun a0 a1 b0 b1 => g_cl2_mono hK2 (h0 a0 a1 b0 b1)), fun _ => ⟨fun _ => law_1 hc1 hc2 hi hj hL' (fun a0 a1 a2 b0 b1 b2 => g_cl2_mono hK2 (h1 a0 a1 a2 b0 b1 b2)), fun _ => ⟨fun _ => law_2 hx1 hx2 hi hj hL' (fun a b => by
      rcases h2 a b with h | h | h
      · exact Or.inl (g_clx_mono hKx h)
      · exact Or.inr (Or.inl (g_clx_mono hKx h))
      · exact Or.inr (Or.inr (g_clx_mono hKx h))), fun _ => ⟨fun _ => law_3 hc1 hc2 hi hj hL' (fun a0 b0 => g_cl2_mono hK2 (h3 a0 b0)), fun _ => ⟨fun _ => law_4 hx1 hx2 hi hj hL' (fun a b => by
      rcases h4 a b with h | h
      · exact Or.inl (g_clx_mono hKx h)
      · exact Or.inr (g_clx_mono hKx h)), fun _ => ⟨fun _ => law_5 hc1 hc2 hi hj hL' (fun a0 b0 => g_cl2_mono hK2 (h5 a0 b0)), fun _ => ⟨fun _ => law_6 hc1 hc2 hi hj hL' (fun a0 a1 a2 b0 b1 b2 => g_cl2_mono hK2 (h6 a0 a1 a2 b0 b1 b2)), fun _ => ⟨fun _ => law_7 hc1 hc2 hi hj hL' (fun a0 a1 b0 b1 => g_cl2_mono hK2 (h7 a0 a1 b0 b1)), fun _ => ⟨fun _ => law_8 hc1 hc2 hi hj hL' (fun a0 a1 a2 b0 b1 b2 => g_cl2_mono hK2 (h8 a0 a1 a2 b0 b1 b2)), fun _ => ⟨fun _ => law_9 hx1 hx2 hi hj hL' (fun a b => by
      rcases h9 a b with h | h
      · exact Or.inl (g_clx_mono hKx h)
      · exact Or.inr (g_clx_mono hKx h)), fun _ => ⟨fun _ => law_10 hc1 hc2 hi hj hL' (fun a0 a1 b0 b1 => g_cl2_mono hK2 (h10 a0 a1 b0 b1)), fun _ => ⟨fun _ => law_11 hc1 hc2 hi hj hL' (fun a0 b0 => g_cl2_mono hK2 (h11 a0 b0)), fun _ => ⟨fun _ => law_12 hc1 hc2 hi hj hL' (fun a0 b0 => g_cl2_mono hK2 (h12 a0 b0)), fun _ => ⟨fun _ => law_13 hc1 hc2 hi hj hL' (fun a0 b0 => g_cl2_mono hK2 (h13 a0 b0)), fun _ => ⟨fun _ => law_14 hc1 hc2 hi hj hL' (fun a0 a1 b0 b1 => g_cl2_mono hK2 (h14 a0 a1 b0 b1)), fun _ => ⟨fun _ => law_15 hc1 hc2 hi hj hL' (fun a0 a1 b0 b1 => g_cl2_mono hK2 (h15 a0 a1 b0 b1)), fun _ => ⟨fun _ => law_16 hc1 hc2 hi hj hL' (fun a0 b0 => g_cl2_mono hK2 (h16 a0 b0)), fun _ => law_inc hK0⟩⟩⟩⟩⟩⟩⟩⟩⟩⟩⟩⟩⟩⟩⟩⟩⟩
