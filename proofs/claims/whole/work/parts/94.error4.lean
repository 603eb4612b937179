/-! the least error that is the case -/
section EG
variable {L n l s k D : Nat} {c m : gS} {w : Int}
theorem beyond_both (hw : w32 w = w) (hv : JV L n c m) (hm : JM l c m) (hn : nd w ≤ n) (hk : w ≠ 68 → w ≠ 88 → w ≠ 79 → ∀ j : Nat, (j : Int) < nd w → m 54 (n - 1 - j) = if (j : Int) < pcn w then 1 else 0) : ∃ b : Int, (b = 0 ∨ b = 1) ∧ Job_goesBeyond w c = some (b, c) ∧ (if w = 43 then M_errorOf_52 w (nd w) m else if w = 45 then M_errorOf_52 w (nd w) m else if w = 42 then M_errorOf_52 w (nd w) m else if w = 47 then M_errorOf_52 w (nd w) m else M_errorOf_63 w (nd w) 0 m) = M_errorOf_189 w b m ∧ (b = 0 → okF w n m) := by
  have kz : pcn w = 0 → w ≠ 68 → w ≠ 88 → w ≠ 79 → ∀ j : Nat, (j : Int) < nd w → m 54 (n - 1 - j) = 0 := by
    intro p a b d j hj
    rw [hk a b d j hj, p, if_neg (by omega)]
  have pz : w ≠ 63 → w ≠ 82 → pcn w = 0 := by intro a b; unfold pcn; rw [if_neg a, if_neg b]
  have ok : (w = 43 ∨ w = 45 ∨ w = 42 → -1000000 ≤ res w (m 52 (n - 2)) (m 52 (n - 1)) ∧ res w (m 52 (n - 2)) (m 52 (n - 1)) ≤ 1000000) → (w = 77 ∨ w = 76 ∨ w = 84 → nr m n 0) → (w = 67 → nr m n 0 ∧ nr m n 2 ∧ nr m n 4) → (w = 83 → (-4096 ≤ m 62 0 * m 52 (n - 1 - 1) / 16 ∧ m 62 0 * m 52 (n - 1 - 1) / 16 ≤ 4096) ∧ -4096 ≤ m 62 1 * m 52 (n - 1 - 0) / 16 ∧ m 62 1 * m 52 (n - 1 - 0) / 16 ≤ 4096) → (w = 71 → 0 ≤ m 52 (n - 1 - 0) ∧ m 52 (n - 1 - 0) ≤ 16) → okF w n m := fun a b d e f => ⟨a, b, d, e, f⟩
  by_cases a1 : w = 43 ∨ w = 45 ∨ w = 42
  · obtain ⟨b, b0, b1, b2, b3⟩ := far_num hv hm hn (kz (pz (by omega) (by omega)) (by omega) (by omega) (by omega)) a1
    refine ⟨b, b0, b1, ?_, fun x => ok (fun _ => b3 x) (fun y => by omega) (fun y => by omega) (fun y => by omega) (fun y => by omega)⟩
    rw [← b2]
    rcases a1 with e | e | e
    · rw [if_pos e]
    · rw [if_neg (by omega), if_pos e]
    · rw [if_neg (by omega), if_neg (by omega), if_pos e]
  rw [if_neg (show ¬ w = 43 by omega), if_neg (show ¬ w = 45 by omega), if_neg (show ¬ w = 42 by omega)]
  by_cases a2 : w = 47
  · obtain ⟨b1, b2⟩ := far_div hv hn (kz (pz (by omega) (by omega)) (by omega) (by omega) (by omega)) a2
    rw [if_pos a2]
    exact ⟨0, Or.inl rfl, b1, b2, fun x => ok (fun y => absurd y a1) (fun y => by omega) (fun y => by omega) (fun y => by omega) (fun y => by omega)⟩
  rw [if_neg a2]
  by_cases a3 : w = 77 ∨ w = 76 ∨ w = 84
  · obtain ⟨b, b0, b1, b2, b3⟩ := far_pl hv hm hn (kz (pz (by omega) (by omega)) (by omega) (by omega) (by omega)) a3
    exact ⟨b, b0, b1, b2, fun x => ok (fun y => absurd y a1) (fun _ => b3 x) (fun y => by omega) (fun y => by omega) (fun y => by omega)⟩
  by_cases a4 : w = 67
  · obtain ⟨b, b0, b1, b2, b3⟩ := far_C hv hm hn (kz (pz (by omega) (by omega)) (by omega) (by omega) (by omega)) a4
    exact ⟨b, b0, b1, b2, fun x => ok (fun y => absurd y a1) (fun y => absurd y a3) (fun _ => b3 x) (fun y => by omega) (fun y => by omega)⟩
  by_cases a5 : w = 83
  · obtain ⟨b, b0, b1, b2, b3⟩ := far_S hv hm hn (kz (pz (by omega) (by omega)) (by omega) (by omega) (by omega)) a5
    exact ⟨b, b0, b1, b2, fun x => ok (fun y => absurd y a1) (fun y => absurd y a3) (fun y => absurd y a4) (fun _ => b3 x) (fun y => by omega)⟩
  by_cases a6 : w = 71
  · obtain ⟨b, b0, b1, b2, b3⟩ := far_G hv hn (kz (pz (by omega) (by omega)) (by omega) (by omega) (by omega)) a6
    exact ⟨b, b0, b1, b2, fun x => ok (fun y => absurd y a1) (fun y => absurd y a3) (fun y => absurd y a4) (fun y => absurd y a5) (fun _ => b3 x)⟩
  refine ⟨0, Or.inl rfl, ?_, m63_of hw (by omega) (by omega) a4 (by omega) a5 a6, fun _ => ok (fun y => absurd y a1) (fun y => absurd y a3) (fun y => absurd y a4) (fun y => absurd y a5) (fun y => absurd y a6)⟩
  unfold Job_goesBeyond
  rw [hw, if_neg (by omega), if_neg (by omega), if_neg (by omega), if_neg a4, if_neg a6, if_neg (by omega), if_neg (by omega), if_neg a5, if_neg (by omega)]
/-- what a word with no error can count on -/
def okW (w : Int) (L n l s k D : Nat) (c1 m : gS) : Prop := nd w ≤ n ∧ (w ≠ 68 → w ≠ 88 → w ≠ 79 → ∀ j : Nat, (j : Int) < nd w → m 54 (n - 1 - j) = if (j : Int) < pcn w then 1 else 0) ∧ okF w n m ∧ (w = 47 ∨ w = 37 → m 52 (n - 1) ≠ 0) ∧ okR w n D m ∧ okP w l s k c1 m
theorem err_both (h0 : 32 ≤ w) (h1 : w ≤ 126) (hW : isW w) (hv : JV L n c m) (hm : JM l c m) (hp : JP s c m) (hg : JG k c m) (hu : CU L D c m) (hz : ∀ j, j < 64 → c 17 j = 0) : ∃ (e : Int) (c1 m1 : gS), Job_errorOf w c = some (FE c1 e, c1) ∧ M_errorOf w m = some (e, m1) ∧ (0 ≤ e ∧ e ≤ 11) ∧ (e = 0 → okW w L n l s k D c1 m) ∧ (∀ j, j < 64 → c1 17 j = 0) ∧ fC rC c c1 ∧ fM i65 m m1 := by
  have hw := w_v h0 h1
  obtain ⟨v0, v1, v2, v3, v4⟩ := id hv
  have nb : 0 ≤ nd w ∧ nd w ≤ 6 := by unfold nd; constructor <;> repeat' split <;> omega
  have no0 : ∀ e : Int, 0 < e → e ≤ 11 → ∃ (e' : Int) (c1 m1 : gS), some (e, c) = some (FE c1 e', c1) ∧ some (e, m) = some (e', m1) ∧ (0 ≤ e' ∧ e' ≤ 11) ∧ (e' = 0 → okW w L n l s k D c1 m) ∧ (∀ j, j < 64 → c1 17 j = 0) ∧ fC rC c c1 ∧ fM i65 m m1 := by
    intro e he he2
    exact ⟨e, c, m, by rw [FE_n (by omega)], rfl, ⟨by omega, he2⟩, fun x => absurd x (by omega), hz, fC_rf _ _, fM_rf _ _⟩
  unfold Job_errorOf M_errorOf
  rw [needsC c hw, needsM m hw, g_bi_s, g_bi_s, if_pos hW, v2, v3, w32_id (z := nd w) (by omega) (by omega), w_nat (show n < 2147483648 by omega)]
  by_cases q1 : nd w ≤ n
  · rw [if_pos q1, if_pos q1]
    obtain ⟨b, b0, b1, b2, b3⟩ := kinds_both hv hw q1
    rw [b1, b2, g_bi_s, g_bi_s, w32_01 b0, hw]
    by_cases q2 : b = 0
    · rw [if_pos q2, if_pos q2]
      exact no0 2 (by decide) (by decide)
    · rw [if_neg q2, if_neg q2]
      have hk := b3 (by omega)
      obtain ⟨d, d0, d1, d2, d3⟩ := beyond_both hw hv hm q1 hk
      rw [d1, d2, g_bi_s, w32_01 d0]
      unfold M_errorOf_189
      rw [w32_01 d0, hw]
      by_cases q3 : d = 0
      · rw [if_pos q3, if_pos q3]
        have rest : (w = 47 ∨ w = 37 → m 52 (n - 1) ≠ 0) → ∃ (e : Int) (c1 m1 : gS), Job_errorOf_64 w c = some (FE c1 e, c1) ∧ M_errorOf_217 w m = some (e, m1) ∧ (0 ≤ e ∧ e ≤ 11) ∧ (e = 0 → okW w L n l s k D c1 m) ∧ (∀ j, j < 64 → c1 17 j = 0) ∧ fC rC c c1 ∧ fM i65 m m1 := by
          intro hdz
          obtain ⟨r, r0, r1, r2, r3⟩ := room_both hw hv hu (fun e => by
            subst e
            have hd2 : nd 82 = 2 := by decide
            have := hk (by decide) (by decide) (by decide) 1 (by omega)
            rw [if_neg (by decide)] at this
            exact ⟨by omega, this⟩)
          unfold Job_errorOf_64
          rw [r1, g_bi_s, w32_01 r0, hw, r2]
          by_cases q4 : r = 0
          · rw [if_pos q4, if_pos q4]
            obtain ⟨e, c1, m1, t1, t2, t3, t4, t5, t6, t7⟩ := path_err hw hm hp hg hu hz
            exact ⟨e, c1, m1, t1, t2, t3, fun x => ⟨q1, hk, d3 q3, hdz, r3 q4, t4 x⟩, t5, t6, t7⟩
          · rw [if_neg q4, if_neg q4]
            exact no0 5 (by decide) (by decide)
        have dv : w = 47 ∨ w = 37 → ∃ (e : Int) (c1 m1 : gS), Job_errorOf_51 w c = some (FE c1 e, c1) ∧ M_errorOf_207 w m = some (e, m1) ∧ (0 ≤ e ∧ e ≤ 11) ∧ (e = 0 → okW w L n l s k D c1 m) ∧ (∀ j, j < 64 → c1 17 j = 0) ∧ fC rC c c1 ∧ fM i65 m m1 := by
          intro hd
          have hd2 : nd w = 2 := by rcases hd with rfl | rfl <;> decide
          have hp0 : pcn w = 0 := by rcases hd with rfl | rfl <;> decide
          have kb := hk (by omega) (by omega) (by omega) 0 (by omega)
          rw [hp0, if_neg (by decide)] at kb
          obtain ⟨y1, y2, y3⟩ := at_num hv (k := 0) (by omega) kb
          have e0 : n - 1 - 0 = n - 1 := by omega
          rw [e0] at y1 y2 y3
          unfold Job_errorOf_51 M_errorOf_207
          rw [peek_in v2 v1 0 0 rfl (by omega), num_in v3 v1 0 0 rfl (by omega), g_bi_s, g_bi_s, e0, y1, w32_id (by omega) (by omega)]
          by_cases q4 : m 52 (n - 1) = 0
          · rw [if_pos q4, if_pos q4]
            exact no0 4 (by decide) (by decide)
          · rw [if_neg q4, if_neg q4]
            exact rest (fun _ => q4)
        by_cases a1 : w = 47
        · rw [if_pos a1, if_pos a1]
          exact dv (Or.inl a1)
        · rw [if_neg a1, if_neg a1]
          by_cases a2 : w = 37
          · rw [if_pos a2, if_pos a2]
            exact dv (Or.inr a2)
          · rw [if_neg a2, if_neg a2]
            exact rest (fun x => by rcases x with x | x; exact absurd x a1; exact absurd x a2)
      · rw [if_neg q3, if_neg q3]
        exact no0 3 (by decide) (by decide)
  · rw [if_neg q1, if_neg q1]
    exact no0 1 (by decide) (by decide)
end EG
