theorem g_layer2 : ∃ (sB sM : gS) (z1 z2 : Int) (R : Nat → gS → gS → Prop), B_init_k0 (g_nw (fun _ _ => 0) 0) = some (z1, sB) ∧ M_init_k0 (g_nw sB 49) = some (z2, sM) ∧ R 0 (g_nw sM 74) (g_nw sM 74) ∧ ∀ (k : Nat) (sC sN : gS), k < 512 → R k sC sN → g_stp (R (k + 1)) sC sN := by
  sorry
