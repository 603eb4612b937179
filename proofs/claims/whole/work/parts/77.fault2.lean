/-! the same by words -/
theorem ftd_y {f : Nat → Int} {L i : Nat} (hi : i < L) (h : okc f i) : ftd f L (L - i) i = ftd f L (L - (i + 1)) (i + 1) := by
  rw [show L - i = (L - (i + 1)) + 1 by omega]
  show (if okc f i then _ else _) = _
  rw [if_pos h]
theorem ftd_n {f : Nat → Int} {L i : Nat} (hi : i < L) (h : ¬ okc f i) : ftd f L (L - i) i = i := by
  rw [show L - i = (L - (i + 1)) + 1 by omega]
  show (if okc f i then _ else _) = _
  rw [if_neg h]
abbrev isD (v : Int) : Prop := 48 ≤ v ∧ v ≤ 57
/-- a word can begin here -/
def wst (f : Nat → Int) (L j : Nat) : Prop := nmd f j = 0 ∧ (drn f j = 0 ∨ (j < L → ¬ isD (f j))) ∧ (0 ≤ dep f j ∧ dep f j ≤ 8) ∧ drn f j ≤ 5
theorem drn_y {f : Nat → Int} {i : Nat} (h : isD (f i)) : drn f (i + 1) = drn f i + 1 := by simp only [drn]; rw [if_pos h]
theorem drn_n {f : Nat → Int} {i : Nat} (h : ¬ isD (f i)) : drn f (i + 1) = 0 := by simp only [drn]; rw [if_neg h]
theorem nmd_n {f : Nat → Int} {i : Nat} (h : ¬ f i = 58) : nmd f (i + 1) = 0 := by simp only [nmd]; rw [if_neg h]
theorem nmd_y {f : Nat → Int} {i : Nat} (h : f i = 58) : nmd f (i + 1) = 1 := by simp only [nmd]; rw [if_pos h]
theorem dep_s {f : Nat → Int} {i : Nat} (h1 : ¬ f i = 123) (h2 : ¬ f i = 125) : dep f (i + 1) = dep f i := by simp only [dep]; rw [if_neg h1, if_neg h2]; omega
theorem dep_o {f : Nat → Int} {i : Nat} (h1 : f i = 123) : dep f (i + 1) = dep f i + 1 := by simp only [dep]; rw [if_pos h1]
theorem dep_c {f : Nat → Int} {i : Nat} (h1 : f i = 125) : dep f (i + 1) = dep f i + -1 := by simp only [dep]; rw [if_neg (by omega), if_pos h1]
section FM
variable {m : gS} {L : Nat} {f : Nat → Int}
theorem dig_run {k4 : Int → Int → gS → gA} {i : Nat} (hL : m 49 3 = L) (hL3 : L ≤ 300) (hf : ∀ j, j < L → m 50 j = f j ∧ 32 ≤ f j ∧ f j ≤ 126) (hi : isD (f i)) : ∀ (e p N : Nat), L - (p + 1) = e → i ≤ p → p < L → wst f L p ∨ True → nmd f (p + 1) = 0 → drn f (p + 1) = p - i + 1 → p < i + 5 → (0 ≤ dep f (p + 1) ∧ dep f (p + 1) ≤ 8) → (∀ j, p + 1 ≤ j → j ≤ L → wst f L j → k4 (dep f j) j m = some (ftd f L (L - j) j, m)) → M_faultOf_118L (M_faultOf_162 k4) (N + e + 1) (dep f (p + 1)) p (f i) i m = some (ftd f L (L - (p + 1)) (p + 1), m) := by
  intro e
  have hvi := w32_id (z := f i) (by omega) (by omega)
  have di : dg (f i) = 1 := by unfold dg; rw [if_pos hi]
  induction e with
  | zero =>
    intro p N he hp hpL _ hn hr h5 hd hk
    show M_faultOf_118 _ _ _ _ _ _ _ = _
    unfold M_faultOf_118 M_faultOf_162
    rw [dgM m hvi, g_bi_s, di, if_neg (by decide), hL, w_nat (by omega), show ((p : Int) + 1) = ((p + 1 : Nat) : Int) by omega, w_nat (by omega), if_pos (by omega)]
    exact hk (p + 1) (by omega) (by omega) ⟨hn, Or.inr fun x => absurd x (by omega), hd, by omega⟩
  | succ e ih =>
    intro p N he hp hpL _ hn hr h5 hd hk
    obtain ⟨f1, f2, f3⟩ := hf (p + 1) (by omega)
    show M_faultOf_118 (M_faultOf_118L (M_faultOf_162 k4) (N + e + 1)) _ _ _ _ _ _ = _
    unfold M_faultOf_118
    rw [dgM m hvi, g_bi_s, di, if_neg (by decide), hL, w_nat (by omega), show ((p : Int) + 1) = ((p + 1 : Nat) : Int) by omega, w_nat (by omega), if_neg (by omega), if_pos (by omega), Int.toNat_natCast, f1, dgM m (w_v f2 f3), g_bi_s, w32_01 (dg_01 _)]
    unfold dg
    by_cases d1 : isD (f (p + 1))
    · rw [if_pos d1, if_neg (by decide), w32_id (z := (i : Int) + 5) (by omega) (by omega)]
      have dr := drn_y d1
      by_cases q : p + 1 = i + 5
      · rw [if_pos (by omega), ftd_n (by omega) (fun x : okc f (p + 1) => by have := x.2.1; omega)]
      · rw [if_neg (by omega)]
        have hn' : nmd f (p + 1 + 1) = 0 := nmd_n (by omega)
        have hd' : dep f (p + 1 + 1) = dep f (p + 1) := dep_s (by omega) (by omega)
        rw [ftd_y (by omega) (show okc f (p + 1) from ⟨Or.inl ⟨hn, Or.inr (Or.inl d1)⟩, by omega, by omega, by omega⟩), ← hd']
        exact ih (p + 1) N (by omega) (by omega) (by omega) (Or.inr trivial) hn' (by omega) (by omega) (by omega) (fun j j1 j2 j3 => hk j (by omega) j2 j3)
    · rw [if_neg d1, if_pos rfl]
      unfold M_faultOf_162
      exact hk (p + 1) (by omega) (by omega) ⟨hn, Or.inr fun _ => d1, hd, by omega⟩
theorem ftM (hL : m 49 3 = L) (hL3 : L ≤ 300) (hf : ∀ j, j < L → m 50 j = f j ∧ 32 ≤ f j ∧ f j ≤ 126) : ∀ (d i N : Nat), L - i = d → i ≤ L → wst f L i → M_faultOf_4L M_faultOf_168 (N + d + 1) (dep f i) i m = some (ftd f L (L - i) i, m) := by
  intro d
  induction d using Nat.strongRecOn with
  | ind d ih =>
    intro i N hd hi hw
    obtain ⟨w1, w2, w3, w4⟩ := id hw
    show M_faultOf_4 (M_faultOf_4L M_faultOf_168 (N + d)) M_faultOf_168 _ _ _ = _
    have hk : ∀ j, i + 1 ≤ j → j ≤ L → wst f L j → M_faultOf_4L M_faultOf_168 (N + d) (dep f j) j m = some (ftd f L (L - j) j, m) := fun j j1 j2 j3 => by
      have := ih (L - j) (by omega) j (N + d - (L - j) - 1) rfl j2 j3
      rwa [show N + d - (L - j) - 1 + (L - j) + 1 = N + d by omega] at this
    revert hk
    generalize M_faultOf_4L M_faultOf_168 (N + d) = K
    intro hk
    unfold M_faultOf_4
    rw [hL, w_nat (by omega), w_nat (by omega)]
    by_cases e : i = L
    · subst e
      rw [if_pos (by omega)]
      unfold M_faultOf_168
      rw [w32_id (z := dep f i) (by omega) (by omega), hL, Nat.sub_self]
      unfold ftd
      by_cases a : dep f i ≤ 0
      · rw [if_pos a, if_neg (by omega)]
      · rw [if_neg a, if_pos (by omega)]
    · obtain ⟨f1, f2, f3⟩ := hf i (by omega)
      have hv := w_v f2 f3
      rw [if_neg (by omega), if_pos (by omega), g_le_s, Int.toNat_natCast, f1, hv]
      by_cases e32 : f i = 32
      · have hn' : nmd f (i + 1) = 0 := nmd_n (by omega)
        have hd' : dep f (i + 1) = dep f i := dep_s (by omega) (by omega)
        have hr' : drn f (i + 1) = 0 := drn_n (by omega)
        rw [if_pos e32, ftd_y (by omega) (show okc f i from ⟨Or.inl ⟨w1, Or.inl e32⟩, by omega, by omega, by omega⟩)]
        unfold M_faultOf_162
        rw [← hd']
        exact hk (i + 1) (by omega) (by omega) ⟨hn', Or.inl hr', by omega, by omega⟩
      · rw [if_neg e32, needsM m hv, g_bi_s]
        by_cases eW : isW (f i)
        · have nn : 0 ≤ nd (f i) ∧ nd (f i) ≤ 6 := by unfold nd; repeat' split <;> omega
          rw [if_pos eW, w32_id (z := nd (f i)) (by omega) (by omega), if_neg (by omega)]
          have st : stn f i := Or.inl ⟨w1, Or.inr eW⟩
          unfold M_faultOf_46 M_faultOf_60
          rw [hv, w32_id (z := dep f i) (by omega) (by omega)]
          have m82 : ∀ t : Int, dep f (i + 1) = dep f i + t → okc f i → ¬ isD (f i) ∨ True → M_faultOf_82 K i (f i) (dep f i) t m = some (ftd f L (L - i) i, m) := by
            intro t ht ok _
            rw [ftd_y (by omega) ok]
            unfold M_faultOf_82
            rw [g_le_s, ← ht, hv, hL, show ((i : Int) + 1) = ((i + 1 : Nat) : Int) by omega, w_nat (by omega), w_nat (by omega), Int.toNat_natCast]
            by_cases e58 : f i = 58
            · rw [if_pos e58]
              have hn1 := nmd_y e58
              by_cases el : i + 1 = L
              · rw [if_pos (by omega), el, Nat.sub_self]
                unfold ftd
                rw [if_pos (Or.inr (by rw [← el]; exact hn1))]
              · obtain ⟨g1, g2, g3⟩ := hf (i + 1) (by omega)
                rw [if_neg (by omega), if_pos (by omega), g1, ltM m (w_v g2 g3), g_bi_s, w32_01 (lt_01 _)]
                unfold lt
                by_cases ea : 97 ≤ f (i + 1) ∧ f (i + 1) ≤ 122
                · have hn2 : nmd f (i + 1 + 1) = 0 := nmd_n (by omega)
                  have hd2 : dep f (i + 1 + 1) = dep f (i + 1) := dep_s (by omega) (by omega)
                  have hr2 : drn f (i + 1 + 1) = 0 := drn_n (by omega)
                  have ok' := ok.2.2
                  rw [if_pos ea, if_neg (by decide), ftd_y (by omega) (show okc f (i + 1) from ⟨Or.inr ⟨hn1, ea⟩, by omega, by omega, by omega⟩)]
                  unfold M_faultOf_115
                  show M_faultOf_118 (M_faultOf_118L (M_faultOf_162 K) 999999999999) (M_faultOf_162 K) _ _ _ _ _ = _
                  unfold M_faultOf_118 M_faultOf_162
                  rw [dgM m hv, g_bi_s, show dg (f i) = 0 by unfold dg; rw [if_neg (by omega)], if_pos (by decide), ← hd2]
                  exact hk (i + 1 + 1) (by omega) (by omega) ⟨hn2, Or.inl hr2, by omega, by omega⟩
                · rw [if_neg ea, if_pos rfl, ftd_n (by omega)]
                  rintro ⟨(⟨x, -⟩ | ⟨-, x⟩), -⟩
                  · omega
                  · exact ea x
            · rw [if_neg e58]
              have hn1 := nmd_n e58
              have ok' := ok.2.2
              unfold M_faultOf_115
              by_cases eD : isD (f i)
              · have hr0 : drn f i = 0 := by
                  rcases w2 with w2 | w2
                  · exact w2
                  · exact absurd eD (w2 (by omega))
                have hr1 := drn_y eD
                have := dig_run (k4 := K) hL hL3 hf eD (L - (i + 1)) i (1000000000000 - (L - (i + 1)) - 1) rfl (by omega) (by omega) (Or.inr trivial) hn1 (by omega) (by omega) ok' hk
                rwa [show 1000000000000 - (L - (i + 1)) - 1 + (L - (i + 1)) + 1 = gFu by show _ = 1000000000000; omega] at this
              · show M_faultOf_118 (M_faultOf_118L (M_faultOf_162 K) 999999999999) (M_faultOf_162 K) _ _ _ _ _ = _
                unfold M_faultOf_118 M_faultOf_162
                rw [dgM m hv, g_bi_s, show dg (f i) = 0 by unfold dg; rw [if_neg eD], if_pos (by decide)]
                exact hk (i + 1) (by omega) (by omega) ⟨hn1, Or.inl (drn_n eD), ok', by rw [drn_n eD]; decide⟩
          have hr1 : ¬ drn f (i + 1) ≤ 5 → False := by
            intro x
            by_cases eD : isD (f i)
            · rw [drn_y eD] at x
              rcases w2 with w2 | w2
              · omega
              · exact absurd eD (w2 (by omega))
            · rw [drn_n eD] at x
              omega
          have hr2 : drn f (i + 1) ≤ 5 := Classical.byContradiction hr1
          by_cases e125 : f i = 125
          · have hd' := dep_c e125
            rw [if_pos e125]
            by_cases z : dep f i = 0
            · rw [if_pos z, ftd_n (by omega) (fun x : okc f i => by have := x.2.2.1; omega)]
            · rw [if_neg z, if_neg (by omega), if_neg (by omega), if_pos e125]
              exact m82 (-1) hd' ⟨st, hr2, by omega, by omega⟩ (Or.inr trivial)
          · rw [if_neg e125]
            by_cases e123 : f i = 123
            · have hd' := dep_o e123
              rw [if_pos e123, if_pos e123]
              by_cases z : dep f i = 8
              · rw [if_pos z, ftd_n (by omega) (fun x : okc f i => by have := x.2.2.2; omega)]
              · rw [if_neg z]
                exact m82 1 hd' ⟨st, hr2, by omega, by omega⟩ (Or.inr trivial)
            · have hd' := dep_s e123 e125
              rw [if_neg e123, if_neg e123, if_neg e125]
              exact m82 0 (by omega) ⟨st, hr2, by omega, by omega⟩ (Or.inr trivial)
        · rw [if_neg eW, if_pos (by decide), ftd_n (by omega)]
          rintro ⟨(⟨-, x⟩ | ⟨x, -⟩), -⟩
          · rcases x with x | x
            · exact e32 x
            · exact eW x
          · omega
end FM
