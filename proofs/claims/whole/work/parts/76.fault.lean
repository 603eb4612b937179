/-! the first sign that can't stand where it stands -/
def dep (f : Nat → Int) : Nat → Int
  | 0 => 0
  | i + 1 => dep f i + (if f i = 123 then 1 else if f i = 125 then -1 else 0)
def drn (f : Nat → Int) : Nat → Int
  | 0 => 0
  | i + 1 => if 48 ≤ f i ∧ f i ≤ 57 then drn f i + 1 else 0
def nmd (f : Nat → Int) : Nat → Int
  | 0 => 0
  | i + 1 => if f i = 58 then 1 else 0
theorem nmd_01 (f : Nat → Int) (i : Nat) : nmd f i = 0 ∨ nmd f i = 1 := by
  cases i with
  | zero => exact Or.inl rfl
  | succ i => simp only [nmd]; split <;> simp
theorem drn_lo (f : Nat → Int) (i : Nat) : 0 ≤ drn f i := by
  induction i with
  | zero => exact Int.le_refl 0
  | succ i ih => simp only [drn]; split <;> omega
abbrev stn (f : Nat → Int) (i : Nat) : Prop := (nmd f i = 0 ∧ (f i = 32 ∨ isW (f i))) ∨ (nmd f i = 1 ∧ 97 ≤ f i ∧ f i ≤ 122)
abbrev okc (f : Nat → Int) (i : Nat) : Prop := stn f i ∧ drn f (i + 1) ≤ 5 ∧ 0 ≤ dep f (i + 1) ∧ dep f (i + 1) ≤ 8
def ftd (f : Nat → Int) (L : Nat) : Nat → Nat → Int
  | 0, _ => if 0 < dep f L ∨ nmd f L = 1 then L else -1
  | d + 1, i => if okc f i then ftd f L d (i + 1) else i
section FT
variable {c m : gS} {L : Nat}
theorem ftC_step {f : Nat → Int} {k : Int → Int → Int → Int → gS → gA} {k2 : Int → Int → gS → gA} {i : Nat} (hL : c 1 3 = L) (hL3 : L ≤ 300) (hi : i < L) (hf : c 2 i = f i) (h0 : 32 ≤ f i) (h1 : f i ≤ 126) (hd : 0 ≤ dep f i ∧ dep f i ≤ 8) (hr : drn f i ≤ 5) : Text_fault_9 k k2 (dep f i) (drn f i) (nmd f i) i c = if okc f i then k (dep f (i + 1)) (drn f (i + 1)) (nmd f (i + 1)) ((i + 1 : Nat) : Int) c else some ((i : Int), c) := by
  have hv := w_v h0 h1
  have hr0 := drn_lo f i
  have e1 : Text_fault_9 k k2 (dep f i) (drn f i) (nmd f i) i c = Text_fault_42 k (dep f i) (nmd f i) i (f i) (drn f (i + 1)) c := by
    unfold Text_fault_9
    rw [hL, w_nat (by omega), w_nat (by omega), if_neg (by omega), if_pos (by omega), g_le_s, Int.toNat_natCast, hf, dgC c hv, g_bi_s, w32_01 (dg_01 _)]
    unfold dg
    simp only [drn]
    by_cases e : 48 ≤ f i ∧ f i ≤ 57
    · rw [if_pos e, if_pos e, if_neg (by decide)]
    · rw [if_neg e, if_neg e, if_pos rfl]
  have e2 : Text_fault_42 k (dep f i) (nmd f i) i (f i) (drn f (i + 1)) c = Text_fault_86 k (dep f (i + 1)) (drn f (i + 1)) i (f i) (if stn f i then 1 else 0) c := by
    have e3 : ∀ t : Int, t = (if f i = 123 then 1 else if f i = 125 then -1 else 0) → Text_fault_67 k (drn f (i + 1)) (nmd f i) i (f i) (dep f i) t c = Text_fault_86 k (dep f (i + 1)) (drn f (i + 1)) i (f i) (if stn f i then 1 else 0) c := by
      intro t ht
      unfold Text_fault_67
      rw [g_le_s, ht, w32_01 (nmd_01 f i), wordC c h0 h1, g_bi_s, ltC c hv, g_bi_s]
      rcases nmd_01 f i with q | q
      · rw [if_pos q]
        by_cases e : f i = 32 ∨ isW (f i)
        · rw [if_pos e, if_pos (show stn f i from Or.inl ⟨q, e⟩)]
          rfl
        · have ns : ¬ stn f i := by
            rintro (⟨-, x⟩ | ⟨x, -⟩)
            · exact e x
            · omega
          rw [if_neg e, if_neg ns]
          rfl
      · rw [if_neg (show ¬ nmd f i = 0 by omega)]
        unfold lt
        by_cases e : 97 ≤ f i ∧ f i ≤ 122
        · rw [if_pos e, if_pos (show stn f i from Or.inr ⟨q, e⟩)]
          rfl
        · have ns : ¬ stn f i := by
            rintro (⟨x, -⟩ | ⟨-, x⟩)
            · omega
            · exact e x
          rw [if_neg e, if_neg ns]
          rfl
    unfold Text_fault_42
    rw [hv]
    by_cases a1 : f i = 123
    · rw [if_pos a1]
      exact e3 1 (by rw [if_pos a1])
    · rw [if_neg a1]
      by_cases a2 : f i = 125
      · rw [if_pos a2]
        exact e3 (-1) (by rw [if_neg a1, if_pos a2])
      · rw [if_neg a2]
        exact e3 0 (by rw [if_neg a1, if_neg a2])
  rw [e1, e2]
  have hd1 : -1 ≤ dep f (i + 1) ∧ dep f (i + 1) ≤ 9 := by simp only [dep]; repeat' split <;> omega
  have hr1 : 0 ≤ drn f (i + 1) ∧ drn f (i + 1) ≤ 6 := by simp only [drn]; split <;> omega
  unfold Text_fault_86 Text_fault_123
  rw [w32_01 b01', hv, w32_id (z := drn f (i + 1)) (by omega) (by omega), w32_id (z := dep f (i + 1)) (by omega) (by omega)]
  by_cases a1 : stn f i
  · rw [if_pos a1, if_neg (by decide)]
    by_cases a2 : 5 < drn f (i + 1)
    · rw [if_pos a2, if_neg (fun x : okc f i => by have := x.2.1; omega)]
    · rw [if_neg a2]
      by_cases a3 : dep f (i + 1) < 0
      · rw [if_pos a3, if_neg (fun x : okc f i => by have := x.2.2.1; omega)]
      · rw [if_neg a3]
        by_cases a4 : dep f (i + 1) ≤ 8
        · have ok : okc f i := ⟨a1, by omega, by omega, a4⟩
          rw [if_pos a4, if_pos ok]
          by_cases a5 : f i = 58
          · have en : nmd f (i + 1) = 1 := by simp only [nmd]; rw [if_pos a5]
            rw [if_pos a5, en]
            rfl
          · have en : nmd f (i + 1) = 0 := by simp only [nmd]; rw [if_neg a5]
            rw [if_neg a5, en]
            rfl
        · rw [if_neg a4, if_neg (fun x : okc f i => a4 x.2.2.2)]
  · rw [if_neg a1, if_pos rfl, if_neg (fun x : okc f i => a1 x.1)]
theorem ftC {f : Nat → Int} (hL : c 1 3 = L) (hL3 : L ≤ 300) (hf : ∀ i, i < L → c 2 i = f i ∧ 32 ≤ f i ∧ f i ≤ 126) : ∀ (d i N : Nat), i + d = L → (0 ≤ dep f i ∧ dep f i ≤ 8) → drn f i ≤ 5 → Text_fault_9L Text_fault_130 (N + d + 1) (dep f i) (drn f i) (nmd f i) i c = some (ftd f L d i, c) := by
  intro d
  induction d with
  | zero =>
    intro i N hi hd hr
    have : i = L := by omega
    subst this
    show Text_fault_9 _ Text_fault_130 _ _ _ _ _ = _
    unfold Text_fault_9 Text_fault_130
    rw [hL, w_nat (by omega), if_pos (by omega), w32_01 (nmd_01 f i), w32_id (z := dep f i) (by omega) (by omega)]
    unfold ftd
    by_cases a1 : 0 < dep f i
    · rw [if_pos a1, if_pos (Or.inl a1)]
    · rw [if_neg a1]
      rcases nmd_01 f i with q | q
      · rw [if_pos q, if_neg (by omega)]
      · rw [if_neg (by omega), if_pos (Or.inr q)]
  | succ d ih =>
    intro i N hi hd hr
    obtain ⟨f1, f2, f3⟩ := hf i (by omega)
    show Text_fault_9 (Text_fault_9L Text_fault_130 (N + d + 1)) Text_fault_130 _ _ _ _ _ = _
    rw [ftC_step hL hL3 (by omega) f1 f2 f3 hd hr]
    unfold ftd
    by_cases a : okc f i
    · rw [if_pos a, if_pos a]
      exact ih (i + 1) N (by omega) a.2.2 a.2.1
    · rw [if_neg a, if_neg a]
end FT
