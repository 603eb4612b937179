/-! a text without fault; its braces -/
theorem ftd_lo (f : Nat → Int) (L : Nat) : ∀ d i, i + d = L → -1 ≤ ftd f L d i ∧ ftd f L d i ≤ L := by
  intro d
  induction d with
  | zero => intro i hi; simp only [ftd]; split <;> omega
  | succ d ih =>
    intro i hi
    have := ih (i + 1) (by omega)
    simp only [ftd]
    split
    · exact this
    · omega
theorem ftd_good {f : Nat → Int} {L : Nat} : ∀ d i, i + d = L → ftd f L d i = -1 → (∀ j, i ≤ j → j < L → okc f j) ∧ ¬ 0 < dep f L ∧ nmd f L = 0 := by
  intro d
  induction d with
  | zero =>
    intro i hi h
    simp only [ftd] at h
    by_cases a : 0 < dep f L ∨ nmd f L = 1
    · rw [if_pos a] at h; omega
    · have := nmd_01 f L
      exact ⟨fun j j1 j2 => by omega, fun x => a (Or.inl x), by omega⟩
  | succ d ih =>
    intro i hi h
    simp only [ftd] at h
    by_cases a : okc f i
    · rw [if_pos a] at h
      obtain ⟨k1, k2⟩ := ih (i + 1) (by omega) h
      refine ⟨fun j j1 j2 => ?_, k2⟩
      by_cases e : j = i
      · rw [e]; exact a
      · exact k1 j (by omega) j2
    · rw [if_neg a] at h; omega
/-- a text without fault -/
def GT (f : Nat → Int) (L : Nat) : Prop := L ≤ 300 ∧ (∀ j, j < L → 32 ≤ f j ∧ f j ≤ 126) ∧ (∀ j, j < L → okc f j) ∧ dep f L = 0 ∧ nmd f L = 0
theorem GT.le {f : Nat → Int} {L : Nat} (k : GT f L) : L ≤ 300 := k.1
theorem GT.ch {f : Nat → Int} {L : Nat} (k : GT f L) : ∀ j, j < L → 32 ≤ f j ∧ f j ≤ 126 := k.2.1
theorem GT.ok {f : Nat → Int} {L : Nat} (k : GT f L) : ∀ j, j < L → okc f j := k.2.2.1
theorem GT.dz {f : Nat → Int} {L : Nat} (k : GT f L) : dep f L = 0 := k.2.2.2.1
theorem GT.nz {f : Nat → Int} {L : Nat} (k : GT f L) : nmd f L = 0 := k.2.2.2.2
theorem dep_congr {f g : Nat → Int} {L : Nat} (h : ∀ j, j < L → f j = g j) : ∀ i, i ≤ L → dep f i = dep g i := by
  intro i
  induction i with
  | zero => intro _; rfl
  | succ i ih => intro hi; simp only [dep]; rw [ih (by omega), h i (by omega)]
theorem drn_congr {f g : Nat → Int} {L : Nat} (h : ∀ j, j < L → f j = g j) : ∀ i, i ≤ L → drn f i = drn g i := by
  intro i
  induction i with
  | zero => intro _; rfl
  | succ i ih => intro hi; simp only [drn]; rw [ih (by omega), h i (by omega)]
theorem nmd_congr {f g : Nat → Int} {L : Nat} (h : ∀ j, j < L → f j = g j) : ∀ i, i ≤ L → nmd f i = nmd g i := by
  intro i hi
  cases i with
  | zero => rfl
  | succ i => simp only [nmd]; rw [h i (by omega)]
theorem GT_congr {f g : Nat → Int} {L : Nat} (h : ∀ j, j < L → f j = g j) (k : GT f L) : GT g L := by
  refine ⟨k.le, fun j hj => by rw [← h j hj]; exact k.ch j hj, fun j hj => ?_, by rw [← dep_congr h L (Nat.le_refl L)]; exact k.dz, by rw [← nmd_congr h L (Nat.le_refl L)]; exact k.nz⟩
  have := k.ok j hj
  unfold okc stn at *
  rw [dep_congr h (j + 1) (by omega), drn_congr h (j + 1) (by omega), nmd_congr h j (by omega), h j hj] at this
  exact this
section GTs
variable {f : Nat → Int} {L : Nat}
theorem GT.dp (k : GT f L) {i : Nat} (hi : i ≤ L) : 0 ≤ dep f i ∧ dep f i ≤ 8 := by
  cases i with
  | zero => simp [dep]
  | succ i => exact (k.ok i (by omega)).2.2
theorem GT.word (k : GT f L) {i : Nat} (hi : i < L) : f i = 32 ∨ isW (f i) := by
  rcases (k.ok i hi).1 with ⟨-, h⟩ | ⟨-, h⟩
  · exact h
  · exact Or.inr (Or.inr (Or.inl h))
theorem GT.colon (k : GT f L) {i : Nat} (hi : i < L) (h : f i = 58) : i + 1 < L ∧ 97 ≤ f (i + 1) ∧ f (i + 1) ≤ 122 := by
  have hn := nmd_y h
  have hl : i + 1 < L := by
    rcases (show i + 1 < L ∨ i + 1 = L by omega) with q | q
    · exact q
    · rw [q, k.nz] at hn; cases hn
  refine ⟨hl, ?_⟩
  rcases (k.ok (i + 1) hl).1 with ⟨x, -⟩ | ⟨-, x⟩
  · omega
  · exact x
/-- a brace and the one that closes it -/
def brc (f : Nat → Int) (j q : Nat) : Prop := j < q ∧ f j = 123 ∧ f q = 125 ∧ dep f (q + 1) = dep f j ∧ ∀ k, j < k → k ≤ q → dep f j < dep f k
theorem brc_ex (k : GT f L) {j : Nat} (hj : j < L) (h : f j = 123) : ∃ q, q < L ∧ brc f j q := by
  have key : ∀ d i, j < i → i + d = L → (∀ k, j < k → k ≤ i → dep f j < dep f k) → ∃ q, q < L ∧ brc f j q := by
    intro d
    induction d with
    | zero =>
      intro i hi hd hk
      have h1 := hk i hi (Nat.le_refl i)
      rw [show i = L by omega, k.dz] at h1
      have := (k.dp (i := j) (by omega)).1
      omega
    | succ d ih =>
      intro i hi hd hk
      by_cases e : dep f j < dep f (i + 1)
      · refine ih (i + 1) (by omega) (by omega) fun q q1 q2 => ?_
        rcases (show q = i + 1 ∨ q ≤ i by omega) with rfl | q3
        · exact e
        · exact hk q q1 q3
      · have h1 := hk i hi (Nat.le_refl i)
        have h2 : f i = 125 := by
          by_cases a : f i = 123
          · rw [dep_o a] at e; omega
          · by_cases b : f i = 125
            · exact b
            · rw [dep_s a b] at e; omega
        have h3 := dep_c h2
        exact ⟨i, by omega, hi, h, h2, by omega, hk⟩
  refine key (L - (j + 1)) (j + 1) (by omega) (by omega) fun q q1 q2 => ?_
  rw [show q = j + 1 by omega, dep_o h]
  omega
theorem brc_un {j j' q : Nat} (h : brc f j q) (h' : brc f j' q) : j = j' := by
  obtain ⟨a1, a2, a3, a4, a5⟩ := h
  obtain ⟨b1, b2, b3, b4, b5⟩ := h'
  rcases (show j = j' ∨ j < j' ∨ j' < j by omega) with e | e | e
  · exact e
  · have := a5 j' e (by omega); omega
  · have := b5 j e (by omega); omega
end GTs
/-- braces that are open at i stand on the pile; those closed before i are in the table -/
def opn (f : Nat → Int) (s : gS) (i : Nat) : Prop := (∀ k : Nat, (k : Int) < dep f i → ∃ o : Nat, s 9 k = o ∧ o < i ∧ f o = 123 ∧ dep f o = k ∧ ∀ j, o < j → j ≤ i → (k : Int) < dep f j) ∧ ∀ j q, brc f j q → q < i → s 8 j = q
def cC (q : Nat) : Bool := decide (q = 8) || decide (q = 9)
theorem copy_loop {f : Nat → Int} {L : Nat} (k : GT f L) : ∀ (d i N : Nat) (s : gS), i + d = L → s 6 3 = L → (∀ j, j < L → s 7 j = f j) → opn f s i → ∃ s', Text_copy_29L (N + d + 1) (dep f i) i s = some (0, s') ∧ opn f s' L ∧ fC cC s s' := by
  have hL := k.le
  intro d
  induction d with
  | zero =>
    intro i N s hi h6 h7 ho
    have : i = L := by omega
    subst this
    refine ⟨s, ?_, ho, fC_rf _ _⟩
    show Text_copy_29 _ _ _ _ = _
    unfold Text_copy_29
    rw [h6, w_nat (by omega), if_pos (by omega)]
  | succ d ih =>
    intro i N s hi h6 h7 ho
    obtain ⟨o1, o2⟩ := id ho
    have hd := k.dp (i := i) (by omega)
    have hd1 := k.dp (i := i + 1) (by omega)
    have hc := k.ch i (by omega)
    have hwd : w32 (dep f i) = dep f i := w32_id (by omega) (by omega)
    show ∃ s', Text_copy_29 (Text_copy_29L (N + d + 1)) _ _ _ = _ ∧ _
    unfold Text_copy_29 Text_copy_67 Text_copy_97
    rw [h6, w_nat (by omega), w_nat (by omega), if_neg (by omega), if_pos (by omega), Int.toNat_natCast, h7 i (by omega), w_v hc.1 hc.2, hwd, if_pos (show (0 : Int) ≤ i ∧ (i : Int) < 300 by omega)]
    have pass : ¬ f i = 123 → ¬ f i = 125 → ∃ s', Text_copy_29L (N + d + 1) (dep f i) ((i : Int) + 1) s = some (0, s') ∧ opn f s' L ∧ fC cC s s' := by
      intro e1 e2
      have hs := dep_s e1 e2
      rw [← hs, show (i : Int) + 1 = ((i + 1 : Nat) : Int) by omega]
      refine ih (i + 1) N s (by omega) h6 h7 ⟨fun q hq => ?_, fun j q b hq => ?_⟩
      · obtain ⟨o, a1, a2, a3, a4, a5⟩ := o1 q (by omega)
        refine ⟨o, a1, by omega, a3, a4, fun j j1 j2 => ?_⟩
        rcases (show j = i + 1 ∨ j ≤ i by omega) with rfl | j3
        · exact hq
        · exact a5 j j1 j3
      · rcases (show q = i ∨ q < i by omega) with rfl | q3
        · exact absurd b.2.2.1 e2
        · exact o2 j q b q3
    by_cases e123 : f i = 123
    · have hs := dep_o e123
      rw [if_pos e123, if_neg (by omega), if_pos (by omega), g_le_s, ← hs, show (i : Int) + 1 = ((i + 1 : Nat) : Int) by omega]
      obtain ⟨D, hD⟩ : ∃ D : Nat, dep f i = D := ⟨(dep f i).toNat, by omega⟩
      obtain ⟨s', k1, k2, k3⟩ := ih (i + 1) N (g_up s 9 (dep f i).toNat i) (by omega) (by rw [g_up_ne (by decide)]; exact h6) (fun j hj => by rw [g_up_ne (by decide)]; exact h7 j hj) ⟨fun q hq => by
        by_cases e : q = (dep f i).toNat
        · refine ⟨i, by rw [e, up_y], by omega, e123, by omega, fun j j1 j2 => ?_⟩
          rw [show j = i + 1 by omega, hs]
          omega
        · obtain ⟨o, a1, a2, a3, a4, a5⟩ := o1 q (by omega)
          refine ⟨o, by rw [up_n (by omega)]; exact a1, by omega, a3, a4, fun j j1 j2 => ?_⟩
          rcases (show j = i + 1 ∨ j ≤ i by omega) with rfl | j3
          · exact hq
          · exact a5 j j1 j3, fun j q b hq => by
        rw [g_up_ne (by decide)]
        rcases (show q = i ∨ q < i by omega) with rfl | q3
        · have := b.2.2.1; omega
        · exact o2 j q b q3⟩
      exact ⟨s', k1, k2, fC_tr (fC_up rfl) k3⟩
    · rw [if_neg e123]
      by_cases e125 : f i = 125
      · have hs := dep_c e125
        obtain ⟨o, a1, a2, a3, a4, a5⟩ := o1 (dep f (i + 1)).toNat (by omega)
        have bi : brc f o i := ⟨a2, a3, e125, by omega, fun q q1 q2 => by have := a5 q q1 q2; omega⟩
        rw [if_pos e125, if_neg (by omega), ← hs, w32_id (z := dep f (i + 1)) (by omega) (by omega), if_pos (by omega), a1, w_nat (by omega), if_pos (by omega), g_le_s, Int.toNat_natCast, show (i : Int) + 1 = ((i + 1 : Nat) : Int) by omega]
        obtain ⟨s', k1, k2, k3⟩ := ih (i + 1) N (g_up s 8 o i) (by omega) (by rw [g_up_ne (by decide)]; exact h6) (fun j hj => by rw [g_up_ne (by decide)]; exact h7 j hj) ⟨fun q hq => by
          obtain ⟨p, b1, b2, b3, b4, b5⟩ := o1 q (by omega)
          refine ⟨p, by rw [g_up_ne (by decide)]; exact b1, by omega, b3, b4, fun j j1 j2 => ?_⟩
          rcases (show j = i + 1 ∨ j ≤ i by omega) with rfl | j3
          · exact hq
          · exact b5 j j1 j3, fun j q b hq => by
          rcases (show q = i ∨ q < i by omega) with rfl | q3
          · rw [brc_un b bi, up_y]
          · rw [up_n]
            · exact o2 j q b q3
            · rintro ⟨-, rfl⟩
              have h1 := b.2.2.2.1
              have h2 := bi.2.2.2.2 (q + 1) (by have := b.1; omega) (by omega)
              omega⟩
        exact ⟨s', k1, k2, fC_tr (fC_up rfl) k3⟩
      · rw [if_neg e125]
        exact pass e123 e125
