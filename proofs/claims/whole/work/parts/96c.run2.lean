/-! run on both sides -/
/-- just started: the model has not yet looked for the first word -/
def FS (L : Nat) (c m : gS) : Prop := m 49 17 = 1 ∧ m 55 0 = 0 ∧ m 57 0 = 0 ∧ m 56 0 = L ∧ m 58 0 = -1 ∧ (skp (m 51) L 0 < L → c 10 4 = 0 ∧ c 11 0 = (skp (m 51) L 0 : Int) ∧ c 12 0 = 0 ∧ c 13 0 = L ∧ c 14 0 = 0) ∧ (¬ skp (m 51) L 0 < L → c 10 4 = -1)
def NX (L : Nat) (c m : gS) : Prop := (∃ p, CR L c m p) ∨ FS L c m
/-- before the first start the model's clip is not laid yet: another stands in its place -/
def sw (m : gS) (w : Nat → Int) : gS := fun i j => if i = 63 then w j else m i j
theorem sw_n {m : gS} {w : Nat → Int} {q : Nat} (h : q ≠ 63) : sw m w q = m q := by
  funext j
  show (if q = 63 then w j else m q j) = _
  rw [if_neg h]
theorem sw_y {m : gS} {w : Nat → Int} : sw m w 63 = w := by
  funext j
  show (if 63 = 63 then w j else m 63 j) = _
  rw [if_pos rfl]
theorem sw_id {m : gS} : sw m (m 63) = m := by
  funext i j
  show (if i = 63 then m 63 j else m i j) = _
  by_cases e : i = 63
  · rw [if_pos e, e]
  · rw [if_neg e]
def RQ (L : Nat) (c m : gS) : Prop := ∃ w : Nat → Int, RJ L c (sw m w) ∧ (m 49 5 ≠ 0 → w = m 63)
theorem RQ.rj {L : Nat} {c m : gS} (h : RQ L c m) (h5 : m 49 5 ≠ 0) : RJ L c m := by
  obtain ⟨w, h1, h2⟩ := h
  rw [h2 h5, sw_id] at h1
  exact h1
theorem RQ.of {L : Nat} {c m : gS} (h : RJ L c m) : RQ L c m := ⟨m 63, by rw [sw_id]; exact h, fun _ => rfl⟩
theorem RQ.pc {L : Nat} {c m : gS} (h : RQ L c m) : (∃ n, JV L n c m) ∧ JW c m ∧ (∃ l, l ≤ 4 ∧ c 21 6 = (l : Nat) ∧ c 26 l = m 62 4) ∧ (∃ s, JP s c m) ∧ (∃ k, JG k c m) ∧ ∀ j, j < 64 → c 17 j = 0 := by
  obtain ⟨w, ⟨⟨n, hv⟩, hW, ⟨l, hj⟩, ⟨s, hp⟩, ⟨k, hg⟩, hz⟩, -⟩ := h
  have q : ∀ q, q ≠ 63 → m q = sw m w q := fun q hq => (sw_n hq).symm
  refine ⟨⟨n, JV_congr rfl rfl (by rw [q 49 (by decide)]) (q 52 (by decide)) (q 54 (by decide)) (q 51 (by decide)) hv⟩, JW_congr rfl (q 53 (by decide)) hW, ⟨l, hj.1, hj.2.1, ?_⟩, ⟨s, JP_congr rfl rfl rfl rfl (fun j _ _ => by rw [q 49 (by decide)]) (q 59 (by decide)) (q 60 (by decide)) (q 61 (by decide)) hp⟩, ⟨k, JG_congr rfl rfl rfl (by rw [q 49 (by decide)]) (by rw [q 49 (by decide)]) (q 64 (by decide)) hg⟩, hz⟩
  have := hj.2.2.2.1.1.1.2.2.2.2
  simp only [Nat.zero_add] at this
  rw [this, sw_n (by decide)]
def RH (c m : gS) : Prop := ∃ L, JS L c m ∧ RQ L c m ∧ JN c m ∧ c 5 8 = m 49 5 ∧ (m 49 5 = 0 ∨ m 49 5 = 1 ∨ m 49 5 = 2) ∧ (m 49 5 = 1 → (m 49 6 = 0 ∧ m 49 7 = 0) ∧ (1 ≤ m 49 11 ∧ m 49 11 ≤ 4) ∧ NX L c m)
section RR
variable {L : Nat} {n : Int} {c m c' m' : gS}
theorem CR_congr {p : Int} (h1 : c' 10 = c 10) (h2 : c' 11 = c 11) (h3 : c' 12 = c 12) (h4 : c' 13 = c 13) (h5 : c' 14 = c 14) (h6 : m' 49 17 = m 49 17) (h7 : m' 55 = m 55) (h8 : m' 56 = m 56) (h9 : m' 57 = m 57) (h10 : m' 58 = m 58) (h11 : m' 51 = m 51) (h : CR L c m p) : CR L c' m' p := by
  unfold CR CU CF
  rw [h1, h2, h3, h4, h5, h6, h7, h8, h9, h10, h11]
  exact h
theorem NX_congr (h1 : c' 10 = c 10) (h2 : c' 11 = c 11) (h3 : c' 12 = c 12) (h4 : c' 13 = c 13) (h5 : c' 14 = c 14) (h6 : m' 49 17 = m 49 17) (h7 : m' 55 = m 55) (h8 : m' 56 = m 56) (h9 : m' 57 = m 57) (h10 : m' 58 = m 58) (h11 : m' 51 = m 51) (h : NX L c m) : NX L c' m' := by
  rcases h with ⟨p, h⟩ | h
  · exact Or.inl ⟨p, CR_congr h1 h2 h3 h4 h5 h6 h7 h8 h9 h10 h11 h⟩
  · refine Or.inr ?_
    unfold FS at *
    rw [h1, h2, h3, h4, h5, h6, h7, h8, h9, h10, h11]
    exact h
theorem nx_run (hs : JS L c m) (h : NX L c m) : ∃ (p : Int) (m1 : gS), M_next m = some (p, m1) ∧ CR L c m1 p ∧ fM eM m m1 := by
  rcases h with ⟨p, h⟩ | ⟨f1, f2, f3, f4, f5, f6, f7⟩
  · exact ⟨p, m, next_same hs h, h, fM_rf _ _⟩
  · have g := hs.2.2.1
    have hL := g.le
    have sl := skp_lo (m 51) L 0
    have st := fun K => nx_step (K := K) (m := m) (k := 0) (a := 0) (b := L) (f := m 51) hL (fun j hj => hs.vw hj) (Nat.le_refl L) (by omega) (by omega) (by rw [f1]; rfl) f2 f4 rfl (by rw [f5]; rfl)
    rw [Nat.sub_zero] at st
    have eN : M_next m = M_next_0 (M_next_0 (M_next_0L 999999999998)) m := by
      unfold M_next
      rw [show gFu = 999999999998 + 1 + 1 from rfl]
      rfl
    by_cases q : skp (m 51) L 0 < L
    · obtain ⟨k1, k2, k3, k4, k5⟩ := f6 q
      refine ⟨(skp (m 51) L 0 : Int), g_up m 55 0 (skp (m 51) L 0 : Int), ?_, ⟨1, ⟨by omega, by rw [k1]; rfl, by rw [g_up_ne (by decide), f1]; rfl, fun j hj => ?_⟩, Or.inr ⟨by omega, skp (m 51) L 0, L, rfl, k2, up_y, by rw [g_up_ne (by decide)]; exact f4, q, Nat.le_refl L, by rw [g_up_ne (by decide)]; exact skp_at _ _ _ (by omega)⟩⟩, fM_up rfl⟩
      · rw [eN, st, if_pos q]
      · have : j = 0 := by omega
        subst this
        refine ⟨skp (m 51) L 0, 0, L, ?_, k2, up_y, k3, by rw [g_up_ne (by decide)]; exact f3, k4, by rw [g_up_ne (by decide)]; exact f4, Or.inl ⟨k5, by rw [g_up_ne (by decide)]; exact f5⟩⟩
        rw [g_up_ne (by decide)]
        have := (FR_all g).skp
        rw [Nat.sub_zero] at this
        exact this
    · refine ⟨-1, g_up (g_up m 55 0 (skp (m 51) L 0 : Int)) 49 17 ((0 : Nat) : Int), ?_, ⟨0, ⟨by omega, by rw [f7 q]; rfl, up_y, fun j hj => by omega⟩, Or.inl ⟨rfl, rfl⟩⟩, fM_tr (fM_up rfl) (fM_up rfl)⟩
      rw [eN, st, if_neg q, f5, if_pos (by decide)]
      unfold M_next_0
      rw [up_y, if_pos (by decide)]
theorem RP_run (hc : ∀ q, pcC q = true → c' q = c q) (hm : ∀ q k, ruM q k = true → ¬ (q = 49 ∧ k = 8) → m' q k = m q k) (h0 : m' 49 44 = 0) (h : RP n c m) : RP n c' m' := by
  have h1 : RP n c' (g_up m' 49 8 (m 49 8)) := RP_congr hc (fun q k hq => by
    by_cases e : q = 49 ∧ k = 8
    · rw [e.1, e.2, up_y]
    · rw [up_n e]; exact hm q k hq e) h
  obtain ⟨hE, hS, hG, hO, hI, hK, hQ⟩ := h1
  unfold pE pS pG pO pI pK pQ sdsM at *
  simp (disch := decide) only [g_up_ne, up_n] at hE hS hG hO hI hK hQ
  exact ⟨hE, hS, hG, hO, hI, hK, hQ.1, fun q => by omega⟩
theorem completeC {k : Nat} (hk : k ≤ 8) (h4 : 1 ≤ c 37 4 ∧ c 37 4 ≤ 4) (h5 : c 37 5 = 0 ∨ c 37 5 = 1) : ∃ c', Order_complete k c = some (0, c') ∧ c' 37 6 = k ∧ c' 37 7 = (if c 37 5 = 0 then (k : Int) else ((k : Int) + 1) / 2) ∧ c' 37 3 = c 37 4 * (if c 37 5 = 0 then (k : Int) else ((k : Int) + 1) / 2) ∧ c' 37 2 = c 37 2 ∧ c' 37 4 = c 37 4 ∧ c' 37 5 = c 37 5 ∧ fC (fun q => decide (q = 37)) c c' := by
  obtain ⟨P, hP⟩ : ∃ P : Int, P = (if c 37 5 = 0 then (k : Int) else ((k : Int) + 1) / 2) := ⟨_, rfl⟩
  have hP2 : 0 ≤ P ∧ P ≤ 8 := by rw [hP]; split <;> omega
  have hm : 0 ≤ c 37 4 * P ∧ c 37 4 * P ≤ 32 := by
    rcases (show c 37 4 = 1 ∨ c 37 4 = 2 ∨ c 37 4 = 3 ∨ c 37 4 = 4 by omega) with e | e | e | e <;> rw [e] <;> omega
  have e28 : Order_complete_28 P (g_up c 37 6 k) = some (0, g_up (g_up (g_up c 37 6 k) 37 7 P) 37 3 (c 37 4 * P)) := by
    unfold Order_complete_28 Math_min1
    rw [g_le_s, up_n (by decide), up_n (by decide), up_y, w32_id (z := c 37 4 * P) (by omega) (by omega), if_neg (by rw [show w32 32 = 32 from rfl]; omega), g_bi_s, g_le_s]
  refine ⟨g_up (g_up (g_up c 37 6 k) 37 7 P) 37 3 (c 37 4 * P), ?_, ?_, ?_, ?_, ?_, ?_, ?_, ?_⟩
  · unfold Order_complete
    rw [g_le_s, up_n (by decide), up_y, w32_01 h5]
    by_cases e : c 37 5 = 0
    · rw [if_pos e] at hP
      rw [if_pos e, ← hP]
      rw [← hP] at e28
      exact e28
    · rw [if_neg e] at hP
      rw [if_neg e, i_div_nn (by omega) (by omega) (by decide) (by decide), ← hP]
      exact e28
  · rw [up_n (by decide), up_n (by decide), up_y]
  · rw [up_n (by decide), up_y, hP]
  · rw [up_y, hP]
  · rw [up_n (by decide), up_n (by decide), up_n (by decide)]
  · rw [up_n (by decide), up_n (by decide), up_n (by decide)]
  · rw [up_n (by decide), up_n (by decide), up_n (by decide)]
  · exact fC_tr (fC_tr (fC_up rfl) (fC_up rfl)) (fC_up rfl)
theorem cnt_0 {f : Nat → Int} : ∀ n : Nat, (∀ k, k < n → f k = 0) → cnt f n = 0 := by
  intro n
  induction n with
  | zero => intro _; rfl
  | succ n ih => intro h; simp only [cnt]; rw [ih fun k hk => h k (by omega), h n (by omega)]; rfl
theorem RP_end (h : RP n c m) (hr : m 49 44 = 0) (h11 : 1 ≤ m 49 11 ∧ m 49 11 ≤ 4) {K : Nat} (hK8 : K ≤ 8) (hK : m 49 8 = K) (c3 : c' 37 3 = c 37 4 * (if c 37 5 = 0 then (K : Int) else ((K : Int) + 1) / 2)) (c2 : c' 37 2 = c 37 2) (c4 : c' 37 4 = c 37 4) (c5 : c' 37 5 = c 37 5) (c6 : c' 37 6 = K) (c7 : c' 37 7 = (if c 37 5 = 0 then (K : Int) else ((K : Int) + 1) / 2)) (fc : fC (fun q => decide (q = 37)) c c') (m5 : m' 49 5 = 2) (m44 : m' 49 44 = m 49 11 * (if m 49 12 = 0 then m 49 8 else (m 49 8 + 1) / 2)) (m73 : ∀ i, i < 40 → m' 73 i = 0) (fm : fM enM m m') : RP n c' m' := by
  obtain ⟨hE, hS, hG, hO, hI, hKk, hQ⟩ := h
  obtain ⟨o1, o2, o3, o4, o5, o6⟩ := hO
  have c40 : c' 40 = c 40 := fc 40 rfl
  have e44 : 0 ≤ m' 49 44 ∧ m' 49 44 ≤ 32 := by
    rw [m44, hK]
    have hP2 : 0 ≤ (if m 49 12 = 0 then (K : Int) else ((K : Int) + 1) / 2) ∧ (if m 49 12 = 0 then (K : Int) else ((K : Int) + 1) / 2) ≤ 8 := by split <;> omega
    generalize (if m 49 12 = 0 then (K : Int) else ((K : Int) + 1) / 2) = P at hP2 ⊢
    rcases (show m 49 11 = 1 ∨ m 49 11 = 2 ∨ m 49 11 = 3 ∨ m 49 11 = 4 by omega) with e | e | e | e <;> rw [e] <;> omega
  have e45 : m 49 45 = 0 := by omega
  have e67 : ∀ i, i < 4 → m 67 i = -1 := fun i hi => by
    rcases (hI.1 i hi).1 with x | x
    · exact x
    · omega
  have g := fun k (hk : enM 49 k = false) => fm 49 k hk
  refine ⟨?_, fun i hi => ?_, ?_, ⟨?_, ?_, e44.2, ?_, ⟨fun _ i hi => ?_, fun _ i hi => ?_⟩, fun i hi => ?_⟩, ⟨fun i hi => ?_, fun i j hi hj hij hne => ?_⟩, fun i hi => ?_, ⟨⟨Or.inl m5, ?_⟩, fun _ => ?_⟩⟩
  · unfold pE at *
    rw [c40, c2, c3, c5, g 41 rfl, g 40 rfl, g 46 rfl, g 42 rfl, g 43 rfl, g 47 rfl, g 45 rfl, m44, g 12 rfl]
    refine ⟨hE.1, hE.2.1, hE.2.2.1, hE.2.2.2.1, hE.2.2.2.2.1, hE.2.2.2.2.2.1, hE.2.2.2.2.2.2.1, ?_, hE.2.2.2.2.2.2.2.2⟩
    rw [hQ.1.2, hE.2.2.2.2.2.2.2.2, hK]
  · rw [fc 41 rfl, fc 42 rfl, fc 43 rfl, fm 67 i rfl, fm 68 i rfl, fm 71 i rfl]
    exact hS i hi
  · unfold pG at *
    rw [g 41 rfl, g 40 rfl, g 46 rfl, g 47 rfl, g 12 rfl]
    exact hG
  · rw [g 45 rfl]; exact o1
  · rw [g 45 rfl, e45]; exact e44.1
  · rw [g 45 rfl, e45, cnt_0 _ (fun k hk => m73 k (by omega))]
  · rw [fc 39 rfl, m73 i (by omega)]
    exact ⟨o5.2 hr i hi, Or.inl rfl⟩
  · rw [fc 39 rfl]; exact o5.2 hr i hi
  · rw [g 45 rfl, e45] at hi; omega
  · rw [fm 67 i rfl, fm 68 i rfl]
    obtain ⟨-, s2, s3, -⟩ := hI.1 i hi
    exact ⟨Or.inl (e67 i hi), s2, s3, fun x => absurd (e67 i hi) x⟩
  · rw [fm 67 i rfl] at hne
    exact absurd (e67 i hi) hne
  · rw [fc 45 rfl, fm 69 i rfl, fm 67 i rfl, g 47 rfl]
    exact hKk i hi
  · rw [c4, g 11 rfl]; exact hQ.1.2
  · rw [c4, g 11 rfl, c6, g 8 rfl, c7, g 12 rfl, m44, hE.2.2.2.2.2.2.2.2, hK]
    exact ⟨hQ.1.2, h11.1, h11.2, rfl, by omega, by omega, rfl, rfl⟩
end RR
