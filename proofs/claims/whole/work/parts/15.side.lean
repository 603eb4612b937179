/-! a side of the store: the class's cells, or the model's; J puts it into the whole -/
def g_set (s : gS) (q : Nat) (r : Nat → Int) : gS := fun i => if i = q then r else s i
theorem g_up_set (s : gS) (q k : Nat) (z : Int) : g_up s q k z = g_set s q (fun j => if j = k then z else s q j) := by
  funext i j
  by_cases h : i = q <;> simp [g_up, g_set, h]
theorem g_cp_set (s : gS) (a b sp dp n : Nat) : g_cp s a b sp dp n = g_set s b (fun j => if dp ≤ j ∧ j < dp + n then s a (sp + (j - dp)) else s b j) := by
  funext i j
  by_cases h : i = b <;> simp [g_cp, g_set, h]
def g_in (J : gS → gS) (q : Nat) : Prop := ∀ s : gS, J s q = s q ∧ ∀ r : Nat → Int, g_set (J s) q r = J (g_set s q r)
def g_jc (J : gS → gS) : Prop := ∀ q : Nat, g_side q = false → g_in J q
def g_jm (J : gS → gS) : Prop := ∀ q : Nat, g_side q = true → g_in J q
def g_j (s t : gS) : gS := fun q => if g_side q then t q else s q
theorem g_j_c (t : gS) : g_jc (fun s => g_j s t) := by
  intro q hq s
  refine ⟨by simp [g_j, hq], fun r => ?_⟩
  funext i
  by_cases h : i = q
  · subst h; simp [g_set, g_j, hq]
  · by_cases h2 : g_side i = true <;> simp [g_set, g_j, h, h2]
theorem g_j_m (t : gS) : g_jm (fun s => g_j t s) := by
  intro q hq s
  refine ⟨by simp [g_j, hq], fun r => ?_⟩
  funext i
  by_cases h : i = q
  · subst h; simp [g_set, g_j, hq]
  · by_cases h2 : g_side i = true <;> simp [g_set, g_j, h, h2]
theorem g_j_id : g_jc (fun s => s) ∧ g_jm (fun s => s) := ⟨fun _ _ _ => ⟨rfl, fun _ => rfl⟩, fun _ _ _ => ⟨rfl, fun _ => rfl⟩⟩
theorem g_in_up {J : gS → gS} {q : Nat} (h : g_in J q) (s : gS) (k : Nat) (z : Int) : g_up (J s) q k z = J (g_up s q k z) := by
  rw [g_up_set, g_up_set, (h s).1, (h s).2]
theorem g_in_cp {J : gS → gS} {a b : Nat} (ha : g_in J a) (hb : g_in J b) (s : gS) (sp dp n : Nat) : g_cp (J s) a b sp dp n = J (g_cp s a b sp dp n) := by
  rw [g_cp_set, g_cp_set, (ha s).1, (hb s).1, (hb s).2]
/-! answers: an int, a long, nothing, a known reference -/
def QE (S : List gH) (J : gS → gS) (z : Int) (s : gS) : gO → List gH → gS → Prop := fun o S' sg => S' = S ∧ o = .inl (some (gi z)) ∧ sg = J s
def QF (S : List gH) (J : gS → gS) (z : Int) (s : gS) : gO → List gH → gS → Prop := fun o S' sg => S' = S ∧ o = .inl (some (gl z)) ∧ sg = J s
def QG (S : List gH) (J : gS → gS) (_ : Int) (s : gS) : gO → List gH → gS → Prop := fun o S' sg => S' = S ∧ o = .inl none ∧ sg = J s
def QX (S : List gH) (J : gS → gS) (t z : Int) (s : gS) : gO → List gH → gS → Prop := fun o S' sg => S' = S ∧ (o = if t = 0 then .inl (some (gi z)) else .inr (t - 1).toNat) ∧ sg = J s
def QH (r : Nat) (S : List gH) (J : gS → gS) (_ : Int) (s : gS) : gO → List gH → gS → Prop := fun o S' sg => S' = S ∧ o = .inl (some (.ref r)) ∧ sg = J s
/-! the methods as functions: what h says at each step -/
abbrev gA : Type := Option (Int × gS)
/-- of a method that may throw: 0, or 1 and the exception's number -/
abbrev gT : Type := Option (Int × Int × gS)
def g_bi {β : Type} (m : gA) (f : Int → gS → Option β) : Option β := match m with
  | none => none
  | some (z, s) => f z s
def g_le {α β : Type} (x : α) (f : α → Option β) : Option β := f x
section GOB
variable {β : Type} {o : β} {a b : Option β} {c : Prop}
theorem o_b {m : gA} {f : Int → gS → Option β} (h : g_bi m f = some o) : ∃ z s, m = some (z, s) ∧ f z s = some o := by
  cases hm : m with
  | none => rw [hm] at h; cases h
  | some q => obtain ⟨z, s⟩ := q; rw [hm] at h; exact ⟨z, s, rfl, h⟩
theorem o_l {α : Type} {x : α} {f : α → Option β} (h : g_le x f = some o) (y : α) (e : y = x) : f y = some o := by subst e; exact h
theorem o_t [Decidable c] (hc : c) (h : (if c then a else b) = some o) : a = some o := by rwa [if_pos hc] at h
theorem o_f [Decidable c] (hc : ¬ c) (h : (if c then a else b) = some o) : b = some o := by rwa [if_neg hc] at h
theorem o_g [Decidable c] (h : (if c then a else none) = some o) : c ∧ a = some o := by
  by_cases hc : c
  · exact ⟨hc, o_t hc h⟩
  · rw [if_neg hc] at h; cases h
end GOB
theorem q_e {S : List gH} {J : gS → gS} {z z0 : Int} {s s0 : gS} (h : (some (z, s) : gA) = some (z0, s0)) : QE S J z0 s0 (.inl (some (gi z))) S (J s) := by cases h; exact ⟨rfl, rfl, rfl⟩
theorem q_f {S : List gH} {J : gS → gS} {z z0 : Int} {s s0 : gS} (h : (some (z, s) : gA) = some (z0, s0)) : QF S J z0 s0 (.inl (some (gl z))) S (J s) := by cases h; exact ⟨rfl, rfl, rfl⟩
theorem q_g {S : List gH} {J : gS → gS} {z z0 : Int} {s s0 : gS} (h : (some (z, s) : gA) = some (z0, s0)) : QG S J z0 s0 (.inl none) S (J s) := by cases h; exact ⟨rfl, rfl, rfl⟩
theorem q_h {S : List gH} {J : gS → gS} {r : Nat} {z z0 : Int} {s s0 : gS} (h : (some (z, s) : gA) = some (z0, s0)) : QH r S J z0 s0 (.inl (some (.ref r))) S (J s) := by cases h; exact ⟨rfl, rfl, rfl⟩
section GSD
variable {M N : gM} {Q : gO → List gH → gS → Prop} {Z : gZ} {J : gS → gS} {s s1 : gS} {pc : Nat} {lv : List (Option Value)} {st : List Value} {q ci k idx n a b n0 n1 c1 c2 : Nat} {fl : List gF} {S : List gH} {as stk : List Value} {z z1 : Int} {x y nn sp dp m : Int}
theorem H_topi (k : ∀ v : Int, v = z → G M Q Z (J s) pc lv (gi v :: st)) : G M Q Z (J s) pc lv (gi z :: st) := k z rfl
theorem H_topl (k : ∀ v : Int, v = z → G M Q Z (J s) pc lv (gl v :: st)) : G M Q Z (J s) pc lv (gl z :: st) := k z rfl
theorem H_getI (hd : decode (g_b M) pc = .ok (.getfield idx, 3)) (hS : Z.1[q]? = some (.inr (ci, fl))) (hl : g_fl (g_y M).cls idx ci k) (hf : fl[k]? = some none) (hJ : g_in J q) (kk : G M Q Z (J s) (pc + 3) lv (gi (s q k) :: st)) : G M Q Z (J s) pc lv (.ref q :: st) :=
  G_getI hd hS hl hf (by rw [(hJ s).1]; exact kk)
theorem H_putI (hd : decode (g_b M) pc = .ok (.putfield idx, 3)) (hS : Z.1[q]? = some (.inr (ci, fl))) (hl : g_fp (g_y M).cls idx ci k false .int) (hf : fl[k]? = some none) (hJ : g_in J q) (kk : ∀ s1 : gS, s1 = g_up s q k z → G M Q Z (J s1) (pc + 3) lv st) : G M Q Z (J s) pc lv (gi z :: .ref q :: st) :=
  G_putI hd hS hl hf (by rw [g_in_up hJ]; exact kk _ rfl)
theorem H_putZ (hd : decode (g_b M) pc = .ok (.putfield idx, 3)) (hS : Z.1[q]? = some (.inr (ci, fl))) (hl : g_fp (g_y M).cls idx ci k false .boolean) (hf : fl[k]? = some none) (hJ : g_in J q) (hz : w32 z = 0 ∨ w32 z = 1) (kk : ∀ s1 : gS, s1 = g_up s q k z → G M Q Z (J s1) (pc + 3) lv st) : G M Q Z (J s) pc lv (gi z :: .ref q :: st) :=
  G_putZ hd hS hl hf hz (by rw [g_in_up hJ]; exact kk _ rfl)
theorem H_iaload {j : Nat} (hd : decode (g_b M) pc = .ok (.iaload, 1)) (hS : Z.1[q]? = some (.inl (0, n))) (hJ : g_in J q) (ha : w32 x = y) (hi : 0 ≤ y ∧ y < (n : Int)) (hj : y.toNat = j) (kk : G M Q Z (J s) (pc + 1) lv (gi (s q j) :: st)) : G M Q Z (J s) pc lv (gi x :: .ref q :: st) := by
  subst hj
  exact G_iaload hd hS ha hi (by rw [(hJ s).1]; exact kk)
theorem H_zaload {j : Nat} (hd : decode (g_b M) pc = .ok (.baload, 1)) (hS : Z.1[q]? = some (.inl (1, n))) (hJ : g_in J q) (ha : w32 x = y) (hi : 0 ≤ y ∧ y < (n : Int)) (hj : y.toNat = j) (kk : G M Q Z (J s) (pc + 1) lv (gi (s q j) :: st)) : G M Q Z (J s) pc lv (gi x :: .ref q :: st) := by
  subst hj
  exact G_zaload hd hS ha hi (by rw [(hJ s).1]; exact kk)
theorem H_laload {j : Nat} (hd : decode (g_b M) pc = .ok (.laload, 1)) (hS : Z.1[q]? = some (.inl (3, n))) (hJ : g_in J q) (ha : w32 x = y) (hi : 0 ≤ y ∧ y < (n : Int)) (hj : y.toNat = j) (kk : G M Q Z (J s) (pc + 1) lv (gl (s q j) :: st)) : G M Q Z (J s) pc lv (gi x :: .ref q :: st) := by
  subst hj
  exact G_laload hd hS ha hi (by rw [(hJ s).1]; exact kk)
theorem H_iastore {j : Nat} (hd : decode (g_b M) pc = .ok (.iastore, 1)) (hS : Z.1[q]? = some (.inl (0, n))) (hJ : g_in J q) (ha : w32 x = y) (hi : 0 ≤ y ∧ y < (n : Int)) (hj : y.toNat = j) (kk : ∀ s1 : gS, s1 = g_up s q j (z) → G M Q Z (J s1) (pc + 1) lv st) : G M Q Z (J s) pc lv (gi z :: gi x :: .ref q :: st) := by
  subst hj
  exact G_iastore hd hS ha hi (by rw [g_in_up hJ]; exact kk _ rfl)
theorem H_zastore {j : Nat} (hd : decode (g_b M) pc = .ok (.bastore, 1)) (hS : Z.1[q]? = some (.inl (1, n))) (hJ : g_in J q) (ha : w32 x = y) (hi : 0 ≤ y ∧ y < (n : Int)) (hj : y.toNat = j) (kk : ∀ s1 : gS, s1 = g_up s q j (i_nar .boolean z) → G M Q Z (J s1) (pc + 1) lv st) : G M Q Z (J s) pc lv (gi z :: gi x :: .ref q :: st) := by
  subst hj
  exact G_zastore hd hS ha hi (by rw [g_in_up hJ]; exact kk _ rfl)
theorem H_lastore {j : Nat} (hd : decode (g_b M) pc = .ok (.lastore, 1)) (hS : Z.1[q]? = some (.inl (3, n))) (hJ : g_in J q) (ha : w32 x = y) (hi : 0 ≤ y ∧ y < (n : Int)) (hj : y.toNat = j) (kk : ∀ s1 : gS, s1 = g_up s q j (z) → G M Q Z (J s1) (pc + 1) lv st) : G M Q Z (J s) pc lv (gl z :: gi x :: .ref q :: st) := by
  subst hj
  exact G_lastore hd hS ha hi (by rw [g_in_up hJ]; exact kk _ rfl)
theorem H_copyI (hd : decode (g_b M) pc = .ok (.invokestatic idx, 3)) (hw : g_cw (g_y M).cls idx) (hS0 : Z.1[a]? = some (.inl (0, n0))) (hS1 : Z.1[b]? = some (.inl (0, n1))) (hr : g_acr M st = true) (hJa : g_in J a) (hJb : g_in J b) {js jd jn : Nat} (hsp : w32 x = sp) (hdp : w32 y = dp) (hnn : w32 m = nn) (ejs : sp.toNat = js) (ejd : dp.toNat = jd) (ejn : nn.toNat = jn) (h1 : 0 ≤ sp ∧ 0 ≤ dp ∧ 0 ≤ nn ∧ sp + nn ≤ n0 ∧ dp + nn ≤ n1)
    (kk : ∀ s1 : gS, s1 = g_cp s a b js jd jn → G M Q Z (J s1) (pc + 3) lv st) : G M Q Z (J s) pc lv (gi m :: gi y :: .ref b :: gi x :: .ref a :: st) := by
  subst ejs ejd ejn
  exact G_copyI hd hw hS0 hS1 hr hsp hdp hnn h1 (by rw [g_in_cp hJa hJb]; exact kk _ rfl)
theorem H_copyL (hd : decode (g_b M) pc = .ok (.invokestatic idx, 3)) (hw : g_cw (g_y M).cls idx) (hS0 : Z.1[a]? = some (.inl (3, n0))) (hS1 : Z.1[b]? = some (.inl (3, n1))) (hr : g_acr M st = true) (hJa : g_in J a) (hJb : g_in J b) {js jd jn : Nat} (hsp : w32 x = sp) (hdp : w32 y = dp) (hnn : w32 m = nn) (ejs : sp.toNat = js) (ejd : dp.toNat = jd) (ejn : nn.toNat = jn) (h1 : 0 ≤ sp ∧ 0 ≤ dp ∧ 0 ≤ nn ∧ sp + nn ≤ n0 ∧ dp + nn ≤ n1)
    (kk : ∀ s1 : gS, s1 = g_cp s a b js jd jn → G M Q Z (J s1) (pc + 3) lv st) : G M Q Z (J s) pc lv (gi m :: gi y :: .ref b :: gi x :: .ref a :: st) := by
  subst ejs ejd ejn
  exact G_copyL hd hw hS0 hS1 hr hsp hdp hnn h1 (by rw [g_in_cp hJa hJb]; exact kk _ rfl)
theorem H_cVE (hc : Ct N S (.ref b :: as) (J s) (QE S J z1 s1)) (hd : decode (g_b M) pc = .ok (.invokevirtual idx, 3)) (hlk : g_lk (g_y M).cls idx (g_y N)) (hm : g_mv N n) (hn : as.length = n) (hS : S[b]? = some (.inr (ci, fl))) (hci : (g_cl[ci]?).map (fun q => q.1) = some (g_y N).cls) (hft : g_ft M N (S, c1, c2) = true) (hcr : g_cr st = true) (h0 : g_c0 N = true) (hal : g_a N = false) (hs : stk = as.reverse ++ .ref b :: st)
    (kk : G M Q (S, c1, c2) (J s1) (pc + 3) lv (gi z1 :: st)) : G M Q (S, c1, c2) (J s) pc lv stk := by
  refine G_cV (Z := (S, c1, c2)) hc hd hlk hm hn hS hci hft hcr ⟨fun h => (by rw [hal] at h; cases h), fun _ => Or.inr ⟨(g_c0_eq h0).1, fun o S' sg' hq => hq.1⟩⟩ hs fun o S' sg' hq => ?_
  obtain ⟨rfl, rfl, rfl⟩ := hq
  refine ⟨_, rfl, ?_⟩
  rw [(g_c0_eq h0).1, (g_c0_eq h0).2]
  exact kk
theorem H_cVF (hc : Ct N S (.ref b :: as) (J s) (QF S J z1 s1)) (hd : decode (g_b M) pc = .ok (.invokevirtual idx, 3)) (hlk : g_lk (g_y M).cls idx (g_y N)) (hm : g_mv N n) (hn : as.length = n) (hS : S[b]? = some (.inr (ci, fl))) (hci : (g_cl[ci]?).map (fun q => q.1) = some (g_y N).cls) (hft : g_ft M N (S, c1, c2) = true) (hcr : g_cr st = true) (h0 : g_c0 N = true) (hal : g_a N = false) (hs : stk = as.reverse ++ .ref b :: st)
    (kk : G M Q (S, c1, c2) (J s1) (pc + 3) lv (gl z1 :: st)) : G M Q (S, c1, c2) (J s) pc lv stk := by
  refine G_cV (Z := (S, c1, c2)) hc hd hlk hm hn hS hci hft hcr ⟨fun h => (by rw [hal] at h; cases h), fun _ => Or.inr ⟨(g_c0_eq h0).1, fun o S' sg' hq => hq.1⟩⟩ hs fun o S' sg' hq => ?_
  obtain ⟨rfl, rfl, rfl⟩ := hq
  refine ⟨_, rfl, ?_⟩
  rw [(g_c0_eq h0).1, (g_c0_eq h0).2]
  exact kk
theorem H_cVG (hc : Ct N S (.ref b :: as) (J s) (QG S J z1 s1)) (hd : decode (g_b M) pc = .ok (.invokevirtual idx, 3)) (hlk : g_lk (g_y M).cls idx (g_y N)) (hm : g_mv N n) (hn : as.length = n) (hS : S[b]? = some (.inr (ci, fl))) (hci : (g_cl[ci]?).map (fun q => q.1) = some (g_y N).cls) (hft : g_ft M N (S, c1, c2) = true) (hcr : g_cr st = true) (h0 : g_c0 N = true) (hal : g_a N = false) (hs : stk = as.reverse ++ .ref b :: st)
    (kk : G M Q (S, c1, c2) (J s1) (pc + 3) lv (st)) : G M Q (S, c1, c2) (J s) pc lv stk := by
  refine G_cV (Z := (S, c1, c2)) hc hd hlk hm hn hS hci hft hcr ⟨fun h => (by rw [hal] at h; cases h), fun _ => Or.inr ⟨(g_c0_eq h0).1, fun o S' sg' hq => hq.1⟩⟩ hs fun o S' sg' hq => ?_
  obtain ⟨rfl, rfl, rfl⟩ := hq
  refine ⟨_, rfl, ?_⟩
  rw [(g_c0_eq h0).1, (g_c0_eq h0).2]
  exact kk
theorem H_cVH (hc : Ct N S (.ref b :: as) (J s) (QH a S J z1 s1)) (hd : decode (g_b M) pc = .ok (.invokevirtual idx, 3)) (hlk : g_lk (g_y M).cls idx (g_y N)) (hm : g_mv N n) (hn : as.length = n) (hS : S[b]? = some (.inr (ci, fl))) (hci : (g_cl[ci]?).map (fun q => q.1) = some (g_y N).cls) (hft : g_ft M N (S, c1, c2) = true) (hcr : g_cr st = true) (h0 : g_c0 N = true) (hal : g_a N = false) (hs : stk = as.reverse ++ .ref b :: st)
    (kk : G M Q (S, c1, c2) (J s1) (pc + 3) lv (.ref a :: st)) : G M Q (S, c1, c2) (J s) pc lv stk := by
  refine G_cV (Z := (S, c1, c2)) hc hd hlk hm hn hS hci hft hcr ⟨fun h => (by rw [hal] at h; cases h), fun _ => Or.inr ⟨(g_c0_eq h0).1, fun o S' sg' hq => hq.1⟩⟩ hs fun o S' sg' hq => ?_
  obtain ⟨rfl, rfl, rfl⟩ := hq
  refine ⟨_, rfl, ?_⟩
  rw [(g_c0_eq h0).1, (g_c0_eq h0).2]
  exact kk
theorem H_cSE (hc : Ct N S as (J s) (QE S J z1 s1)) (hd : decode (g_b M) pc = .ok (.invokestatic idx, 3)) (hlk : g_lk (g_y M).cls idx (g_y N)) (hm : g_ms N n) (hn : as.length = n) (hft : g_ft M N (S, c1, c2) = true) (hcr : g_cr st = true) (h0 : g_c0 N = true) (hal : g_a N = false) (hs : stk = as.reverse ++ st)
    (kk : G M Q (S, c1, c2) (J s1) (pc + 3) lv (gi z1 :: st)) : G M Q (S, c1, c2) (J s) pc lv stk := by
  refine G_cS (Z := (S, c1, c2)) hc hd hlk hm hn hft hcr ⟨fun h => (by rw [hal] at h; cases h), fun _ => Or.inr ⟨(g_c0_eq h0).1, fun o S' sg' hq => hq.1⟩⟩ hs fun o S' sg' hq => ?_
  obtain ⟨rfl, rfl, rfl⟩ := hq
  refine ⟨_, rfl, ?_⟩
  rw [(g_c0_eq h0).1, (g_c0_eq h0).2]
  exact kk
theorem H_cSF (hc : Ct N S as (J s) (QF S J z1 s1)) (hd : decode (g_b M) pc = .ok (.invokestatic idx, 3)) (hlk : g_lk (g_y M).cls idx (g_y N)) (hm : g_ms N n) (hn : as.length = n) (hft : g_ft M N (S, c1, c2) = true) (hcr : g_cr st = true) (h0 : g_c0 N = true) (hal : g_a N = false) (hs : stk = as.reverse ++ st)
    (kk : G M Q (S, c1, c2) (J s1) (pc + 3) lv (gl z1 :: st)) : G M Q (S, c1, c2) (J s) pc lv stk := by
  refine G_cS (Z := (S, c1, c2)) hc hd hlk hm hn hft hcr ⟨fun h => (by rw [hal] at h; cases h), fun _ => Or.inr ⟨(g_c0_eq h0).1, fun o S' sg' hq => hq.1⟩⟩ hs fun o S' sg' hq => ?_
  obtain ⟨rfl, rfl, rfl⟩ := hq
  refine ⟨_, rfl, ?_⟩
  rw [(g_c0_eq h0).1, (g_c0_eq h0).2]
  exact kk
theorem H_cSG (hc : Ct N S as (J s) (QG S J z1 s1)) (hd : decode (g_b M) pc = .ok (.invokestatic idx, 3)) (hlk : g_lk (g_y M).cls idx (g_y N)) (hm : g_ms N n) (hn : as.length = n) (hft : g_ft M N (S, c1, c2) = true) (hcr : g_cr st = true) (h0 : g_c0 N = true) (hal : g_a N = false) (hs : stk = as.reverse ++ st)
    (kk : G M Q (S, c1, c2) (J s1) (pc + 3) lv (st)) : G M Q (S, c1, c2) (J s) pc lv stk := by
  refine G_cS (Z := (S, c1, c2)) hc hd hlk hm hn hft hcr ⟨fun h => (by rw [hal] at h; cases h), fun _ => Or.inr ⟨(g_c0_eq h0).1, fun o S' sg' hq => hq.1⟩⟩ hs fun o S' sg' hq => ?_
  obtain ⟨rfl, rfl, rfl⟩ := hq
  refine ⟨_, rfl, ?_⟩
  rw [(g_c0_eq h0).1, (g_c0_eq h0).2]
  exact kk
theorem H_cSH (hc : Ct N S as (J s) (QH a S J z1 s1)) (hd : decode (g_b M) pc = .ok (.invokestatic idx, 3)) (hlk : g_lk (g_y M).cls idx (g_y N)) (hm : g_ms N n) (hn : as.length = n) (hft : g_ft M N (S, c1, c2) = true) (hcr : g_cr st = true) (h0 : g_c0 N = true) (hal : g_a N = false) (hs : stk = as.reverse ++ st)
    (kk : G M Q (S, c1, c2) (J s1) (pc + 3) lv (.ref a :: st)) : G M Q (S, c1, c2) (J s) pc lv stk := by
  refine G_cS (Z := (S, c1, c2)) hc hd hlk hm hn hft hcr ⟨fun h => (by rw [hal] at h; cases h), fun _ => Or.inr ⟨(g_c0_eq h0).1, fun o S' sg' hq => hq.1⟩⟩ hs fun o S' sg' hq => ?_
  obtain ⟨rfl, rfl, rfl⟩ := hq
  refine ⟨_, rfl, ?_⟩
  rw [(g_c0_eq h0).1, (g_c0_eq h0).2]
  exact kk
theorem H_cKE (hc : Ct N S (.ref (1000 + b) :: as) (J s) (QE S J z1 s1)) (hd : decode (g_b M) pc = .ok (.invokevirtual idx, 3)) (hlk : Cond.methodLink (g_y M).cls idx (g_y N) ∈ g_T) (hm : g_mv N n) (hn : as.length = n) (hi : b < g_nS) (hci : (g_y N).cls = "java/lang/String") (hft : g_ft M N (S, c1, c2) = true) (hcr : g_cr st = true) (h0 : g_c0 N = true) (hal : g_a N = false) (hs : stk = as.reverse ++ .ref (1000 + b) :: st)
    (kk : G M Q (S, c1, c2) (J s1) (pc + 3) lv (gi z1 :: st)) : G M Q (S, c1, c2) (J s) pc lv stk := by
  refine G_cK (Z := (S, c1, c2)) hc hd hlk hm hn hi hci hft hcr ⟨fun h => (by rw [hal] at h; cases h), fun _ => Or.inr ⟨(g_c0_eq h0).1, fun o S' sg' hq => hq.1⟩⟩ hs fun o S' sg' hq => ?_
  obtain ⟨rfl, rfl, rfl⟩ := hq
  refine ⟨_, rfl, ?_⟩
  rw [(g_c0_eq h0).1, (g_c0_eq h0).2]
  exact kk
theorem H_cKF (hc : Ct N S (.ref (1000 + b) :: as) (J s) (QF S J z1 s1)) (hd : decode (g_b M) pc = .ok (.invokevirtual idx, 3)) (hlk : Cond.methodLink (g_y M).cls idx (g_y N) ∈ g_T) (hm : g_mv N n) (hn : as.length = n) (hi : b < g_nS) (hci : (g_y N).cls = "java/lang/String") (hft : g_ft M N (S, c1, c2) = true) (hcr : g_cr st = true) (h0 : g_c0 N = true) (hal : g_a N = false) (hs : stk = as.reverse ++ .ref (1000 + b) :: st)
    (kk : G M Q (S, c1, c2) (J s1) (pc + 3) lv (gl z1 :: st)) : G M Q (S, c1, c2) (J s) pc lv stk := by
  refine G_cK (Z := (S, c1, c2)) hc hd hlk hm hn hi hci hft hcr ⟨fun h => (by rw [hal] at h; cases h), fun _ => Or.inr ⟨(g_c0_eq h0).1, fun o S' sg' hq => hq.1⟩⟩ hs fun o S' sg' hq => ?_
  obtain ⟨rfl, rfl, rfl⟩ := hq
  refine ⟨_, rfl, ?_⟩
  rw [(g_c0_eq h0).1, (g_c0_eq h0).2]
  exact kk
theorem H_cKG (hc : Ct N S (.ref (1000 + b) :: as) (J s) (QG S J z1 s1)) (hd : decode (g_b M) pc = .ok (.invokevirtual idx, 3)) (hlk : Cond.methodLink (g_y M).cls idx (g_y N) ∈ g_T) (hm : g_mv N n) (hn : as.length = n) (hi : b < g_nS) (hci : (g_y N).cls = "java/lang/String") (hft : g_ft M N (S, c1, c2) = true) (hcr : g_cr st = true) (h0 : g_c0 N = true) (hal : g_a N = false) (hs : stk = as.reverse ++ .ref (1000 + b) :: st)
    (kk : G M Q (S, c1, c2) (J s1) (pc + 3) lv (st)) : G M Q (S, c1, c2) (J s) pc lv stk := by
  refine G_cK (Z := (S, c1, c2)) hc hd hlk hm hn hi hci hft hcr ⟨fun h => (by rw [hal] at h; cases h), fun _ => Or.inr ⟨(g_c0_eq h0).1, fun o S' sg' hq => hq.1⟩⟩ hs fun o S' sg' hq => ?_
  obtain ⟨rfl, rfl, rfl⟩ := hq
  refine ⟨_, rfl, ?_⟩
  rw [(g_c0_eq h0).1, (g_c0_eq h0).2]
  exact kk
theorem H_cKH (hc : Ct N S (.ref (1000 + b) :: as) (J s) (QH a S J z1 s1)) (hd : decode (g_b M) pc = .ok (.invokevirtual idx, 3)) (hlk : Cond.methodLink (g_y M).cls idx (g_y N) ∈ g_T) (hm : g_mv N n) (hn : as.length = n) (hi : b < g_nS) (hci : (g_y N).cls = "java/lang/String") (hft : g_ft M N (S, c1, c2) = true) (hcr : g_cr st = true) (h0 : g_c0 N = true) (hal : g_a N = false) (hs : stk = as.reverse ++ .ref (1000 + b) :: st)
    (kk : G M Q (S, c1, c2) (J s1) (pc + 3) lv (.ref a :: st)) : G M Q (S, c1, c2) (J s) pc lv stk := by
  refine G_cK (Z := (S, c1, c2)) hc hd hlk hm hn hi hci hft hcr ⟨fun h => (by rw [hal] at h; cases h), fun _ => Or.inr ⟨(g_c0_eq h0).1, fun o S' sg' hq => hq.1⟩⟩ hs fun o S' sg' hq => ?_
  obtain ⟨rfl, rfl, rfl⟩ := hq
  refine ⟨_, rfl, ?_⟩
  rw [(g_c0_eq h0).1, (g_c0_eq h0).2]
  exact kk
end GSD
/-! decode tables -/
def g_dc (b : ByteArray) : Nat → List (Instr × Nat) → Bool
  | _, [] => true
  | pc, x :: r => decide (decode b pc = .ok x) && g_dc b (pc + x.2) r
def g_pk : Nat → List (Instr × Nat) → Nat → Option (Nat × Instr × Nat)
  | _, [], _ => none
  | pc, x :: _, 0 => some (pc, x)
  | pc, x :: r, j + 1 => g_pk (pc + x.2) r j
theorem g_da {b : ByteArray} : ∀ {L : List (Instr × Nat)} {pc0 : Nat}, g_dc b pc0 L = true → ∀ (j : Nat) {pc : Nat} {x : Instr × Nat}, g_pk pc0 L j = some (pc, x) → decode b pc = .ok x := by
  intro L
  induction L with
  | nil => intro pc0 _ j pc x h; simp [g_pk] at h
  | cons y r ih =>
    intro pc0 h j pc x hp
    simp only [g_dc, Bool.and_eq_true, decide_eq_true_eq] at h
    cases j with
    | zero =>
      have e : some (pc0, y) = some (pc, x) := hp
      cases e
      exact h.1
    | succ j => exact ih h.2 j hp
