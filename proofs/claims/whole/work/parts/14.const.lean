/-! constants: texts and their bytes, CELL, COMPACT_STRINGS; copies of arrays; new cells -/
section GCN
variable {M N : gM} {Q : gO → List gH → gS → Prop} {Z : gZ} {sg : gS} {pc : Nat} {lv : List (Option Value)} {st : List Value} {q ci k idx n i : Nat} {fl : List gF}
theorem G_ldcS {tx : String} (hd : decode (g_b M) pc = .ok (.ldc idx, 2)) (hr : ((g_y M).cls, idx, tx, i) ∈ g_ldc) (kk : G M Q Z sg (pc + 2) lv (.ref (1000 + i) :: st)) : G M Q Z sg pc lv st :=
  fun p l e R s m args below meth c D A ad ca X H locs ls Y => va_ldcS X.1 X.2.1 X.2.2.2.2.1 (X.2.2.2.2.2.2.2.2.2.2.1.2.1 _ hr) hd (kk p l e R s m args below meth c D A ad ca X H locs ls Y)
theorem G_getSV (hd : decode (g_b M) pc = .ok (.getfield idx, 3)) (hi : i < g_nS) (hl : Cond.fieldLink (g_y M).cls idx "java/lang/String" "value" "[B" ∈ g_T) (kk : G M Q Z sg (pc + 3) lv (.ref (2000 + i) :: st)) : G M Q Z sg pc lv (.ref (1000 + i) :: st) :=
  fun p l e R s m args below meth c D A ad ca X H locs ls Y => vk_getf X.1 X.2.1 (X.2.2.2.2.2.2.2.2.2.2.1.1.1 i hi).2.2.1 Y.2.2.1 X.2.2.2.2.1 (X.2.2.2.2.2.2.1 _ hl) (fun _ h => h) hd (kk p l e R s m args below meth c D A ad ca X H locs ls Y)
theorem G_getSC (hd : decode (g_b M) pc = .ok (.getfield idx, 3)) (hi : i < g_nS) (hl : Cond.fieldLink (g_y M).cls idx "java/lang/String" "coder" "B" ∈ g_T) (kk : G M Q Z sg (pc + 3) lv (gi 0 :: st)) : G M Q Z sg pc lv (.ref (1000 + i) :: st) :=
  fun p l e R s m args below meth c D A ad ca X H locs ls Y => vk_getf X.1 X.2.1 (X.2.2.2.2.2.2.2.2.2.2.1.1.1 i hi).2.1 Y.2.2.1 X.2.2.2.2.1 (X.2.2.2.2.2.2.1 _ hl) (fun _ h => h) hd (kk p l e R s m args below meth c D A ad ca X H locs ls Y)
/-- a byte of a text -/
def g_by (i j : Nat) : Int := ((g_byt.getD i []).getD j 0).toInt
theorem G_bald {x a : Int} (hd : decode (g_b M) pc = .ok (.baload, 1)) (hi : i < g_nS) (ha : w32 x = a) (hx : 0 ≤ a ∧ a < ((g_len.getD i 0 : Nat) : Int)) (kk : G M Q Z sg (pc + 1) lv (gi (g_by i a.toNat) :: st)) : G M Q Z sg pc lv (gi x :: .ref (2000 + i) :: st) := by
  subst ha
  intro p l e R s m args below meth c D A ad ca X H locs ls Y
  refine va_tb (i := Int32.ofInt x) X.1 X.2.1 (X.2.2.2.2.2.2.2.2.2.2.1.1.1 i hi).2.2.2 Y.2.2.1 (w32_in.mpr hx) (v := gi (g_by i (w32 x).toNat)) ?_ hd (kk p l e R s m args below meth c D A ad ca X H locs ls Y)
  rw [w32_cl]
  exact gi_eq (Int32.ofInt_toInt _).symm
theorem G_blen {z : Int} (hd : decode (g_b M) pc = .ok (.arraylength, 1)) (hi : i < g_nS) (hz : Int32.ofNat (g_len.getD i 0) = Int32.ofInt z) (kk : G M Q Z sg (pc + 1) lv (gi z :: st)) : G M Q Z sg pc lv (.ref (2000 + i) :: st) :=
  fun p l e R s m args below meth c D A ad ca X H locs ls Y => va_tlen X.1 X.2.1 (X.2.2.2.2.2.2.2.2.2.2.1.1.1 i hi).2.2.2 Y.2.2.1 hz hd (kk p l e R s m args below meth c D A ad ca X H locs ls Y)
theorem G_compact (hd : decode (g_b M) pc = .ok (.getstatic idx, 3)) (hl : Cond.fieldLink (g_y M).cls idx "java/lang/String" "COMPACT_STRINGS" "Z" ∈ g_T) (kk : G M Q Z sg (pc + 3) lv (gi 1 :: st)) : G M Q Z sg pc lv st :=
  fun p l e R s m args below meth c D A ad ca X H locs ls Y => va_gets X.1 X.2.1 X.2.2.2.2.2.2.2.2.2.2.1.2.2.2.2.1 Y.2.2.1 X.2.2.2.2.1 (X.2.2.2.2.2.2.1 _ hl) (fun _ h => h) hd (kk p l e R s m args below meth c D A ad ca X H locs ls Y)
theorem G_cellS {host : String} (hd : decode (g_b M) pc = .ok (.getstatic idx, 3)) (hl : Cond.fieldLinkNest (g_y M).cls idx "BandPress" "CELL" "[I" host ∈ g_N) (kk : G M Q Z sg (pc + 3) lv (.ref 3000 :: st)) : G M Q Z sg pc lv st :=
  fun p l e R s m args below meth c D A ad ca X H locs ls Y => va_getsN X.1 X.2.1 X.2.2.2.2.2.2.2.2.2.2.1.2.2.1 Y.2.2.1 X.2.2.2.2.1 (va_Nw.use rfl (X.2.2.2.2.2.2.2.2.2.2.1.2.2.2.2.2.1 _ hl)) (fun _ h => h) hd (kk p l e R s m args below meth c D A ad ca X H locs ls Y)
def g_ce (j : Nat) : Int := (g_cell.getD j 0).toInt
theorem G_cald {x a : Int} (hd : decode (g_b M) pc = .ok (.iaload, 1)) (ha : w32 x = a) (hx : 0 ≤ a ∧ a < ((g_cellN : Nat) : Int)) (kk : G M Q Z sg (pc + 1) lv (gi (g_ce a.toNat) :: st)) : G M Q Z sg pc lv (gi x :: .ref 3000 :: st) := by
  subst ha
  intro p l e R s m args below meth c D A ad ca X H locs ls Y
  refine va_ti (i := Int32.ofInt x) X.1 X.2.1 X.2.2.2.2.2.2.2.2.2.2.1.2.2.2.1 Y.2.2.1 (w32_in.mpr hx) (v := gi (g_ce (w32 x).toNat)) ?_ hd (kk p l e R s m args below meth c D A ad ca X H locs ls Y)
  rw [w32_cl]
  exact gi_eq (Int32.ofInt_toInt _).symm
end GCN
section GCK
variable {M N : gM} {S : List gH} {sg : gS} {pc : Nat} {lv : List (Option Value)} {st : List Value} {Q Q' : gO → List gH → gS → Prop} {Qi : Int → gS → Prop} {as stk : List Value} {idx n c1 c2 i : Nat} {Z : gZ}
/-- a call on a text -/
theorem G_cK (hc : Ct N Z.1 (.ref (1000 + i) :: as) sg Q') (hd : decode (g_b M) pc = .ok (.invokevirtual idx, 3)) (hlk : Cond.methodLink (g_y M).cls idx (g_y N) ∈ g_T) (hm : g_mv N n) (hn : as.length = n) (hi : i < g_nS) (hci : (g_y N).cls = "java/lang/String")
    (hft : g_ft M N Z = true) (hcr : g_cr st = true) (hal : (g_a N = true → g_a M = true) ∧ (g_a M = true → g_z N = true ∨ ((g_m N).cells = 0 ∧ ∀ (o : gO) (S : List gH) (sg' : gS), Q' o S sg' → S = Z.1))) (hs : stk = as.reverse ++ .ref (1000 + i) :: st)
    (k : ∀ (o : gO) (S : List gH) (sg' : gS), Q' o S sg' → ∃ r : Option Value, o = .inl r ∧ G M Q (S, Z.2.1 + (g_m N).cells, Z.2.2 + (g_m N).slots) sg' (pc + 3) lv (r.toList ++ st)) : G M Q Z sg pc lv stk := by
  intro p l e R s m args below meth c D A ad ca X H locs ls Y
  subst hs
  have hst : (as.reverse ++ .ref (1000 + i) :: st).map (g_v ad) = (as.map (g_v ad)).reverse ++ .ref (ad (1000 + i)) :: st.map (g_v ad) := by simp [g_v]
  obtain ⟨hR1, hR2⟩ := g_bit (N := N) hft X.2.2.2.2.2.2.2.1
  have hts := X.2.2.2.2.2.2.1
  have hal2 : g_a N = true → g_a M = true := hal.1
  have hcell : ∃ cellB : Cell, H[ad (1000 + i)]? = some cellB ∧ cellB.vm.isStatics = false ∧ s.vm.findClass (g_y N).cls = some cellB.cls := by
    obtain ⟨cell, h1, h2, h3, h4⟩ := ((X.2.2.2.2.2.2.2.2.2.2.1.1.1 i hi).1).kept Y.2.2.1.2.1
    exact ⟨cell, h1, h2, by rw [hci]; exact h3⟩
  obtain ⟨⟨hini, hcode, hd2⟩, hinst, hsel⟩ := hm
  intro T hT X1
  have hpre : PreV s H (g_y N).cls (ad (1000 + i)) (va_Pc ((.ref (1000 + i) :: as).map (g_v ad)) (g_P D ad ca (g_a N) Z.1 sg H.size)) (as.map (g_v ad)) := ⟨g_blind, hcell, g_pre (as := .ref (1000 + i) :: as) X Y (fun ha => ⟨g_sz X Y hT X1 (hal2 ha), (Y.2.2.2.2 (hal2 ha)).2.1⟩)⟩
  rw [hst]
  exact g_back (al := g_z N) X Y (fun ha => (hal.2 ha).imp (fun h => ⟨h, g_sz X Y hT X1 ha⟩) id) (va_runV (As := as.map (g_v ad)) (rest := st.map (g_v ad)) (C := (g_y N).cls) ⟨X.1, X.2.1, X.2.2.2.1, X.2.2.2.2.1, hts⟩ (hc l D ad ca H.size X.2.2.2.2.2.2.2.2.2.2.2.2.2.2.2.1) ⟨callB_of n hts (g_goodIn hcode) rfl rfl rfl (hts _ hini) (hts _ hlk) hd2 hR1, hts _ hinst, hts _ hsel⟩ hpre rfl (by simpa using hn) Y.2.2.2.1.1 rfl (g_cr_ok ad hcr) hd hR2) k T hT X1
end GCK
/-- a part of an array is copied into an array -/
def g_cp (sg : gS) (a b sp dp n : Nat) : gS := fun i j => if i = b ∧ dp ≤ j ∧ j < dp + n then sg a (sp + (j - dp)) else sg i j
theorem g_cp_ne {sg : gS} {a b sp dp n i : Nat} (h : i ≠ b) : g_cp sg a b sp dp n i = sg i := by
  funext j
  simp [g_cp, h]
section GAC
variable {M N : gM} {Q : gO → List gH → gS → Prop} {Z : gZ} {sg : gS} {pc : Nat} {lv : List (Option Value)} {st : List Value} {a b idx n0 n1 : Nat} {x y n sp dp nn : Int}
def g_cw (own : String) (idx : Nat) : Prop := Cond.methodLink own idx arraycopyName ∈ g_T ∧ Cond.native arraycopyName ∈ g_T ∧ Cond.static arraycopyName ∈ g_T ∧ Cond.initialized "java/lang/System" ∈ g_T
def g_acr (M : gM) (st : List Value) : Bool := decide (1 ≤ (g_m M).frames) && decide ((st.map fun v => v.category).sum + (nativeFrameWords "java/lang/System" "arraycopy" 5 + 11) ≤ (g_m M).locals)
theorem g_acr_ok {R : Room} (ad : Nat → Nat) (h : g_acr M st = true) (hR : R = g_m M) : 1 ≤ R.frames ∧ ((st.map (g_v ad)).map fun v => v.category).sum + (nativeFrameWords "java/lang/System" "arraycopy" 5 + 11) ≤ R.locals := by
  subst hR
  have e : ((st.map (g_v ad)).map fun v => v.category) = st.map fun v => v.category := by
    rw [List.map_map]
    exact List.map_congr_left fun v _ => g_v_cat ad v
  rw [e]
  simpa [g_acr] using h
theorem g_cp_i (sg : gS) (a b sp dp n : Nat) : va_cpy (fun j => Int32.ofInt (sg a j)) (fun j => Int32.ofInt (sg b j)) sp dp n = fun j => Int32.ofInt (g_cp sg a b sp dp n b j) := by
  funext j
  simp only [va_cpy, g_cp, true_and]
  split <;> rfl
theorem g_cp_l (sg : gS) (a b sp dp n : Nat) : va_cpy (fun j => Int64.ofInt (sg a j)) (fun j => Int64.ofInt (sg b j)) sp dp n = fun j => Int64.ofInt (g_cp sg a b sp dp n b j) := by
  funext j
  simp only [va_cpy, g_cp, true_and]
  split <;> rfl
theorem w32_nn {z : Int} (h : 0 ≤ w32 z) : ¬ Int32.ofInt z < 0 := fun q => by have := w32_l0.mp q; omega
theorem G_copyI (hd : decode (g_b M) pc = .ok (.invokestatic idx, 3)) (hw : g_cw (g_y M).cls idx) (hS0 : Z.1[a]? = some (.inl (0, n0))) (hS1 : Z.1[b]? = some (.inl (0, n1))) (hr : g_acr M st = true) (hsp : w32 x = sp) (hdp : w32 y = dp) (hnn : w32 n = nn) (h1 : 0 ≤ sp ∧ 0 ≤ dp ∧ 0 ≤ nn ∧ sp + nn ≤ n0 ∧ dp + nn ≤ n1)
    (kk : G M Q Z (g_cp sg a b sp.toNat dp.toNat nn.toNat) (pc + 3) lv st) : G M Q Z sg pc lv (gi n :: gi y :: .ref b :: gi x :: .ref a :: st) := by
  subst hsp hdp hnn
  intro p l e R s m args below meth c D A ad ca X H locs ls Y
  have hts := X.2.2.2.2.2.2.1
  obtain ⟨r1, r2⟩ := g_acr_ok ad hr X.2.2.2.2.2.2.2.1
  obtain ⟨g1, g2, g3, g4, g5⟩ := h1
  refine va_copyi (sp := Int32.ofInt x) (dp := Int32.ofInt y) (n := Int32.ofInt n) (ty := .int) (rest := st.map (g_v ad)) X.1 X.2.1 (X.2.2.2.1.trans Y.2.2.2.1.1.symm) X.2.2.2.2.1 (hts _ hw.1) (hts _ hw.2.1) (hts _ hw.2.2.1) (hts _ hw.2.2.2) X.2.2.2.2.2.2.2.2.1 Y.1 Y.2.1 Y.2.2.1 a b 0 0 (g_w_get hS0) (g_w_get hS1) rfl rfl rfl (w32_nn g1) (w32_nn g2) (w32_nn g3) (by rw [w32_cl, w32_cl]; omega) (by rw [w32_cl, w32_cl]; omega) (fun j hj => rfl) r1 r2 hd fun H1 locs1 k1 k2 k3 => ?_
  rw [w32_cl, w32_cl, w32_cl, g_cp_i] at k1 k2
  have ew := g_w_up (ad := ad) (ca := ca) (sg' := g_cp sg a b (w32 x).toNat (w32 y).toNat (w32 n).toNat) hS1 (fun j hj => g_cp_ne hj)
  exact kk p l e R s m args below meth c D A ad ca X H1 locs1 ls ⟨ew ▸ k1, ew ▸ k2, k3, Y.2.2.2.1, Y.2.2.2.2⟩
theorem G_copyL (hd : decode (g_b M) pc = .ok (.invokestatic idx, 3)) (hw : g_cw (g_y M).cls idx) (hS0 : Z.1[a]? = some (.inl (3, n0))) (hS1 : Z.1[b]? = some (.inl (3, n1))) (hr : g_acr M st = true) (hsp : w32 x = sp) (hdp : w32 y = dp) (hnn : w32 n = nn) (h1 : 0 ≤ sp ∧ 0 ≤ dp ∧ 0 ≤ nn ∧ sp + nn ≤ n0 ∧ dp + nn ≤ n1)
    (kk : G M Q Z (g_cp sg a b sp.toNat dp.toNat nn.toNat) (pc + 3) lv st) : G M Q Z sg pc lv (gi n :: gi y :: .ref b :: gi x :: .ref a :: st) := by
  subst hsp hdp hnn
  intro p l e R s m args below meth c D A ad ca X H locs ls Y
  have hts := X.2.2.2.2.2.2.1
  obtain ⟨r1, r2⟩ := g_acr_ok ad hr X.2.2.2.2.2.2.2.1
  obtain ⟨g1, g2, g3, g4, g5⟩ := h1
  refine va_copyl (sp := Int32.ofInt x) (dp := Int32.ofInt y) (n := Int32.ofInt n) (ty := .long) (rest := st.map (g_v ad)) X.1 X.2.1 (X.2.2.2.1.trans Y.2.2.2.1.1.symm) X.2.2.2.2.1 (hts _ hw.1) (hts _ hw.2.1) (hts _ hw.2.2.1) (hts _ hw.2.2.2) X.2.2.2.2.2.2.2.2.1 Y.1 Y.2.1 Y.2.2.1 a b 3 3 (g_w_get hS0) (g_w_get hS1) rfl rfl rfl (w32_nn g1) (w32_nn g2) (w32_nn g3) (by rw [w32_cl, w32_cl]; omega) (by rw [w32_cl, w32_cl]; omega) (fun j hj => rfl) r1 r2 hd fun H1 locs1 k1 k2 k3 => ?_
  rw [w32_cl, w32_cl, w32_cl, g_cp_l] at k1 k2
  have ew := g_w_up (ad := ad) (ca := ca) (sg' := g_cp sg a b (w32 x).toNat (w32 y).toNat (w32 n).toNat) hS1 (fun j hj => g_cp_ne hj)
  exact kk p l e R s m args below meth c D A ad ca X H1 locs1 ls ⟨ew ▸ k1, ew ▸ k2, k3, Y.2.2.2.1, Y.2.2.2.2⟩
end GAC
