/-! fields, arrays, new cells, constants, returns -/
def g_fl (own : String) (idx ci k : Nat) : Prop := ∃ (C : String) (T : u_T) (N : Nat), g_cl[ci]? = some (C, T, N) ∧ k < N ∧ (Cond.fieldLink own idx (T k).1 (T k).2.1 (T k).2.2.1 ∈ g_T ∨ ∃ h : String, Cond.fieldLinkNest own idx (T k).1 (T k).2.1 (T k).2.2.1 h ∈ g_N)
def g_fp (own : String) (idx ci k : Nat) (fin : Bool) (ty : FieldType) : Prop := ∃ (C : String) (T : u_T) (N : Nat), g_cl[ci]? = some (C, T, N) ∧ k < N ∧ (T k).2.2.2 = fin ∧ parseFieldDescriptor (T k).2.2.1 = some ty ∧ (Cond.fieldLink own idx (T k).1 (T k).2.1 (T k).2.2.1 ∈ g_T ∨ ∃ h : String, Cond.fieldLinkNest own idx (T k).1 (T k).2.1 (T k).2.2.1 h ∈ g_N)
theorem g_len_w (ad ca : Nat → Nat) (S : List gH) (sg : gS) : (g_w ad ca S sg).length = S.length := by simp [g_w]
theorem g_w_push (ad ca : Nat → Nat) (S : List gH) (sg : gS) (sh : gH) : g_w ad ca (S ++ [sh]) (g_nw sg S.length) = g_w ad ca S sg ++ [(ad S.length, g_c ad ca (fun _ => 0) sh)] := by
  apply List.ext_getElem?
  intro i
  by_cases h : i < S.length
  · rw [List.getElem?_append_left (by rw [g_len_w]; exact h)]
    simp only [g_w, List.getElem?_mapIdx, List.getElem?_append_left h]
    have e : g_nw sg S.length i = sg i := by
      funext j
      simp [g_nw, Nat.ne_of_lt h]
    rw [e]
  · by_cases h2 : i = S.length
    · subst h2
      rw [List.getElem?_append_right (by rw [g_len_w]; exact Nat.le_refl _), g_len_w]
      have e : g_nw sg S.length S.length = fun _ => 0 := by
        funext j
        simp [g_nw]
      simp [g_w, List.getElem?_mapIdx, e]
    · rw [List.getElem?_eq_none (by simp [g_len_w]; omega), List.getElem?_eq_none (by simp [g_len_w]; omega)]
theorem g_w_ref {ad ca : Nat → Nat} {S : List gH} {sg : gS} {q k ci r : Nat} {fl : List gF} (hS : S[q]? = some (.inr (ci, fl))) (hk : k < fl.length) :
    (g_w ad ca S sg).set q (ad q, .inr (ci, (fl.mapIdx (g_fv ad (sg q))).set k (.ref (ad r)))) = g_w ad ca (S.set q (.inr (ci, fl.set k (some (some r))))) sg := by
  have hq := (List.getElem?_eq_some_iff.mp hS).1
  apply List.ext_getElem?
  intro i
  by_cases hi : i = q
  · subst hi
    rw [List.getElem?_set_self (by rw [g_len_w]; exact hq), g_w_get (List.getElem?_set_self hq)]
    show _ = some (ad i, Sum.inr (ci, (fl.set k (some (some r))).mapIdx (g_fv ad (sg i))))
    congr 4
    apply List.ext_getElem?
    intro j
    by_cases hj : j = k
    · subst hj
      rw [List.getElem?_set_self (by simpa using hk), List.getElem?_mapIdx, List.getElem?_set_self hk]
      rfl
    · rw [List.getElem?_set_ne (fun e => hj e.symm), List.getElem?_mapIdx, List.getElem?_mapIdx, List.getElem?_set_ne (fun e => hj e.symm)]
  · rw [List.getElem?_set_ne (fun e => hi e.symm)]
    simp only [g_w, List.getElem?_mapIdx, List.getElem?_set_ne (fun e => hi e.symm)]
section GHP
variable {M : gM} {Q : gO → List gH → gS → Prop} {Z : gZ} {sg : gS} {pc : Nat} {lv : List (Option Value)} {st : List Value} {q ci k idx n : Nat} {fl : List gF}
theorem G_get {v : Value} (hd : decode (g_b M) pc = .ok (.getfield idx, 3)) (hS : Z.1[q]? = some (.inr (ci, fl))) (hl : g_fl (g_y M).cls idx ci k) {f : gF} (hf : fl[k]? = some f) (hv : ∀ ad : Nat → Nat, g_fv ad (sg q) k f = g_v ad v) (kk : G M Q Z sg (pc + 3) lv (v :: st)) : G M Q Z sg pc lv (.ref q :: st) := by
  intro p l e R s m args below meth c D A ad ca X H locs ls Y
  obtain ⟨C, T, N, hc, hk, hl⟩ := hl
  have hv2 : (fl.mapIdx (g_fv ad (sg q)))[k]? = some (g_v ad v) := by
    rw [List.getElem?_mapIdx, hf, Option.map_some, hv ad]
  have kw := kk p l e R s m args below meth c D A ad ca X H locs ls Y
  rcases hl with hl | ⟨h, hl⟩
  · exact va_get X.1 X.2.1 X.2.2.2.2.2.2.1 (g_clw hc) X.2.2.2.2.1 X.2.2.2.2.2.2.2.2.1 Y.1 q (g_w_get hS) hc k hk (X.2.2.2.2.2.2.1 _ hl) (fun _ h => h) hv2 hd kw
  · exact va_getN X.1 X.2.1 X.2.2.2.2.2.2.1 (g_clw hc) X.2.2.2.2.1 X.2.2.2.2.2.2.2.2.1 Y.1 q (g_w_get hS) hc k hk (va_Nw.use rfl (X.2.2.2.2.2.2.2.2.2.2.1.2.2.2.2.2.1 _ hl)) (fun _ h => h) hv2 hd kw
theorem G_getI (hd : decode (g_b M) pc = .ok (.getfield idx, 3)) (hS : Z.1[q]? = some (.inr (ci, fl))) (hl : g_fl (g_y M).cls idx ci k) (hf : fl[k]? = some none) (kk : G M Q Z sg (pc + 3) lv (gi (sg q k) :: st)) : G M Q Z sg pc lv (.ref q :: st) :=
  G_get hd hS hl hf (fun _ => rfl) kk
theorem G_getR {r : Nat} (hd : decode (g_b M) pc = .ok (.getfield idx, 3)) (hS : Z.1[q]? = some (.inr (ci, fl))) (hl : g_fl (g_y M).cls idx ci k) (hf : fl[k]? = some (some (some r))) (kk : G M Q Z sg (pc + 3) lv (.ref r :: st)) : G M Q Z sg pc lv (.ref q :: st) :=
  G_get hd hS hl hf (fun _ => rfl) kk
theorem G_put {z : Int} {ty : FieldType} (hd : decode (g_b M) pc = .ok (.putfield idx, 3)) (hS : Z.1[q]? = some (.inr (ci, fl))) (hl : g_fp (g_y M).cls idx ci k false ty) (hf : fl[k]? = some none) (hn : narrow ty (gi z) = gi z) (hfit : fits ty (gi z) = true) (kk : G M Q Z (g_up sg q k z) (pc + 3) lv st) : G M Q Z sg pc lv (gi z :: .ref q :: st) := by
  intro p l e R s m args below meth c D A ad ca X H locs ls Y
  obtain ⟨C, T, N, hc, hk, hfin, hty, hl⟩ := hl
  obtain ⟨ty0, hty0⟩ := g_clt hc
  have hlen : k < (fl.mapIdx (g_fv ad (sg q))).length := by simpa using (List.getElem?_eq_some_iff.mp hf).1
  have ew : (g_w ad ca Z.1 sg).set q (ad q, .inr (ci, (fl.mapIdx (g_fv ad (sg q))).set k (gi z))) = g_w ad ca Z.1 (g_up sg q k z) := by
    rw [g_fs_set hf]
    exact g_w_up (sh := .inr (ci, fl)) hS (fun j hj => g_up_ne hj)
  have kw : ∀ (H1 : Heap) (locs1 : List Loc), va_P D g_cl ((g_w ad ca Z.1 sg).set q (ad q, .inr (ci, (fl.mapIdx (g_fv ad (sg q))).set k (gi z)))) H1 → va_D A ((g_w ad ca Z.1 sg).set q (ad q, .inr (ci, (fl.mapIdx (g_fv ad (sg q))).set k (gi z)))) → va_S A s.heap H1 locs1 → W p l e R s m args below meth c H1 locs1 Z.2.1 Z.2.2 (gMQ below (g_Q D A ad ca (g_z M) (g_m M).cells Q) args s (g_m M).cells (g_m M).slots A) (F0 m (pc + 3) ls (st.map (g_v ad))) := by
    intro H1 locs1 h1 h2 h3
    rw [ew] at h1 h2
    exact kk p l e R s m args below meth c D A ad ca X H1 locs1 ls ⟨h1, h2, h3, Y.2.2.2.1, Y.2.2.2.2⟩
  rcases hl with hl | ⟨h, hl⟩
  · exact va_put X.1 X.2.1 X.2.2.2.2.2.2.1 (g_clw hc) ty0 hty0 (g_cln hc) X.2.2.2.2.1 X.2.2.2.2.2.2.2.2.1 Y.1 Y.2.1 Y.2.2.1 q (g_w_get hS) hc k hk (X.2.2.2.2.2.2.1 _ hl) (fun _ h => h) hfin hty hn hfit hlen hd kw
  · exact va_putN X.1 X.2.1 X.2.2.2.2.2.2.1 (g_clw hc) ty0 hty0 (g_cln hc) X.2.2.2.2.1 X.2.2.2.2.2.2.2.2.1 Y.1 Y.2.1 Y.2.2.1 q (g_w_get hS) hc k hk (va_Nw.use rfl (X.2.2.2.2.2.2.2.2.2.2.1.2.2.2.2.2.1 _ hl)) (fun _ h => h) hfin hty hn hfit hlen hd kw
theorem G_putI {z : Int} (hd : decode (g_b M) pc = .ok (.putfield idx, 3)) (hS : Z.1[q]? = some (.inr (ci, fl))) (hl : g_fp (g_y M).cls idx ci k false .int) (hf : fl[k]? = some none) (kk : G M Q Z (g_up sg q k z) (pc + 3) lv st) : G M Q Z sg pc lv (gi z :: .ref q :: st) :=
  G_put hd hS hl hf rfl rfl kk
theorem g_bool {z : Int} (hz : w32 z = 0 ∨ w32 z = 1) : narrow .boolean (gi z) = gi z ∧ fits .boolean (gi z) = true := by
  rcases hz with h | h
  · rw [show gi z = gi 0 by rw [gi, gi, w32_eq.mpr (h.trans (show (0 : Int) = w32 0 by decide))]]
    exact ⟨by decide, by decide⟩
  · rw [show gi z = gi 1 by rw [gi, gi, w32_eq.mpr (h.trans (show (1 : Int) = w32 1 by decide))]]
    exact ⟨by decide, by decide⟩
theorem G_putZ {z : Int} (hd : decode (g_b M) pc = .ok (.putfield idx, 3)) (hS : Z.1[q]? = some (.inr (ci, fl))) (hl : g_fp (g_y M).cls idx ci k false .boolean) (hf : fl[k]? = some none) (hz : w32 z = 0 ∨ w32 z = 1) (kk : G M Q Z (g_up sg q k z) (pc + 3) lv st) : G M Q Z sg pc lv (gi z :: .ref q :: st) :=
  G_put hd hS hl hf (g_bool hz).1 (g_bool hz).2 kk
/-- a constructor sets a final reference -/
theorem G_putR {r : Nat} {ty : FieldType} (hd : decode (g_b M) pc = .ok (.putfield idx, 3)) (hS : Z.1[q]? = some (.inr (ci, fl))) (hl : g_fp (g_y M).cls idx ci k true ty) (hi : (g_y M).name = "<init>") (hc : (g_cl[ci]?).map (fun x => (x.2.1 k).1) = some (g_y M).cls) (hn : ∀ a : Nat, narrow ty (.ref a) = .ref a) (hfit : ∀ a : Nat, fits ty (.ref a) = true) (hk : k < fl.length) (hlk : ∀ C T N, g_cl[ci]? = some (C, T, N) → Cond.fieldLink (g_y M).cls idx (T k).1 (T k).2.1 (T k).2.2.1 ∈ g_T)
    (kk : G M Q (Z.1.set q (.inr (ci, fl.set k (some (some r)))), Z.2.1, Z.2.2) sg (pc + 3) lv st) : G M Q Z sg pc lv (.ref r :: .ref q :: st) := by
  intro p l e R s m args below meth c D A ad ca X H locs ls Y
  obtain ⟨C, T, N, hc2, hk2, hfin, hty, -⟩ := hl
  obtain ⟨ty0, hty0⟩ := g_clt hc2
  have hown : (T k).1 = (g_y M).cls := by
    rw [hc2] at hc
    simpa using hc
  have hlen : k < (fl.mapIdx (g_fv ad (sg q))).length := by simpa using hk
  refine va_putF X.1 X.2.1 X.2.2.2.2.2.2.1 (g_clw hc2) ty0 hty0 (g_cln hc2) X.2.2.2.2.1 X.2.2.2.2.2.2.2.2.1 Y.1 Y.2.1 Y.2.2.1 q (g_w_get hS) hc2 k hk2 (X.2.2.2.2.2.2.1 _ (hlk C T N hc2)) (fun _ h => h) hfin (X.2.2.2.2.2.2.2.2.2.2.2.1.trans hi) hown hty (hn (ad r)) (hfit (ad r)) hlen hd fun H1 locs1 h1 h2 h3 => ?_
  rw [show g_v ad (.ref r) = .ref (ad r) from rfl, g_w_ref hS hk] at h1 h2
  refine kk p l e R s m args below meth c D A ad ca X H1 locs1 ls ⟨h1, h2, h3, Y.2.2.2.1, fun ha => ?_⟩
  obtain ⟨a1, a2, a3⟩ := Y.2.2.2.2 ha
  refine ⟨by simpa using a1, by simpa using a2, fun h => a3 ?_⟩
  have : (Z.1.set q (.inr (ci, fl.set k (some (some r))))).length = 0 := by
    have h2 : Z.1.set q (.inr (ci, fl.set k (some (some r)))) = [] := h
    rw [h2]
    rfl
  exact List.length_eq_zero_iff.mp (by simpa using this)
theorem G_iaload {i a : Int} (hd : decode (g_b M) pc = .ok (.iaload, 1)) (hS : Z.1[q]? = some (.inl (0, n))) (ha : w32 i = a) (hi : 0 ≤ a ∧ a < (n : Int)) (kk : G M Q Z sg (pc + 1) lv (gi (sg q a.toNat) :: st)) : G M Q Z sg pc lv (gi i :: .ref q :: st) := by
  subst ha
  intro p l e R s m args below meth c D A ad ca X H locs ls Y
  refine va_iald (i := Int32.ofInt i) X.1 X.2.1 X.2.2.2.2.2.2.2.2.1 Y.1 q 0 (g_w_get hS) rfl (w32_in.mpr hi) hd ?_
  rw [w32_cl]
  exact kk p l e R s m args below meth c D A ad ca X H locs ls Y
theorem G_zaload {i a : Int} (hd : decode (g_b M) pc = .ok (.baload, 1)) (hS : Z.1[q]? = some (.inl (1, n))) (ha : w32 i = a) (hi : 0 ≤ a ∧ a < (n : Int)) (kk : G M Q Z sg (pc + 1) lv (gi (sg q a.toNat) :: st)) : G M Q Z sg pc lv (gi i :: .ref q :: st) := by
  subst ha
  intro p l e R s m args below meth c D A ad ca X H locs ls Y
  refine va_zald (i := Int32.ofInt i) X.1 X.2.1 X.2.2.2.2.2.2.2.2.1 Y.1 q 1 (g_w_get hS) rfl (w32_in.mpr hi) hd ?_
  rw [w32_cl]
  exact kk p l e R s m args below meth c D A ad ca X H locs ls Y
theorem G_laload {i a : Int} (hd : decode (g_b M) pc = .ok (.laload, 1)) (hS : Z.1[q]? = some (.inl (3, n))) (ha : w32 i = a) (hi : 0 ≤ a ∧ a < (n : Int)) (kk : G M Q Z sg (pc + 1) lv (gl (sg q a.toNat) :: st)) : G M Q Z sg pc lv (gi i :: .ref q :: st) := by
  subst ha
  intro p l e R s m args below meth c D A ad ca X H locs ls Y
  refine va_lald (i := Int32.ofInt i) X.1 X.2.1 X.2.2.2.2.2.2.2.2.1 Y.1 q 3 (g_w_get hS) rfl (w32_in.mpr hi) hd ?_
  rw [w32_cl]
  exact kk p l e R s m args below meth c D A ad ca X H locs ls Y
theorem G_iastore {i a z : Int} (hd : decode (g_b M) pc = .ok (.iastore, 1)) (hS : Z.1[q]? = some (.inl (0, n))) (ha : w32 i = a) (hi : 0 ≤ a ∧ a < (n : Int)) (kk : G M Q Z (g_up sg q a.toNat (z)) (pc + 1) lv st) : G M Q Z sg pc lv (gi z :: gi i :: .ref q :: st) := by
  subst ha
  intro p l e R s m args below meth c D A ad ca X H locs ls Y
  refine va_iast (i := Int32.ofInt i) (x := Int32.ofInt z) X.1 X.2.1 X.2.2.2.2.2.2.2.2.1 Y.1 Y.2.1 Y.2.2.1 q 0 (g_w_get hS) rfl (w32_in.mpr hi) hd fun H1 locs1 h1 h2 h3 => ?_
  rw [w32_cl, g_up_i] at h1 h2
  have ew := g_w_up (ad := ad) (ca := ca) (sg' := g_up sg q (w32 i).toNat (z)) hS (fun j hj => g_up_ne hj)
  exact kk p l e R s m args below meth c D A ad ca X H1 locs1 ls ⟨ew ▸ h1, ew ▸ h2, h3, Y.2.2.2.1, Y.2.2.2.2⟩
theorem G_zastore {i a z : Int} (hd : decode (g_b M) pc = .ok (.bastore, 1)) (hS : Z.1[q]? = some (.inl (1, n))) (ha : w32 i = a) (hi : 0 ≤ a ∧ a < (n : Int)) (kk : G M Q Z (g_up sg q a.toNat (i_nar .boolean z)) (pc + 1) lv st) : G M Q Z sg pc lv (gi z :: gi i :: .ref q :: st) := by
  subst ha
  intro p l e R s m args below meth c D A ad ca X H locs ls Y
  have ez : vp_nar .boolean (Int32.ofInt z) = Int32.ofInt (i_nar .boolean z) := (Int32.ofInt_toInt _).symm
  refine va_zast (i := Int32.ofInt i) (x := Int32.ofInt z) X.1 X.2.1 X.2.2.2.2.2.2.2.2.1 Y.1 Y.2.1 Y.2.2.1 q 1 (g_w_get hS) rfl (w32_in.mpr hi) hd fun H1 locs1 h1 h2 h3 => ?_
  rw [w32_cl, ez, g_up_i] at h1 h2
  have ew := g_w_up (ad := ad) (ca := ca) (sg' := g_up sg q (w32 i).toNat (i_nar .boolean z)) hS (fun j hj => g_up_ne hj)
  exact kk p l e R s m args below meth c D A ad ca X H1 locs1 ls ⟨ew ▸ h1, ew ▸ h2, h3, Y.2.2.2.1, Y.2.2.2.2⟩
theorem G_lastore {i a z : Int} (hd : decode (g_b M) pc = .ok (.lastore, 1)) (hS : Z.1[q]? = some (.inl (3, n))) (ha : w32 i = a) (hi : 0 ≤ a ∧ a < (n : Int)) (kk : G M Q Z (g_up sg q a.toNat z) (pc + 1) lv st) : G M Q Z sg pc lv (gl z :: gi i :: .ref q :: st) := by
  subst ha
  intro p l e R s m args below meth c D A ad ca X H locs ls Y
  refine va_last (i := Int32.ofInt i) (x := Int64.ofInt z) X.1 X.2.1 X.2.2.2.2.2.2.2.2.1 Y.1 Y.2.1 Y.2.2.1 q 3 (g_w_get hS) rfl (w32_in.mpr hi) hd fun H1 locs1 h1 h2 h3 => ?_
  rw [w32_cl, g_up_l] at h1 h2
  have ew := g_w_up (ad := ad) (ca := ca) (sg' := g_up sg q (w32 i).toNat z) hS (fun j hj => g_up_ne hj)
  exact kk p l e R s m args below meth c D A ad ca X H1 locs1 ls ⟨ew ▸ h1, ew ▸ h2, h3, Y.2.2.2.1, Y.2.2.2.2⟩
theorem G_alen {t : Nat} {z : Int} (hd : decode (g_b M) pc = .ok (.arraylength, 1)) (hS : Z.1[q]? = some (.inl (t, n))) (ht : t < 4) (hz : Int32.ofNat n = Int32.ofInt z) (kk : G M Q Z sg (pc + 1) lv (gi z :: st)) : G M Q Z sg pc lv (.ref q :: st) := by
  intro p l e R s m args below meth c D A ad ca X H locs ls Y
  have kw := kk p l e R s m args below meth c D A ad ca X H locs ls Y
  rcases (show t = 0 ∨ t = 1 ∨ t = 2 ∨ t = 3 by omega) with rfl | rfl | rfl | rfl
  · exact va_alen X.1 X.2.1 X.2.2.2.2.2.2.2.2.1 Y.1 q 0 (g_w_get hS) (ty := .int) rfl hz hd kw
  · exact va_alen X.1 X.2.1 X.2.2.2.2.2.2.2.2.1 Y.1 q 1 (g_w_get hS) (ty := .boolean) rfl hz hd kw
  · exact va_alen X.1 X.2.1 X.2.2.2.2.2.2.2.2.1 Y.1 q 2 (g_w_get hS) (ty := .byte) rfl hz hd kw
  · exact va_alen X.1 X.2.1 X.2.2.2.2.2.2.2.2.1 Y.1 q 3 (g_w_get hS) (ty := .long) rfl hz hd kw
/-- the end -/
theorem g_end {p : Program} {s : State} {m : MethodId} {args : Array Value} {meth : Method} {c : Code} {R : Room} {D : va_G} {A : Nat → Prop} {ad ca : Nat → Nat} {H : Heap} {locs : List Loc} {ls : Array Slot} {o : gO} {oc : Outcome} {t : State} (Y : g_Y s D A ad ca M Z sg lv H locs ls) (hc : Z.2.1 = (g_m M).cells) (h0 : g_z M = true → g_a M = true ∧ Z.1 ≠ []) (hE : g_E ad o oc t) (hq : Q o Z.1 sg) (ht : t.heap = H) : g_Q D A ad ca (g_z M) (g_m M).cells Q args s oc t :=
  ⟨⟨o, Z.1, sg, hE, hq, by rw [ht]; exact Y.1, Y.2.1, fun ha => by rw [← hc]; exact ⟨(Y.2.2.2.2 (h0 ha).1).1, (Y.2.2.2.2 (h0 ha).1).2.1, (h0 ha).2⟩⟩, Y.2.2.1.F ht⟩
theorem G_ireturn {z : Int} {ty : FieldType} (hd : decode (g_b M) pc = .ok (.ireturn, 1)) (hr : g_r M = some ty) (hn : narrow ty (gi z) = gi z) (hc : Z.2 = ((g_m M).cells, (g_m M).slots)) (h0 : g_z M = true → g_a M = true ∧ Z.1 ≠ []) (hq : Q (.inl (some (gi z))) Z.1 sg) : G M Q Z sg pc lv [gi z] := by
  intro p l e R s m args below meth c D A ad ca X H locs ls Y
  have e1 : Z.2.1 = (g_m M).cells := by rw [hc]
  have e2 : Z.2.2 = (g_m M).slots := by rw [hc]
  rw [e1, e2]
  exact g_post (fun t ht => gMQ_of ht) (W.zret (v := Int32.ofInt z) X.1 X.2.1 (X.2.2.1.trans hr) hn (fun t ht hW => g_end (o := .inl (some (gi z))) (p := p) (m := m) (meth := meth) (c := c) (R := R) Y e1 h0 rfl hq ht) Y.2.2.1.2.2 hd X.2.2.2.2.2.1)
theorem G_lreturn {z : Int} (hd : decode (g_b M) pc = .ok (.lreturn, 1)) (hr : g_r M = some .long) (hc : Z.2 = ((g_m M).cells, (g_m M).slots)) (h0 : g_z M = true → g_a M = true ∧ Z.1 ≠ []) (hq : Q (.inl (some (gl z))) Z.1 sg) : G M Q Z sg pc lv [gl z] := by
  intro p l e R s m args below meth c D A ad ca X H locs ls Y
  have e1 : Z.2.1 = (g_m M).cells := by rw [hc]
  have e2 : Z.2.2 = (g_m M).slots := by rw [hc]
  rw [e1, e2]
  exact g_post (fun t ht => gMQ_of ht) (W.lret (v := Int64.ofInt z) X.1 X.2.1 (X.2.2.1.trans hr) (fun t ht hW => g_end (o := .inl (some (gl z))) (p := p) (m := m) (meth := meth) (c := c) (R := R) Y e1 h0 rfl hq ht) Y.2.2.1.2.2 hd X.2.2.2.2.2.1)
theorem G_return (hd : decode (g_b M) pc = .ok (.return_, 1)) (hr : g_r M = none) (hc : Z.2 = ((g_m M).cells, (g_m M).slots)) (h0 : g_z M = true → g_a M = true ∧ Z.1 ≠ []) (hq : Q (.inl none) Z.1 sg) : G M Q Z sg pc lv [] := by
  intro p l e R s m args below meth c D A ad ca X H locs ls Y
  have e1 : Z.2.1 = (g_m M).cells := by rw [hc]
  have e2 : Z.2.2 = (g_m M).slots := by rw [hc]
  rw [e1, e2]
  exact g_post (fun t ht => gMQ_of ht) (W.vret X.1 X.2.1 (X.2.2.1.trans hr) (fun t ht hW => g_end (o := .inl none) (p := p) (m := m) (meth := meth) (c := c) (R := R) Y e1 h0 rfl hq ht) Y.2.2.1.2.2 hd X.2.2.2.2.2.1)
/-- a reference that is a constant or the world's goes back -/
theorem G_areturn {r : Nat} {rt : FieldType} (hd : decode (g_b M) pc = .ok (.areturn, 1)) (hr : g_r M = some rt) (hrt : (∃ n, rt = .object n) ∨ ∃ t, rt = .array t) (hc : Z.2 = ((g_m M).cells, (g_m M).slots)) (h0 : g_z M = true → g_a M = true ∧ Z.1 ≠ []) (hq : Q (.inl (some (.ref r))) Z.1 sg) : G M Q Z sg pc lv [.ref r] := by
  intro p l e R s m args below meth c D A ad ca X H locs ls Y
  have e1 : Z.2.1 = (g_m M).cells := by rw [hc]
  have e2 : Z.2.2 = (g_m M).slots := by rw [hc]
  rw [e1, e2]
  exact g_post (fun t ht => gMQ_of ht) (W.aret (v := .ref (ad r)) X.1 X.2.1 (X.2.2.1.trans hr) hrt (Or.inr ⟨_, rfl⟩) (fun t ht hW => g_end (o := .inl (some (.ref r))) (p := p) (m := m) (meth := meth) (c := c) (R := R) Y e1 h0 rfl hq ht) Y.2.2.1.2.2 hd X.2.2.2.2.2.1)
end GHP
