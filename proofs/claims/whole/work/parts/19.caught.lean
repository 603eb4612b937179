/-! a call whose exception the method itself catches -/
theorem g_setU {ls : Array Slot} {n i : Nat} {ad : Nat → Nat} {lv : List (Option Value)} {w : Value} (hn : g_nl lv i = true)
    (h : lv_has ls n ((i, w) :: (g_lq ad lv).filter (fun q => !(q.1 == i) && !(q.1 + 1 == i && q.2.category == 2)))) : lv_has ls n (g_lq ad (lv.set i none)) := by
  refine g_lw h fun q hq => ?_
  obtain ⟨u, h1, h2⟩ := g_lq_mem.mp hq
  have hi : q.1 ≠ i := by
    intro e
    rw [e] at h1
    have hlt : i < (lv.set i none).length := (List.getElem?_eq_some_iff.mp h1).1
    rw [List.getElem?_set_self (by simpa using hlt)] at h1
    simp at h1
  rw [List.getElem?_set_ne (fun e => hi e.symm)] at h1
  refine List.mem_cons.mpr (Or.inr (List.mem_filter.mpr ⟨g_lq_mem.mpr ⟨u, h1, h2⟩, ?_⟩))
  have hc : ¬ (q.1 + 1 = i ∧ q.2.category = 2) := by
    rintro ⟨e, hc⟩
    subst e
    have := g_nl_cat hn h1
    rw [h2, g_v_cat, this] at hc
    omega
  simp only [Bool.and_eq_true, Bool.not_eq_true', beq_eq_false_iff_ne, ne_eq, Bool.and_eq_false_iff]
  refine ⟨hi, ?_⟩
  by_cases e : q.1 + 1 = i
  · exact Or.inr fun z => hc ⟨e, z⟩
  · exact Or.inl e
/-- the search through the handlers hh, from pc, ends at h for an exception of kind k -/
def g_ct (own : String) (pc k h : Nat) : List (Nat × Nat × Nat × Nat) → Prop
  | [] => False
  | x :: r => (x.1 ≤ pc ∧ pc < x.2.1 ∧ x.2.2.2 ≠ 0) ∧ ((h = x.2.2.1 ∧ Cond.classLink own x.2.2.2 (g_ex k) ∈ g_T ∧ Cond.castable (g_ex k) (g_ex k) ∈ g_N) ∨ (Cond.classLink own x.2.2.2 "java/lang/IllegalStateException" ∈ g_T ∧ g_ex k = "java/lang/IllegalArgumentException" ∧ g_ct own pc k h r))
theorem g_search {e : Env} {s : State} {f : JFrame} {a : Addr} {args : Array Value} {own : String} {cell : Cell} {k h : Nat} (hown : s.vm.findClass own = some f.method.cls) (hts : ∀ w ∈ g_T, w.before args s = true) (hN : ∀ w ∈ g_N, va_Nw w s) (hna : g_na s) (hpl : e.platform.magicAccessors = ({} : Platform).magicAccessors)
    (hcls : s.vm.findClass (g_ex k) = some cell.cls) (hobj : ∀ z, cell.vm ≠ .statics z) : ∀ (es : List ExceptionTableEntry) (S : State), s.WarmedH S.vm → S.heap[a]? = some cell → g_ct own f.pc k h (es.map fun h => (h.startPc, h.endPc, h.handlerPc, h.catchType)) → ∃ vm' : Vm, s.WarmedH vm' ∧ gFT e S f a es (.found h) vm' := by
  intro es
  induction es with
  | nil => intro S _ _ hc; exact hc.elim
  | cons x r ih =>
    intro S hW hcell hc
    obtain ⟨⟨c1, c2, c3⟩, hc⟩ := hc
    have hx : covers x f.pc = true := by
      simp only [covers, Bool.and_eq_true, decide_eq_true_eq]
      exact ⟨c1, c2⟩
    have hal := hW.alike
    rcases hc with ⟨e1, e2, e3⟩ | ⟨e1, e2, e3⟩
    · obtain ⟨c', hc', hcl⟩ := Cond.classLink_spec hown (hts _ e2) e.platform hpl
      cases hcls.symm.trans hc'
      obtain ⟨dk, _, _, kt, hd, _, _, _, _, hkt, _, hopen⟩ := hcl.here
      obtain ⟨kt', hkt', -⟩ := hal.2.2 _ _ hkt
      obtain ⟨t1, t2, q1, q2, q3⟩ := Cond.castable_spec (args := #[]) (first := s) (o := none) (idx := []) (hN _ e3)
      cases hcls.symm.trans q1
      cases hcls.symm.trans q2
      subst e1
      exact ⟨_, hW.noted hd hopen (State.rightAt_cls hcl), gFT_yes hx c3 (hW.classLinks hcl) hcell hobj ⟨kt', hkt'⟩ ⟨kt', hkt'⟩ (by rw [hal.assignable]; exact q3)⟩
    · obtain ⟨c', hc', hcl⟩ := Cond.classLink_spec hown (hts _ e1) e.platform hpl
      obtain ⟨dk, _, _, kt, hd, _, _, _, _, hkt, _, hopen⟩ := hcl.here
      obtain ⟨kt', hkt', -⟩ := hal.2.2 _ _ hkt
      have hW2 : s.WarmedH (S.vm.noted f.method.cls x.catchType (.cls c')) := hW.noted hd hopen (State.rightAt_cls hcl)
      obtain ⟨vm', g1, g2⟩ := ih (S.setVm (S.vm.noted f.method.cls x.catchType (.cls c'))) hW2 hcell e3
      rw [e2] at hcls
      have hk1 : ∃ k1, S.vm.classes[cell.cls]? = some k1 := by
        obtain ⟨k1, hk1, -⟩ := Vm.findClass_spec hcls
        obtain ⟨k1', hk1', -⟩ := hal.2.2 _ _ hk1
        exact ⟨k1', hk1'⟩
      exact ⟨vm', g1, gFT_no hx c3 (hW.classLinks hcl) hcell hobj hk1 ⟨kt', hkt'⟩ (by rw [hal.assignable]; exact hna _ _ hcls hc') g2⟩
section GCX
variable {M N : gM} {Z : gZ} {sg : gS} {pc : Nat} {lv lvN : List (Option Value)} {st as stk : List Value} {Q Q' : gO → List gH → gS → Prop} {idx b ci n : Nat} {fl : List gF}
theorem G_iVX (hG : G N Q' (Z.1, 0, 0) sg 0 lvN []) (hl : g_lp 0 lvN = lv_args 0 (.ref b :: as)) (hn : (lg_sl (.ref b :: as)).length ≤ g_n N) (hNa : g_a N = false) (hNx : g_x N = none) (hNh : g_hm (g_y N) = []) (hpl : plainFor (g_y N) = true) (hd : decode (g_b M) pc = .ok (.invokevirtual idx, 3)) (hlk : Cond.methodLink (g_y M).cls idx (g_y N) ∈ g_T) (hm : g_mv N n) (hln : as.length = n) (hS : Z.1[b]? = some (.inr (ci, fl))) (hci : (g_cl[ci]?).map (fun q => q.1) = some (g_y N).cls) (hft : g_ft M N Z = true) (hc8 : g_cr st = true) (hMa : g_a M = false) (hs : stk = as.reverse ++ .ref b :: st)
    (kR : ∀ (r : Option Value) (S : List gH) (sg' : gS), Q' (.inl r) S sg' → G M Q (S, Z.2.1 + (g_m N).cells, Z.2.2 + (g_m N).slots) sg' (pc + 3) lv (r.toList ++ st))
    (kT : ∀ (k : Nat) (S : List gH) (sg' : gS), Q' (.inr k) S sg' → ∃ h : Nat, g_ct (g_y M).cls pc k h (g_hm (g_y M)) ∧ decode (g_b M) h = .ok (.astore_n 3, 1) ∧ 3 < g_n M ∧ g_nl lv 3 = true ∧ G M Q (S, Z.2.1 + (g_m N).cells, Z.2.2 + (g_m N).slots) sg' (h + 1) (lv.set 3 none) []) : G M Q Z sg pc lv stk := by
  intro p l e R s m args below meth c D A ad ca X H locs ls Y T hT X1
  subst hs
  have hst : (as.reverse ++ .ref b :: st).map (g_v ad) = (as.map (g_v ad)).reverse ++ .ref (ad b) :: st.map (g_v ad) := by simp [g_v]
  have hts := X.2.2.2.2.2.2.1
  have hKK := X.2.2.2.2.2.2.2.2.2.2.1
  obtain ⟨⟨hini, hcode, hd2⟩, hinst, hsel⟩ := hm
  have hcell : ∃ cellB : Cell, H[ad b]? = some cellB ∧ cellB.vm.isStatics = false ∧ s.vm.findClass (g_y N).cls = some cellB.cls := by
    obtain ⟨r, h1, cell, q1, q2, q3, q4⟩ := Y.1 b _ (g_w_get hS)
    obtain ⟨hSl, hfc, kC, hkC, hkind⟩ := X.2.2.2.2.2.2.2.2.1.1 ci _ h1
    rw [h1] at hci
    have e : r.1 = (g_y N).cls := by simpa using hci
    exact ⟨cell, q1, by rw [q3]; rfl, by rw [← e, q2]; exact hfc⟩
  obtain ⟨cellB, hcB, hoB, hclB⟩ := hcell
  obtain ⟨mk, methM, hnamed, hmethM, hstM, habM⟩ := Cond.instanceMethod_spec (hts _ hinst)
  obtain ⟨methM', ck, hmethM', hck, hcb, hcn, hcr, hlk2, hempty, hsigM⟩ := Cond.code_spec hnamed (hts _ hcode)
  cases hmethM.symm.trans hmethM'
  obtain ⟨c2, r2, m2, q1, q2, q3, q4, kP, hkP, hkPi⟩ := Cond.selects_spec (hts _ hsel)
  cases hclB.symm.trans q1
  cases (State.methodFound?_of_named hnamed ⟨hd2.1, hd2.2.1⟩).symm.trans q2
  cases hnamed.symm.trans q3
  have hselP : selectMethod e.platform s.vm cellB.cls mk = .method mk := by rw [Launch.admits_selectMethod X1.admits]; exact q4
  have hlen : (as.map (g_v ad)).length = methM.sig.parameters.length := by
    have h := hd2.2.2
    rw [hsigM] at h
    rw [List.length_map, hln]
    exact (Option.some.inj h).symm
  obtain ⟨vm₁, X₁, hstep⟩ := X1.invokevirtual X.1 X.2.2.2.2.1 (hts _ hlk) hnamed hmethM hstM hkP hkPi ⟨hd2.1, hd2.2.1⟩ (a := ad b) (cell := cellB) (by rw [hT]; exact hcB) (fun z h => by rw [h] at hoB; cases hoB) hselP hmethM habM hkP hkPi (g := F0 m pc ls ((as.map (g_v ad)).reverse ++ .ref (ad b) :: st.map (g_v ad))) rfl (argsL := as.map (g_v ad)) (rest := st.map (g_v ad)) hlen rfl (by rw [X.2.1]; exact hd)
  have hmk' : (T.setVm vm₁).vm.method? mk = some methM := by
    rw [X₁.warmed.alike.method?]
    exact hmethM
  obtain ⟨t, a1, a2⟩ := g_inl (as := .ref b :: as) (T := T.setVm vm₁) (mk := mk) (methk := methM) (ck := ck) X Y hT X₁ (X₁.named hnamed) hmk' hck hcb hcn hcr hlk2 (by rw [hNh, Array.isEmpty_iff.mp hempty]; rfl) hpl hl hn hNa hNx hG hft hc8 hd
  obtain ⟨o, b1, b2, ⟨⟨o', S', sg', hE, hq, w1, w2, w3⟩, hz1, hk1⟩, L, b4, b5, b6⟩ := a2
  have hsub := g_Asub X Y
  have hz1' : H.size ≤ t.heap.size := by rw [← hT]; exact hz1
  have hk1' : ∀ q : Nat, q < H.size → ¬ va_A (g_w ad ca Z.1 sg) H.size q → t.heap[q]? = H[q]? := by
    intro q h1 h2
    have := hk1 q (show q < T.heap.size by rw [hT]; exact h1) h2
    rw [this, ← hT]
    rfl
  have hS1 : va_S A s.heap t.heap (locs ++ L) := ⟨Nat.le_trans Y.2.2.1.1 hz1', fun q h1 h2 => by
      rw [hk1' q (Nat.lt_of_lt_of_le h1 Y.2.2.1.1) (fun z => h2 (hsub q z))]
      exact Y.2.2.1.2.1 q h1 h2, fun q hq => by
      rcases List.mem_append.mp hq with h | h
      · exact Y.2.2.1.2.2 q h
      · exact hsub _ (b6 q h)⟩
  rw [hst]
  cases o' with
  | inl r =>
    have ho : o = .returned (r.map (g_v ad)) := hE
    subst ho
    obtain ⟨T', X', hW', hB', ht⟩ := X₁.outOf (g := F0 m pc ls (st.map (g_v ad))) rfl (by rw [X.2.1]; exact hd) b2 b4 b5
    have e1 : T'.heap = t.heap := by rw [ht]; rfl
    have hst3 : (r.map (g_v ad)).toList ++ st.map (g_v ad) = (r.toList ++ st).map (g_v ad) := by cases r <;> simp
    obtain ⟨t2, d1, d2⟩ := kR r S' sg' hq p l e R s m args below meth c D A ad ca X T'.heap (locs ++ L) ls ⟨by rw [e1]; exact w1, w2.weaken (fun _ _ _ h => hsub _ h), by rw [e1]; exact hS1, Y.2.2.2.1, fun ha => (by rw [hMa] at ha; cases ha)⟩ T' rfl X'
    refine ⟨t2, hstep _ fun acts => (a1 acts).trans ?_, d2⟩
    rw [ht]
    rw [← hst3] at d1
    exact d1
  | inr k =>
    obtain ⟨x, ce, rfl, f1, f2, f3⟩ := hE
    obtain ⟨T', X', hW', hB', ht⟩ := X₁.outOfThrown (g := F0 m pc ls (st.map (g_v ad))) rfl b2 b4 b5
    have e1 : T'.heap = t.heap := by rw [ht]; exact (Stand.throwing_heap T' _ x).symm
    have e2 : T'.vm = t.vm := by rw [ht]; exact (Stand.throwing_vm T' _ x).symm
    obtain ⟨h, hct, hdec, h3, hnl, kG⟩ := kT k S' sg' hq
    have hplat : e.platform.magicAccessors = ({} : Platform).magicAccessors := by rw [X1.admits.platform]
    have hcls : s.vm.findClass (g_ex k) = some ce.cls := by
      rw [← f3, ← e2, X'.warmed.alike.findClass]
    have htab := X.2.2.2.2.2.2.2.2.2.2.2.2.2.2.2.2
    obtain ⟨vm', hWv, hfind⟩ := g_search (e := e) (f := F0 m pc ls (st.map (g_v ad))) (a := x) (cell := ce) (own := (g_y M).cls) (k := k) (h := h) X.2.2.2.2.1 hts hKK.2.2.2.2.2.1 hKK.2.2.2.2.2.2.2.2 hplat hcls f2 c.exceptionTable.toList ((T'.setTop (F0 m pc ls (st.map (g_v ad)))).pushFrame (.throwing x)) (by rw [Stand.throwing_vm]; exact X'.warmed) (by rw [Stand.throwing_heap, e1]; exact f1) (by rw [htab]; exact hct)
    have X'' := X'.noted hWv
    have hw : W p l e R s m args below meth c t.heap (locs ++ L) (Z.2.1 + (g_m N).cells) (Z.2.2 + (g_m N).slots) (gMQ below (g_Q D A ad ca (g_z M) (g_m M).cells Q) args s (g_m M).cells (g_m M).slots A) (F0 m h ls [.ref x]) := by
      refine lv_astore_n (k := 3) (i := 3) (x := x) X.1 X.2.1 hdec rfl Y.2.2.2.1 h3 rfl fun ls' hls => ?_
      exact kG p l e R s m args below meth c D A ad ca X t.heap (locs ++ L) ls' ⟨w1, w2.weaken (fun _ _ _ h => hsub _ h), hS1, g_setU hnl hls, fun ha => (by rw [hMa] at ha; cases ha)⟩
    obtain ⟨t2, d1, d2⟩ := hw (T'.setVm vm') e1 X''
    refine ⟨t2, hstep _ fun acts => (a1 acts).trans ?_, d2⟩
    rw [ht]
    exact g_caught (g := F0 m pc ls (st.map (g_v ad))) X'.here X'.method' X'.code hfind d1
end GCX
