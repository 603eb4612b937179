/-- a static of Throwable's: it holds a reference or null -/
def g_Zs (C n d : String) (A : Nat → Prop) (U : State) (H : Heap) : Prop := ∃ (cf : ClassId) (kf : Class) (fi : Nat) (f : Field) (a : Nat) (cell : Cell) (v : Value), U.vm.findClass C = some cf ∧ U.fieldFound? C n d = some (cf, kf, fi, f) ∧ f.isStatic = true ∧ kf.statics = some a ∧ H[a]? = some cell ∧ cell.vm.isStatics = true ∧ cell.cls = cf ∧ f.slot < cell.slots.size ∧ kf.staticTypes[f.slot]? = some f.type ∧ cell.slots[f.slot]? = some v ∧ (v = .null ∨ ∃ t, v = .ref t) ∧ ¬ A a
theorem g_Zs.moved {C n d : String} {A : Nat → Prop} {u U : State} {H : Heap} (hvm : u.vm.Alike U.vm) (h : g_Zs C n d A u H) : g_Zs C n d A U H := by
  obtain ⟨cf, kf, fi, f, a, cell, v, h0, h1, h2, h3, h4, h5, h6, h7, h8, h9⟩ := h
  obtain ⟨k', hi', he⟩ := State.fieldFound?_setVm hvm h1
  exact ⟨cf, k', fi, f, a, cell, v, by rw [hvm.findClass]; exact h0, hi', h2, by rw [he]; exact h3, h4, h5, h6, h7, by rw [he]; exact h8, h9⟩
theorem g_Zs.kept {C n d : String} {A : Nat → Prop} {U : State} {H H1 : Heap} (h : g_Zs C n d A U H) (hq : ∀ a : Nat, a < H.size → ¬ A a → H1[a]? = H[a]?) : g_Zs C n d A U H1 := by
  obtain ⟨cf, kf, fi, f, a, cell, v, h0, h1, h2, h3, h4, h5, h6, h7, h8, h9, h10, h11⟩ := h
  exact ⟨cf, kf, fi, f, a, cell, v, h0, h1, h2, h3, by rw [hq a (Array.getElem?_eq_some_iff.mp h4).1 h11]; exact h4, h5, h6, h7, h8, h9, h10, h11⟩
theorem g_Zs.narrow {C n d : String} {A B : Nat → Prop} {U : State} {H : Heap} (h : g_Zs C n d A U H) (hAB : ∀ q, B q → A q) : g_Zs C n d B U H := by
  obtain ⟨cf, kf, fi, f, a, cell, v, h0, h1, h2, h3, h4, h5, h6, h7, h8, h9, h10, h11⟩ := h
  exact ⟨cf, kf, fi, f, a, cell, v, h0, h1, h2, h3, h4, h5, h6, h7, h8, h9, h10, fun z => h11 (hAB a z)⟩
theorem g_Zs.of {args : Array Value} {s : State} {C n d : String} {A : Nat → Prop} (hl : (Cond.laysStatic C n d).before args s = true) (h : (Cond.isRef (.static C n d)).before args s = true) (hA : ∀ a : Nat, a < s.heap.size → ¬ A a) : g_Zs C n d A s s.heap := by
  obtain ⟨c, k, i, f, a, cell, hc, hi, hst, ha, hcell, hs, hcls, hlt, hty⟩ := Cond.laysStatic_spec hl
  cases hv : (Term.static C n d).eval args s none [] s with
  | none => simp [Cond.before, Cond.holds, Cond.value, hv] at h
  | some w =>
    obtain ⟨hst', a', cell', ha', hcell', -, hslot⟩ := Term.static_spec hi hv
    cases ha.symm.trans ha'
    cases hcell.symm.trans hcell'
    simp only [Cond.before, Cond.holds, Cond.value, hv] at h
    refine ⟨c, k, i, f, a, cell, w, hc, hi, hst, ha, hcell, hs, hcls, hlt, hty, hslot, ?_, hA a (Array.getElem?_eq_some_iff.mp hcell).1⟩
    cases w with
    | null => exact Or.inl rfl
    | ref t => exact Or.inr ⟨t, rfl⟩
    | _ => simp at h
/-- no IllegalArgumentException is an IllegalStateException -/
def g_na (U : State) : Prop := ∀ c1 c2 : ClassId, U.vm.findClass "java/lang/IllegalArgumentException" = some c1 → U.vm.findClass "java/lang/IllegalStateException" = some c2 → U.vm.assignable c1 c2 = false
theorem g_na.moved {u U : State} (hvm : u.vm.Alike U.vm) (h : g_na u) : g_na U := by
  intro c1 c2 h1 h2
  rw [hvm.findClass] at h1 h2
  rw [hvm.assignable]
  exact h c1 c2 h1 h2
/-- the handlers of the law's helpers -/
def g_hh (n : String) : List (Nat × Nat × Nat × Nat) := if n = "run" then [(0, 9, 12, 13), (0, 9, 15, 15)] else if n = "value" then [(0, 9, 12, 20)] else if n = "tick" then [(0, 9, 12, 15)] else []
def g_hm (y : MethodName) : List (Nat × Nat × Nat × Nat) := if y.cls = "BandPressLaw" then g_hh y.name else []
/-- the constants outside of the world: texts (1000 + i, their bytes 2000 + i), CELL (3000) -/
def g_K (s : State) (A : Nat → Prop) (ad : Nat → Nat) : Prop :=
  vk_S g_nS g_len g_byt (fun i => ad (1000 + i)) (fun i => ad (2000 + i)) A s s.heap ∧ (∀ r ∈ g_ldc, vk_R r.1 r.2.1 r.2.2.1 (ad (1000 + r.2.2.2)) s) ∧
  va_Z "BandPress" "CELL" "[I" (.ref (ad 3000)) A s s.heap ∧ va_T .int (ad 3000) g_cellN (fun j => .int (g_cell.getD j 0)) A s s.heap ∧ va_Z "java/lang/String" "COMPACT_STRINGS" "Z" (.int 1) A s s.heap ∧ (∀ w ∈ g_N, va_Nw w s) ∧ g_Zs "java/lang/Throwable" "UNASSIGNED_STACK" "[Ljava/lang/StackTraceElement;" A s s.heap ∧ g_Zs "java/lang/Throwable" "SUPPRESSED_SENTINEL" "Ljava/util/List;" A s s.heap ∧ g_na s
theorem g_Nw_warm {s U : State} (hW : s.WarmedH U.vm) {w : Cond} (hw : w ∈ g_N) (h : va_Nw w s) : va_Nw w U := by
  have hk := (List.mem_filter.mp hw).2
  cases w <;> first | exact va_Nw.warmF hW h | exact va_Nw.warmM hW h | exact va_Nw.warmD hW h | exact va_Nw.warmC hW h | simp [g_isN] at hk
theorem g_K_call {s U : State} {A B : Nat → Prop} {ad : Nat → Nat} {H : Heap} {locs : List Loc} (h : g_K s A ad) (hS : va_S A s.heap H locs) (hU : U.heap = H) (hW : s.WarmedH U.vm) (hB : ∀ q, B q → A q) : g_K U B ad := by
  obtain ⟨h1, h2, h3, h4, h5, h6, h7, h8, h9⟩ := h
  subst hU
  exact ⟨((h1.kept hS.2.1).moved hW.alike).narrow hB, fun r hr => (h2 r hr).warm hW, ((h3.kept hS.2.1).moved hW.alike).narrow hB, ((h4.kept hS.2.1).moved hW.alike).narrow hB, ((h5.kept hS.2.1).moved hW.alike).narrow hB, fun w hw => g_Nw_warm hW hw (h6 w hw), ((h7.kept hS.2.1).moved hW.alike).narrow hB, ((h8.kept hS.2.1).moved hW.alike).narrow hB, h9.moved hW.alike⟩
theorem g_K_blind {U : State} {A : Nat → Prop} {ad : Nat → Nat} {g : JFrame} {mk : MethodId} {a : Array Value} (h : g_K U A ad) : g_K (U.calling g mk a) A ad := by
  obtain ⟨h1, h2, h3, h4, h5, h6, h7, h8, h9⟩ := h
  exact ⟨vk_S.moved (u := U) (U := U.calling g mk a) (Vm.Alike.refl U.vm) h1, fun r hr => (h2 r hr).same (u := U) rfl, va_Z.moved (u := U) (U := U.calling g mk a) (Vm.Alike.refl U.vm) h3, va_T.moved (u := U) (U := U.calling g mk a) (Vm.Alike.refl U.vm) h4, va_Z.moved (u := U) (U := U.calling g mk a) (Vm.Alike.refl U.vm) h5,
    fun w hw => by
      have hk := (List.mem_filter.mp hw).2
      cases w <;> first | exact va_Nw.same (u := U) rfl rfl (h6 _ hw) | simp [g_isN] at hk, g_Zs.moved (u := U) (U := U.calling g mk a) (Vm.Alike.refl U.vm) h7, g_Zs.moved (u := U) (U := U.calling g mk a) (Vm.Alike.refl U.vm) h8, h9⟩
/-- the tables' words that last -/
theorem g_T_good {w : Cond} (h : w ∈ g_T) : goodWord w = true := (List.mem_filter.mp h).2
def g_ws (M : gM) : List Cond := .code (g_y M) (g_b M) (g_n M) (g_r M) :: g_T
theorem g_goodIn {M : gM} (h : Cond.code (g_y M) (g_b M) (g_n M) (g_r M) ∈ g_T) : GoodIn g_T (g_ws M) := by
  intro w hw
  have hm : w ∈ g_T := by
    rcases List.mem_cons.mp hw with e | e
    · rw [e]; exact h
    · exact e
  exact ⟨hm, good_of_word (g_T_good hm)⟩
def g_sc (M : gM) (s : State) (A : Nat → Prop) (ad : Nat → Nat) : Prop := ∀ r, g_x M = some r → va_X (ad 4000) r.1 r.2 s s.heap ∧ ad 4000 < s.heap.size ∧ ¬ A (ad 4000)
def g_X (p : Program) (l : Launch) (s : State) (m : MethodId) (args : Array Value) (meth : Method) (c : Code) (R : Room) (D : va_G) (A : Nat → Prop) (ad ca : Nat → Nat) (M : gM) : Prop :=
  p.tables.exec = Jvm.exec ∧ c.code = g_b M ∧ meth.sig.returnType = g_r M ∧ c.maxLocals = g_n M ∧ s.vm.findClass (g_y M).cls = some m.cls ∧ meth.locks = false ∧ (∀ w ∈ g_T, w.before args s = true) ∧ R = g_m M ∧
  va_K D g_cl (g_ty ca) s ∧ (∀ q : Nat, s.heap.size ≤ q → A q) ∧ g_K s A ad ∧ meth.name = (g_y M).name ∧ (∀ q : Nat, q < 900 → ad (q + 1) = ad q + 1) ∧ g_sc M s A ad ∧ (∀ (q : Nat) (cell : Cell), A q → s.heap[q]? = some cell → cell.vm.isStatics = false) ∧ l.stackTraces = false ∧ c.exceptionTable.toList.map (fun h => (h.startPc, h.endPc, h.handlerPc, h.catchType)) = g_hm (g_y M)
def g_Y (s : State) (D : va_G) (A : Nat → Prop) (ad ca : Nat → Nat) (M : gM) (Z : gZ) (sg : gS) (lv : List (Option Value)) (H : Heap) (locs : List Loc) (ls : Array Slot) : Prop :=
  va_P D g_cl (g_w ad ca Z.1 sg) H ∧ va_D A (g_w ad ca Z.1 sg) ∧ va_S A s.heap H locs ∧ lv_has ls (g_n M) (g_lq ad lv) ∧ (g_a M = true → s.heap.size + Z.2.1 = ad Z.1.length ∧ Z.1.length ≤ 900 ∧ (Z.1 = [] → Z.2.1 = 0))
/-- how a method ends: it returns, or (later rows) throws the exception of a kind -/
def g_E (ad : Nat → Nat) (o : gO) (oc : Outcome) (t : State) : Prop := match o with
  | .inl r => oc = .returned (r.map (g_v ad))
  | .inr k => g_Ex k oc t
def g_Q (D : va_G) (A : Nat → Prop) (ad ca : Nat → Nat) (al : Bool) (mc : Nat) (Q : gO → List gH → gS → Prop) : Array Value → State → Outcome → State → Prop := fun _ st oc t =>
  (∃ (o : gO) (S : List gH) (sg : gS), g_E ad o oc t ∧ Q o S sg ∧ va_P D g_cl (g_w ad ca S sg) t.heap ∧ va_D A (g_w ad ca S sg) ∧ (al = true → st.heap.size + mc = ad S.length ∧ S.length ≤ 900 ∧ S ≠ [])) ∧ va_F A st t
def gMQ (below : List Frame) (Qc : Array Value → State → Outcome → State → Prop) (a : Array Value) (s : State) (mc ms : Nat) (free : Addr → Prop) : State → Prop := fun t =>
  ∃ o, t.status = .running ∧ Ended t below o ∧ Qc a s o t ∧ ∃ L : List Loc, s.WarmedH t.vm ∧ s.sameButNew ({ t with vm := s.vm } : State) L mc ms ∧ ∀ q ∈ L, free q.base
theorem gMQ_of {below : List Frame} {Qc : Array Value → State → Outcome → State → Prop} {a : Array Value} {s : State} {mc ms : Nat} {free : Addr → Prop} {t : State} (h : MQ below Qc a s mc ms free t) : gMQ below Qc a s mc ms free t := by
  obtain ⟨o, h1, h2, h3, L, ⟨-, hW, hs⟩, hf⟩ := h
  exact ⟨o, h1, h2, h3, L, hW, hs, hf⟩
theorem g_post {p : Program} {l : Launch} {e : Env} {R : Room} {s : State} {m : MethodId} {args : Array Value} {below : List Frame} {meth : Method} {c : Code} {H : Heap} {locs : List Loc} {cells slots : Nat} {Q Q' : State → Prop} {g : JFrame} (h : ∀ t, Q t → Q' t) (k : W p l e R s m args below meth c H locs cells slots Q g) : W p l e R s m args below meth c H locs cells slots Q' g := by
  intro T hT X
  obtain ⟨t, a, b⟩ := k T hT X
  exact ⟨t, a, h t b⟩
/-- THE JUDGEMENT: from pc, with these locals and this stack, the method ends with Q -/
def G (M : gM) (Q : gO → List gH → gS → Prop) (Z : gZ) (sg : gS) (pc : Nat) (lv : List (Option Value)) (st : List Value) : Prop :=
  ∀ (p : Program) (l : Launch) (e : Env) (R : Room) (s : State) (m : MethodId) (args : Array Value) (below : List Frame) (meth : Method) (c : Code) (D : va_G) (A : Nat → Prop) (ad ca : Nat → Nat),
    g_X p l s m args meth c R D A ad ca M → ∀ (H : Heap) (locs : List Loc) (ls : Array Slot), g_Y s D A ad ca M Z sg lv H locs ls →
    W p l e R s m args below meth c H locs Z.2.1 Z.2.2 (gMQ below (g_Q D A ad ca (g_z M) (g_m M).cells Q) args s (g_m M).cells (g_m M).slots A) (F0 m pc ls (st.map (g_v ad)))
/-- THE CONTRACT: called with these arguments on this store -/
def g_P (D : va_G) (ad ca : Nat → Nat) (al : Bool) (S : List gH) (sg : gS) (sz : Nat) (U : State) : Prop :=
  U.heap.size = sz ∧ va_P D g_cl (g_w ad ca S sg) U.heap ∧ va_K D g_cl (g_ty ca) U ∧ va_D (fun _ => True) (g_w ad ca S sg) ∧ g_K U (va_A (g_w ad ca S sg) sz) ad ∧ (∀ q : Nat, q < 900 → ad (q + 1) = ad q + 1) ∧ (al = true → U.heap.size = ad S.length ∧ S.length ≤ 900)
def Ct (M : gM) (S : List gH) (as : List Value) (sg : gS) (Q : gO → List gH → gS → Prop) : Prop :=
  ∀ (l : Launch) (D : va_G) (ad ca : Nat → Nat) (sz : Nat), l.stackTraces = false → Met l (g_y M) (g_ws M) (g_m M) (va_Pc (as.map (g_v ad)) (g_P D ad ca (g_a M) S sg sz)) (g_Q D (va_A (g_w ad ca S sg) sz) ad ca (g_z M) (g_m M).cells Q) (g_m M).cells (g_m M).slots (va_A (g_w ad ca S sg) sz)
theorem g_args (ad : Nat → Nat) : ∀ (as : List Value) (i : Nat), lv_args i (as.map (g_v ad)) = (lv_args i as).map (fun q => (q.1, g_v ad q.2)) := by
  intro as
  induction as with
  | nil => intro i; rfl
  | cons v vs ih =>
    intro i
    simp only [List.map_cons, lv_args, g_v_cat, ih]
theorem g_slen (ad : Nat → Nat) (as : List Value) : (lg_sl (as.map (g_v ad))).length = (lg_sl as).length := by
  induction as with
  | nil => rfl
  | cons v vs ih =>
    simp only [lg_sl, List.map_cons, List.flatMap_cons, List.length_append, g_v_cat] at ih ⊢
    rw [ih]
    split <;> rfl
theorem g_ns {D : va_G} {ws : va_W} {H : Heap} (h : va_P D g_cl ws H) (q : Nat) (hq : va_A ws H.size q) {cell : Cell} (hc : H[q]? = some cell) : cell.vm.isStatics = false := by
  rcases hq with ⟨k, e, hk⟩ | hq
  · have h1 := h k _ hk
    cases e with
    | inl a =>
      have h2 : H[q]? = some (vp_cell a.1 a.2) := h1
      rw [h2] at hc
      cases hc
      obtain ⟨c0, n, f⟩ := a
      rcases f with f | f | f | f | f <;> rfl
    | inr o =>
      obtain ⟨r, -, cell', q1, q2, q3, q4⟩ := h1
      rw [show H[q]? = some cell' from q1] at hc
      cases hc
      rw [q3]
      rfl
  · have := (Array.getElem?_eq_some_iff.mp hc).1
    omega
theorem g_MetF {l : Launch} {y : MethodName} {ws ws' : List Cond} {rm : Room} {Pc : Array Value → State → Prop} {Qc : Array Value → State → Outcome → State → Prop} {mc ms : Nat} {free : Addr → Prop} {cc : ByteArray} {maxL : Nat} {ret : Option FieldType} (hy : plainFor y = true) (hw : ws = Cond.code y cc maxL ret :: ws')
    (body : ∀ p e s m args below meth c s₁, BodyLoose p l y (headSpec ws rm) cc maxL ret e s m args below meth c s₁ → c.maxLocals = maxL → Pc args s → W p l e (headSpec ws rm).room s m args below meth c s.heap [] 0 0 (MQ below Qc args s mc ms free) (entryFrame m args maxL)) : Met l y ws rm Pc Qc mc ms free := by
  refine MetFree.of_bodySF (code := cc) (maxLocals := maxL) (ret := ret) hy (fun args s m h hn => ?_) (fun p e s m args below meth c s₁ B hml hP _ => ?_)
  · have hc := atoms_spec (ws := ws) h (.code y cc maxL ret) (by rw [hw]; exact List.mem_cons_self)
    obtain ⟨meth, c, h1, h2, h3, h4, h5, h6, -⟩ := Cond.code_spec hn hc
    exact ⟨meth, c, h1, h2, h3, h4, h5, h6⟩
  · obtain ⟨t, a1, o, b1, b2, b3⟩ := body p e s m args below meth c s₁ B hml hP s₁ (by rw [B.state]; rfl) (Stand.of_body B)
    exact ⟨t, o, a1, b1, b2, b3⟩
/-- a contract out of the walk of the body -/
theorem Ct_of {M : gM} {S : List gH} {as : List Value} {sg : gS} {Q : gO → List gH → gS → Prop} (lv : List (Option Value)) (hc : plainFor (g_y M) = true) (hl : g_lp 0 lv = lv_args 0 as) (hn : (lg_sl as).length ≤ g_n M) (hx : g_x M = none) (hH : g_hm (g_y M) = []) (hQ : ∀ o S' sg', Q o S' sg' → ∃ r : Option Value, o = .inl r)
    (h : G M Q (S, 0, 0) sg 0 lv []) : Ct M S as sg Q := by
  intro l D ad ca sz hst
  refine g_MetF (cc := g_b M) (maxL := g_n M) (ret := g_r M) hc rfl ?_
  intro p e s m args below meth c s₁ B hml hv
  obtain ⟨rfl, hsz, hP, hK, hD0, hKK, had, hal⟩ := hv
  subst hsz
  have hts := atoms_spec (ws := g_ws M) B.pre
  have hD := hD0.self (sz := s.heap.size)
  have hen := lv_entry (as.map (g_v ad)) (n := g_n M) (by rw [g_slen]; exact hn)
  rw [lg_entry_eq]
  generalize (lg_sl (as.map (g_v ad)) ++ List.replicate (g_n M - (lg_sl (as.map (g_v ad))).length) Slot.unset).toArray = ls at hen ⊢
  rw [g_args, ← hl] at hen
  refine g_post (fun t ht => ?_) (h p l e _ s m _ below meth c D _ ad ca
    ⟨B.exec, B.bytes, B.returns, hml, findClass_of_methodNamed B.named, B.notSynchronized, fun w hw => hts w (List.mem_cons_of_mem _ hw), rfl, hK, fun q hq => Or.inr hq, hKK, (name_of_methodNamed B.named B.method).1, had, fun r hr => (by rw [hx] at hr; cases hr), fun q cell hq hc => g_ns hP q hq hc, hst, by rw [hH, Array.isEmpty_iff.mp (B.noHandlers (hts _ List.mem_cons_self))]; rfl⟩
    s.heap [] ls ⟨hP, hD, va_S.rf, hen, fun ha => ⟨(hal ha).1, (hal ha).2, fun _ => rfl⟩⟩)
  obtain ⟨o, h1, h2, h3, L, hW, hs, hf⟩ := ht
  obtain ⟨⟨o', S', sg', hE, hq, -⟩, -⟩ := id h3
  obtain ⟨r, rfl⟩ := hQ o' S' sg' hq
  exact ⟨o, h1, h2, h3, L, ⟨⟨_, hE⟩, hW, hs⟩, hf⟩
/-- what is known of a call's link -/
def g_lk (own : String) (idx : Nat) (y : MethodName) : Prop := Cond.methodLink own idx y ∈ g_T ∨ ∃ h : String, Cond.methodLinkNest own idx y h ∈ g_N
def g_mb (M : gM) (n : Nat) : Prop := Cond.initialized (g_y M).cls ∈ g_T ∧ Cond.code (g_y M) (g_b M) (g_n M) (g_r M) ∈ g_T ∧ ((g_y M).cls ≠ "java/lang/invoke/MethodHandle" ∧ (g_y M).cls ≠ "java/lang/invoke/VarHandle" ∧ (parseMethodDescriptor (g_y M).desc).map (fun d => d.parameters.length) = some n)
def g_mv (M : gM) (n : Nat) : Prop := g_mb M n ∧ Cond.instanceMethod (g_y M) ∈ g_T ∧ Cond.selects (g_y M).cls (g_y M) (g_y M) ∈ g_T
def g_ms (M : gM) (n : Nat) : Prop := g_mb M n ∧ Cond.static (g_y M) ∈ g_T
def g_mi (M : gM) (n : Nat) : Prop := g_mb M n ∧ Cond.instanceMethod (g_y M) ∈ g_T ∧ (g_y M).name = "<init>" ∧ g_r M = none
/-- the callee fits in the caller's room -/
def g_ft (M N : gM) (Z : gZ) : Bool := decide ((g_m N).frames + 1 ≤ (g_m M).frames) && decide (8 + (g_n N + 11) + (g_m N).locals ≤ (g_m M).locals) && decide (Z.2.1 + (g_m N).cells ≤ (g_m M).cells) && decide (Z.2.2 + (g_m N).slots ≤ (g_m M).slots)
def g_cr (st : List Value) : Bool := decide ((st.map fun v => v.category).sum ≤ 8)
theorem g_cr_ok {st : List Value} (ad : Nat → Nat) {m : MethodId} {pc : Nat} {ls : Array Slot} {rest : List Value} (h : g_cr st = true) : 2 * (F0 m pc ls rest).monitorRoom + ((st.map (g_v ad)).map fun v => v.category).sum ≤ 8 := by
  refine lv_room ?_
  have e : ((st.map (g_v ad)).map fun v => v.category) = st.map fun v => v.category := by
    rw [List.map_map]
    exact List.map_congr_left fun v _ => g_v_cat ad v
  rw [e]
  exact of_decide_eq_true h
section GC
variable {p : Program} {l : Launch} {e : Env} {R : Room} {s : State} {m : MethodId} {args : Array Value} {below : List Frame} {meth : Method} {c : Code} {D : va_G} {A : Nat → Prop} {ad ca : Nat → Nat} {M N : gM} {Z : gZ} {sg : gS} {pc : Nat} {lv : List (Option Value)} {st : List Value} {Q Q' : gO → List gH → gS → Prop} {as : List Value} {H : Heap} {locs : List Loc} {ls : Array Slot}
theorem g_blind {B : List Value} {S : List gH} {al : Bool} {sz : Nat} : FrameBlind (va_Pc B (g_P D ad ca al S sg sz)) := by
  intro a U g mk q
  obtain ⟨q0, q1, qP, qK, qD, qC, qa, ql⟩ := q
  exact ⟨q0, q1, qP, va_K.moved (u := U) (U := U.calling g mk a) (Vm.Alike.refl U.vm) qK, qD, g_K_blind qC, qa, ql⟩
theorem g_Asub (X : g_X p l s m args meth c R D A ad ca M) (Y : g_Y s D A ad ca M Z sg lv H locs ls) : ∀ q, va_A (g_w ad ca Z.1 sg) H.size q → A q := by
  intro q h
  rcases h with ⟨k, e, h⟩ | h
  · exact Y.2.1.2 k (q, e) h
  · exact X.2.2.2.2.2.2.2.2.2.1 q (Nat.le_trans Y.2.2.1.1 h)
theorem g_sz (X : g_X p l s m args meth c R D A ad ca M) (Y : g_Y s D A ad ca M Z sg lv H locs ls) {T : State} (hT : T.heap = H) (X1 : Stand p l e R s m args below meth c T locs Z.2.1 Z.2.2) (ha : g_a M = true) : H.size = ad Z.1.length := by
  obtain ⟨h1, h2, h3⟩ := Y.2.2.2.2 ha
  have hu := X1.heapSize
  rw [hT, h1] at hu
  by_cases h0 : Z.1 = []
  · have h4 := h3 h0
    have h5 := Y.2.2.1.1
    omega
  · have hlen : 0 < Z.1.length := List.length_pos_iff.mpr h0
    have hlt : Z.1.length - 1 < Z.1.length := by omega
    have hg : Z.1[Z.1.length - 1]? = some (Z.1[Z.1.length - 1]) := List.getElem?_eq_getElem hlt
    have h6 := (Y.1 _ _ (g_w_get hg)).lt
    have h7 := X.2.2.2.2.2.2.2.2.2.2.2.2.1 (Z.1.length - 1) (by omega)
    rw [show Z.1.length - 1 + 1 = Z.1.length by omega] at h7
    have h8 : ad (Z.1.length - 1) < H.size := h6
    omega
theorem g_pre (X : g_X p l s m args meth c R D A ad ca M) (Y : g_Y s D A ad ca M Z sg lv H locs ls) {al : Bool} (hsz : al = true → H.size = ad Z.1.length ∧ Z.1.length ≤ 900) : ∀ U : State, U.heap = H → s.WarmedH U.vm → va_Pc (as.map (g_v ad)) (g_P D ad ca al Z.1 sg H.size) (as.map (g_v ad)).toArray U := by
  intro U hU hW
  refine ⟨rfl, by rw [hU], by rw [hU]; exact Y.1, va_K.moved hW.alike X.2.2.2.2.2.2.2.2.1, Y.2.1.weaken (fun _ _ _ _ => trivial), g_K_call X.2.2.2.2.2.2.2.2.2.2.1 Y.2.2.1 hU hW (g_Asub X Y), X.2.2.2.2.2.2.2.2.2.2.2.2.1, fun h => ?_⟩
  rw [hU]
  exact hsz h
/-- behind a call -/
theorem g_back (X : g_X p l s m args meth c R D A ad ca M) (Y : g_Y s D A ad ca M Z sg lv H locs ls) {a : Array Value} {st0 : List Value} {al : Bool} {mc ms : Nat} (hal : g_a M = true → (al = true ∧ H.size = ad Z.1.length) ∨ (mc = 0 ∧ ∀ (o : gO) (S : List gH) (sg' : gS), Q' o S sg' → S = Z.1))
    (hr : va_Run p l e R s m args below meth c H locs Z.2.1 Z.2.2 mc ms (F0 m pc ls st0) (st.map (g_v ad)) (g_Q D (va_A (g_w ad ca Z.1 sg) H.size) ad ca al mc Q' a) (va_A (g_w ad ca Z.1 sg) H.size))
    (k : ∀ (o : gO) (S : List gH) (sg' : gS), Q' o S sg' → ∃ r : Option Value, o = .inl r ∧ G M Q (S, Z.2.1 + mc, Z.2.2 + ms) sg' (pc + 3) lv (r.toList ++ st)) :
    W p l e R s m args below meth c H locs Z.2.1 Z.2.2 (gMQ below (g_Q D A ad ca (g_z M) (g_m M).cells Q) args s (g_m M).cells (g_m M).slots A) (F0 m pc ls st0) := by
  intro T hT X1
  obtain ⟨v, st₀, t, T', L, h0, X', hL, e1, e2, ⟨⟨o, S, sg', hE, hq, hP, hD, hz⟩, hF⟩, go⟩ := hr T hT X1
  obtain ⟨r, rfl, kG⟩ := k o S sg' hq
  have hv : v = r.map (g_v ad) := by
    have h : Outcome.returned v = .returned (r.map (g_v ad)) := hE
    exact Outcome.returned.inj h
  subst hv
  have hsub := g_Asub X Y
  obtain ⟨hz1, hk1⟩ := hF
  rw [h0] at hz1 hk1
  have hS1 : va_S A s.heap T'.heap (locs ++ L) := ⟨Nat.le_trans Y.2.2.1.1 (by rw [e1]; exact hz1), fun q h1 h2 => by
      rw [e1, hk1 q (Nat.lt_of_lt_of_le h1 Y.2.2.1.1) (fun z => h2 (hsub q z))]
      exact Y.2.2.1.2.1 q h1 h2, fun q hq => by
      rcases List.mem_append.mp hq with h | h
      · exact Y.2.2.1.2.2 q h
      · exact hsub _ (hL q h)⟩
  have hst : (r.map (g_v ad)).toList ++ st.map (g_v ad) = (r.toList ++ st).map (g_v ad) := by cases r <;> simp
  obtain ⟨t2, a1, b1⟩ := kG p l e R s m args below meth c D A ad ca X T'.heap (locs ++ L) ls ⟨by rw [e1]; exact hP, hD.weaken (fun _ _ _ h => hsub _ h), hS1, Y.2.2.2.1, fun ha => by
      obtain ⟨h6, h7, h8⟩ := Y.2.2.2.2 ha
      rcases hal ha with ⟨h1, h2⟩ | ⟨h1, h2⟩
      · obtain ⟨h3, h4, h5⟩ := hz h1
        rw [h0] at h3
        exact ⟨by show s.heap.size + (Z.2.1 + mc) = ad S.length; omega, h4, fun h => absurd h h5⟩
      · have hS := h2 _ _ _ hq
        refine ⟨?_, by show S.length ≤ 900; rw [hS]; exact h7, fun h => ?_⟩
        · show s.heap.size + (Z.2.1 + mc) = ad S.length
          rw [hS, h1]
          exact h6
        · show Z.2.1 + mc = 0
          have := h8 (hS ▸ h)
          omega⟩ T' rfl X'
  refine ⟨t2, go t2 ?_, b1⟩
  rw [← hst] at a1
  exact a1
theorem g_bit (h : g_ft M N Z = true) (hR : R = g_m M) : ((g_m N).frames + 1 ≤ R.frames ∧ 8 + (g_n N + 11) + (g_m N).locals ≤ R.locals) ∧ Z.2.1 + (g_m N).cells ≤ R.cells ∧ Z.2.2 + (g_m N).slots ≤ R.slots := by
  subst hR
  simp only [g_ft, Bool.and_eq_true, decide_eq_true_eq] at h
  exact ⟨⟨h.1.1.1, h.1.1.2⟩, h.1.2, h.2⟩
end GC
section GCALL
variable {M N : gM} {Z : gZ} {sg : gS} {pc : Nat} {lv : List (Option Value)} {st : List Value} {Q Q' : gO → List gH → gS → Prop} {as stk : List Value} {idx n : Nat}
theorem G_cV {b ci : Nat} {fl : List gF} (hc : Ct N Z.1 (.ref b :: as) sg Q') (hd : decode (g_b M) pc = .ok (.invokevirtual idx, 3)) (hlk : g_lk (g_y M).cls idx (g_y N)) (hm : g_mv N n) (hn : as.length = n) (hS : Z.1[b]? = some (.inr (ci, fl))) (hci : (g_cl[ci]?).map (fun q => q.1) = some (g_y N).cls)
    (hft : g_ft M N Z = true) (hcr : g_cr st = true) (hal : (g_a N = true → g_a M = true) ∧ (g_a M = true → g_z N = true ∨ ((g_m N).cells = 0 ∧ ∀ (o : gO) (S : List gH) (sg' : gS), Q' o S sg' → S = Z.1))) (hs : stk = as.reverse ++ .ref b :: st)
    (k : ∀ (o : gO) (S : List gH) (sg' : gS), Q' o S sg' → ∃ r : Option Value, o = .inl r ∧ G M Q (S, Z.2.1 + (g_m N).cells, Z.2.2 + (g_m N).slots) sg' (pc + 3) lv (r.toList ++ st)) : G M Q Z sg pc lv stk := by
  intro p l e R s m args below meth c D A ad ca X H locs ls Y
  subst hs
  have hst : (as.reverse ++ .ref b :: st).map (g_v ad) = (as.map (g_v ad)).reverse ++ .ref (ad b) :: st.map (g_v ad) := by simp [g_v]
  obtain ⟨hR1, hR2⟩ := g_bit (N := N) hft X.2.2.2.2.2.2.2.1
  have hts := X.2.2.2.2.2.2.1
  have hal2 : g_a N = true → g_a M = true := hal.1
  have hcell : ∃ cellB : Cell, H[ad b]? = some cellB ∧ cellB.vm.isStatics = false ∧ s.vm.findClass (g_y N).cls = some cellB.cls := by
    obtain ⟨r, h1, cell, q1, q2, q3, q4⟩ := Y.1 b _ (g_w_get hS)
    obtain ⟨hSl, hfc, kC, hkC, hkind⟩ := X.2.2.2.2.2.2.2.2.1.1 ci _ h1
    rw [h1] at hci
    have e : r.1 = (g_y N).cls := by simpa using hci
    exact ⟨cell, q1, by rw [q3]; rfl, by rw [← e, q2]; exact hfc⟩
  obtain ⟨⟨hini, hcode, hd2⟩, hinst, hsel⟩ := hm
  intro T hT X1
  have hpre : PreV s H (g_y N).cls (ad b) (va_Pc ((.ref b :: as).map (g_v ad)) (g_P D ad ca (g_a N) Z.1 sg H.size)) (as.map (g_v ad)) := ⟨g_blind, hcell, g_pre (as := .ref b :: as) X Y (fun ha => ⟨g_sz X Y hT X1 (hal2 ha), (Y.2.2.2.2 (hal2 ha)).2.1⟩)⟩
  rw [hst]
  rcases hlk with hl | ⟨h, hl⟩
  · refine g_back (al := g_z N) X Y (fun ha => (hal.2 ha).imp (fun h => ⟨h, g_sz X Y hT X1 ha⟩) id) (va_runV (As := as.map (g_v ad)) (rest := st.map (g_v ad)) (C := (g_y N).cls) ⟨X.1, X.2.1, X.2.2.2.1, X.2.2.2.2.1, hts⟩ (hc l D ad ca H.size X.2.2.2.2.2.2.2.2.2.2.2.2.2.2.2.1) ⟨callB_of n hts (g_goodIn hcode) rfl rfl rfl (hts _ hini) (hts _ hl) hd2 hR1, hts _ hinst, hts _ hsel⟩ hpre rfl (by simpa using hn) Y.2.2.2.1.1 rfl (g_cr_ok ad hcr) hd hR2) k T hT X1
  · refine g_back (al := g_z N) X Y (fun ha => (hal.2 ha).imp (fun h => ⟨h, g_sz X Y hT X1 ha⟩) id) (va_runVN (As := as.map (g_v ad)) (rest := st.map (g_v ad)) (C := (g_y N).cls) ⟨X.1, X.2.1, X.2.2.2.1, X.2.2.2.2.1, hts⟩ (hc l D ad ca H.size X.2.2.2.2.2.2.2.2.2.2.2.2.2.2.2.1) ⟨va_cnB n hts (g_goodIn hcode) rfl rfl rfl (X.2.2.2.2.2.2.2.2.2.2.1.2.2.2.2.2.1 _ hl) (hts _ hini) hd2 hR1, hts _ hinst, hts _ hsel⟩ hpre rfl (by simpa using hn) Y.2.2.2.1.1 rfl (g_cr_ok ad hcr) hd hR2) k T hT X1
theorem G_cS (hc : Ct N Z.1 as sg Q') (hd : decode (g_b M) pc = .ok (.invokestatic idx, 3)) (hlk : g_lk (g_y M).cls idx (g_y N)) (hm : g_ms N n) (hn : as.length = n)
    (hft : g_ft M N Z = true) (hcr : g_cr st = true) (hal : (g_a N = true → g_a M = true) ∧ (g_a M = true → g_z N = true ∨ ((g_m N).cells = 0 ∧ ∀ (o : gO) (S : List gH) (sg' : gS), Q' o S sg' → S = Z.1))) (hs : stk = as.reverse ++ st)
    (k : ∀ (o : gO) (S : List gH) (sg' : gS), Q' o S sg' → ∃ r : Option Value, o = .inl r ∧ G M Q (S, Z.2.1 + (g_m N).cells, Z.2.2 + (g_m N).slots) sg' (pc + 3) lv (r.toList ++ st)) : G M Q Z sg pc lv stk := by
  intro p l e R s m args below meth c D A ad ca X H locs ls Y
  subst hs
  have hst : (as.reverse ++ st).map (g_v ad) = (as.map (g_v ad)).reverse ++ st.map (g_v ad) := by simp
  obtain ⟨hR1, hR2⟩ := g_bit (N := N) hft X.2.2.2.2.2.2.2.1
  have hts := X.2.2.2.2.2.2.1
  have hal2 : g_a N = true → g_a M = true := hal.1
  obtain ⟨⟨hini, hcode, hd2⟩, hstat⟩ := hm
  intro T hT X1
  have hpre : PreS s H (va_Pc (as.map (g_v ad)) (g_P D ad ca (g_a N) Z.1 sg H.size)) (as.map (g_v ad)) := ⟨g_blind, g_pre X Y (fun ha => ⟨g_sz X Y hT X1 (hal2 ha), (Y.2.2.2.2 (hal2 ha)).2.1⟩)⟩
  rw [hst]
  rcases hlk with hl | ⟨h, hl⟩
  · refine g_back (al := g_z N) X Y (fun ha => (hal.2 ha).imp (fun h => ⟨h, g_sz X Y hT X1 ha⟩) id) (va_runS (As := as.map (g_v ad)) (rest := st.map (g_v ad)) ⟨X.1, X.2.1, X.2.2.2.1, X.2.2.2.2.1, hts⟩ (hc l D ad ca H.size X.2.2.2.2.2.2.2.2.2.2.2.2.2.2.2.1) ⟨callB_of n hts (g_goodIn hcode) rfl rfl rfl (hts _ hini) (hts _ hl) hd2 hR1, hts _ hstat⟩ hpre rfl (by simpa using hn) Y.2.2.2.1.1 rfl (g_cr_ok ad hcr) hd hR2) k T hT X1
  · refine g_back (al := g_z N) X Y (fun ha => (hal.2 ha).imp (fun h => ⟨h, g_sz X Y hT X1 ha⟩) id) (va_runSN (As := as.map (g_v ad)) (rest := st.map (g_v ad)) ⟨X.1, X.2.1, X.2.2.2.1, X.2.2.2.2.1, hts⟩ (hc l D ad ca H.size X.2.2.2.2.2.2.2.2.2.2.2.2.2.2.2.1) ⟨va_cnB n hts (g_goodIn hcode) rfl rfl rfl (X.2.2.2.2.2.2.2.2.2.2.1.2.2.2.2.2.1 _ hl) (hts _ hini) hd2 hR1, hts _ hstat, trivial⟩ hpre rfl (by simpa using hn) Y.2.2.2.1.1 rfl (g_cr_ok ad hcr) hd hR2) k T hT X1
theorem G_cI {b : Nat} (hc : Ct N Z.1 (.ref b :: as) sg Q') (hd : decode (g_b M) pc = .ok (.invokespecial idx, 3)) (hlk : g_lk (g_y M).cls idx (g_y N)) (hm : g_mi N n) (hn : as.length = n)
    (hft : g_ft M N Z = true) (hcr : g_cr st = true) (hal : (g_a N = true → g_a M = true) ∧ (g_a M = true → g_z N = true ∨ ((g_m N).cells = 0 ∧ ∀ (o : gO) (S : List gH) (sg' : gS), Q' o S sg' → S = Z.1))) (hs : stk = as.reverse ++ .ref b :: st)
    (k : ∀ (o : gO) (S : List gH) (sg' : gS), Q' o S sg' → ∃ r : Option Value, o = .inl r ∧ G M Q (S, Z.2.1 + (g_m N).cells, Z.2.2 + (g_m N).slots) sg' (pc + 3) lv (r.toList ++ st)) : G M Q Z sg pc lv stk := by
  intro p l e R s m args below meth c D A ad ca X H locs ls Y
  subst hs
  have hst : (as.reverse ++ .ref b :: st).map (g_v ad) = (as.map (g_v ad)).reverse ++ .ref (ad b) :: st.map (g_v ad) := by simp [g_v]
  obtain ⟨hR1, hR2⟩ := g_bit (N := N) hft X.2.2.2.2.2.2.2.1
  have hts := X.2.2.2.2.2.2.1
  have hal2 : g_a N = true → g_a M = true := hal.1
  obtain ⟨⟨hini, hcode, hd2⟩, hinst, hnm, hret⟩ := hm
  intro T hT X1
  have hpre : PreS s H (va_Pc ((.ref b :: as).map (g_v ad)) (g_P D ad ca (g_a N) Z.1 sg H.size)) (.ref (ad b) :: as.map (g_v ad)) := ⟨g_blind, g_pre (as := .ref b :: as) X Y (fun ha => ⟨g_sz X Y hT X1 (hal2 ha), (Y.2.2.2.2 (hal2 ha)).2.1⟩)⟩
  rw [hst]
  have hgi := g_goodIn hcode
  rcases hlk with hl | ⟨h, hl⟩
  · refine g_back (al := g_z N) X Y (fun ha => (hal.2 ha).imp (fun h => ⟨h, g_sz X Y hT X1 ha⟩) id) (va_runI (As := as.map (g_v ad)) (rest := st.map (g_v ad)) (bytes := g_b N) (maxL := g_n N) ⟨X.1, X.2.1, X.2.2.2.1, X.2.2.2.2.1, hts⟩ (hc l D ad ca H.size X.2.2.2.2.2.2.2.2.2.2.2.2.2.2.2.1) ⟨by rw [← hret]; exact callB_of n hts hgi rfl rfl rfl (hts _ hini) (hts _ hl) hd2 hR1, hnm, hts _ hinst⟩ hpre rfl (by simpa using hn) Y.2.2.2.1.1 rfl (g_cr_ok ad hcr) hd hR2) k T hT X1
  · refine g_back (al := g_z N) X Y (fun ha => (hal.2 ha).imp (fun h => ⟨h, g_sz X Y hT X1 ha⟩) id) (va_runIN (As := as.map (g_v ad)) (rest := st.map (g_v ad)) (bytes := g_b N) (maxL := g_n N) ⟨X.1, X.2.1, X.2.2.2.1, X.2.2.2.2.1, hts⟩ (hc l D ad ca H.size X.2.2.2.2.2.2.2.2.2.2.2.2.2.2.2.1) ⟨by rw [← hret]; exact va_cnB n hts hgi rfl rfl rfl (X.2.2.2.2.2.2.2.2.2.2.1.2.2.2.2.2.1 _ hl) (hts _ hini) hd2 hR1, hnm, hts _ hinst⟩ hpre rfl (by simpa using hn) Y.2.2.2.1.1 rfl (g_cr_ok ad hcr) hd hR2) k T hT X1
end GCALL
def g_c0 (N : gM) : Bool := decide ((g_m N).cells = 0) && decide ((g_m N).slots = 0)
theorem g_c0_eq {N : gM} (h : g_c0 N = true) : (g_m N).cells = 0 ∧ (g_m N).slots = 0 := by
  simpa [g_c0] using h
