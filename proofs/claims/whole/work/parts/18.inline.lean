/-! calls that are walked through, without a contract: the called method may throw -/
section GIN
variable {p : Program} {l : Launch} {e : Env} {R : Room} {s : State} {m : MethodId} {args : Array Value} {below : List Frame} {meth : Method} {c : Code} {D : va_G} {A : Nat → Prop} {ad ca : Nat → Nat} {M N : gM} {Z : gZ} {sg : gS} {pc : Nat} {lv lvN : List (Option Value)} {st as : List Value} {Q Q' : gO → List gH → gS → Prop} {H : Heap} {locs : List Loc} {ls : Array Slot} {T : State} {mk : MethodId} {methk : Method} {ck : Code} {ig : Instr}
theorem g_inl (X : g_X p l s m args meth c R D A ad ca M) (Y : g_Y s D A ad ca M Z sg lv H locs ls) (hT : T.heap = H) (X1 : Stand p l e R s m args below meth c T locs Z.2.1 Z.2.2)
    (hnm : T.methodNamed? (g_y N) = some mk) (hmk : T.vm.method? mk = some methk) (hck : methk.code = some ck) (hcb : ck.code = g_b N) (hcn : ck.maxLocals = g_n N) (hcr : methk.sig.returnType = g_r N) (hlk : methk.locks = false) (hex : ck.exceptionTable.toList.map (fun h => (h.startPc, h.endPc, h.handlerPc, h.catchType)) = g_hm (g_y N)) (hpl : plainFor (g_y N) = true)
    (hl : g_lp 0 lvN = lv_args 0 as) (hn : (lg_sl as).length ≤ g_n N) (hNa : g_a N = false) (hNx : g_x N = none) (hG : G N Q' (Z.1, 0, 0) sg 0 lvN []) (hft : g_ft M N Z = true) (hc8 : g_cr st = true) (hdg : decode (g_b M) pc = .ok (ig, 3)) :
    ∃ t : State, (∀ acts, Steps p.tables e below (doInvoke e (T.setTop (F0 m pc ls (st.map (g_v ad)))) acts mk (as.map (g_v ad)).toArray).1 t) ∧ gMQ (.java (F0 m pc ls (st.map (g_v ad))) :: below) (g_Q D (va_A (g_w ad ca Z.1 sg) H.size) ad ca (g_z N) (g_m N).cells Q') (as.map (g_v ad)).toArray (T.calling (F0 m pc ls (st.map (g_v ad))) mk (as.map (g_v ad)).toArray) (g_m N).cells (g_m N).slots (va_A (g_w ad ca Z.1 sg) H.size) t := by
  subst hT
  obtain ⟨hR1, hR2⟩ := g_bit (N := N) hft X.2.2.2.2.2.2.2.1
  have hts := X.2.2.2.2.2.2.1
  have h8 : 2 * (F0 m pc ls (st.map (g_v ad))).monitorRoom + ((F0 m pc ls (st.map (g_v ad))).stack.map fun v => v.category).sum ≤ 8 := g_cr_ok (m := m) (pc := pc) (ls := ls) (rest := st.map (g_v ad)) ad hc8
  obtain ⟨Y0, hin⟩ := X1.into (g := F0 m pc ls (st.map (g_v ad))) rfl (Y.2.2.2.1.1.trans X.2.2.2.1.symm) (by rw [X.2.1]; exact hdg) (as.map (g_v ad)).toArray (R' := g_m N) hmk hck hlk (State.plainMethod.of_named hpl hnm hmk) hR1.1 (by rw [hcn]; have := hR1.2; omega) hR2.1 hR2.2
  have hW0 : s.WarmedH (T.calling (F0 m pc ls (st.map (g_v ad))) mk (as.map (g_v ad)).toArray).vm := X1.warmed
  have X' : g_X p l (T.calling (F0 m pc ls (st.map (g_v ad))) mk (as.map (g_v ad)).toArray) mk (as.map (g_v ad)).toArray methk ck (g_m N) D (va_A (g_w ad ca Z.1 sg) T.heap.size) ad ca N :=
    ⟨X.1, hcb, hcr, hcn, findClass_of_methodNamed hnm, hlk, fun w hw => word_at hW0 (good_of_word (g_T_good hw)) (hts w hw), rfl, va_K.moved hW0.alike X.2.2.2.2.2.2.2.2.1, fun q hq => Or.inr hq, g_K_call X.2.2.2.2.2.2.2.2.2.2.1 Y.2.2.1 rfl hW0 (g_Asub X Y), (name_of_methodNamed hnm hmk).1, X.2.2.2.2.2.2.2.2.2.2.2.2.1, fun r hr => (by rw [hNx] at hr; cases hr), fun q cell hq hc => g_ns Y.1 q hq hc, X.2.2.2.2.2.2.2.2.2.2.2.2.2.2.2.1, hex⟩
  have hen := lv_entry (as.map (g_v ad)) (n := g_n N) (by rw [g_slen]; exact hn)
  have hent : entryFrame mk (as.map (g_v ad)).toArray ck.maxLocals = F0 mk 0 ((lg_sl (as.map (g_v ad)) ++ List.replicate (g_n N - (lg_sl (as.map (g_v ad))).length) Slot.unset).toArray) [] := by rw [hcn, lg_entry_eq]
  generalize (lg_sl (as.map (g_v ad)) ++ List.replicate (g_n N - (lg_sl (as.map (g_v ad))).length) Slot.unset).toArray = lsN at hen hent
  rw [g_args, ← hl] at hen
  obtain ⟨t, a1, a2⟩ := hG p l e (g_m N) _ mk _ (.java (F0 m pc ls (st.map (g_v ad))) :: below) methk ck D _ ad ca X' T.heap [] lsN ⟨Y.1, (show va_D (fun _ => True) (g_w ad ca Z.1 sg) from Y.2.1.weaken (fun _ _ _ _ => trivial)).self, va_S.rf, hen, fun ha => (by rw [hNa] at ha; cases ha)⟩ ((T.setTop (F0 m pc ls (st.map (g_v ad)))).pushFrame (.java (entryFrame mk (as.map (g_v ad)).toArray ck.maxLocals))) rfl Y0
  refine ⟨t, fun acts => ?_, a2⟩
  rw [hin acts]
  rw [hent] at a1 ⊢
  exact Steps.weaken (mid := [.java (F0 m pc ls (st.map (g_v ad)))]) a1
theorem G_iS {stk : List Value} {idx : Nat} {hh : List (Nat × Nat × Nat × Nat)} (hG : G N Q' (Z.1, 0, 0) sg 0 lvN []) (hl : g_lp 0 lvN = lv_args 0 as) (hn : (lg_sl as).length ≤ g_n N) (hNa : g_a N = false) (hNx : g_x N = none) (hhh : hh = g_hm (g_y N)) (hpl : plainFor (g_y N) = true) (hd : decode (g_b M) pc = .ok (.invokestatic idx, 3)) (hlk : Cond.methodLink (g_y M).cls idx (g_y N) ∈ g_T) (hst : Cond.static (g_y N) ∈ g_T) (hini : Cond.initialized (g_y N).cls ∈ g_T) (hcode : Cond.codeWith (g_y N) (g_b N) (g_n N) (g_r N) hh ∈ g_T) (hy : (g_y N).cls ≠ "java/lang/invoke/MethodHandle" ∧ (g_y N).cls ≠ "java/lang/invoke/VarHandle") (hln : (parseMethodDescriptor (g_y N).desc).map (fun d => d.parameters.length) = some as.length) (hft : g_ft M N Z = true) (hc8 : g_cr st = true) (hMa : g_a M = false) (hs : stk = as.reverse ++ st)
    (k : ∀ (o : gO) (S : List gH) (sg' : gS), Q' o S sg' → ∃ r : Option Value, o = .inl r ∧ G M Q (S, Z.2.1 + (g_m N).cells, Z.2.2 + (g_m N).slots) sg' (pc + 3) lv (r.toList ++ st)) : G M Q Z sg pc lv stk := by
  intro p l e R s m args below meth c D A ad ca X H locs ls Y
  subst hs
  have hst2 : (as.reverse ++ st).map (g_v ad) = (as.map (g_v ad)).reverse ++ st.map (g_v ad) := by simp
  have hts := X.2.2.2.2.2.2.1
  rw [hst2]
  refine g_back (Q' := Q') (al := g_z N) (mc := (g_m N).cells) (ms := (g_m N).slots) (a := (as.map (g_v ad)).toArray) X Y (fun ha => by rw [hMa] at ha; cases ha) ?_ k
  intro T hT X1
  obtain ⟨mk, methk, ck, hnm, hmk, hck, hcb, hcn, htab, hcr, hlk2, hsig⟩ := Cond.codeWith_spec (hts _ hcode)
  have hstatic : methk.isStatic = true := Cond.static_spec hnm hmk (hts _ hst)
  obtain ⟨kP, hkP, -⟩ := className_of_methodNamed hnm
  have hinitP := Cond.initialized_spec (findClass_of_methodNamed hnm) hkP (hts _ hini)
  have hlen : (as.map (g_v ad)).length = methk.sig.parameters.length := by
    rw [hsig] at hln
    rw [List.length_map]
    exact (Option.some.inj hln).symm
  obtain ⟨vm₁, X₁, hstep⟩ := X1.invokestatic X.1 X.2.2.2.2.1 (hts _ hlk) hnm hmk hstatic hkP hinitP hy (g := F0 m pc ls ((as.map (g_v ad)).reverse ++ st.map (g_v ad))) rfl (argsL := as.map (g_v ad)) (rest := st.map (g_v ad)) hlen rfl (by rw [X.2.1]; exact hd)
  have hmk' : (T.setVm vm₁).vm.method? mk = some methk := by
    rw [X₁.warmed.alike.method?]
    exact hmk
  obtain ⟨t, a1, a2⟩ := g_inl (T := T.setVm vm₁) (mk := mk) (methk := methk) (ck := ck) X Y hT X₁ (X₁.named hnm) hmk' hck hcb hcn hcr hlk2 (htab.trans hhh) hpl hl hn hNa hNx hG hft hc8 hd
  obtain ⟨o, b1, b2, b3, L, b4, b5, b6⟩ := a2
  obtain ⟨⟨o', S', sg', hE, hq, c1, c2, c3⟩, hF⟩ := id b3
  obtain ⟨r, rfl, -⟩ := k o' S' sg' hq
  have ho : o = .returned (r.map (g_v ad)) := hE
  subst ho
  obtain ⟨T', X', hW', hB', ht⟩ := X₁.outOf (g := F0 m pc ls (st.map (g_v ad))) rfl (by rw [X.2.1]; exact hd) b2 b4 b5
  refine ⟨r.map (g_v ad), _, t, T', L, hT, X', b6, by rw [ht]; rfl, by rw [ht]; rfl, b3, fun target h => ?_⟩
  refine hstep _ fun acts => (a1 acts).trans ?_
  rw [ht]
  exact h
end GIN
/-! the search for a handler, the catch type's place in the pool cold or warm (own rows: what the search gives, and the tables that it leaves) -/
def gFT (e : Env) (s : State) (f : JFrame) (a : Addr) (es : List ExceptionTableEntry) (h : Handler) (vm' : Vm) : Prop :=
  ∀ (q : Handler → Pre) (E : CtlPost) (d : Bool) (acts : List Action), wp (findHandler.go f a es) q E e d acts s ↔ q h d acts (s.setVm vm')
theorem gFT_yes {e : Env} {s : State} {f : JFrame} {a : Addr} {x : ExceptionTableEntry} {t : List ExceptionTableEntry} {c : ClassId} {cell : Cell} (hx : covers x f.pc = true) (h0 : x.catchType ≠ 0)
    (hl : s.vm.ClassLinks e.platform f.method.cls x.catchType c) (hcell : s.heap[a]? = some cell) (hobj : ∀ k, cell.vm ≠ .statics k)
    (hk : ∃ k, s.vm.classes[cell.cls]? = some k) (hc : ∃ k, s.vm.classes[c]? = some k) (hfit : s.vm.assignable cell.cls c = true) :
    gFT e s f a (x :: t) (.found x.handlerPc) (s.vm.noted f.method.cls x.catchType (.cls c)) := by
  intro q E d acts
  simp only [covers] at hx
  obtain ⟨ha, ht⟩ := (resolveClass_links e.toSetting hl).op (op := VmOp.resolveClass f.method.cls x.catchType) rfl
  have hal : s.vm.Alike (s.vm.noted f.method.cls x.catchType (.cls c)) := (Vm.Alike.refl s.vm).noted _ _ _
  obtain ⟨k1, hk1⟩ := hk
  obtain ⟨k2, hk2⟩ := hc
  obtain ⟨k1', hk1', -⟩ := hal.2.2 _ _ hk1
  obtain ⟨k2', hk2', -⟩ := hal.2.2 _ _ hk2
  have hf2 : (s.vm.noted f.method.cls x.catchType (.cls c)).assignable cell.cls c = true := by rw [hal.assignable]; exact hfit
  simp [findHandler.go, hx, h0, ha, ht, hcell, hobj, hk1', hk2', hf2, VmOp.dirties, VmOp.acts]
theorem gFT_no {e : Env} {s : State} {f : JFrame} {a : Addr} {x : ExceptionTableEntry} {t : List ExceptionTableEntry} {c : ClassId} {cell : Cell} {h : Handler} {vm' : Vm} (hx : covers x f.pc = true) (h0 : x.catchType ≠ 0)
    (hl : s.vm.ClassLinks e.platform f.method.cls x.catchType c) (hcell : s.heap[a]? = some cell) (hobj : ∀ k, cell.vm ≠ .statics k)
    (hk : ∃ k, s.vm.classes[cell.cls]? = some k) (hc : ∃ k, s.vm.classes[c]? = some k) (hfit : s.vm.assignable cell.cls c = false)
    (ht2 : gFT e (s.setVm (s.vm.noted f.method.cls x.catchType (.cls c))) f a t h vm') : gFT e s f a (x :: t) h vm' := by
  intro q E d acts
  simp only [covers] at hx
  obtain ⟨ha, ht⟩ := (resolveClass_links e.toSetting hl).op (op := VmOp.resolveClass f.method.cls x.catchType) rfl
  have hal : s.vm.Alike (s.vm.noted f.method.cls x.catchType (.cls c)) := (Vm.Alike.refl s.vm).noted _ _ _
  obtain ⟨k1, hk1⟩ := hk
  obtain ⟨k2, hk2⟩ := hc
  obtain ⟨k1', hk1', -⟩ := hal.2.2 _ _ hk1
  obtain ⟨k2', hk2', -⟩ := hal.2.2 _ _ hk2
  have hf2 : (s.vm.noted f.method.cls x.catchType (.cls c)).assignable cell.cls c = false := by rw [hal.assignable]; exact hfit
  have h3 := ht2 q E d acts
  rw [State.setVm_twice] at h3
  rw [← h3]
  simp [findHandler.go, hx, h0, ha, ht, hcell, hobj, hk1', hk2', hf2, VmOp.dirties, VmOp.acts]
theorem g_stepCatch {e : Env} {s : State} {a : Addr} {f : JFrame} {r : List Frame} {pc : Nat} {vm' : Vm} {meth : Method} {code : Code} (hm : s.vm.method? f.method = some meth) (hc : meth.code = some code) (hfind : gFT e s f a code.exceptionTable.toList (.found pc) vm') :
    (stepThrowing e s a (.java f :: r)).Is ((s.setVm vm').setFrames (.java { f with pc := pc, stack := [.ref a] } :: r)) [] := by
  have hf : ∀ (q : Handler → Pre) (E : CtlPost) (d : Bool) (acts : List Action), wp (findHandler f a) q E e d acts s ↔ q (.found pc) d acts (s.setVm vm') := fun q E d acts => (W.findHandler_eq hm hc).trans (hfind q E d acts)
  simp only [stepThrowing, searchFrame, vmDo]
  generalize hr : Sem.go _ e false [] s = res
  obtain ⟨as, rfl, ha⟩ := Sem.eq_ok_of hr (a := Handler.found pc) (s' := s.setVm vm') (acts' := []) (by simp [hf _ _ _ _])
  exact ⟨rfl, ha⟩
theorem g_caught {tb : Tables} {e : Env} {s target : State} {g : JFrame} {c : Code} {below : List Frame} {a : Addr} (h : At s g.method c below) {meth : Method} {code : Code} (hm : s.vm.method? g.method = some meth) (hc : meth.code = some code) {pc : Nat} {vm' : Vm}
    (hfind : gFT e ((s.setTop g).pushFrame (.throwing a)) g a code.exceptionTable.toList (.found pc) vm') (hrest : Steps tb e below ((s.setVm vm').setTop { g with pc := pc, stack := [.ref a] }) target) :
    Steps tb e below ((s.setTop g).pushFrame (.throwing a)) target := by
  obtain ⟨hgo, hw⟩ := h.throwing a
  refine Steps.head hgo hw ?_
  rw [stepThread_throwing (frames_entered h.top _), (g_stepCatch (s := (s.setTop g).pushFrame (.throwing a)) hm hc hfind).1]
  obtain ⟨g₀, hg⟩ := Option.isSome_iff_exists.mp h.top
  obtain ⟨r, hr⟩ := State.topJava?_eq_some.mp hg
  have hr' : (s.setVm vm').frames = .java g₀ :: r := hr
  have e1 : ∀ (u : State) (F K : List Frame), ((u.setFrames F).setVm vm').setFrames K = (u.setVm vm').setFrames K := by
    intro u F K
    rw [show (u.setFrames F).setVm vm' = (u.setVm vm').setFrames F from rfl, State.setFrames_setFrames]
  rw [State.setTop_of_frames _ hr'] at hrest
  rw [hr, List.tail_cons, State.pushFrame, e1, State.setTop_of_frames _ hr, e1]
  exact hrest
