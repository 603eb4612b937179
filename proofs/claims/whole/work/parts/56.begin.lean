/-! THE CLAIM OUT OF ONE WALK OF THE LAW'S BODY. Your part is whole_start (and what it stands on); all else here is the same for every law, but numbers. -/
def R_law : String := "BandPressLaw"
def lw_P (b : Addr) (xs : List Int32) (args : Array Value) (s : State) : Prop := args = #[.ref b] ∧ s.IntsAt b xs ∧ xs.length ≤ 2048 ∧ (Jvm.Cond.and given_1 narrow_1).before args s = true
def lw_Q (_ : Array Value) (s : State) (o : Outcome) (t : State) : Prop := o = .returned (some (.int 1)) ∧ Framed s o t [] 1103 59611
def lw_Z (below : List Frame) (a : Array Value) (s : State) : State → Prop := fun t => ∃ o, t.status = .running ∧ Ended t below o ∧ lw_Q a s o t
/-- the law's own end, with 1 on the stack, nothing written that was there before, its room as the claim has it -/
theorem lw_ret {p : Program} {l : Launch} {e : Env} {s : State} {m : MethodId} {below : List Frame} {meth : Method} {c : Code} {b : Nat} (hx : p.tables.exec = Jvm.exec) (hb : c.code = code) (hr : meth.sig.returnType = ret) (hlocks : meth.locks = false) {pc : Nat} {H : Heap} {ls : Array Slot} (hdg : decode code pc = .ok (.ireturn, 1)) : W p l e room_1 s m #[Value.ref b] below meth c H [] 1103 59611 (lw_Z below #[Value.ref b] s) (F0 m pc ls [.int 1]) := by
  intro T hT X
  obtain ⟨fs, hret, hrun, hended, hW, hframe⟩ := X.leave (v := some (.int 1)) (hlocks := hlocks) (fun h => by rw [hr] at h; cases h)
  have hmeth' : T.vm.method? m = some meth := X.method'
  refine ⟨T.setFrames fs, ?_, .returned (some (.int 1)), hrun, hended, rfl, ⟨_, rfl⟩, hW, hframe⟩
  jvm_step X.here [X.here.top, hx, hb, hdg, hmeth', hr, ret, narrow_b1]
  (try refine ⟨rfl, ?_⟩); (try refine ⟨rfl, ?_⟩)
  first | (intro acts; rw [hret _ acts rfl rfl rfl]) | rw [hret _ _ rfl rfl rfl]
  exact Steps.refl _
/-- what holds at the law's entry: the machine, the code, the tables' words (any of lw_tbl by 'hts w (by decide +kernel)'), the script of L ints xs at the cell b, what the Statement gives of the start (any of its parts by flat_of_before) -/
def lw_At (p : Program) (s : State) (m : MethodId) (meth : Method) (c : Code) (b L : Nat) (xs : Nat → Int32) : Prop :=
  p.tables.exec = Jvm.exec ∧ c.code = code ∧ meth.sig.returnType = ret ∧ c.maxLocals = 7 ∧ s.vm.findClass R_law = some m.cls ∧ (∀ w ∈ lw_tbl, w.before #[Value.ref b] s = true) ∧ va_X b L xs s s.heap ∧ b < s.heap.size ∧ meth.locks = false ∧ (Jvm.Cond.and given_1 narrow_1).before #[Value.ref b] s = true ∧ meth.name = "law" ∧ c.exceptionTable.isEmpty = true

theorem g_j_same (s : gS) : g_j s s = s := by
  funext q
  simp [g_j]
set_option maxHeartbeats 4000000 in
theorem g_begin {p : Program} {e : Env} {s : State} {m : MethodId} {below : List Frame} {meth : Method} {c : Code} (l : Launch) {b L : Nat} {xs : Nat → Int32} (hst : l.stackTraces = false) (hL : L ≤ 2048) (C0 : lw_At p s m meth c b L xs) {sB sM : gS} {z1 z2 : Int} (hB : B_init_k0 (g_nw (fun _ _ => 0) 0) = some (z1, sB)) (hM : M_init_k0 (g_nw sB 49) = some (z2, sM))
    (R : Nat → gS → gS → Prop) (h0 : R 0 (g_nw sM 74) (g_nw sM 74)) (hR : ∀ (k : Nat) (sC sN : gS), 4 * k + 4 ≤ L → R k sC sN → g_stp (R (k + 1)) sC sN) : W p l e room_1 s m #[Value.ref b] below meth c s.heap [] 0 0 (lw_Z below #[Value.ref b] s) (entryFrame m ([Value.ref b] : List Value).toArray 7) := by
  obtain ⟨hexec, hcode, hret, hml, hfc, htbl, hX, hbl, hlocks, hgv, hname, hemp⟩ := C0
  have hA : ∀ a : Nat, a < s.heap.size → ¬ (fun q : Nat => s.heap.size ≤ q) a := fun a h1 h2 => Nat.not_lt.mpr h2 h1
  obtain ⟨D, ad, ca, hK, hKK, had, ha0, hab⟩ := g_entry (A := fun q : Nat => s.heap.size ≤ q) htbl hgv hA
  have hl := law_loop (r := (L, xs)) hL R hR 513 0 (g_nw sM 74) (g_nw sM 74) rfl h0
  rw [g_j_same] at hl
  have hG := law_pre (r := (L, xs)) (Q := QT) hB hM hl
  have hX' : g_X p l s m #[Value.ref b] meth c room_1 D (fun q : Nat => s.heap.size ≤ q) ad ca (M_law (L, xs) true) :=
    ⟨hexec, hcode, hret, hml, hfc, hlocks, fun w hw => htbl w (List.mem_filter.mp hw).1, rfl, hK, fun q hq => hq, hKK, hname, had, fun r hr => (by cases hr; rw [hab]; exact ⟨hX, hbl, hA b hbl⟩), fun q cell hq hc => absurd (Array.getElem?_eq_some_iff.mp hc).1 (Nat.not_lt.mpr hq), hst, by rw [Array.isEmpty_iff.mp hemp]; exact (show g_hm ⟨"BandPressLaw", "law", "([I)Z"⟩ = [] by decide).symm⟩
  intro T hT X1
  have hen := lv_entry [Value.ref b] (n := 7) (Nat.le_of_ble_eq_true rfl)
  rw [lg_entry_eq]
  generalize (lg_sl [Value.ref b] ++ List.replicate (7 - (lg_sl [Value.ref b]).length) Slot.unset).toArray = ls at hen ⊢
  have hen' : lv_has ls 7 (g_lq ad [some (.ref 4000), none, none, none, none, none, none]) := by
    show lv_has ls 7 [(0, .ref (ad 4000))]
    rw [hab]
    exact hen
  obtain ⟨t, a1, o, b1, b2, ⟨⟨o', S', sg', hE, hq, -⟩, -⟩, Lc, b4, b5, b6⟩ := hG p l e room_1 s m #[Value.ref b] below meth c D _ ad ca hX' s.heap [] ls ⟨fun k q h => (by simp [g_w] at h), ⟨fun i j x y h => (by simp [g_w] at h), fun k q h => (by simp [g_w] at h)⟩, va_S.rf, hen', fun _ => ⟨ha0.symm, by decide, fun _ => rfl⟩⟩ T hT X1
  have ho' : o' = .inl (some (gi 1)) := hq
  subst ho'
  have ho : o = .returned (some (.int 1)) := hE
  exact ⟨t, a1, o, b1, b2, ho, ⟨_, ho⟩, b4, b5.weaken (fun y hy hlt => absurd hlt (Nat.not_lt.mpr (b6 y hy))) (Nat.le_refl _) (Nat.le_refl _)⟩
