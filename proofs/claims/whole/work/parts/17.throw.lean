/-! a method throws an exception of its own making -/
section GTH
variable {p : Program} {l : Launch} {e : Env} {R : Room} {s : State} {m : MethodId} {args : Array Value} {below : List Frame} {meth : Method} {c : Code} {T : State} {locs : List Loc} {cells slots : Nat}
/-- the walk seen from where it is now -/
theorem g_reroot (X : Stand p l e R s m args below meth c T locs cells slots) (h1 : cells ≤ R.cells) (h2 : slots ≤ R.slots) : Stand p l e { R with cells := R.cells - cells, slots := R.slots - slots } (T.setFrames s.frames) m args below meth c T [] 0 0 := by
  obtain ⟨g₀, hfr⟩ := X.frames_eq
  have hcur : T.cur < T.threads.size := State.cur_lt_of_frames hfr
  have hf : (T.setFrames s.frames).frames = s.frames := State.frames_setFrames _ hcur
  have hm : ∀ mm, (T.setFrames s.frames).vm.method? mm = s.vm.method? mm := fun mm => X.warmed.alike.method? mm
  have hmT : ∀ mm, T.vm.method? mm = s.vm.method? mm := X.warmed.alike.method?
  have hl : (T.setFrames s.frames).localsInUse = s.localsInUse := by
    rw [State.localsInUse_invoking (hf.trans X.frames) X.method' X.code, State.localsInUse_invoking X.frames X.method X.code]
  obtain ⟨t, ht, -⟩ := State.frames_cons (hf.trans X.frames)
  obtain ⟨t0, ht0, -⟩ := State.frames_cons hfr
  have hcur' : (T.setFrames s.frames).cur < (T.setFrames s.frames).threads.size := State.cur_lt_of_frames (hf.trans X.frames)
  refine ⟨X.admits, X.cas, X.clock, hf.trans X.frames, ?_, ?_, X.method', X.code, X.here, X.tail, State.WarmedH.refl _, ?_, ?_, ?_⟩
  · have hr := X.room
    have ha := X.heapSize
    have hb := X.used
    have hk : (T.setFrames s.frames).slotsTrue = true := X.book
    have hlim : e.platform.stackLimits (T.setFrames s.frames).me = e.platform.stackLimits s.me := by rw [State.stackLimits_setFrames]; exact X.limits
    have hby : (T.setFrames s.frames).me.stackBytes = s.me.stackBytes := by rw [State.stackBytes_setFrames]; exact X.bytes
    simp only [State.hasRoom, Bool.and_eq_true, decide_eq_true_eq] at hr ⊢
    rw [hl, hf, hlim, hby]
    refine ⟨⟨⟨⟨hr.1.1.1.1, hr.1.1.1.2⟩, ?_⟩, ?_⟩, hk⟩
    · show T.heap.size + (R.cells - cells) ≤ _
      have := hr.1.1.2
      omega
    · show T.slotsUsed + (R.slots - slots) ≤ _
      have := hr.1.2
      omega
  · have h := X.hears
    cases below with
    | nil => simpa [State.hears, hmT] using h
    | cons f r => cases f <;> first | exact h | simpa [State.hears, State.code?_eq, hmT] using h
  · rw [State.stackLimits_setFrames]
  · rw [State.stackBytes_setFrames]
  · have h := (State.sameButNew.refl (T.setFrames s.frames) ht).setFrames T.frames hcur'
    rw [State.setFrames_setFrames, State.setFrames_self ht0] at h
    exact h
end GTH
def g_exn (_ : Nat) : List String := ["java/lang/RuntimeException", "java/lang/Exception"]
def g_sr (w : Cond) : Bool := decide (w = .isRef (.static "java/lang/Throwable" "UNASSIGNED_STACK" "[Ljava/lang/StackTraceElement;")) || decide (w = .isRef (.static "java/lang/Throwable" "SUPPRESSED_SENTINEL" "Ljava/util/List;")) || decide (w = .laysStatic "java/lang/Throwable" "UNASSIGNED_STACK" "[Ljava/lang/StackTraceElement;") || decide (w = .laysStatic "java/lang/Throwable" "SUPPRESSED_SENTINEL" "Ljava/util/List;")
def g_exw (own : String) (idx ic k : Nat) : Prop := Cond.classLink own idx (g_ex k) ∈ g_T ∧ Cond.initialized (g_ex k) ∈ g_T ∧ Bundle.fit (g_ex k) = true ∧ (∀ n ∈ g_exn k, Bundle.fit n = true) ∧ ∀ w ∈ Bundle.ownAtoms0 own ic (g_ex k) (g_exn k), w ∈ g_T ∨ w ∈ g_N ∨ g_sr w = true
def g_exr (M : gM) (Z : gZ) (st : List Value) : Bool := decide (5 < (g_m M).frames) && decide ((st.map fun v => v.category).sum + 81 ≤ (g_m M).locals) && decide (Z.2.1 + 1 = (g_m M).cells) && decide (Z.2.2 + 6 = (g_m M).slots)
theorem g_isRef {C n d : String} {A : Nat → Prop} {s : State} {args : Array Value} (h : g_Zs C n d A s s.heap) : (Cond.isRef (.static C n d)).before args s = true := by
  obtain ⟨cf, kf, fi, f, a, cell, v, h0, h1, h2, h3, h4, h5, h6, h7, h8, h9, h10, -⟩ := h
  rcases h10 with rfl | ⟨t, rfl⟩ <;> simp [Cond.before, Cond.holds, Cond.value, Term.eval, State.fieldNamed?, h1, h2, h3, h4, h5, h9]
theorem g_laysS {C n d : String} {A : Nat → Prop} {s : State} {args : Array Value} (h : g_Zs C n d A s s.heap) : (Cond.laysStatic C n d).before args s = true := by
  obtain ⟨cf, kf, fi, f, a, cell, v, h0, h1, h2, h3, h4, h5, h6, h7, h8, h9, h10, -⟩ := h
  simp [Cond.before, Cond.holds, Cond.value, h0, h1, h2, h3, h4, h5, h6, h7, h8]
theorem g_N_tab {w : Cond} (h : w ∈ g_N) : w.onTables = true := by
  have hk := (List.mem_filter.mp h).2
  cases w <;> first | rfl | simp [g_isN] at hk
theorem g_cellEq {a b : Cell} (h : b = { a with slots := b.slots }) (hs : ∀ i : Nat, b.slots[i]? = a.slots[i]?) : b = a := by
  have e : b.slots = a.slots := Array.ext_getElem? hs
  rw [h, e]
section GTX
variable {M : gM} {Q : gO → List gH → gS → Prop} {Z : gZ} {sg : gS} {pc : Nat} {lv : List (Option Value)} {st : List Value} {idx ic : Nat}
theorem G_throw (k : Nat) (hd0 : decode (g_b M) pc = .ok (.new idx, 3)) (hd1 : decode (g_b M) (pc + 3) = .ok (.dup, 1)) (hd2 : decode (g_b M) (pc + 3 + 1) = .ok (.invokespecial ic, 3)) (hd3 : decode (g_b M) (pc + 3 + 1 + 3) = .ok (.athrow, 1)) (hx : g_exw (g_y M).cls idx ic k) (hn : (g_y M).cls ≠ "BandPressLaw") (hr : g_exr M Z st = true) (hz : g_z M = false) (hq : Q (.inr k) Z.1 sg) : G M Q Z sg pc lv st := by
  intro p l e R s m args below meth c D A ad ca X H locs ls Y T hT X1
  obtain ⟨hcl, hini, hfit, hfitn, hat⟩ := hx
  simp only [g_exr, Bool.and_eq_true, decide_eq_true_eq] at hr
  obtain ⟨⟨⟨hr1, hr2⟩, hr3⟩, hr4⟩ := hr
  have hR := X.2.2.2.2.2.2.2.1
  have hts := X.2.2.2.2.2.2.1
  have hexT : c.exceptionTable.toList = [] := by
    have h := X.2.2.2.2.2.2.2.2.2.2.2.2.2.2.2.2
    rw [g_hm, if_neg hn] at h
    exact List.map_eq_nil_iff.mp h
  have htr : e.platform.stackTraces = false := by
    have := X1.admits.platform
    rw [this]
    exact X.2.2.2.2.2.2.2.2.2.2.2.2.2.2.2.1
  have X2 := g_reroot X1 (by rw [hR]; omega) (by rw [hR]; omega)
  have hW0 : s.WarmedH (T.setFrames s.frames).vm := X1.warmed
  have hts' : ∀ w ∈ g_T, w.before args (T.setFrames s.frames) = true := fun w hw => word_at hW0 (good_of_word (g_T_good hw)) (hts w hw)
  have hown' : (T.setFrames s.frames).vm.findClass (g_y M).cls = some m.cls := by
    rw [hW0.alike.findClass]
    exact X.2.2.2.2.1
  have hK := g_K_call (U := T.setFrames s.frames) (B := fun q => A q) X.2.2.2.2.2.2.2.2.2.2.1 Y.2.2.1 hT hW0 (fun _ h => h)
  have hat' : ∀ w ∈ Bundle.ownAtoms0 (g_y M).cls ic (g_ex k) (g_exn k), w.before args (T.setFrames s.frames) = true := by
    intro w hw
    rcases hat w hw with h | h | h
    · exact hts' w h
    · exact va_Nw.use (g_N_tab h) (hK.2.2.2.2.2.1 w h)
    · simp only [g_sr, Bool.or_eq_true, decide_eq_true_eq] at h
      rcases h with ((rfl | rfl) | rfl) | rfl
      · exact g_isRef hK.2.2.2.2.2.2.1
      · exact g_isRef hK.2.2.2.2.2.2.2.1
      · exact g_laysS hK.2.2.2.2.2.2.1
      · exact g_laysS hK.2.2.2.2.2.2.2.1
  have inner : W p l e { R with cells := R.cells - Z.2.1, slots := R.slots - Z.2.2 } (T.setFrames s.frames) m args below meth c T.heap [] 0 0 (fun U => U.status = .running ∧ Ended U below (.threw T.heap.size) ∧ (T.setFrames s.frames).WarmedH U.vm ∧ (T.setFrames s.frames).sameButNew ({ U with vm := (T.setFrames s.frames).vm } : State) [] (0 + 1) (0 + 6) ∧ ∃ ce : Cell, U.heap[T.heap.size]? = some ce ∧ Bundle.OwnCell args (T.setFrames s.frames) (g_ex k) T.heap.size .null ce) (F0 m pc ls (st.map (g_v ad))) := by
    refine W.newc (C := g_ex k) (n := 6) X.1 X.2.1 hown' (hts' _ hcl) (hat' _ (by simp [Bundle.ownAtoms0])) (hts' _ hini) rfl hd0 (by show 0 + 1 ≤ R.cells - Z.2.1; rw [hR]; omega) (by show 0 + 6 ≤ R.slots - Z.2.2; rw [hR]; omega) (fun cC kC h1 h2 h3 h4 => ?_)
    refine lv_dup X.1 X.2.1 hd1 rfl ?_
    intro T2 hT2 X3
    have e2 : ((st.map (g_v ad)).map fun v => v.category) = st.map fun v => v.category := by
      rw [List.map_map]
      exact List.map_congr_left fun v _ => g_v_cat ad v
    obtain ⟨U, a1, a2, a3, a4, a5, ce, a6, a7⟩ := X3.ctorThrow0 (own := (g_y M).cls) (cls := g_ex k) (names := g_exn k) (ic := ic) (a := T.heap.size) (cX := cC) (kX := kC) (rest := st.map (g_v ad)) (g := F0 m (pc + 3 + 1) ls (.ref T.heap.size :: .ref T.heap.size :: st.map (g_v ad))) X.1 htr hown' hfit hfitn hat' (fun x hx => by cases hx) h1 h2
      (by rw [hT2, Array.getElem?_push_size]) (Nat.le_refl _) rfl (Y.2.2.2.1.1.trans X.2.2.2.1.symm) rfl rfl rfl (by rw [X.2.1]; exact hd2) (by rw [X.2.1]; exact hd3)
      (fun x hx => by rw [hexT] at hx; cases hx) (by show 2 + 3 < R.frames; rw [hR]; omega) (by
        show 2 * 0 + (1 + ((st.map (g_v ad)).map fun v => v.category).sum) + (13 * (2 + 1) + 41) ≤ R.locals
        rw [e2, hR]
        omega) X.2.2.2.2.2.1
    exact ⟨U, a1, a2, a3, a4, a5, ce, a6, a7⟩
  obtain ⟨U, b1, b2, b3, b4, b5, ce, b6, b7⟩ := inner T rfl X2
  have hsT : T.sameButNew ({ U with vm := T.vm } : State) [] 1 6 := by
    obtain ⟨e1, r⟩ := b5
    rw [State.setFrames_setFrames] at e1
    exact ⟨e1, r⟩
  have hheap : ∀ q : Nat, q < H.size → U.heap[q]? = H[q]? := by
    intro q hq2
    have hlt : q < T.heap.size := by rw [hT]; exact hq2
    obtain ⟨c', q1, q2, q3, q4⟩ := hsT.2.2.2.2.2 q _ (Array.getElem?_eq_getElem hlt)
    have e1 := g_cellEq q2 (fun i => q4 i (by simp))
    rw [← hT, Array.getElem?_eq_getElem hlt, ← e1]
    exact q1
  have hsz : H.size ≤ U.heap.size := by
    have := hsT.2.1
    rw [hT] at this
    exact this
  refine ⟨U, b1, .threw T.heap.size, b2, b3, ⟨⟨.inr k, Z.1, sg, ⟨T.heap.size, ce, rfl, b6, fun z hz2 => ?_, ?_⟩, hq, ?_, Y.2.1, fun ha => g_nz hz ha⟩, ?_, ?_⟩, locs, ?_, ?_, Y.2.2.1.2.2⟩
  · rw [b7.vm] at hz2
    cases hz2
  · rw [b4.alike.findClass]
    exact b7.cls
  · exact Y.1.kept fun k2 q hk2 => hheap q.1 (Y.1 k2 q hk2).lt
  · exact Nat.le_trans Y.2.2.1.1 hsz
  · intro q h1 h2
    rw [hheap q (Nat.lt_of_lt_of_le h1 Y.2.2.1.1)]
    exact Y.2.2.1.2.1 q h1 h2
  · exact State.WarmedH.trans X1.warmed b4
  · have h := X1.same.trans (hsT.setVm s.vm)
    rw [List.append_nil, hr3, hr4] at h
    exact h
end GTX
theorem g_exa {ws : List Cond} (h : (ws.all fun w => (decide (w ∈ lw_tbl) && (goodWord w || g_isN w)) || g_sr w) = true) : ∀ w ∈ ws, w ∈ g_T ∨ w ∈ g_N ∨ g_sr w = true := by
  intro w hw
  have h1 := List.all_eq_true.mp h w hw
  simp only [Bool.or_eq_true, Bool.and_eq_true, decide_eq_true_eq] at h1
  rcases h1 with ⟨h2, h3 | h3⟩ | h2
  · exact Or.inl (List.mem_filter.mpr ⟨h2, h3⟩)
  · exact Or.inr (Or.inl (List.mem_filter.mpr ⟨h2, h3⟩))
  · exact Or.inr (Or.inr h2)
