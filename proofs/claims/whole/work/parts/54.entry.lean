/-! what the Statement gives at the law's entry -/
def g_tm (i : Nat) : Term := match i with
  | 0 => .string "BandPress$Text" 65
  | 1 => .string "BandPress$Text" 67
  | 2 => .string "BandPress$Text" 69
  | _ => .string "BandPress$Text" 59
abbrev g_fl0 : List Cond := flatC (Jvm.Cond.and given_1 narrow_1)
set_option maxHeartbeats 4000000 in
set_option maxRecDepth 100000 in
theorem g_f1 : ∀ i, i < 4 → Cond.exactly (g_tm i) "java/lang/String" ∈ g_fl0 ∧ Cond.eq (.field (g_tm i) "java/lang/String" "coder" "B") (.int 0) ∈ g_fl0 ∧ Cond.arrayOf (.field (g_tm i) "java/lang/String" "value" "[B") .byte ∈ g_fl0 ∧ Cond.eq (.length (.field (g_tm i) "java/lang/String" "value" "[B")) (.int (Int32.ofNat (g_len.getD i 0))) ∈ g_fl0 := by decide +kernel
set_option maxHeartbeats 4000000 in
set_option maxRecDepth 100000 in
theorem g_f2 : ∀ i, i < 4 → ∀ j, j < g_len.getD i 0 → Cond.eq (.elem (.field (g_tm i) "java/lang/String" "value" "[B") (.int (Int32.ofNat j))) (.int ((g_byt.getD i []).getD j 0)) ∈ g_fl0 := by decide +kernel
set_option maxHeartbeats 4000000 in
set_option maxRecDepth 100000 in
theorem g_f3 : ∀ i, i < 4 → ∀ j, j < 4 → i ≠ j → Cond.not (Cond.eq (g_tm i) (g_tm j)) ∈ g_fl0 ∨ Cond.not (Cond.eq (g_tm j) (g_tm i)) ∈ g_fl0 := by decide +kernel
set_option maxHeartbeats 4000000 in
set_option maxRecDepth 100000 in
theorem g_f4 : ∀ r ∈ g_ldc, r.2.2.2 < 4 ∧ (Term.string r.1 r.2.1 = g_tm r.2.2.2 ∨ Cond.eq (g_tm r.2.2.2) (.string r.1 r.2.1) ∈ g_fl0) ∧ Cond.stringRef r.1 r.2.1 r.2.2.1 ∈ lw_tbl := by decide +kernel
set_option maxHeartbeats 4000000 in
set_option maxRecDepth 100000 in
theorem g_f5 : Cond.arrayOf (.static "BandPress" "CELL" "[I") .int ∈ g_fl0 ∧ Cond.eq (.length (.static "BandPress" "CELL" "[I")) (.int (Int32.ofNat 16)) ∈ g_fl0 ∧ (∀ j, j < 16 → Cond.eq (.elem (.static "BandPress" "CELL" "[I") (.int (Int32.ofNat j))) (.int (g_cell.getD j 0)) ∈ g_fl0) ∧ Cond.eq (.static "java/lang/String" "COMPACT_STRINGS" "Z") (.int 1) ∈ g_fl0 ∧ Cond.isRef (.static "java/lang/Throwable" "UNASSIGNED_STACK" "[Ljava/lang/StackTraceElement;") ∈ g_fl0 ∧ Cond.isRef (.static "java/lang/Throwable" "SUPPRESSED_SENTINEL" "Ljava/util/List;") ∈ g_fl0 ∧ Cond.not (Cond.castable "java/lang/IllegalArgumentException" "java/lang/IllegalStateException") ∈ g_fl0 := by decide +kernel
set_option maxHeartbeats 4000000 in
set_option maxRecDepth 100000 in
theorem g_f6 : Cond.laysStatic "BandPress" "CELL" "[I" ∈ lw_tbl ∧ Cond.initialized "BandPress" ∈ lw_tbl ∧ Cond.laysStatic "java/lang/String" "COMPACT_STRINGS" "Z" ∈ lw_tbl ∧ Cond.initialized "java/lang/String" ∈ lw_tbl ∧ Cond.laysStatic "java/lang/Throwable" "UNASSIGNED_STACK" "[Ljava/lang/StackTraceElement;" ∈ lw_tbl ∧ Cond.laysStatic "java/lang/Throwable" "SUPPRESSED_SENTINEL" "Ljava/util/List;" ∈ lw_tbl ∧ Cond.arrayClass .int ∈ lw_tbl ∧ Cond.arrayClass .boolean ∈ lw_tbl ∧ Cond.arrayClass .byte ∈ lw_tbl ∧ Cond.arrayClass .long ∈ lw_tbl := by decide +kernel
set_option maxHeartbeats 4000000 in
set_option maxRecDepth 100000 in
theorem g_f7 : ∀ q ∈ g_cl, Cond.instantiable q.1 q.2.2 ∈ lw_tbl := by decide +kernel
theorem g_arrAt {args : Array Value} {s : State} {ty : FieldType} (h : (Cond.arrayClass ty).before args s = true) : ∃ cA : ClassId, ArrOfT s cA ty ∧ s.vm.findClass ("[" ++ ty.toString) = some cA := by
  obtain ⟨cA, k, comp, h1, h2, h3⟩ := Cond.arrayClass_spec h
  exact ⟨cA, fun n z => ⟨fun k h => (by cases h), k, h2, comp, h3⟩, h1⟩
theorem g_stEq {args : Array Value} {s : State} {t u : Term} {a : Addr} (h : (Cond.eq t u).before args s = true) (ht : t.eval args s none [] s = some (.ref a)) : u.eval args s none [] s = some (.ref a) := by
  cases hu : u.eval args s none [] s with
  | none => simp [Cond.before, Cond.holds, Cond.value, ht, hu] at h
  | some w =>
    simp only [Cond.before, Cond.holds, Cond.value, ht, hu] at h
    cases w <;> simp_all
theorem g_entry {s : State} {b : Nat} (hts : ∀ w ∈ lw_tbl, w.before #[Value.ref b] s = true) (hgv : (Jvm.Cond.and given_1 narrow_1).before #[Value.ref b] s = true) {A : Nat → Prop} (hA : ∀ a : Nat, a < s.heap.size → ¬ A a) :
    ∃ (D : va_G) (ad ca : Nat → Nat), va_K D g_cl (g_ty ca) s ∧ g_K s A ad ∧ (∀ q : Nat, q < 900 → ad (q + 1) = ad q + 1) ∧ ad 0 = s.heap.size ∧ ad 4000 = b := by
  have hs := flat_of_before _ hgv
  have hT : ∀ w ∈ g_T, w.before #[Value.ref b] s = true := fun w hw => hts w (List.mem_filter.mp hw).1
  obtain ⟨adK, adV, hS, hev⟩ := vk_Sof (args := #[Value.ref b]) (s := s) (N := g_nS) (tm := g_tm) (len := g_len) (byt := g_byt) (A := A) (by decide) (fun i hi => hs _ (g_f1 i hi).1) (fun i hi => hs _ (g_f1 i hi).2.1) (fun i hi => hs _ (g_f1 i hi).2.2.1) (fun i hi => hs _ (g_f1 i hi).2.2.2) (fun i hi j hj => hs _ (g_f2 i hi j hj)) (fun i j hi hj hne => (g_f3 i hi j hj hne).imp (fun h => hs _ h) (fun h => hs _ h)) hA
  obtain ⟨tC, htC, hTC⟩ := va_Tof (args := #[Value.ref b]) (s := s) (tm := .static "BandPress" "CELL" "[I") (ty := .int) (N := 16) (f := fun j => .int (g_cell.getD j 0)) (A := A) (by decide) (hs _ g_f5.1) (va_eqt (hs _ g_f5.2.1)) (fun j hj => va_eqt (hs _ (g_f5.2.2.1 j hj))) hA
  have hD : ∀ c : Nat, ∃ x : ClassId × (Nat → Nat), ∀ q : vw_C, g_cl[c]? = some q → u_Kn s q.1 q.2.1 q.2.2 x.1 x.2 := by
    intro c
    cases hc : g_cl[c]? with
    | none => exact ⟨(0, fun _ => 0), fun q h => by cases h⟩
    | some q =>
      obtain ⟨C, T, N⟩ := q
      obtain ⟨cC, iS, h⟩ := u_known (T := T) (N := N) hT (g_clw hc) (hts _ (g_f7 _ (List.mem_of_getElem? hc)))
      exact ⟨(cC, iS), fun q h2 => by cases h2; exact h⟩
  obtain ⟨DD, hDD⟩ := Classical.axiomOfChoice hD
  obtain ⟨c0, k0, n0⟩ := g_arrAt (hts _ g_f6.2.2.2.2.2.2.1)
  obtain ⟨c1, k1, n1⟩ := g_arrAt (hts _ g_f6.2.2.2.2.2.2.2.1)
  obtain ⟨c2, k2, n2⟩ := g_arrAt (hts _ g_f6.2.2.2.2.2.2.2.2.1)
  obtain ⟨c3, k3, n3⟩ := g_arrAt (hts _ g_f6.2.2.2.2.2.2.2.2.2)
  refine ⟨(fun c => (DD c).1, fun c => (DD c).2), fun q => if q < 1000 then s.heap.size + q else if q < 2000 then adK (q - 1000) else if q < 3000 then adV (q - 2000) else if q = 3000 then tC else b, fun t => if t = 0 then c0 else if t = 1 then c1 else if t = 2 then c2 else c3, ⟨fun c q hq => hDD c q hq, ?_⟩, ⟨?_, ?_, ?_, ?_, ?_, ?_, ?_, ?_, ?_⟩, ?_, ?_, ?_⟩
  · intro k q hk
    have hk4 : k < 4 := (List.getElem?_eq_some_iff.mp hk).1
    rcases (show k = 0 ∨ k = 1 ∨ k = 2 ∨ k = 3 by omega) with rfl | rfl | rfl | rfl
    · cases hk; exact ⟨k0, n0⟩
    · cases hk; exact ⟨k1, n1⟩
    · cases hk; exact ⟨k2, n2⟩
    · cases hk; exact ⟨k3, n3⟩
  · refine ⟨fun i hi => ?_, fun i j hi hj e => ?_⟩
    · have hi4 : i < 4 := hi
      have h := hS.1 i hi
      simp only [show ¬ (1000 + i < 1000) by omega, show 1000 + i < 2000 by omega, show ¬ (2000 + i < 1000) by omega, show ¬ (2000 + i < 2000) by omega, show 2000 + i < 3000 by omega, if_true, if_false, show 1000 + i - 1000 = i by omega, show 2000 + i - 2000 = i by omega]
      exact h
    · have hi4 : i < 4 := hi
      have hj4 : j < 4 := hj
      simp only [show ¬ (1000 + i < 1000) by omega, show 1000 + i < 2000 by omega, show ¬ (1000 + j < 1000) by omega, show 1000 + j < 2000 by omega, if_true, if_false, show 1000 + i - 1000 = i by omega, show 1000 + j - 1000 = j by omega] at e
      exact hS.2 i j hi hj e
  · intro r hr
    obtain ⟨h1, h2, h3⟩ := g_f4 r hr
    simp only [show ¬ (1000 + r.2.2.2 < 1000) by omega, show 1000 + r.2.2.2 < 2000 by omega, if_true, if_false, show 1000 + r.2.2.2 - 1000 = r.2.2.2 by omega]
    refine vk_R.of (A := #[Value.ref b]) (hts _ h3) ?_
    rcases h2 with h2 | h2
    · rw [h2]; exact hev _ h1
    · exact g_stEq (hs _ h2) (hev _ h1)
  · exact va_Zof (hts _ g_f6.1) (hts _ g_f6.2.1) htC hA
  · exact hTC
  · exact va_Zof (hts _ g_f6.2.2.1) (hts _ g_f6.2.2.2.1) (va_eqt (hs _ g_f5.2.2.2.1)) hA
  · intro w hw
    exact va_Nw.of (g_N_tab hw) (hts w (List.mem_filter.mp hw).1)
  · exact g_Zs.of (hts _ g_f6.2.2.2.2.1) (hs _ g_f5.2.2.2.2.1) hA
  · exact g_Zs.of (hts _ g_f6.2.2.2.2.2.1) (hs _ g_f5.2.2.2.2.2.1) hA
  · intro c1 c2 h1 h2
    have h := hs _ g_f5.2.2.2.2.2.2
    cases hq : s.vm.assignable c1 c2 with
    | false => rfl
    | true => simp [Cond.before, Cond.holds, Cond.value, h1, h2, hq] at h
  · intro q hq
    simp only [show q + 1 < 1000 by omega, show q < 1000 by omega, if_true]
    omega
  · simp
  · simp
