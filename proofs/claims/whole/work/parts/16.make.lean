/-! new cells: what the constructors do; the returns of methods that may throw; the script -/
def g_dk (ty : FieldType) (f : Option gF) : Bool := match f with
  | some none => decide (defaultValue ty = .int 0)
  | some (some none) => decide (defaultValue ty = .null)
  | _ => false
theorem g_dk_ok {N : Nat} {ty : Nat → FieldType} {fl : List gF} (ad : Nat → Nat) (h : ((List.range N).all fun j => g_dk (ty j) fl[j]?) = true) : ∀ j, j < N → defaultValue (ty j) = vp_V (fl.mapIdx (g_fv ad (fun _ => 0))) j := by
  intro j hj
  have h1 := List.all_eq_true.mp h j (List.mem_range.mpr hj)
  rw [vp_V, List.getD_eq_getElem?_getD, List.getElem?_mapIdx]
  cases hf : fl[j]? with
  | none => rw [hf] at h1; cases h1
  | some f =>
    rw [hf] at h1
    cases f with
    | none => exact of_decide_eq_true h1
    | some o => cases o with
      | none => exact of_decide_eq_true h1
      | some q => cases h1
/-- an array's kind: its place among the types, its class's name, its first contents -/
def g_ark (t n : Nat) (ty : FieldType) : Prop := (∀ ca : Nat → Nat, (g_ty ca)[t]? = some (ca t, ty)) ∧ (∀ (U : State) (cA : ClassId), va_RA U cA ty → U.vm.findClass ("[" ++ ty.toString) = some cA) ∧ ∀ ad ca : Nat → Nat, ∃ e : ClassId × vp_A, g_c ad ca (fun _ => 0) (.inl (t, n)) = .inl e ∧ vp_cell e.1 e.2 = arrV (ca t) n (fun _ => defaultValue ty)
theorem g_ark0 (n : Nat) : g_ark 0 n .int := ⟨fun _ => rfl, fun _ _ h => h, fun _ _ => ⟨_, rfl, rfl⟩⟩
theorem g_ark1 (n : Nat) : g_ark 1 n .boolean := ⟨fun _ => rfl, fun _ _ h => h, fun _ _ => ⟨_, rfl, rfl⟩⟩
theorem g_ark3 (n : Nat) : g_ark 3 n .long := ⟨fun _ => rfl, fun _ _ h => h, fun _ _ => ⟨_, rfl, rfl⟩⟩
/-- the answer of a constructor -/
def QC (S : List gH) (s : gS) : gO → List gH → gS → Prop := fun o S' sg => S' = S ∧ o = .inl none ∧ sg = s
theorem q_rC {S : List gH} {s : gS} : ∀ o S' sg', QC S s o S' sg' → ∃ r : Option Value, o = .inl r := fun _ _ _ h => ⟨_, h.2.1⟩
theorem q_rE {S : List gH} {J : gS → gS} {z : Int} {s : gS} : ∀ o S' sg', QE S J z s o S' sg' → ∃ r : Option Value, o = .inl r := fun _ _ _ h => ⟨_, h.2.1⟩
theorem q_rF {S : List gH} {J : gS → gS} {z : Int} {s : gS} : ∀ o S' sg', QF S J z s o S' sg' → ∃ r : Option Value, o = .inl r := fun _ _ _ h => ⟨_, h.2.1⟩
theorem q_rG {S : List gH} {J : gS → gS} {z : Int} {s : gS} : ∀ o S' sg', QG S J z s o S' sg' → ∃ r : Option Value, o = .inl r := fun _ _ _ h => ⟨_, h.2.1⟩
theorem q_rH {S : List gH} {J : gS → gS} {q : Nat} {z : Int} {s : gS} : ∀ o S' sg', QH q S J z s o S' sg' → ∃ r : Option Value, o = .inl r := fun _ _ _ h => ⟨_, h.2.1⟩
theorem q_x {S : List gH} {J : gS → gS} {z t0 z0 : Int} {s s0 : gS} (h : (some (0, z, s) : gT) = some (t0, z0, s0)) : QX S J t0 z0 s0 (.inl (some (gi z))) S (J s) := by cases h; exact ⟨rfl, rfl, rfl⟩
theorem q_t {S : List gH} {J : gS → gS} {k : Nat} {t0 z0 : Int} {s s0 : gS} (h : (some ((k : Int) + 1, 0, s) : gT) = some (t0, z0, s0)) : QX S J t0 z0 s0 (.inr k) S (J s) := by
  cases h
  refine ⟨rfl, ?_, rfl⟩
  rw [if_neg (by omega), show ((k : Int) + 1 - 1).toNat = k by omega]
section GMK
variable {M N : gM} {Q : gO → List gH → gS → Prop} {Z : gZ} {sg : gS} {pc : Nat} {lv : List (Option Value)} {st : List Value} {q ci k idx n t b : Nat} {fl : List gF} {S S' : List gH} {as stk : List Value}
theorem G_new {C : String} {T : u_T} {N : Nat} (ty : Nat → FieldType) (hd : decode (g_b M) pc = .ok (.new idx, 3)) (hc : g_cl[ci]? = some (C, T, N)) (hty : ∀ k, k < N → parseFieldDescriptor (T k).2.2.1 = some (ty k)) (hl : Cond.classLink (g_y M).cls idx C ∈ g_T) (hi : Cond.instantiable C N ∈ g_T) (hini : Cond.initialized C ∈ g_T) (ha : g_a M = true) (hlen : Z.1.length < 900) (hcells : Z.2.1 + 1 ≤ (g_m M).cells) (hslots : Z.2.2 + N ≤ (g_m M).slots) (hfl : ((List.range N).all fun j => g_dk (ty j) fl[j]?) = true) (hS : S' = Z.1 ++ [.inr (ci, fl)]) (hn : n = Z.1.length)
    (kk : G M Q (S', Z.2.1 + 1, Z.2.2 + N) (g_nw sg n) (pc + 3) lv (.ref n :: st)) : G M Q Z sg pc lv st := by
  subst hS hn
  intro p l e R s m args below meth c D A ad ca X H locs ls Y T0 hT X1
  have hsz := g_sz X Y hT X1 ha
  have hR := X.2.2.2.2.2.2.2.1
  have hts := X.2.2.2.2.2.2.1
  have hKn := X.2.2.2.2.2.2.2.2.1.1 ci _ hc
  have hA : A (ad Z.1.length) := X.2.2.2.2.2.2.2.2.2.1 _ (by rw [← hsz]; exact Y.2.2.1.1)
  suffices hw : W p l e R s m args below meth c H locs Z.2.1 Z.2.2 (gMQ below (g_Q D A ad ca (g_z M) (g_m M).cells Q) args s (g_m M).cells (g_m M).slots A) (F0 m pc ls (st.map (g_v ad))) from hw T0 hT X1
  refine W.newcK (h := ad Z.1.length) X.1 X.2.1 X.2.2.2.2.1 (hts _ hl) (hts _ hi) (hts _ hini) rfl hd (by rw [hR]; exact hcells) (by rw [hR]; exact hslots) hKn.2.1 hsz (fun H1 kC hkC e1 z1 o1 => ?_)
  have hk : ∀ (k : Nat) (x : Nat × va_E), (g_w ad ca Z.1 sg)[k]? = some x → H1[x.1]? = H[x.1]? := fun k x hx => o1 x.1 (by rw [← hsz]; exact (Y.1 k x hx).lt)
  obtain ⟨y1, y2, y3⟩ := Y.2.2.2.2 ha
  have had := X.2.2.2.2.2.2.2.2.2.2.2.2.1 Z.1.length hlen
  refine kk p l e R s m args below meth c D A ad ca X H1 locs ls ⟨?_, ?_, ⟨Nat.le_trans Y.2.2.1.1 (by omega), fun x h1 h2 => (o1 x (by have := Y.2.2.1.1; omega)).trans (Y.2.2.1.2.1 x h1 h2), Y.2.2.1.2.2⟩, Y.2.2.2.1, fun _ => ⟨?_, ?_, ?_⟩⟩
  · show va_P D g_cl (g_w ad ca (Z.1 ++ [.inr (ci, fl)]) (g_nw sg Z.1.length)) H1
    rw [g_w_push]
    refine (Y.1.kept hk).app (fun k x hx => ?_)
    have hz : k < 1 := (List.getElem?_eq_some_iff.mp hx).1
    rw [show k = 0 by omega] at hx
    cases hx
    exact ⟨_, hc, (u_born ty hts (g_clw hc) hKn hkC e1 hty).to (g_dk_ok ad hfl)⟩
  · show va_D A (g_w ad ca (Z.1 ++ [.inr (ci, fl)]) (g_nw sg Z.1.length))
    rw [g_w_push]
    exact Y.2.1.push Y.1 hsz.symm hA
  · show s.heap.size + (Z.2.1 + 1) = ad (Z.1 ++ [(.inr (ci, fl) : gH)]).length
    rw [List.length_append, List.length_singleton, had]
    omega
  · show (Z.1 ++ [(.inr (ci, fl) : gH)]).length ≤ 900
    rw [List.length_append, List.length_singleton]
    omega
  · intro h
    cases (List.append_eq_nil_iff.mp h).2
theorem G_newarray {atype : ArrayType} {ty : FieldType} {i : Int} (hd : decode (g_b M) pc = .ok (.newarray atype, 2)) (hty : newarray.typeOf atype = ty) (hk : g_ark t n ty) (hw : Cond.arrayClass ty ∈ g_T) (hi : w32 i = (n : Int)) (hb : n * componentBytes ty ≤ 536870912) (ha : g_a M = true) (hlen : Z.1.length < 900) (hcells : Z.2.1 + 1 ≤ (g_m M).cells) (hslots : Z.2.2 + n ≤ (g_m M).slots) (hS : S' = Z.1 ++ [.inl (t, n)]) (hq : q = Z.1.length)
    (kk : G M Q (S', Z.2.1 + 1, Z.2.2 + n) (g_nw sg q) (pc + 2) lv (.ref q :: st)) : G M Q Z sg pc lv (gi i :: st) := by
  subst hS hq hty
  intro p l e R s m args below meth c D A ad ca X H locs ls Y T0 hT X1
  have hsz := g_sz X Y hT X1 ha
  have hR := X.2.2.2.2.2.2.2.1
  have hts := X.2.2.2.2.2.2.1
  obtain ⟨k1, k2, k3⟩ := hk
  have hA : A (ad Z.1.length) := X.2.2.2.2.2.2.2.2.2.1 _ (by rw [← hsz]; exact Y.2.2.1.1)
  obtain ⟨-, hra⟩ := X.2.2.2.2.2.2.2.2.1.2 t _ (k1 ca)
  suffices hw : W p l e R s m args below meth c H locs Z.2.1 Z.2.2 (gMQ below (g_Q D A ad ca (g_z M) (g_m M).cells Q) args s (g_m M).cells (g_m M).slots A) (F0 m pc ls ((gi i :: st).map (g_v ad))) from hw T0 hT X1
  refine va_newaK (h := ad Z.1.length) (N := n) (n := Int32.ofInt i) X.1 X.2.1 (hts _ hw) rfl hd rfl (w32_nn (by omega)) (by rw [w32_cl]; omega) hb (by rw [hR]; exact hcells) (by rw [hR]; exact hslots) hsz (fun H1 cA e1 z1 o1 hAr hNm => ?_)
  have hcA : cA = ca t := Option.some.inj (hNm.symm.trans (k2 s _ hra))
  subst hcA
  have hk : ∀ (k : Nat) (x : Nat × va_E), (g_w ad ca Z.1 sg)[k]? = some x → H1[x.1]? = H[x.1]? := fun k x hx => o1 x.1 (by rw [← hsz]; exact (Y.1 k x hx).lt)
  obtain ⟨y1, y2, y3⟩ := Y.2.2.2.2 ha
  have had := X.2.2.2.2.2.2.2.2.2.2.2.2.1 Z.1.length hlen
  refine kk p l e R s m args below meth c D A ad ca X H1 locs ls ⟨?_, ?_, ⟨Nat.le_trans Y.2.2.1.1 (by omega), fun x h1 h2 => (o1 x (by have := Y.2.2.1.1; omega)).trans (Y.2.2.1.2.1 x h1 h2), Y.2.2.1.2.2⟩, Y.2.2.2.1, fun _ => ⟨?_, ?_, ?_⟩⟩
  · show va_P D g_cl (g_w ad ca (Z.1 ++ [.inl (t, n)]) (g_nw sg Z.1.length)) H1
    rw [g_w_push]
    refine (Y.1.kept hk).app (fun k x hx => ?_)
    have hz : k < 1 := (List.getElem?_eq_some_iff.mp hx).1
    rw [show k = 0 by omega] at hx
    cases hx
    obtain ⟨ee, q1, q2⟩ := k3 ad ca
    show va_at D g_cl (ad Z.1.length, g_c ad ca (fun _ => 0) (.inl (t, n))) H1
    rw [q1]
    show H1[ad Z.1.length]? = some (vp_cell ee.1 ee.2)
    rw [q2]
    exact e1
  · show va_D A (g_w ad ca (Z.1 ++ [.inl (t, n)]) (g_nw sg Z.1.length))
    rw [g_w_push]
    exact Y.2.1.push Y.1 hsz.symm hA
  · show s.heap.size + (Z.2.1 + 1) = ad (Z.1 ++ [(.inl (t, n) : gH)]).length
    rw [List.length_append, List.length_singleton, had]
    omega
  · show (Z.1 ++ [(.inl (t, n) : gH)]).length ≤ 900
    rw [List.length_append, List.length_singleton]
    omega
  · intro h
    cases (List.append_eq_nil_iff.mp h).2
def g_oir (M : gM) (st : List Value) : Bool := decide (1 ≤ (g_m M).frames) && decide ((st.map fun v => v.category).sum + 12 ≤ (g_m M).locals)
theorem G_objInit (hd : decode (g_b M) pc = .ok (.invokespecial idx, 3)) (hl : Cond.methodLink (g_y M).cls idx Lib.objectInit ∈ g_T) (hi : Cond.instanceMethod Lib.objectInit ∈ g_T) (hc : Cond.code Lib.objectInit ⟨#[0xb1]⟩ 1 none ∈ g_T) (hr : g_oir M st = true) (kk : G M Q Z sg (pc + 3) lv st) : G M Q Z sg pc lv (.ref b :: st) := by
  intro p l e R s m args below meth c D A ad ca X H locs ls Y
  have hts := X.2.2.2.2.2.2.1
  simp only [g_oir, Bool.and_eq_true, decide_eq_true_eq] at hr
  have ee : ((st.map (g_v ad)).map fun v => v.category) = st.map fun v => v.category := by
    rw [List.map_map]
    exact List.map_congr_left fun v _ => g_v_cat ad v
  refine W.objInit (a := ad b) (rest := st.map (g_v ad)) X.1 X.2.1 X.2.2.2.2.1 (hts _ hl) (hts _ hi) (hts _ hc) rfl (Y.2.2.2.1.1.trans X.2.2.2.1.symm) rfl hd (by rw [X.2.2.2.2.2.2.2.1]; exact hr.1) ?_ (kk p l e R s m args below meth c D A ad ca X H locs ls Y)
  rw [X.2.2.2.2.2.2.2.1, ee]
  show 2 * 0 + _ + 12 ≤ _
  omega
/-- a constructor sets a final reference -/
theorem G_putF {r : Nat} {ty : FieldType} (hd : decode (g_b M) pc = .ok (.putfield idx, 3)) (hS : Z.1[q]? = some (.inr (ci, fl))) (hl : g_fp (g_y M).cls idx ci k true ty) (hi : (g_y M).name = "<init>") (hc : (g_cl[ci]?).map (fun x => (x.2.1 k).1) = some (g_y M).cls) (hn : ∀ a : Nat, narrow ty (.ref a) = .ref a) (hfit : ∀ a : Nat, fits ty (.ref a) = true) (hk : k < fl.length) (hlk : ∀ C T N, g_cl[ci]? = some (C, T, N) → Cond.fieldLink (g_y M).cls idx (T k).1 (T k).2.1 (T k).2.2.1 ∈ g_T) (hS' : S' = Z.1.set q (.inr (ci, fl.set k (some (some r)))))
    (kk : G M Q (S', Z.2.1, Z.2.2) sg (pc + 3) lv st) : G M Q Z sg pc lv (.ref r :: .ref q :: st) := by
  subst hS'
  exact G_putR hd hS hl hi hc hn hfit hk hlk kk
theorem H_cI {c1 c2 : Nat} {f : gS} (hc : Ct N S (.ref b :: as) sg (QC S' f)) (hd : decode (g_b M) pc = .ok (.invokespecial idx, 3)) (hlk : g_lk (g_y M).cls idx (g_y N)) (hm : g_mi N n) (hn : as.length = n) (hft : g_ft M N (S, c1, c2) = true) (hcr : g_cr st = true) (hal : g_a M = true ∧ g_z N = true) (hs : stk = as.reverse ++ .ref b :: st)
    (kk : G M Q (S', c1 + (g_m N).cells, c2 + (g_m N).slots) f (pc + 3) lv st) : G M Q (S, c1, c2) sg pc lv stk := by
  refine G_cI (Z := (S, c1, c2)) hc hd hlk hm hn hft hcr ⟨fun _ => hal.1, fun _ => Or.inl hal.2⟩ hs fun o S1 sg' hq => ?_
  obtain ⟨rfl, rfl, rfl⟩ := hq
  exact ⟨none, rfl, kk⟩
theorem G_ireturnX {z : Int} {ty : FieldType} (hd : decode (g_b M) pc = .ok (.ireturn, 1)) (hr : g_r M = some ty) (hn : narrow ty (gi z) = gi z) (h1 : Z.2.1 ≤ (g_m M).cells) (h2 : Z.2.2 ≤ (g_m M).slots) (hz : g_z M = false) (hq : Q (.inl (some (gi z))) Z.1 sg) : G M Q Z sg pc lv [gi z] := by
  intro p l e R s m args below meth c D A ad ca X H locs ls Y T hT X1
  refine g_post (fun t ht => gMQ_of ht) (W.zret (v := Int32.ofInt z) X.1 X.2.1 (X.2.2.1.trans hr) hn (fun t ht hW => ?_) Y.2.2.1.2.2 hd X.2.2.2.2.2.1) T hT (stand_widen X1 h1 h2)
  exact ⟨⟨.inl (some (gi z)), Z.1, sg, rfl, hq, by rw [ht]; exact Y.1, Y.2.1, fun ha => g_nz hz ha⟩, Y.2.2.1.F ht⟩
/-- a number of the script -/
def g_sx (r : Nat × (Nat → Int32)) (j : Nat) : Int := (r.2 j).toInt
theorem G_sld {r : Nat × (Nat → Int32)} {x a : Int} (hd : decode (g_b M) pc = .ok (.iaload, 1)) (hr : g_x M = some r) (ha : w32 x = a) (hx : 0 ≤ a ∧ a < ((r.1 : Nat) : Int)) (kk : G M Q Z sg (pc + 1) lv (gi (g_sx r a.toNat) :: st)) : G M Q Z sg pc lv (gi x :: .ref 4000 :: st) := by
  subst ha
  intro p l e R s m args below meth c D A ad ca X H locs ls Y
  obtain ⟨h1, h2, h3⟩ := X.2.2.2.2.2.2.2.2.2.2.2.2.2.1 r hr
  have hv : Value.int (r.2 (Int32.ofInt x).toNatClampNeg) = gi (g_sx r (w32 x).toNat) := by rw [w32_cl]; exact gi_eq (Int32.ofInt_toInt _).symm
  refine va_sld (i := Int32.ofInt x) X.1 X.2.1 h1 h2 h3 Y.2.2.1 (w32_in.mpr hx) hd ?_
  rw [hv]
  exact kk p l e R s m args below meth c D A ad ca X H locs ls Y
theorem G_slen {r : Nat × (Nat → Int32)} {z : Int} (hd : decode (g_b M) pc = .ok (.arraylength, 1)) (hr : g_x M = some r) (hz : Int32.ofNat r.1 = Int32.ofInt z) (kk : G M Q Z sg (pc + 1) lv (gi z :: st)) : G M Q Z sg pc lv (.ref 4000 :: st) := by
  intro p l e R s m args below meth c D A ad ca X H locs ls Y
  obtain ⟨h1, h2, h3⟩ := X.2.2.2.2.2.2.2.2.2.2.2.2.2.1 r hr
  refine va_slen X.1 X.2.1 h1 h2 h3 Y.2.2.1 hd ?_
  rw [gi_eq hz]
  exact kk p l e R s m args below meth c D A ad ca X H locs ls Y
end GMK
theorem q_c {S : List gH} {z z0 : Int} {s s0 : gS} (h : (some (z, s) : gA) = some (z0, s0)) : QC S s0 (.inl none) S s := by cases h; exact ⟨rfl, rfl, rfl⟩
