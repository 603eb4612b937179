/-! THE JUDGEMENT G: a method's walk over a STORE instead of a heap (never compiled before round 3's proving).
    A store sg gives each cell's numbers by the cell's number and the place, as integers (they stand for ints or longs, modulo
    2^32 or 2^64); the SHAPE (a list) says what each cell is; references are numbers of cells. -/
abbrev gS : Type := Nat → Nat → Int
abbrev gF : Type := Option (Option Nat)
abbrev gH : Type := (Nat × Nat) ⊕ (Nat × List gF)
abbrev gZ : Type := List gH × Nat × Nat
abbrev gO : Type := Option Value ⊕ Nat
/-- name, code, returned type, locals, room, whether it makes cells, whether it says so at its end, the script that it reads -/
abbrev gM : Type := MethodName × ByteArray × Option FieldType × Nat × Room × Bool × Bool × Option (Nat × (Nat → Int32))
abbrev g_y (M : gM) : MethodName := M.1
abbrev g_b (M : gM) : ByteArray := M.2.1
abbrev g_r (M : gM) : Option FieldType := M.2.2.1
abbrev g_n (M : gM) : Nat := M.2.2.2.1
abbrev g_m (M : gM) : Room := M.2.2.2.2.1
abbrev g_a (M : gM) : Bool := M.2.2.2.2.2.1
abbrev g_z (M : gM) : Bool := M.2.2.2.2.2.2.1
abbrev g_x (M : gM) : Option (Nat × (Nat → Int32)) := M.2.2.2.2.2.2.2
theorem g_nz {M : gM} {P : Prop} (h : g_z M = false) (h2 : g_z M = true) : P := by rw [h] at h2; cases h2
def gi (z : Int) : Value := .int (Int32.ofInt z)
def gl (z : Int) : Value := .long (Int64.ofInt z)
def g_v (ad : Nat → Nat) (v : Value) : Value := match v with
  | .ref q => .ref (ad q)
  | w => w
theorem g_v_cat (ad : Nat → Nat) (v : Value) : (g_v ad v).category = v.category := by cases v <;> rfl
def g_fv (ad : Nat → Nat) (r : Nat → Int) (k : Nat) (f : gF) : Value := match f with
  | none => gi (r k)
  | some none => .null
  | some (some q) => .ref (ad q)
/-- a cell: array types 0 int, 1 boolean, 2 byte, 3 long -/
def g_c (ad ca : Nat → Nat) (r : Nat → Int) (sh : gH) : va_E := match sh with
  | .inl (3, n) => .inl (ca 3, n, .inr (.inl fun j => Int64.ofInt (r j)))
  | .inl (t, n) => .inl (ca t, n, .inl fun j => Int32.ofInt (r j))
  | .inr (ci, fl) => .inr (ci, fl.mapIdx (g_fv ad r))
def g_w (ad ca : Nat → Nat) (S : List gH) (sg : gS) : va_W := S.mapIdx (fun q sh => (ad q, g_c ad ca (sg q) sh))
def g_ty (ca : Nat → Nat) : List (ClassId × FieldType) := [(ca 0, .int), (ca 1, .boolean), (ca 2, .byte), (ca 3, .long)]
/-- a number is put at a place of a cell -/
def g_up (sg : gS) (q k : Nat) (z : Int) : gS := fun i j => if i = q ∧ j = k then z else sg i j
/-- a new cell's numbers are 0 -/
def g_nw (sg : gS) (q : Nat) : gS := fun i j => if i = q then 0 else sg i j
theorem g_up_ne {sg : gS} {q k : Nat} {z : Int} {i : Nat} (h : i ≠ q) : g_up sg q k z i = sg i := by
  funext j
  simp [g_up, h]
theorem g_w_get {ad ca : Nat → Nat} {S : List gH} {sg : gS} {q : Nat} {sh : gH} (h : S[q]? = some sh) : (g_w ad ca S sg)[q]? = some (ad q, g_c ad ca (sg q) sh) := by
  simp [g_w, List.getElem?_mapIdx, h]
theorem g_w_up {ad ca : Nat → Nat} {S : List gH} {sg sg' : gS} {q : Nat} {sh : gH} (hS : S[q]? = some sh) (h : ∀ j, j ≠ q → sg' j = sg j) :
    (g_w ad ca S sg).set q (ad q, g_c ad ca (sg' q) sh) = g_w ad ca S sg' := by
  apply List.ext_getElem?
  intro i
  by_cases hi : i = q
  · subst hi
    have hlt : i < (g_w ad ca S sg).length := by
      simpa [g_w] using (List.getElem?_eq_some_iff.mp hS).1
    rw [List.getElem?_set_self hlt, g_w_get hS]
  · rw [List.getElem?_set_ne (fun e => hi e.symm)]
    simp only [g_w, List.getElem?_mapIdx, h i hi]
theorem g_fs_set {ad : Nat → Nat} {sg : gS} {q : Nat} {fl : List gF} {k : Nat} {z : Int} (hk : fl[k]? = some none) : (fl.mapIdx (g_fv ad (sg q))).set k (gi z) = fl.mapIdx (g_fv ad (g_up sg q k z q)) := by
  apply List.ext_getElem?
  intro i
  by_cases hi : i = k
  · subst hi
    have hlt : i < (fl.mapIdx (g_fv ad (sg q))).length := by simpa using (List.getElem?_eq_some_iff.mp hk).1
    rw [List.getElem?_set_self hlt, List.getElem?_mapIdx, hk]
    simp [g_fv, g_up]
  · rw [List.getElem?_set_ne (fun e => hi e.symm)]
    simp only [List.getElem?_mapIdx]
    cases fl[i]? with
    | none => rfl
    | some f => cases f with
      | none => simp [g_fv, g_up, hi]
      | some o => cases o <;> rfl
theorem g_up_i (sg : gS) (q k : Nat) (z : Int) : upd (fun j => Int32.ofInt (sg q j)) k (Int32.ofInt z) = fun j => Int32.ofInt (g_up sg q k z q j) := by
  funext j
  by_cases h : j = k <;> simp [upd, g_up, h]
theorem g_up_l (sg : gS) (q k : Nat) (z : Int) : vp_updL (fun j => Int64.ofInt (sg q j)) k (Int64.ofInt z) = fun j => Int64.ofInt (g_up sg q k z q j) := by
  funext j
  by_cases h : j = k <;> simp [vp_updL, g_up, h]
/-- the addresses are the shape's, whatever the numbers are -/
theorem g_D {ad ca : Nat → Nat} {S : List gH} {sg sg' : gS} {A : Nat → Prop} (h : va_D A (g_w ad ca S sg)) : va_D A (g_w ad ca S sg') := by
  have key : ∀ (k : Nat) (q : Nat × va_E), (g_w ad ca S sg')[k]? = some q → ∃ q0, (g_w ad ca S sg)[k]? = some q0 ∧ q0.1 = q.1 := by
    intro k q hq
    simp only [g_w, List.getElem?_mapIdx, Option.map_eq_some_iff] at hq ⊢
    obtain ⟨sh, h1, h2⟩ := hq
    exact ⟨_, ⟨sh, h1, rfl⟩, by rw [← h2]⟩
  refine ⟨fun i j x y hx hy e => ?_, fun k q hq => ?_⟩
  · obtain ⟨x0, a1, a2⟩ := key i x hx
    obtain ⟨y0, b1, b2⟩ := key j y hy
    exact h.1 i j x0 y0 a1 b1 (by rw [a2, b2]; exact e)
  · obtain ⟨q0, a1, a2⟩ := key k q hq
    rw [← a2]
    exact h.2 k q0 a1
/-- the locals: a place that holds nothing known, or a value -/
def g_lp : Nat → List (Option Value) → List (Nat × Value)
  | _, [] => []
  | i, none :: l => g_lp (i + 1) l
  | i, some v :: l => (i, v) :: g_lp (i + 1) l
abbrev g_lq (ad : Nat → Nat) (lv : List (Option Value)) : List (Nat × Value) := (g_lp 0 lv).map (fun q => (q.1, g_v ad q.2))
theorem g_lp_mem {lv : List (Option Value)} : ∀ {i j : Nat} {v : Value}, (j, v) ∈ g_lp i lv ↔ ∃ k, j = i + k ∧ lv[k]? = some (some v) := by
  induction lv with
  | nil => intro i j v; simp [g_lp]
  | cons o l ih =>
    intro i j v
    cases o with
    | none =>
      rw [show g_lp i (none :: l) = g_lp (i + 1) l from rfl, ih]
      constructor
      · rintro ⟨k, h1, h2⟩
        exact ⟨k + 1, by omega, by simpa using h2⟩
      · rintro ⟨k, h1, h2⟩
        cases k with
        | zero => simp at h2
        | succ k => exact ⟨k, by omega, by simpa using h2⟩
    | some w =>
      rw [show g_lp i (some w :: l) = (i, w) :: g_lp (i + 1) l from rfl, List.mem_cons, ih]
      constructor
      · rintro (h | ⟨k, h1, h2⟩)
        · cases h
          exact ⟨0, by omega, by simp⟩
        · exact ⟨k + 1, by omega, by simpa using h2⟩
      · rintro ⟨k, h1, h2⟩
        cases k with
        | zero =>
          simp at h2
          subst h2
          exact Or.inl (by rw [h1]; rfl)
        | succ k => exact Or.inr ⟨k, by omega, by simpa using h2⟩
theorem g_lq_mem {ad : Nat → Nat} {lv : List (Option Value)} {q : Nat × Value} : q ∈ g_lq ad lv ↔ ∃ v, lv[q.1]? = some (some v) ∧ q.2 = g_v ad v := by
  constructor
  · intro h
    obtain ⟨⟨j, v⟩, h1, h2⟩ := List.mem_map.mp h
    obtain ⟨k, h3, h4⟩ := g_lp_mem.mp h1
    subst h2
    exact ⟨v, by rw [show j = k by omega]; exact h4, rfl⟩
  · rintro ⟨v, h1, h2⟩
    exact List.mem_map.mpr ⟨(q.1, v), g_lp_mem.mpr ⟨q.1, by omega, h1⟩, by rw [← h2]⟩
theorem g_rd {ls : Array Slot} {n i : Nat} {ad : Nat → Nat} {lv : List (Option Value)} {v : Value} (h : lv_has ls n (g_lq ad lv)) (hi : lv[i]? = some (some v)) : ls[i]? = some (.val (g_v ad v)) :=
  h.2.2 (i, g_v ad v) (g_lq_mem.mpr ⟨v, hi, rfl⟩)
theorem g_lw {ls : Array Slot} {n : Nat} {l l' : List (Nat × Value)} (h : lv_has ls n l) (hs : ∀ q ∈ l', q ∈ l) : lv_has ls n l' := ⟨h.1, h.2.1, fun q hq => h.2.2 q (hs q hq)⟩
/-- the place ahead holds no long -/
def g_nl (lv : List (Option Value)) (i : Nat) : Bool := match i with
  | 0 => true
  | j + 1 => match lv[j]? with
    | some (some (.long _)) => false
    | some (some (.double _)) => false
    | _ => true
theorem g_nl_cat {lv : List (Option Value)} {j : Nat} {v : Value} (h : g_nl lv (j + 1) = true) (hv : lv[j]? = some (some v)) : v.category = 1 := by
  simp only [g_nl, hv] at h
  cases v <;> first | rfl | simp at h
theorem g_set1 {ls : Array Slot} {n i : Nat} {ad : Nat → Nat} {lv : List (Option Value)} {v w : Value} (hw : w = g_v ad v) (hn : g_nl lv i = true)
    (h : lv_has ls n ((i, w) :: (g_lq ad lv).filter (fun q => !(q.1 == i) && !(q.1 + 1 == i && q.2.category == 2)))) : lv_has ls n (g_lq ad (lv.set i (some v))) := by
  refine g_lw h fun q hq => ?_
  obtain ⟨u, h1, h2⟩ := g_lq_mem.mp hq
  by_cases hi : q.1 = i
  · have hlt : i < lv.length := by
      have h3 := (List.getElem?_eq_some_iff.mp h1).1
      rw [hi] at h3
      simpa using h3
    rw [hi, List.getElem?_set_self hlt] at h1
    have e : u = v := by simpa using h1.symm
    subst e
    exact List.mem_cons.mpr (Or.inl (by rw [hw, ← h2, ← hi]))
  · rw [List.getElem?_set_ne (fun e => hi e.symm)] at h1
    refine List.mem_cons.mpr (Or.inr (List.mem_filter.mpr ⟨g_lq_mem.mpr ⟨u, h1, h2⟩, ?_⟩))
    have hc : ¬ (q.1 + 1 = i ∧ q.2.category = 2) := by
      rintro ⟨e, hc⟩
      subst e
      have := g_nl_cat hn h1
      rw [h2, g_v_cat, this] at hc
      omega
    simp only [Bool.and_eq_true, Bool.not_eq_true', beq_eq_false_iff_ne, ne_eq, Bool.and_eq_false_iff]
    refine ⟨hi, ?_⟩
    by_cases e : q.1 + 1 = i
    · exact Or.inr fun z => hc ⟨e, z⟩
    · exact Or.inl e
theorem g_set2 {ls : Array Slot} {n i : Nat} {ad : Nat → Nat} {lv : List (Option Value)} {v w : Value} (hw : w = g_v ad v) (hn : g_nl lv i = true)
    (h : lv_has ls n ((i, w) :: (g_lq ad lv).filter (fun q => !(q.1 == i) && (!(q.1 == i + 1) && !(q.1 + 1 == i && q.2.category == 2))))) : lv_has ls n (g_lq ad ((lv.set i (some v)).set (i + 1) none)) := by
  refine g_lw h fun q hq => ?_
  obtain ⟨u, h1, h2⟩ := g_lq_mem.mp hq
  have hj : q.1 ≠ i + 1 := by
    intro e
    rw [e] at h1
    have hlt : i + 1 < ((lv.set i (some v)).set (i + 1) none).length := (List.getElem?_eq_some_iff.mp h1).1
    rw [List.getElem?_set_self (by simpa using hlt)] at h1
    simp at h1
  rw [List.getElem?_set_ne (fun e => hj e.symm)] at h1
  by_cases hi : q.1 = i
  · have hlt : i < lv.length := by
      have h3 := (List.getElem?_eq_some_iff.mp h1).1
      rw [hi] at h3
      simpa using h3
    rw [hi, List.getElem?_set_self hlt] at h1
    have e : u = v := by simpa using h1.symm
    subst e
    exact List.mem_cons.mpr (Or.inl (by rw [hw, ← h2, ← hi]))
  · rw [List.getElem?_set_ne (fun e => hi e.symm)] at h1
    refine List.mem_cons.mpr (Or.inr (List.mem_filter.mpr ⟨g_lq_mem.mpr ⟨u, h1, h2⟩, ?_⟩))
    have hc : ¬ (q.1 + 1 = i ∧ q.2.category = 2) := by
      rintro ⟨e, hc⟩
      subst e
      have := g_nl_cat hn h1
      rw [h2, g_v_cat, this] at hc
      omega
    simp only [Bool.and_eq_true, Bool.not_eq_true', beq_eq_false_iff_ne, ne_eq, Bool.and_eq_false_iff]
    refine ⟨hi, hj, ?_⟩
    by_cases e : q.1 + 1 = i
    · exact Or.inr fun z => hc ⟨e, z⟩
    · exact Or.inl e
/-- fewer locals known -/
def g_sub : List (Option Value) → List (Option Value) → Prop
  | [], _ => True
  | none :: l, [] => g_sub l []
  | none :: l, _ :: t => g_sub l t
  | some _ :: _, [] => False
  | some v :: l, o :: t => o = some v ∧ g_sub l t
theorem g_sub_get : ∀ {l t : List (Option Value)}, g_sub l t → ∀ {i : Nat} {v : Value}, l[i]? = some (some v) → t[i]? = some (some v) := by
  intro l
  induction l with
  | nil => intro t _ i v h; simp at h
  | cons o l ih =>
    intro t hs i v h
    cases t with
    | nil =>
      cases o with
      | none =>
        cases i with
        | zero => simp at h
        | succ i =>
          have := ih (t := []) hs (i := i) (v := v) (by simpa using h)
          simp at this
      | some w => exact hs.elim
    | cons u t =>
      cases o with
      | none =>
        cases i with
        | zero => simp at h
        | succ i => simpa using ih (t := t) hs (i := i) (v := v) (by simpa using h)
      | some w =>
        cases i with
        | zero =>
          have e : w = v := by simpa using h
          rw [hs.1, e]
          rfl
        | succ i => simpa using ih (t := t) hs.2 (i := i) (v := v) (by simpa using h)
