section GR
variable {M : gM} {Q : gO → List gH → gS → Prop} {Z : gZ} {sg : gS} {pc : Nat} {lv : List (Option Value)} {st : List Value}
theorem gi_eq {a : Int32} {z : Int} (h : a = Int32.ofInt z) : Value.int a = gi z := by rw [h]; rfl
theorem gl_eq {a : Int64} {z : Int} (h : a = Int64.ofInt z) : Value.long a = gl z := by rw [h]; rfl
theorem G_iconst {n : Int} (hd : decode (g_b M) pc = .ok (.iconst n, 1)) (k : G M Q Z sg (pc + 1) lv (gi n :: st)) : G M Q Z sg pc lv st :=
  fun p l e R s m args below meth c D A ad ca X H locs ls Y => lv_iconst X.1 X.2.1 hd rfl (k p l e R s m args below meth c D A ad ca X H locs ls Y)
theorem G_bipush {n : Int} (hd : decode (g_b M) pc = .ok (.bipush n, 2)) (hv : (Int8.ofInt n).toInt32 = Int32.ofInt n) (k : G M Q Z sg (pc + 2) lv (gi n :: st)) : G M Q Z sg pc lv st :=
  fun p l e R s m args below meth c D A ad ca X H locs ls Y => lv_bipush X.1 X.2.1 hd hv (k p l e R s m args below meth c D A ad ca X H locs ls Y)
theorem G_sipush {n : Int} (hd : decode (g_b M) pc = .ok (.sipush n, 3)) (hv : (Int16.ofInt n).toInt32 = Int32.ofInt n) (k : G M Q Z sg (pc + 3) lv (gi n :: st)) : G M Q Z sg pc lv st :=
  fun p l e R s m args below meth c D A ad ca X H locs ls Y => lv_sipush X.1 X.2.1 hd hv (k p l e R s m args below meth c D A ad ca X H locs ls Y)
theorem G_lconst {n : Fin 2} {z : Int} (hd : decode (g_b M) pc = .ok (.lconst n, 1)) (hv : Int64.ofNat (n : Nat) = Int64.ofInt z) (k : G M Q Z sg (pc + 1) lv (gl z :: st)) : G M Q Z sg pc lv st :=
  fun p l e R s m args below meth c D A ad ca X H locs ls Y => lv_lconst X.1 X.2.1 hd hv (k p l e R s m args below meth c D A ad ca X H locs ls Y)
theorem G_ldc {idx : Nat} {v : Int32} {z : Int} (hd : decode (g_b M) pc = .ok (.ldc idx, 2)) (hw : Cond.constant (g_y M).cls idx v ∈ g_T) (hv : v = Int32.ofInt z) (k : G M Q Z sg (pc + 2) lv (gi z :: st)) : G M Q Z sg pc lv st :=
  fun p l e R s m args below meth c D A ad ca X H locs ls Y => lv_ldc X.1 X.2.1 X.2.2.2.2.1 (X.2.2.2.2.2.2.1 _ hw) hd (by rw [gi_eq hv]; exact k p l e R s m args below meth c D A ad ca X H locs ls Y)
theorem G_ldc_w {idx : Nat} {v : Int32} {z : Int} (hd : decode (g_b M) pc = .ok (.ldc_w idx, 3)) (hw : Cond.constant (g_y M).cls idx v ∈ g_T) (hv : v = Int32.ofInt z) (k : G M Q Z sg (pc + 3) lv (gi z :: st)) : G M Q Z sg pc lv st :=
  fun p l e R s m args below meth c D A ad ca X H locs ls Y => lv_ldcw X.1 X.2.1 X.2.2.2.2.1 (X.2.2.2.2.2.2.1 _ hw) hd (by rw [gi_eq hv]; exact k p l e R s m args below meth c D A ad ca X H locs ls Y)
theorem G_ldc2 {idx : Nat} {v : Int64} {z : Int} (hd : decode (g_b M) pc = .ok (.ldc2_w idx, 3)) (hw : Cond.constantLong (g_y M).cls idx v ∈ g_T) (hv : v = Int64.ofInt z) (k : G M Q Z sg (pc + 3) lv (gl z :: st)) : G M Q Z sg pc lv st :=
  fun p l e R s m args below meth c D A ad ca X H locs ls Y => lv_ldc2 X.1 X.2.1 X.2.2.2.2.1 (X.2.2.2.2.2.2.1 _ hw) hd (by rw [gl_eq hv]; exact k p l e R s m args below meth c D A ad ca X H locs ls Y)
theorem G_iload_n {j : Fin 4} {i : Nat} {x : Int} (hd : decode (g_b M) pc = .ok (.iload_n j, 1)) (hj : (j : Nat) = i) (hi : lv[i]? = some (some (gi x))) (k : G M Q Z sg (pc + 1) lv (gi x :: st)) : G M Q Z sg pc lv st :=
  fun p l e R s m args below meth c D A ad ca X H locs ls Y => lv_iload_n X.1 X.2.1 hd hj (g_rd Y.2.2.2.1 hi) (k p l e R s m args below meth c D A ad ca X H locs ls Y)
theorem G_iload {i : Nat} {x : Int} (hd : decode (g_b M) pc = .ok (.iload i, 2)) (hi : lv[i]? = some (some (gi x))) (k : G M Q Z sg (pc + 2) lv (gi x :: st)) : G M Q Z sg pc lv st :=
  fun p l e R s m args below meth c D A ad ca X H locs ls Y => lv_iload X.1 X.2.1 hd (g_rd Y.2.2.2.1 hi) (k p l e R s m args below meth c D A ad ca X H locs ls Y)
theorem G_lload_n {j : Fin 4} {i : Nat} {x : Int} (hd : decode (g_b M) pc = .ok (.lload_n j, 1)) (hj : (j : Nat) = i) (hi : lv[i]? = some (some (gl x))) (k : G M Q Z sg (pc + 1) lv (gl x :: st)) : G M Q Z sg pc lv st :=
  fun p l e R s m args below meth c D A ad ca X H locs ls Y => lv_lload_n X.1 X.2.1 hd hj (g_rd Y.2.2.2.1 hi) (k p l e R s m args below meth c D A ad ca X H locs ls Y)
theorem G_lload {i : Nat} {x : Int} (hd : decode (g_b M) pc = .ok (.lload i, 2)) (hi : lv[i]? = some (some (gl x))) (k : G M Q Z sg (pc + 2) lv (gl x :: st)) : G M Q Z sg pc lv st :=
  fun p l e R s m args below meth c D A ad ca X H locs ls Y => lv_lload X.1 X.2.1 hd (g_rd Y.2.2.2.1 hi) (k p l e R s m args below meth c D A ad ca X H locs ls Y)
theorem G_aload_n {j : Fin 4} {i : Nat} {x : Nat} (hd : decode (g_b M) pc = .ok (.aload_n j, 1)) (hj : (j : Nat) = i) (hi : lv[i]? = some (some (Value.ref x))) (k : G M Q Z sg (pc + 1) lv (Value.ref x :: st)) : G M Q Z sg pc lv st :=
  fun p l e R s m args below meth c D A ad ca X H locs ls Y => lv_aload_n X.1 X.2.1 hd hj (g_rd Y.2.2.2.1 hi) (k p l e R s m args below meth c D A ad ca X H locs ls Y)
theorem G_aload {i : Nat} {x : Nat} (hd : decode (g_b M) pc = .ok (.aload i, 2)) (hi : lv[i]? = some (some (Value.ref x))) (k : G M Q Z sg (pc + 2) lv (Value.ref x :: st)) : G M Q Z sg pc lv st :=
  fun p l e R s m args below meth c D A ad ca X H locs ls Y => lv_aload X.1 X.2.1 hd (g_rd Y.2.2.2.1 hi) (k p l e R s m args below meth c D A ad ca X H locs ls Y)
theorem G_istore_n {j : Fin 4} {i : Nat} {x : Int} {lv' : List (Option Value)} (hd : decode (g_b M) pc = .ok (.istore_n j, 1)) (hj : (j : Nat) = i) (hn : i < g_n M) (ho : g_nl lv i = true) (hl : lv.set i (some (gi x)) = lv') (k : G M Q Z sg (pc + 1) lv' st) : G M Q Z sg pc lv (gi x :: st) := by
  subst hl
  exact fun p l e R s m args below meth c D A ad ca X H locs ls Y => lv_istore_n X.1 X.2.1 hd hj Y.2.2.2.1 hn rfl fun ls' h => k p l e R s m args below meth c D A ad ca X H locs ls' ⟨Y.1, Y.2.1, Y.2.2.1, g_set1 rfl ho h, Y.2.2.2.2⟩
theorem G_istore {i : Nat} {x : Int} {lv' : List (Option Value)} (hd : decode (g_b M) pc = .ok (.istore i, 2)) (hn : i < g_n M) (ho : g_nl lv i = true) (hl : lv.set i (some (gi x)) = lv') (k : G M Q Z sg (pc + 2) lv' st) : G M Q Z sg pc lv (gi x :: st) := by
  subst hl
  exact fun p l e R s m args below meth c D A ad ca X H locs ls Y => lv_istore X.1 X.2.1 hd Y.2.2.2.1 hn rfl fun ls' h => k p l e R s m args below meth c D A ad ca X H locs ls' ⟨Y.1, Y.2.1, Y.2.2.1, g_set1 rfl ho h, Y.2.2.2.2⟩
theorem G_astore_n {j : Fin 4} {i : Nat} {x : Nat} {lv' : List (Option Value)} (hd : decode (g_b M) pc = .ok (.astore_n j, 1)) (hj : (j : Nat) = i) (hn : i < g_n M) (ho : g_nl lv i = true) (hl : lv.set i (some (Value.ref x)) = lv') (k : G M Q Z sg (pc + 1) lv' st) : G M Q Z sg pc lv (Value.ref x :: st) := by
  subst hl
  exact fun p l e R s m args below meth c D A ad ca X H locs ls Y => lv_astore_n X.1 X.2.1 hd hj Y.2.2.2.1 hn rfl fun ls' h => k p l e R s m args below meth c D A ad ca X H locs ls' ⟨Y.1, Y.2.1, Y.2.2.1, g_set1 rfl ho h, Y.2.2.2.2⟩
theorem G_astore {i : Nat} {x : Nat} {lv' : List (Option Value)} (hd : decode (g_b M) pc = .ok (.astore i, 2)) (hn : i < g_n M) (ho : g_nl lv i = true) (hl : lv.set i (some (Value.ref x)) = lv') (k : G M Q Z sg (pc + 2) lv' st) : G M Q Z sg pc lv (Value.ref x :: st) := by
  subst hl
  exact fun p l e R s m args below meth c D A ad ca X H locs ls Y => lv_astore X.1 X.2.1 hd Y.2.2.2.1 hn rfl fun ls' h => k p l e R s m args below meth c D A ad ca X H locs ls' ⟨Y.1, Y.2.1, Y.2.2.1, g_set1 rfl ho h, Y.2.2.2.2⟩
theorem G_lstore_n {j : Fin 4} {i : Nat} {x : Int} {lv' : List (Option Value)} (hd : decode (g_b M) pc = .ok (.lstore_n j, 1)) (hj : (j : Nat) = i) (hn : i + 1 < g_n M) (ho : g_nl lv i = true) (hl : (lv.set i (some (gl x))).set (i + 1) none = lv') (k : G M Q Z sg (pc + 1) lv' st) : G M Q Z sg pc lv (gl x :: st) := by
  subst hl
  exact fun p l e R s m args below meth c D A ad ca X H locs ls Y => lv_lstore_n X.1 X.2.1 hd hj Y.2.2.2.1 hn rfl fun ls' h => k p l e R s m args below meth c D A ad ca X H locs ls' ⟨Y.1, Y.2.1, Y.2.2.1, g_set2 rfl ho h, Y.2.2.2.2⟩
theorem G_lstore {i : Nat} {x : Int} {lv' : List (Option Value)} (hd : decode (g_b M) pc = .ok (.lstore i, 2)) (hn : i + 1 < g_n M) (ho : g_nl lv i = true) (hl : (lv.set i (some (gl x))).set (i + 1) none = lv') (k : G M Q Z sg (pc + 2) lv' st) : G M Q Z sg pc lv (gl x :: st) := by
  subst hl
  exact fun p l e R s m args below meth c D A ad ca X H locs ls Y => lv_lstore X.1 X.2.1 hd Y.2.2.2.1 hn rfl fun ls' h => k p l e R s m args below meth c D A ad ca X H locs ls' ⟨Y.1, Y.2.1, Y.2.2.1, g_set2 rfl ho h, Y.2.2.2.2⟩
theorem G_iinc {i : Nat} {n x : Int} {lv' : List (Option Value)} (hd : decode (g_b M) pc = .ok (.iinc i n, 3)) (hi : lv[i]? = some (some (gi x))) (hn : i < g_n M) (ho : g_nl lv i = true) (hl : lv.set i (some (gi (x + n))) = lv') (k : G M Q Z sg (pc + 3) lv' st) : G M Q Z sg pc lv st := by
  subst hl
  intro p l e R s m args below meth c D A ad ca X H locs ls Y
  obtain ⟨j, hj⟩ := List.getElem?_of_mem (g_lq_mem (ad := ad) (q := (i, gi x)) |>.mpr ⟨gi x, hi, rfl⟩)
  exact lv_iinc X.1 X.2.1 hd Y.2.2.2.1 hj rfl hn rfl fun ls' h => k p l e R s m args below meth c D A ad ca X H locs ls' ⟨Y.1, Y.2.1, Y.2.2.1, g_set1 (v := gi (x + n)) (by rw [← Int32.ofInt_add]; rfl) ho h, Y.2.2.2.2⟩
theorem G_sub {lv' : List (Option Value)} (hs : g_sub lv' lv) (k : G M Q Z sg pc lv' st) : G M Q Z sg pc lv st :=
  fun p l e R s m args below meth c D A ad ca X H locs ls Y => k p l e R s m args below meth c D A ad ca X H locs ls ⟨Y.1, Y.2.1, Y.2.2.1, g_lw Y.2.2.2.1 (fun q hq => by
    obtain ⟨v, h1, h2⟩ := g_lq_mem.mp hq
    exact g_lq_mem.mpr ⟨v, g_sub_get hs h1, h2⟩), Y.2.2.2.2⟩
theorem G_iadd {x y : Int} (hd : decode (g_b M) pc = .ok (.iadd, 1)) (k : G M Q Z sg (pc + 1) lv (gi (x + y) :: st)) : G M Q Z sg pc lv (gi y :: gi x :: st) :=
  fun p l e R s m args below meth c D A ad ca X H locs ls Y => lv_iadd (x := Int32.ofInt x) (y := Int32.ofInt y) X.1 X.2.1 hd (by rw [gi_eq (z := x + y) ((Int32.ofInt_add x y).symm)]; exact k p l e R s m args below meth c D A ad ca X H locs ls Y)
theorem G_isub {x y : Int} (hd : decode (g_b M) pc = .ok (.isub, 1)) (k : G M Q Z sg (pc + 1) lv (gi (x - y) :: st)) : G M Q Z sg pc lv (gi y :: gi x :: st) :=
  fun p l e R s m args below meth c D A ad ca X H locs ls Y => lv_isub (x := Int32.ofInt x) (y := Int32.ofInt y) X.1 X.2.1 hd (by rw [gi_eq (z := x - y) ((Int32.ofInt_sub x y).symm)]; exact k p l e R s m args below meth c D A ad ca X H locs ls Y)
theorem G_imul {x y : Int} (hd : decode (g_b M) pc = .ok (.imul, 1)) (k : G M Q Z sg (pc + 1) lv (gi (x * y) :: st)) : G M Q Z sg pc lv (gi y :: gi x :: st) :=
  fun p l e R s m args below meth c D A ad ca X H locs ls Y => lv_imul (x := Int32.ofInt x) (y := Int32.ofInt y) X.1 X.2.1 hd (by rw [gi_eq (z := x * y) ((Int32.ofInt_mul x y).symm)]; exact k p l e R s m args below meth c D A ad ca X H locs ls Y)
theorem G_ladd {x y : Int} (hd : decode (g_b M) pc = .ok (.ladd, 1)) (k : G M Q Z sg (pc + 1) lv (gl (x + y) :: st)) : G M Q Z sg pc lv (gl y :: gl x :: st) :=
  fun p l e R s m args below meth c D A ad ca X H locs ls Y => lv_ladd (x := Int64.ofInt x) (y := Int64.ofInt y) X.1 X.2.1 hd (by rw [gl_eq (z := x + y) ((Int64.ofInt_add x y).symm)]; exact k p l e R s m args below meth c D A ad ca X H locs ls Y)
theorem G_lsub {x y : Int} (hd : decode (g_b M) pc = .ok (.lsub, 1)) (k : G M Q Z sg (pc + 1) lv (gl (x - y) :: st)) : G M Q Z sg pc lv (gl y :: gl x :: st) :=
  fun p l e R s m args below meth c D A ad ca X H locs ls Y => lv_lsub (x := Int64.ofInt x) (y := Int64.ofInt y) X.1 X.2.1 hd (by rw [gl_eq (z := x - y) ((Int64.ofInt_sub x y).symm)]; exact k p l e R s m args below meth c D A ad ca X H locs ls Y)
theorem G_lmul {x y : Int} (hd : decode (g_b M) pc = .ok (.lmul, 1)) (k : G M Q Z sg (pc + 1) lv (gl (x * y) :: st)) : G M Q Z sg pc lv (gl y :: gl x :: st) :=
  fun p l e R s m args below meth c D A ad ca X H locs ls Y => lv_lmul (x := Int64.ofInt x) (y := Int64.ofInt y) X.1 X.2.1 hd (by rw [gl_eq (z := x * y) ((Int64.ofInt_mul x y).symm)]; exact k p l e R s m args below meth c D A ad ca X H locs ls Y)
theorem G_iand {x y : Int} (hd : decode (g_b M) pc = .ok (.iand, 1)) (k : G M Q Z sg (pc + 1) lv (gi (i_and x y) :: st)) : G M Q Z sg pc lv (gi y :: gi x :: st) :=
  fun p l e R s m args below meth c D A ad ca X H locs ls Y => lv_iand (x := Int32.ofInt x) (y := Int32.ofInt y) X.1 X.2.1 hd (by rw [gi_eq (z := i_and x y) ((Int32.ofInt_toInt _).symm)]; exact k p l e R s m args below meth c D A ad ca X H locs ls Y)
theorem G_land {x y : Int} (hd : decode (g_b M) pc = .ok (.land, 1)) (k : G M Q Z sg (pc + 1) lv (gl (l_and x y) :: st)) : G M Q Z sg pc lv (gl y :: gl x :: st) :=
  fun p l e R s m args below meth c D A ad ca X H locs ls Y => lv_land (x := Int64.ofInt x) (y := Int64.ofInt y) X.1 X.2.1 hd (by rw [gl_eq (z := l_and x y) ((Int64.ofInt_toInt _).symm)]; exact k p l e R s m args below meth c D A ad ca X H locs ls Y)
theorem G_ior {x y : Int} (hd : decode (g_b M) pc = .ok (.ior, 1)) (k : G M Q Z sg (pc + 1) lv (gi (i_or x y) :: st)) : G M Q Z sg pc lv (gi y :: gi x :: st) :=
  fun p l e R s m args below meth c D A ad ca X H locs ls Y => lv_ior (x := Int32.ofInt x) (y := Int32.ofInt y) X.1 X.2.1 hd (by rw [gi_eq (z := i_or x y) ((Int32.ofInt_toInt _).symm)]; exact k p l e R s m args below meth c D A ad ca X H locs ls Y)
theorem G_lor {x y : Int} (hd : decode (g_b M) pc = .ok (.lor, 1)) (k : G M Q Z sg (pc + 1) lv (gl (l_or x y) :: st)) : G M Q Z sg pc lv (gl y :: gl x :: st) :=
  fun p l e R s m args below meth c D A ad ca X H locs ls Y => lv_lor (x := Int64.ofInt x) (y := Int64.ofInt y) X.1 X.2.1 hd (by rw [gl_eq (z := l_or x y) ((Int64.ofInt_toInt _).symm)]; exact k p l e R s m args below meth c D A ad ca X H locs ls Y)
theorem G_ixor {x y : Int} (hd : decode (g_b M) pc = .ok (.ixor, 1)) (k : G M Q Z sg (pc + 1) lv (gi (i_xor x y) :: st)) : G M Q Z sg pc lv (gi y :: gi x :: st) :=
  fun p l e R s m args below meth c D A ad ca X H locs ls Y => lv_ixor (x := Int32.ofInt x) (y := Int32.ofInt y) X.1 X.2.1 hd (by rw [gi_eq (z := i_xor x y) ((Int32.ofInt_toInt _).symm)]; exact k p l e R s m args below meth c D A ad ca X H locs ls Y)
theorem G_lxor {x y : Int} (hd : decode (g_b M) pc = .ok (.lxor, 1)) (k : G M Q Z sg (pc + 1) lv (gl (l_xor x y) :: st)) : G M Q Z sg pc lv (gl y :: gl x :: st) :=
  fun p l e R s m args below meth c D A ad ca X H locs ls Y => lv_lxor (x := Int64.ofInt x) (y := Int64.ofInt y) X.1 X.2.1 hd (by rw [gl_eq (z := l_xor x y) ((Int64.ofInt_toInt _).symm)]; exact k p l e R s m args below meth c D A ad ca X H locs ls Y)
theorem G_ishl {x y : Int} (hd : decode (g_b M) pc = .ok (.ishl, 1)) (k : G M Q Z sg (pc + 1) lv (gi (i_shl x y) :: st)) : G M Q Z sg pc lv (gi y :: gi x :: st) :=
  fun p l e R s m args below meth c D A ad ca X H locs ls Y => lv_ishl (x := Int32.ofInt x) (y := Int32.ofInt y) X.1 X.2.1 hd (by rw [gi_eq (z := i_shl x y) ((Int32.ofInt_toInt _).symm)]; exact k p l e R s m args below meth c D A ad ca X H locs ls Y)
theorem G_ishr {x y : Int} (hd : decode (g_b M) pc = .ok (.ishr, 1)) (k : G M Q Z sg (pc + 1) lv (gi (i_shr x y) :: st)) : G M Q Z sg pc lv (gi y :: gi x :: st) :=
  fun p l e R s m args below meth c D A ad ca X H locs ls Y => lv_ishr (x := Int32.ofInt x) (y := Int32.ofInt y) X.1 X.2.1 hd (by rw [gi_eq (z := i_shr x y) ((Int32.ofInt_toInt _).symm)]; exact k p l e R s m args below meth c D A ad ca X H locs ls Y)
theorem G_idiv {x y : Int} (hd : decode (g_b M) pc = .ok (.idiv, 1)) (hz : ¬ w32 y = 0) (k : G M Q Z sg (pc + 1) lv (gi (i_div x y) :: st)) : G M Q Z sg pc lv (gi y :: gi x :: st) :=
  fun p l e R s m args below meth c D A ad ca X H locs ls Y => lv_idiv (x := Int32.ofInt x) (y := Int32.ofInt y) X.1 X.2.1 hd (fun q => hz (w32_0.mp q)) (by rw [gi_eq (z := i_div x y) ((Int32.ofInt_toInt _).symm)]; exact k p l e R s m args below meth c D A ad ca X H locs ls Y)
theorem G_ldiv {x y : Int} (hd : decode (g_b M) pc = .ok (.ldiv, 1)) (hz : ¬ w64 y = 0) (k : G M Q Z sg (pc + 1) lv (gl (l_div x y) :: st)) : G M Q Z sg pc lv (gl y :: gl x :: st) :=
  fun p l e R s m args below meth c D A ad ca X H locs ls Y => lv_ldiv (x := Int64.ofInt x) (y := Int64.ofInt y) X.1 X.2.1 hd (fun q => hz (w64_0.mp q)) (by rw [gl_eq (z := l_div x y) ((Int64.ofInt_toInt _).symm)]; exact k p l e R s m args below meth c D A ad ca X H locs ls Y)
theorem G_irem {x y : Int} (hd : decode (g_b M) pc = .ok (.irem, 1)) (hz : ¬ w32 y = 0) (k : G M Q Z sg (pc + 1) lv (gi (i_rem x y) :: st)) : G M Q Z sg pc lv (gi y :: gi x :: st) :=
  fun p l e R s m args below meth c D A ad ca X H locs ls Y => lv_irem (x := Int32.ofInt x) (y := Int32.ofInt y) X.1 X.2.1 hd (fun q => hz (w32_0.mp q)) (by rw [gi_eq (z := i_rem x y) ((Int32.ofInt_toInt _).symm)]; exact k p l e R s m args below meth c D A ad ca X H locs ls Y)
theorem G_lrem {x y : Int} (hd : decode (g_b M) pc = .ok (.lrem, 1)) (hz : ¬ w64 y = 0) (k : G M Q Z sg (pc + 1) lv (gl (l_rem x y) :: st)) : G M Q Z sg pc lv (gl y :: gl x :: st) :=
  fun p l e R s m args below meth c D A ad ca X H locs ls Y => lv_lrem (x := Int64.ofInt x) (y := Int64.ofInt y) X.1 X.2.1 hd (fun q => hz (w64_0.mp q)) (by rw [gl_eq (z := l_rem x y) ((Int64.ofInt_toInt _).symm)]; exact k p l e R s m args below meth c D A ad ca X H locs ls Y)
theorem G_iushr {x y : Int} (hd : decode (g_b M) pc = .ok (.iushr, 1)) (k : G M Q Z sg (pc + 1) lv (gi (i_ushr x y) :: st)) : G M Q Z sg pc lv (gi y :: gi x :: st) :=
  fun p l e R s m args below meth c D A ad ca X H locs ls Y => lv_iushr X.1 X.2.1 hd (Int32.ofInt_toInt _).symm (k p l e R s m args below meth c D A ad ca X H locs ls Y)
theorem G_lushr {x y : Int} (hd : decode (g_b M) pc = .ok (.lushr, 1)) (k : G M Q Z sg (pc + 1) lv (gl (l_ushr x y) :: st)) : G M Q Z sg pc lv (gi y :: gl x :: st) :=
  fun p l e R s m args below meth c D A ad ca X H locs ls Y => lv_lushr X.1 X.2.1 hd (Int64.ofInt_toInt _).symm (k p l e R s m args below meth c D A ad ca X H locs ls Y)
theorem G_lshl {x y : Int} (hd : decode (g_b M) pc = .ok (.lshl, 1)) (k : G M Q Z sg (pc + 1) lv (gl (l_shl x y) :: st)) : G M Q Z sg pc lv (gi y :: gl x :: st) :=
  fun p l e R s m args below meth c D A ad ca X H locs ls Y => lv_lshl X.1 X.2.1 hd (Int64.ofInt_toInt _).symm (k p l e R s m args below meth c D A ad ca X H locs ls Y)
theorem G_lshr {x y : Int} (hd : decode (g_b M) pc = .ok (.lshr, 1)) (k : G M Q Z sg (pc + 1) lv (gl (l_shr x y) :: st)) : G M Q Z sg pc lv (gi y :: gl x :: st) :=
  fun p l e R s m args below meth c D A ad ca X H locs ls Y => lv_lshr X.1 X.2.1 hd (Int64.ofInt_toInt _).symm (k p l e R s m args below meth c D A ad ca X H locs ls Y)
theorem G_ineg {x : Int} (hd : decode (g_b M) pc = .ok (.ineg, 1)) (k : G M Q Z sg (pc + 1) lv (gi (-x) :: st)) : G M Q Z sg pc lv (gi x :: st) :=
  fun p l e R s m args below meth c D A ad ca X H locs ls Y => lv_ineg (x := Int32.ofInt x) X.1 X.2.1 hd (by rw [gi_eq (Int32.ofInt_neg x).symm]; exact k p l e R s m args below meth c D A ad ca X H locs ls Y)
theorem G_lneg {x : Int} (hd : decode (g_b M) pc = .ok (.lneg, 1)) (k : G M Q Z sg (pc + 1) lv (gl (-x) :: st)) : G M Q Z sg pc lv (gl x :: st) :=
  fun p l e R s m args below meth c D A ad ca X H locs ls Y => lv_lneg (x := Int64.ofInt x) X.1 X.2.1 hd (by rw [gl_eq (Int64.ofInt_neg x).symm]; exact k p l e R s m args below meth c D A ad ca X H locs ls Y)
theorem G_i2l {x : Int} (hd : decode (g_b M) pc = .ok (.i2l, 1)) (k : G M Q Z sg (pc + 1) lv (gl (w32 x) :: st)) : G M Q Z sg pc lv (gi x :: st) :=
  fun p l e R s m args below meth c D A ad ca X H locs ls Y => lv_i2l X.1 X.2.1 hd (i_2l_eq x) (k p l e R s m args below meth c D A ad ca X H locs ls Y)
theorem G_l2i {x : Int} (hd : decode (g_b M) pc = .ok (.l2i, 1)) (k : G M Q Z sg (pc + 1) lv (gi x :: st)) : G M Q Z sg pc lv (gl x :: st) :=
  fun p l e R s m args below meth c D A ad ca X H locs ls Y => lv_l2i X.1 X.2.1 hd Int64.toInt32_ofInt (k p l e R s m args below meth c D A ad ca X H locs ls Y)
theorem G_i2c {x : Int} (hd : decode (g_b M) pc = .ok (.i2c, 1)) (k : G M Q Z sg (pc + 1) lv (gi (i_2c x) :: st)) : G M Q Z sg pc lv (gi x :: st) :=
  fun p l e R s m args below meth c D A ad ca X H locs ls Y => lv_i2c X.1 X.2.1 hd (Int32.ofInt_toInt _).symm (k p l e R s m args below meth c D A ad ca X H locs ls Y)
theorem G_i2b {x : Int} (hd : decode (g_b M) pc = .ok (.i2b, 1)) (k : G M Q Z sg (pc + 1) lv (gi (i_2b x) :: st)) : G M Q Z sg pc lv (gi x :: st) :=
  fun p l e R s m args below meth c D A ad ca X H locs ls Y => lv_i2b X.1 X.2.1 hd (Int32.ofInt_toInt _).symm (k p l e R s m args below meth c D A ad ca X H locs ls Y)
theorem G_lcmp {x y : Int} (hd : decode (g_b M) pc = .ok (.lcmp, 1)) (k : G M Q Z sg (pc + 1) lv (gi (l_cmp x y) :: st)) : G M Q Z sg pc lv (gl y :: gl x :: st) :=
  fun p l e R s m args below meth c D A ad ca X H locs ls Y => W.lcmp (x := Int64.ofInt x) (y := Int64.ofInt y) X.1 X.2.1 hd (by rw [gi_eq (l_cmp_eq x y)]; exact k p l e R s m args below meth c D A ad ca X H locs ls Y)
theorem G_dup {a : Value} (hd : decode (g_b M) pc = .ok (.dup, 1)) (ha : a.category = 1) (k : G M Q Z sg (pc + 1) lv (a :: a :: st)) : G M Q Z sg pc lv (a :: st) :=
  fun p l e R s m args below meth c D A ad ca X H locs ls Y => lv_dup X.1 X.2.1 hd (by rw [g_v_cat]; exact ha) (k p l e R s m args below meth c D A ad ca X H locs ls Y)
theorem G_pop {a : Value} (hd : decode (g_b M) pc = .ok (.pop, 1)) (ha : a.category = 1) (k : G M Q Z sg (pc + 1) lv st) : G M Q Z sg pc lv (a :: st) :=
  fun p l e R s m args below meth c D A ad ca X H locs ls Y => lv_pop X.1 X.2.1 hd (by rw [g_v_cat]; exact ha) (k p l e R s m args below meth c D A ad ca X H locs ls Y)
theorem G_dup_x1 {a b : Value} (hd : decode (g_b M) pc = .ok (.dup_x1, 1)) (ha : a.category = 1) (hb : b.category = 1) (k : G M Q Z sg (pc + 1) lv (a :: b :: a :: st)) : G M Q Z sg pc lv (a :: b :: st) :=
  fun p l e R s m args below meth c D A ad ca X H locs ls Y => lv_dup_x1 X.1 X.2.1 hd (by rw [g_v_cat]; exact ha) (by rw [g_v_cat]; exact hb) (k p l e R s m args below meth c D A ad ca X H locs ls Y)
theorem G_dup_x2 {a b w : Value} (hd : decode (g_b M) pc = .ok (.dup_x2, 1)) (ha : a.category = 1) (hb : b.category = 1) (hw : w.category = 1) (k : G M Q Z sg (pc + 1) lv (a :: b :: w :: a :: st)) : G M Q Z sg pc lv (a :: b :: w :: st) :=
  fun p l e R s m args below meth c D A ad ca X H locs ls Y => lv_dup_x2 X.1 X.2.1 hd (by rw [g_v_cat]; exact ha) (by rw [g_v_cat]; exact hb) (by rw [g_v_cat]; exact hw) (k p l e R s m args below meth c D A ad ca X H locs ls Y)
theorem G_dup2_11 {a b : Value} (hd : decode (g_b M) pc = .ok (.dup2, 1)) (ha : a.category = 1) (hb : b.category = 1) (k : G M Q Z sg (pc + 1) lv (a :: b :: a :: b :: st)) : G M Q Z sg pc lv (a :: b :: st) :=
  fun p l e R s m args below meth c D A ad ca X H locs ls Y => lv_dup2_11 X.1 X.2.1 hd (by rw [g_v_cat]; exact ha) (by rw [g_v_cat]; exact hb) (k p l e R s m args below meth c D A ad ca X H locs ls Y)
theorem G_dup2_2 {a : Value} (hd : decode (g_b M) pc = .ok (.dup2, 1)) (ha : a.category = 2) (k : G M Q Z sg (pc + 1) lv (a :: a :: st)) : G M Q Z sg pc lv (a :: st) :=
  fun p l e R s m args below meth c D A ad ca X H locs ls Y => lv_dup2_2 X.1 X.2.1 hd (by rw [g_v_cat]; exact ha) (k p l e R s m args below meth c D A ad ca X H locs ls Y)
theorem G_pop2_2 {a : Value} (hd : decode (g_b M) pc = .ok (.pop2, 1)) (ha : a.category = 2) (k : G M Q Z sg (pc + 1) lv st) : G M Q Z sg pc lv (a :: st) :=
  fun p l e R s m args below meth c D A ad ca X H locs ls Y => lv_pop2_2 X.1 X.2.1 hd (by rw [g_v_cat]; exact ha) (k p l e R s m args below meth c D A ad ca X H locs ls Y)
theorem G_pop2_11 {a b : Value} (hd : decode (g_b M) pc = .ok (.pop2, 1)) (ha : a.category = 1) (hb : b.category = 1) (k : G M Q Z sg (pc + 1) lv st) : G M Q Z sg pc lv (a :: b :: st) :=
  fun p l e R s m args below meth c D A ad ca X H locs ls Y => lv_pop2_11 X.1 X.2.1 hd (by rw [g_v_cat]; exact ha) (by rw [g_v_cat]; exact hb) (k p l e R s m args below meth c D A ad ca X H locs ls Y)
theorem G_dup2_x1_2 {a b : Value} (hd : decode (g_b M) pc = .ok (.dup2_x1, 1)) (ha : a.category = 2) (hb : b.category = 1) (k : G M Q Z sg (pc + 1) lv (a :: b :: a :: st)) : G M Q Z sg pc lv (a :: b :: st) :=
  fun p l e R s m args below meth c D A ad ca X H locs ls Y => lv_dup2_x1_2 X.1 X.2.1 hd (by rw [g_v_cat]; exact ha) (by rw [g_v_cat]; exact hb) (k p l e R s m args below meth c D A ad ca X H locs ls Y)
theorem G_dup2_x2_2 {a b w : Value} (hd : decode (g_b M) pc = .ok (.dup2_x2, 1)) (ha : a.category = 2) (hb : b.category = 1) (hw : w.category = 1) (k : G M Q Z sg (pc + 1) lv (a :: b :: w :: a :: st)) : G M Q Z sg pc lv (a :: b :: w :: st) :=
  fun p l e R s m args below meth c D A ad ca X H locs ls Y => lv_dup2_x2_2 X.1 X.2.1 hd (by rw [g_v_cat]; exact ha) (by rw [g_v_cat]; exact hb) (by rw [g_v_cat]; exact hw) (k p l e R s m args below meth c D A ad ca X H locs ls Y)
theorem G_icmp_eq {x y a b : Int} {off : Int} {tgt : Nat} (hd : decode (g_b M) pc = .ok (.if_icmp .eq off, 3)) (ht : (pc : Int) + off = (tgt : Int)) (ha : w32 x = a) (hb : w32 y = b) (kt : a = b → G M Q Z sg tgt lv st) (kf : ¬ a = b → G M Q Z sg (pc + 3) lv st) : G M Q Z sg pc lv (gi y :: gi x :: st) := by
  subst ha hb
  exact fun p l e R s m args below meth c D A ad ca X H locs ls Y => lv_icmp_eq (x := Int32.ofInt x) (y := Int32.ofInt y) X.1 X.2.1 hd ht (fun h => kt (w32_eq.mp h) p l e R s m args below meth c D A ad ca X H locs ls Y) (fun h => kf (fun q => h (w32_eq.mpr q)) p l e R s m args below meth c D A ad ca X H locs ls Y)
theorem G_icmp_lt {x y a b : Int} {off : Int} {tgt : Nat} (hd : decode (g_b M) pc = .ok (.if_icmp .lt off, 3)) (ht : (pc : Int) + off = (tgt : Int)) (ha : w32 x = a) (hb : w32 y = b) (kt : a < b → G M Q Z sg tgt lv st) (kf : ¬ a < b → G M Q Z sg (pc + 3) lv st) : G M Q Z sg pc lv (gi y :: gi x :: st) := by
  subst ha hb
  exact fun p l e R s m args below meth c D A ad ca X H locs ls Y => lv_icmp_lt (x := Int32.ofInt x) (y := Int32.ofInt y) X.1 X.2.1 hd ht (fun h => kt (w32_lt.mp h) p l e R s m args below meth c D A ad ca X H locs ls Y) (fun h => kf (fun q => h (w32_lt.mpr q)) p l e R s m args below meth c D A ad ca X H locs ls Y)
theorem G_icmp_ge {x y a b : Int} {off : Int} {tgt : Nat} (hd : decode (g_b M) pc = .ok (.if_icmp .ge off, 3)) (ht : (pc : Int) + off = (tgt : Int)) (ha : w32 x = a) (hb : w32 y = b) (kt : b ≤ a → G M Q Z sg tgt lv st) (kf : ¬ b ≤ a → G M Q Z sg (pc + 3) lv st) : G M Q Z sg pc lv (gi y :: gi x :: st) := by
  subst ha hb
  exact fun p l e R s m args below meth c D A ad ca X H locs ls Y => lv_icmp_ge (x := Int32.ofInt x) (y := Int32.ofInt y) X.1 X.2.1 hd ht (fun h => kt (w32_le.mp h) p l e R s m args below meth c D A ad ca X H locs ls Y) (fun h => kf (fun q => h (w32_le.mpr q)) p l e R s m args below meth c D A ad ca X H locs ls Y)
theorem G_icmp_gt {x y a b : Int} {off : Int} {tgt : Nat} (hd : decode (g_b M) pc = .ok (.if_icmp .gt off, 3)) (ht : (pc : Int) + off = (tgt : Int)) (ha : w32 x = a) (hb : w32 y = b) (kt : b < a → G M Q Z sg tgt lv st) (kf : ¬ b < a → G M Q Z sg (pc + 3) lv st) : G M Q Z sg pc lv (gi y :: gi x :: st) := by
  subst ha hb
  exact fun p l e R s m args below meth c D A ad ca X H locs ls Y => lv_icmp_gt (x := Int32.ofInt x) (y := Int32.ofInt y) X.1 X.2.1 hd ht (fun h => kt (w32_lt.mp h) p l e R s m args below meth c D A ad ca X H locs ls Y) (fun h => kf (fun q => h (w32_lt.mpr q)) p l e R s m args below meth c D A ad ca X H locs ls Y)
theorem G_icmp_le {x y a b : Int} {off : Int} {tgt : Nat} (hd : decode (g_b M) pc = .ok (.if_icmp .le off, 3)) (ht : (pc : Int) + off = (tgt : Int)) (ha : w32 x = a) (hb : w32 y = b) (kt : a ≤ b → G M Q Z sg tgt lv st) (kf : ¬ a ≤ b → G M Q Z sg (pc + 3) lv st) : G M Q Z sg pc lv (gi y :: gi x :: st) := by
  subst ha hb
  exact fun p l e R s m args below meth c D A ad ca X H locs ls Y => lv_icmp_le (x := Int32.ofInt x) (y := Int32.ofInt y) X.1 X.2.1 hd ht (fun h => kt (w32_le.mp h) p l e R s m args below meth c D A ad ca X H locs ls Y) (fun h => kf (fun q => h (w32_le.mpr q)) p l e R s m args below meth c D A ad ca X H locs ls Y)
theorem G_icmp_ne {x y a b : Int} {off : Int} {tgt : Nat} (hd : decode (g_b M) pc = .ok (.if_icmp .ne off, 3)) (ht : (pc : Int) + off = (tgt : Int)) (ha : w32 x = a) (hb : w32 y = b) (kt : ¬ a = b → G M Q Z sg tgt lv st) (kf : a = b → G M Q Z sg (pc + 3) lv st) : G M Q Z sg pc lv (gi y :: gi x :: st) := by
  subst ha hb
  exact fun p l e R s m args below meth c D A ad ca X H locs ls Y => lv_icmp_ne (x := Int32.ofInt x) (y := Int32.ofInt y) X.1 X.2.1 hd ht (fun h => kt (fun q => h (w32_eq.mpr q)) p l e R s m args below meth c D A ad ca X H locs ls Y) (fun h => kf (w32_eq.mp h) p l e R s m args below meth c D A ad ca X H locs ls Y)
theorem G_if_eq {x a : Int} {off : Int} {tgt : Nat} (hd : decode (g_b M) pc = .ok (.ifCond .eq off, 3)) (ht : (pc : Int) + off = (tgt : Int)) (ha : w32 x = a) (kt : a = 0 → G M Q Z sg tgt lv st) (kf : ¬ a = 0 → G M Q Z sg (pc + 3) lv st) : G M Q Z sg pc lv (gi x :: st) := by
  subst ha
  exact fun p l e R s m args below meth c D A ad ca X H locs ls Y => lv_if_eq (x := Int32.ofInt x) X.1 X.2.1 hd ht (fun h => kt (w32_0.mp h) p l e R s m args below meth c D A ad ca X H locs ls Y) (fun h => kf (fun q => h (w32_0.mpr q)) p l e R s m args below meth c D A ad ca X H locs ls Y)
theorem G_if_lt {x a : Int} {off : Int} {tgt : Nat} (hd : decode (g_b M) pc = .ok (.ifCond .lt off, 3)) (ht : (pc : Int) + off = (tgt : Int)) (ha : w32 x = a) (kt : a < 0 → G M Q Z sg tgt lv st) (kf : ¬ a < 0 → G M Q Z sg (pc + 3) lv st) : G M Q Z sg pc lv (gi x :: st) := by
  subst ha
  exact fun p l e R s m args below meth c D A ad ca X H locs ls Y => lv_if_lt (x := Int32.ofInt x) X.1 X.2.1 hd ht (fun h => kt (w32_l0.mp h) p l e R s m args below meth c D A ad ca X H locs ls Y) (fun h => kf (fun q => h (w32_l0.mpr q)) p l e R s m args below meth c D A ad ca X H locs ls Y)
theorem G_if_ge {x a : Int} {off : Int} {tgt : Nat} (hd : decode (g_b M) pc = .ok (.ifCond .ge off, 3)) (ht : (pc : Int) + off = (tgt : Int)) (ha : w32 x = a) (kt : 0 ≤ a → G M Q Z sg tgt lv st) (kf : ¬ 0 ≤ a → G M Q Z sg (pc + 3) lv st) : G M Q Z sg pc lv (gi x :: st) := by
  subst ha
  exact fun p l e R s m args below meth c D A ad ca X H locs ls Y => lv_if_ge (x := Int32.ofInt x) X.1 X.2.1 hd ht (fun h => kt (w32_0le.mp h) p l e R s m args below meth c D A ad ca X H locs ls Y) (fun h => kf (fun q => h (w32_0le.mpr q)) p l e R s m args below meth c D A ad ca X H locs ls Y)
theorem G_if_gt {x a : Int} {off : Int} {tgt : Nat} (hd : decode (g_b M) pc = .ok (.ifCond .gt off, 3)) (ht : (pc : Int) + off = (tgt : Int)) (ha : w32 x = a) (kt : 0 < a → G M Q Z sg tgt lv st) (kf : ¬ 0 < a → G M Q Z sg (pc + 3) lv st) : G M Q Z sg pc lv (gi x :: st) := by
  subst ha
  exact fun p l e R s m args below meth c D A ad ca X H locs ls Y => lv_if_gt (x := Int32.ofInt x) X.1 X.2.1 hd ht (fun h => kt (w32_0l.mp h) p l e R s m args below meth c D A ad ca X H locs ls Y) (fun h => kf (fun q => h (w32_0l.mpr q)) p l e R s m args below meth c D A ad ca X H locs ls Y)
theorem G_if_le {x a : Int} {off : Int} {tgt : Nat} (hd : decode (g_b M) pc = .ok (.ifCond .le off, 3)) (ht : (pc : Int) + off = (tgt : Int)) (ha : w32 x = a) (kt : a ≤ 0 → G M Q Z sg tgt lv st) (kf : ¬ a ≤ 0 → G M Q Z sg (pc + 3) lv st) : G M Q Z sg pc lv (gi x :: st) := by
  subst ha
  exact fun p l e R s m args below meth c D A ad ca X H locs ls Y => lv_if_le (x := Int32.ofInt x) X.1 X.2.1 hd ht (fun h => kt (w32_le0.mp h) p l e R s m args below meth c D A ad ca X H locs ls Y) (fun h => kf (fun q => h (w32_le0.mpr q)) p l e R s m args below meth c D A ad ca X H locs ls Y)
theorem G_if_ne {x a : Int} {off : Int} {tgt : Nat} (hd : decode (g_b M) pc = .ok (.ifCond .ne off, 3)) (ht : (pc : Int) + off = (tgt : Int)) (ha : w32 x = a) (kt : ¬ a = 0 → G M Q Z sg tgt lv st) (kf : a = 0 → G M Q Z sg (pc + 3) lv st) : G M Q Z sg pc lv (gi x :: st) := by
  subst ha
  exact fun p l e R s m args below meth c D A ad ca X H locs ls Y => lv_if_ne (x := Int32.ofInt x) X.1 X.2.1 hd ht (fun h => kt (fun q => h (w32_0.mpr q)) p l e R s m args below meth c D A ad ca X H locs ls Y) (fun h => kf (w32_0.mp h) p l e R s m args below meth c D A ad ca X H locs ls Y)
theorem G_goto {off : Int} {tgt : Nat} (hd : decode (g_b M) pc = .ok (.goto off, 3)) (ht : (pc : Int) + off = (tgt : Int)) (k : G M Q Z sg tgt lv st) : G M Q Z sg pc lv st :=
  fun p l e R s m args below meth c D A ad ca X H locs ls Y => lv_goto X.1 X.2.1 hd ht (k p l e R s m args below meth c D A ad ca X H locs ls Y)
def g_sw (P : Nat → Prop) (z : Int) (d : Nat) : List (Int × Nat) → Prop
  | [] => P d
  | (a, t) :: r => (z = a → P t) ∧ (¬ z = a → g_sw P z d r)
def g_so (pc : Nat) (ks : List (Int × Nat)) : List (Int × Int) := ks.map fun q => (q.1, (q.2 : Int) - (pc : Int))
theorem g_sw_off {P : Nat → Prop} {pc d : Nat} {z : Int} : ∀ {ks : List (Int × Nat)}, g_sw P z d ks → ∃ t : Nat, (pc : Int) + Op.lookupswitch.offset (g_so pc ks) ((d : Int) - (pc : Int)) z = (t : Int) ∧ P t := by
  intro ks
  induction ks with
  | nil =>
    intro h
    refine ⟨d, ?_, h⟩
    show (pc : Int) + ((d : Int) - (pc : Int)) = (d : Int)
    omega
  | cons q r ih =>
    intro h
    obtain ⟨a, t⟩ := q
    rw [show g_so pc ((a, t) :: r) = (a, (t : Int) - (pc : Int)) :: g_so pc r from rfl, Op.lookupswitch.offset_cons]
    by_cases e : a = z
    · rw [if_pos e]
      exact ⟨t, by omega, h.1 e.symm⟩
    · rw [if_neg e]
      exact ih (h.2 fun q => e q.symm)
theorem G_lookup {d : Int} {ps : Array (Int × Int)} {len : Nat} {x a : Int} (ks : List (Int × Nat)) (dt : Nat) (hd : decode (g_b M) pc = .ok (.lookupswitch d ps, len)) (hk : (decide (d = (dt : Int) - (pc : Int)) && decide (ps.toList = g_so pc ks)) = true) (hp : (ps.toList.zip (ps.toList.drop 1)).all (fun (a, next) => a.1 < next.1) = true) (ha : w32 x = a) (k : g_sw (fun t => G M Q Z sg t lv st) a dt ks) : G M Q Z sg pc lv (gi x :: st) := by
  subst ha
  simp only [Bool.and_eq_true, decide_eq_true_eq] at hk
  obtain ⟨e1, e2⟩ := hk
  obtain ⟨t, h1, h2⟩ := g_sw_off (pc := pc) k
  exact fun p l e R s m args below meth c D A ad ca X H locs ls Y => lv_lookup (x := Int32.ofInt x) (tgt := t) X.1 X.2.1 hd hp (by rw [w32_toInt, e1, e2]) h1 (h2 p l e R s m args below meth c D A ad ca X H locs ls Y)
def g_tk : Int → List Int → List (Int × Int)
  | _, [] => []
  | a, o :: r => (a, o) :: g_tk (a + 1) r
theorem g_tk_in {d z : Int} : ∀ {os : List Int} {lo : Int} {o : Int}, lo ≤ z → os[(z - lo).toNat]? = some o → Op.lookupswitch.offset (g_tk lo os) d z = o := by
  intro os
  induction os with
  | nil => intro lo o _ h; simp at h
  | cons y r ih =>
    intro lo o hl h
    rw [show g_tk lo (y :: r) = (lo, y) :: g_tk (lo + 1) r from rfl, Op.lookupswitch.offset_cons]
    by_cases e : lo = z
    · rw [if_pos e]
      rw [show (z - lo).toNat = 0 by omega] at h
      simpa using h
    · rw [if_neg e]
      refine ih (by omega) ?_
      rw [show (z - lo).toNat = (z - (lo + 1)).toNat + 1 by omega] at h
      simpa using h
theorem g_tk_out {d z : Int} : ∀ {os : List Int} {lo : Int}, z < lo ∨ lo + os.length ≤ z → Op.lookupswitch.offset (g_tk lo os) d z = d := by
  intro os
  induction os with
  | nil => intro lo _; rfl
  | cons y r ih =>
    intro lo h
    rw [show g_tk lo (y :: r) = (lo, y) :: g_tk (lo + 1) r from rfl, Op.lookupswitch.offset_cons]
    have h2 : z < lo ∨ lo + ((r.length : Int) + 1) ≤ z := by simpa using h
    rw [if_neg (by omega)]
    exact ih (by omega)
theorem G_table {d lo hi : Int} {os : Array Int} {len : Nat} {x a : Int} (ks : List (Int × Nat)) (dt : Nat) (hd : decode (g_b M) pc = .ok (.tableswitch d lo hi os, len)) (hk : (decide (d = (dt : Int) - (pc : Int)) && decide (g_tk lo os.toList = g_so pc ks)) = true) (hp : decide (lo + os.toList.length = hi + 1) = true) (ha : w32 x = a) (k : g_sw (fun t => G M Q Z sg t lv st) a dt ks) : G M Q Z sg pc lv (gi x :: st) := by
  subst ha
  simp only [Bool.and_eq_true, decide_eq_true_eq] at hk hp
  obtain ⟨e1, e2⟩ := hk
  obtain ⟨t, h1, h2⟩ := g_sw_off (pc := pc) k
  rw [← e1, ← e2] at h1
  intro p l e R s m args below meth c D A ad ca X H locs ls Y
  have hw := h2 p l e R s m args below meth c D A ad ca X H locs ls Y
  by_cases c1 : w32 x < lo ∨ hi < w32 x
  · rw [g_tk_out (by omega)] at h1
    exact lv_tableOut (x := Int32.ofInt x) (tgt := t) X.1 X.2.1 hd (by rw [w32_toInt]; exact c1) h1 hw
  · have hlt : (w32 x - lo).toNat < os.toList.length := by omega
    have ho : os.toList[(w32 x - lo).toNat]? = some (os.toList[(w32 x - lo).toNat]) := List.getElem?_eq_getElem hlt
    rw [g_tk_in (by omega) ho] at h1
    exact lv_tableIn (x := Int32.ofInt x) (tgt := t) X.1 X.2.1 hd (by rw [w32_toInt]; omega) (by rw [w32_toInt]; omega) (by rw [w32_toInt, ← Array.getElem?_toList]; exact ho) h1 hw
end GR
