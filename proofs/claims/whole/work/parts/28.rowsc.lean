section GRC
variable {X : Xt} {own : String} {cc : ByteArray} {nL : Nat} {rt : Option FieldType} {D mc ms : Nat} {cs : List CC} {k n pc : Nat} {lv : List (Nat × Value)} {st : List Value}
theorem gc_iconst {i : Int} {v : Int32} (C : Cx X own cc nL rt D mc ms) (hd : decode cc pc = .ok (.iconst i, 1)) (hv : Int32.ofInt i = v) (next : Gc X cs k n (pc + 1) lv (.int v :: st)) : Gc X cs k n pc lv (st) := by
  obtain ⟨p, l, e, R, s, m, args, below, meth, c, Q, E⟩ := X
  obtain ⟨hx, hb, hml, hown, hts, hO, hlk, hrt, hfr, hlo, hce, hsl, hbs, -⟩ := C
  intro H locs ls hR hS hl
  exact lv_iconst hx hb hd hv (next H locs ls hR hS hl)
theorem gc_bipush {i : Int} {v : Int32} (C : Cx X own cc nL rt D mc ms) (hd : decode cc pc = .ok (.bipush i, 2)) (hv : (Int8.ofInt i).toInt32 = v) (next : Gc X cs k n (pc + 2) lv (.int v :: st)) : Gc X cs k n pc lv (st) := by
  obtain ⟨p, l, e, R, s, m, args, below, meth, c, Q, E⟩ := X
  obtain ⟨hx, hb, hml, hown, hts, hO, hlk, hrt, hfr, hlo, hce, hsl, hbs, -⟩ := C
  intro H locs ls hR hS hl
  exact lv_bipush hx hb hd hv (next H locs ls hR hS hl)
theorem gc_sipush {i : Int} {v : Int32} (C : Cx X own cc nL rt D mc ms) (hd : decode cc pc = .ok (.sipush i, 3)) (hv : (Int16.ofInt i).toInt32 = v) (next : Gc X cs k n (pc + 3) lv (.int v :: st)) : Gc X cs k n pc lv (st) := by
  obtain ⟨p, l, e, R, s, m, args, below, meth, c, Q, E⟩ := X
  obtain ⟨hx, hb, hml, hown, hts, hO, hlk, hrt, hfr, hlo, hce, hsl, hbs, -⟩ := C
  intro H locs ls hR hS hl
  exact lv_sipush hx hb hd hv (next H locs ls hR hS hl)
theorem gc_lconst {i : Fin 2} {v : Int64} (C : Cx X own cc nL rt D mc ms) (hd : decode cc pc = .ok (.lconst i, 1)) (hv : Int64.ofNat (i : Nat) = v) (next : Gc X cs k n (pc + 1) lv (.long v :: st)) : Gc X cs k n pc lv (st) := by
  obtain ⟨p, l, e, R, s, m, args, below, meth, c, Q, E⟩ := X
  obtain ⟨hx, hb, hml, hown, hts, hO, hlk, hrt, hfr, hlo, hce, hsl, hbs, -⟩ := C
  intro H locs ls hR hS hl
  exact lv_lconst hx hb hd hv (next H locs ls hR hS hl)
theorem gc_null  (C : Cx X own cc nL rt D mc ms) (hd : decode cc pc = .ok (.aconst_null, 1)) (next : Gc X cs k n (pc + 1) lv (.null :: st)) : Gc X cs k n pc lv (st) := by
  obtain ⟨p, l, e, R, s, m, args, below, meth, c, Q, E⟩ := X
  obtain ⟨hx, hb, hml, hown, hts, hO, hlk, hrt, hfr, hlo, hce, hsl, hbs, -⟩ := C
  intro H locs ls hR hS hl
  exact lv_null hx hb hd (next H locs ls hR hS hl)
theorem gc_ldc {i : Nat} {v : Int32} (C : Cx X own cc nL rt D mc ms) (hd : decode cc pc = .ok (.ldc i, 2)) (hc : Cond.constant own i v ∈ gw) (next : Gc X cs k n (pc + 2) lv (.int v :: st)) : Gc X cs k n pc lv (st) := by
  obtain ⟨p, l, e, R, s, m, args, below, meth, c, Q, E⟩ := X
  obtain ⟨hx, hb, hml, hown, hts, hO, hlk, hrt, hfr, hlo, hce, hsl, hbs, -⟩ := C
  intro H locs ls hR hS hl
  exact lv_ldc hx hb hown (hts _ hc) hd (next H locs ls hR hS hl)
theorem gc_ldcw {i : Nat} {v : Int32} (C : Cx X own cc nL rt D mc ms) (hd : decode cc pc = .ok (.ldc_w i, 3)) (hc : Cond.constant own i v ∈ gw) (next : Gc X cs k n (pc + 3) lv (.int v :: st)) : Gc X cs k n pc lv (st) := by
  obtain ⟨p, l, e, R, s, m, args, below, meth, c, Q, E⟩ := X
  obtain ⟨hx, hb, hml, hown, hts, hO, hlk, hrt, hfr, hlo, hce, hsl, hbs, -⟩ := C
  intro H locs ls hR hS hl
  exact lv_ldcw hx hb hown (hts _ hc) hd (next H locs ls hR hS hl)
theorem gc_ldc2 {i : Nat} {v : Int64} (C : Cx X own cc nL rt D mc ms) (hd : decode cc pc = .ok (.ldc2_w i, 3)) (hc : Cond.constantLong own i v ∈ gw) (next : Gc X cs k n (pc + 3) lv (.long v :: st)) : Gc X cs k n pc lv (st) := by
  obtain ⟨p, l, e, R, s, m, args, below, meth, c, Q, E⟩ := X
  obtain ⟨hx, hb, hml, hown, hts, hO, hlk, hrt, hfr, hlo, hce, hsl, hbs, -⟩ := C
  intro H locs ls hR hS hl
  exact lv_ldc2 hx hb hown (hts _ hc) hd (next H locs ls hR hS hl)
theorem gc_iload_n {i : Fin 4} {x : Int32} (C : Cx X own cc nL rt D mc ms) (hd : decode cc pc = .ok (.iload_n i, 1)) (q : Nat) (hq : lv[q]? = some ((i : Nat), .int x)) (next : Gc X cs k n (pc + 1) lv (.int x :: st)) : Gc X cs k n pc lv (st) := by
  obtain ⟨p, l, e, R, s, m, args, below, meth, c, Q, E⟩ := X
  obtain ⟨hx, hb, hml, hown, hts, hO, hlk, hrt, hfr, hlo, hce, hsl, hbs, -⟩ := C
  intro H locs ls hR hS hl
  exact lv_iload_n hx hb hd rfl (cl2_at hl q hq) (next H locs ls hR hS hl)
theorem gc_iload {i : Nat} {x : Int32} (C : Cx X own cc nL rt D mc ms) (hd : decode cc pc = .ok (.iload i, 2)) (q : Nat) (hq : lv[q]? = some (i, .int x)) (next : Gc X cs k n (pc + 2) lv (.int x :: st)) : Gc X cs k n pc lv (st) := by
  obtain ⟨p, l, e, R, s, m, args, below, meth, c, Q, E⟩ := X
  obtain ⟨hx, hb, hml, hown, hts, hO, hlk, hrt, hfr, hlo, hce, hsl, hbs, -⟩ := C
  intro H locs ls hR hS hl
  exact lv_iload hx hb hd (cl2_at hl q hq) (next H locs ls hR hS hl)
theorem gc_istore_n {i : Fin 4} {x : Int32} {lv' : List (Nat × Value)} (C : Cx X own cc nL rt D mc ms) (hd : decode cc pc = .ok (.istore_n i, 1)) (hn : (i : Nat) < nL) (hv : stl lv (i : Nat) (.int x) = lv') (next : Gc X cs k n (pc + 1) lv' st) : Gc X cs k n pc lv (.int x :: st) := by
  obtain ⟨p, l, e, R, s, m, args, below, meth, c, Q, E⟩ := X
  obtain ⟨hx, hb, hml, hown, hts, hO, hlk, hrt, hfr, hlo, hce, hsl, hbs, -⟩ := C
  intro H locs ls hR hS hl
  subst hv
  exact lv_istore_n hx hb hd rfl hl (by rw [hml]; exact hn) rfl (fun ls hl2 => next H locs ls hR hS (stl_1 (v := .int x) rfl hl2))
theorem gc_istore {i : Nat} {x : Int32} {lv' : List (Nat × Value)} (C : Cx X own cc nL rt D mc ms) (hd : decode cc pc = .ok (.istore i, 2)) (hn : i < nL) (hv : stl lv i (.int x) = lv') (next : Gc X cs k n (pc + 2) lv' st) : Gc X cs k n pc lv (.int x :: st) := by
  obtain ⟨p, l, e, R, s, m, args, below, meth, c, Q, E⟩ := X
  obtain ⟨hx, hb, hml, hown, hts, hO, hlk, hrt, hfr, hlo, hce, hsl, hbs, -⟩ := C
  intro H locs ls hR hS hl
  subst hv
  exact lv_istore hx hb hd hl (by rw [hml]; exact hn) rfl (fun ls hl2 => next H locs ls hR hS (stl_1 (v := .int x) rfl hl2))
theorem gc_lload_n {i : Fin 4} {x : Int64} (C : Cx X own cc nL rt D mc ms) (hd : decode cc pc = .ok (.lload_n i, 1)) (q : Nat) (hq : lv[q]? = some ((i : Nat), .long x)) (next : Gc X cs k n (pc + 1) lv (.long x :: st)) : Gc X cs k n pc lv (st) := by
  obtain ⟨p, l, e, R, s, m, args, below, meth, c, Q, E⟩ := X
  obtain ⟨hx, hb, hml, hown, hts, hO, hlk, hrt, hfr, hlo, hce, hsl, hbs, -⟩ := C
  intro H locs ls hR hS hl
  exact lv_lload_n hx hb hd rfl (cl2_at hl q hq) (next H locs ls hR hS hl)
theorem gc_lload {i : Nat} {x : Int64} (C : Cx X own cc nL rt D mc ms) (hd : decode cc pc = .ok (.lload i, 2)) (q : Nat) (hq : lv[q]? = some (i, .long x)) (next : Gc X cs k n (pc + 2) lv (.long x :: st)) : Gc X cs k n pc lv (st) := by
  obtain ⟨p, l, e, R, s, m, args, below, meth, c, Q, E⟩ := X
  obtain ⟨hx, hb, hml, hown, hts, hO, hlk, hrt, hfr, hlo, hce, hsl, hbs, -⟩ := C
  intro H locs ls hR hS hl
  exact lv_lload hx hb hd (cl2_at hl q hq) (next H locs ls hR hS hl)
theorem gc_lstore_n {i : Fin 4} {x : Int64} {lv' : List (Nat × Value)} (C : Cx X own cc nL rt D mc ms) (hd : decode cc pc = .ok (.lstore_n i, 1)) (hn : (i : Nat) + 1 < nL) (hv : stl lv (i : Nat) (.long x) = lv') (next : Gc X cs k n (pc + 1) lv' st) : Gc X cs k n pc lv (.long x :: st) := by
  obtain ⟨p, l, e, R, s, m, args, below, meth, c, Q, E⟩ := X
  obtain ⟨hx, hb, hml, hown, hts, hO, hlk, hrt, hfr, hlo, hce, hsl, hbs, -⟩ := C
  intro H locs ls hR hS hl
  subst hv
  exact lv_lstore_n hx hb hd rfl hl (by rw [hml]; exact hn) rfl (fun ls hl2 => next H locs ls hR hS (stl_2 (v := .long x) rfl hl2))
theorem gc_lstore {i : Nat} {x : Int64} {lv' : List (Nat × Value)} (C : Cx X own cc nL rt D mc ms) (hd : decode cc pc = .ok (.lstore i, 2)) (hn : i + 1 < nL) (hv : stl lv i (.long x) = lv') (next : Gc X cs k n (pc + 2) lv' st) : Gc X cs k n pc lv (.long x :: st) := by
  obtain ⟨p, l, e, R, s, m, args, below, meth, c, Q, E⟩ := X
  obtain ⟨hx, hb, hml, hown, hts, hO, hlk, hrt, hfr, hlo, hce, hsl, hbs, -⟩ := C
  intro H locs ls hR hS hl
  subst hv
  exact lv_lstore hx hb hd hl (by rw [hml]; exact hn) rfl (fun ls hl2 => next H locs ls hR hS (stl_2 (v := .long x) rfl hl2))
theorem gc_aload_n {i : Fin 4} {x : Nat} (C : Cx X own cc nL rt D mc ms) (hd : decode cc pc = .ok (.aload_n i, 1)) (q : Nat) (hq : lv[q]? = some ((i : Nat), .ref x)) (next : Gc X cs k n (pc + 1) lv (.ref x :: st)) : Gc X cs k n pc lv (st) := by
  obtain ⟨p, l, e, R, s, m, args, below, meth, c, Q, E⟩ := X
  obtain ⟨hx, hb, hml, hown, hts, hO, hlk, hrt, hfr, hlo, hce, hsl, hbs, -⟩ := C
  intro H locs ls hR hS hl
  exact lv_aload_n hx hb hd rfl (cl2_at hl q hq) (next H locs ls hR hS hl)
theorem gc_aload {i : Nat} {x : Nat} (C : Cx X own cc nL rt D mc ms) (hd : decode cc pc = .ok (.aload i, 2)) (q : Nat) (hq : lv[q]? = some (i, .ref x)) (next : Gc X cs k n (pc + 2) lv (.ref x :: st)) : Gc X cs k n pc lv (st) := by
  obtain ⟨p, l, e, R, s, m, args, below, meth, c, Q, E⟩ := X
  obtain ⟨hx, hb, hml, hown, hts, hO, hlk, hrt, hfr, hlo, hce, hsl, hbs, -⟩ := C
  intro H locs ls hR hS hl
  exact lv_aload hx hb hd (cl2_at hl q hq) (next H locs ls hR hS hl)
theorem gc_astore_n {i : Fin 4} {x : Nat} {lv' : List (Nat × Value)} (C : Cx X own cc nL rt D mc ms) (hd : decode cc pc = .ok (.astore_n i, 1)) (hn : (i : Nat) < nL) (hv : stl lv (i : Nat) (.ref x) = lv') (next : Gc X cs k n (pc + 1) lv' st) : Gc X cs k n pc lv (.ref x :: st) := by
  obtain ⟨p, l, e, R, s, m, args, below, meth, c, Q, E⟩ := X
  obtain ⟨hx, hb, hml, hown, hts, hO, hlk, hrt, hfr, hlo, hce, hsl, hbs, -⟩ := C
  intro H locs ls hR hS hl
  subst hv
  exact lv_astore_n hx hb hd rfl hl (by rw [hml]; exact hn) rfl (fun ls hl2 => next H locs ls hR hS (stl_1 (v := .ref x) rfl hl2))
theorem gc_astore {i : Nat} {x : Nat} {lv' : List (Nat × Value)} (C : Cx X own cc nL rt D mc ms) (hd : decode cc pc = .ok (.astore i, 2)) (hn : i < nL) (hv : stl lv i (.ref x) = lv') (next : Gc X cs k n (pc + 2) lv' st) : Gc X cs k n pc lv (.ref x :: st) := by
  obtain ⟨p, l, e, R, s, m, args, below, meth, c, Q, E⟩ := X
  obtain ⟨hx, hb, hml, hown, hts, hO, hlk, hrt, hfr, hlo, hce, hsl, hbs, -⟩ := C
  intro H locs ls hR hS hl
  subst hv
  exact lv_astore hx hb hd hl (by rw [hml]; exact hn) rfl (fun ls hl2 => next H locs ls hR hS (stl_1 (v := .ref x) rfl hl2))
theorem gc_iinc {i : Nat} {d : Int} {x v : Int32} {lv' : List (Nat × Value)} (C : Cx X own cc nL rt D mc ms) (hd : decode cc pc = .ok (.iinc i d, 3)) (q : Nat) (hq : lv[q]? = some (i, .int x)) (hv : x + Int32.ofInt d = v) (hn : i < nL) (hl' : stl lv i (.int v) = lv') (next : Gc X cs k n (pc + 3) lv' st) : Gc X cs k n pc lv st := by
  obtain ⟨p, l, e, R, s, m, args, below, meth, c, Q, E⟩ := X
  obtain ⟨hx, hb, hml, hown, hts, hO, hlk, hrt, hfr, hlo, hce, hsl, hbs, -⟩ := C
  intro H locs ls hR hS hl
  subst hl'
  exact lv_iinc hx hb hd hl (k := q) (by unfold cl2; rw [List.getElem?_map, hq]; rfl) hv (by rw [hml]; exact hn) rfl (fun ls hl2 => next H locs ls hR hS (stl_1 (v := .int v) rfl hl2))
theorem gc_iadd {x y : Int32} (C : Cx X own cc nL rt D mc ms) (hd : decode cc pc = .ok (.iadd, 1)) (next : Gc X cs k n (pc + 1) lv (.int (x + y) :: st)) : Gc X cs k n pc lv (.int y :: .int x :: st) := by
  obtain ⟨p, l, e, R, s, m, args, below, meth, c, Q, E⟩ := X
  obtain ⟨hx, hb, hml, hown, hts, hO, hlk, hrt, hfr, hlo, hce, hsl, hbs, -⟩ := C
  intro H locs ls hR hS hl
  exact lv_iadd hx hb hd (next H locs ls hR hS hl)
theorem gc_isub {x y : Int32} (C : Cx X own cc nL rt D mc ms) (hd : decode cc pc = .ok (.isub, 1)) (next : Gc X cs k n (pc + 1) lv (.int (x - y) :: st)) : Gc X cs k n pc lv (.int y :: .int x :: st) := by
  obtain ⟨p, l, e, R, s, m, args, below, meth, c, Q, E⟩ := X
  obtain ⟨hx, hb, hml, hown, hts, hO, hlk, hrt, hfr, hlo, hce, hsl, hbs, -⟩ := C
  intro H locs ls hR hS hl
  exact lv_isub hx hb hd (next H locs ls hR hS hl)
theorem gc_imul {x y : Int32} (C : Cx X own cc nL rt D mc ms) (hd : decode cc pc = .ok (.imul, 1)) (next : Gc X cs k n (pc + 1) lv (.int (x * y) :: st)) : Gc X cs k n pc lv (.int y :: .int x :: st) := by
  obtain ⟨p, l, e, R, s, m, args, below, meth, c, Q, E⟩ := X
  obtain ⟨hx, hb, hml, hown, hts, hO, hlk, hrt, hfr, hlo, hce, hsl, hbs, -⟩ := C
  intro H locs ls hR hS hl
  exact lv_imul hx hb hd (next H locs ls hR hS hl)
theorem gc_iand {x y : Int32} (C : Cx X own cc nL rt D mc ms) (hd : decode cc pc = .ok (.iand, 1)) (next : Gc X cs k n (pc + 1) lv (.int (x &&& y) :: st)) : Gc X cs k n pc lv (.int y :: .int x :: st) := by
  obtain ⟨p, l, e, R, s, m, args, below, meth, c, Q, E⟩ := X
  obtain ⟨hx, hb, hml, hown, hts, hO, hlk, hrt, hfr, hlo, hce, hsl, hbs, -⟩ := C
  intro H locs ls hR hS hl
  exact lv_iand hx hb hd (next H locs ls hR hS hl)
theorem gc_ior {x y : Int32} (C : Cx X own cc nL rt D mc ms) (hd : decode cc pc = .ok (.ior, 1)) (next : Gc X cs k n (pc + 1) lv (.int (x ||| y) :: st)) : Gc X cs k n pc lv (.int y :: .int x :: st) := by
  obtain ⟨p, l, e, R, s, m, args, below, meth, c, Q, E⟩ := X
  obtain ⟨hx, hb, hml, hown, hts, hO, hlk, hrt, hfr, hlo, hce, hsl, hbs, -⟩ := C
  intro H locs ls hR hS hl
  exact lv_ior hx hb hd (next H locs ls hR hS hl)
theorem gc_ixor {x y : Int32} (C : Cx X own cc nL rt D mc ms) (hd : decode cc pc = .ok (.ixor, 1)) (next : Gc X cs k n (pc + 1) lv (.int (x ^^^ y) :: st)) : Gc X cs k n pc lv (.int y :: .int x :: st) := by
  obtain ⟨p, l, e, R, s, m, args, below, meth, c, Q, E⟩ := X
  obtain ⟨hx, hb, hml, hown, hts, hO, hlk, hrt, hfr, hlo, hce, hsl, hbs, -⟩ := C
  intro H locs ls hR hS hl
  exact lv_ixor hx hb hd (next H locs ls hR hS hl)
theorem gc_ishl {x y : Int32} (C : Cx X own cc nL rt D mc ms) (hd : decode cc pc = .ok (.ishl, 1)) (next : Gc X cs k n (pc + 1) lv (.int (x <<< (y &&& 31)) :: st)) : Gc X cs k n pc lv (.int y :: .int x :: st) := by
  obtain ⟨p, l, e, R, s, m, args, below, meth, c, Q, E⟩ := X
  obtain ⟨hx, hb, hml, hown, hts, hO, hlk, hrt, hfr, hlo, hce, hsl, hbs, -⟩ := C
  intro H locs ls hR hS hl
  exact lv_ishl hx hb hd (next H locs ls hR hS hl)
theorem gc_ishr {x y : Int32} (C : Cx X own cc nL rt D mc ms) (hd : decode cc pc = .ok (.ishr, 1)) (next : Gc X cs k n (pc + 1) lv (.int (x >>> (y &&& 31)) :: st)) : Gc X cs k n pc lv (.int y :: .int x :: st) := by
  obtain ⟨p, l, e, R, s, m, args, below, meth, c, Q, E⟩ := X
  obtain ⟨hx, hb, hml, hown, hts, hO, hlk, hrt, hfr, hlo, hce, hsl, hbs, -⟩ := C
  intro H locs ls hR hS hl
  exact lv_ishr hx hb hd (next H locs ls hR hS hl)
theorem gc_idiv {x y : Int32} (C : Cx X own cc nL rt D mc ms) (hd : decode cc pc = .ok (.idiv, 1)) (hne : ¬ y = 0) (next : Gc X cs k n (pc + 1) lv (.int (x / y) :: st)) : Gc X cs k n pc lv (.int y :: .int x :: st) := by
  obtain ⟨p, l, e, R, s, m, args, below, meth, c, Q, E⟩ := X
  obtain ⟨hx, hb, hml, hown, hts, hO, hlk, hrt, hfr, hlo, hce, hsl, hbs, -⟩ := C
  intro H locs ls hR hS hl
  exact lv_idiv hx hb hd hne (next H locs ls hR hS hl)
theorem gc_irem {x y : Int32} (C : Cx X own cc nL rt D mc ms) (hd : decode cc pc = .ok (.irem, 1)) (hne : ¬ y = 0) (next : Gc X cs k n (pc + 1) lv (.int (x - x / y * y) :: st)) : Gc X cs k n pc lv (.int y :: .int x :: st) := by
  obtain ⟨p, l, e, R, s, m, args, below, meth, c, Q, E⟩ := X
  obtain ⟨hx, hb, hml, hown, hts, hO, hlk, hrt, hfr, hlo, hce, hsl, hbs, -⟩ := C
  intro H locs ls hR hS hl
  exact lv_irem hx hb hd hne (next H locs ls hR hS hl)
theorem gc_ineg {x : Int32} (C : Cx X own cc nL rt D mc ms) (hd : decode cc pc = .ok (.ineg, 1)) (next : Gc X cs k n (pc + 1) lv (.int (-x) :: st)) : Gc X cs k n pc lv (.int x :: st) := by
  obtain ⟨p, l, e, R, s, m, args, below, meth, c, Q, E⟩ := X
  obtain ⟨hx, hb, hml, hown, hts, hO, hlk, hrt, hfr, hlo, hce, hsl, hbs, -⟩ := C
  intro H locs ls hR hS hl
  exact lv_ineg hx hb hd (next H locs ls hR hS hl)
theorem gc_iushr {x y : Int32} (C : Cx X own cc nL rt D mc ms) (hd : decode cc pc = .ok (.iushr, 1)) (next : Gc X cs k n (pc + 1) lv (.int ((x.toUInt32 >>> (y.toUInt32 &&& Int32.toUInt32 31)).toInt32) :: st)) : Gc X cs k n pc lv (.int y :: .int x :: st) := by
  obtain ⟨p, l, e, R, s, m, args, below, meth, c, Q, E⟩ := X
  obtain ⟨hx, hb, hml, hown, hts, hO, hlk, hrt, hfr, hlo, hce, hsl, hbs, -⟩ := C
  intro H locs ls hR hS hl
  exact lv_iushr hx hb hd rfl (next H locs ls hR hS hl)
theorem gc_ladd {x y : Int64} (C : Cx X own cc nL rt D mc ms) (hd : decode cc pc = .ok (.ladd, 1)) (next : Gc X cs k n (pc + 1) lv (.long (x + y) :: st)) : Gc X cs k n pc lv (.long y :: .long x :: st) := by
  obtain ⟨p, l, e, R, s, m, args, below, meth, c, Q, E⟩ := X
  obtain ⟨hx, hb, hml, hown, hts, hO, hlk, hrt, hfr, hlo, hce, hsl, hbs, -⟩ := C
  intro H locs ls hR hS hl
  exact lv_ladd hx hb hd (next H locs ls hR hS hl)
theorem gc_lsub {x y : Int64} (C : Cx X own cc nL rt D mc ms) (hd : decode cc pc = .ok (.lsub, 1)) (next : Gc X cs k n (pc + 1) lv (.long (x - y) :: st)) : Gc X cs k n pc lv (.long y :: .long x :: st) := by
  obtain ⟨p, l, e, R, s, m, args, below, meth, c, Q, E⟩ := X
  obtain ⟨hx, hb, hml, hown, hts, hO, hlk, hrt, hfr, hlo, hce, hsl, hbs, -⟩ := C
  intro H locs ls hR hS hl
  exact lv_lsub hx hb hd (next H locs ls hR hS hl)
theorem gc_lmul {x y : Int64} (C : Cx X own cc nL rt D mc ms) (hd : decode cc pc = .ok (.lmul, 1)) (next : Gc X cs k n (pc + 1) lv (.long (x * y) :: st)) : Gc X cs k n pc lv (.long y :: .long x :: st) := by
  obtain ⟨p, l, e, R, s, m, args, below, meth, c, Q, E⟩ := X
  obtain ⟨hx, hb, hml, hown, hts, hO, hlk, hrt, hfr, hlo, hce, hsl, hbs, -⟩ := C
  intro H locs ls hR hS hl
  exact lv_lmul hx hb hd (next H locs ls hR hS hl)
theorem gc_ldiv {x y : Int64} (C : Cx X own cc nL rt D mc ms) (hd : decode cc pc = .ok (.ldiv, 1)) (hne : ¬ y = 0) (next : Gc X cs k n (pc + 1) lv (.long (x / y) :: st)) : Gc X cs k n pc lv (.long y :: .long x :: st) := by
  obtain ⟨p, l, e, R, s, m, args, below, meth, c, Q, E⟩ := X
  obtain ⟨hx, hb, hml, hown, hts, hO, hlk, hrt, hfr, hlo, hce, hsl, hbs, -⟩ := C
  intro H locs ls hR hS hl
  exact lv_ldiv hx hb hd hne (next H locs ls hR hS hl)
theorem gc_lrem {x y : Int64} (C : Cx X own cc nL rt D mc ms) (hd : decode cc pc = .ok (.lrem, 1)) (hne : ¬ y = 0) (next : Gc X cs k n (pc + 1) lv (.long (x - x / y * y) :: st)) : Gc X cs k n pc lv (.long y :: .long x :: st) := by
  obtain ⟨p, l, e, R, s, m, args, below, meth, c, Q, E⟩ := X
  obtain ⟨hx, hb, hml, hown, hts, hO, hlk, hrt, hfr, hlo, hce, hsl, hbs, -⟩ := C
  intro H locs ls hR hS hl
  exact lv_lrem hx hb hd hne (next H locs ls hR hS hl)
theorem gc_lcmp {x y : Int64} (C : Cx X own cc nL rt D mc ms) (hd : decode cc pc = .ok (.lcmp, 1)) (next : Gc X cs k n (pc + 1) lv (.int (lg_cmp x y) :: st)) : Gc X cs k n pc lv (.long y :: .long x :: st) := by
  obtain ⟨p, l, e, R, s, m, args, below, meth, c, Q, E⟩ := X
  obtain ⟨hx, hb, hml, hown, hts, hO, hlk, hrt, hfr, hlo, hce, hsl, hbs, -⟩ := C
  intro H locs ls hR hS hl
  exact W.lcmp hx hb hd (next H locs ls hR hS hl)
theorem gc_i2l {x : Int32} (C : Cx X own cc nL rt D mc ms) (hd : decode cc pc = .ok (.i2l, 1)) (next : Gc X cs k n (pc + 1) lv (.long x.toInt64 :: st)) : Gc X cs k n pc lv (.int x :: st) := by
  obtain ⟨p, l, e, R, s, m, args, below, meth, c, Q, E⟩ := X
  obtain ⟨hx, hb, hml, hown, hts, hO, hlk, hrt, hfr, hlo, hce, hsl, hbs, -⟩ := C
  intro H locs ls hR hS hl
  exact lv_i2l hx hb hd rfl (next H locs ls hR hS hl)
theorem gc_l2i {x : Int64} (C : Cx X own cc nL rt D mc ms) (hd : decode cc pc = .ok (.l2i, 1)) (next : Gc X cs k n (pc + 1) lv (.int x.toInt32 :: st)) : Gc X cs k n pc lv (.long x :: st) := by
  obtain ⟨p, l, e, R, s, m, args, below, meth, c, Q, E⟩ := X
  obtain ⟨hx, hb, hml, hown, hts, hO, hlk, hrt, hfr, hlo, hce, hsl, hbs, -⟩ := C
  intro H locs ls hR hS hl
  exact lv_l2i hx hb hd rfl (next H locs ls hR hS hl)
theorem gc_i2b {x : Int32} (C : Cx X own cc nL rt D mc ms) (hd : decode cc pc = .ok (.i2b, 1)) (next : Gc X cs k n (pc + 1) lv (.int x.toInt8.toInt32 :: st)) : Gc X cs k n pc lv (.int x :: st) := by
  obtain ⟨p, l, e, R, s, m, args, below, meth, c, Q, E⟩ := X
  obtain ⟨hx, hb, hml, hown, hts, hO, hlk, hrt, hfr, hlo, hce, hsl, hbs, -⟩ := C
  intro H locs ls hR hS hl
  exact lv_i2b hx hb hd rfl (next H locs ls hR hS hl)
theorem gc_i2c {x : Int32} (C : Cx X own cc nL rt D mc ms) (hd : decode cc pc = .ok (.i2c, 1)) (next : Gc X cs k n (pc + 1) lv (.int (x.toUInt32 % 65536).toInt32 :: st)) : Gc X cs k n pc lv (.int x :: st) := by
  obtain ⟨p, l, e, R, s, m, args, below, meth, c, Q, E⟩ := X
  obtain ⟨hx, hb, hml, hown, hts, hO, hlk, hrt, hfr, hlo, hce, hsl, hbs, -⟩ := C
  intro H locs ls hR hS hl
  exact lv_i2c hx hb hd rfl (next H locs ls hR hS hl)
theorem gc_dup {v : Value} (C : Cx X own cc nL rt D mc ms) (hd : decode cc pc = .ok (.dup, 1)) (hv : v.category = 1) (next : Gc X cs k n (pc + 1) lv (v :: v :: st)) : Gc X cs k n pc lv (v :: st) := by
  obtain ⟨p, l, e, R, s, m, args, below, meth, c, Q, E⟩ := X
  obtain ⟨hx, hb, hml, hown, hts, hO, hlk, hrt, hfr, hlo, hce, hsl, hbs, -⟩ := C
  intro H locs ls hR hS hl
  exact lv_dup hx hb hd (by rw [cv_cat]; exact hv) (next H locs ls hR hS hl)
theorem gc_pop {v : Value} (C : Cx X own cc nL rt D mc ms) (hd : decode cc pc = .ok (.pop, 1)) (hv : v.category = 1) (next : Gc X cs k n (pc + 1) lv (st)) : Gc X cs k n pc lv (v :: st) := by
  obtain ⟨p, l, e, R, s, m, args, below, meth, c, Q, E⟩ := X
  obtain ⟨hx, hb, hml, hown, hts, hO, hlk, hrt, hfr, hlo, hce, hsl, hbs, -⟩ := C
  intro H locs ls hR hS hl
  exact lv_pop hx hb hd (by rw [cv_cat]; exact hv) (next H locs ls hR hS hl)
theorem gc_dup2 {v w : Value} (C : Cx X own cc nL rt D mc ms) (hd : decode cc pc = .ok (.dup2, 1)) (hv : v.category = 1) (hw : w.category = 1) (next : Gc X cs k n (pc + 1) lv (v :: w :: v :: w :: st)) : Gc X cs k n pc lv (v :: w :: st) := by
  obtain ⟨p, l, e, R, s, m, args, below, meth, c, Q, E⟩ := X
  obtain ⟨hx, hb, hml, hown, hts, hO, hlk, hrt, hfr, hlo, hce, hsl, hbs, -⟩ := C
  intro H locs ls hR hS hl
  exact lv_dup2_11 hx hb hd (by rw [cv_cat]; exact hv) (by rw [cv_cat]; exact hw) (next H locs ls hR hS hl)
theorem gc_if_eq {x : Int32} {off : Int} (tgt : Nat) (C : Cx X own cc nL rt D mc ms) (hd : decode cc pc = .ok (.ifCond .eq off, 3)) (ht : (pc : Int) + off = (tgt : Int)) (kt : x = 0 → Gc X cs k n tgt lv st) (kf : ¬ x = 0 → Gc X cs k n (pc + 3) lv st) : Gc X cs k n pc lv (.int x :: st) := by
  obtain ⟨p, l, e, R, s, m, args, below, meth, c, Q, E⟩ := X
  obtain ⟨hx, hb, hml, hown, hts, hO, hlk, hrt, hfr, hlo, hce, hsl, hbs, -⟩ := C
  intro H locs ls hR hS hl
  exact lv_if_eq hx hb hd ht (fun q => kt q H locs ls hR hS hl) (fun q => kf q H locs ls hR hS hl)
theorem gc_ic_eq {x y : Int32} {off : Int} (tgt : Nat) (C : Cx X own cc nL rt D mc ms) (hd : decode cc pc = .ok (.if_icmp .eq off, 3)) (ht : (pc : Int) + off = (tgt : Int)) (kt : x = y → Gc X cs k n tgt lv st) (kf : ¬ x = y → Gc X cs k n (pc + 3) lv st) : Gc X cs k n pc lv (.int y :: .int x :: st) := by
  obtain ⟨p, l, e, R, s, m, args, below, meth, c, Q, E⟩ := X
  obtain ⟨hx, hb, hml, hown, hts, hO, hlk, hrt, hfr, hlo, hce, hsl, hbs, -⟩ := C
  intro H locs ls hR hS hl
  exact lv_icmp_eq hx hb hd ht (fun q => kt q H locs ls hR hS hl) (fun q => kf q H locs ls hR hS hl)
theorem gc_if_ne {x : Int32} {off : Int} (tgt : Nat) (C : Cx X own cc nL rt D mc ms) (hd : decode cc pc = .ok (.ifCond .ne off, 3)) (ht : (pc : Int) + off = (tgt : Int)) (kt : ¬ x = 0 → Gc X cs k n tgt lv st) (kf : x = 0 → Gc X cs k n (pc + 3) lv st) : Gc X cs k n pc lv (.int x :: st) := by
  obtain ⟨p, l, e, R, s, m, args, below, meth, c, Q, E⟩ := X
  obtain ⟨hx, hb, hml, hown, hts, hO, hlk, hrt, hfr, hlo, hce, hsl, hbs, -⟩ := C
  intro H locs ls hR hS hl
  exact lv_if_ne hx hb hd ht (fun q => kt q H locs ls hR hS hl) (fun q => kf q H locs ls hR hS hl)
theorem gc_ic_ne {x y : Int32} {off : Int} (tgt : Nat) (C : Cx X own cc nL rt D mc ms) (hd : decode cc pc = .ok (.if_icmp .ne off, 3)) (ht : (pc : Int) + off = (tgt : Int)) (kt : ¬ x = y → Gc X cs k n tgt lv st) (kf : x = y → Gc X cs k n (pc + 3) lv st) : Gc X cs k n pc lv (.int y :: .int x :: st) := by
  obtain ⟨p, l, e, R, s, m, args, below, meth, c, Q, E⟩ := X
  obtain ⟨hx, hb, hml, hown, hts, hO, hlk, hrt, hfr, hlo, hce, hsl, hbs, -⟩ := C
  intro H locs ls hR hS hl
  exact lv_icmp_ne hx hb hd ht (fun q => kt q H locs ls hR hS hl) (fun q => kf q H locs ls hR hS hl)
theorem gc_if_lt {x : Int32} {off : Int} (tgt : Nat) (C : Cx X own cc nL rt D mc ms) (hd : decode cc pc = .ok (.ifCond .lt off, 3)) (ht : (pc : Int) + off = (tgt : Int)) (kt : x < 0 → Gc X cs k n tgt lv st) (kf : ¬ x < 0 → Gc X cs k n (pc + 3) lv st) : Gc X cs k n pc lv (.int x :: st) := by
  obtain ⟨p, l, e, R, s, m, args, below, meth, c, Q, E⟩ := X
  obtain ⟨hx, hb, hml, hown, hts, hO, hlk, hrt, hfr, hlo, hce, hsl, hbs, -⟩ := C
  intro H locs ls hR hS hl
  exact lv_if_lt hx hb hd ht (fun q => kt q H locs ls hR hS hl) (fun q => kf q H locs ls hR hS hl)
theorem gc_ic_lt {x y : Int32} {off : Int} (tgt : Nat) (C : Cx X own cc nL rt D mc ms) (hd : decode cc pc = .ok (.if_icmp .lt off, 3)) (ht : (pc : Int) + off = (tgt : Int)) (kt : x < y → Gc X cs k n tgt lv st) (kf : ¬ x < y → Gc X cs k n (pc + 3) lv st) : Gc X cs k n pc lv (.int y :: .int x :: st) := by
  obtain ⟨p, l, e, R, s, m, args, below, meth, c, Q, E⟩ := X
  obtain ⟨hx, hb, hml, hown, hts, hO, hlk, hrt, hfr, hlo, hce, hsl, hbs, -⟩ := C
  intro H locs ls hR hS hl
  exact lv_icmp_lt hx hb hd ht (fun q => kt q H locs ls hR hS hl) (fun q => kf q H locs ls hR hS hl)
theorem gc_if_ge {x : Int32} {off : Int} (tgt : Nat) (C : Cx X own cc nL rt D mc ms) (hd : decode cc pc = .ok (.ifCond .ge off, 3)) (ht : (pc : Int) + off = (tgt : Int)) (kt : 0 ≤ x → Gc X cs k n tgt lv st) (kf : ¬ 0 ≤ x → Gc X cs k n (pc + 3) lv st) : Gc X cs k n pc lv (.int x :: st) := by
  obtain ⟨p, l, e, R, s, m, args, below, meth, c, Q, E⟩ := X
  obtain ⟨hx, hb, hml, hown, hts, hO, hlk, hrt, hfr, hlo, hce, hsl, hbs, -⟩ := C
  intro H locs ls hR hS hl
  exact lv_if_ge hx hb hd ht (fun q => kt q H locs ls hR hS hl) (fun q => kf q H locs ls hR hS hl)
theorem gc_ic_ge {x y : Int32} {off : Int} (tgt : Nat) (C : Cx X own cc nL rt D mc ms) (hd : decode cc pc = .ok (.if_icmp .ge off, 3)) (ht : (pc : Int) + off = (tgt : Int)) (kt : y ≤ x → Gc X cs k n tgt lv st) (kf : ¬ y ≤ x → Gc X cs k n (pc + 3) lv st) : Gc X cs k n pc lv (.int y :: .int x :: st) := by
  obtain ⟨p, l, e, R, s, m, args, below, meth, c, Q, E⟩ := X
  obtain ⟨hx, hb, hml, hown, hts, hO, hlk, hrt, hfr, hlo, hce, hsl, hbs, -⟩ := C
  intro H locs ls hR hS hl
  exact lv_icmp_ge hx hb hd ht (fun q => kt q H locs ls hR hS hl) (fun q => kf q H locs ls hR hS hl)
theorem gc_if_gt {x : Int32} {off : Int} (tgt : Nat) (C : Cx X own cc nL rt D mc ms) (hd : decode cc pc = .ok (.ifCond .gt off, 3)) (ht : (pc : Int) + off = (tgt : Int)) (kt : 0 < x → Gc X cs k n tgt lv st) (kf : ¬ 0 < x → Gc X cs k n (pc + 3) lv st) : Gc X cs k n pc lv (.int x :: st) := by
  obtain ⟨p, l, e, R, s, m, args, below, meth, c, Q, E⟩ := X
  obtain ⟨hx, hb, hml, hown, hts, hO, hlk, hrt, hfr, hlo, hce, hsl, hbs, -⟩ := C
  intro H locs ls hR hS hl
  exact lv_if_gt hx hb hd ht (fun q => kt q H locs ls hR hS hl) (fun q => kf q H locs ls hR hS hl)
theorem gc_ic_gt {x y : Int32} {off : Int} (tgt : Nat) (C : Cx X own cc nL rt D mc ms) (hd : decode cc pc = .ok (.if_icmp .gt off, 3)) (ht : (pc : Int) + off = (tgt : Int)) (kt : y < x → Gc X cs k n tgt lv st) (kf : ¬ y < x → Gc X cs k n (pc + 3) lv st) : Gc X cs k n pc lv (.int y :: .int x :: st) := by
  obtain ⟨p, l, e, R, s, m, args, below, meth, c, Q, E⟩ := X
  obtain ⟨hx, hb, hml, hown, hts, hO, hlk, hrt, hfr, hlo, hce, hsl, hbs, -⟩ := C
  intro H locs ls hR hS hl
  exact lv_icmp_gt hx hb hd ht (fun q => kt q H locs ls hR hS hl) (fun q => kf q H locs ls hR hS hl)
theorem gc_if_le {x : Int32} {off : Int} (tgt : Nat) (C : Cx X own cc nL rt D mc ms) (hd : decode cc pc = .ok (.ifCond .le off, 3)) (ht : (pc : Int) + off = (tgt : Int)) (kt : x ≤ 0 → Gc X cs k n tgt lv st) (kf : ¬ x ≤ 0 → Gc X cs k n (pc + 3) lv st) : Gc X cs k n pc lv (.int x :: st) := by
  obtain ⟨p, l, e, R, s, m, args, below, meth, c, Q, E⟩ := X
  obtain ⟨hx, hb, hml, hown, hts, hO, hlk, hrt, hfr, hlo, hce, hsl, hbs, -⟩ := C
  intro H locs ls hR hS hl
  exact lv_if_le hx hb hd ht (fun q => kt q H locs ls hR hS hl) (fun q => kf q H locs ls hR hS hl)
theorem gc_ic_le {x y : Int32} {off : Int} (tgt : Nat) (C : Cx X own cc nL rt D mc ms) (hd : decode cc pc = .ok (.if_icmp .le off, 3)) (ht : (pc : Int) + off = (tgt : Int)) (kt : x ≤ y → Gc X cs k n tgt lv st) (kf : ¬ x ≤ y → Gc X cs k n (pc + 3) lv st) : Gc X cs k n pc lv (.int y :: .int x :: st) := by
  obtain ⟨p, l, e, R, s, m, args, below, meth, c, Q, E⟩ := X
  obtain ⟨hx, hb, hml, hown, hts, hO, hlk, hrt, hfr, hlo, hce, hsl, hbs, -⟩ := C
  intro H locs ls hR hS hl
  exact lv_icmp_le hx hb hd ht (fun q => kt q H locs ls hR hS hl) (fun q => kf q H locs ls hR hS hl)
theorem gc_goto {off : Int} (tgt : Nat) (C : Cx X own cc nL rt D mc ms) (hd : decode cc pc = .ok (.goto off, 3)) (ht : (pc : Int) + off = (tgt : Int)) (next : Gc X cs k n tgt lv st) : Gc X cs k n pc lv st := by
  obtain ⟨p, l, e, R, s, m, args, below, meth, c, Q, E⟩ := X
  obtain ⟨hx, hb, hml, hown, hts, hO, hlk, hrt, hfr, hlo, hce, hsl, hbs, -⟩ := C
  intro H locs ls hR hS hl
  exact lv_goto hx hb hd ht (next H locs ls hR hS hl)
theorem gc_ifnonnull {a : Nat} {off : Int} (tgt : Nat) (C : Cx X own cc nL rt D mc ms) (hd : decode cc pc = .ok (.ifnonnull off, 3)) (ht : (pc : Int) + off = (tgt : Int)) (next : Gc X cs k n tgt lv st) : Gc X cs k n pc lv (.ref a :: st) := by
  obtain ⟨p, l, e, R, s, m, args, below, meth, c, Q, E⟩ := X
  obtain ⟨hx, hb, hml, hown, hts, hO, hlk, hrt, hfr, hlo, hce, hsl, hbs, -⟩ := C
  intro H locs ls hR hS hl
  exact lv_ifnonnull hx hb hd ht (next H locs ls hR hS hl)
theorem gc_ifnullN {off : Int} (tgt : Nat) (C : Cx X own cc nL rt D mc ms) (hd : decode cc pc = .ok (.ifnull off, 3)) (ht : (pc : Int) + off = (tgt : Int)) (next : Gc X cs k n tgt lv st) : Gc X cs k n pc lv (.null :: st) := by
  obtain ⟨p, l, e, R, s, m, args, below, meth, c, Q, E⟩ := X
  obtain ⟨hx, hb, hml, hown, hts, hO, hlk, hrt, hfr, hlo, hce, hsl, hbs, -⟩ := C
  intro H locs ls hR hS hl
  exact lv_ifnullN hx hb hd ht (next H locs ls hR hS hl)
theorem gc_ifnull {a : Nat} {off : Int} (C : Cx X own cc nL rt D mc ms) (hd : decode cc pc = .ok (.ifnull off, 3)) (next : Gc X cs k n (pc + 3) lv st) : Gc X cs k n pc lv (.ref a :: st) := by
  obtain ⟨p, l, e, R, s, m, args, below, meth, c, Q, E⟩ := X
  obtain ⟨hx, hb, hml, hown, hts, hO, hlk, hrt, hfr, hlo, hce, hsl, hbs, -⟩ := C
  intro H locs ls hR hS hl
  exact lv_ifnull hx hb hd (next H locs ls hR hS hl)
theorem gc_ifnonnullN {off : Int} (C : Cx X own cc nL rt D mc ms) (hd : decode cc pc = .ok (.ifnonnull off, 3)) (next : Gc X cs k n (pc + 3) lv st) : Gc X cs k n pc lv (.null :: st) := by
  obtain ⟨p, l, e, R, s, m, args, below, meth, c, Q, E⟩ := X
  obtain ⟨hx, hb, hml, hown, hts, hO, hlk, hrt, hfr, hlo, hce, hsl, hbs, -⟩ := C
  intro H locs ls hR hS hl
  exact lv_ifnonnullN hx hb hd (next H locs ls hR hS hl)
theorem gc_tabO {dflt lo hi : Int} {offs : Array Int} {len : Nat} {x : Int32} (tgt : Nat) (C : Cx X own cc nL rt D mc ms) (hd : decode cc pc = .ok (.tableswitch dflt lo hi offs, len)) (hc : x.toInt < lo ∨ hi < x.toInt) (ht : (pc : Int) + dflt = (tgt : Int)) (next : Gc X cs k n tgt lv st) : Gc X cs k n pc lv (.int x :: st) := by
  obtain ⟨p, l, e, R, s, m, args, below, meth, c, Q, E⟩ := X
  obtain ⟨hx, hb, hml, hown, hts, hO, hlk, hrt, hfr, hlo, hce, hsl, hbs, -⟩ := C
  intro H locs ls hR hS hl
  exact lv_tableOut hx hb hd hc ht (next H locs ls hR hS hl)
theorem gc_tabI {dflt lo hi off : Int} {offs : Array Int} {len i : Nat} {x : Int32} (tgt : Nat) (C : Cx X own cc nL rt D mc ms) (hd : decode cc pc = .ok (.tableswitch dflt lo hi offs, len)) (hc : ¬ (x.toInt < lo ∨ hi < x.toInt)) (hi : i = (x.toInt - lo).toNat) (ho : offs[i]? = some off) (ht : (pc : Int) + off = (tgt : Int)) (next : Gc X cs k n tgt lv st) : Gc X cs k n pc lv (.int x :: st) := by
  obtain ⟨p, l, e, R, s, m, args, below, meth, c, Q, E⟩ := X
  obtain ⟨hx, hb, hml, hown, hts, hO, hlk, hrt, hfr, hlo, hce, hsl, hbs, -⟩ := C
  intro H locs ls hR hS hl
  subst hi
  exact lv_tableIn hx hb hd (fun q => hc (Or.inl q)) (fun q => hc (Or.inr q)) ho ht (next H locs ls hR hS hl)
theorem gc_sub {lv' : List (Nat × Value)} (ks : List Nat) (hs : lv_pick lv ks = lv') (next : Gc X cs k n pc lv' st) : Gc X cs k n pc lv st := by
  obtain ⟨p, l, e, R, s, m, args, below, meth, c, Q, E⟩ := X
  intro H locs ls hR hS hl
  refine next H locs ls hR hS (lv_mono hl (fun q hq => ?_))
  obtain ⟨q0, h0, rfl⟩ := List.mem_map.mp hq
  rw [← hs] at h0
  obtain ⟨j, -, hj⟩ := List.mem_filterMap.mp h0
  exact List.mem_map.mpr ⟨q0, List.mem_of_getElem? hj, rfl⟩
theorem gc_widen {k' n' : Nat} (h1 : k ≤ k') (h2 : n ≤ n') (next : Gc X cs k' n' pc lv st) : Gc X cs k n pc lv st := by
  obtain ⟨p, l, e, R, s, m, args, below, meth, c, Q, E⟩ := X
  intro H locs ls hR hS hl
  exact W.widen h1 h2 (next H locs ls hR hS hl)
theorem gc_iret {x : Int32} (C : Cx X own cc nL (some .int) D mc ms) (hQ : EndC X k n (some (.int x)) cs) (hd : decode cc pc = .ok (.ireturn, 1)) : Gc X cs k n pc lv [.int x] := by
  obtain ⟨p, l, e, R, s, m, args, below, meth, c, Q, E⟩ := X
  obtain ⟨hx, hb, hml, hown, hts, hO, hlk, hrt, hfr, hlo, hce, hsl, hbs, -⟩ := C
  intro H locs ls hR hS hl
  have hQ : Q = _ := hQ.1
  subst hQ
  exact W.iret hx hb hrt (fun t ht hw => ⟨rfl, by rw [ht]; exact hR, hS.F ht⟩) hS.2.2 hd
theorem gc_lret {x : Int64} (C : Cx X own cc nL (some .long) D mc ms) (hQ : EndC X k n (some (.long x)) cs) (hd : decode cc pc = .ok (.lreturn, 1)) : Gc X cs k n pc lv [.long x] := by
  obtain ⟨p, l, e, R, s, m, args, below, meth, c, Q, E⟩ := X
  obtain ⟨hx, hb, hml, hown, hts, hO, hlk, hrt, hfr, hlo, hce, hsl, hbs, -⟩ := C
  intro H locs ls hR hS hl
  have hQ : Q = _ := hQ.1
  subst hQ
  exact W.lret hx hb hrt (fun t ht hw => ⟨rfl, by rw [ht]; exact hR, hS.F ht⟩) hS.2.2 hd
theorem gc_zret {b : Bool} {x : Int32} (C : Cx X own cc nL (some .boolean) D mc ms) (hQ : EndC X k n (some (.int (b2i b))) cs) (hx0 : x = b2i b) (hd : decode cc pc = .ok (.ireturn, 1)) : Gc X cs k n pc lv [.int x] := by
  subst hx0
  obtain ⟨p, l, e, R, s, m, args, below, meth, c, Q, E⟩ := X
  obtain ⟨hx, hb, hml, hown, hts, hO, hlk, hrt, hfr, hlo, hce, hsl, hbs, -⟩ := C
  intro H locs ls hR hS hl
  have hQ : Q = _ := hQ.1
  subst hQ
  exact W.zret hx hb hrt (b2i_narrow b).1 (fun t ht hw => ⟨rfl, by rw [ht]; exact hR, hS.F ht⟩) hS.2.2 hd
theorem gc_vret (C : Cx X own cc nL none D mc ms) (hQ : EndC X k n none cs) (hd : decode cc pc = .ok (.return_, 1)) : Gc X cs k n pc lv [] := by
  obtain ⟨p, l, e, R, s, m, args, below, meth, c, Q, E⟩ := X
  obtain ⟨hx, hb, hml, hown, hts, hO, hlk, hrt, hfr, hlo, hce, hsl, hbs, -⟩ := C
  intro H locs ls hR hS hl
  have hQ : Q = _ := hQ.1
  subst hQ
  exact W.vret hx hb hrt (fun t ht hw => ⟨rfl, by rw [ht]; exact hR, hS.F ht⟩) hS.2.2 hd
theorem gc_aret {a : Nat} (C : Cx X own cc nL rt D mc ms) (hrt0 : ∃ ty, rt = some ty ∧ ((∃ n, ty = .object n) ∨ ∃ t, ty = .array t)) (hQ : EndC X k n (some (.ref a)) cs) (hd : decode cc pc = .ok (.areturn, 1)) : Gc X cs k n pc lv [.ref a] := by
  obtain ⟨p, l, e, R, s, m, args, below, meth, c, Q, E⟩ := X
  obtain ⟨hx, hb, hml, hown, hts, hO, hlk, hrt, hfr, hlo, hce, hsl, hbs, -⟩ := C
  intro H locs ls hR hS hl
  have hQ : Q = _ := hQ.1
  subst hQ
  obtain ⟨ty0, rfl, hty0⟩ := hrt0
  exact W.aret hx hb hrt hty0 (Or.inr ⟨_, rfl⟩) (fun t ht hw => ⟨rfl, by rw [ht]; exact hR, hS.F ht⟩) hS.2.2 hd
theorem gc_aretN {cn : String} (C : Cx X own cc nL (some (.object cn)) D mc ms) (hQ : EndC X k n (some .null) cs) (hd : decode cc pc = .ok (.areturn, 1)) : Gc X cs k n pc lv [.null] := by
  obtain ⟨p, l, e, R, s, m, args, below, meth, c, Q, E⟩ := X
  obtain ⟨hx, hb, hml, hown, hts, hO, hlk, hrt, hfr, hlo, hce, hsl, hbs, -⟩ := C
  intro H locs ls hR hS hl
  have hQ : Q = _ := hQ.1
  subst hQ
  exact W.aret hx hb hrt (Or.inl ⟨_, rfl⟩) (Or.inl rfl) (fun t ht hw => ⟨rfl, by rw [ht]; exact hR, hS.F ht⟩) hS.2.2 hd
end GRC
