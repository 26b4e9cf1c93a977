section GHC
variable {X : Xt} {own : String} {cc : ByteArray} {nL : Nat} {rt : Option FieldType} {D mc ms : Nat} {cs cs' : List CC} {k n pc : Nat} {lv : List (Nat × Value)} {st : List Value}
theorem rc_lt {E : Ex} {H : Heap} {a : Nat} {c : CC} (hR : Rc E cs H) (ha : cs[a]? = some c) : cv E (.ref a) = .ref (E.2.2.1 + a) := by
  have h1 : a < cs.length := (List.getElem?_eq_some_iff.mp ha).1
  show Value.ref (ra E a) = _
  unfold ra
  rw [if_pos (by have := hR.2.1; omega)]
theorem cv_new {E : Ex} {H : Heap} (hR : Rc E cs H) : cv E (.ref cs.length) = .ref H.size := by
  show Value.ref (ra E cs.length) = _
  unfold ra
  rw [if_pos hR.2.1, hR.1]
theorem va_S_push {A : Nat → Prop} {H0 H H1 : Heap} {locs : List Loc} (hS : va_S A H0 H locs) (z : H1.size = H.size + 1) (oq : ∀ q : Nat, q < H.size → H1[q]? = H[q]?) : va_S A H0 H1 locs :=
  ⟨by rw [z]; exact Nat.le_succ_of_le hS.1, fun q g1 g2 => by rw [oq q (Nat.lt_of_lt_of_le g1 hS.1)]; exact hS.2.1 q g1 g2, hS.2.2⟩
/-- a link to a class that is made -/
def NOk (own : String) (idx ci N : Nat) : Prop := ∃ (C : String) (T : u_T) (ty0 : Nat → FieldType), cls[ci]? = some (C, T, N) ∧ (∀ w ∈ u_ws C T N, w ∈ gw) ∧ (∀ k, k < N → parseFieldDescriptor (T k).2.2.1 = some (ty0 k)) ∧ Cond.classLink own idx C ∈ gw ∧ Cond.instantiable C N ∈ gw ∧ Cond.initialized C ∈ gw ∧ ∀ j, j < N → ∀ E, defaultValue (ty0 j) = vp_V ((dfl ci).map (cv E)) j
theorem gc_new {idx ci N : Nat} (C : Cx X own cc nL rt D mc ms) (hd : decode cc pc = .ok (.new idx, 3)) (L : NOk own idx ci N) (hq : nwO ci cs = some cs') (hc : k + 1 ≤ mc ∧ n + N ≤ ms) (next : Gc X cs' (k + 1) (n + N) (pc + 3) lv (.ref cs.length :: st)) : Gc X cs k n pc lv st := by
  obtain ⟨p, l, e, R, s, m, args, below, meth, c, Q, E⟩ := X
  obtain ⟨hx, hb, hml, hown, hts, hO, hlk, hrt, hfr, hlo, hce, hsl, hbs, -⟩ := C
  obtain ⟨cN, T, ty0, h1, h3, h4, l1, l2, l3, l4⟩ := L
  obtain ⟨hz, rfl⟩ := nwO_eq hq
  intro H locs ls hR hS hl
  have hKn := hO.1.1 ci _ h1
  refine W.newcK hx hb hown (hts _ l1) (hts _ l2) (hts _ l3) rfl hd (by omega) (by omega) hKn.2.1 rfl fun H1 kC hkC e1 z1 o1 => ?_
  have key := next H1 locs ls (Rc_push hR hz z1 o1 ?_) (va_S_push hS z1 o1) hl
  · rw [List.map_cons, cv_new hR] at key
    exact key
  · rw [← hR.1]
    exact ⟨_, h1, (u_born ty0 hts h3 hKn hkC e1 h4).to (fun j hj => l4 j hj E)⟩
theorem gc_newa {atype : ArrayType} {t N : Nat} {ty : FieldType} {v : Int32} (C : Cx X own cc nL rt D mc ms) (hd : decode cc pc = .ok (.newarray atype, 2)) (hty : newarray.typeOf atype = ty) (ht : [FieldType.int, .byte, .boolean, .long][t]? = some ty) (hw : Cond.arrayClass ty ∈ gw) (hn : ¬ v < 0) (hN : v.toNatClampNeg = N) (hby : N * componentBytes ty ≤ 536870912) (hq : nwA t N cs = some cs') (hc : k + 1 ≤ mc ∧ n + N ≤ ms) (next : Gc X cs' (k + 1) (n + N) (pc + 2) lv (.ref cs.length :: st)) : Gc X cs k n pc lv (.int v :: st) := by
  obtain ⟨p, l, e, R, s, m, args, below, meth, c, Q, E⟩ := X
  obtain ⟨hx, hb, hml, hown, hts, hO, hlk, hrt, hfr, hlo, hce, hsl, hbs, -⟩ := C
  obtain ⟨hz, rfl⟩ := nwA_eq hq
  subst hty
  intro H locs ls hR hS hl
  refine va_newaK hx hb (hts _ hw) rfl hd rfl hn hN hby (by omega) (by omega) rfl fun H1 cA e1 z1 o1 hA hf => ?_
  have key := next H1 locs ls (Rc_push hR hz z1 o1 ?_) (va_S_push hS z1 o1) hl
  · rw [List.map_cons, cv_new hR] at key
    exact key
  · match t, ht with
    | 0, ht =>
      have h5 := (hO.1.2 0 _ rfl).2
      rw [← Option.some.inj ht] at hf e1
      have hcA : cA = E.2.1 0 := Option.some.inj (hf.symm.trans h5)
      subst hcA
      rw [← hR.1]; exact e1
    | 1, ht =>
      have h5 := (hO.1.2 1 _ rfl).2
      rw [← Option.some.inj ht] at hf e1
      have hcA : cA = E.2.1 1 := Option.some.inj (hf.symm.trans h5)
      subst hcA
      rw [← hR.1]; exact e1
    | 2, ht =>
      have h5 := (hO.1.2 2 _ rfl).2
      rw [← Option.some.inj ht] at hf e1
      have hcA : cA = E.2.1 2 := Option.some.inj (hf.symm.trans h5)
      subst hcA
      rw [← hR.1]; exact e1
    | 3, ht =>
      have h5 := (hO.1.2 3 _ rfl).2
      rw [← Option.some.inj ht] at hf e1
      have hcA : cA = E.2.1 3 := Option.some.inj (hf.symm.trans h5)
      subst hcA
      rw [← hR.1]; exact e1
    | t + 4, ht => simp at ht
theorem gc_anewa {idx t N : Nat} {cN : String} {v : Int32} (C : Cx X own cc nL rt D mc ms) (hd : decode cc pc = .ok (.anewarray idx, 3)) (ht : (t = 4 ∧ cN = "SteamNations$Text") ∨ (t = 5 ∧ cN = "SteamNations$House")) (hw : Cond.classLink own idx cN ∈ gw) (hn : ¬ v < 0) (hN : v.toNatClampNeg = N) (hby : N * 4 ≤ 536870912) (hq : nwA t N cs = some cs') (hc : k + 1 ≤ mc ∧ n + N ≤ ms) (next : Gc X cs' (k + 1) (n + N) (pc + 3) lv (.ref cs.length :: st)) : Gc X cs k n pc lv (.int v :: st) := by
  obtain ⟨p, l, e, R, s, m, args, below, meth, c, Q, E⟩ := X
  obtain ⟨hx, hb, hml, hown, hts, hO, hlk, hrt, hfr, hlo, hce, hsl, hbs, -⟩ := C
  obtain ⟨hz, rfl⟩ := nwA_eq hq
  subst hN
  intro H locs ls hR hS hl
  have hov : (Cond.arrayOver (.object cN)).before args s = true := by
    rcases ht with ⟨-, rfl⟩ | ⟨-, rfl⟩
    · exact va_AO.use hO.2.2.2.2.2.2.2.2.2.2.2.2.2.2.1
    · exact va_AO.use hO.2.2.2.2.2.2.2.2.2.2.2.2.2.2.2.1
  refine W.anew hx hb hown (hts _ hw) hov rfl hd rfl hn hby (by omega) (by omega) fun cA kA comp f1 f2 f3 f4 => ?_
  generalize hH1 : H.push ({ cls := cA, slots := Array.replicate v.toNatClampNeg .null, vm := .none } : Cell) = H1
  have z1 : H1.size = H.size + 1 := by rw [← hH1, Array.size_push]
  have e1 : H1[H.size]? = some (arrV cA v.toNatClampNeg (fun _ => .null)) := by rw [← hH1, Array.getElem?_push_size, ← arrV_new]
  have o1 : ∀ q : Nat, q < H.size → H1[q]? = H[q]? := fun q hq => by rw [← hH1, Array.getElem?_push, if_neg (Nat.ne_of_lt hq)]
  have key := next H1 locs ls (Rc_push hR hz z1 o1 ?_) (va_S_push hS z1 o1) hl
  · rw [List.map_cons, cv_new hR] at key
    exact key
  · rcases ht with ⟨rfl, rfl⟩ | ⟨rfl, rfl⟩
    · obtain ⟨kA', comp', k1, k2, k3, k4⟩ := (hO.1.2 4 _ rfl).2
      have hcA : cA = E.2.1 4 := Option.some.inj (f1.symm.trans k4)
      subst hcA
      rw [← hR.1]; exact e1
    · obtain ⟨kA', comp', k1, k2, k3, k4⟩ := (hO.1.2 5 _ rfl).2
      have hcA : cA = E.2.1 5 := Option.some.inj (f1.symm.trans k4)
      subst hcA
      rw [← hR.1]; exact e1
def FLkF (own : String) (idx ci f : Nat) (ty : FieldType) : Prop := ∃ (C : String) (T : u_T) (N : Nat) (ty0 : Nat → FieldType), cls[ci]? = some (C, T, N) ∧ f < N ∧ (∀ w ∈ u_ws C T N, w ∈ gw) ∧ (∀ k, k < N → parseFieldDescriptor (T k).2.2.1 = some (ty0 k)) ∧ (∀ a, a < N → ∀ b, b < N → a ≠ b → (T a).2.1 ≠ (T b).2.1) ∧ Cond.fieldLink own idx (T f).1 (T f).2.1 (T f).2.2.1 ∈ gw ∧ ty0 f = ty ∧ (T f).2.2.2 = true ∧ (T f).1 = own
theorem gc_putF {idx ci f a : Nat} {ty : FieldType} {v : Value} (C : Cx X own cc nL rt D mc ms) (hini : isIni X) (hd : decode cc pc = .ok (.putfield idx, 3)) (hF : FLkF own idx ci f ty) (hv : ∀ E, narrow ty (cv E v) = cv E v ∧ fits ty (cv E v) = true) (hq : pF ci f v a cs = some cs') (next : Gc X cs' k n (pc + 3) lv st) : Gc X cs k n pc lv (v :: .ref a :: st) := by
  obtain ⟨p, l, e, R, s, m, args, below, meth, c, Q, E⟩ := X
  obtain ⟨hx, hb, hml, hown, hts, hO, hlk, hrt, hfr, hlo, hce, hsl, hbs, -⟩ := C
  obtain ⟨cN, T, N, ty0, h1, h2, h3, h4, h5, h6, h7, h8, h9⟩ := hF
  obtain ⟨vs, ha, hfl, rfl⟩ := pF_eq hq
  intro H locs ls hR hS hl
  have hw := wc_at (E := E) ha
  rw [List.map_cons, List.map_cons, rc_lt hR ha]
  have hd7 : parseFieldDescriptor (T f).2.2.1 = some ty := by rw [h4 f h2, h7]
  have hlen : f < (vs.map (cv E)).length := by rw [List.length_map]; exact hfl
  have hap := va_apart (own := own) hts h3 ty0 h4 h5 hO.1 h1
  obtain ⟨r, g1, cell, q1, q2, q3, q4⟩ := hR.2.2 a _ hw
  have hr : r = (cN, T, N) := Option.some.inj (g1.symm.trans h1)
  subst hr
  obtain ⟨hSl, hfc, kC, hkC, hkind⟩ := hO.1.1 ci _ h1
  obtain ⟨cf, kf, fi, fd, hi, hsl2⟩ := hSl f h2
  have hlay := hts _ (h3 _ (u_in_lay h2))
  unfold u_lay at hlay
  rw [if_pos h8] at hlay
  have hst := (u_facts hfc hkC (u_lays hts h3 h2) hi).1
  have hcf : m.cls = cf := by
    obtain ⟨_, _, c', _, _, _, -, -, hf', -, -, -, hown2, -⟩ := Cond.laysFinal_spec hlay
    have e1 : c' = cf := by have := hi.symm.trans hf'; simp at this; exact this.1.symm
    rw [h9] at hown2
    rw [← e1]; exact Option.some.inj (hown.symm.trans hown2)
  have h6' := u_fits hfc hkC hkind (Or.inr hlay) hi hd7 (hv E).1 (hv E).2
  refine W.putFinK hx hb hown (hts _ h6) hi hst hcf hini (by rw [q2]; exact h6') q1 q3 (by rw [hsl2]; exact k2_hasslot (q4 f h2)) rfl rfl hd fun H' e1 e2 e3 => ?_
  rw [hsl2] at e1
  refine next H' _ ls (Rc_set hR ha e2 e3 ?_) (hS.put e2 e3 (Nat.le_add_right _ _)) hl
  show va_at E.1 cls (E.2.2.1 + a, .inr (ci, (vs.set f v).map (cv E))) H'
  rw [List.map_set]
  exact ⟨_, h1, t_OB.to (V := updV (vp_V (vs.map (cv E))) f (cv E v)) ⟨_, e1, q2, q3, t_set q4 hap h2 (cv E v)⟩ (fun j _ => vp_updV_set hlen (cv E v) j)⟩
theorem gc_putI {idx ci f a : Nat} {ty : FieldType} {v : Value} (C : Cx X own cc nL rt D mc ms) (hd : decode cc pc = .ok (.putfield idx, 3)) (hF : FLk own idx ci f ty false) (hv : ∀ E, narrow ty (cv E v) = cv E v ∧ fits ty (cv E v) = true) (hq : pF ci f v a cs = some cs') (next : Gc X cs' k n (pc + 3) lv st) : Gc X cs k n pc lv (v :: .ref a :: st) := by
  obtain ⟨p, l, e, R, s, m, args, below, meth, c, Q, E⟩ := X
  obtain ⟨hx, hb, hml, hown, hts, hO, hlk, hrt, hfr, hlo, hce, hsl, hbs, -⟩ := C
  obtain ⟨cN, T, N, ty0, h1, h2, h3, h4, h5, h6, h7, h8⟩ := hF
  obtain ⟨vs, ha, hfl, rfl⟩ := pF_eq hq
  intro H locs ls hR hS hl
  have hw := wc_at (E := E) ha
  rw [List.map_cons, List.map_cons, rc_lt hR ha]
  have hd7 : parseFieldDescriptor (T f).2.2.1 = some ty := by rw [h4 f h2, h7]
  have hlen : f < (vs.map (cv E)).length := by rw [List.length_map]; exact hfl
  have hap := va_apart (own := own) hts h3 ty0 h4 h5 hO.1 h1
  obtain ⟨r, g1, cell, q1, q2, q3, q4⟩ := hR.2.2 a _ hw
  have hr : r = (cN, T, N) := Option.some.inj (g1.symm.trans h1)
  subst hr
  obtain ⟨hSl, hfc, kC, hkC, hkind⟩ := hO.1.1 ci _ h1
  obtain ⟨cf, kf, fi, fd, hi, hsl2⟩ := hSl f h2
  have hlay := hts _ (h3 _ (u_in_lay h2))
  unfold u_lay at hlay
  rw [if_neg (by rw [h8]; decide)] at hlay
  have hst := (u_facts hfc hkC (u_lays hts h3 h2) hi).1
  have h6' := u_store hfc hkC hkind hlay hi hd7 (hv E).1 (hv E).2
  refine W.putK hx hb (f := fd) ⟨hown, hts _ h6, ⟨_, _, _, hi⟩, hst⟩ (by rw [q2]; exact h6') q1 q3 (by rw [hsl2]; exact k2_hasslot (q4 f h2)) rfl rfl hd fun H' e1 e2 e3 => ?_
  rw [hsl2] at e1
  refine next H' _ ls (Rc_set hR ha e2 e3 ?_) (hS.put e2 e3 (Nat.le_add_right _ _)) hl
  show va_at E.1 cls (E.2.2.1 + a, .inr (ci, (vs.set f v).map (cv E))) H'
  rw [List.map_set]
  exact ⟨_, h1, t_OB.to (V := updV (vp_V (vs.map (cv E))) f (cv E v)) ⟨_, e1, q2, q3, t_set q4 hap h2 (cv E v)⟩ (fun j _ => vp_updV_set hlen (cv E v) j)⟩
theorem gc_getR {idx ci f a b : Nat} {ty : FieldType} {fin : Bool} (C : Cx X own cc nL rt D mc ms) (hd : decode cc pc = .ok (.getfield idx, 3)) (hF : FLk own idx ci f ty fin) (hq : gR ci f a cs = some b) (next : Gc X cs k n (pc + 3) lv (.ref b :: st)) : Gc X cs k n pc lv (.ref a :: st) := by
  obtain ⟨p, l, e, R, s, m, args, below, meth, c, Q, E⟩ := X
  obtain ⟨hx, hb, hml, hown, hts, hO, hlk, hrt, hfr, hlo, hce, hsl, hbs, -⟩ := C
  obtain ⟨cN, T, N, ty0, h1, h2, h3, h4, h5, h6, h7, h8⟩ := hF
  obtain ⟨vs, ha, hvf⟩ := gR_eq hq
  intro H locs ls hR hS hl
  have hw := wc_at (E := E) ha
  rw [List.map_cons, rc_lt hR ha]
  exact va_get hx hb hts h3 hown hO.1 hR.2.2 a hw h1 f h2 (hts _ h6) (fun _ h => h) (v := cv E (.ref b)) (by rw [List.getElem?_map, hvf]; rfl) hd (next H locs ls hR hS hl)
theorem gc_ast {ins : Instr} {t a j : Nat} {i x : Int32} (C : Cx X own cc nL rt D mc ms) (hd : decode cc pc = .ok (ins, 1)) (ht : (t = 0 ∧ ins = .iastore) ∨ (t = 1 ∧ ins = .bastore)) (hn : t = 1 → x.toInt8.toInt32 = x) (h0 : ¬ i < 0) (hj : i.toNatClampNeg = j) (hq : sAI t a j x cs = some cs') (next : Gc X cs' k n (pc + 1) lv st) : Gc X cs k n pc lv (.int x :: .int i :: .ref a :: st) := by
  obtain ⟨p, l, e, R, s, m, args, below, meth, c, Q, E⟩ := X
  obtain ⟨hx, hb, hml, hown, hts, hO, hlk, hrt, hfr, hlo, hce, hsl, hbs, -⟩ := C
  obtain ⟨nn, f, ha, hlt, rfl⟩ := sAI_eq hq
  subst hj
  intro H locs ls hR hS hl
  have hw := wc_at (E := E) ha
  rw [List.map_cons, List.map_cons, List.map_cons, rc_lt hR ha]
  have hin : ¬ (i < 0 ∨ (arrV (E.2.1 t) nn (fun j => .int (f j))).slots.size ≤ i.toNatClampNeg) := by
    rw [arrV_size]
    rintro (q | q)
    · exact h0 q
    · omega
  rcases ht with ⟨rfl, rfl⟩ | ⟨rfl, rfl⟩
  · refine W.iast hx hb (hR.2.2 a _ hw) ((hO.1.2 0 _ rfl).1 _ (fun j => .int (f j))) (fun q => by cases q) hin rfl rfl hd fun H1 e1 z oq => ?_
    refine next H1 _ ls (Rc_set hR ha z oq ?_) (hS.put z oq (Nat.le_add_right _ _)) hl
    show H1[E.2.2.1 + a]? = some (vp_cell _ _)
    rw [e1, vp_cell_i, vp_cell_i, arrV_store]
    congr 2
    funext q
    by_cases hq : q = i.toNatClampNeg
    · subst hq; simp [updV, upd]
    · simp [updV, upd, hq]
  · refine W.bast hx hb (hR.2.2 a _ hw) ((hO.1.2 1 _ rfl).1 _ (fun j => .int (f j))) (fun q => by cases q) hin rfl rfl hd fun H1 e1 z oq => ?_
    refine next H1 _ ls (Rc_set hR ha z oq ?_) (hS.put z oq (Nat.le_add_right _ _)) hl
    show H1[E.2.2.1 + a]? = some (vp_cell _ _)
    rw [e1, vp_cell_i, vp_cell_i, arrV_store]
    congr 2
    funext q
    by_cases hq : q = i.toNatClampNeg
    · subst hq
      have hx8 := hn rfl
      simp only [updV, upd, if_true]
      have h9 : narrow .byte (.int x) = .int x.toInt8.toInt32 := rfl
      rw [hx8] at h9
      exact h9
    · simp [updV, upd, hq]
theorem gc_aast {a j b : Nat} {i : Int32} (C : Cx X own cc nL rt D mc ms) (hd : decode cc pc = .ok (.aastore, 1)) (h0 : ¬ i < 0) (hj : i.toNatClampNeg = j) (hq : sAR a j b cs = some cs') (next : Gc X cs' k n (pc + 1) lv st) : Gc X cs k n pc lv (.ref b :: .int i :: .ref a :: st) := by
  obtain ⟨p, l, e, R, s, m, args, below, meth, c, Q, E⟩ := X
  obtain ⟨hx, hb, hml, hown, hts, hO, hlk, hrt, hfr, hlo, hce, hsl, hbs, -⟩ := C
  obtain ⟨nn, f, vs, ha, hbb, hlt, rfl⟩ := sAR_eq hq
  subst hj
  intro H locs ls hR hS hl
  have hw := wc_at (E := E) ha
  have hwb := wc_at (E := E) hbb
  rw [List.map_cons, List.map_cons, List.map_cons, rc_lt hR ha, rc_lt hR hbb]
  obtain ⟨r', hr', cellV, g1, g2, g3, -⟩ := hR.2.2 b _ hwb
  have hcls := (hO.1.1 1 _ rfl).2
  obtain ⟨kA, comp, k1, k2, k3, -⟩ := (hO.1.2 5 _ rfl).2
  have hcomp : comp = E.1.1 1 := Option.some.inj (k3.symm.trans hcls.1)
  subst hcomp
  obtain ⟨kC, hkC, -⟩ := hcls.2
  refine W.aast hx hb (hR.2.2 a _ hw) (fun q h => by cases h) (fun h => by cases h) k1 k2 rfl hkC ⟨h0, by show _ < (arrV _ _ _).slots.size; rw [arrV_size]; exact hlt⟩ g1 (fun q h => by rw [g3] at h; cases h) (by rw [g2]; exact hkC) (by rw [g2]; exact va_assign hcls) rfl rfl hd fun H1 e1 z oq => ?_
  refine next H1 _ ls (Rc_set hR ha z oq ?_) (hS.put z oq (Nat.le_add_right _ _)) hl
  show H1[E.2.2.1 + a]? = some (vp_cell _ _)
  rw [e1, vp_cell_q, vp_cell_q, arrV_store]
  congr 2
  funext q
  have hrb : ra E b = E.2.2.1 + b := by
    have := rc_lt hR hbb
    exact Value.ref.inj this
  by_cases hq : q = i.toNatClampNeg
  · subst hq; simp [updV, va_up, va_rf, hrb]
  · simp [updV, va_up, hq]
theorem gc_gsF (C : Cx X "SteamNations$Room" cc nL rt D mc ms) (hd : decode cc pc = .ok (.getstatic 21, 3)) (next : Gc X cs k n (pc + 3) lv (.ref 1000006 :: st)) : Gc X cs k n pc lv st := by
  obtain ⟨p, l, e, R, s, m, args, below, meth, c, Q, E⟩ := X
  obtain ⟨hx, hb, hml, hown, hts, hO, hlk, hrt, hfr, hlo, hce, hsl, hbs, -⟩ := C
  intro H locs ls hR hS hl
  exact va_getsN hx hb hO.2.2.2.2.2.2.2.2.2.2.2.2.1 hS hown (va_Nw.use rfl (hO.2.1 ("SteamNations$Room", 21, "SteamNations", "FIRST_OF_TERM", "[I", "SteamNations") (by decide))) (fun _ h => h) hd (next H locs ls hR hS hl)
theorem gc_tlenF (C : Cx X own cc nL rt D mc ms) (hd : decode cc pc = .ok (.arraylength, 1)) (next : Gc X cs k n (pc + 1) lv (.int 3 :: st)) : Gc X cs k n pc lv (.ref 1000006 :: st) := by
  obtain ⟨p, l, e, R, s, m, args, below, meth, c, Q, E⟩ := X
  obtain ⟨hx, hb, hml, hown, hts, hO, hlk, hrt, hfr, hlo, hce, hsl, hbs, -⟩ := C
  intro H locs ls hR hS hl
  exact va_tlen hx hb hO.2.2.2.2.2.2.2.2.2.2.2.2.2.1 hS (by decide) hd (next H locs ls hR hS hl)
theorem gc_alen {t a nn : Nat} {f : Nat → Int32} {v : Int32} (C : Cx X own cc nL rt D mc ms) (hd : decode cc pc = .ok (.arraylength, 1)) (ht : t < 4) (hq : arI t a cs = some (nn, f)) (hv : Int32.ofNat nn = v) (next : Gc X cs k n (pc + 1) lv (.int v :: st)) : Gc X cs k n pc lv (.ref a :: st) := by
  obtain ⟨p, l, e, R, s, m, args, below, meth, c, Q, E⟩ := X
  obtain ⟨hx, hb, hml, hown, hts, hO, hlk, hrt, hfr, hlo, hce, hsl, hbs, -⟩ := C
  have ha := arI_eq hq
  intro H locs ls hR hS hl
  rw [List.map_cons, rc_lt hR ha]
  obtain ⟨ty, hty⟩ : ∃ ty, [FieldType.int, .byte, .boolean, .long, .object "SteamNations$Text", .object "SteamNations$House"][t]? = some ty := ⟨_, List.getElem?_eq_getElem (by simp; omega)⟩
  exact va_alen hx hb hO.1 hR.2.2 a t (wc_at (E := E) ha) (ty_at t hty) hv hd (next H locs ls hR hS hl)
theorem gc_iald {a j nn : Nat} {f : Nat → Int32} {i : Int32} (C : Cx X own cc nL rt D mc ms) (hd : decode cc pc = .ok (.iaload, 1)) (hq : arI 0 a cs = some (nn, f)) (hj : inb i nn = some j) (next : Gc X cs k n (pc + 1) lv (.int (f j) :: st)) : Gc X cs k n pc lv (.int i :: .ref a :: st) := by
  obtain ⟨p, l, e, R, s, m, args, below, meth, c, Q, E⟩ := X
  obtain ⟨hx, hb, hml, hown, hts, hO, hlk, hrt, hfr, hlo, hce, hsl, hbs, -⟩ := C
  have ha := arI_eq hq
  obtain ⟨hin, hj2⟩ := inb_vp hj
  subst hj2
  intro H locs ls hR hS hl
  rw [List.map_cons, List.map_cons, rc_lt hR ha]
  exact va_iald hx hb hO.1 hR.2.2 a 0 (wc_at (E := E) ha) rfl hin hd (next H locs ls hR hS hl)
theorem gc_objInit {idx a : Nat} (C : Cx X own cc nL rt D mc ms) (hd : decode cc pc = .ok (.invokespecial idx, 3)) (L : Cond.methodLink own idx objectInit ∈ gw) (h1 : Cond.instanceMethod objectInit ∈ gw) (h2 : Cond.code objectInit ⟨#[0xb1]⟩ 1 none ∈ gw) (hD : 1 ≤ D) (next : Gc X cs k n (pc + 3) lv []) : Gc X cs k n pc lv [.ref a] := by
  obtain ⟨p, l, e, R, s, m, args, below, meth, c, Q, E⟩ := X
  obtain ⟨hx, hb, hml, hown, hts, hO, hlk, hrt, hfr, hlo, hce, hsl, hbs, -⟩ := C
  intro H locs ls hR hS hl
  exact W.objInit hx hb hown (hts _ L) (hts _ h1) (hts _ h2) rfl hl.1 (a := ra E a) (rest := []) rfl hd (by omega) (by show 2 * 0 + 0 + 12 ≤ _; omega) (next H locs ls hR hS hl)
theorem gc_run {p : Program} {l : Launch} {e : Env} {R : Room} {s : State} {m : MethodId} {args : Array Value} {below : List Frame} {meth : Method} {c : Code} {Q : State → Prop} {E : Ex} {H : Heap} {locs : List Loc} {mc' ms' : Nat} {ls : Array Slot} {st0 rest : List Value} {aa : Array Value} {r : Option Value} {cs1 : List CC}
    (hr : va_Run p l e R s m args below meth c H locs k n mc' ms' (F0 m pc ls st0) (rest.map (cv E)) (rQC E r cs1 aa) (eA E)) (hS : va_S (eA E) s.heap H locs) (hl : lv_has ls c.maxLocals (cl2 E lv))
    (next : Gc (p, l, e, R, s, m, args, below, meth, c, Q, E) cs1 (k + mc') (n + ms') (pc + 3) lv (r.toList ++ rest)) : W p l e R s m args below meth c H locs k n Q (F0 m pc ls st0) := by
  intro T hT X0
  obtain ⟨v, st₀, t, T', L, h0, X', hL, e1, e2, ⟨hv, hR1, hz, hk⟩, stp⟩ := hr T hT X0
  have hv : v = r.map (cv E) := by cases hv; rfl
  subst hv
  rw [h0] at hz hk
  have hS1 : va_S (eA E) s.heap T'.heap (locs ++ L) := by
    refine ⟨Nat.le_trans hS.1 (by rw [e1]; exact hz), fun q g1 g2 => ?_, fun q hq => ?_⟩
    · rw [e1, hk q (Nat.lt_of_lt_of_le g1 hS.1) g2]
      exact hS.2.1 q g1 g2
    · rcases List.mem_append.mp hq with h | h
      · exact hS.2.2 q h
      · exact hL q h
  obtain ⟨t2, a1, b1⟩ := next T'.heap (locs ++ L) ls (by rw [e1]; exact hR1) hS1 hl T' rfl X'
  have e3 : (r.toList ++ rest).map (cv E) = (r.map (cv E)).toList ++ rest.map (cv E) := by cases r <;> rfl
  rw [e3] at a1
  exact ⟨t2, stp t2 a1, b1⟩
theorem aPcC_at {E : Ex} {s U : State} {H : Heap} {locs : List Loc} {av : List Value} (hR : Rc E cs H) (hO : Ok E s) (hS : va_S (eA E) s.heap H locs) (hbs : E.2.2.1 ≤ s.heap.size) (hU : U.heap = H) (hW : s.WarmedH U.vm) : aPcC E av cs (av.map (cv E)).toArray U := by
  refine ⟨rfl, by rw [hU]; exact hR, hO.mv hW (fun a g1 g2 => by rw [hU]; exact hS.2.1 a g1 g2), by rw [hU]; exact Nat.le_trans hbs hS.1⟩
theorem cat_cv {E : Ex} {rest : List Value} (hcat : (rest.map fun v => v.category).sum ≤ 8) : ((rest.map (cv E)).map fun v => v.category).sum ≤ 8 := by
  rw [List.map_map]
  have e9 : ((fun v : Value => v.category) ∘ cv E) = fun v : Value => v.category := by funext v; exact cv_cat E v
  rw [e9]
  exact hcat
def ILk (own : String) (idx : Nat) (y : MethodName) (bytes : ByteArray) (mL nA : Nat) : Prop :=
  (Cond.methodLink own idx y ∈ gw ∨ (own, idx, y, "SteamNations") ∈ nwM) ∧ Cond.instanceMethod y ∈ gw ∧ Cond.initialized y.cls ∈ gw ∧ Cond.code y bytes mL none ∈ gw ∧ (y.cls ≠ "java/lang/invoke/MethodHandle" ∧ y.cls ≠ "java/lang/invoke/VarHandle" ∧ (parseMethodDescriptor y.desc).map (fun d => d.parameters.length) = some nA) ∧ mL ≤ 40 ∧ y.name = "<init>"
theorem gc_callI {y : MethodName} {bytes : ByteArray} {mL nA D' mc' ms' idx a : Nat} {As rest : List Value} {cs1 : List CC} {c0 : CC} (C : Cx X own cc nL rt D mc ms) (hd : decode cc pc = .ok (.invokespecial idx, 3)) (L : ILk own idx y bytes mL nA) (hm : MetC y bytes mL none D' mc' ms' (.ref a :: As) cs none cs1) (ha : cs[a]? = some c0) (hst : st = As.reverse ++ .ref a :: rest) (hn : As.length = nA) (hcat : (rest.map fun v => v.category).sum ≤ 8) (hD : D' + 1 ≤ D) (hc : k + mc' ≤ mc ∧ n + ms' ≤ ms) (next : Gc X cs1 (k + mc') (n + ms') (pc + 3) lv rest) : Gc X cs k n pc lv st := by
  obtain ⟨p, l, e, R, s, m, args, below, meth, c, Q, E⟩ := X
  obtain ⟨hx, hb, hml, hown, hts, hO, hlk, hrt, hfr, hlo, hce, hsl, hbs, -⟩ := C
  obtain ⟨l1, l3, l5, l6, l7, l8, l9⟩ := L
  intro H locs ls hR hS hl
  have e8 : (Value.ref (E.2.2.1 + a) :: As.map (cv E)).toArray = ((Value.ref a :: As).map (cv E)).toArray := by rw [List.map_cons, rc_lt hR ha]
  have hst2 : (F0 m pc ls (st.map (cv E))).stack = (As.map (cv E)).reverse ++ .ref (E.2.2.1 + a) :: rest.map (cv E) := by
    show st.map (cv E) = _
    rw [hst]
    simp [rc_lt hR ha]
  rcases l1 with l1 | l1
  · have hrun := va_runI (p := p) (e := e) (below := below) (meth := meth) (locs := locs) (cells := k) (slots := n) (As := As.map (cv E)) (rest := rest.map (cv E)) (b := E.2.2.1 + a) (g := F0 m pc ls (st.map (cv E))) (index := idx) ⟨hx, hb, rfl, hown, hts⟩ (hm l E)
      (R := R) ⟨callB_of nA hts (gw_in y l6) rfl rfl rfl (hts _ l5) (hts _ l1) l7 ⟨by show D' + 1 ≤ _; omega, by show 8 + (mL + 11) + 60 * D' ≤ _; omega⟩, l9, hts _ l3⟩
      (H := H) ⟨aPcC_blind E _ cs, fun U hU hW => by rw [e8]; exact aPcC_at hR hO hS hbs hU hW⟩
      rfl (by rw [List.length_map]; exact hn) hl.1 hst2 (lv_room (cat_cv hcat)) hd ⟨by omega, by omega⟩
    exact gc_run hrun hS hl next
  · have hrun := va_runIN (p := p) (e := e) (below := below) (meth := meth) (locs := locs) (cells := k) (slots := n) (As := As.map (cv E)) (rest := rest.map (cv E)) (b := E.2.2.1 + a) (g := F0 m pc ls (st.map (cv E))) (index := idx) ⟨hx, hb, rfl, hown, hts⟩ (hm l E)
      (R := R) ⟨va_cnB nA hts (gw_in y l6) rfl rfl rfl (hO.2.2.1 _ l1) (hts _ l5) l7 ⟨by show D' + 1 ≤ _; omega, by show 8 + (mL + 11) + 60 * D' ≤ _; omega⟩, l9, hts _ l3⟩
      (H := H) ⟨aPcC_blind E _ cs, fun U hU hW => by rw [e8]; exact aPcC_at hR hO hS hbs hU hW⟩
      rfl (by rw [List.length_map]; exact hn) hl.1 hst2 (lv_room (cat_cv hcat)) hd ⟨by omega, by omega⟩
    exact gc_run hrun hS hl next
theorem gc_callS {y : MethodName} {bytes : ByteArray} {mL nA D' mc' ms' idx : Nat} {ret : Option FieldType} {As rest : List Value} {r : Option Value} {cs1 : List CC} (C : Cx X own cc nL rt D mc ms) (hd : decode cc pc = .ok (.invokestatic idx, 3)) (L : SLk own idx y bytes mL ret nA) (hm : MetC y bytes mL ret D' mc' ms' As cs r cs1) (hst : st = As.reverse ++ rest) (hn : As.length = nA) (hcat : (rest.map fun v => v.category).sum ≤ 8) (hD : D' + 1 ≤ D) (hc : k + mc' ≤ mc ∧ n + ms' ≤ ms) (next : Gc X cs1 (k + mc') (n + ms') (pc + 3) lv (r.toList ++ rest)) : Gc X cs k n pc lv st := by
  obtain ⟨p, l, e, R, s, m, args, below, meth, c, Q, E⟩ := X
  obtain ⟨hx, hb, hml, hown, hts, hO, hlk, hrt, hfr, hlo, hce, hsl, hbs, -⟩ := C
  obtain ⟨l2, l3, l5, l6, l7, l8⟩ := L
  intro H locs ls hR hS hl
  have hrun := va_runS (p := p) (e := e) (below := below) (meth := meth) (locs := locs) (cells := k) (slots := n) (As := As.map (cv E)) (rest := rest.map (cv E)) (g := F0 m pc ls (st.map (cv E))) (index := idx) ⟨hx, hb, rfl, hown, hts⟩ (hm l E)
    (R := R) ⟨callB_of nA hts (gw_in y l6) rfl rfl rfl (hts _ l5) (hts _ l2) l7 ⟨by show D' + 1 ≤ _; omega, by show 8 + (mL + 11) + 60 * D' ≤ _; omega⟩, hts _ l3⟩
    (H := H) ⟨aPcC_blind E _ cs, fun U hU hW => aPcC_at hR hO hS hbs hU hW⟩
    rfl (by rw [List.length_map]; exact hn) hl.1 (by rw [hst]; simp) (lv_room (cat_cv hcat)) hd ⟨by omega, by omega⟩
  exact gc_run hrun hS hl next
end GHC
