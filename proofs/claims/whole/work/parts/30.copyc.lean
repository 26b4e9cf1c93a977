section GCP
variable {X : Xt} {own : String} {cc : ByteArray} {nL : Nat} {rt : Option FieldType} {D mc ms : Nat} {cs cs' : List CC} {k n pc : Nat} {lv : List (Nat × Value)} {st : List Value}
theorem nn32 : ∀ z : Int32, ¬ z < 0 → z.toInt = (z.toNatClampNeg : Int) := by
  intro z hz
  have h3 : 0 ≤ z.toInt := by
    have := Int32.not_lt.mp hz
    simpa using Int32.le_iff_toInt_le.mp this
  show z.toInt = ((z.toInt.toNat : Nat) : Int)
  omega
/-- arraycopy of ints: from a cell whose contents are known into an array of the world -/
theorem w_acopy {p : Program} {l : Launch} {e : Env} {R : Room} {s : State} {m : MethodId} {args : Array Value} {below : List Frame} {meth : Method} {c : Code} {H : Heap} {locs : List Loc} {Q : State → Prop} {ls : Array Slot} {rest : List Value} {idx src dst n0 n1 : Nat} {sp dp cn : Int32} {scr : Cell} {cA : ClassId} {f g : Nat → Int32} {A : Nat → Prop}
    (hx : p.tables.exec = Jvm.exec) (hb : c.code = cc) (hown : s.vm.findClass own = some m.cls) (hts : ∀ w ∈ gw, w.before args s = true) (L : Cond.methodLink own idx arraycopyName ∈ gw) (hs : H[src]? = some scr) (ha0 : s.isArrayOf scr .int) (hk0 : scr.vm ≠ .unknown) (hsz : n0 ≤ scr.slots.size) (hv0 : ∀ j, j < n0 → scr.slots[j]? = some (.int (f j)))
    (hc1 : H[dst]? = some (vp_cell cA (n1, .inl g))) (hA : ArrOfT s cA .int) (c1 : ¬ sp < 0) (c2 : ¬ dp < 0) (c3 : ¬ cn < 0) (c4 : sp.toNatClampNeg + cn.toNatClampNeg ≤ n0) (c5 : dp.toNatClampNeg + cn.toNatClampNeg ≤ n1) (hl : ls.size = c.maxLocals) (hfr : 1 ≤ R.frames) (hlo : (rest.map fun v => v.category).sum + 60 ≤ R.locals) (hd : decode cc pc = .ok (.invokestatic idx, 3)) (hS : va_S A s.heap H locs) (hAd : A dst)
    (next : ∀ (H1 : Heap) (locs1 : List Loc), H1.size = H.size → (∀ q : Nat, q ≠ dst → H1[q]? = H[q]?) → H1[dst]? = some (vp_cell cA (n1, .inl (va_cpy f g sp.toNatClampNeg dp.toNatClampNeg cn.toNatClampNeg))) → va_S A s.heap H1 locs1 → W p l e R s m args below meth c H1 locs1 k n Q (F0 m (pc + 3) ls rest)) : W p l e R s m args below meth c H locs k n Q (F0 m pc ls (.int cn :: .int dp :: .ref dst :: .int sp :: .ref src :: rest)) := by
  intro T hT X0
  obtain ⟨hs6, k0, hk0', cm0, hkk0⟩ := ha0
  obtain ⟨-, k1, hk1', cm1, hkk1⟩ := hA n1 (fun j => .int (g j))
  have hnw : nativeFrameWords "java/lang/System" "arraycopy" 5 + 11 ≤ 60 := by decide +kernel
  obtain ⟨vm', X', step⟩ := X0.arraycopy hx hown (hts _ L) (hts _ ac_nat) (hts _ ac_st) (hts _ ac_in) (src := src) (dst := dst) (cs := scr) (cd := vp_cell cA (n1, .inl g)) (srcPos := sp) (destPos := dp) (n := cn) (by rw [hT]; exact hs) (by rw [hT]; exact hc1)
    hs6 (fun _ h => by cases h) hk0 (fun h => by cases h) hk0' hk1' hkk0 hkk1 (by rfl) c1 c2 c3
    (by rw [nn32 sp c1, nn32 cn c3]; omega)
    (by rw [nn32 dp c2, nn32 cn c3]; show ¬ _ > ((arrV _ n1 (fun j => .int (g j))).slots.size : Int); rw [arrV_size]; omega)
    (fun vm₁ _ i hi => by
      have e9 : scr.slots.getD (sp.toNatClampNeg + i) .null = .int (f (sp.toNatClampNeg + i)) := by
        rw [Array.getD_eq_getD_getElem?, hv0 _ (by omega)]
        rfl
      refine ⟨?_, ?_⟩
      · rw [e9]; rfl
      · rw [e9]; exact trivial)
    (g := F0 m pc ls (.int cn :: .int dp :: .ref dst :: .int sp :: .ref src :: rest)) rfl hl (rest := rest) rfl (by rw [hb]; exact hd) hfr (by show 2 * 0 + _ + _ ≤ _; omega)
  have e1 : copied scr (vp_cell cA (n1, .inl g)) sp dp cn = vp_cell cA (n1, .inl (va_cpy f g sp.toNatClampNeg dp.toNatClampNeg cn.toNatClampNeg)) := va_copiedX (fun z => .int z) scr cA f g hv0 c4
  rw [e1] at X' step
  have hlt : dst < H.size := (Array.getElem?_eq_some_iff.mp hc1).1
  have oq : ∀ q : Nat, q ≠ dst → (H.setIfInBounds dst (vp_cell cA (n1, .inl (va_cpy f g sp.toNatClampNeg dp.toNatClampNeg cn.toNatClampNeg))))[q]? = H[q]? := fun q hq => by simp [Array.getElem?_setIfInBounds, Ne.symm hq]
  obtain ⟨t, a1, b1⟩ := next (H.setIfInBounds dst _) _ (by simp) oq (by simp [Array.getElem?_setIfInBounds, hlt]) ⟨by simp; exact hS.1, fun q g1 g2 => by
      rw [oq q (fun e => g2 (by rw [e]; exact hAd))]
      exact hS.2.1 q g1 g2, fun q hq => by
      rcases List.mem_append.mp hq with h | h
      · exact hS.2.2 q h
      · obtain ⟨z, -, hz⟩ := List.mem_map.mp h
        rw [← hz]
        exact hAd⟩ _ (by rw [← hT]; rfl) X'
  exact ⟨t, step t a1, b1⟩
theorem gc_acopyF {idx a : Nat} (C : Cx X own cc nL rt D mc ms) (hd : decode cc pc = .ok (.invokestatic idx, 3)) (L : Cond.methodLink own idx arraycopyName ∈ gw) (hq : cpF a cs = some cs') (hD : 1 ≤ D) (next : Gc X cs' k n (pc + 3) lv []) : Gc X cs k n pc lv [.int 3, .int 0, .ref a, .int 0, .ref 1000006] := by
  obtain ⟨p, l, e, R, s, m, args, below, meth, c, Q, E⟩ := X
  obtain ⟨hx, hb, hml, hown, hts, hO, hlk, hrt, hfr, hlo, hce, hsl, hbs, -⟩ := C
  obtain ⟨f, ha, rfl⟩ := cpF_eq hq
  intro H locs ls hR hS hl
  simp only [List.map_cons, List.map_nil, rc_lt hR ha]
  obtain ⟨scr, hs1, hs2, hs3, hs4, -, hs5, hs7⟩ := hO.2.2.2.2.2.2.2.2.2.2.2.2.2.1
  have hc0 : H[E.2.2.2.1 6]? = some scr := by rw [hS.2.1 _ (Array.getElem?_eq_some_iff.mp hs1).1 hs7]; exact hs1
  refine w_acopy (sp := 0) (dp := 0) (cn := 3) (n0 := 3) (f := fun j => fiT.getD j 0) hx hb hown hts L hc0 hs2 hs3 hs4 hs5 (hR.2.2 a _ (wc_at (E := E) ha)) (hO.1.2 0 _ rfl).1 (by decide) (by decide) (by decide) (by decide) (by decide) hl.1 (by omega) (by show 0 + 60 ≤ _; omega) hd hS (Nat.le_add_right _ _) (fun H1 locs1 z oq e1 hS1 => ?_)
  exact next H1 locs1 ls (Rc_set hR ha z oq e1) hS1 hl
/-- between two arrays of the list -/
def cpC (a sp b dp n : Nat) (cs : List CC) : Option (List CC) := match arI 0 a cs, arI 0 b cs with
  | some (n0, f), some (n1, g) => if sp + n ≤ n0 ∧ dp + n ≤ n1 then some (cs.set b (.inr (0, n1, .inl (va_cpy f g sp dp n)))) else none
  | _, _ => none
theorem gc_acopy {idx a b s0 d0 n0 : Nat} {sp dp cn : Int32} (C : Cx X own cc nL rt D mc ms) (hd : decode cc pc = .ok (.invokestatic idx, 3)) (L : Cond.methodLink own idx arraycopyName ∈ gw) (c1 : ¬ sp < 0) (c2 : ¬ dp < 0) (c3 : ¬ cn < 0) (e1 : sp.toNatClampNeg = s0) (e2 : dp.toNatClampNeg = d0) (e3 : cn.toNatClampNeg = n0) (hq : cpC a s0 b d0 n0 cs = some cs') (hD : 1 ≤ D) (next : Gc X cs' k n (pc + 3) lv []) : Gc X cs k n pc lv [.int cn, .int dp, .ref b, .int sp, .ref a] := by
  obtain ⟨p, l, e, R, s, m, args, below, meth, c, Q, E⟩ := X
  obtain ⟨hx, hb, hml, hown, hts, hO, hlk, hrt, hfr, hlo, hce, hsl, hbs, -⟩ := C
  subst e1; subst e2; subst e3
  unfold cpC at hq
  split at hq
  · rename_i m0 f m1 g h1 h2
    split at hq
    · rename_i hh
      cases hq
      have ha := arI_eq h1
      have hb' := arI_eq h2
      intro H locs ls hR hS hl
      simp only [List.map_cons, List.map_nil, rc_lt hR ha, rc_lt hR hb']
      have hw := hR.2.2 a _ (wc_at (E := E) ha)
      refine w_acopy (n0 := m0) (f := f) hx hb hown hts L hw ((hO.1.2 0 _ rfl).1 m0 (fun j => .int (f j))) (fun h => by cases h) (by show m0 ≤ (arrV _ _ _).slots.size; rw [arrV_size]; exact Nat.le_refl _) (fun j hj => arrV_read _ _ hj) (hR.2.2 b _ (wc_at (E := E) hb')) (hO.1.2 0 _ rfl).1 c1 c2 c3 hh.1 hh.2 hl.1 (by omega) (by show 0 + 60 ≤ _; omega) hd hS (Nat.le_add_right _ _) (fun H1 locs1 z oq e1 hS1 => ?_)
      exact next H1 locs1 ls (Rc_set hR hb' z oq e1) hS1 hl
    · cases hq
  · cases hq
end GCP
