def vo : Option Nat → Value
  | none => .null
  | some a => .ref a
/-! ===== the abstract heap as a list of cells ===== -/
def cFv (g : Nat → Int32) : Nat → List (Option Nat) → List Value
  | _, [] => []
  | k, none :: l => .int (g k) :: cFv g (k + 1) l
  | k, some b :: l => .ref b :: cFv g (k + 1) l
def cellOf (h : Hp) (a : Nat) : CC := match kd a with
  | .inl (ci, fs) => .inl (ci, cFv (fI h a) 0 fs)
  | .inr (t, on) => .inr (t, on.getD (ln h a), if t < 3 then .inl (aI h a) else if t = 3 then .inr (.inl (aL h a)) else .inr (.inr (aO h a)))
def csOf (h : Hp) : List CC := (List.range (sz h)).map (cellOf h)
theorem cFv_map {E : Ex} {g : Nat → Int32} : ∀ (fs : List (Option Nat)) (k : Nat), (cFv g k fs).map (cv E) = cF E g k fs
  | [], _ => rfl
  | none :: l, k => by simp only [cFv, cF, List.map_cons, cFv_map l]; rfl
  | some b :: l, k => by simp only [cFv, cF, List.map_cons, cFv_map l]; rfl
theorem cC_cellOf (E : Ex) (h : Hp) (a : Nat) : cC E (cellOf h a) = cE E h a := by
  unfold cellOf cE
  cases hk : kd a with
  | inl q =>
    obtain ⟨ci, fs⟩ := q
    show Sum.inr (ci, (cFv (fI h a) 0 fs).map (cv E)) = _
    rw [cFv_map]
  | inr q =>
    obtain ⟨t, on⟩ := q
    dsimp only
    by_cases h3 : t < 3
    · rw [if_pos h3, if_pos h3]; rfl
    · rw [if_neg h3, if_neg h3]
      by_cases h4 : t = 3
      · rw [if_pos h4, if_pos h4]; rfl
      · rw [if_neg h4, if_neg h4]; rfl
theorem csOf_len (h : Hp) : (csOf h).length = sz h := by unfold csOf; simp
theorem csOf_at {h : Hp} {a : Nat} (ha : a < sz h) : (csOf h)[a]? = some (cellOf h a) := by
  unfold csOf
  rw [List.getElem?_map, List.getElem?_range ha]
  rfl
theorem wsC_csOf (E : Ex) (h : Hp) : wsC E (csOf h) = wsE E h := by
  apply List.ext_getElem?
  intro k
  by_cases hl : k < sz h
  · rw [ws_at hl, wc_at (csOf_at hl), cC_cellOf]
  · have h1 : (wsE E h)[k]? = none := by simp [wsE]; omega
    have h2 : (wsC E (csOf h))[k]? = none := by simp [wsC, csOf_len]; omega
    rw [h1, h2]
theorem Rc_of {E : Ex} {h : Hp} {H : Heap} (hR : Rl E h H) : Rc E (csOf h) H := by
  obtain ⟨r1, r2, r3, r4⟩ := hR
  exact ⟨by rw [csOf_len]; exact r1, by rw [csOf_len]; exact r3, by rw [wsC_csOf]; exact r4⟩
theorem Rl_of {E : Ex} {h : Hp} {H : Heap} (hz : 110 ≤ sz h) (hR : Rc E (csOf h) H) : Rl E h H := by
  obtain ⟨r1, r3, r4⟩ := hR
  rw [csOf_len] at r1 r3
  rw [wsC_csOf] at r4
  exact ⟨r1, hz, r3, r4⟩
theorem G_of_Gc {X : Xt} {h : Hp} {k n pc : Nat} {lv : List (Nat × Value)} {st : List Value} (hg : 110 ≤ sz h → sz h < 1000000 → Gc X (csOf h) k n pc lv st) : G X h k n pc lv st := by
  obtain ⟨p, l, e, R, s, m, args, below, meth, c, Q, E⟩ := X
  intro H locs ls hR hS hl
  exact hg hR.2.1 hR.2.2.1 H locs ls (Rc_of hR) hS hl
theorem gc_aretQ {X : Xt} {own : String} {cc : ByteArray} {nL : Nat} {D mc ms k n pc a : Nat} {cn : String} {cs : List CC} {h' : Hp} {lv : List (Nat × Value)} (C : Cx X own cc nL (some (.object cn)) D mc ms) (hQ : EndQ X k n (some (.ref a)) h') (hc : cs = csOf h') (hz : 110 ≤ sz h') (hd : decode cc pc = .ok (.areturn, 1)) : Gc X cs k n pc lv [.ref a] := by
  subst hc
  obtain ⟨p, l, e, R, s, m, args, below, meth, c, Q, E⟩ := X
  obtain ⟨hx, hb, hml, hown, hts, hO, hlk, hrt, hfr, hlo, hce, hsl, hbs, -⟩ := C
  intro H locs ls hR hS hl
  have hQ : Q = _ := hQ
  subst hQ
  exact W.aret hx hb hrt (Or.inl ⟨_, rfl⟩) (Or.inr ⟨_, rfl⟩) (fun t ht hw => ⟨rfl, by rw [ht]; exact Rl_of hz hR, hS.F ht⟩) hS.2.2 hd
theorem gc_getI {X : Xt} {own : String} {cc : ByteArray} {nL : Nat} {rt : Option FieldType} {D mc ms : Nat} {cs : List CC} {k n pc : Nat} {lv : List (Nat × Value)} {st : List Value} {idx ci f a : Nat} {vs : List Value} {x : Int32} {ty : FieldType} {fin : Bool} (C : Cx X own cc nL rt D mc ms) (hd : decode cc pc = .ok (.getfield idx, 3)) (hF : FLk own idx ci f ty fin) (ha : cs[a]? = some (.inl (ci, vs))) (hv : vs[f]? = some (.int x)) (next : Gc X cs k n (pc + 3) lv (.int x :: st)) : Gc X cs k n pc lv (.ref a :: st) := by
  obtain ⟨p, l, e, R, s, m, args, below, meth, c, Q, E⟩ := X
  obtain ⟨hx, hb, hml, hown, hts, hO, hlk, hrt, hfr, hlo, hce, hsl, hbs, -⟩ := C
  obtain ⟨cN, T, N, ty0, h1, h2, h3, h4, h5, h6, h7, h8⟩ := hF
  intro H locs ls hR hS hl
  have hw := wc_at (E := E) ha
  rw [List.map_cons, rc_lt hR ha]
  exact va_get hx hb hts h3 hown hO.1 hR.2.2 a hw h1 f h2 (hts _ h6) (fun _ h => h) (v := cv E (.int x)) (by rw [List.getElem?_map, hv]; rfl) hd (next H locs ls hR hS hl)
/-! ===== Arrays.copyOf ===== -/
theorem gc_clone {X : Xt} {cc : ByteArray} {nL : Nat} {rt : Option FieldType} {D mc ms : Nat} {cs : List CC} {k n pc : Nat} {lv : List (Nat × Value)} {a nn : Nat} {f : Nat → Int32} (C : Cx X "java/util/Arrays" cc nL rt D mc ms) (hd : decode cc pc = .ok (.invokevirtual 316, 3)) (hq : arI 0 a cs = some (nn, f)) (hz : cs.length + 1 < 1000000) (hD : 1 ≤ D) (hc : k + 1 ≤ mc ∧ n + nn ≤ ms) (next : Gc X (cs ++ [.inr (0, nn, .inl f)]) (k + 1) (n + nn) (pc + 3) lv [.ref cs.length]) : Gc X cs k n pc lv [.ref a] := by
  obtain ⟨p, l, e, R, s, m, args, below, meth, c, Q, E⟩ := X
  obtain ⟨hx, hb, hml, hown, hts, hO, hlk, hrt, hfr, hlo, hce, hsl, hbs, -⟩ := C
  have ha := arI_eq hq
  intro H locs ls hR hS hl
  simp only [List.map_cons, List.map_nil, rc_lt hR ha]
  have hnm : s.vm.findClass "[I" = some (E.2.1 0) := (hO.1.2 0 _ rfl).2
  obtain ⟨c0, t0', f1, f2, f3⟩ := Cond.castable_spec (va_Nw.use (A := args) rfl hO.2.2.2.2.2.2.2.2.2.2.2.2.2.2.2.2)
  cases hnm.symm.trans f1
  have hw : H[E.2.2.1 + a]? = some (vp_cell (E.2.1 0) (nn, .inl f)) := hR.2.2 a _ (wc_at (E := E) ha)
  intro T hT X0
  have hcellT : T.heap[E.2.2.1 + a]? = some (vp_cell (E.2.1 0) (nn, .inl f)) := by rw [hT]; exact hw
  obtain ⟨-, kA, hkA, comp, hkind⟩ := State.isArrayOf_alike X0.warmed.alike ((hO.1.2 0 _ rfl).1 0 (fun _ => .null))
  obtain ⟨-, kS, hkS, compS, hkindS⟩ := (hO.1.2 0 _ rfl).1 0 (fun _ => .null)
  have hsz : (vp_cell (E.2.1 0) (nn, .inl f)).slots.size = nn := arrV_size _ _ _
  obtain ⟨vm', X', stp⟩ := X0.cloneArray hx hown (hts _ (gm_3 235 rfl rfl)) (hts _ (gm_3 236 rfl rfl)) (hts _ (gm_3 237 rfl rfl)) (hts _ (gm_3 238 rfl rfl)) (hts _ (gm_3 239 rfl rfl)) (a := E.2.2.1 + a) (cell := vp_cell (E.2.1 0) (nn, .inl f)) hcellT (fun k h => by cases h) (fun h => by cases h) hnm f2 f3
    (fun i v hv => by
      have hk' : T.vm.classes[E.2.1 0]? = some kA := hkA
      have hvi : fits .int v = true := by
        by_cases hi : i < nn
        · have h8 := arrV_read (E.2.1 0) (fun j => Value.int (f j)) hi
          rw [show (vp_cell (E.2.1 0) (nn, .inl f)) = arrV (E.2.1 0) nn (fun j => Value.int (f j)) from rfl] at hv
          rw [h8] at hv
          cases hv
          rfl
        · have h8 : (vp_cell (E.2.1 0) (nn, .inl f)).slots[i]? = none := Array.getElem?_eq_none (by rw [hsz]; omega)
          rw [h8] at hv
          cases hv
      show State.fitsSlot _ (E.2.1 0) _ i v = true
      simpa [State.fitsSlot, State.slotType?, hk', hkind] using hvi)
    (g := F0 m pc ls [.ref (E.2.2.1 + a)]) rfl hl.1 rfl (by rw [hb]; exact hd) (by omega) (by show 2 * 0 + 0 + 14 ≤ _; omega) (by omega) (by rw [hsz]; omega) (hloader := Vm.clonesLoader_of_array hkS hkindS)
  rw [show ({ cls := (vp_cell (E.2.1 0) (nn, .inl f)).cls, slots := (vp_cell (E.2.1 0) (nn, .inl f)).slots } : Cell) = vp_cell (E.2.1 0) (nn, .inl f) from rfl, hsz] at X'
  generalize hH1 : H.push (vp_cell (E.2.1 0) (nn, .inl f)) = H1
  have z1 : H1.size = H.size + 1 := by rw [← hH1, Array.size_push]
  have e1 : H1[H.size]? = some (vp_cell (E.2.1 0) (nn, .inl f)) := by rw [← hH1, Array.getElem?_push_size]
  have o1 : ∀ q : Nat, q < H.size → H1[q]? = H[q]? := fun q hq => by rw [← hH1, Array.getElem?_push, if_neg (Nat.ne_of_lt hq)]
  obtain ⟨t, b1, b2⟩ := next H1 locs ls (Rc_push hR hz z1 o1 (by rw [← hR.1]; exact e1)) (va_S_push hS z1 o1) hl ((T.setVm vm').pushCell (vp_cell (E.2.1 0) (nn, .inl f))) (by rw [← hH1, ← hT]; rfl) X'
  refine ⟨t, stp t ?_, b2⟩
  rw [show ({ cls := (vp_cell (E.2.1 0) (nn, .inl f)).cls, slots := (vp_cell (E.2.1 0) (nn, .inl f)).slots } : Cell) = vp_cell (E.2.1 0) (nn, .inl f) from rfl, hT]
  simp only [List.map_cons, List.map_nil, cv_new hR] at b1
  exact b1
theorem gc_cast {X : Xt} {cc : ByteArray} {nL : Nat} {rt : Option FieldType} {D mc ms : Nat} {cs : List CC} {k n pc : Nat} {lv : List (Nat × Value)} {st : List Value} {a nn : Nat} {f : Nat → Int32} (C : Cx X "java/util/Arrays" cc nL rt D mc ms) (hd : decode cc pc = .ok (.checkcast 317, 3)) (hq : arI 0 a cs = some (nn, f)) (next : Gc X cs k n (pc + 3) lv (.ref a :: st)) : Gc X cs k n pc lv (.ref a :: st) := by
  obtain ⟨p, l, e, R, s, m, args, below, meth, c, Q, E⟩ := X
  obtain ⟨hx, hb, hml, hown, hts, hO, hlk, hrt, hfr, hlo, hce, hsl, hbs, -⟩ := C
  have ha := arI_eq hq
  intro H locs ls hR hS hl
  have key := next H locs ls hR hS hl
  rw [List.map_cons, rc_lt hR ha] at key ⊢
  exact va_castA hx hb hown (hts _ (gm_4 1 rfl rfl)) hR.2.2 a (wc_at (E := E) ha) (hO.1.2 0 _ rfl).2 hd key
theorem wc_min (x y : Int32) (cs : List CC) : MetC ⟨"java/lang/Math", "min", "(II)I"⟩ prog_16_method_69_code 2 (some .int) 1 0 0 [.int x, .int y] cs (some (.int (if y < x then y else x))) cs := by
  refine metC_of (by decide +kernel) (Nat.le_of_ble_eq_true rfl) (fun X C _ K => ?_)
  have C : Cx X "java/lang/Math" prog_16_method_69_code 2 (some .int) 1 0 0 := C
  show Gc X cs 0 0 0 [(0, .int x), (1, .int y)] []
  refine gc_iload_n C (dat dt_J9_min_7cf53 0 rfl) 0 rfl ?_
  refine gc_iload_n C (dat dt_J9_min_7cf53 1 rfl) 1 rfl ?_
  refine gc_ic_gt 9 C (dat dt_J9_min_7cf53 2 rfl) (by decide) (fun c => ?_) (fun c => ?_)
  · rw [if_pos c] at K
    refine gc_iload_n C (dat dt_J9_min_7cf53 5 rfl) 1 rfl ?_
    exact gc_iret C K (dat dt_J9_min_7cf53 6 rfl)
  · rw [if_neg c] at K
    refine gc_iload_n C (dat dt_J9_min_7cf53 3 rfl) 0 rfl ?_
    refine gc_goto 10 C (dat dt_J9_min_7cf53 4 rfl) (by decide) ?_
    exact gc_iret C K (dat dt_J9_min_7cf53 6 rfl)
def dl_J7_copyOf : List (Nat × Instr × Nat) := [(0, .iload_n 1, 1), (1, .aload_n 0, 1), (2, .arraylength, 1), (3, .if_icmp .ne 11, 3), (6, .aload_n 0, 1), (7, .invokevirtual 316, 3), (10, .checkcast 317, 3), (13, .areturn, 1), (14, .iload_n 1, 1), (15, .newarray .int, 2), (17, .astore_n 2, 1), (18, .aload_n 0, 1), (19, .iconst 0, 1), (20, .aload_n 2, 1), (21, .iconst 0, 1), (22, .aload_n 0, 1), (23, .arraylength, 1), (24, .iload_n 1, 1), (25, .invokestatic 304, 3), (28, .invokestatic 150, 3), (31, .aload_n 2, 1), (32, .areturn, 1)]
theorem dt_J7_copyOf : ∀ q ∈ dl_J7_copyOf, decode prog_21_method_123_code q.1 = .ok q.2 := by decide +kernel
def cpG (N nn : Nat) (f : Nat → Int32) : Nat → Int32 := if nn = N then f else va_cpy f (fun _ => 0) 0 0 (min N nn)
theorem sl_min : SLk "java/util/Arrays" 304 ⟨"java/lang/Math", "min", "(II)I"⟩ prog_16_method_69_code 2 (some .int) 2 := ⟨gm_4 2 rfl rfl, gm_2 228 rfl rfl, gm_1 14 rfl rfl, gm_2 229 rfl rfl, ⟨by decide, by decide, by decide +kernel⟩, by decide⟩
theorem wc_copyOf (a N nn : Nat) (f : Nat → Int32) (cs : List CC) (hq : arI 0 a cs = some (N, f)) (hN : N ≤ 800) (hnn : nn ≤ 800) (hz : cs.length + 1 < 1000000) : MetC ⟨"java/util/Arrays", "copyOf", "([II)[I"⟩ prog_21_method_123_code 3 (some (.array .int)) 2 1 800 [.ref a, .int (nI nn)] cs (some (.ref cs.length)) (cs ++ [.inr (0, nn, .inl (cpG N nn f))]) := by
  refine metC_of (by decide +kernel) (Nat.le_of_ble_eq_true rfl) (fun X C _ K => ?_)
  have C : Cx X "java/util/Arrays" prog_21_method_123_code 3 (some (.array .int)) 2 1 800 := C
  show Gc X cs 0 0 0 [(0, .ref a), (1, .int (nI nn))] []
  have ha := arI_eq hq
  have hal : a < cs.length := (List.getElem?_eq_some_iff.mp ha).1
  refine gc_iload_n C (dat dt_J7_copyOf 0 rfl) 1 rfl ?_
  refine gc_aload_n C (dat dt_J7_copyOf 1 rfl) 0 rfl ?_
  refine gc_alen (t := 0) C (dat dt_J7_copyOf 2 rfl) (by decide) hq (v := nI N) rfl ?_
  refine gc_ic_ne 14 C (dat dt_J7_copyOf 3 rfl) (by decide) (fun c => ?_) (fun c => ?_)
  · have hne : nn ≠ N := fun e => c (by rw [e])
    refine gc_iload_n C (dat dt_J7_copyOf 8 rfl) 1 rfl ?_
    refine gc_newa (t := 0) (N := nn) C (dat dt_J7_copyOf 9 rfl) rfl rfl ac_int (nI_pos (by omega)) (nI_clamp (by omega)) (by show nn * 4 ≤ 536870912; omega) (show nwA 0 nn cs = some (cs ++ [.inr (0, nn, zr 0)]) by unfold nwA; rw [if_pos hz]) ⟨by decide, by omega⟩ ?_
    refine gc_astore_n (lv' := [(0, .ref a), (1, .int (nI nn)), (2, .ref cs.length)]) C (dat dt_J7_copyOf 10 rfl) (by decide) rfl ?_
    refine gc_aload_n C (dat dt_J7_copyOf 11 rfl) 0 rfl ?_
    refine gc_iconst C (dat dt_J7_copyOf 12 rfl) ic_0 ?_
    refine gc_aload_n C (dat dt_J7_copyOf 13 rfl) 2 rfl ?_
    refine gc_iconst C (dat dt_J7_copyOf 14 rfl) ic_0 ?_
    refine gc_aload_n C (dat dt_J7_copyOf 15 rfl) 0 rfl ?_
    have h1 : (cs ++ [(.inr (0, nn, zr 0) : CC)])[a]? = some (.inr (0, N, .inl f)) := by rw [List.getElem?_append_left hal]; exact ha
    have h2 : (cs ++ [(.inr (0, nn, zr 0) : CC)])[cs.length]? = some (.inr (0, nn, .inl (fun _ => 0))) := by rw [List.getElem?_append_right (Nat.le_refl _), Nat.sub_self]; rfl
    have g1 : arI 0 a (cs ++ [.inr (0, nn, zr 0)]) = some (N, f) := by unfold arI; rw [h1]; rfl
    have g2 : arI 0 cs.length (cs ++ [.inr (0, nn, zr 0)]) = some (nn, fun _ => 0) := by unfold arI; rw [h2]; rfl
    refine gc_alen (t := 0) C (dat dt_J7_copyOf 16 rfl) (by decide) g1 (v := nI N) rfl ?_
    refine gc_iload_n C (dat dt_J7_copyOf 17 rfl) 1 rfl ?_
    refine gc_callS (As := [.int (nI N), .int (nI nn)]) (rest := [.int 0, .ref cs.length, .int 0, .ref a]) C (dat dt_J7_copyOf 18 rfl) sl_min (wc_min (nI N) (nI nn) _) rfl rfl (Nat.le_of_ble_eq_true rfl) (by decide) ⟨by decide, by omega⟩ ?_
    have e5 : (if nI nn < nI N then nI nn else nI N) = nI (min N nn) := by
      by_cases hlt : nn < N
      · rw [if_pos (nI_lt hlt (by omega)), show min N nn = nn by omega]
      · rw [if_neg (nI_nlt (by omega) (by omega)), show min N nn = N by omega]
    rw [e5]
    refine gc_acopy (s0 := 0) (d0 := 0) (n0 := min N nn) C (dat dt_J7_copyOf 19 rfl) (gm_4 3 rfl rfl) (by decide) (by decide) (nI_pos (by omega)) (by decide) (by decide) (nI_clamp (by omega)) (show cpC a 0 cs.length 0 (min N nn) (cs ++ [(.inr (0, nn, zr 0) : CC)]) = some ((cs ++ [(.inr (0, nn, zr 0) : CC)]).set cs.length (.inr (0, nn, .inl (va_cpy f (fun _ => 0) 0 0 (min N nn))))) by unfold cpC; rw [g1, g2]; show (if _ then _ else _) = _; rw [if_pos ⟨by omega, by omega⟩]) (by decide) ?_
    have e6 : (cs ++ [(.inr (0, nn, zr 0) : CC)]).set cs.length (.inr (0, nn, .inl (va_cpy f (fun _ => 0) 0 0 (min N nn)))) = cs ++ [.inr (0, nn, .inl (cpG N nn f))] := by
      rw [List.set_append_right _ _ (Nat.le_refl _), Nat.sub_self]
      unfold cpG
      rw [if_neg hne]
      rfl
    rw [e6]
    refine gc_aload_n C (dat dt_J7_copyOf 20 rfl) 2 rfl ?_
    refine gc_widen (k' := 1) (n' := 800) (by decide) (by omega) ?_
    exact gc_aret C ⟨_, rfl, Or.inr ⟨_, rfl⟩⟩ K (dat dt_J7_copyOf 21 rfl)
  · have hnN : nn = N := (nI_eq (by omega) (by omega)).mp c
    subst hnN
    refine gc_aload_n C (dat dt_J7_copyOf 4 rfl) 0 rfl ?_
    refine gc_clone C (dat dt_J7_copyOf 5 rfl) hq hz (by decide) ⟨by decide, by omega⟩ ?_
    have h2 : (cs ++ [(.inr (0, nn, .inl f) : CC)])[cs.length]? = some (.inr (0, nn, .inl f)) := by rw [List.getElem?_append_right (Nat.le_refl _), Nat.sub_self]; rfl
    refine gc_cast C (dat dt_J7_copyOf 6 rfl) (show arI 0 cs.length _ = some (nn, f) by unfold arI; rw [h2]; rfl) ?_
    have e7 : cpG nn nn f = f := by unfold cpG; rw [if_pos rfl]
    rw [e7] at K
    refine gc_widen (k' := 1) (n' := 800) (by decide) (by omega) ?_
    exact gc_aret C ⟨_, rfl, Or.inr ⟨_, rfl⟩⟩ K (dat dt_J7_copyOf 7 rfl)
/-! ===== a text is made ===== -/
def mkT (h : Hp) (nc : Nat) (fC : Nat → Int32) (nm : Nat) (fM : Nat → Int32) (cl kb : Int32) : Hp :=
  (fun a k => if a = sz h then (if k = 2 then cl else if k = 3 then kb else 0) else h.1 a k,
   fun a i => if a = sz h + 1 then fC i else if a = sz h + 2 then fM i else h.2.1 a i,
   h.2.2.1, h.2.2.2.1,
   fun a => if a = sz h + 1 then nc else if a = sz h + 2 then nm else h.2.2.2.2.1 a,
   sz h + 3)
def rdT (h : Hp) (c : Int32) : Option (Option Nat × Hp) :=
  if 0 ≤ fI h 4 8 * 2 ∧ 0 ≤ (c + 1) * 6 ∧ (fI h 4 8 * 2).toNatClampNeg ≤ 800 ∧ ((c + 1) * 6).toNatClampNeg ≤ 72 ∧ (sz h - 110) % 3 = 0 ∧ sz h + 3 < 1000000 ∧ 110 ≤ sz h then
    (lp (tb_b (cpG 72 ((c + 1) * 6).toNatClampNeg (aI h 9)) ((c + 1) * 6).toNatClampNeg) FU ((0 : Int32), (0 : Int32))).bind fun kb =>
    some (some (sz h), mkT h (fI h 4 8 * 2).toNatClampNeg (cpG 800 (fI h 4 8 * 2).toNatClampNeg (aI h 8)) ((c + 1) * 6).toNatClampNeg (cpG 72 ((c + 1) * 6).toNatClampNeg (aI h 9)) (c + 1) kb)
  else none
theorem cellOf_mkT {h : Hp} {nc nm : Nat} {fC fM : Nat → Int32} {cl kb : Int32} {a : Nat} (ha : a < sz h) : cellOf (mkT h nc fC nm fM cl kb) a = cellOf h a := by
  have e1 : fI (mkT h nc fC nm fM cl kb) a = fI h a := by
    funext k
    show (if a = sz h then _ else h.1 a k) = h.1 a k
    rw [if_neg (by omega)]
  have e2 : aI (mkT h nc fC nm fM cl kb) a = aI h a := by
    funext k
    show (if a = sz h + 1 then _ else if a = sz h + 2 then _ else h.2.1 a k) = h.2.1 a k
    rw [if_neg (by omega), if_neg (by omega)]
  have e3 : ln (mkT h nc fC nm fM cl kb) a = ln h a := by
    show (if a = sz h + 1 then _ else if a = sz h + 2 then _ else h.2.2.2.2.1 a) = h.2.2.2.2.1 a
    rw [if_neg (by omega), if_neg (by omega)]
  unfold cellOf
  rw [e1, e2, e3]
  rfl
theorem csOf_mkT {h : Hp} {nc nm : Nat} {fC fM : Nat → Int32} {cl kb : Int32} (h1 : 110 ≤ sz h) (h2 : (sz h - 110) % 3 = 0) : csOf (mkT h nc fC nm fM cl kb) = csOf h ++ [.inl (9, [.ref (sz h + 1), .ref (sz h + 2), .int cl, .int kb]), .inr (0, nc, .inl fC), .inr (0, nm, .inl fM)] := by
  have k0 : kd (sz h) = .inl (9, [some (sz h + 1), some (sz h + 2), none, none]) := by unfold kd; rw [if_neg (by omega), if_pos h2]
  have k1 : kd (sz h + 1) = .inr (0, none) := by unfold kd; rw [if_neg (by omega), if_neg (by omega)]
  have k2 : kd (sz h + 2) = .inr (0, none) := by unfold kd; rw [if_neg (by omega), if_neg (by omega)]
  unfold csOf
  show (List.range (sz h + 3)).map _ = _
  rw [show sz h + 3 = sz h + 1 + 1 + 1 from rfl, List.range_succ, List.range_succ, List.range_succ]
  simp only [List.map_append, List.map_cons, List.map_nil, List.append_assoc, List.cons_append, List.nil_append]
  congr 1
  · apply List.map_congr_left
    intro a ha
    exact cellOf_mkT (List.mem_range.mp ha)
  · congr 1
    · unfold cellOf
      rw [k0]
      simp [cFv, fI, mkT]
    · congr 1
      · have e4 : aI (mkT h nc fC nm fM cl kb) (sz h + 1) = fC := by funext i; simp [aI, mkT]
        unfold cellOf
        rw [k1, e4]
        simp [ln, mkT]
      · congr 1
        have e4 : aI (mkT h nc fC nm fM cl kb) (sz h + 2) = fM := by funext i; simp [aI, mkT]
        unfold cellOf
        rw [k2, e4]
        simp [ln, mkT]
def dl_X5_rd : List (Nat × Instr × Nat) := [(96, .new 26, 3), (99, .dup, 1), (100, .aload_n 0, 1), (101, .getfield 23, 3), (104, .aload_n 0, 1), (105, .getfield 39, 3), (108, .iconst 2, 1), (109, .imul, 1), (110, .invokestatic 74, 3), (113, .aload_n 0, 1), (114, .getfield 28, 3), (117, .iload 4, 2), (119, .iconst 1, 1), (120, .iadd, 1), (121, .bipush 6, 2), (123, .imul, 1), (124, .invokestatic 74, 3), (127, .iload 4, 2), (129, .iconst 1, 1), (130, .iadd, 1), (131, .invokespecial 80, 3), (134, .areturn, 1)]
theorem dt_X5_rd : ∀ q ∈ dl_X5_rd, decode prog_7_method_2_code q.1 = .ok q.2 := by decide +kernel
theorem no_5_26 : NOk cn_5 26 9 4 := ⟨cn_9, ft_9, fy_9, rfl, in_9, fo_9, gm_3 231 rfl rfl, gm_1 138 rfl rfl, gm_1 6 rfl rfl, fun j hj E => (dv_9 j hj).trans (congrArg (fun z => vp_V z j) (show dfl 9 = (dfl 9).map (cv E) from rfl))⟩
theorem il_5_80 : ILk cn_5 80 ⟨"SteamNations$Text", "<init>", "([I[II)V"⟩ prog_11_method_1_code 6 3 := ⟨Or.inl (gm_4 4 rfl rfl), gm_1 140 rfl rfl, gm_1 6 rfl rfl, gm_1 141 rfl rfl, ⟨by decide, by decide, by decide +kernel⟩, by decide, rfl⟩
theorem sl_copyOf : SLk cn_5 74 ⟨"java/util/Arrays", "copyOf", "([II)[I"⟩ prog_21_method_123_code 3 (some (.array .int)) 2 := ⟨gm_3 232 rfl rfl, gm_3 233 rfl rfl, gm_1 19 rfl rfl, gm_3 234 rfl rfl, ⟨by decide, by decide, by decide +kernel⟩, by decide⟩
theorem pF_at {ci f a : Nat} {v : Value} {cs : List CC} {vs : List Value} (ha : cs[a]? = some (.inl (ci, vs))) (hf : f < vs.length) : pF ci f v a cs = some (cs.set a (.inl (ci, vs.set f v))) := by
  unfold pF
  rw [ha]
  show (if _ then _ else _) = _
  rw [if_pos ⟨rfl, hf⟩]
theorem w_rdT {X : Xt} {D : Nat} (hD : 3 ≤ D) (C : Cx X cn_5 prog_7_method_2_code 6 (some (.object "SteamNations$Text")) D 3 1604) (h : Hp) (x4 : Int32) (q : Option Nat × Hp) (hrun : rdT h x4 = some q) (K : EndQ X 3 1604 (some (vo q.1)) q.2) : G X h 0 0 96 [(0, .ref 4), (4, .int x4)] [] := by
  unfold rdT at hrun
  by_cases hc : 0 ≤ fI h 4 8 * 2 ∧ 0 ≤ (x4 + 1) * 6 ∧ (fI h 4 8 * 2).toNatClampNeg ≤ 800 ∧ ((x4 + 1) * 6).toNatClampNeg ≤ 72 ∧ (sz h - 110) % 3 = 0 ∧ sz h + 3 < 1000000 ∧ 110 ≤ sz h
  · rw [if_pos hc] at hrun
    obtain ⟨c1, c2, c3, c4, c5, c6, c7⟩ := hc
    obtain ⟨j1, hj1, e1⟩ := nI_of (Int32.not_lt.mpr c1)
    obtain ⟨j2, hj2, e2⟩ := nI_of (Int32.not_lt.mpr c2)
    rw [e1] at c3 hrun
    rw [e2] at c4 hrun
    rw [nI_clamp hj1] at c3 hrun
    rw [nI_clamp hj2] at c4 hrun
    obtain ⟨kb, e3, hrun⟩ := bd hrun
    cases hrun
    refine G_of_Gc (fun _ _ => ?_)
    have hl0 : (csOf h).length = sz h := csOf_len h
    have cell4 : cellOf h 4 = .inl (5, [.ref 5, .ref 6, .ref 7, .ref 8, .ref 9, .int (fI h 4 5), .int (fI h 4 6), .int (fI h 4 7), .int (fI h 4 8), .int (fI h 4 9), .int (fI h 4 10)]) := rfl
    have cell8 : cellOf h 8 = .inr (0, 800, .inl (aI h 8)) := rfl
    have cell9 : cellOf h 9 = .inr (0, 72, .inl (aI h 9)) := rfl
    refine gc_new C (dat dt_X5_rd 0 rfl) no_5_26 (show nwO 9 (csOf h) = some (csOf h ++ [.inl (9, dfl 9)]) by unfold nwO; rw [if_pos (by omega)]) ⟨by decide, by decide⟩ ?_
    rw [hl0]
    have at1 : ∀ a, a < sz h → (csOf h ++ [(.inl (9, dfl 9) : CC)])[a]? = some (cellOf h a) := fun a ha => by rw [List.getElem?_append_left (by omega)]; exact csOf_at ha
    refine gc_dup C (dat dt_X5_rd 1 rfl) rfl ?_
    refine gc_aload_n C (dat dt_X5_rd 2 rfl) 0 rfl ?_
    refine gc_getR (b := 8) C (dat dt_X5_rd 3 rfl) fl_5_23 (by unfold gR; rw [at1 4 (by omega), cell4]; rfl) ?_
    refine gc_aload_n C (dat dt_X5_rd 4 rfl) 0 rfl ?_
    refine gc_getI C (dat dt_X5_rd 5 rfl) fl_5_39 (by rw [at1 4 (by omega), cell4]) rfl ?_
    refine gc_iconst C (dat dt_X5_rd 6 rfl) ic_2 ?_
    refine gc_imul C (dat dt_X5_rd 7 rfl) ?_
    rw [e1]
    have hl1 : (csOf h ++ [(.inl (9, dfl 9) : CC)]).length = sz h + 1 := by rw [List.length_append, hl0]; rfl
    refine gc_callS (As := [.ref 8, .int (nI j1)]) (rest := [.ref (sz h), .ref (sz h)]) C (dat dt_X5_rd 8 rfl) sl_copyOf (wc_copyOf 8 800 j1 (aI h 8) _ (by unfold arI; rw [at1 8 (by omega), cell8]; rfl) (by decide) c3 (by omega)) rfl rfl (Nat.le_of_ble_eq_true rfl) hD ⟨by decide, by decide⟩ ?_
    rw [hl1, List.append_assoc]
    show Gc X (csOf h ++ [.inl (9, dfl 9), .inr (0, j1, .inl (cpG 800 j1 (aI h 8)))]) 2 804 113 [(0, .ref 4), (4, .int x4)] [.ref (sz h + 1), .ref (sz h), .ref (sz h)]
    have at2 : ∀ a, a < sz h → (csOf h ++ [(.inl (9, dfl 9) : CC), .inr (0, j1, .inl (cpG 800 j1 (aI h 8)))])[a]? = some (cellOf h a) := fun a ha => by rw [List.getElem?_append_left (by omega)]; exact csOf_at ha
    refine gc_aload_n C (dat dt_X5_rd 9 rfl) 0 rfl ?_
    refine gc_getR (b := 9) C (dat dt_X5_rd 10 rfl) fl_5_28 (by unfold gR; rw [at2 4 (by omega), cell4]; rfl) ?_
    refine gc_iload C (dat dt_X5_rd 11 rfl) 1 rfl ?_
    refine gc_iconst C (dat dt_X5_rd 12 rfl) ic_1 ?_
    refine gc_iadd C (dat dt_X5_rd 13 rfl) ?_
    refine gc_bipush C (dat dt_X5_rd 14 rfl) bp_6 ?_
    refine gc_imul C (dat dt_X5_rd 15 rfl) ?_
    rw [e2]
    have hl2 : (csOf h ++ [(.inl (9, dfl 9) : CC), .inr (0, j1, .inl (cpG 800 j1 (aI h 8)))]).length = sz h + 2 := by rw [List.length_append, hl0]; rfl
    refine gc_callS (As := [.ref 9, .int (nI j2)]) (rest := [.ref (sz h + 1), .ref (sz h), .ref (sz h)]) C (dat dt_X5_rd 16 rfl) sl_copyOf (wc_copyOf 9 72 j2 (aI h 9) _ (by unfold arI; rw [at2 9 (by omega), cell9]; rfl) (by decide) (by omega) (by omega)) rfl rfl (Nat.le_of_ble_eq_true rfl) hD ⟨by decide, by decide⟩ ?_
    rw [hl2, List.append_assoc]
    show Gc X (csOf h ++ [.inl (9, dfl 9), .inr (0, j1, .inl (cpG 800 j1 (aI h 8))), .inr (0, j2, .inl (cpG 72 j2 (aI h 9)))]) 3 1604 127 [(0, .ref 4), (4, .int x4)] [.ref (sz h + 2), .ref (sz h + 1), .ref (sz h), .ref (sz h)]
    refine gc_iload C (dat dt_X5_rd 17 rfl) 1 rfl ?_
    refine gc_iconst C (dat dt_X5_rd 18 rfl) ic_1 ?_
    refine gc_iadd C (dat dt_X5_rd 19 rfl) ?_
    have st0 : ∀ (u v : CC) (w : List CC), (csOf h ++ u :: w).set (sz h) v = csOf h ++ v :: w := fun u v w => by rw [List.set_append_right _ _ (by omega), show sz h - (csOf h).length = 0 by omega]; rfl
    have at0 : ∀ (u : CC) (w : List CC), (csOf h ++ u :: w)[sz h]? = some u := fun u w => by rw [List.getElem?_append_right (by omega), show sz h - (csOf h).length = 0 by omega]; rfl
    have hi9 : i_X9 (sz h) (sz h + 1) (sz h + 2) (x4 + 1) (csOf h ++ [.inl (9, dfl 9), .inr (0, j1, .inl (cpG 800 j1 (aI h 8))), .inr (0, j2, .inl (cpG 72 j2 (aI h 9)))]) = some (csOf h ++ [.inl (9, [.ref (sz h + 1), .ref (sz h + 2), .int (x4 + 1), .int kb]), .inr (0, j1, .inl (cpG 800 j1 (aI h 8))), .inr (0, j2, .inl (cpG 72 j2 (aI h 9)))]) := by
      unfold i_X9
      rw [pF_at (at0 _ _) (Nat.le_of_ble_eq_true rfl), st0]
      show Option.bind (some _) _ = _
      rw [Option.bind_some, pF_at (at0 _ _) (Nat.le_of_ble_eq_true rfl), st0, Option.bind_some, pF_at (at0 _ _) (Nat.le_of_ble_eq_true rfl), st0, Option.bind_some]
      have g3 : ∀ u : CC, arI 0 (sz h + 2) (csOf h ++ [u, .inr (0, j1, .inl (cpG 800 j1 (aI h 8))), .inr (0, j2, .inl (cpG 72 j2 (aI h 9)))]) = some (j2, cpG 72 j2 (aI h 9)) := by
        intro u
        have h9 : (csOf h ++ [u, (.inr (0, j1, .inl (cpG 800 j1 (aI h 8))) : CC), .inr (0, j2, .inl (cpG 72 j2 (aI h 9)))])[sz h + 2]? = some (.inr (0, j2, .inl (cpG 72 j2 (aI h 9)))) := by
          rw [List.getElem?_append_right (by omega), show sz h + 2 - (csOf h).length = 2 by omega]; rfl
        unfold arI
        rw [h9]
        rfl
      rw [g3, Option.bind_some]
      show (lp (tb_b (cpG 72 j2 (aI h 9)) j2) FU ((0 : Int32), (0 : Int32))).bind _ = _
      rw [e3, Option.bind_some, pF_at (at0 _ _) (Nat.le_of_ble_eq_true rfl), st0, Option.bind_some]
      rfl
    refine gc_callI (As := [.ref (sz h + 1), .ref (sz h + 2), .int (x4 + 1)]) (rest := [.ref (sz h)]) C (dat dt_X5_rd 20 rfl) il_5_80 (wi_X9 _ _ _ _ _ _ hi9) (at0 _ _) rfl rfl (Nat.le_of_ble_eq_true rfl) (by omega) ⟨by decide, by decide⟩ ?_
    exact gc_aretQ C K (csOf_mkT c7 c5).symm (show 110 ≤ sz h + 3 by omega) (dat dt_X5_rd 21 rfl)
  · rw [if_neg hc] at hrun
    cases hrun
