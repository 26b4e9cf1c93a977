section GH
variable {X : Xt} {own : String} {cc : ByteArray} {nL : Nat} {rt : Option FieldType} {D mc ms : Nat} {h : Hp} {k n pc : Nat} {lv : List (Nat × Value)} {st : List Value}
/-- a link to field f of class number ci: its type, whether it is final -/
def FLk (own : String) (idx ci f : Nat) (ty : FieldType) (fin : Bool) : Prop := ∃ (C : String) (T : u_T) (N : Nat) (ty0 : Nat → FieldType), cls[ci]? = some (C, T, N) ∧ f < N ∧ (∀ w ∈ u_ws C T N, w ∈ gw) ∧ (∀ k, k < N → parseFieldDescriptor (T k).2.2.1 = some (ty0 k)) ∧ (∀ a, a < N → ∀ b, b < N → a ≠ b → (T a).2.1 ≠ (T b).2.1) ∧ Cond.fieldLink own idx (T f).1 (T f).2.1 (T f).2.2.1 ∈ gw ∧ ty0 f = ty ∧ (T f).2.2.2 = fin
theorem sz_of {E : Ex} {H : Heap} {a : Nat} (hR : Rl E h H) (ha : a < 110 ∨ a < sz h) : a < sz h := by
  obtain ⟨-, h1, -, -⟩ := hR
  rcases ha with ha | ha
  · omega
  · exact ha
theorem cE_o {E : Ex} {a ci : Nat} {fs : List (Option Nat)} (hk : kd a = .inl (ci, fs)) : cE E h a = .inr (ci, cF E (fI h a) 0 fs) := by unfold cE; rw [hk]
theorem cE_i {E : Ex} {a t : Nat} {on : Option Nat} (hk : kd a = .inr (t, on)) (ht : t < 3) : cE E h a = .inl (E.2.1 t, on.getD (ln h a), .inl (aI h a)) := by unfold cE; rw [hk]; simp only [if_pos ht]
theorem cE_l {E : Ex} {a : Nat} {on : Option Nat} (hk : kd a = .inr (3, on)) : cE E h a = .inl (E.2.1 3, on.getD (ln h a), .inr (.inl (aL h a))) := by unfold cE; rw [hk]; rfl
theorem cE_r {E : Ex} {a t : Nat} {on : Option Nat} (hk : kd a = .inr (t, on)) (ht : 3 < t) : cE E h a = .inl (E.2.1 t, on.getD (ln h a), .inr (.inr (.inr (.inr (fun i => (aO h a i).map (ra E)))))) := by
  unfold cE; rw [hk]; simp only [if_neg (show ¬ t < 3 by omega), if_neg (show ¬ t = 3 by omega)]
theorem g_getI {idx ci f a : Nat} {fs : List (Option Nat)} {ty : FieldType} {fin : Bool} (C : Cx X own cc nL rt D mc ms) (hd : decode cc pc = .ok (.getfield idx, 3)) (hF : FLk own idx ci f ty fin) (hk : kd a = .inl (ci, fs)) (hf : fs[f]? = some none) (ha : a < 110 ∨ a < sz h) (next : G X h k n (pc + 3) lv (.int (fI h a f) :: st)) : G X h k n pc lv (.ref a :: st) := by
  obtain ⟨p, l, e, R, s, m, args, below, meth, c, Q, E⟩ := X
  obtain ⟨hx, hb, hml, hown, hts, hO, hlk, hrt, hfr, hlo, hce, hsl, hbs, -⟩ := C
  obtain ⟨cN, T, N, ty0, h1, h2, h3, h4, h5, h6, h7, h8⟩ := hF
  intro H locs ls hR hS hl
  have ha := sz_of hR ha
  have hz := hR.2.2.1
  have hq := ws_at (E := E) ha
  rw [cE_o hk] at hq
  have hv := (cF_get (E := E) (g := fI h a) fs 0 f).1 hf
  rw [Nat.zero_add] at hv
  have e1 : cv E (.ref a) = .ref (E.2.2.1 + a) := by show Value.ref (ra E a) = _; rw [ra_lt ha hz]
  rw [List.map_cons, e1]
  exact va_get hx hb hts h3 hown hO.1 hR.2.2.2 a hq h1 f h2 (hts _ h6) (fun _ h => h) hv hd (next H locs ls hR hS hl)
theorem g_getR {idx ci f a b : Nat} {fs : List (Option Nat)} {ty : FieldType} {fin : Bool} (C : Cx X own cc nL rt D mc ms) (hd : decode cc pc = .ok (.getfield idx, 3)) (hF : FLk own idx ci f ty fin) (hk : kd a = .inl (ci, fs)) (hf : fs[f]? = some (some b)) (ha : a < 110 ∨ a < sz h) (next : G X h k n (pc + 3) lv (.ref b :: st)) : G X h k n pc lv (.ref a :: st) := by
  obtain ⟨p, l, e, R, s, m, args, below, meth, c, Q, E⟩ := X
  obtain ⟨hx, hb, hml, hown, hts, hO, hlk, hrt, hfr, hlo, hce, hsl, hbs, -⟩ := C
  obtain ⟨cN, T, N, ty0, h1, h2, h3, h4, h5, h6, h7, h8⟩ := hF
  intro H locs ls hR hS hl
  have ha := sz_of hR ha
  have hz := hR.2.2.1
  have hq := ws_at (E := E) ha
  rw [cE_o hk] at hq
  have hv := (cF_get (E := E) (g := fI h a) fs 0 f).2 b hf
  have e1 : cv E (.ref a) = .ref (E.2.2.1 + a) := by show Value.ref (ra E a) = _; rw [ra_lt ha hz]
  rw [List.map_cons, e1]
  exact va_get hx hb hts h3 hown hO.1 hR.2.2.2 a hq h1 f h2 (hts _ h6) (fun _ h => h) hv hd (next H locs ls hR hS hl)
/-- a cell of the world changed in its place -/
theorem Rl_put {E : Ex} {H H1 : Heap} {h' : Hp} {a : Nat} (hR : Rl E h H) (ha : a < sz h) (hz : sz h' = sz h) (hs : H1.size = H.size) (hne : ∀ b, b ≠ a → cE E h' b = cE E h b) (oq : ∀ q : Nat, q ≠ E.2.2.1 + a → H1[q]? = H[q]?) (he : va_at E.1 cls (E.2.2.1 + a, cE E h' a) H1) : Rl E h' H1 := by
  obtain ⟨r1, r2, r3, r4⟩ := hR
  refine ⟨by rw [hs, hz]; exact r1, by omega, by omega, ?_⟩
  have hP := r4.set (ws_D E h) (ws_at ha) he oq
  rw [ws_set hz rfl hne] at hP
  exact hP
theorem cE_sF {E : Ex} {a f : Nat} {x : Int32} : ∀ b, b ≠ a → cE E (sF h a f x) b = cE E h b := by
  intro b hb
  have e2 : fI (sF h a f x) b = fI h b := by
    funext j
    show up2 h.1 a f x b j = h.1 b j
    simp only [up2, if_neg hb]
  unfold cE
  rw [e2]
  rfl
theorem fI_sF {a f : Nat} {x : Int32} : fI (sF h a f x) a = upd (fI h a) f x := by
  funext j
  show up2 h.1 a f x a j = upd (fI h a) f x j
  simp only [up2, upd, if_true]
  rfl
theorem aI_sA {a i : Nat} {x : Int32} : aI (sA h a i x) a = upd (aI h a) i x := by
  funext j
  show up2 h.2.1 a i x a j = upd (aI h a) i x j
  simp only [up2, upd, if_true]
  rfl
theorem aL_sL {a i : Nat} {x : Int64} : aL (sL h a i x) a = vp_updL (aL h a) i x := by
  funext j
  show up2 h.2.2.1 a i x a j = vp_updL (aL h a) i x j
  simp only [up2, vp_updL, if_true]
  rfl
theorem aO_sO {a i : Nat} {x : Option Nat} : aO (sO h a i x) a = va_up (aO h a) i x := by
  funext j
  show up2 h.2.2.2.1 a i x a j = va_up (aO h a) i x j
  simp only [up2, va_up, if_true]
  rfl
theorem cE_sA {E : Ex} {a i : Nat} {x : Int32} : ∀ b, b ≠ a → cE E (sA h a i x) b = cE E h b := by
  intro b hb
  have e2 : aI (sA h a i x) b = aI h b := by
    funext j
    show up2 h.2.1 a i x b j = h.2.1 b j
    simp only [up2, if_neg hb]
  unfold cE
  rw [e2]
  rfl
theorem cE_sL {E : Ex} {a i : Nat} {x : Int64} : ∀ b, b ≠ a → cE E (sL h a i x) b = cE E h b := by
  intro b hb
  have e2 : aL (sL h a i x) b = aL h b := by
    funext j
    show up2 h.2.2.1 a i x b j = h.2.2.1 b j
    simp only [up2, if_neg hb]
  unfold cE
  rw [e2]
  rfl
theorem cE_sO {E : Ex} {a i : Nat} {x : Option Nat} : ∀ b, b ≠ a → cE E (sO h a i x) b = cE E h b := by
  intro b hb
  have e2 : aO (sO h a i x) b = aO h b := by
    funext j
    show up2 h.2.2.2.1 a i x b j = h.2.2.2.1 b j
    simp only [up2, if_neg hb]
  unfold cE
  rw [e2]
  rfl
theorem cv_ref {E : Ex} {H : Heap} {a : Nat} (hR : Rl E h H) (ha : a < sz h) : cv E (.ref a) = .ref (E.2.2.1 + a) := by show Value.ref (ra E a) = _; rw [ra_lt ha hR.2.2.1]
theorem g_putI {idx ci f a : Nat} {fs : List (Option Nat)} {ty : FieldType} {x : Int32} (C : Cx X own cc nL rt D mc ms) (hd : decode cc pc = .ok (.putfield idx, 3)) (hF : FLk own idx ci f ty false) (hn : narrow ty (.int x) = .int x) (ht : fits ty (.int x) = true) (hk : kd a = .inl (ci, fs)) (hf : fs[f]? = some none) (ha : a < 110 ∨ a < sz h) (next : G X (sF h a f x) k n (pc + 3) lv st) : G X h k n pc lv (.int x :: .ref a :: st) := by
  obtain ⟨p, l, e, R, s, m, args, below, meth, c, Q, E⟩ := X
  obtain ⟨hx, hb, hml, hown, hts, hO, hlk, hrt, hfr, hlo, hce, hsl, hbs, -⟩ := C
  obtain ⟨cN, T, N, ty0, h1, h2, h3, h4, h5, h6, h7, h8⟩ := hF
  intro H locs ls hR hS hl
  have ha := sz_of hR ha
  have hq := ws_at (E := E) ha
  rw [cE_o hk] at hq
  rw [List.map_cons, List.map_cons, cv_ref hR ha]
  have hd7 : parseFieldDescriptor (T f).2.2.1 = some ty := by rw [h4 f h2, h7]
  have hlen : f < (cF E (fI h a) 0 fs).length := by rw [cF_len]; exact (List.getElem?_eq_some_iff.mp hf).1
  have hap := va_apart (own := own) hts h3 ty0 h4 h5 hO.1 h1
  obtain ⟨r, g1, cell, q1, q2, q3, q4⟩ := hR.2.2.2 a _ hq
  have hr : r = (cN, T, N) := Option.some.inj (g1.symm.trans h1)
  subst hr
  obtain ⟨hSl, hfc, kC, hkC, hkind⟩ := hO.1.1 ci _ h1
  obtain ⟨cf, kf, fi, fd, hi, hsl2⟩ := hSl f h2
  have hlay := hts _ (h3 _ (u_in_lay h2))
  unfold u_lay at hlay
  rw [if_neg (by rw [h8]; decide)] at hlay
  have hst := (u_facts hfc hkC (u_lays hts h3 h2) hi).1
  have h6' := u_store hfc hkC hkind hlay hi hd7 hn ht
  refine W.putK hx hb (f := fd) ⟨hown, hts _ h6, ⟨_, _, _, hi⟩, hst⟩ (by rw [q2]; exact h6') q1 q3 (by rw [hsl2]; exact k2_hasslot (q4 f h2)) rfl rfl hd fun H' e1 e2 e3 => ?_
  rw [hsl2] at e1
  refine next H' _ ls (Rl_put hR ha rfl e2 cE_sF e3 ?_) (hS.put e2 e3 (Nat.le_add_right _ _)) hl
  rw [cE_o hk, fI_sF]
  have e4 := cF_set (E := E) (g := fI h a) (x := x) fs 0 f hf
  rw [Nat.zero_add] at e4
  rw [← e4]
  exact ⟨_, h1, t_OB.to (V := updV (vp_V (cF E (fI h a) 0 fs)) f (.int x)) ⟨_, e1, q2, q3, t_set q4 hap h2 (.int x)⟩ (fun j _ => vp_updV_set hlen (.int x) j)⟩
theorem ty_at {E : Ex} (t : Nat) {ty : FieldType} (h : [FieldType.int, .byte, .boolean, .long, .object "SteamNations$Text", .object "SteamNations$House"][t]? = some ty) : (tys E)[t]? = some (E.2.1 t, ty) := by
  match t, h with
  | 0, h => cases h; rfl
  | 1, h => cases h; rfl
  | 2, h => cases h; rfl
  | 3, h => cases h; rfl
  | 4, h => cases h; rfl
  | 5, h => cases h; rfl
  | t + 6, h => simp at h
/-- the length of an array cell -/
def alen (h : Hp) (a : Nat) (on : Option Nat) : Nat := on.getD (ln h a)
theorem g_alen {a t : Nat} {on : Option Nat} {v : Int32} (C : Cx X own cc nL rt D mc ms) (hd : decode cc pc = .ok (.arraylength, 1)) (hk : kd a = .inr (t, on)) (ht : t < 6) (ha : a < 110 ∨ a < sz h) (hv : Int32.ofNat (alen h a on) = v) (next : G X h k n (pc + 1) lv (.int v :: st)) : G X h k n pc lv (.ref a :: st) := by
  obtain ⟨p, l, e, R, s, m, args, below, meth, c, Q, E⟩ := X
  obtain ⟨hx, hb, hml, hown, hts, hO, hlk, hrt, hfr, hlo, hce, hsl, hbs, -⟩ := C
  intro H locs ls hR hS hl
  have ha := sz_of hR ha
  have hq := ws_at (E := E) ha
  rw [List.map_cons, cv_ref hR ha]
  obtain ⟨ty, hty⟩ : ∃ ty, [FieldType.int, .byte, .boolean, .long, .object "SteamNations$Text", .object "SteamNations$House"][t]? = some ty := ⟨_, List.getElem?_eq_getElem (by simpa using ht)⟩
  have hq2 : ∃ x : vp_A, (wsE E h)[a]? = some (E.2.2.1 + a, .inl (E.2.1 t, x)) ∧ x.1 = alen h a on := by
    unfold cE at hq
    rw [hk] at hq
    exact ⟨_, hq, rfl⟩
  obtain ⟨x, hq3, hx1⟩ := hq2
  exact va_alen hx hb hO.1 hR.2.2.2 a t hq3 (ty_at t hty) (by rw [hx1]; exact hv) hd (next H locs ls hR hS hl)
theorem g_iald {a j : Nat} {on : Option Nat} {i : Int32} (C : Cx X own cc nL rt D mc ms) (hd : decode cc pc = .ok (.iaload, 1)) (hk : kd a = .inr (0, on)) (ha : a < 110 ∨ a < sz h) (hj : inb i (alen h a on) = some j) (next : G X h k n (pc + 1) lv (.int (aI h a j) :: st)) : G X h k n pc lv (.int i :: .ref a :: st) := by
  obtain ⟨p, l, e, R, s, m, args, below, meth, c, Q, E⟩ := X
  obtain ⟨hx, hb, hml, hown, hts, hO, hlk, hrt, hfr, hlo, hce, hsl, hbs, -⟩ := C
  intro H locs ls hR hS hl
  have ha := sz_of hR ha
  have hq := ws_at (E := E) ha
  rw [cE_i hk (by omega)] at hq
  rw [List.map_cons, List.map_cons, cv_ref hR ha]
  obtain ⟨hin, hj2⟩ := inb_vp hj
  subst hj2
  exact va_iald hx hb hO.1 hR.2.2.2 a 0 hq rfl hin hd (next H locs ls hR hS hl)
theorem g_bald {a j : Nat} {on : Option Nat} {i : Int32} (C : Cx X own cc nL rt D mc ms) (hd : decode cc pc = .ok (.baload, 1)) (hk : kd a = .inr (1, on)) (ha : a < 110 ∨ a < sz h) (hj : inb i (alen h a on) = some j) (next : G X h k n (pc + 1) lv (.int (aI h a j) :: st)) : G X h k n pc lv (.int i :: .ref a :: st) := by
  obtain ⟨p, l, e, R, s, m, args, below, meth, c, Q, E⟩ := X
  obtain ⟨hx, hb, hml, hown, hts, hO, hlk, hrt, hfr, hlo, hce, hsl, hbs, -⟩ := C
  intro H locs ls hR hS hl
  have ha := sz_of hR ha
  have hq := ws_at (E := E) ha
  rw [cE_i hk (by omega)] at hq
  rw [List.map_cons, List.map_cons, cv_ref hR ha]
  obtain ⟨hin, hj2⟩ := inb_vp hj
  subst hj2
  exact va_bald hx hb hO.1 hR.2.2.2 a 1 hq rfl hin hd (next H locs ls hR hS hl)
theorem g_zald {a j : Nat} {on : Option Nat} {i : Int32} (C : Cx X own cc nL rt D mc ms) (hd : decode cc pc = .ok (.baload, 1)) (hk : kd a = .inr (2, on)) (ha : a < 110 ∨ a < sz h) (hj : inb i (alen h a on) = some j) (next : G X h k n (pc + 1) lv (.int (aI h a j) :: st)) : G X h k n pc lv (.int i :: .ref a :: st) := by
  obtain ⟨p, l, e, R, s, m, args, below, meth, c, Q, E⟩ := X
  obtain ⟨hx, hb, hml, hown, hts, hO, hlk, hrt, hfr, hlo, hce, hsl, hbs, -⟩ := C
  intro H locs ls hR hS hl
  have ha := sz_of hR ha
  have hq := ws_at (E := E) ha
  rw [cE_i hk (by omega)] at hq
  rw [List.map_cons, List.map_cons, cv_ref hR ha]
  obtain ⟨hin, hj2⟩ := inb_vp hj
  subst hj2
  exact va_zald hx hb hO.1 hR.2.2.2 a 2 hq rfl hin hd (next H locs ls hR hS hl)
theorem g_lald {a j : Nat} {on : Option Nat} {i : Int32} (C : Cx X own cc nL rt D mc ms) (hd : decode cc pc = .ok (.laload, 1)) (hk : kd a = .inr (3, on)) (ha : a < 110 ∨ a < sz h) (hj : inb i (alen h a on) = some j) (next : G X h k n (pc + 1) lv (.long (aL h a j) :: st)) : G X h k n pc lv (.int i :: .ref a :: st) := by
  obtain ⟨p, l, e, R, s, m, args, below, meth, c, Q, E⟩ := X
  obtain ⟨hx, hb, hml, hown, hts, hO, hlk, hrt, hfr, hlo, hce, hsl, hbs, -⟩ := C
  intro H locs ls hR hS hl
  have ha := sz_of hR ha
  have hq := ws_at (E := E) ha
  rw [cE_l hk] at hq
  rw [List.map_cons, List.map_cons, cv_ref hR ha]
  obtain ⟨hin, hj2⟩ := inb_vp hj
  subst hj2
  exact va_lald hx hb hO.1 hR.2.2.2 a 3 hq rfl hin hd (next H locs ls hR hS hl)
/-- a reference out of an array of references: null or a cell -/
theorem g_aald {a j t : Nat} {on : Option Nat} {i : Int32} (C : Cx X own cc nL rt D mc ms) (hd : decode cc pc = .ok (.aaload, 1)) (hk : kd a = .inr (t, on)) (ht : t = 4 ∨ t = 5) (ha : a < 110 ∨ a < sz h) (hj : inb i (alen h a on) = some j) (nextN : aO h a j = none → G X h k n (pc + 1) lv (.null :: st)) (next : ∀ b, aO h a j = some b → G X h k n (pc + 1) lv (.ref b :: st)) : G X h k n pc lv (.int i :: .ref a :: st) := by
  obtain ⟨p, l, e, R, s, m, args, below, meth, c, Q, E⟩ := X
  obtain ⟨hx, hb, hml, hown, hts, hO, hlk, hrt, hfr, hlo, hce, hsl, hbs, -⟩ := C
  intro H locs ls hR hS hl
  have ha := sz_of hR ha
  have hq := ws_at (E := E) ha
  rw [cE_r hk (by omega)] at hq
  rw [List.map_cons, List.map_cons, cv_ref hR ha]
  obtain ⟨hin, hj2⟩ := inb_vp hj
  subst hj2
  have key : W p l e R s m args below meth c H locs k n Q (F0 m (pc + 1) ls (va_rf ((aO h a i.toNatClampNeg).map (ra E)) :: st.map (cv E))) := by
    cases ho : aO h a i.toNatClampNeg with
    | none => exact nextN ho H locs ls hR hS hl
    | some b => exact next b ho H locs ls hR hS hl
  rcases ht with rfl | rfl
  · exact va_aldq hx hb hO.1 hR.2.2.2 a 4 hq rfl hin hd key
  · exact va_aldq hx hb hO.1 hR.2.2.2 a 5 hq rfl hin hd key
theorem g_iast {a j : Nat} {on : Option Nat} {i x : Int32} (C : Cx X own cc nL rt D mc ms) (hd : decode cc pc = .ok (.iastore, 1)) (hk : kd a = .inr (0, on)) (ha : a < 110 ∨ a < sz h) (hj : inb i (alen h a on) = some j) (next : G X (sA h a j x) k n (pc + 1) lv st) : G X h k n pc lv (.int x :: .int i :: .ref a :: st) := by
  obtain ⟨p, l, e, R, s, m, args, below, meth, c, Q, E⟩ := X
  obtain ⟨hx, hb, hml, hown, hts, hO, hlk, hrt, hfr, hlo, hce, hsl, hbs, -⟩ := C
  intro H locs ls hR hS hl
  have ha := sz_of hR ha
  have hq := ws_at (E := E) ha
  rw [cE_i hk (by omega)] at hq
  rw [List.map_cons, List.map_cons, List.map_cons, cv_ref hR ha]
  obtain ⟨hin, hj2⟩ := inb_vp hj
  subst hj2
  refine W.iast hx hb (hR.2.2.2 a _ hq) ((hO.1.2 0 _ rfl).1 _ (fun j => .int (aI h a j))) (fun q => by cases q) (by show ¬ (i < 0 ∨ (arrV _ _ _).slots.size ≤ _); rw [arrV_size]; exact hin) rfl rfl hd fun H1 e1 z oq => ?_
  refine next H1 _ ls (Rl_put hR ha rfl z cE_sA oq ?_) (hS.put z oq (Nat.le_add_right _ _)) hl
  rw [cE_i hk (by omega), aI_sA]
  show H1[E.2.2.1 + a]? = some (vp_cell _ _)
  rw [e1, vp_cell_i, vp_cell_i, arrV_store]
  congr 2
  funext q
  by_cases hq : q = i.toNatClampNeg
  · subst hq; simp [updV, upd]
  · simp [updV, upd, hq]
theorem g_bast {a j : Nat} {on : Option Nat} {i x : Int32} (C : Cx X own cc nL rt D mc ms) (hd : decode cc pc = .ok (.bastore, 1)) (hk : kd a = .inr (1, on)) (ha : a < 110 ∨ a < sz h) (hj : inb i (alen h a on) = some j) (next : G X (sA h a j x.toInt8.toInt32) k n (pc + 1) lv st) : G X h k n pc lv (.int x :: .int i :: .ref a :: st) := by
  obtain ⟨p, l, e, R, s, m, args, below, meth, c, Q, E⟩ := X
  obtain ⟨hx, hb, hml, hown, hts, hO, hlk, hrt, hfr, hlo, hce, hsl, hbs, -⟩ := C
  intro H locs ls hR hS hl
  have ha := sz_of hR ha
  have hq := ws_at (E := E) ha
  rw [cE_i hk (by omega)] at hq
  rw [List.map_cons, List.map_cons, List.map_cons, cv_ref hR ha]
  obtain ⟨hin, hj2⟩ := inb_vp hj
  subst hj2
  refine W.bast hx hb (hR.2.2.2 a _ hq) ((hO.1.2 1 _ rfl).1 _ (fun j => .int (aI h a j))) (fun q => by cases q) (by show ¬ (i < 0 ∨ (arrV _ _ _).slots.size ≤ _); rw [arrV_size]; exact hin) rfl rfl hd fun H1 e1 z oq => ?_
  refine next H1 _ ls (Rl_put hR ha rfl z cE_sA oq ?_) (hS.put z oq (Nat.le_add_right _ _)) hl
  rw [cE_i hk (by omega), aI_sA]
  show H1[E.2.2.1 + a]? = some (vp_cell _ _)
  rw [e1, vp_cell_i, vp_cell_i, arrV_store]
  congr 2
  funext q
  by_cases hq : q = i.toNatClampNeg
  · subst hq
    simp only [updV, upd, if_true]
    first | rfl | (simp [vp_nar_byte]; done) | (rw [← vp_nar_byte]; simp [vp_nar]; done)
  · simp [updV, upd, hq]
theorem g_zast {a j : Nat} {on : Option Nat} {i x : Int32} {b : Bool} (C : Cx X own cc nL rt D mc ms) (hd : decode cc pc = .ok (.bastore, 1)) (hk : kd a = .inr (2, on)) (ha : a < 110 ∨ a < sz h) (hj : inb i (alen h a on) = some j) (hb0 : x = b2i b) (next : G X (sA h a j (b2i b)) k n (pc + 1) lv st) : G X h k n pc lv (.int x :: .int i :: .ref a :: st) := by
  subst hb0
  obtain ⟨p, l, e, R, s, m, args, below, meth, c, Q, E⟩ := X
  obtain ⟨hx, hb, hml, hown, hts, hO, hlk, hrt, hfr, hlo, hce, hsl, hbs, -⟩ := C
  intro H locs ls hR hS hl
  have ha := sz_of hR ha
  have hq := ws_at (E := E) ha
  rw [cE_i hk (by omega)] at hq
  rw [List.map_cons, List.map_cons, List.map_cons, cv_ref hR ha]
  obtain ⟨hin, hj2⟩ := inb_vp hj
  subst hj2
  refine W.zast hx hb (hR.2.2.2 a _ hq) ((hO.1.2 2 _ rfl).1 _ (fun j => .int (aI h a j))) (fun q => by cases q) (by show ¬ (i < 0 ∨ (arrV _ _ _).slots.size ≤ _); rw [arrV_size]; exact hin) rfl rfl hd fun H1 e1 z oq => ?_
  refine next H1 _ ls (Rl_put hR ha rfl z cE_sA oq ?_) (hS.put z oq (Nat.le_add_right _ _)) hl
  rw [cE_i hk (by omega), aI_sA]
  show H1[E.2.2.1 + a]? = some (vp_cell _ _)
  rw [e1, vp_cell_i, vp_cell_i, arrV_store]
  congr 2
  funext q
  by_cases hq : q = i.toNatClampNeg
  · subst hq
    simp only [updV, upd, if_true]
    exact (b2i_narrow b).1
  · simp [updV, upd, hq]
theorem g_last {a j : Nat} {on : Option Nat} {i : Int32} {x : Int64} (C : Cx X own cc nL rt D mc ms) (hd : decode cc pc = .ok (.lastore, 1)) (hk : kd a = .inr (3, on)) (ha : a < 110 ∨ a < sz h) (hj : inb i (alen h a on) = some j) (next : G X (sL h a j x) k n (pc + 1) lv st) : G X h k n pc lv (.long x :: .int i :: .ref a :: st) := by
  obtain ⟨p, l, e, R, s, m, args, below, meth, c, Q, E⟩ := X
  obtain ⟨hx, hb, hml, hown, hts, hO, hlk, hrt, hfr, hlo, hce, hsl, hbs, -⟩ := C
  intro H locs ls hR hS hl
  have ha := sz_of hR ha
  have hq := ws_at (E := E) ha
  rw [cE_l hk] at hq
  rw [List.map_cons, List.map_cons, List.map_cons, cv_ref hR ha]
  obtain ⟨hin, hj2⟩ := inb_vp hj
  subst hj2
  refine W.last hx hb (hR.2.2.2 a _ hq) ((hO.1.2 3 _ rfl).1 _ (fun j => .long (aL h a j))) (fun q => by cases q) (by show ¬ (i < 0 ∨ (arrV _ _ _).slots.size ≤ _); rw [arrV_size]; exact hin) rfl rfl hd fun H1 e1 z oq => ?_
  refine next H1 _ ls (Rl_put hR ha rfl z cE_sL oq ?_) (hS.put z oq (Nat.le_add_right _ _)) hl
  rw [cE_l hk, aL_sL]
  show H1[E.2.2.1 + a]? = some (vp_cell _ _)
  rw [e1, vp_cell_l, vp_cell_l, arrV_store]
  congr 2
  funext q
  by_cases hq : q = i.toNatClampNeg
  · subst hq; simp [updV, vp_updL]
  · simp [updV, vp_updL, hq]
end GH
