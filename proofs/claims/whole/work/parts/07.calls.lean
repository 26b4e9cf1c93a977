section GC
variable {X : Xt} {own : String} {cc : ByteArray} {nL : Nat} {rt : Option FieldType} {D mc ms : Nat} {h : Hp} {k n pc : Nat} {lv : List (Nat × Value)} {st : List Value}
theorem g_aastN {a j : Nat} {on : Option Nat} {i : Int32} (C : Cx X own cc nL rt D mc ms) (hd : decode cc pc = .ok (.aastore, 1)) (hk : kd a = .inr (4, on)) (ha : a < 110 ∨ a < sz h) (hj : inb i (alen h a on) = some j) (next : G X (sO h a j none) k n (pc + 1) lv st) : G X h k n pc lv (.null :: .int i :: .ref a :: st) := by
  obtain ⟨p, l, e, R, s, m, args, below, meth, c, Q, E⟩ := X
  obtain ⟨hx, hb, hml, hown, hts, hO, hlk, hrt, hfr, hlo, hce, hsl, hbs, -⟩ := C
  intro H locs ls hR hS hl
  have ha := sz_of hR ha
  have hq := ws_at (E := E) ha
  rw [cE_r hk (by omega)] at hq
  rw [List.map_cons, List.map_cons, List.map_cons, cv_ref hR ha]
  obtain ⟨hin, hj2⟩ := inb_vp hj
  subst hj2
  refine va_WaastN (C := "SteamNations$Text") hx hb (hR.2.2.2 a _ hq) ((hO.1.2 4 _ rfl).1 _ (fun j => va_rf ((aO h a j).map (ra E)))) (fun q => by cases q) (by show ¬ (i < 0 ∨ (arrV _ _ _).slots.size ≤ _); rw [arrV_size]; exact hin) rfl rfl hd fun H1 e1 z oq => ?_
  refine next H1 _ ls (Rl_put hR ha rfl z cE_sO oq ?_) (hS.put z oq (Nat.le_add_right _ _)) hl
  rw [cE_r hk (by omega), aO_sO]
  show H1[E.2.2.1 + a]? = some (vp_cell _ _)
  rw [e1, vp_cell_q, vp_cell_q, arrV_store]
  congr 2
  funext q
  by_cases hq : q = i.toNatClampNeg
  · subst hq; simp [updV, va_up, va_rf]
  · simp [updV, va_up, hq]
theorem g_aastT {a j v : Nat} {on : Option Nat} {fs : List (Option Nat)} {i : Int32} (C : Cx X own cc nL rt D mc ms) (hd : decode cc pc = .ok (.aastore, 1)) (hk : kd a = .inr (4, on)) (ha : a < 110 ∨ a < sz h) (hj : inb i (alen h a on) = some j) (hkv : kd v = .inl (9, fs)) (hv : v < 110 ∨ v < sz h) (next : G X (sO h a j (some v)) k n (pc + 1) lv st) : G X h k n pc lv (.ref v :: .int i :: .ref a :: st) := by
  obtain ⟨p, l, e, R, s, m, args, below, meth, c, Q, E⟩ := X
  obtain ⟨hx, hb, hml, hown, hts, hO, hlk, hrt, hfr, hlo, hce, hsl, hbs, -⟩ := C
  intro H locs ls hR hS hl
  have ha := sz_of hR ha
  have hv := sz_of hR hv
  have hq := ws_at (E := E) ha
  have hqv := ws_at (E := E) hv
  rw [cE_r hk (by omega)] at hq
  rw [cE_o hkv] at hqv
  rw [List.map_cons, List.map_cons, List.map_cons, cv_ref hR ha, cv_ref hR hv]
  obtain ⟨hin, hj2⟩ := inb_vp hj
  subst hj2
  have hlt : i.toNatClampNeg < on.getD (ln h a) := Nat.not_le.mp fun q => hin (Or.inr q)
  have h0 : ¬ i < 0 := fun q => hin (Or.inl q)
  obtain ⟨r', hr', cellV, g1, g2, g3, -⟩ := hR.2.2.2 v _ hqv
  have hcls := (hO.1.1 9 _ rfl).2
  obtain ⟨kA, comp, k1, k2, k3, -⟩ := (hO.1.2 4 _ rfl).2
  have hcomp : comp = E.1.1 9 := Option.some.inj (k3.symm.trans hcls.1)
  subst hcomp
  obtain ⟨kC, hkC, -⟩ := hcls.2
  refine W.aast hx hb (hR.2.2.2 a _ hq) (fun q h => by cases h) (fun h => by cases h) k1 k2 rfl hkC ⟨h0, by show _ < (arrV _ _ _).slots.size; rw [arrV_size]; exact hlt⟩ g1 (fun q h => by rw [g3] at h; cases h) (by rw [g2]; exact hkC) (by rw [g2]; exact va_assign hcls) rfl rfl hd fun H1 e1 z oq => ?_
  refine next H1 _ ls (Rl_put hR ha rfl z cE_sO oq ?_) (hS.put z oq (Nat.le_add_right _ _)) hl
  rw [cE_r hk (by omega), aO_sO]
  show H1[E.2.2.1 + a]? = some (vp_cell _ _)
  rw [e1, vp_cell_q, vp_cell_q, arrV_store]
  congr 2
  funext q
  by_cases hq : q = i.toNatClampNeg
  · subst hq; simp [updV, va_up, va_rf, ra_lt hv hR.2.2.1]
  · simp [updV, va_up, hq]
/-! statics: abstract addresses from 1000000 on -/
theorem g_gsB (C : Cx X "SteamNations$Steam" cc nL rt D mc ms) (hd : decode cc pc = .ok (.getstatic 96, 3)) (next : G X h k n (pc + 3) lv (.ref 1000000 :: st)) : G X h k n pc lv st := by
  obtain ⟨p, l, e, R, s, m, args, below, meth, c, Q, E⟩ := X
  obtain ⟨hx, hb, hml, hown, hts, hO, hlk, hrt, hfr, hlo, hce, hsl, hbs, -⟩ := C
  intro H locs ls hR hS hl
  exact va_getsN hx hb hO.2.2.2.1 hS hown (va_Nw.use rfl (hO.2.1 ("SteamNations$Steam", 96, "SteamNations", "BESIDE", "[I", "SteamNations") (by decide))) (fun _ h => h) hd (next H locs ls hR hS hl)
theorem g_gsM {idx : Nat} (C : Cx X "SteamNations" cc nL rt D mc ms) (hd : decode cc pc = .ok (.getstatic idx, 3)) (hc : Cond.fieldLink "SteamNations" idx "SteamNations" "MOST_OF_TERM" "[I" ∈ gw) (next : G X h k n (pc + 3) lv (.ref 1000001 :: st)) : G X h k n pc lv st := by
  obtain ⟨p, l, e, R, s, m, args, below, meth, c, Q, E⟩ := X
  obtain ⟨hx, hb, hml, hown, hts, hO, hlk, hrt, hfr, hlo, hce, hsl, hbs, -⟩ := C
  intro H locs ls hR hS hl
  exact va_gets hx hb hO.2.2.2.2.2.1 hS hown (hts _ hc) (fun _ h => h) hd (next H locs ls hR hS hl)
theorem g_tldB {i : Int32} {j : Nat} (C : Cx X own cc nL rt D mc ms) (hd : decode cc pc = .ok (.iaload, 1)) (hj : inb i 36 = some j) (next : G X h k n (pc + 1) lv (.int (bsT.getD j 0) :: st)) : G X h k n pc lv (.int i :: .ref 1000000 :: st) := by
  obtain ⟨p, l, e, R, s, m, args, below, meth, c, Q, E⟩ := X
  obtain ⟨hx, hb, hml, hown, hts, hO, hlk, hrt, hfr, hlo, hce, hsl, hbs, -⟩ := C
  intro H locs ls hR hS hl
  obtain ⟨hin, hj2⟩ := inb_vp hj
  subst hj2
  exact va_ti hx hb hO.2.2.2.2.1 hS hin rfl hd (next H locs ls hR hS hl)
theorem g_tldM {i : Int32} {j : Nat} (C : Cx X own cc nL rt D mc ms) (hd : decode cc pc = .ok (.iaload, 1)) (hj : inb i 3 = some j) (next : G X h k n (pc + 1) lv (.int (moT.getD j 0) :: st)) : G X h k n pc lv (.int i :: .ref 1000001 :: st) := by
  obtain ⟨p, l, e, R, s, m, args, below, meth, c, Q, E⟩ := X
  obtain ⟨hx, hb, hml, hown, hts, hO, hlk, hrt, hfr, hlo, hce, hsl, hbs, -⟩ := C
  intro H locs ls hR hS hl
  obtain ⟨hin, hj2⟩ := inb_vp hj
  subst hj2
  exact va_ti hx hb hO.2.2.2.2.2.2.1 hS hin rfl hd (next H locs ls hR hS hl)
/-! calls -/
theorem gw_good {w : Cond} (h : w ∈ gw) : goodWord w = true := (List.mem_filter.mp h).2
theorem gw_in (y : MethodName) {bytes : ByteArray} {mL : Nat} {ret : Option FieldType} (hc : Cond.code y bytes mL ret ∈ gw) : GoodIn gw (.code y bytes mL ret :: gw) := by
  intro w hw
  rcases List.mem_cons.mp hw with rfl | hw
  · exact ⟨hc, good_of_word (gw_good hc)⟩
  · exact ⟨hw, good_of_word (gw_good hw)⟩
/-- behind a call -/
theorem g_run {p : Program} {l : Launch} {e : Env} {R : Room} {s : State} {m : MethodId} {args : Array Value} {below : List Frame} {meth : Method} {c : Code} {Q : State → Prop} {E : Ex} {H : Heap} {locs : List Loc} {mc' ms' : Nat} {ls : Array Slot} {st0 rest : List Value} {aa : Array Value} {r : Option Value} {h1 : Hp}
    (hr : va_Run p l e R s m args below meth c H locs k n mc' ms' (F0 m pc ls st0) (rest.map (cv E)) (rQ E r h1 aa) (eA E)) (hS : va_S (eA E) s.heap H locs) (hl : lv_has ls c.maxLocals (cl2 E lv))
    (next : G (p, l, e, R, s, m, args, below, meth, c, Q, E) h1 (k + mc') (n + ms') (pc + 3) lv (r.toList ++ rest)) : W p l e R s m args below meth c H locs k n Q (F0 m pc ls st0) := by
  intro T hT X0
  obtain ⟨v, st₀, t, T', L, h0, X', hL, e1, e2, ⟨hv, hR1, hz, hk⟩, stp⟩ := hr T hT X0
  have hv : v = r.map (cv E) := by cases hv; rfl
  subst hv
  rw [h0] at hz hk
  have hS1 : va_S (eA E) s.heap T'.heap (locs ++ L) := by
    refine ⟨Nat.le_trans hS.1 (by rw [e1]; exact hz), fun q g1 g2 => ?_, fun q hq => ?_⟩
    · rw [e1, hk q (Nat.lt_of_lt_of_le g1 hS.1) g2]
      exact hS.2.1 q g1 g2
    · rcases List.mem_append.mp hq with h | h
      · exact hS.2.2 q h
      · exact hL q h
  obtain ⟨t2, a1, b1⟩ := next T'.heap (locs ++ L) ls (by rw [e1]; exact hR1) hS1 hl T' rfl X'
  have e3 : (r.toList ++ rest).map (cv E) = (r.map (cv E)).toList ++ rest.map (cv E) := by cases r <;> rfl
  rw [e3] at a1
  exact ⟨t2, stp t2 a1, b1⟩
def VLk (own : String) (idx : Nat) (y : MethodName) (bytes : ByteArray) (mL : Nat) (ret : Option FieldType) (ci nA : Nat) : Prop :=
  (cls[ci]?).map (·.1) = some y.cls ∧ Cond.methodLink own idx y ∈ gw ∧ Cond.instanceMethod y ∈ gw ∧ Cond.selects y.cls y y ∈ gw ∧ Cond.initialized y.cls ∈ gw ∧ Cond.code y bytes mL ret ∈ gw ∧ (y.cls ≠ "java/lang/invoke/MethodHandle" ∧ y.cls ≠ "java/lang/invoke/VarHandle" ∧ (parseMethodDescriptor y.desc).map (fun d => d.parameters.length) = some nA) ∧ mL ≤ 40
def SLk (own : String) (idx : Nat) (y : MethodName) (bytes : ByteArray) (mL : Nat) (ret : Option FieldType) (nA : Nat) : Prop :=
  Cond.methodLink own idx y ∈ gw ∧ Cond.static y ∈ gw ∧ Cond.initialized y.cls ∈ gw ∧ Cond.code y bytes mL ret ∈ gw ∧ (y.cls ≠ "java/lang/invoke/MethodHandle" ∧ y.cls ≠ "java/lang/invoke/VarHandle" ∧ (parseMethodDescriptor y.desc).map (fun d => d.parameters.length) = some nA) ∧ mL ≤ 40
def NLk (own : String) (idx : Nat) (y : MethodName) (bytes : ByteArray) (mL : Nat) (ret : Option FieldType) (nA : Nat) : Prop :=
  (own, idx, y, "SteamNations") ∈ nwM ∧ Cond.static y ∈ gw ∧ Cond.initialized y.cls ∈ gw ∧ Cond.code y bytes mL ret ∈ gw ∧ (y.cls ≠ "java/lang/invoke/MethodHandle" ∧ y.cls ≠ "java/lang/invoke/VarHandle" ∧ (parseMethodDescriptor y.desc).map (fun d => d.parameters.length) = some nA) ∧ mL ≤ 40
theorem aPc_at {E : Ex} {s U : State} {H : Heap} {locs : List Loc} {av : List Value} (hR : Rl E h H) (hO : Ok E s) (hS : va_S (eA E) s.heap H locs) (hbs : E.2.2.1 ≤ s.heap.size) (hU : U.heap = H) (hW : s.WarmedH U.vm) : aPc E av h (av.map (cv E)).toArray U := by
  refine ⟨rfl, by rw [hU]; exact hR, hO.mv hW (fun a g1 g2 => by rw [hU]; exact hS.2.1 a g1 g2), by rw [hU]; exact Nat.le_trans hbs hS.1⟩
theorem g_callV {y : MethodName} {bytes : ByteArray} {mL ci nA D' mc' ms' idx a : Nat} {ret : Option FieldType} {fs : List (Option Nat)} {As rest : List Value} {r : Option Value} {h1 : Hp} (C : Cx X own cc nL rt D mc ms) (hd : decode cc pc = .ok (.invokevirtual idx, 3)) (L : VLk own idx y bytes mL ret ci nA) (hm : MetA y bytes mL ret D' mc' ms' (.ref a :: As) h r h1) (hk : kd a = .inl (ci, fs)) (ha : a < 110 ∨ a < sz h) (hst : st = As.reverse ++ .ref a :: rest) (hn : As.length = nA) (hcat : (rest.map fun v => v.category).sum ≤ 8) (hD : D' + 1 ≤ D) (hc : k + mc' ≤ mc ∧ n + ms' ≤ ms) (next : G X h1 (k + mc') (n + ms') (pc + 3) lv (r.toList ++ rest)) : G X h k n pc lv st := by
  obtain ⟨p, l, e, R, s, m, args, below, meth, c, Q, E⟩ := X
  obtain ⟨hx, hb, hml, hown, hts, hO, hlk, hrt, hfr, hlo, hce, hsl, hbs, -⟩ := C
  obtain ⟨l1, l2, l3, l4, l5, l6, l7, l8⟩ := L
  intro H locs ls hR hS hl
  have ha := sz_of hR ha
  have hq := ws_at (E := E) ha
  rw [cE_o hk] at hq
  obtain ⟨q, hq1⟩ : ∃ q, cls[ci]? = some q := by
    cases hq2 : cls[ci]? with
    | none => rw [hq2] at l1; cases l1
    | some q => exact ⟨q, rfl⟩
  have hqc : q.1 = y.cls := by rw [hq1] at l1; exact Option.some.inj l1
  have hcat2 : ((rest.map (cv E)).map fun v => v.category).sum ≤ 8 := by
    rw [List.map_map]
    have e9 : ((fun v : Value => v.category) ∘ cv E) = fun v : Value => v.category := by funext v; exact cv_cat E v
    rw [e9]
    exact hcat
  have hrecv := va_recv hO.1 hR.2.2.2 hq1 hq
  rw [hqc] at hrecv
  have hrun := va_runV (p := p) (e := e) (below := below) (meth := meth) (locs := locs) (cells := k) (slots := n) (As := As.map (cv E)) (rest := rest.map (cv E)) (b := E.2.2.1 + a) (g := F0 m pc ls (st.map (cv E))) (index := idx) (C := y.cls) ⟨hx, hb, rfl, hown, hts⟩ (hm l E)
    (R := R) ⟨callB_of nA hts (gw_in y l6) rfl rfl rfl (hts _ l5) (hts _ l2) l7 ⟨by show D' + 1 ≤ _; omega, by show 8 + (mL + 11) + 60 * D' ≤ _; omega⟩, hts _ l3, hts _ l4⟩
    (H := H) ⟨aPc_blind E _ h, hrecv, fun U hU hW => by
      have e8 : (Value.ref (E.2.2.1 + a) :: As.map (cv E)).toArray = ((Value.ref a :: As).map (cv E)).toArray := by rw [List.map_cons, cv_ref hR ha]
      rw [e8]
      exact aPc_at hR hO hS hbs hU hW⟩
    rfl (by rw [List.length_map]; exact hn) hl.1 (by rw [hst]; simp [cv_ref hR ha]) (lv_room hcat2) hd ⟨by omega, by omega⟩
  exact g_run hrun hS hl next
theorem g_callS {y : MethodName} {bytes : ByteArray} {mL nA D' mc' ms' idx : Nat} {ret : Option FieldType} {As rest : List Value} {r : Option Value} {h1 : Hp} (C : Cx X own cc nL rt D mc ms) (hd : decode cc pc = .ok (.invokestatic idx, 3)) (L : SLk own idx y bytes mL ret nA) (hm : MetA y bytes mL ret D' mc' ms' As h r h1) (hst : st = As.reverse ++ rest) (hn : As.length = nA) (hcat : (rest.map fun v => v.category).sum ≤ 8) (hD : D' + 1 ≤ D) (hc : k + mc' ≤ mc ∧ n + ms' ≤ ms) (next : G X h1 (k + mc') (n + ms') (pc + 3) lv (r.toList ++ rest)) : G X h k n pc lv st := by
  obtain ⟨p, l, e, R, s, m, args, below, meth, c, Q, E⟩ := X
  obtain ⟨hx, hb, hml, hown, hts, hO, hlk, hrt, hfr, hlo, hce, hsl, hbs, -⟩ := C
  obtain ⟨l2, l3, l5, l6, l7, l8⟩ := L
  intro H locs ls hR hS hl
  have hcat2 : ((rest.map (cv E)).map fun v => v.category).sum ≤ 8 := by
    rw [List.map_map]
    have e9 : ((fun v : Value => v.category) ∘ cv E) = fun v : Value => v.category := by funext v; exact cv_cat E v
    rw [e9]
    exact hcat
  have hrun := va_runS (p := p) (e := e) (below := below) (meth := meth) (locs := locs) (cells := k) (slots := n) (As := As.map (cv E)) (rest := rest.map (cv E)) (g := F0 m pc ls (st.map (cv E))) (index := idx) ⟨hx, hb, rfl, hown, hts⟩ (hm l E)
    (R := R) ⟨callB_of nA hts (gw_in y l6) rfl rfl rfl (hts _ l5) (hts _ l2) l7 ⟨by show D' + 1 ≤ _; omega, by show 8 + (mL + 11) + 60 * D' ≤ _; omega⟩, hts _ l3⟩
    (H := H) ⟨aPc_blind E _ h, fun U hU hW => aPc_at hR hO hS hbs hU hW⟩
    rfl (by rw [List.length_map]; exact hn) hl.1 (by rw [hst]; simp) (lv_room hcat2) hd ⟨by omega, by omega⟩
  exact g_run hrun hS hl next
theorem g_callN {y : MethodName} {bytes : ByteArray} {mL nA D' mc' ms' idx : Nat} {ret : Option FieldType} {As rest : List Value} {r : Option Value} {h1 : Hp} (C : Cx X own cc nL rt D mc ms) (hd : decode cc pc = .ok (.invokestatic idx, 3)) (L : NLk own idx y bytes mL ret nA) (hm : MetA y bytes mL ret D' mc' ms' As h r h1) (hst : st = As.reverse ++ rest) (hn : As.length = nA) (hcat : (rest.map fun v => v.category).sum ≤ 8) (hD : D' + 1 ≤ D) (hc : k + mc' ≤ mc ∧ n + ms' ≤ ms) (next : G X h1 (k + mc') (n + ms') (pc + 3) lv (r.toList ++ rest)) : G X h k n pc lv st := by
  obtain ⟨p, l, e, R, s, m, args, below, meth, c, Q, E⟩ := X
  obtain ⟨hx, hb, hml, hown, hts, hO, hlk, hrt, hfr, hlo, hce, hsl, hbs, -⟩ := C
  obtain ⟨l2, l3, l5, l6, l7, l8⟩ := L
  intro H locs ls hR hS hl
  have hcat2 : ((rest.map (cv E)).map fun v => v.category).sum ≤ 8 := by
    rw [List.map_map]
    have e9 : ((fun v : Value => v.category) ∘ cv E) = fun v : Value => v.category := by funext v; exact cv_cat E v
    rw [e9]
    exact hcat
  have hrun := va_runSN (p := p) (e := e) (below := below) (meth := meth) (locs := locs) (cells := k) (slots := n) (As := As.map (cv E)) (rest := rest.map (cv E)) (g := F0 m pc ls (st.map (cv E))) (index := idx) ⟨hx, hb, rfl, hown, hts⟩ (hm l E)
    (R := R) ⟨va_cnB nA hts (gw_in y l6) rfl rfl rfl (hO.2.2.1 _ l2) (hts _ l5) l7 ⟨by show D' + 1 ≤ _; omega, by show 8 + (mL + 11) + 60 * D' ≤ _; omega⟩, hts _ l3, trivial⟩
    (H := H) ⟨aPc_blind E _ h, fun U hU hW => aPc_at hR hO hS hbs hU hW⟩
    rfl (by rw [List.length_map]; exact hn) hl.1 (by rw [hst]; simp) (lv_room hcat2) hd ⟨by omega, by omega⟩
  exact g_run hrun hS hl next
end GC
