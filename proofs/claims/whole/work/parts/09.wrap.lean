theorem ac_nat : Cond.native arraycopyName ∈ gw := gm_1 101 rfl rfl
theorem ac_st : Cond.static arraycopyName ∈ gw := gm_1 100 rfl rfl
theorem ac_in : Cond.initialized "java/lang/System" ∈ gw := gm_1 5 rfl rfl
section GX
variable {X : Xt} {own : String} {cc : ByteArray} {nL : Nat} {rt : Option FieldType} {D mc ms : Nat} {h : Hp} {k n pc : Nat} {lv : List (Nat × Value)} {st : List Value}
theorem g_cVi {y : MethodName} {bytes : ByteArray} {mL nA D' idx : Nat} {fs : List (Option Nat)} {ci a : Nat} {ret : Option FieldType} {x : Int32} {rest : List Value} {h1 : Hp} (As : List Value) (C : Cx X own cc nL rt D mc ms) (hd : decode cc pc = .ok (.invokevirtual idx, 3)) (L : VLk own idx y bytes mL ret ci nA) (hm : MetA y bytes mL ret D' 0 0 (.ref a :: As) h (some (.int x)) h1) (hk : kd a = .inl (ci, fs)) (ha : a < 110 ∨ a < sz h) (hst : st = As.reverse ++ .ref a :: rest) (hn : As.length = nA) (hcat : (rest.map fun v => v.category).sum ≤ 8) (hD : D' + 1 ≤ D) (hc : k ≤ mc ∧ n ≤ ms) (next : G X h1 k n (pc + 3) lv (.int x :: rest)) : G X h k n pc lv st :=
  g_callV C hd L hm hk ha hst hn hcat hD ⟨hc.1, hc.2⟩ next
theorem g_cVl {y : MethodName} {bytes : ByteArray} {mL nA D' idx : Nat} {fs : List (Option Nat)} {ci a : Nat} {ret : Option FieldType} {x : Int64} {rest : List Value} {h1 : Hp} (As : List Value) (C : Cx X own cc nL rt D mc ms) (hd : decode cc pc = .ok (.invokevirtual idx, 3)) (L : VLk own idx y bytes mL ret ci nA) (hm : MetA y bytes mL ret D' 0 0 (.ref a :: As) h (some (.long x)) h1) (hk : kd a = .inl (ci, fs)) (ha : a < 110 ∨ a < sz h) (hst : st = As.reverse ++ .ref a :: rest) (hn : As.length = nA) (hcat : (rest.map fun v => v.category).sum ≤ 8) (hD : D' + 1 ≤ D) (hc : k ≤ mc ∧ n ≤ ms) (next : G X h1 k n (pc + 3) lv (.long x :: rest)) : G X h k n pc lv st :=
  g_callV C hd L hm hk ha hst hn hcat hD ⟨hc.1, hc.2⟩ next
theorem g_cVv {y : MethodName} {bytes : ByteArray} {mL nA D' idx : Nat} {fs : List (Option Nat)} {ci a : Nat} {ret : Option FieldType} {rest : List Value} {h1 : Hp} (As : List Value) (C : Cx X own cc nL rt D mc ms) (hd : decode cc pc = .ok (.invokevirtual idx, 3)) (L : VLk own idx y bytes mL ret ci nA) (hm : MetA y bytes mL ret D' 0 0 (.ref a :: As) h none h1) (hk : kd a = .inl (ci, fs)) (ha : a < 110 ∨ a < sz h) (hst : st = As.reverse ++ .ref a :: rest) (hn : As.length = nA) (hcat : (rest.map fun v => v.category).sum ≤ 8) (hD : D' + 1 ≤ D) (hc : k ≤ mc ∧ n ≤ ms) (next : G X h1 k n (pc + 3) lv (rest)) : G X h k n pc lv st :=
  g_callV C hd L hm hk ha hst hn hcat hD ⟨hc.1, hc.2⟩ next
theorem g_cVr {y : MethodName} {bytes : ByteArray} {mL nA D' idx : Nat} {fs : List (Option Nat)} {ci a : Nat} {ret : Option FieldType} {x : Nat} {rest : List Value} {h1 : Hp} (As : List Value) (C : Cx X own cc nL rt D mc ms) (hd : decode cc pc = .ok (.invokevirtual idx, 3)) (L : VLk own idx y bytes mL ret ci nA) (hm : MetA y bytes mL ret D' 0 0 (.ref a :: As) h (some (.ref x)) h1) (hk : kd a = .inl (ci, fs)) (ha : a < 110 ∨ a < sz h) (hst : st = As.reverse ++ .ref a :: rest) (hn : As.length = nA) (hcat : (rest.map fun v => v.category).sum ≤ 8) (hD : D' + 1 ≤ D) (hc : k ≤ mc ∧ n ≤ ms) (next : G X h1 k n (pc + 3) lv (.ref x :: rest)) : G X h k n pc lv st :=
  g_callV C hd L hm hk ha hst hn hcat hD ⟨hc.1, hc.2⟩ next
theorem g_cSi {y : MethodName} {bytes : ByteArray} {mL nA D' idx : Nat} {ret : Option FieldType} {x : Int32} {rest : List Value} {h1 : Hp} (As : List Value) (C : Cx X own cc nL rt D mc ms) (hd : decode cc pc = .ok (.invokestatic idx, 3)) (L : SLk own idx y bytes mL ret nA) (hm : MetA y bytes mL ret D' 0 0 As h (some (.int x)) h1) (hst : st = As.reverse ++ rest) (hn : As.length = nA) (hcat : (rest.map fun v => v.category).sum ≤ 8) (hD : D' + 1 ≤ D) (hc : k ≤ mc ∧ n ≤ ms) (next : G X h1 k n (pc + 3) lv (.int x :: rest)) : G X h k n pc lv st :=
  g_callS C hd L hm hst hn hcat hD ⟨hc.1, hc.2⟩ next
theorem g_cSl {y : MethodName} {bytes : ByteArray} {mL nA D' idx : Nat} {ret : Option FieldType} {x : Int64} {rest : List Value} {h1 : Hp} (As : List Value) (C : Cx X own cc nL rt D mc ms) (hd : decode cc pc = .ok (.invokestatic idx, 3)) (L : SLk own idx y bytes mL ret nA) (hm : MetA y bytes mL ret D' 0 0 As h (some (.long x)) h1) (hst : st = As.reverse ++ rest) (hn : As.length = nA) (hcat : (rest.map fun v => v.category).sum ≤ 8) (hD : D' + 1 ≤ D) (hc : k ≤ mc ∧ n ≤ ms) (next : G X h1 k n (pc + 3) lv (.long x :: rest)) : G X h k n pc lv st :=
  g_callS C hd L hm hst hn hcat hD ⟨hc.1, hc.2⟩ next
theorem g_cSv {y : MethodName} {bytes : ByteArray} {mL nA D' idx : Nat} {ret : Option FieldType} {rest : List Value} {h1 : Hp} (As : List Value) (C : Cx X own cc nL rt D mc ms) (hd : decode cc pc = .ok (.invokestatic idx, 3)) (L : SLk own idx y bytes mL ret nA) (hm : MetA y bytes mL ret D' 0 0 As h none h1) (hst : st = As.reverse ++ rest) (hn : As.length = nA) (hcat : (rest.map fun v => v.category).sum ≤ 8) (hD : D' + 1 ≤ D) (hc : k ≤ mc ∧ n ≤ ms) (next : G X h1 k n (pc + 3) lv (rest)) : G X h k n pc lv st :=
  g_callS C hd L hm hst hn hcat hD ⟨hc.1, hc.2⟩ next
theorem g_cSr {y : MethodName} {bytes : ByteArray} {mL nA D' idx : Nat} {ret : Option FieldType} {x : Nat} {rest : List Value} {h1 : Hp} (As : List Value) (C : Cx X own cc nL rt D mc ms) (hd : decode cc pc = .ok (.invokestatic idx, 3)) (L : SLk own idx y bytes mL ret nA) (hm : MetA y bytes mL ret D' 0 0 As h (some (.ref x)) h1) (hst : st = As.reverse ++ rest) (hn : As.length = nA) (hcat : (rest.map fun v => v.category).sum ≤ 8) (hD : D' + 1 ≤ D) (hc : k ≤ mc ∧ n ≤ ms) (next : G X h1 k n (pc + 3) lv (.ref x :: rest)) : G X h k n pc lv st :=
  g_callS C hd L hm hst hn hcat hD ⟨hc.1, hc.2⟩ next
theorem g_cNi {y : MethodName} {bytes : ByteArray} {mL nA D' idx : Nat} {ret : Option FieldType} {x : Int32} {rest : List Value} {h1 : Hp} (As : List Value) (C : Cx X own cc nL rt D mc ms) (hd : decode cc pc = .ok (.invokestatic idx, 3)) (L : NLk own idx y bytes mL ret nA) (hm : MetA y bytes mL ret D' 0 0 As h (some (.int x)) h1) (hst : st = As.reverse ++ rest) (hn : As.length = nA) (hcat : (rest.map fun v => v.category).sum ≤ 8) (hD : D' + 1 ≤ D) (hc : k ≤ mc ∧ n ≤ ms) (next : G X h1 k n (pc + 3) lv (.int x :: rest)) : G X h k n pc lv st :=
  g_callN C hd L hm hst hn hcat hD ⟨hc.1, hc.2⟩ next
theorem g_cNl {y : MethodName} {bytes : ByteArray} {mL nA D' idx : Nat} {ret : Option FieldType} {x : Int64} {rest : List Value} {h1 : Hp} (As : List Value) (C : Cx X own cc nL rt D mc ms) (hd : decode cc pc = .ok (.invokestatic idx, 3)) (L : NLk own idx y bytes mL ret nA) (hm : MetA y bytes mL ret D' 0 0 As h (some (.long x)) h1) (hst : st = As.reverse ++ rest) (hn : As.length = nA) (hcat : (rest.map fun v => v.category).sum ≤ 8) (hD : D' + 1 ≤ D) (hc : k ≤ mc ∧ n ≤ ms) (next : G X h1 k n (pc + 3) lv (.long x :: rest)) : G X h k n pc lv st :=
  g_callN C hd L hm hst hn hcat hD ⟨hc.1, hc.2⟩ next
theorem g_cNv {y : MethodName} {bytes : ByteArray} {mL nA D' idx : Nat} {ret : Option FieldType} {rest : List Value} {h1 : Hp} (As : List Value) (C : Cx X own cc nL rt D mc ms) (hd : decode cc pc = .ok (.invokestatic idx, 3)) (L : NLk own idx y bytes mL ret nA) (hm : MetA y bytes mL ret D' 0 0 As h none h1) (hst : st = As.reverse ++ rest) (hn : As.length = nA) (hcat : (rest.map fun v => v.category).sum ≤ 8) (hD : D' + 1 ≤ D) (hc : k ≤ mc ∧ n ≤ ms) (next : G X h1 k n (pc + 3) lv (rest)) : G X h k n pc lv st :=
  g_callN C hd L hm hst hn hcat hD ⟨hc.1, hc.2⟩ next
theorem g_cNr {y : MethodName} {bytes : ByteArray} {mL nA D' idx : Nat} {ret : Option FieldType} {x : Nat} {rest : List Value} {h1 : Hp} (As : List Value) (C : Cx X own cc nL rt D mc ms) (hd : decode cc pc = .ok (.invokestatic idx, 3)) (L : NLk own idx y bytes mL ret nA) (hm : MetA y bytes mL ret D' 0 0 As h (some (.ref x)) h1) (hst : st = As.reverse ++ rest) (hn : As.length = nA) (hcat : (rest.map fun v => v.category).sum ≤ 8) (hD : D' + 1 ≤ D) (hc : k ≤ mc ∧ n ≤ ms) (next : G X h1 k n (pc + 3) lv (.ref x :: rest)) : G X h k n pc lv st :=
  g_callN C hd L hm hst hn hcat hD ⟨hc.1, hc.2⟩ next
end GX
theorem b2i_z {b : Bool} (h : b2i b = 0) : ¬ b = true := by cases b <;> simp_all [b2i]
theorem b2i_nz {b : Bool} (h : ¬ b2i b = 0) : b = true := by cases b <;> simp_all [b2i]
theorem cat0 : (([] : List Value).map fun v => v.category).sum ≤ 8 := by decide
theorem c00 {a b : Nat} : 0 ≤ a ∧ 0 ≤ b := ⟨Nat.zero_le _, Nat.zero_le _⟩
def icp (sp dp n : Int32) (n0 n1 : Nat) : Option (Nat × Nat × Nat) := if 0 ≤ sp ∧ 0 ≤ dp ∧ 0 ≤ n ∧ sp.toNatClampNeg + n.toNatClampNeg ≤ n0 ∧ dp.toNatClampNeg + n.toNatClampNeg ≤ n1 then some (sp.toNatClampNeg, dp.toNatClampNeg, n.toNatClampNeg) else none
theorem icp_eq {sp dp n : Int32} {n0 n1 : Nat} {q : Nat × Nat × Nat} (h : icp sp dp n n0 n1 = some q) : ¬ sp < 0 ∧ ¬ dp < 0 ∧ ¬ n < 0 ∧ sp.toNatClampNeg + n.toNatClampNeg ≤ n0 ∧ dp.toNatClampNeg + n.toNatClampNeg ≤ n1 ∧ q = (sp.toNatClampNeg, dp.toNatClampNeg, n.toNatClampNeg) := by
  unfold icp at h
  split at h
  · rename_i c
    obtain ⟨c1, c2, c3, c4, c5⟩ := c
    exact ⟨Int32.not_lt.mpr c1, Int32.not_lt.mpr c2, Int32.not_lt.mpr c3, c4, c5, (Option.some.inj h).symm⟩
  · cases h
theorem cE_cpA {h : Hp} {E : Ex} {sa sp da dp n : Nat} : ∀ b, b ≠ da → cE E (cpA h sa sp da dp n) b = cE E h b := by
  intro b hb
  have e2 : aI (cpA h sa sp da dp n) b = aI h b := by
    funext j
    show (if b = da then _ else h.2.1 b j) = h.2.1 b j
    rw [if_neg hb]
  unfold cE
  rw [e2]
  rfl
theorem aI_cpA {h : Hp} {sa sp da dp n : Nat} : aI (cpA h sa sp da dp n) da = va_cpy (aI h sa) (aI h da) sp dp n := by
  funext j
  show (if da = da then _ else h.2.1 da j) = _
  rw [if_pos rfl]
  rfl
section GY
variable {X : Xt} {own : String} {cc : ByteArray} {nL : Nat} {rt : Option FieldType} {D mc ms : Nat} {h : Hp} {k n pc : Nat} {lv : List (Nat × Value)} {st : List Value}
theorem g_acopy {idx sa da : Nat} {o0 o1 : Option Nat} {sp dp cn : Int32} {q : Nat × Nat × Nat} (C : Cx X own cc nL rt D mc ms) (hd : decode cc pc = .ok (.invokestatic idx, 3)) (L : Cond.methodLink own idx arraycopyName ∈ gw) (hk0 : kd sa = .inr (0, o0)) (hk1 : kd da = .inr (0, o1)) (h0 : sa < 110 ∨ sa < sz h) (h1 : da < 110 ∨ da < sz h) (hq : icp sp dp cn (alen h sa o0) (alen h da o1) = some q) (hst : st = []) (hD : 1 ≤ D) (next : G X (cpA h sa q.1 da q.2.1 q.2.2) k n (pc + 3) lv st) : G X h k n pc lv (.int cn :: .int dp :: .ref da :: .int sp :: .ref sa :: st) := by
  subst hst
  obtain ⟨p, l, e, R, s, m, args, below, meth, c, Q, E⟩ := X
  obtain ⟨hx, hb, hml, hown, hts, hO, hlk, hrt, hfr, hlo, hce, hsl, hbs, -⟩ := C
  intro H locs ls hR hS hl
  have h0 := sz_of hR h0
  have h1 := sz_of hR h1
  have hq0 := ws_at (E := E) h0
  have hq1 := ws_at (E := E) h1
  rw [cE_i hk0 (by omega)] at hq0
  rw [cE_i hk1 (by omega)] at hq1
  obtain ⟨c1, c2, c3, c4, c5, rfl⟩ := icp_eq hq
  simp only [List.map_cons, List.map_nil, cv_ref hR h0, cv_ref hR h1]
  intro T hT X0
  have nn : ∀ z : Int32, ¬ z < 0 → z.toInt = (z.toNatClampNeg : Int) := by
    intro z hz
    have h3 : 0 ≤ z.toInt := by
      have := Int32.not_lt.mp hz
      simpa using Int32.le_iff_toInt_le.mp this
    show z.toInt = ((z.toInt.toNat : Nat) : Int)
    omega
  have hc0 : H[E.2.2.1 + sa]? = some (vp_cell (E.2.1 0) (alen h sa o0, .inl (aI h sa))) := hR.2.2.2 sa _ hq0
  have hc1 : H[E.2.2.1 + da]? = some (vp_cell (E.2.1 0) (alen h da o1, .inl (aI h da))) := hR.2.2.2 da _ hq1
  obtain ⟨-, k0, hk0', cm0, hkk0⟩ := (hO.1.2 0 _ rfl).1 (alen h sa o0) (fun j => .int (aI h sa j))
  obtain ⟨-, k1, hk1', cm1, hkk1⟩ := (hO.1.2 0 _ rfl).1 (alen h da o1) (fun j => .int (aI h da j))
  have hnw : nativeFrameWords "java/lang/System" "arraycopy" 5 + 11 ≤ 60 := by decide +kernel
  obtain ⟨vm', X', step⟩ := X0.arraycopy hx hown (hts _ L) (hts _ ac_nat) (hts _ ac_st) (hts _ ac_in) (src := E.2.2.1 + sa) (dst := E.2.2.1 + da) (cs := vp_cell (E.2.1 0) (alen h sa o0, .inl (aI h sa))) (cd := vp_cell (E.2.1 0) (alen h da o1, .inl (aI h da))) (srcPos := sp) (destPos := dp) (n := cn) (by rw [hT]; exact hc0) (by rw [hT]; exact hc1)
    (fun _ h => by cases h) (fun _ h => by cases h) (fun h => by cases h) (fun h => by cases h) hk0' hk1' hkk0 hkk1 (by rfl) c1 c2 c3
    (by rw [nn sp c1, nn cn c3]; show ¬ _ > ((arrV _ (alen h sa o0) (fun j => .int (aI h sa j))).slots.size : Int); rw [arrV_size]; omega)
    (by rw [nn dp c2, nn cn c3]; show ¬ _ > ((arrV _ (alen h da o1) (fun j => .int (aI h da j))).slots.size : Int); rw [arrV_size]; omega)
    (fun vm₁ _ i hi => by
      have e9 : (vp_cell (E.2.1 0) (alen h sa o0, .inl (aI h sa))).slots.getD (sp.toNatClampNeg + i) .null = .int (aI h sa (sp.toNatClampNeg + i)) := by
        show (arrV _ _ (fun j => .int (aI h sa j))).slots.getD _ _ = _
        rw [Array.getD_eq_getD_getElem?, arrV_read _ _ (by omega)]
        rfl
      refine ⟨?_, ?_⟩
      · rw [e9]; rfl
      · rw [e9]; exact trivial)
    (g := F0 m pc ls (.int cn :: .int dp :: .ref (E.2.2.1 + da) :: .int sp :: .ref (E.2.2.1 + sa) :: [])) rfl hl.1 (rest := []) rfl (by rw [hb]; exact hd) (by omega) (by show 2 * 0 + 0 + _ ≤ _; omega)
  have e1 : copied (vp_cell (E.2.1 0) (alen h sa o0, .inl (aI h sa))) (vp_cell (E.2.1 0) (alen h da o1, .inl (aI h da))) sp dp cn = vp_cell (E.2.1 0) (alen h da o1, .inl (va_cpy (aI h sa) (aI h da) sp.toNatClampNeg dp.toNatClampNeg cn.toNatClampNeg)) := va_copied (fun z => .int z) _ _ (aI h sa) (aI h da) c4
  rw [e1] at X' step
  have hlt : E.2.2.1 + da < H.size := (Array.getElem?_eq_some_iff.mp hc1).1
  have oq : ∀ q : Nat, q ≠ E.2.2.1 + da → (H.setIfInBounds (E.2.2.1 + da) (vp_cell (E.2.1 0) (alen h da o1, .inl (va_cpy (aI h sa) (aI h da) sp.toNatClampNeg dp.toNatClampNeg cn.toNatClampNeg))))[q]? = H[q]? := fun q hq => by simp [Array.getElem?_setIfInBounds, Ne.symm hq]
  obtain ⟨t, a1, b1⟩ := next (H.setIfInBounds (E.2.2.1 + da) _) _ ls (Rl_put hR h1 rfl (by simp) cE_cpA oq (by
      rw [cE_i hk1 (by omega), aI_cpA]
      show (H.setIfInBounds (E.2.2.1 + da) _)[E.2.2.1 + da]? = some _
      simp [Array.getElem?_setIfInBounds, hlt]
      rfl)) ⟨by simp; exact hS.1, fun q g1 g2 => by
      rw [oq q (fun e => g2 (by rw [e]; exact Nat.le_add_right _ _))]
      exact hS.2.1 q g1 g2, fun q hq => by
      rcases List.mem_append.mp hq with h | h
      · exact hS.2.2 q h
      · obtain ⟨z, -, hz⟩ := List.mem_map.mp h
        rw [← hz]
        exact Nat.le_add_right _ _⟩ hl _ (by rw [← hT]; rfl) X'
  exact ⟨t, step t a1, b1⟩
end GY
