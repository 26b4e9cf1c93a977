/-! ===== both readers: clauses of laws ===== -/
def rA2 (a : Nat) : Prop := a = 8 ∨ a = 9
theorem rA_2 {h h' : Hp} (hf : Fr rA rF h h') : Fr rA2 rF h h' := Fr_mono hf (fun _ c => Or.inl c) (fun _ _ c => c)
theorem c_mark {h : Hp} {c w : Nat} (hc : c < 12) (hw : w < 6) (v : Int32) : f_X5_mark (nI c) (nI w) v h = some ((), sA h 9 (6 * c + w) v) := by
  unfold f_X5_mark
  rw [show ((6 : Int32)) = nI 6 from rfl, pk_mul, nI_add, Nat.mul_comm c 6, if_neg (nI_pos (by omega)), if_neg (show ¬ (72 : Int32) ≤ nI (6 * c + w) from nI_ge (a := 6 * c + w) (b := 72) (by omega) (by omega)), inb_nI (by omega) (by omega), Option.bind_some]
theorem CS_mark {T : Tok} {o : Bool} {h : Hp} {i s u j : Nat} {v : Int32} (hc : CS T o h i s u) : CS T o (sA h 9 j v) i s u := by
  obtain ⟨c1, c2, c3, c4, c5, c6, c7, c8⟩ := hc
  refine ⟨⟨?_, ?_⟩, c2, c3, c4, c5, c6, c7, c8⟩
  · rw [ps_aAn _ _ _ _ _ (by omega), ps_aAn _ _ _ _ _ (by omega)]; exact c1.1
  · rw [ps_aAn _ _ _ _ _ (by omega)]; exact c1.2
/-- the test behind "if", or none -/
def TsP (T : Tok) (o : Bool) (c : Nat → Int32) (m i1 s e : Nat) (τ : Env → Option Bool) : Prop := (tkd T m ≠ 23 ∧ i1 = m ∧ s = e ∧ τ = fun _ => some true) ∨ (tkd T m = 23 ∧ m < tN T ∧ s < e ∧ MT (okW o) c s e 0 τ ∧ RD (tkd T) (tvl T) (tN T) o 0 36 (m + 1) i1 τ)
theorem TsP_c {T : Tok} {o : Bool} {c c' : Nat → Int32} {m i1 s e : Nat} {τ : Env → Option Bool} (h : TsP T o c m i1 s e τ) (hc : ∀ j, 2 * s ≤ j → j < 2 * e → c' j = c j) : TsP T o c' m i1 s e τ := by
  rcases h with h | ⟨h1, h0, h2, h3, h4⟩
  · exact Or.inl h
  · exact Or.inr ⟨h1, h0, h2, MC_code h3 hc, h4⟩
theorem rd_if {T : Tok} {o : Bool} {hc hr : Hp} {i s u c : Nat} (hT : TF T) (hC : CS T o hc i s u) (hR : RS T o hr i u) (hsi : s ≤ i) (hc12 : c < 12) :
    ∃ bo hc' hr', f_X5_readIf (nI c) hc = some (bo, hc') ∧ ((f_X11_takes0 4 hr).bind fun v => if v.1 = true then (gr_B GD 0 0 v.2).bind fun v10 => some ((), v10.2) else some ((), v.2)) = some ((), hr') ∧ Fr rA2 rF hc hc' ∧ Fr noA yF hr hr' ∧ (bo = true → ∃ i' s' u' τ, CS T o hc' i' s' u' ∧ RS T o hr' i' u' ∧ i ≤ i' ∧ s ≤ s' ∧ s' + i ≤ s + i' ∧ (∀ j, j < 2 * s → aI hc' 8 j = aI hc 8 j) ∧ aI hc' 9 = upd (upd (aI hc 9) (6 * c + 4) (nI s)) (6 * c + 5) (nI s') ∧ TsP T o (aI hc' 8) i i' s s' τ) ∧ (bo = false → ∃ x, x ≤ tN T ∧ CF hc' (tps T x) ∧ fI hr' 81 21 = nI (tps T x) ∧ fI hr' 81 21 ≠ -1) := by
  have hN := hT.1
  have hin := hC.2.1
  have hC1 : CS T o (sA hc 9 (6 * c + 4) (nI s)) i s u := CS_mark hC
  have hr4 : ∀ q, q < 400 → (rk q = 4 ↔ q = 23) := by
    intro q hq
    by_cases h : q < 30
    · have : ∀ q, q < 30 → (rk q = 4 ↔ q = 23) := by decide
      exact this q h
    · rw [rk_hi (by omega)]; omega
  have e0 : f_X5_readIf (nI c) hc = (f_X5_takeIf (nI 23) (sA hc 9 (6 * c + 4) (nI s))).bind fun v3 => if v3.1 = true then (gr_A GD 0 0 v3.2).bind fun v10 => if v10.1 = true then j_X5_readIf_32 (nI c) 1 v10.2 else j_X5_readIf_32 (nI c) 0 v10.2 else j_X5_readIf_32 (nI c) 1 v3.2 := by
    unfold f_X5_readIf
    rw [show ((4 : Int32)) = nI 4 from rfl, c_mark hc12 (by decide), Option.bind_some, hC.2.2.2.2.1]
    rfl
  have e32 : ∀ (x : Bool) (h : Hp), j_X5_readIf_32 (nI c) (b2i x) h = some (x, sA h 9 (6 * c + 5) (fI h 4 8)) := by
    intro x h
    unfold j_X5_readIf_32
    rw [show ((5 : Int32)) = nI 5 from rfl, c_mark hc12 (by decide), Option.bind_some, i2b_b, Option.bind_some]
  by_cases hk : tkd T i = 23
  · have hi : i < tN T := kd_lt hT hin (by omega)
    obtain ⟨hc2, a1, -, a2, a3, a4⟩ := (c_takeIf hT hC1 23 (by decide)).1 hk
    obtain ⟨b1, b2⟩ := RS_go hR hi
    have hD := rd_testD (T := T) (o := o) hT 8 0 rfl
    obtain ⟨bo, hc3, hr3, d1, d2, d3, d4, d5, d6⟩ := hD hc2 (sF hr 81 19 (nI (i + 1))) (i + 1) s u GD GD a2 b1 (by omega) (by decide) (by decide)
    have eA : f_X5_readIf (nI c) hc = some (bo, sA hc3 9 (6 * c + 5) (fI hc3 4 8)) := by
      rw [e0, a1, Option.bind_some, if_pos rfl]
      dsimp only
      rw [show ((0 : Int32)) = nI 0 from rfl, d1, Option.bind_some]
      cases bo
      · rw [if_neg Bool.false_ne_true]; exact e32 false hc3
      · rw [if_pos rfl]; exact e32 true hc3
    have eB : ((f_X11_takes0 4 hr).bind fun v => if v.1 = true then (gr_B GD 0 0 v.2).bind fun v10 => some ((), v10.2) else some ((), v.2)) = some ((), hr3) := by
      rw [show ((4 : Int32)) = nI 4 from rfl, takes_eq hT hR (by decide) (show rk (tkd T i) = 4 by rw [hk]; rfl), Option.bind_some, if_pos rfl]
      dsimp only
      rw [show ((0 : Int32)) = nI 0 from rfl, d2, Option.bind_some]
    refine ⟨bo, _, hr3, eA, eB, Fr_tA (Fr_tr (Fr_sA (Or.inr rfl)) (Fr_tr (rA_2 a3) (rA_2 d3))) (Or.inr rfl), Fr_tr b2 d4, fun hb => ?_, fun hb => ?_⟩
    · subst hb
      obtain ⟨i', s', u', e1, e2, e3, e4, e5, τ, e6, e7⟩ := d6.1 rfl
      have n8 : aI (sA hc3 9 (6 * c + 5) (fI hc3 4 8)) 8 = aI hc3 8 := ps_aAn _ _ _ _ _ (by omega)
      refine ⟨i', s', u', τ, CS_mark e1, e2, by omega, by omega, by omega, fun j hj => ?_, ?_, Or.inr ⟨hk, hi, e4, ?_, e7⟩⟩
      · rw [n8, d5 rfl j hj, a4, ps_aAn _ _ _ _ _ (by omega)]
      · have n9 : aI hc3 9 = aI (sA hc 9 (6 * c + 4) (nI s)) 9 := by
          rw [d3.2.1 9 (by unfold rA; omega), a3.2.1 9 (by unfold rA; omega)]
        rw [ps_aAs, n9, ps_aAs, e1.2.2.2.2.1]
      · rw [n8]; exact e6
    · subst hb
      obtain ⟨x, x1, x2, x3, x4⟩ := d6.2 rfl
      exact ⟨x, x1, x2, x3, x4⟩
  · have eA : f_X5_readIf (nI c) hc = some (true, sA (sA hc 9 (6 * c + 4) (nI s)) 9 (6 * c + 5) (nI s)) := by
      rw [e0, (c_takeIf hT hC1 23 (by decide)).2 hk, Option.bind_some, if_neg Bool.false_ne_true]
      dsimp only
      have := e32 true (sA hc 9 (6 * c + 4) (nI s))
      rw [hC1.2.2.2.2.1] at this
      exact this
    have eB : ((f_X11_takes0 4 hr).bind fun v => if v.1 = true then (gr_B GD 0 0 v.2).bind fun v10 => some ((), v10.2) else some ((), v.2)) = some ((), hr) := by
      rw [show ((4 : Int32)) = nI 4 from rfl, (m_takes hT hR 4 (by decide) (by decide)).2 (fun e => hk ((hr4 _ (kd_bd hT hin)).mp e)), Option.bind_some, if_neg Bool.false_ne_true]
    refine ⟨true, _, hr, eA, eB, Fr_tA (Fr_sA (Or.inr rfl)) (Or.inr rfl), Fr_rfl, fun _ => ⟨i, s, u, fun _ => some true, CS_mark hC1, hR, Nat.le_refl _, Nat.le_refl _, Nat.le_refl _, fun j _ => ?_, ?_, Or.inl ⟨hk, rfl, rfl, rfl⟩⟩, fun c => (by cases c)⟩
    · rw [ps_aAn _ _ _ _ _ (by omega), ps_aAn _ _ _ _ _ (by omega)]
    · rw [ps_aAs, ps_aAs]
/-- a sum that is there, or isn't -/
def SmP (T : Tok) (o : Bool) (c : Nat → Int32) (has : Prop) (i m s e : Nat) (σ : Env → Option Int32) : Prop := (has ∧ i < m ∧ s < e ∧ MC (okW o) c s e 1 σ ∧ RC (tkd T) (tvl T) (tN T) o 0 27 i m σ) ∨ (¬ has ∧ i = m ∧ s = e)
theorem SmP_c {T : Tok} {o : Bool} {c c' : Nat → Int32} {has : Prop} {i m s e : Nat} {σ : Env → Option Int32} (h : SmP T o c has i m s e σ) (hc : ∀ j, 2 * s ≤ j → j < 2 * e → c' j = c j) : SmP T o c' has i m s e σ := by
  rcases h with ⟨h1, h2, h3, h4, h5⟩ | h
  · exact Or.inl ⟨h1, h2, h3, MC_code h4 hc, h5⟩
  · exact Or.inr h
/-- a clause of a law: kind q, tokens i0 to i1, code from f1 to f2 and f2 to f4 -/
def ClL (T : Tok) (c : Nat → Int32) (i0 i1 q f1 f2 f4 : Nat) (σ : Env → Option Int32) (τ : Env → Option Bool) : Prop := tkd T i0 = q ∧ (q = 13 ∨ q = 14 ∨ q = 15) ∧ i0 < tN T ∧ i1 ≤ tN T ∧ ∃ m, m ≤ tN T ∧ SmP T false c (q = 13) (i0 + 1) m f1 f2 σ ∧ TsP T false c m i1 f2 f4 τ
/-- the class's marks of clause c -/
def mkL (mk : Nat → Int32) (c q tm f1 f2 f3 f4 : Nat) : Prop := mk (6 * c) = nI q ∧ mk (6 * c + 1) = nI tm ∧ mk (6 * c + 2) = nI f1 ∧ mk (6 * c + 3) = nI f2 ∧ mk (6 * c + 4) = nI f3 ∧ mk (6 * c + 5) = nI f4
/-- a rule and the test behind it -/
def clsL (c : Nat) (h : Hp) : Option (Bool × Hp) := (f_X5_readRule (nI c) h).bind fun v => if v.1 = true then f_X5_readIf (nI c) v.2 else some (false, v.2)
theorem rd_law {T : Tok} {hc hr : Hp} {i s u c : Nat} (hT : TF T) (hC : CS T false hc i s u) (hR : RS T false hr i u) (hsi : s ≤ i) (hc12 : c < 12) :
    ∃ bo hc' hr', clsL c hc = some (bo, hc') ∧ f_X11_readClause hr = some ((), hr') ∧ Fr rA2 rF hc hc' ∧ Fr noA yF hr hr' ∧ (bo = true → ∃ i' s' u' q f2 σ τ, CS T false hc' i' s' u' ∧ RS T false hr' i' u' ∧ i < i' ∧ s ≤ s' ∧ s' + i ≤ s + i' ∧ (∀ j, j < 2 * s → aI hc' 8 j = aI hc 8 j) ∧ (∀ j, j < 6 * c → aI hc' 9 j = aI hc 9 j) ∧ mkL (aI hc' 9) c q 1 s f2 f2 s' ∧ f2 ≤ s' ∧ s ≤ f2 ∧ ClL T (aI hc' 8) i i' q s f2 s' σ τ) ∧ (bo = false → ∃ x, x ≤ tN T ∧ CF hc' (tps T x) ∧ fI hr' 81 21 = nI (tps T x) ∧ fI hr' 81 21 ≠ -1) := by
  have hN := hT.1
  have hin := hC.2.1
  have hkb := kd_bd hT hin
  have hq : ∀ q c', (q, c') ∈ [(13, 1), (14, 2), (15, 3)] → ∀ x, x < 400 → (rk x = c' ↔ x = q) := by
    intro q c' hm x hx
    by_cases h : x < 30
    · have : ∀ x, x < 30 → ∀ y ∈ [((13 : Nat), (1 : Nat)), (14, 2), (15, 3)], (rk x = y.2 ↔ x = y.1) := by decide
      exact this x h (q, c') hm
    · rw [rk_hi (by omega)]
      simp only [List.mem_cons, Prod.mk.injEq, List.not_mem_nil, or_false] at hm
      omega
  by_cases hk : tkd T i = 13 ∨ tkd T i = 14 ∨ tkd T i = 15
  · have hi : i < tN T := kd_lt hT hin (by omega)
    obtain ⟨hc1, a1, a2, a3, a4⟩ := c_goOn hT hC hi
    obtain ⟨b1, b2⟩ := RS_go hR hi
    have C2 : CS T false (sA (sA (sA hc1 9 (6 * c + 0) (nI (tkd T i))) 9 (6 * c + 1) (nI 1)) 9 (6 * c + 2) (nI s)) (i + 1) s u := CS_mark (CS_mark (CS_mark a2))
    have n8 : aI (sA (sA (sA hc1 9 (6 * c + 0) (nI (tkd T i))) 9 (6 * c + 1) (nI 1)) 9 (6 * c + 2) (nI s)) 8 = aI hc 8 := by
      rw [ps_aAn _ _ _ _ _ (by omega), ps_aAn _ _ _ _ _ (by omega), ps_aAn _ _ _ _ _ (by omega), a4]
    have n9 : aI (sA (sA (sA hc1 9 (6 * c + 0) (nI (tkd T i))) 9 (6 * c + 1) (nI 1)) 9 (6 * c + 2) (nI s)) 9 = upd (upd (upd (aI hc 9) (6 * c + 0) (nI (tkd T i))) (6 * c + 1) (nI 1)) (6 * c + 2) (nI s) := by
      rw [ps_aAs, ps_aAs, ps_aAs, a3.2.1 9 (by unfold rA; omega)]
    have F2 : Fr rA2 rF hc (sA (sA (sA hc1 9 (6 * c + 0) (nI (tkd T i))) 9 (6 * c + 1) (nI 1)) 9 (6 * c + 2) (nI s)) := Fr_tA (Fr_tA (Fr_tA (rA_2 a3) (Or.inr rfl)) (Or.inr rfl)) (Or.inr rfl)
    have eR : f_X5_readRule (nI c) hc = if nI (tkd T i) = 13 then (gr_A GD 4 0 (sA (sA (sA hc1 9 (6 * c + 0) (nI (tkd T i))) 9 (6 * c + 1) (nI 1)) 9 (6 * c + 2) (nI s))).bind fun v15 => if v15.1 = true then j_X5_readRule_75 (nI c) 1 v15.2 else j_X5_readRule_75 (nI c) 0 v15.2 else j_X5_readRule_75 (nI c) 1 (sA (sA (sA hc1 9 (6 * c + 0) (nI (tkd T i))) 9 (6 * c + 1) (nI 1)) 9 (6 * c + 2) (nI s)) := by
      have e28 : f_X5_readRule (nI c) hc = j_X5_readRule_28 (nI c) (nI (tkd T i)) hc := by
        unfold f_X5_readRule
        rw [hC.2.2.2.1]
        rcases hk with e | e | e
        · rw [e, if_pos (by decide)]
        · rw [e, if_neg (by decide), if_pos (by decide)]
        · rw [e, if_neg (by decide), if_neg (by decide), if_pos (by decide)]
      rw [e28]
      unfold j_X5_readRule_28
      rw [a1, Option.bind_some]
      dsimp only
      rw [show ((0 : Int32)) = nI 0 from rfl, show ((1 : Int32)) = nI 1 from rfl, show ((2 : Int32)) = nI 2 from rfl, c_mark hc12 (by decide), Option.bind_some, c_mark hc12 (by decide), Option.bind_some, c_mark hc12 (by decide), Option.bind_some]
      have : fI (sA (sA hc1 9 (6 * c + 0) (nI (tkd T i))) 9 (6 * c + 1) (nI 1)) 4 8 = nI s := a2.2.2.2.2.1
      rw [this]
    generalize sA (sA (sA hc1 9 (6 * c + 0) (nI (tkd T i))) 9 (6 * c + 1) (nI 1)) 9 (6 * c + 2) (nI s) = hc2 at C2 n8 n9 F2 eR
    have e75 : ∀ (x : Bool) (h : Hp), j_X5_readRule_75 (nI c) (b2i x) h = some (x, sA h 9 (6 * c + 3) (fI h 4 8)) := by
      intro x h
      unfold j_X5_readRule_75
      rw [show ((3 : Int32)) = nI 3 from rfl, c_mark hc12 (by decide), Option.bind_some, i2b_b, Option.bind_some]
    have e29 : ∀ h, j_X11_readClause_29 h = ((f_X11_takes0 4 h).bind fun v => if v.1 = true then (gr_B GD 0 0 v.2).bind fun v10 => some ((), v10.2) else some ((), v.2)) := fun h => rfl
    have F29 : ∀ h, fI h 81 21 ≠ -1 → j_X11_readClause_29 h = some ((), h) := by
      intro h hb
      unfold j_X11_readClause_29
      rw [m_takesF hb, Option.bind_some, if_neg Bool.false_ne_true]
    -- what stands ahead of the test
    have mid : ∃ bo hc3 hr3, f_X5_readRule (nI c) hc = some (bo, sA hc3 9 (6 * c + 3) (fI hc3 4 8)) ∧ f_X11_readClause hr = j_X11_readClause_29 hr3 ∧ Fr rA2 rF hc hc3 ∧ Fr noA yF hr hr3 ∧ (bo = true → ∃ m f2 u' σ, CS T false hc3 m f2 u' ∧ RS T false hr3 m u' ∧ i < m ∧ s ≤ f2 ∧ f2 + i ≤ s + m ∧ (∀ j, j < 2 * s → aI hc3 8 j = aI hc 8 j) ∧ aI hc3 9 = aI hc2 9 ∧ SmP T false (aI hc3 8) (tkd T i = 13) (i + 1) m s f2 σ) ∧ (bo = false → ∃ x, x ≤ tN T ∧ CF hc3 (tps T x) ∧ fI hr3 81 21 = nI (tps T x) ∧ fI hr3 81 21 ≠ -1) := by
      by_cases h13 : tkd T i = 13
      · have hD := rd_sumD (T := T) (o := false) hT 8 0 rfl
        obtain ⟨bo, hc3, hr3, d1, d2, d3, d4, d5, d6⟩ := hD hc2 (sF hr 81 19 (nI (i + 1))) (i + 1) s u GD GD C2 b1 (by omega) (by decide) (by decide)
        refine ⟨bo, hc3, hr3, ?_, ?_, Fr_tr F2 (rA_2 d3), Fr_tr b2 d4, fun hb => ?_, fun hb => ?_⟩
        · rw [eR, if_pos (show nI (tkd T i) = 13 by rw [h13]; rfl), show ((0 : Int32)) = nI 0 from rfl, d1, Option.bind_some]
          cases bo
          · rw [if_neg Bool.false_ne_true]; exact e75 false hc3
          · rw [if_pos rfl]; exact e75 true hc3
        · unfold f_X11_readClause
          rw [show ((1 : Int32)) = nI 1 from rfl, takes_eq hT hR (by decide) (show rk (tkd T i) = 1 by rw [h13]; rfl), Option.bind_some, if_pos rfl]
          dsimp only
          rw [show ((0 : Int32)) = nI 0 from rfl, d2, Option.bind_some]
        · subst hb
          obtain ⟨i', s', u', e1, e2, e3, e4, e5, σ, e6, e7⟩ := d6.1 rfl
          exact ⟨i', s', u', σ, e1, e2, by omega, by omega, by omega, fun j hj => by rw [d5 rfl j hj, n8], d3.2.1 9 (by unfold rA; omega), Or.inl ⟨h13, e3, e4, e6, e7⟩⟩
        · subst hb
          exact d6.2 rfl
      · refine ⟨true, hc2, sF hr 81 19 (nI (i + 1)), ?_, ?_, F2, b2, fun _ => ⟨i + 1, s, u, fun _ => some 1, C2, b1, by omega, by omega, by omega, fun j _ => by rw [n8], rfl, Or.inr ⟨h13, rfl, rfl⟩⟩, fun c => (by cases c)⟩
        · rw [eR, if_neg (show ¬ nI (tkd T i) = 13 from fun e => h13 ((nI_eq (by omega) (by omega)).mp (show nI _ = nI 13 from e)))]
          exact e75 true hc2
        · unfold f_X11_readClause
          rw [show ((1 : Int32)) = nI 1 from rfl, (m_takes hT hR 1 (by decide) (by decide)).2 (fun e => h13 ((hq 13 1 (by decide) _ hkb).mp e)), Option.bind_some, if_neg Bool.false_ne_true]
          dsimp only
          by_cases h14 : tkd T i = 14
          · rw [show ((2 : Int32)) = nI 2 from rfl, takes_eq hT hR (by decide) (show rk (tkd T i) = 2 by rw [h14]; rfl), Option.bind_some, if_pos rfl]
          · rw [show ((2 : Int32)) = nI 2 from rfl, (m_takes hT hR 2 (by decide) (by decide)).2 (fun e => h14 ((hq 14 2 (by decide) _ hkb).mp e)), Option.bind_some, if_neg Bool.false_ne_true]
            dsimp only
            unfold f_X11_must
            rw [show ((3 : Int32)) = nI 3 from rfl, takes_eq hT hR (by decide) (show rk (tkd T i) = 3 by rw [show tkd T i = 15 by omega]; rfl), Option.bind_some, if_pos rfl, Option.bind_some]
    obtain ⟨bo, hc3, hr3, m1, m2, m3, m4, m5, m6⟩ := mid
    cases bo with
    | false =>
      obtain ⟨x, x1, x2, x3, x4⟩ := m6 rfl
      refine ⟨false, sA hc3 9 (6 * c + 3) (fI hc3 4 8), hr3, ?_, by rw [m2, F29 _ x4], Fr_tA m3 (Or.inr rfl), m4, fun c => (by cases c), fun _ => ⟨x, x1, x2, x3, x4⟩⟩
      unfold clsL
      rw [m1, Option.bind_some, if_neg Bool.false_ne_true]
    | true =>
      obtain ⟨m, f2, u', σ, p1, p2, p3, p4, p5, p6, p7, p8⟩ := m5 rfl
      rw [p1.2.2.2.2.1] at m1
      have C4 : CS T false (sA hc3 9 (6 * c + 3) (nI f2)) m f2 u' := CS_mark p1
      obtain ⟨bo2, hc5, hr5, i1, i2, i3, i4, i5, i6⟩ := rd_if hT C4 p2 (by omega) hc12
      refine ⟨bo2, hc5, hr5, ?_, by rw [m2, e29, i2], Fr_tr (Fr_tA m3 (Or.inr rfl)) i3, Fr_tr m4 i4, fun hb => ?_, i6⟩
      · unfold clsL
        rw [m1, Option.bind_some, if_pos rfl]
        exact i1
      · obtain ⟨i', s', u2, τ, t1, t2, t3, t4, t5, t6, t7, t8⟩ := i5 hb
        have x8 : ∀ j, j < 2 * f2 → aI hc5 8 j = aI hc3 8 j := fun j hj => by rw [t6 j hj, ps_aAn _ _ _ _ _ (by omega)]
        have x9 : aI hc5 9 = upd (upd (upd (upd (upd (upd (aI hc 9) (6 * c + 0) (nI (tkd T i))) (6 * c + 1) (nI 1)) (6 * c + 2) (nI s)) (6 * c + 3) (nI f2)) (6 * c + 4) (nI f2)) (6 * c + 5) (nI s') := by
          rw [t7, ps_aAs, p7, n9]
        refine ⟨i', s', u2, tkd T i, f2, σ, τ, t1, t2, by omega, by omega, by omega, fun j hj => by rw [x8 j (by omega), p6 j hj], fun j hj => ?_, ⟨?_, ?_, ?_, ?_, ?_, ?_⟩, t4, p4, rfl, hk, hi, t1.2.1, m, p1.2.1, SmP_c p8 (fun j j1 j2 => x8 j (by omega)), t8⟩
        · rw [x9, pk_un (by omega), pk_un (by omega), pk_un (by omega), pk_un (by omega), pk_un (by omega), pk_un (by omega)]
        · rw [x9, pk_un (by omega), pk_un (by omega), pk_un (by omega), pk_un (by omega), pk_un (by omega)]; exact pk_us
        · rw [x9, pk_un (by omega), pk_un (by omega), pk_un (by omega), pk_un (by omega), pk_us]
        · rw [x9, pk_un (by omega), pk_un (by omega), pk_un (by omega), pk_us]
        · rw [x9, pk_un (by omega), pk_un (by omega), pk_us]
        · rw [x9, pk_un (by omega), pk_us]
        · rw [x9, pk_us]
  · obtain ⟨hc1, a1, a2, a3, a4⟩ := c_wrong hT hC (show s ≤ 400 by omega)
    obtain ⟨hr1, b1, b2, b3, b4⟩ := (m_must hT hR 3 (by decide) (by decide)).2 (fun e => hk (Or.inr (Or.inr ((hq 15 3 (by decide) _ hkb).mp e))))
    refine ⟨false, hc1, hr1, ?_, ?_, rA_2 a3, b4, fun c => (by cases c), fun _ => ⟨i, hin, a2, b2, b3⟩⟩
    · unfold clsL f_X5_readRule
      rw [hC.2.2.2.1, if_neg (show ¬ nI (tkd T i) = 13 from fun e => hk (Or.inl ((nI_eq (by omega) (by omega)).mp (show nI _ = nI 13 from e)))), if_neg (show ¬ nI (tkd T i) = 14 from fun e => hk (Or.inr (Or.inl ((nI_eq (by omega) (by omega)).mp (show nI _ = nI 14 from e))))), if_neg (show ¬ nI (tkd T i) = 15 from fun e => hk (Or.inr (Or.inr ((nI_eq (by omega) (by omega)).mp (show nI _ = nI 15 from e))))), a1, Option.bind_some, Option.bind_some, if_neg Bool.false_ne_true]
    · unfold f_X11_readClause
      rw [show ((1 : Int32)) = nI 1 from rfl, (m_takes hT hR 1 (by decide) (by decide)).2 (fun e => hk (Or.inl ((hq 13 1 (by decide) _ hkb).mp e))), Option.bind_some, if_neg Bool.false_ne_true]
      dsimp only
      rw [show ((2 : Int32)) = nI 2 from rfl, (m_takes hT hR 2 (by decide) (by decide)).2 (fun e => hk (Or.inr (Or.inl ((hq 14 2 (by decide) _ hkb).mp e)))), Option.bind_some, if_neg Bool.false_ne_true]
      dsimp only
      rw [show ((3 : Int32)) = nI 3 from rfl, b1, Option.bind_some]
      unfold j_X11_readClause_29
      rw [m_takesF b3, Option.bind_some, if_neg Bool.false_ne_true]
