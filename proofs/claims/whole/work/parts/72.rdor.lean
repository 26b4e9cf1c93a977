/-! ===== both readers: orders ===== -/
theorem rk_w {q c : Nat} (hm : (q, c) ∈ [(16, 21), (17, 23), (18, 24), (19, 26), (20, 22), (21, 25), (22, 27)]) {x : Nat} (hx : x < 400) : rk x = c ↔ x = q := by
  by_cases h : x < 30
  · have : ∀ x, x < 30 → ∀ y ∈ [((16 : Nat), (21 : Nat)), (17, 23), (18, 24), (19, 26), (20, 22), (21, 25), (22, 27)], (rk x = y.2 ↔ x = y.1) := by decide
    exact this x h (q, c) hm
  · rw [rk_hi (by omega)]
    simp only [List.mem_cons, Prod.mk.injEq, List.not_mem_nil, or_false] at hm
    omega
def Fails (T : Tok) (hc hr : Hp) : Prop := ∃ x, x ≤ tN T ∧ CF hc (tps T x) ∧ fI hr 81 21 = nI (tps T x) ∧ fI hr 81 21 ≠ -1
/-- how many times -/
def TmP (T : Tok) (m m3 tm : Nat) : Prop := (tkd T m = 22 ∧ m + 1 < tN T ∧ tvl T (m + 1) = tm ∧ 1 ≤ tm ∧ tm ≤ 20 ∧ m3 = m + 2) ∨ (tkd T m ≠ 22 ∧ tm = 1 ∧ m3 = m)
theorem rd_times {T : Tok} {o : Bool} {hc hr : Hp} {m s u c : Nat} (hT : TF T) (hC : CS T o hc m s u) (hR : RS T o hr m u) (hs : s ≤ 400) (hc12 : c < 12) :
    ∃ bo hc' hr', f_X5_readTimes (nI c) hc = some (bo, hc') ∧ j_X11_readOrder_79 hr = j_X11_readOrder_95 hr' ∧ Fr rA2 rF hc hc' ∧ Fr noA yF hr hr' ∧ (bo = true → ∃ m3 tm, CS T o hc' m3 s u ∧ RS T o hr' m3 u ∧ m ≤ m3 ∧ aI hc' 8 = aI hc 8 ∧ (∀ j, j ≠ 6 * c + 1 → aI hc' 9 j = aI hc 9 j) ∧ aI hc' 9 (6 * c + 1) = nI tm ∧ TmP T m m3 tm) ∧ (bo = false → Fails T hc' hr') := by
  have hN := hT.1
  have hin := hC.2.1
  have C1 : CS T o (sA hc 9 (6 * c + 1) (nI 1)) m s u := CS_mark hC
  have F1 : Fr rA2 rF hc (sA hc 9 (6 * c + 1) (nI 1)) := Fr_sA (Or.inr rfl)
  have n8 : aI (sA hc 9 (6 * c + 1) (nI 1)) 8 = aI hc 8 := ps_aAn _ _ _ _ _ (by omega)
  have n9 : aI (sA hc 9 (6 * c + 1) (nI 1)) 9 = upd (aI hc 9) (6 * c + 1) (nI 1) := ps_aAs _ _ _ _
  have eT : f_X5_readTimes (nI c) hc = (f_X5_takeIf (nI 22) (sA hc 9 (6 * c + 1) (nI 1))).bind fun v3 => if v3.1 = true then (f_X5_numberHere v3.2).bind fun v6 => if v6 < 1 then j_X5_readTimes_34 v3.2 else if v6 ≤ 20 then (f_X5_goOn v3.2).bind fun v12 => (f_X5_mark (nI c) 1 v6 v12.2).bind fun v14 => some (true, v14.2) else j_X5_readTimes_34 v3.2 else some (true, v3.2) := by
    unfold f_X5_readTimes
    have := c_mark (h := hc) hc12 (show 1 < 6 by decide) (nI 1)
    rw [show f_X5_mark (nI c) 1 1 hc = _ from this, Option.bind_some]
    rfl
  generalize sA hc 9 (6 * c + 1) (nI 1) = h1 at C1 F1 n8 n9 eT
  by_cases hk : tkd T m = 22
  · obtain ⟨h2, a1, hi, a2, a3, a4⟩ := (c_takeIf hT C1 22 (by decide)).1 hk
    obtain ⟨b1, b2⟩ := RS_go hR hi
    have eB : j_X11_readOrder_79 hr = (f_X11_mustNumber (nI 1) (nI 20) (sF hr 81 19 (nI (m + 1)))).bind fun v20 => j_X11_readOrder_95 v20.2 := by
      unfold j_X11_readOrder_79
      rw [show ((27 : Int32)) = nI 27 from rfl, takes_eq hT hR (by decide) (show rk (tkd T m) = 27 by rw [hk]; rfl), Option.bind_some, if_pos rfl]
      rfl
    rw [eT, a1, Option.bind_some, if_pos rfl]
    dsimp only
    rw [c_num hT a2, Option.bind_some, eB]
    obtain ⟨m1, m2⟩ := m_mn hT b1 1 20 (by omega) (by omega)
    by_cases hn : tkd T (m + 1) = 28 ∧ 1 ≤ tvl T (m + 1) ∧ tvl T (m + 1) ≤ 20
    · obtain ⟨hr2, g1, g2, g3, g4⟩ := m1 hn
      obtain ⟨h3, q1, q2, q3, q4⟩ := c_goOn hT a2 g2
      refine ⟨true, sA h3 9 (6 * c + 1) (nI (tvl T (m + 1))), hr2, ?_, by rw [g1, Option.bind_some], Fr_tA (Fr_tr F1 (Fr_tr (rA_2 a3) (rA_2 q3))) (Or.inr rfl), Fr_tr b2 g4, fun _ => ⟨m + 2, tvl T (m + 1), CS_mark q2, g3, by omega, ?_, fun j hj => ?_, aI_s, Or.inl ⟨hk, g2, rfl, hn.2.1, hn.2.2, rfl⟩⟩, fun c => (by cases c)⟩
      · rw [if_pos hn.1, Nat.min_eq_left (by omega), if_neg (show ¬ nI (tvl T (m + 1)) < 1 from nI_nlt (a := tvl T (m + 1)) (b := 1) hn.2.1 (by omega)), if_pos (show nI (tvl T (m + 1)) ≤ 20 from nI_le (a := tvl T (m + 1)) (b := 20) hn.2.2 (by omega)), q1, Option.bind_some]
        dsimp only
        have := c_mark (h := h3) hc12 (show 1 < 6 by decide) (nI (tvl T (m + 1)))
        rw [show f_X5_mark (nI c) 1 (nI (tvl T (m + 1))) h3 = _ from this, Option.bind_some]
      · rw [ps_aAn _ _ _ _ _ (by omega), q4, a4, n8]
      · rw [aI_n hj, q3.2.1 9 (by unfold rA; omega), a3.2.1 9 (by unfold rA; omega), n9, pk_un hj]
    · obtain ⟨hr2, g1, g2, g3, g4⟩ := m2 hn
      obtain ⟨h3, w1, w2, w3, w4⟩ := c_wrong hT a2 hs
      have e34 : j_X5_readTimes_34 h2 = some (false, h3) := by
        unfold j_X5_readTimes_34
        rw [w1, Option.bind_some]
      refine ⟨false, h3, hr2, ?_, by rw [g1, Option.bind_some], Fr_tr F1 (Fr_tr (rA_2 a3) (rA_2 w3)), Fr_tr b2 g4, fun c => (by cases c), fun _ => ⟨m + 1, a2.2.1, w2, g2, g3⟩⟩
      have hv := hT.2.2.2.2 (m + 1)
      by_cases c28 : tkd T (m + 1) = 28
      · rw [if_pos c28]
        by_cases c1 : 1 ≤ tvl T (m + 1)
        · rw [if_neg (show ¬ nI (min (tvl T (m + 1)) 1001) < 1 from nI_nlt (a := min (tvl T (m + 1)) 1001) (b := 1) (by omega) (by omega)), if_neg (show ¬ nI (min (tvl T (m + 1)) 1001) ≤ 20 from nI_ge (a := 20) (b := min (tvl T (m + 1)) 1001) (by omega) (by omega)), e34]
        · rw [if_pos (show nI (min (tvl T (m + 1)) 1001) < 1 from nI_lt (a := min (tvl T (m + 1)) 1001) (b := 1) (by omega) (by omega)), e34]
      · rw [if_neg c28, if_pos (by decide), e34]
  · refine ⟨true, h1, hr, ?_, ?_, F1, Fr_rfl, fun _ => ⟨m, 1, C1, hR, Nat.le_refl _, n8, fun j hj => by rw [n9, pk_un hj], by rw [n9, pk_us], Or.inr ⟨hk, rfl, rfl⟩⟩, fun c => (by cases c)⟩
    · rw [eT, (c_takeIf hT C1 22 (by decide)).2 hk, Option.bind_some, if_neg Bool.false_ne_true]
    · unfold j_X11_readOrder_79
      rw [show ((27 : Int32)) = nI 27 from rfl, (m_takes hT hR 27 (by decide) (by decide)).2 (fun e => hk ((rk_w (by decide) (kd_bd hT hin)).mp e)), Option.bind_some, if_neg Bool.false_ne_true]
/-- the second sum of an order -/
def Sm2 (T : Tok) (c : Nat → Int32) (q m1 m2 f2 f3 : Nat) (σ : Env → Option Int32) : Prop := ((q = 16 ∨ q = 18) ∧ tkd T m1 = (if q = 16 then 20 else 21) ∧ m1 < tN T ∧ m1 < m2 ∧ f2 < f3 ∧ MC (okW true) c f2 f3 1 σ ∧ RC (tkd T) (tvl T) (tN T) true 0 27 (m1 + 1) m2 σ) ∨ (¬ (q = 16 ∨ q = 18) ∧ m2 = m1 ∧ f3 = f2)
/-- the reference behind the first sum -/
def ref2 (q : Nat) (h : Hp) : Option (Unit × Hp) := if q = 16 then (f_X11_must 22 h).bind fun v32 => (gr_B GD 3 0 v32.2).bind fun v34 => j_X11_readOrder_79 v34.2 else if q = 18 then (f_X11_must 25 h).bind fun v26 => (gr_B GD 3 0 v26.2).bind fun v28 => j_X11_readOrder_79 v28.2 else j_X11_readOrder_79 h
theorem ref2_F {h : Hp} (hb : fI h 81 21 ≠ -1) (q : Nat) : ref2 q h = some ((), h) := by
  have g3 := (gB_F hb 0).2.2.1 57
  have f79 : j_X11_readOrder_79 h = some ((), h) := by
    unfold j_X11_readOrder_79
    rw [m_takesF hb, Option.bind_some, if_neg Bool.false_ne_true]
    unfold j_X11_readOrder_95
    rw [m_takesF hb, Option.bind_some, if_neg Bool.false_ne_true]
  have g4 : gr_B GD 3 0 h = some ((), h) := g3
  unfold ref2
  split
  · rw [m_mustF hb, Option.bind_some, g4, Option.bind_some, f79]
  · split
    · rw [m_mustF hb, Option.bind_some, g4, Option.bind_some, f79]
    · exact f79
theorem f95_F {h : Hp} (hb : fI h 81 21 ≠ -1) : j_X11_readOrder_95 h = some ((), h) := by
  unfold j_X11_readOrder_95
  rw [m_takesF hb, Option.bind_some, if_neg Bool.false_ne_true]
theorem rd_two {T : Tok} {hc hr : Hp} {m1 f2 u c q : Nat} (hT : TF T) (hC : CS T true hc m1 f2 u) (hR : RS T true hr m1 u) (hsi : f2 ≤ m1) (hc12 : c < 12) (hq : q = 16 ∨ q = 17 ∨ q = 18 ∨ q = 19) :
    ∃ bo hc' hr', j_X5_readOrder_71 (nI c) (nI q) hc = some (bo, hc') ∧ ref2 q hr = j_X11_readOrder_95 hr' ∧ Fr rA2 rF hc hc' ∧ Fr noA yF hr hr' ∧ (bo = true → ∃ m2 m3 f3 u' tm σ, CS T true hc' m3 f3 u' ∧ RS T true hr' m3 u' ∧ m1 ≤ m3 ∧ m2 ≤ m3 ∧ f2 ≤ f3 ∧ f3 + m1 ≤ f2 + m3 ∧ (∀ j, j < 2 * f2 → aI hc' 8 j = aI hc 8 j) ∧ (∀ j, j ≠ 6 * c + 1 → j ≠ 6 * c + 3 → aI hc' 9 j = aI hc 9 j) ∧ aI hc' 9 (6 * c + 1) = nI tm ∧ aI hc' 9 (6 * c + 3) = nI f2 ∧ Sm2 T (aI hc' 8) q m1 m2 f2 f3 σ ∧ TmP T m2 m3 tm) ∧ (bo = false → Fails T hc' hr') := by
  have hN := hT.1
  have hin := hC.2.1
  have C1 : CS T true (sA hc 9 (6 * c + 3) (nI f2)) m1 f2 u := CS_mark hC
  have F1 : Fr rA2 rF hc (sA hc 9 (6 * c + 3) (nI f2)) := Fr_sA (Or.inr rfl)
  have n8 : aI (sA hc 9 (6 * c + 3) (nI f2)) 8 = aI hc 8 := ps_aAn _ _ _ _ _ (by omega)
  have n9 : aI (sA hc 9 (6 * c + 3) (nI f2)) 9 = upd (aI hc 9) (6 * c + 3) (nI f2) := ps_aAs _ _ _ _
  have e71 : j_X5_readOrder_71 (nI c) (nI q) hc = if q = 16 then j_X5_readOrder_107 (nI c) (nI 20) (sA hc 9 (6 * c + 3) (nI f2)) else if q = 18 then j_X5_readOrder_107 (nI c) (nI 21) (sA hc 9 (6 * c + 3) (nI f2)) else j_X5_readOrder_128 (nI c) (sA hc 9 (6 * c + 3) (nI f2)) := by
    unfold j_X5_readOrder_71
    rw [show ((3 : Int32)) = nI 3 from rfl, c_mark hc12 (by decide), Option.bind_some, hC.2.2.2.2.1]
    dsimp only
    unfold j_X5_readOrder_93
    rcases hq with e | e | e | e <;> subst e
    · rw [if_pos (by decide), if_pos (by decide), if_pos rfl]; rfl
    · rw [if_neg (by decide), if_neg (by decide), if_neg (by decide), if_neg (by decide)]
    · rw [if_neg (show ¬ nI 18 = 16 by decide), if_pos (show nI 18 = 18 from rfl), if_neg (show ¬ nI 18 = 16 by decide), if_neg (show ¬ (18 : Nat) = 16 by decide), if_pos rfl]; rfl
    · rw [if_neg (by decide), if_neg (by decide), if_neg (by decide), if_neg (by decide)]
  generalize sA hc 9 (6 * c + 3) (nI f2) = h1 at C1 F1 n8 n9 e71
  have e128 : ∀ h, j_X5_readOrder_128 (nI c) h = f_X5_readTimes (nI c) h := by
    intro h
    unfold j_X5_readOrder_128
    cases f_X5_readTimes (nI c) h <;> rfl
  by_cases hh : q = 16 ∨ q = 18
  · have hw : ∃ w wc, (w, wc) ∈ [((16 : Nat), (21 : Nat)), (17, 23), (18, 24), (19, 26), (20, 22), (21, 25), (22, 27)] ∧ w = (if q = 16 then 20 else 21) ∧ j_X5_readOrder_71 (nI c) (nI q) hc = j_X5_readOrder_107 (nI c) (nI w) h1 ∧ (∀ h, ref2 q h = (f_X11_must (nI wc) h).bind fun v32 => (gr_B GD 3 0 v32.2).bind fun v34 => j_X11_readOrder_79 v34.2) ∧ rk w = wc ∧ w < 29 ∧ 0 < wc ∧ wc < 400 := by
      rcases hh with e | e
      · subst e
        exact ⟨20, 22, by decide, rfl, by rw [e71, if_pos rfl], fun h => rfl, rfl, by decide, by decide, by decide⟩
      · subst e
        exact ⟨21, 25, by decide, rfl, by rw [e71, if_neg (by decide), if_pos rfl], fun h => rfl, rfl, by decide, by decide, by decide⟩
    obtain ⟨w, wc, w1, w2, w3, w4, w5, w6, w7, w8⟩ := hw
    rw [w3, w4]
    unfold j_X5_readOrder_107
    by_cases hk : tkd T m1 = w
    · obtain ⟨h2, a1, hi, a2, a3, a4⟩ := (c_takeIf hT C1 w w6).1 hk
      have em : f_X11_must (nI wc) hr = some ((), sF hr 81 19 (nI (m1 + 1))) := by
        unfold f_X11_must
        rw [takes_eq hT hR w8 (show rk (tkd T m1) = wc by rw [hk]; exact w5), Option.bind_some, if_pos rfl]
      obtain ⟨b1, b2⟩ := RS_go hR hi
      have hD := rd_sumD (T := T) (o := true) hT 8 0 rfl
      obtain ⟨bo, hc3, hr3, d1, d2, d3, d4, d5, d6⟩ := hD h2 (sF hr 81 19 (nI (m1 + 1))) (m1 + 1) f2 u GD GD a2 b1 (by omega) (by decide) (by decide)
      rw [a1, Option.bind_some, if_pos rfl, em, Option.bind_some]
      dsimp only
      rw [show ((0 : Int32)) = nI 0 from rfl, d1, Option.bind_some, d2, Option.bind_some]
      dsimp only
      have fr1 : Fr rA2 rF hc hc3 := Fr_tr F1 (Fr_tr (rA_2 a3) (rA_2 d3))
      have fr2 : Fr noA yF hr hr3 := Fr_tr b2 d4
      cases bo with
      | false =>
        obtain ⟨x, x1, x2, x3, x4⟩ := d6.2 rfl
        refine ⟨false, hc3, hr3, by rw [if_neg Bool.false_ne_true], ?_, fr1, fr2, fun c => (by cases c), fun _ => ⟨x, x1, x2, x3, x4⟩⟩
        unfold j_X11_readOrder_79
        rw [m_takesF x4, Option.bind_some, if_neg Bool.false_ne_true]
      | true =>
        obtain ⟨i', s', u', e1, e2, e3, e4, e5, σ, e6, e7⟩ := d6.1 rfl
        have hin' := e1.2.1
        obtain ⟨bo2, hc4, hr4, t1, t2, t3, t4, t5, t6⟩ := rd_times hT e1 e2 (by omega) hc12
        refine ⟨bo2, hc4, hr4, by rw [if_pos rfl, e128, t1], t2, Fr_tr fr1 t3, Fr_tr fr2 t4, fun hb => ?_, t6⟩
        obtain ⟨m3, tm, y1, y2, y3, y4, y5, y6, y7⟩ := t5 hb
        have hm9 : ∀ j, aI hc3 9 j = aI h1 9 j := fun j => by rw [d3.2.1 9 (by unfold rA; omega), a3.2.1 9 (by unfold rA; omega)]
        refine ⟨i', m3, s', u', tm, σ, y1, y2, by omega, y3, by omega, by omega, fun j hj => ?_, fun j j1 j2 => ?_, y6, ?_, Or.inl ⟨hh, by rw [hk]; exact w2, hi, by omega, e4, ?_, e7⟩, y7⟩
        · rw [y4, d5 rfl j hj, a4, n8]
        · rw [y5 j j1, hm9, n9, pk_un j2]
        · rw [y5 _ (by omega), hm9, n9, pk_us]
        · rw [y4]; exact e6
    · obtain ⟨h2, a1, a2, a3, a4⟩ := c_wrong hT C1 (show f2 ≤ 400 by omega)
      obtain ⟨hr2, b1, b2, b3, b4⟩ := (m_must hT hR wc w7 w8).2 (fun e => hk ((rk_w w1 (kd_bd hT hin)).mp e))
      refine ⟨false, h2, hr2, ?_, ?_, Fr_tr F1 (rA_2 a3), b4, fun c => (by cases c), fun _ => ⟨m1, hin, a2, b2, b3⟩⟩
      · rw [(c_takeIf hT C1 w w6).2 hk, Option.bind_some, if_neg Bool.false_ne_true, a1, Option.bind_some]
      · have g4 : gr_B GD 3 0 hr2 = some ((), hr2) := (gB_F b3 0).2.2.1 57
        rw [b1, Option.bind_some, g4, Option.bind_some]
        unfold j_X11_readOrder_79
        rw [m_takesF b3, Option.bind_some, if_neg Bool.false_ne_true]
  · have r2 : ref2 q hr = j_X11_readOrder_79 hr := by
      unfold ref2
      rw [if_neg (fun e => hh (Or.inl e)), if_neg (fun e => hh (Or.inr e))]
    rw [e71, if_neg (fun e => hh (Or.inl e)), if_neg (fun e => hh (Or.inr e)), e128, r2]
    obtain ⟨bo2, hc4, hr4, t1, t2, t3, t4, t5, t6⟩ := rd_times hT C1 hR (show f2 ≤ 400 by omega) hc12
    refine ⟨bo2, hc4, hr4, t1, t2, Fr_tr F1 t3, t4, fun hb => ?_, t6⟩
    obtain ⟨m3, tm, y1, y2, y3, y4, y5, y6, y7⟩ := t5 hb
    refine ⟨m1, m3, f2, u, tm, fun _ => some 1, y1, y2, y3, y3, Nat.le_refl _, by omega, fun j hj => by rw [y4, n8], fun j j1 j2 => by rw [y5 j j1, n9, pk_un j2], y6, by rw [y5 _ (by omega), n9, pk_us], Or.inr ⟨hh, rfl, rfl⟩, y7⟩
/-- an order: kind q, tokens i0 to i1, code f1 to f2, f2 to f3, f3 to f4 -/
def ClO (T : Tok) (c : Nat → Int32) (i0 i1 q tm f1 f2 f3 f4 : Nat) (σ σ2 : Env → Option Int32) (τ : Env → Option Bool) : Prop := tkd T i0 = q ∧ (q = 16 ∨ q = 17 ∨ q = 18 ∨ q = 19) ∧ i0 < tN T ∧ i1 ≤ tN T ∧ ∃ m1 m2 m3, m1 ≤ tN T ∧ m2 ≤ tN T ∧ m3 ≤ tN T ∧ SmP T true c (q ≠ 19) (i0 + 1) m1 f1 f2 σ ∧ Sm2 T c q m1 m2 f2 f3 σ2 ∧ TmP T m2 m3 tm ∧ TsP T true c m3 i1 f3 f4 τ
theorem Sm2_c {T : Tok} {c c' : Nat → Int32} {q m1 m2 f2 f3 : Nat} {σ : Env → Option Int32} (h : Sm2 T c q m1 m2 f2 f3 σ) (hc : ∀ j, 2 * f2 ≤ j → j < 2 * f3 → c' j = c j) : Sm2 T c' q m1 m2 f2 f3 σ := by
  rcases h with ⟨h1, h2, h3, h4, h5, h6, h7⟩ | h
  · exact Or.inl ⟨h1, h2, h3, h4, h5, MC_code h6 hc, h7⟩
  · exact Or.inr h
def clsO (c : Nat) (h : Hp) : Option (Bool × Hp) := (f_X5_readOrder (nI c) h).bind fun v => if v.1 = true then f_X5_readIf (nI c) v.2 else some (false, v.2)
theorem rd_ord {T : Tok} {hc hr : Hp} {i s u c : Nat} (hT : TF T) (hC : CS T true hc i s u) (hR : RS T true hr i u) (hsi : s ≤ i) (hc12 : c < 12) :
    ∃ bo hc' hr', clsO c hc = some (bo, hc') ∧ f_X11_readOrder hr = some ((), hr') ∧ Fr rA2 rF hc hc' ∧ Fr noA yF hr hr' ∧ (bo = true → ∃ i' s' u' q tm f2 f3 σ σ2 τ, CS T true hc' i' s' u' ∧ RS T true hr' i' u' ∧ i < i' ∧ s ≤ s' ∧ s' + i ≤ s + i' ∧ (∀ j, j < 2 * s → aI hc' 8 j = aI hc 8 j) ∧ (∀ j, j < 6 * c → aI hc' 9 j = aI hc 9 j) ∧ mkL (aI hc' 9) c q tm s f2 f3 s' ∧ s ≤ f2 ∧ f2 ≤ f3 ∧ f3 ≤ s' ∧ ClO T (aI hc' 8) i i' q tm s f2 f3 s' σ σ2 τ) ∧ (bo = false → Fails T hc' hr') := by
  have hN := hT.1
  have hin := hC.2.1
  have hkb := kd_bd hT hin
  have e95 : ∀ h, j_X11_readOrder_95 h = ((f_X11_takes0 4 h).bind fun v => if v.1 = true then (gr_B GD 0 0 v.2).bind fun v10 => some ((), v10.2) else some ((), v.2)) := fun h => rfl
  by_cases hk : tkd T i = 16 ∨ tkd T i = 17 ∨ tkd T i = 18 ∨ tkd T i = 19
  · have hi : i < tN T := kd_lt hT hin (by omega)
    obtain ⟨hc1, a1, a2, a3, a4⟩ := c_goOn hT hC hi
    obtain ⟨b1, b2⟩ := RS_go hR hi
    have C2 : CS T true (sA (sA hc1 9 (6 * c + 0) (nI (tkd T i))) 9 (6 * c + 2) (nI s)) (i + 1) s u := CS_mark (CS_mark a2)
    have n8 : aI (sA (sA hc1 9 (6 * c + 0) (nI (tkd T i))) 9 (6 * c + 2) (nI s)) 8 = aI hc 8 := by
      rw [ps_aAn _ _ _ _ _ (by omega), ps_aAn _ _ _ _ _ (by omega), a4]
    have n9 : aI (sA (sA hc1 9 (6 * c + 0) (nI (tkd T i))) 9 (6 * c + 2) (nI s)) 9 = upd (upd (aI hc 9) (6 * c + 0) (nI (tkd T i))) (6 * c + 2) (nI s) := by
      rw [ps_aAs, ps_aAs, a3.2.1 9 (by unfold rA; omega)]
    have F2 : Fr rA2 rF hc (sA (sA hc1 9 (6 * c + 0) (nI (tkd T i))) 9 (6 * c + 2) (nI s)) := Fr_tA (Fr_tA (rA_2 a3) (Or.inr rfl)) (Or.inr rfl)
    have eR : f_X5_readOrder (nI c) hc = if nI (tkd T i) = 19 then j_X5_readOrder_71 (nI c) (nI (tkd T i)) (sA (sA hc1 9 (6 * c + 0) (nI (tkd T i))) 9 (6 * c + 2) (nI s)) else (gr_A GD 4 0 (sA (sA hc1 9 (6 * c + 0) (nI (tkd T i))) 9 (6 * c + 2) (nI s))).bind fun v24 => if v24.1 = true then j_X5_readOrder_71 (nI c) (nI (tkd T i)) v24.2 else some (false, v24.2) := by
      have e34 : f_X5_readOrder (nI c) hc = j_X5_readOrder_34 (nI c) (nI (tkd T i)) hc := by
        unfold f_X5_readOrder
        rw [hC.2.2.2.1]
        rcases hk with e | e | e | e
        · rw [e, if_pos (by decide)]
        · rw [e, if_neg (by decide), if_pos (by decide)]
        · rw [e, if_neg (by decide), if_neg (by decide), if_pos (by decide)]
        · rw [e, if_neg (by decide), if_neg (by decide), if_neg (by decide), if_pos (by decide)]
      rw [e34]
      unfold j_X5_readOrder_34
      rw [a1, Option.bind_some]
      dsimp only
      rw [show ((0 : Int32)) = nI 0 from rfl, show ((2 : Int32)) = nI 2 from rfl, c_mark hc12 (by decide), Option.bind_some, c_mark hc12 (by decide), Option.bind_some]
      have : fI (sA hc1 9 (6 * c + 0) (nI (tkd T i))) 4 8 = nI s := a2.2.2.2.2.1
      rw [this]
    generalize sA (sA hc1 9 (6 * c + 0) (nI (tkd T i))) 9 (6 * c + 2) (nI s) = hc2 at C2 n8 n9 F2 eR
    have eB : f_X11_readOrder hr = if tkd T i = 19 then ref2 19 (sF hr 81 19 (nI (i + 1))) else (gr_B GD 3 0 (sF hr 81 19 (nI (i + 1)))).bind fun v => ref2 (tkd T i) v.2 := by
      unfold f_X11_readOrder
      rw [show ((21 : Int32)) = nI 21 from rfl, show ((24 : Int32)) = nI 24 from rfl, show ((23 : Int32)) = nI 23 from rfl, show ((26 : Int32)) = nI 26 from rfl]
      rcases hk with e | e | e | e
      · rw [takes_eq hT hR (by decide) (show rk (tkd T i) = 21 by rw [e]; rfl), Option.bind_some, if_pos rfl, e, if_neg (by decide)]
        rfl
      · rw [(m_takes hT hR 21 (by decide) (by decide)).2 (fun d => by have := (rk_w (q := 16) (by decide) hkb).mp d; omega), Option.bind_some, if_neg Bool.false_ne_true, (m_takes hT hR 24 (by decide) (by decide)).2 (fun d => by have := (rk_w (q := 18) (by decide) hkb).mp d; omega), Option.bind_some, if_neg Bool.false_ne_true, takes_eq hT hR (by decide) (show rk (tkd T i) = 23 by rw [e]; rfl), Option.bind_some, if_pos rfl, e, if_neg (by decide)]
        rfl
      · rw [(m_takes hT hR 21 (by decide) (by decide)).2 (fun d => by have := (rk_w (q := 16) (by decide) hkb).mp d; omega), Option.bind_some, if_neg Bool.false_ne_true, takes_eq hT hR (by decide) (show rk (tkd T i) = 24 by rw [e]; rfl), Option.bind_some, if_pos rfl, e, if_neg (by decide)]
        rfl
      · rw [(m_takes hT hR 21 (by decide) (by decide)).2 (fun d => by have := (rk_w (q := 16) (by decide) hkb).mp d; omega), Option.bind_some, if_neg Bool.false_ne_true, (m_takes hT hR 24 (by decide) (by decide)).2 (fun d => by have := (rk_w (q := 18) (by decide) hkb).mp d; omega), Option.bind_some, if_neg Bool.false_ne_true, (m_takes hT hR 23 (by decide) (by decide)).2 (fun d => by have := (rk_w (q := 17) (by decide) hkb).mp d; omega), Option.bind_some, if_neg Bool.false_ne_true]
        unfold f_X11_must
        rw [takes_eq hT hR (by decide) (show rk (tkd T i) = 26 by rw [e]; rfl), Option.bind_some, if_pos rfl, Option.bind_some, if_pos e]
        rfl
    -- the first sum
    have mid : ∃ bo hc3 hr3, f_X5_readOrder (nI c) hc = (if bo = true then j_X5_readOrder_71 (nI c) (nI (tkd T i)) hc3 else some (false, hc3)) ∧ f_X11_readOrder hr = ref2 (tkd T i) hr3 ∧ Fr rA2 rF hc hc3 ∧ Fr noA yF hr hr3 ∧ (bo = true → ∃ m f2 u' σ, CS T true hc3 m f2 u' ∧ RS T true hr3 m u' ∧ i < m ∧ s ≤ f2 ∧ f2 + i ≤ s + m ∧ (∀ j, j < 2 * s → aI hc3 8 j = aI hc 8 j) ∧ aI hc3 9 = aI hc2 9 ∧ SmP T true (aI hc3 8) (tkd T i ≠ 19) (i + 1) m s f2 σ) ∧ (bo = false → Fails T hc3 hr3) := by
      by_cases h19 : tkd T i = 19
      · refine ⟨true, hc2, sF hr 81 19 (nI (i + 1)), ?_, ?_, F2, b2, fun _ => ⟨i + 1, s, u, fun _ => some 1, C2, b1, by omega, by omega, by omega, fun j _ => by rw [n8], rfl, Or.inr ⟨fun c => c h19, rfl, rfl⟩⟩, fun c => (by cases c)⟩
        · rw [eR, if_pos (show nI (tkd T i) = 19 by rw [h19]; rfl), if_pos rfl]
        · rw [eB, if_pos h19, h19]
      · have hD := rd_sumD (T := T) (o := true) hT 8 0 rfl
        obtain ⟨bo, hc3, hr3, d1, d2, d3, d4, d5, d6⟩ := hD hc2 (sF hr 81 19 (nI (i + 1))) (i + 1) s u GD GD C2 b1 (by omega) (by decide) (by decide)
        refine ⟨bo, hc3, hr3, ?_, ?_, Fr_tr F2 (rA_2 d3), Fr_tr b2 d4, fun hb => ?_, fun hb => ?_⟩
        · rw [eR, if_neg (show ¬ nI (tkd T i) = 19 from fun e => h19 ((nI_eq (by omega) (by omega)).mp (show nI _ = nI 19 from e))), show ((0 : Int32)) = nI 0 from rfl, d1, Option.bind_some]
        · rw [eB, if_neg h19, show ((0 : Int32)) = nI 0 from rfl, d2, Option.bind_some]
        · subst hb
          obtain ⟨i', s', u', e1, e2, e3, e4, e5, σ, e6, e7⟩ := d6.1 rfl
          exact ⟨i', s', u', σ, e1, e2, by omega, by omega, by omega, fun j hj => by rw [d5 rfl j hj, n8], d3.2.1 9 (by unfold rA; omega), Or.inl ⟨h19, e3, e4, e6, e7⟩⟩
        · subst hb
          exact d6.2 rfl
    obtain ⟨bo, hc3, hr3, m1, m2, m3, m4, m5, m6⟩ := mid
    cases bo with
    | false =>
      obtain ⟨x, x1, x2, x3, x4⟩ := m6 rfl
      refine ⟨false, hc3, hr3, ?_, by rw [m2, ref2_F x4], m3, m4, fun c => (by cases c), fun _ => ⟨x, x1, x2, x3, x4⟩⟩
      unfold clsO
      rw [m1, if_neg Bool.false_ne_true, Option.bind_some, if_neg Bool.false_ne_true]
    | true =>
      obtain ⟨m, f2, u', σ, p1, p2, p3, p4, p5, p6, p7, p8⟩ := m5 rfl
      rw [if_pos rfl] at m1
      obtain ⟨bo2, hc4, hr4, j1, j2, j3, j4, j5, j6⟩ := rd_two hT p1 p2 (by omega) hc12 hk
      cases bo2 with
      | false =>
        obtain ⟨x, x1, x2, x3, x4⟩ := j6 rfl
        refine ⟨false, hc4, hr4, ?_, by rw [m2, j2, f95_F x4], Fr_tr m3 j3, Fr_tr m4 j4, fun c => (by cases c), fun _ => ⟨x, x1, x2, x3, x4⟩⟩
        unfold clsO
        rw [m1, j1, Option.bind_some, if_neg Bool.false_ne_true]
      | true =>
        obtain ⟨m2', m3', f3, u2, tm, σ2, y1, y2, y3, y4, y5, y6, y7, y8, y9, y10, y11, y12⟩ := j5 rfl
        obtain ⟨bo3, hc5, hr5, i1, i2, i3, i4, i5, i6⟩ := rd_if hT y1 y2 (by omega) hc12
        refine ⟨bo3, hc5, hr5, ?_, by rw [m2, j2, e95, i2], Fr_tr (Fr_tr m3 j3) i3, Fr_tr (Fr_tr m4 j4) i4, fun hb => ?_, i6⟩
        · unfold clsO
          rw [m1, j1, Option.bind_some, if_pos rfl]
          exact i1
        · obtain ⟨i', s', u3, τ, t1, t2, t3, t4, t5, t6, t7, t8⟩ := i5 hb
          have x8 : ∀ j, j < 2 * f3 → aI hc5 8 j = aI hc4 8 j := fun j hj => t6 j hj
          have g9 : ∀ j, j ≠ 6 * c + 4 → j ≠ 6 * c + 5 → aI hc5 9 j = aI hc4 9 j := fun j h1 h2 => by rw [t7, pk_un h2, pk_un h1]
          have g9' : ∀ j, j ≠ 6 * c + 1 → j ≠ 6 * c + 3 → j ≠ 6 * c + 4 → j ≠ 6 * c + 5 → aI hc5 9 j = upd (upd (aI hc 9) (6 * c + 0) (nI (tkd T i))) (6 * c + 2) (nI s) j := fun j h1 h2 h3 h4 => by rw [g9 j h3 h4, y8 j h1 h2, p7, n9]
          refine ⟨i', s', u3, tkd T i, tm, f2, f3, σ, σ2, τ, t1, t2, by omega, by omega, by omega, fun j hj => by rw [x8 j (by omega), y7 j (by omega), p6 j hj], fun j hj => ?_, ⟨?_, ?_, ?_, ?_, ?_, ?_⟩, p4, y5, t4, rfl, hk, hi, t1.2.1, m, m2', m3', p1.2.1, by have := y1.2.1; omega, y1.2.1, SmP_c p8 (fun j z1 z2 => by rw [x8 j (by omega), y7 j (by omega)]), Sm2_c y11 (fun j z1 z2 => x8 j (by omega)), y12, t8⟩
          · rw [g9' j (by omega) (by omega) (by omega) (by omega), pk_un (by omega), pk_un (by omega)]
          · rw [g9' _ (by omega) (by omega) (by omega) (by omega), pk_un (by omega)]; exact pk_us
          · rw [g9 _ (by omega) (by omega), y9]
          · rw [g9' _ (by omega) (by omega) (by omega) (by omega), pk_us]
          · rw [g9 _ (by omega) (by omega), y10]
          · rw [t7, pk_un (by omega), pk_us]
          · rw [t7, pk_us]
  · obtain ⟨hc1, a1, a2, a3, a4⟩ := c_wrong hT hC (show s ≤ 400 by omega)
    obtain ⟨hr1, b1, b2, b3, b4⟩ := (m_must hT hR 26 (by decide) (by decide)).2 (fun e => by have := (rk_w (q := 19) (by decide) hkb).mp e; omega)
    refine ⟨false, hc1, hr1, ?_, ?_, rA_2 a3, b4, fun c => (by cases c), fun _ => ⟨i, hin, a2, b2, b3⟩⟩
    · unfold clsO f_X5_readOrder
      rw [hC.2.2.2.1, if_neg (show ¬ nI (tkd T i) = 16 from fun e => by have := (nI_eq (by omega) (by omega)).mp (show nI _ = nI 16 from e); omega), if_neg (show ¬ nI (tkd T i) = 17 from fun e => by have := (nI_eq (by omega) (by omega)).mp (show nI _ = nI 17 from e); omega), if_neg (show ¬ nI (tkd T i) = 18 from fun e => by have := (nI_eq (by omega) (by omega)).mp (show nI _ = nI 18 from e); omega), if_neg (show ¬ nI (tkd T i) = 19 from fun e => by have := (nI_eq (by omega) (by omega)).mp (show nI _ = nI 19 from e); omega), a1, Option.bind_some, Option.bind_some, if_neg Bool.false_ne_true]
    · unfold f_X11_readOrder
      rw [show ((21 : Int32)) = nI 21 from rfl, show ((24 : Int32)) = nI 24 from rfl, show ((23 : Int32)) = nI 23 from rfl, show ((26 : Int32)) = nI 26 from rfl, (m_takes hT hR 21 (by decide) (by decide)).2 (fun d => by have := (rk_w (q := 16) (by decide) hkb).mp d; omega), Option.bind_some, if_neg Bool.false_ne_true, (m_takes hT hR 24 (by decide) (by decide)).2 (fun d => by have := (rk_w (q := 18) (by decide) hkb).mp d; omega), Option.bind_some, if_neg Bool.false_ne_true, (m_takes hT hR 23 (by decide) (by decide)).2 (fun d => by have := (rk_w (q := 17) (by decide) hkb).mp d; omega), Option.bind_some, if_neg Bool.false_ne_true, b1, Option.bind_some]
      unfold j_X11_readOrder_79
      rw [m_takesF b3, Option.bind_some, if_neg Bool.false_ne_true]
      exact f95_F b3
