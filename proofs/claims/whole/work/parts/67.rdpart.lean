/-! ===== both readers: a part ===== -/
theorem j111 {T : Tok} {o : Bool} {h : Hp} {i u : Nat} (hT : TF T) (hr : RS T o h i u) (hi : i < tN T) (hu : u < 50) (rc : Nat → Int32 → Hp → Option (Unit × Hp)) (hne : ¬ (o = true ∧ (tkd T i = 4 ∨ tkd T i = 12))) : ∃ h', j_X11_readPart_111 rc (nI (rk (tkd T i))) h = some ((), h') ∧ RS T o h' (i + 1) (u + 1) ∧ Fr noA yF h h' := by
  obtain ⟨h', g1, g2, g3⟩ := m_leaf hT hr hi hu
  refine ⟨h', ?_, g2, g3⟩
  unfold j_X11_readPart_111
  rw [g1, Option.bind_some]
  dsimp only
  rw [g2.2.2.2.2.2.1]
  have hkb := kd_bd hT hr.2.1
  have hrk := rk_bd hkb
  cases o with
  | false => rw [if_pos (by decide)]
  | true =>
    rw [if_neg (by decide)]
    have t14 : rk (tkd T i) ≠ 14 := by
      intro e
      by_cases c : tkd T i < 30
      · have tb : ∀ q, q < 30 → rk q = 14 → q = 4 := by decide
        exact hne ⟨rfl, Or.inl (tb _ c e)⟩
      · rw [rk_hi (by omega)] at e; omega
    have t20 : rk (tkd T i) ≠ 20 := by
      intro e
      by_cases c : tkd T i < 30
      · have tb : ∀ q, q < 30 → rk q = 20 → q = 12 := by decide
        exact hne ⟨rfl, Or.inr (tb _ c e)⟩
      · rw [rk_hi (by omega)] at e; omega
    rw [if_neg (show ¬ nI (rk (tkd T i)) = 14 from fun e => t14 ((nI_eq (by omega) (by omega)).mp (show nI _ = nI 14 from e))), if_neg (show ¬ nI (rk (tkd T i)) = 20 from fun e => t20 ((nI_eq (by omega) (by omega)).mp (show nI _ = nI 20 from e)))]
theorem j111F {T : Tok} {o : Bool} {h : Hp} {i u : Nat} (hT : TF T) (hr : RS T o h i u) (hu : u = 50) (rc : Nat → Int32 → Hp → Option (Unit × Hp)) (x : Int32) : ∃ h', j_X11_readPart_111 rc x h = some ((), h') ∧ fI h' 81 21 = nI (tps T i) ∧ fI h' 81 21 ≠ -1 ∧ Fr noA yF h h' := by
  obtain ⟨h', g1, g2, g3, g4, g5⟩ := m_leafF hT hr hu
  refine ⟨h', ?_, g2, g3, g5⟩
  unfold j_X11_readPart_111
  rw [g1, Option.bind_some]
  dsimp only
  have e134 : j_X11_readPart_134 rc h' = some ((), h') := by
    unfold j_X11_readPart_134
    rw [m_mnF g3, Option.bind_some]
  rw [e134]
  split
  · rfl
  · split
    · rfl
    · split <;> rfl
theorem j111S {T : Tok} {o : Bool} {h : Hp} {i u : Nat} (hT : TF T) (hr : RS T o h i u) (hi : i < tN T) (hu : u < 50) (rc : Nat → Int32 → Hp → Option (Unit × Hp)) (hne : o = true ∧ (tkd T i = 4 ∨ tkd T i = 12)) : (tkd T (i + 1) = 28 ∧ tvl T (i + 1) ≤ 5 → ∃ h', j_X11_readPart_111 rc (nI (rk (tkd T i))) h = some ((), h') ∧ i + 1 < tN T ∧ RS T o h' (i + 2) (u + 1) ∧ Fr noA yF h h') ∧ (¬ (tkd T (i + 1) = 28 ∧ tvl T (i + 1) ≤ 5) → ∃ h', j_X11_readPart_111 rc (nI (rk (tkd T i))) h = some ((), h') ∧ fI h' 81 21 = nI (tps T (i + 1)) ∧ fI h' 81 21 ≠ -1 ∧ Fr noA yF h h') := by
  obtain ⟨h', g1, g2, g3⟩ := m_leaf hT hr hi hu
  have en : j_X11_readPart_111 rc (nI (rk (tkd T i))) h = j_X11_readPart_134 rc h' := by
    unfold j_X11_readPart_111
    rw [g1, Option.bind_some]
    dsimp only
    rw [g2.2.2.2.2.2.1, hne.1, if_neg (by decide)]
    rcases hne.2 with e | e
    · rw [e, if_pos (by decide)]
    · rw [e, if_neg (by decide), if_pos (by decide)]
  rw [en]
  unfold j_X11_readPart_134
  obtain ⟨m1, m2⟩ := m_mn hT g2 0 5 (by omega) (by omega)
  refine ⟨fun e => ?_, fun e => ?_⟩
  · obtain ⟨h2, d1, d2, d3, d4⟩ := m1 ⟨e.1, Nat.zero_le _, e.2⟩
    exact ⟨h2, by rw [show ((0 : Int32)) = nI 0 from rfl, show ((5 : Int32)) = nI 5 from rfl, d1, Option.bind_some], d2, d3, Fr_tr g3 d4⟩
  · obtain ⟨h2, d1, d2, d3, d4⟩ := m2 (fun c => e ⟨c.1, c.2.2⟩)
    exact ⟨h2, by rw [show ((0 : Int32)) = nI 0 from rfl, show ((5 : Int32)) = nI 5 from rfl, d1, Option.bind_some], d2, d3, Fr_tr g3 d4⟩
theorem rd_part {T : Tok} {o : Bool} {fa fb fx dd : Nat} (hT : TF T) (hd : dd ≤ 8) (hS : dd < 8 → Rd T o 4 3 fa fb (dd + 1) (ZV T o 0 fx (3 * dd + 4))) : Rd T o 6 5 (fa + 1) (fb + 1) dd (ZV T o 2 (fx + 1) (3 * dd + 3)) := by
  intro hc hr i s u fA fB hC hR hsi hfA hfB
  obtain ⟨fA, rfl⟩ : ∃ f', fA = f' + 1 := ⟨fA - 1, by omega⟩
  obtain ⟨fB, rfl⟩ : ∃ f', fB = f' + 1 := ⟨fB - 1, by omega⟩
  have hN := hT.1
  have hin := hC.2.1
  have hs4 : s ≤ 400 := by omega
  have hkb := kd_bd hT hin
  by_cases hk : tkd T i = 191
  · have hi : i < tN T := kd_lt hT hin (by omega)
    have cA : gr_A (fA + 1) 6 (nI dd) hc = (f_X5_canOpen (nI dd) hc).bind fun v22 => if v22.1 = true then (f_X5_takeSign 91 v22.2).bind fun v25 => if v25.1 = true then (gr_A fA 4 (nI dd + 1) v25.2).bind fun v28 => if v28.1 = true then (f_X5_takeSign 93 v28.2).bind fun v31 => if v31.1 = true then some (true, v31.2) else some (false, v31.2) else some (false, v28.2) else some (false, v25.2) else some (false, v22.2) := by
      rw [(gA_k fA (nI dd) hc).2.2.2.2.2.2]
      unfold f_X5_readPart
      rw [show ((91 : Int32)) = nI 91 from rfl, c_isSign hT hC 91 (by decide), Option.bind_some, if_pos (decide_eq_true (show tkd T i = 100 + 91 from hk))]
    have cB : gr_B (fB + 1) 5 (nI dd) hr = if nI dd = 8 then (f_X11_faults hr).bind fun v34 => j_X11_readPart_37 (gr_B fB) (nI dd) v34.2 else j_X11_readPart_37 (gr_B fB) (nI dd) hr := by
      rw [(gB_k fB (nI dd) hr).2.2.2.2.2]
      unfold f_X11_readPart
      rw [m_fineT hR, Option.bind_some, if_pos rfl, hR.2.2.1, inb_nI (show i < 401 by omega) (by omega), Option.bind_some, sg91, Option.bind_some, (hR.1.1 i hin).1, hk, if_pos (by decide)]
    by_cases h8 : dd = 8
    · obtain ⟨hc1, a1, a2, a3, a4⟩ := c_wrong hT hC hs4
      obtain ⟨hr1, b1, b2, b3, b4⟩ := m_faults hT hR
      refine ⟨false, hc1, hr1, ?_, ?_, a3, b4, fun c => (by cases c), Out_F hin a2 b2 b3⟩
      · rw [cA]
        unfold f_X5_canOpen
        rw [h8, if_neg (by decide), a1, Option.bind_some, if_neg Bool.false_ne_true, Option.bind_some, if_neg Bool.false_ne_true]
      · rw [cB, h8, if_pos (show nI 8 = 8 from rfl), b1, Option.bind_some]
        unfold j_X11_readPart_37
        rw [m_fineF b3, Option.bind_some, if_neg Bool.false_ne_true]
    · have hd8 : dd < 8 := by omega
      obtain ⟨hc1, a1, -, a3, a4, a5⟩ := (c_takeSign hT hC hs4 91 (by decide)).1 hk
      obtain ⟨b1, b2⟩ := RS_go hR hi
      obtain ⟨bo, hc2, hr2, d1, d2, d3, d4, d5, d6⟩ := hS hd8 hc1 (sF hr 81 19 (nI (i + 1))) (i + 1) s u fA fB a3 b1 (by omega) (by omega) (by omega)
      have cA2 : gr_A (fA + 1) 6 (nI dd) hc = if bo = true then (f_X5_takeSign 93 hc2).bind fun v31 => if v31.1 = true then some (true, v31.2) else some (false, v31.2) else some (false, hc2) := by
        rw [cA]
        unfold f_X5_canOpen
        rw [if_pos (show nI dd < 8 from nI_lt (a := dd) (b := 8) hd8 (by omega)), Option.bind_some, if_pos rfl]
        dsimp only
        rw [show ((91 : Int32)) = nI 91 from rfl, a1, Option.bind_some, if_pos rfl]
        dsimp only
        rw [nI_1, d1, Option.bind_some]
      have cB2 : gr_B (fB + 1) 5 (nI dd) hr = (f_X11_must (nI 193) hr2).bind fun v32 => some ((), v32.2) := by
        rw [cB, if_neg (show ¬ nI dd = 8 from fun e => h8 ((nI_eq (by omega) (by omega)).mp (show nI dd = nI 8 from e)))]
        unfold j_X11_readPart_37
        rw [m_fineT hR, Option.bind_some, if_pos rfl, hR.2.2.1, nI_1, nI_1, d2, Option.bind_some, sg93, Option.bind_some]
      have fr1 : Fr rA rF hc hc2 := Fr_tr a4 d3
      have fr2 : Fr noA yF hr hr2 := Fr_tr b2 d4
      have cd : bo = true → ∀ j, j < 2 * s → aI hc2 8 j = aI hc 8 j := fun e j hj => by rw [d5 e j hj, a5]
      cases bo with
      | false =>
        obtain ⟨x, x1, x2, x3, x4⟩ := d6.2 rfl
        refine ⟨false, hc2, hr2, by rw [cA2, if_neg Bool.false_ne_true], ?_, fr1, fr2, fun c => (by cases c), Out_F x1 x2 x3 x4⟩
        rw [cB2, m_mustF x4, Option.bind_some]
      | true =>
        obtain ⟨i', s', u', e1, e2, e3, e4, e5, σ, e6, e7⟩ := d6.1 rfl
        have hin' := e1.2.1
        by_cases h93 : tkd T i' = 193
        · obtain ⟨hc3, f1, f2, f3, f4, f5⟩ := (c_takeSign hT e1 (by omega) 93 (by decide)).1 h93
          obtain ⟨hr3, g1, g2, g3, g4⟩ := (m_must hT e2 193 (by decide) (by decide)).1 (by rw [h93]; rfl)
          refine ⟨true, hc3, hr3, ?_, ?_, Fr_tr fr1 f4, Fr_tr fr2 g4, fun _ j hj => by rw [f5]; exact cd rfl j hj, Out_T f3 g3 (by omega) e4 (by omega) ⟨σ, ?_, RC_brack hi hk e7⟩⟩
          · rw [cA2, if_pos rfl, show ((93 : Int32)) = nI 93 from rfl, f1, Option.bind_some, if_pos rfl]
          · rw [cB2, g1, Option.bind_some]
          · rw [f5]
            exact MC_B e6 (by omega)
        · obtain ⟨hc3, f1, f2, f3, f4⟩ := (c_takeSign hT e1 (by omega) 93 (by decide)).2 h93
          obtain ⟨hr3, g1, g2, g3, g4⟩ := (m_must hT e2 193 (by decide) (by decide)).2 (fun e => h93 ((rk_sign (by decide)).mp e))
          refine ⟨false, hc3, hr3, ?_, ?_, Fr_tr fr1 f3, Fr_tr fr2 g4, fun c => (by cases c), Out_F hin' f2 g2 g3⟩
          · rw [cA2, if_pos rfl, show ((93 : Int32)) = nI 93 from rfl, f1, Option.bind_some, if_neg Bool.false_ne_true]
          · rw [cB2, g1, Option.bind_some]
  · obtain ⟨mp1, mp2⟩ := m_part0 hT hR hk fB (nI dd)
    have cA : gr_A (fA + 1) 6 (nI dd) hc = if fI hc 4 9 < 50 then (f_X5_numberHere (sF hc 4 9 (fI hc 4 9 + 1))).bind fun v5 => if v5 = -1 then (if fI (sF hc 4 9 (fI hc 4 9 + 1)) 4 5 = 0 then (f_X5_readLawWord (sF hc 4 9 (fI hc 4 9 + 1))).bind fun v16 => some (v16.1, v16.2) else (f_X5_readOrdersWord (sF hc 4 9 (fI hc 4 9 + 1))).bind fun v18 => some (v18.1, v18.2)) else (if v5 ≤ 1000 then (f_X5_put 0 v5 (sF hc 4 9 (fI hc 4 9 + 1))).bind fun v9 => (f_X5_goOn v9.2).bind fun v11 => some (true, v11.2) else (f_X5_wrong (sF hc 4 9 (fI hc 4 9 + 1))).bind fun v13 => some (v13.1, v13.2)) else (f_X5_wrong hc).bind fun v20 => some (v20.1, v20.2) := by
      rw [(gA_k fA (nI dd) hc).2.2.2.2.2.2]
      unfold f_X5_readPart
      rw [show ((91 : Int32)) = nI 91 from rfl, c_isSign hT hC 91 (by decide), Option.bind_some, decide_eq_false (show ¬ tkd T i = 100 + 91 from hk), if_neg Bool.false_ne_true]
    have hu50 := hC.2.2.2.2.2.2.2
    by_cases hu : u < 50
    · obtain ⟨C1, F1⟩ := CS_u hC hu
      have cA1 : gr_A (fA + 1) 6 (nI dd) hc = (f_X5_numberHere (sF hc 4 9 (nI (u + 1)))).bind fun v5 => if v5 = -1 then (if fI (sF hc 4 9 (nI (u + 1))) 4 5 = 0 then (f_X5_readLawWord (sF hc 4 9 (nI (u + 1)))).bind fun v16 => some (v16.1, v16.2) else (f_X5_readOrdersWord (sF hc 4 9 (nI (u + 1)))).bind fun v18 => some (v18.1, v18.2)) else (if v5 ≤ 1000 then (f_X5_put 0 v5 (sF hc 4 9 (nI (u + 1)))).bind fun v9 => (f_X5_goOn v9.2).bind fun v11 => some (true, v11.2) else (f_X5_wrong (sF hc 4 9 (nI (u + 1)))).bind fun v13 => some (v13.1, v13.2)) := by
        rw [cA, hC.2.2.2.2.2.1, if_pos (show nI u < 50 from nI_lt (a := u) (b := 50) hu (by omega)), nI_1]
      have a8 : aI (sF hc 4 9 (nI (u + 1))) 8 = aI hc 8 := rfl
      generalize sF hc 4 9 (nI (u + 1)) = h1 at C1 F1 cA1 a8
      have fail : ¬ isLf T o i → (∃ hc', f_X5_wrong h1 = some (false, hc') ∧ gr_A (fA + 1) 6 (nI dd) hc = some (false, hc')) → ∃ bo hc' hr', gr_A (fA + 1) 6 (nI dd) hc = some (bo, hc') ∧ gr_B (fB + 1) 5 (nI dd) hr = some ((), hr') ∧ Fr rA rF hc hc' ∧ Fr noA yF hr hr' ∧ (bo = true → ∀ j, j < 2 * s → aI hc' 8 j = aI hc 8 j) ∧ Out T o (ZV T o 2 (fx + 1) (3 * dd + 3)) hc' hr' s i bo := by
        intro hl hw
        obtain ⟨hc', w1, w2⟩ := hw
        obtain ⟨hc2, a1, a2, a3, a4⟩ := c_wrong hT C1 hs4
        rw [a1] at w1
        have : hc2 = hc' := congrArg Prod.snd (Option.some.inj w1)
        subst this
        obtain ⟨hr1, b1, b2, b3, b4⟩ := mp2 hl
        exact ⟨false, hc2, hr1, w2, b1, Fr_tr F1 a3, b4, fun c => (by cases c), Out_F hin a2 b2 b3⟩
      by_cases h28 : tkd T i = 28
      · have hi : i < tN T := kd_lt hT hin (by omega)
        have hv := hT.2.2.2.2 i
        rw [c_num hT C1, if_pos h28, Option.bind_some, if_neg (nI_ne1 (by omega))] at cA1
        by_cases hv2 : tvl T i ≤ 1000
        · rw [Nat.min_eq_left (by omega), if_pos (show nI (tvl T i) ≤ 1000 from nI_le (a := tvl T i) (b := 1000) hv2 (by omega))] at cA1
          obtain ⟨hc2, p1, p2, p3, p4⟩ := c_put C1 (show s < 400 by omega) 0 (nI (tvl T i))
          obtain ⟨hc3, q1, q2, q3, q4⟩ := c_goOn hT p2 hi
          have hlf : isLf T o i := Or.inl ⟨h28, hv2⟩
          obtain ⟨-, l2⟩ := mp1 hlf
          obtain ⟨hr1, r1, r2, r3⟩ := j111 hT hR hi hu (gr_B fB) (by omega)
          refine ⟨true, hc3, hr1, ?_, by rw [l2]; exact r1, Fr_tr F1 (Fr_tr p3 q3), r3, fun _ j hj => ?_, Out_T q2 r2 (by omega) (by omega) (by omega) ⟨fun _ => some (nI (tvl T i)), ?_, RC_fu (RC_num hi h28) (by omega)⟩⟩
          · rw [cA1, p1, Option.bind_some]
            dsimp only
            rw [q1, Option.bind_some]
          · rw [q4, p4, pk_un (by omega), pk_un (by omega), a8]
          · rw [q4, p4]
            refine MC_push (by omega) (Or.inl ⟨?_, fun _ => ?_, ?_⟩)
            · rw [pk_un (by omega), pk_us]
            · rw [pk_us]
            · rw [pk_us]; exact nI_nb (by omega)
        · rw [Nat.min_eq_right (by omega), if_neg (by decide)] at cA1
          obtain ⟨hc2, a1, a2, a3, a4⟩ := c_wrong hT C1 hs4
          refine fail (by unfold isLf; omega) ⟨hc2, a1, ?_⟩
          rw [cA1, a1, Option.bind_some]
      · rw [c_num hT C1, if_neg h28, Option.bind_some, if_pos rfl, C1.2.2.2.2.2.2.1] at cA1
        cases o with
        | false =>
          rw [if_pos (show b2i false = 0 from rfl)] at cA1
          unfold f_X5_readLawWord at cA1
          rw [C1.2.2.2.1] at cA1
          by_cases h7 : tkd T i < 8
          · have hi : i < tN T := kd_lt hT hin (by omega)
            rw [if_pos (show nI (tkd T i) ≤ 7 from nI_le (a := tkd T i) (b := 7) (by omega) (by omega))] at cA1
            obtain ⟨hc2, p1, p2, p3, p4⟩ := c_put C1 (show s < 400 by omega) 1 (nI (tkd T i))
            obtain ⟨hc3, q1, q2, q3, q4⟩ := c_goOn hT p2 hi
            have hlf : isLf T false i := Or.inr ⟨by omega, Or.inl ⟨rfl, h7⟩⟩
            obtain ⟨-, l2⟩ := mp1 hlf
            obtain ⟨hr1, r1, r2, r3⟩ := j111 hT hR hi hu (gr_B fB) (fun c => absurd c.1 (by decide))
            refine ⟨true, hc3, hr1, ?_, by rw [l2]; exact r1, Fr_tr F1 (Fr_tr p3 q3), r3, fun _ j hj => ?_, Out_T q2 r2 (by omega) (by omega) (by omega) ⟨fun w => some (w (tkd T i)), ?_, RC_fu (RC_wordL hi rfl h7) (by omega)⟩⟩
            · rw [cA1, p1, Option.bind_some]
              dsimp only
              rw [q1, Option.bind_some, Option.bind_some]
            · rw [q4, p4, pk_un (by omega), pk_un (by omega), a8]
            · rw [q4, p4]
              refine MC_push (by omega) (Or.inr ⟨?_, tkd T i, ?_, ?_, fun _ => rfl⟩)
              · rw [pk_un (by omega), pk_us]
              · rw [pk_us]
              · unfold okW; rw [if_neg (by decide)]; exact h7
          · rw [if_neg (show ¬ nI (tkd T i) ≤ 7 from nI_ge (a := 7) (b := tkd T i) (by omega) (by omega))] at cA1
            obtain ⟨hc2, a1, a2, a3, a4⟩ := c_wrong hT C1 hs4
            refine fail ?_ ⟨hc2, a1, ?_⟩
            · unfold isLf
              intro c
              rcases c with c | c
              · exact h28 c.1
              · rcases c.2 with c | c
                · exact h7 c.2
                · exact absurd c.1 (by decide)
            · rw [cA1, a1, Option.bind_some, Option.bind_some]
        | true =>
          rw [if_neg (show ¬ b2i true = 0 by decide)] at cA1
          have cO : f_X5_readOrdersWord h1 = if tkd T i = 6 ∨ 8 ≤ tkd T i ∧ tkd T i ≤ 11 then j_X5_readOrdersWord_49 (nI (tkd T i)) 1 h1 else if tkd T i = 12 ∨ tkd T i = 4 then j_X5_readOrdersWord_49 (nI (tkd T i)) 0 h1 else (f_X5_wrong h1).bind fun v21 => some (v21.1, v21.2) := by
            unfold f_X5_readOrdersWord
            rw [C1.2.2.2.1]
            have e27 : ¬ (tkd T i = 6 ∨ 8 ≤ tkd T i ∧ tkd T i ≤ 11) → j_X5_readOrdersWord_27 (nI (tkd T i)) h1 = if tkd T i = 12 ∨ tkd T i = 4 then j_X5_readOrdersWord_49 (nI (tkd T i)) 0 h1 else (f_X5_wrong h1).bind fun v21 => some (v21.1, v21.2) := by
              intro _
              unfold j_X5_readOrdersWord_27 j_X5_readOrdersWord_28
              rw [if_pos rfl]
              by_cases c12 : tkd T i = 12
              · rw [c12, if_pos (by decide), if_pos (by decide)]
              · rw [if_neg (show ¬ nI (tkd T i) = 12 from fun e => c12 ((nI_eq (by omega) (by omega)).mp (show nI _ = nI 12 from e)))]
                by_cases c4 : tkd T i = 4
                · rw [c4, if_pos (by decide), if_pos (by decide)]
                · rw [if_neg (show ¬ nI (tkd T i) = 4 from fun e => c4 ((nI_eq (by omega) (by omega)).mp (show nI _ = nI 4 from e))), if_neg (by omega)]
            by_cases c6 : tkd T i = 6
            · rw [c6, if_pos (by decide), if_pos (by decide)]
              unfold j_X5_readOrdersWord_28
              rw [if_neg (by decide)]
            · rw [if_neg (show ¬ nI (tkd T i) = 6 from fun e => c6 ((nI_eq (by omega) (by omega)).mp (show nI _ = nI 6 from e)))]
              by_cases c8 : tkd T i < 8
              · rw [if_pos (show nI (tkd T i) < 8 from nI_lt (a := tkd T i) (b := 8) c8 (by omega)), if_neg (by omega), e27 (by omega)]
              · rw [if_neg (show ¬ nI (tkd T i) < 8 from nI_nlt (a := tkd T i) (b := 8) (by omega) (by omega))]
                by_cases c11 : 11 < tkd T i
                · rw [if_pos (show (11 : Int32) < nI (tkd T i) from nI_lt (a := 11) (b := tkd T i) c11 (by omega)), if_neg (show ¬ (tkd T i = 6 ∨ 8 ≤ tkd T i ∧ tkd T i ≤ 11) by omega), e27 (by omega)]
                · rw [if_neg (show ¬ (11 : Int32) < nI (tkd T i) from nI_nlt (a := 11) (b := tkd T i) (by omega) (by omega)), if_pos (show tkd T i = 6 ∨ 8 ≤ tkd T i ∧ tkd T i ≤ 11 by omega)]
                  unfold j_X5_readOrdersWord_28
                  rw [if_neg (by decide)]
          rw [cO] at cA1
          by_cases hpl : tkd T i = 6 ∨ 8 ≤ tkd T i ∧ tkd T i ≤ 11
          · have hi : i < tN T := kd_lt hT hin (by omega)
            rw [if_pos hpl] at cA1
            obtain ⟨hc2, q1, q2, q3, q4⟩ := c_goOn hT C1 hi
            obtain ⟨hc3, p1, p2, p3, p4⟩ := c_put q2 (show s < 400 by omega) 1 (nI (tkd T i))
            have hlf : isLf T true i := Or.inr ⟨by omega, Or.inr ⟨rfl, by omega⟩⟩
            obtain ⟨-, l2⟩ := mp1 hlf
            obtain ⟨hr1, r1, r2, r3⟩ := j111 hT hR hi hu (gr_B fB) (by omega)
            refine ⟨true, hc3, hr1, ?_, by rw [l2]; exact r1, Fr_tr F1 (Fr_tr q3 p3), r3, fun _ j hj => ?_, Out_T p2 r2 (by omega) (by omega) (by omega) ⟨fun w => some (w (tkd T i)), ?_, RC_fu (RC_wordP hi rfl hpl) (by omega)⟩⟩
            · rw [cA1]
              unfold j_X5_readOrdersWord_49
              rw [q1, Option.bind_some, if_neg (by decide)]
              dsimp only
              rw [p1, Option.bind_some, Option.bind_some]
            · rw [p4, q4, pk_un (by omega), pk_un (by omega), a8]
            · rw [p4]
              refine MC_push (by omega) (Or.inr ⟨?_, tkd T i, ?_, ?_, fun _ => rfl⟩)
              · rw [pk_un (by omega), pk_us]
              · rw [pk_us]
              · unfold okW; rw [if_pos rfl]; omega
          · rw [if_neg hpl] at cA1
            by_cases his : tkd T i = 12 ∨ tkd T i = 4
            · have hi : i < tN T := kd_lt hT hin (by omega)
              rw [if_pos his] at cA1
              obtain ⟨hc2, q1, q2, q3, q4⟩ := c_goOn hT C1 hi
              have hlf : isLf T true i := Or.inr ⟨by omega, Or.inr ⟨rfl, by omega⟩⟩
              obtain ⟨-, l2⟩ := mp1 hlf
              obtain ⟨s1, s2⟩ := j111S hT hR hi hu (gr_B fB) ⟨rfl, by omega⟩
              unfold j_X5_readOrdersWord_49 at cA1
              rw [q1, Option.bind_some, if_pos rfl] at cA1
              dsimp only at cA1
              rw [c_num hT q2] at cA1
              by_cases hnum : tkd T (i + 1) = 28 ∧ tvl T (i + 1) ≤ 5
              · obtain ⟨hr1, r1, r0, r2, r3⟩ := s1 hnum
                rw [if_pos hnum.1, Nat.min_eq_left (by omega), Option.bind_some, if_neg (nI_pos (by omega)), if_pos (show nI (tvl T (i + 1)) < 6 from nI_lt (a := tvl T (i + 1)) (b := 6) (by omega) (by omega))] at cA1
                have cA3 : gr_A (fA + 1) 6 (nI dd) hc = (j_X5_readOrdersWord_102 1 (nI (tvl T (i + 1))) (nI (if tkd T i = 12 then 12 else 18)) hc2).bind fun v18 => some (v18.1, v18.2) := by
                  rw [cA1]
                  by_cases c12 : tkd T i = 12
                  · rw [if_pos (show nI (tkd T i) = 12 by rw [c12]; rfl), if_pos c12]; rfl
                  · rw [if_neg (show ¬ nI (tkd T i) = 12 from fun e => c12 ((nI_eq (by omega) (by omega)).mp (show nI _ = nI 12 from e))), if_neg c12]; rfl
                obtain ⟨hc3, p1, p2, p3, p4⟩ := c_put q2 (show s < 400 by omega) 1 (nI (tvl T (i + 1) + (if tkd T i = 12 then 12 else 18)))
                obtain ⟨hc4, t1, t2, t3, t4⟩ := c_goOn hT p2 r0
                refine ⟨true, hc4, hr1, ?_, by rw [l2]; exact r1, Fr_tr F1 (Fr_tr q3 (Fr_tr p3 t3)), r3, fun _ j hj => ?_, Out_T t2 r2 (by omega) (by omega) (by omega) ⟨fun w => some (w (tvl T (i + 1) + (if tkd T i = 12 then 12 else 18))), ?_, RC_fu (RC_wordS r0 rfl his (by omega)) (by omega)⟩⟩
                · rw [cA3]
                  unfold j_X5_readOrdersWord_102
                  rw [nI_add, p1, Option.bind_some]
                  dsimp only
                  rw [t1, Option.bind_some, Option.bind_some]
                · rw [t4, p4, q4, pk_un (by omega), pk_un (by omega), a8]
                · rw [t4, p4]
                  refine MC_push (by omega) (Or.inr ⟨?_, tvl T (i + 1) + (if tkd T i = 12 then 12 else 18), ?_, ?_, fun _ => rfl⟩)
                  · rw [pk_un (by omega), pk_us]
                  · rw [pk_us]
                  · unfold okW; rw [if_pos rfl]; split <;> omega
              · obtain ⟨hr1, r1, r2, r3, r4⟩ := s2 hnum
                obtain ⟨hc3, w1, w2, w3, w4⟩ := c_wrong hT q2 hs4
                have e81 : j_X5_readOrdersWord_81 hc2 = some (false, hc3) := by
                  unfold j_X5_readOrdersWord_81
                  rw [w1, Option.bind_some]
                refine ⟨false, hc3, hr1, ?_, by rw [l2]; exact r1, Fr_tr F1 (Fr_tr q3 w3), r4, fun c => (by cases c), Out_F q2.2.1 w2 r2 r3⟩
                rw [cA1, e81]
                by_cases c28 : tkd T (i + 1) = 28
                · have hv := hT.2.2.2.2 (i + 1)
                  rw [if_pos c28, Option.bind_some, if_neg (nI_pos (by omega)), if_neg (show ¬ nI (min (tvl T (i + 1)) 1001) < 6 from nI_nlt (a := min (tvl T (i + 1)) 1001) (b := 6) (by omega) (by omega)), Option.bind_some]
                · rw [if_neg c28, Option.bind_some, if_pos (by decide), Option.bind_some]
            · rw [if_neg his] at cA1
              obtain ⟨hc2, a1, a2, a3, a4⟩ := c_wrong hT C1 hs4
              refine fail ?_ ⟨hc2, a1, ?_⟩
              · unfold isLf
                intro c
                rcases c with c | c
                · exact h28 c.1
                · rcases c.2 with c | c
                  · exact absurd c.1 (by decide)
                  · omega
              · rw [cA1, a1, Option.bind_some, Option.bind_some]
    · have hu5 : u = 50 := by omega
      obtain ⟨hc1, a1, a2, a3, a4⟩ := c_wrong hT hC hs4
      have cA2 : gr_A (fA + 1) 6 (nI dd) hc = some (false, hc1) := by
        rw [cA, hC.2.2.2.2.2.1, hu5, if_neg (by decide), a1, Option.bind_some]
      by_cases hl : isLf T o i
      · obtain ⟨hr1, b1, b2, b3, b4⟩ := j111F hT hR hu5 (gr_B fB) (nI (rk (tkd T i)))
        exact ⟨false, hc1, hr1, cA2, by rw [(mp1 hl).2]; exact b1, a3, b4, fun c => (by cases c), Out_F hin a2 b2 b3⟩
      · obtain ⟨hr1, b1, b2, b3, b4⟩ := mp2 hl
        exact ⟨false, hc1, hr1, cA2, b1, a3, b4, fun c => (by cases c), Out_F hin a2 b2 b3⟩
