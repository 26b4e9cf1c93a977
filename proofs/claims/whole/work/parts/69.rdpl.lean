/-! ===== both readers: a plain test ===== -/
theorem nots {T : Tok} (hT : TF T) : ∀ (m i : Nat), i + m = tN T → ∃ n, (∀ x, x < n → tkd T (i + x) = 26) ∧ tkd T (i + n) ≠ 26 ∧ i + n ≤ tN T
  | 0, i, hi => ⟨0, fun x hx => absurd hx (Nat.not_lt_zero _), by rw [show i + 0 = tN T by omega, hT.2.1]; decide, by omega⟩
  | m + 1, i, hi => by
    by_cases c : tkd T i = 26
    · obtain ⟨n, h1, h2, h3⟩ := nots hT m (i + 1) (by omega)
      refine ⟨n + 1, fun x hx => ?_, by rw [show i + (n + 1) = i + 1 + n by omega]; exact h2, by omega⟩
      by_cases cx : x = 0
      · rw [cx]; exact c
      · have := h1 (x - 1) (by omega)
        rw [show i + 1 + (x - 1) = i + x by omega] at this
        exact this
    · exact ⟨0, fun x hx => absurd hx (Nat.not_lt_zero _), c, by omega⟩
theorem opS_cmp {q : Nat} (hq : q = 7 ∨ q = 8 ∨ q = 9) (l r : Int32) : opS q l r = some (b2i (cmpS q l r)) := by
  unfold opS
  rw [join_eq l r (Or.inr (by omega)) (by omega)]
  rcases hq with e | e | e <;> subst e
  · rw [j18_7]
    by_cases c : r ≤ l
    · rw [if_pos c]
      show (if (0 : Int32) = BRK then none else some 0) = some (b2i (decide (l < r)))
      rw [if_neg (by decide), decide_eq_false (fun d => i32_nle.mpr d c)]
      rfl
    · rw [if_neg c]
      show (if (1 : Int32) = BRK then none else some 1) = some (b2i (decide (l < r)))
      rw [if_neg (by decide), decide_eq_true (i32_nle.mp c)]
      rfl
  · rw [j18_8]
    by_cases c : l ≤ r
    · rw [if_pos c]
      show (if (0 : Int32) = BRK then none else some 0) = some (b2i (decide (r < l)))
      rw [if_neg (by decide), decide_eq_false (fun d => i32_nle.mpr d c)]
      rfl
    · rw [if_neg c]
      show (if (1 : Int32) = BRK then none else some 1) = some (b2i (decide (r < l)))
      rw [if_neg (by decide), decide_eq_true (i32_nle.mp c)]
      rfl
  · rw [j18_9]
    by_cases c : l = r
    · rw [if_pos c]
      show (if (1 : Int32) = BRK then none else some 1) = some (b2i (decide (l = r)))
      rw [if_neg (by decide), decide_eq_true c]
      rfl
    · rw [if_neg c]
      show (if (0 : Int32) = BRK then none else some 0) = some (b2i (decide (l = r)))
      rw [if_neg (by decide), decide_eq_false c]
      rfl
theorem takes_eq {T : Tok} {o : Bool} {h : Hp} {i u : Nat} (hT : TF T) (hr : RS T o h i u) {c : Nat} (hc : c < 400) (e : rk (tkd T i) = c) : f_X11_takes0 (nI c) h = some (true, sF h 81 19 (nI (i + 1))) := by
  have hN := hT.1
  have hin := hr.2.1
  unfold f_X11_takes0
  rw [m_fineT hr, Option.bind_some, if_pos rfl, hr.2.2.1, inb_nI (show i < 401 by omega) (by omega), Option.bind_some, (hr.1.1 i hin).1, e, if_pos rfl]
  unfold j_X11_takes0_25
  rw [if_neg (by decide), hr.2.2.1, nI_1]
  rfl
theorem rd_core {T : Tok} {o : Bool} {fa fb fx dd : Nat} (hT : TF T) (hd : dd ≤ 8) (hS : Rd T o 4 3 fa fb dd (ZV T o 0 27 (3 * dd + 1))) (hQ : dd < 8 → Rd T o 0 0 (fa + 1) fb (dd + 1) (ZT T o 0 fx (3 * dd + 3))) {hc hr : Hp} {p s u fA fB : Nat} (hC : CS T o hc p s u) (hR : RS T o hr p u) (hsi : s ≤ p) (hfA : fa + 1 ≤ fA) (hfB : fb ≤ fB) (hfB3 : 3 ≤ fb) (x2 : Int32) :
    ∃ bo hc' hr', j_X5_readPlain_36 (gr_A fA) (nI dd) x2 hc = j_X5_readPlain_96 (gr_A fA) x2 (b2i bo) hc' ∧ ((inb (fI hr 81 19) 401).bind fun j9 => (f_X11_sign 40).bind fun v11 => if aI hr 90 j9 = v11 then (if nI dd = 8 then (f_X11_faults hr).bind fun v42 => j_X11_readPlain_53 (gr_B fB) (nI dd) v42.2 else j_X11_readPlain_53 (gr_B fB) (nI dd) hr) else (gr_B fB 3 (nI dd) hr).bind fun v14 => (f_X11_sign 60).bind fun v16 => (f_X11_takes0 v16 v14.2).bind fun v18 => if v18.1 = true then j_X11_readPlain_128 (gr_B fB) (nI dd) v18.2 else (f_X11_sign 62).bind fun v23 => (f_X11_takes0 v23 v18.2).bind fun v25 => if v25.1 = true then j_X11_readPlain_128 (gr_B fB) (nI dd) v25.2 else (f_X11_sign 61).bind fun v28 => (f_X11_must v28 v25.2).bind fun v30 => j_X11_readPlain_128 (gr_B fB) (nI dd) v30.2) = some ((), hr') ∧ Fr rA rF hc hc' ∧ Fr noA yF hr hr' ∧ (bo = true → ∀ j, j < 2 * s → aI hc' 8 j = aI hc 8 j) ∧ Out T o (ZT T o 3 (fx + 1) (3 * dd)) hc' hr' s p bo := by
  have hN := hT.1
  have hin := hC.2.1
  have hs4 : s ≤ 400 := by omega
  have hkb := kd_bd hT hin
  obtain ⟨fB', rfl⟩ : ∃ f', fB = f' + 3 := ⟨fB - 3, by omega⟩
  have eB0 : inb (fI hr 81 19) 401 = some p := by rw [hR.2.2.1]; exact inb_nI (by omega) (by omega)
  rw [eB0, Option.bind_some, sg40, Option.bind_some, (hR.1.1 p hin).1]
  by_cases hk : tkd T p = 140
  · have hi : p < tN T := kd_lt hT hin (by omega)
    rw [if_pos (show nI (rk (tkd T p)) = nI 140 by rw [hk]; rfl)]
    have eA : j_X5_readPlain_36 (gr_A fA) (nI dd) x2 hc = (f_X5_canOpen (nI dd) hc).bind fun v20 => if v20.1 = true then (f_X5_takeSign 40 v20.2).bind fun v23 => if v23.1 = true then (gr_A fA 0 (nI dd + 1) v23.2).bind fun v26 => if v26.1 = true then (f_X5_takeSign 41 v26.2).bind fun v29 => if v29.1 = true then j_X5_readPlain_96 (gr_A fA) x2 1 v29.2 else j_X5_readPlain_85 (gr_A fA) x2 v29.2 else j_X5_readPlain_85 (gr_A fA) x2 v26.2 else j_X5_readPlain_85 (gr_A fA) x2 v23.2 else j_X5_readPlain_85 (gr_A fA) x2 v20.2 := by
      unfold j_X5_readPlain_36
      rw [show ((40 : Int32)) = nI 40 from rfl, c_isSign hT hC 40 (by decide), Option.bind_some, if_pos (decide_eq_true (show tkd T p = 100 + 40 from hk))]
    by_cases h8 : dd = 8
    · obtain ⟨hc1, a1, a2, a3, a4⟩ := c_wrong hT hC hs4
      obtain ⟨hr1, b1, b2, b3, b4⟩ := m_faults hT hR
      refine ⟨false, hc1, hr1, ?_, ?_, a3, b4, fun c => (by cases c), Out_F hin a2 b2 b3⟩
      · rw [eA]
        unfold f_X5_canOpen
        rw [h8, if_neg (by decide), a1, Option.bind_some, if_neg Bool.false_ne_true, Option.bind_some, if_neg Bool.false_ne_true]
        rfl
      · rw [h8, if_pos (show nI 8 = 8 from rfl), b1, Option.bind_some]
        unfold j_X11_readPlain_53
        rw [m_fineF b3, Option.bind_some, if_neg Bool.false_ne_true]
    · have hd8 : dd < 8 := by omega
      obtain ⟨hc1, a1, -, a3, a4, a5⟩ := (c_takeSign hT hC hs4 40 (by decide)).1 hk
      obtain ⟨b1, b2⟩ := RS_go hR hi
      obtain ⟨bo, hc2, hr2, d1, d2, d3, d4, d5, d6⟩ := hQ hd8 hc1 (sF hr 81 19 (nI (p + 1))) (p + 1) s u fA (fB' + 3) a3 b1 (by omega) (by omega) (by omega)
      have cA2 : j_X5_readPlain_36 (gr_A fA) (nI dd) x2 hc = if bo = true then (f_X5_takeSign 41 hc2).bind fun v29 => if v29.1 = true then j_X5_readPlain_96 (gr_A fA) x2 1 v29.2 else j_X5_readPlain_85 (gr_A fA) x2 v29.2 else j_X5_readPlain_85 (gr_A fA) x2 hc2 := by
        rw [eA]
        unfold f_X5_canOpen
        rw [if_pos (show nI dd < 8 from nI_lt (a := dd) (b := 8) hd8 (by omega)), Option.bind_some, if_pos rfl]
        dsimp only
        rw [show ((40 : Int32)) = nI 40 from rfl, a1, Option.bind_some, if_pos rfl]
        dsimp only
        rw [nI_1, d1, Option.bind_some]
      rw [if_neg (show ¬ nI dd = 8 from fun e => h8 ((nI_eq (by omega) (by omega)).mp (show nI dd = nI 8 from e)))]
      unfold j_X11_readPlain_53
      rw [m_fineT hR, Option.bind_some, if_pos rfl, hR.2.2.1, nI_1, nI_1, d2, Option.bind_some, sg41, Option.bind_some]
      dsimp only
      have fr1 : Fr rA rF hc hc2 := Fr_tr a4 d3
      have fr2 : Fr noA yF hr hr2 := Fr_tr b2 d4
      cases bo with
      | false =>
        obtain ⟨x, x1, x2', x3, x4⟩ := d6.2 rfl
        refine ⟨false, hc2, hr2, by rw [cA2, if_neg Bool.false_ne_true]; rfl, by rw [m_mustF x4, Option.bind_some], fr1, fr2, fun c => (by cases c), Out_F x1 x2' x3 x4⟩
      | true =>
        obtain ⟨i', s', u', e1, e2, e3, e4, e5, τ, e6, e7⟩ := d6.1 rfl
        have hin' := e1.2.1
        by_cases h41 : tkd T i' = 141
        · obtain ⟨hc3, f1, f2, f3, f4, f5⟩ := (c_takeSign hT e1 (by omega) 41 (by decide)).1 h41
          obtain ⟨hr3, g1, g2, g3, g4⟩ := (m_must hT e2 141 (by decide) (by decide)).1 (by rw [h41]; rfl)
          refine ⟨true, hc3, hr3, ?_, by rw [g1, Option.bind_some], Fr_tr fr1 f4, Fr_tr fr2 g4, fun _ j hj => by rw [f5, d5 rfl j hj, a5], Out_T f3 g3 (by omega) e4 (by omega) ⟨τ, ?_, RD_paren hi hk e7⟩⟩
          · rw [cA2, if_pos rfl, show ((41 : Int32)) = nI 41 from rfl, f1, Option.bind_some, if_pos rfl]
            rfl
          · rw [f5]
            exact MC_B e6 (by omega)
        · obtain ⟨hc3, f1, f2, f3, f4⟩ := (c_takeSign hT e1 (by omega) 41 (by decide)).2 h41
          obtain ⟨hr3, g1, g2, g3, g4⟩ := (m_must hT e2 141 (by decide) (by decide)).2 (fun e => h41 ((rk_sign (by decide)).mp e))
          refine ⟨false, hc3, hr3, ?_, by rw [g1, Option.bind_some], Fr_tr fr1 f3, Fr_tr fr2 g4, fun c => (by cases c), Out_F hin' f2 g2 g3⟩
          rw [cA2, if_pos rfl, show ((41 : Int32)) = nI 41 from rfl, f1, Option.bind_some, if_neg Bool.false_ne_true]
          rfl
  · rw [if_neg (rk_no hk hkb (by decide) (by decide))]
    obtain ⟨fA', rfl⟩ : ∃ f', fA = f' + 1 := ⟨fA - 1, by omega⟩
    have eA : j_X5_readPlain_36 (gr_A (fA' + 1)) (nI dd) x2 hc = (f_X5_readComparison (gr_A fA') (nI dd) hc).bind fun v11 => j_X5_readPlain_96 (gr_A (fA' + 1)) x2 (b2i v11.1) v11.2 := by
      unfold j_X5_readPlain_36
      rw [show ((40 : Int32)) = nI 40 from rfl, c_isSign hT hC 40 (by decide), Option.bind_some, decide_eq_false (show ¬ tkd T p = 100 + 40 from hk), if_neg Bool.false_ne_true]
      rfl
    rw [eA]
    unfold f_X5_readComparison
    obtain ⟨bo, hc1, hr1, d1, d2, d3, d4, d5, d6⟩ := hS hc hr p s u fA' (fB' + 3) hC hR hsi (by omega) (by omega)
    rw [d1, Option.bind_some, d2, Option.bind_some, sg60, Option.bind_some]
    dsimp only
    have F128 : ∀ h : Hp, fI h 81 21 ≠ -1 → j_X11_readPlain_128 (gr_B (fB' + 3)) (nI dd) h = some ((), h) := by
      intro h hb
      unfold j_X11_readPlain_128
      rw [(gB_F hb (nI dd)).2.2.1 fB', Option.bind_some]
    cases bo with
    | false =>
      obtain ⟨x, x1, x2', x3, x4⟩ := d6.2 rfl
      refine ⟨false, hc1, hr1, by rw [if_neg Bool.false_ne_true, Option.bind_some], ?_, d3, d4, fun c => (by cases c), Out_F x1 x2' x3 x4⟩
      rw [m_takesF x4, Option.bind_some, if_neg Bool.false_ne_true, sg62, Option.bind_some, m_takesF x4, Option.bind_some, if_neg Bool.false_ne_true, sg61, Option.bind_some, m_mustF x4, Option.bind_some, F128 _ x4]
    | true =>
      obtain ⟨i', s', u', C1, R1, e3, e4, e5, σ, e6, e7⟩ := d6.1 rfl
      have hin' := C1.2.1
      have hpN : p < tN T := by omega
      rw [if_pos rfl]
      by_cases hop : tkd T i' = 160 ∨ tkd T i' = 162 ∨ tkd T i' = 161
      · obtain ⟨q, hq, hq7⟩ : ∃ q, (tkd T i' = 160 ∧ q = 7 ∨ tkd T i' = 162 ∧ q = 8 ∨ tkd T i' = 161 ∧ q = 9) ∧ (q = 7 ∨ q = 8 ∨ q = 9) := by
          rcases hop with e | e | e
          · exact ⟨7, by omega, by omega⟩
          · exact ⟨8, by omega, by omega⟩
          · exact ⟨9, by omega, by omega⟩
        have hi' : i' < tN T := kd_lt hT hin' (by omega)
        obtain ⟨hc2, a1, a2, a3, a4⟩ := c_goOn hT C1 hi'
        obtain ⟨b1, b2⟩ := RS_go R1 hi'
        obtain ⟨bo2, hc3, hr3, g1, g2, g3, g4, g5, g6⟩ := hS hc2 (sF hr1 81 19 (nI (i' + 1))) (i' + 1) s' u' fA' (fB' + 3) a2 b1 (by omega) (by omega) (by omega)
        have kA : ((f_X5_isSign 60 hc1).bind fun v4 => if v4 = true then j_X5_readComparison_57 (gr_A fA') (nI dd) 7 hc1 else (f_X5_isSign 62 hc1).bind fun v7 => if v7 = true then j_X5_readComparison_57 (gr_A fA') (nI dd) 8 hc1 else (f_X5_isSign 61 hc1).bind fun v10 => if v10 = true then j_X5_readComparison_57 (gr_A fA') (nI dd) 9 hc1 else (f_X5_wrong hc1).bind fun v19 => some (v19.1, v19.2)) = (f_X5_put (nI q) 0 hc3).bind fun v17 => some (bo2, v17.2) := by
          have k57 : ∀ x, j_X5_readComparison_57 (gr_A fA') (nI dd) x hc1 = (f_X5_put x 0 hc3).bind fun v17 => some (bo2, v17.2) := by
            intro x
            unfold j_X5_readComparison_57
            rw [a1, Option.bind_some]
            dsimp only
            rw [g1, Option.bind_some]
          rw [show ((60 : Int32)) = nI 60 from rfl, show ((62 : Int32)) = nI 62 from rfl, show ((61 : Int32)) = nI 61 from rfl, c_isSign hT C1 60 (by decide), c_isSign hT C1 62 (by decide), c_isSign hT C1 61 (by decide), Option.bind_some, Option.bind_some, Option.bind_some]
          rcases hq with ⟨hk, rfl⟩ | ⟨hk, rfl⟩ | ⟨hk, rfl⟩
          · rw [if_pos (decide_eq_true (show tkd T i' = 100 + 60 from hk))]; exact k57 7
          · rw [decide_eq_false (show ¬ tkd T i' = 100 + 60 by omega), if_neg Bool.false_ne_true, if_pos (decide_eq_true (show tkd T i' = 100 + 62 from hk))]; exact k57 8
          · rw [decide_eq_false (show ¬ tkd T i' = 100 + 60 by omega), if_neg Bool.false_ne_true, decide_eq_false (show ¬ tkd T i' = 100 + 62 by omega), if_neg Bool.false_ne_true, if_pos (decide_eq_true (show tkd T i' = 100 + 61 from hk))]; exact k57 9
        have kB : ((f_X11_takes0 (nI 160) hr1).bind fun v18 => if v18.1 = true then j_X11_readPlain_128 (gr_B (fB' + 3)) (nI dd) v18.2 else (f_X11_sign 62).bind fun v23 => (f_X11_takes0 v23 v18.2).bind fun v25 => if v25.1 = true then j_X11_readPlain_128 (gr_B (fB' + 3)) (nI dd) v25.2 else (f_X11_sign 61).bind fun v28 => (f_X11_must v28 v25.2).bind fun v30 => j_X11_readPlain_128 (gr_B (fB' + 3)) (nI dd) v30.2) = some ((), hr3) := by
          have k128 : j_X11_readPlain_128 (gr_B (fB' + 3)) (nI dd) (sF hr1 81 19 (nI (i' + 1))) = some ((), hr3) := by
            unfold j_X11_readPlain_128
            rw [g2, Option.bind_some]
          rcases hq with ⟨hk, rfl⟩ | ⟨hk, rfl⟩ | ⟨hk, rfl⟩
          · rw [takes_eq hT R1 (by decide) (show rk (tkd T i') = 160 by rw [hk]; rfl), Option.bind_some, if_pos rfl]; exact k128
          · rw [(m_takes hT R1 160 (by decide) (by decide)).2 (fun e => by have := (rk_sign (by decide)).mp e; omega), Option.bind_some, if_neg Bool.false_ne_true, sg62, Option.bind_some, takes_eq hT R1 (by decide) (show rk (tkd T i') = 162 by rw [hk]; rfl), Option.bind_some, if_pos rfl]; exact k128
          · rw [(m_takes hT R1 160 (by decide) (by decide)).2 (fun e => by have := (rk_sign (by decide)).mp e; omega), Option.bind_some, if_neg Bool.false_ne_true, sg62, Option.bind_some, (m_takes hT R1 162 (by decide) (by decide)).2 (fun e => by have := (rk_sign (by decide)).mp e; omega), Option.bind_some, if_neg Bool.false_ne_true, sg61, Option.bind_some]
            unfold f_X11_must
            rw [takes_eq hT R1 (by decide) (show rk (tkd T i') = 161 by rw [hk]; rfl), Option.bind_some, if_pos rfl, Option.bind_some]; exact k128
        rw [kA, kB]
        have fr1 : Fr rA rF hc hc3 := Fr_tr d3 (Fr_tr a3 g3)
        have fr2 : Fr noA yF hr hr3 := Fr_tr d4 (Fr_tr b2 g4)
        cases bo2 with
        | false =>
          obtain ⟨x, x1, x2', x3, x4⟩ := g6.2 rfl
          obtain ⟨r, hc4, y1, y2, y3, -⟩ := c_putF x2' (nI q) 0
          exact ⟨false, hc4, hr3, by rw [y1, Option.bind_some, Option.bind_some], rfl, Fr_tr fr1 y3, fr2, fun c => (by cases c), Out_F x1 y2 x3 x4⟩
        | true =>
          obtain ⟨i2, s2, u2, C2, R2, f3, f4, f5, τ, f6, f7⟩ := g6.1 rfl
          have hin2 := C2.2.1
          have cd : ∀ j, j < 2 * s' → aI hc3 8 j = aI hc1 8 j := fun j hj => by rw [g5 rfl j hj, a4]
          obtain ⟨hc4, y1, y2, y3, y4⟩ := c_put C2 (show s2 < 400 by omega) (nI q) 0
          refine ⟨true, hc4, hr3, by rw [y1, Option.bind_some, Option.bind_some], rfl, Fr_tr fr1 y3, fr2, fun _ j hj => ?_, Out_T y2 R2 (by omega) (by omega) (by omega) ⟨fun w => (σ w).bind fun l => (τ w).bind fun r => some (cmpS q l r), MT_cmp (σ := fun w => (σ w).bind fun l => (τ w).bind fun r => opS q l r) (MC_bin (m := s') (by omega) (MC_code (MC_B e6 (by omega)) (fun j j1 j2 => ?_)) (MC_code f6 (fun j j1 j2 => ?_)) (by omega) (by omega) ?_ (by omega) (by omega)) (fun w => ?_), RD_fu (RD_cmp hpN hi' hk e7 f7 hq) (by omega)⟩⟩
          · rw [y4, pk_un (by omega), pk_un (by omega), cd j (by omega), d5 rfl j hj]
          · rw [y4, pk_un (by omega), pk_un (by omega), cd j (by omega)]
          · rw [y4, pk_un (by omega), pk_un (by omega)]
          · rw [y4, pk_un (by omega), pk_us]
          · cases σ w with
            | none => rfl
            | some l =>
              cases τ w with
              | none => rfl
              | some r => exact opS_cmp hq7 l r
      · obtain ⟨hc2, a1, a2, a3, a4⟩ := c_wrong hT C1 (by omega)
        obtain ⟨hr2, b1, b2, b3, b4⟩ := (m_must hT R1 161 (by decide) (by decide)).2 (fun e => hop (Or.inr (Or.inr ((rk_sign (by decide)).mp e))))
        refine ⟨false, hc2, hr2, ?_, ?_, Fr_tr d3 a3, Fr_tr d4 b4, fun c => (by cases c), Out_F hin' a2 b2 b3⟩
        · rw [show ((60 : Int32)) = nI 60 from rfl, show ((62 : Int32)) = nI 62 from rfl, show ((61 : Int32)) = nI 61 from rfl, c_isSign hT C1 60 (by decide), c_isSign hT C1 62 (by decide), c_isSign hT C1 61 (by decide), Option.bind_some, Option.bind_some, Option.bind_some, decide_eq_false (show ¬ tkd T i' = 100 + 60 by omega), if_neg Bool.false_ne_true, decide_eq_false (show ¬ tkd T i' = 100 + 62 by omega), if_neg Bool.false_ne_true, decide_eq_false (show ¬ tkd T i' = 100 + 61 by omega), if_neg Bool.false_ne_true, a1, Option.bind_some, Option.bind_some]
        · rw [(m_takes hT R1 160 (by decide) (by decide)).2 (fun e => hop (Or.inl ((rk_sign (by decide)).mp e))), Option.bind_some, if_neg Bool.false_ne_true, sg62, Option.bind_some, (m_takes hT R1 162 (by decide) (by decide)).2 (fun e => hop (Or.inr (Or.inl ((rk_sign (by decide)).mp e)))), Option.bind_some, if_neg Bool.false_ne_true, sg61, Option.bind_some, b1, Option.bind_some, F128 _ b3]
theorem rd_plain {T : Tok} {o : Bool} {fa fb fx dd : Nat} (hT : TF T) (hd : dd ≤ 8) (hfb : 3 ≤ fb) (hS : Rd T o 4 3 fa fb dd (ZV T o 0 27 (3 * dd + 1))) (hQ : dd < 8 → Rd T o 0 0 (fa + 1) fb (dd + 1) (ZT T o 0 fx (3 * dd + 3))) : Rd T o 2 2 (fa + 2) (fb + 1) dd (ZT T o 2 (fx + 2) (3 * dd)) := by
  intro hc hr i s u fA fB hC hR hsi hfA hfB
  obtain ⟨fA, rfl⟩ : ∃ f', fA = f' + 1 := ⟨fA - 1, by omega⟩
  obtain ⟨fB, rfl⟩ : ∃ f', fB = f' + 1 := ⟨fB - 1, by omega⟩
  have hN := hT.1
  have hin := hC.2.1
  obtain ⟨n, n1, n2, n3⟩ := nots hT (tN T - i) i (by omega)
  have LA : ∃ e, lp (fun s : Int32 × Int32 × Hp => b_X5_readPlain_4 (gr_A fA) (nI dd) s.1 s.2.1 s.2.2) FU ((0 : Int32), (0 : Int32), hc) = some e ∧ e.1 = nI (n % 2) ∧ CS T o e.2 (i + n) s u ∧ Fr rA rF hc e.2 ∧ aI e.2 8 = aI hc 8 := by
    refine lp_inv (b := fun s : Int32 × Int32 × Hp => b_X5_readPlain_4 (gr_A fA) (nI dd) s.1 s.2.1 s.2.2) (fun x st => st.1 = nI (x % 2) ∧ st.2.1 = nI x ∧ CS T o st.2.2 (i + x) s u ∧ Fr rA rF hc st.2.2 ∧ aI st.2.2 8 = aI hc 8) (fun e => e.1 = nI (n % 2) ∧ CS T o e.2 (i + n) s u ∧ Fr rA rF hc e.2 ∧ aI e.2 8 = aI hc 8) n _ (by omega) ⟨rfl, rfl, hC, Fr_rfl, rfl⟩ ?_ ?_
    · rintro x ⟨x2, x3, h1⟩ hx ⟨p1, p2, p3, p4, p5⟩
      dsimp only at p1 p2 p3 p4 p5
      subst p1
      subst p2
      left
      obtain ⟨h2, a1, a2, a3, a4, a5⟩ := (c_takeIf hT p3 26 (by decide)).1 (n1 x hx)
      refine ⟨(nI ((x + 1) % 2), nI (x + 1), h2), ?_, rfl, rfl, a3, Fr_tr p4 a4, a5.trans p5⟩
      show b_X5_readPlain_4 (gr_A fA) (nI dd) (nI (x % 2)) (nI x) h1 = _
      unfold b_X5_readPlain_4
      rw [if_neg (show ¬ (400 : Int32) ≤ nI x from nI_ge (a := x) (b := 400) (by omega) (by omega)), show ((26 : Int32)) = nI 26 from rfl, a1, Option.bind_some, if_pos rfl]
      unfold j_X5_readPlain_29_4
      by_cases c : x % 2 = 0
      · rw [if_pos (by rw [c]; rfl), show (x + 1) % 2 = 1 by omega, nI_1]; rfl
      · rw [if_neg (by rw [show x % 2 = 1 by omega]; decide), show (x + 1) % 2 = 0 by omega, nI_1]; rfl
    · rintro ⟨x2, x3, h1⟩ ⟨p1, p2, p3, p4, p5⟩
      dsimp only at p1 p2 p3 p4 p5
      subst p1
      subst p2
      refine ⟨(nI (n % 2), h1), ?_, rfl, p3, p4, p5⟩
      show b_X5_readPlain_4 (gr_A fA) (nI dd) (nI (n % 2)) (nI n) h1 = _
      unfold b_X5_readPlain_4
      by_cases c : (400 : Int32) ≤ nI n
      · rw [if_pos c]
      · rw [if_neg c, show ((26 : Int32)) = nI 26 from rfl, (c_takeIf hT p3 26 (by decide)).2 n2, Option.bind_some, if_neg Bool.false_ne_true]
  have hr7 : ∀ q, q < 400 → (rk q = 7 ↔ q = 26) := by
    intro q hq
    by_cases c : q < 30
    · have : ∀ q, q < 30 → (rk q = 7 ↔ q = 26) := by decide
      exact this q c
    · rw [rk_hi (by omega)]; omega
  have LB : ∃ e, lp (fun s : Int32 × Hp => b_X11_readPlain_2 (gr_B fB) (nI dd) s.1 s.2) FU ((1 : Int32), hr) = some e ∧ RS T o e (i + n) u ∧ Fr noA yF hr e := by
    refine lp_inv (b := fun s : Int32 × Hp => b_X11_readPlain_2 (gr_B fB) (nI dd) s.1 s.2) (fun x st => Fr noA yF hr st.2 ∧ (x ≤ n → st.1 = 1 ∧ RS T o st.2 (i + x) u) ∧ (n < x → st.1 = 0 ∧ RS T o st.2 (i + n) u)) (fun e => RS T o e (i + n) u ∧ Fr noA yF hr e) (n + 1) _ (by omega) ⟨Fr_rfl, fun _ => ⟨rfl, hR⟩, fun c => by omega⟩ ?_ ?_
    · rintro x ⟨x1, h1⟩ hx ⟨p1, p2, p3⟩
      dsimp only at p1 p2 p3
      obtain ⟨q1, q2⟩ := p2 (by omega)
      subst q1
      left
      show ∃ s', b_X11_readPlain_2 (gr_B fB) (nI dd) 1 h1 = some (.inl s') ∧ _
      unfold b_X11_readPlain_2
      rw [if_neg (by decide), show ((7 : Int32)) = nI 7 from rfl]
      by_cases cx : x < n
      · obtain ⟨h2, a1, a2, a3, a4⟩ := (m_takes hT q2 7 (by decide) (by decide)).1 (by rw [n1 x cx]; rfl)
        exact ⟨(b2i true, h2), by rw [a1, Option.bind_some], Fr_tr p1 a4, fun _ => ⟨rfl, a3⟩, fun c => by omega⟩
      · have hxn : x = n := by omega
        subst hxn
        refine ⟨(b2i false, h1), ?_, p1, fun c => by omega, fun _ => ⟨rfl, q2⟩⟩
        rw [(m_takes hT q2 7 (by decide) (by decide)).2 (fun e => n2 ((hr7 _ (kd_bd hT q2.2.1)).mp e)), Option.bind_some]
    · rintro ⟨x1, h1⟩ ⟨p1, p2, p3⟩
      dsimp only at p1 p2 p3
      obtain ⟨q1, q2⟩ := p3 (by omega)
      subst q1
      refine ⟨h1, ?_, q2, p1⟩
      show b_X11_readPlain_2 (gr_B fB) (nI dd) 0 h1 = _
      unfold b_X11_readPlain_2
      rw [if_pos rfl]
  obtain ⟨⟨x2, hc1⟩, A1, A2, A3, A4, A5⟩ := LA
  dsimp only at A2 A3 A4 A5
  subst A2
  obtain ⟨hr1, B1, B2, B3⟩ := LB
  obtain ⟨bo, hc2, hr2, c1, c2, c3, c4, c5, c6⟩ := rd_core hT hd hS hQ A3 B2 (by omega) (show fa + 1 ≤ fA by omega) (show fb ≤ fB by omega) hfb (nI (n % 2))
  have eA : gr_A (fA + 1) 2 (nI dd) hc = j_X5_readPlain_96 (gr_A fA) (nI (n % 2)) (b2i bo) hc2 := by
    rw [(gA_k fA (nI dd) hc).2.2.1]
    unfold f_X5_readPlain
    rw [A1, Option.bind_some]
    exact c1
  have eB : gr_B (fB + 1) 2 (nI dd) hr = some ((), hr2) := by
    rw [(gB_k fB (nI dd) hr).2.2.1]
    unfold f_X11_readPlain
    rw [B1, Option.bind_some, m_fineT B2, Option.bind_some, if_pos rfl]
    exact c2
  have fr1 : Fr rA rF hc hc2 := Fr_tr A4 c3
  have fr2 : Fr noA yF hr hr2 := Fr_tr B3 c4
  have h01 : n % 2 = 0 ∨ n % 2 = 1 := by omega
  cases bo with
  | false =>
    obtain ⟨x, x1, x2', x3, x4⟩ := c6.2 rfl
    rcases h01 with h0 | h0
    · refine ⟨false, hc2, hr2, ?_, eB, fr1, fr2, fun c => (by cases c), Out_F x1 x2' x3 x4⟩
      rw [eA, h0]
      unfold j_X5_readPlain_96
      rw [if_pos (show nI 0 = 0 from rfl), i2b_b, Option.bind_some]
    · obtain ⟨r, hc4, y1, y2, y3, -⟩ := c_putF x2' 10 0
      refine ⟨false, hc4, hr2, ?_, eB, Fr_tr fr1 y3, fr2, fun c => (by cases c), Out_F x1 y2 x3 x4⟩
      rw [eA, h0]
      unfold j_X5_readPlain_96
      rw [if_neg (by decide), y1, Option.bind_some, i2b_b, Option.bind_some]
  | true =>
    obtain ⟨i', s', u', e1, e2, e3, e4, e5, τ, e6, e7⟩ := c6.1 rfl
    have hin' := e1.2.1
    have hrd := RD_plain (n := n) (show i + n < tN T by omega) (by omega) n1 n2 (kd_bd hT n3) e7
    rcases h01 with h0 | h0
    · refine ⟨true, hc2, hr2, ?_, eB, fr1, fr2, fun _ j hj => by rw [c5 rfl j hj, A5], Out_T e1 e2 (by omega) e4 (by omega) ⟨_, ?_, hrd⟩⟩
      · rw [eA, h0]
        unfold j_X5_readPlain_96
        rw [if_pos (show nI 0 = 0 from rfl), i2b_b, Option.bind_some]
      · rw [h0]
        exact e6
    · obtain ⟨hc4, y1, y2, y3, y4⟩ := c_put e1 (show s' < 400 by omega) 10 0
      refine ⟨true, hc4, hr2, ?_, eB, Fr_tr fr1 y3, fr2, fun _ j hj => ?_, Out_T y2 e2 (by omega) (by omega) (by omega) ⟨_, ?_, hrd⟩⟩
      · rw [eA, h0]
        unfold j_X5_readPlain_96
        rw [if_neg (by decide), y1, Option.bind_some, i2b_b, Option.bind_some]
      · rw [y4, pk_un (by omega), pk_un (by omega), c5 rfl j hj, A5]
      · rw [h0]
        refine MT_not (by omega) (MC_code e6 (fun j j1 j2 => ?_)) (by omega) ?_
        · rw [y4, pk_un (by omega), pk_un (by omega)]
        · rw [y4, pk_un (by omega), pk_us]; rfl
