/-! ===== both readers: and, or; all depths ===== -/
theorem rd_both {T : Tok} {o : Bool} {fa fb fx dd : Nat} (hT : TF T) (hd : dd ≤ 8) (hP : Rd T o 2 2 fa fb dd (ZT T o 2 fx (3 * dd))) : Rd T o 1 1 (fa + 1) (fb + 1) dd (ZT T o 1 (fx + 1) (3 * dd)) := by
  intro hc hr i0 s0 u0 fA fB hC hR hsi hfA hfB
  obtain ⟨fA, rfl⟩ : ∃ f', fA = f' + 1 := ⟨fA - 1, by omega⟩
  obtain ⟨fB, rfl⟩ : ∃ f', fB = f' + 1 := ⟨fB - 1, by omega⟩
  have hN := hT.1
  have hrc : ∀ q, q < 400 → (rk q = 6 ↔ q = 25) := by
    intro q hq
    by_cases h : q < 30
    · have : ∀ q, q < 30 → (rk q = 6 ↔ q = 25) := by decide
      exact this q h
    · rw [rk_hi (by omega)]; omega
  obtain ⟨bo, hc1, hr1, d1, d2, d3, d4, d5, d6⟩ := hP hc hr i0 s0 u0 fA fB hC hR hsi (by omega) (by omega)
  have key := lp_two (b₁ := fun s : Int32 × Int32 × Hp => b_X5_readBoth_8 (gr_A fA) (nI dd) s.1 s.2.1 s.2.2) (b₂ := fun s : Hp => b_X11_readBoth_5 (gr_B fB) (nI dd) s)
    (fun idx s t => s.2.1 = nI idx ∧ Fr rA rF hc s.2.2 ∧ Fr noA yF hr t ∧ ∃ bo, s.1 = b2i bo ∧ (bo = true → ∀ j, j < 2 * s0 → aI s.2.2 8 j = aI hc 8 j) ∧ (bo = true → ∃ i s' u, idx ≤ i ∧ CS T o s.2.2 i s' u ∧ RS T o t i u ∧ i0 < i ∧ s0 < s' ∧ s' + i0 ≤ s0 + i ∧ ∃ σ, MT (okW o) (aI s.2.2 8) s0 s' (3 * dd) σ ∧ PBth (tkd T) (tvl T) (tN T) o fx i0 i σ) ∧ (bo = false → ∃ x, x ≤ tN T ∧ CF s.2.2 (tps T x) ∧ fI t 81 21 = nI (tps T x) ∧ fI t 81 21 ≠ -1))
    (fun e t => Fr rA rF hc e.2 ∧ Fr noA yF hr t ∧ ∃ bo, e.1 = b2i bo ∧ (bo = true → ∀ j, j < 2 * s0 → aI e.2 8 j = aI hc 8 j) ∧ Out T o (ZT T o 1 (fx + 1) (3 * dd)) e.2 t s0 i0 bo)
    401 (b2i bo, (0 : Int32), hc1) hr1 (by omega) ?_ ?_ ?_
  · obtain ⟨e, g, k1, k2, k3, k4, bo', k6, k5, k7⟩ := key
    refine ⟨bo', e.2, g, ?_, ?_, k3, k4, k5, k7⟩
    · rw [(gA_k fA (nI dd) hc).2.1]
      unfold f_X5_readBoth
      rw [d1, Option.bind_some, k1, Option.bind_some, k6, i2b_b, Option.bind_some]
    · rw [(gB_k fB (nI dd) hr).2.1]
      unfold f_X11_readBoth
      rw [d2, Option.bind_some, k2, Option.bind_some]
  · refine ⟨rfl, d3, d4, bo, rfl, d5, fun c => ?_, fun c => d6.2 c⟩
    obtain ⟨i', s', u', e1, e2, e3, e4, e5, σ, e6, e7⟩ := d6.1 c
    exact ⟨i', s', u', Nat.zero_le _, e1, e2, e3, e4, e5, σ, e6, PBth_0 e7⟩
  · rintro idx ⟨x2, x3, h1⟩ t hidx ⟨p1, p2, p3, bo, p5, p4, p6, p7⟩
    dsimp only at p1 p2 p3 p4 p5 p6 p7
    subst p1
    subst p5
    cases bo with
    | false =>
      right
      obtain ⟨x, q1, q2, q3, q4⟩ := p7 rfl
      refine ⟨(b2i false, h1), t, ?_, ?_, p2, p3, false, rfl, fun c => (by cases c), Out_F q1 q2 q3 q4⟩
      · show b_X5_readBoth_8 (gr_A fA) (nI dd) (b2i false) (nI idx) h1 = _
        unfold b_X5_readBoth_8
        rw [if_pos (show b2i false = 0 from rfl)]
        split <;> rfl
      · show b_X11_readBoth_5 (gr_B fB) (nI dd) t = _
        unfold b_X11_readBoth_5
        rw [m_takesF q4, Option.bind_some, if_neg Bool.false_ne_true]
    | true =>
      obtain ⟨i, s, u, q1, C1, R1, q2, q3, q4, σ, q5, q6⟩ := p6 rfl
      have hin := C1.2.1
      by_cases hk : tkd T i = 25
      · left
        have hi : i < tN T := kd_lt hT hin (by omega)
        obtain ⟨hc2, a1, -, a2, a3, a4⟩ := (c_takeIf hT C1 25 (by decide)).1 hk
        obtain ⟨hcp, w1, w2, w3, w4⟩ := c_put a2 (show s < 400 by omega) 11 0
        obtain ⟨b1, b2⟩ := RS_go R1 hi
        obtain ⟨bo2, hc3, hr3, g1, g2, g3, g4, g5, g6⟩ := hP hcp (sF t 81 19 (nI (i + 1))) (i + 1) (s + 1) u fA fB w2 b1 (by omega) (by omega) (by omega)
        have eA : b_X5_readBoth_8 (gr_A fA) (nI dd) (b2i true) (nI idx) h1 = (f_X5_land (nI s) hc3).bind fun v => some (.inl (b2i bo2, nI (idx + 1), v.2)) := by
          unfold b_X5_readBoth_8
          rw [if_neg (show ¬ (400 : Int32) ≤ nI idx from nI_ge (a := idx) (b := 400) (by omega) (by omega)), if_neg (by decide), show ((25 : Int32)) = nI 25 from rfl, a1, Option.bind_some, if_pos rfl]
          dsimp only
          rw [w1, Option.bind_some]
          dsimp only
          rw [g1, Option.bind_some, nI_1]
        have eB : b_X11_readBoth_5 (gr_B fB) (nI dd) t = some (.inl hr3) := by
          unfold b_X11_readBoth_5
          rw [show ((6 : Int32)) = nI 6 from rfl, takes_eq hT R1 (by decide) (show rk (tkd T i) = 6 by rw [hk]; rfl), Option.bind_some, if_pos rfl]
          dsimp only
          rw [g2, Option.bind_some]
        have fr1 : Fr rA rF hc hc3 := Fr_tr p2 (Fr_tr a3 (Fr_tr w3 g3))
        have fr2 : Fr noA yF hr hr3 := Fr_tr p3 (Fr_tr b2 g4)
        have eL : f_X5_land (nI s) hc3 = some ((), sA hc3 8 (2 * s + 1) (fI hc3 4 8)) := by
          unfold f_X5_land
          rw [if_neg (nI_pos (by omega)), if_neg (show ¬ (400 : Int32) ≤ nI s from nI_ge (a := s) (b := 400) (by omega) (by omega)), l2_, pk_mul, nI_1, Nat.mul_comm s 2, inb_nI (by omega) (by omega), Option.bind_some]
        cases bo2 with
        | false =>
          obtain ⟨x, x1, x2, x3, x4⟩ := g6.2 rfl
          refine ⟨(b2i false, nI (idx + 1), sA hc3 8 (2 * s + 1) (fI hc3 4 8)), hr3, ?_, eB, rfl, Fr_tA fr1 rfl, fr2, false, rfl, fun c => (by cases c), fun c => (by cases c), fun _ => ⟨x, x1, x2, x3, x4⟩⟩
          show b_X5_readBoth_8 (gr_A fA) (nI dd) (b2i true) (nI idx) h1 = _
          rw [eA, eL, Option.bind_some]
        | true =>
          obtain ⟨i', s', u', e1, e2, e3, e4, e5, τ, e6, e7⟩ := g6.1 rfl
          have hin' := e1.2.1
          have cd : ∀ j, j < 2 * s → aI hc3 8 j = aI h1 8 j := fun j hj => by rw [g5 rfl j (by omega), w4, pk_un (by omega), pk_un (by omega), a4]
          have c2s : aI hc3 8 (2 * s) = 11 := by rw [g5 rfl _ (by omega), w4, pk_un (by omega), pk_us]
          rw [e1.2.2.2.2.1] at eL
          have eC : CS T o (sA hc3 8 (2 * s + 1) (nI s')) i' s' u' := by
            obtain ⟨z1, z2, z3, z4, z5, z6, z7, z8⟩ := e1
            exact ⟨TK_fr z1 (Fr_sA rfl), z2, z3, z4, z5, z6, z7, z8⟩
          have c8 : aI (sA hc3 8 (2 * s + 1) (nI s')) 8 = upd (aI hc3 8) (2 * s + 1) (nI s') := ps_aAs _ _ _ _
          refine ⟨(b2i true, nI (idx + 1), sA hc3 8 (2 * s + 1) (nI s')), hr3, ?_, eB, rfl, Fr_tA fr1 rfl, fr2, true, rfl, fun _ j hj => ?_, fun _ => ⟨i', s', u', by omega, eC, e2, by omega, by omega, by omega, _, MT_and (m := s) (by omega) (MC_code q5 (fun j j1 j2 => ?_)) (MC_code e6 (fun j j1 j2 => ?_)) (by omega) (by omega) ?_ ?_, PBth_s q6 e7 (by omega) hi (by omega) hk⟩, fun c => (by cases c)⟩
          · show b_X5_readBoth_8 (gr_A fA) (nI dd) (b2i true) (nI idx) h1 = _
            rw [eA, eL, Option.bind_some]
          · show aI (sA hc3 8 (2 * s + 1) (nI s')) 8 j = _
            rw [c8, pk_un (by omega), cd j (by omega)]
            exact p4 rfl j hj
          · show aI (sA hc3 8 (2 * s + 1) (nI s')) 8 j = _
            rw [c8, pk_un (by omega), cd j (by omega)]
          · show aI (sA hc3 8 (2 * s + 1) (nI s')) 8 j = _
            rw [c8, pk_un (by omega)]
          · show aI (sA hc3 8 (2 * s + 1) (nI s')) 8 (2 * s) = _
            rw [c8, pk_un (by omega), c2s]; rfl
          · show aI (sA hc3 8 (2 * s + 1) (nI s')) 8 (2 * s + 1) = _
            rw [c8, pk_us]
      · right
        refine ⟨(b2i true, h1), t, ?_, ?_, p2, p3, true, rfl, p4, Out_T C1 R1 q2 q3 q4 ⟨σ, q5, PBth_e q6 hin (by omega) (kd_bd hT hin) hk⟩⟩
        · show b_X5_readBoth_8 (gr_A fA) (nI dd) (b2i true) (nI idx) h1 = _
          unfold b_X5_readBoth_8
          by_cases c4 : (400 : Int32) ≤ nI idx
          · rw [if_pos c4]
          · rw [if_neg c4, if_neg (by decide), show ((25 : Int32)) = nI 25 from rfl, (c_takeIf hT C1 25 (by decide)).2 hk, Option.bind_some, if_neg Bool.false_ne_true]
        · show b_X11_readBoth_5 (gr_B fB) (nI dd) t = _
          unfold b_X11_readBoth_5
          rw [show ((6 : Int32)) = nI 6 from rfl, (m_takes hT R1 6 (by decide) (by decide)).2 (fun e => hk ((hrc _ (kd_bd hT hin)).mp e)), Option.bind_some, if_neg Bool.false_ne_true]
  · rintro ⟨x2, x3, h1⟩ t ⟨p1, p2, p3, bo, p5, p4, p6, p7⟩
    dsimp only at p1 p2 p3 p4 p5 p6 p7
    subst p1
    subst p5
    cases bo with
    | false =>
      obtain ⟨x, q1, q2, q3, q4⟩ := p7 rfl
      refine ⟨(b2i false, h1), t, ?_, ?_, p2, p3, false, rfl, fun c => (by cases c), Out_F q1 q2 q3 q4⟩
      · show b_X5_readBoth_8 (gr_A fA) (nI dd) (b2i false) (nI 401) h1 = _
        unfold b_X5_readBoth_8
        rw [if_pos (by decide)]
      · show b_X11_readBoth_5 (gr_B fB) (nI dd) t = _
        unfold b_X11_readBoth_5
        rw [m_takesF q4, Option.bind_some, if_neg Bool.false_ne_true]
    | true =>
      obtain ⟨i, s, u, q1, C1, R1, q2, q3, q4, σ, q5, q6⟩ := p6 rfl
      have := C1.2.1
      omega
theorem rd_test {T : Tok} {o : Bool} {fa fb fx dd : Nat} (hT : TF T) (hd : dd ≤ 8) (hP : Rd T o 1 1 fa fb dd (ZT T o 1 fx (3 * dd))) : Rd T o 0 0 (fa + 1) (fb + 1) dd (ZT T o 0 (fx + 1) (3 * dd)) := by
  intro hc hr i0 s0 u0 fA fB hC hR hsi hfA hfB
  obtain ⟨fA, rfl⟩ : ∃ f', fA = f' + 1 := ⟨fA - 1, by omega⟩
  obtain ⟨fB, rfl⟩ : ∃ f', fB = f' + 1 := ⟨fB - 1, by omega⟩
  have hN := hT.1
  have hrc : ∀ q, q < 400 → (rk q = 5 ↔ q = 24) := by
    intro q hq
    by_cases h : q < 30
    · have : ∀ q, q < 30 → (rk q = 5 ↔ q = 24) := by decide
      exact this q h
    · rw [rk_hi (by omega)]; omega
  obtain ⟨bo, hc1, hr1, d1, d2, d3, d4, d5, d6⟩ := hP hc hr i0 s0 u0 fA fB hC hR hsi (by omega) (by omega)
  have key := lp_two (b₁ := fun s : Int32 × Int32 × Hp => b_X5_readTest_8 (gr_A fA) (nI dd) s.1 s.2.1 s.2.2) (b₂ := fun s : Hp => b_X11_readTest_5 (gr_B fB) (nI dd) s)
    (fun idx s t => s.2.1 = nI idx ∧ Fr rA rF hc s.2.2 ∧ Fr noA yF hr t ∧ ∃ bo, s.1 = b2i bo ∧ (bo = true → ∀ j, j < 2 * s0 → aI s.2.2 8 j = aI hc 8 j) ∧ (bo = true → ∃ i s' u, idx ≤ i ∧ CS T o s.2.2 i s' u ∧ RS T o t i u ∧ i0 < i ∧ s0 < s' ∧ s' + i0 ≤ s0 + i ∧ ∃ σ, MT (okW o) (aI s.2.2 8) s0 s' (3 * dd) σ ∧ PTst (tkd T) (tvl T) (tN T) o fx i0 i σ) ∧ (bo = false → ∃ x, x ≤ tN T ∧ CF s.2.2 (tps T x) ∧ fI t 81 21 = nI (tps T x) ∧ fI t 81 21 ≠ -1))
    (fun e t => Fr rA rF hc e.2 ∧ Fr noA yF hr t ∧ ∃ bo, e.1 = b2i bo ∧ (bo = true → ∀ j, j < 2 * s0 → aI e.2 8 j = aI hc 8 j) ∧ Out T o (ZT T o 0 (fx + 1) (3 * dd)) e.2 t s0 i0 bo)
    401 (b2i bo, (0 : Int32), hc1) hr1 (by omega) ?_ ?_ ?_
  · obtain ⟨e, g, k1, k2, k3, k4, bo', k6, k5, k7⟩ := key
    refine ⟨bo', e.2, g, ?_, ?_, k3, k4, k5, k7⟩
    · rw [(gA_k fA (nI dd) hc).1]
      unfold f_X5_readTest
      rw [d1, Option.bind_some, k1, Option.bind_some, k6, i2b_b, Option.bind_some]
    · rw [(gB_k fB (nI dd) hr).1]
      unfold f_X11_readTest
      rw [d2, Option.bind_some, k2, Option.bind_some]
  · refine ⟨rfl, d3, d4, bo, rfl, d5, fun c => ?_, fun c => d6.2 c⟩
    obtain ⟨i', s', u', e1, e2, e3, e4, e5, σ, e6, e7⟩ := d6.1 c
    exact ⟨i', s', u', Nat.zero_le _, e1, e2, e3, e4, e5, σ, e6, PTst_0 e7⟩
  · rintro idx ⟨x2, x3, h1⟩ t hidx ⟨p1, p2, p3, bo, p5, p4, p6, p7⟩
    dsimp only at p1 p2 p3 p4 p5 p6 p7
    subst p1
    subst p5
    cases bo with
    | false =>
      right
      obtain ⟨x, q1, q2, q3, q4⟩ := p7 rfl
      refine ⟨(b2i false, h1), t, ?_, ?_, p2, p3, false, rfl, fun c => (by cases c), Out_F q1 q2 q3 q4⟩
      · show b_X5_readTest_8 (gr_A fA) (nI dd) (b2i false) (nI idx) h1 = _
        unfold b_X5_readTest_8
        rw [if_pos (show b2i false = 0 from rfl)]
        split <;> rfl
      · show b_X11_readTest_5 (gr_B fB) (nI dd) t = _
        unfold b_X11_readTest_5
        rw [m_takesF q4, Option.bind_some, if_neg Bool.false_ne_true]
    | true =>
      obtain ⟨i, s, u, q1, C1, R1, q2, q3, q4, σ, q5, q6⟩ := p6 rfl
      have hin := C1.2.1
      by_cases hk : tkd T i = 24
      · left
        have hi : i < tN T := kd_lt hT hin (by omega)
        obtain ⟨hc2, a1, -, a2, a3, a4⟩ := (c_takeIf hT C1 24 (by decide)).1 hk
        obtain ⟨hcp, w1, w2, w3, w4⟩ := c_put a2 (show s < 400 by omega) 12 0
        obtain ⟨b1, b2⟩ := RS_go R1 hi
        obtain ⟨bo2, hc3, hr3, g1, g2, g3, g4, g5, g6⟩ := hP hcp (sF t 81 19 (nI (i + 1))) (i + 1) (s + 1) u fA fB w2 b1 (by omega) (by omega) (by omega)
        have eA : b_X5_readTest_8 (gr_A fA) (nI dd) (b2i true) (nI idx) h1 = (f_X5_land (nI s) hc3).bind fun v => some (.inl (b2i bo2, nI (idx + 1), v.2)) := by
          unfold b_X5_readTest_8
          rw [if_neg (show ¬ (400 : Int32) ≤ nI idx from nI_ge (a := idx) (b := 400) (by omega) (by omega)), if_neg (by decide), show ((24 : Int32)) = nI 24 from rfl, a1, Option.bind_some, if_pos rfl]
          dsimp only
          rw [w1, Option.bind_some]
          dsimp only
          rw [g1, Option.bind_some, nI_1]
        have eB : b_X11_readTest_5 (gr_B fB) (nI dd) t = some (.inl hr3) := by
          unfold b_X11_readTest_5
          rw [show ((5 : Int32)) = nI 5 from rfl, takes_eq hT R1 (by decide) (show rk (tkd T i) = 5 by rw [hk]; rfl), Option.bind_some, if_pos rfl]
          dsimp only
          rw [g2, Option.bind_some]
        have fr1 : Fr rA rF hc hc3 := Fr_tr p2 (Fr_tr a3 (Fr_tr w3 g3))
        have fr2 : Fr noA yF hr hr3 := Fr_tr p3 (Fr_tr b2 g4)
        have eL : f_X5_land (nI s) hc3 = some ((), sA hc3 8 (2 * s + 1) (fI hc3 4 8)) := by
          unfold f_X5_land
          rw [if_neg (nI_pos (by omega)), if_neg (show ¬ (400 : Int32) ≤ nI s from nI_ge (a := s) (b := 400) (by omega) (by omega)), l2_, pk_mul, nI_1, Nat.mul_comm s 2, inb_nI (by omega) (by omega), Option.bind_some]
        cases bo2 with
        | false =>
          obtain ⟨x, x1, x2, x3, x4⟩ := g6.2 rfl
          refine ⟨(b2i false, nI (idx + 1), sA hc3 8 (2 * s + 1) (fI hc3 4 8)), hr3, ?_, eB, rfl, Fr_tA fr1 rfl, fr2, false, rfl, fun c => (by cases c), fun c => (by cases c), fun _ => ⟨x, x1, x2, x3, x4⟩⟩
          show b_X5_readTest_8 (gr_A fA) (nI dd) (b2i true) (nI idx) h1 = _
          rw [eA, eL, Option.bind_some]
        | true =>
          obtain ⟨i', s', u', e1, e2, e3, e4, e5, τ, e6, e7⟩ := g6.1 rfl
          have hin' := e1.2.1
          have cd : ∀ j, j < 2 * s → aI hc3 8 j = aI h1 8 j := fun j hj => by rw [g5 rfl j (by omega), w4, pk_un (by omega), pk_un (by omega), a4]
          have c2s : aI hc3 8 (2 * s) = 12 := by rw [g5 rfl _ (by omega), w4, pk_un (by omega), pk_us]
          rw [e1.2.2.2.2.1] at eL
          have eC : CS T o (sA hc3 8 (2 * s + 1) (nI s')) i' s' u' := by
            obtain ⟨z1, z2, z3, z4, z5, z6, z7, z8⟩ := e1
            exact ⟨TK_fr z1 (Fr_sA rfl), z2, z3, z4, z5, z6, z7, z8⟩
          have c8 : aI (sA hc3 8 (2 * s + 1) (nI s')) 8 = upd (aI hc3 8) (2 * s + 1) (nI s') := ps_aAs _ _ _ _
          refine ⟨(b2i true, nI (idx + 1), sA hc3 8 (2 * s + 1) (nI s')), hr3, ?_, eB, rfl, Fr_tA fr1 rfl, fr2, true, rfl, fun _ j hj => ?_, fun _ => ⟨i', s', u', by omega, eC, e2, by omega, by omega, by omega, _, MT_or (m := s) (by omega) (MC_code q5 (fun j j1 j2 => ?_)) (MC_code e6 (fun j j1 j2 => ?_)) (by omega) (by omega) ?_ ?_, PTst_s q6 e7 (by omega) hi (by omega) hk⟩, fun c => (by cases c)⟩
          · show b_X5_readTest_8 (gr_A fA) (nI dd) (b2i true) (nI idx) h1 = _
            rw [eA, eL, Option.bind_some]
          · show aI (sA hc3 8 (2 * s + 1) (nI s')) 8 j = _
            rw [c8, pk_un (by omega), cd j (by omega)]
            exact p4 rfl j hj
          · show aI (sA hc3 8 (2 * s + 1) (nI s')) 8 j = _
            rw [c8, pk_un (by omega), cd j (by omega)]
          · show aI (sA hc3 8 (2 * s + 1) (nI s')) 8 j = _
            rw [c8, pk_un (by omega)]
          · show aI (sA hc3 8 (2 * s + 1) (nI s')) 8 (2 * s) = _
            rw [c8, pk_un (by omega), c2s]; rfl
          · show aI (sA hc3 8 (2 * s + 1) (nI s')) 8 (2 * s + 1) = _
            rw [c8, pk_us]
      · right
        refine ⟨(b2i true, h1), t, ?_, ?_, p2, p3, true, rfl, p4, Out_T C1 R1 q2 q3 q4 ⟨σ, q5, PTst_e q6 hin (by omega) (kd_bd hT hin) hk⟩⟩
        · show b_X5_readTest_8 (gr_A fA) (nI dd) (b2i true) (nI idx) h1 = _
          unfold b_X5_readTest_8
          by_cases c4 : (400 : Int32) ≤ nI idx
          · rw [if_pos c4]
          · rw [if_neg c4, if_neg (by decide), show ((24 : Int32)) = nI 24 from rfl, (c_takeIf hT C1 24 (by decide)).2 hk, Option.bind_some, if_neg Bool.false_ne_true]
        · show b_X11_readTest_5 (gr_B fB) (nI dd) t = _
          unfold b_X11_readTest_5
          rw [show ((5 : Int32)) = nI 5 from rfl, (m_takes hT R1 5 (by decide) (by decide)).2 (fun e => hk ((hrc _ (kd_bd hT hin)).mp e)), Option.bind_some, if_neg Bool.false_ne_true]
  · rintro ⟨x2, x3, h1⟩ t ⟨p1, p2, p3, bo, p5, p4, p6, p7⟩
    dsimp only at p1 p2 p3 p4 p5 p6 p7
    subst p1
    subst p5
    cases bo with
    | false =>
      obtain ⟨x, q1, q2, q3, q4⟩ := p7 rfl
      refine ⟨(b2i false, h1), t, ?_, ?_, p2, p3, false, rfl, fun c => (by cases c), Out_F q1 q2 q3 q4⟩
      · show b_X5_readTest_8 (gr_A fA) (nI dd) (b2i false) (nI 401) h1 = _
        unfold b_X5_readTest_8
        rw [if_pos (by decide)]
      · show b_X11_readTest_5 (gr_B fB) (nI dd) t = _
        unfold b_X11_readTest_5
        rw [m_takesF q4, Option.bind_some, if_neg Bool.false_ne_true]
    | true =>
      obtain ⟨i, s, u, q1, C1, R1, q2, q3, q4, σ, q5, q6⟩ := p6 rfl
      have := C1.2.1
      omega
theorem rd_sumD {T : Tok} {o : Bool} (hT : TF T) : ∀ (m dd : Nat), dd + m = 8 → Rd T o 4 3 (3 * (m + 1)) (3 * (m + 1)) dd (ZV T o 0 (3 * (m + 1)) (3 * dd + 1))
  | 0, dd, h => by
    have h1 : Rd T o 6 5 1 1 dd (ZV T o 2 1 (3 * dd + 3)) := rd_part (fa := 0) (fb := 0) (fx := 0) hT (by omega) (fun c => by omega)
    exact rd_sum hT (by omega) (rd_term hT (by omega) h1)
  | m + 1, dd, h => by
    have ih := rd_sumD (o := o) hT m (dd + 1) (by omega)
    have h1 : Rd T o 6 5 (3 * (m + 1) + 1) (3 * (m + 1) + 1) dd (ZV T o 2 (3 * (m + 1) + 1) (3 * dd + 3)) := rd_part (fa := 3 * (m + 1)) (fb := 3 * (m + 1)) (fx := 3 * (m + 1)) hT (by omega) (fun c => by rw [show 3 * (dd + 1) + 1 = 3 * dd + 4 by omega] at ih; exact ih)
    exact rd_sum hT (by omega) (rd_term hT (by omega) h1)
theorem Rd_Z {T : Tok} {o : Bool} {kc kr fa fb dd : Nat} {Z Z' : (Nat → Int32) → Nat → Nat → Nat → Nat → Prop} (h : Rd T o kc kr fa fb dd Z) (hz : ∀ c s s' i i', Z c s s' i i' → Z' c s s' i i') : Rd T o kc kr fa fb dd Z' := by
  intro hc hr i s u fA fB h1 h2 h3 h4 h5
  obtain ⟨bo, hc', hr', d1, d2, d3, d4, d5, d6⟩ := h hc hr i s u fA fB h1 h2 h3 h4 h5
  refine ⟨bo, hc', hr', d1, d2, d3, d4, d5, fun c => ?_, d6.2⟩
  obtain ⟨i', s', u', e1, e2, e3, e4, e5, e6⟩ := d6.1 c
  exact ⟨i', s', u', e1, e2, e3, e4, e5, hz _ _ _ _ _ e6⟩
theorem rd_testD {T : Tok} {o : Bool} (hT : TF T) : ∀ (m dd : Nat), dd + m = 8 → Rd T o 0 0 (3 * (m + 1) + 4) (3 * (m + 1) + 3) dd (ZT T o 0 (4 * (m + 1)) (3 * dd))
  | 0, dd, h => by
    have hS : Rd T o 4 3 (3 * (0 + 1)) (3 * (0 + 1)) dd (ZV T o 0 27 (3 * dd + 1)) := Rd_Z (rd_sumD hT 0 dd h) (fun c s s' i i' ⟨σ, z1, z2⟩ => ⟨σ, z1, RC_fu z2 (by omega)⟩)
    exact rd_test hT (by omega) (rd_both hT (by omega) (rd_plain (fx := 0) hT (by omega) (by omega) hS (fun c => by omega)))
  | m + 1, dd, h => by
    have hS : Rd T o 4 3 (3 * (m + 1 + 1)) (3 * (m + 1 + 1)) dd (ZV T o 0 27 (3 * dd + 1)) := Rd_Z (rd_sumD hT (m + 1) dd h) (fun c s s' i i' ⟨σ, z1, z2⟩ => ⟨σ, z1, RC_fu z2 (by omega)⟩)
    have ih := rd_testD (o := o) hT m (dd + 1) (by omega)
    have hp := rd_plain (fx := 4 * (m + 1)) hT (show dd ≤ 8 by omega) (show 3 ≤ 3 * (m + 1 + 1) by omega) hS (fun _ => by rw [show 3 * (m + 1) + 4 = 3 * (m + 1 + 1) + 1 by omega, show 3 * (m + 1) + 3 = 3 * (m + 1 + 1) by omega, show 3 * (dd + 1) = 3 * dd + 3 by omega] at ih; exact ih)
    exact rd_test hT (by omega) (rd_both hT (by omega) hp)
