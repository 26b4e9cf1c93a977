/-! ===== both readers: sums and terms ===== -/
theorem lp_two0 {σ₁ σ₂ ε₁ ε₂ : Type} {b₁ : σ₁ → Option (σ₁ ⊕ ε₁)} {b₂ : σ₂ → Option (σ₂ ⊕ ε₂)} (P : Nat → σ₁ → σ₂ → Prop) (Q : ε₁ → ε₂ → Prop) (n : Nat) (hs : ∀ i s t, i < n → P i s t → (∃ s' t', b₁ s = some (.inl s') ∧ b₂ t = some (.inl t') ∧ P (i + 1) s' t') ∨ (∃ e f, b₁ s = some (.inr e) ∧ b₂ t = some (.inr f) ∧ Q e f)) (he : ∀ s t, P n s t → ∃ e f, b₁ s = some (.inr e) ∧ b₂ t = some (.inr f) ∧ Q e f) : ∀ (m i f : Nat) (s : σ₁) (t : σ₂), i + m = n → m < f → P i s t → ∃ e g, lp b₁ f s = some e ∧ lp b₂ f t = some g ∧ Q e g
  | 0, i, f, s, t, hi, hf, hp => by
    obtain ⟨f', rfl⟩ : ∃ f', f = f' + 1 := ⟨f - 1, by omega⟩
    have h0 : i = n := by omega
    subst h0
    obtain ⟨e, g, h1, h2, h3⟩ := he s t hp
    exact ⟨e, g, lp_e h1 f', lp_e h2 f', h3⟩
  | m + 1, i, f, s, t, hi, hf, hp => by
    obtain ⟨f', rfl⟩ : ∃ f', f = f' + 1 := ⟨f - 1, by omega⟩
    rcases hs i s t (by omega) hp with ⟨s', t', h1, h2, h3⟩ | ⟨e, g, h1, h2, h3⟩
    · obtain ⟨e, g, h4, h5, h6⟩ := lp_two0 P Q n hs he m (i + 1) f' s' t' (by omega) (by omega) h3
      exact ⟨e, g, by rw [lp_1 h1]; exact h4, by rw [lp_1 h2]; exact h5, h6⟩
    · exact ⟨e, g, lp_e h1 f', lp_e h2 f', h3⟩
theorem lp_two {σ₁ σ₂ ε₁ ε₂ : Type} {b₁ : σ₁ → Option (σ₁ ⊕ ε₁)} {b₂ : σ₂ → Option (σ₂ ⊕ ε₂)} (P : Nat → σ₁ → σ₂ → Prop) (Q : ε₁ → ε₂ → Prop) (n : Nat) (s : σ₁) (t : σ₂) (hn : n < 20000) (h0 : P 0 s t) (hs : ∀ i s t, i < n → P i s t → (∃ s' t', b₁ s = some (.inl s') ∧ b₂ t = some (.inl t') ∧ P (i + 1) s' t') ∨ (∃ e f, b₁ s = some (.inr e) ∧ b₂ t = some (.inr f) ∧ Q e f)) (he : ∀ s t, P n s t → ∃ e f, b₁ s = some (.inr e) ∧ b₂ t = some (.inr f) ∧ Q e f) : ∃ e g, lp b₁ FU s = some e ∧ lp b₂ FU t = some g ∧ Q e g :=
  lp_two0 P Q n hs he n 0 FU s t (by omega) (by show n < 20000; exact hn) h0
theorem rd_term {T : Tok} {o : Bool} {fa fb fx dd : Nat} (hT : TF T) (hd : dd ≤ 8) (hP : Rd T o 6 5 fa fb dd (ZV T o 2 fx (3 * dd + 3))) : Rd T o 5 4 (fa + 1) (fb + 1) dd (ZV T o 1 (fx + 1) (3 * dd + 2)) := by
  intro hc hr i0 s0 u0 fA fB hC hR hsi hfA hfB
  obtain ⟨fA, rfl⟩ : ∃ f', fA = f' + 1 := ⟨fA - 1, by omega⟩
  obtain ⟨fB, rfl⟩ : ∃ f', fB = f' + 1 := ⟨fB - 1, by omega⟩
  have hN := hT.1
  obtain ⟨bo, hc1, hr1, d1, d2, d3, d4, d5, d6⟩ := hP hc hr i0 s0 u0 fA fB hC hR hsi (by omega) (by omega)
  have key := lp_two (b₁ := fun s : Int32 × Int32 × Hp => b_X5_readTerm_8 (gr_A fA) (nI dd) s.1 s.2.1 s.2.2) (b₂ := fun s : Hp => b_X11_readTerm_5 (gr_B fB) (nI dd) s)
    (fun idx s t => s.2.1 = nI idx ∧ Fr rA rF hc s.2.2 ∧ Fr noA yF hr t ∧ ∃ bo, s.1 = b2i bo ∧ (bo = true → ∀ j, j < 2 * s0 → aI s.2.2 8 j = aI hc 8 j) ∧ (bo = true → ∃ i s' u, idx ≤ i ∧ CS T o s.2.2 i s' u ∧ RS T o t i u ∧ i0 < i ∧ s0 < s' ∧ s' + i0 ≤ s0 + i ∧ ∃ σ, MC (okW o) (aI s.2.2 8) s0 s' (3 * dd + 2) σ ∧ PTrm (tkd T) (tvl T) (tN T) o fx i0 i σ) ∧ (bo = false → ∃ x, x ≤ tN T ∧ CF s.2.2 (tps T x) ∧ fI t 81 21 = nI (tps T x) ∧ fI t 81 21 ≠ -1))
    (fun e t => Fr rA rF hc e.2 ∧ Fr noA yF hr t ∧ ∃ bo, e.1 = b2i bo ∧ (bo = true → ∀ j, j < 2 * s0 → aI e.2 8 j = aI hc 8 j) ∧ Out T o (ZV T o 1 (fx + 1) (3 * dd + 2)) e.2 t s0 i0 bo)
    401 (b2i bo, (0 : Int32), hc1) hr1 (by omega) ?_ ?_ ?_
  · obtain ⟨e, g, k1, k2, k3, k4, bo', k6, k5, k7⟩ := key
    refine ⟨bo', e.2, g, ?_, ?_, k3, k4, k5, k7⟩
    · rw [(gA_k fA (nI dd) hc).2.2.2.2.2.1]
      unfold f_X5_readTerm
      rw [d1, Option.bind_some, k1, Option.bind_some, k6, i2b_b, Option.bind_some]
    · rw [(gB_k fB (nI dd) hr).2.2.2.2.1]
      unfold f_X11_readTerm
      rw [d2, Option.bind_some, k2, Option.bind_some]
  · refine ⟨rfl, d3, d4, bo, rfl, d5, fun c => ?_, fun c => d6.2 c⟩
    obtain ⟨i', s', u', e1, e2, e3, e4, e5, σ, e6, e7⟩ := d6.1 c
    exact ⟨i', s', u', Nat.zero_le _, e1, e2, e3, e4, e5, σ, MC_B e6 (by omega), PTrm_0 e7⟩
  · rintro idx ⟨x2, x3, h1⟩ t hidx ⟨p1, p2, p3, bo, p5, p4, p6, p7⟩
    dsimp only at p1 p2 p3 p4 p5 p6 p7
    subst p1
    subst p5
    cases bo with
    | false =>
      right
      obtain ⟨x, q1, q2, q3, q4⟩ := p7 rfl
      refine ⟨(b2i false, h1), t, ?_, ?_, p2, p3, false, rfl, fun c => (by cases c), Out_F q1 q2 q3 q4⟩
      · show b_X5_readTerm_8 (gr_A fA) (nI dd) (b2i false) (nI idx) h1 = _
        unfold b_X5_readTerm_8
        rw [if_pos (show b2i false = 0 from rfl)]
        split <;> rfl
      · show b_X11_readTerm_5 (gr_B fB) (nI dd) t = _
        unfold b_X11_readTerm_5
        rw [sg42, Option.bind_some, m_takesF q4, Option.bind_some, if_neg Bool.false_ne_true, sg47, Option.bind_some, m_takesF q4, Option.bind_some, if_neg Bool.false_ne_true, sg37, Option.bind_some, m_takesF q4, Option.bind_some, if_neg Bool.false_ne_true]
    | true =>
      obtain ⟨i, s, u, q1, C1, R1, q2, q3, q4, σ, q5, q6⟩ := p6 rfl
      have hin := C1.2.1
      by_cases hop : tkd T i = 142 ∨ tkd T i = 147 ∨ tkd T i = 137
      · left
        obtain ⟨q, hq, hq1, hq2⟩ : ∃ q, (tkd T i = 142 ∧ q = 4 ∨ tkd T i = 147 ∧ q = 5 ∨ tkd T i = 137 ∧ q = 6) ∧ 2 ≤ q ∧ q < 10 := by
          rcases hop with e | e | e
          · exact ⟨4, by omega, by omega, by omega⟩
          · exact ⟨5, by omega, by omega, by omega⟩
          · exact ⟨6, by omega, by omega, by omega⟩
        have hi : i < tN T := kd_lt hT hin (by omega)
        obtain ⟨hc2, a1, a2, a3, a4⟩ := c_goOn hT C1 hi
        obtain ⟨b1, b2⟩ := RS_go R1 hi
        obtain ⟨bo2, hc3, hr3, g1, g2, g3, g4, g5, g6⟩ := hP hc2 (sF t 81 19 (nI (i + 1))) (i + 1) s u fA fB a2 b1 (by omega) (by omega) (by omega)
        have eA : b_X5_readTerm_8 (gr_A fA) (nI dd) (b2i true) (nI idx) h1 = (f_X5_put (nI q) 0 hc3).bind fun v => some (.inl (b2i bo2, nI idx + 1, v.2)) := by
          have h400 : ¬ (400 : Int32) ≤ nI idx := nI_ge (a := idx) (b := 400) (by omega) (by omega)
          unfold b_X5_readTerm_8
          rw [if_neg h400, if_neg (by decide)]
          rcases hq with ⟨hk, rfl⟩ | ⟨hk, rfl⟩ | ⟨hk, rfl⟩
          · rw [show ((42 : Int32)) = nI 42 from rfl, c_isSign hT C1 42 (by decide), Option.bind_some, if_pos (decide_eq_true (show tkd T i = 100 + 42 from hk))]
            unfold j_X5_readTerm_46_8
            rw [show ((42 : Int32)) = nI 42 from rfl, c_isSign hT C1 42 (by decide), Option.bind_some, if_pos (decide_eq_true (show tkd T i = 100 + 42 from hk))]
            unfold j_X5_readTerm_74_8
            rw [a1, Option.bind_some]
            dsimp only
            rw [g1, Option.bind_some]
            rfl
          · rw [show ((42 : Int32)) = nI 42 from rfl, c_isSign hT C1 42 (by decide), Option.bind_some, decide_eq_false (show ¬ tkd T i = 100 + 42 by omega), if_neg Bool.false_ne_true, show ((47 : Int32)) = nI 47 from rfl, c_isSign hT C1 47 (by decide), Option.bind_some, if_pos (decide_eq_true (show tkd T i = 100 + 47 from hk))]
            unfold j_X5_readTerm_46_8
            rw [show ((42 : Int32)) = nI 42 from rfl, c_isSign hT C1 42 (by decide), Option.bind_some, decide_eq_false (show ¬ tkd T i = 100 + 42 by omega), if_neg Bool.false_ne_true, show ((47 : Int32)) = nI 47 from rfl, c_isSign hT C1 47 (by decide), Option.bind_some, if_pos (decide_eq_true (show tkd T i = 100 + 47 from hk))]
            unfold j_X5_readTerm_74_8
            rw [a1, Option.bind_some]
            dsimp only
            rw [g1, Option.bind_some]
            rfl
          · rw [show ((42 : Int32)) = nI 42 from rfl, c_isSign hT C1 42 (by decide), Option.bind_some, decide_eq_false (show ¬ tkd T i = 100 + 42 by omega), if_neg Bool.false_ne_true, show ((47 : Int32)) = nI 47 from rfl, c_isSign hT C1 47 (by decide), Option.bind_some, decide_eq_false (show ¬ tkd T i = 100 + 47 by omega), if_neg Bool.false_ne_true, show ((37 : Int32)) = nI 37 from rfl, c_isSign hT C1 37 (by decide), Option.bind_some, if_pos (decide_eq_true (show tkd T i = 100 + 37 from hk))]
            unfold j_X5_readTerm_46_8
            rw [show ((42 : Int32)) = nI 42 from rfl, c_isSign hT C1 42 (by decide), Option.bind_some, decide_eq_false (show ¬ tkd T i = 100 + 42 by omega), if_neg Bool.false_ne_true, show ((47 : Int32)) = nI 47 from rfl, c_isSign hT C1 47 (by decide), Option.bind_some, decide_eq_false (show ¬ tkd T i = 100 + 47 by omega), if_neg Bool.false_ne_true]
            unfold j_X5_readTerm_74_8
            rw [a1, Option.bind_some]
            dsimp only
            rw [g1, Option.bind_some]
            rfl
        have eB : b_X11_readTerm_5 (gr_B fB) (nI dd) t = some (.inl hr3) := by
          unfold b_X11_readTerm_5
          rcases hq with ⟨hk, rfl⟩ | ⟨hk, rfl⟩ | ⟨hk, rfl⟩
          · obtain ⟨ht, z1, -, -, -⟩ := (m_takes hT R1 142 (by decide) (by decide)).1 (by rw [hk]; rfl)
            have z2 : ht = sF t 81 19 (nI (i + 1)) := by
              have z3 := z1
              unfold f_X11_takes0 at z3
              rw [m_fineT R1, Option.bind_some, if_pos rfl, R1.2.2.1, inb_nI (show i < 401 by omega) (by omega), Option.bind_some, (R1.1.1 i hin).1, hk, if_pos (by decide)] at z3
              unfold j_X11_takes0_25 at z3
              rw [if_neg (by decide), R1.2.2.1, nI_1] at z3
              exact (congrArg Prod.snd (Option.some.inj z3)).symm
            rw [sg42, Option.bind_some, z1, Option.bind_some, if_pos rfl]
            unfold j_X11_readTerm_41_5
            rw [z2, g2, Option.bind_some]
          · obtain ⟨ht, z1, -, -, -⟩ := (m_takes hT R1 147 (by decide) (by decide)).1 (by rw [hk]; rfl)
            have z2 : ht = sF t 81 19 (nI (i + 1)) := by
              have z3 := z1
              unfold f_X11_takes0 at z3
              rw [m_fineT R1, Option.bind_some, if_pos rfl, R1.2.2.1, inb_nI (show i < 401 by omega) (by omega), Option.bind_some, (R1.1.1 i hin).1, hk, if_pos (by decide)] at z3
              unfold j_X11_takes0_25 at z3
              rw [if_neg (by decide), R1.2.2.1, nI_1] at z3
              exact (congrArg Prod.snd (Option.some.inj z3)).symm
            rw [sg42, Option.bind_some, (m_takes hT R1 142 (by decide) (by decide)).2 (fun e => by have := (rk_sign (by decide)).mp e; omega), Option.bind_some, if_neg Bool.false_ne_true, sg47, Option.bind_some, z1, Option.bind_some, if_pos rfl]
            unfold j_X11_readTerm_41_5
            rw [z2, g2, Option.bind_some]
          · obtain ⟨ht, z1, -, -, -⟩ := (m_takes hT R1 137 (by decide) (by decide)).1 (by rw [hk]; rfl)
            have z2 : ht = sF t 81 19 (nI (i + 1)) := by
              have z3 := z1
              unfold f_X11_takes0 at z3
              rw [m_fineT R1, Option.bind_some, if_pos rfl, R1.2.2.1, inb_nI (show i < 401 by omega) (by omega), Option.bind_some, (R1.1.1 i hin).1, hk, if_pos (by decide)] at z3
              unfold j_X11_takes0_25 at z3
              rw [if_neg (by decide), R1.2.2.1, nI_1] at z3
              exact (congrArg Prod.snd (Option.some.inj z3)).symm
            rw [sg42, Option.bind_some, (m_takes hT R1 142 (by decide) (by decide)).2 (fun e => by have := (rk_sign (by decide)).mp e; omega), Option.bind_some, if_neg Bool.false_ne_true, sg47, Option.bind_some, (m_takes hT R1 147 (by decide) (by decide)).2 (fun e => by have := (rk_sign (by decide)).mp e; omega), Option.bind_some, if_neg Bool.false_ne_true, sg37, Option.bind_some, z1, Option.bind_some, if_pos rfl]
            unfold j_X11_readTerm_41_5
            rw [z2, g2, Option.bind_some]
        have fr1 : Fr rA rF hc hc3 := Fr_tr p2 (Fr_tr a3 g3)
        have fr2 : Fr noA yF hr hr3 := Fr_tr p3 (Fr_tr b2 g4)
        have cd : bo2 = true → ∀ j, j < 2 * s → aI hc3 8 j = aI h1 8 j := fun e j hj => by rw [g5 e j hj, a4]
        cases bo2 with
        | false =>
          obtain ⟨x, x1, x2, x3, x4⟩ := g6.2 rfl
          obtain ⟨r, hc4, y1, y2, y3, y4, y5, y6⟩ := c_putF x2 (nI q) 0
          refine ⟨(b2i false, nI (idx + 1), hc4), hr3, ?_, eB, rfl, Fr_tr fr1 y3, fr2, false, rfl, fun c => (by cases c), fun c => (by cases c), fun _ => ⟨x, x1, y2, x3, x4⟩⟩
          show b_X5_readTerm_8 (gr_A fA) (nI dd) (b2i true) (nI idx) h1 = _
          rw [eA, y1, Option.bind_some, nI_1]
        | true =>
          obtain ⟨i', s', u', e1, e2, e3, e4, e5, τ, e6, e7⟩ := g6.1 rfl
          have hin' := e1.2.1
          obtain ⟨hc4, y1, y2, y3, y4⟩ := c_put e1 (show s' < 400 by omega) (nI q) 0
          refine ⟨(b2i true, nI (idx + 1), hc4), hr3, ?_, eB, rfl, Fr_tr fr1 y3, fr2, true, rfl, fun _ j hj => ?_, fun _ => ⟨i', s' + 1, u', by omega, y2, e2, by omega, by omega, by omega, _, MC_bin (by omega) (MC_code q5 (fun j j1 j2 => ?_)) (MC_code (MC_B e6 (by omega)) (fun j j1 j2 => ?_)) (by omega) (by omega) ?_ hq1 hq2, PTrm_s q6 e7 (by omega) hi (by omega) hq⟩, fun c => (by cases c)⟩
          · show b_X5_readTerm_8 (gr_A fA) (nI dd) (b2i true) (nI idx) h1 = _
            rw [eA, y1, Option.bind_some, nI_1]
          · show aI hc4 8 j = _
            rw [y4, pk_un (by omega), pk_un (by omega), cd rfl j (by omega)]
            exact p4 rfl j hj
          · show aI hc4 8 j = _
            rw [y4, pk_un (by omega), pk_un (by omega), cd rfl j (by omega)]
          · show aI hc4 8 j = _
            rw [y4, pk_un (by omega), pk_un (by omega)]
          · show aI hc4 8 _ = _
            rw [y4, pk_un (by omega), pk_us]
      · right
        have ⟨hn0, hn1, hn2⟩ : tkd T i ≠ 142 ∧ tkd T i ≠ 147 ∧ tkd T i ≠ 137 := by omega
        refine ⟨(b2i true, h1), t, ?_, ?_, p2, p3, true, rfl, p4, Out_T C1 R1 q2 q3 q4 ⟨σ, q5, PTrm_e q6 hin (by omega) (kd_bd hT hin) ⟨hn0, hn1, hn2⟩⟩⟩
        · show b_X5_readTerm_8 (gr_A fA) (nI dd) (b2i true) (nI idx) h1 = _
          unfold b_X5_readTerm_8
          by_cases c4 : (400 : Int32) ≤ nI idx
          · rw [if_pos c4]
          · rw [if_neg c4, if_neg (by decide), show ((42 : Int32)) = nI 42 from rfl, c_isSign hT C1 42 (by decide), Option.bind_some, decide_eq_false (show ¬ tkd T i = 100 + 42 from hn0), if_neg Bool.false_ne_true, show ((47 : Int32)) = nI 47 from rfl, c_isSign hT C1 47 (by decide), Option.bind_some, decide_eq_false (show ¬ tkd T i = 100 + 47 from hn1), if_neg Bool.false_ne_true, show ((37 : Int32)) = nI 37 from rfl, c_isSign hT C1 37 (by decide), Option.bind_some, decide_eq_false (show ¬ tkd T i = 100 + 37 from hn2), if_neg Bool.false_ne_true]
        · show b_X11_readTerm_5 (gr_B fB) (nI dd) t = _
          unfold b_X11_readTerm_5
          rw [sg42, Option.bind_some, (m_takes hT R1 142 (by decide) (by decide)).2 (fun e => hn0 ((rk_sign (by decide)).mp e)), Option.bind_some, if_neg Bool.false_ne_true, sg47, Option.bind_some, (m_takes hT R1 147 (by decide) (by decide)).2 (fun e => hn1 ((rk_sign (by decide)).mp e)), Option.bind_some, if_neg Bool.false_ne_true, sg37, Option.bind_some, (m_takes hT R1 137 (by decide) (by decide)).2 (fun e => hn2 ((rk_sign (by decide)).mp e)), Option.bind_some, if_neg Bool.false_ne_true]
  · rintro ⟨x2, x3, h1⟩ t ⟨p1, p2, p3, bo, p5, p4, p6, p7⟩
    dsimp only at p1 p2 p3 p4 p5 p6 p7
    subst p1
    subst p5
    cases bo with
    | false =>
      obtain ⟨x, q1, q2, q3, q4⟩ := p7 rfl
      refine ⟨(b2i false, h1), t, ?_, ?_, p2, p3, false, rfl, fun c => (by cases c), Out_F q1 q2 q3 q4⟩
      · show b_X5_readTerm_8 (gr_A fA) (nI dd) (b2i false) (nI 401) h1 = _
        unfold b_X5_readTerm_8
        rw [if_pos (by decide)]
      · show b_X11_readTerm_5 (gr_B fB) (nI dd) t = _
        unfold b_X11_readTerm_5
        rw [sg42, Option.bind_some, m_takesF q4, Option.bind_some, if_neg Bool.false_ne_true, sg47, Option.bind_some, m_takesF q4, Option.bind_some, if_neg Bool.false_ne_true, sg37, Option.bind_some, m_takesF q4, Option.bind_some, if_neg Bool.false_ne_true]
    | true =>
      obtain ⟨i, s, u, q1, C1, R1, q2, q3, q4, σ, q5, q6⟩ := p6 rfl
      have := C1.2.1
      omega
theorem rd_sum {T : Tok} {o : Bool} {fa fb fx dd : Nat} (hT : TF T) (hd : dd ≤ 8) (hP : Rd T o 5 4 fa fb dd (ZV T o 1 fx (3 * dd + 2))) : Rd T o 4 3 (fa + 1) (fb + 1) dd (ZV T o 0 (fx + 1) (3 * dd + 1)) := by
  intro hc hr i0 s0 u0 fA fB hC hR hsi hfA hfB
  obtain ⟨fA, rfl⟩ : ∃ f', fA = f' + 1 := ⟨fA - 1, by omega⟩
  obtain ⟨fB, rfl⟩ : ∃ f', fB = f' + 1 := ⟨fB - 1, by omega⟩
  have hN := hT.1
  obtain ⟨bo, hc1, hr1, d1, d2, d3, d4, d5, d6⟩ := hP hc hr i0 s0 u0 fA fB hC hR hsi (by omega) (by omega)
  have key := lp_two (b₁ := fun s : Int32 × Int32 × Hp => b_X5_readSum_8 (gr_A fA) (nI dd) s.1 s.2.1 s.2.2) (b₂ := fun s : Hp => b_X11_readSum_5 (gr_B fB) (nI dd) s)
    (fun idx s t => s.2.1 = nI idx ∧ Fr rA rF hc s.2.2 ∧ Fr noA yF hr t ∧ ∃ bo, s.1 = b2i bo ∧ (bo = true → ∀ j, j < 2 * s0 → aI s.2.2 8 j = aI hc 8 j) ∧ (bo = true → ∃ i s' u, idx ≤ i ∧ CS T o s.2.2 i s' u ∧ RS T o t i u ∧ i0 < i ∧ s0 < s' ∧ s' + i0 ≤ s0 + i ∧ ∃ σ, MC (okW o) (aI s.2.2 8) s0 s' (3 * dd + 1) σ ∧ PSum (tkd T) (tvl T) (tN T) o fx i0 i σ) ∧ (bo = false → ∃ x, x ≤ tN T ∧ CF s.2.2 (tps T x) ∧ fI t 81 21 = nI (tps T x) ∧ fI t 81 21 ≠ -1))
    (fun e t => Fr rA rF hc e.2 ∧ Fr noA yF hr t ∧ ∃ bo, e.1 = b2i bo ∧ (bo = true → ∀ j, j < 2 * s0 → aI e.2 8 j = aI hc 8 j) ∧ Out T o (ZV T o 0 (fx + 1) (3 * dd + 1)) e.2 t s0 i0 bo)
    401 (b2i bo, (0 : Int32), hc1) hr1 (by omega) ?_ ?_ ?_
  · obtain ⟨e, g, k1, k2, k3, k4, bo', k6, k5, k7⟩ := key
    refine ⟨bo', e.2, g, ?_, ?_, k3, k4, k5, k7⟩
    · rw [(gA_k fA (nI dd) hc).2.2.2.2.1]
      unfold f_X5_readSum
      rw [d1, Option.bind_some, k1, Option.bind_some, k6, i2b_b, Option.bind_some]
    · rw [(gB_k fB (nI dd) hr).2.2.2.1]
      unfold f_X11_readSum
      rw [d2, Option.bind_some, k2, Option.bind_some]
  · refine ⟨rfl, d3, d4, bo, rfl, d5, fun c => ?_, fun c => d6.2 c⟩
    obtain ⟨i', s', u', e1, e2, e3, e4, e5, σ, e6, e7⟩ := d6.1 c
    exact ⟨i', s', u', Nat.zero_le _, e1, e2, e3, e4, e5, σ, MC_B e6 (by omega), PSum_0 e7⟩
  · rintro idx ⟨x2, x3, h1⟩ t hidx ⟨p1, p2, p3, bo, p5, p4, p6, p7⟩
    dsimp only at p1 p2 p3 p4 p5 p6 p7
    subst p1
    subst p5
    cases bo with
    | false =>
      right
      obtain ⟨x, q1, q2, q3, q4⟩ := p7 rfl
      refine ⟨(b2i false, h1), t, ?_, ?_, p2, p3, false, rfl, fun c => (by cases c), Out_F q1 q2 q3 q4⟩
      · show b_X5_readSum_8 (gr_A fA) (nI dd) (b2i false) (nI idx) h1 = _
        unfold b_X5_readSum_8
        rw [if_pos (show b2i false = 0 from rfl)]
        split <;> rfl
      · show b_X11_readSum_5 (gr_B fB) (nI dd) t = _
        unfold b_X11_readSum_5
        rw [sg43, Option.bind_some, m_takesF q4, Option.bind_some, if_neg Bool.false_ne_true, sg45, Option.bind_some, m_takesF q4, Option.bind_some, if_neg Bool.false_ne_true]
    | true =>
      obtain ⟨i, s, u, q1, C1, R1, q2, q3, q4, σ, q5, q6⟩ := p6 rfl
      have hin := C1.2.1
      by_cases hop : tkd T i = 143 ∨ tkd T i = 145
      · left
        obtain ⟨q, hq, hq1, hq2⟩ : ∃ q, (tkd T i = 143 ∧ q = 2 ∨ tkd T i = 145 ∧ q = 3) ∧ 2 ≤ q ∧ q < 10 := by
          rcases hop with e | e
          · exact ⟨2, by omega, by omega, by omega⟩
          · exact ⟨3, by omega, by omega, by omega⟩
        have hi : i < tN T := kd_lt hT hin (by omega)
        obtain ⟨hc2, a1, a2, a3, a4⟩ := c_goOn hT C1 hi
        obtain ⟨b1, b2⟩ := RS_go R1 hi
        obtain ⟨bo2, hc3, hr3, g1, g2, g3, g4, g5, g6⟩ := hP hc2 (sF t 81 19 (nI (i + 1))) (i + 1) s u fA fB a2 b1 (by omega) (by omega) (by omega)
        have eA : b_X5_readSum_8 (gr_A fA) (nI dd) (b2i true) (nI idx) h1 = (f_X5_put (nI q) 0 hc3).bind fun v => some (.inl (b2i bo2, nI idx + 1, v.2)) := by
          have h400 : ¬ (400 : Int32) ≤ nI idx := nI_ge (a := idx) (b := 400) (by omega) (by omega)
          unfold b_X5_readSum_8
          rw [if_neg h400, if_neg (by decide)]
          rcases hq with ⟨hk, rfl⟩ | ⟨hk, rfl⟩
          · rw [show ((43 : Int32)) = nI 43 from rfl, c_isSign hT C1 43 (by decide), Option.bind_some, if_pos (decide_eq_true (show tkd T i = 100 + 43 from hk))]
            unfold j_X5_readSum_37_8
            rw [show ((43 : Int32)) = nI 43 from rfl, c_isSign hT C1 43 (by decide), Option.bind_some, if_pos (decide_eq_true (show tkd T i = 100 + 43 from hk))]
            unfold j_X5_readSum_51_8
            rw [a1, Option.bind_some]
            dsimp only
            rw [g1, Option.bind_some]
            rfl
          · rw [show ((43 : Int32)) = nI 43 from rfl, c_isSign hT C1 43 (by decide), Option.bind_some, decide_eq_false (show ¬ tkd T i = 100 + 43 by omega), if_neg Bool.false_ne_true, show ((45 : Int32)) = nI 45 from rfl, c_isSign hT C1 45 (by decide), Option.bind_some, if_pos (decide_eq_true (show tkd T i = 100 + 45 from hk))]
            unfold j_X5_readSum_37_8
            rw [show ((43 : Int32)) = nI 43 from rfl, c_isSign hT C1 43 (by decide), Option.bind_some, decide_eq_false (show ¬ tkd T i = 100 + 43 by omega), if_neg Bool.false_ne_true]
            unfold j_X5_readSum_51_8
            rw [a1, Option.bind_some]
            dsimp only
            rw [g1, Option.bind_some]
            rfl
        have eB : b_X11_readSum_5 (gr_B fB) (nI dd) t = some (.inl hr3) := by
          unfold b_X11_readSum_5
          rcases hq with ⟨hk, rfl⟩ | ⟨hk, rfl⟩
          · obtain ⟨ht, z1, -, -, -⟩ := (m_takes hT R1 143 (by decide) (by decide)).1 (by rw [hk]; rfl)
            have z2 : ht = sF t 81 19 (nI (i + 1)) := by
              have z3 := z1
              unfold f_X11_takes0 at z3
              rw [m_fineT R1, Option.bind_some, if_pos rfl, R1.2.2.1, inb_nI (show i < 401 by omega) (by omega), Option.bind_some, (R1.1.1 i hin).1, hk, if_pos (by decide)] at z3
              unfold j_X11_takes0_25 at z3
              rw [if_neg (by decide), R1.2.2.1, nI_1] at z3
              exact (congrArg Prod.snd (Option.some.inj z3)).symm
            rw [sg43, Option.bind_some, z1, Option.bind_some, if_pos rfl]
            unfold j_X11_readSum_29_5
            rw [z2, g2, Option.bind_some]
          · obtain ⟨ht, z1, -, -, -⟩ := (m_takes hT R1 145 (by decide) (by decide)).1 (by rw [hk]; rfl)
            have z2 : ht = sF t 81 19 (nI (i + 1)) := by
              have z3 := z1
              unfold f_X11_takes0 at z3
              rw [m_fineT R1, Option.bind_some, if_pos rfl, R1.2.2.1, inb_nI (show i < 401 by omega) (by omega), Option.bind_some, (R1.1.1 i hin).1, hk, if_pos (by decide)] at z3
              unfold j_X11_takes0_25 at z3
              rw [if_neg (by decide), R1.2.2.1, nI_1] at z3
              exact (congrArg Prod.snd (Option.some.inj z3)).symm
            rw [sg43, Option.bind_some, (m_takes hT R1 143 (by decide) (by decide)).2 (fun e => by have := (rk_sign (by decide)).mp e; omega), Option.bind_some, if_neg Bool.false_ne_true, sg45, Option.bind_some, z1, Option.bind_some, if_pos rfl]
            unfold j_X11_readSum_29_5
            rw [z2, g2, Option.bind_some]
        have fr1 : Fr rA rF hc hc3 := Fr_tr p2 (Fr_tr a3 g3)
        have fr2 : Fr noA yF hr hr3 := Fr_tr p3 (Fr_tr b2 g4)
        have cd : bo2 = true → ∀ j, j < 2 * s → aI hc3 8 j = aI h1 8 j := fun e j hj => by rw [g5 e j hj, a4]
        cases bo2 with
        | false =>
          obtain ⟨x, x1, x2, x3, x4⟩ := g6.2 rfl
          obtain ⟨r, hc4, y1, y2, y3, y4, y5, y6⟩ := c_putF x2 (nI q) 0
          refine ⟨(b2i false, nI (idx + 1), hc4), hr3, ?_, eB, rfl, Fr_tr fr1 y3, fr2, false, rfl, fun c => (by cases c), fun c => (by cases c), fun _ => ⟨x, x1, y2, x3, x4⟩⟩
          show b_X5_readSum_8 (gr_A fA) (nI dd) (b2i true) (nI idx) h1 = _
          rw [eA, y1, Option.bind_some, nI_1]
        | true =>
          obtain ⟨i', s', u', e1, e2, e3, e4, e5, τ, e6, e7⟩ := g6.1 rfl
          have hin' := e1.2.1
          obtain ⟨hc4, y1, y2, y3, y4⟩ := c_put e1 (show s' < 400 by omega) (nI q) 0
          refine ⟨(b2i true, nI (idx + 1), hc4), hr3, ?_, eB, rfl, Fr_tr fr1 y3, fr2, true, rfl, fun _ j hj => ?_, fun _ => ⟨i', s' + 1, u', by omega, y2, e2, by omega, by omega, by omega, _, MC_bin (by omega) (MC_code q5 (fun j j1 j2 => ?_)) (MC_code (MC_B e6 (by omega)) (fun j j1 j2 => ?_)) (by omega) (by omega) ?_ hq1 hq2, PSum_s q6 e7 (by omega) hi (by omega) hq⟩, fun c => (by cases c)⟩
          · show b_X5_readSum_8 (gr_A fA) (nI dd) (b2i true) (nI idx) h1 = _
            rw [eA, y1, Option.bind_some, nI_1]
          · show aI hc4 8 j = _
            rw [y4, pk_un (by omega), pk_un (by omega), cd rfl j (by omega)]
            exact p4 rfl j hj
          · show aI hc4 8 j = _
            rw [y4, pk_un (by omega), pk_un (by omega), cd rfl j (by omega)]
          · show aI hc4 8 j = _
            rw [y4, pk_un (by omega), pk_un (by omega)]
          · show aI hc4 8 _ = _
            rw [y4, pk_un (by omega), pk_us]
      · right
        have ⟨hn0, hn1⟩ : tkd T i ≠ 143 ∧ tkd T i ≠ 145 := by omega
        refine ⟨(b2i true, h1), t, ?_, ?_, p2, p3, true, rfl, p4, Out_T C1 R1 q2 q3 q4 ⟨σ, q5, PSum_e q6 hin (by omega) (kd_bd hT hin) ⟨hn0, hn1⟩⟩⟩
        · show b_X5_readSum_8 (gr_A fA) (nI dd) (b2i true) (nI idx) h1 = _
          unfold b_X5_readSum_8
          by_cases c4 : (400 : Int32) ≤ nI idx
          · rw [if_pos c4]
          · rw [if_neg c4, if_neg (by decide), show ((43 : Int32)) = nI 43 from rfl, c_isSign hT C1 43 (by decide), Option.bind_some, decide_eq_false (show ¬ tkd T i = 100 + 43 from hn0), if_neg Bool.false_ne_true, show ((45 : Int32)) = nI 45 from rfl, c_isSign hT C1 45 (by decide), Option.bind_some, decide_eq_false (show ¬ tkd T i = 100 + 45 from hn1), if_neg Bool.false_ne_true]
        · show b_X11_readSum_5 (gr_B fB) (nI dd) t = _
          unfold b_X11_readSum_5
          rw [sg43, Option.bind_some, (m_takes hT R1 143 (by decide) (by decide)).2 (fun e => hn0 ((rk_sign (by decide)).mp e)), Option.bind_some, if_neg Bool.false_ne_true, sg45, Option.bind_some, (m_takes hT R1 145 (by decide) (by decide)).2 (fun e => hn1 ((rk_sign (by decide)).mp e)), Option.bind_some, if_neg Bool.false_ne_true]
  · rintro ⟨x2, x3, h1⟩ t ⟨p1, p2, p3, bo, p5, p4, p6, p7⟩
    dsimp only at p1 p2 p3 p4 p5 p6 p7
    subst p1
    subst p5
    cases bo with
    | false =>
      obtain ⟨x, q1, q2, q3, q4⟩ := p7 rfl
      refine ⟨(b2i false, h1), t, ?_, ?_, p2, p3, false, rfl, fun c => (by cases c), Out_F q1 q2 q3 q4⟩
      · show b_X5_readSum_8 (gr_A fA) (nI dd) (b2i false) (nI 401) h1 = _
        unfold b_X5_readSum_8
        rw [if_pos (by decide)]
      · show b_X11_readSum_5 (gr_B fB) (nI dd) t = _
        unfold b_X11_readSum_5
        rw [sg43, Option.bind_some, m_takesF q4, Option.bind_some, if_neg Bool.false_ne_true, sg45, Option.bind_some, m_takesF q4, Option.bind_some, if_neg Bool.false_ne_true]
    | true =>
      obtain ⟨i, s, u, q1, C1, R1, q2, q3, q4, σ, q5, q6⟩ := p6 rfl
      have := C1.2.1
      omega
