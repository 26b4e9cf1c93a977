/-! ===== both readers: all clauses ===== -/
abbrev CPt : Type := (Nat → Int32) → (Nat → Int32) → Nat → Nat → Nat → Nat → Nat → Prop
def CPL (T : Tok) : CPt := fun c mk n i0 i1 s0 s1 => ∃ q f2 σ τ, mkL mk n q 1 s0 f2 f2 s1 ∧ s0 ≤ f2 ∧ f2 ≤ s1 ∧ ClL T c i0 i1 q s0 f2 s1 σ τ
def CPO (T : Tok) : CPt := fun c mk n i0 i1 s0 s1 => ∃ q tm f2 f3 σ σ2 τ, mkL mk n q tm s0 f2 f3 s1 ∧ s0 ≤ f2 ∧ f2 ≤ f3 ∧ f3 ≤ s1 ∧ ClO T c i0 i1 q tm s0 f2 f3 s1 σ σ2 τ
/-- n clauses; the next one would begin at token i, its code at s -/
def CU (T : Tok) (CP : CPt) (c mk : Nat → Int32) : Nat → Nat → Nat → Prop
  | 0, i, s => i = 0 ∧ s = 0
  | n + 1, i, s => ∃ i0 s0 i1, CU T CP c mk n i0 s0 ∧ CP c mk n i0 i1 s0 s ∧ s0 ≤ s ∧ i0 < i1 ∧ i = i1 + 1 ∧ i1 ≤ tN T ∧ (i1 < tN T → tkd T i1 = 159)
def CPok (CP : CPt) : Prop := ∀ c mk c' mk' n i0 i1 s0 s1, CP c mk n i0 i1 s0 s1 → (∀ j, j < 2 * s1 → c' j = c j) → (∀ j, j < 6 * (n + 1) → mk' j = mk j) → CP c' mk' n i0 i1 s0 s1
theorem mkL_c {mk mk' : Nat → Int32} {c q tm f1 f2 f3 f4 : Nat} (h : mkL mk c q tm f1 f2 f3 f4) (hc : ∀ j, j < 6 * (c + 1) → mk' j = mk j) : mkL mk' c q tm f1 f2 f3 f4 := by
  obtain ⟨h1, h2, h3, h4, h5, h6⟩ := h
  refine ⟨?_, ?_, ?_, ?_, ?_, ?_⟩ <;> rw [hc _ (by omega)] <;> assumption
theorem CPL_ok (T : Tok) : CPok (CPL T) := by
  intro c mk c' mk' n i0 i1 s0 s1 ⟨q, f2, σ, τ, h1, h2, h3, h4, h5, h6, h7, m, h8, h9, h10⟩ hc hm
  exact ⟨q, f2, σ, τ, mkL_c h1 hm, h2, h3, h4, h5, h6, h7, m, h8, SmP_c h9 (fun j _ j2 => hc j (by omega)), TsP_c h10 (fun j _ j2 => hc j (by omega))⟩
theorem CPO_ok (T : Tok) : CPok (CPO T) := by
  intro c mk c' mk' n i0 i1 s0 s1 ⟨q, tm, f2, f3, σ, σ2, τ, h1, h2, h3, h3', h4, h5, h6, h7, m1, m2, m3, h8, h9, h10, h11, h12, h13, h14⟩ hc hm
  exact ⟨q, tm, f2, f3, σ, σ2, τ, mkL_c h1 hm, h2, h3, h3', h4, h5, h6, h7, m1, m2, m3, h8, h9, h10, SmP_c h11 (fun j _ j2 => hc j (by omega)), Sm2_c h12 (fun j _ j2 => hc j (by omega)), h13, TsP_c h14 (fun j _ j2 => hc j (by omega))⟩
theorem CU_c {T : Tok} {CP : CPt} (hok : CPok CP) {c mk c' mk' : Nat → Int32} : ∀ (n i s : Nat), CU T CP c mk n i s → (∀ j, j < 2 * s → c' j = c j) → (∀ j, j < 6 * n → mk' j = mk j) → CU T CP c' mk' n i s
  | 0, i, s, h, _, _ => h
  | n + 1, i, s, ⟨i0, s0, i1, h1, h2, h3, h4, h5, h6, h7⟩, hc, hm => ⟨i0, s0, i1, CU_c hok n i0 s0 h1 (fun j hj => hc j (by omega)) (fun j hj => hm j (by omega)), hok _ _ _ _ _ _ _ _ _ h2 hc hm, h3, h4, h5, h6, h7⟩
/-- what the readers of a clause do -/
def RdC (T : Tok) (o : Bool) (CP : CPt) : Prop := ∀ hc hr i s u c, CS T o hc i s u → RS T o hr i u → s ≤ i → c < 12 → ∃ bo hc' hr', (if o = true then clsO c hc else clsL c hc) = some (bo, hc') ∧ f_X11_readOne hr = some ((), hr') ∧ Fr rA2 rF hc hc' ∧ Fr noA yF hr hr' ∧ (bo = true → ∃ i' s' u', CS T o hc' i' s' u' ∧ RS T o hr' i' u' ∧ i < i' ∧ s ≤ s' ∧ s' + i ≤ s + i' ∧ (∀ j, j < 2 * s → aI hc' 8 j = aI hc 8 j) ∧ (∀ j, j < 6 * c → aI hc' 9 j = aI hc 9 j) ∧ CP (aI hc' 8) (aI hc' 9) c i i' s s') ∧ (bo = false → Fails T hc' hr')
theorem RdC_L {T : Tok} (hT : TF T) : RdC T false (CPL T) := by
  intro hc hr i s u c hC hR hsi hc12
  obtain ⟨bo, hc', hr', d1, d2, d3, d4, d5, d6⟩ := rd_law hT hC hR hsi hc12
  refine ⟨bo, hc', hr', by rw [if_neg Bool.false_ne_true]; exact d1, ?_, d3, d4, fun hb => ?_, d6⟩
  · unfold f_X11_readOne
    rw [hR.2.2.2.2.2.1, if_pos (show b2i false = 0 from rfl), d2, Option.bind_some]
  · obtain ⟨i', s', u', q, f2, σ, τ, e1, e2, e3, e4, e5, e6, e7, e8, e9, e10, e11⟩ := d5 hb
    exact ⟨i', s', u', e1, e2, e3, e4, e5, e6, e7, q, f2, σ, τ, e8, e10, e9, e11⟩
theorem RdC_O {T : Tok} (hT : TF T) : RdC T true (CPO T) := by
  intro hc hr i s u c hC hR hsi hc12
  obtain ⟨bo, hc', hr', d1, d2, d3, d4, d5, d6⟩ := rd_ord hT hC hR hsi hc12
  refine ⟨bo, hc', hr', by rw [if_pos rfl]; exact d1, ?_, d3, d4, fun hb => ?_, d6⟩
  · unfold f_X11_readOne
    rw [hR.2.2.2.2.2.1, if_neg (show ¬ b2i true = 0 by decide), d2, Option.bind_some]
  · obtain ⟨i', s', u', q, tm, f2, f3, σ, σ2, τ, e1, e2, e3, e4, e5, e6, e7, e8, e9, e10, e11, e12⟩ := d5 hb
    exact ⟨i', s', u', e1, e2, e3, e4, e5, e6, e7, q, tm, f2, f3, σ, σ2, τ, e8, e9, e10, e11, e12⟩
/-- a turn of the class's loop -/
theorem rb_eq (o : Bool) (c : Nat) (h : Hp) (hc : c < 12) : b_X5_read_43 (b2i o) (nI c) h = (if o = true then clsO c h else clsL c h).bind fun v => if v.1 = true then (if fI v.2 4 7 = 29 then some (.inr (.inr (.inr (.inr (nI c, v.2))))) else (f_X5_takeSign 59 v.2).bind fun v18 => if v18.1 = true then some (.inl (nI c + 1, v18.2)) else some (.inr (.inr (.inr (.inl v18.2))))) else some (.inr (.inr (.inl v.2))) := by
  have j69 : ∀ (x3 : Int32) (x : Bool) (g : Hp), j_X5_read_69_43 x3 (nI c) (b2i x) g = (if x = true then f_X5_readIf (nI c) g else some (false, g)).bind fun v => if v.1 = true then (if fI v.2 4 7 = 29 then some (.inr (.inr (.inr (.inr (nI c, v.2))))) else (f_X5_takeSign 59 v.2).bind fun v18 => if v18.1 = true then some (.inl (nI c + 1, v18.2)) else some (.inr (.inr (.inr (.inl v18.2))))) else some (.inr (.inr (.inl v.2))) := by
    intro x3 x g
    unfold j_X5_read_69_43
    cases x
    · rw [if_pos (show b2i false = 0 from rfl), if_neg Bool.false_ne_true, Option.bind_some, if_neg Bool.false_ne_true]
    · rw [if_neg (show ¬ b2i true = 0 by decide), if_pos rfl]
      cases f_X5_readIf (nI c) g with
      | none => rfl
      | some v => rfl
  unfold b_X5_read_43
  rw [if_neg (show ¬ (12 : Int32) ≤ nI c from nI_ge (a := c) (b := 12) hc (by omega))]
  cases o
  · rw [if_pos (show b2i false = 0 from rfl), if_neg Bool.false_ne_true]
    unfold clsL
    cases f_X5_readRule (nI c) h with
    | none => rfl
    | some v => exact j69 (b2i false) v.1 v.2
  · rw [if_neg (show ¬ b2i true = 0 by decide), if_pos rfl]
    unfold clsO
    cases f_X5_readOrder (nI c) h with
    | none => rfl
    | some v => exact j69 (b2i true) v.1 v.2
def clsT (e : Hp ⊕ Hp ⊕ Hp ⊕ (Int32 × Hp)) : Option (Option Nat × Hp) := sc e (fun e25 => (f_X5_wrong e25).bind fun v26 => some (none, v26.2)) (fun e28 => sc e28 (fun e29 => some (none, e29)) (fun e30 => sc e30 (fun e31 => some (none, e31)) (fun e32 => rdT e32.2 e32.1)))
def refT (g : Hp) : Option (Bool × Hp) := (f_X11_fine g).bind fun v20 => if v20 = true then (if fI g 81 18 ≤ fI g 81 19 then j_X11_reads_95 g else (f_X11_faults g).bind fun v26 => j_X11_reads_95 v26.2) else j_X11_reads_95 g
def yF2 (a k : Nat) : Prop := a = 81 ∧ (k = 14 ∨ 19 ≤ k ∧ k ≤ 21)
theorem j95_eq (g : Hp) : j_X11_reads_95 g = some (decide (fI g 81 21 = -1), sF g 81 14 (fI g 81 21)) := by
  unfold j_X11_reads_95 f_X11_fine
  rw [fI_n (by omega)]
  by_cases c : fI g 81 21 = -1
  · rw [if_pos c, Option.bind_some, decide_eq_true c]
  · rw [if_neg c, Option.bind_some, decide_eq_false c]
theorem refT_F {g : Hp} (hb : fI g 81 21 ≠ -1) : refT g = some (false, sF g 81 14 (fI g 81 21)) := by
  unfold refT
  rw [m_fineF hb, Option.bind_some, if_neg Bool.false_ne_true, j95_eq, decide_eq_false hb]
/-- what comes of a whole text -/
def ResT (T : Tok) (o : Bool) (CP : CPt) (hc hr : Hp) (e : Hp ⊕ Hp ⊕ Hp ⊕ (Int32 × Hp)) (g : Hp) : Prop := (∃ c hc' s u, clsT e = rdT hc' (nI c) ∧ c < 12 ∧ CS T o hc' (tN T) s u ∧ s ≤ 400 ∧ CU T CP (aI hc' 8) (aI hc' 9) (c + 1) (tN T + 1) s ∧ Fr rA2 rF hc hc' ∧ refT g = some (true, sF g 81 14 (-1)) ∧ Fr noA yF hr g) ∨ (∃ x hc' hr', clsT e = some (none, hc') ∧ fI hc' 4 10 = nI x ∧ Fr rA2 rF hc hc' ∧ refT g = some (false, hr') ∧ fI hr' 81 14 = nI x ∧ Fr noA yF2 hr hr')
theorem yF_2 {h h' : Hp} (hf : Fr noA yF h h') : Fr noA yF2 h h' := Fr_mono hf (fun _ c => c) (fun _ _ c => ⟨c.1, Or.inr c.2⟩)
theorem rd_all {T : Tok} {o : Bool} {CP : CPt} (hT : TF T) (hok : CPok CP) (hR0 : RdC T o CP) {hc0 hr0 : Hp} : ∀ (m c F G : Nat) (hc hr : Hp) (i s u : Nat), c + m + 1 = 12 → m + 3 ≤ F → m + 3 ≤ G → Fr rA2 rF hc0 hc → Fr noA yF hr0 hr → CS T o hc i s u → RS T o hr i u → s ≤ i → CU T CP (aI hc 8) (aI hc 9) c i s → ∃ e g, lp (fun s : Int32 × Hp => b_X5_read_43 (b2i o) s.1 s.2) F (nI c, hc) = some e ∧ ((f_X11_readOne hr).bind fun v => lp (fun s : Int32 × Hp => b_X11_reads_34 s.1 s.2) G (nI (c + 1), v.2)) = some g ∧ ResT T o CP hc0 hr0 e g := by
  have hN := hT.1
  intro m
  induction m with
  | zero =>
    intro c F G hc hr i s u hcm hF hG f1 f2 hC hR hsi hU
    obtain ⟨F, rfl⟩ : ∃ F', F = F' + 2 := ⟨F - 2, by omega⟩
    obtain ⟨G, rfl⟩ : ∃ G', G = G' + 2 := ⟨G - 2, by omega⟩
    obtain ⟨bo, hc1, hr1, d1, d2, d3, d4, d5, d6⟩ := hR0 hc hr i s u c hC hR hsi (by omega)
    rw [d2, Option.bind_some]
    dsimp only
    cases bo with
    | false =>
      obtain ⟨x, x1, x2, x3, x4⟩ := d6 rfl
      refine ⟨.inr (.inl hc1), hr1, lp_e ?_ (F + 1), lp_e ?_ (G + 1), Or.inr ⟨tps T x, hc1, _, rfl, x2.1, Fr_tr f1 d3, refT_F x4, by rw [fI_s]; exact x3, Fr_tF (yF_2 (Fr_tr f2 d4)) ⟨rfl, Or.inl rfl⟩⟩⟩
      · show b_X5_read_43 (b2i o) (nI c) hc = _
        rw [rb_eq o c hc (by omega), d1, Option.bind_some, if_neg Bool.false_ne_true]
      · show b_X11_reads_34 (nI (c + 1)) hr1 = _
        unfold b_X11_reads_34
        rw [sg59, Option.bind_some, m_takesF x4, Option.bind_some, if_neg Bool.false_ne_true]
    | true =>
      obtain ⟨i', s', u', e1, e2, e3, e4, e5, e6, e7, e8⟩ := d5 rfl
      have hin' := e1.2.1
      have hU1 : CU T CP (aI hc1 8) (aI hc1 9) c i s := CU_c hok c i s hU e6 e7
      have kb := kd_bd hT hin'
      by_cases h29 : tkd T i' = 29
      · have hiN : i' = tN T := by
          by_cases c2 : i' < tN T
          · exact absurd h29 (hT.2.2.1 i' c2).1
          · omega
        subst hiN
        refine ⟨.inr (.inr (.inr (nI c, hc1))), hr1, lp_e ?_ (F + 1), lp_e ?_ (G + 1), Or.inl ⟨c, hc1, s', u', rfl, by omega, e1, by omega, ⟨i, s, tN T, hU1, e8, e4, e3, rfl, Nat.le_refl _, fun c => by omega⟩, Fr_tr f1 d3, ?_, Fr_tr f2 d4⟩⟩
        · show b_X5_read_43 (b2i o) (nI c) hc = _
          rw [rb_eq o c hc (by omega), d1, Option.bind_some, if_pos rfl]
          dsimp only
          rw [if_pos (show fI hc1 4 7 = 29 from (c_kind hT e1 29 (by decide)).mpr h29)]
        · show b_X11_reads_34 (nI (c + 1)) hr1 = _
          unfold b_X11_reads_34
          rw [sg59, Option.bind_some, (m_takes hT e2 159 (by decide) (by decide)).2 (fun e => by have := (rk_sign (by decide)).mp e; omega), Option.bind_some, if_neg Bool.false_ne_true]
        · unfold refT
          rw [m_fineT e2, Option.bind_some, if_pos rfl, e2.2.2.1, e2.1.2.2, if_pos (Int32.le_refl _), j95_eq, e2.2.2.2.2.1]
          rfl
      · have hi' : i' < tN T := kd_lt hT hin' h29
        have n29 : ¬ fI hc1 4 7 = 29 := fun e => h29 ((c_kind hT e1 29 (by decide)).mp e)
        by_cases h59 : tkd T i' = 159
        · obtain ⟨hc2, a1, -, a2, a3, a4⟩ := (c_takeSign hT e1 (by omega) 59 (by decide)).1 h59
          obtain ⟨b1, b2⟩ := RS_go e2 hi'
          obtain ⟨hr3, g1, g2, g3, g4⟩ := m_faults hT b1
          obtain ⟨hc3, w1, w2, w3, w4⟩ := c_wrong hT a2 (by omega)
          refine ⟨.inl hc2, hr3, ?_, ?_, Or.inr ⟨tps T (i' + 1), hc3, _, ?_, w2.1, Fr_tr (Fr_tr f1 d3) (Fr_tr (rA_2 a3) (rA_2 w3)), refT_F g3, by rw [fI_s]; exact g2, Fr_tF (yF_2 (Fr_tr (Fr_tr f2 d4) (Fr_tr b2 g4))) ⟨rfl, Or.inl rfl⟩⟩⟩
          · rw [lp_1 (s' := (nI (c + 1), hc2)) ?_ (F + 1)]
            · refine lp_e ?_ F
              show b_X5_read_43 (b2i o) (nI (c + 1)) hc2 = _
              unfold b_X5_read_43
              rw [if_pos (show (12 : Int32) ≤ nI (c + 1) from nI_le (a := 12) (b := c + 1) (by omega) (by omega))]
            · show b_X5_read_43 (b2i o) (nI c) hc = _
              rw [rb_eq o c hc (by omega), d1, Option.bind_some, if_pos rfl]
              dsimp only
              rw [if_neg n29, show ((59 : Int32)) = nI 59 from rfl, a1, Option.bind_some, if_pos rfl, nI_1]
          · rw [lp_1 (s' := (nI (c + 1) + 1, hr3)) ?_ (G + 1)]
            · refine lp_e ?_ G
              show b_X11_reads_34 (nI (c + 1) + 1) hr3 = _
              unfold b_X11_reads_34
              rw [sg59, Option.bind_some, m_takesF g3, Option.bind_some, if_neg Bool.false_ne_true]
            · show b_X11_reads_34 (nI (c + 1)) hr1 = _
              unfold b_X11_reads_34
              rw [sg59, Option.bind_some, takes_eq hT e2 (by decide) (show rk (tkd T i') = 159 by rw [h59]; rfl), Option.bind_some, if_pos rfl, show c + 1 = 12 by omega, if_pos (show nI 12 = 12 from rfl)]
              dsimp only
              rw [g1, Option.bind_some]
              unfold j_X11_reads_56_34
              rw [m_fineF g3, Option.bind_some, if_neg Bool.false_ne_true]
          · show ((f_X5_wrong hc2).bind fun v26 => some (none, v26.2)) = _
            rw [w1, Option.bind_some]
        · obtain ⟨hc2, a1, a2, a3, a4⟩ := (c_takeSign hT e1 (by omega) 59 (by decide)).2 h59
          obtain ⟨hr3, g1, g2, g3, g4⟩ := m_faults hT e2
          refine ⟨.inr (.inr (.inl hc2)), hr1, lp_e ?_ (F + 1), lp_e ?_ (G + 1), Or.inr ⟨tps T i', hc2, sF hr3 81 14 (fI hr3 81 21), rfl, a2.1, Fr_tr (Fr_tr f1 d3) (rA_2 a3), ?_, by rw [fI_s]; exact g2, Fr_tF (yF_2 (Fr_tr (Fr_tr f2 d4) g4)) ⟨rfl, Or.inl rfl⟩⟩⟩
          · show b_X5_read_43 (b2i o) (nI c) hc = _
            rw [rb_eq o c hc (by omega), d1, Option.bind_some, if_pos rfl]
            dsimp only
            rw [if_neg n29, show ((59 : Int32)) = nI 59 from rfl, a1, Option.bind_some, if_neg Bool.false_ne_true]
          · show b_X11_reads_34 (nI (c + 1)) hr1 = _
            unfold b_X11_reads_34
            rw [sg59, Option.bind_some, (m_takes hT e2 159 (by decide) (by decide)).2 (fun e => h59 ((rk_sign (by decide)).mp e)), Option.bind_some, if_neg Bool.false_ne_true]
          · unfold refT
            rw [m_fineT e2, Option.bind_some, if_pos rfl, e2.2.2.1, e2.1.2.2, if_neg (nI_ge hi' (by omega)), g1, Option.bind_some, j95_eq, decide_eq_false g3]
  | succ m ih =>
    intro c F G hc hr i s u hcm hF hG f1 f2 hC hR hsi hU
    obtain ⟨F, rfl⟩ : ∃ F', F = F' + 1 := ⟨F - 1, by omega⟩
    obtain ⟨G, rfl⟩ : ∃ G', G = G' + 1 := ⟨G - 1, by omega⟩
    obtain ⟨bo, hc1, hr1, d1, d2, d3, d4, d5, d6⟩ := hR0 hc hr i s u c hC hR hsi (by omega)
    rw [d2, Option.bind_some]
    dsimp only
    cases bo with
    | false =>
      obtain ⟨x, x1, x2, x3, x4⟩ := d6 rfl
      refine ⟨.inr (.inl hc1), hr1, lp_e ?_ F, lp_e ?_ G, Or.inr ⟨tps T x, hc1, _, rfl, x2.1, Fr_tr f1 d3, refT_F x4, by rw [fI_s]; exact x3, Fr_tF (yF_2 (Fr_tr f2 d4)) ⟨rfl, Or.inl rfl⟩⟩⟩
      · show b_X5_read_43 (b2i o) (nI c) hc = _
        rw [rb_eq o c hc (by omega), d1, Option.bind_some, if_neg Bool.false_ne_true]
      · show b_X11_reads_34 (nI (c + 1)) hr1 = _
        unfold b_X11_reads_34
        rw [sg59, Option.bind_some, m_takesF x4, Option.bind_some, if_neg Bool.false_ne_true]
    | true =>
      obtain ⟨i', s', u', e1, e2, e3, e4, e5, e6, e7, e8⟩ := d5 rfl
      have hin' := e1.2.1
      have hU1 : CU T CP (aI hc1 8) (aI hc1 9) c i s := CU_c hok c i s hU e6 e7
      have kb := kd_bd hT hin'
      by_cases h29 : tkd T i' = 29
      · have hiN : i' = tN T := by
          by_cases c2 : i' < tN T
          · exact absurd h29 (hT.2.2.1 i' c2).1
          · omega
        subst hiN
        refine ⟨.inr (.inr (.inr (nI c, hc1))), hr1, lp_e ?_ F, lp_e ?_ G, Or.inl ⟨c, hc1, s', u', rfl, by omega, e1, by omega, ⟨i, s, tN T, hU1, e8, e4, e3, rfl, Nat.le_refl _, fun c => by omega⟩, Fr_tr f1 d3, ?_, Fr_tr f2 d4⟩⟩
        · show b_X5_read_43 (b2i o) (nI c) hc = _
          rw [rb_eq o c hc (by omega), d1, Option.bind_some, if_pos rfl]
          dsimp only
          rw [if_pos (show fI hc1 4 7 = 29 from (c_kind hT e1 29 (by decide)).mpr h29)]
        · show b_X11_reads_34 (nI (c + 1)) hr1 = _
          unfold b_X11_reads_34
          rw [sg59, Option.bind_some, (m_takes hT e2 159 (by decide) (by decide)).2 (fun e => by have := (rk_sign (by decide)).mp e; omega), Option.bind_some, if_neg Bool.false_ne_true]
        · unfold refT
          rw [m_fineT e2, Option.bind_some, if_pos rfl, e2.2.2.1, e2.1.2.2, if_pos (Int32.le_refl _), j95_eq, e2.2.2.2.2.1]
          rfl
      · have hi' : i' < tN T := kd_lt hT hin' h29
        have n29 : ¬ fI hc1 4 7 = 29 := fun e => h29 ((c_kind hT e1 29 (by decide)).mp e)
        by_cases h59 : tkd T i' = 159
        · obtain ⟨hc2, a1, -, a2, a3, a4⟩ := (c_takeSign hT e1 (by omega) 59 (by decide)).1 h59
          obtain ⟨b1, b2⟩ := RS_go e2 hi'
          have h9 : aI hc2 9 = aI hc1 9 := a3.2.1 9 (by unfold rA; omega)
          have hU2 : CU T CP (aI hc2 8) (aI hc2 9) (c + 1) (i' + 1) s' := by
            rw [a4, h9]
            exact ⟨i, s, i', hU1, e8, e4, e3, rfl, hin', fun _ => h59⟩
          obtain ⟨e, g, k1, k2, k3⟩ := ih (c + 1) F G hc2 (sF hr1 81 19 (nI (i' + 1))) (i' + 1) s' u' (by omega) (by omega) (by omega) (Fr_tr (Fr_tr f1 d3) (rA_2 a3)) (Fr_tr (Fr_tr f2 d4) b2) a2 b1 (by omega) hU2
          refine ⟨e, g, ?_, ?_, k3⟩
          · rw [lp_1 (s' := (nI (c + 1), hc2)) ?_ F]
            · exact k1
            · show b_X5_read_43 (b2i o) (nI c) hc = _
              rw [rb_eq o c hc (by omega), d1, Option.bind_some, if_pos rfl]
              dsimp only
              rw [if_neg n29, show ((59 : Int32)) = nI 59 from rfl, a1, Option.bind_some, if_pos rfl, nI_1]
          · cases hro : f_X11_readOne (sF hr1 81 19 (nI (i' + 1))) with
            | none => rw [hro] at k2; cases k2
            | some v =>
              rw [hro, Option.bind_some] at k2
              rw [lp_1 (s' := (nI (c + 1 + 1), v.2)) ?_ G]
              · exact k2
              · show b_X11_reads_34 (nI (c + 1)) hr1 = _
                unfold b_X11_reads_34
                rw [sg59, Option.bind_some, takes_eq hT e2 (by decide) (show rk (tkd T i') = 159 by rw [h59]; rfl), Option.bind_some, if_pos rfl, if_neg (show ¬ nI (c + 1) = 12 from fun e => by have := (nI_eq (by omega) (by omega)).mp (show nI (c + 1) = nI 12 from e); omega)]
                unfold j_X11_reads_56_34
                rw [m_fineT b1, Option.bind_some, if_pos rfl, hro, Option.bind_some, nI_1]
        · obtain ⟨hc2, a1, a2, a3, a4⟩ := (c_takeSign hT e1 (by omega) 59 (by decide)).2 h59
          obtain ⟨hr3, g1, g2, g3, g4⟩ := m_faults hT e2
          refine ⟨.inr (.inr (.inl hc2)), hr1, lp_e ?_ F, lp_e ?_ G, Or.inr ⟨tps T i', hc2, sF hr3 81 14 (fI hr3 81 21), rfl, a2.1, Fr_tr (Fr_tr f1 d3) (rA_2 a3), ?_, by rw [fI_s]; exact g2, Fr_tF (yF_2 (Fr_tr (Fr_tr f2 d4) g4)) ⟨rfl, Or.inl rfl⟩⟩⟩
          · show b_X5_read_43 (b2i o) (nI c) hc = _
            rw [rb_eq o c hc (by omega), d1, Option.bind_some, if_pos rfl]
            dsimp only
            rw [if_neg n29, show ((59 : Int32)) = nI 59 from rfl, a1, Option.bind_some, if_neg Bool.false_ne_true]
          · show b_X11_reads_34 (nI (c + 1)) hr1 = _
            unfold b_X11_reads_34
            rw [sg59, Option.bind_some, (m_takes hT e2 159 (by decide) (by decide)).2 (fun e => h59 ((rk_sign (by decide)).mp e)), Option.bind_some, if_neg Bool.false_ne_true]
          · unfold refT
            rw [m_fineT e2, Option.bind_some, if_pos rfl, e2.2.2.1, e2.1.2.2, if_neg (nI_ge hi' (by omega)), g1, Option.bind_some, j95_eq, decide_eq_false g3]
