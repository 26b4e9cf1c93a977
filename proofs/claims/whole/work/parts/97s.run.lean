/-! ===== orders run on both sides, step by step ===== -/
theorem lp_tw {σ ε σ' ε' : Type} {b : σ → Option (σ ⊕ ε)} {b' : σ' → Option (σ' ⊕ ε')} (P : Nat → σ → σ' → Prop) (Q : ε → ε' → Prop) (n : Nat) (hs : ∀ i s t, i < n → P i s t → (∃ s' t', b s = some (.inl s') ∧ b' t = some (.inl t') ∧ P (i + 1) s' t') ∨ (∃ e f, b s = some (.inr e) ∧ b' t = some (.inr f) ∧ Q e f)) (he : ∀ s t, P n s t → ∃ e f, b s = some (.inr e) ∧ b' t = some (.inr f) ∧ Q e f) : ∀ (m i F : Nat) (s : σ) (t : σ'), i + m = n → m < F → P i s t → ∃ e f, lp b F s = some e ∧ lp b' F t = some f ∧ Q e f
  | 0, i, F, s, t, hi, hf, hp => by
    obtain ⟨F', rfl⟩ : ∃ F', F = F' + 1 := ⟨F - 1, by omega⟩
    have h0 : i = n := by omega
    subst h0
    obtain ⟨e, f, h1, h2, h3⟩ := he s t hp
    exact ⟨e, f, lp_e h1 F', lp_e h2 F', h3⟩
  | m + 1, i, F, s, t, hi, hf, hp => by
    obtain ⟨F', rfl⟩ : ∃ F', F = F' + 1 := ⟨F - 1, by omega⟩
    rcases hs i s t (by omega) hp with ⟨s', t', h1, h2, h3⟩ | ⟨e, f, h1, h2, h3⟩
    · obtain ⟨e, f, g1, g2, g3⟩ := lp_tw P Q n hs he m (i + 1) F' s' t' (by omega) (by omega) h3
      exact ⟨e, f, by rw [lp_1 h1]; exact g1, by rw [lp_1 h2]; exact g2, g3⟩
    · exact ⟨e, f, lp_e h1 F', lp_e h2 F', h3⟩
theorem lp_pair {σ ε σ' ε' : Type} {b : σ → Option (σ ⊕ ε)} {b' : σ' → Option (σ' ⊕ ε')} (P : Nat → σ → σ' → Prop) (Q : ε → ε' → Prop) (n : Nat) (s0 : σ) (t0 : σ') (hn : n < 20000) (h0 : P 0 s0 t0) (hs : ∀ i s t, i < n → P i s t → (∃ s' t', b s = some (.inl s') ∧ b' t = some (.inl t') ∧ P (i + 1) s' t') ∨ (∃ e f, b s = some (.inr e) ∧ b' t = some (.inr f) ∧ Q e f)) (he : ∀ s t, P n s t → ∃ e f, b s = some (.inr e) ∧ b' t = some (.inr f) ∧ Q e f) : ∃ e f, lp b FU s0 = some e ∧ lp b' FU t0 = some f ∧ Q e f :=
  lp_tw P Q n hs he n 0 FU s0 t0 (by omega) (by show n < 20000; exact hn) h0
theorem PAS2_tr {hc g hc' g' : Hp} {K : Nat → Int32} {k : Nat} (hp : PAS2 hc g K k) (e1 : aI hc' 11 = aI hc 11) (e2 : fI hc' 10 1 = fI hc 10 1) (e3 : fI hc' 10 2 = fI hc 10 2) (e4 : aI g' 95 = aI g 95) (e5 : fI g' 81 32 = fI g 81 32) : PAS2 hc' g' K k :=
  PAS2_of (h := comb hc g) hp (by rw [e1, cb_a (by omega)]) (by rw [e2, cb_f (by omega)]) (by rw [e3, cb_f (by omega)]) (by rw [e4, cb_95]) (by rw [e5, cb_g])
theorem MvK_tr {hc g hc' g' : Hp} {K0 K : Nat → Int32} {k : Nat} {A A' : Nat → Prop} {F F' : Nat → Nat → Prop} (hM : MvK hc g K0 k K) (F1 : Fr A F hc hc') (F2 : Fr A' F' g g') (hA : ∀ a, A a → ¬ (34 ≤ a ∧ a ≤ 37) ∧ a ≠ 11) (hF : ∀ a j, F a j → a ≠ 33 ∧ a ≠ 10) (hA' : ∀ a, A' a → a ≠ 83 ∧ a ≠ 95) (hF' : ∀ a j, F' a j → ¬ (a = 81 ∧ j = 32)) : MvK hc' g' K0 k K := by
  obtain ⟨hR, e83, hp, hw, hm, hk0⟩ := hM
  refine ⟨RR_fr hR F1 (fun c => (hF _ _ c).1 rfl) (fun c => by have := (hA _ c).1; omega) (fun c => by have := (hA _ c).1; omega) (fun c => by have := (hA _ c).1; omega) (fun c => by have := (hA _ c).1; omega), by rw [F2.2.1 83 (fun c => (hA' _ c).1 rfl)]; exact e83, PAS2_tr hp (F1.2.1 11 (fun c => (hA _ c).2 rfl)) (F1.1 _ _ (fun c => (hF _ _ c).2 rfl)) (F1.1 _ _ (fun c => (hF _ _ c).2 rfl)) (F2.2.1 95 (fun c => (hA' _ c).2 rfl)) (F2.1 _ _ (fun c => hF' _ _ c ⟨rfl, rfl⟩)), hw, hm, hk0⟩
def SmO (hc0 g0 : Hp) (K0 : Nat → Int32) (k dmax : Nat) (hc g : Hp) : Prop := ∃ K dn lt, MvK hc g K0 k K ∧ dn ≤ dmax ∧ fI hc 60 4 = nI dn ∧ fI g 81 27 = nI dn ∧ fI hc 60 5 = lt ∧ fI g 81 28 = lt ∧ lt ≠ BRK ∧ Fr rcA rcF hc0 hc ∧ Fr rrA rrF g0 g
theorem SmO_le {hc0 g0 hc g : Hp} {K0 : Nat → Int32} {k d d' : Nat} (h : SmO hc0 g0 K0 k d hc g) (hd : d ≤ d') : SmO hc0 g0 K0 k d' hc g := by
  obtain ⟨K, dn, lt, a1, a2, a3⟩ := h
  exact ⟨K, dn, lt, a1, by omega, a3⟩
/-- a run's surroundings -/
def RnC (hc0 : Hp) (K0 : Nat → Int32) (T : Tok) (a n s : Nat) (c mk : Nat → Int32) (D : DOs) : Prop := TxI hc0 a n s c mk ∧ 110 ≤ a ∧ TF T ∧ LdO T K0 ∧ ClD T (CdO T) c mk D n (tN T + 1) s ∧ ∃ al S, f_X1_inForce 32 hc0 = some al ∧ isTx al ∧ tg hc0 al = true ∧ CL hc0 al S ∧ RT K0 S ∧ semOK S
section RUN
variable {hc0 g0 : Hp} {K0 : Nat → Int32} {k : Nat} {T : Tok} {a n s : Nat} {c mk : Nat → Int32} {D : DOs}
theorem otm_le (hD : ClD T (CdO T) c mk D n (tN T + 1) s) {kk : Nat} (hk : kk < n) : otm D kk ≤ 20 ∧ (oq D kk = 16 ∨ oq D kk = 17 ∨ oq D kk = 18 ∨ oq D kk = 19) ∧ mk (6 * kk) = nI (oq D kk) ∧ mk (6 * kk + 1) = nI (otm D kk) := by
  obtain ⟨⟨m1, m2, m3, m4, q1, q2, q3, q4, r1, r2, r3, q5, q6, q7, q8, q9, q10, q11⟩, s1, -⟩ := hD kk hk
  refine ⟨?_, q2, m1.1, m1.2.1⟩
  rcases q10 with ⟨t1, t2, t3, t4, t5, t6⟩ | ⟨t1, t2, t3⟩
  · exact t5
  · have : otm D kk = 1 := t2
    omega
theorem rc_tx (ha : 110 ≤ a) {h : Hp} (ht : tg hc0 a = true) (hf : Fr rcA rcF hc0 h) : TxSame hc0 h a := by
  refine Tx_fr ⟨rfl, rfl, rfl, rfl, rfl, rfl, ht⟩ hf ?_ ?_ ?_ ?_
  · unfold rcF; omega
  · unfold rcF; omega
  · unfold rcA pA; omega
  · unfold rcA pA; omega
theorem o_turn (hX : RnC hc0 K0 T a n s c mk D) {kk i d : Nat} {x3 : Int32} {hc g : Hp} (hk : kk < n) (hi : i < otm D kk) (hs : SmO hc0 g0 K0 k d hc g) (hd : d < 900) (e47 : fI g 81 47 = nI (2400 + (D kk).1)) :
    (∃ hc' g', b_X0_run_53_43 a (nI kk) (nI i) hc = some (.inl (nI (i + 1), hc')) ∧ b_X11_runs_19 (nI (2400 + tN T)) (nI (otm D kk)) x3 (nI i) g = some (.inl (nI (i + 1), g')) ∧ SmO hc0 g0 K0 k (d + 1) hc' g' ∧ fI g' 81 47 = fI g 81 47) ∨ (∃ hc' g', b_X0_run_53_43 a (nI kk) (nI i) hc = some (.inr (.inr hc')) ∧ b_X11_runs_19 (nI (2400 + tN T)) (nI (otm D kk)) x3 (nI i) g = some (.inr (.inr g')) ∧ Fr rcA rcF hc0 hc' ∧ Fr rrA rrF g0 g' ∧ ∀ i, 25 ≤ i → aI g' 83 i = K0 i) := by
  obtain ⟨ht, ha, hT, hL0, hD, al, S, f1, f2, f3, f4, f5, f6⟩ := hX
  obtain ⟨K, dn, lt, hM, hdn, c4, r27, c5, r28, hlt, FC, FR⟩ := hs
  obtain ⟨hR, e83, hp, hw, hm, hk0⟩ := id hM
  have h6 := hw.2.1
  have n12 : n ≤ 12 := ht.2.2.2.2.2.2.2.1
  obtain ⟨tm20, hq, mkq, mkt⟩ := otm_le hD hk
  have isT : isTx a := Or.inr ha
  have hL : LdO T K := fun x hx => by rw [hk0 _ (by omega), hk0 _ (by omega)]; exact hL0 x hx
  have hS := rc_tx ha ht.2.1 FC
  have ht1 := TxI_same ht hS
  obtain ⟨h1, w1, w2, w3⟩ := c_sayO (dn := nI dn) (lt := lt) hR hw c4 c5
  have hS1 : TxSame hc0 h1 a := Tx_fr hS w3 (fun c => c) (fun c => c) (by omega) (by omega)
  obtain ⟨v, h2, t1, t2, t3⟩ := o_test ht hD hS1 w2 hk
  have hS2 : TxSame hc0 h2 a := Tx_s isT hS1 t3
  obtain ⟨sA, tI, x', z1, z2, z3, z4, z5, z6, z7, z8⟩ := m_along (k := k) (dn := nI dn) (lt := lt) hT hL hw hD hk e83 r27 r28 e47 true
  obtain ⟨z9, z10, z11, z12⟩ := z8 rfl
  -- both bodies
  have hcB : b_X0_run_53_43 a (nI kk) (nI i) hc = if v = 1 then (f_X0_canMove a (nI kk) h2).bind fun v16 => if v16.1 = true then some (.inl (nI (i + 1), v16.2)) else some (.inr (.inr v16.2)) else some (.inl (nI (i + 1), h2)) := by
    unfold b_X0_run_53_43
    rw [if_pos hS.2.2.2.2.2.2, show f_X9_markOf a (nI kk) (1 : Int32) hc = some (mk (6 * kk + 1)) from x_mark ht1 hk (show 1 < 6 by omega), Option.bind_some, mkt, if_neg (nI_ge hi (by omega)), w1, Option.bind_some, show f_X2_workOut a (nI kk) (4 : Int32) h1 = some (v, h2) from t1, Option.bind_some, nI_1]
    rfl
  have hrB : b_X11_runs_19 (nI (2400 + tN T)) (nI (otm D kk)) x3 (nI i) g = if fI x' 81 51 = 0 then some (.inl (nI (i + 1), x')) else if fI x' 81 50 = 0 then some (.inr (.inr x')) else (f_X11_obeys x').bind fun v8 => if 0 ≤ v8.1 then some (.inl (nI (i + 1), sF v8.2 81 27 (fI v8.2 81 27 + 1))) else some (.inr (.inr v8.2)) := by
    unfold b_X11_runs_19
    rw [if_neg (nI_ge hi (by omega)), show f_X11_goesAlong (nI (2400 + tN T)) (1 : Int32) g = some ((), x') from z1, Option.bind_some, nI_1]
    rfl
  have FX : Fr rrA rrF g0 x' := Fr_tr FR (Fr_mono z7 (fun _ c => Or.inr (Or.inr c)) (fun a j c => by unfold gF at c; unfold rrF tF; omega))
  have F2c : Fr wA noF hc h2 := Fr_tr (Fr_mono w3 (fun _ c => Or.inl c) (fun _ _ c => c)) (Fr_w t3)
  have FC2 : Fr rcA rcF hc0 h2 := Fr_tr FC (Fr_mono F2c (fun a c => by unfold wA at c; unfold rcA pA; omega) (fun _ _ c => c.elim))
  have x83 : ∀ i, 25 ≤ i → aI x' 83 i = K0 i := fun i hi => by rw [z7.2.1 83 (by omega), e83]; exact hk0 i hi
  have x47 : fI x' 81 47 = fI g 81 47 := z7.1 _ _ (by unfold gF; omega)
  rw [hcB, hrB]
  by_cases ct : oτ D kk (envO K k (nI dn) lt) = some true
  · have v1 : v = 1 := t2.mpr ct
    have tI1 : tI = true := z9.mpr ct
    rw [if_pos v1, z6, tI1, if_neg (show ¬ b2i true = 0 by decide), z5]
    obtain ⟨v1, h3, v2, h4, y1, y2, y3, y4, y5, y6, y7⟩ := o_sums ht hD hS2 isT (w := envO K k (nI dn) lt) (fun i hi => ⟨(w2 i hi).1, by rw [t3.2.1 30 (by unfold stF; omega)]; exact (w2 i hi).2⟩) (envO_nb hw hm (by omega) hlt) hk
    have F4c : Fr wA noF hc h4 := Fr_tr F2c (Fr_w y3)
    have FC4 : Fr rcA rcF hc0 h4 := Fr_tr FC (Fr_mono F4c (fun a c => by unfold wA at c; unfold rcA pA; omega) (fun _ _ c => c.elim))
    have hS4 : TxSame hc0 h4 a := Tx_s isT hS2 y3
    have cm0 : f_X0_canMove a (nI kk) h2 = if v1 = (-2147483648 : Int32) then some (false, h4) else if v2 = (-2147483648 : Int32) then some (false, h4) else (if (nI (oq D kk)).toInt < (16 : Int) ∨ (18 : Int) < (nI (oq D kk)).toInt then (f_X3_toPassMinute h4).bind fun v13 => j_X0_canMove_130 a v13.1 v13.2 else if ((nI (oq D kk)).toInt - (16 : Int)).toNat = 0 then (f_X3_toSeat v1 v2 h4).bind fun v16 => j_X0_canMove_130 a v16.1 v16.2 else if ((nI (oq D kk)).toInt - (16 : Int)).toNat = 1 then (f_X3_toSendOut v1 h4).bind fun v18 => j_X0_canMove_130 a v18.1 (sF v18.2 60 5 v18.1) else if ((nI (oq D kk)).toInt - (16 : Int)).toNat = 2 then (f_X3_toExchange v1 v2 h4).bind fun v20 => j_X0_canMove_130 a v20.1 v20.2 else none) := by
      unfold f_X0_canMove
      rw [show f_X2_workOut a (nI kk) (2 : Int32) h2 = some (v1, h3) from y1, Option.bind_some, show f_X2_workOut a (nI kk) (3 : Int32) h3 = some (v2, h4) from y2, Option.bind_some]
      dsimp only
      rw [if_pos hS4.2.2.2.2.2.2, show f_X9_markOf a (nI kk) (0 : Int32) h4 = some (mk (6 * kk)) from x_mark (TxI_same ht hS4) hk (show 0 < 6 by omega), Option.bind_some, mkq]
    cases es : oσ D kk (envO K k (nI dn) lt) with
    | none =>
      have sF0 : sA = false := by
        cases hsA : sA
        · rfl
        · obtain ⟨a1, a2, d1, -⟩ := z10.mp hsA
          rw [es] at d1
          cases d1
      right
      refine ⟨h4, x', ?_, ?_, FC4, FX, x83⟩
      · rw [cm0, if_pos (show v1 = (-2147483648 : Int32) from y4 es), Option.bind_some, if_neg Bool.false_ne_true]
      · rw [sF0, if_pos (show b2i false = 0 from rfl)]
    | some a1 =>
      cases es2 : oσ2 D kk (envO K k (nI dn) lt) with
      | none =>
        have sF0 : sA = false := by
          cases hsA : sA
          · rfl
          · obtain ⟨a1, a2, -, d1⟩ := z10.mp hsA
            rw [es2] at d1
            cases d1
        right
        refine ⟨h4, x', ?_, ?_, FC4, FX, x83⟩
        · rw [cm0, if_neg (show ¬ v1 = (-2147483648 : Int32) from fun d => (y5 a1 es).2 ((y5 a1 es).1.symm.trans d)), if_pos (show v2 = (-2147483648 : Int32) from y6 es2), Option.bind_some, if_neg Bool.false_ne_true]
        · rw [sF0, if_pos (show b2i false = 0 from rfl)]
      | some a2 =>
        have sA1 : sA = true := z10.mpr ⟨a1, a2, es, es2⟩
        obtain ⟨e1, b1⟩ := y5 a1 es
        obtain ⟨e2, b2⟩ := y7 a2 es2
        subst e1
        subst e2
        rw [sA1, if_neg (show ¬ b2i true = 0 by decide)]
        rw [if_neg (show ¬ v1 = (-2147483648 : Int32) from b1), if_neg (show ¬ v2 = (-2147483648 : Int32) from b2)] at cm0
        have M4 : MvK h4 x' K0 k K := MvK_tr hM F4c z7 (fun a c => by unfold wA at c; omega) (fun _ _ c => c.elim) (fun a c => by omega) (fun a j c => by unfold gF at c; omega)
        have c44 : fI h4 60 4 = nI dn := by rw [F4c.1 _ _ (fun c => c)]; exact c4
        have c45 : fI h4 60 5 = lt := by rw [F4c.1 _ _ (fun c => c)]; exact c5
        have x27 : fI x' 81 27 = nI dn := by rw [z7.1 _ _ (by unfold gF; omega)]; exact r27
        have x28 : fI x' 81 28 = lt := by rw [z7.1 _ _ (by unfold gF; omega)]; exact r28
        have fin : ∀ (r1 r2 : Int32) (hc2 g2 : Hp), f_X0_canMove a (nI kk) h2 = j_X0_canMove_130 a r1 hc2 → f_X11_obeys x' = some (r2, g2) → Fr rcA rcF h4 hc2 → Fr rrA rrF x' g2 → ((r1 < 0 ∧ r2 < 0 ∧ aI g2 83 = aI x' 83) ∨ (¬ r1 < 0 ∧ 0 ≤ r2 ∧ ∃ K' lt', MvK hc2 g2 K0 k K' ∧ fI hc2 60 4 = nI dn ∧ fI g2 81 27 = nI dn ∧ fI hc2 60 5 = lt' ∧ fI g2 81 28 = lt' ∧ lt' ≠ BRK ∧ fI g2 81 47 = fI x' 81 47)) →
            (∃ hc' g', ((f_X0_canMove a (nI kk) h2).bind fun v16 => if v16.1 = true then some (.inl (nI (i + 1), v16.2)) else some (.inr (.inr v16.2))) = (some (.inl (nI (i + 1), hc')) : Option ((Int32 × Hp) ⊕ (Hp ⊕ Hp))) ∧ ((f_X11_obeys x').bind fun v8 => if 0 ≤ v8.1 then some (.inl (nI (i + 1), sF v8.2 81 27 (fI v8.2 81 27 + 1))) else some (.inr (.inr v8.2))) = (some (.inl (nI (i + 1), g')) : Option ((Int32 × Hp) ⊕ (Hp ⊕ Hp))) ∧ SmO hc0 g0 K0 k (d + 1) hc' g' ∧ fI g' 81 47 = fI g 81 47) ∨ (∃ hc' g', ((f_X0_canMove a (nI kk) h2).bind fun v16 => if v16.1 = true then some (.inl (nI (i + 1), v16.2)) else some (.inr (.inr v16.2))) = (some (.inr (.inr hc')) : Option ((Int32 × Hp) ⊕ (Hp ⊕ Hp))) ∧ ((f_X11_obeys x').bind fun v8 => if 0 ≤ v8.1 then some (.inl (nI (i + 1), sF v8.2 81 27 (fI v8.2 81 27 + 1))) else some (.inr (.inr v8.2))) = (some (.inr (.inr g')) : Option ((Int32 × Hp) ⊕ (Hp ⊕ Hp))) ∧ Fr rcA rcF hc0 hc' ∧ Fr rrA rrF g0 g' ∧ ∀ i, 25 ≤ i → aI g' 83 i = K0 i) := by
          intro r1 r2 hc2 g2 ec er G1 G2 hh
          rcases hh with ⟨k1, k2, k0⟩ | ⟨k1, k2, K', lt', k3, k4, k5, k6, k7, k8, k9⟩
          · right
            refine ⟨sF hc2 60 4 (fI hc2 60 4 + 1), g2, ?_, ?_, Fr_tF (Fr_tr FC4 G1) (Or.inr ⟨rfl, by omega⟩), Fr_tr FX G2, fun i hi => by rw [k0]; exact x83 i hi⟩
            · rw [ec]
              unfold j_X0_canMove_130
              rw [if_pos k1, Option.bind_some, if_neg Bool.false_ne_true]
            · rw [er, Option.bind_some, if_neg (fun d => i32_nle.mpr k2 d)]
          · left
            refine ⟨sF hc2 60 4 (nI (dn + 1)), sF g2 81 27 (nI (dn + 1)), ?_, ?_, ⟨K', dn + 1, lt', ?_, by omega, fI_s, fI_s, by rw [fI_n (by omega)]; exact k6, by rw [fI_n (by omega)]; exact k7, k8, Fr_tF (Fr_tr FC4 G1) (Or.inr ⟨rfl, by omega⟩), Fr_tF (Fr_tr FX G2) (Or.inr ⟨rfl, by omega⟩)⟩, by rw [fI_n (by omega), k9]; exact x47⟩
            · rw [ec]
              unfold j_X0_canMove_130
              rw [if_neg k1, Option.bind_some, if_pos rfl, k4, nI_1]
            · rw [er, Option.bind_some, if_pos k2, k5, nI_1]
            · exact MvK_tr (A := noA) (A' := noA) (F := fun a j => a = 60) (F' := fun a j => a = 81 ∧ j = 27) k3 (Fr_sF rfl) (Fr_sF ⟨rfl, rfl⟩) (fun _ c => c.elim) (fun a j c => by omega) (fun _ c => c.elim) (fun a j c => by omega)
        -- from a move to the end
        have stdm : ∀ (C M : Hp → Option (Int32 × Hp)), Mv2 C M h4 x' K0 k → f_X0_canMove a (nI kk) h2 = (C h4).bind (fun v => j_X0_canMove_130 a v.1 v.2) → f_X11_obeys x' = (M x').bind (fun v => some (v.1, v.2)) → ∃ r1 r2 hc2 g2, f_X0_canMove a (nI kk) h2 = j_X0_canMove_130 a r1 hc2 ∧ f_X11_obeys x' = some (r2, g2) ∧ Fr rcA rcF h4 hc2 ∧ Fr rrA rrF x' g2 ∧ ((r1 < 0 ∧ r2 < 0 ∧ aI g2 83 = aI x' 83) ∨ (¬ r1 < 0 ∧ 0 ≤ r2 ∧ ∃ K' lt', MvK hc2 g2 K0 k K' ∧ fI hc2 60 4 = nI dn ∧ fI g2 81 27 = nI dn ∧ fI hc2 60 5 = lt' ∧ fI g2 81 28 = lt' ∧ lt' ≠ BRK ∧ fI g2 81 47 = fI x' 81 47)) := by
          intro C M hmv ec er
          obtain ⟨r1, hc1, r2, g1, u1, u2, u3, u4, u5⟩ := hmv
          refine ⟨r1, r2, hc1, g1, by rw [ec, u1, Option.bind_some], by rw [er, u2, Option.bind_some], Fr_mono u3 (fun _ c => c) (fun _ _ c => Or.inl c), Fr_mono u4 (fun _ c => c) (fun a j c => by unfold rrF; rcases c with c | c; exact Or.inl c; exact Or.inr ⟨c.1, by omega⟩), ?_⟩
          rcases u5 with u5 | ⟨u5, ⟨vv, u6, u7⟩, K', u8⟩
          · exact Or.inl u5
          · refine Or.inr ⟨by rw [u7]; exact nI_pos (by omega), by rw [← u5, u7]; exact nI_pos' (by omega), K', lt, u8, by rw [u3.1 _ _ (by omega)]; exact c44, by rw [u4.1 _ _ (by unfold tF; omega)]; exact x27, by rw [u3.1 _ _ (by omega)]; exact c45, by rw [u4.1 _ _ (by unfold tF; omega)]; exact x28, hlt, u4.1 _ _ (by unfold tF; omega)⟩
        have sm0 : oq D kk ≠ 19 → f_X11_small (aL x' 108 0) = some (smI v1) := fun hne => by rw [z11 v1 sA1 hne es]; exact m_small v1
        have sm1 : (oq D kk = 16 ∨ oq D kk = 18) → f_X11_small (aL x' 108 1) = some (smI v2) := fun hne => by rw [z12 v2 sA1 hne es2]; exact m_small v2
        rcases hq with e | e | e | e
        · rw [e, if_neg (by decide), if_pos (by decide)] at cm0
          obtain ⟨r1, r2, hc2, g2, p1, p2, p3, p4, p5⟩ := stdm _ _ (mv_seat M4 v1 v2) cm0 (by
            unfold f_X11_obeys
            rw [sm0 (by omega), Option.bind_some, z4, e, if_pos (by decide)]
            unfold j_X11_obeys_88
            rw [sm1 (Or.inl e), Option.bind_some])
          exact fin r1 r2 hc2 g2 p1 p2 p3 p4 p5
        · rw [e, if_neg (by decide), if_neg (by decide), if_pos (by decide)] at cm0
          obtain ⟨r1, hc1, r2, g1, u1, u2, u3, u4, u5⟩ := mv_out M4 v1
          have ob : f_X11_obeys x' = some (r2, sF g1 81 28 (if 0 ≤ r2 then r2 else fI g1 81 28)) := by
            unfold f_X11_obeys
            rw [sm0 (by omega), Option.bind_some, z4, e, if_neg (by decide), if_pos (by decide), u2, Option.bind_some]
            dsimp only
            split <;> rfl
          refine fin r1 r2 (sF hc1 60 5 r1) _ (by rw [cm0, u1, Option.bind_some]) ob (Fr_tF (Fr_mono u3 (fun _ c => c) (fun _ _ c => Or.inl c)) (Or.inr ⟨rfl, by omega⟩)) (Fr_tF (Fr_mono u4 (fun _ c => c) (fun a j c => by unfold rrF; rcases c with c | c; exact Or.inl c; exact Or.inr ⟨c.1, by omega⟩)) (Or.inr ⟨rfl, by omega⟩)) ?_
          rcases u5 with u5 | ⟨u5, ⟨vv, u6, u7⟩, K', u8⟩
          · exact Or.inl u5
          · have r0 : 0 ≤ r2 := by rw [← u5, u7]; exact nI_pos' (by omega)
            refine Or.inr ⟨by rw [u7]; exact nI_pos (by omega), r0, K', r1, ?_, by rw [fI_n (by omega), u3.1 _ _ (by omega)]; exact c44, by rw [fI_n (by omega), u4.1 _ _ (by unfold tF; omega)]; exact x27, fI_s, by rw [fI_s, if_pos r0, u5], by rw [u7]; exact nI_nb (by omega), by rw [fI_n (by omega)]; exact u4.1 _ _ (by unfold tF; omega)⟩
            exact MvK_tr (A := noA) (A' := noA) (F := fun a j => a = 60) (F' := fun a j => a = 81 ∧ j = 28) u8 (Fr_sF rfl) (Fr_sF ⟨rfl, rfl⟩) (fun _ c => c.elim) (fun a j c => by omega) (fun _ c => c.elim) (fun a j c => by omega)
        · rw [e, if_neg (by decide), if_neg (by decide), if_neg (by decide), if_pos (by decide)] at cm0
          obtain ⟨r1, r2, hc2, g2, p1, p2, p3, p4, p5⟩ := stdm _ _ (mv_swap M4 v1 v2) cm0 (by
            unfold f_X11_obeys
            rw [sm0 (by omega), Option.bind_some, z4, e, if_neg (by decide), if_neg (by decide), if_pos (by decide), sm1 (Or.inr e), Option.bind_some])
          exact fin r1 r2 hc2 g2 p1 p2 p3 p4 p5
        · rw [e, if_pos (by decide)] at cm0
          obtain ⟨y, hy⟩ : ∃ y, f_X11_small (aL x' 108 0) = some y := by
            unfold f_X11_small
            split
            · exact ⟨_, rfl⟩
            · split <;> exact ⟨_, rfl⟩
          obtain ⟨r1, r2, hc2, g2, p1, p2, p3, p4, p5⟩ := stdm _ _ (mv_pass M4 f1 f2 f3 f4 f5 f6 FC4) cm0 (by
            unfold f_X11_obeys
            rw [hy, Option.bind_some, z4, e, if_neg (by decide), if_neg (by decide), if_neg (by decide), if_neg (by decide), if_pos (by decide)])
          exact fin r1 r2 hc2 g2 p1 p2 p3 p4 p5
  · have v1 : ¬ v = 1 := fun d => ct (t2.mp d)
    have tI0 : tI = false := by
      cases htI : tI
      · rfl
      · exact absurd (z9.mp htI) ct
    left
    refine ⟨h2, x', by rw [if_neg v1], by rw [z6, tI0, if_pos (show b2i false = 0 from rfl)], ⟨K, dn, lt, ?_, by omega, by rw [F2c.1 _ _ (fun c => c)]; exact c4, by rw [z7.1 _ _ (by unfold gF; omega)]; exact r27, by rw [F2c.1 _ _ (fun c => c)]; exact c5, by rw [z7.1 _ _ (by unfold gF; omega)]; exact r28, hlt, FC2, FX⟩, x47⟩
    exact MvK_tr hM F2c z7 (fun a c => by unfold wA at c; omega) (fun _ _ c => c.elim) (fun a c => by omega) (fun a j c => by unfold gF at c; omega)
end RUN
