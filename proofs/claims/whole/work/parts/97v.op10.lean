theorem PAS_416 {h h' : Hp} {K : Nat → Int32} {k : Nat} (hp : PAS h K k) (e1 : ∀ i, i < 416 → aI h' 11 i = aI h 11 i) (e2 : fI h' 10 1 = fI h 10 1) (e3 : fI h' 10 2 = fI h 10 2) (e4 : ∀ i, i < 416 → aI h' 95 i = aI h 95 i) (e5 : fI h' 81 32 = fI h 81 32) : PAS h' K k := by
  obtain ⟨nx, u, p1, p2, p3, p4, p5, p6⟩ := hp
  refine ⟨nx, u, p1, p2, by rw [e2]; exact p3, by rw [e3]; exact p4, by rw [e5]; exact p5, fun e he => ?_⟩
  obtain ⟨⟨d, d1, d2, d3⟩, q2, q3, q4, q5, q6⟩ := p6 e he
  have hr : rg nx u e + 25 < 416 := by
    unfold rg
    have : (nx + 16 - u + e) % 16 < 16 := Nat.mod_lt _ (by omega)
    omega
  have he2 : 26 * e + 25 < 416 := by omega
  refine ⟨⟨d, d1, by rw [e1 _ (by omega)]; exact d2, by rw [e4 _ (by omega)]; exact d3⟩, by rw [e1 _ (by omega), e4 _ (by omega)]; exact q2, fun j hj => by rw [e1 _ (by omega), e4 _ (by omega)]; exact q3 j hj, fun j hj => by rw [e1 _ (by omega), e4 _ (by omega)]; exact q4 j hj, ?_, ?_⟩
  · refine WF_ag q5 (fun i hi => ?_)
    unfold mvK
    by_cases c : i < 25
    · rw [if_pos c, if_pos c]
      exact e4 _ (by omega)
    · rw [if_neg c, if_neg c]
  · obtain ⟨m, m1, m2⟩ := q6
    exact ⟨m, m1, by show aI h' 95 (26 * e + 24) = _; rw [e4 _ (by omega)]; exact m2⟩
theorem QFr_o {h hc' : Hp} (hC : CFr (sF h 0 16 0) hc') (hz : sz hc' = sz h ∨ sz hc' = sz h + 3) (x y : Int32) : QFr h (sF (sF hc' 0 17 x) 60 6 y) := by
  obtain ⟨q1, q2, q3, q4, q5⟩ := QFr_c hC hz x
  exact ⟨fun a k ha c => by rw [fI_n (by omega)]; exact q1 a k ha c, q2, q3, q4, q5⟩
/-- the class's run begins -/
theorem o_begin {n : Nat} {h hc' : Hp} {k sm lc : Nat} {L : LDt} (i1 : KOK (aI h 83) k sm lc L) (i2 : HR h 32 (aI h 83) sm lc L) (i9 : CON h n) (a3 : CFr (sF h 0 16 0) hc') (ez : sz hc' = sz h + 3) : ∃ hc0, (∀ a, f_X0_run a (sF (sF hc' 0 17 (fI hc' 4 10)) 60 6 (-1)) = (lp (fun s => b_X0_run_43 a s.1 s.2) FU ((0 : Int32), hc0)).bind fun e23 => sc e23 (fun e25 => some ((fI e25 60 4), e25)) (fun e26 => (f_X6_copyFrom 33 61 (sF e26.2 60 6 e26.1)).bind fun v27 => (f_X4_copyFrom 10 66 v27.2).bind fun v29 => some ((-3 : Int32), v29.2))) ∧ LFr h hc0 ∧ RRh hc0 61 (aI h 83) ∧ (∀ i, i < 416 → aI hc0 67 i = aI h 11 i) ∧ fI hc0 66 1 = fI h 10 1 ∧ fI hc0 66 2 = fI h 10 2 ∧ (∀ a, a < sz h → ¬ (5 ≤ a ∧ a ≤ 9) → ¬ (62 ≤ a ∧ a ≤ 65) → a ≠ 67 → aI hc0 a = aI h a) ∧ (∀ a j, a < sz h → ¬ (a = 4 ∨ a = 0 ∧ (j = 16 ∨ j = 17) ∨ a = 60 ∧ (j = 6 ∨ j = 4 ∨ j = 5) ∨ a = 61 ∨ a = 66) → fI hc0 a j = fI h a j) ∧ (∀ a j, 110 ≤ a → fI hc0 a j = fI hc' a j) ∧ (∀ a, 110 ≤ a → aI hc0 a = aI hc' a) ∧ (∀ a, ln hc0 a = ln hc' a) ∧ sz hc0 = sz hc' ∧ fI hc0 60 4 = 0 ∧ fI hc0 60 5 = -1 ∧ fI hc0 60 6 = -1 ∧ fI hc0 0 16 = 0 ∧ fI hc0 0 17 = fI hc' 4 10 := by
  obtain ⟨⟨m, c1, c2⟩, -⟩ := id i9
  obtain ⟨q1, q2, q3, q4, q5⟩ := QFr_o a3 (Or.inr ez) (fI hc' 4 10) (-1)
  have hR : RRh (sF (sF hc' 0 17 (fI hc' 4 10)) 60 6 (-1)) 33 (aI h 83) := by
    have r := i2.1
    unfold RRh at r ⊢
    rw [q1 33 0 (by omega) (by omega), q2 _ (by omega) (by omega), q2 _ (by omega) (by omega), q2 _ (by omega) (by omega), q2 _ (by omega) (by omega)]
    exact r
  obtain ⟨u1, a1, a2, a4⟩ := c_copy (r := 61) hR (by omega)
  obtain ⟨u2, b1, b2, b3, b4, b5⟩ := c_pastcp (r := 66) (t := 10) (h := u1) (by omega)
  have F1 : Fr (fun a => 62 ≤ a ∧ a ≤ 65 ∨ a = 67) (fun a j => a = 61 ∨ a = 66 ∨ a = 60 ∧ (j = 4 ∨ j = 5)) (sF (sF hc' 0 17 (fI hc' 4 10)) 60 6 (-1)) (sF (sF u2 60 4 0) 60 5 (-1)) := Fr_tF (Fr_tF (Fr_tr (Fr_mono a4 (fun a c => by omega) (fun a j c => by omega)) (Fr_mono b5 (fun a c => by omega) (fun a j c => by omega))) (by omega)) (by omega)
  refine ⟨sF (sF u2 60 4 0) 60 5 (-1), fun a => ?_, ⟨fun a j ha c => ?_, fun a ha c => ?_, fun a => ?_, fun a ha => ?_, ?_⟩, ?_, fun i hi => ?_, ?_, ?_, fun a h1 h2 h3 h4 => ?_, fun a j h1 h2 => ?_, fun a j h1 => ?_, fun a h1 => ?_, fun a => ?_, ?_, ?_, fI_s, ?_, ?_, ?_⟩
  · unfold f_X0_run
    rw [a1, Option.bind_some, b1, Option.bind_some]
  · rw [F1.1 a j (by unfold uF scF at c; omega)]
    exact q1 a j ha (by unfold uF scF at c; omega)
  · rw [F1.2.1 a (by unfold uA scA at c; omega)]
    exact q2 a ha (by unfold uA scA at c; omega)
  · rw [F1.2.2.2.1]; exact q3 a
  · rw [F1.2.2.2.2.1]; exact q4 a ha
  · rw [F1.2.2.2.2.2]; exact ez
  · refine RR_fr (A := fun a => a = 67) (F := fun a j => a = 66 ∨ a = 60) a2 (Fr_tF (Fr_tF (Fr_mono b5 (fun a c => by omega) (fun a j c => by omega)) (by omega)) (by omega)) (by omega) (by omega) (by omega) (by omega) (by omega)
  · show aI u2 67 i = _
    rw [b2 i hi, a4.2.1 11 (by omega), q2 11 (by omega) (by omega)]
  · rw [fI_n (by omega), fI_n (by omega), b3, a4.1 _ _ (by omega), q1 10 1 (by omega) (by omega)]
  · rw [fI_n (by omega), fI_n (by omega), b4, a4.1 _ _ (by omega), q1 10 2 (by omega) (by omega)]
  · rw [F1.2.1 a (by omega)]; exact q2 a h1 h2
  · rw [F1.1 a j (by omega)]; exact q1 a j h1 (by omega)
  · rw [F1.1 a j (by omega), fI_n (by omega), fI_n (by omega)]
  · rw [F1.2.1 a (by omega)]; rfl
  · rw [F1.2.2.2.2.1]; rfl
  · rw [F1.2.2.2.2.2]; rfl
  · rw [fI_n (by omega), fI_s]
  · rw [F1.1 60 6 (by omega), fI_s]
  · rw [F1.1 0 16 (by omega), fI_n (by omega), fI_n (by omega), a3.1 0 16 (by omega) (by show 0 < sz h; omega), fI_s]
  · rw [F1.1 0 17 (by omega), fI_n (by omega), fI_s]
theorem op_10 : Op_10 INV := by
  intro n h hI hn512
  have hI0 := hI
  obtain ⟨k, sm, lc, L, i1, i2, i3, i4, i5, i6, i7, i8, i9⟩ := hI
  obtain ⟨tl, bt, t1, t2, t3, t4, t5⟩ := id i5
  obtain ⟨⟨m, c1, c2⟩, c3, -⟩ := id i9
  have hw := i1.1
  have eT : f_X10_takeTape h = some (nI tl, sF h 0 16 0) := by
    unfold f_X10_takeTape
    rw [t2]
  obtain ⟨r, hc', a1, a3, a4, a5⟩ := rd_twice (bt := bt) (len := tl) (hc := sF h 0 16 0) (g0 := h) (o := true) (CP := CPO) CPO_ok CPO_k (fun T hT => RdC_O hT) ⟨t1, fun i _ => t4 i⟩ t4 (fun i hi => (t5 i hi).1) ⟨fun i hi => (t5 i hi).2, c3⟩ t3 (by show (sz h - 110) % 3 = 0; omega) (by show sz h + 3 < 1000000; omega) (by show 110 ≤ sz h; omega)
  have a1' : f_X5_read (nI tl) (1 : Int32) (sF h 0 16 0) = some (r, hc') := a1
  obtain ⟨m1, m2, m3, m4, m5⟩ := id i6
  rcases a4 with ⟨er, ez⟩ | ⟨er, ez⟩
  · have ez' : sz hc' = sz h + 3 := ez
    obtain ⟨hc0, x1, x2, x3, x4, x5, x6, x7, x8, x9, x10, x11, x12, x13, x14, x15, x16, x17⟩ := o_begin i1 i2 i9 a3 ez'
    -- both runs, the reference's on any heap with the tape and the row K
    have run : ∀ g, RB bt tl g → fI g 81 13 = nI tl → aI g 83 = aI h 83 → aI g 95 = aI h 95 → fI g 81 32 = fI h 81 32 → ∃ e f g0 K0, AG6 (aI h 83) K0 ∧ SF K0 L = SF (aI h 83) L ∧ lp (fun s => b_X0_run_43 (sz h) s.1 s.2) FU ((0 : Int32), hc0) = some e ∧ f_X11_orders g = ordT (fI g 81 32) f ∧ (∀ i, i < 416 → aI g0 96 i = aI h 95 i) ∧ (∀ i, i < 25 → aI g0 86 (25 + i) = aI h 83 i) ∧ fI hc' 4 10 = fI g0 81 14 ∧ fI g0 81 13 = 0 ∧ fI g0 81 46 = -1 ∧ Fr opA opF g g0 ∧ ((∃ ec gf, e = .inl ec ∧ f = .inl gf ∧ SmO hc0 g0 K0 k 240 ec gf) ∨ (∃ kk ec gf, kk < 12 ∧ e = .inr (nI kk, ec) ∧ f = .inr (nI kk, gf) ∧ Fr rcA rcF hc0 ec ∧ Fr rrA rrF g0 gf ∧ ∀ i, 25 ≤ i → aI gf 83 i = K0 i)) := by
      intro g hB h13 h83 h95 h32
      obtain ⟨T, n', s, c, mk, D, g0, p1, p2, p3, p4, p5, p6, p7, p8, p9, p10, p11, p12, p13, p14, p15, p16⟩ := o_prep er a5 hB h13
      rw [h83] at p6 p11
      rw [h95] at p10
      obtain ⟨hX, eS⟩ := RnC_mk (hc0 := hc0) hI0 i1 i2 i9 x2 rfl (fun a ha => x7 a (by omega) (by omega) (by omega) (by omega)) (x8 33 0 (by omega) (by omega)) (x8 32 4 (by omega) (by omega)) x9 x10 x11 x12 p1 p3 p4 p5 p6
      have hn12 : n' ≤ 12 := p3.2.2.2.2.2.2.2.1
      have M0 : MvK hc0 g0 (aI g0 83) k (aI g0 83) := by
        refine ⟨?_, rfl, ?_, WF_ag hw (fun i hi => p6 i (by omega)), ?_, fun i hi => rfl⟩
        · refine RR_ag (K := aI h 83) ?_ (fun i hi => p6 i (by omega))
          have r := i2.1
          unfold RRh at r ⊢
          rw [x8 33 0 (by omega) (by omega), x7 _ (by omega) (by omega) (by omega) (by omega), x7 _ (by omega) (by omega) (by omega) (by omega), x7 _ (by omega) (by omega) (by omega) (by omega), x7 _ (by omega) (by omega) (by omega) (by omega)]
          exact r
        · refine PAS2_of (PAS_ag i7 (fun i hi => p6 i (by omega))) (x7 11 (by omega) (by omega) (by omega) (by omega)) (x8 _ _ (by omega) (by omega)) (x8 _ _ (by omega) (by omega)) ?_ ?_
          · rw [p15.2.1 95 (by unfold opA; omega), h95]
          · rw [p15.1 81 32 (by unfold opF; omega), h32]
        · obtain ⟨mm, mm1, mm2⟩ := i1.2.1
          exact ⟨mm, mm1, by rw [p6 24 (by omega)]; exact mm2⟩
      obtain ⟨e, f, y1, y2, y3⟩ := o_outer (g0 := g0) (k := k) (x1 := fI g 81 32) (hc := hc0) (g := g0) hX p2 ⟨aI g0 83, 0, -1, M0, Nat.le_refl _, x13, p7, x14, p8, by decide, Fr_rfl, Fr_rfl⟩ p9
      refine ⟨e, f, g0, aI g0 83, p6, eS, y1, by rw [p16, y2, Option.bind_some], p10, p11, p12, p13, p14, p15, ?_⟩
      rcases y3 with ⟨ec, gf, w1, w2, w3⟩ | ⟨kk, ec, gf, w1, w2, w3, w4, w5, w6⟩
      · exact Or.inl ⟨ec, gf, w1, w2, w3⟩
      · exact Or.inr ⟨kk, ec, gf, by omega, w2, w3, w4, w5, w6⟩
    obtain ⟨e, f1, g01, K01, -, -, y1, -, -, -, -, -, -, -, y2⟩ := run h ⟨fun i hi => (t5 i hi).2, c3⟩ t3 rfl rfl rfl
    have cls : ∀ e23, lp (fun s => b_X0_run_43 (sz h) s.1 s.2) FU ((0 : Int32), hc0) = some e23 → f_X10_orders h = (sc e23 (fun e25 => some ((fI e25 60 4), e25)) (fun e26 => (f_X6_copyFrom 33 61 (sF e26.2 60 6 e26.1)).bind fun v27 => (f_X4_copyFrom 10 66 v27.2).bind fun v29 => some ((-3 : Int32), v29.2))).bind fun v8 => (f_X10_answerChanged v8.1 v8.2).bind fun v10 => some (v10.1, v10.2) := by
      intro e23 he
      unfold f_X10_orders
      rw [eT, Option.bind_some]
      show ((f_X5_read (nI tl) 1 (sF h 0 16 0)).bind _) = _
      rw [a1', Option.bind_some, er]
      show ((f_X0_run (sz h) (sF (sF hc' 0 17 (fI hc' 4 10)) 60 6 (-1))).bind _) = _
      rw [x1, he, Option.bind_some]
    have main : (∃ ec, e = .inl ec ∧ Fr rcA rcF hc0 ec ∧ ∃ dn, dn ≤ 240 ∧ fI ec 60 4 = nI dn) ∨ (∃ kk ec, kk < 12 ∧ e = .inr (nI kk, ec) ∧ Fr rcA rcF hc0 ec) := by
      rcases y2 with ⟨ec, gf, w1, -, K, dn, lt, -, v1, v2, -, -, -, -, v3, -⟩ | ⟨kk, ec, gf, w0, w1, -, w2, -⟩
      · exact Or.inl ⟨ec, w1, v3, dn, v1, v2⟩
      · exact Or.inr ⟨kk, ec, w0, w1, w2⟩
    rcases main with ⟨ec, ee, FE, dn, hdn, v60⟩ | ⟨kk, ec, hkk, ee, FE⟩
    · -- all were run
      subst ee
      have z : ∀ a, a < 110 → ¬ (5 ≤ a ∧ a ≤ 9) → ¬ (62 ≤ a ∧ a ≤ 65) → a ≠ 67 → ¬ rcA a → aI (sF (sF ec 68 11 (-1)) 0 19 0) a = aI h a := by
        intro a h1 h2 h3 h4 h5
        show aI ec a = _
        rw [FE.2.1 a h5, x7 a (by omega) h2 h3 h4]
      have zf : ∀ a j, a < 110 → ¬ (a = 4 ∨ a = 0 ∨ a = 60 ∨ a = 61 ∨ a = 66 ∨ a = 10 ∨ a = 68) → fI (sF (sF ec 68 11 (-1)) 0 19 0) a j = fI h a j := by
        intro a j h1 h2
        rw [fI_n (by omega), fI_n (by omega), FE.1 a j (by unfold rcF; omega), x8 a j (by omega) (by omega)]
      obtain ⟨e', f, g0, K0, y3, y4, y5, y6, y7, y8, y9, y10, y11, y12, y13⟩ := run (sF (sF ec 68 11 (-1)) 0 19 0) ⟨fun i hi => by rw [z 88 (by omega) (by omega) (by omega) (by omega) (by unfold rcA pA; omega)]; exact (t5 i hi).2, fun i hi => by rw [z 87 (by omega) (by omega) (by omega) (by omega) (by unfold rcA pA; omega)]; exact c3 i hi⟩ (by rw [zf 81 13 (by omega) (by omega)]; exact t3) (z 83 (by omega) (by omega) (by omega) (by omega) (by unfold rcA pA; omega)) (z 95 (by omega) (by omega) (by omega) (by omega) (by unfold rcA pA; omega)) (zf 81 32 (by omega) (by omega))
      have ee : e' = .inl ec := Option.some.inj (y5.symm.trans y1)
      rcases y13 with ⟨ec2, gf, w1, w2, K, dn2, lt, hM, v1, v2, v3, v4, v5, v6, v7, v8⟩ | ⟨kk, ec2, gf, w0, w1, -⟩
      · rw [ee] at w1
        have e2 : ec2 = ec := (Sum.inl.inj w1).symm
        subst e2
        subst w2
        obtain ⟨hR, e83, hp, hwK, hm, hk0⟩ := id hM
        have LF : LFr h (sF gf 81 0 0) := by
          refine LFr_tr (LFr_tr x2 (uu FE (fun _ c => rc_uA c) (fun _ _ c => rc_uF c))) ?_
          exact Fr_tF (Fr_tr (Fr_tr (Fr_tF (Fr_sF (by unfold uF; omega)) (uF_0 _)) (uu y12 (fun _ c => op_uA c) (fun _ _ c => op_uF c))) (uu v8 (fun _ c => rr_uA c) (fun _ _ c => rr_uF c))) (by unfold uF; omega)
        have FG : Fr (fun a => opA a ∨ rrA a) (fun a j => opF a j ∨ rrF a j ∨ a = 81 ∧ j = 0) (sF (sF ec2 68 11 (-1)) 0 19 0) (sF gf 81 0 0) := Fr_tF (Fr_tr (Fr_mono y12 (fun _ c => Or.inl c) (fun _ _ c => Or.inl c)) (Fr_mono v8 (fun _ c => Or.inr c) (fun _ _ c => Or.inr (Or.inl c)))) (Or.inr (Or.inr ⟨rfl, rfl⟩))
        have nz : ∀ a, ¬ (a = 81) → ∀ j, fI (sF gf 81 0 0) a j = fI (sF (sF ec2 68 11 (-1)) 0 19 0) a j := fun a ha j => FG.1 a j (by unfold opF rrF tF; omega)
        refine ⟨nI dn2, sF (sF ec2 68 11 (-1)) 0 19 0, sF gf 81 0 0, ?_, ?_, ?_⟩
        · rw [cls _ y1, sc_l, Option.bind_some]
          show (f_X10_answerChanged (fI ec2 60 4) ec2).bind _ = _
          rw [v2, c_ans1 (nI_pos' (by omega)), Option.bind_some]
        · rw [y6]
          unfold ordT
          rw [sc_l]
          show (some (fI gf 81 27, sF gf 81 0 0)).bind _ = _
          rw [v3, Option.bind_some]
        · obtain ⟨k', sm', lc', L', j1, j2, j3, j4, j5, j6, j7, j8, j9⟩ := INV_mix (h2 := sF gf 81 0 0) hI0 (Or.inr LF.2.2.2.2) LF.2.2.2.1
          have FM := Fr_mix (A := uA) (F := uF) LF.1 LF.2.1 LF.2.2.1
          have x83 : aI (mix h (sF gf 81 0 0)) 83 = aI h 83 := mix_a (by omega)
          have kp : KpT h (mix h (sF gf 81 0 0)) := ⟨fun a k _ ha => mix_f ha, fun a _ ha => mix_a ha, fun a ha => LF.2.2.2.1 a ha, by have := LF.2.2.2.2; show sz h ≤ sz (sF gf 81 0 0); omega⟩
          have hR32 : HR (mix h (sF gf 81 0 0)) 32 (aI h 83) sm lc L := HR_kp i2 (fun t ht => (i1.2.2.2.2.2.2.2.1 t ht).1.2.1) i9.2.2.2.2.2.1 kp (mix_f (by omega)) (mix_f (by omega)) (mix_f (by omega)) (mix_f (by omega)) (mix_a (by omega)) (mix_a (by omega)) (mix_a (by omega)) (mix_a (by omega)) (mix_a (by omega)) rfl
          have E83 : aI (sF gf 81 0 0) 83 = K := e83
          have ag : ∀ i, 25 ≤ i → ¬ (i = 61 ∨ 2462 ≤ i ∧ i < 2862 ∨ 5262 ≤ i ∧ i < 5662) → K i = aI h 83 i := fun i h1 h2 => by rw [hk0 i h1, y3 i h2]
          refine INV_st0 (k := k) (k' := k) (sm := sm) (lc := lc) (L := L) (by rw [x83]; exact i1) (by rw [x83]; exact hR32) j4 j8 j9 FM (by rw [E83]; exact hwK) (by rw [E83]; exact hm) (Nat.le_refl k) (fun i h1 h2 h3 h4 => by rw [E83, x83]; exact ag i (by omega) (by omega)) ?_ (by rw [E83, ag 54 (by omega) (by omega)]; exact i1.2.2.2.2.2.2.2.2) ?_ (Or.inl ?_) ⟨0, fun _ => 0, by omega, ?_, ?_, fun _ => by show 0 < 256; omega, fun i hi => absurd hi (Nat.not_lt_zero _)⟩ ⟨?_, ?_, ?_, ?_, fun i hi => ?_⟩ ?_
          · rw [E83]
            have Fc : Fr (fun a => opA a ∨ rrA a) (fun a j => opF a j ∨ rrF a j ∨ a = 81 ∧ j = 0 ∨ a = 68 ∨ a = 0) ec2 (sF gf 81 0 0) := Fr_tr (Fr_tF (Fr_sF (by omega)) (by omega)) (Fr_mono FG (fun _ c => c) (fun _ _ c => by rcases c with c | c | c; exact Or.inl c; exact Or.inr (Or.inl c); exact Or.inr (Or.inr (Or.inl c))))
            exact RR_fr hR Fc (by unfold opF rrF tF; omega) (by unfold opA rrA mA; omega) (by unfold opA rrA mA; omega) (by unfold opA rrA mA; omega) (by unfold opA rrA mA; omega)
          · rw [E83, ag 54 (by omega) (by omega), nz 32 (by omega), zf 32 4 (by omega) (by omega)]
            exact i2.2.2.2.2.2.2
          · rw [nz 68 (by omega), fI_n (by omega), fI_s]
          · rw [nz 0 (by omega), fI_n (by omega), fI_n (by omega), FE.1 _ _ (by unfold rcF; omega)]
            exact x16
          · rw [fI_n (by omega), v8.1 _ _ (by unfold rrF tF; omega)]
            exact y10
          · rw [nz 0 (by omega), fI_n (by omega), fI_n (by omega), FE.1 _ _ (by unfold rcF; omega), x17, fI_n (by omega), v8.1 _ _ (by unfold rrF tF; omega)]
            exact y9
          · rw [nz 0 (by omega), fI_n (by omega), fI_n (by omega), FE.1 _ _ (by unfold rcF; omega), x8 0 18 (by omega) (by omega), FG.1 81 6 (by unfold opF rrF tF; omega), zf 81 6 (by omega) (by omega)]
            exact m2
          · rw [nz 0 (by omega), fI_s, fI_s]
          · rw [nz 60 (by omega), fI_n (by omega), fI_n (by omega), FE.1 _ _ (by unfold rcF; omega), x15, fI_n (by omega), v8.1 _ _ (by unfold rrF tF; omega)]
            exact y11.symm
          · rw [FG.2.1 25 (by unfold opA rrA mA; omega), FG.2.1 82 (by unfold opA rrA mA; omega), z 25 (by omega) (by omega) (by omega) (by omega) (by unfold rcA pA; omega), z 82 (by omega) (by omega) (by omega) (by omega) (by unfold rcA pA; omega)]
            exact m5 i hi
          · rw [E83]
            refine PAS_of2 hp ?_ ?_ ?_ rfl (fI_n (by omega))
            · rw [FG.2.1 11 (by unfold opA rrA mA; omega)]; rfl
            · rw [nz 10 (by omega), fI_n (by omega), fI_n (by omega)]
            · rw [nz 10 (by omega), fI_n (by omega), fI_n (by omega)]
      · rw [ee] at w1
        cases w1
    · -- one could not be run
      subst ee
      have R61 : RRh (sF ec 60 6 (nI kk)) 61 (aI h 83) := by
        refine RR_fr (A := rcA) (F := fun a j => rcF a j ∨ a = 60) x3 (Fr_tF (Fr_mono FE (fun _ c => c) (fun _ _ c => Or.inl c)) (Or.inr rfl)) ?_ ?_ ?_ ?_ ?_
        · unfold rcF; omega
        · unfold rcA pA; omega
        · unfold rcA pA; omega
        · unfold rcA pA; omega
        · unfold rcA pA; omega
      obtain ⟨w1, u1, u2, u3⟩ := c_copy (r := 33) R61 (by omega)
      obtain ⟨w2, u4, u5, u6, u7, u8⟩ := c_pastcp (r := 10) (t := 66) (h := w1) (by omega)
      have FW : Fr (fun a => 34 ≤ a ∧ a ≤ 37 ∨ a = 11 ∨ a = 25 ∨ rcA a) (fun a j => a = 33 ∨ a = 10 ∨ a = 60 ∨ a = 0 ∧ j = 19) hc0 (sA (sF w2 0 19 (-3)) 25 3 (aI w2 25 3 + 1)) := by
        refine Fr_tA (Fr_tF (Fr_tr (Fr_tr (Fr_tF (Fr_mono FE ?_ ?_) ?_) (Fr_mono u3 ?_ ?_)) (Fr_mono u8 ?_ ?_)) ?_) ?_
        · intro a c; exact Or.inr (Or.inr (Or.inr c))
        · intro a j c; unfold rcF at c; omega
        · omega
        · intro a c; exact Or.inl (by omega)
        · intro a j c; omega
        · intro a c; exact Or.inr (Or.inl (by omega))
        · intro a j c; omega
        · omega
        · omega
      have z : ∀ a, a < 110 → ¬ (5 ≤ a ∧ a ≤ 9) → ¬ (62 ≤ a ∧ a ≤ 65) → a ≠ 67 → a ≠ 25 → ¬ (34 ≤ a ∧ a ≤ 37) → ¬ rcA a → aI (sA (sF w2 0 19 (-3)) 25 3 (aI w2 25 3 + 1)) a = aI h a := by
        intro a h1 h2 h3 h4 h5 h6 h7
        rw [FW.2.1 a (by unfold rcA pA at h7 ⊢; omega), x7 a (by omega) h2 h3 h4]
      have zf : ∀ a j, a < 110 → ¬ (a = 4 ∨ a = 0 ∨ a = 60 ∨ a = 61 ∨ a = 66 ∨ a = 10 ∨ a = 33) → fI (sA (sF w2 0 19 (-3)) 25 3 (aI w2 25 3 + 1)) a j = fI h a j := by
        intro a j h1 h2
        rw [FW.1 a j (by omega), x8 a j (by omega) (by omega)]
      obtain ⟨e', f, g0, K0, y3, y4, y5, y6, y7, y8, y9, y10, y11, y12, y13⟩ := run (sA (sF w2 0 19 (-3)) 25 3 (aI w2 25 3 + 1)) ⟨fun i hi => by rw [z 88 (by omega) (by omega) (by omega) (by omega) (by omega) (by omega) (by unfold rcA pA; omega)]; exact (t5 i hi).2, fun i hi => by rw [z 87 (by omega) (by omega) (by omega) (by omega) (by omega) (by omega) (by unfold rcA pA; omega)]; exact c3 i hi⟩ (by rw [zf 81 13 (by omega) (by omega)]; exact t3) (z 83 (by omega) (by omega) (by omega) (by omega) (by omega) (by omega) (by unfold rcA pA; omega)) (z 95 (by omega) (by omega) (by omega) (by omega) (by omega) (by omega) (by unfold rcA pA; omega)) (zf 81 32 (by omega) (by omega))
      have ee : e' = .inr (nI kk, ec) := Option.some.inj (y5.symm.trans y1)
      rw [zf 81 32 (by omega) (by omega)] at y6
      rcases y13 with ⟨ec2, gf, v1, -⟩ | ⟨kk2, ec2, gf, v0, v1, v2, v3, v4, v5⟩
      · rw [ee] at v1
        cases v1
      · rw [ee] at v1
        have ek : nI kk = nI kk2 := congrArg Prod.fst (Sum.inr.inj v1)
        rw [← ek] at v2
        subst v2
        obtain ⟨s1, b1, b2, b3⟩ := m_tbk (h := gf) (t := 1) (by omega)
        obtain ⟨s2, d1, d2, d3⟩ := m_lcb (h := s1) (x1 := fI h 81 32) (x3 := nI kk)
        have FG : Fr (fun a => opA a ∨ rrA a ∨ a = 82) (fun a j => opF a j ∨ rrF a j ∨ a = 81 ∧ (j = 0 ∨ j = 32 ∨ j = 46)) (sA (sF w2 0 19 (-3)) 25 3 (aI w2 25 3 + 1)) (sA (sF (sF (sF s2 81 32 (fI h 81 32)) 81 46 (nI kk)) 81 0 (-3)) 82 3 (aI (sF (sF s2 81 32 (fI h 81 32)) 81 46 (nI kk)) 82 3 + 1)) := by
          refine Fr_tA (Fr_tF (Fr_tF (Fr_tF (Fr_tr (Fr_tr (Fr_tr (Fr_mono y12 ?_ ?_) (Fr_mono v4 ?_ ?_)) (Fr_mono b3 ?_ ?_)) (Fr_mono d3 ?_ ?_)) ?_) ?_) ?_) ?_
          · intro a c; exact Or.inl c
          · intro a j c; exact Or.inl c
          · intro a c; exact Or.inr (Or.inl c)
          · intro a j c; exact Or.inr (Or.inl c)
          · intro a c; exact Or.inl (by unfold opA; omega)
          · intro a j c; exact c.elim
          · intro a c; exact Or.inr (Or.inl (by unfold rrA; omega))
          · intro a j c; exact c.elim
          · exact Or.inr (Or.inr ⟨rfl, by omega⟩)
          · exact Or.inr (Or.inr ⟨rfl, by omega⟩)
          · exact Or.inr (Or.inr ⟨rfl, by omega⟩)
          · exact Or.inr (Or.inr rfl)
        have eC : f_X10_orders h = some (-3, sA (sF w2 0 19 (-3)) 25 3 (aI w2 25 3 + 1)) := by
          rw [cls _ y1, sc_r]
          show (((f_X6_copyFrom 33 61 (sF ec 60 6 (nI kk))).bind _).bind _) = _
          rw [u1, Option.bind_some, u4, Option.bind_some, Option.bind_some]
          show (f_X10_answerChanged (-3) w2).bind _ = _
          rw [c_ansC rf3, Option.bind_some]
        have eM : f_X11_orders (sA (sF w2 0 19 (-3)) 25 3 (aI w2 25 3 + 1)) = some (-3, sA (sF (sF (sF s2 81 32 (fI h 81 32)) 81 46 (nI kk)) 81 0 (-3)) 82 3 (aI (sF (sF s2 81 32 (fI h 81 32)) 81 46 (nI kk)) 82 3 + 1)) := by
          rw [y6]
          unfold ordT
          rw [sc_r]
          show ((f_X11_takesBack (1 : Int32) gf).bind _) = _
          rw [show f_X11_takesBack (1 : Int32) gf = some ((), s1) from b1, Option.bind_some]
          show ((lp (fun s => b_X11_orders_122 (fI h 81 32) (nI kk) s.1 s.2) FU ((0 : Int32), s1)).bind _) = _
          rw [d1, Option.bind_some, m_ref rf3, Option.bind_some]
        have G0 : Fr rrA rrF g0 gf := v4
        have e83 : ∀ i, ¬ (i = 61 ∨ 2462 ≤ i ∧ i < 2862 ∨ 5262 ≤ i ∧ i < 5662) → aI (sA (sF (sF (sF s2 81 32 (fI h 81 32)) 81 46 (nI kk)) 81 0 (-3)) 82 3 (aI (sF (sF s2 81 32 (fI h 81 32)) 81 46 (nI kk)) 82 3 + 1)) 83 i = aI h 83 i := by
          intro i hi
          rw [ps_aAn _ _ _ _ _ (by omega)]
          show aI s2 83 i = _
          rw [d3.2.1 83 (by omega), b2 i]
          by_cases c : i < 25
          · rw [if_pos c, G0.2.1 86 (by unfold rrA mA; omega), show 25 * 1 + i = 25 + i by omega, y8 i c]
          · rw [if_neg c, v5 i (by omega), y3 i hi]
        have e95 : ∀ i, i < 416 → aI (sA (sF (sF (sF s2 81 32 (fI h 81 32)) 81 46 (nI kk)) 81 0 (-3)) 82 3 (aI (sF (sF s2 81 32 (fI h 81 32)) 81 46 (nI kk)) 82 3 + 1)) 95 i = aI h 95 i := by
          intro i hi
          rw [ps_aAn _ _ _ _ _ (by omega)]
          show aI s2 95 i = _
          rw [d2 i hi, b3.2.1 96 (by omega), G0.2.1 96 (by unfold rrA mA; omega), y7 i hi]
        have f81 : ∀ j, ¬ (j = 0 ∨ j = 32 ∨ j = 46) → ¬ rrF 81 j → fI (sA (sF (sF (sF s2 81 32 (fI h 81 32)) 81 46 (nI kk)) 81 0 (-3)) 82 3 (aI (sF (sF s2 81 32 (fI h 81 32)) 81 46 (nI kk)) 82 3 + 1)) 81 j = fI g0 81 j := by
          intro j h1 h2
          rw [ps_fA, fI_n (by omega), fI_n (by omega), fI_n (by omega), d3.1 _ _ (fun c => c), b3.1 _ _ (fun c => c), G0.1 _ _ h2]
        have f32 : fI (sA (sF (sF (sF s2 81 32 (fI h 81 32)) 81 46 (nI kk)) 81 0 (-3)) 82 3 (aI (sF (sF s2 81 32 (fI h 81 32)) 81 46 (nI kk)) 82 3 + 1)) 81 32 = fI h 81 32 := by
          rw [ps_fA, fI_n (by omega), fI_n (by omega), fI_s]
        have f46 : fI (sA (sF (sF (sF s2 81 32 (fI h 81 32)) 81 46 (nI kk)) 81 0 (-3)) 82 3 (aI (sF (sF s2 81 32 (fI h 81 32)) 81 46 (nI kk)) 82 3 + 1)) 81 46 = nI kk := by
          rw [ps_fA, fI_n (by omega), fI_s]
        have f0 : fI (sA (sF (sF (sF s2 81 32 (fI h 81 32)) 81 46 (nI kk)) 81 0 (-3)) 82 3 (aI (sF (sF s2 81 32 (fI h 81 32)) 81 46 (nI kk)) 82 3 + 1)) 81 0 = -3 := by
          rw [ps_fA, fI_s]
        have e82 : aI (sA (sF (sF (sF s2 81 32 (fI h 81 32)) 81 46 (nI kk)) 81 0 (-3)) 82 3 (aI (sF (sF s2 81 32 (fI h 81 32)) 81 46 (nI kk)) 82 3 + 1)) 82 = upd (aI h 82) 3 (aI h 82 3 + 1) := by
          have t82 : aI s2 82 = aI h 82 := by rw [d3.2.1 82 (by omega), b3.2.1 82 (by omega), G0.2.1 82 (by unfold rrA mA; omega), y12.2.1 82 (by unfold opA; omega), z 82 (by omega) (by omega) (by omega) (by omega) (by omega) (by omega) (by unfold rcA pA; omega)]
          rw [ps_aAs]
          show upd (aI s2 82) 3 (aI s2 82 3 + 1) = _
          rw [t82]
        generalize sA (sF (sF (sF s2 81 32 (fI h 81 32)) 81 46 (nI kk)) 81 0 (-3)) 82 3 (aI (sF (sF s2 81 32 (fI h 81 32)) 81 46 (nI kk)) 82 3 + 1) = h2 at FG eM e83 e95 f81 f32 f46 f0 e82
        have e25 : aI (sA (sF w2 0 19 (-3)) 25 3 (aI w2 25 3 + 1)) 25 = upd (aI h 25) 3 (aI h 25 3 + 1) := by
          have t25 : aI w2 25 = aI h 25 := by rw [u8.2.1 25 (by omega), u3.2.1 25 (by omega)]; show aI ec 25 = _; rw [FE.2.1 25 (by unfold rcA pA; omega), x7 25 (by omega) (by omega) (by omega) (by omega)]
          rw [ps_aAs]
          show upd (aI w2 25) 3 (aI w2 25 3 + 1) = _
          rw [t25]
        have g19 : fI (sA (sF w2 0 19 (-3)) 25 3 (aI w2 25 3 + 1)) 0 19 = -3 := by rw [ps_fA, fI_s]
        have g60 : fI (sA (sF w2 0 19 (-3)) 25 3 (aI w2 25 3 + 1)) 60 6 = nI kk := by rw [ps_fA, fI_n (by omega), u8.1 _ _ (by omega), u3.1 _ _ (by omega), fI_s]
        have g10 : fI (sA (sF w2 0 19 (-3)) 25 3 (aI w2 25 3 + 1)) 10 1 = fI h 10 1 ∧ fI (sA (sF w2 0 19 (-3)) 25 3 (aI w2 25 3 + 1)) 10 2 = fI h 10 2 := by
          refine ⟨?_, ?_⟩
          · rw [ps_fA, fI_n (by omega), u6, u3.1 _ _ (by omega), fI_n (by omega), FE.1 _ _ (by unfold rcF; omega)]; exact x5
          · rw [ps_fA, fI_n (by omega), u7, u3.1 _ _ (by omega), fI_n (by omega), FE.1 _ _ (by unfold rcF; omega)]; exact x6
        have g11 : ∀ i, i < 416 → aI (sA (sF w2 0 19 (-3)) 25 3 (aI w2 25 3 + 1)) 11 i = aI h 11 i := by
          intro i hi
          rw [ps_aAn _ _ _ _ _ (by omega)]
          show aI w2 11 i = _
          rw [u5 i hi, u3.2.1 67 (by omega)]
          show aI ec 67 i = _
          rw [FE.2.1 67 (by unfold rcA pA; omega)]
          exact x4 i hi
        have R33 : RRh (sA (sF w2 0 19 (-3)) 25 3 (aI w2 25 3 + 1)) 33 (aI h 83) := RR_fr (A := fun a => a = 11 ∨ a = 25) (F := fun a j => a = 10 ∨ a = 0) u2 (Fr_tA (Fr_tF (Fr_mono u8 (fun a c => by omega) (fun a j c => by omega)) (by omega)) (by omega)) (by omega) (by omega) (by omega) (by omega) (by omega)
        have L1 : LFr h (sA (sF w2 0 19 (-3)) 25 3 (aI w2 25 3 + 1)) := LFr_tr x2 (uu FW (fun a c => by rcases c with c | c | c | c; exact (by unfold uA; omega); exact (by unfold uA; omega); exact (by unfold uA; omega); exact rc_uA c) (fun a j c => by unfold uF; omega))
        generalize sA (sF w2 0 19 (-3)) 25 3 (aI w2 25 3 + 1) = h1 at FW z zf y12 FG eC eM e25 g19 g60 g10 g11 R33 L1
        have LF : LFr h h2 := LFr_tr L1 (uu FG (fun a c => by rcases c with c | c | c; exact op_uA c; exact rr_uA c; exact (by unfold uA; omega)) (fun a j c => by rcases c with c | c | c; exact op_uF c; exact rr_uF c; exact (by unfold uF; omega)))
        have nz : ∀ a, ¬ (a = 81) → ∀ j, fI h2 a j = fI h1 a j := fun a ha j => FG.1 a j (by unfold opF rrF tF; omega)
        have na : ∀ a, ¬ (opA a ∨ rrA a ∨ a = 82) → aI h2 a = aI h1 a := fun a c => FG.2.1 a c
        have AGK : AG (aI h 83) (aI h2 83) := fun i hi => e83 i (by omega)
        refine ⟨-3, h1, h2, eC, eM, ?_⟩
        obtain ⟨k', sm', lc', L', j1, j2, j3, j4, j5, j6, j7, j8, j9⟩ := INV_mix (h2 := h2) hI0 (Or.inr LF.2.2.2.2) LF.2.2.2.1
        have FM := Fr_mix (A := uA) (F := uF) LF.1 LF.2.1 LF.2.2.1
        have x83 : aI (mix h h2) 83 = aI h 83 := mix_a (by omega)
        have kp : KpT h (mix h h2) := ⟨fun a k _ ha => mix_f ha, fun a _ ha => mix_a ha, fun a ha => LF.2.2.2.1 a ha, by have := LF.2.2.2.2; show sz h ≤ sz h2; omega⟩
        have hR32 : HR (mix h h2) 32 (aI h 83) sm lc L := HR_kp i2 (fun t ht => (i1.2.2.2.2.2.2.2.1 t ht).1.2.1) i9.2.2.2.2.2.1 kp (mix_f (by omega)) (mix_f (by omega)) (mix_f (by omega)) (mix_f (by omega)) (mix_a (by omega)) (mix_a (by omega)) (mix_a (by omega)) (mix_a (by omega)) (mix_a (by omega)) rfl
        refine INV_st0 (k := k) (k' := k) (sm := sm) (lc := lc) (L := L) (by rw [x83]; exact i1) (by rw [x83]; exact hR32) j4 j8 j9 FM (WF_ag hw AGK) ?_ (Nat.le_refl k) (fun i h1 h2 h3 h4 => by rw [x83]; exact e83 i (by omega)) ?_ (by rw [e83 54 (by omega)]; exact i1.2.2.2.2.2.2.2.2) ?_ ?_ ⟨0, fun _ => 0, by omega, ?_, ?_, fun _ => by show 0 < 256; omega, fun i hi => absurd hi (Nat.not_lt_zero _)⟩ ⟨?_, ?_, ?_, ?_, fun i hi => ?_⟩ ?_
        · obtain ⟨mm, mm1, mm2⟩ := i1.2.1
          exact ⟨mm, mm1, by rw [e83 24 (by omega)]; exact mm2⟩
        · exact RR_ag (RR_fr R33 FG (by unfold opF rrF tF; omega) (by unfold opA rrA mA; omega) (by unfold opA rrA mA; omega) (by unfold opA rrA mA; omega) (by unfold opA rrA mA; omega)) AGK
        · rw [e83 54 (by omega), nz 32 (by omega), zf 32 4 (by omega) (by omega)]
          exact i2.2.2.2.2.2.2
        · rw [SF_eq (K := aI h 83) (e83 54 (by omega))]
          refine CAC_ag ?_ AGK
          have f68 : ∀ j, fI h2 68 j = fI h 68 j := fun j => by rw [nz 68 (by omega), zf 68 j (by omega) (by omega)]
          have a7 : ∀ a, (a = 74 ∨ a = 75 ∨ a = 78) → aI h2 a = aI h a := fun a ha => by rw [na a (by unfold opA rrA mA; omega), z a (by omega) (by omega) (by omega) (by omega) (by omega) (by omega) (by unfold rcA pA; omega)]
          rcases i3 with e | ⟨kn, e1, e2, e3, e4, e5, e6⟩
          · exact Or.inl (by rw [f68]; exact e)
          · exact Or.inr ⟨kn, e1, by rw [f68]; exact e2, by rw [f68]; exact e3, by rw [f68]; exact e4, by rw [a7 78 (by omega)]; exact e5, by rw [a7 74 (by omega), a7 75 (by omega)]; exact e6⟩
        · rw [nz 0 (by omega), FW.1 _ _ (by omega)]
          exact x16
        · rw [f81 13 (by omega) (by unfold rrF tF; omega)]
          exact y10
        · rw [nz 0 (by omega), FW.1 _ _ (by omega), x17, f81 14 (by omega) (by unfold rrF tF; omega)]
          exact y9
        · rw [nz 0 (by omega), FW.1 _ _ (by omega), x8 0 18 (by omega) (by omega), FG.1 81 6 (by unfold opF rrF tF; omega), zf 81 6 (by omega) (by omega)]
          exact m2
        · rw [nz 0 (by omega), g19, f0]
        · rw [nz 60 (by omega), g60, f46]
        · rw [na 25 (by unfold opA rrA mA; omega), e25, e82]
          by_cases c : i = 3
          · rw [c, pk_us, pk_us, m5 3 (by omega)]
          · rw [pk_un c, pk_un c]; exact m5 i hi
        · exact PAS_416 (PAS_ag i7 (fun i hi => e83 i (by omega))) (fun i hi => by rw [na 11 (by unfold opA rrA mA; omega)]; exact g11 i hi) (by rw [nz 10 (by omega)]; exact g10.1) (by rw [nz 10 (by omega)]; exact g10.2) e95 f32
  · -- no text
    have hQ := QFr_o a3 (Or.inl ez) (fI hc' 4 10) (-1)
    obtain ⟨q1, q2, q3, q4, q5⟩ := id hQ
    have q16 : fI (sF (sF hc' 0 17 (fI hc' 4 10)) 60 6 (-1)) 0 16 = 0 := by rw [fI_n (by omega), fI_n (by omega), a3.1 0 16 (by omega) (by show 0 < sz h; omega), fI_s]
    have g13 : RB bt tl (sF (sA (sF (sF (sF hc' 0 17 (fI hc' 4 10)) 60 6 (-1)) 0 19 (-6)) 25 6 (aI (sF (sF hc' 0 17 (fI hc' 4 10)) 60 6 (-1)) 25 6 + 1)) 81 46 (-1)) := by
      refine ⟨fun i hi => ?_, fun i hi => ?_⟩
      · rw [ps_aF, ps_aAn _ _ _ _ _ (by omega)]
        show aI (sF (sF hc' 0 17 (fI hc' 4 10)) 60 6 (-1)) 88 i = _
        rw [q2 88 (by omega) (by omega)]; exact (t5 i hi).2
      · rw [ps_aF, ps_aAn _ _ _ _ _ (by omega)]
        show aI (sF (sF hc' 0 17 (fI hc' 4 10)) 60 6 (-1)) 87 i = _
        rw [q2 87 (by omega) (by omega)]; exact c3 i hi
    obtain ⟨b, g', b1, b2, b3, b4, b5⟩ := a5 _ g13 (by
      rw [fI_n (by omega)]
      show fI (sF (sF (sF hc' 0 17 (fI hc' 4 10)) 60 6 (-1)) 0 19 (-6)) 81 13 = _
      rw [fI_n (by omega), q1 81 13 (by omega) (by omega)]; exact t3)
    rcases b5 with ⟨T, n', s, c, mk, -, er2, -⟩ | ⟨-, eb⟩
    · rw [er] at er2
      cases er2
    · subst eb
      refine ⟨-6, sA (sF (sF (sF hc' 0 17 (fI hc' 4 10)) 60 6 (-1)) 0 19 (-6)) 25 6 (aI (sF (sF hc' 0 17 (fI hc' 4 10)) 60 6 (-1)) 25 6 + 1), sA (sF g' 81 0 (-6)) 82 6 (aI g' 82 6 + 1), ?_, ?_, tx_ref hI0 rf6 hQ (Fr_tr (Fr_sF (Or.inr ⟨rfl, rfl⟩)) (Fr_mono b2 (fun _ c => c) (fun _ _ c => Or.inl c))) q16 b3 ?_ ?_⟩
      · unfold f_X10_orders
        rw [eT, Option.bind_some]
        show ((f_X5_read (nI tl) 1 (sF h 0 16 0)).bind _) = _
        rw [a1', Option.bind_some, er]
        show (f_X10_answer (-6) (sF (sF hc' 0 17 (fI hc' 4 10)) 60 6 (-1))).bind _ = _
        rw [c_ansR rf6, Option.bind_some]
      · unfold f_X11_orders
        rw [show f_X11_readsAs (1 : Int32) _ = some (false, g') from b1, Option.bind_some, if_neg Bool.false_ne_true]
        show (f_X11_refuses (-6) g').bind _ = _
        rw [m_ref rf6, Option.bind_some]
      · rw [fI_n (by omega), fI_s]; exact b4
      · rw [fI_s, b2.1 81 46 (by unfold xF; omega), fI_s]
