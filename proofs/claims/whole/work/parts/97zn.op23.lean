/-! ===== exchanges ===== -/
theorem far_o {S : Sem} {K : Nat → Int32} {k : Nat} (hw : WF K k) (n : Nat) : bsO (fct (insL K k).length) (farS S K k n) := by
  unfold farS
  exact far_ok hw n 720
theorem op_23 : Op_23 INV := by
  intro n h hI _ x1 x2
  have hI0 := hI
  obtain ⟨k, sm, lc, L, i1, i2, i3, i4, i5, i6, i7, i8, i9⟩ := hI
  have hw := i1.1
  have h6 := hw.2.1
  have ff : ¬ (false = true) := Bool.false_ne_true
  rcases ix (x := x1) 10 (by omega) with ⟨x, hx, e⟩ | hx1
  · subst e
    have m9 : f_X11_lies (nI x) (0 : Int32) (9 : Int32) = some true := lies_n (n := 9) (by omega) (by omega)
    rcases ix (x := x2) 2 (by omega) with ⟨z, hz, e⟩ | hx2
    · subst e
      obtain ⟨al, h', kn, c1, c2, c3, c4, c5, c6, c7, c8, c9, c10, c11⟩ := look i1 i2 i3 i9 (show x ≤ 9 by omega)
      have wT := WF_tr hw
      have iT : insL (trK (aI h 83)) k = insL (aI h 83) k := insL_ag (trK_AG (aI h 83)) h6
      have m6 := ins_le hw
      have f7 := fct_le _ m6
      obtain ⟨g0, p1, p2, p3⟩ := c_meas (n := x) c6 c8 wT c3 c4
      have g083 : aI g0 83 = aI h 83 := by rw [p3.2.1 83 (by unfold A76; omega), c9]
      have R0 : RRh g0 33 (trK (aI h 83)) := RR_fr c8 p3 (fun c => c) (by unfold A76; omega) (by unfold A76; omega) (by unfold A76; omega) (by unfold A76; omega)
      have hc0 := CAv_76 c6 p3
      obtain ⟨-, mx2⟩ := mx_ok (ples (SF (aI h 83) L) (aI h 83) k x) (fct (insL (aI h 83) k).length)
      obtain ⟨b1, b2, b3⟩ := mx2 (by omega)
      obtain ⟨g1, d1, d2, d3, d4, d5, d6⟩ := m_laysP (S := SF (aI h 83) L) (k := k) (h := g0) c11 c10 g083 hw i1.2.1 (n := x) (by omega)
      have emI : mI (mxP (ples (SF (aI h 83) L) (aI h 83) k x) (fct (insL (aI h 83) k).length)) = nI (moP (SF (aI h 83) L) (aI h 83) k x) := by
        rw [← b2]; rfl
      obtain ⟨g2, s1, s2, s3, s4, s5⟩ := m_swaps (S := SF (aI h 83) L) (n := x) d2 d3 hw d4 d5
      have own := st_own hw
      have rl := rk_lt (fun x => seatN (aI h 83) ((insL (aI h 83) k).getD x 0)) m6
      have hnow := m_now s4 hw (s := fun x => seatN (aI h 83) ((insL (aI h 83) k).getD x 0)) (by rw [s3]; exact own)
      have hfar := c_far hc0 wT p2 (rw_tr hw)
      have hrow := c_row' (k := k) R0 wT
      have oF := far_o (S := SF (aI h 83) L) hw x
      have oT := far_o (S := SF (aI h 83) L) wT x
      have hfir := fun d (a1 : 2 ≤ d) a2 => c_first hc0 wT p2 oT (rw_tr hw) (d := d) a1 a2
      rw [far_tr h6, iT] at hfar
      have wM := bs_M oF
      have b5 := oF.2.2.1 (rkS (fun x => seatN (aI h 83) ((insL (aI h 83) k).getD x 0)) (insL (aI h 83) k).length (insL (aI h 83) k).length)
      have e100 := s2.1 _ rl
      obtain ⟨d, hd⟩ : ∃ d, d = (farS (SF (aI h 83) L) (aI h 83) k x).1 (rkS (fun x => seatN (aI h 83) ((insL (aI h 83) k).getD x 0)) (insL (aI h 83) k).length (insL (aI h 83) k).length) := ⟨_, rfl⟩
      have d7 : d ≤ 721 := by
        have : d ≤ (farS (SF (aI h 83) L) (aI h 83) k x).2.2 + 1 := by rw [hd]; exact b5
        have : (farS (SF (aI h 83) L) (aI h 83) k x).2.2 ≤ fct (insL (aI h 83) k).length := wM
        omega
      rw [← hd] at hfar e100
      have fin : ∀ gf, aI gf 83 = aI h 83 → Fr (fun a => A76 a ∨ plsA a) plsF h' gf → INV (n + 1) gf := by
        intro gf e83 hf
        refine INV_lk i1 i2 i4 i5 i6 i7 i8 i9 (Fr_tr (la_lk c7) (Fr_mono hf (fun a c => ?_) (fun a j c => ?_))) e83 (CAC_lk c4 c5 c6 hf (fun a c => ?_) (fun a j c => ?_))
        · unfold A76 plsA mA at c; unfold lkA scA; omega
        · unfold plsF tF at c; unfold lkF scF; omega
        · unfold A76 plsA mA at c; omega
        · unfold plsF tF at c; omega
      have F2 : Fr (fun a => A76 a ∨ plsA a) plsF h' g2 := by
        refine Fr_tr (Fr_tr (Fr_mono p3 (fun a c => Or.inl c) (fun _ _ c => c.elim)) (Fr_mono d6 (fun a c => Or.inr c) (fun _ _ c => c))) (Fr_mono s5 (fun a c => Or.inr ?_) (fun _ _ c => c.elim))
        unfold A100 at c; unfold plsA mA; omega
      have cls : ∀ v, (if nI z = 0 then (f_X7_fewestExchanges 33 g0).bind fun v15 => some (v15, g0) else (f_X7_firstExchange 33 g0).bind fun v13 => some (v13, g0)) = some (v, g0) → f_X10_exchanges (nI x) (nI z) h = some (v, g0) := by
        intro v hv
        unfold f_X10_exchanges
        rw [near_n (by omega), Option.bind_some, if_pos rfl, if_neg (nI_pos (by omega)), if_pos (show nI z ≤ (1 : Int32) from nI_le (b := 1) (by omega) (by omega)), c1, Option.bind_some, c2, Option.bind_some, p1, Option.bind_some]
        exact hv
      have ref : ∀ v gf, (if sI d = (1000000 : Int32) then some ((-1 : Int32), g2) else if nI z = 0 then some (sI d, g2) else (f_X11_firstTwo (sI d) g2).bind fun v17 => some (v17.1, v17.2)) = some (v, gf) → f_X11_exchanges (nI x) (nI z) g0 = some (v, gf) := by
        intro v gf hv
        unfold f_X11_exchanges
        rw [m9, Option.bind_some, if_pos rfl, show f_X11_lies (nI z) (0 : Int32) (1 : Int32) = some true from lies_n (n := 1) (by omega) (by omega), Option.bind_some, if_pos rfl, d1, Option.bind_some, emI]
        dsimp only
        rw [s1, Option.bind_some]
        dsimp only
        rw [hnow, Option.bind_some, inb_nI (show rkS (fun x => seatN (aI h 83) ((insL (aI h 83) k).getD x 0)) (insL (aI h 83) k).length (insL (aI h 83) k).length < 720 by omega) (by omega), Option.bind_some, e100]
        exact hv
      by_cases c0 : z = 0
      · subst c0
        refine ⟨mI d, g0, g2, cls _ ?_, ref _ _ ?_, fin g2 s3 F2⟩
        · rw [if_pos (show nI 0 = 0 from rfl)]
          unfold f_X7_fewestExchanges
          rw [hrow, Option.bind_some, hfar, Option.bind_some, Option.bind_some]
        · by_cases cd : d = 0
          · rw [if_pos ((sI_e (by omega)).mpr cd), cd]
            rfl
          · rw [if_neg (fun e => cd ((sI_e (by omega)).mp e)), if_pos (show nI 0 = 0 from rfl), sI_p cd, mI_p cd]
      · have ez : ¬ nI z = 0 := nI_ne0 (by omega) (by omega)
        have le1 := mI_le (x := d) (p := 1) (by omega) (by omega)
        by_cases cd : d = 0
        · refine ⟨-1, g0, g2, cls _ ?_, ref _ _ ?_, fin g2 s3 F2⟩
          · rw [if_neg ez]
            unfold f_X7_firstExchange
            rw [hrow, Option.bind_some, hfar, Option.bind_some, if_neg (show ¬ (1 : Int32) ≤ mI d from fun e => by have := Eq.mp le1 e; omega), Option.bind_some]
          · rw [if_pos ((sI_e (by omega)).mpr cd)]
        · obtain ⟨v, g3, t1, t2, t3, t4⟩ := m_first s4 hw s2 oF (s0 := fun x => seatN (aI h 83) ((insL (aI h 83) k).getD x 0)) (by rw [s3]; exact own) (show 1 ≤ d by omega) d7
          have F3 : Fr (fun a => A76 a ∨ plsA a) plsF h' g3 := Fr_tr F2 (Fr_mono t4 (fun a c => Or.inr (by unfold plsA mA; omega)) (fun _ _ c => c.elim))
          refine ⟨v, g0, g3, cls _ ?_, ref _ _ ?_, fin g3 (t3.trans s3) F3⟩
          · rw [if_neg ez]
            unfold f_X7_firstExchange
            rw [hrow, Option.bind_some, hfar, Option.bind_some]
            by_cases c2' : 2 ≤ d
            · obtain ⟨v', y1, y2⟩ := hfir d c2' d7
              have y2' : AnsX (Gx (farS (SF (aI h 83) L) (aI h 83) k x).1 (fun x => seatN (aI h 83) ((insL (aI h 83) k).getD x 0)) (insL (aI h 83) k).length d) (insL (aI h 83) k).length (fun x => (insL (aI h 83) k).getD x 0) v' := by
                have y3 := y2
                rw [far_tr h6, iT] at y3
                exact y3
              rw [if_pos (show (1 : Int32) ≤ mI d from Eq.mpr le1 c2'), y1, Option.bind_some, Ans_un t2 y2']
            · have hv : v = -1 := by
                rcases t2 with ⟨e, -⟩ | ⟨i, j, e1, -⟩
                · exact e
                · have e3 := e1.2.2.1
                  unfold Gx at e3
                  split at e3
                  · cases e3
                  · have := of_decide_eq_true e3
                    omega
              rw [if_neg (show ¬ (1 : Int32) ≤ mI d from fun e => by have := Eq.mp le1 e; omega), Option.bind_some, hv]
          · rw [if_neg (fun e => cd ((sI_e (by omega)).mp e)), if_neg ez, t1, Option.bind_some]
    · refine ⟨-1, h, h, ?_, ?_, INV_up hI0⟩
      · unfold f_X10_exchanges
        rw [near_n (by omega), Option.bind_some, if_pos rfl]
        by_cases c : x2 < 0
        · rw [if_pos c]
        · have := hx2.resolve_left c
          rw [if_neg c, if_neg]
          rw [Int32.le_iff_toInt_le, nI_toInt (by omega)] at this
          rw [Int32.le_iff_toInt_le]
          have e2 : Int32.toInt 1 = 1 := by decide
          omega
      · unfold f_X11_exchanges
        rw [m9, Option.bind_some, if_pos rfl, show f_X11_lies x2 (0 : Int32) (1 : Int32) = some false from lies_0 (n := 1) (by omega) hx2, Option.bind_some, if_neg ff]
  · refine ⟨-1, h, h, ?_, ?_, INV_up hI0⟩
    · unfold f_X10_exchanges
      rw [near_0 hx1, Option.bind_some, if_neg ff]
    · unfold f_X11_exchanges
      rw [show f_X11_lies x1 (0 : Int32) (9 : Int32) = some false from lies_0 (n := 9) (by omega) hx1, Option.bind_some, if_neg ff]
