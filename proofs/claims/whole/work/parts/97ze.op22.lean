/-! ===== the calls that look at all seatings ===== -/
def lkA (a : Nat) : Prop := laA a ∨ scA a ∨ a = 83
def lkF (a j : Nat) : Prop := laF a j ∨ scF a j
theorem INV_lk {n : Nat} {h h' : Hp} {k sm lc : Nat} {L : LDt} (i1 : KOK (aI h 83) k sm lc L) (i2 : HR h 32 (aI h 83) sm lc L) (i4 : IMG h) (i5 : TAP h) (i6 : MIS h) (i7 : PAS h (aI h 83) k) (i8 : DRW h) (i9 : CON h n) (hf : Fr lkA lkF h h') (e83 : aI h' 83 = aI h 83) (cac : CAC h' (aI h 83) k (SF (aI h 83) L)) : INV (n + 1) h' := by
  have h28 : ln h 28 = 0 := i9.2.2.2.2.2.1
  refine ⟨k, sm, lc, L, by rw [e83]; exact i1, by rw [e83]; exact HR_tr i2 i1 h28 hf (fun a c => by unfold lkA laA scA at c; omega) (fun a j c => by unfold lkF laF scF at c; omega), by rw [e83]; exact cac, IMG_tr i4 h28 hf (fun a c => by unfold lkA laA scA at c; omega) (fun a j c => by unfold lkF laF scF at c; omega), TAP_tr i5 hf (fun a c => by unfold lkA laA scA at c; omega) (fun a j c => by unfold lkF laF scF at c; omega), MIS_tr i6 hf (fun a c => by unfold lkA laA scA at c; omega) (fun a j c => by unfold lkF laF scF at c; omega), by rw [e83]; exact PAS_tr i7 hf (fun a c => by unfold lkA laA scA at c; omega) (fun a j c => by unfold lkF laF scF at c; omega), DRW_tr i8 hf (fun a c => by unfold lkA laA scA at c; omega) (fun a j c => by unfold lkF laF scF at c; omega), CON_tr i9 hf (fun a c => by unfold lkA laA scA at c; omega) (fun a j c => by unfold lkF laF scF at c; omega)⟩
/-- the reference's part leaves the class's seatings -/
theorem CAC_lk {h h' : Hp} {K : Nat → Int32} {k : Nat} {S : Sem} {kn : Nat} (hkn : kn ≤ 9) (e11 : fI h 68 11 = nI kn) (hc : CAv h (trK K) k S kn) {A : Nat → Prop} {F : Nat → Nat → Prop} (hf : Fr A F h h') (hA : ∀ a, A a → ¬ (a = 74 ∨ a = 75 ∨ a = 78)) (hF : ∀ a j, F a j → a ≠ 68) : CAC h' K k S := CAC_tr (Or.inr ⟨kn, hkn, e11, hc⟩) hf hA hF
theorem la_lk {h h' : Hp} (hf : Fr laA laF h h') : Fr lkA lkF h h' := Fr_mono hf (fun _ c => Or.inl c) (fun _ _ c => Or.inl c)
theorem pl_lk {h h' : Hp} (hf : Fr plsA plsF h h') : Fr lkA lkF h h' := Fr_mono hf (fun a c => by unfold plsA mA at c; unfold lkA scA; omega) (fun a j c => by unfold plsF tF at c; unfold lkF scF; omega)
theorem near_n {x : Nat} (hx : x ≤ 9) : f_X10_isNearMinute (nI x) = some true := by
  unfold f_X10_isNearMinute
  rw [if_neg (nI_pos (by omega)), if_neg (show ¬ (9 : Int32) < nI x from nI_nlt (a := 9) (b := x) (by omega) (by omega))]
theorem near_0 {x : Int32} (hx : x < 0 ∨ nI 10 ≤ x) : f_X10_isNearMinute x = some false := by
  unfold f_X10_isNearMinute
  by_cases c : x < 0
  · rw [if_pos c]
  · have := hx.resolve_left c
    rw [if_neg c, if_pos]
    rw [Int32.le_iff_toInt_le, nI_toInt (by omega)] at this
    rw [Int32.lt_iff_toInt_lt]
    have e2 : Int32.toInt 9 = 9 := by decide
    omega
/-- the class looks ahead from where the invariant holds -/
theorem look {n : Nat} {h : Hp} {k sm lc : Nat} {L : LDt} (i1 : KOK (aI h 83) k sm lc L) (i2 : HR h 32 (aI h 83) sm lc L) (i3 : CAC h (aI h 83) k (SF (aI h 83) L)) (i9 : CON h n) {x : Nat} (hx : x ≤ 9) : ∃ al h' kn, f_X1_inForce 32 h = some al ∧ f_X7_lookAhead 33 al (nI x) h = some ((), h') ∧ x ≤ kn ∧ kn ≤ 9 ∧ fI h' 68 11 = nI kn ∧ CAv h' (trK (aI h 83)) k (SF (aI h 83) L) kn ∧ Fr laA laF h h' ∧ RRh h' 33 (trK (aI h 83)) ∧ aI h' 83 = aI h 83 ∧ RT (aI h 83) (SF (aI h 83) L) ∧ semOK (SF (aI h 83) L) := by
  obtain ⟨al, f1, f2, f3, f4, f5, f6⟩ := in_force i1 i2 i9
  have hR : RRh h 33 (trK (aI h 83)) := RR_ag i2.1 (trK_AG _)
  obtain ⟨h', kn, c1, c2, c3, c4, c5, c6⟩ := c_look f6 f4 f3 f2 hR (WF_tr i1.1) (MOb_tr i1.2.1) i3 hx
  exact ⟨al, h', kn, f1, c1, c2, c3, c4, c5, c6, la_33 hR c6, c6.2.1 83 (by unfold laA; omega), f5, f6⟩
theorem op_22 : Op_22 INV := by
  intro n h hI _ x1 x2
  have hI0 := hI
  obtain ⟨k, sm, lc, L, i1, i2, i3, i4, i5, i6, i7, i8, i9⟩ := hI
  have hw := i1.1
  have h6 := hw.2.1
  have ff : ¬ (false = true) := Bool.false_ne_true
  rcases ix (x := x1) 10 (by omega) with ⟨x, hx, e⟩ | hx1
  · subst e
    rcases ix (x := x2) (k + 1) (by omega) with ⟨z, hz, e⟩ | hx2
    · subst e
      obtain ⟨al, h', kn, c1, c2, c3, c4, c5, c6, c7, c8, c9, c10, c11⟩ := look i1 i2 i3 i9 (show x ≤ 9 by omega)
      have wT := WF_tr hw
      have lT := len_tr (K := aI h 83) h6
      have pT : ples (SF (aI h 83) L) (trK (aI h 83)) k x = ples (SF (aI h 83) L) (aI h 83) k x := by
        funext q
        exact ples_tr h6 x q
      have f7 := fct_le _ (ins_le hw)
      obtain ⟨-, mx2⟩ := mx_ok (ples (SF (aI h 83) L) (aI h 83) k x) (fct (insL (aI h 83) k).length)
      obtain ⟨b1, b2, b3⟩ := mx2 (by omega)
      have hbest := c_best (n := x) c6 c8 wT c3 c4
      rw [pT, lT] at hbest
      obtain ⟨g1, d1, d2, d3, d4, d5, d6⟩ := m_laysP (S := SF (aI h 83) L) (k := k) (h := h') c11 c10 c9 hw i1.2.1 (n := x) (by omega)
      have pl := ples_le (SF (aI h 83) L) (aI h 83) k x (bsP (ples (SF (aI h 83) L) (aI h 83) k x) (fct (insL (aI h 83) k).length))
      have emI : mI (mxP (ples (SF (aI h 83) L) (aI h 83) k x) (fct (insL (aI h 83) k).length)) = nI (ples (SF (aI h 83) L) (aI h 83) k x (bsP (ples (SF (aI h 83) L) (aI h 83) k x) (fct (insL (aI h 83) k).length))) := by
        rw [← b2]; rfl
      have m9 : f_X11_lies (nI x) (0 : Int32) (9 : Int32) = some true := lies_n (n := 9) (by omega) (by omega)
      by_cases c0 : z = 0
      · subst c0
        refine ⟨nI (ples (SF (aI h 83) L) (aI h 83) k x (bsP (ples (SF (aI h 83) L) (aI h 83) k x) (fct (insL (aI h 83) k).length))), h', g1, ?_, ?_, INV_lk i1 i2 i4 i5 i6 i7 i8 i9 (Fr_tr (la_lk c7) (pl_lk d6)) d2 (CAC_lk c4 c5 c6 d6 (fun a c => by unfold plsA mA at c; omega) (fun a j c => by unfold plsF tF at c; omega))⟩
        · unfold f_X10_pleased
          have hcont := c_cont (n := x) (q := bsP (ples (SF (aI h 83) L) (aI h 83) k x) (fct (insL (aI h 83) k).length)) c6 c8 wT (by rw [lT]; exact b1) c3 c4
          rw [pT] at hcont
          rw [near_n (by omega), Option.bind_some, if_pos rfl, if_neg (nI_pos (by omega)), k_sn i2.1 hw, if_pos (nI_le (by omega) (by omega)), c1, Option.bind_some, c2, Option.bind_some, hbest, Option.bind_some, if_pos (show nI 0 = 0 from rfl), hcont, Option.bind_some]
        · unfold f_X11_pleased
          rw [m9, Option.bind_some, if_pos rfl, m_many (k := k) (by rw [c9]; exact hw), Option.bind_some, lies_n (by omega) (by omega), Option.bind_some, if_pos rfl, d1, Option.bind_some, if_pos (show nI 0 = 0 from rfl), emI]
      · obtain ⟨p, rfl⟩ : ∃ p, z = p + 1 := ⟨z - 1, by omega⟩
        have hp : p < k := by omega
        obtain ⟨g2, e1, e2, e3⟩ := m_seats (h := g1) d3 hw b1
        obtain ⟨g3, u1, u2, u3⟩ := m_tbk (h := g2) (t := 0) (by omega)
        have g283 : aI g2 83 = seatK (aI h 83) k (bsP (ples (SF (aI h 83) L) (aI h 83) k x) (fct (insL (aI h 83) k).length)) := by rw [e2, d2]; rfl
        have g383 : aI g3 83 = aI h 83 := tk_seat hw g283 (fun i hi => seatK_o hw (by omega)) (fun i hi => by rw [e3.2.1 86 (by omega)]; exact d5 i hi) u2
        have find : lp (fun s => b_X11_pleased_39 (nI (p + 1)) (mI (mxP (ples (SF (aI h 83) L) (aI h 83) k x) (fct (insL (aI h 83) k).length))) s g1) FU (0 : Int32) = some (nI (bsP (ples (SF (aI h 83) L) (aI h 83) k x) (fct (insL (aI h 83) k).length))) := by
          refine lp_run (b := fun s => b_X11_pleased_39 (nI (p + 1)) (mI (mxP (ples (SF (aI h 83) L) (aI h 83) k x) (fct (insL (aI h 83) k).length))) s g1) (fun i => nI i) (bsP (ples (SF (aI h 83) L) (aI h 83) k x) (fct (insL (aI h 83) k).length)) _ (by omega) (fun i hi => ?_) ?_
          · show b_X11_pleased_39 _ _ (nI i) g1 = _
            have pi := ples_le (SF (aI h 83) L) (aI h 83) k x i
            have b3i := b3 i hi
            unfold b_X11_pleased_39
            rw [inb_nI (show i < 720 by omega) (by omega), Option.bind_some, d4 i (by omega), emI, if_neg (fun d => by have := (nI_eq (by omega) (by omega)).mp d; omega), nI_1]
          · show b_X11_pleased_39 _ _ (nI _) g1 = _
            unfold b_X11_pleased_39
            rw [inb_nI (show bsP (ples (SF (aI h 83) L) (aI h 83) k x) (fct (insL (aI h 83) k).length) < 720 by omega) (by omega), Option.bind_some, d4 _ b1, emI, if_pos rfl]
        have hseat := c_seatIn (q := bsP (ples (SF (aI h 83) L) (aI h 83) k x) (fct (insL (aI h 83) k).length)) (p := p) c6 wT (by rw [lT]; exact b1) hp
        rw [seatK_ag (trK_AG (aI h 83)) h6 _ (18 + p) (by omega)] at hseat
        have FR : Fr plsA plsF h' g3 := Fr_tr (Fr_tr d6 (Fr_mono e3 (fun a c => by unfold plsA mA; omega) (fun _ _ c => c.elim))) (Fr_mono u3 (fun a c => by unfold plsA mA; omega) (fun _ _ c => c.elim))
        refine ⟨seatK (aI h 83) k (bsP (ples (SF (aI h 83) L) (aI h 83) k x) (fct (insL (aI h 83) k).length)) (18 + p), h', g3, ?_, ?_, INV_lk i1 i2 i4 i5 i6 i7 i8 i9 (Fr_tr (la_lk c7) (pl_lk FR)) g383 (CAC_lk c4 c5 c6 FR (fun a c => by unfold plsA mA at c; omega) (fun a j c => by unfold plsF tF at c; omega))⟩
        · unfold f_X10_pleased
          rw [near_n (by omega), Option.bind_some, if_pos rfl, if_neg (nI_pos (by omega)), k_sn i2.1 hw, if_pos (nI_le (by omega) (by omega)), c1, Option.bind_some, c2, Option.bind_some, hbest, Option.bind_some, if_neg (nI_ne0 (by omega) (by omega)), nI_pred, hseat, Option.bind_some]
        · unfold f_X11_pleased
          rw [m9, Option.bind_some, if_pos rfl, m_many (k := k) (by rw [c9]; exact hw), Option.bind_some, lies_n (by omega) (by omega), Option.bind_some, if_pos rfl, d1, Option.bind_some, if_neg (nI_ne0 (by omega) (by omega)), find, Option.bind_some, e1, Option.bind_some, nI_pred, m_seatOf (by omega), Option.bind_some, show f_X11_takesBack (0 : Int32) g2 = some ((), g3) from u1, Option.bind_some, g283]
    · refine ⟨-1, h, h, ?_, ?_, INV_up hI0⟩
      · unfold f_X10_pleased
        rw [near_n (by omega), Option.bind_some, if_pos rfl]
        by_cases c : x2 < 0
        · rw [if_pos c]
        · have := hx2.resolve_left c
          rw [if_neg c, k_sn i2.1 hw, if_neg]
          rw [Int32.le_iff_toInt_le, nI_toInt (by omega)] at this
          rw [Int32.le_iff_toInt_le, nI_toInt (by omega)]
          omega
      · unfold f_X11_pleased
        rw [show f_X11_lies (nI x) (0 : Int32) (9 : Int32) = some true from lies_n (n := 9) (by omega) (by omega), Option.bind_some, if_pos rfl, m_many hw, Option.bind_some, lies_0 (by omega) hx2, Option.bind_some, if_neg ff]
  · refine ⟨-1, h, h, ?_, ?_, INV_up hI0⟩
    · unfold f_X10_pleased
      rw [near_0 hx1, Option.bind_some, if_neg ff]
    · unfold f_X11_pleased
      rw [show f_X11_lies x1 (0 : Int32) (9 : Int32) = some false from lies_0 (n := 9) (by omega) hx1, Option.bind_some, if_neg ff]
