/-! ===== calls that change the sitters, the terms, the law in force ===== -/
def uA (a : Nat) : Prop := 34 ≤ a ∧ a ≤ 37 ∨ a = 83 ∨ a = 11 ∨ a = 95 ∨ a = 3 ∨ a = 88 ∨ a = 25 ∨ a = 82 ∨ scA a
def uF (a j : Nat) : Prop := a = 32 ∧ j = 4 ∨ a = 33 ∨ a = 10 ∨ a = 0 ∨ a = 68 ∨ a = 81 ∧ j ≠ 54 ∨ a = 60 ∨ scF a j
theorem INV_std {n : Nat} {h h' : Hp} {k k' sm lc : Nat} {L : LDt} (i1 : KOK (aI h 83) k sm lc L) (i2 : HR h 32 (aI h 83) sm lc L) (i4 : IMG h) (i8 : DRW h) (i9 : CON h n) (hf : Fr uA uF h h') (w : WF (aI h' 83) k') (mo : MOb (aI h' 83) 999) (hk : k ≤ k') (ag : ∀ i, 31 ≤ i → ¬ (49 ≤ i ∧ i ≤ 51) → i ≠ 54 → aI h' 83 i = aI h 83 i) (hR : RRh h' 33 (aI h' 83)) (h54 : aI h' 83 54 = -1 ∨ ∃ f, f < lc ∧ aI h' 83 54 = nI f) (f4 : fI h' 32 4 = aI h' 83 54) (cac : CAC h' (aI h' 83) k' (SF (aI h' 83) L)) (t : TAP h') (m : MIS h') (p : PAS h' (aI h' 83) k') : INV (n + 1) h' := by
  have h28 : ln h 28 = 0 := i9.2.2.2.2.2.1
  have ok := kp_tr hf (fun a c => by unfold uA scA at c; omega) (fun a j c => by unfold uF scF at c; omega)
  refine ⟨k', sm, lc, L, ⟨w, mo, i1.2.2.1, by rw [ag 52 (by omega) (by omega) (by omega)]; exact i1.2.2.2.1, fun i hi => ?_, i1.2.2.2.2.2.1, by rw [ag 53 (by omega) (by omega) (by omega)]; exact i1.2.2.2.2.2.2.1, fun t ht => ⟨(i1.2.2.2.2.2.2.2.1 t ht).1, Laid_ag (i1.2.2.2.2.2.2.2.1 t ht).2 (fun i hi => ag i (by omega) (by omega) (by omega))⟩, h54⟩, HR_mk i2 i1 h28 ok (hf.2.2.2.1 _) hR (by rw [hf.1 32 6 (by unfold uF scF; omega)]; exact i2.2.1) (fun i hi => by rw [hf.2.1 39 (by unfold uA scA; omega), ag _ (by omega) (by omega) (by omega)]; exact i2.2.2.1 i hi) (hf.1 32 3 (by unfold uF scF; omega)) f4, cac, IMG_tr i4 h28 hf (fun a c => by unfold uA scA at c; omega) (fun a j c => by unfold uF scF at c; omega), t, m, p, DRW_tr i8 hf (fun a c => by unfold uA scA at c; omega) (fun a j c => by unfold uF scF at c; omega), CON_tr i9 hf (fun a c => by unfold uA scA at c; omega) (fun a j c => by unfold uF scF at c; omega)⟩
  have hsm := i1.2.2.1
  obtain ⟨p', m', c', a1, a2, a3, a4, a5, a6⟩ := i1.2.2.2.2.1 i hi
  exact ⟨p', m', c', by omega, a2, a3, by rw [ag _ (by omega) (by omega) (by omega)]; exact a4, by rw [ag _ (by omega) (by omega) (by omega)]; exact a5, by rw [ag _ (by omega) (by omega) (by omega)]; exact a6⟩
theorem PAS_0 {h h' : Hp} {K K' : Nat → Int32} {k k' : Nat} (hp : PAS h K k) (e1 : fI h' 10 1 = fI h 10 1) (e2 : fI h' 10 2 = 0) (e3 : fI h' 81 32 = 0) : PAS h' K' k' := by
  obtain ⟨nx, u, p1, p2, p3, p4, p5, p6⟩ := hp
  exact ⟨nx, 0, p1, by omega, by rw [e1]; exact p3, e2, e3, fun e he => absurd he (Nat.not_lt_zero _)⟩
theorem MIS_g {h h' : Hp} (hm : MIS h) (f1 : fI h' 0 17 = fI h 0 17) (f2 : fI h' 0 18 = fI h 0 18) (f3 : fI h' 81 14 = fI h 81 14) (f4 : fI h' 81 6 = fI h 81 6) (f5 : fI h' 60 6 = fI h 60 6) (f6 : fI h' 81 46 = fI h 81 46) (g1 : aI h' 25 = aI h 25) (g2 : aI h' 82 = aI h 82) (e1 : fI h' 0 19 = 0) (e2 : fI h' 81 0 = 0) : MIS h' := by
  obtain ⟨m1, m2, m3, m4, m5⟩ := hm
  exact ⟨by rw [f1, f3]; exact m1, by rw [f2, f4]; exact m2, by rw [e1, e2], by rw [f5, f6]; exact m4, by rw [g1, g2]; exact m5⟩
theorem s1_int : ∀ l, l < 7 → (nI l - 1).toInt = (l : Int) - 1 := by decide
theorem lawx (x : Int32) (lc : Nat) (hl : lc ≤ 6) : (x = -1 ∨ ∃ f, f < lc ∧ x = nI f) ∨ (x ≠ -1 ∧ (x < 0 ∨ nI lc ≤ x)) := by
  by_cases c : x = -1
  · exact Or.inl (Or.inl c)
  · rcases ix (x := x) lc (by omega) with ⟨f, h1, h2⟩ | h1
    · exact Or.inl (Or.inr ⟨f, h1, h2⟩)
    · exact Or.inr ⟨c, h1⟩
theorem m_isLaw1 {h : Hp} {x : Int32} {lc : Nat} (hl : lc ≤ 6) (e : aI h 83 53 = nI lc) (hx : x = -1 ∨ ∃ f, f < lc ∧ x = nI f) : f_X11_isLaw x h = some true := by
  unfold f_X11_isLaw
  rw [e, m_lies, Option.bind_some]
  refine congrArg some (decide_eq_true ?_)
  rw [Int32.le_iff_toInt_le, Int32.le_iff_toInt_le, s1_int lc (by omega)]
  have e1 : Int32.toInt (-1) = -1 := by decide
  rcases hx with c | ⟨f, h1, h2⟩
  · rw [c, e1]; omega
  · rw [h2, e1, nI_toInt (by omega)]; omega
theorem m_isLaw0 {h : Hp} {x : Int32} {lc : Nat} (hl : lc ≤ 6) (e : aI h 83 53 = nI lc) (hx : x ≠ -1 ∧ (x < 0 ∨ nI lc ≤ x)) : f_X11_isLaw x h = some false := by
  unfold f_X11_isLaw
  rw [e, m_lies, Option.bind_some]
  refine congrArg some (decide_eq_false ?_)
  rw [Int32.le_iff_toInt_le, Int32.le_iff_toInt_le, s1_int lc (by omega)]
  have e1 : Int32.toInt (-1) = -1 := by decide
  have e0 : Int32.toInt 0 = 0 := by decide
  have hn : x.toInt ≠ -1 := fun c => hx.1 (Int32.toInt_inj.mp (by rw [c, e1]))
  rw [e1]
  rcases hx.2 with c | c
  · rw [Int32.lt_iff_toInt_lt, e0] at c; omega
  · rw [Int32.le_iff_toInt_le, nI_toInt (by omega)] at c; omega
theorem op_13 : Op_13 INV := by
  intro n h hI _ x
  have hI0 := hI
  obtain ⟨k, sm, lc, L, i1, i2, i3, i4, i5, i6, i7, i8, i9⟩ := hI
  have hl : lc ≤ 6 := i1.2.2.2.2.2.1
  have h53 : aI h 83 53 = nI lc := i1.2.2.2.2.2.2.1
  have f3 : fI h 32 3 = nI lc := i2.2.2.2.1
  rcases lawx x lc hl with hx | hx
  · have j23 : j_X10_force_23 x h = some (fI h 32 4, sF (sF (sF h 32 4 x) 68 11 (-1)) 0 19 0) := by
      unfold j_X10_force_23
      rw [c_ans1 (by decide), Option.bind_some]
    have eC : f_X10_force x h = some (fI h 32 4, sF (sF (sF h 32 4 x) 68 11 (-1)) 0 19 0) := by
      unfold f_X10_force
      by_cases c : x = -1
      · rw [if_pos c]; exact j23
      · rw [if_neg c]
        obtain ⟨f, h1, h2⟩ := hx.resolve_left c
        have : f_X1_hasLaw 32 x h = some true := by
          unfold f_X1_hasLaw
          rw [h2, if_neg (nI_pos (by omega)), f3, if_neg (by rw [nI_le6 (by omega) (by omega)]; omega), if_neg (show ¬ (6 : Int32) ≤ nI f by rw [l6_, nI_le6 (by omega) (by omega)]; omega)]
        rw [this, Option.bind_some, if_pos rfl]
        exact j23
    refine ⟨_, _, sF (sA (sF (sF (sF h 32 4 x) 68 11 (-1)) 0 19 0) 83 54 x) 81 0 0, eC, ?_, ?_⟩
    · unfold f_X11_force
      rw [m_isLaw1 (h := sF (sF (sF h 32 4 x) 68 11 (-1)) 0 19 0) hl h53 hx, Option.bind_some, if_pos rfl]
      show some (aI h 83 54, _) = _
      rw [i2.2.2.2.2.2.2]
    · have hf : Fr uA uF h (sF (sA (sF (sF (sF h 32 4 x) 68 11 (-1)) 0 19 0) 83 54 x) 81 0 0) := Fr_tF (Fr_tA (Fr_tF (Fr_tF (Fr_sF (by unfold uF; omega)) (by unfold uF; omega)) (by unfold uF; omega)) (by unfold uA; omega)) (by unfold uF; omega)
      have hg : Fr (fun a => a = 83) (fun a j => a = 32 ∧ j = 4 ∨ a = 68 ∨ a = 0 ∧ j = 19 ∨ a = 81 ∧ j = 0) h (sF (sA (sF (sF (sF h 32 4 x) 68 11 (-1)) 0 19 0) 83 54 x) 81 0 0) := Fr_tF (Fr_tA (Fr_tF (Fr_tF (Fr_sF (by omega)) (by omega)) (by omega)) rfl) (by omega)
      have e83 : aI (sF (sA (sF (sF (sF h 32 4 x) 68 11 (-1)) 0 19 0) 83 54 x) 81 0 0) 83 = upd (aI h 83) 54 x := ps_aAs _ _ _ _
      have e4 : fI (sF (sA (sF (sF (sF h 32 4 x) 68 11 (-1)) 0 19 0) 83 54 x) 81 0 0) 32 4 = x := by
        rw [fI_n (by omega), ps_fA, fI_n (by omega), fI_n (by omega), fI_s]
      have e68 : fI (sF (sA (sF (sF (sF h 32 4 x) 68 11 (-1)) 0 19 0) 83 54 x) 81 0 0) 68 11 = -1 := by
        rw [fI_n (by omega), ps_fA, fI_n (by omega), fI_s]
      have e19 : fI (sF (sA (sF (sF (sF h 32 4 x) 68 11 (-1)) 0 19 0) 83 54 x) 81 0 0) 0 19 = 0 := by
        rw [fI_n (by omega), ps_fA, fI_s]
      have e81 : fI (sF (sA (sF (sF (sF h 32 4 x) 68 11 (-1)) 0 19 0) 83 54 x) 81 0 0) 81 0 = 0 := fI_s
      generalize sF (sA (sF (sF (sF h 32 4 x) 68 11 (-1)) 0 19 0) 83 54 x) 81 0 0 = h' at hf hg e83 e4 e68 e19 e81
      have ag : ∀ i, i ≠ 54 → aI h' 83 i = aI h 83 i := fun i hi => by rw [e83, pk_un hi]
      have AGK : AG (aI h 83) (aI h' 83) := fun i hi => ag i (by omega)
      have k54 : aI h' 83 54 = x := by rw [e83, pk_us]
      refine INV_std i1 i2 i4 i8 i9 hf (WF_ag i1.1 AGK) ?_ (Nat.le_refl k) (fun i _ _ h3 => ag i h3) (RR_ag (RR_fr i2.1 hg (by omega) (by omega) (by omega) (by omega) (by omega)) AGK) (by rw [k54]; exact hx) (by rw [e4, k54]) (Or.inl e68) (TAP_tr i5 hg (fun a c => by omega) (fun a j c => by omega)) (MIS_g i6 (hg.1 _ _ (by omega)) (hg.1 _ _ (by omega)) (hg.1 _ _ (by omega)) (hg.1 _ _ (by omega)) (hg.1 _ _ (by omega)) (hg.1 _ _ (by omega)) (hg.2.1 _ (by omega)) (hg.2.1 _ (by omega)) e19 e81) (PAS_ag (PAS_tr i7 hg (fun a c => by omega) (fun a j c => by omega)) (fun i hi => ag i (by omega)))
      obtain ⟨m, m1, m2⟩ := i1.2.1
      exact ⟨m, m1, by rw [ag 24 (by omega)]; exact m2⟩
  · refine refu (C := f_X10_force x) (M := f_X11_force x) hI0 rf2 ?_ (fun h1 e83 => ?_)
    · unfold f_X10_force
      have : f_X1_hasLaw 32 x h = some false := by
        unfold f_X1_hasLaw
        by_cases c : x < 0
        · rw [if_pos c]
        · rw [if_neg c, f3, if_pos (hx.2.resolve_left c)]
      rw [if_neg hx.1, this, Option.bind_some, if_neg Bool.false_ne_true, bnd]
    · unfold f_X11_force
      rw [m_isLaw0 hl (by rw [e83]; exact h53) hx, Option.bind_some, if_neg Bool.false_ne_true, bnd]
theorem op_6 : Op_6 INV := by
  intro n h hI _ x
  have hI0 := hI
  obtain ⟨k, sm, lc, L, i1, i2, i3, i4, i5, i6, i7, i8, i9⟩ := hI
  obtain ⟨tl, bt, t1, t2, t3, t4, t5⟩ := id i5
  rcases ix (x := x) (tl + 1) (by omega) with ⟨j, hj, e⟩ | hx
  · subst e
    refine ⟨nI j, sF h 0 16 (nI j), sF (sF h 0 16 (nI j)) 81 13 (nI j), ?_, ?_, ?_⟩
    · unfold f_X10_end
      rw [if_neg (nI_pos (by omega)), t2, if_pos (by rw [nI_le6 (by omega) (by omega)]; omega)]
    · unfold f_X11_end
      rw [fI_n (by omega), t3, lies_n (by omega) (by omega), Option.bind_some, if_pos rfl]
    · have hg : Fr noA (fun a j => a = 0 ∧ j = 16 ∨ a = 81 ∧ j = 13) h (sF (sF h 0 16 (nI j)) 81 13 (nI j)) := Fr_tF (Fr_sF (by omega)) (by omega)
      have e1 : fI (sF (sF h 0 16 (nI j)) 81 13 (nI j)) 0 16 = nI j := by rw [fI_n (by omega), fI_s]
      have e2 : fI (sF (sF h 0 16 (nI j)) 81 13 (nI j)) 81 13 = nI j := fI_s
      generalize sF (sF h 0 16 (nI j)) 81 13 (nI j) = h' at hg e1 e2
      have e83 : aI h' 83 = aI h 83 := hg.2.1 _ (fun c => c)
      refine INV_std i1 i2 i4 i8 i9 (Fr_mono hg (fun a c => c.elim) (fun a j c => by unfold uF; omega)) (by rw [e83]; exact i1.1) (by rw [e83]; exact i1.2.1) (Nat.le_refl k) (fun i _ _ _ => by rw [e83]) (by rw [e83]; exact RR_fr i2.1 hg (by omega) (fun c => c) (fun c => c) (fun c => c) (fun c => c)) (by rw [e83]; exact i1.2.2.2.2.2.2.2.2) (by rw [e83, hg.1 _ _ (by omega)]; exact i2.2.2.2.2.2.2) (by rw [e83]; exact CAC_tr i3 hg (fun a c => c.elim) (fun a j c => by omega)) ⟨j, bt, by omega, e1, e2, t4, fun i hi => by rw [hg.2.1 3 (fun c => c), hg.2.1 88 (fun c => c)]; exact t5 i (by omega)⟩ (MIS_tr i6 hg (fun a c => c.elim) (fun a j c => by omega)) (by rw [e83]; exact PAS_tr i7 hg (fun a c => c.elim) (fun a j c => by omega))
  · refine ⟨-1, h, h, ?_, ?_, INV_up hI0⟩
    · unfold f_X10_end
      by_cases c : x < 0
      · rw [if_pos c]
      · have := hx.resolve_left c
        rw [if_neg c, t2, if_neg]
        rw [Int32.le_iff_toInt_le, nI_toInt (by omega)] at this ⊢
        omega
    · unfold f_X11_end
      rw [t3, lies_0 (by omega) hx, Option.bind_some, if_neg Bool.false_ne_true]
theorem WF_term {K : Nat → Int32} {k t v : Nat} (hw : WF K k) (ht : t = 24 ∨ t = 49 ∧ v ≤ 10 ∨ t = 50 ∧ v ≤ 9) : WF (upd K t (nI v)) k := by
  obtain ⟨w1, w2, w3, w4, w5, w6, ⟨P, w7, w7'⟩, w8, w9, w10⟩ := hw
  have u : ∀ i, i ≠ t → upd K t (nI v) i = K i := fun i hi => pk_un hi
  refine ⟨by rw [u 51 (by omega)]; exact w1, w2, fun i hi => by rw [u i (by omega)]; exact w3 i hi, fun p hp => by rw [u _ (by omega)]; exact w4 p hp, fun p q hp hq hpq => by rw [u _ (by omega), u _ (by omega)]; exact w5 p q hp hq hpq, fun p hp => by rw [u _ (by omega)]; exact w6 p hp, ⟨P, fun i hi => by rw [u i (by omega)]; exact w7 i hi, w7'⟩, fun i h1 h2 => by rw [u i (by omega)]; exact w8 i h1 h2, ?_, ?_⟩
  · by_cases c : t = 49
    · exact ⟨v, by omega, by rw [c, pk_us]⟩
    · rw [u 49 (by omega)]; exact w9
  · by_cases c : t = 50
    · exact ⟨v, by omega, by rw [c, pk_us]⟩
    · rw [u 50 (by omega)]; exact w10
def tmT (j : Nat) : Nat := if j = 0 then 24 else if j = 1 then 49 else 50
def tmB (j : Nat) : Nat := if j = 0 then 999 else if j = 1 then 10 else 9
theorem tm3 {j : Nat} (hj : j < 3) : j = 0 ∨ j = 1 ∨ j = 2 := by omega
theorem ob {α : Type} (o : Option α) : (o.bind fun v => some v) = o := by cases o <;> rfl
theorem m_isTerm {j : Nat} (hj : j < 3) (x : Int32) : f_X11_isTerm (nI j) x = f_X11_lies x 0 (nI (tmB j)) := by
  unfold f_X11_isTerm
  rcases tm3 hj with e | e | e <;> subst e
  · rw [if_neg (by decide), if_pos (by decide)]; exact ob _
  · rw [if_neg (by decide), if_neg (by decide), if_pos (by decide)]; exact ob _
  · rw [if_neg (by decide), if_neg (by decide), if_neg (by decide), if_pos (by decide)]; exact ob _
theorem m_isTerm0 {x y : Int32} (hx : x < 0 ∨ nI 3 ≤ x) : f_X11_isTerm x y = some false := by
  unfold f_X11_isTerm
  rw [if_pos]
  rcases hx with c | c
  · rw [Int32.lt_iff_toInt_lt] at c
    exact Or.inl c
  · rw [Int32.le_iff_toInt_le, nI_toInt (by omega)] at c
    exact Or.inr (by omega)
theorem m_termAt {j : Nat} (hj : j < 3) : f_X11_termAt (nI j) = some (nI (tmT j)) := by
  rcases tm3 hj with e | e | e <;> subst e <;> rfl
theorem moT_n {j : Nat} (hj : j < 3) : moT.getD j 0 = nI (tmB j) := by
  rcases tm3 hj with e | e | e <;> subst e <;> rfl
theorem tmT_in {j : Nat} (hj : j < 3) : tmT j = 24 ∧ tmB j = 999 ∧ j = 0 ∨ tmT j = 49 ∧ tmB j = 10 ∧ j = 1 ∨ tmT j = 50 ∧ tmB j = 9 ∧ j = 2 := by
  rcases tm3 hj with e | e | e <;> subst e <;> decide
theorem RR_term {h : Hp} {r : Nat} {K : Nat → Int32} (hr : RRh h r K) {j : Nat} (hj : j < 3) : aI h (r + 4) j = K (tmT j) := by
  rcases tm3 hj with e | e | e <;> subst e
  · exact hr.2.2.2.2.1
  · exact hr.2.2.2.2.2.1
  · exact hr.2.2.2.2.2.2
theorem op_4 : Op_4 INV := by
  intro n h hI _ x y
  have hI0 := hI
  obtain ⟨k, sm, lc, L, i1, i2, i3, i4, i5, i6, i7, i8, i9⟩ := hI
  have j22 : j_X10_terms_22 h = f_X10_answer (-1) h := by unfold j_X10_terms_22; rw [bnd]
  rcases ix (x := x) 3 (by omega) with ⟨j, hj, e⟩ | hx
  · subst e
    have ht := tmT_in hj
    rcases ix (x := y) (tmB j + 1) (by omega) with ⟨v, hv, e⟩ | hy
    · subst e
      have hold : ∃ m, m ≤ 999 ∧ aI h 83 (tmT j) = nI m := by
        rcases ht with ⟨a, _, _⟩ | ⟨a, _, _⟩ | ⟨a, _, _⟩ <;> rw [a]
        · exact i1.2.1
        · obtain ⟨m, m1, m2⟩ := i1.1.2.2.2.2.2.2.2.2.1
          exact ⟨m, by omega, m2⟩
        · obtain ⟨m, m1, m2⟩ := i1.1.2.2.2.2.2.2.2.2.2
          exact ⟨m, by omega, m2⟩
      obtain ⟨m, m1, m2⟩ := hold
      have h37 : aI h 37 j = nI m := by rw [← m2]; exact RR_term i2.1 hj
      have eC : f_X10_terms (nI j) (nI v) h = some (nI m, sF (sF (sF (sA h 37 j (nI v)) 10 2 0) 68 11 (-1)) 0 19 0) := by
        unfold f_X10_terms
        rw [if_neg (nI_pos (by omega)), if_neg (show ¬ (2 : Int32) < nI j from nI_nlt (a := 2) (b := j) (by omega) (by omega)), if_neg (nI_pos (by omega)), inb_nI hj (by omega), Option.bind_some, moT_n hj, if_pos (by rw [nI_le6 (by omega) (by omega)]; omega), Option.bind_some, Option.bind_some]
        show (f_X10_answerChanged (aI h 37 j) (sF (sA h 37 j (nI v)) 10 2 0)).bind _ = _
        rw [h37, c_ans1 (nI_pos' (by omega)), Option.bind_some]
      refine ⟨_, _, sF (sF (sA (sF (sF (sF (sA h 37 j (nI v)) 10 2 0) 68 11 (-1)) 0 19 0) 83 (tmT j) (nI v)) 81 32 0) 81 0 0, eC, ?_, ?_⟩
      · unfold f_X11_terms
        rw [m_isTerm hj, lies_n (by omega) (by omega), Option.bind_some, if_pos rfl, m_termAt hj, Option.bind_some, inb_nI (show tmT j < 5662 by omega) (by omega), Option.bind_some, Option.bind_some, inb_nI (show tmT j < 5662 by omega) (by omega), Option.bind_some]
        show some (aI (sA h 37 j (nI v)) 83 (tmT j), _) = _
        rw [ps_aAn _ _ _ _ _ (by omega), m2]
      · have hf : Fr uA uF h (sF (sF (sA (sF (sF (sF (sA h 37 j (nI v)) 10 2 0) 68 11 (-1)) 0 19 0) 83 (tmT j) (nI v)) 81 32 0) 81 0 0) := Fr_tF (Fr_tF (Fr_tA (Fr_tF (Fr_tF (Fr_tF (Fr_sA (by unfold uA; omega)) (by unfold uF; omega)) (by unfold uF; omega)) (by unfold uF; omega)) (by unfold uA; omega)) (by unfold uF; omega)) (by unfold uF; omega)
        have hg : Fr (fun a => a = 37 ∨ a = 83) (fun a j => a = 10 ∧ j = 2 ∨ a = 68 ∨ a = 0 ∧ j = 19 ∨ a = 81 ∧ (j = 0 ∨ j = 32)) h (sF (sF (sA (sF (sF (sF (sA h 37 j (nI v)) 10 2 0) 68 11 (-1)) 0 19 0) 83 (tmT j) (nI v)) 81 32 0) 81 0 0) := Fr_tF (Fr_tF (Fr_tA (Fr_tF (Fr_tF (Fr_tF (Fr_sA (by omega)) (by omega)) (by omega)) (by omega)) (by omega)) (by omega)) (by omega)
        have e83 : aI (sF (sF (sA (sF (sF (sF (sA h 37 j (nI v)) 10 2 0) 68 11 (-1)) 0 19 0) 83 (tmT j) (nI v)) 81 32 0) 81 0 0) 83 = upd (aI h 83) (tmT j) (nI v) := by
          rw [ps_aF, ps_aF, ps_aAs, ps_aF, ps_aF, ps_aF, ps_aAn _ _ _ _ _ (by omega)]
        have e37 : aI (sF (sF (sA (sF (sF (sF (sA h 37 j (nI v)) 10 2 0) 68 11 (-1)) 0 19 0) 83 (tmT j) (nI v)) 81 32 0) 81 0 0) 37 = upd (aI h 37) j (nI v) := by
          rw [ps_aF, ps_aF, ps_aAn _ _ _ _ _ (by omega), ps_aF, ps_aF, ps_aF, ps_aAs]
        have e10 : fI (sF (sF (sA (sF (sF (sF (sA h 37 j (nI v)) 10 2 0) 68 11 (-1)) 0 19 0) 83 (tmT j) (nI v)) 81 32 0) 81 0 0) 10 2 = 0 := by
          rw [fI_n (by omega), fI_n (by omega), ps_fA, fI_n (by omega), fI_n (by omega), fI_s]
        have e68 : fI (sF (sF (sA (sF (sF (sF (sA h 37 j (nI v)) 10 2 0) 68 11 (-1)) 0 19 0) 83 (tmT j) (nI v)) 81 32 0) 81 0 0) 68 11 = -1 := by
          rw [fI_n (by omega), fI_n (by omega), ps_fA, fI_n (by omega), fI_s]
        have e19 : fI (sF (sF (sA (sF (sF (sF (sA h 37 j (nI v)) 10 2 0) 68 11 (-1)) 0 19 0) 83 (tmT j) (nI v)) 81 32 0) 81 0 0) 0 19 = 0 := by
          rw [fI_n (by omega), fI_n (by omega), ps_fA, fI_s]
        have e32 : fI (sF (sF (sA (sF (sF (sF (sA h 37 j (nI v)) 10 2 0) 68 11 (-1)) 0 19 0) 83 (tmT j) (nI v)) 81 32 0) 81 0 0) 81 32 = 0 := by
          rw [fI_n (by omega), fI_s]
        have e81 : fI (sF (sF (sA (sF (sF (sF (sA h 37 j (nI v)) 10 2 0) 68 11 (-1)) 0 19 0) 83 (tmT j) (nI v)) 81 32 0) 81 0 0) 81 0 = 0 := fI_s
        generalize sF (sF (sA (sF (sF (sF (sA h 37 j (nI v)) 10 2 0) 68 11 (-1)) 0 19 0) 83 (tmT j) (nI v)) 81 32 0) 81 0 0 = h' at hf hg e83 e37 e10 e68 e19 e32 e81
        have ag : ∀ i, i ≠ tmT j → aI h' 83 i = aI h 83 i := fun i hi => by rw [e83, pk_un hi]
        refine INV_std i1 i2 i4 i8 i9 hf (by rw [e83]; exact WF_term i1.1 (by omega)) ?_ (Nat.le_refl k) (fun i a b c => ag i (by omega)) ?_ (by rw [ag 54 (by omega)]; exact i1.2.2.2.2.2.2.2.2) (by rw [ag 54 (by omega), hg.1 _ _ (by omega)]; exact i2.2.2.2.2.2.2) (Or.inl e68) (TAP_tr i5 hg (fun a c => by omega) (fun a j c => by omega)) (MIS_g i6 (hg.1 _ _ (by omega)) (hg.1 _ _ (by omega)) (hg.1 _ _ (by omega)) (hg.1 _ _ (by omega)) (hg.1 _ _ (by omega)) (hg.1 _ _ (by omega)) (hg.2.1 _ (by omega)) (hg.2.1 _ (by omega)) e19 e81) (PAS_0 i7 (hg.1 _ _ (by omega)) e10 e32)
        · by_cases c : j = 0
          · have t24 : tmT j = 24 := by omega
            exact ⟨v, by omega, by rw [e83, t24, pk_us]⟩
          · obtain ⟨m, m1, m2⟩ := i1.2.1
            exact ⟨m, m1, by rw [ag 24 (by omega)]; exact m2⟩
        · obtain ⟨r1, r2, r3, r4, r5, r6, r7⟩ := i2.1
          refine ⟨by rw [hg.1 _ _ (by omega), ag 51 (by omega)]; exact r1, fun i hi => by rw [hg.2.1 _ (by omega), ag i (by omega)]; exact r2 i hi, fun i hi => by rw [hg.2.1 _ (by omega), ag _ (by omega)]; exact r3 i hi, fun i hi => by rw [hg.2.1 _ (by omega), ag _ (by omega)]; exact r4 i hi, ?_, ?_, ?_⟩
          · show aI h' 37 0 = _
            rw [e37, e83]
            by_cases c : j = 0
            · rw [c]; rfl
            · rw [pk_un (by omega), pk_un (by omega)]; exact r5
          · show aI h' 37 1 = _
            rw [e37, e83]
            by_cases c : j = 1
            · rw [c]; rfl
            · rw [pk_un (by omega), pk_un (by omega)]; exact r6
          · show aI h' 37 2 = _
            rw [e37, e83]
            by_cases c : j = 2
            · rw [c]; rfl
            · rw [pk_un (by omega), pk_un (by omega)]; exact r7
    · refine refu (C := f_X10_terms (nI j) y) (M := f_X11_terms (nI j) y) hI0 rf1 ?_ (fun h1 e83 => ?_)
      · unfold f_X10_terms
        rw [if_neg (nI_pos (by omega)), if_neg (show ¬ (2 : Int32) < nI j from nI_nlt (a := 2) (b := j) (by omega) (by omega)), inb_nI hj (by omega), Option.bind_some, moT_n hj, j22]
        by_cases c : y < 0
        · rw [if_pos c]
        · have := hy.resolve_left c
          rw [if_neg c, if_neg]
          rw [Int32.le_iff_toInt_le, nI_toInt (by omega)] at this ⊢
          omega
      · unfold f_X11_terms
        rw [m_isTerm hj, lies_0 (by omega) hy, Option.bind_some, if_neg Bool.false_ne_true, bnd]
  · refine refu (C := f_X10_terms x y) (M := f_X11_terms x y) hI0 rf1 ?_ (fun h1 e83 => ?_)
    · unfold f_X10_terms
      rw [j22]
      by_cases c : x < 0
      · rw [if_pos c]
      · have := hx.resolve_left c
        rw [if_neg c, if_pos]
        rw [Int32.le_iff_toInt_le, nI_toInt (by omega)] at this
        rw [Int32.lt_iff_toInt_lt]
        have e2 : Int32.toInt 2 = 2 := by decide
        omega
    · unfold f_X11_terms
      rw [m_isTerm0 hx, Option.bind_some, if_neg Bool.false_ne_true, bnd]
