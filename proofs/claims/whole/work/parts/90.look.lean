/-! ===== calls that look ===== -/
theorem INV_rd {n : Nat} {h h' : Hp} (hI : INV n h) (hf : Fr (fun a => scA a ∨ a = 83) scF h h') (e83 : aI h' 83 = aI h 83) : INV (n + 1) h' := by
  obtain ⟨k, sm, lc, L, i1, i2, i3, i4, i5, i6, i7, i8, i9⟩ := hI
  refine INV_std i1 i2 i4 i8 i9 (Fr_mono hf (fun a c => ?_) (fun a j c => ?_)) (by rw [e83]; exact i1.1) (by rw [e83]; exact i1.2.1) (Nat.le_refl k) (fun i _ _ _ => by rw [e83]) ?_ (by rw [e83]; exact i1.2.2.2.2.2.2.2.2) (by rw [e83, hf.1 _ _ (by unfold scF; omega)]; exact i2.2.2.2.2.2.2) (by rw [e83]; exact CAC_tr i3 hf (fun a c => by unfold scA at c; omega) (fun a j c => by unfold scF at c; omega)) (TAP_tr i5 hf (fun a c => by unfold scA at c; omega) (fun a j c => by unfold scF at c; omega)) (MIS_tr i6 hf (fun a c => by unfold scA at c; omega) (fun a j c => by unfold scF at c; omega)) (by rw [e83]; exact PAS_tr i7 hf (fun a c => by unfold scA at c; omega) (fun a j c => by unfold scF at c; omega))
  · unfold uA
    rcases c with c | c
    · exact Or.inr (Or.inr (Or.inr (Or.inr (Or.inr (Or.inr (Or.inr (Or.inr c)))))))
    · exact Or.inr (Or.inl c)
  · unfold uF
    exact Or.inr (Or.inr (Or.inr (Or.inr (Or.inr (Or.inr (Or.inr c))))))
  · rw [e83]
    exact RR_fr i2.1 hf (by unfold scF; omega) (by unfold scA; omega) (by unfold scA; omega) (by unfold scA; omega) (by unfold scA; omega)
theorem wA_sc {h h' : Hp} (hf : Fr wA noF h h') : Fr (fun a => scA a ∨ a = 83) scF h h' := Fr_mono hf (fun a c => by unfold wA at c; unfold scA; omega) (fun _ _ c => c.elim)
theorem tA_sc {h h' : Hp} (hf : Fr tA tF h h') : Fr (fun a => scA a ∨ a = 83) scF h h' := Fr_mono hf (fun a c => by unfold tA at c; unfold scA; omega) (fun a j c => by unfold tF at c; unfold scF; omega)
theorem one_if (b : Bool) : f_X10_oneIf (b2i b) = some (b2i b) := by cases b <;> rfl
theorem le0_b {v : Int32} {b : Bool} (h : decide (0 < v) = b) {h2 : Hp} : (if v ≤ 0 then some ((0 : Int32), h2) else some ((1 : Int32), h2)) = some (b2i b, h2) := by
  subst h
  by_cases c : v ≤ 0
  · rw [if_pos c, decide_eq_false (pos_iff0.mp c)]; rfl
  · rw [if_neg c, decide_eq_true (Classical.not_not.mp (fun d => c (pos_iff0.mpr d)))]; rfl
theorem op_1 : Op_1 INV := by
  intro n h hI _ x1 x2
  have hI0 := hI
  obtain ⟨k, sm, lc, L, i1, i2, i3, i4, i5, i6, i7, i8, i9⟩ := hI
  have hw := i1.1
  have h6 := hw.2.1
  have hR := i2.1
  obtain ⟨m, hm1, hm2⟩ := i1.2.1
  have mo6 : MOb (aI h 83) 1000000 := ⟨m, by omega, hm2⟩
  rcases ix6 hw x1 with ⟨p, hp, e⟩ | hx1
  · subst e
    rcases ix (x := x2) 8 (by omega) with ⟨j, hj, e⟩ | hx2
    · subst e
      have ij : (nI j).toInt = (j : Int) := nI_toInt (by omega)
      have s0 : ¬ ((nI j).toInt < (0 : Int) ∨ (7 : Int) < (nI j).toInt) := by rw [ij]; omega
      have sj : ((nI j).toInt - (0 : Int)).toNat = j := by rw [ij]; omega
      rcases (show j < 3 ∨ j = 3 ∨ j = 4 ∨ j = 5 ∨ j = 6 ∨ j = 7 by omega) with c | c | c | c | c | c
      · refine ⟨aI h 83 (3 * p + j), h, h, ?_, ?_, INV_up hI0⟩
        · have j64 : j_X10_of_64 (nI p) (nI j) h = some (aI h 83 (3 * p + j), h) := by
            unfold j_X10_of_64
            rw [l3_, pk_mul, nI_add, Nat.mul_comm p 3, inb_nI (show 3 * p + j < 18 by omega) (by omega), Option.bind_some]
            show some (aI h 34 _, h) = _
            rw [show aI h 34 (3 * p + j) = aI h 83 (3 * p + j) from hR.2.1 _ (by omega)]
          unfold f_X10_of
          rw [k_has hR hw hp, Option.bind_some, if_pos rfl, if_neg s0, sj, j64]
          rcases tm3 c with e | e | e <;> subst e <;> rfl
        · have j56 : j_X11_of_56 (nI p) (nI j) h = some (aI h 83 (3 * p + j), h) := by
            unfold j_X11_of_56
            rw [m_partsOf (by omega) c, Option.bind_some]
          unfold f_X11_of
          rw [m_isSitter hw hp, Option.bind_some, if_pos rfl, if_neg s0, sj, j56]
          rcases tm3 c with e | e | e <;> subst e <;> rfl
      · subst c
        refine ⟨aI h 83 (25 + p), h, h, ?_, ?_, INV_up hI0⟩
        · unfold f_X10_of
          rw [k_has hR hw hp, Option.bind_some, if_pos rfl, if_neg s0, sj, if_neg (by decide), if_neg (by decide), if_neg (by decide), if_pos rfl, inb_nI (show p < 6 by omega) (by omega), Option.bind_some]
          rw [show aI h 35 p = aI h 83 (25 + p) from hR.2.2.1 p (by omega)]
        · unfold f_X11_of
          rw [m_isSitter hw hp, Option.bind_some, if_pos rfl, if_neg s0, sj, if_neg (by decide), if_neg (by decide), if_neg (by decide), if_pos rfl, l25_, m_inb (show 25 + p < 5662 by omega) (by omega), Option.bind_some]
      · subst c
        refine ⟨aI h 83 (18 + p), h, h, ?_, ?_, INV_up hI0⟩
        · unfold f_X10_of
          rw [k_has hR hw hp, Option.bind_some, if_pos rfl, if_neg s0, sj, if_neg (by decide), if_neg (by decide), if_neg (by decide), if_neg (by decide), if_pos rfl, inb_nI (show p < 6 by omega) (by omega), Option.bind_some]
          rw [show aI h 36 p = aI h 83 (18 + p) from hR.2.2.2.1 p (by omega)]
        · unfold f_X11_of
          rw [m_isSitter hw hp, Option.bind_some, if_pos rfl, if_neg s0, sj, if_neg (by decide), if_neg (by decide), if_neg (by decide), if_neg (by decide), if_pos rfl, m_seatOf (by omega), Option.bind_some]
      · subst c
        refine ⟨nI (nat3 (aI h 83) p), h, h, ?_, ?_, INV_up hI0⟩
        · unfold f_X10_of
          rw [k_has hR hw hp, Option.bind_some, if_pos rfl, if_neg s0, sj, if_neg (by decide), if_neg (by decide), if_neg (by decide), if_neg (by decide), if_neg (by decide), if_pos rfl, k_nationOf hR hw hp, Option.bind_some]
        · unfold f_X11_of
          rw [m_isSitter hw hp, Option.bind_some, if_pos rfl, if_neg s0, sj, if_neg (by decide), if_neg (by decide), if_neg (by decide), if_neg (by decide), if_neg (by decide), if_pos rfl, m_nationOf (by omega), Option.bind_some]
      · subst c
        cases ci : insb (aI h 83) p with
        | true =>
          obtain ⟨a, f1, f2, f3, f4, f5, f6⟩ := in_force i1 i2 i9
          obtain ⟨⟨h1, c1, c2⟩, -, -⟩ := f4 h ⟨rfl, rfl, rfl, rfl, rfl, rfl, f3⟩ 33 _ k p (Or.inr (Or.inr (Or.inl rfl))) hR hw mo6 hp ci
          have q83 : aI h1 83 = aI h 83 := c2.2.1 83 (by unfold wA; omega)
          obtain ⟨⟨v, h2, d1, d2, d3⟩, -, -⟩ := f5 h1 k p (fun i _ => by rw [q83]) (by rw [q83]; exact hw) (by rw [q83]; exact mo6) hp (by rw [q83]; exact ci)
          rw [q83] at d2
          refine ⟨b2i (SF (aI h 83) L (envL (aI h 83) p (-1))).1, h1, h2, ?_, ?_, INV_rd hI0 (Fr_tr (wA_sc c2) (tA_sc d3)) (by rw [d3.2.1 83 (by unfold tA; omega), q83])⟩
          · unfold f_X10_of
            rw [k_has hR hw hp, Option.bind_some, if_pos rfl, if_neg s0, sj, if_neg (by decide), if_neg (by decide), if_neg (by decide), if_neg (by decide), if_neg (by decide), if_neg (by decide), if_pos rfl, k_isInside hR hw hp, ci, Option.bind_some, if_pos rfl, f1, Option.bind_some, c1, Option.bind_some, one_if, Option.bind_some]
          · unfold f_X11_of
            rw [m_isSitter (k := k) (by rw [q83]; exact hw) hp, Option.bind_some, if_pos rfl, if_neg s0, sj, if_neg (by decide), if_neg (by decide), if_neg (by decide), if_neg (by decide), if_neg (by decide), if_neg (by decide), if_pos rfl, m_isInside (by omega), q83, ci, Option.bind_some, if_pos rfl, d1, Option.bind_some]
            exact le0_b d2
        | false =>
          refine ⟨-1, h, h, ?_, ?_, INV_up hI0⟩
          · unfold f_X10_of
            rw [k_has hR hw hp, Option.bind_some, if_pos rfl, if_neg s0, sj, if_neg (by decide), if_neg (by decide), if_neg (by decide), if_neg (by decide), if_neg (by decide), if_neg (by decide), if_pos rfl, k_isInside hR hw hp, ci, Option.bind_some, if_neg Bool.false_ne_true]
          · unfold f_X11_of
            rw [m_isSitter hw hp, Option.bind_some, if_pos rfl, if_neg s0, sj, if_neg (by decide), if_neg (by decide), if_neg (by decide), if_neg (by decide), if_neg (by decide), if_neg (by decide), if_pos rfl, m_isInside (by omega), ci, Option.bind_some, if_neg Bool.false_ne_true]
      · subst c
        cases ci : insb (aI h 83) p with
        | true =>
          obtain ⟨a, f1, f2, f3, f4, f5, f6⟩ := in_force i1 i2 i9
          obtain ⟨-, ⟨h1, c1, c2⟩, -⟩ := f4 h ⟨rfl, rfl, rfl, rfl, rfl, rfl, f3⟩ 33 _ k p (Or.inr (Or.inr (Or.inl rfl))) hR hw mo6 hp ci
          have q83 : aI h1 83 = aI h 83 := c2.2.1 83 (by unfold wA; omega)
          obtain ⟨-, ⟨v, h2, d1, d2, d3⟩, -⟩ := f5 h1 k p (fun i _ => by rw [q83]) (by rw [q83]; exact hw) (by rw [q83]; exact mo6) hp (by rw [q83]; exact ci)
          rw [q83] at d2
          refine ⟨b2i (SF (aI h 83) L (envL (aI h 83) p (-1))).2.1, h1, h2, ?_, ?_, INV_rd hI0 (Fr_tr (wA_sc c2) (tA_sc d3)) (by rw [d3.2.1 83 (by unfold tA; omega), q83])⟩
          · unfold f_X10_of
            rw [k_has hR hw hp, Option.bind_some, if_pos rfl, if_neg s0, sj, if_neg (by decide), if_neg (by decide), if_neg (by decide), if_neg (by decide), if_neg (by decide), if_neg (by decide), if_neg (by decide), if_pos rfl, k_isInside hR hw hp, ci, Option.bind_some, if_pos rfl, f1, Option.bind_some, c1, Option.bind_some, one_if, Option.bind_some]
          · unfold f_X11_of
            rw [m_isSitter (k := k) (by rw [q83]; exact hw) hp, Option.bind_some, if_pos rfl, if_neg s0, sj, if_neg (by decide), if_neg (by decide), if_neg (by decide), if_neg (by decide), if_neg (by decide), if_neg (by decide), if_neg (by decide), if_pos rfl, m_isInside (by omega), q83, ci, Option.bind_some, if_pos rfl, d1, Option.bind_some]
            exact le0_b d2
        | false =>
          refine ⟨-1, h, h, ?_, ?_, INV_up hI0⟩
          · unfold f_X10_of
            rw [k_has hR hw hp, Option.bind_some, if_pos rfl, if_neg s0, sj, if_neg (by decide), if_neg (by decide), if_neg (by decide), if_neg (by decide), if_neg (by decide), if_neg (by decide), if_neg (by decide), if_pos rfl, k_isInside hR hw hp, ci, Option.bind_some, if_neg Bool.false_ne_true]
          · unfold f_X11_of
            rw [m_isSitter hw hp, Option.bind_some, if_pos rfl, if_neg s0, sj, if_neg (by decide), if_neg (by decide), if_neg (by decide), if_neg (by decide), if_neg (by decide), if_neg (by decide), if_neg (by decide), if_pos rfl, m_isInside (by omega), ci, Option.bind_some, if_neg Bool.false_ne_true]
    · have s1 : x2.toInt < (0 : Int) ∨ (7 : Int) < x2.toInt := by
        rcases hx2 with c | c
        · rw [Int32.lt_iff_toInt_lt] at c
          exact Or.inl c
        · rw [Int32.le_iff_toInt_le, nI_toInt (by omega)] at c
          exact Or.inr (by omega)
      refine ⟨-1, h, h, ?_, ?_, INV_up hI0⟩
      · unfold f_X10_of
        rw [k_has hR hw hp, Option.bind_some, if_pos rfl, if_pos s1]
      · unfold f_X11_of
        rw [m_isSitter hw hp, Option.bind_some, if_pos rfl, if_pos s1]
  · refine ⟨-1, h, h, ?_, ?_, INV_up hI0⟩
    · unfold f_X10_of
      rw [k_has0 hR hw hx1, Option.bind_some, if_neg Bool.false_ne_true]
    · unfold f_X11_of
      rw [m_isSitter0 hw hx1, Option.bind_some, if_neg Bool.false_ne_true]
theorem op_3 : Op_3 INV := by
  intro n h hI _ x1 x2
  have hI0 := hI
  obtain ⟨k, sm, lc, L, i1, i2, i3, i4, i5, i6, i7, i8, i9⟩ := hI
  have hw := i1.1
  have h6 := hw.2.1
  have hR := i2.1
  obtain ⟨m, hm1, hm2⟩ := i1.2.1
  have mo6 : MOb (aI h 83) 1000000 := ⟨m, by omega, hm2⟩
  have ff : ¬ (false = true) := Bool.false_ne_true
  rcases ix6 hw x1 with ⟨p, hp, e⟩ | hx1
  · subst e
    rcases ix6 hw x2 with ⟨q, hq, e⟩ | hx2
    · subst e
      cases ci : insb (aI h 83) p with
      | true =>
        cases cj : insb (aI h 83) q with
        | true =>
          obtain ⟨s1, s2⟩ := seat_of hw hp ci
          obtain ⟨t1, t2⟩ := seat_of hw hq cj
          have e36p : aI h 36 p = nI (seatN (aI h 83) p) := by rw [← s1]; exact hR.2.2.2.1 p (by omega)
          have e36q : aI h 36 q = nI (seatN (aI h 83) q) := by rw [← t1]; exact hR.2.2.2.1 q (by omega)
          cases cb : decide (seatN (aI h 83) q ∈ nbs (seatN (aI h 83) p)) with
          | true =>
            obtain ⟨a, f1, f2, f3, f4, f5, f6⟩ := in_force i1 i2 i9
            obtain ⟨-, -, cc⟩ := f4 h ⟨rfl, rfl, rfl, rfl, rfl, rfl, f3⟩ 33 _ k p (Or.inr (Or.inr (Or.inl rfl))) hR hw mo6 hp ci
            obtain ⟨h1, c1, c2⟩ := cc q hq
            have q83 : aI h1 83 = aI h 83 := c2.2.1 83 (by unfold wA; omega)
            obtain ⟨-, -, dd⟩ := f5 h1 k p (fun i _ => by rw [q83]) (by rw [q83]; exact hw) (by rw [q83]; exact mo6) hp (by rw [q83]; exact ci)
            obtain ⟨h2, d1, d3⟩ := dd q hq
            rw [q83] at d1
            refine ⟨(SF (aI h 83) L (envL (aI h 83) p (nI (nat3 (aI h 83) q)))).2.2, h1, h2, ?_, ?_, INV_rd hI0 (Fr_tr (wA_sc c2) (tA_sc d3)) (by rw [d3.2.1 83 (by unfold tA; omega), q83])⟩
            · unfold f_X10_asks
              rw [k_isInside hR hw hp, ci, Option.bind_some, if_pos rfl, k_isInside hR hw hq, cj, Option.bind_some, if_pos rfl, inb_nI (show p < 6 by omega) (by omega), Option.bind_some, inb_nI (show q < 6 by omega) (by omega), Option.bind_some, e36p, e36q, c_beside _ s2 _ t2, cb, Option.bind_some, if_pos rfl, f1, Option.bind_some, c1, Option.bind_some]
            · unfold f_X11_asks
              rw [m_isSitter (k := k) (by rw [q83]; exact hw) hp, Option.bind_some, if_pos rfl, m_isSitter (k := k) (by rw [q83]; exact hw) hq, Option.bind_some, if_pos rfl, m_isInside (by omega), q83, ci, Option.bind_some, if_pos rfl, m_isInside (by omega), q83, cj, Option.bind_some, if_pos rfl, m_seatOf (by omega), Option.bind_some, m_seatOf (by omega), Option.bind_some, q83, s1, t1, m_beside _ s2 _ t2, cb, Option.bind_some, if_pos rfl, d1, Option.bind_some]
          | false =>
            refine ⟨-1, h, h, ?_, ?_, INV_up hI0⟩
            · unfold f_X10_asks
              rw [k_isInside hR hw hp, ci, Option.bind_some, if_pos rfl, k_isInside hR hw hq, cj, Option.bind_some, if_pos rfl, inb_nI (show p < 6 by omega) (by omega), Option.bind_some, inb_nI (show q < 6 by omega) (by omega), Option.bind_some, e36p, e36q, c_beside _ s2 _ t2, cb, Option.bind_some, if_neg ff]
            · unfold f_X11_asks
              rw [m_isSitter hw hp, Option.bind_some, if_pos rfl, m_isSitter hw hq, Option.bind_some, if_pos rfl, m_isInside (by omega), ci, Option.bind_some, if_pos rfl, m_isInside (by omega), cj, Option.bind_some, if_pos rfl, m_seatOf (by omega), Option.bind_some, m_seatOf (by omega), Option.bind_some, s1, t1, m_beside _ s2 _ t2, cb, Option.bind_some, if_neg ff]
        | false =>
          refine ⟨-1, h, h, ?_, ?_, INV_up hI0⟩
          · unfold f_X10_asks
            rw [k_isInside hR hw hp, ci, Option.bind_some, if_pos rfl, k_isInside hR hw hq, cj, Option.bind_some, if_neg ff]
          · unfold f_X11_asks
            rw [m_isSitter hw hp, Option.bind_some, if_pos rfl, m_isSitter hw hq, Option.bind_some, if_pos rfl, m_isInside (by omega), ci, Option.bind_some, if_pos rfl, m_isInside (by omega), cj, Option.bind_some, if_neg ff]
      | false =>
        refine ⟨-1, h, h, ?_, ?_, INV_up hI0⟩
        · unfold f_X10_asks
          rw [k_isInside hR hw hp, ci, Option.bind_some, if_neg ff]
        · unfold f_X11_asks
          rw [m_isSitter hw hp, Option.bind_some, if_pos rfl, m_isSitter hw hq, Option.bind_some, if_pos rfl, m_isInside (by omega), ci, Option.bind_some, if_neg ff]
    · refine ⟨-1, h, h, ?_, ?_, INV_up hI0⟩
      · unfold f_X10_asks
        rw [k_isInside hR hw hp, Option.bind_some, k_isInside0 hR hw hx2, Option.bind_some, if_neg ff]
        cases insb (aI h 83) p
        · rw [if_neg ff]
        · rw [if_pos rfl]
      · unfold f_X11_asks
        rw [m_isSitter hw hp, Option.bind_some, if_pos rfl, m_isSitter0 hw hx2, Option.bind_some, if_neg ff]
  · refine ⟨-1, h, h, ?_, ?_, INV_up hI0⟩
    · unfold f_X10_asks
      rw [k_isInside0 hR hw hx1, Option.bind_some, if_neg ff]
    · unfold f_X11_asks
      rw [m_isSitter0 hw hx1, Option.bind_some, if_neg ff]
