/-! ===== calls that only look ===== -/
theorem m_lies (x a b : Int32) : f_X11_lies x a b = some (decide (a ≤ x ∧ x ≤ b)) := by
  unfold f_X11_lies
  by_cases c : x < a
  · rw [if_pos c, decide_eq_false (fun d => i32_nle.mpr c d.1)]
  · rw [if_neg c]
    have c' : a ≤ x := by rw [Int32.le_iff_toInt_le]; rw [Int32.lt_iff_toInt_lt] at c; omega
    by_cases d : b < x
    · rw [if_pos d, decide_eq_false (fun e => i32_nle.mpr d e.2)]
    · have d' : x ≤ b := by rw [Int32.le_iff_toInt_le]; rw [Int32.lt_iff_toInt_lt] at d; omega
      rw [if_neg d, decide_eq_true ⟨c', d'⟩]
theorem lies_n {j n : Nat} (hn : n < 2 ^ 31) (hj : j ≤ n) : f_X11_lies (nI j) 0 (nI n) = some true := by
  rw [m_lies, decide_eq_true ⟨nI_pos' (by omega), nI_le hj hn⟩]
theorem lies_0 {x : Int32} {n : Nat} (hn : n + 1 < 2 ^ 31) (hx : x < 0 ∨ nI (n + 1) ≤ x) : f_X11_lies x 0 (nI n) = some false := by
  rw [m_lies, decide_eq_false]
  rintro ⟨c, d⟩
  rcases hx with e | e
  · exact i32_nle.mpr e c
  · have := Int32.le_trans e d
    exact nI_ge (show n < n + 1 by omega) hn this
theorem ix {x : Int32} (n : Nat) (hn : n < 2 ^ 31) : (∃ j, j < n ∧ x = nI j) ∨ (x < 0 ∨ nI n ≤ x) := by
  rcases pk_ix x hn with h | h | h
  · exact Or.inr (Or.inl h)
  · exact Or.inr (Or.inr h)
  · exact Or.inl h
theorem not01 {x : Int32} {n : Nat} (hx : x < 0 ∨ nI n ≤ x) (hn : n < 2 ^ 31) {j : Nat} (hj : j < n) : x ≠ nI j := by
  intro e
  rw [e] at hx
  rcases hx with h | h
  · exact nI_pos (by omega) h
  · exact nI_ge hj hn h
theorem op_2 : Op_2 INV := by
  intro n h hI _ x
  refine ⟨(f_X10_at x h).getD 0, ?_, ?_, INV_up hI⟩
  all_goals obtain ⟨k, sm, lc, L, i1, i2, -⟩ := hI
  all_goals have hw := i1.1
  all_goals have e1 : f_X10_at x h = some (if x = -1 then -1 else whoK (aI h 83) k x) := by
              unfold f_X10_at
              rw [k_whoAt i2.1 hw, Option.bind_some]
  · rw [e1]; rfl
  · rw [e1]
    unfold f_X11_at f_X11_isSeat
    rcases ix (x := x) 9 (by omega) with ⟨j, j1, j2⟩ | hx
    · rw [j2, show ((8 : Int32)) = nI 8 from rfl, lies_n (by omega) (show j ≤ 8 by omega), Option.bind_some, Option.bind_some, if_pos rfl, m_onSeat hw (nI_ne1 (by omega)), Option.bind_some, if_neg (nI_ne1 (by omega))]
      rfl
    · rw [show ((8 : Int32)) = nI 8 from rfl, lies_0 (n := 8) (by omega) hx, Option.bind_some, Option.bind_some, if_neg (by decide)]
      show some (-1) = some (if x = -1 then -1 else whoK (aI h 83) k x)
      by_cases c : x = -1
      · rw [if_pos c]
      · rw [if_neg c, who_none]
        intro q hq e
        rcases hw.2.2.2.1 q hq with d | ⟨s, s1, s2⟩
        · exact c (e.symm.trans d)
        · exact not01 hx (by omega) s1 (e.symm.trans s2)
theorem op_8 : Op_8 INV := by
  intro n h hI _
  obtain ⟨k, sm, lc, L, i1, i2, i3, i4, i5, i6, -⟩ := id hI
  exact ⟨fI h 0 18, rfl, by rw [i6.2.1]; rfl, INV_up hI⟩
theorem op_11 : Op_11 INV := by
  intro n h hI _
  obtain ⟨k, sm, lc, L, i1, i2, i3, i4, i5, i6, -⟩ := id hI
  exact ⟨fI h 0 17, rfl, by rw [i6.1]; rfl, INV_up hI⟩
theorem op_12 : Op_12 INV := by
  intro n h hI _
  obtain ⟨k, sm, lc, L, i1, i2, i3, i4, i5, i6, -⟩ := id hI
  exact ⟨fI h 60 6, rfl, by rw [i6.2.2.2.1]; rfl, INV_up hI⟩
theorem op_37 : Op_37 INV := by
  intro n h hI _
  obtain ⟨k, sm, lc, L, i1, i2, i3, i4, i5, i6, -⟩ := id hI
  exact ⟨fI h 0 19, rfl, by rw [i6.2.2.1]; rfl, INV_up hI⟩
theorem op_33 : Op_33 INV := by
  intro n h hI _ x y
  obtain ⟨k, sm, lc, L, i1, i2, i3, i4, i5, i6, i7, i8, -⟩ := id hI
  have hup := INV_up hI
  rcases i8 with ⟨d1, d2⟩ | ⟨d, d0, d1, d2, d3, d4, d5⟩
  · refine ⟨-1, ?_, ?_, hup⟩
    · unfold f_X10_drawn f_X6_has
      rw [d1]
      by_cases c : x < 0
      · rw [if_pos c, Option.bind_some, if_neg (by decide)]
      · rw [if_neg c, if_pos (by rw [Int32.le_iff_toInt_le]; rw [Int32.lt_iff_toInt_lt] at c; omega), Option.bind_some, if_neg (by decide)]
    · unfold f_X11_drawn
      rw [d2, m_lies, decide_eq_false, Option.bind_some, if_neg (by decide)]
      rintro ⟨c, e⟩
      have := Int32.le_trans c e
      revert this
      decide
  · rcases ix (x := x) d (by omega) with ⟨p, p1, p2⟩ | hx
    · subst p2
      have hh : f_X6_has 17 (nI p) h = some true := by
        unfold f_X6_has
        rw [if_neg (nI_pos (by omega)), d2, if_neg (nI_ge p1 (by omega))]
      have hl : f_X11_lies (nI p) 0 (fI h 81 54 - 1) = some true := by
        rw [d3, show ((1 : Int32)) = nI 1 from rfl, pk_sub (by omega)]
        exact lies_n (by omega) (by omega)
      unfold f_X10_drawn f_X11_drawn
      rw [hh, hl, Option.bind_some, Option.bind_some, if_pos rfl, if_pos rfl]
      rcases ix (x := y) 4 (by omega) with ⟨j, j1, j2⟩ | hy
      · subst j2
        rw [if_neg (nI_pos (by omega)), if_pos (show nI j ≤ 3 from nI_le (a := j) (b := 3) (by omega) (by omega)), show ((3 : Int32)) = nI 3 from rfl, lies_n (by omega) (show j ≤ 3 by omega), Option.bind_some, if_pos rfl]
        by_cases c3 : j = 3
        · subst c3
          refine ⟨aI h 20 p, ?_, ?_, hup⟩
          · rw [if_pos rfl, inb_nI (show p < 6 by omega) (by omega), Option.bind_some]
          · rw [if_pos rfl, l18_, nI_add, inb_nI (show 18 + p < 25 by omega) (by omega), Option.bind_some, d5 p (by omega)]
        · have n3 : ¬ nI j = nI 3 := fun e => c3 ((nI_eq (by omega) (by omega)).mp e)
          refine ⟨aI h 18 (3 * p + j), ?_, ?_, hup⟩
          · rw [if_neg n3, pk_mul, nI_add, show p * 3 + j = 3 * p + j by omega, inb_nI (show 3 * p + j < 18 by omega) (by omega), Option.bind_some]
          · rw [if_neg n3, pk_mul, l0_, nI_add, nI_add, Nat.zero_add, inb_nI (show 3 * p + j < 25 by omega) (by omega), Option.bind_some, d4 _ (by omega)]
      · refine ⟨-1, ?_, ?_, hup⟩
        · by_cases c : y < 0
          · rw [if_pos c]
          · rw [if_neg c, if_neg]
            intro e
            rcases hy with d | d
            · exact c d
            · exact nI_ge (show 3 < 4 by omega) (by omega) (Int32.le_trans d (show y ≤ nI 3 from e))
        · rw [show ((3 : Int32)) = nI 3 from rfl, lies_0 (n := 3) (by omega) hy, Option.bind_some, if_neg (by decide)]
    · refine ⟨-1, ?_, ?_, hup⟩
      · unfold f_X10_drawn f_X6_has
        rw [d2]
        by_cases c : x < 0
        · rw [if_pos c, Option.bind_some, if_neg (by decide)]
        · rw [if_neg c, if_pos (hx.resolve_left c), Option.bind_some, if_neg (by decide)]
      · unfold f_X11_drawn
        rw [d3, show ((1 : Int32)) = nI 1 from rfl, pk_sub (by omega), lies_0 (n := d - 1) (by omega) (by rw [show d - 1 + 1 = d by omega]; exact hx), Option.bind_some, if_neg (by decide)]
/-- all parts of a nation -/
def allK (K : Nat → Int32) (k c : Nat) : Int32 := itr (fun (a : Int32) p => a + K (3 * p + c)) k 0 0
theorem c_all {h : Hp} {r k : Nat} {K : Nat → Int32} (hr : RRh h r K) (hw : WF K k) {c : Nat} (hc : c < 3) : f_X6_allPartsOf r (nI c) h = some (allK K k c) := by
  have h6 := hw.2.1
  unfold f_X6_allPartsOf
  have key := lp_fold (b := fun s => b_X6_allPartsOf_4 r (nI c) s.1 s.2 h) (fun (a : Int32) p => a + K (3 * p + c)) (fun a => a) k 0 (by omega) ?_ ?_
  · rw [show (((0 : Int32), (0 : Int32))) = (0, nI 0) from rfl, key]
    rfl
  · intro i a hi
    show b_X6_allPartsOf_4 r (nI c) a (nI i) h = _
    unfold b_X6_allPartsOf_4
    rw [k_sn hr hw, if_neg (nI_ge hi (by omega)), l3_, pk_mul, nI_add, show i * 3 + c = 3 * i + c by omega, inb_nI (show 3 * i + c < 18 by omega) (by omega), Option.bind_some, hr.2.1 _ (by omega), nI_1]
  · intro a
    show b_X6_allPartsOf_4 r (nI c) a (nI k) h = _
    unfold b_X6_allPartsOf_4
    rw [k_sn hr hw, if_pos (Int32.le_refl _)]
theorem m_all {h : Hp} {k : Nat} (hw : WF (aI h 83) k) {c : Nat} (hc : c < 3) : f_X11_allOf (nI c) h = some (allK (aI h 83) k c) := by
  have h6 := hw.2.1
  unfold f_X11_allOf
  have key := lp_fold (b := fun s => b_X11_allOf_4 (nI c) s.1 s.2 h) (fun (a : Int32) p => a + aI h 83 (3 * p + c)) (fun a => a) k 0 (by omega) ?_ ?_
  · rw [show (((0 : Int32), (0 : Int32))) = (0, nI 0) from rfl, key]
    rfl
  · intro i a hi
    show b_X11_allOf_4 (nI c) a (nI i) h = _
    unfold b_X11_allOf_4
    rw [m_many hw, Option.bind_some, if_neg (nI_ge hi (by omega)), m_partsOf (by omega) hc, Option.bind_some, nI_1]
  · intro a
    show b_X11_allOf_4 (nI c) a (nI k) h = _
    unfold b_X11_allOf_4
    rw [m_many hw, Option.bind_some, if_pos (Int32.le_refl _)]
theorem op_36 : Op_36 INV := by
  intro n h hI _ x
  obtain ⟨k, sm, lc, L, i1, i2, i3, i4, i5, i6, i7, i8, -⟩ := id hI
  have hup := INV_up hI
  have hw := i1.1
  obtain ⟨m1, m2, m3, m4, m5⟩ := i6
  rcases ix (x := x) 18 (by omega) with ⟨j, j1, j2⟩ | hx
  · subst j2
    have hj : j = 0 ∨ j = 1 ∨ j = 2 ∨ j = 3 ∨ j = 4 ∨ j = 5 ∨ j = 6 ∨ j = 7 ∨ j = 8 ∨ j = 9 ∨ j = 10 ∨ j = 11 ∨ j = 12 ∨ j = 13 ∨ j = 14 ∨ j = 15 ∨ j = 16 ∨ j = 17 := by omega
    rcases hj with e | e | e | e | e | e | e | e | e | e | e | e | e | e | e | e | e | e <;> subst e
    · exact ⟨fI h 33 0, rfl, by rw [i2.1.1]; rfl, hup⟩
    · refine ⟨nI (cntN (insb (aI h 83)) k), ?_, ?_, hup⟩
      · show ((f_X6_countInside 33 h).bind fun v4 => some v4) = _
        rw [k_countInside i2.1 hw, Option.bind_some]
      · show ((f_X11_insideMany h).bind fun v4 => some v4) = _
        rw [m_insideMany hw, Option.bind_some]
    · exact ⟨fI h 32 6, rfl, by rw [i2.2.1, ← i1.2.2.2.1]; rfl, hup⟩
    · exact ⟨fI h 32 3, rfl, by rw [i2.2.2.2.1, ← i1.2.2.2.2.2.2.1]; rfl, hup⟩
    · obtain ⟨nx, u, -, -, -, p4, p5, -⟩ := i7
      exact ⟨fI h 10 2, rfl, by rw [p4, ← p5]; rfl, hup⟩
    · obtain ⟨tl, bt, -, t2, t3, -⟩ := i5
      exact ⟨fI h 0 16, rfl, by rw [t2, ← t3]; rfl, hup⟩
    · exact ⟨aI h 25 1, rfl, by rw [m5 1 (by omega)]; rfl, hup⟩
    · exact ⟨aI h 25 2, rfl, by rw [m5 2 (by omega)]; rfl, hup⟩
    · exact ⟨aI h 25 3, rfl, by rw [m5 3 (by omega)]; rfl, hup⟩
    · exact ⟨aI h 25 5, rfl, by rw [m5 5 (by omega)]; rfl, hup⟩
    · exact ⟨aI h 25 6, rfl, by rw [m5 6 (by omega)]; rfl, hup⟩
    · exact ⟨fI h 32 4, rfl, by rw [i2.2.2.2.2.2.2]; rfl, hup⟩
    · exact ⟨aI h 37 0, rfl, by rw [show aI h 37 0 = _ from i2.1.2.2.2.2.1]; rfl, hup⟩
    · exact ⟨aI h 37 1, rfl, by rw [show aI h 37 1 = _ from i2.1.2.2.2.2.2.1]; rfl, hup⟩
    · exact ⟨aI h 37 2, rfl, by rw [show aI h 37 2 = _ from i2.1.2.2.2.2.2.2]; rfl, hup⟩
    · refine ⟨allK (aI h 83) k 0, ?_, ?_, hup⟩
      · show ((f_X6_allPartsOf 33 (nI 15 - 15) h).bind fun v4 => some v4) = _
        rw [show nI 15 - 15 = nI 0 by decide, c_all i2.1 hw (by omega), Option.bind_some]
      · show ((f_X11_allOf (nI 15 - 15) h).bind fun v4 => some v4) = _
        rw [show nI 15 - 15 = nI 0 by decide, m_all hw (by omega), Option.bind_some]
    · refine ⟨allK (aI h 83) k 1, ?_, ?_, hup⟩
      · show ((f_X6_allPartsOf 33 (nI 16 - 15) h).bind fun v4 => some v4) = _
        rw [show nI 16 - 15 = nI 1 by decide, c_all i2.1 hw (by omega), Option.bind_some]
      · show ((f_X11_allOf (nI 16 - 15) h).bind fun v4 => some v4) = _
        rw [show nI 16 - 15 = nI 1 by decide, m_all hw (by omega), Option.bind_some]
    · refine ⟨allK (aI h 83) k 2, ?_, ?_, hup⟩
      · show ((f_X6_allPartsOf 33 (nI 17 - 15) h).bind fun v4 => some v4) = _
        rw [show nI 17 - 15 = nI 2 by decide, c_all i2.1 hw (by omega), Option.bind_some]
      · show ((f_X11_allOf (nI 17 - 15) h).bind fun v4 => some v4) = _
        rw [show nI 17 - 15 = nI 2 by decide, m_all hw (by omega), Option.bind_some]
  · have hc : x.toInt < (0 : Int) ∨ (17 : Int) < x.toInt := by
      rcases hx with e | e
      · left; rw [Int32.lt_iff_toInt_lt] at e; exact e
      · right
        rw [Int32.le_iff_toInt_le, nI_toInt (by omega)] at e
        omega
    refine ⟨-1, ?_, ?_, hup⟩
    · unfold f_X10_count; rw [if_pos hc]
    · unfold f_X11_count; rw [if_pos hc]
