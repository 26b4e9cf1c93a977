theorem c_bk {j : Nat} (hj : j < 2) {h : Hp} (a0 : aO h 1 0 = some 40) (a1 : aO h 1 1 = some 48) (h2 : aI h 2 j = 1) : f_X10_back (nI j) h = (f_X1_copyFrom 32 (40 + 8 * j) h).bind fun v => (f_X10_answerChanged (0 : Int32) (sF v.2 10 2 0)).bind fun w => some (w.1, w.2) := by
  unfold f_X10_back
  rw [if_neg (nI_pos (by omega)), if_pos (show nI j < 2 from nI_lt (a := j) (b := 2) hj (by omega)), inb_nI hj (by omega), Option.bind_some, h2, if_neg (by decide), Option.bind_some]
  rcases (show j = 0 ∨ j = 1 by omega) with e | e <;> subst e
  · rw [a0]
    show (if (40 : Nat) = 40 then (f_X1_copyFrom 32 40 h).bind (fun v12 => (f_X4_clear 10 v12.2).bind fun v14 => (f_X10_answerChanged (0 : Int32) v14.2).bind fun v16 => some (v16.1, v16.2)) else (if (40 : Nat) = 48 then (f_X1_copyFrom 32 48 h).bind (fun v12 => (f_X4_clear 10 v12.2).bind fun v14 => (f_X10_answerChanged (0 : Int32) v14.2).bind fun v16 => some (v16.1, v16.2)) else none)) = _
    rw [if_pos rfl]
    rfl
  · rw [a1]
    show (if (48 : Nat) = 40 then (f_X1_copyFrom 32 40 h).bind (fun v12 => (f_X4_clear 10 v12.2).bind fun v14 => (f_X10_answerChanged (0 : Int32) v14.2).bind fun v16 => some (v16.1, v16.2)) else (if (48 : Nat) = 48 then (f_X1_copyFrom 32 48 h).bind (fun v12 => (f_X4_clear 10 v12.2).bind fun v14 => (f_X10_answerChanged (0 : Int32) v14.2).bind fun v16 => some (v16.1, v16.2)) else none)) = _
    rw [if_neg (by decide), if_pos rfl]
    rfl
theorem op_35 : Op_35 INV := by
  intro n h hI _ x
  have hI0 := hI
  obtain ⟨k, sm, lc, L, i1, i2, i3, i4, i5, i6, i7, i8, i9⟩ := hI
  have h28 : ln h 28 = 0 := i9.2.2.2.2.2.1
  rcases ix (x := x) 2 (by omega) with ⟨j, hj, e⟩ | hx
  · subst e
    have lj : f_X11_lies (nI j) 0 (1 : Int32) = some true := lies_n (n := 1) (by omega) (by omega)
    rcases i4 j hj with ⟨q1, q2⟩ | ⟨q1, q2, k', sm', lc', L', q3, q4⟩
    · obtain ⟨r, h1, h2, g1, g2, g3⟩ := op_ref hI0 rf2
      refine ⟨r, h1, h2, ?_, ?_, g3⟩
      · unfold f_X10_back
        rw [if_neg (nI_pos (by omega)), if_pos (show nI j < 2 from nI_lt (a := j) (b := 2) hj (by omega)), inb_nI hj (by omega), Option.bind_some, q1, if_pos rfl, bnd]
        exact g1
      · rw [c_ansR rf2] at g1
        have this : sA (sF h 0 19 (-2)) 25 2 (aI h 25 2 + 1) = h1 := congrArg Prod.snd (Option.some.inj g1)
        have e85 : aI h1 85 j = 0 := by
          rw [← this, ps_aAn _ _ _ _ _ (by omega)]
          exact q2
        unfold f_X11_back
        rw [lj, Option.bind_some, if_pos rfl, inb_nI hj (by omega), Option.bind_some, e85, if_pos rfl, bnd]
        exact g2
    · have hL : ∀ t, t < lc' → 0 < ldN L' t := fun t ht => (q3.2.2.2.2.2.2.2.1 t ht).1.2.1
      obtain ⟨g, c1, c2, c3⟩ := c_house (r := 32) q4 (by omega) (by omega) h28 hL q3.2.2.2.2.2.1
      obtain ⟨e, b1, b2, b3⟩ := m_bck (h := sF (sF (sF g 10 2 0) 68 11 (-1)) 0 19 0) hj
      have F2 : Fr (fun a => a = 83) (fun a j => a = 10 ∧ j = 2 ∨ a = 68 ∨ a = 0 ∧ j = 19 ∨ a = 81 ∧ (j = 0 ∨ j = 32)) g (sF (sF e 81 32 0) 81 0 0) := Fr_tF (Fr_tF (Fr_tr (Fr_tF (Fr_tF (Fr_sF (by omega)) (by omega)) (by omega)) (Fr_mono b3 (fun _ c => c) (fun _ _ c => c.elim))) (by omega)) (by omega)
      have e83 : ∀ i, i < 5662 → aI (sF (sF e 81 32 0) 81 0 0) 83 i = kI h j i := by
        intro i hi
        show aI e 83 i = _
        rw [b2 i, if_pos hi]
        show aI g 84 (5662 * j + i) = _
        rw [c3.2.1 84 (by unfold chA; omega)]
        rfl
      have e10 : fI (sF (sF e 81 32 0) 81 0 0) 10 2 = 0 := by
        rw [fI_n (by omega), fI_n (by omega), b3.1 _ _ (fun c => c), fI_n (by omega), fI_n (by omega), fI_s]
      have e68 : fI (sF (sF e 81 32 0) 81 0 0) 68 11 = -1 := by
        rw [fI_n (by omega), fI_n (by omega), b3.1 _ _ (fun c => c), fI_n (by omega), fI_s]
      have e19 : fI (sF (sF e 81 32 0) 81 0 0) 0 19 = 0 := by
        rw [fI_n (by omega), fI_n (by omega), b3.1 _ _ (fun c => c), fI_s]
      have e32 : fI (sF (sF e 81 32 0) 81 0 0) 81 32 = 0 := by rw [fI_n (by omega), fI_s]
      have e81 : fI (sF (sF e 81 32 0) 81 0 0) 81 0 = 0 := fI_s
      have g85 : aI (sF (sF (sF g 10 2 0) 68 11 (-1)) 0 19 0) 85 j = 1 := by
        show aI g 85 j = 1
        rw [c3.2.1 85 (by unfold chA; omega)]
        exact q2
      refine ⟨0, sF (sF (sF g 10 2 0) 68 11 (-1)) 0 19 0, sF (sF e 81 32 0) 81 0 0, ?_, ?_, ?_⟩
      · rw [c_bk hj i9.2.2.2.2.2.2.1 i9.2.2.2.2.2.2.2 q1, c1, Option.bind_some, c_ans1 (by decide), Option.bind_some]
      · unfold f_X11_back
        rw [lj, Option.bind_some, if_pos rfl, inb_nI hj (by omega), Option.bind_some, g85, if_neg (by decide), b1, Option.bind_some]
        rfl
      · generalize sF (sF e 81 32 0) 81 0 0 = h' at F2 e83 e10 e68 e19 e32 e81
        have hr : Fr (fun a => chA 32 a ∨ a = 83) (fun a i => chF 32 a i ∨ a = 10 ∧ i = 2 ∨ a = 68 ∨ a = 0 ∧ i = 19 ∨ a = 81 ∧ (i = 0 ∨ i = 32)) h (rO h h') := ⟨fun a i c => (F2.1 a i (fun d => c (Or.inr d))).trans (c3.1 a i (fun d => c (Or.inl d))), fun a c => (F2.2.1 a (fun d => c (Or.inr d))).trans (c3.2.1 a (fun d => c (Or.inl d))), fun a c => (F2.2.2.1 a (fun d => c (Or.inr d))).trans (c3.2.2.1 a (fun d => c (Or.inl d))), fun _ => rfl, fun a => (F2.2.2.2.2.1 a).trans (c3.2.2.2.2.1 a), F2.2.2.2.2.2.trans c3.2.2.2.2.2⟩
        have oO : ∀ a, a ≠ 38 → aO h' a = aO h a := fun a c => (F2.2.2.2.1 a).trans (c3.2.2.2.1 a c)
        have fI' : ∀ a i, ¬ (chF 32 a i ∨ a = 10 ∧ i = 2 ∨ a = 68 ∨ a = 0 ∧ i = 19 ∨ a = 81 ∧ (i = 0 ∨ i = 32)) → fI h' a i = fI h a i := hr.1
        have aI' : ∀ a, ¬ (chA 32 a ∨ a = 83) → aI h' a = aI h a := hr.2.1
        have kp : KpT h h' := ⟨fun a i c _ => fI' a i (by unfold chF; omega), fun a c _ => aI' a (by unfold chA; omega), fun a _ => hr.2.2.2.2.1 a, Nat.le_of_eq hr.2.2.2.2.2.symm⟩
        have kg : KpT g h' := ⟨fun a t c _ => F2.1 a t (by omega), fun a c _ => F2.2.1 a (by omega), fun a _ => F2.2.2.2.2.1 a, Nat.le_of_eq F2.2.2.2.2.2.symm⟩
        have g28 : ln g 28 = 0 := (c3.2.2.2.2.1 28).trans h28
        have hg := HR_kp c2 hL g28 kg (F2.1 _ _ (by omega)) (F2.1 _ _ (by omega)) (F2.1 _ _ (by omega)) (F2.1 _ _ (by omega)) (F2.2.1 _ (by omega)) (F2.2.1 _ (by omega)) (F2.2.1 _ (by omega)) (F2.2.1 _ (by omega)) (F2.2.1 _ (by omega)) (F2.2.2.2.1 _)
        refine ⟨k', sm', lc', L', KOK_b q3 e83, HR_b hg e83, Or.inl e68, fun i hi => ?_, ?_, ?_, ?_, ?_, ?_⟩
        · have kk : kI h' i = kI h i := by unfold kI; rw [aI' 84 (by unfold chA; omega)]
          rw [aI' 2 (by unfold chA; omega), aI' 85 (by unfold chA; omega), kk]
          rcases i4 i hi with q | ⟨s1, s2, k2, sm2, lc2, L2, s3, s4⟩
          · exact Or.inl q
          · exact Or.inr ⟨s1, s2, k2, sm2, lc2, L2, s3, HR_kp s4 (fun t ht => (s3.2.2.2.2.2.2.2.1 t ht).1.2.1) h28 kp (fI' _ _ (by unfold chF; omega)) (fI' _ _ (by unfold chF; omega)) (fI' _ _ (by unfold chF; omega)) (fI' _ _ (by unfold chF; omega)) (aI' _ (by unfold chA; omega)) (aI' _ (by unfold chA; omega)) (aI' _ (by unfold chA; omega)) (aI' _ (by unfold chA; omega)) (aI' _ (by unfold chA; omega)) (oO _ (by omega))⟩
        · exact TAP_tr (h' := rO h h') i5 hr (fun a c => by unfold chA at c; omega) (fun a i c => by unfold chF at c; omega)
        · exact MIS_g i6 (fI' _ _ (by unfold chF; omega)) (fI' _ _ (by unfold chF; omega)) (fI' _ _ (by unfold chF; omega)) (fI' _ _ (by unfold chF; omega)) (fI' _ _ (by unfold chF; omega)) (fI' _ _ (by unfold chF; omega)) (aI' _ (by unfold chA; omega)) (aI' _ (by unfold chA; omega)) e19 e81
        · exact PAS_0 i7 (fI' _ _ (by unfold chF; omega)) e10 e32
        · exact DRW_tr (h' := rO h h') i8 hr (fun a c => by unfold chA at c; omega) (fun a i c => by unfold chF at c; omega)
        · have q := CON_tr (h' := rO h h') i9 hr (fun a c => by unfold chA at c; omega) (fun a i c => by unfold chF at c; omega)
          exact ⟨q.1, q.2.1, q.2.2.1, q.2.2.2.1, q.2.2.2.2.1, q.2.2.2.2.2.1, by rw [oO 1 (by omega)]; exact i9.2.2.2.2.2.2.1, by rw [oO 1 (by omega)]; exact i9.2.2.2.2.2.2.2⟩
  · have j9 : j_X10_back_9 h = f_X10_answer (-1) h := by unfold j_X10_back_9; rw [bnd]
    refine refu (C := f_X10_back x) (M := f_X11_back x) hI0 rf1 ?_ (fun h1 e83 => ?_)
    · unfold f_X10_back
      rw [j9]
      by_cases c : x < 0
      · rw [if_pos c]
      · rw [if_neg c, if_neg (fun d => by have := hx.resolve_left c; rw [show nI 2 = 2 from rfl] at this; exact i32_nle.mpr d this)]
    · unfold f_X11_back
      rw [show ((1 : Int32)) = nI 1 from rfl, lies_0 (by omega) hx, Option.bind_some, if_neg Bool.false_ne_true, bnd]
