theorem c_img {j : Nat} (hj : j < 2) {h : Hp} (a0 : aO h 1 0 = some 40) (a1 : aO h 1 1 = some 48) : f_X10_image (nI j) h = (f_X1_copyFrom (40 + 8 * j) 32 h).bind fun v => (f_X10_answer (0 : Int32) (sA v.2 2 j 1)).bind fun w => some (w.1, w.2) := by
  unfold f_X10_image
  rw [if_neg (nI_pos (by omega)), if_pos (show nI j < 2 from nI_lt (a := j) (b := 2) hj (by omega)), inb_nI hj (by omega), Option.bind_some]
  rcases (show j = 0 ∨ j = 1 by omega) with e | e <;> subst e
  · rw [a0]
    show (if (40 : Nat) = 40 then (f_X1_copyFrom 40 32 h).bind (fun v9 => (some 0).bind fun j11 => (f_X10_answer (0 : Int32) (sA v9.2 2 j11 (b2i true))).bind fun v13 => some (v13.1, v13.2)) else (if (40 : Nat) = 48 then (f_X1_copyFrom 48 32 h).bind (fun v9 => (some 0).bind fun j11 => (f_X10_answer (0 : Int32) (sA v9.2 2 j11 (b2i true))).bind fun v13 => some (v13.1, v13.2)) else none)) = _
    rw [if_pos rfl]
    rfl
  · rw [a1]
    show (if (48 : Nat) = 40 then (f_X1_copyFrom 40 32 h).bind (fun v9 => (some 1).bind fun j11 => (f_X10_answer (0 : Int32) (sA v9.2 2 j11 (b2i true))).bind fun v13 => some (v13.1, v13.2)) else (if (48 : Nat) = 48 then (f_X1_copyFrom 48 32 h).bind (fun v9 => (some 1).bind fun j11 => (f_X10_answer (0 : Int32) (sA v9.2 2 j11 (b2i true))).bind fun v13 => some (v13.1, v13.2)) else none)) = _
    rw [if_neg (by decide), if_pos rfl]
    rfl
theorem op_34 : Op_34 INV := by
  intro n h hI _ x
  have hI0 := hI
  obtain ⟨k, sm, lc, L, i1, i2, i3, i4, i5, i6, i7, i8, i9⟩ := hI
  have h28 : ln h 28 = 0 := i9.2.2.2.2.2.1
  have hL : ∀ t, t < lc → 0 < ldN L t := fun t ht => (i1.2.2.2.2.2.2.2.1 t ht).1.2.1
  rcases ix (x := x) 2 (by omega) with ⟨j, hj, e⟩ | hx
  · subst e
    obtain ⟨g, c1, c2, c3⟩ := c_house (r := 40 + 8 * j) i2 (by omega) (by omega) h28 hL i1.2.2.2.2.2.1
    obtain ⟨e, b1, b2, b3, b4⟩ := m_img (h := sF (sA g 2 j 1) 0 19 0) hj
    have g83 : aI g 83 = aI h 83 := c3.2.1 83 (by unfold chA; omega)
    have q83 : aI (sF (sA g 2 j 1) 0 19 0) 83 = aI h 83 := by
      show aI (sA g 2 j 1) 83 = _
      rw [ps_aAn _ _ _ _ _ (by omega), g83]
    have F2 : Fr (fun a => a = 2 ∨ a = 84 ∨ a = 85) (fun a j => a = 0 ∧ j = 19 ∨ a = 81 ∧ j = 0) g (sF (sA e 85 j 1) 81 0 0) := Fr_tF (Fr_tA (Fr_tr (Fr_tF (Fr_sA (by omega)) (by omega)) (Fr_mono b4 (fun _ c => by omega) (fun _ _ c => c.elim))) (by omega)) (by omega)
    have e2 : ∀ i, aI (sF (sA e 85 j 1) 81 0 0) 2 i = upd (aI h 2) j 1 i := by
      intro i
      rw [ps_aF, ps_aAn _ _ _ _ _ (by omega), b4.2.1 2 (by omega)]
      show aI (sA g 2 j 1) 2 i = _
      rw [ps_aAs, c3.2.1 2 (by unfold chA; omega)]
    have e85 : ∀ i, aI (sF (sA e 85 j 1) 81 0 0) 85 i = upd (aI h 85) j 1 i := by
      intro i
      rw [ps_aF, ps_aAs, b4.2.1 85 (by omega)]
      show upd (aI (sA g 2 j 1) 85) j 1 i = _
      rw [ps_aAn _ _ _ _ _ (by omega), c3.2.1 85 (by unfold chA; omega)]
    have e84a : ∀ i, i < 5662 → aI (sF (sA e 85 j 1) 81 0 0) 84 (5662 * j + i) = aI h 83 i := by
      intro i hi
      rw [ps_aF, ps_aAn _ _ _ _ _ (by omega), b2 i hi, q83]
    have e84b : ∀ i, ¬ (5662 * j ≤ i ∧ i < 5662 * j + 5662) → aI (sF (sA e 85 j 1) 81 0 0) 84 i = aI h 84 i := by
      intro i hi
      rw [ps_aF, ps_aAn _ _ _ _ _ (by omega), b3 i hi]
      show aI (sA g 2 j 1) 84 i = _
      rw [ps_aAn _ _ _ _ _ (by omega), c3.2.1 84 (by unfold chA; omega)]
    have e19 : fI (sF (sA e 85 j 1) 81 0 0) 0 19 = 0 := by
      rw [fI_n (by omega), ps_fA, b4.1 _ _ (fun c => c), fI_s]
    have e81 : fI (sF (sA e 85 j 1) 81 0 0) 81 0 = 0 := fI_s
    refine ⟨0, sF (sA g 2 j 1) 0 19 0, sF (sA e 85 j 1) 81 0 0, ?_, ?_, ?_⟩
    · rw [c_img hj i9.2.2.2.2.2.2.1 i9.2.2.2.2.2.2.2, c1, Option.bind_some, c_ans0 (by decide), Option.bind_some]
    · unfold f_X11_image
      rw [show f_X11_lies (nI j) 0 (1 : Int32) = some true from lies_n (n := 1) (by omega) (by omega), Option.bind_some, if_pos rfl, b1, Option.bind_some, inb_nI hj (by omega), Option.bind_some]
      rfl
    · generalize sF (sA e 85 j 1) 81 0 0 = h' at F2 e2 e85 e84a e84b e19 e81
      have hr : Fr (fun a => chA (40 + 8 * j) a ∨ a = 2 ∨ a = 84 ∨ a = 85) (fun a i => chF (40 + 8 * j) a i ∨ a = 0 ∧ i = 19 ∨ a = 81 ∧ i = 0) h (rO h h') := ⟨fun a i c => (F2.1 a i (fun d => c (Or.inr d))).trans (c3.1 a i (fun d => c (Or.inl d))), fun a c => (F2.2.1 a (fun d => c (Or.inr d))).trans (c3.2.1 a (fun d => c (Or.inl d))), fun a c => (F2.2.2.1 a (fun d => c (Or.inr d))).trans (c3.2.2.1 a (fun d => c (Or.inl d))), fun _ => rfl, fun a => (F2.2.2.2.2.1 a).trans (c3.2.2.2.2.1 a), F2.2.2.2.2.2.trans c3.2.2.2.2.2⟩
      have oO : ∀ a, a ≠ 40 + 8 * j + 6 → aO h' a = aO h a := fun a c => (F2.2.2.2.1 a).trans (c3.2.2.2.1 a c)
      have fI' : ∀ a i, ¬ (chF (40 + 8 * j) a i ∨ a = 0 ∧ i = 19 ∨ a = 81 ∧ i = 0) → fI h' a i = fI h a i := hr.1
      have aI' : ∀ a, ¬ (chA (40 + 8 * j) a ∨ a = 2 ∨ a = 84 ∨ a = 85) → aI h' a = aI h a := hr.2.1
      have kp : KpT h h' := ⟨fun a i c _ => fI' a i (by unfold chF; omega), fun a c _ => aI' a (by unfold chA; omega), fun a _ => hr.2.2.2.2.1 a, Nat.le_of_eq hr.2.2.2.2.2.symm⟩
      have e83 : aI h' 83 = aI h 83 := aI' 83 (by unfold chA; omega)
      refine ⟨k, sm, lc, L, by rw [e83]; exact i1, ?_, ?_, fun i hi => ?_, ?_, ?_, ?_, ?_, ?_⟩
      · rw [e83]
        exact HR_kp i2 hL h28 kp (fI' _ _ (by unfold chF; omega)) (fI' _ _ (by unfold chF; omega)) (fI' _ _ (by unfold chF; omega)) (fI' _ _ (by unfold chF; omega)) (aI' _ (by unfold chA; omega)) (aI' _ (by unfold chA; omega)) (aI' _ (by unfold chA; omega)) (aI' _ (by unfold chA; omega)) (aI' _ (by unfold chA; omega)) (oO _ (by omega))
      · rw [e83]
        exact CAC_tr (h' := rO h h') i3 hr (fun a c => by unfold chA at c; omega) (fun a i c => by unfold chF at c; omega)
      · by_cases ci : i = j
        · subst ci
          have kk : ∀ t, t < 5662 → kI h' i t = aI h 83 t := e84a
          have kg : KpT g h' := ⟨fun a t c _ => F2.1 a t (by omega), fun a c _ => F2.2.1 a (by omega), fun a _ => F2.2.2.2.2.1 a, Nat.le_of_eq F2.2.2.2.2.2.symm⟩
          have g28 : ln g 28 = 0 := (c3.2.2.2.2.1 28).trans h28
          have hg := HR_kp c2 hL g28 kg (F2.1 _ _ (by omega)) (F2.1 _ _ (by omega)) (F2.1 _ _ (by omega)) (F2.1 _ _ (by omega)) (F2.2.1 _ (by omega)) (F2.2.1 _ (by omega)) (F2.2.1 _ (by omega)) (F2.2.1 _ (by omega)) (F2.2.1 _ (by omega)) (F2.2.2.2.1 _)
          exact Or.inr ⟨by rw [e2, pk_us], by rw [e85, pk_us], k, sm, lc, L, KOK_b i1 kk, HR_b hg kk⟩
        · have kk : ∀ t, t < 5662 → kI h' i t = kI h i t := fun t ht => e84b _ (by omega)
          rcases i4 i hi with q | ⟨q1, q2, k', sm', lc', L', q3, q4⟩
          · exact Or.inl ⟨by rw [e2, pk_un ci]; exact q.1, by rw [e85, pk_un ci]; exact q.2⟩
          · refine Or.inr ⟨by rw [e2, pk_un ci]; exact q1, by rw [e85, pk_un ci]; exact q2, k', sm', lc', L', KOK_b q3 kk, HR_b ?_ kk⟩
            exact HR_kp q4 (fun t ht => (q3.2.2.2.2.2.2.2.1 t ht).1.2.1) h28 kp (fI' _ _ (by unfold chF; omega)) (fI' _ _ (by unfold chF; omega)) (fI' _ _ (by unfold chF; omega)) (fI' _ _ (by unfold chF; omega)) (aI' _ (by unfold chA; omega)) (aI' _ (by unfold chA; omega)) (aI' _ (by unfold chA; omega)) (aI' _ (by unfold chA; omega)) (aI' _ (by unfold chA; omega)) (oO _ (by omega))
      · exact TAP_tr (h' := rO h h') i5 hr (fun a c => by unfold chA at c; omega) (fun a i c => by unfold chF at c; omega)
      · exact MIS_g i6 (fI' _ _ (by unfold chF; omega)) (fI' _ _ (by unfold chF; omega)) (fI' _ _ (by unfold chF; omega)) (fI' _ _ (by unfold chF; omega)) (fI' _ _ (by unfold chF; omega)) (fI' _ _ (by unfold chF; omega)) (aI' _ (by unfold chA; omega)) (aI' _ (by unfold chA; omega)) e19 e81
      · rw [e83]
        exact PAS_tr (h' := rO h h') i7 hr (fun a c => by unfold chA at c; omega) (fun a i c => by unfold chF at c; omega)
      · exact DRW_tr (h' := rO h h') i8 hr (fun a c => by unfold chA at c; omega) (fun a i c => by unfold chF at c; omega)
      · have q := CON_tr (h' := rO h h') i9 hr (fun a c => by unfold chA at c; omega) (fun a i c => by unfold chF at c; omega)
        exact ⟨q.1, q.2.1, q.2.2.1, q.2.2.2.1, q.2.2.2.2.1, q.2.2.2.2.2.1, by rw [oO 1 (by omega)]; exact i9.2.2.2.2.2.2.1, by rw [oO 1 (by omega)]; exact i9.2.2.2.2.2.2.2⟩
  · have j9 : j_X10_image_9 h = f_X10_answer (-1) h := by unfold j_X10_image_9; rw [bnd]
    refine refu (C := f_X10_image x) (M := f_X11_image x) hI0 rf1 ?_ (fun h1 e83 => ?_)
    · unfold f_X10_image
      rw [j9]
      by_cases c : x < 0
      · rw [if_pos c]
      · rw [if_neg c, if_neg (fun d => by have := hx.resolve_left c; rw [show nI 2 = 2 from rfl] at this; exact i32_nle.mpr d this)]
    · unfold f_X11_image
      rw [show ((1 : Int32)) = nI 1 from rfl, lies_0 (by omega) hx, Option.bind_some, if_neg Bool.false_ne_true, bnd]
