theorem r4 : ∀ t, t < 401 → (nI t - nI t / 4 * 4 = 0 ↔ t % 4 = 0) := by decide +kernel
theorem op_7 : Op_7 INV := by
  intro n h hI _
  have hI0 := hI
  obtain ⟨k, sm, lc, L, i1, i2, i3, i4, i5, i6, i7, i8, i9⟩ := hI
  obtain ⟨tl, bt, t1, t2, t3, t4, t5⟩ := id i5
  have hw := i1.1
  by_cases c0 : tl = 0
  · subst c0
    refine refu2 (C := f_X10_row) (M := f_X11_row) hI0 rf6 ?_ (fun h1 e83 e81 => ?_)
    · unfold f_X10_row
      rw [t2, if_pos (show nI 0 = 0 from rfl), bnd]
    · have e13 : fI h1 81 13 = 0 := by rw [e81]; exact t3
      unfold f_X11_row
      rw [e13, if_pos rfl, sF_id e13, bnd]
  · have F0 : Fr noA (fun a j => a = 0 ∧ j = 18) h (sF h 0 18 0) := Fr_sF ⟨rfl, rfl⟩
    obtain ⟨g1, a1, a2, a3, a4⟩ := c_row (h := sF h 0 18 0) (bt := bt) (RR_fr i2.1 F0 (by omega) (fun c => c) (fun c => c) (fun c => c) (fun c => c)) hw t1 (by rw [fI_n (by omega)]; exact t2) fI_s t4 (fun i hi => (t5 i hi).1)
    obtain ⟨w1, w2, w3, w4, w5⟩ := rw_ok (bt := bt) hw (tl / 4)
    have n6 := w1.2.1
    have F1 : Fr (fun x => 34 ≤ x ∧ x ≤ 36) (fun a j => a = 33 ∧ j = 0 ∨ a = 0 ∧ (j = 18 ∨ j = 16 ∨ j = 19) ∨ a = 10 ∧ j = 2 ∨ a = 68) h (sF (sF (sF (sF g1 0 16 0) 10 2 0) 68 11 (-1)) 0 19 0) := Fr_tF (Fr_tF (Fr_tF (Fr_tF (Fr_tr (Fr_mono F0 (fun _ c => c.elim) (fun _ _ c => by omega)) (Fr_mono a4 (fun _ c => c) (fun _ _ c => by omega))) (by omega)) (by omega)) (by omega)) (by omega)
    have q83 : aI (sF (sF (sF (sF g1 0 16 0) 10 2 0) 68 11 (-1)) 0 19 0) 83 = aI h 83 := F1.2.1 83 (by omega)
    have q88 : aI (sF (sF (sF (sF g1 0 16 0) 10 2 0) 68 11 (-1)) 0 19 0) 88 = aI h 88 := F1.2.1 88 (by omega)
    have q13 : fI (sF (sF (sF (sF g1 0 16 0) 10 2 0) 68 11 (-1)) 0 19 0) 81 13 = nI tl := by rw [F1.1 _ _ (by omega)]; exact t3
    have b16 : fI (sF (sF (sF (sF g1 0 16 0) 10 2 0) 68 11 (-1)) 0 19 0) 0 16 = 0 := by rw [fI_n (by omega), fI_n (by omega), fI_n (by omega), fI_s]
    have b18 : fI (sF (sF (sF (sF g1 0 16 0) 10 2 0) 68 11 (-1)) 0 19 0) 0 18 = nI ((tl + 3) / 4 + k - rwN bt k (tl / 4)) := by rw [fI_n (by omega), fI_n (by omega), fI_n (by omega), fI_n (by omega)]; exact a3
    have b10 : fI (sF (sF (sF (sF g1 0 16 0) 10 2 0) 68 11 (-1)) 0 19 0) 10 2 = 0 := by rw [fI_n (by omega), fI_n (by omega), fI_s]
    have b68 : fI (sF (sF (sF (sF g1 0 16 0) 10 2 0) 68 11 (-1)) 0 19 0) 68 11 = -1 := by rw [fI_n (by omega), fI_s]
    have b19 : fI (sF (sF (sF (sF g1 0 16 0) 10 2 0) 68 11 (-1)) 0 19 0) 0 19 = 0 := fI_s
    have bR : RRh (sF (sF (sF (sF g1 0 16 0) 10 2 0) 68 11 (-1)) 0 19 0) 33 (rwK bt k (aI h 83) (tl / 4)) := RR_fr (A := noA) (F := fun a _ => a = 0 ∨ a = 10 ∨ a = 68) a2 (Fr_tF (Fr_tF (Fr_tF (Fr_sF (by omega)) (by omega)) (by omega)) (by omega)) (by omega) (fun c => c) (fun c => c) (fun c => c) (fun c => c)
    have eC : f_X10_row h = some (nI (rwN bt k (tl / 4) - k), sF (sF (sF (sF g1 0 16 0) 10 2 0) 68 11 (-1)) 0 19 0) := by
      unfold f_X10_row
      rw [t2, if_neg (show ¬ nI tl = 0 from fun c => c0 ((nI_eq (by omega) (by omega)).mp (show nI tl = nI 0 from c))), a1, Option.bind_some]
      show (f_X10_answerChanged (nI (rwN bt k (tl / 4) - k)) (sF (sF g1 0 16 0) 10 2 0)).bind _ = _
      rw [c_ans1 (nI_pos' (by omega)), Option.bind_some]
    generalize sF (sF (sF (sF g1 0 16 0) 10 2 0) 68 11 (-1)) 0 19 0 = h1 at F1 q83 q88 q13 b16 b18 b10 b68 b19 bR eC
    have ref : ∀ s0, s0 ≤ 1 → s0 + tl / 4 = (tl + 3) / 4 → ∃ h2, j_X11_row_35 (nI tl) 0 (nI s0) (sF h1 81 13 0) = some (nI (rwN bt k (tl / 4) - k), sF (sF h2 81 32 0) 81 0 0) ∧ aI h2 83 = rwK bt k (aI h 83) (tl / 4) ∧ fI h2 81 6 = nI ((tl + 3) / 4 + k - rwN bt k (tl / 4)) ∧ fI h2 81 13 = 0 ∧ Fr (fun x => x = 83) (fun x j => x = 81 ∧ (j = 6 ∨ j = 13)) h1 h2 := by
      intro s0 hs es
      obtain ⟨h2, m1, m2, m3, m4⟩ := m_row (h := sF (sF h1 81 13 0) 81 6 (nI s0)) (K := aI h 83) (bt := bt) (s0 := s0) (by show aI h1 83 = _; exact q83) hw t1 fI_s hs t4 (fun i hi => by show aI h1 88 i = _; rw [q88]; exact (t5 i hi).2)
      refine ⟨h2, ?_, m2, by rw [m3, es], by rw [m4.1 _ _ (by omega), fI_n (by omega), fI_s], Fr_tr (Fr_tF (Fr_sF (by omega)) (by omega)) (Fr_mono m4 (fun _ c => c) (fun _ _ c => by omega))⟩
      unfold j_X11_row_35
      rw [m1, Option.bind_some]
      rfl
    have ref2 : ∃ h2, f_X11_row h1 = some (nI (rwN bt k (tl / 4) - k), sF (sF h2 81 32 0) 81 0 0) ∧ aI h2 83 = rwK bt k (aI h 83) (tl / 4) ∧ fI h2 81 6 = nI ((tl + 3) / 4 + k - rwN bt k (tl / 4)) ∧ fI h2 81 13 = 0 ∧ Fr (fun x => x = 83) (fun x j => x = 81 ∧ (j = 6 ∨ j = 13)) h1 h2 := by
      unfold f_X11_row
      rw [q13, if_neg (show ¬ nI tl = 0 from fun c => c0 ((nI_eq (by omega) (by omega)).mp (show nI tl = nI 0 from c)))]
      by_cases c4 : tl % 4 = 0
      · rw [if_pos ((r4 tl (by omega)).mpr c4)]
        exact ref 0 (by omega) (by omega)
      · rw [if_neg (fun c => c4 ((r4 tl (by omega)).mp c))]
        exact ref 1 (by omega) (by omega)
    obtain ⟨h2, m1, m2, m3, m4, m5⟩ := ref2
    refine ⟨_, h1, sF (sF h2 81 32 0) 81 0 0, eC, m1, ?_⟩
    have hg : Fr (fun x => 34 ≤ x ∧ x ≤ 36 ∨ x = 83) (fun a j => a = 33 ∧ j = 0 ∨ a = 0 ∧ (j = 18 ∨ j = 16 ∨ j = 19) ∨ a = 10 ∧ j = 2 ∨ a = 68 ∨ a = 81 ∧ (j = 6 ∨ j = 13 ∨ j = 32 ∨ j = 0)) h (sF (sF h2 81 32 0) 81 0 0) := Fr_tF (Fr_tF (Fr_tr (Fr_mono F1 (fun _ c => by omega) (fun _ _ c => by omega)) (Fr_mono m5 (fun _ c => by omega) (fun _ _ c => by omega))) (by omega)) (by omega)
    have e83 : aI (sF (sF h2 81 32 0) 81 0 0) 83 = rwK bt k (aI h 83) (tl / 4) := m2
    have g2 : Fr (fun x => x = 83) (fun x _ => x = 81) h1 (sF (sF h2 81 32 0) 81 0 0) := Fr_tF (Fr_tF (Fr_mono m5 (fun _ c => c) (fun _ _ c => c.1)) rfl) rfl
    have e6 : fI (sF (sF h2 81 32 0) 81 0 0) 81 6 = nI ((tl + 3) / 4 + k - rwN bt k (tl / 4)) := by rw [fI_n (by omega), fI_n (by omega)]; exact m3
    have e13 : fI (sF (sF h2 81 32 0) 81 0 0) 81 13 = 0 := by rw [fI_n (by omega), fI_n (by omega)]; exact m4
    have e32 : fI (sF (sF h2 81 32 0) 81 0 0) 81 32 = 0 := by rw [fI_n (by omega), fI_s]
    have e81 : fI (sF (sF h2 81 32 0) 81 0 0) 81 0 = 0 := fI_s
    generalize sF (sF h2 81 32 0) 81 0 0 = h' at hg e83 g2 e6 e13 e32 e81
    have ag : ∀ i, 31 ≤ i → i ≠ 51 → aI h' 83 i = aI h 83 i := fun i a b => by rw [e83]; exact w4 i a b
    refine INV_std i1 i2 i4 i8 i9 (Fr_mono hg (fun a c => by unfold uA; omega) (fun a j c => by unfold uF; omega)) (k' := rwN bt k (tl / 4)) (by rw [e83]; exact w1) ?_ w2 (fun i a b c => ag i a (by omega)) (by rw [e83]; exact RR_fr bR g2 (by omega) (by omega) (by omega) (by omega) (by omega)) (by rw [ag 54 (by omega) (by omega)]; exact i1.2.2.2.2.2.2.2.2) (by rw [ag 54 (by omega) (by omega), hg.1 _ _ (by omega)]; exact i2.2.2.2.2.2.2) (Or.inl (by rw [g2.1 _ _ (by omega)]; exact b68)) ⟨0, bt, by omega, by rw [g2.1 _ _ (by omega)]; exact b16, e13, t4, fun i hi => absurd hi (Nat.not_lt_zero _)⟩ ?_ (PAS_0 i7 (hg.1 _ _ (by omega)) (by rw [g2.1 _ _ (by omega)]; exact b10) e32)
    · obtain ⟨m, p1, p2⟩ := i1.2.1
      exact ⟨m, p1, by rw [e83, w5]; exact p2⟩
    · obtain ⟨p1, p2, p3, p4, p5⟩ := i6
      exact ⟨by rw [hg.1 0 17 (by omega), hg.1 81 14 (by omega)]; exact p1, by rw [g2.1 0 18 (by omega), b18, e6], by rw [g2.1 0 19 (by omega), b19, e81], by rw [hg.1 60 6 (by omega), hg.1 81 46 (by omega)]; exact p4, by rw [hg.2.1 25 (by omega), hg.2.1 82 (by omega)]; exact p5⟩
