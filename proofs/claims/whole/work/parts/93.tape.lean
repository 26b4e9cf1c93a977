/-! ===== the tape ===== -/
def byN (y : Int32) : Nat := y.toBitVec.toNat % 256
theorem by_c (y : Int32) : y &&& 255 = nI (byN y) := by
  apply Int32.toBitVec_inj.mp
  apply BitVec.eq_of_toNat_eq
  rw [Int32.toBitVec_and, BitVec.toNat_and]
  show y.toBitVec.toNat &&& 255 = (nI (byN y)).toBitVec.toNat
  have e1 : y.toBitVec.toNat &&& 255 = y.toBitVec.toNat % 256 := Nat.and_two_pow_sub_one_eq_mod _ 8
  have e2 : (nI (byN y)).toBitVec.toNat = byN y % 2 ^ 32 := rfl
  rw [e1, e2]
  unfold byN
  omega
theorem by_m (y : Int32) : y.toInt8.toInt32.toInt8.toInt32 = sb (byN y) := by
  unfold sb
  rw [Int8.toInt8_toInt32]
  refine congrArg Int8.toInt32 (Int8.toBitVec_inj.mp (BitVec.eq_of_getLsbD_eq (fun i hi => ?_)))
  rw [Int32.toBitVec_toInt8, Int32.toBitVec_toInt8, BitVec.getLsbD_signExtend, BitVec.getLsbD_signExtend, ← by_c, if_pos (by omega), if_pos (by omega)]
  show (decide (i < 8) && bti y i) = (decide (i < 8) && bti (y &&& 255) i)
  rw [b_and, b_255]
  simp [hi]
theorem byN_lt (y : Int32) : byN y < 256 := Nat.mod_lt _ (by omega)
def shf (i : Nat) : Int32 := [24, 16, 8, 0, -8].getD i 0
theorem shf_s : ∀ i, i < 4 → shf i + -8 = shf (i + 1) ∧ ¬ shf i < 0 := by decide
theorem shf_m : ∀ i, i < 20 → (24 : Int32) - 8 * (nI i - nI i / 4 * 4) = shf (i % 4) := by decide
theorem shf_d : ∀ i, i < 20 → nI i / 4 = nI (i / 4) := by decide
def byt (x : Int32) (i : Nat) : Int32 := x >>> (shf i &&& 31)
theorem c_four {h : Hp} {t : Nat} (x : Int32) (e : fI h 0 16 = nI t) (ht : t + 4 ≤ 400) : ∃ h', f_X10_putFour x h = some ((), h') ∧ fI h' 0 16 = nI (t + 4) ∧ (∀ j, j < 4 → aI h' 3 (t + j) = nI (byN (byt x j))) ∧ (∀ j, j < t → aI h' 3 j = aI h 3 j) ∧ Fr (fun a => a = 3) (fun a j => a = 0 ∧ j = 16) h h' := by
  have key := lp_inv (b := fun s : Int32 × Hp => b_X10_putFour_3 x s.1 s.2) (fun i s => s.1 = shf i ∧ fI s.2 0 16 = nI (t + i) ∧ (∀ j, j < i → aI s.2 3 (t + j) = nI (byN (byt x j))) ∧ (∀ j, j < t → aI s.2 3 j = aI h 3 j) ∧ Fr (fun a => a = 3) (fun a j => a = 0 ∧ j = 16) h s.2) (fun g => fI g 0 16 = nI (t + 4) ∧ (∀ j, j < 4 → aI g 3 (t + j) = nI (byN (byt x j))) ∧ (∀ j, j < t → aI g 3 j = aI h 3 j) ∧ Fr (fun a => a = 3) (fun a j => a = 0 ∧ j = 16) h g) 4 ((24 : Int32), h) (by omega) ⟨rfl, e, fun j hj => absurd hj (Nat.not_lt_zero _), fun _ _ => rfl, Fr_rfl⟩ ?_ ?_
  · obtain ⟨g, k1, k2, k3, k4, k5⟩ := key
    refine ⟨g, ?_, k2, k3, k4, k5⟩
    unfold f_X10_putFour
    rw [k1, Option.bind_some]
  · intro i s hi ⟨p1, p2, p3, p4, p5⟩
    obtain ⟨s1, s2⟩ := shf_s i hi
    refine Or.inl ⟨(shf (i + 1), sF (sA s.2 3 (t + i) (nI (byN (byt x i)))) 0 16 (nI (t + i + 1))), ?_, rfl, fI_s, fun j hj => ?_, fun j hj => ?_, Fr_tF (Fr_tA p5 rfl) ⟨rfl, rfl⟩⟩
    · show b_X10_putFour_3 x s.1 s.2 = _
      unfold b_X10_putFour_3
      rw [p1, if_neg s2, p2, if_neg (show ¬ (400 : Int32) ≤ nI (t + i) by rw [show ((400 : Int32)) = nI 400 from rfl, nI_le6 (by omega) (by omega)]; omega), inb_nI (show t + i < 400 by omega) (by omega), Option.bind_some, s1, by_c, ps_fA, p2, nI_1]
      rfl
    · show aI (sA s.2 3 (t + i) (nI (byN (byt x i)))) 3 (t + j) = _
      by_cases c : j = i
      · rw [c, aI_s]
      · rw [aI_n (by omega)]; exact p3 j (by omega)
    · show aI (sA s.2 3 (t + i) (nI (byN (byt x i)))) 3 j = _
      rw [aI_n (by omega)]; exact p4 j hj
  · intro s ⟨p1, p2, p3, p4, p5⟩
    refine ⟨s.2, ?_, p2, p3, p4, p5⟩
    show b_X10_putFour_3 x s.1 s.2 = _
    unfold b_X10_putFour_3
    rw [p1, if_pos (show shf 4 < 0 by decide)]
def xsF (x1 x2 x3 x4 x5 : Int32) (i : Nat) : Int32 := [x1, x2, x3, x4, x5].getD i 0
theorem c_feed {h : Hp} {t : Nat} (x1 x2 x3 x4 x5 : Int32) (e : fI h 0 16 = nI t) (ht : t + 20 ≤ 400) : ∃ h', f_X10_feed x1 x2 x3 x4 x5 h = some (nI (t + 20), h') ∧ fI h' 0 16 = nI (t + 20) ∧ (∀ j, j < 20 → aI h' 3 (t + j) = nI (byN (byt (xsF x1 x2 x3 x4 x5 (j / 4)) (j % 4)))) ∧ (∀ j, j < t → aI h' 3 j = aI h 3 j) ∧ Fr (fun a => a = 3) (fun a j => a = 0 ∧ j = 16) h h' := by
  obtain ⟨g1, a1, b1, c1, d1, f1⟩ := c_four x1 e (by omega)
  obtain ⟨g2, a2, b2, c2, d2, f2⟩ := c_four x2 b1 (by omega)
  obtain ⟨g3, a3, b3, c3, d3, f3⟩ := c_four x3 b2 (by omega)
  obtain ⟨g4, a4, b4, c4, d4, f4⟩ := c_four x4 b3 (by omega)
  obtain ⟨g5, a5, b5, c5, d5, f5⟩ := c_four x5 b4 (by omega)
  refine ⟨g5, ?_, b5, fun j hj => ?_, fun j hj => by rw [d5 j (by omega), d4 j (by omega), d3 j (by omega), d2 j (by omega), d1 j hj], Fr_tr (Fr_tr (Fr_tr (Fr_tr f1 f2) f3) f4) f5⟩
  · unfold f_X10_feed
    rw [e, show ((20 : Int32)) = nI 20 from rfl, nI_add, if_pos (show nI (t + 20) ≤ 400 by rw [show ((400 : Int32)) = nI 400 from rfl, nI_le6 (by omega) (by omega)]; omega), a1, Option.bind_some, a2, Option.bind_some, a3, Option.bind_some, a4, Option.bind_some, a5, Option.bind_some, b5]
  · rcases (show j / 4 = 0 ∨ j / 4 = 1 ∨ j / 4 = 2 ∨ j / 4 = 3 ∨ j / 4 = 4 by omega) with q | q | q | q | q <;> rw [q]
    · rw [d5 _ (by omega), d4 _ (by omega), d3 _ (by omega), d2 _ (by omega), show t + j = t + j % 4 by omega, c1 _ (by omega)]; rfl
    · rw [d5 _ (by omega), d4 _ (by omega), d3 _ (by omega), show t + j = t + 4 + j % 4 by omega, c2 _ (by omega)]; rfl
    · rw [d5 _ (by omega), d4 _ (by omega), show t + j = t + 4 + 4 + j % 4 by omega, c3 _ (by omega)]; rfl
    · rw [d5 _ (by omega), show t + j = t + 4 + 4 + 4 + j % 4 by omega, c4 _ (by omega)]; rfl
    · rw [show t + j = t + 4 + 4 + 4 + 4 + j % 4 by omega, c5 _ (by omega)]; rfl
theorem m_feed {h : Hp} {t : Nat} (x1 x2 x3 x4 x5 : Int32) (e : fI h 81 13 = nI t) (ht : t + 20 ≤ 400) : ∃ h', f_X11_feed x1 x2 x3 x4 x5 h = some (nI (t + 20), h') ∧ fI h' 81 13 = nI (t + 20) ∧ (∀ j, j < 20 → aI h' 88 (t + j) = sb (byN (byt (xsF x1 x2 x3 x4 x5 (j / 4)) (j % 4)))) ∧ (∀ j, j < t → aI h' 88 j = aI h 88 j) ∧ Fr (fun a => a = 88 ∨ a = 89) (fun a j => a = 81 ∧ j = 13) h h' := by
  have e89 : ∀ i, i < 5 → aI (sA (sA (sA (sA (sA h 89 0 x1) 89 1 x2) 89 2 x3) 89 3 x4) 89 4 x5) 89 i = xsF x1 x2 x3 x4 x5 i := by
    intro i hi
    rcases (show i = 0 ∨ i = 1 ∨ i = 2 ∨ i = 3 ∨ i = 4 by omega) with q | q | q | q | q <;> subst q
    · rw [aI_n (by omega), aI_n (by omega), aI_n (by omega), aI_n (by omega), aI_s]; rfl
    · rw [aI_n (by omega), aI_n (by omega), aI_n (by omega), aI_s]; rfl
    · rw [aI_n (by omega), aI_n (by omega), aI_s]; rfl
    · rw [aI_n (by omega), aI_s]; rfl
    · rw [aI_s]; rfl
  have e13 : fI (sA (sA (sA (sA (sA h 89 0 x1) 89 1 x2) 89 2 x3) 89 3 x4) 89 4 x5) 81 13 = nI t := e
  have F0 : Fr (fun a => a = 88 ∨ a = 89) (fun a j => a = 81 ∧ j = 13) h (sA (sA (sA (sA (sA h 89 0 x1) 89 1 x2) 89 2 x3) 89 3 x4) 89 4 x5) := Fr_tA (Fr_tA (Fr_tA (Fr_tA (Fr_sA (by omega)) (by omega)) (by omega)) (by omega)) (by omega)
  have e88 : aI (sA (sA (sA (sA (sA h 89 0 x1) 89 1 x2) 89 2 x3) 89 3 x4) 89 4 x5) 88 = aI h 88 := by
    rw [ps_aAn _ _ _ _ _ (by omega), ps_aAn _ _ _ _ _ (by omega), ps_aAn _ _ _ _ _ (by omega), ps_aAn _ _ _ _ _ (by omega), ps_aAn _ _ _ _ _ (by omega)]
  generalize hg : sA (sA (sA (sA (sA h 89 0 x1) 89 1 x2) 89 2 x3) 89 3 x4) 89 4 x5 = g0 at e89 e13 F0 e88
  have key := lp_inv (b := fun s : Int32 × Hp => b_X11_feed_55 s.1 s.2) (fun i s => s.1 = nI i ∧ (∀ j, j < i → aI s.2 88 (t + j) = sb (byN (byt (xsF x1 x2 x3 x4 x5 (j / 4)) (j % 4)))) ∧ (∀ j, j < t → aI s.2 88 j = aI h 88 j) ∧ Fr (fun a => a = 88) noF g0 s.2) (fun g => (∀ j, j < 20 → aI g 88 (t + j) = sb (byN (byt (xsF x1 x2 x3 x4 x5 (j / 4)) (j % 4)))) ∧ (∀ j, j < t → aI g 88 j = aI h 88 j) ∧ Fr (fun a => a = 88) noF g0 g) 20 ((0 : Int32), g0) (by omega) ⟨rfl, fun j hj => absurd hj (Nat.not_lt_zero _), fun j _ => by show aI g0 88 j = _; rw [e88], Fr_rfl⟩ ?_ ?_
  · obtain ⟨g, k1, k3, k4, k5⟩ := key
    have g13 : fI g 81 13 = nI t := by rw [k5.1 _ _ (fun c => c)]; exact e13
    refine ⟨sF g 81 13 (nI (t + 20)), ?_, fI_s, k3, k4, Fr_tF (Fr_tr F0 (Fr_mono k5 (fun a c => by omega) (fun _ _ c => c.elim))) ⟨rfl, rfl⟩⟩
    unfold f_X11_feed
    rw [e, show ((20 : Int32)) = nI 20 from rfl, nI_add, if_pos (show nI (t + 20) ≤ 400 by rw [show ((400 : Int32)) = nI 400 from rfl, nI_le6 (by omega) (by omega)]; omega), hg, k1, Option.bind_some, g13, nI_add, fI_s]
  · intro i s hi ⟨p1, p3, p4, p5⟩
    refine Or.inl ⟨(nI (i + 1), sA s.2 88 (t + i) (sb (byN (byt (xsF x1 x2 x3 x4 x5 (i / 4)) (i % 4))))), ?_, rfl, fun j hj => ?_, fun j hj => ?_, Fr_tA p5 rfl⟩
    · show b_X11_feed_55 s.1 s.2 = _
      unfold b_X11_feed_55
      rw [p1, if_neg (show ¬ (20 : Int32) ≤ nI i by rw [show ((20 : Int32)) = nI 20 from rfl, nI_le6 (by omega) (by omega)]; omega), shf_m i hi, shf_d i hi, inb_nI (show i / 4 < 5 by omega) (by omega), Option.bind_some, p5.1 _ _ (fun c => c), e13, nI_add, inb_nI (show t + i < 400 by omega) (by omega), Option.bind_some, p5.2.1 89 (by omega), e89 _ (by omega), by_m, nI_1]
      rfl
    · show aI (sA s.2 88 (t + i) _) 88 (t + j) = _
      by_cases c : j = i
      · rw [c, aI_s]
      · rw [aI_n (by omega)]; exact p3 j (by omega)
    · show aI (sA s.2 88 (t + i) _) 88 j = _
      rw [aI_n (by omega)]; exact p4 j hj
  · intro s ⟨p1, p3, p4, p5⟩
    refine ⟨s.2, ?_, p3, p4, p5⟩
    show b_X11_feed_55 s.1 s.2 = _
    unfold b_X11_feed_55
    rw [p1, if_pos (show (20 : Int32) ≤ nI 20 by decide)]
theorem op_5 : Op_5 INV := by
  intro n h hI _ x1 x2 x3 x4 x5
  have hI0 := hI
  obtain ⟨k, sm, lc, L, i1, i2, i3, i4, i5, i6, i7, i8, i9⟩ := hI
  obtain ⟨tl, bt, t1, t2, t3, t4, t5⟩ := id i5
  by_cases ct : tl + 20 ≤ 400
  · obtain ⟨h1, a1, a2, a3, a4, a5⟩ := c_feed x1 x2 x3 x4 x5 t2 ct
    obtain ⟨h2, b1, b2, b3, b4, b5⟩ := m_feed (h := h1) x1 x2 x3 x4 x5 (by rw [a5.1 _ _ (by omega)]; exact t3) ct
    refine ⟨_, h1, h2, a1, b1, ?_⟩
    have hg : Fr (fun a => a = 3 ∨ a = 88 ∨ a = 89) (fun a j => a = 0 ∧ j = 16 ∨ a = 81 ∧ j = 13) h h2 := Fr_tr (Fr_mono a5 (fun _ c => by omega) (fun _ _ c => by omega)) (Fr_mono b5 (fun _ c => by omega) (fun _ _ c => by omega))
    have e83 : aI h2 83 = aI h 83 := hg.2.1 _ (by omega)
    refine INV_std i1 i2 i4 i8 i9 (Fr_mono hg (fun a c => by unfold uA scA; omega) (fun a j c => by unfold uF; omega)) (by rw [e83]; exact i1.1) (by rw [e83]; exact i1.2.1) (Nat.le_refl k) (fun i _ _ _ => by rw [e83]) (by rw [e83]; exact RR_fr i2.1 hg (by omega) (by omega) (by omega) (by omega) (by omega)) (by rw [e83]; exact i1.2.2.2.2.2.2.2.2) (by rw [e83, hg.1 _ _ (by omega)]; exact i2.2.2.2.2.2.2) (by rw [e83]; exact CAC_tr i3 hg (fun a c => by omega) (fun a j c => by omega)) ⟨tl + 20, fun i => if i < tl then bt i else byN (byt (xsF x1 x2 x3 x4 x5 ((i - tl) / 4)) ((i - tl) % 4)), ct, by rw [b5.1 _ _ (by omega)]; exact a2, b2, fun i => ?_, fun i hi => ?_⟩ (MIS_tr i6 hg (fun a c => by omega) (fun a j c => by omega)) (by rw [e83]; exact PAS_tr i7 hg (fun a c => by omega) (fun a j c => by omega))
    · dsimp only
      by_cases c : i < tl
      · rw [if_pos c]; exact t4 i
      · rw [if_neg c]; exact byN_lt _
    · rw [b5.2.1 3 (by omega)]
      dsimp only
      by_cases c : i < tl
      · rw [if_pos c, a4 i c, b4 i c, a5.2.1 88 (by omega)]
        exact t5 i c
      · rw [if_neg c]
        have q3 := a3 (i - tl) (by omega)
        have q4 := b3 (i - tl) (by omega)
        rw [show tl + (i - tl) = i by omega] at q3 q4
        exact ⟨q3, q4⟩
  · refine ⟨-1, h, h, ?_, ?_, INV_up hI0⟩
    · unfold f_X10_feed
      rw [t2, show ((20 : Int32)) = nI 20 from rfl, nI_add, if_neg (show ¬ nI (tl + 20) ≤ 400 by rw [show ((400 : Int32)) = nI 400 from rfl, nI_le6 (by omega) (by omega)]; omega)]
    · unfold f_X11_feed
      rw [t3, show ((20 : Int32)) = nI 20 from rfl, nI_add, if_neg (show ¬ nI (tl + 20) ≤ 400 by rw [show ((400 : Int32)) = nI 400 from rfl, nI_le6 (by omega) (by omega)]; omega)]
