theorem c_row {h : Hp} {k tl : Nat} {K : Nat → Int32} {bt : Nat → Nat} (hR : RRh h 33 K) (hw : WF K k) (ht : tl ≤ 400) (h16 : fI h 0 16 = nI tl) (h18 : fI h 0 18 = 0) (hb : ∀ i, bt i < 256) (h3 : ∀ i, i < tl → aI h 3 i = nI (bt i)) : ∃ h', lp (fun s => b_X10_row_23 s.1 s.2.1 s.2.2) FU ((0 : Int32), (0 : Int32), h) = some (nI (rwN bt k (tl / 4) - k), h') ∧ RRh h' 33 (rwK bt k K (tl / 4)) ∧ fI h' 0 18 = nI ((tl + 3) / 4 + k - rwN bt k (tl / 4)) ∧ Fr (fun x => 34 ≤ x ∧ x ≤ 36) (fun x j => x = 33 ∧ j = 0 ∨ x = 0 ∧ j = 18) h h' := by
  have key := lp_inv (b := fun s : Int32 × Int32 × Hp => b_X10_row_23 s.1 s.2.1 s.2.2) (fun g s => s.1 = nI (rwN bt k (min g (tl / 4)) - k) ∧ s.2.1 = nI (4 * g) ∧ RRh s.2.2 33 (rwK bt k K (min g (tl / 4))) ∧ fI s.2.2 0 18 = nI (g + k - rwN bt k (min g (tl / 4))) ∧ Fr (fun x => 34 ≤ x ∧ x ≤ 36) (fun x j => x = 33 ∧ j = 0 ∨ x = 0 ∧ j = 18) h s.2.2) (fun e => e.1 = nI (rwN bt k (tl / 4) - k) ∧ RRh e.2 33 (rwK bt k K (tl / 4)) ∧ fI e.2 0 18 = nI ((tl + 3) / 4 + k - rwN bt k (tl / 4)) ∧ Fr (fun x => 34 ≤ x ∧ x ≤ 36) (fun x j => x = 33 ∧ j = 0 ∨ x = 0 ∧ j = 18) h e.2) ((tl + 3) / 4) ((0 : Int32), (0 : Int32), h) (by omega) ⟨by rw [Nat.zero_min]; show (0 : Int32) = nI (k - k); rw [Nat.sub_self]; rfl, rfl, by rw [Nat.zero_min]; exact hR, by rw [Nat.zero_min]; show fI h 0 18 = nI (0 + k - k); rw [h18, Nat.zero_add, Nat.sub_self]; rfl, Fr_rfl⟩ ?_ ?_
  · obtain ⟨e, k1, k2, k3, k4, k5⟩ := key
    exact ⟨e.2, by rw [k1, ← k2], k3, k4, k5⟩
  · rintro g ⟨c, x, s⟩ hg ⟨p1, p2, p3, p4, p5⟩
    have p1' : c = nI (rwN bt k (min g (tl / 4)) - k) := p1
    have p2' : x = nI (4 * g) := p2
    replace p3 : RRh s 33 (rwK bt k K (min g (tl / 4))) := p3
    replace p4 : fI s 0 18 = nI (g + k - rwN bt k (min g (tl / 4))) := p4
    replace p5 : Fr (fun x => 34 ≤ x ∧ x ≤ 36) (fun x j => x = 33 ∧ j = 0 ∨ x = 0 ∧ j = 18) h s := p5
    subst p1' p2'
    have s16 : fI s 0 16 = nI tl := by rw [p5.1 _ _ (by omega)]; exact h16
    have s3 : aI s 3 = aI h 3 := p5.2.1 3 (by omega)
    refine Or.inl ?_
    show ∃ s', b_X10_row_23 (nI (rwN bt k (min g (tl / 4)) - k)) (nI (4 * g)) s = some (.inl s') ∧ _
    have nf : ∀ s1, f_X10_sitterFromTape (nI (4 * g)) s = some (false, s) → s1 = nI (g + 1 + k - rwN bt k (min g (tl / 4))) → b_X10_row_23 (nI (rwN bt k (min g (tl / 4)) - k)) (nI (4 * g)) s = some (.inl (nI (rwN bt k (min g (tl / 4)) - k), nI (4 * (g + 1)), sF s 0 18 s1)) := by
      intro s1 e es
      unfold b_X10_row_23
      have := (rw_ok (bt := bt) hw (min g (tl / 4))).2.2.1
      rw [s16, if_neg (show ¬ nI tl ≤ nI (4 * g) by rw [nI_le6 (by omega) (by omega)]; omega), e, Option.bind_some, if_neg Bool.false_ne_true, p4, nI_1, l4_, nI_add, es, show g + k - rwN bt k (min g (tl / 4)) + 1 = g + 1 + k - rwN bt k (min g (tl / 4)) by omega, show 4 * g + 4 = 4 * (g + 1) by omega]
    by_cases cG : g < tl / 4
    · have eg : min g (tl / 4) = g := by omega
      have eg1 : min (g + 1) (tl / 4) = g + 1 := by omega
      rw [eg] at p3 p4 nf ⊢
      obtain ⟨a1, a2, a3, a4, a5⟩ := rw_ok (bt := bt) hw g
      have pre : ∀ {P : Option (Bool × Hp)}, (if fI s 33 0 < 6 then (f_X10_canBeSitter (nI (bt (4 * g))) (nI (bt (4 * g + 1))) (nI (bt (4 * g + 2))) (nI (bt (4 * g + 3)))).bind fun v12 => if v12 = true then (f_X6_add 33 (nI (bt (4 * g))) (nI (bt (4 * g + 1))) (nI (bt (4 * g + 2))) (nI (bt (4 * g + 3))) s).bind fun v23 => some (true, v23.2) else some (false, s) else some (false, s)) = P → f_X10_sitterFromTape (nI (4 * g)) s = P := by
        intro P e
        unfold f_X10_sitterFromTape
        rw [if_neg (nI_pos (by omega)), s16, l4_, nI_add, if_neg (show ¬ nI tl < nI (4 * g + 4) by rw [nI_lt6 (by omega) (by omega)]; omega), nI_1, l2_, nI_add, l3_, nI_add, inb_nI (show 4 * g < 400 by omega) (by omega), inb_nI (show 4 * g + 1 < 400 by omega) (by omega), inb_nI (show 4 * g + 2 < 400 by omega) (by omega), inb_nI (show 4 * g + 3 < 400 by omega) (by omega)]
        simp only [Option.bind_some]
        rw [s3, h3 (4 * g) (by omega), h3 (4 * g + 1) (by omega), h3 (4 * g + 2) (by omega), h3 (4 * g + 3) (by omega)]
        exact e
      have no : ∀ {hne : ¬ rwN bt k g < 6 ∨ cbt bt g = false}, f_X10_sitterFromTape (nI (4 * g)) s = some (false, s) → ∃ s', b_X10_row_23 (nI (rwN bt k g - k)) (nI (4 * g)) s = some (.inl s') ∧ s'.1 = nI (rwN bt k (min (g + 1) (tl / 4)) - k) ∧ s'.2.1 = nI (4 * (g + 1)) ∧ RRh s'.2.2 33 (rwK bt k K (min (g + 1) (tl / 4))) ∧ fI s'.2.2 0 18 = nI (g + 1 + k - rwN bt k (min (g + 1) (tl / 4))) ∧ Fr (fun x => 34 ≤ x ∧ x ≤ 36) (fun x j => x = 33 ∧ j = 0 ∨ x = 0 ∧ j = 18) h s'.2.2 := by
        intro hne e
        obtain ⟨e1, e2⟩ := rw_no K hne
        rw [eg1, e1, e2]
        refine ⟨_, nf _ e rfl, rfl, rfl, ?_, fI_s, Fr_tF p5 (by omega)⟩
        exact RR_fr (A := noA) (F := fun x j => x = 0) p3 (Fr_sF rfl) (by omega) (fun c => c) (fun c => c) (fun c => c) (fun c => c)
      by_cases c6 : rwN bt k g < 6
      · rcases can_t (hb (4 * g)) (hb (4 * g + 1)) (hb (4 * g + 2)) (hb (4 * g + 3)) with ⟨y1, y2, y3, y4, y5, -, -, -, -, -⟩ | ⟨y1, y2, -⟩
        · have cb : cbt bt g = true := decide_eq_true ⟨y1, y2, y3, y4⟩
          obtain ⟨e1, e2⟩ := rw_yes K c6 cb
          obtain ⟨s', z1, z2, z3⟩ := c_add p3 a1 c6 (nI (bt (4 * g))) (nI (bt (4 * g + 1))) (nI (bt (4 * g + 2))) (nI (bt (4 * g + 3)))
          have fT : f_X10_sitterFromTape (nI (4 * g)) s = some (true, s') := by
            refine pre ?_
            rw [k_sn p3 a1, if_pos (show nI (rwN bt k g) < 6 from nI_lt (a := rwN bt k g) (b := 6) c6 (by omega)), y5, Option.bind_some, if_pos rfl, z1, Option.bind_some]
          rw [eg1, e1, e2]
          refine ⟨(nI (rwN bt k g + 1 - k), nI (4 * (g + 1)), s'), ?_, rfl, rfl, z2, ?_, Fr_tr p5 (Fr_mono z3 (fun _ c => c) (fun _ _ c => by omega))⟩
          · unfold b_X10_row_23
            rw [s16, if_neg (show ¬ nI tl ≤ nI (4 * g) by rw [nI_le6 (by omega) (by omega)]; omega), fT, Option.bind_some, if_pos rfl, nI_1, l4_, nI_add, show rwN bt k g - k + 1 = rwN bt k g + 1 - k by omega, show 4 * g + 4 = 4 * (g + 1) by omega]
          · show fI s' 0 18 = _
            rw [z3.1 _ _ (by omega), p4, show g + 1 + k - (rwN bt k g + 1) = g + k - rwN bt k g by omega]
        · refine no (hne := Or.inr (decide_eq_false y1)) (pre ?_)
          rw [k_sn p3 a1, if_pos (show nI (rwN bt k g) < 6 from nI_lt (a := rwN bt k g) (b := 6) c6 (by omega)), y2, Option.bind_some, if_neg Bool.false_ne_true]
      · refine no (hne := Or.inl c6) (pre ?_)
        have := a1.2.1
        rw [k_sn p3 a1, if_neg (show ¬ nI (rwN bt k g) < 6 by rw [l6_, nI_lt6 (by omega) (by omega)]; exact c6)]
    · have eg : min g (tl / 4) = tl / 4 := by omega
      have eg1 : min (g + 1) (tl / 4) = tl / 4 := by omega
      have fT : f_X10_sitterFromTape (nI (4 * g)) s = some (false, s) := by
        unfold f_X10_sitterFromTape
        rw [if_neg (nI_pos (by omega)), s16, l4_, nI_add, if_pos (show nI tl < nI (4 * g + 4) by rw [nI_lt6 (by omega) (by omega)]; omega)]
      have nf' := nf _ fT rfl
      rw [eg] at p3 p4 nf' ⊢
      rw [eg1]
      refine ⟨_, nf', rfl, rfl, ?_, fI_s, Fr_tF p5 (by omega)⟩
      exact RR_fr (A := noA) (F := fun x j => x = 0) p3 (Fr_sF rfl) (by omega) (fun c => c) (fun c => c) (fun c => c) (fun c => c)
  · rintro ⟨c, x, s⟩ ⟨p1, p2, p3, p4, p5⟩
    have em : min ((tl + 3) / 4) (tl / 4) = tl / 4 := by omega
    rw [em] at p1 p3 p4
    have p2' : x = nI (4 * ((tl + 3) / 4)) := p2
    replace p5 : Fr (fun x => 34 ≤ x ∧ x ≤ 36) (fun x j => x = 33 ∧ j = 0 ∨ x = 0 ∧ j = 18) h s := p5
    have s16 : fI s 0 16 = nI tl := by rw [p5.1 _ _ (by omega)]; exact h16
    refine ⟨(c, s), ?_, p1, p3, p4, p5⟩
    show b_X10_row_23 c x s = _
    unfold b_X10_row_23
    rw [p2', s16, if_pos (show nI tl ≤ nI (4 * ((tl + 3) / 4)) by rw [nI_le6 (by omega) (by omega)]; omega)]
theorem m_row {h : Hp} {k tl s0 : Nat} {K : Nat → Int32} {bt : Nat → Nat} (e83 : aI h 83 = K) (hw : WF K k) (ht : tl ≤ 400) (h6 : fI h 81 6 = nI s0) (hs : s0 ≤ 1) (hb : ∀ i, bt i < 256) (h88 : ∀ i, i < tl → aI h 88 i = sb (bt i)) : ∃ h', lp (fun s => b_X11_row_40 (nI tl) s.1 s.2.1 s.2.2) FU ((0 : Int32), (0 : Int32), h) = some (nI (rwN bt k (tl / 4) - k), h') ∧ aI h' 83 = rwK bt k K (tl / 4) ∧ fI h' 81 6 = nI (s0 + tl / 4 + k - rwN bt k (tl / 4)) ∧ Fr (fun x => x = 83) (fun x j => x = 81 ∧ j = 6) h h' := by
  have key := lp_inv (b := fun s : Int32 × Int32 × Hp => b_X11_row_40 (nI tl) s.1 s.2.1 s.2.2) (fun g s => s.1 = nI (rwN bt k g - k) ∧ s.2.1 = nI (4 * g) ∧ aI s.2.2 83 = rwK bt k K g ∧ fI s.2.2 81 6 = nI (s0 + g + k - rwN bt k g) ∧ Fr (fun x => x = 83) (fun x j => x = 81 ∧ j = 6) h s.2.2) (fun e => e.1 = nI (rwN bt k (tl / 4) - k) ∧ aI e.2 83 = rwK bt k K (tl / 4) ∧ fI e.2 81 6 = nI (s0 + tl / 4 + k - rwN bt k (tl / 4)) ∧ Fr (fun x => x = 83) (fun x j => x = 81 ∧ j = 6) h e.2) (tl / 4) ((0 : Int32), (0 : Int32), h) (by omega) ⟨by show (0 : Int32) = nI (k - k); rw [Nat.sub_self]; rfl, rfl, e83, by show fI h 81 6 = nI (s0 + 0 + k - k); rw [h6, show s0 + 0 + k - k = s0 by omega], Fr_rfl⟩ ?_ ?_
  · obtain ⟨e, k1, k2, k3, k4, k5⟩ := key
    exact ⟨e.2, by rw [k1, ← k2], k3, k4, k5⟩
  · rintro g ⟨c, x, s⟩ hg ⟨p1, p2, p3, p4, p5⟩
    have p1' : c = nI (rwN bt k g - k) := p1
    have p2' : x = nI (4 * g) := p2
    replace p3 : aI s 83 = rwK bt k K g := p3
    replace p4 : fI s 81 6 = nI (s0 + g + k - rwN bt k g) := p4
    replace p5 : Fr (fun x => x = 83) (fun x j => x = 81 ∧ j = 6) h s := p5
    subst p1' p2'
    obtain ⟨a1, a2, a3, a4, a5⟩ := rw_ok (bt := bt) hw g
    have w83 : WF (aI s 83) (rwN bt k g) := by rw [p3]; exact a1
    have n6 := a1.2.1
    have s88 : aI s 88 = aI h 88 := p5.2.1 88 (by omega)
    refine Or.inl ?_
    show ∃ s', b_X11_row_40 (nI tl) (nI (rwN bt k g - k)) (nI (4 * g)) s = some (.inl s') ∧ _
    have z0 : ∀ m : Nat, nI m + 0 = nI m := fun m => nI_add m 0
    have j96 : j_X11_row_96_40 (nI tl) (nI (rwN bt k g - k)) (nI (4 * g)) s = some (.inl (nI (rwN bt k g - k), nI (4 * (g + 1)), sF s 81 6 (nI (s0 + (g + 1) + k - rwN bt k g)))) := by
      unfold j_X11_row_96_40 j_X11_row_97_40
      rw [if_pos rfl]
      unfold j_X11_row_138_40
      rw [if_pos rfl]
      unfold j_X11_row_149_40
      rw [if_pos rfl]
      unfold j_X11_row_166_40
      rw [z0, p4, nI_1, l4_, nI_add, show s0 + g + k - rwN bt k g + 1 = s0 + (g + 1) + k - rwN bt k g by omega, show 4 * g + 4 = 4 * (g + 1) by omega]
    have no : ∀ {hne : ¬ rwN bt k g < 6 ∨ cbt bt g = false}, b_X11_row_40 (nI tl) (nI (rwN bt k g - k)) (nI (4 * g)) s = j_X11_row_96_40 (nI tl) (nI (rwN bt k g - k)) (nI (4 * g)) s → ∃ s', b_X11_row_40 (nI tl) (nI (rwN bt k g - k)) (nI (4 * g)) s = some (.inl s') ∧ s'.1 = nI (rwN bt k (g + 1) - k) ∧ s'.2.1 = nI (4 * (g + 1)) ∧ aI s'.2.2 83 = rwK bt k K (g + 1) ∧ fI s'.2.2 81 6 = nI (s0 + (g + 1) + k - rwN bt k (g + 1)) ∧ Fr (fun x => x = 83) (fun x j => x = 81 ∧ j = 6) h s'.2.2 := by
      intro hne e
      obtain ⟨e1, e2⟩ := rw_no K hne
      rw [e, j96, e1, e2]
      exact ⟨_, rfl, rfl, rfl, p3, fI_s, Fr_tF p5 (by omega)⟩
    have pos : ¬ nI tl < nI (4 * g) + 4 := by rw [l4_, nI_add, nI_lt6 (by omega) (by omega)]; omega
    by_cases c6 : rwN bt k g < 6
    · have pre : ∀ {P : Option ((Int32 × Int32 × Hp) ⊕ (Int32 × Hp))}, ((f_X11_canBe (sb (bt (4 * g))) (sb (bt (4 * g + 1))) (sb (bt (4 * g + 2))) (sb (bt (4 * g + 3)))).bind fun v28 => if v28 = true then j_X11_row_97_40 (nI tl) (nI (rwN bt k g - k)) (nI (4 * g)) 1 s else j_X11_row_96_40 (nI tl) (nI (rwN bt k g - k)) (nI (4 * g)) s) = P → b_X11_row_40 (nI tl) (nI (rwN bt k g - k)) (nI (4 * g)) s = P := by
        intro P e
        unfold b_X11_row_40
        rw [if_neg pos, m_many w83, Option.bind_some, if_neg (show ¬ (6 : Int32) ≤ nI (rwN bt k g) by rw [l6_, nI_le6 (by omega) (by omega)]; omega), inb_nI (show 4 * g < 400 by omega) (by omega), Option.bind_some, nI_1, inb_nI (show 4 * g + 1 < 400 by omega) (by omega), Option.bind_some, l2_, nI_add, inb_nI (show 4 * g + 2 < 400 by omega) (by omega), Option.bind_some, l3_, nI_add, inb_nI (show 4 * g + 3 < 400 by omega) (by omega), Option.bind_some, s88, h88 _ (by omega), h88 _ (by omega), h88 _ (by omega), h88 _ (by omega)]
        exact e
      rcases can_t (hb (4 * g)) (hb (4 * g + 1)) (hb (4 * g + 2)) (hb (4 * g + 3)) with ⟨y1, y2, y3, y4, -, y5, t1, t2, t3, t4⟩ | ⟨y1, -, y2⟩
      · have cb : cbt bt g = true := decide_eq_true ⟨y1, y2, y3, y4⟩
        obtain ⟨e1, e2⟩ := rw_yes K c6 cb
        obtain ⟨s', z1, z2, z3⟩ := m_adds w83 c6 (nI (bt (4 * g))) (nI (bt (4 * g + 1))) (nI (bt (4 * g + 2))) (nI (bt (4 * g + 3)))
        have q6 : fI s' 81 6 = nI (s0 + g + k - rwN bt k g) := by rw [z3.1 _ _ (fun c => c)]; exact p4
        have j97 : j_X11_row_97_40 (nI tl) (nI (rwN bt k g - k)) (nI (4 * g)) 1 s = some (.inl (nI (rwN bt k g + 1 - k), nI (4 * (g + 1)), sF s' 81 6 (nI (s0 + (g + 1) + k - (rwN bt k g + 1))))) := by
          unfold j_X11_row_97_40
          rw [if_neg (by decide), inb_nI (show 4 * g < 400 by omega) (by omega), Option.bind_some, nI_1, inb_nI (show 4 * g + 1 < 400 by omega) (by omega), Option.bind_some, l2_, nI_add, inb_nI (show 4 * g + 2 < 400 by omega) (by omega), Option.bind_some, l3_, nI_add, inb_nI (show 4 * g + 3 < 400 by omega) (by omega), Option.bind_some, s88, h88 _ (by omega), h88 _ (by omega), h88 _ (by omega), h88 _ (by omega), t1, t2, t3, t4, z1, Option.bind_some]
          unfold j_X11_row_138_40
          rw [if_neg (by decide)]
          unfold j_X11_row_149_40
          rw [if_neg (by decide)]
          unfold j_X11_row_166_40
          rw [q6, z0, nI_1, l4_, nI_add, show s0 + g + k - rwN bt k g = s0 + (g + 1) + k - (rwN bt k g + 1) by omega, show rwN bt k g - k + 1 = rwN bt k g + 1 - k by omega, show 4 * g + 4 = 4 * (g + 1) by omega]
        have bb := pre (P := some (.inl (nI (rwN bt k g + 1 - k), nI (4 * (g + 1)), sF s' 81 6 (nI (s0 + (g + 1) + k - (rwN bt k g + 1)))))) (by rw [y5, Option.bind_some, if_pos rfl]; exact j97)
        rw [e1, e2, bb]
        refine ⟨_, rfl, rfl, rfl, ?_, fI_s, Fr_tF (Fr_tr p5 (Fr_mono z3 (fun _ c => c) (fun _ _ c => c.elim))) (by omega)⟩
        show aI s' 83 = _
        rw [z2, p3]
      · exact no (hne := Or.inr (decide_eq_false y1)) (pre (by rw [y2, Option.bind_some, if_neg Bool.false_ne_true]))
    · refine no (hne := Or.inl c6) ?_
      unfold b_X11_row_40
      rw [if_neg pos, m_many w83, Option.bind_some, if_pos (show (6 : Int32) ≤ nI (rwN bt k g) by rw [l6_, nI_le6 (by omega) (by omega)]; omega)]
  · rintro ⟨c, x, s⟩ ⟨p1, p2, p3, p4, p5⟩
    have p2' : x = nI (4 * (tl / 4)) := p2
    refine ⟨(c, s), ?_, p1, p3, p4, p5⟩
    show b_X11_row_40 (nI tl) c x s = _
    unfold b_X11_row_40
    rw [p2', l4_, nI_add, if_pos (show nI tl < nI (4 * (tl / 4) + 4) by rw [nI_lt6 (by omega) (by omega)]; omega)]
