/-! ===== a move is taken back ===== -/
theorem c_back {h : Hp} {K R : Nat → Int32} {nx u d : Nat} (hR : RRh h 33 K) (e1 : fI h 10 1 = nI nx) (e2 : fI h 10 2 = nI (u + 1)) (hn : nx < 16) (hu : u < 16) (hd : aI h 11 (26 * ((nx + 15) % 16)) = nI d) (h24 : aI h 11 (26 * ((nx + 15) % 16) + 1) = R 24) (hS : ∀ j, j < 6 → aI h 11 (26 * ((nx + 15) % 16) + 2 + j) = R (18 + j)) (hP : ∀ j, j < 18 → aI h 11 (26 * ((nx + 15) % 16) + 8 + j) = R j) : ∃ h', f_X4_bringBack 10 33 h = some (nI d, h') ∧ RRh h' 33 (mvK K R) ∧ fI h' 10 1 = nI ((nx + 15) % 16) ∧ fI h' 10 2 = nI u ∧ Fr (fun a => a = 34 ∨ a = 36 ∨ a = 37) (fun a _ => a = 10) h h' := by
  obtain ⟨r1, r2, r3, r4, r5, r6, r7⟩ := hR
  have hy : (nx + 15) % 16 < 16 := Nat.mod_lt _ (by omega)
  have e16 := r16b nx hn
  generalize (nx + 15) % 16 = y at hd h24 hS hP hy e16
  have mh : ∀ i, 25 ≤ i → mvK K R i = K i := fun i hi => by unfold mvK; rw [if_neg (by omega)]
  have ml : ∀ i, i < 25 → mvK K R i = R i := fun i hi => by unfold mvK; rw [if_pos hi]
  refine ⟨cpA (cpA (sA (sF (sF h 10 2 (nI u)) 10 1 (nI y)) 37 0 (R 24)) 11 (26 * y + 2) 36 0 6) 11 (26 * y + 8) 34 0 18, ?_, ?_, ?_, ?_, ?_⟩
  · unfold f_X4_bringBack
    rw [e2, if_neg (show ¬ nI (u + 1) = 0 from fun c => by have := (nI_eq (by omega) (by omega)).mp (show nI (u + 1) = nI 0 from c); omega), l1_, pk_sub (show 1 ≤ u + 1 by omega), Nat.add_sub_cancel, ← l1_, fI_n (show ¬ (10 = 10 ∧ 1 = 2) by omega), e1, e16, fI_s, show ((26 : Int32)) = nI 26 from rfl, pk_mul, Nat.mul_comm y 26, nI_1, inb_nI (show 26 * y + 1 < 416 by omega) (by omega), Option.bind_some, l2_, nI_add, show icp (nI (26 * y + 2)) (0 : Int32) (6 : Int32) 416 6 = some (26 * y + 2, 0, 6) from icp_n (b := 0) (c := 6) (by omega) (by omega) (by omega) (by omega), Option.bind_some, show ((8 : Int32)) = nI 8 from rfl, nI_add, show icp (nI (26 * y + 8)) (0 : Int32) (18 : Int32) 416 18 = some (26 * y + 8, 0, 18) from icp_n (b := 0) (c := 18) (by omega) (by omega) (by omega) (by omega), Option.bind_some, inb_nI (show 26 * y < 416 by omega) (by omega), Option.bind_some]
    dsimp only
    rw [ps_aCn _ _ _ _ _ _ _ (by omega), ps_aCn _ _ _ _ _ _ _ (by omega), ps_aAn _ _ _ _ _ (by omega)]
    show some (aI h 11 (26 * y), cpA (cpA (sA (sF (sF h 10 2 (nI u)) 10 1 (nI y)) 37 0 (aI h 11 (26 * y + 1))) 11 (26 * y + 2) 36 0 6) 11 (26 * y + 8) 34 0 18) = _
    rw [hd, h24]
  · refine ⟨?_, fun i hi => ?_, fun i hi => ?_, fun i hi => ?_, ?_, ?_, ?_⟩
    · rw [ps_fC, ps_fC, ps_fA, fI_n (by omega), fI_n (by omega), mh _ (by omega)]; exact r1
    · show aI (cpA (cpA (sA (sF (sF h 10 2 (nI u)) 10 1 (nI y)) 37 0 (R 24)) 11 (26 * y + 2) 36 0 6) 11 (26 * y + 8) 34 0 18) 34 i = _
      rw [ps_aCs, pk_cpy_in (by omega) (by omega), ps_aCn _ _ _ _ _ _ _ (by omega), ps_aAn _ _ _ _ _ (by omega), ps_aF, ps_aF, ml i (by omega), Nat.sub_zero]
      exact hP i hi
    · show aI (cpA (cpA (sA (sF (sF h 10 2 (nI u)) 10 1 (nI y)) 37 0 (R 24)) 11 (26 * y + 2) 36 0 6) 11 (26 * y + 8) 34 0 18) 35 i = _
      rw [ps_aCn _ _ _ _ _ _ _ (by omega), ps_aCn _ _ _ _ _ _ _ (by omega), ps_aAn _ _ _ _ _ (by omega), ps_aF, ps_aF, mh _ (by omega)]
      exact r3 i hi
    · show aI (cpA (cpA (sA (sF (sF h 10 2 (nI u)) 10 1 (nI y)) 37 0 (R 24)) 11 (26 * y + 2) 36 0 6) 11 (26 * y + 8) 34 0 18) 36 i = _
      rw [ps_aCn _ _ _ _ _ _ _ (by omega), ps_aCs, pk_cpy_in (by omega) (by omega), ps_aAn _ _ _ _ _ (by omega), ps_aF, ps_aF, ml _ (by omega), Nat.sub_zero]
      exact hS i hi
    · show aI (cpA (cpA (sA (sF (sF h 10 2 (nI u)) 10 1 (nI y)) 37 0 (R 24)) 11 (26 * y + 2) 36 0 6) 11 (26 * y + 8) 34 0 18) 37 0 = _
      rw [ps_aCn _ _ _ _ _ _ _ (by omega), ps_aCn _ _ _ _ _ _ _ (by omega), aI_s, ml _ (by omega)]
    · show aI (cpA (cpA (sA (sF (sF h 10 2 (nI u)) 10 1 (nI y)) 37 0 (R 24)) 11 (26 * y + 2) 36 0 6) 11 (26 * y + 8) 34 0 18) 37 1 = _
      rw [ps_aCn _ _ _ _ _ _ _ (by omega), ps_aCn _ _ _ _ _ _ _ (by omega), aI_n (by omega), mh _ (by omega)]
      exact r6
    · show aI (cpA (cpA (sA (sF (sF h 10 2 (nI u)) 10 1 (nI y)) 37 0 (R 24)) 11 (26 * y + 2) 36 0 6) 11 (26 * y + 8) 34 0 18) 37 2 = _
      rw [ps_aCn _ _ _ _ _ _ _ (by omega), ps_aCn _ _ _ _ _ _ _ (by omega), aI_n (by omega), mh _ (by omega)]
      exact r7
  · rw [ps_fC, ps_fC, ps_fA, fI_s]
  · rw [ps_fC, ps_fC, ps_fA, fI_n (by omega), fI_s]
  · exact Fr_tr (Fr_tr (Fr_tA (Fr_tF (Fr_sF rfl) rfl) (by omega)) (Fr_cp (by omega))) (Fr_cp (by omega))
theorem m_undo {h : Hp} {u d : Nat} (e2 : fI h 81 32 = nI (u + 1)) (hu : u < 16) (hd : aI h 95 (26 * u + 25) = nI d) : ∃ h', f_X11_undo h = some (nI d, sF h' 81 0 0) ∧ aI h' 83 = mvK (aI h 83) (fun i => aI h 95 (26 * u + i)) ∧ fI h' 81 32 = nI u ∧ Fr (fun a => a = 83) (fun a j => a = 81 ∧ j = 32) h h' := by
  have key := lp_inv (b := fun s : Int32 × Hp => b_X11_undo_34 (nI (26 * u)) s.1 s.2) (fun i s => s.1 = nI i ∧ (∀ j, aI s.2 83 j = if j < i then aI h 95 (26 * u + j) else aI h 83 j) ∧ Fr (fun a => a = 83) noF (sF h 81 32 (nI u)) s.2) (fun g => (∀ j, aI g 83 j = if j < 25 then aI h 95 (26 * u + j) else aI h 83 j) ∧ Fr (fun a => a = 83) noF (sF h 81 32 (nI u)) g) 25 ((0 : Int32), sF h 81 32 (nI u)) (by omega) ⟨rfl, fun j => by rw [if_neg (by omega)]; rfl, Fr_rfl⟩ ?_ ?_
  · obtain ⟨g, k1, k2, k3⟩ := key
    refine ⟨g, ?_, ?_, by rw [k3.1 _ _ (fun c => c), fI_s], Fr_tr (Fr_sF ⟨rfl, rfl⟩) (Fr_mono k3 (fun _ c => c) (fun _ _ c => c.elim))⟩
    · unfold f_X11_undo
      rw [e2, if_neg (show ¬ nI (u + 1) = 0 from fun c => by have := (nI_eq (by omega) (by omega)).mp (show nI (u + 1) = nI 0 from c); omega), l1_, pk_sub (show 1 ≤ u + 1 by omega), Nat.add_sub_cancel, fI_s, show ((26 : Int32)) = nI 26 from rfl, pk_mul, k1, Option.bind_some, l25_, nI_add, inb_nI (show 26 * u + 25 < 416 by omega) (by omega), Option.bind_some, k3.2.1 95 (by omega)]
      show (f_X11_good (aI h 95 (26 * u + 25)) g).bind _ = _
      rw [hd]
      rfl
    · funext j
      rw [k2 j]
      rfl
  · intro i s hi ⟨p1, p2, p3⟩
    refine Or.inl ⟨(nI (i + 1), sA s.2 83 i (aI s.2 95 (26 * u + i))), ?_, rfl, fun j => ?_, Fr_tA p3 rfl⟩
    · show b_X11_undo_34 (nI (26 * u)) s.1 s.2 = _
      unfold b_X11_undo_34
      rw [p1, if_neg (show ¬ (25 : Int32) ≤ nI i by rw [l25_, nI_le6 (by omega) (by omega)]; omega), nI_add, inb_nI (show 26 * u + i < 416 by omega) (by omega), Option.bind_some, inb_nI (show i < 5662 by omega) (by omega), Option.bind_some, nI_1]
    · show aI (sA s.2 83 i (aI s.2 95 (26 * u + i))) 83 j = _
      by_cases c : j = i
      · rw [c, aI_s, p3.2.1 95 (by omega), if_pos (by omega)]
        rfl
      · rw [aI_n c, p2 j]
        by_cases c2 : j < i
        · rw [if_pos c2, if_pos (by omega)]
        · rw [if_neg c2, if_neg (by omega)]
  · intro s ⟨p1, p2, p3⟩
    refine ⟨s.2, ?_, p2, p3⟩
    show b_X11_undo_34 (nI (26 * u)) s.1 s.2 = _
    unfold b_X11_undo_34
    rw [p1, if_pos (show (25 : Int32) ≤ nI 25 by decide)]
theorem op_18 : Op_18 INV := by
  intro n h hI _
  have hI0 := hI
  obtain ⟨k, sm, lc, L, i1, i2, i3, i4, i5, i6, i7, i8, i9⟩ := hI
  obtain ⟨nx, u, p1, p2, p3, p4, p5, p6⟩ := id i7
  by_cases c0 : u = 0
  · subst c0
    have hm : MIS h := i6
    refine refu (C := f_X10_undo) (M := fun h1 => if fI h1 81 32 = 0 then f_X11_undo h1 else f_X11_refuses (-3) h1) hI0 rf3 ?_ (fun h1 e83 => ?_) |>.imp fun r => ?_
    · unfold f_X10_undo f_X4_bringBack
      rw [p4, if_pos (show nI 0 = 0 from rfl), Option.bind_some, ac_ref rf3, bnd]
    · by_cases c : fI h1 81 32 = 0
      · rw [if_pos c]
        unfold f_X11_undo
        rw [if_pos c, bnd]
      · rw [if_neg c]
    · rintro ⟨h1, h2, q1, q2, q3⟩
      refine ⟨h1, h2, q1, ?_, q3⟩
      have eC : f_X10_undo h = some (-3, sA (sF h 0 19 (-3)) 25 3 (aI h 25 3 + 1)) := by
        unfold f_X10_undo f_X4_bringBack
        rw [p4, if_pos (show nI 0 = 0 from rfl), Option.bind_some, c_ansC rf3, Option.bind_some]
      have e1 : h1 = sA (sF h 0 19 (-3)) 25 3 (aI h 25 3 + 1) := by
        rw [eC] at q1
        exact (congrArg Prod.snd (Option.some.inj q1)).symm
      have e2 : fI h1 81 32 = 0 := by
        rw [e1, ps_fA, fI_n (by omega)]
        exact p5
      rw [if_pos e2] at q2
      exact q2
  · obtain ⟨v, hv⟩ : ∃ v, u = v + 1 := ⟨u - 1, by omega⟩
    subst hv
    obtain ⟨⟨d, d1, d2, d3⟩, q2, q3, q4, q5, q6⟩ := p6 v (by omega)
    have er : rg nx (v + 1) v = 26 * ((nx + 15) % 16) := by
      unfold rg
      have : (nx + 16 - (v + 1) + v) % 16 = (nx + 15) % 16 := by omega
      rw [this]
    rw [er] at d2 q2 q3 q4
    obtain ⟨g1, c1, c2, c3, c4, c5⟩ := c_back (R := fun i => aI h 95 (26 * v + i)) i2.1 p3 p4 p1 (by omega) d2 q2 (fun j hj => by rw [q3 j hj, Nat.add_assoc]) q4
    have F0 : Fr (fun a => a = 34 ∨ a = 36 ∨ a = 37) (fun a j => a = 10 ∨ a = 68 ∨ a = 0 ∧ j = 19) h (sF (sF g1 68 11 (-1)) 0 19 0) := Fr_tF (Fr_tF (Fr_mono c5 (fun _ c => c) (fun _ _ c => by omega)) (by omega)) (by omega)
    have q95 : aI (sF (sF g1 68 11 (-1)) 0 19 0) 95 = aI h 95 := F0.2.1 95 (by omega)
    have q83 : aI (sF (sF g1 68 11 (-1)) 0 19 0) 83 = aI h 83 := F0.2.1 83 (by omega)
    obtain ⟨g2, b1, b2, b3, b4⟩ := m_undo (h := sF (sF g1 68 11 (-1)) 0 19 0) (u := v) (d := d) (by rw [F0.1 _ _ (by omega)]; exact p5) (by omega) (by rw [q95]; exact d3)
    rw [q83, q95] at b2
    refine ⟨nI d, sF (sF g1 68 11 (-1)) 0 19 0, sF g2 81 0 0, ?_, b1, ?_⟩
    · unfold f_X10_undo
      rw [c1, Option.bind_some, c_ans1 (nI_pos' (by omega)), Option.bind_some]
    · have hg : Fr (fun a => a = 34 ∨ a = 36 ∨ a = 37 ∨ a = 83) (fun a j => a = 10 ∨ a = 68 ∨ a = 0 ∧ j = 19 ∨ a = 81 ∧ (j = 32 ∨ j = 0)) h (sF g2 81 0 0) := Fr_tF (Fr_tr (Fr_mono F0 (fun _ c => by omega) (fun _ _ c => by omega)) (Fr_mono b4 (fun _ c => by omega) (fun _ _ c => by omega))) (by omega)
      have e83 : aI (sF g2 81 0 0) 83 = mvK (aI h 83) (fun i => aI h 95 (26 * v + i)) := b2
      have eR : RRh (sF g2 81 0 0) 33 (mvK (aI h 83) (fun i => aI h 95 (26 * v + i))) := RR_fr (A := fun a => a = 83) (F := fun a j => a = 68 ∨ a = 0 ∨ a = 81) c2 (Fr_tF (Fr_tr (Fr_tF (Fr_sF (by omega)) (by omega)) (Fr_mono b4 (fun _ c => c) (fun _ _ c => by omega))) (by omega)) (by omega) (by omega) (by omega) (by omega) (by omega)
      have e101 : fI (sF g2 81 0 0) 10 1 = nI ((nx + 15) % 16) := by
        rw [fI_n (by omega), b4.1 _ _ (by omega), fI_n (by omega), fI_n (by omega)]; exact c3
      have e102 : fI (sF g2 81 0 0) 10 2 = nI v := by
        rw [fI_n (by omega), b4.1 _ _ (by omega), fI_n (by omega), fI_n (by omega)]; exact c4
      have e68 : fI (sF g2 81 0 0) 68 11 = -1 := by
        rw [fI_n (by omega), b4.1 _ _ (by omega), fI_n (by omega), fI_s]
      have e19 : fI (sF g2 81 0 0) 0 19 = 0 := by
        rw [fI_n (by omega), b4.1 _ _ (by omega), fI_s]
      have e32 : fI (sF g2 81 0 0) 81 32 = nI v := by
        rw [fI_n (by omega)]; exact b3
      have e81 : fI (sF g2 81 0 0) 81 0 = 0 := fI_s
      generalize sF g2 81 0 0 = h' at hg e83 eR e101 e102 e68 e19 e32 e81
      have hi : ∀ i, 25 ≤ i → aI h' 83 i = aI h 83 i := fun i c => by rw [e83]; unfold mvK; rw [if_neg (by omega)]
      refine INV_std i1 i2 i4 i8 i9 (Fr_mono hg (fun a c => by unfold uA scA; omega) (fun a j c => by unfold uF; omega)) (by rw [e83]; exact q5) ?_ (Nat.le_refl k) (fun i a b c => hi i (by omega)) (by rw [e83]; exact eR) (by rw [hi 54 (by omega)]; exact i1.2.2.2.2.2.2.2.2) (by rw [hi 54 (by omega), hg.1 _ _ (by omega)]; exact i2.2.2.2.2.2.2) (Or.inl e68) (TAP_tr i5 hg (fun a c => by omega) (fun a j c => by omega)) (MIS_g i6 (hg.1 _ _ (by omega)) (hg.1 _ _ (by omega)) (hg.1 _ _ (by omega)) (hg.1 _ _ (by omega)) (hg.1 _ _ (by omega)) (hg.1 _ _ (by omega)) (hg.2.1 _ (by omega)) (hg.2.1 _ (by omega)) e19 e81) ⟨(nx + 15) % 16, v, Nat.mod_lt _ (by omega), by omega, e101, e102, e32, fun e he => ?_⟩
      · obtain ⟨m, m1, m2⟩ := q6
        exact ⟨m, m1, by rw [e83]; unfold mvK; rw [if_pos (by omega)]; exact m2⟩
      · have er2 : rg ((nx + 15) % 16) v e = rg nx (v + 1) e := by
          unfold rg
          have : ((nx + 15) % 16 + 16 - v + e) % 16 = (nx + 16 - (v + 1) + e) % 16 := by omega
          rw [this]
        obtain ⟨t1, t2, t3, t4, t5, t6⟩ := p6 e (by omega)
        rw [er2, hg.2.1 11 (by omega), hg.2.1 95 (by omega)]
        refine ⟨t1, t2, t3, t4, WF_ag t5 (fun i _ => ?_), t6⟩
        unfold mvK
        by_cases c : i < 25
        · rw [if_pos c, if_pos c]
        · rw [if_neg c, if_neg c]; exact hi i (by omega)
