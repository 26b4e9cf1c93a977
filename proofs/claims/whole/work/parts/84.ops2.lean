/-! ===== calls that change little ===== -/
def AG (K K' : Nat → Int32) : Prop := ∀ i, (i ≤ 30 ∨ 49 ≤ i ∧ i ≤ 51) → K' i = K i
theorem WF_ag {K K' : Nat → Int32} {k : Nat} (hw : WF K k) (ha : AG K K') : WF K' k := by
  obtain ⟨w1, w2, w3, w4, w5, w6, ⟨P, w7, w7'⟩, w8, w9, w10⟩ := hw
  refine ⟨by rw [ha 51 (by omega)]; exact w1, w2, fun i hi => by rw [ha i (by omega)]; exact w3 i hi, fun p hp => by rw [ha _ (by omega)]; exact w4 p hp, fun p q hp hq hpq => by rw [ha _ (by omega), ha _ (by omega)]; exact w5 p q hp hq hpq, fun p hp => by rw [ha _ (by omega)]; exact w6 p hp, ⟨P, fun i hi => by rw [ha i (by omega)]; exact w7 i hi, w7'⟩, fun i h1 h2 => by rw [ha i (by omega)]; exact w8 i h1 h2, by rw [ha 49 (by omega)]; exact w9, by rw [ha 50 (by omega)]; exact w10⟩
theorem trK_ag {K K' : Nat → Int32} (ha : AG K K') : trK K' = trK K := by
  funext i
  unfold trK
  by_cases c : i ≤ 30 ∨ 49 ≤ i ∧ i ≤ 51
  · rw [if_pos c, if_pos c, ha i c]
  · rw [if_neg c, if_neg c]
theorem RR_ag {h : Hp} {r : Nat} {K K' : Nat → Int32} (hr : RRh h r K) (ha : AG K K') : RRh h r K' := by
  obtain ⟨r1, r2, r3, r4, r5, r6, r7⟩ := hr
  exact ⟨by rw [ha 51 (by omega)]; exact r1, fun i hi => by rw [ha i (by omega)]; exact r2 i hi, fun i hi => by rw [ha _ (by omega)]; exact r3 i hi, fun i hi => by rw [ha _ (by omega)]; exact r4 i hi, by rw [ha 24 (by omega)]; exact r5, by rw [ha 49 (by omega)]; exact r6, by rw [ha 50 (by omega)]; exact r7⟩
theorem PAS_ag {h : Hp} {K K' : Nat → Int32} {k : Nat} (hp : PAS h K k) (ha : ∀ i, (25 ≤ i ∧ i ≤ 30 ∨ 49 ≤ i ∧ i ≤ 51) → K' i = K i) : PAS h K' k := by
  obtain ⟨nx, u, p1, p2, p3, p4, p5, p6⟩ := hp
  refine ⟨nx, u, p1, p2, p3, p4, p5, fun e he => ?_⟩
  obtain ⟨q1, q2, q3, q4, q5, q6⟩ := p6 e he
  refine ⟨q1, q2, q3, q4, WF_ag q5 (fun i hi => ?_), q6⟩
  unfold mvK
  by_cases c : i < 25
  · rw [if_pos c, if_pos c]
  · rw [if_neg c, if_neg c, ha i (by omega)]
theorem HR_mk {h h' : Hp} {K K' : Nat → Int32} {k sm sm' lc : Nat} {L : LDt} (hh : HR h 32 K sm lc L) (hK : KOK K k sm lc L) (h28 : ln h 28 = 0) (hk : KpT h h') (o6 : aO h' 38 = aO h 38) (hR : RRh h' 33 K') (s6 : fI h' 32 6 = nI sm') (s39 : ∀ i, i < 18 → aI h' 39 i = K' (31 + i)) (f3 : fI h' 32 3 = fI h 32 3) (f4 : fI h' 32 4 = K' 54) : HR h' 32 K' sm' lc L := by
  obtain ⟨r1, r2, r3, r4, r5, r6, r7⟩ := hh
  refine ⟨hR, s6, s39, by rw [f3]; exact r4, fun t ht => ?_, by rw [show aO h' (32 + 6) = aO h (32 + 6) from o6]; exact r6, f4⟩
  obtain ⟨a, e1, e2⟩ := r5 t ht
  exact ⟨a, by rw [show aO h' (32 + 6) = aO h (32 + 6) from o6]; exact e1, TxI_kp e2 (tx26 e2 (hK.2.2.2.2.2.2.2.1 t ht).1.2.1 h28) hk⟩
theorem Laid_ag {T : Tok} {K K' : Nat → Int32} {t : Nat} (hl : Laid T K t) (ha : ∀ i, 55 ≤ i → K' i = K i) : Laid T K' t := ⟨by rw [ha _ (by omega)]; exact hl.1, fun x hx => ⟨by rw [ha _ (by omega)]; exact (hl.2 x hx).1, by rw [ha _ (by omega)]; exact (hl.2 x hx).2⟩⟩
theorem KOK_s {K K' : Nat → Int32} {k sm sm' lc : Nat} {L : LDt} (hK : KOK K k sm lc L) (ha : ∀ i, (i ≤ 30 ∨ 49 ≤ i) → i ≠ 52 → K' i = K i) (h1 : sm' ≤ 6) (h2 : K' 52 = nI sm') (h3 : Sights K' k sm') : KOK K' k sm' lc L := by
  obtain ⟨w1, w2, w3, w4, w5, w6, w7, w8, w9⟩ := hK
  refine ⟨WF_ag w1 (fun i hi => ha i (by omega) (by omega)), ?_, h1, h2, h3, w6, by rw [ha 53 (by omega) (by omega)]; exact w7, fun t ht => ⟨(w8 t ht).1, Laid_ag (w8 t ht).2 (fun i hi => ha i (by omega) (by omega))⟩, by rw [ha 54 (by omega) (by omega)]; exact w9⟩
  obtain ⟨m, m1, m2⟩ := w2
  exact ⟨m, m1, by rw [ha 24 (by omega) (by omega)]; exact m2⟩
theorem SF_eq {K K' : Nat → Int32} {L : LDt} (h : K' 54 = K 54) : SF K' L = SF K L := by unfold SF; rw [h]
theorem CAC_ag {h : Hp} {K K' : Nat → Int32} {k : Nat} {S : Sem} (hc : CAC h K k S) (ha : AG K K') : CAC h K' k S := by
  unfold CAC
  rw [trK_ag ha]
  exact hc
theorem rf1 : rfz (-1) 1 := Or.inl ⟨rfl, rfl⟩
theorem rf2 : rfz (-2) 2 := Or.inr (Or.inl ⟨rfl, rfl⟩)
theorem rf3 : rfz (-3) 3 := Or.inr (Or.inr (Or.inl ⟨rfl, rfl⟩))
theorem rf5 : rfz (-5) 5 := Or.inr (Or.inr (Or.inr (Or.inl ⟨rfl, rfl⟩)))
theorem rf6 : rfz (-6) 6 := Or.inr (Or.inr (Or.inr (Or.inr ⟨rfl, rfl⟩)))
theorem bnd {α β : Type} (o : Option (α × β)) : (o.bind fun v => some (v.1, v.2)) = o := by cases o <;> rfl
theorem refu {n : Nat} {h : Hp} (hI : INV n h) {x : Int32} {j : Nat} (hx : rfz x j) {C M : Hp → Option (Int32 × Hp)} (e1 : C h = f_X10_answer x h) (e2 : ∀ h1, aI h1 83 = aI h 83 → M h1 = f_X11_refuses x h1) : ∃ r h1 h2, C h = some (r, h1) ∧ M h1 = some (r, h2) ∧ INV (n + 1) h2 := by
  obtain ⟨r, h1, h2, g1, g2, g3⟩ := op_ref hI hx
  refine ⟨r, h1, h2, by rw [e1]; exact g1, ?_, g3⟩
  rw [e2 h1 ?_]
  · exact g2
  · rw [c_ansR hx] at g1
    have this : sA (sF h 0 19 x) 25 j (aI h 25 j + 1) = h1 := congrArg Prod.snd (Option.some.inj g1)
    rw [← this]
    show aI (sA (sF h 0 19 x) 25 j (aI h 25 j + 1)) 83 = aI h 83
    exact ps_aAn _ _ _ _ _ (by omega)
theorem m_isNat (x : Int32) : f_X11_isNation x = f_X11_lies x 0 (nI 2) := by
  unfold f_X11_isNation
  show (f_X11_lies x 0 (nI 2)).bind (fun v => some v) = _
  cases f_X11_lies x 0 (nI 2) <;> rfl
/-- seen or forgotten -/
theorem op_25 : Op_25 INV := by
  intro n h hI _
  obtain ⟨k, sm, lc, L, i1, i2, i3, i4, i5, i6, i7, i8, i9⟩ := hI
  have h28 : ln h 28 = 0 := i9.2.2.2.2.2.1
  refine ⟨fI h 32 6, sF h 32 6 0, sA (sF h 32 6 0) 83 52 0, rfl, ?_, ?_⟩
  · show some (aI h 83 52, sA (sF h 32 6 0) 83 52 0) = _
    rw [i2.2.1, i1.2.2.2.1]
  · have hf : Fr (fun a => a = 83) (fun a j => a = 32 ∧ j = 6) h (sA (sF h 32 6 0) 83 52 0) := Fr_tA (Fr_sF ⟨rfl, rfl⟩) rfl
    have e83 : aI (sA (sF h 32 6 0) 83 52 0) 83 = upd (aI h 83) 52 0 := ps_aAs _ _ _ _
    have ag : AG (aI h 83) (upd (aI h 83) 52 0) := fun i hi => pk_un (by omega)
    have e6 : fI (sA (sF h 32 6 0) 83 52 0) 32 6 = nI 0 := (show fI (sF h 32 6 0) 32 6 = nI 0 from fI_s)
    generalize sA (sF h 32 6 0) 83 52 0 = h' at hf e83 e6
    refine ⟨k, 0, lc, L, ?_, ?_, ?_, IMG_tr i4 h28 hf (fun a c => by omega) (fun a j c => by omega), TAP_tr i5 hf (fun a c => by omega) (fun a j c => by omega), MIS_tr i6 hf (fun a c => by omega) (fun a j c => by omega), ?_, DRW_tr i8 hf (fun a c => by omega) (fun a j c => by omega), CON_tr i9 hf (fun a c => by omega) (fun a j c => by omega)⟩
    · rw [e83]
      exact KOK_s i1 (fun i _ h2 => pk_un h2) (by omega) pk_us (fun i hi => absurd hi (Nat.not_lt_zero _))
    · rw [e83]
      refine HR_mk i2 i1 h28 (kp_tr hf (fun a c => by omega) (fun a j c => by omega)) (hf.2.2.2.1 _) (RR_ag (RR_fr i2.1 hf (by omega) (by omega) (by omega) (by omega) (by omega)) ag) e6 (fun i hi => ?_) (hf.1 _ _ (by omega)) ?_
      · rw [hf.2.1 39 (by omega), pk_un (by omega)]; exact i2.2.2.1 i hi
      · rw [hf.1 32 4 (by omega), pk_un (by omega)]; exact i2.2.2.2.2.2.2
    · rw [e83, SF_eq (show upd (aI h 83) 52 0 54 = aI h 83 54 from pk_un (by omega))]
      exact CAC_ag (CAC_tr i3 hf (fun a c => by omega) (fun a j c => by omega)) ag
    · rw [e83]
      exact PAS_ag (PAS_tr i7 hf (fun a c => by omega) (fun a j c => by omega)) (fun i hi => pk_un (by omega))
theorem op_24 : Op_24 INV := by
  intro n h hI _ x1 x2 x3
  have hI0 := hI
  obtain ⟨k, sm, lc, L, i1, i2, i3, i4, i5, i6, i7, i8, i9⟩ := hI
  have h28 : ln h 28 = 0 := i9.2.2.2.2.2.1
  have hw := i1.1
  have h6 := hw.2.1
  have hsm := i1.2.2.1
  rcases ix (x := x2) 10 (by omega) with ⟨m, hm1, hm2⟩ | hx2
  · subst hm2
    have n1 : f_X10_isNearMinute (nI m) = some true := by
      unfold f_X10_isNearMinute
      rw [if_neg (nI_pos (by omega)), if_neg (show ¬ (9 : Int32) < nI m from nI_nlt (a := 9) (b := m) (by omega) (by omega))]
    have l1 : f_X11_lies (nI m) 0 9 = some true := lies_n (n := 9) (by omega) (by omega)
    rcases ix (x := x3) 3 (by omega) with ⟨c, hc1, hc2⟩ | hx3
    · subst hc2
      have l3 : f_X11_isNation (nI c) = some true := by rw [m_isNat]; exact lies_n (by omega) (by omega)
      rcases ix6 hw x1 with ⟨p, hp1, hp2⟩ | hx1
      · subst hp2
        by_cases hs : sm < 6
        · -- it is written down
          have i52 : aI h 83 52 = nI sm := i1.2.2.2.1
          have eC : f_X10_seen (nI p) (nI m) (nI c) h = some (nI (sm + 1), sF (sF (sA (sA (sA h 39 (3 * sm) (nI p)) 39 (3 * sm + 1) (nI m)) 39 (3 * sm + 2) (nI c)) 32 6 (nI (sm + 1))) 0 19 0) := by
            unfold f_X10_seen
            rw [n1, Option.bind_some, if_pos rfl, if_neg (nI_pos (by omega)), if_pos (show nI c < 3 from nI_lt (a := c) (b := 3) hc1 (by omega)), k_has i2.1 hw hp1, Option.bind_some, if_pos rfl, i2.2.1, if_pos (show nI sm < 6 from nI_lt (a := sm) (b := 6) hs (by omega))]
            unfold f_X1_addSight
            rw [i2.2.1, if_pos (show nI sm < 6 from nI_lt (a := sm) (b := 6) hs (by omega)), l3_, pk_mul, Nat.mul_comm sm 3, inb_nI (show 3 * sm < 18 by omega) (by omega), Option.bind_some, ps_fA, i2.2.1, pk_mul, nI_1, Nat.mul_comm sm 3, inb_nI (show 3 * sm + 1 < 18 by omega) (by omega), Option.bind_some, ps_fA, ps_fA, i2.2.1, pk_mul, l2_, nI_add, Nat.mul_comm sm 3, inb_nI (show 3 * sm + 2 < 18 by omega) (by omega), Option.bind_some, ps_fA, ps_fA, ps_fA, i2.2.1, nI_1, fI_s, Option.bind_some]
            dsimp only
            rw [c_ans0 (nI_pos' (by omega)), Option.bind_some]
          refine ⟨_, _, sF (sA (sA (sA (sA (sF (sF (sA (sA (sA h 39 (3 * sm) (nI p)) 39 (3 * sm + 1) (nI m)) 39 (3 * sm + 2) (nI c)) 32 6 (nI (sm + 1))) 0 19 0) 83 (31 + 3 * sm) (nI p)) 83 (31 + 3 * sm + 1) (nI m)) 83 (31 + 3 * sm + 2) (nI c)) 83 52 (nI (sm + 1))) 81 0 0, eC, ?_, ?_⟩
          · generalize hg : sF (sF (sA (sA (sA h 39 (3 * sm) (nI p)) 39 (3 * sm + 1) (nI m)) 39 (3 * sm + 2) (nI c)) 32 6 (nI (sm + 1))) 0 19 0 = g
            have g83 : aI g 83 = aI h 83 := by
              rw [← hg]
              show aI (sA (sA (sA h 39 (3 * sm) (nI p)) 39 (3 * sm + 1) (nI m)) 39 (3 * sm + 2) (nI c)) 83 = _
              rw [ps_aAn _ _ _ _ _ (by omega), ps_aAn _ _ _ _ _ (by omega), ps_aAn _ _ _ _ _ (by omega)]
            unfold f_X11_seen
            rw [l1, Option.bind_some, if_pos rfl, l3, Option.bind_some, if_pos rfl, m_isSitter (k := k) (by rw [g83]; exact hw) hp1, Option.bind_some, if_pos rfl, g83, i52, if_neg (show ¬ nI sm = 6 from fun e => by have := (nI_eq (by omega) (by omega)).mp (show nI sm = nI 6 from e); omega), l3_, pk_mul, show ((31 : Int32)) = nI 31 from rfl, nI_add, inb_nI (show 31 + 3 * sm < 5662 by omega) (by omega), Option.bind_some, nI_1, inb_nI (show 31 + 3 * sm + 1 < 5662 by omega) (by omega), Option.bind_some, l2_, nI_add, inb_nI (show 31 + 3 * sm + 2 < 5662 by omega) (by omega), Option.bind_some]
            have e52 : aI (sA (sA (sA g 83 (31 + 3 * sm) (nI p)) 83 (31 + 3 * sm + 1) (nI m)) 83 (31 + 3 * sm + 2) (nI c)) 83 52 = nI sm := by
              rw [aI_n (by omega), aI_n (by omega), aI_n (by omega), g83, i52]
            rw [e52, nI_1, aI_s]
            rfl
          · have hf : Fr (fun a => a = 39 ∨ a = 83) (fun a j => a = 32 ∧ j = 6 ∨ a = 0 ∧ j = 19 ∨ a = 81 ∧ j = 0) h (sF (sA (sA (sA (sA (sF (sF (sA (sA (sA h 39 (3 * sm) (nI p)) 39 (3 * sm + 1) (nI m)) 39 (3 * sm + 2) (nI c)) 32 6 (nI (sm + 1))) 0 19 0) 83 (31 + 3 * sm) (nI p)) 83 (31 + 3 * sm + 1) (nI m)) 83 (31 + 3 * sm + 2) (nI c)) 83 52 (nI (sm + 1))) 81 0 0) := Fr_tF (Fr_tA (Fr_tA (Fr_tA (Fr_tA (Fr_tF (Fr_tF (Fr_tA (Fr_tA (Fr_sA (Or.inl rfl)) (Or.inl rfl)) (Or.inl rfl)) (Or.inl ⟨rfl, rfl⟩)) (Or.inr (Or.inl ⟨rfl, rfl⟩))) (Or.inr rfl)) (Or.inr rfl)) (Or.inr rfl)) (Or.inr rfl)) (Or.inr (Or.inr ⟨rfl, rfl⟩))
            have e83 : aI (sF (sA (sA (sA (sA (sF (sF (sA (sA (sA h 39 (3 * sm) (nI p)) 39 (3 * sm + 1) (nI m)) 39 (3 * sm + 2) (nI c)) 32 6 (nI (sm + 1))) 0 19 0) 83 (31 + 3 * sm) (nI p)) 83 (31 + 3 * sm + 1) (nI m)) 83 (31 + 3 * sm + 2) (nI c)) 83 52 (nI (sm + 1))) 81 0 0) 83 = upd (upd (upd (upd (aI h 83) (31 + 3 * sm) (nI p)) (31 + 3 * sm + 1) (nI m)) (31 + 3 * sm + 2) (nI c)) 52 (nI (sm + 1)) := by
              rw [ps_aF, ps_aAs, ps_aAs, ps_aAs, ps_aAs, ps_aF, ps_aF, ps_aAn _ _ _ _ _ (by omega), ps_aAn _ _ _ _ _ (by omega), ps_aAn _ _ _ _ _ (by omega)]
            have e39 : aI (sF (sA (sA (sA (sA (sF (sF (sA (sA (sA h 39 (3 * sm) (nI p)) 39 (3 * sm + 1) (nI m)) 39 (3 * sm + 2) (nI c)) 32 6 (nI (sm + 1))) 0 19 0) 83 (31 + 3 * sm) (nI p)) 83 (31 + 3 * sm + 1) (nI m)) 83 (31 + 3 * sm + 2) (nI c)) 83 52 (nI (sm + 1))) 81 0 0) 39 = upd (upd (upd (aI h 39) (3 * sm) (nI p)) (3 * sm + 1) (nI m)) (3 * sm + 2) (nI c) := by
              rw [ps_aF, ps_aAn _ _ _ _ _ (by omega), ps_aAn _ _ _ _ _ (by omega), ps_aAn _ _ _ _ _ (by omega), ps_aAn _ _ _ _ _ (by omega), ps_aF, ps_aF, ps_aAs, ps_aAs, ps_aAs]
            have e6 : fI (sF (sA (sA (sA (sA (sF (sF (sA (sA (sA h 39 (3 * sm) (nI p)) 39 (3 * sm + 1) (nI m)) 39 (3 * sm + 2) (nI c)) 32 6 (nI (sm + 1))) 0 19 0) 83 (31 + 3 * sm) (nI p)) 83 (31 + 3 * sm + 1) (nI m)) 83 (31 + 3 * sm + 2) (nI c)) 83 52 (nI (sm + 1))) 81 0 0) 32 6 = nI (sm + 1) := by
              rw [fI_n (by omega), ps_fA, ps_fA, ps_fA, ps_fA, fI_n (by omega), fI_s]
            have e19 : fI (sF (sA (sA (sA (sA (sF (sF (sA (sA (sA h 39 (3 * sm) (nI p)) 39 (3 * sm + 1) (nI m)) 39 (3 * sm + 2) (nI c)) 32 6 (nI (sm + 1))) 0 19 0) 83 (31 + 3 * sm) (nI p)) 83 (31 + 3 * sm + 1) (nI m)) 83 (31 + 3 * sm + 2) (nI c)) 83 52 (nI (sm + 1))) 81 0 0) 0 19 = 0 := by
              rw [fI_n (by omega), ps_fA, ps_fA, ps_fA, ps_fA, fI_s]
            have e81 : fI (sF (sA (sA (sA (sA (sF (sF (sA (sA (sA h 39 (3 * sm) (nI p)) 39 (3 * sm + 1) (nI m)) 39 (3 * sm + 2) (nI c)) 32 6 (nI (sm + 1))) 0 19 0) 83 (31 + 3 * sm) (nI p)) 83 (31 + 3 * sm + 1) (nI m)) 83 (31 + 3 * sm + 2) (nI c)) 83 52 (nI (sm + 1))) 81 0 0) 81 0 = 0 := fI_s
            generalize sF (sA (sA (sA (sA (sF (sF (sA (sA (sA h 39 (3 * sm) (nI p)) 39 (3 * sm + 1) (nI m)) 39 (3 * sm + 2) (nI c)) 32 6 (nI (sm + 1))) 0 19 0) 83 (31 + 3 * sm) (nI p)) 83 (31 + 3 * sm + 1) (nI m)) 83 (31 + 3 * sm + 2) (nI c)) 83 52 (nI (sm + 1))) 81 0 0 = h' at hf e83 e39 e6 e19 e81
            have up4 : ∀ i, (i < 31 + 3 * sm ∨ 31 + 3 * sm + 2 < i) → i ≠ 52 → upd (upd (upd (upd (aI h 83) (31 + 3 * sm) (nI p)) (31 + 3 * sm + 1) (nI m)) (31 + 3 * sm + 2) (nI c)) 52 (nI (sm + 1)) i = aI h 83 i := fun i h1 h2 => by rw [pk_un h2, pk_un (by omega), pk_un (by omega), pk_un (by omega)]
            have ag : AG (aI h 83) (upd (upd (upd (upd (aI h 83) (31 + 3 * sm) (nI p)) (31 + 3 * sm + 1) (nI m)) (31 + 3 * sm + 2) (nI c)) 52 (nI (sm + 1))) := fun i hi => up4 i (by omega) (by omega)
            refine ⟨k, sm + 1, lc, L, ?_, ?_, ?_, IMG_tr i4 h28 hf (fun a c => by omega) (fun a j c => by omega), TAP_tr i5 hf (fun a c => by omega) (fun a j c => by omega), ?_, ?_, DRW_tr i8 hf (fun a c => by omega) (fun a j c => by omega), CON_tr i9 hf (fun a c => by omega) (fun a j c => by omega)⟩
            · rw [e83]
              refine KOK_s i1 (fun i h1 h2 => up4 i (by omega) h2) (by omega) pk_us (fun i hi => ?_)
              by_cases ci : i = sm
              · subst ci
                refine ⟨p, m, c, hp1, by omega, hc1, ?_, ?_, ?_⟩
                · rw [pk_un (by omega), pk_un (by omega), pk_un (by omega), pk_us]
                · rw [pk_un (by omega), pk_un (by omega), pk_us]
                · rw [pk_un (by omega), pk_us]
              · obtain ⟨p', m', c', a1, a2, a3, a4, a5, a6⟩ := i1.2.2.2.2.1 i (by omega)
                exact ⟨p', m', c', a1, a2, a3, by rw [up4 _ (by omega) (by omega)]; exact a4, by rw [up4 _ (by omega) (by omega)]; exact a5, by rw [up4 _ (by omega) (by omega)]; exact a6⟩
            · rw [e83]
              refine HR_mk i2 i1 h28 (kp_tr hf (fun a c => by omega) (fun a j c => by omega)) (hf.2.2.2.1 _) (RR_ag (RR_fr i2.1 hf (by omega) (by omega) (by omega) (by omega) (by omega)) ag) e6 (fun i hi => ?_) (hf.1 _ _ (by omega)) ?_
              · rw [e39, pk_un (show 31 + i ≠ 52 by omega)]
                have h39 := i2.2.2.1 i hi
                unfold upd
                by_cases c2 : i = 3 * sm + 2
                · rw [if_pos c2, if_pos (show 31 + i = 31 + 3 * sm + 2 by omega)]
                · rw [if_neg c2, if_neg (show ¬ 31 + i = 31 + 3 * sm + 2 by omega)]
                  by_cases c1 : i = 3 * sm + 1
                  · rw [if_pos c1, if_pos (show 31 + i = 31 + 3 * sm + 1 by omega)]
                  · rw [if_neg c1, if_neg (show ¬ 31 + i = 31 + 3 * sm + 1 by omega)]
                    by_cases c0 : i = 3 * sm
                    · rw [if_pos c0, if_pos (show 31 + i = 31 + 3 * sm by omega)]
                    · rw [if_neg c0, if_neg (show ¬ 31 + i = 31 + 3 * sm by omega)]
                      exact h39
              · rw [hf.1 32 4 (by omega), up4 _ (by omega) (by omega)]; exact i2.2.2.2.2.2.2
            · rw [e83, SF_eq (up4 54 (by omega) (by omega))]
              exact CAC_ag (CAC_tr i3 hf (fun a c => by omega) (fun a j c => by omega)) ag
            · obtain ⟨m1, m2, m3, m4, m5⟩ := i6
              exact ⟨by rw [hf.1 0 17 (by omega), hf.1 81 14 (by omega)]; exact m1, by rw [hf.1 0 18 (by omega), hf.1 81 6 (by omega)]; exact m2, by rw [e19, e81], by rw [hf.1 60 6 (by omega), hf.1 81 46 (by omega)]; exact m4, by rw [hf.2.1 25 (by omega), hf.2.1 82 (by omega)]; exact m5⟩
            · rw [e83]
              exact PAS_ag (PAS_tr i7 hf (fun a c => by omega) (fun a j c => by omega)) (fun i hi => up4 i (by omega) (by omega))
        · have hs6 : sm = 6 := by omega
          refine refu (C := f_X10_seen _ _ _) (M := f_X11_seen _ _ _) hI0 rf5 ?_ (fun h1 e83 => ?_)
          · unfold f_X10_seen
            rw [n1, Option.bind_some, if_pos rfl, if_neg (nI_pos (by omega)), if_pos (show nI c < 3 from nI_lt (a := c) (b := 3) hc1 (by omega)), k_has i2.1 hw hp1, Option.bind_some, if_pos rfl, i2.2.1, hs6, if_neg (by decide), bnd]
          · unfold f_X11_seen
            rw [l1, Option.bind_some, if_pos rfl, l3, Option.bind_some, if_pos rfl, m_isSitter (k := k) (by rw [e83]; exact hw) hp1, Option.bind_some, if_pos rfl, e83, i1.2.2.2.1, hs6, if_pos (show nI 6 = 6 from rfl), bnd]
      · refine refu (C := f_X10_seen _ _ _) (M := f_X11_seen _ _ _) hI0 rf2 ?_ (fun h1 e83 => ?_)
        · unfold f_X10_seen
          rw [n1, Option.bind_some, if_pos rfl, if_neg (nI_pos (by omega)), if_pos (show nI c < 3 from nI_lt (a := c) (b := 3) hc1 (by omega)), k_has0 i2.1 hw hx1, Option.bind_some, if_neg (by decide), bnd]
        · unfold f_X11_seen
          rw [l1, Option.bind_some, if_pos rfl, l3, Option.bind_some, if_pos rfl, m_isSitter0 (k := k) (by rw [e83]; exact hw) hx1, Option.bind_some, if_neg (by decide), bnd]
    · refine refu (C := f_X10_seen _ _ _) (M := f_X11_seen _ _ _) hI0 rf1 ?_ (fun h1 e83 => ?_)
      · have j16 : j_X10_seen_16 h = f_X10_answer (-1) h := by unfold j_X10_seen_16; rw [bnd]
        unfold f_X10_seen
        rw [n1, Option.bind_some, if_pos rfl, j16]
        by_cases c : x3 < 0
        · rw [if_pos c]
        · rw [if_neg c, if_neg (fun d => by have := hx3.resolve_left c; rw [show nI 3 = 3 from rfl] at this; exact i32_nle.mpr d this)]
      · have j17 : j_X11_seen_17 h1 = f_X11_refuses (-1) h1 := by unfold j_X11_seen_17; rw [bnd]
        unfold f_X11_seen
        rw [l1, Option.bind_some, if_pos rfl, m_isNat, lies_0 (n := 2) (by omega) hx3, Option.bind_some, if_neg (by decide), j17]
  · refine refu (C := f_X10_seen _ _ _) (M := f_X11_seen _ _ _) hI0 rf1 ?_ (fun h1 e83 => ?_)
    · have j16 : j_X10_seen_16 h = f_X10_answer (-1) h := by unfold j_X10_seen_16; rw [bnd]
      have n0 : f_X10_isNearMinute x2 = some false := by
        unfold f_X10_isNearMinute
        by_cases c : x2 < 0
        · rw [if_pos c]
        · rw [if_neg c, if_pos]
          have := hx2.resolve_left c
          rw [Int32.le_iff_toInt_le, nI_toInt (by omega)] at this
          rw [Int32.lt_iff_toInt_lt]
          have e9 : Int32.toInt 9 = 9 := by decide
          omega
      unfold f_X10_seen
      rw [n0, Option.bind_some, if_neg (by decide), j16]
    · have j17 : j_X11_seen_17 h1 = f_X11_refuses (-1) h1 := by unfold j_X11_seen_17; rw [bnd]
      unfold f_X11_seen
      rw [show ((9 : Int32)) = nI 9 from rfl, lies_0 (n := 9) (by omega) hx2, Option.bind_some, if_neg (by decide), j17]
