/-! ===== all seatings played ===== -/
def laA (a : Nat) : Prop := 70 ≤ a ∧ a ≤ 75 ∨ a = 78 ∨ a = 79 ∨ a = 30 ∨ a = 31 ∨ a = 57 ∨ a = 58
def laF (a j : Nat) : Prop := a = 69 ∨ a = 68 ∧ 9 ≤ j
theorem la_tx {a : Nat} {h0 h : Hp} (ha : isTx a) (hg : tg h0 a = true) (hf : Fr laA laF h0 h) : TxSame h0 h a := by
  refine Tx_fr ⟨rfl, rfl, rfl, rfl, rfl, rfl, hg⟩ hf ?_ ?_ ?_ ?_
  · unfold laF; rcases ha with e | e <;> omega
  · unfold laF; rcases ha with e | e <;> omega
  · unfold laA; rcases ha with e | e <;> omega
  · unfold laA; rcases ha with e | e <;> omega
section LK2
variable {K : Nat → Int32} {k : Nat} {S : Sem} {h0 : Hp} {a : Nat}
theorem la_33 {h : Hp} (hR : RRh h0 33 K) (hf : Fr laA laF h0 h) : RRh h 33 K := RR_fr hR hf (by unfold laF; omega) (by unfold laA; omega) (by unfold laA; omega) (by unfold laA; omega) (by unfold laA; omega)
theorem c_play' (hS : semOK S) (hC : CL h0 a S) (hg : tg h0 a = true) (ha : isTx a) (hR : RRh h0 33 K) (hw : WF K k) (hm : MOb K 999) {h : Hp} (hf : Fr laA laF h0 h) {q x : Nat} (hq : q < fct (insL K k).length) (hx : x ≤ 9) (e9 : fI h 68 9 = nI (insL K k).length) (e78 : ∀ i, i < (insL K k).length → aI h 78 i = nI ((insL K k).getD i 0)) (e79 : ∀ i, i < (insL K k).length → aI h 79 i = stV K k q i) : ∃ h', f_X7_playSeating 33 a (nI q) (nI x) h = some ((), h') ∧ aI h' 74 q = nI (seatRow (seatK K k q) k 6) ∧ (∀ i, i ≠ q → aI h' 74 i = aI h 74 i) ∧ (∀ j, j ≤ x → aI h' 75 (10 * q + j) = nI (natRow (minN S k j (seatK K k q)) k)) ∧ (∀ i, ¬ (10 * q ≤ i ∧ i < 10 * q + 10) → aI h' 75 i = aI h 75 i) ∧ aI h' 78 = aI h 78 ∧ aI h' 79 = aI h 79 ∧ (∀ j, fI h' 68 j = fI h 68 j) ∧ Fr laA laF h0 h' := by
  have h6 := hw.2.1
  have m6 := ins_le hw
  have f7 := (fct_le _ m6).1
  have wS := WF_seatK hw hq
  have mS : MOb (seatK K k q) 999 := by
    obtain ⟨m, m1, m2⟩ := hm
    exact ⟨m, m1, by rw [seatK_o hw (by omega)]; exact m2⟩
  obtain ⟨g1, a1, a2, a3⟩ := c_copy (r := 69) (la_33 hR hf) (by omega)
  have F1 : Fr (fun a => 70 ≤ a ∧ a ≤ 73) (fun a j => a = 69) h g1 := Fr_mono a3 (fun a c => by omega) (fun a j c => c.1)
  -- the seats
  have key := lp_inv (b := fun s : Int32 × Hp => b_X7_playSeating_11 33 a (nI q) (nI x) s.1 s.2) (fun i s => s.1 = nI i ∧ RRh s.2 69 (sw (insL K k) (stV K k q) i K) ∧ Fr (fun a => 70 ≤ a ∧ a ≤ 73) (fun a j => a = 69) h s.2) (fun e => RRh e 69 (seatK K k q) ∧ Fr (fun a => 70 ≤ a ∧ a ≤ 73) (fun a j => a = 69) h e) (insL K k).length ((0 : Int32), g1) (by omega) ⟨rfl, a2, F1⟩ ?_ ?_
  · obtain ⟨g2, b1, b2, b3⟩ := key
    have F2 : Fr laA laF h0 (sA g2 74 q (nI (seatRow (seatK K k q) k 6))) := Fr_tA (Fr_tr hf (Fr_mono b3 (fun a c => by unfold laA; omega) (fun a j c => Or.inl c))) (by unfold laA; omega)
    have R2 : RRh (sA g2 74 q (nI (seatRow (seatK K k q) k 6))) 69 (seatK K k q) := RR_fr (A := fun a => a = 74) (F := noF) b2 (Fr_sA rfl) (fun c => c) (by omega) (by omega) (by omega) (by omega)
    -- the minutes
    have key2 := lp_inv (b := fun s : Int32 × Hp => b_X7_playSeating_64 33 a (nI q) (nI x) s.1 s.2) (fun j s => s.1 = nI j ∧ RRh s.2 69 (minN S k (j - 1) (seatK K k q)) ∧ (∀ j', j' < j → aI s.2 75 (10 * q + j') = nI (natRow (minN S k j' (seatK K k q)) k)) ∧ (∀ i, ¬ (10 * q ≤ i ∧ i < 10 * q + 10) → aI s.2 75 i = aI h 75 i) ∧ Fr (fun a => 70 ≤ a ∧ a ≤ 73 ∨ a = 75 ∨ a = 30 ∨ a = 31 ∨ a = 57 ∨ a = 58) (fun a j => a = 69) (sA g2 74 q (nI (seatRow (seatK K k q) k 6))) s.2) (fun e => (∀ j, j ≤ x → aI e 75 (10 * q + j) = nI (natRow (minN S k j (seatK K k q)) k)) ∧ (∀ i, ¬ (10 * q ≤ i ∧ i < 10 * q + 10) → aI e 75 i = aI h 75 i) ∧ Fr (fun a => 70 ≤ a ∧ a ≤ 73 ∨ a = 75 ∨ a = 30 ∨ a = 31 ∨ a = 57 ∨ a = 58) (fun a j => a = 69) (sA g2 74 q (nI (seatRow (seatK K k q) k 6))) e) (x + 1) ((0 : Int32), sA g2 74 q (nI (seatRow (seatK K k q) k 6))) (by omega) ⟨rfl, R2, fun j hj => absurd hj (Nat.not_lt_zero _), fun i hi => ?_, Fr_rfl⟩ ?_ ?_
    · obtain ⟨g3, c1, c2, c3, c4⟩ := key2
      refine ⟨g3, ?_, ?_, fun i hi => ?_, c2, c3, ?_, ?_, fun j => ?_, Fr_tr F2 (Fr_mono c4 (fun a c => by unfold laA; omega) (fun a j c => Or.inl c))⟩
      · unfold f_X7_playSeating
        rw [a1, Option.bind_some, b1, Option.bind_some, c_row' b2 wS, Option.bind_some, inb_nI (show q < 720 by omega) (by omega), Option.bind_some, c1, Option.bind_some]
      · rw [c4.2.1 74 (by omega), aI_s]
      · rw [c4.2.1 74 (by omega), aI_n hi, b3.2.1 74 (by omega)]
      · rw [c4.2.1 78 (by omega), ps_aAn _ _ _ _ _ (by omega), b3.2.1 78 (by omega)]
      · rw [c4.2.1 79 (by omega), ps_aAn _ _ _ _ _ (by omega), b3.2.1 79 (by omega)]
      · rw [c4.1 68 j (by omega), ps_fA, b3.1 68 j (by omega)]
    · show aI (sA g2 74 q _) 75 i = _
      rw [ps_aAn _ _ _ _ _ (by omega), b3.2.1 75 (by omega)]
    · rintro j ⟨s1, s2⟩ hj ⟨q1, q2, q3, q4, q5⟩
      dsimp only at q1 q2 q3 q4 q5
      subst q1
      -- behind the minute
      have nx : ∃ s3, b_X7_playSeating_64 33 a (nI q) (nI x) (nI j) s2 = j_X7_playSeating_88_64 33 a (nI q) (nI x) (nI j) s3 ∧ RRh s3 69 (minN S k j (seatK K k q)) ∧ Fr (fun a => 70 ≤ a ∧ a ≤ 73 ∨ a = 30 ∨ a = 31 ∨ a = 57 ∨ a = 58) (fun a j => a = 69) s2 s3 := by
        unfold b_X7_playSeating_64
        rw [if_neg (show ¬ nI x < nI j from nI_nlt (by omega) (by omega))]
        by_cases c : j = 0
        · subst c
          exact ⟨s2, by rw [if_pos (show nI 0 ≤ 0 by decide)], q2, Fr_rfl⟩
        · obtain ⟨j', rfl⟩ : ∃ j', j = j' + 1 := ⟨j - 1, by omega⟩
          have FF : Fr laA laF h0 s2 := Fr_tr F2 (Fr_mono q5 (fun a c => by unfold laA; omega) (fun a j c => Or.inl c))
          obtain ⟨s3, z1, z2, z3⟩ := c_pass hS hC (la_tx ha hg FF) ha (Or.inr (Or.inr (Or.inr rfl))) q2 (WF_minN hS wS _) (MOb_le (MOb_minN h6 mS _) (by omega))
          refine ⟨s3, by rw [if_neg (nI_nle (by omega) (by omega)), z1, Option.bind_some], z2, Fr_mono z3 (fun a c => by unfold pA at c; omega) (fun _ _ c => c.elim)⟩
      obtain ⟨s3, n1, n2, n3⟩ := nx
      refine Or.inl ⟨(nI (j + 1), sA s3 75 (10 * q + j) (nI (natRow (minN S k j (seatK K k q)) k))), ?_, rfl, ?_, fun j' hj' => ?_, fun i hi => ?_, ?_⟩
      · show b_X7_playSeating_64 33 a (nI q) (nI x) (nI j) s2 = _
        rw [n1]
        unfold j_X7_playSeating_88_64
        rw [c_nats n2 (WF_minN hS wS j), Option.bind_some, l10_, pk_mul, nI_add, Nat.mul_comm q 10, inb_nI (show 10 * q + j < 7200 by omega) (by omega), Option.bind_some, nI_1]
      · exact RR_fr (A := fun a => a = 75) (F := noF) n2 (Fr_sA rfl) (fun c => c) (by omega) (by omega) (by omega) (by omega)
      · show aI (sA s3 75 (10 * q + j) _) 75 (10 * q + j') = _
        by_cases c : j' = j
        · rw [c, aI_s]
        · rw [aI_n (by omega), n3.2.1 75 (by omega)]; exact q3 j' (by omega)
      · show aI (sA s3 75 (10 * q + j) _) 75 i = _
        rw [aI_n (by omega), n3.2.1 75 (by omega)]; exact q4 i hi
      · exact Fr_tA (Fr_tr q5 (Fr_mono n3 (fun a c => by omega) (fun _ _ c => c))) (by omega)
    · rintro ⟨s1, s2⟩ ⟨q1, q2, q3, q4, q5⟩
      dsimp only at q1 q2 q3 q4 q5
      subst q1
      refine ⟨s2, ?_, fun j hj => q3 j (by omega), q4, q5⟩
      show b_X7_playSeating_64 33 a (nI q) (nI x) (nI (x + 1)) s2 = _
      unfold b_X7_playSeating_64
      rw [if_pos (nI_lt (by omega) (by omega))]
  · rintro i ⟨s1, s2⟩ hi ⟨q1, q2, q3⟩
    dsimp only at q1 q2 q3
    subst q1
    have hp := (ins_at hw hi).1
    refine Or.inl ⟨(nI (i + 1), sA s2 72 ((insL K k).getD i 0) (stV K k q i)), ?_, rfl, ?_, Fr_tA q3 (by omega)⟩
    · show b_X7_playSeating_11 33 a (nI q) (nI x) (nI i) s2 = _
      unfold b_X7_playSeating_11
      rw [q3.1 68 9 (by omega), e9, if_neg (nI_ge hi (by omega)), inb_nI (show i < 6 by omega) (by omega), Option.bind_some, Option.bind_some, q3.2.1 78 (by omega), e78 i hi, inb_nI (show (insL K k).getD i 0 < 6 by omega) (by omega), Option.bind_some, q3.2.1 79 (by omega), e79 i hi, nI_1]
    · rw [sw_s]
      exact RR_seat (r := 69) q2 (by omega)
  · rintro ⟨s1, s2⟩ ⟨q1, q2, q3⟩
    dsimp only at q1 q2 q3
    subst q1
    refine ⟨s2, ?_, q2, q3⟩
    show b_X7_playSeating_11 33 a (nI q) (nI x) (nI (insL K k).length) s2 = _
    unfold b_X7_playSeating_11
    rw [q3.1 68 9 (by omega), e9, if_pos (Int32.le_refl _)]
theorem c_look (hS : semOK S) (hC : CL h0 a S) (hg : tg h0 a = true) (ha : isTx a) (hR : RRh h0 33 K) (hw : WF K k) (hm : MOb K 999) (hc : fI h0 68 11 = -1 ∨ ∃ kn, kn ≤ 9 ∧ fI h0 68 11 = nI kn ∧ CAv h0 K k S kn) {x : Nat} (hx : x ≤ 9) : ∃ h' kn, f_X7_lookAhead 33 a (nI x) h0 = some ((), h') ∧ x ≤ kn ∧ kn ≤ 9 ∧ fI h' 68 11 = nI kn ∧ CAv h' K k S kn ∧ Fr laA laF h0 h' := by
  have h6 := hw.2.1
  have m6 := ins_le hw
  have f7 := fct_le _ m6
  unfold f_X7_lookAhead
  by_cases c : nI x ≤ fI h0 68 11
  · rw [if_pos c]
    rcases hc with e | ⟨kn, e1, e2, e3⟩
    · rw [e] at c
      exact absurd (show (0 : Int32) ≤ nI x from nI_pos' (by omega)) (fun d => by
        rw [Int32.le_iff_toInt_le, nI_toInt (by omega)] at c
        have : Int32.toInt (-1) = -1 := by decide
        omega)
    · rw [e2, nI_le6 (by omega) (by omega)] at c
      exact ⟨h0, kn, rfl, c, e1, e2, e3, Fr_rfl⟩
  · rw [if_neg c, if_pos (show nI x ≤ (9 : Int32) from nI_le (b := 9) hx (by omega))]
    have F0 : Fr laA laF h0 (sF (sF h0 68 11 (nI x)) 68 10 0) := Fr_tF (Fr_sF (by unfold laF; omega)) (by unfold laF; omega)
    obtain ⟨g1, a1, a2, a3, a4, a5⟩ := c_list (la_33 hR F0) hw
    have F1 : Fr laA laF h0 g1 := Fr_tr F0 (Fr_mono a5 (fun a c => by unfold laA; omega) (fun a j c => by unfold laF; omega))
    have g11 : fI g1 68 11 = nI x := by rw [a5.1 _ _ (by omega), fI_n (by omega), fI_s]
    have g10 : fI g1 68 10 = nI 0 := by rw [a5.1 _ _ (by omega), fI_s]; rfl
    have key := lp_inv (b := fun s : Int32 × Int32 × Hp => b_X7_lookAhead_36 33 a (nI x) s.1 s.2.1 s.2.2) (fun q s => s.1 = b2i (decide (q < fct (insL K k).length)) ∧ s.2.1 = nI q ∧ fI s.2.2 68 9 = nI (insL K k).length ∧ fI s.2.2 68 10 = nI q ∧ fI s.2.2 68 11 = nI x ∧ (∀ i, i < (insL K k).length → aI s.2.2 78 i = nI ((insL K k).getD i 0)) ∧ (q < fct (insL K k).length → ∀ i, i < (insL K k).length → aI s.2.2 79 i = stV K k q i) ∧ (∀ q', q' < q → aI s.2.2 74 q' = nI (seatRow (seatK K k q') k 6) ∧ ∀ j, j ≤ x → aI s.2.2 75 (10 * q' + j) = nI (natRow (minN S k j (seatK K k q')) k)) ∧ Fr laA laF h0 s.2.2) (fun e => fI e 68 11 = nI x ∧ CAv e K k S x ∧ Fr laA laF h0 e) (fct (insL K k).length) ((1 : Int32), (0 : Int32), g1) (by omega) ⟨?_, rfl, a2, g10, g11, a3, fun _ i hi => ?_, fun q hq => absurd hq (Nat.not_lt_zero _), F1⟩ ?_ ?_
    · obtain ⟨e, k1, k2, k3, k4⟩ := key
      refine ⟨e, x, ?_, Nat.le_refl _, hx, k2, k3, k4⟩
      rw [a1, Option.bind_some, k1, Option.bind_some]
    · rw [decide_eq_true (show 0 < fct (insL K k).length by omega)]; rfl
    · show aI g1 79 i = _
      unfold stV
      rw [a4 i hi, dec_0 _ m6 i hi]
    · rintro q ⟨s1, s2, s3⟩ hq ⟨q1, q2, q3, q4, q5, q6, q7, q8, q9⟩
      dsimp only at q1 q2 q3 q4 q5 q6 q7 q8 q9
      subst q1
      subst q2
      rw [decide_eq_true hq]
      obtain ⟨g2, b1, b2, b3, b4, b5, b6, b7, b8, b9⟩ := c_play' hS hC hg ha hR hw hm q9 hq hx q3 q6 (q7 hq)
      obtain ⟨g3, d1, d2, d3⟩ := c_nextq (m := (insL K k).length) (q := q) (v := fun t => (plL K k).getD t 0) (h := sF g2 68 10 (nI (q + 1))) m6 hq (fun t ht => pl_at hw ht) (fun a b h1 h2 => pl_mono hw h1 h2) (by rw [fI_n (by omega), b8]; exact q3) (fun i hi => by show aI g2 79 i = _; rw [b7, q7 hq i hi]; rfl)
      refine Or.inl ⟨(b2i (decide (q + 1 < fct (insL K k).length)), nI (q + 1), g3), ?_, rfl, rfl, ?_, ?_, ?_, fun i hi => ?_, fun h1 i hi => ?_, fun q' hq' => ⟨?_, fun j hj => ?_⟩, ?_⟩
      · show b_X7_lookAhead_36 33 a (nI x) (b2i true) (nI q) s3 = _
        unfold b_X7_lookAhead_36
        rw [if_neg (show ¬ (720 : Int32) ≤ nI q from nI_ge (b := 720) (by omega) (by omega)), if_neg (show ¬ b2i true = 0 by decide), b1, Option.bind_some]
        show ((f_X7_toNextOrder (sF g2 68 10 (fI g2 68 10 + 1))).bind _) = _
        rw [b8, q4, nI_1, d1, Option.bind_some]
      · rw [d3.1 _ _ (fun c => c), fI_n (by omega), b8]; exact q3
      · rw [d3.1 _ _ (fun c => c), fI_s]
      · rw [d3.1 _ _ (fun c => c), fI_n (by omega), b8]; exact q5
      · show aI g3 78 i = _
        rw [d3.2.1 78 (by omega)]
        show aI g2 78 i = _
        rw [b6]; exact q6 i hi
      · exact d2 h1 i hi
      · show aI g3 74 q' = _
        rw [d3.2.1 74 (by omega)]
        show aI g2 74 q' = _
        by_cases c : q' = q
        · rw [c]; exact b2
        · rw [b3 q' c]; exact (q8 q' (by omega)).1
      · show aI g3 75 (10 * q' + j) = _
        rw [d3.2.1 75 (by omega)]
        show aI g2 75 (10 * q' + j) = _
        by_cases c : q' = q
        · rw [c]; exact b4 j hj
        · rw [b5 _ (by omega)]; exact (q8 q' (by omega)).2 j hj
      · exact Fr_tr (Fr_tF b9 (by unfold laF; omega)) (Fr_mono d3 (fun a c => by unfold laA; omega) (fun _ _ c => c.elim))
    · rintro ⟨s1, s2, s3⟩ ⟨q1, q2, q3, q4, q5, q6, q7, q8, q9⟩
      dsimp only at q1 q2 q3 q4 q5 q6 q7 q8 q9
      subst q1
      subst q2
      refine ⟨s3, ?_, q5, ⟨q3, q4, q6, fun q hq => q8 q hq⟩, q9⟩
      show b_X7_lookAhead_36 33 a (nI x) (b2i (decide (fct (insL K k).length < fct (insL K k).length))) (nI (fct (insL K k).length)) s3 = _
      unfold b_X7_lookAhead_36
      rw [decide_eq_false (Nat.lt_irrefl _)]
      split
      · rfl
      · rw [if_pos (show b2i false = 0 from rfl)]
end LK2
