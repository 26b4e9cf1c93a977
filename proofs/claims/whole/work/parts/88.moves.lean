/-! ===== moves ===== -/
theorem ac_ref {x : Int32} {j : Nat} (hx : rfz x j) (h : Hp) : f_X10_answerChanged x h = f_X10_answer x h := by rw [c_ansC hx, c_ansR hx]
theorem go_ref {x : Int32} {j : Nat} (hx : rfz x j) (h : Hp) : f_X11_goodOr x h = f_X11_refuses x h := by
  unfold f_X11_goodOr
  rw [if_neg (by rcases hx with ⟨e, f⟩ | ⟨e, f⟩ | ⟨e, f⟩ | ⟨e, f⟩ | ⟨e, f⟩ <;> subst e <;> decide), bnd]
theorem go_good {x : Int32} (hx : 0 ≤ x) (h : Hp) : f_X11_goodOr x h = some (x, sF h 81 0 0) := by
  unfold f_X11_goodOr
  rw [if_pos hx]
  rfl
theorem mv_inv {n : Nat} {h h1 g1 m1 g2 : Hp} {k sm lc : Nat} {L : LDt} {K' : Nat → Int32} (i1 : KOK (aI h 83) k sm lc L) (i2 : HR h 32 (aI h 83) sm lc L) (i4 : IMG h) (i5 : TAP h) (i6 : MIS h) (i8 : DRW h) (i9 : CON h n) (F1 : Fr (fun a => a = 11) (fun a _ => a = 10) h h1) (F2 : Fr (pA 33) noF h1 g1) (R : RRh g1 33 K') (F3 : Fr (fun a => a = 95) (fun a j => a = 81 ∧ j = 32) (sF (sF g1 68 11 (-1)) 0 19 0) m1) (F4 : Fr mA tF m1 g2) (e83 : aI g2 83 = K') (w : WF K' k) (mo : MOb K' 999) (hi : ∀ i, 25 ≤ i → K' i = aI h 83 i) (pp : ∀ (q : Hp) (K2 : Nat → Int32), aI q 11 = aI h1 11 → fI q 10 1 = fI h1 10 1 → fI q 10 2 = fI h1 10 2 → aI q 95 = aI m1 95 → fI q 81 32 = fI m1 81 32 → (∀ i, (25 ≤ i ∧ i ≤ 30 ∨ 49 ≤ i ∧ i ≤ 51) → K2 i = aI h 83 i) → PAS q K2 k) : INV (n + 1) (sF g2 81 0 0) := by
  have p : PAS (sF g2 81 0 0) K' k := by
    refine pp _ _ ?_ ?_ ?_ (F4.2.1 95 (by unfold mA; omega)) (by rw [fI_n (by omega), F4.1 _ _ (by unfold tF; omega)]) (fun i c => hi i (by omega))
    · show aI g2 11 = _
      rw [F4.2.1 11 (by unfold mA; omega), F3.2.1 11 (by omega)]
      exact F2.2.1 11 (by unfold pA; omega)
    · rw [fI_n (by omega), F4.1 _ _ (by unfold tF; omega), F3.1 _ _ (by omega), fI_n (by omega), fI_n (by omega), F2.1 _ _ (fun c => c)]
    · rw [fI_n (by omega), F4.1 _ _ (by unfold tF; omega), F3.1 _ _ (by omega), fI_n (by omega), fI_n (by omega), F2.1 _ _ (fun c => c)]
  have hg : Fr (fun a => a = 11 ∨ pA 33 a ∨ a = 95 ∨ mA a) (fun a j => a = 10 ∨ a = 68 ∨ a = 0 ∧ j = 19 ∨ a = 81 ∧ (j = 32 ∨ j = 0 ∨ 22 ≤ j ∧ j ≤ 25)) h (sF g2 81 0 0) := Fr_tF (Fr_tr (Fr_tr (Fr_tF (Fr_tF (Fr_tr (Fr_mono F1 (fun _ c => by omega) (fun _ _ c => by omega)) (Fr_mono F2 (fun _ c => Or.inr (Or.inl c)) (fun _ _ c => c.elim))) (by omega)) (by omega)) (Fr_mono F3 (fun _ c => by omega) (fun _ _ c => by omega))) (Fr_mono F4 (fun _ c => Or.inr (Or.inr (Or.inr c))) (fun _ _ c => by unfold tF at c; omega))) (by omega)
  have e83' : aI (sF g2 81 0 0) 83 = K' := e83
  have eR : RRh (sF g2 81 0 0) 33 K' := RR_fr (A := fun a => a = 95 ∨ mA a) (F := fun a j => a = 68 ∨ a = 0 ∨ a = 81) R (Fr_tF (Fr_tr (Fr_tr (Fr_tF (Fr_sF (by omega)) (by omega)) (Fr_mono F3 (fun _ c => by omega) (fun _ _ c => by omega))) (Fr_mono F4 (fun _ c => Or.inr c) (fun _ _ c => by unfold tF at c; omega))) (by omega)) (by omega) (by unfold mA; omega) (by unfold mA; omega) (by unfold mA; omega) (by unfold mA; omega)
  have e68 : fI (sF g2 81 0 0) 68 11 = -1 := by
    rw [fI_n (by omega), F4.1 _ _ (by unfold tF; omega), F3.1 _ _ (by omega), fI_n (by omega), fI_s]
  have e19 : fI (sF g2 81 0 0) 0 19 = 0 := by
    rw [fI_n (by omega), F4.1 _ _ (by unfold tF; omega), F3.1 _ _ (by omega), fI_s]
  have e81 : fI (sF g2 81 0 0) 81 0 = 0 := fI_s
  generalize sF g2 81 0 0 = h' at hg e83' eR e68 e19 e81 p
  have fr : ∀ a, ¬ (a = 11 ∨ pA 33 a ∨ a = 95 ∨ mA a) ↔ ¬ (a = 11 ∨ a = 30 ∨ a = 31 ∨ a = 57 ∨ a = 58 ∨ a = 34 ∨ a = 36 ∨ a = 37 ∨ a = 95 ∨ a = 83 ∨ a = 93 ∨ a = 94) := fun a => by unfold pA mA; omega
  refine INV_std i1 i2 i4 i8 i9 (Fr_mono hg (fun a c => by unfold pA mA at c; unfold uA scA; omega) (fun a j c => by unfold uF; omega)) (by rw [e83']; exact w) (by rw [e83']; exact mo) (Nat.le_refl k) (fun i a b c => by rw [e83']; exact hi i (by omega)) (by rw [e83']; exact eR) (by rw [e83', hi 54 (by omega)]; exact i1.2.2.2.2.2.2.2.2) (by rw [e83', hi 54 (by omega), hg.1 _ _ (by omega)]; exact i2.2.2.2.2.2.2) (Or.inl e68) (TAP_tr i5 hg (fun a c => by unfold pA mA at c; omega) (fun a j c => by omega)) (MIS_g i6 (hg.1 _ _ (by omega)) (hg.1 _ _ (by omega)) (hg.1 _ _ (by omega)) (hg.1 _ _ (by omega)) (hg.1 _ _ (by omega)) (hg.1 _ _ (by omega)) (hg.2.1 _ (by unfold pA mA; omega)) (hg.2.1 _ (by unfold pA mA; omega)) e19 e81) (by rw [e83']; exact p)
/-- how a move goes: both keep, then seats change -/
theorem WF_seat {K : Nat → Int32} {k p s : Nat} (hw : WF K k) (hp : p < k) (hs : s < 9) (hn : ∀ q, q < k → q ≠ p → K (18 + q) ≠ nI s) : WF (upd K (18 + p) (nI s)) k := by
  obtain ⟨w1, w2, w3, w4, w5, w6, ⟨P, w7, w7'⟩, w8, w9, w10⟩ := hw
  have u : ∀ i, i ≠ 18 + p → upd K (18 + p) (nI s) i = K i := fun i hi => pk_un hi
  have nn : nI s ≠ -1 := nI_ne1 (by omega)
  refine ⟨by rw [u 51 (by omega)]; exact w1, w2, fun i hi => by rw [u i (by omega)]; exact w3 i hi, fun q hq => ?_, fun q r hq hr hqr e => ?_, fun p hp => by rw [u _ (by omega)]; exact w6 p hp, ⟨P, fun i hi => by rw [u i (by omega)]; exact w7 i hi, w7'⟩, fun i h1 h2 => by rw [u i (by omega)]; exact w8 i h1 h2, by rw [u _ (by omega)]; exact w9, by rw [u _ (by omega)]; exact w10⟩
  · by_cases c : q = p
    · rw [c, pk_us]; exact Or.inr ⟨s, hs, rfl⟩
    · rw [u _ (by omega)]; exact w4 q hq
  · by_cases c : q = p
    · rw [c, pk_us, u _ (by omega)] at e
      exact absurd e.symm (hn r hr (by omega))
    · by_cases c2 : r = p
      · rw [c2, pk_us, u _ (by omega)] at e
        exact absurd e (hn q hq c)
      · rw [u _ (by omega), u _ (by omega)] at e
        rw [u _ (by omega)]
        exact w5 q r hq hr hqr e
theorem who_no {K : Nat → Int32} {k s : Nat} (hw : WF K k) (hs : s < 9) (h : whoK K k (nI s) = -1) : ∀ q, q < k → K (18 + q) ≠ nI s := by
  intro q hq c
  have h6 := hw.2.1
  rw [who_some hw hq c (nI_ne1 (by omega))] at h
  exact nI_ne1 (by omega) h
theorem who_yes {K : Nat → Int32} {k s : Nat} (hw : WF K k) (hs : s < 9) : whoK K k (nI s) = -1 ∨ whoK K k (nI s) ≠ -1 := by
  by_cases c : whoK K k (nI s) = -1
  · exact Or.inl c
  · exact Or.inr c
theorem op_14 : Op_14 INV := by
  intro n h hI _ x1 x2
  have hI0 := hI
  obtain ⟨k, sm, lc, L, i1, i2, i3, i4, i5, i6, i7, i8, i9⟩ := hI
  have hw := i1.1
  have h6 := hw.2.1
  rcases ix (x := x2) 9 (by omega) with ⟨s, hs, e⟩ | hx2
  · subst e
    have n9 : f_X11_isSeat (nI s) = some true := by unfold f_X11_isSeat; rw [show ((8 : Int32)) = nI 8 from rfl, lies_n (by omega) (by omega), Option.bind_some]
    have c9 : nI s < 9 := nI_lt (a := s) (b := 9) hs (by omega)
    rcases ix6 hw x1 with ⟨p, hp, e⟩ | hx1
    · subst e
      have sne : nI s ≠ -1 := nI_ne1 (by omega)
      by_cases cw : whoK (aI h 83) k (nI s) = -1
      · obtain ⟨h1, a1, a2, a3⟩ := keep_both i7 i2.1 hw i1.2.1 (d := 0) (by omega)
        have R1 : RRh (sA h1 36 p (nI s)) 33 (upd (aI h 83) (18 + p) (nI s)) := RR_seat (r := 33) (RR_fr i2.1 a2 (by omega) (by omega) (by omega) (by omega) (by omega)) (by omega)
        have wK := WF_seat hw hp hs (fun q hq _ => who_no hw hs cw q hq)
        have q83 : aI (sF (sF (sA h1 36 p (nI s)) 68 11 (-1)) 0 19 0) 83 = aI h 83 := by
          show aI (sA h1 36 p (nI s)) 83 = _
          rw [ps_aAn _ _ _ _ _ (by omega), a2.2.1 83 (by omega)]
        obtain ⟨m1, b1, b2, b3⟩ := a3 (sF (sF (sA h1 36 p (nI s)) 68 11 (-1)) 0 19 0) q83 (by show aI (sA h1 36 p (nI s)) 95 = _; rw [ps_aAn _ _ _ _ _ (by omega), a2.2.1 95 (by omega)]) (by rw [fI_n (by omega), fI_n (by omega), ps_fA, a2.1 _ _ (by omega)])
        have e83 : aI (sA m1 83 (18 + p) (nI s)) 83 = upd (aI h 83) (18 + p) (nI s) := by
          rw [ps_aAs, b2.2.1 83 (by omega), q83]
        have cl := cntN_le (insb (upd (aI h 83) (18 + p) (nI s))) k
        refine ⟨nI (cntN (insb (upd (aI h 83) (18 + p) (nI s))) k), sF (sF (sA h1 36 p (nI s)) 68 11 (-1)) 0 19 0, sF (sA m1 83 (18 + p) (nI s)) 81 0 0, ?_, ?_, mv_inv (h1 := h1) (g1 := sA h1 36 p (nI s)) (m1 := m1) i1 i2 i4 i5 i6 i8 i9 a2 (Fr_sA (by unfold pA; omega)) R1 b2 (Fr_sA (by unfold mA; omega)) e83 wK ?_ (fun i hi => pk_un (by omega)) b3⟩
        · unfold f_X10_seat f_X3_toSeat
          rw [if_neg (nI_pos (by omega)), if_pos c9, k_has i2.1 hw hp, Option.bind_some, if_pos rfl, k_whoAt i2.1 hw, Option.bind_some, if_neg sne, if_pos cw, show f_X4_keep 10 (0 : Int32) 33 h = some ((), h1) from a1, Option.bind_some, inb_nI (show p < 6 by omega) (by omega), Option.bind_some, k_countInside R1 wK, Option.bind_some, Option.bind_some, c_ans1 (nI_pos' (by omega)), Option.bind_some]
        · unfold f_X11_seat f_X11_seatsKept
          rw [n9, Option.bind_some, if_pos rfl, m_isSitter (k := k) (by rw [q83]; exact hw) hp, Option.bind_some, if_pos rfl, m_onSeat (k := k) (by rw [q83]; exact hw) sne, Option.bind_some, q83, if_pos cw, show f_X11_keeps (0 : Int32) (sF (sF (sA h1 36 p (nI s)) 68 11 (-1)) 0 19 0) = some ((), m1) from b1, Option.bind_some, l18_, m_inb (show 18 + p < 5662 by omega) (by omega), Option.bind_some, m_insideMany (k := k) (by rw [e83]; exact wK), e83, Option.bind_some, Option.bind_some, go_good (nI_pos' (by omega)), Option.bind_some]
        · obtain ⟨m, q1, q2⟩ := i1.2.1
          exact ⟨m, q1, by rw [pk_un (by omega)]; exact q2⟩
      · refine refu (C := f_X10_seat _ _) (M := f_X11_seat _ _) hI0 rf3 ?_ (fun h1 e83 => ?_)
        · unfold f_X10_seat f_X3_toSeat
          rw [if_neg (nI_pos (by omega)), if_pos c9, k_has i2.1 hw hp, Option.bind_some, if_pos rfl, k_whoAt i2.1 hw, Option.bind_some, if_neg sne, if_neg cw, Option.bind_some, ac_ref rf3, bnd]
        · unfold f_X11_seat f_X11_seatsKept
          rw [n9, Option.bind_some, if_pos rfl, m_isSitter (k := k) (by rw [e83]; exact hw) hp, Option.bind_some, if_pos rfl, m_onSeat (k := k) (by rw [e83]; exact hw) sne, Option.bind_some, e83, if_neg cw, Option.bind_some, go_ref rf3, bnd]
    · refine refu (C := f_X10_seat _ _) (M := f_X11_seat _ _) hI0 rf2 ?_ (fun h1 e83 => ?_)
      · unfold f_X10_seat f_X3_toSeat
        rw [if_neg (nI_pos (by omega)), if_pos c9, k_has0 i2.1 hw hx1, Option.bind_some, if_neg Bool.false_ne_true, Option.bind_some, ac_ref rf2, bnd]
      · unfold f_X11_seat f_X11_seatsKept
        rw [n9, Option.bind_some, if_pos rfl, m_isSitter0 (k := k) (by rw [e83]; exact hw) hx1, Option.bind_some, if_neg Bool.false_ne_true, Option.bind_some, go_ref rf2, bnd]
  · refine refu (C := f_X10_seat _ _) (M := f_X11_seat _ _) hI0 rf1 ?_ (fun h1 e83 => ?_)
    · have : f_X3_toSeat x1 x2 h = some (-1, h) := by
        unfold f_X3_toSeat
        by_cases c : x2 < 0
        · rw [if_pos c]
        · rw [if_neg c, if_neg (fun d => by have := hx2.resolve_left c; rw [show nI 9 = 9 from rfl] at this; exact i32_nle.mpr d this)]
      unfold f_X10_seat
      rw [this, Option.bind_some, ac_ref rf1, bnd]
    · unfold f_X11_seat f_X11_seatsKept f_X11_isSeat
      rw [show ((8 : Int32)) = nI 8 from rfl, lies_0 (by omega) hx2, Option.bind_some, Option.bind_some, if_neg Bool.false_ne_true, Option.bind_some, go_ref rf1, bnd]
theorem op_15 : Op_15 INV := by
  intro n h hI _ x1
  have hI0 := hI
  obtain ⟨k, sm, lc, L, i1, i2, i3, i4, i5, i6, i7, i8, i9⟩ := hI
  have hw := i1.1
  have h6 := hw.2.1
  rcases ix6 hw x1 with ⟨p, hp, e⟩ | hx1
  · subst e
    cases ci : insb (aI h 83) p with
    | true =>
      obtain ⟨s1, s2⟩ := seat_of hw hp ci
      obtain ⟨h1, a1, a2, a3⟩ := keep_both i7 i2.1 hw i1.2.1 (d := 1) (by omega)
      have R0 : RRh h1 33 (aI h 83) := RR_fr i2.1 a2 (by omega) (by omega) (by omega) (by omega) (by omega)
      have R1 : RRh (sA h1 36 p (-1)) 33 (upd (aI h 83) (18 + p) (-1)) := RR_seat (r := 33) R0 (by omega)
      have wK := WF_out hw hp
      have q83 : aI (sF (sF (sA h1 36 p (-1)) 68 11 (-1)) 0 19 0) 83 = aI h 83 := by
        show aI (sA h1 36 p (-1)) 83 = _
        rw [ps_aAn _ _ _ _ _ (by omega), a2.2.1 83 (by omega)]
      obtain ⟨m1, b1, b2, b3⟩ := a3 (sF (sF (sA h1 36 p (-1)) 68 11 (-1)) 0 19 0) q83 (by show aI (sA h1 36 p (-1)) 95 = _; rw [ps_aAn _ _ _ _ _ (by omega), a2.2.1 95 (by omega)]) (by rw [fI_n (by omega), fI_n (by omega), ps_fA, a2.1 _ _ (by omega)])
      have q83m : aI m1 83 = aI h 83 := by rw [b2.2.1 83 (by omega), q83]
      have e83 : aI (sA m1 83 (18 + p) (-1)) 83 = upd (aI h 83) (18 + p) (-1) := by rw [ps_aAs, q83m]
      have e36 : aI h1 36 p = nI (seatN (aI h 83) p) := by rw [← s1]; exact R0.2.2.2.1 p (by omega)
      refine ⟨nI (seatN (aI h 83) p), sF (sF (sA h1 36 p (-1)) 68 11 (-1)) 0 19 0, sF (sA m1 83 (18 + p) (-1)) 81 0 0, ?_, ?_, mv_inv (h1 := h1) (g1 := sA h1 36 p (-1)) (m1 := m1) i1 i2 i4 i5 i6 i8 i9 a2 (Fr_sA (by unfold pA; omega)) R1 b2 (Fr_sA (by unfold mA; omega)) e83 wK ?_ (fun i hi => pk_un (by omega)) b3⟩
      · unfold f_X10_out f_X3_toSendOut
        rw [k_has i2.1 hw hp, Option.bind_some, if_pos rfl, k_isInside i2.1 hw hp, ci, Option.bind_some, if_pos rfl, show f_X4_keep 10 (1 : Int32) 33 h = some ((), h1) from a1, Option.bind_some, inb_nI (show p < 6 by omega) (by omega), Option.bind_some, Option.bind_some, Option.bind_some]
        show (f_X10_answerChanged (aI h1 36 p) (sA h1 36 p (-1))).bind _ = _
        rw [e36, c_ans1 (nI_pos' (by omega)), Option.bind_some]
      · unfold f_X11_out f_X11_outKept
        rw [m_isSitter (k := k) (by rw [q83]; exact hw) hp, Option.bind_some, if_pos rfl, m_isInside (by omega), q83, ci, Option.bind_some, if_pos rfl, show f_X11_keeps (1 : Int32) (sF (sF (sA h1 36 p (-1)) 68 11 (-1)) 0 19 0) = some ((), m1) from b1, Option.bind_some, m_seatOf (by omega), Option.bind_some, l18_, m_inb (show 18 + p < 5662 by omega) (by omega), Option.bind_some, Option.bind_some]
        show (f_X11_goodOr (aI m1 83 (18 + p)) (sA m1 83 (18 + p) (-1))).bind _ = _
        rw [q83m, s1, go_good (nI_pos' (by omega)), Option.bind_some]
      · obtain ⟨m, q1, q2⟩ := i1.2.1
        exact ⟨m, q1, by rw [pk_un (by omega)]; exact q2⟩
    | false =>
      refine refu (C := f_X10_out _) (M := f_X11_out _) hI0 rf3 ?_ (fun h1 e83 => ?_)
      · unfold f_X10_out f_X3_toSendOut
        rw [k_has i2.1 hw hp, Option.bind_some, if_pos rfl, k_isInside i2.1 hw hp, ci, Option.bind_some, if_neg Bool.false_ne_true, Option.bind_some, ac_ref rf3, bnd]
      · unfold f_X11_out f_X11_outKept
        rw [m_isSitter (k := k) (by rw [e83]; exact hw) hp, Option.bind_some, if_pos rfl, m_isInside (by omega), e83, ci, Option.bind_some, if_neg Bool.false_ne_true, Option.bind_some, go_ref rf3, bnd]
  · refine refu (C := f_X10_out _) (M := f_X11_out _) hI0 rf2 ?_ (fun h1 e83 => ?_)
    · unfold f_X10_out f_X3_toSendOut
      rw [k_has0 i2.1 hw hx1, Option.bind_some, if_neg Bool.false_ne_true, Option.bind_some, ac_ref rf2, bnd]
    · unfold f_X11_out f_X11_outKept
      rw [m_isSitter0 (k := k) (by rw [e83]; exact hw) hx1, Option.bind_some, if_neg Bool.false_ne_true, Option.bind_some, go_ref rf2, bnd]
def swpK (K : Nat → Int32) (p q : Nat) : Nat → Int32 := upd (upd K (18 + p) (K (18 + q))) (18 + q) (K (18 + p))
theorem WF_swp {K : Nat → Int32} {k p q : Nat} (hw : WF K k) (hp : p < k) (hq : q < k) (hpq : p ≠ q) (h1 : insb K p = true) (h2 : insb K q = true) : WF (swpK K p q) k := by
  obtain ⟨a1, a2⟩ := seat_of hw hp h1
  obtain ⟨b1, b2⟩ := seat_of hw hq h2
  have dis : ∀ r t, r < k → t < k → r ≠ t → insb K r = true → K (18 + t) ≠ K (18 + r) := by
    intro r t hr ht hrt hir c
    have := hw.2.2.2.2.1 r t hr ht hrt c.symm
    unfold insb at hir
    simp [this] at hir
  have w1 := WF_out hw hp
  have w2 : WF (upd (upd K (18 + p) (-1)) (18 + q) (K (18 + p))) k := by
    rw [a1]
    refine WF_seat w1 hq a2 (fun r hr hrq => ?_)
    by_cases c : r = p
    · rw [c, pk_us]; exact fun e => nI_ne1 (by omega) e.symm
    · rw [pk_un (by omega), ← a1]; exact dis p r hp hr (by omega) h1
  have w3 : WF (upd (upd (upd K (18 + p) (-1)) (18 + q) (K (18 + p))) (18 + p) (K (18 + q))) k := by
    rw [b1]
    refine WF_seat w2 hp b2 (fun r hr hrp => ?_)
    rw [← b1]
    by_cases c : r = q
    · rw [c, pk_us]; exact dis q p hq hp (by omega) h2
    · rw [pk_un (by omega), pk_un (by omega)]; exact dis q r hq hr (by omega) h2
  refine WF_ag w3 (fun i hi => ?_)
  unfold swpK upd
  by_cases c1 : i = 18 + q
  · rw [if_pos c1, if_neg (show ¬ i = 18 + p by omega), if_pos c1]
  · rw [if_neg c1]
    by_cases c2 : i = 18 + p
    · rw [if_pos c2, if_pos c2]
    · rw [if_neg c2, if_neg c2, if_neg c1, if_neg c2]
theorem op_16 : Op_16 INV := by
  intro n h hI _ x1 x2
  have hI0 := hI
  obtain ⟨k, sm, lc, L, i1, i2, i3, i4, i5, i6, i7, i8, i9⟩ := hI
  have hw := i1.1
  have h6 := hw.2.1
  by_cases ce : x1 = x2
  · refine refu (C := f_X10_swap _ _) (M := f_X11_swap _ _) hI0 rf1 ?_ (fun h1 e83 => ?_)
    · unfold f_X10_swap f_X3_toExchange
      rw [if_pos ce, Option.bind_some, ac_ref rf1, bnd]
    · unfold f_X11_swap f_X11_swapsKept
      rw [if_pos ce, Option.bind_some, go_ref rf1, bnd]
  · rcases ix6 hw x1 with ⟨p, hp, e⟩ | hx1
    · subst e
      rcases ix6 hw x2 with ⟨q, hq, e⟩ | hx2
      · subst e
        have hpq : p ≠ q := fun c => ce (by rw [c])
        cases ci : insb (aI h 83) p with
        | true =>
          cases cj : insb (aI h 83) q with
          | true =>
            obtain ⟨s1, s2⟩ := seat_of hw hp ci
            obtain ⟨t1, t2⟩ := seat_of hw hq cj
            obtain ⟨h1, a1, a2, a3⟩ := keep_both i7 i2.1 hw i1.2.1 (d := 2) (by omega)
            have R0 : RRh h1 33 (aI h 83) := RR_fr i2.1 a2 (by omega) (by omega) (by omega) (by omega) (by omega)
            have e36p : aI h1 36 p = aI h 83 (18 + p) := R0.2.2.2.1 p (by omega)
            have e36q : aI h1 36 q = aI h 83 (18 + q) := R0.2.2.2.1 q (by omega)
            have R1 : RRh (sA (sA h1 36 p (aI h 83 (18 + q))) 36 q (aI h 83 (18 + p))) 33 (swpK (aI h 83) p q) := RR_seat (r := 33) (RR_seat (r := 33) R0 (by omega)) (by omega)
            have wK := WF_swp hw hp hq hpq ci cj
            have q83 : aI (sF (sF (sA (sA h1 36 p (aI h 83 (18 + q))) 36 q (aI h 83 (18 + p))) 68 11 (-1)) 0 19 0) 83 = aI h 83 := by
              show aI (sA (sA h1 36 p (aI h 83 (18 + q))) 36 q (aI h 83 (18 + p))) 83 = _
              rw [ps_aAn _ _ _ _ _ (by omega), ps_aAn _ _ _ _ _ (by omega), a2.2.1 83 (by omega)]
            obtain ⟨m1, b1, b2, b3⟩ := a3 (sF (sF (sA (sA h1 36 p (aI h 83 (18 + q))) 36 q (aI h 83 (18 + p))) 68 11 (-1)) 0 19 0) q83 (by show aI (sA (sA h1 36 p (aI h 83 (18 + q))) 36 q (aI h 83 (18 + p))) 95 = _; rw [ps_aAn _ _ _ _ _ (by omega), ps_aAn _ _ _ _ _ (by omega), a2.2.1 95 (by omega)]) (by rw [fI_n (by omega), fI_n (by omega), ps_fA, ps_fA, a2.1 _ _ (by omega)])
            have q83m : aI m1 83 = aI h 83 := by rw [b2.2.1 83 (by omega), q83]
            have e83 : aI (sA (sA m1 83 (18 + p) (aI h 83 (18 + q))) 83 (18 + q) (aI h 83 (18 + p))) 83 = swpK (aI h 83) p q := by
              rw [ps_aAs, ps_aAs, q83m]
              rfl
            refine ⟨nI (seatN (aI h 83) q), sF (sF (sA (sA h1 36 p (aI h 83 (18 + q))) 36 q (aI h 83 (18 + p))) 68 11 (-1)) 0 19 0, sF (sA (sA m1 83 (18 + p) (aI h 83 (18 + q))) 83 (18 + q) (aI h 83 (18 + p))) 81 0 0, ?_, ?_, mv_inv (h1 := h1) (g1 := sA (sA h1 36 p (aI h 83 (18 + q))) 36 q (aI h 83 (18 + p))) (m1 := m1) i1 i2 i4 i5 i6 i8 i9 a2 (Fr_tA (Fr_sA (by unfold pA; omega)) (by unfold pA; omega)) R1 b2 (Fr_tA (Fr_sA (by unfold mA; omega)) (by unfold mA; omega)) e83 wK ?_ (fun i hi => by unfold swpK; rw [pk_un (by omega), pk_un (by omega)]) b3⟩
            · unfold f_X10_swap f_X3_toExchange
              rw [if_neg ce, k_has i2.1 hw hp, Option.bind_some, if_pos rfl, k_has i2.1 hw hq, Option.bind_some, if_pos rfl, k_isInside i2.1 hw hp, ci, Option.bind_some, if_pos rfl, k_isInside i2.1 hw hq, cj, Option.bind_some, if_pos rfl, show f_X4_keep 10 (2 : Int32) 33 h = some ((), h1) from a1, Option.bind_some, inb_nI (show p < 6 by omega) (by omega), Option.bind_some, inb_nI (show q < 6 by omega) (by omega), Option.bind_some, Option.bind_some, Option.bind_some, Option.bind_some, Option.bind_some]
              show (f_X10_answerChanged (aI (sA (sA h1 36 p (aI h1 36 q)) 36 q (aI h1 36 p)) 36 p) (sA (sA h1 36 p (aI h1 36 q)) 36 q (aI h1 36 p))).bind _ = _
              rw [aI_n hpq, aI_s, e36p, e36q, t1, c_ans1 (nI_pos' (by omega)), Option.bind_some]
            · unfold f_X11_swap f_X11_swapsKept
              rw [if_neg ce, m_isSitter (k := k) (by rw [q83]; exact hw) hp, Option.bind_some, if_pos rfl, m_isSitter (k := k) (by rw [q83]; exact hw) hq, Option.bind_some, if_pos rfl, m_isInside (by omega), q83, ci, Option.bind_some, if_pos rfl, m_isInside (by omega), q83, cj, Option.bind_some, if_pos rfl, show f_X11_keeps (2 : Int32) (sF (sF (sA (sA h1 36 p (aI h 83 (18 + q))) 36 q (aI h 83 (18 + p))) 68 11 (-1)) 0 19 0) = some ((), m1) from b1, Option.bind_some, m_seatOf (by omega), Option.bind_some, m_seatOf (by omega), Option.bind_some, l18_, m_inb (show 18 + p < 5662 by omega) (by omega), Option.bind_some, m_inb (show 18 + q < 5662 by omega) (by omega), Option.bind_some, m_seatOf (by omega), Option.bind_some, Option.bind_some]
              show (f_X11_goodOr (aI (sA (sA m1 83 (18 + p) (aI m1 83 (18 + q))) 83 (18 + q) (aI m1 83 (18 + p))) 83 (18 + p)) (sA (sA m1 83 (18 + p) (aI m1 83 (18 + q))) 83 (18 + q) (aI m1 83 (18 + p)))).bind _ = _
              rw [aI_n (by omega), aI_s, q83m, t1, go_good (nI_pos' (by omega)), Option.bind_some]
            · obtain ⟨m, q1, q2⟩ := i1.2.1
              exact ⟨m, q1, by unfold swpK; rw [pk_un (by omega), pk_un (by omega)]; exact q2⟩
          | false =>
            refine refu (C := f_X10_swap _ _) (M := f_X11_swap _ _) hI0 rf3 ?_ (fun h1 e83 => ?_)
            · unfold f_X10_swap f_X3_toExchange
              rw [if_neg ce, k_has i2.1 hw hp, Option.bind_some, if_pos rfl, k_has i2.1 hw hq, Option.bind_some, if_pos rfl, k_isInside i2.1 hw hp, ci, Option.bind_some, if_pos rfl, k_isInside i2.1 hw hq, cj, Option.bind_some, if_neg Bool.false_ne_true, Option.bind_some, ac_ref rf3, bnd]
            · unfold f_X11_swap f_X11_swapsKept
              rw [if_neg ce, m_isSitter (k := k) (by rw [e83]; exact hw) hp, Option.bind_some, if_pos rfl, m_isSitter (k := k) (by rw [e83]; exact hw) hq, Option.bind_some, if_pos rfl, m_isInside (by omega), e83, ci, Option.bind_some, if_pos rfl, m_isInside (by omega), e83, cj, Option.bind_some, if_neg Bool.false_ne_true, Option.bind_some, go_ref rf3, bnd]
        | false =>
          refine refu (C := f_X10_swap _ _) (M := f_X11_swap _ _) hI0 rf3 ?_ (fun h1 e83 => ?_)
          · unfold f_X10_swap f_X3_toExchange
            rw [if_neg ce, k_has i2.1 hw hp, Option.bind_some, if_pos rfl, k_has i2.1 hw hq, Option.bind_some, if_pos rfl, k_isInside i2.1 hw hp, ci, Option.bind_some, if_neg Bool.false_ne_true, Option.bind_some, ac_ref rf3, bnd]
          · unfold f_X11_swap f_X11_swapsKept
            rw [if_neg ce, m_isSitter (k := k) (by rw [e83]; exact hw) hp, Option.bind_some, if_pos rfl, m_isSitter (k := k) (by rw [e83]; exact hw) hq, Option.bind_some, if_pos rfl, m_isInside (by omega), e83, ci, Option.bind_some, if_neg Bool.false_ne_true, Option.bind_some, go_ref rf3, bnd]
      · refine refu (C := f_X10_swap _ _) (M := f_X11_swap _ _) hI0 rf2 ?_ (fun h1 e83 => ?_)
        · unfold f_X10_swap f_X3_toExchange
          rw [if_neg ce, k_has i2.1 hw hp, Option.bind_some, if_pos rfl, k_has0 i2.1 hw hx2, Option.bind_some, if_neg Bool.false_ne_true, Option.bind_some, ac_ref rf2, bnd]
        · unfold f_X11_swap f_X11_swapsKept
          rw [if_neg ce, m_isSitter (k := k) (by rw [e83]; exact hw) hp, Option.bind_some, if_pos rfl, m_isSitter0 (k := k) (by rw [e83]; exact hw) hx2, Option.bind_some, if_neg Bool.false_ne_true, Option.bind_some, go_ref rf2, bnd]
    · refine refu (C := f_X10_swap _ _) (M := f_X11_swap _ _) hI0 rf2 ?_ (fun h1 e83 => ?_)
      · unfold f_X10_swap f_X3_toExchange
        rw [if_neg ce, k_has0 i2.1 hw hx1, Option.bind_some, if_neg Bool.false_ne_true, Option.bind_some, ac_ref rf2, bnd]
      · unfold f_X11_swap f_X11_swapsKept
        rw [if_neg ce, m_isSitter0 (k := k) (by rw [e83]; exact hw) hx1, Option.bind_some, if_neg Bool.false_ne_true, Option.bind_some, go_ref rf2, bnd]
theorem op_17 : Op_17 INV := by
  intro n h hI _
  have hI0 := hI
  obtain ⟨k, sm, lc, L, i1, i2, i3, i4, i5, i6, i7, i8, i9⟩ := hI
  have hw := i1.1
  have h6 := hw.2.1
  have h28 : ln h 28 = 0 := i9.2.2.2.2.2.1
  obtain ⟨m, hm1, hm2⟩ := i1.2.1
  have h37 : aI h 37 0 = nI m := by rw [← hm2]; exact i2.1.2.2.2.2.1
  by_cases cm : m < 999
  · obtain ⟨h1, a1, a2, a3⟩ := keep_both i7 i2.1 hw i1.2.1 (d := 3) (by omega)
    have HR1 : HR h1 32 (aI h 83) sm lc L := HR_tr i2 i1 h28 a2 (fun a c => by omega) (fun a j c => by omega)
    obtain ⟨a, f1, f2, f3, f4, f5, f6⟩ := in_force i1 HR1 (CON_tr i9 a2 (fun a c => by omega) (fun a j c => by omega))
    have mo6 : MOb (aI h 83) 1000000 := ⟨m, by omega, hm2⟩
    obtain ⟨g1, c1, c2, c3⟩ := c_pass f6 f4 ⟨rfl, rfl, rfl, rfl, rfl, rfl, f3⟩ f2 (Or.inr (Or.inr (Or.inl rfl))) HR1.1 hw mo6
    have q83 : aI (sF (sF g1 68 11 (-1)) 0 19 0) 83 = aI h 83 := by
      show aI g1 83 = _
      rw [c3.2.1 83 (by unfold pA; omega), a2.2.1 83 (by omega)]
    obtain ⟨m1, b1, b2, b3⟩ := a3 (sF (sF g1 68 11 (-1)) 0 19 0) q83 (by show aI g1 95 = _; rw [c3.2.1 95 (by unfold pA; omega), a2.2.1 95 (by omega)]) (by rw [fI_n (by omega), fI_n (by omega), c3.1 _ _ (fun c => c), a2.1 _ _ (by omega)])
    have q83m : aI m1 83 = aI h 83 := by rw [b2.2.1 83 (by omega), q83]
    obtain ⟨g2, d1, d2, d3⟩ := m_pass (h := m1) (k := k) f6 f5 (fun i hi => by rw [q83m]) (by rw [q83m]; exact hw) (by rw [q83m]; exact mo6)
    rw [q83m] at d2
    have e24 : minK (SF (aI h 83) L) k (aI h 83) 24 = nI (m + 1) := by rw [minK_24 h6, hm2, nI_1]
    refine ⟨nI (m + 1), sF (sF g1 68 11 (-1)) 0 19 0, sF g2 81 0 0, ?_, ?_, mv_inv (h1 := h1) (g1 := g1) (m1 := m1) i1 i2 i4 i5 i6 i8 i9 a2 c3 c2 b2 d3 d2 (WF_min f6 hw) ⟨m + 1, by omega, e24⟩ (fun i hi => minK_hi h6 _ (by omega)) b3⟩
    · unfold f_X10_pass f_X3_toPassMinute
      rw [h37, if_pos (show nI m < 999 from nI_lt (a := m) (b := 999) cm (by omega)), show f_X4_keep 10 (3 : Int32) 33 h = some ((), h1) from a1, Option.bind_some, f1, Option.bind_some, c1, Option.bind_some, Option.bind_some]
      show (f_X10_answerChanged (aI g1 37 0) g1).bind _ = _
      rw [show aI g1 37 0 = nI (m + 1) from c2.2.2.2.2.1.trans e24, c_ans1 (nI_pos' (by omega)), Option.bind_some]
    · unfold f_X11_pass f_X11_passesKept
      rw [q83, hm2, if_neg (show ¬ nI m = 999 from fun c => by have := (nI_eq (by omega) (by omega)).mp (show nI m = nI 999 from c); omega), show f_X11_keeps (3 : Int32) (sF (sF g1 68 11 (-1)) 0 19 0) = some ((), m1) from b1, Option.bind_some, d1, Option.bind_some, Option.bind_some]
      show (f_X11_goodOr (aI g2 83 24) g2).bind _ = _
      rw [d2, e24, go_good (nI_pos' (by omega)), Option.bind_some]
  · have m9 : m = 999 := by omega
    refine refu (C := f_X10_pass) (M := f_X11_pass) hI0 rf3 ?_ (fun h1 e83 => ?_)
    · unfold f_X10_pass f_X3_toPassMinute
      rw [h37, m9, if_neg (by decide), Option.bind_some, ac_ref rf3, bnd]
    · unfold f_X11_pass f_X11_passesKept
      rw [e83, hm2, m9, if_pos (show nI 999 = 999 from rfl), Option.bind_some, go_ref rf3, bnd]
