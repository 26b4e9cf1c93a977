theorem m_drawn {S : Sem} {h : Hp} {K K0 : Nat → Int32} {k s : Nat} (hS : semOK S) (hT : RT K0 S) (hK : ∀ i, 25 ≤ i → K i = K0 i) (e : fI h 81 55 = nI s) (hs : s < 1000003) (e83 : aI h 83 = K) (hw : WF K k) (hk : 0 < k) (hm : MOb K 999) : ∃ h', f_X11_minuteIsDrawn h = some ((), h') ∧ aI h' 83 = minK S k (mvd K k (drN s % k) (drN (drN s) % 9) (drN (drN (drN s)) % 3)) ∧ fI h' 81 55 = nI (drN (drN (drN s))) ∧ Fr mA (fun a j => tF a j ∨ a = 81 ∧ j = 55) h h' := by
  have h6 := hw.2.1
  have d1 := drN_lt s
  have d2 := drN_lt (drN s)
  have hp : drN s % k < k := Nat.mod_lt _ hk
  have ht : drN (drN s) % 9 < 9 := Nat.mod_lt _ (by omega)
  have hc : drN (drN (drN s)) % 3 < 3 := Nat.mod_lt _ (by omega)
  have Fg : Fr mA (fun a j => tF a j ∨ a = 81 ∧ j = 55) h (sF (sF (sF h 81 55 (nI (drN s))) 81 55 (nI (drN (drN s)))) 81 55 (nI (drN (drN (drN s))))) := Fr_tF (Fr_tF (Fr_sF (by omega)) (by omega)) (by omega)
  have g83 : aI (sF (sF (sF h 81 55 (nI (drN s))) 81 55 (nI (drN (drN s)))) 81 55 (nI (drN (drN (drN s))))) 83 = K := e83
  have g55 : fI (sF (sF (sF h 81 55 (nI (drN s))) 81 55 (nI (drN (drN s)))) 81 55 (nI (drN (drN (drN s))))) 81 55 = nI (drN (drN (drN s))) := fI_s
  unfold f_X11_minuteIsDrawn
  rw [m_many (k := k) (by rw [e83]; exact hw), Option.bind_some, m_draws e hs hk (by omega), Option.bind_some, show f_X11_draws (9 : Int32) (sF h 81 55 (nI (drN s))) = some (nI (drN (drN s) % 9), sF (sF h 81 55 (nI (drN s))) 81 55 (nI (drN (drN s)))) from m_draws (m := 9) fI_s d1 (by omega) (by omega), Option.bind_some, show f_X11_draws (3 : Int32) (sF (sF h 81 55 (nI (drN s))) 81 55 (nI (drN (drN s)))) = some (nI (drN (drN (drN s)) % 3), sF (sF (sF h 81 55 (nI (drN s))) 81 55 (nI (drN (drN s)))) 81 55 (nI (drN (drN (drN s))))) from m_draws (m := 3) fI_s d2 (by omega) (by omega), Option.bind_some]
  dsimp only
  generalize sF (sF (sF h 81 55 (nI (drN s))) 81 55 (nI (drN (drN s)))) 81 55 (nI (drN (drN (drN s)))) = g at Fg g83 g55
  generalize drN (drN (drN s)) % 3 = c at hc
  generalize drN (drN s) % 9 = t at ht
  generalize drN s % k = p at hp
  have e0 : nI c = 0 ↔ c = 0 := nI_eq (a := c) (b := 0) (by omega) (by omega)
  have e1 : nI c = 1 ↔ c = 1 := nI_eq (a := c) (b := 1) (by omega) (by omega)
  have tn : nI t ≠ -1 := nI_ne1 (by omega)
  have wM := WF_mvd (c := c) hw hp ht
  obtain ⟨m, m1, m2⟩ := hm
  have fin : ∀ q, aI q 83 = mvd K k p t c → Fr (fun a => a = 83) noF g q → ∃ h', j_X11_minuteIsDrawn_60 q = some ((), h') ∧ aI h' 83 = minK S k (mvd K k p t c) ∧ fI h' 81 55 = nI (drN (drN (drN s))) ∧ Fr mA (fun a j => tF a j ∨ a = 81 ∧ j = 55) h h' := by
    intro q q1 q2
    obtain ⟨h', z1, z2, z3⟩ := m_pass (h := q) (k := k) hS hT (fun i hi => by rw [q1, mvd_o (by omega)]; exact hK i hi) (by rw [q1]; exact wM) ⟨m, by omega, by rw [q1, mvd_o (by omega)]; exact m2⟩
    refine ⟨h', ?_, by rw [z2, q1], by rw [z3.1 _ _ (by unfold tF; omega), q2.1 _ _ (fun c => c)]; exact g55, Fr_tr (Fr_tr Fg (Fr_mono q2 (fun a c => by unfold mA; omega) (fun _ _ c => c.elim))) (Fr_mono z3 (fun _ c => c) (fun _ _ c => Or.inl c))⟩
    unfold j_X11_minuteIsDrawn_60
    rw [z1, Option.bind_some]
  have j45 : ∀ q, c ≠ 1 → j_X11_minuteIsDrawn_45 (nI p) (nI c) q = j_X11_minuteIsDrawn_60 q := by
    intro q hq
    unfold j_X11_minuteIsDrawn_45
    rw [if_neg (fun d => hq (e1.mp d))]
  by_cases c0 : c = 0
  · rw [if_pos (e0.mpr c0), m_onSeat (k := k) (by rw [g83]; exact hw) tn, Option.bind_some, g83]
    by_cases cw : whoK K k (nI t) = -1
    · rw [if_pos cw, l18_, m_inb (show 18 + p < 5662 by omega) (by omega), Option.bind_some, j45 _ (by omega)]
      refine fin _ ?_ (Fr_sA rfl)
      unfold mvd
      rw [ps_aAs, g83, if_pos c0, if_pos cw]
    · rw [if_neg cw, j45 _ (by omega)]
      refine fin _ ?_ Fr_rfl
      unfold mvd
      rw [g83, if_pos c0, if_neg cw]
  · rw [if_neg (fun d => c0 (e0.mp d))]
    by_cases c1 : c = 1
    · unfold j_X11_minuteIsDrawn_45
      rw [if_pos (e1.mpr c1), l18_, m_inb (show 18 + p < 5662 by omega) (by omega), Option.bind_some]
      refine fin _ ?_ (Fr_sA rfl)
      unfold mvd
      rw [ps_aAs, g83, if_neg c0, if_pos c1]
    · rw [j45 _ c1]
      refine fin _ ?_ Fr_rfl
      unfold mvd
      rw [g83, if_neg c0, if_neg c1]
