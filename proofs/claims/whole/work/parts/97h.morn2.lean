theorem m_morn {S : Sem} {h : Hp} {K K0 : Nat → Int32} {k s m x : Nat} (hS : semOK S) (hT : RT K0 S) (hK : ∀ i, 25 ≤ i → K i = K0 i) (e : fI h 81 55 = nI s) (hs : s < 1000003) (e83 : aI h 83 = K) (hw : WF K k) (hk : 0 < k) (hm : K 24 = nI m) (hm9 : m ≤ 999) (hx : x ≤ 60) : ∃ h', lp (fun q => b_X11_mornings_60 (nI x) q.1 q.2) FU ((0 : Int32), h) = some h' ∧ aI h' 83 = dsK S k s K (min x (999 - m)) ∧ Fr mA (fun a j => tF a j ∨ a = 81 ∧ j = 55) h h' := by
  have key := lp_inv (b := fun q : Int32 × Hp => b_X11_mornings_60 (nI x) q.1 q.2) (fun g q => q.1 = nI g ∧ aI q.2 83 = dsK S k s K g ∧ fI q.2 81 55 = nI (dsS s g) ∧ Fr mA (fun a j => tF a j ∨ a = 81 ∧ j = 55) h q.2) (fun e => aI e 83 = dsK S k s K (min x (999 - m)) ∧ Fr mA (fun a j => tF a j ∨ a = 81 ∧ j = 55) h e) (min x (999 - m)) ((0 : Int32), h) (by omega) ⟨rfl, e83, e, Fr_rfl⟩ ?_ ?_
  · exact key
  · intro g q hg ⟨p1, p2, p3, p4⟩
    obtain ⟨a1, a2, a3⟩ := ds_ok (s := s) hS hw hk hm g
    obtain ⟨h', z1, z2, z3, z4⟩ := m_drawn (h := q.2) hS hT (fun i hi => by rw [a3 i hi]; exact hK i hi) p3 (dsS_lt hs g) p2 a1 hk ⟨m + g, by omega, a2⟩
    refine Or.inl ⟨(nI (g + 1), h'), ?_, rfl, z2, z3, Fr_tr p4 z4⟩
    show b_X11_mornings_60 (nI x) q.1 q.2 = _
    unfold b_X11_mornings_60
    rw [p1, if_neg (show ¬ nI x ≤ nI g by rw [nI_le6 (by omega) (by omega)]; omega), p2, a2, if_neg (show ¬ (999 : Int32) ≤ nI (m + g) by rw [show ((999 : Int32)) = nI 999 from rfl, nI_le6 (by omega) (by omega)]; omega), z1, Option.bind_some, nI_1]
  · intro q ⟨p1, p2, p3, p4⟩
    obtain ⟨a1, a2, a3⟩ := ds_ok (s := s) hS hw hk hm (min x (999 - m))
    refine ⟨q.2, ?_, p2, p4⟩
    show b_X11_mornings_60 (nI x) q.1 q.2 = _
    unfold b_X11_mornings_60
    rw [p1, p2, a2]
    by_cases c : x ≤ 999 - m
    · rw [if_pos (show nI x ≤ nI (min x (999 - m)) by rw [nI_le6 (by omega) (by omega)]; omega)]
    · rw [if_neg (show ¬ nI x ≤ nI (min x (999 - m)) by rw [nI_le6 (by omega) (by omega)]; omega), if_pos (show (999 : Int32) ≤ nI (m + min x (999 - m)) by rw [show ((999 : Int32)) = nI 999 from rfl, nI_le6 (by omega) (by omega)]; omega)]
