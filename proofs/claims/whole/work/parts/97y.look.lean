/-! ===== the class looks ahead ===== -/
theorem cntN_up (f : Nat → Bool) {a : Nat} : ∀ b, a ≤ b → cntN f a ≤ cntN f b
  | 0, h => by rw [show a = 0 by omega]; exact Nat.le_refl _
  | b + 1, h => by
    by_cases c : a = b + 1
    · rw [c]; exact Nat.le_refl _
    · have := cntN_up f (a := a) b (by omega)
      show cntN f a ≤ cntN f b + (if f b = true then 1 else 0)
      split <;> omega
section LOK
variable {K : Nat → Int32} {k : Nat}
theorem seatK_o (hw : WF K k) {q x : Nat} (hx : x < 18 ∨ 24 ≤ x) : seatK K k q x = K x := by
  unfold seatK
  refine sw_o _ _ _ (fun i hi => ?_)
  have := (ins_at hw hi).1
  have := hw.2.1
  omega
theorem seatK_at (hw : WF K k) {q p : Nat} (hp : p < k) : (insb K p = true ∧ ∃ i, i < (insL K k).length ∧ (insL K k).getD i 0 = p ∧ seatK K k q (18 + p) = stV K k q i) ∨ (insb K p = false ∧ seatK K k q (18 + p) = -1) := by
  cases c : insb K p with
  | true =>
    obtain ⟨i, h1, h2⟩ := flt_all (insb K) k p hp c
    refine Or.inl ⟨rfl, i, h1, h2, ?_⟩
    have := sw_at (I := insL K k) (V := stV K k q) (insL K k).length K (fun a b ha hb e => ins_inj ha hb e) i h1
    have e : (insL K k).getD i 0 = p := h2
    rw [e] at this
    exact this
  | false =>
    refine Or.inr ⟨rfl, ?_⟩
    unfold seatK
    rw [sw_o _ _ _ (fun i hi e => ?_)]
    · unfold insb at c
      simpa using c
    · have e2 : (insL K k).getD i 0 = p := by omega
      have := (ins_at hw hi).2
      rw [e2, c] at this
      cases this
theorem WF_seatK (hw : WF K k) {q : Nat} (hq : q < fct (insL K k).length) : WF (seatK K k q) k := by
  have h6 := hw.2.1
  have m6 := ins_le hw
  have hin := hw
  obtain ⟨w1, w2, w3, w4, w5, w6, ⟨P, w7, w7'⟩, w8, w9, w10⟩ := hw
  have o : ∀ x, (x < 18 ∨ 24 ≤ x) → seatK K k q x = K x := fun x hx => seatK_o hin hx
  refine ⟨by rw [o 51 (by omega)]; exact w1, w2, fun i hi => by rw [o i (by omega)]; exact w3 i hi, fun p hp => ?_, fun p r hp hr hpr e => ?_, fun p hp => by rw [o _ (by omega)]; exact w6 p hp, ⟨P, fun i hi => by rw [o i (by omega)]; exact w7 i hi, w7'⟩, fun i h1 h2 => by rw [o i (by omega)]; exact w8 i h1 h2, by rw [o 49 (by omega)]; exact w9, by rw [o 50 (by omega)]; exact w10⟩
  · rcases seatK_at (q := q) hin hp with ⟨-, i, h1, h2, h3⟩ | ⟨-, h3⟩
    · have dl := dec_lt _ m6 q hq i h1
      exact Or.inr ⟨_, pl_at hin dl, h3⟩
    · exact Or.inl h3
  · rcases seatK_at (q := q) hin hp with ⟨-, i, h1, h2, h3⟩ | ⟨-, h3⟩
    · rcases seatK_at (q := q) hin hr with ⟨-, j, g1, g2, g3⟩ | ⟨-, g3⟩
      · exfalso
        have d1 := dec_lt _ m6 q hq i h1
        have d2 := dec_lt _ m6 q hq j g1
        have p1 := pl_at hin d1
        have p2 := pl_at hin d2
        rw [h3, g3] at e
        unfold stV at e
        have e2 := (nI_eq (by omega) (by omega)).mp e
        have e3 : dec (insL K k).length q i = dec (insL K k).length q j := by
          rcases Nat.lt_trichotomy (dec (insL K k).length q i) (dec (insL K k).length q j) with c | c | c
          · have := pl_mono hin c d2; omega
          · exact c
          · have := pl_mono hin c d1; omega
        have e4 := dec_inj _ m6 q hq i h1 j g1 e3
        rw [e4] at h2
        exact hpr (h2.symm.trans g2)
      · rw [e]; exact g3
    · exact h3
theorem seatD_lt (hw : WF K k) (p : Nat) : seatD K k p < 16 := by
  unfold seatD
  by_cases c : p < k ∧ insb K p = true
  · rw [if_pos c]
    have := (seat_of hw c.1 c.2).2
    omega
  · rw [if_neg c]; omega
theorem seatRow_lt (hw : WF K k) : ∀ p, seatRow K k p < 16 ^ p
  | 0 => by show 0 < 1; omega
  | p + 1 => by
    have h1 := seatRow_lt hw p
    have h2 := seatD_lt hw p
    show seatRow K k p + seatD K k p * 16 ^ p < 16 ^ (p + 1)
    rw [Nat.pow_succ]
    have : seatD K k p * 16 ^ p ≤ 15 * 16 ^ p := Nat.mul_le_mul_right _ (by omega)
    omega
theorem natRow_lt (K : Nat → Int32) : ∀ p, natRow K p < 4 ^ p
  | 0 => by show 0 < 1; omega
  | p + 1 => by
    have h1 := natRow_lt K p
    have h2 := nat3_lt K p
    show natRow K p + nat3 K p * 4 ^ p < 4 ^ (p + 1)
    rw [Nat.pow_succ]
    have : nat3 K p * 4 ^ p ≤ 2 * 4 ^ p := Nat.mul_le_mul_right _ (by omega)
    omega
theorem p4_le : ∀ p, p ≤ 6 → 4 ^ p ≤ 4096 := by decide
theorem p16_le : ∀ p, p ≤ 6 → 16 ^ p ≤ 16777216 := by decide
theorem c_row' {h : Hp} {r : Nat} (hR : RRh h r K) (hw : WF K k) : f_X7_rowOf r h = some (nI (seatRow K k 6)) := by
  have h6 := hw.2.1
  unfold f_X7_rowOf
  have key := lp_run (b := fun s : Int32 × Int32 => b_X7_rowOf_4 r s.1 s.2 h) (fun p => (nI (seatRow K k p), nI p)) 6 (nI (seatRow K k 6)) (by omega) ?_ ?_
  · have key' : lp (fun s : Int32 × Int32 => b_X7_rowOf_4 r s.1 s.2 h) FU ((0 : Int32), (0 : Int32)) = some (nI (seatRow K k 6)) := key
    rw [key', Option.bind_some]
  · intro p hp
    have j : ∀ d, d < 16 → d = seatD K k p → j_X7_rowOf_30_4 r (nI p) (nI (seatRow K k p)) (nI d) h = some (.inl (nI (seatRow K k (p + 1)), nI (p + 1))) := by
      intro d hd e
      unfold j_X7_rowOf_30_4
      have l1 := seatRow_lt hw p
      have l2 := p16_le p (by omega)
      have l3 : d * 2 ^ (4 * p) < 2 ^ 31 := by
        rw [p16]
        have : d * 16 ^ p ≤ 15 * 16 ^ p := Nat.mul_le_mul_right _ (by omega)
        omega
      rw [sh4 hp hd, nI_or (by omega) (by rw [p16]; exact l1) l3, nI_1, p16, e]
      rfl
    show b_X7_rowOf_4 r (nI (seatRow K k p)) (nI p) h = _
    unfold b_X7_rowOf_4
    rw [l6_, if_neg (nI_ge hp (by omega))]
    by_cases c : p < k
    · rw [k_isInside hR hw c, Option.bind_some]
      by_cases c2 : insb K p = true
      · obtain ⟨s1, s2⟩ := seat_of hw c c2
        rw [if_pos c2, inb_nI hp (by omega), Option.bind_some, hR.2.2.2.1 p hp, s1]
        exact j _ (by omega) (by unfold seatD; rw [if_pos ⟨c, c2⟩])
      · rw [if_neg c2]
        exact j 15 (by omega) (by unfold seatD; rw [if_neg (fun d => c2 d.2)])
    · rw [k_isInside0 hR hw (Or.inr (nI_le (by omega) (by omega))), Option.bind_some, if_neg Bool.false_ne_true]
      exact j 15 (by omega) (by unfold seatD; rw [if_neg (fun d => c d.1)])
  · show b_X7_rowOf_4 r (nI (seatRow K k 6)) (nI 6) h = _
    unfold b_X7_rowOf_4
    rw [if_pos (by decide)]
theorem c_nats {h : Hp} {a1 a2 : Nat} {x3 x4 x5 : Int32} (hR : RRh h 69 K) (hw : WF K k) : lp (fun s => b_X7_playSeating_94_64 a1 a2 x3 x4 x5 s.1 s.2 h) FU ((0 : Int32), (0 : Int32)) = some (nI (natRow K k)) := by
  have h6 := hw.2.1
  have key := lp_run (b := fun s : Int32 × Int32 => b_X7_playSeating_94_64 a1 a2 x3 x4 x5 s.1 s.2 h) (fun p => (nI (natRow K p), nI p)) k (nI (natRow K k)) (by omega) ?_ ?_
  · exact key
  · intro p hp
    have l1 := natRow_lt K p
    have l2 := p4_le p (by omega)
    have l0 := nat3_lt K p
    have l3 : nat3 K p * 2 ^ (2 * p) < 2 ^ 31 := by
      rw [p4]
      have : nat3 K p * 4 ^ p ≤ 2 * 4 ^ p := Nat.mul_le_mul_right _ (by omega)
      omega
    show b_X7_playSeating_94_64 a1 a2 x3 x4 x5 (nI (natRow K p)) (nI p) h = _
    unfold b_X7_playSeating_94_64
    rw [k_sn hR hw, if_neg (nI_ge hp (by omega)), k_nationOf hR hw hp, Option.bind_some, sh2 (by omega) (by omega), nI_or (by omega) (by rw [p4]; exact l1) l3, nI_1, p4]
    rfl
  · show b_X7_playSeating_94_64 a1 a2 x3 x4 x5 (nI (natRow K k)) (nI k) h = _
    unfold b_X7_playSeating_94_64
    rw [k_sn hR hw, if_pos (Int32.le_refl _)]
theorem c_list {h : Hp} (hR : RRh h 33 K) (hw : WF K k) : ∃ h', f_X7_listInside 33 h = some ((), h') ∧ fI h' 68 9 = nI (insL K k).length ∧ (∀ i, i < (insL K k).length → aI h' 78 i = nI ((insL K k).getD i 0)) ∧ (∀ i, i < (insL K k).length → aI h' 79 i = nI ((plL K k).getD i 0)) ∧ Fr (fun a => a = 78 ∨ a = 79) (fun a j => a = 68 ∧ j = 9) h h' := by
  have h6 := hw.2.1
  have m6 := ins_le hw
  have key := lp_inv (b := fun s : Int32 × Hp => b_X7_listInside_7 33 s.1 s.2) (fun p s => s.1 = nI p ∧ fI s.2 68 9 = nI (flt (insb K) p).length ∧ (∀ i, i < (flt (insb K) p).length → aI s.2 78 i = nI ((flt (insb K) p).getD i 0)) ∧ Fr (fun a => a = 78 ∨ a = 79) (fun a j => a = 68 ∧ j = 9) h s.2) (fun e => fI e 68 9 = nI (flt (insb K) k).length ∧ (∀ i, i < (flt (insb K) k).length → aI e 78 i = nI ((flt (insb K) k).getD i 0)) ∧ Fr (fun a => a = 78 ∨ a = 79) (fun a j => a = 68 ∧ j = 9) h e) k ((0 : Int32), sF h 68 9 0) (by omega) ⟨rfl, fI_s, fun i hi => absurd hi (Nat.not_lt_zero _), Fr_sF ⟨rfl, rfl⟩⟩ ?_ ?_
  · obtain ⟨e, k1, k2, k3, k4⟩ := key
    have hRe : RRh e 33 K := RR_fr hR k4 (by omega) (by omega) (by omega) (by omega) (by omega)
    have key2 := lp_inv (b := fun s : Int32 × Int32 × Hp => b_X7_listInside_53 33 s.1 s.2.1 s.2.2) (fun t s => s.1 = nI (flt (fun s => occ K k s) t).length ∧ s.2.1 = nI t ∧ (∀ i, i < (flt (fun s => occ K k s) t).length → aI s.2.2 79 i = nI ((flt (fun s => occ K k s) t).getD i 0)) ∧ Fr (fun a => a = 79) noF e s.2.2) (fun e' => (∀ i, i < (flt (fun s => occ K k s) 9).length → aI e' 79 i = nI ((flt (fun s => occ K k s) 9).getD i 0)) ∧ Fr (fun a => a = 79) noF e e') 9 ((0 : Int32), (0 : Int32), e) (by omega) ⟨rfl, rfl, fun i hi => absurd hi (Nat.not_lt_zero _), Fr_rfl⟩ ?_ ?_
    · obtain ⟨e', y1, y2, y3⟩ := key2
      refine ⟨e', ?_, by rw [y3.1 _ _ (fun c => c)]; exact k2, fun i hi => by rw [y3.2.1 78 (by omega)]; exact k3 i hi, fun i hi => ?_, Fr_tr k4 (Fr_mono y3 (fun _ c => Or.inr c) (fun _ _ c => c.elim))⟩
      · unfold f_X7_listInside
        rw [k1, Option.bind_some, y1, Option.bind_some]
      · exact y2 i (by have := len_eq hw; rw [plL_f] at this; omega)
    · rintro t ⟨s1, s2, s3⟩ ht ⟨q1, q2, q3, q4⟩
      dsimp only at q1 q2 q3 q4
      subst q1
      subst q2
      have hR3 : RRh s3 33 K := RR_fr hRe q4 (fun c => c) (by omega) (by omega) (by omega) (by omega)
      refine Or.inl ?_
      show ∃ s', b_X7_listInside_53 33 (nI (flt (fun s => occ K k s) t).length) (nI t) s3 = _ ∧ _
      unfold b_X7_listInside_53
      rw [l9_, if_neg (nI_ge ht (by omega)), k_whoAt hR3 hw, Option.bind_some, if_neg (nI_ne1 (by omega)), whoK_S]
      have hoc : occ K k t = (whoS K k t).isSome := rfl
      cases hq : whoS K k t with
      | none =>
        have f0 : ¬ occ K k t = true := by rw [hoc, hq]; simp
        have e0 : flt (fun s => occ K k s) (t + 1) = flt (fun s => occ K k s) t := by rw [flt_s, if_neg f0, List.append_nil]
        rw [if_pos rfl, nI_1]
        refine ⟨_, rfl, ?_, rfl, ?_, q4⟩
        · rw [e0]
        · rw [e0]; exact q3
      | some p =>
        have hp6 : p < 6 := by have := (firstM_some hq).2.1; omega
        have f1 : occ K k t = true := by rw [hoc, hq]; rfl
        have e0 : flt (fun s => occ K k s) (t + 1) = flt (fun s => occ K k s) t ++ [t] := by rw [flt_s, if_pos f1]
        have l0 : (flt (fun s => occ K k s) t).length < (flt (insb K) k).length := by
          have a1 : (flt (fun s => occ K k s) (t + 1)).length = (flt (fun s => occ K k s) t).length + 1 := by rw [e0, List.length_append]; rfl
          have a2 := cntN_up (fun s => occ K k s) (a := t + 1) 9 (by omega)
          rw [← flt_len, ← flt_len] at a2
          have a3 := len_eq hw
          rw [plL_f, insL_f] at a3
          omega
        have l1 : (flt (insb K) k).length ≤ 6 := m6
        rw [if_neg (show ¬ nI p = -1 from nI_ne1 (by omega)), q4.1 _ _ (fun c => c), k2, if_neg (nI_ge l0 (by omega)), inb_nI (show (flt (fun s => occ K k s) t).length < 6 by omega) (by omega), Option.bind_some, nI_1, nI_1]
        refine ⟨_, rfl, ?_, rfl, fun i hi => ?_, Fr_tA q4 rfl⟩
        · rw [e0, List.length_append]; rfl
        · show aI (sA s3 79 (flt (fun s => occ K k s) t).length (nI t)) 79 i = _
          rw [e0] at hi ⊢
          rw [List.length_append] at hi
          have hi' : i < (flt (fun s => occ K k s) t).length + 1 := hi
          by_cases c : i = (flt (fun s => occ K k s) t).length
          · rw [c, aI_s, getD_last]
          · rw [aI_n c, getD_app (by omega)]; exact q3 i (by omega)
    · rintro ⟨s1, s2, s3⟩ ⟨q1, q2, q3, q4⟩
      dsimp only at q1 q2 q3 q4
      subst q1
      subst q2
      refine ⟨s3, ?_, q3, q4⟩
      show b_X7_listInside_53 33 _ (nI 9) s3 = _
      unfold b_X7_listInside_53
      rw [if_pos (by decide)]
  · rintro p ⟨s1, s2⟩ hp ⟨q1, q2, q3, q4⟩
    dsimp only at q1 q2 q3 q4
    subst q1
    have hR2 : RRh s2 33 K := RR_fr hR q4 (by omega) (by omega) (by omega) (by omega) (by omega)
    refine Or.inl ?_
    show ∃ s', b_X7_listInside_7 33 (nI p) s2 = _ ∧ _
    unfold b_X7_listInside_7
    rw [k_sn hR2 hw, if_neg (nI_ge hp (by omega)), k_isInside hR2 hw hp, Option.bind_some]
    by_cases c : insb K p = true
    · have e0 : flt (insb K) (p + 1) = flt (insb K) p ++ [p] := by rw [flt_s, if_pos c]
      have l0 : (flt (insb K) p).length ≤ p := by rw [flt_len]; exact cntN_le _ _
      rw [if_pos c, q2, inb_nI (show (flt (insb K) p).length < 6 by omega) (by omega), Option.bind_some, nI_1]
      refine ⟨_, rfl, rfl, ?_, fun i hi => ?_, Fr_tF (Fr_tA q4 (Or.inl rfl)) ⟨rfl, rfl⟩⟩
      · show fI (sF (sA s2 78 _ (nI p)) 68 9 (fI (sA s2 78 _ (nI p)) 68 9 + 1)) 68 9 = _
        rw [fI_s, ps_fA, q2, nI_1, e0, List.length_append]
        rfl
      · show aI (sA s2 78 (flt (insb K) p).length (nI p)) 78 i = _
        rw [e0] at hi ⊢
        rw [List.length_append] at hi
        have hi' : i < (flt (insb K) p).length + 1 := hi
        by_cases d : i = (flt (insb K) p).length
        · rw [d, aI_s, getD_last]
        · rw [aI_n d, getD_app (by omega)]; exact q3 i (by omega)
    · have e0 : flt (insb K) (p + 1) = flt (insb K) p := by rw [flt_s, if_neg c, List.append_nil]
      rw [if_neg c, nI_1]
      exact ⟨_, rfl, rfl, by rw [e0]; exact q2, by rw [e0]; exact q3, q4⟩
  · rintro ⟨s1, s2⟩ ⟨q1, q2, q3, q4⟩
    dsimp only at q1 q2 q3 q4
    subst q1
    refine ⟨s2, ?_, q2, q3, q4⟩
    show b_X7_listInside_7 33 (nI k) s2 = _
    unfold b_X7_listInside_7
    rw [k_sn (RR_fr hR q4 (by omega) (by omega) (by omega) (by omega) (by omega)) hw, if_pos (Int32.le_refl _)]
end LOK
