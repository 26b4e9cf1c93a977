/-! ===== a sitter more ===== -/
def sitK (K : Nat → Int32) (k : Nat) (a b c w : Int32) : Nat → Int32 := upd (upd (upd (upd (upd (upd K (3 * k) a) (3 * k + 1) b) (3 * k + 2) c) (25 + k) w) (18 + k) (-1)) 51 (nI (k + 1))
theorem sitK_o {K : Nat → Int32} {k i : Nat} {a b c w : Int32} (h0 : ¬ (3 * k ≤ i ∧ i ≤ 3 * k + 2)) (h1 : i ≠ 25 + k) (h2 : i ≠ 18 + k) (h3 : i ≠ 51) : sitK K k a b c w i = K i := by
  unfold sitK
  rw [pk_un h3, pk_un h2, pk_un h1, pk_un (by omega), pk_un (by omega), pk_un (by omega)]
theorem sitK_p {K : Nat → Int32} {k i : Nat} {a b c w : Int32} (hk : k < 6) (hi : i < 18) : sitK K k a b c w i = upd (upd (upd K (3 * k) a) (3 * k + 1) b) (3 * k + 2) c i := by
  unfold sitK
  rw [pk_un (by omega), pk_un (by omega), pk_un (by omega)]
def sitP (P : Nat → Nat) (k a b c : Nat) : Nat → Nat := fun i => if i = 3 * k + 2 then c else if i = 3 * k + 1 then b else if i = 3 * k then a else P i
theorem sitK_P {K : Nat → Int32} {P : Nat → Nat} {k a b c : Nat} {w : Int32} (hk : k < 6) (hP : ∀ i, i < 18 → K i = nI (P i)) {i : Nat} (hi : i < 18) : sitK K k (nI a) (nI b) (nI c) w i = nI (sitP P k a b c i) := by
  rw [sitK_p hk hi]
  unfold upd sitP
  by_cases c2 : i = 3 * k + 2
  · rw [if_pos c2, if_pos c2]
  · rw [if_neg c2, if_neg c2]
    by_cases c1 : i = 3 * k + 1
    · rw [if_pos c1, if_pos c1]
    · rw [if_neg c1, if_neg c1]
      by_cases c0 : i = 3 * k
      · rw [if_pos c0, if_pos c0]
      · rw [if_neg c0, if_neg c0]
        exact hP i hi
theorem WF_sit {K : Nat → Int32} {k a b c w : Nat} (hw : WF K k) (hk : k < 6) (ha : a < 100) (hb : b < 100) (hc : c < 100) (hww : w < 3) : WF (sitK K k (nI a) (nI b) (nI c) (nI w)) (k + 1) := by
  obtain ⟨P, p1, p2, p3⟩ := wf_P hw
  obtain ⟨w1, w2, w3, w4, w5, w6, w7, w8, w9, w10⟩ := hw
  have z : ∀ i, 3 * k ≤ i → i < 18 → P i = 0 := fun i h1 h2 => by
    have e := w8 i h1 h2
    rw [p1 i h2] at e
    exact (nI_eq (by have := p3 i h2; omega) (by omega)).mp e
  have s18 : ∀ p, p ≤ k → sitK K k (nI a) (nI b) (nI c) (nI w) (18 + p) = if p = k then -1 else K (18 + p) := by
    intro p hp
    by_cases e : p = k
    · rw [if_pos e, e]
      unfold sitK
      rw [pk_un (by omega), pk_us]
    · rw [if_neg e, sitK_o (by omega) (by omega) (by omega) (by omega)]
  have b3 : ∀ i, sitP P k a b c i = a ∨ sitP P k a b c i = b ∨ sitP P k a b c i = c ∨ sitP P k a b c i = P i := by
    intro i
    unfold sitP
    repeat' split
    · exact Or.inr (Or.inr (Or.inl rfl))
    · exact Or.inr (Or.inl rfl)
    · exact Or.inl rfl
    · exact Or.inr (Or.inr (Or.inr rfl))
  refine ⟨pk_us, by omega, fun i hi => ⟨sitP P k a b c i, ?_, sitK_P hk p1 hi⟩, fun p hp => ?_, fun p q hp hq hpq => ?_, fun p hp => ?_, ⟨sitP P k a b c, fun i hi => sitK_P hk p1 hi, ?_⟩, fun i h1 h2 => ?_, by rw [sitK_o (by omega) (by omega) (by omega) (by omega)]; exact w9, by rw [sitK_o (by omega) (by omega) (by omega) (by omega)]; exact w10⟩
  · have := b3 i
    have := p3 i hi
    omega
  · rw [s18 p (by omega)]
    by_cases e : p = k
    · rw [if_pos e]; exact Or.inl rfl
    · rw [if_neg e]; exact w4 p (by omega)
  · rw [s18 p (by omega), s18 q (by omega)]
    by_cases e : p = k
    · rw [if_pos e]; exact fun _ => rfl
    · rw [if_neg e]
      by_cases f : q = k
      · rw [if_pos f]; exact fun g => g
      · rw [if_neg f]; exact w5 p q (by omega) (by omega) hpq
  · by_cases e : p = k
    · refine ⟨w, hww, ?_⟩
      rw [e]
      unfold sitK
      rw [pk_un (by omega), pk_un (by omega), pk_us]
    · rw [sitK_o (by omega) (by omega) (by omega) (by omega)]
      exact w6 p (by omega)
  · intro n hn
    have q0 := p2 n hn
    rcases (show k = 0 ∨ k = 1 ∨ k = 2 ∨ k = 3 ∨ k = 4 ∨ k = 5 by omega) with e | e | e | e | e | e <;> subst e
    · rcases tm3 hn with e | e | e <;> subst e
      · have := z 0 (by omega) (by omega)
        show a + P 3 + P 6 + P 9 + P 12 + P 15 ≤ 100 * (0 + 1)
        have : P 0 + P 3 + P 6 + P 9 + P 12 + P 15 ≤ 100 * 0 := q0
        omega
      · have := z 1 (by omega) (by omega)
        show b + P 4 + P 7 + P 10 + P 13 + P 16 ≤ 100 * (0 + 1)
        have : P 1 + P 4 + P 7 + P 10 + P 13 + P 16 ≤ 100 * 0 := q0
        omega
      · have := z 2 (by omega) (by omega)
        show c + P 5 + P 8 + P 11 + P 14 + P 17 ≤ 100 * (0 + 1)
        have : P 2 + P 5 + P 8 + P 11 + P 14 + P 17 ≤ 100 * 0 := q0
        omega
    · rcases tm3 hn with e | e | e <;> subst e
      · have := z 3 (by omega) (by omega)
        show P 0 + a + P 6 + P 9 + P 12 + P 15 ≤ 100 * (1 + 1)
        have : P 0 + P 3 + P 6 + P 9 + P 12 + P 15 ≤ 100 * 1 := q0
        omega
      · have := z 4 (by omega) (by omega)
        show P 1 + b + P 7 + P 10 + P 13 + P 16 ≤ 100 * (1 + 1)
        have : P 1 + P 4 + P 7 + P 10 + P 13 + P 16 ≤ 100 * 1 := q0
        omega
      · have := z 5 (by omega) (by omega)
        show P 2 + c + P 8 + P 11 + P 14 + P 17 ≤ 100 * (1 + 1)
        have : P 2 + P 5 + P 8 + P 11 + P 14 + P 17 ≤ 100 * 1 := q0
        omega
    · rcases tm3 hn with e | e | e <;> subst e
      · have := z 6 (by omega) (by omega)
        show P 0 + P 3 + a + P 9 + P 12 + P 15 ≤ 100 * (2 + 1)
        have : P 0 + P 3 + P 6 + P 9 + P 12 + P 15 ≤ 100 * 2 := q0
        omega
      · have := z 7 (by omega) (by omega)
        show P 1 + P 4 + b + P 10 + P 13 + P 16 ≤ 100 * (2 + 1)
        have : P 1 + P 4 + P 7 + P 10 + P 13 + P 16 ≤ 100 * 2 := q0
        omega
      · have := z 8 (by omega) (by omega)
        show P 2 + P 5 + c + P 11 + P 14 + P 17 ≤ 100 * (2 + 1)
        have : P 2 + P 5 + P 8 + P 11 + P 14 + P 17 ≤ 100 * 2 := q0
        omega
    · rcases tm3 hn with e | e | e <;> subst e
      · have := z 9 (by omega) (by omega)
        show P 0 + P 3 + P 6 + a + P 12 + P 15 ≤ 100 * (3 + 1)
        have : P 0 + P 3 + P 6 + P 9 + P 12 + P 15 ≤ 100 * 3 := q0
        omega
      · have := z 10 (by omega) (by omega)
        show P 1 + P 4 + P 7 + b + P 13 + P 16 ≤ 100 * (3 + 1)
        have : P 1 + P 4 + P 7 + P 10 + P 13 + P 16 ≤ 100 * 3 := q0
        omega
      · have := z 11 (by omega) (by omega)
        show P 2 + P 5 + P 8 + c + P 14 + P 17 ≤ 100 * (3 + 1)
        have : P 2 + P 5 + P 8 + P 11 + P 14 + P 17 ≤ 100 * 3 := q0
        omega
    · rcases tm3 hn with e | e | e <;> subst e
      · have := z 12 (by omega) (by omega)
        show P 0 + P 3 + P 6 + P 9 + a + P 15 ≤ 100 * (4 + 1)
        have : P 0 + P 3 + P 6 + P 9 + P 12 + P 15 ≤ 100 * 4 := q0
        omega
      · have := z 13 (by omega) (by omega)
        show P 1 + P 4 + P 7 + P 10 + b + P 16 ≤ 100 * (4 + 1)
        have : P 1 + P 4 + P 7 + P 10 + P 13 + P 16 ≤ 100 * 4 := q0
        omega
      · have := z 14 (by omega) (by omega)
        show P 2 + P 5 + P 8 + P 11 + c + P 17 ≤ 100 * (4 + 1)
        have : P 2 + P 5 + P 8 + P 11 + P 14 + P 17 ≤ 100 * 4 := q0
        omega
    · rcases tm3 hn with e | e | e <;> subst e
      · have := z 15 (by omega) (by omega)
        show P 0 + P 3 + P 6 + P 9 + P 12 + a ≤ 100 * (5 + 1)
        have : P 0 + P 3 + P 6 + P 9 + P 12 + P 15 ≤ 100 * 5 := q0
        omega
      · have := z 16 (by omega) (by omega)
        show P 1 + P 4 + P 7 + P 10 + P 13 + b ≤ 100 * (5 + 1)
        have : P 1 + P 4 + P 7 + P 10 + P 13 + P 16 ≤ 100 * 5 := q0
        omega
      · have := z 17 (by omega) (by omega)
        show P 2 + P 5 + P 8 + P 11 + P 14 + c ≤ 100 * (5 + 1)
        have : P 2 + P 5 + P 8 + P 11 + P 14 + P 17 ≤ 100 * 5 := q0
        omega
  · rw [sitK_o (by omega) (by omega) (by omega) (by omega)]
    exact w8 i (by omega) h2
theorem c_add {h : Hp} {K : Nat → Int32} {k : Nat} (hR : RRh h 33 K) (hw : WF K k) (hk : k < 6) (a b c w : Int32) : ∃ h', f_X6_add 33 a b c w h = some (nI k, h') ∧ RRh h' 33 (sitK K k a b c w) ∧ Fr (fun x => 34 ≤ x ∧ x ≤ 36) (fun x j => x = 33 ∧ j = 0) h h' := by
  have sn : fI h 33 0 = nI k := k_sn hR hw
  refine ⟨sF (sA (sA (sA (sA (sA h 34 (3 * k) a) 34 (3 * k + 1) b) 34 (3 * k + 2) c) 35 k w) 36 k (-1)) 33 0 (nI (k + 1)), ?_, ?_, ?_⟩
  · unfold f_X6_add
    rw [sn, if_pos (show nI k < 6 from nI_lt (a := k) (b := 6) hk (by omega)), l3_, pk_mul, Nat.mul_comm k 3, inb_nI (show 3 * k < 18 by omega) (by omega), Option.bind_some, nI_1, inb_nI (show 3 * k + 1 < 18 by omega) (by omega), Option.bind_some, l2_, nI_add, inb_nI (show 3 * k + 2 < 18 by omega) (by omega), Option.bind_some, inb_nI hk (by omega), Option.bind_some, Option.bind_some, ps_fA, ps_fA, ps_fA, ps_fA, ps_fA, sn, nI_1]
  · obtain ⟨r1, r2, r3, r4, r5, r6, r7⟩ := hR
    refine ⟨?_, fun i hi => ?_, fun i hi => ?_, fun i hi => ?_, ?_, ?_, ?_⟩
    · rw [fI_s]
      exact (pk_us).symm
    · rw [ps_aF, ps_aAn _ _ _ _ _ (by omega), ps_aAn _ _ _ _ _ (by omega)]
      show aI (sA (sA (sA h 34 (3 * k) a) 34 (3 * k + 1) b) 34 (3 * k + 2) c) 34 i = _
      rw [ps_aAs, ps_aAs, ps_aAs, sitK_p hk hi]
      unfold upd
      rw [r2 i hi]
    · rw [ps_aF, ps_aAn _ _ _ _ _ (by omega)]
      show aI (sA (sA (sA (sA h 34 (3 * k) a) 34 (3 * k + 1) b) 34 (3 * k + 2) c) 35 k w) 35 i = _
      rw [ps_aAs, ps_aAn _ _ _ _ _ (by omega), ps_aAn _ _ _ _ _ (by omega), ps_aAn _ _ _ _ _ (by omega)]
      by_cases e : i = k
      · rw [e, pk_us]
        unfold sitK
        rw [pk_un (by omega), pk_un (by omega), pk_us]
      · rw [pk_un e, sitK_o (by omega) (by omega) (by omega) (by omega)]
        exact r3 i hi
    · rw [ps_aF]
      show aI (sA (sA (sA (sA (sA h 34 (3 * k) a) 34 (3 * k + 1) b) 34 (3 * k + 2) c) 35 k w) 36 k (-1)) 36 i = _
      rw [ps_aAs, ps_aAn _ _ _ _ _ (by omega), ps_aAn _ _ _ _ _ (by omega), ps_aAn _ _ _ _ _ (by omega), ps_aAn _ _ _ _ _ (by omega)]
      by_cases e : i = k
      · rw [e, pk_us]
        unfold sitK
        rw [pk_un (by omega), pk_us]
      · rw [pk_un e, sitK_o (by omega) (by omega) (by omega) (by omega)]
        exact r4 i hi
    · rw [sitK_o (by omega) (by omega) (by omega) (by omega)]
      exact r5
    · rw [sitK_o (by omega) (by omega) (by omega) (by omega)]
      exact r6
    · rw [sitK_o (by omega) (by omega) (by omega) (by omega)]
      exact r7
  · exact Fr_tF (Fr_tA (Fr_tA (Fr_tA (Fr_tA (Fr_sA (by omega)) (by omega)) (by omega)) (by omega)) (by omega)) (by omega)
theorem m_adds {h : Hp} {k : Nat} (hw : WF (aI h 83) k) (hk : k < 6) (a b c w : Int32) : ∃ h', f_X11_adds a b c w h = some ((), h') ∧ aI h' 83 = sitK (aI h 83) k a b c w ∧ Fr (fun x => x = 83) noF h h' := by
  refine ⟨sA (sA (sA (sA (sA (sA h 83 (3 * k) a) 83 (3 * k + 1) b) 83 (3 * k + 2) c) 83 (25 + k) w) 83 (18 + k) (-1)) 83 51 (nI (k + 1)), ?_, ?_, ?_⟩
  · unfold f_X11_adds
    rw [m_many hw, Option.bind_some, l0_, l3_, pk_mul, nI_add, Nat.zero_add, inb_nI (show 3 * k < 5662 by omega) (by omega), Option.bind_some, nI_1, inb_nI (show 3 * k + 1 < 5662 by omega) (by omega), Option.bind_some, l2_, nI_add, inb_nI (show 3 * k + 2 < 5662 by omega) (by omega), Option.bind_some, l25_, nI_add, inb_nI (show 25 + k < 5662 by omega) (by omega), Option.bind_some, l18_, nI_add, inb_nI (show 18 + k < 5662 by omega) (by omega), Option.bind_some]
    rw [aI_n (by omega), aI_n (by omega), aI_n (by omega), aI_n (by omega), aI_n (by omega), hw.1, nI_1]
  · rw [ps_aAs, ps_aAs, ps_aAs, ps_aAs, ps_aAs, ps_aAs]
    rfl
  · exact Fr_tA (Fr_tA (Fr_tA (Fr_tA (Fr_tA (Fr_sA rfl) rfl) rfl) rfl) rfl) rfl
/-- whether it can be a sitter -/
theorem can_be (x1 x2 x3 x4 : Int32) : (∃ a b c w, a < 100 ∧ b < 100 ∧ c < 100 ∧ w < 3 ∧ x1 = nI a ∧ x2 = nI b ∧ x3 = nI c ∧ x4 = nI w ∧ f_X10_canBeSitter x1 x2 x3 x4 = some true ∧ f_X11_canBe x1 x2 x3 x4 = some true) ∨ (f_X10_canBeSitter x1 x2 x3 x4 = some false ∧ f_X11_canBe x1 x2 x3 x4 = some false) := by
  have l99 : ((99 : Int32)) = nI 99 := rfl
  have c1 : ∀ {j : Nat}, j < 100 → f_X10_canBeParts (nI j) = some true := by
    intro j hj
    unfold f_X10_canBeParts
    rw [if_neg (nI_pos (by omega)), if_neg (show ¬ (99 : Int32) < nI j from nI_nlt (a := 99) (b := j) (by omega) (by omega))]
  have c0 : ∀ {x : Int32}, (x < 0 ∨ nI 100 ≤ x) → f_X10_canBeParts x = some false := by
    intro x hx
    unfold f_X10_canBeParts
    by_cases c : x < 0
    · rw [if_pos c]
    · have := hx.resolve_left c
      rw [if_neg c, if_pos]
      rw [Int32.le_iff_toInt_le, nI_toInt (by omega)] at this
      rw [Int32.lt_iff_toInt_lt]
      have e2 : Int32.toInt 99 = 99 := by decide
      omega
  have ff : ¬ (false = true) := Bool.false_ne_true
  unfold f_X10_canBeSitter f_X11_canBe
  rw [l99]
  rcases ix (x := x1) 100 (by omega) with ⟨a, ha, e1⟩ | h1
  · rw [e1, c1 ha, lies_n (by omega) (by omega), Option.bind_some, Option.bind_some, if_pos rfl, if_pos rfl]
    rcases ix (x := x2) 100 (by omega) with ⟨b, hb, e2⟩ | h2
    · rw [e2, c1 hb, lies_n (by omega) (by omega), Option.bind_some, Option.bind_some, if_pos rfl, if_pos rfl]
      rcases ix (x := x3) 100 (by omega) with ⟨c, hc, e3⟩ | h3
      · rw [e3, c1 hc, lies_n (by omega) (by omega), Option.bind_some, Option.bind_some, if_pos rfl, if_pos rfl, m_isNat]
        rcases ix (x := x4) 3 (by omega) with ⟨w, hw, e4⟩ | h4
        · rw [e4, lies_n (by omega) (by omega), Option.bind_some, if_pos rfl, if_neg (nI_pos (by omega)), if_neg (show ¬ (3 : Int32) ≤ nI w by rw [l3_, nI_le6 (by omega) (by omega)]; omega)]
          exact Or.inl ⟨a, b, c, w, ha, hb, hc, hw, rfl, rfl, rfl, rfl, rfl, rfl⟩
        · rw [lies_0 (n := 2) (by omega) h4, Option.bind_some, if_neg ff]
          refine Or.inr ⟨?_, rfl⟩
          by_cases d : x4 < 0
          · rw [if_pos d]
          · rw [if_neg d, if_pos (show (3 : Int32) ≤ x4 from h4.resolve_left d)]
      · rw [c0 h3, lies_0 (n := 99) (by omega) h3, Option.bind_some, Option.bind_some, if_neg ff, if_neg ff]
        exact Or.inr ⟨rfl, rfl⟩
    · rw [c0 h2, lies_0 (n := 99) (by omega) h2, Option.bind_some, Option.bind_some, if_neg ff, if_neg ff]
      exact Or.inr ⟨rfl, rfl⟩
  · rw [c0 h1, lies_0 (n := 99) (by omega) h1, Option.bind_some, Option.bind_some, if_neg ff, if_neg ff]
    exact Or.inr ⟨rfl, rfl⟩
theorem op_0 : Op_0 INV := by
  intro n h hI _ x1 x2 x3 x4
  have hI0 := hI
  obtain ⟨k, sm, lc, L, i1, i2, i3, i4, i5, i6, i7, i8, i9⟩ := hI
  have hw := i1.1
  have h6 := hw.2.1
  have sn : fI h 33 0 = nI k := k_sn i2.1 hw
  rcases can_be x1 x2 x3 x4 with ⟨a, b, c, w, ha, hb, hc, hww, e1, e2, e3, e4, g1, g2⟩ | ⟨g1, g2⟩
  · by_cases hk : k < 6
    · have fr0 : Fr noA (fun a j => a = 10 ∧ j = 2) h (sF h 10 2 0) := Fr_sF ⟨rfl, rfl⟩
      obtain ⟨h1, c1, c2, c3⟩ := c_add (h := sF h 10 2 0) (RR_fr i2.1 fr0 (by omega) (fun c => c) (fun c => c) (fun c => c) (fun c => c)) hw hk x1 x2 x3 x4
      have q1 : aI h1 83 = aI h 83 := c3.2.1 _ (by omega)
      obtain ⟨h2, m1, m2, m3⟩ := m_adds (h := sF (sF h1 68 11 (-1)) 0 19 0) (k := k) (by show WF (aI h1 83) k; rw [q1]; exact hw) hk x1 x2 x3 x4
      refine ⟨nI k, sF (sF h1 68 11 (-1)) 0 19 0, sF (sF h2 81 32 0) 81 0 0, ?_, ?_, ?_⟩
      · unfold f_X10_sitter
        rw [g1, Option.bind_some, if_pos rfl, sn, if_pos (show nI k < 6 from nI_lt (a := k) (b := 6) hk (by omega))]
        show (f_X6_add 33 x1 x2 x3 x4 (sF h 10 2 0)).bind _ = _
        rw [c1, Option.bind_some, c_ans1 (nI_pos' (by omega)), Option.bind_some]
      · unfold f_X11_sitter
        rw [g2, Option.bind_some, if_pos rfl, m_many (k := k) (by show WF (aI h1 83) k; rw [q1]; exact hw), Option.bind_some, if_neg (show ¬ nI k = 6 from fun e => by have := (nI_eq (by omega) (by omega)).mp (show nI k = nI 6 from e); omega), m1, Option.bind_some]
        show (some (aI h2 83 51)).bind _ = _
        rw [m2, show sitK (aI (sF (sF h1 68 11 (-1)) 0 19 0) 83) k x1 x2 x3 x4 51 = nI (k + 1) from pk_us, Option.bind_some, l1_, pk_sub (by omega)]
        rfl
      · have hg : Fr (fun x => 34 ≤ x ∧ x ≤ 36 ∨ x = 83) (fun a j => a = 33 ∧ j = 0 ∨ a = 10 ∧ j = 2 ∨ a = 68 ∨ a = 0 ∧ j = 19 ∨ a = 81 ∧ (j = 0 ∨ j = 32)) h (sF (sF h2 81 32 0) 81 0 0) := Fr_tF (Fr_tF (Fr_tr (Fr_tF (Fr_tF (Fr_tr (Fr_mono fr0 (fun _ c => c.elim) (fun _ _ c => by omega)) (Fr_mono c3 (fun _ c => by omega) (fun _ _ c => by omega))) (by omega)) (by omega)) (Fr_mono m3 (fun _ c => by omega) (fun _ _ c => c.elim))) (by omega)) (by omega)
        have e83 : aI (sF (sF h2 81 32 0) 81 0 0) 83 = sitK (aI h 83) k x1 x2 x3 x4 := by
          show aI h2 83 = _
          rw [m2, show aI (sF (sF h1 68 11 (-1)) 0 19 0) 83 = aI h 83 from q1]
        have eR : RRh (sF (sF h2 81 32 0) 81 0 0) 33 (sitK (aI h 83) k x1 x2 x3 x4) := RR_fr (A := fun x => x = 83) (F := fun a j => a = 68 ∨ a = 0 ∨ a = 81) c2 (Fr_tF (Fr_tF (Fr_tr (Fr_tF (Fr_sF (by omega)) (by omega)) (Fr_mono m3 (fun _ c => c) (fun _ _ c => c.elim))) (by omega)) (by omega)) (by omega) (by omega) (by omega) (by omega) (by omega)
        have e10 : fI (sF (sF h2 81 32 0) 81 0 0) 10 2 = 0 := by
          rw [fI_n (by omega), fI_n (by omega), m3.1 _ _ (fun c => c), fI_n (by omega), fI_n (by omega), c3.1 _ _ (by omega), fI_s]
        have e68 : fI (sF (sF h2 81 32 0) 81 0 0) 68 11 = -1 := by
          rw [fI_n (by omega), fI_n (by omega), m3.1 _ _ (fun c => c), fI_n (by omega), fI_s]
        have e19 : fI (sF (sF h2 81 32 0) 81 0 0) 0 19 = 0 := by
          rw [fI_n (by omega), fI_n (by omega), m3.1 _ _ (fun c => c), fI_s]
        have e32 : fI (sF (sF h2 81 32 0) 81 0 0) 81 32 = 0 := by
          rw [fI_n (by omega), fI_s]
        have e81 : fI (sF (sF h2 81 32 0) 81 0 0) 81 0 = 0 := fI_s
        generalize sF (sF h2 81 32 0) 81 0 0 = h' at hg e83 eR e10 e68 e19 e32 e81
        have ag : ∀ i, ¬ i < 31 → i ≠ 51 → aI h' 83 i = aI h 83 i := fun i hi h3 => by rw [e83, sitK_o (by omega) (by omega) (by omega) h3]
        refine INV_std i1 i2 i4 i8 i9 (Fr_mono hg (fun a c => by unfold uA; omega) (fun a j c => by unfold uF; omega)) (k' := k + 1) (by rw [e83, e1, e2, e3, e4]; exact WF_sit hw hk ha hb hc hww) ?_ (by omega) (fun i a b c => ag i (by omega) (by omega)) (by rw [e83]; exact eR) (by rw [ag 54 (by omega) (by omega)]; exact i1.2.2.2.2.2.2.2.2) (by rw [ag 54 (by omega) (by omega), hg.1 _ _ (by omega)]; exact i2.2.2.2.2.2.2) (Or.inl e68) (TAP_tr i5 hg (fun a c => by omega) (fun a j c => by omega)) (MIS_g i6 (hg.1 _ _ (by omega)) (hg.1 _ _ (by omega)) (hg.1 _ _ (by omega)) (hg.1 _ _ (by omega)) (hg.1 _ _ (by omega)) (hg.1 _ _ (by omega)) (hg.2.1 _ (by omega)) (hg.2.1 _ (by omega)) e19 e81) (PAS_0 i7 (hg.1 _ _ (by omega)) e10 e32)
        obtain ⟨m, m1, m2⟩ := i1.2.1
        exact ⟨m, m1, by rw [e83, sitK_o (by omega) (by omega) (by omega) (by omega)]; exact m2⟩
    · have hk6 : k = 6 := by omega
      refine refu (C := f_X10_sitter x1 x2 x3 x4) (M := f_X11_sitter x1 x2 x3 x4) hI0 rf5 ?_ (fun h1 e83 => ?_)
      · unfold f_X10_sitter
        rw [g1, Option.bind_some, if_pos rfl, sn, hk6, if_neg (show ¬ nI 6 < 6 by decide), bnd]
      · unfold f_X11_sitter
        rw [g2, Option.bind_some, if_pos rfl, m_many (k := k) (by rw [e83]; exact hw), Option.bind_some, hk6, if_pos (show nI 6 = 6 from rfl), bnd]
  · refine refu (C := f_X10_sitter x1 x2 x3 x4) (M := f_X11_sitter x1 x2 x3 x4) hI0 rf1 ?_ (fun h1 e83 => ?_)
    · unfold f_X10_sitter
      rw [g1, Option.bind_some, if_neg Bool.false_ne_true, bnd]
    · unfold f_X11_sitter
      rw [g2, Option.bind_some, if_neg Bool.false_ne_true, bnd]
