/-! ===== a minute of the class's, whole ===== -/
theorem who_none {K : Nat → Int32} {k : Nat} {x : Int32} (h : ∀ q, q < k → K (18 + q) ≠ x) : whoK K k x = -1 := by
  unfold whoK
  cases hm : firstM (fun p => decide (K (18 + p) = x)) k 0 with
  | none => rfl
  | some p =>
    obtain ⟨-, h1, h2, -⟩ := firstM_some hm
    exact absurd (by simpa using h2) (h p (by omega))
theorem who_some {K : Nat → Int32} {k q : Nat} {x : Int32} (hw : WF K k) (hq : q < k) (h : K (18 + q) = x) (hx : x ≠ -1) : whoK K k x = nI q := by
  unfold whoK
  cases hm : firstM (fun p => decide (K (18 + p) = x)) k 0 with
  | none =>
    have := firstM_none hm q (Nat.zero_le _) (by omega)
    simp [h] at this
  | some p =>
    obtain ⟨-, h1, h2, -⟩ := firstM_some hm
    have h3 : K (18 + p) = x := by simpa using h2
    by_cases c : p = q
    · rw [c]
    · exact absurd (h3.symm.trans (hw.2.2.2.2.1 p q (by omega) hq c (h3.trans h.symm))) hx
theorem c_seeWho {K : Nat → Int32} {k r : Nat} {h : Hp} (hr : IsRm r) (hR : RRh h r K) (hw : WF K k) : ∃ h', f_X8_seeWho r h = some ((), h') ∧ WhoR h' K k ∧ Fr (fun b => b = 58) noF h h' := by
  have h6 := hw.2.1
  unfold f_X8_seeWho
  obtain ⟨g0, f1, f2, f3⟩ := fill_ok (a := 58) (n := 9) (x := -1) (h := h) (by omega)
  rw [f1, Option.bind_some]
  have key := lp_inv (b := fun s : Int32 × Hp => b_X8_seeWho_10 r s.1 s.2) (fun i s => s.1 = nI i ∧ (∀ t, t < 9 → (∃ q, q < i ∧ K (18 + q) = nI t ∧ aI s.2 58 t = nI q) ∨ ((∀ q, q < i → K (18 + q) ≠ nI t) ∧ aI s.2 58 t = -1)) ∧ Fr (fun b => b = 58) noF h s.2) (fun e => WhoR e K k ∧ Fr (fun b => b = 58) noF h e) k ((0 : Int32), g0) (by omega) ⟨rfl, fun t ht => Or.inr ⟨fun q hq => absurd hq (Nat.not_lt_zero _), f2 t ht⟩, f3⟩ ?_ ?_
  · obtain ⟨e, h1, h2, h3⟩ := key
    dsimp only
    rw [h1]
    exact ⟨e, rfl, h2, h3⟩
  · rintro i ⟨x, g⟩ hi ⟨q1, q2, q3⟩
    dsimp only at q1 q2 q3
    subst q1
    left
    have hRg : RRh g r K := by
      rcases hr with e | e | e | e <;> subst e <;> exact RR_fr hR q3 (fun c => c) (by omega) (by omega) (by omega) (by omega)
    show ∃ s', b_X8_seeWho_10 r (nI i) g = some (.inl s') ∧ _
    unfold b_X8_seeWho_10
    rw [k_sn hRg hw, if_neg (nI_ge hi (by omega)), inb_nI (show i < 6 by omega) (by omega), Option.bind_some, hRg.2.2.2.1 i (by omega)]
    rcases hw.2.2.2.1 i hi with e | ⟨s, hs, e⟩
    · refine ⟨(nI (i + 1), g), ?_, rfl, fun t ht => ?_, q3⟩
      · rw [e, if_pos (by decide), nI_1]
      · rcases q2 t ht with ⟨q, a1, a2, a3⟩ | ⟨a1, a2⟩
        · exact Or.inl ⟨q, by omega, a2, a3⟩
        · refine Or.inr ⟨fun q hq => ?_, a2⟩
          by_cases c : q = i
          · rw [c, e]; exact fun c2 => nI_ne1 (by omega) c2.symm
          · exact a1 q (by omega)
    · refine ⟨(nI (i + 1), sA g 58 s (nI i)), ?_, rfl, fun t ht => ?_, Fr_tA q3 rfl⟩
      · rw [e, if_neg (nI_pos (by omega)), l9_, if_neg (nI_ge hs (by omega)), inb_nI hs (by omega), Option.bind_some, nI_1]
      · show (∃ q, q < i + 1 ∧ K (18 + q) = nI t ∧ aI (sA g 58 s (nI i)) 58 t = nI q) ∨ ((∀ q, q < i + 1 → K (18 + q) ≠ nI t) ∧ aI (sA g 58 s (nI i)) 58 t = -1)
        by_cases c : t = s
        · subst c
          exact Or.inl ⟨i, by omega, e, aI_s⟩
        · rw [aI_n c]
          rcases q2 t ht with ⟨q, a1, a2, a3⟩ | ⟨a1, a2⟩
          · exact Or.inl ⟨q, by omega, a2, a3⟩
          · refine Or.inr ⟨fun q hq => ?_, a2⟩
            by_cases c3 : q = i
            · rw [c3, e]
              exact fun c2 => c ((nI_eq (by omega) (by omega)).mp c2).symm
            · exact a1 q (by omega)
  · rintro ⟨x, g⟩ ⟨q1, q2, q3⟩
    dsimp only at q1 q2 q3
    subst q1
    have hRg : RRh g r K := by
      rcases hr with e | e | e | e <;> subst e <;> exact RR_fr hR q3 (fun c => c) (by omega) (by omega) (by omega) (by omega)
    refine ⟨g, ?_, fun t ht => ?_, q3⟩
    · show b_X8_seeWho_10 r (nI k) g = _
      unfold b_X8_seeWho_10
      rw [k_sn hRg hw, if_pos (Int32.le_refl _)]
    · rcases q2 t ht with ⟨q, a1, a2, a3⟩ | ⟨a1, a2⟩
      · rw [a3, who_some hw a1 a2 (nI_ne1 (by omega))]
      · rw [a2, who_none a1]
/-- all that a minute of room r writes -/
def pA (r b : Nat) : Prop := b = 30 ∨ b = 31 ∨ b = 57 ∨ b = 58 ∨ b = r + 1 ∨ b = r + 3 ∨ b = r + 4
theorem c_pass1 {S : Sem} {K : Nat → Int32} {k r a : Nat} {h0 h : Hp} (hS : semOK S) (hC : CL h0 a S) (hT : TxSame h0 h a) (ha : isTx a) (hr : IsRm r) (hR : RRh h r K) (hw : WF K k) (hm : MOb K 1000000) (hW : WhoR h K k) (hc : ∀ i, i < 18 → aI h 57 i = 0) :
    ∃ h', lp (fun s => b_X8_passMinute_15 r a s.1 s.2) FU ((0 : Int32), h) = some h' ∧ (∀ i, i < 18 → aI h' 57 i = morK S K k k i) ∧ Fr dA noF h h' := by
  have h6 := hw.2.1
  refine lp_inv (b := fun s : Int32 × Hp => b_X8_passMinute_15 r a s.1 s.2) (fun i s => s.1 = nI i ∧ (∀ j, j < 18 → aI s.2 57 j = morK S K k i j) ∧ Fr dA noF h s.2) (fun e => (∀ j, j < 18 → aI e 57 j = morK S K k k j) ∧ Fr dA noF h e) k ((0 : Int32), h) (by omega) ⟨rfl, fun j hj => hc j hj, Fr_rfl⟩ ?_ ?_
  · rintro i ⟨x, g⟩ hi ⟨q1, q2, q3⟩
    dsimp only at q1 q2 q3
    subst q1
    left
    have hRg : RRh g r K := by
      rcases hr with e | e | e | e <;> subst e <;> exact RR_fr hR q3 (fun c => c) (by unfold dA; omega) (by unfold dA; omega) (by unfold dA; omega) (by unfold dA; omega)
    have hTg : TxSame h0 g a := Tx_fr hT q3 (fun c => c) (fun c => c) (by unfold dA; rcases ha with e | e <;> omega) (by unfold dA; rcases ha with e | e <;> omega)
    have hmor : morK S K k (i + 1) = if (insb K i && !(S (envL K i (-1))).1) = true then givK S K k i (morK S K k i) else morK S K k i := by
      unfold morK
      rw [itr_succ, Nat.zero_add]
    show ∃ s', b_X8_passMinute_15 r a (nI i) g = some (.inl s') ∧ _
    unfold b_X8_passMinute_15
    rw [k_sn hRg hw, if_neg (nI_ge hi (by omega)), inb_nI (show i < 6 by omega) (by omega), Option.bind_some, hRg.2.2.2.1 i (by omega)]
    by_cases ci : K (18 + i) = -1
    · have hb : insb K i = false := by unfold insb; rw [decide_eq_true ci]; rfl
      refine ⟨(nI (i + 1), g), by rw [if_pos ci, nI_1], rfl, ?_, q3⟩
      rw [hmor, hb]
      exact q2
    · have hb : insb K i = true := by unfold insb; rw [decide_eq_false ci]; rfl
      rw [if_neg ci]
      obtain ⟨g2, b1, b2⟩ := (hC g hTg r K k i hr hRg hw hm hi hb).1
      rw [b1, Option.bind_some]
      have b3 : Fr dA noF h g2 := Fr_tr q3 (Fr_mono b2 (fun a c => by unfold wA at c; unfold dA; omega) (fun a k c => c))
      have f57 : aI g2 57 = aI g 57 := b2.2.1 57 (by unfold wA; omega)
      cases ck : (S (envL K i (-1))).1 with
      | true =>
        refine ⟨(nI (i + 1), g2), by rw [if_pos rfl, nI_1], rfl, ?_, b3⟩
        rw [hmor, hb, ck]
        show ∀ j, j < 18 → aI g2 57 j = _
        rw [f57]
        exact q2
      | false =>
        have hR2 : RRh g2 r K := by
          rcases hr with e | e | e | e <;> subst e <;> exact RR_fr hR b3 (fun c => c) (by unfold dA; omega) (by unfold dA; omega) (by unfold dA; omega) (by unfold dA; omega)
        have hT2 : TxSame h0 g2 a := Tx_fr hT b3 (fun c => c) (fun c => c) (by unfold dA; rcases ha with e | e <;> omega) (by unfold dA; rcases ha with e | e <;> omega)
        have hW2 : WhoR g2 K k := fun s hs => by rw [b3.2.1 58 (by unfold dA; omega)]; exact hW s hs
        have hn3 := nat3_lt K i
        obtain ⟨g3, d1, d2, d3⟩ := c_give (m := morK S K k i) hS hC hT2 ha hr hR2 hw hm hi hb hW2 (by rw [f57]; exact q2)
        refine ⟨(nI (i + 1), g3), ?_, rfl, ?_, Fr_tr b3 d3⟩
        · rw [if_neg (by decide)]
          show Option.bind (f_X6_nationOf r (nI i) g2) _ = _
          rw [k_nationOf hR2 hw hi, Option.bind_some, l3_, pk_mul, nI_add, show i * 3 + nat3 K i = 3 * i + nat3 K i by omega, inb_nI (show 3 * i + nat3 K i < 18 by omega) (by omega), Option.bind_some, hR2.2.1 _ (by omega), d1, Option.bind_some, nI_1]
        · rw [hmor, hb, ck]
          exact d2
  · rintro ⟨x, g⟩ ⟨q1, q2, q3⟩
    dsimp only at q1 q2 q3
    subst q1
    have hRg : RRh g r K := by
      rcases hr with e | e | e | e <;> subst e <;> exact RR_fr hR q3 (fun c => c) (by unfold dA; omega) (by unfold dA; omega) (by unfold dA; omega) (by unfold dA; omega)
    refine ⟨g, ?_, q2, q3⟩
    show b_X8_passMinute_15 r a (nI k) g = _
    unfold b_X8_passMinute_15
    rw [k_sn hRg hw, if_pos (Int32.le_refl _)]
theorem c_pass2 {S : Sem} {K : Nat → Int32} {k r a : Nat} {h : Hp} (hr : IsRm r) (hR : RRh h r K) (hc : ∀ i, i < 18 → aI h 57 i = morK S K k k i) :
    ∃ h', lp (fun s => b_X8_passMinute_172 r a s.1 s.2) FU ((0 : Int32), h) = some h' ∧ RRh h' r (addK S k K) ∧ Fr (fun b => b = r + 1) noF h h' := by
  have key := lp_inv (b := fun s : Int32 × Hp => b_X8_passMinute_172 r a s.1 s.2) (fun i s => s.1 = nI i ∧ (∀ j, j < 18 → aI s.2 (r + 1) j = if j < i then addK S k K j else K j) ∧ Fr (fun b => b = r + 1) noF h s.2) (fun e => (∀ j, j < 18 → aI e (r + 1) j = addK S k K j) ∧ Fr (fun b => b = r + 1) noF h e) 18 ((0 : Int32), h) (by omega) ⟨rfl, fun j hj => by rw [if_neg (by omega)]; exact hR.2.1 j hj, Fr_rfl⟩ ?_ ?_
  · obtain ⟨e, h1, h2, h3⟩ := key
    refine ⟨e, h1, ?_, h3⟩
    obtain ⟨r1, r2, r3, r4, r5, r6, r7⟩ := hR
    refine ⟨?_, h2, ?_, ?_, ?_, ?_, ?_⟩
    · rw [h3.1 r 0 (fun c => c), addK_hi _ _ _ (by omega)]; exact r1
    · intro i hi
      rw [h3.2.1 (r + 2) (by omega), addK_hi _ _ _ (by omega)]; exact r3 i hi
    · intro i hi
      rw [h3.2.1 (r + 3) (by omega), addK_hi _ _ _ (by omega)]; exact r4 i hi
    · rw [h3.2.1 (r + 4) (by omega), addK_hi _ _ _ (by omega)]; exact r5
    · rw [h3.2.1 (r + 4) (by omega), addK_hi _ _ _ (by omega)]; exact r6
    · rw [h3.2.1 (r + 4) (by omega), addK_hi _ _ _ (by omega)]; exact r7
  · rintro i ⟨x, g⟩ hi ⟨q1, q2, q3⟩
    dsimp only at q1 q2 q3
    subst q1
    left
    have f57 : aI g 57 = aI h 57 := q3.2.1 57 (by rcases hr with e | e | e | e <;> subst e <;> omega)
    refine ⟨(nI (i + 1), sA g (r + 1) i (addK S k K i)), ?_, rfl, fun j hj => ?_, Fr_tA q3 rfl⟩
    · show b_X8_passMinute_172 r a (nI i) g = _
      unfold b_X8_passMinute_172
      rw [l18_, if_neg (nI_ge hi (by omega)), inb_nI hi (by omega), Option.bind_some, Option.bind_some, Option.bind_some, q2 i hi, if_neg (by omega), f57, hc i hi, nI_1]
      unfold addK
      rw [if_pos hi]
    · show aI (sA g (r + 1) i (addK S k K i)) (r + 1) j = _
      by_cases c : j = i
      · rw [c, aI_s, if_pos (by omega)]
      · rw [aI_n c, q2 j hj]
        by_cases c2 : j < i
        · rw [if_pos c2, if_pos (by omega)]
        · rw [if_neg c2, if_neg (by omega)]
  · rintro ⟨x, g⟩ ⟨q1, q2, q3⟩
    dsimp only at q1 q2 q3
    subst q1
    refine ⟨g, ?_, fun j hj => by rw [q2 j hj, if_pos hj], q3⟩
    show b_X8_passMinute_172 r a (nI 18) g = _
    unfold b_X8_passMinute_172
    rw [l18_, if_pos (Int32.le_refl _)]
theorem RR_seat {h : Hp} {r p : Nat} {K : Nat → Int32} {x : Int32} (hR : RRh h r K) (hp : p < 6) : RRh (sA h (r + 3) p x) r (upd K (18 + p) x) := by
  obtain ⟨r1, r2, r3, r4, r5, r6, r7⟩ := hR
  refine ⟨by rw [ps_fA, pk_un (by omega)]; exact r1, fun i hi => ?_, fun i hi => ?_, fun i hi => ?_, ?_, ?_, ?_⟩
  · rw [ps_aAn _ _ _ _ _ (by omega), pk_un (by omega)]; exact r2 i hi
  · rw [ps_aAn _ _ _ _ _ (by omega), pk_un (by omega)]; exact r3 i hi
  · by_cases c : i = p
    · rw [c, aI_s, pk_us]
    · rw [aI_n c, pk_un (by omega)]; exact r4 i hi
  · rw [ps_aAn _ _ _ _ _ (by omega), pk_un (by omega)]; exact r5
  · rw [ps_aAn _ _ _ _ _ (by omega), pk_un (by omega)]; exact r6
  · rw [ps_aAn _ _ _ _ _ (by omega), pk_un (by omega)]; exact r7
def qA (r b : Nat) : Prop := b = 30 ∨ b = 31 ∨ b = r + 3
theorem c_pass3 {S : Sem} {K : Nat → Int32} {k r a : Nat} {h0 h : Hp} (hC : CL h0 a S) (hT : TxSame h0 h a) (ha : isTx a) (hr : IsRm r) (hR : RRh h r K) (hw : WF K k) (hm : MOb K 1000000) :
    ∃ h', lp (fun s => b_X8_passMinute_204 r a s.1 s.2) FU ((0 : Int32), h) = some h' ∧ RRh h' r (lvK S k K) ∧ Fr (qA r) noF h h' := by
  have h6 := hw.2.1
  have hra : ∀ x, (x = a + 1 ∨ x = a + 2) → ¬ qA r x := by
    intro x hx
    unfold qA
    rcases hr with e | e | e | e <;> subst e <;> rcases ha with e | e <;> omega
  refine lp_inv (b := fun s : Int32 × Hp => b_X8_passMinute_204 r a s.1 s.2) (fun i s => s.1 = nI i ∧ RRh s.2 r (lvK S i K) ∧ Fr (qA r) noF h s.2) (fun e => RRh e r (lvK S k K) ∧ Fr (qA r) noF h e) k ((0 : Int32), h) (by omega) ⟨rfl, hR, Fr_rfl⟩ ?_ ?_
  · rintro i ⟨x, g⟩ hi ⟨q1, q2, q3⟩
    dsimp only at q1 q2 q3
    subst q1
    left
    have hwi : WF (lvK S i K) k := WF_lv i K hw (by omega)
    have hmi : MOb (lvK S i K) 1000000 := by
      obtain ⟨m, m1, m2⟩ := hm
      exact ⟨m, m1, by rw [lvK_ne (k := k) i K (by omega) 24 (by omega)]; exact m2⟩
    have hTg : TxSame h0 g a := Tx_fr hT q3 (fun c => c) (fun c => c) (hra _ (Or.inl rfl)) (hra _ (Or.inr rfl))
    have hlv : lvK S (i + 1) K = if (insb (lvK S i K) i && (S (envL (lvK S i K) i (-1))).2.1) = true then upd (lvK S i K) (18 + i) (-1) else lvK S i K := by
      unfold lvK
      rw [itr_succ, Nat.zero_add]
    show ∃ s', b_X8_passMinute_204 r a (nI i) g = some (.inl s') ∧ _
    unfold b_X8_passMinute_204
    rw [k_sn q2 hwi, if_neg (nI_ge hi (by omega)), inb_nI (show i < 6 by omega) (by omega), Option.bind_some, q2.2.2.2.1 i (by omega)]
    by_cases ci : lvK S i K (18 + i) = -1
    · have hb : insb (lvK S i K) i = false := by unfold insb; rw [decide_eq_true ci]; rfl
      refine ⟨(nI (i + 1), g), by rw [if_pos ci, nI_1], rfl, ?_, q3⟩
      rw [hlv, hb]
      exact q2
    · have hb : insb (lvK S i K) i = true := by unfold insb; rw [decide_eq_false ci]; rfl
      rw [if_neg ci]
      obtain ⟨g2, b1, b2⟩ := (hC g hTg r (lvK S i K) k i hr q2 hwi hmi hi hb).2.1
      rw [b1, Option.bind_some]
      have b3 : Fr (qA r) noF h g2 := Fr_tr q3 (Fr_mono b2 (fun a c => by unfold wA at c; unfold qA; omega) (fun a k c => c))
      have hR2 : RRh g2 r (lvK S i K) := by
        rcases hr with e | e | e | e <;> subst e <;> exact RR_fr q2 b2 (fun c => c) (by unfold wA; omega) (by unfold wA; omega) (by unfold wA; omega) (by unfold wA; omega)
      cases ck : (S (envL (lvK S i K) i (-1))).2.1 with
      | true =>
        refine ⟨(nI (i + 1), sA g2 (r + 3) i (-1)), ?_, rfl, ?_, Fr_tA b3 (Or.inr (Or.inr rfl))⟩
        · rw [if_pos rfl, Option.bind_some, nI_1]
        · rw [hlv, hb, ck]
          exact RR_seat hR2 (by omega)
      | false =>
        refine ⟨(nI (i + 1), g2), by rw [if_neg (by decide), nI_1], rfl, ?_, b3⟩
        rw [hlv, hb, ck]
        exact hR2
  · rintro ⟨x, g⟩ ⟨q1, q2, q3⟩
    dsimp only at q1 q2 q3
    subst q1
    refine ⟨g, ?_, q2, q3⟩
    show b_X8_passMinute_204 r a (nI k) g = _
    unfold b_X8_passMinute_204
    rw [k_sn q2 (WF_lv k K hw (Nat.le_refl _)), if_pos (Int32.le_refl _)]
/-- a minute -/
theorem c_pass {S : Sem} {K : Nat → Int32} {k r a : Nat} {h0 h : Hp} (hS : semOK S) (hC : CL h0 a S) (hT : TxSame h0 h a) (ha : isTx a) (hr : IsRm r) (hR : RRh h r K) (hw : WF K k) (hm : MOb K 1000000) :
    ∃ h', f_X8_passMinute r a h = some ((), h') ∧ RRh h' r (minK S k K) ∧ Fr (pA r) noF h h' := by
  have h6 := hw.2.1
  have hra : ∀ x, (x = a + 1 ∨ x = a + 2) → ¬ pA r x := by
    intro x hx
    unfold pA
    rcases hr with e | e | e | e <;> subst e <;> rcases ha with e | e <;> omega
  unfold f_X8_passMinute
  obtain ⟨g1, a1, a2, a3⟩ := fill_ok (a := 57) (n := 18) (x := 0) (h := h) (by omega)
  rw [a1, Option.bind_some]
  dsimp only
  have hR1 : RRh g1 r K := by
    rcases hr with e | e | e | e <;> subst e <;> exact RR_fr hR a3 (fun c => c) (by omega) (by omega) (by omega) (by omega)
  obtain ⟨g2, b1, b2, b3⟩ := c_seeWho hr hR1 hw
  rw [b1, Option.bind_some]
  dsimp only
  have F2 : Fr (pA r) noF h g2 := Fr_tr (Fr_mono a3 (fun a c => by (try dsimp only at c); unfold pA; omega) (fun a k c => c)) (Fr_mono b3 (fun a c => by (try dsimp only at c); unfold pA; omega) (fun a k c => c))
  have hR2 : RRh g2 r K := by
    rcases hr with e | e | e | e <;> subst e <;> exact RR_fr hR1 b3 (fun c => c) (by omega) (by omega) (by omega) (by omega)
  obtain ⟨g3, c1, c2, c3⟩ := c_pass1 hS hC (Tx_fr hT F2 (fun c => c) (fun c => c) (hra _ (Or.inl rfl)) (hra _ (Or.inr rfl))) ha hr hR2 hw hm b2 (by intro i hi; rw [b3.2.1 57 (by omega)]; exact a2 i hi)
  rw [c1, Option.bind_some]
  have F3 : Fr (pA r) noF h g3 := Fr_tr F2 (Fr_mono c3 (fun a c => by unfold dA at c; unfold pA; omega) (fun a k c => c))
  have hR3 : RRh g3 r K := by
    rcases hr with e | e | e | e <;> subst e <;> exact RR_fr hR2 c3 (fun c => c) (by unfold dA; omega) (by unfold dA; omega) (by unfold dA; omega) (by unfold dA; omega)
  obtain ⟨g4, d1, d2, d3⟩ := c_pass2 (S := S) (k := k) (a := a) hr hR3 c2
  rw [d1, Option.bind_some]
  have F4 : Fr (pA r) noF h g4 := Fr_tr F3 (Fr_mono d3 (fun a c => by (try dsimp only at c); unfold pA; omega) (fun a k c => c))
  have hm4 : MOb (addK S k K) 1000000 := by
    obtain ⟨m, m1, m2⟩ := hm
    exact ⟨m, m1, by rw [addK_hi _ _ _ (by omega)]; exact m2⟩
  obtain ⟨g5, e1, e2, e3⟩ := c_pass3 hC (Tx_fr hT F4 (fun c => c) (fun c => c) (hra _ (Or.inl rfl)) (hra _ (Or.inr rfl))) ha hr d2 (WF_add hS hw) hm4
  rw [e1, Option.bind_some]
  have F5 : Fr (pA r) noF h g5 := Fr_tr F4 (Fr_mono e3 (fun a c => by unfold qA at c; unfold pA; omega) (fun a k c => c))
  refine ⟨_, rfl, ?_, Fr_tA F5 (Or.inr (Or.inr (Or.inr (Or.inr (Or.inr (Or.inr rfl))))))⟩
  obtain ⟨r1, r2, r3, r4, r5, r6, r7⟩ := e2
  unfold minK
  refine ⟨by rw [ps_fA, pk_un (by omega)]; exact r1, fun i hi => ?_, fun i hi => ?_, fun i hi => ?_, ?_, ?_, ?_⟩
  · rw [ps_aAn _ _ _ _ _ (by omega), pk_un (by omega)]; exact r2 i hi
  · rw [ps_aAn _ _ _ _ _ (by omega), pk_un (by omega)]; exact r3 i hi
  · rw [ps_aAn _ _ _ _ _ (by omega), pk_un (by omega)]; exact r4 i hi
  · rw [aI_s, pk_us, r5]
  · rw [aI_n (by omega), pk_un (by omega)]; exact r6
  · rw [aI_n (by omega), pk_un (by omega)]; exact r7
