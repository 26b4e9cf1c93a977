/-! ===== a minute of the reference's ===== -/
theorem m_beside : ∀ s, s < 9 → ∀ t, t < 9 → f_X11_areBeside (nI s) (nI t) = some (decide (t ∈ nbs s)) := by decide +kernel
theorem c_beside : ∀ s, s < 9 → ∀ t, t < 9 → f_X10_areBeside (nI s) (nI t) = some (decide (t ∈ nbs s)) := by decide +kernel
theorem nbs_flt : ∀ s, s < 9 → ∀ t, t < 9 → (nbs s).filter (fun u => decide (u < t + 1)) = (nbs s).filter (fun u => decide (u < t)) ++ (if t ∈ nbs s then [t] else []) := by decide
theorem nbs_f0 : ∀ s, s < 9 → (nbs s).filter (fun u => decide (u < 0)) = [] := by decide
theorem nbs_f9 : ∀ s, s < 9 → (nbs s).filter (fun u => decide (u < 9)) = nbs s := by decide
theorem m_onSeat {h : Hp} {k : Nat} (hw : WF (aI h 83) k) {x : Int32} (hx : x ≠ -1) : f_X11_onSeat x h = some (whoK (aI h 83) k x) := by
  have h6 := hw.2.1
  unfold f_X11_onSeat
  have key := lp_inv (b := fun s : Int32 × Int32 => b_X11_onSeat_4 x s.1 s.2 h) (fun i s => s.2 = nI i ∧ ((∃ q, q < i ∧ aI h 83 (18 + q) = x ∧ s.1 = nI q) ∨ ((∀ q, q < i → aI h 83 (18 + q) ≠ x) ∧ s.1 = -1))) (fun e => e = whoK (aI h 83) k x) k ((-1 : Int32), (0 : Int32)) (by omega) ⟨rfl, Or.inr ⟨fun q hq => absurd hq (Nat.not_lt_zero _), rfl⟩⟩ ?_ ?_
  · obtain ⟨e, h1, h2⟩ := key
    rw [h1, h2]
    rfl
  · rintro i ⟨y, z⟩ hi ⟨q1, q2⟩
    dsimp only at q1 q2
    subst q1
    left
    show ∃ s', b_X11_onSeat_4 x y (nI i) h = some (.inl s') ∧ _
    unfold b_X11_onSeat_4
    rw [m_many hw, Option.bind_some, if_neg (nI_ge hi (by omega)), l18_, m_inb (show 18 + i < 5662 by omega) (by omega), Option.bind_some]
    unfold j_X11_onSeat_30_4
    by_cases c : aI h 83 (18 + i) = x
    · refine ⟨(nI i, nI (i + 1)), by rw [if_pos c, nI_1], rfl, Or.inl ⟨i, by omega, c, rfl⟩⟩
    · refine ⟨(y, nI (i + 1)), by rw [if_neg c, nI_1], rfl, ?_⟩
      rcases q2 with ⟨q, a1, a2, a3⟩ | ⟨a1, a2⟩
      · exact Or.inl ⟨q, by omega, a2, a3⟩
      · refine Or.inr ⟨fun q hq => ?_, a2⟩
        by_cases c2 : q = i
        · rw [c2]; exact c
        · exact a1 q (by omega)
  · rintro ⟨y, z⟩ ⟨q1, q2⟩
    dsimp only at q1 q2
    subst q1
    refine ⟨y, ?_, ?_⟩
    · show b_X11_onSeat_4 x y (nI k) h = _
      unfold b_X11_onSeat_4
      rw [m_many hw, Option.bind_some, if_pos (Int32.le_refl _)]
    · rcases q2 with ⟨q, a1, a2, a3⟩ | ⟨a1, a2⟩
      · rw [a3, who_some hw a1 a2 hx]
      · rw [a2, who_none a1]
def vA (b : Nat) : Prop := b = 93 ∨ b = 94
theorem m_give {S : Sem} {K0 m : Nat → Int32} {k p : Nat} {h : Hp} (hS : semOK S) (hT : RT K0 S) (hK : ∀ i, 25 ≤ i → aI h 83 i = K0 i) (hw : WF (aI h 83) k) (hm : MOb (aI h 83) 1000000) (hp : p < k) (hi : insb (aI h 83) p = true) (hc : ∀ i, i < 18 → aI h 94 i = m i) :
    ∃ h', f_X11_givesAll (nI p) h = some ((), h') ∧ (∀ i, i < 18 → aI h' 94 i = givK S (aI h 83) k p m i) ∧ Fr vA tF h h' := by
  have h6 := hw.2.1
  have hn3 := nat3_lt (aI h 83) p
  obtain ⟨hs1, hs2⟩ := seat_of hw hp hi
  obtain ⟨l0, hl0, hl1⟩ := part_of hw (i := 3 * p + nat3 (aI h 83) p) (by omega)
  unfold f_X11_givesAll
  rw [m_nationOf (by omega), Option.bind_some, m_partsOf (by omega) hn3, Option.bind_some]
  have key := lp_inv (b := fun s : Int32 × Int32 × Hp => b_X11_givesAll_16 (nI p) (nI (nat3 (aI h 83) p)) s.1 s.2.1 s.2.2) (fun i s => s.2.1 = nI i ∧ ∃ l m', l ≤ 2000 ∧ s.1 = nI l ∧ ((nbs (seatN (aI h 83) p)).filter (fun u => decide (u < i))).foldl (gS S (aI h 83) k p) (aI h 83 (3 * p + nat3 (aI h 83) p), m) = (nI l, m') ∧ (∀ j, j < 18 → aI s.2.2 94 j = m' j) ∧ Fr vA tF h s.2.2) (fun e => (∀ i, i < 18 → aI e 94 i = givK S (aI h 83) k p m i) ∧ Fr vA tF h e) 9 (aI h 83 (3 * p + nat3 (aI h 83) p), (0 : Int32), h) (by omega) ⟨rfl, l0, m, hl0, hl1, by rw [nbs_f0 _ hs2, List.foldl_nil, hl1], hc, Fr_rfl⟩ ?_ ?_
  · obtain ⟨e, h1, h2, h3⟩ := key
    rw [h1]
    exact ⟨e, rfl, h2, h3⟩
  · rintro i ⟨x, y, g⟩ hi4 ⟨q1, l, m', q2, q3, q4, q5, q6⟩
    dsimp only at q1 q3 q5 q6
    subst q1
    subst q3
    left
    have f83 : aI g 83 = aI h 83 := q6.2.1 83 (by unfold vA; omega)
    show ∃ s', b_X11_givesAll_16 (nI p) (nI (nat3 (aI h 83) p)) (nI l) (nI i) g = some (.inl s') ∧ _
    unfold b_X11_givesAll_16
    rw [l9_, if_neg (nI_ge hi4 (by omega)), m_seatOf (by omega), Option.bind_some, f83, hs1, m_beside _ hs2 i hi4, Option.bind_some]
    have fl := nbs_flt (seatN (aI h 83) p) hs2 i hi4
    by_cases cb : i ∈ nbs (seatN (aI h 83) p)
    · rw [if_pos cb] at fl
      have fo : ((nbs (seatN (aI h 83) p)).filter (fun u => decide (u < i + 1))).foldl (gS S (aI h 83) k p) (aI h 83 (3 * p + nat3 (aI h 83) p), m) = gS S (aI h 83) k p (nI l, m') i := by
        rw [fl, List.foldl_append, q4]
        rfl
      have hon := m_onSeat (h := g) (k := k) (x := nI i) (by rw [f83]; exact hw) (nI_ne1 (by omega))
      rw [f83, whoK_S] at hon
      have gs : gS S (aI h 83) k p (nI l, m') i = match whoS (aI h 83) k i with
        | none => (nI l, m')
        | some q => gT (S (envL (aI h 83) p (nI (nat3 (aI h 83) q)))).2.2 (3 * p + nat3 (aI h 83) p) (3 * q + nat3 (aI h 83) p) (nI l, m') := rfl
      rw [if_pos (decide_eq_true cb)]
      cases e2 : whoS (aI h 83) k i with
      | none =>
        rw [e2] at gs hon
        replace hon : f_X11_onSeat (nI i) g = some (-1) := hon
        refine ⟨(nI l, nI (i + 1), g), ?_, rfl, l, m', q2, rfl, fo.trans gs, q5, q6⟩
        rw [hon, Option.bind_some]
        unfold j_X11_givesAll_46_16
        rw [if_pos rfl, nI_1]
      | some q =>
        rw [e2] at gs hon
        replace hon : f_X11_onSeat (nI i) g = some (nI q) := hon
        replace gs : gS S (aI h 83) k p (nI l, m') i = gT (S (envL (aI h 83) p (nI (nat3 (aI h 83) q)))).2.2 (3 * p + nat3 (aI h 83) p) (3 * q + nat3 (aI h 83) p) (nI l, m') := gs
        have hq : q < k := by have := (firstM_some e2).2.1; omega
        have hTg := hT g k p (fun i hi => by rw [f83]; exact hK i hi) (by rw [f83]; exact hw) (by rw [f83]; exact hm) hp (by rw [f83]; exact hi)
        obtain ⟨g2, b1, b2⟩ := hTg.2.2 q hq
        obtain ⟨v, c1, c2⟩ := hS (envL (aI h 83) p (nI (nat3 (aI h 83) q)))
        rw [f83, c2] at b1
        rw [c2] at gs
        have f94 : aI g2 94 = aI g 94 := b2.2.1 94 (by unfold tA; omega)
        refine ⟨(nI l - mnI (nI l) (nI v), nI (i + 1), sA (sA g2 94 (3 * p + nat3 (aI h 83) p) (aI g2 94 (3 * p + nat3 (aI h 83) p) - mnI (nI l) (nI v))) 94 (3 * q + nat3 (aI h 83) p) (aI (sA g2 94 (3 * p + nat3 (aI h 83) p) (aI g2 94 (3 * p + nat3 (aI h 83) p) - mnI (nI l) (nI v))) 94 (3 * q + nat3 (aI h 83) p) + mnI (nI l) (nI v))), ?_, rfl, l - min l v, (gT (nI v) (3 * p + nat3 (aI h 83) p) (3 * q + nat3 (aI h 83) p) (nI l, m')).2, by omega, ?_, ?_, ?_, ?_⟩
        · rw [hon, Option.bind_some]
          unfold j_X11_givesAll_46_16
          rw [if_neg (nI_ne1 (by omega)), b1, Option.bind_some]
          dsimp only
          rw [m_lesser, Option.bind_some, l3_, pk_mul, pk_mul, nI_add, nI_add, inb_nI (show 3 * p + nat3 (aI h 83) p < 18 by omega) (by omega), inb_nI (show 3 * q + nat3 (aI h 83) p < 18 by omega) (by omega), nI_1]
          rfl
        · rw [mnI_n l v (by omega) (by omega), pk_sub (Nat.min_le_left _ _)]
        · rw [fo, gs]
          apply Prod.ext
          · show nI l - mnI (nI l) (nI v) = _
            rw [mnI_n l v (by omega) (by omega), pk_sub (Nat.min_le_left _ _)]
          · rfl
        · show ∀ j, j < 18 → aI (sA (sA g2 94 _ _) 94 _ _) 94 j = upd (upd m' _ _) _ _ j
          rw [ps_aAs, ps_aAs, f94]
          refine upd2 (upd2 q5 ?_) ?_
          · rw [q5 _ (by omega)]
          · rw [upd2 q5 (show aI g 94 (3 * p + nat3 (aI h 83) p) - mnI (nI l) (nI v) = m' (3 * p + nat3 (aI h 83) p) - mnI (nI l) (nI v) by rw [q5 _ (by omega)]) _ (by omega)]
        · exact Fr_tA (Fr_tA (Fr_tr q6 (Fr_mono b2 (fun a c => by unfold tA at c; unfold vA; omega) (fun a k c => c))) (Or.inr rfl)) (Or.inr rfl)
    · rw [if_neg cb, List.append_nil] at fl
      refine ⟨(nI l, nI (i + 1), g), ?_, rfl, l, m', q2, rfl, by rw [fl]; exact q4, q5, q6⟩
      rw [if_neg (by rw [decide_eq_false cb]; decide)]
      unfold j_X11_givesAll_46_16
      rw [if_pos rfl, nI_1]
  · rintro ⟨x, y, g⟩ ⟨q1, l, m', q2, q3, q4, q5, q6⟩
    dsimp only at q1 q3 q5 q6
    subst q1
    subst q3
    refine ⟨g, ?_, ?_, q6⟩
    · show b_X11_givesAll_16 (nI p) (nI (nat3 (aI h 83) p)) (nI l) (nI 9) g = _
      unfold b_X11_givesAll_16
      rw [l9_, if_pos (Int32.le_refl _)]
    · intro j hj
      rw [q5 j hj]
      unfold givK
      rw [nbs_f9 _ hs2] at q4
      rw [q4]
theorem pos_iff1 {v : Int32} : (1 : Int32) ≤ v ↔ 0 < v := by
  rw [Int32.le_iff_toInt_le, Int32.lt_iff_toInt_lt]
  have h1 : Int32.toInt 1 = 1 := by decide
  have h0 : Int32.toInt 0 = 0 := by decide
  omega
theorem pos_iff0 {v : Int32} : v ≤ 0 ↔ ¬ 0 < v := by
  rw [Int32.le_iff_toInt_le, Int32.lt_iff_toInt_lt]
  omega
def mA (b : Nat) : Prop := b = 83 ∨ b = 93 ∨ b = 94
theorem m_pass1 {S : Sem} {K0 : Nat → Int32} {k : Nat} {h : Hp} (hS : semOK S) (hT : RT K0 S) (hK : ∀ i, 25 ≤ i → aI h 83 i = K0 i) (hw : WF (aI h 83) k) (hm : MOb (aI h 83) 1000000) (hc : ∀ i, i < 18 → aI h 94 i = 0) :
    ∃ h', lp (fun s => b_X11_minutePasses_23 s.1 s.2) FU ((0 : Int32), h) = some h' ∧ (∀ i, i < 18 → aI h' 94 i = morK S (aI h 83) k k i) ∧ Fr vA tF h h' := by
  have h6 := hw.2.1
  refine lp_inv (b := fun s : Int32 × Hp => b_X11_minutePasses_23 s.1 s.2) (fun i s => s.1 = nI i ∧ (∀ j, j < 18 → aI s.2 94 j = morK S (aI h 83) k i j) ∧ Fr vA tF h s.2) (fun e => (∀ j, j < 18 → aI e 94 j = morK S (aI h 83) k k j) ∧ Fr vA tF h e) k ((0 : Int32), h) (by omega) ⟨rfl, fun j hj => hc j hj, Fr_rfl⟩ ?_ ?_
  · rintro i ⟨x, g⟩ hi ⟨q1, q2, q3⟩
    dsimp only at q1 q2 q3
    subst q1
    left
    have f83 : aI g 83 = aI h 83 := q3.2.1 83 (by unfold vA; omega)
    have hmor : morK S (aI h 83) k (i + 1) = if (insb (aI h 83) i && !(S (envL (aI h 83) i (-1))).1) = true then givK S (aI h 83) k i (morK S (aI h 83) k i) else morK S (aI h 83) k i := by
      unfold morK
      rw [itr_succ, Nat.zero_add]
    show ∃ s', b_X11_minutePasses_23 (nI i) g = some (.inl s') ∧ _
    unfold b_X11_minutePasses_23
    rw [m_many (k := k) (by rw [f83]; exact hw), Option.bind_some, if_neg (nI_ge hi (by omega)), m_isInside (by omega), Option.bind_some, f83]
    cases hb : insb (aI h 83) i with
    | false =>
      refine ⟨(nI (i + 1), g), by rw [if_neg (by decide), nI_1], rfl, ?_, q3⟩
      rw [hmor, hb]
      exact q2
    | true =>
      rw [if_pos rfl]
      have hTg := hT g k i (fun i hi => by rw [f83]; exact hK i hi) (by rw [f83]; exact hw) (by rw [f83]; exact hm) hi (by rw [f83]; exact hb)
      obtain ⟨v, g2, b1, b2, b3⟩ := hTg.1
      rw [f83] at b2
      rw [b1, Option.bind_some]
      have b4 : Fr vA tF h g2 := Fr_tr q3 (Fr_mono b3 (fun a c => by unfold tA at c; unfold vA; omega) (fun a k c => c))
      have f94 : aI g2 94 = aI g 94 := b3.2.1 94 (by unfold tA; omega)
      by_cases cv : 0 < v
      · rw [decide_eq_true cv] at b2
        refine ⟨(nI (i + 1), g2), by rw [if_pos (pos_iff1.mpr cv), nI_1], rfl, ?_, b4⟩
        rw [hmor, hb, ← b2]
        show ∀ j, j < 18 → aI g2 94 j = _
        rw [f94]
        exact q2
      · rw [decide_eq_false cv] at b2
        have g83 : aI g2 83 = aI h 83 := b4.2.1 83 (by unfold vA; omega)
        obtain ⟨g3, d1, d2, d3⟩ := m_give (h := g2) (k := k) (m := morK S (aI h 83) k i) hS hT (fun i hi => by rw [g83]; exact hK i hi) (by rw [g83]; exact hw) (by rw [g83]; exact hm) hi (by rw [g83]; exact hb) (by rw [f94]; exact q2)
        refine ⟨(nI (i + 1), g3), ?_, rfl, ?_, Fr_tr b4 d3⟩
        · rw [if_neg (fun c => cv (pos_iff1.mp c))]
          dsimp only
          rw [d1, Option.bind_some, nI_1]
        · rw [g83] at d2
          rw [hmor, hb, ← b2]
          exact d2
  · rintro ⟨x, g⟩ ⟨q1, q2, q3⟩
    dsimp only at q1 q2 q3
    subst q1
    have f83 : aI g 83 = aI h 83 := q3.2.1 83 (by unfold vA; omega)
    refine ⟨g, ?_, q2, q3⟩
    show b_X11_minutePasses_23 (nI k) g = _
    unfold b_X11_minutePasses_23
    rw [m_many (k := k) (by rw [f83]; exact hw), Option.bind_some, if_pos (Int32.le_refl _)]
theorem m_pass2 {S : Sem} {k : Nat} {h : Hp} {K : Nat → Int32} (hS : semOK S) (hKe : aI h 83 = K) (hw : WF K k) (hc : ∀ i, i < 18 → aI h 94 i = morK S K k k i) :
    ∃ h', lp (fun s => b_X11_minutePasses_63 s.1 s.2) FU ((0 : Int32), h) = some h' ∧ aI h' 83 = addK S k K ∧ Fr (fun b => b = 83) noF h h' := by
  have h6 := hw.2.1
  have key := lp_inv (b := fun s : Int32 × Hp => b_X11_minutePasses_63 s.1 s.2) (fun i s => s.1 = nI i ∧ (∀ j, aI s.2 83 j = if j < i then addK S k K j else K j) ∧ Fr (fun b => b = 83) noF h s.2) (fun e => (∀ j, aI e 83 j = if j < 3 * k then addK S k K j else K j) ∧ Fr (fun b => b = 83) noF h e) (3 * k) ((0 : Int32), h) (by omega) ⟨rfl, fun j => by rw [if_neg (by omega)]; show aI h 83 j = _; rw [hKe], Fr_rfl⟩ ?_ ?_
  · obtain ⟨e, h1, h2, h3⟩ := key
    refine ⟨e, h1, ?_, h3⟩
    funext j
    rw [h2 j]
    by_cases c : j < 3 * k
    · rw [if_pos c]
    · rw [if_neg c]
      unfold addK
      by_cases c2 : j < 18
      · rw [if_pos c2, mor_zero hS hw (by omega) c2]
        exact (Int32.add_zero _).symm
      · rw [if_neg c2]
  · rintro i ⟨x, g⟩ hi ⟨q1, q2, q3⟩
    dsimp only at q1 q2 q3
    subst q1
    left
    have e51 : aI g 83 51 = nI k := by rw [q2 51, if_neg (by omega)]; exact hw.1
    have f94 : aI g 94 = aI h 94 := q3.2.1 94 (by omega)
    refine ⟨(nI (i + 1), sA g 83 i (addK S k K i)), ?_, rfl, fun j => ?_, Fr_tA q3 rfl⟩
    · show b_X11_minutePasses_63 (nI i) g = _
      unfold b_X11_minutePasses_63 f_X11_many
      rw [Option.bind_some, e51, l3_, pk_mul, if_neg (nI_ge hi (by omega)), l0_, nI_add, Nat.zero_add, inb_nI (show i < 5662 by omega) (by omega), inb_nI (show i < 18 by omega) (by omega), Option.bind_some, Option.bind_some, Option.bind_some, q2 i, if_neg (by omega), f94, hc i (by omega), nI_1]
      unfold addK
      rw [if_pos (by omega)]
    · show aI (sA g 83 i (addK S k K i)) 83 j = _
      by_cases c : j = i
      · rw [c, aI_s, if_pos (by omega)]
      · rw [aI_n c, q2 j]
        by_cases c2 : j < i
        · rw [if_pos c2, if_pos (by omega)]
        · rw [if_neg c2, if_neg (by omega)]
  · rintro ⟨x, g⟩ ⟨q1, q2, q3⟩
    dsimp only at q1 q2 q3
    subst q1
    have e51 : aI g 83 51 = nI k := by rw [q2 51, if_neg (by omega)]; exact hw.1
    refine ⟨g, ?_, q2, q3⟩
    show b_X11_minutePasses_63 (nI (3 * k)) g = _
    unfold b_X11_minutePasses_63 f_X11_many
    rw [Option.bind_some, e51, l3_, pk_mul, if_pos (Int32.le_refl _)]
def nA (b : Nat) : Prop := b = 83 ∨ b = 93
theorem m_pass3 {S : Sem} {K0 K : Nat → Int32} {k : Nat} {h : Hp} (hT : RT K0 S) (hKe : aI h 83 = K) (hK : ∀ i, 25 ≤ i → K i = K0 i) (hw : WF K k) (hm : MOb K 1000000) :
    ∃ h', lp (fun s => b_X11_minutePasses_98 s.1 s.2) FU ((0 : Int32), h) = some h' ∧ aI h' 83 = lvK S k K ∧ Fr nA tF h h' := by
  have h6 := hw.2.1
  refine lp_inv (b := fun s : Int32 × Hp => b_X11_minutePasses_98 s.1 s.2) (fun i s => s.1 = nI i ∧ aI s.2 83 = lvK S i K ∧ Fr nA tF h s.2) (fun e => aI e 83 = lvK S k K ∧ Fr nA tF h e) k ((0 : Int32), h) (by omega) ⟨rfl, hKe, Fr_rfl⟩ ?_ ?_
  · rintro i ⟨x, g⟩ hi ⟨q1, q2, q3⟩
    dsimp only at q1 q2 q3
    subst q1
    left
    have hwi : WF (lvK S i K) k := WF_lv i K hw (by omega)
    have hmi : MOb (lvK S i K) 1000000 := by
      obtain ⟨m, m1, m2⟩ := hm
      exact ⟨m, m1, by rw [lvK_ne (k := k) i K (by omega) 24 (by omega)]; exact m2⟩
    have hlv : lvK S (i + 1) K = if (insb (lvK S i K) i && (S (envL (lvK S i K) i (-1))).2.1) = true then upd (lvK S i K) (18 + i) (-1) else lvK S i K := by
      unfold lvK
      rw [itr_succ, Nat.zero_add]
    show ∃ s', b_X11_minutePasses_98 (nI i) g = some (.inl s') ∧ _
    unfold b_X11_minutePasses_98
    rw [m_many (k := k) (by rw [q2]; exact hwi), Option.bind_some, if_neg (nI_ge hi (by omega)), m_isInside (by omega), Option.bind_some, q2]
    cases hb : insb (lvK S i K) i with
    | false =>
      refine ⟨(nI (i + 1), g), by rw [if_neg (by decide), nI_1], rfl, ?_, q3⟩
      rw [hlv, hb]
      exact q2
    | true =>
      rw [if_pos rfl]
      have hTg := hT g k i (fun j hj => by rw [q2, lvK_ne (k := k) i K (by omega) j (by omega)]; exact hK j hj) (by rw [q2]; exact hwi) (by rw [q2]; exact hmi) hi (by rw [q2]; exact hb)
      obtain ⟨v, g2, b1, b2, b3⟩ := hTg.2.1
      rw [q2] at b2
      rw [b1, Option.bind_some]
      have b4 : Fr nA tF h g2 := Fr_tr q3 (Fr_mono b3 (fun a c => by unfold tA at c; unfold nA; omega) (fun a k c => c))
      have g83 : aI g2 83 = lvK S i K := by rw [b3.2.1 83 (by unfold tA; omega)]; exact q2
      by_cases cv : 0 < v
      · rw [decide_eq_true cv] at b2
        refine ⟨(nI (i + 1), sA g2 83 (18 + i) (-1)), ?_, rfl, ?_, Fr_tA b4 (Or.inl rfl)⟩
        · rw [if_neg (fun c => pos_iff0.mp c cv), l18_, m_inb (show 18 + i < 5662 by omega) (by omega), Option.bind_some, nI_1]
        · rw [hlv, hb, ← b2]
          show aI (sA g2 83 (18 + i) (-1)) 83 = _
          rw [ps_aAs, g83]
          rfl
      · rw [decide_eq_false cv] at b2
        refine ⟨(nI (i + 1), g2), by rw [if_pos (pos_iff0.mpr cv), nI_1], rfl, ?_, b4⟩
        rw [hlv, hb, ← b2]
        exact g83
  · rintro ⟨x, g⟩ ⟨q1, q2, q3⟩
    dsimp only at q1 q2 q3
    subst q1
    refine ⟨g, ?_, q2, q3⟩
    show b_X11_minutePasses_98 (nI k) g = _
    unfold b_X11_minutePasses_98
    rw [m_many (k := k) (by rw [q2]; exact WF_lv k K hw (Nat.le_refl _)), Option.bind_some, if_pos (Int32.le_refl _)]
theorem m_pass0 (h : Hp) : ∃ h', lp (fun s => b_X11_minutePasses_2 s.1 s.2) FU ((0 : Int32), h) = some h' ∧ (∀ i, i < 18 → aI h' 94 i = 0) ∧ Fr (fun b => b = 94) noF h h' := by
  refine lp_inv (b := fun s : Int32 × Hp => b_X11_minutePasses_2 s.1 s.2) (fun i s => s.1 = nI i ∧ (∀ j, j < i → aI s.2 94 j = 0) ∧ Fr (fun b => b = 94) noF h s.2) (fun e => (∀ j, j < 18 → aI e 94 j = 0) ∧ Fr (fun b => b = 94) noF h e) 18 ((0 : Int32), h) (by omega) ⟨rfl, fun j hj => absurd hj (Nat.not_lt_zero _), Fr_rfl⟩ ?_ ?_
  · rintro i ⟨x, g⟩ hi ⟨q1, q2, q3⟩
    dsimp only at q1 q2 q3
    subst q1
    left
    refine ⟨(nI (i + 1), sA g 94 i 0), ?_, rfl, fun j hj => ?_, Fr_tA q3 rfl⟩
    · show b_X11_minutePasses_2 (nI i) g = _
      unfold b_X11_minutePasses_2
      rw [l18_, if_neg (nI_ge hi (by omega)), inb_nI hi (by omega), Option.bind_some, nI_1]
    · show aI (sA g 94 i 0) 94 j = 0
      by_cases c : j = i
      · rw [c, aI_s]
      · rw [aI_n c]; exact q2 j (by omega)
  · rintro ⟨x, g⟩ ⟨q1, q2, q3⟩
    dsimp only at q1 q2 q3
    subst q1
    refine ⟨g, ?_, q2, q3⟩
    show b_X11_minutePasses_2 (nI 18) g = _
    unfold b_X11_minutePasses_2
    rw [l18_, if_pos (Int32.le_refl _)]
/-- a minute of the reference's -/
theorem m_pass {S : Sem} {K0 : Nat → Int32} {k : Nat} {h : Hp} (hS : semOK S) (hT : RT K0 S) (hK : ∀ i, 25 ≤ i → aI h 83 i = K0 i) (hw : WF (aI h 83) k) (hm : MOb (aI h 83) 1000000) :
    ∃ h', f_X11_minutePasses h = some ((), h') ∧ aI h' 83 = minK S k (aI h 83) ∧ Fr mA tF h h' := by
  have h6 := hw.2.1
  unfold f_X11_minutePasses
  obtain ⟨g1, a1, a2, a3⟩ := m_pass0 h
  rw [a1, Option.bind_some]
  have k1 : aI g1 83 = aI h 83 := a3.2.1 83 (by omega)
  obtain ⟨g2, b1, b2, b3⟩ := m_pass1 (h := g1) (k := k) hS hT (fun i hi => by rw [k1]; exact hK i hi) (by rw [k1]; exact hw) (by rw [k1]; exact hm) a2
  rw [b1, Option.bind_some]
  have k2 : aI g2 83 = aI h 83 := (b3.2.1 83 (by unfold vA; omega)).trans k1
  rw [k1] at b2
  obtain ⟨g3, c1, c2, c3⟩ := m_pass2 hS k2 hw b2
  rw [c1, Option.bind_some]
  have hm4 : MOb (addK S k (aI h 83)) 1000000 := by
    obtain ⟨m, m1, m2⟩ := hm
    exact ⟨m, m1, by rw [addK_hi _ _ _ (by omega)]; exact m2⟩
  obtain ⟨g4, d1, d2, d3⟩ := m_pass3 (K0 := K0) hT c2 (fun i hi => by rw [addK_hi _ _ _ (by omega)]; exact hK i hi) (WF_add hS hw) hm4
  rw [d1, Option.bind_some]
  refine ⟨_, rfl, ?_, ?_⟩
  · rw [ps_aAs, d2]
    rfl
  · refine Fr_tA (Fr_tr (Fr_tr (Fr_tr (Fr_mono a3 (fun a c => ?_) (fun a k c => c.elim)) (Fr_mono b3 (fun a c => ?_) (fun a k c => c))) (Fr_mono c3 (fun a c => ?_) (fun a k c => c.elim))) (Fr_mono d3 (fun a c => ?_) (fun a k c => c))) (Or.inl rfl)
    · (try dsimp only at c); unfold mA; omega
    · unfold vA at c; unfold mA; omega
    · (try dsimp only at c); unfold mA; omega
    · unfold nA at c; unfold mA; omega
