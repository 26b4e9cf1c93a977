/-! ===== the reference's sights ===== -/
def stA (a : Nat) : Prop := mA a ∨ a = 103
section MST
variable {K : Nat → Int32} {k : Nat} {S : Sem} {sm : Nat}
def soB (K K2 : Nat → Int32) (sm j n : Nat) : Bool := decide (∀ i, i < n → sgM K i = j → nat3 K2 (sgP K i) = sgC K i)
theorem m_soAt {h : Hp} {K2 : Nat → Int32} (e83 : aI h 83 = K2) (hK : ∀ i, 25 ≤ i → K2 i = K i) (hk : k ≤ 6) (hs : Sights K k sm) (hsm : sm ≤ 6) (h52 : K 52 = nI sm) {j : Nat} (hj : j ≤ 9) : f_X11_isSoAt (nI j) h = some (soB K K2 sm j sm) := by
  have key := lp_inv (b := fun s : Int32 × Int32 => b_X11_isSoAt_4 (nI j) s.1 s.2 h) (fun i s => s.1 = b2i (soB K K2 sm j i) ∧ s.2 = nI i) (fun e => e = b2i (soB K K2 sm j sm)) sm ((1 : Int32), (0 : Int32)) (by omega) ⟨by rw [show soB K K2 sm j 0 = true from decide_eq_true (fun i hi => absurd hi (Nat.not_lt_zero _))]; rfl, rfl⟩ ?_ ?_
  · obtain ⟨e, k1, k2⟩ := key
    unfold f_X11_isSoAt
    rw [k1, Option.bind_some, k2, i2b_b, Option.bind_some]
  · rintro i ⟨s1, s2⟩ hi ⟨q1, q2⟩
    dsimp only at q1 q2
    subst q1
    subst q2
    obtain ⟨e1, e2, e3, p1, p2, p3⟩ := sg_ok hk hs hi
    have n3 := nat3_lt K2 (sgP K i)
    have fin : ∀ b : Bool, b = soB K K2 sm j (i + 1) → j_X11_isSoAt_72_4 (nI j) (nI i) (b2i b) h = some (.inl (b2i (soB K K2 sm j (i + 1)), nI (i + 1))) := by
      intro b hb
      unfold j_X11_isSoAt_72_4
      rw [nI_1, hb]
    have fal : (∃ i', i' < i + 1 ∧ sgM K i' = j ∧ nat3 K2 (sgP K i') ≠ sgC K i') → false = soB K K2 sm j (i + 1) := fun ⟨i', a1, a2, a3⟩ => (decide_eq_false (fun d => a3 (d i' a1 a2))).symm
    refine Or.inl ⟨(b2i (soB K K2 sm j (i + 1)), nI (i + 1)), ?_, rfl, rfl⟩
    show b_X11_isSoAt_4 (nI j) (b2i (soB K K2 sm j i)) (nI i) h = _
    unfold b_X11_isSoAt_4 j_X11_isSoAt_71_4
    rw [e83, hK 52 (by omega), h52, if_neg (nI_ge hi (by omega))]
    cases hb : soB K K2 sm j i with
    | false =>
      rw [if_pos (show b2i false = 0 from rfl)]
      refine fin false ?_
      have hb' : ¬ ∀ i', i' < i → sgM K i' = j → nat3 K2 (sgP K i') = sgC K i' := of_decide_eq_false hb
      refine (decide_eq_false (fun d => hb' (fun i' h1 h2 => d i' (by omega) h2))).symm
    | true =>
      have hb' : ∀ i', i' < i → sgM K i' = j → nat3 K2 (sgP K i') = sgC K i' := of_decide_eq_true hb
      rw [if_neg (show ¬ b2i true = 0 by decide), show ((31 : Int32)) = nI 31 from rfl, l3_, pk_mul, nI_add, nI_1, inb_nI (show 31 + 3 * i + 1 < 5662 by omega) (by omega), Option.bind_some, hK _ (by omega), e2]
      by_cases c : sgM K i = j
      · rw [if_pos (by rw [c]), inb_nI (show 31 + 3 * i < 5662 by omega) (by omega), Option.bind_some, hK _ (by omega), e1, m_nationOf (by omega), Option.bind_some, e83, l2_, nI_add, inb_nI (show 31 + 3 * i + 2 < 5662 by omega) (by omega), Option.bind_some, hK _ (by omega), e3]
        by_cases d : nat3 K2 (sgP K i) = sgC K i
        · rw [if_pos (by rw [d])]
          refine fin true ?_
          refine (decide_eq_true (fun i' h1 h2 => ?_)).symm
          by_cases z : i' = i
          · rw [z]; exact d
          · exact hb' i' (by omega) h2
        · rw [if_neg (fun e => d ((nI_eq (by omega) (by omega)).mp e))]
          exact fin false (fal ⟨i, by omega, c, d⟩)
      · rw [if_neg (fun e => c ((nI_eq (by omega) (by omega)).mp e))]
        refine fin true ?_
        refine (decide_eq_true (fun i' h1 h2 => ?_)).symm
        by_cases z : i' = i
        · rw [z] at h2; exact absurd h2 c
        · exact hb' i' (by omega) h2
  · rintro ⟨s1, s2⟩ ⟨q1, q2⟩
    dsimp only at q1 q2
    subst q2
    refine ⟨s1, ?_, q1⟩
    show b_X11_isSoAt_4 (nI j) s1 (nI sm) h = _
    unfold b_X11_isSoAt_4
    rw [e83, hK 52 (by omega), h52, if_pos (Int32.le_refl _)]
/-- what was seen ahead of minute j fits -/
def okU (S : Sem) (K : Nat → Int32) (k sm q j : Nat) : Bool := decide (∀ i, i < sm → sgM K i < j → nat3 (kjq S K k q (sgM K i)) (sgP K i) = sgC K i)
theorem okU_s {q j : Nat} (hj : okU S K k sm q j = true) : okU S K k sm q (j + 1) = soB K (kjq S K k q j) sm j sm := by
  have h1 : ∀ i, i < sm → sgM K i < j → nat3 (kjq S K k q (sgM K i)) (sgP K i) = sgC K i := of_decide_eq_true hj
  refine bool_if ⟨fun a => ?_, fun a => ?_⟩
  · have a' : ∀ i, i < sm → sgM K i < j + 1 → nat3 (kjq S K k q (sgM K i)) (sgP K i) = sgC K i := of_decide_eq_true a
    refine decide_eq_true (fun i hi e => ?_)
    have := a' i hi (by omega)
    rw [e] at this
    exact this
  · have a' : ∀ i, i < sm → sgM K i = j → nat3 (kjq S K k q j) (sgP K i) = sgC K i := of_decide_eq_true a
    refine decide_eq_true (fun i hi e => ?_)
    by_cases c : sgM K i = j
    · rw [c]; exact a' i hi c
    · exact h1 i hi (by omega)
theorem okU_f {q j : Nat} (hj : okU S K k sm q j = false) : okU S K k sm q (j + 1) = false := by
  have h1 : ¬ ∀ i, i < sm → sgM K i < j → nat3 (kjq S K k q (sgM K i)) (sgP K i) = sgC K i := of_decide_eq_false hj
  exact decide_eq_false (fun d => h1 (fun i hi e => d i hi (by omega)))
theorem okU_10 (hk : k ≤ 6) (hs : Sights K k sm) (q : Nat) : okU S K k sm q 10 = FB S K k sm q := by
  refine bool_if ⟨fun a => ?_, fun a => ?_⟩
  · have a' : ∀ i, i < sm → sgM K i < 10 → nat3 (kjq S K k q (sgM K i)) (sgP K i) = sgC K i := of_decide_eq_true a
    exact decide_eq_true (fun i hi => a' i hi (by have := (sg_ok hk hs hi).2.2.2.2.1; omega))
  · have a' : ∀ i, i < sm → nat3 (kjq S K k q (sgM K i)) (sgP K i) = sgC K i := of_decide_eq_true a
    exact decide_eq_true (fun i hi _ => a' i hi)
/-- what is told of a seating -/
def WB (h : Hp) (S : Sem) (K : Nat → Int32) (k q t : Nat) (b : Bool) : Prop := ∀ p, p < k → (∃ c, c < 3 ∧ aI h 103 (6 * q + p) = nI c) ∧ (b = true → aI h 103 (6 * q + p) = nI (nat3 (kjq S K k q t) p))
theorem m_rec {h : Hp} {K2 : Nat → Int32} {x1 x2 x4 x5 : Int32} {q : Nat} (e83 : aI h 83 = K2) (hw : WF K2 k) (hq : q < 720) : ∃ h', lp (fun s => b_X11_laysSat_69_32 x1 x2 (nI q) x4 x5 s.1 s.2) FU ((0 : Int32), h) = some h' ∧ (∀ p, p < k → aI h' 103 (6 * q + p) = nI (nat3 K2 p)) ∧ (∀ i, ¬ (6 * q ≤ i ∧ i < 6 * q + 6) → aI h' 103 i = aI h 103 i) ∧ Fr (fun a => a = 103) noF h h' := by
  have h6 := hw.2.1
  refine lp_inv (b := fun s : Int32 × Hp => b_X11_laysSat_69_32 x1 x2 (nI q) x4 x5 s.1 s.2) (fun i s => s.1 = nI i ∧ (∀ p, p < i → aI s.2 103 (6 * q + p) = nI (nat3 K2 p)) ∧ (∀ i, ¬ (6 * q ≤ i ∧ i < 6 * q + 6) → aI s.2 103 i = aI h 103 i) ∧ Fr (fun a => a = 103) noF h s.2) (fun e => (∀ p, p < k → aI e 103 (6 * q + p) = nI (nat3 K2 p)) ∧ (∀ i, ¬ (6 * q ≤ i ∧ i < 6 * q + 6) → aI e 103 i = aI h 103 i) ∧ Fr (fun a => a = 103) noF h e) k ((0 : Int32), h) (by omega) ⟨rfl, fun p hp => absurd hp (Nat.not_lt_zero _), fun _ _ => rfl, Fr_rfl⟩ ?_ ?_
  · rintro i ⟨s1, s2⟩ hi ⟨q1, q2, q3, q4⟩
    dsimp only at q1 q2 q3 q4
    subst q1
    have w2 : aI s2 83 = K2 := by rw [q4.2.1 83 (by omega), e83]
    refine Or.inl ⟨(nI (i + 1), sA s2 103 (6 * q + i) (nI (nat3 K2 i))), ?_, rfl, fun p hp => ?_, fun z hz => ?_, Fr_tA q4 rfl⟩
    · show b_X11_laysSat_69_32 x1 x2 (nI q) x4 x5 (nI i) s2 = _
      unfold b_X11_laysSat_69_32
      rw [m_many (k := k) (by rw [w2]; exact hw), Option.bind_some, if_neg (nI_ge hi (by omega)), m_nationOf (by omega), Option.bind_some, w2, l6_, pk_mul, nI_add, inb_nI (show 6 * q + i < 4320 by omega) (by omega), Option.bind_some, nI_1]
    · show aI (sA s2 103 _ _) 103 (6 * q + p) = _
      by_cases c : p = i
      · rw [c, aI_s]
      · rw [aI_n (by omega)]; exact q2 p (by omega)
    · show aI (sA s2 103 _ _) 103 z = _
      rw [aI_n (by omega)]; exact q3 z hz
  · rintro ⟨s1, s2⟩ ⟨q1, q2, q3, q4⟩
    dsimp only at q1 q2 q3 q4
    subst q1
    refine ⟨s2, ?_, q2, q3, q4⟩
    show b_X11_laysSat_69_32 x1 x2 (nI q) x4 x5 (nI k) s2 = _
    unfold b_X11_laysSat_69_32
    rw [m_many (k := k) (by rw [q4.2.1 83 (by omega), e83]; exact hw), Option.bind_some, if_pos (Int32.le_refl _)]
theorem m_satIn {g : Hp} (hS : semOK S) (hT : RT K S) (hw : WF K k) (hm : MOb K 999) (hs : Sights K k sm) (hsm : sm ≤ 6) (h52 : K 52 = nI sm) {q t : Nat} {x2 : Int32} (hq : q < fct (insL K k).length) (ht : t ≤ 9) (e83 : aI g 83 = seatK K k q) : ∃ g', lp (fun s => b_X11_laysSat_32_13 (nI t) x2 (nI q) s.1 s.2.1 s.2.2) FU ((1 : Int32), (0 : Int32), g) = some (b2i (FB S K k sm q), g') ∧ (∀ i, 25 ≤ i → aI g' 83 i = K i) ∧ WB g' S K k q t (FB S K k sm q) ∧ (∀ i, ¬ (6 * q ≤ i ∧ i < 6 * q + 6) → aI g' 103 i = aI g 103 i) ∧ Fr stA tF g g' := by
  have h6 := hw.2.1
  have f7 := (fct_le _ (ins_le hw)).1
  have wS := WF_seatK hw hq
  have hiS : ∀ i, 25 ≤ i → seatK K k q i = K i := fun i hi => seatK_o hw (by omega)
  obtain ⟨mm, mm1, mm2⟩ := hm
  have key := lp_inv (b := fun s : Int32 × Int32 × Hp => b_X11_laysSat_32_13 (nI t) x2 (nI q) s.1 s.2.1 s.2.2) (fun j s => s.1 = b2i (okU S K k sm q j) ∧ s.2.1 = nI j ∧ ∃ K2, aI s.2.2 83 = K2 ∧ WF K2 k ∧ MOb K2 (999 + j) ∧ (∀ i, 25 ≤ i → K2 i = K i) ∧ (okU S K k sm q j = true → K2 = kjq S K k q (min j 9)) ∧ (t < j → WB s.2.2 S K k q t (okU S K k sm q j)) ∧ (∀ i, ¬ (6 * q ≤ i ∧ i < 6 * q + 6) → aI s.2.2 103 i = aI g 103 i) ∧ Fr stA tF g s.2.2) (fun e => e.1 = b2i (FB S K k sm q) ∧ (∀ i, 25 ≤ i → aI e.2 83 i = K i) ∧ WB e.2 S K k q t (FB S K k sm q) ∧ (∀ i, ¬ (6 * q ≤ i ∧ i < 6 * q + 6) → aI e.2 103 i = aI g 103 i) ∧ Fr stA tF g e.2) 10 ((1 : Int32), (0 : Int32), g) (by omega) ⟨?_, rfl, seatK K k q, e83, wS, ⟨mm, by omega, by rw [seatK_o hw (by omega)]; exact mm2⟩, hiS, fun _ => rfl, fun d => absurd d (Nat.not_lt_zero _), fun _ _ => rfl, Fr_rfl⟩ ?_ ?_
  · obtain ⟨e, k1, k2, k3, k4, k5, k6⟩ := key
    refine ⟨e.2, ?_, k3, k4, k5, k6⟩
    rw [k1, ← k2]
  · rw [show okU S K k sm q 0 = true from decide_eq_true (fun i _ d => absurd d (Nat.not_lt_zero _))]; rfl
  · rintro j ⟨s1, s2, s3⟩ hj ⟨q1, q2, K2, z1, z2, z3, z4, z5, z6, z7, z8⟩
    dsimp only at q1 q2 z1 z6 z7 z8
    subst q1
    subst q2
    have j9 : j ≤ 9 := by omega
    -- the test of this minute
    have T1 : b_X11_laysSat_32_13 (nI t) x2 (nI q) (b2i (okU S K k sm q j)) (nI j) s3 = j_X11_laysSat_58_32 (nI t) x2 (nI q) (nI j) (b2i (okU S K k sm q (j + 1))) s3 := by
      unfold b_X11_laysSat_32_13 j_X11_laysSat_57_32
      rw [if_neg (show ¬ (9 : Int32) < nI j from nI_nlt (a := 9) (by omega) (by omega))]
      cases hb : okU S K k sm q j with
      | false =>
        rw [if_pos (show b2i false = 0 from rfl), okU_f hb]
        rfl
      | true =>
        have eK := z5 hb
        rw [Nat.min_eq_left j9] at eK
        rw [if_neg (show ¬ b2i true = 0 by decide), m_soAt z1 z4 h6 hs hsm h52 j9, Option.bind_some, eK, ← okU_s hb]
        cases okU S K k sm q (j + 1)
        · rw [if_neg Bool.false_ne_true]; rfl
        · rw [if_pos rfl]; rfl
    -- what is told
    have T2 : ∃ s4, j_X11_laysSat_58_32 (nI t) x2 (nI q) (nI j) (b2i (okU S K k sm q (j + 1))) s3 = j_X11_laysSat_102_32 (nI t) x2 (nI q) (b2i (okU S K k sm q (j + 1))) (nI j) s4 ∧ (t < j + 1 → WB s4 S K k q t (okU S K k sm q (j + 1))) ∧ (∀ i, ¬ (6 * q ≤ i ∧ i < 6 * q + 6) → aI s4 103 i = aI s3 103 i) ∧ Fr (fun a => a = 103) noF s3 s4 := by
      unfold j_X11_laysSat_58_32
      have up : okU S K k sm q (j + 1) = true → okU S K k sm q j = true := by
        intro d
        cases hb : okU S K k sm q j with
        | true => rfl
        | false => rw [okU_f hb] at d; exact absurd d Bool.false_ne_true
      by_cases c : j = t
      · obtain ⟨s4, y1, y2, y3, y4⟩ := m_rec (x1 := nI t) (x2 := x2) (x4 := b2i (okU S K k sm q (j + 1))) (x5 := nI j) (k := k) (q := q) z1 z2 (by omega)
        refine ⟨s4, by rw [if_pos (by rw [c]), y1, Option.bind_some], fun _ p hp => ⟨⟨nat3 K2 p, nat3_lt _ _, y2 p hp⟩, fun d => ?_⟩, y3, y4⟩
        have eK := z5 (up d)
        rw [Nat.min_eq_left j9] at eK
        rw [y2 p hp, eK, c]
      · refine ⟨s3, by rw [if_neg (fun d => c ((nI_eq (by omega) (by omega)).mp d))], fun htj p hp => ?_, fun _ _ => rfl, Fr_rfl⟩
        obtain ⟨v1, v2⟩ := z6 (by omega) p hp
        exact ⟨v1, fun d => v2 (up d)⟩
    obtain ⟨s4, u1, u2, u3, u4⟩ := T2
    have e4 : aI s4 83 = K2 := by rw [u4.2.1 83 (by omega), z1]
    have F4 : Fr stA tF g s4 := Fr_tr z8 (Fr_mono u4 (fun _ c => Or.inr c) (fun _ _ c => c.elim))
    have m103 : ∀ i, ¬ (6 * q ≤ i ∧ i < 6 * q + 6) → aI s4 103 i = aI g 103 i := fun i hi => (u3 i hi).trans (z7 i hi)
    refine Or.inl ?_
    show ∃ s', b_X11_laysSat_32_13 (nI t) x2 (nI q) (b2i (okU S K k sm q j)) (nI j) s3 = _ ∧ _
    rw [T1, u1]
    unfold j_X11_laysSat_102_32
    by_cases c9 : j = 9
    · rw [if_pos (show (9 : Int32) ≤ nI j by rw [c9]; decide), nI_1]
      refine ⟨_, rfl, rfl, rfl, K2, e4, z2, MOb_le z3 (by omega), z4, fun d => ?_, u2, m103, F4⟩
      have hb : okU S K k sm q j = true := by
        cases hb : okU S K k sm q j with
        | true => rfl
        | false => rw [okU_f hb] at d; exact absurd d Bool.false_ne_true
      rw [z5 hb]
      congr 1
      omega
    · rw [if_neg (show ¬ (9 : Int32) ≤ nI j from nI_ge (b := 9) (by omega) (by omega))]
      cases hb1 : okU S K k sm q (j + 1) with
      | false =>
        rw [if_pos (show b2i false = 0 from rfl), nI_1]
        refine ⟨_, rfl, rfl, rfl, K2, e4, z2, MOb_le z3 (by omega), z4, fun d => absurd d Bool.false_ne_true, fun htj => ?_, m103, F4⟩
        have := u2 htj
        rw [hb1] at this
        exact this
      | true =>
        have hb : okU S K k sm q j = true := by
          cases hb : okU S K k sm q j with
          | true => rfl
          | false => rw [okU_f hb] at hb1; exact absurd hb1 Bool.false_ne_true
        obtain ⟨s5, v1, v2, v3⟩ := m_pass (h := s4) (k := k) hS hT (fun i hi => by rw [e4]; exact z4 i hi) (by rw [e4]; exact z2) (by rw [e4]; exact MOb_le z3 (by omega))
        rw [e4] at v2
        rw [if_neg (show ¬ b2i true = 0 by decide), v1, Option.bind_some, nI_1]
        refine ⟨_, rfl, rfl, rfl, minK S k K2, v2, WF_min hS z2, MOb_min h6 z3, fun i hi => by rw [minK_hi h6 _ hi]; exact z4 i hi, fun _ => ?_, fun htj p hp => ?_, fun i hi => ?_, Fr_tr F4 (Fr_mono v3 (fun _ c => Or.inl c) (fun _ _ c => c))⟩
        · have eK := z5 hb
          rw [Nat.min_eq_left (by omega)] at eK
          rw [eK, Nat.min_eq_left (by omega)]
          rfl
        · have := u2 htj p hp
          rw [hb1] at this
          show (∃ c, c < 3 ∧ aI s5 103 (6 * q + p) = nI c) ∧ _
          rw [v3.2.1 103 (by unfold mA; omega)]
          exact this
        · show aI s5 103 i = _
          rw [v3.2.1 103 (by unfold mA; omega)]; exact m103 i hi
  · rintro ⟨s1, s2, s3⟩ ⟨q1, q2, K2, z1, z2, z3, z4, z5, z6, z7, z8⟩
    dsimp only at q1 q2 z1 z6 z7 z8
    subst q1
    subst q2
    rw [okU_10 h6 hs] at z6 ⊢
    refine ⟨(b2i (FB S K k sm q), s3), ?_, rfl, fun i hi => by show aI s3 83 i = _; rw [z1]; exact z4 i hi, z6 (by omega), z7, z8⟩
    show b_X11_laysSat_32_13 (nI t) x2 (nI q) _ (nI 10) s3 = _
    unfold b_X11_laysSat_32_13
    rw [if_pos (by decide)]
theorem m_laysS {h : Hp} (hS : semOK S) (hT : RT K S) (e83 : aI h 83 = K) (hw : WF K k) (hm : MOb K 999) (hs : Sights K k sm) (hsm : sm ≤ 6) (h52 : K 52 = nI sm) {t : Nat} (ht : t ≤ 9) : ∃ h', f_X11_laysSat (nI t) h = some (nI (cntN (FB S K k sm) (fct (insL K k).length)), h') ∧ aI h' 83 = K ∧ HLD h' K k ∧ (∀ q, q < fct (insL K k).length → aI h' 102 q = b2i (FB S K k sm q) ∧ WB h' S K k q t (FB S K k sm q)) ∧ (∀ i, i < 25 → aI h' 86 i = K i) ∧ Fr plsA plsF h h' := by
  have h6 := hw.2.1
  have m6 := ins_le hw
  have f7 := fct_le _ m6
  obtain ⟨g1, a1, a2, a3⟩ := m_hold e83 hw
  obtain ⟨g2, b1, b2, -, b4⟩ := m_aside (h := g1) (t := 0) (by omega)
  have g83 : aI g2 83 = K := by rw [b4.2.1 83 (by omega), a3.2.1 83 (by omega), e83]
  have F2 : Fr plsA plsF h g2 := Fr_tr (Fr_mono a3 (fun a c => by unfold plsA; omega) (fun a j c => by unfold plsF; omega)) (Fr_mono b4 (fun a c => by unfold plsA; omega) (fun _ _ c => c.elim))
  have H2 : HLD g2 K k := HLD_fr a2 b4 (by omega) (by omega) (fun c => c) (fun c => c)
  have E2 : ∀ i, i < 25 → aI g2 86 i = K i := fun i hi => by
    have := b2 i hi
    rw [show 25 * 0 + i = i by omega, a3.2.1 83 (by omega), e83] at this
    exact this
  have key := lp_inv (b := fun s : Int32 × Int32 × Hp => b_X11_laysSat_13 (nI t) s.1 s.2.1 s.2.2) (fun q s => s.1 = nI (cntN (FB S K k sm) q) ∧ s.2.1 = nI q ∧ aI s.2.2 83 = K ∧ HLD s.2.2 K k ∧ (∀ q', q' < q → aI s.2.2 102 q' = b2i (FB S K k sm q') ∧ WB s.2.2 S K k q' t (FB S K k sm q')) ∧ (∀ i, i < 25 → aI s.2.2 86 i = K i) ∧ Fr plsA plsF h s.2.2) (fun e => e.1 = nI (cntN (FB S K k sm) (fct (insL K k).length)) ∧ aI e.2 83 = K ∧ HLD e.2 K k ∧ (∀ q, q < fct (insL K k).length → aI e.2 102 q = b2i (FB S K k sm q) ∧ WB e.2 S K k q t (FB S K k sm q)) ∧ (∀ i, i < 25 → aI e.2 86 i = K i) ∧ Fr plsA plsF h e.2) (fct (insL K k).length) ((0 : Int32), (0 : Int32), g2) (by omega) ⟨rfl, rfl, g83, H2, fun q hq => absurd hq (Nat.not_lt_zero _), E2, F2⟩ ?_ ?_
  · obtain ⟨e, k1, k2, k3⟩ := key
    refine ⟨e.2, ?_, k3⟩
    unfold f_X11_laysSat
    rw [a1, Option.bind_some, show f_X11_laysAside (0 : Int32) g1 = some ((), g2) from b1, Option.bind_some, k1, Option.bind_some, k2]
  · rintro q ⟨s1, s2, s3⟩ hq ⟨q1, q2, q3, q4, q5, q6, q7⟩
    dsimp only at q1 q2 q3 q4 q5 q6 q7
    subst q1
    subst q2
    obtain ⟨r1, c1, c2, c3⟩ := m_seats q4 hw hq
    have r83 : aI r1 83 = seatK K k q := by rw [c2, q3]; rfl
    obtain ⟨r2, d1, d2, d3, d4, d5⟩ := m_satIn (x2 := nI (cntN (FB S K k sm) q)) hS hT hw hm hs hsm h52 hq ht r83
    obtain ⟨r3, e1, e2, e3⟩ := m_tbk (h := sA r2 102 q (b2i (FB S K k sm q))) (t := 0) (by omega)
    have z86 : ∀ i, i < 25 → aI (sA r2 102 q (b2i (FB S K k sm q))) 86 i = K i := fun i hi => by
      rw [ps_aAn _ _ _ _ _ (by omega), d5.2.1 86 (by unfold stA mA; omega), c3.2.1 86 (by omega)]; exact q6 i hi
    have r383 : aI r3 83 = K := tk_seat hw (g := sA r2 102 q (b2i (FB S K k sm q))) (K2 := aI r2 83) (by rw [ps_aAn _ _ _ _ _ (by omega)]) d2 z86 e2
    have cs : cntN (FB S K k sm) (q + 1) = cntN (FB S K k sm) q + (if FB S K k sm q = true then 1 else 0) := rfl
    refine Or.inl ⟨(nI (cntN (FB S K k sm) (q + 1)), nI (q + 1), r3), ?_, rfl, rfl, r383, ?_, fun q' hq' => ⟨?_, fun p hp => ?_⟩, fun i hi => ?_, ?_⟩
    · show b_X11_laysSat_13 (nI t) (nI (cntN (FB S K k sm) q)) (nI q) s3 = _
      unfold b_X11_laysSat_13
      rw [q4.2.1, if_neg (nI_ge hq (by omega)), c1, Option.bind_some, d1, Option.bind_some, i2b_b, Option.bind_some, inb_nI (show q < 720 by omega) (by omega), Option.bind_some]
      unfold j_X11_laysSat_143_13
      dsimp only
      rw [show f_X11_takesBack (0 : Int32) (sA r2 102 q (b2i (FB S K k sm q))) = some ((), r3) from e1, Option.bind_some, Option.bind_some, nI_1, cs]
      cases FB S K k sm q
      · rw [if_pos (show b2i false = 0 from rfl), if_neg Bool.false_ne_true]
        show some (Sum.inl (nI (cntN _ q) + nI 0, _)) = _
        rw [nI_add]
      · rw [if_neg (show ¬ b2i true = 0 by decide), if_pos rfl]
        show some (Sum.inl (nI (cntN _ q) + nI 1, _)) = _
        rw [nI_add]
    · refine HLD_fr (HLD_fr (HLD_fr (HLD_fr q4 c3 (by omega) (by omega) (fun c => c) (fun c => c)) d5 (by unfold stA mA; omega) (by unfold stA mA; omega) (by unfold tF; omega) (by unfold tF; omega)) (Fr_sA (A := fun a => a = 102) (F := noF) rfl) (by omega) (by omega) (fun c => c) (fun c => c)) e3 (by omega) (by omega) (fun c => c) (fun c => c)
    · show aI r3 102 q' = _
      rw [e3.2.1 102 (by omega)]
      by_cases c : q' = q
      · rw [c, aI_s]
      · rw [aI_n c, d5.2.1 102 (by unfold stA mA; omega), c3.2.1 102 (by omega)]; exact (q5 q' (by omega)).1
    · show (∃ c, c < 3 ∧ aI r3 103 (6 * q' + p) = nI c) ∧ (_ → aI r3 103 (6 * q' + p) = _)
      rw [e3.2.1 103 (by omega), ps_aAn _ _ _ _ _ (by omega)]
      by_cases c : q' = q
      · rw [c]; exact d3 p hp
      · rw [d4 _ (by omega), c3.2.1 103 (by omega)]; exact (q5 q' (by omega)).2 p hp
    · show aI r3 86 i = _
      rw [e3.2.1 86 (by omega)]; exact z86 i hi
    · refine Fr_tr (Fr_tA (Fr_tr (Fr_tr q7 (Fr_mono c3 ?_ ?_)) (Fr_mono d5 ?_ ?_)) ?_) (Fr_mono e3 ?_ ?_)
      · intro a c; unfold plsA mA; omega
      · intro a j c; exact c.elim
      · intro a c; unfold stA at c; unfold plsA mA; unfold mA at c; omega
      · intro a j c; exact Or.inl c
      · unfold plsA; omega
      · intro a c; unfold plsA mA; omega
      · intro a j c; exact c.elim
  · rintro ⟨s1, s2, s3⟩ ⟨q1, q2, q3, q4, q5, q6, q7⟩
    dsimp only at q1 q2 q3 q4 q5 q6 q7
    subst q1
    subst q2
    refine ⟨(nI (cntN (FB S K k sm) (fct (insL K k).length)), s3), ?_, rfl, q3, q4, q5, q6, q7⟩
    show b_X11_laysSat_13 (nI t) _ (nI (fct (insL K k).length)) s3 = _
    unfold b_X11_laysSat_13
    rw [q4.2.1, if_pos (Int32.le_refl _)]
end MST
