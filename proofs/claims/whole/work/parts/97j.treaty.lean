/-! ===== the largest treaty ===== -/
def comK (K : Nat → Int32) (p q : Nat) : Int32 := 0 + mnI (K (3 * p)) (K (3 * q)) + mnI (K (3 * p + 1)) (K (3 * q + 1)) + mnI (K (3 * p + 2)) (K (3 * q + 2))
theorem c_common {h : Hp} {r p q : Nat} {K : Nat → Int32} (hR : RRh h r K) (hp : p < 6) (hq : q < 6) : f_X6_inCommon r (nI p) (nI q) h = some (comK K p q) := by
  have step : ∀ a n, n < 3 → b_X6_inCommon_5 r (nI p) (nI q) a (nI n) h = some (.inl (a + mnI (K (3 * p + n)) (K (3 * q + n)), nI (n + 1))) := by
    intro a n hn
    unfold b_X6_inCommon_5
    rw [l3_, if_neg (show ¬ nI 3 ≤ nI n by rw [nI_le6 (by omega) (by omega)]; omega), pk_mul, nI_add, Nat.mul_comm p 3, inb_nI (show 3 * p + n < 18 by omega) (by omega), Option.bind_some, pk_mul, nI_add, Nat.mul_comm q 3, inb_nI (show 3 * q + n < 18 by omega) (by omega), Option.bind_some, j_min, Option.bind_some, hR.2.1 _ (by omega), hR.2.1 _ (by omega), nI_1]
  unfold f_X6_inCommon
  have key := lp_run (b := fun s : Int32 × Int32 => b_X6_inCommon_5 r (nI p) (nI q) s.1 s.2 h) (fun i => if i = 0 then ((0 : Int32), nI 0) else if i = 1 then (0 + mnI (K (3 * p)) (K (3 * q)), nI 1) else if i = 2 then (0 + mnI (K (3 * p)) (K (3 * q)) + mnI (K (3 * p + 1)) (K (3 * q + 1)), nI 2) else (comK K p q, nI 3)) 3 (comK K p q) (by omega) ?_ ?_
  · rw [show (((0 : Int32), (0 : Int32))) = ((0 : Int32), nI 0) from rfl]
    have key' : lp (fun s : Int32 × Int32 => b_X6_inCommon_5 r (nI p) (nI q) s.1 s.2 h) FU ((0 : Int32), nI 0) = some (comK K p q) := key
    rw [key', Option.bind_some]
  · intro i hi
    rcases tm3 hi with e | e | e <;> subst e
    · exact step 0 0 (by omega)
    · exact step _ 1 (by omega)
    · exact step _ 2 (by omega)
  · show b_X6_inCommon_5 r (nI p) (nI q) (comK K p q) (nI 3) h = _
    unfold b_X6_inCommon_5
    rw [if_pos (by decide)]
theorem m_common {h : Hp} {p q : Nat} (hp : p < 6) (hq : q < 6) : f_X11_common (nI p) (nI q) h = some (comK (aI h 83) p q) := by
  have step : ∀ a n, n < 3 → b_X11_common_5 (nI p) (nI q) a (nI n) h = some (.inl (a + mnI (aI h 83 (3 * p + n)) (aI h 83 (3 * q + n)), nI (n + 1))) := by
    intro a n hn
    unfold b_X11_common_5
    rw [l3_, if_neg (show ¬ nI 3 ≤ nI n by rw [nI_le6 (by omega) (by omega)]; omega), m_partsOf hp hn, Option.bind_some, m_partsOf hq hn, Option.bind_some, m_lesser, Option.bind_some, nI_1]
  unfold f_X11_common
  have key := lp_run (b := fun s : Int32 × Int32 => b_X11_common_5 (nI p) (nI q) s.1 s.2 h) (fun i => if i = 0 then ((0 : Int32), nI 0) else if i = 1 then (0 + mnI (aI h 83 (3 * p)) (aI h 83 (3 * q)), nI 1) else if i = 2 then (0 + mnI (aI h 83 (3 * p)) (aI h 83 (3 * q)) + mnI (aI h 83 (3 * p + 1)) (aI h 83 (3 * q + 1)), nI 2) else (comK (aI h 83) p q, nI 3)) 3 (comK (aI h 83) p q) (by omega) ?_ ?_
  · have key' : lp (fun s : Int32 × Int32 => b_X11_common_5 (nI p) (nI q) s.1 s.2 h) FU ((0 : Int32), (0 : Int32)) = some (comK (aI h 83) p q) := key
    rw [key', Option.bind_some]
  · intro i hi
    rcases tm3 hi with e | e | e <;> subst e
    · exact step 0 0 (by omega)
    · exact step _ 1 (by omega)
    · exact step _ 2 (by omega)
  · show b_X11_common_5 (nI p) (nI q) (comK (aI h 83) p q) (nI 3) h = _
    unfold b_X11_common_5
    rw [if_pos (by decide)]
theorem bool_if {a b : Bool} (h : a = true ↔ b = true) : a = b := by
  cases a
  · cases b
    · rfl
    · exact absurd (h.mpr rfl) Bool.false_ne_true
  · cases b
    · exact absurd (h.mp rfl) Bool.false_ne_true
    · rfl
/-- two of the set, and what they have in common -/
def okT (K : Nat → Int32) (y x : Int32) (p q : Nat) : Prop := bti y p = true → bti y q = true → x ≤ comK K p q
theorem c_tre1 {h : Hp} {K : Nat → Int32} {k p : Nat} {y x : Int32} (hR : RRh h 33 K) (hw : WF K k) (hp : p < k) : ∃ e, lp (fun s => b_X6_isTreaty_15_2 33 y x (nI p) s h) FU (nI p + 1) = some e ∧ ((e = .inl () ∧ ∀ q, p < q → q < k → okT K y x p q) ∨ (e = .inr () ∧ ∃ q, p < q ∧ q < k ∧ ¬ okT K y x p q)) := by
  have h6 := hw.2.1
  refine lp_inv (b := fun s : Int32 => b_X6_isTreaty_15_2 33 y x (nI p) s h) (fun i s => s = nI (p + 1 + i) ∧ ∀ q, p < q → q < p + 1 + i → okT K y x p q) (fun e => (e = .inl () ∧ ∀ q, p < q → q < k → okT K y x p q) ∨ (e = .inr () ∧ ∃ q, p < q ∧ q < k ∧ ¬ okT K y x p q)) (k - (p + 1)) (nI p + 1) (by omega) ⟨nI_1 p, fun q h1 h2 => by omega⟩ ?_ ?_
  · rintro i s hi ⟨q1, q2⟩
    subst q1
    have hq : p + 1 + i < k := by omega
    have nx : ∀ (c : okT K y x p (p + 1 + i)) q, p < q → q < p + 1 + (i + 1) → okT K y x p q := by
      intro c q h1 h2
      by_cases e : q = p + 1 + i
      · rw [e]; exact c
      · exact q2 q h1 (by omega)
    have j0 : j_X6_isTreaty_47_15 33 y x (nI p) (nI (p + 1 + i)) h = some (.inl (nI (p + 1 + (i + 1)))) := by
      unfold j_X6_isTreaty_47_15 j_X6_isTreaty_48_15
      rw [if_pos rfl, nI_1]
      rfl
    show (∃ s', b_X6_isTreaty_15_2 33 y x (nI p) (nI (p + 1 + i)) h = _ ∧ _) ∨ (∃ e, b_X6_isTreaty_15_2 33 y x (nI p) (nI (p + 1 + i)) h = _ ∧ _)
    unfold b_X6_isTreaty_15_2
    rw [k_sn hR hw, if_neg (show ¬ nI k ≤ nI (p + 1 + i) by rw [nI_le6 (by omega) (by omega)]; omega)]
    by_cases c1 : bti y p = true
    · rw [if_pos ((bit_q y (show p < 31 by omega)).mpr c1)]
      by_cases c2 : bti y (p + 1 + i) = true
      · rw [if_pos ((bit_q y (show p + 1 + i < 31 by omega)).mpr c2)]
        unfold j_X6_isTreaty_48_15
        rw [if_neg (by decide), c_common hR (by omega) (by omega), Option.bind_some]
        by_cases c3 : x ≤ comK K p (p + 1 + i)
        · rw [if_pos c3, nI_1]
          exact Or.inl ⟨nI (p + 1 + (i + 1)), rfl, rfl, nx (fun _ _ => c3)⟩
        · rw [if_neg c3]
          exact Or.inr ⟨.inr (), rfl, Or.inr ⟨rfl, p + 1 + i, by omega, hq, fun d => c3 (d c1 c2)⟩⟩
      · rw [if_neg (fun d => c2 ((bit_q y (show p + 1 + i < 31 by omega)).mp d)), j0]
        exact Or.inl ⟨nI (p + 1 + (i + 1)), rfl, rfl, nx (fun _ d => absurd d c2)⟩
    · rw [if_neg (fun d => c1 ((bit_q y (show p < 31 by omega)).mp d)), j0]
      exact Or.inl ⟨nI (p + 1 + (i + 1)), rfl, rfl, nx (fun d => absurd d c1)⟩
  · rintro s ⟨q1, q2⟩
    subst q1
    refine ⟨.inl (), ?_, Or.inl ⟨rfl, fun q h1 h2 => q2 q h1 (by omega)⟩⟩
    show b_X6_isTreaty_15_2 33 y x (nI p) (nI (p + 1 + (k - (p + 1)))) h = _
    unfold b_X6_isTreaty_15_2
    rw [k_sn hR hw, if_pos (by rw [nI_le6 (by omega) (by omega)]; omega)]
theorem c_tre {h : Hp} {K : Nat → Int32} {k : Nat} {y x : Int32} (hR : RRh h 33 K) (hw : WF K k) : ∃ b, f_X6_isTreaty 33 y x h = some b ∧ (b = true ↔ ∀ p q, p < q → q < k → okT K y x p q) := by
  have h6 := hw.2.1
  have key := lp_inv (b := fun s : Int32 => b_X6_isTreaty_2 33 y x s h) (fun i s => s = nI i ∧ ∀ p q, p < i → p < q → q < k → okT K y x p q) (fun e => (e = .inl () ∧ ∀ p q, p < q → q < k → okT K y x p q) ∨ (e = .inr () ∧ ∃ p q, p < q ∧ q < k ∧ ¬ okT K y x p q)) k (0 : Int32) (by omega) ⟨rfl, fun p q h1 => by omega⟩ ?_ ?_
  · obtain ⟨e, k1, k2⟩ := key
    unfold f_X6_isTreaty
    rw [k1, Option.bind_some]
    rcases k2 with ⟨k2, k3⟩ | ⟨k2, p, q, k3, k4, k5⟩ <;> subst k2
    · exact ⟨true, rfl, fun _ => k3, fun _ => rfl⟩
    · exact ⟨false, rfl, fun c => absurd c Bool.false_ne_true, fun c => absurd (c p q k3 k4) k5⟩
  · rintro i s hi ⟨q1, q2⟩
    subst q1
    obtain ⟨e, e1, e2⟩ := c_tre1 (y := y) (x := x) hR hw hi
    show (∃ s', b_X6_isTreaty_2 33 y x (nI i) h = _ ∧ _) ∨ (∃ e, b_X6_isTreaty_2 33 y x (nI i) h = _ ∧ _)
    unfold b_X6_isTreaty_2
    rw [k_sn hR hw, if_neg (show ¬ nI k ≤ nI i by rw [nI_le6 (by omega) (by omega)]; omega), e1, Option.bind_some]
    rcases e2 with ⟨e2, e3⟩ | ⟨e2, q, e3, e4, e5⟩ <;> subst e2
    · refine Or.inl ⟨nI (i + 1), by rw [sc_l, nI_1], rfl, fun p q h1 h2 h3 => ?_⟩
      by_cases c : p = i
      · subst c; exact e3 q h2 h3
      · exact q2 p q (by omega) h2 h3
    · exact Or.inr ⟨.inr (), by rw [sc_r], Or.inr ⟨rfl, i, q, e3, e4, e5⟩⟩
  · rintro s ⟨q1, q2⟩
    subst q1
    refine ⟨.inl (), ?_, Or.inl ⟨rfl, fun p q h1 h2 => q2 p q (by omega) h1 h2⟩⟩
    show b_X6_isTreaty_2 33 y x (nI k) h = _
    unfold b_X6_isTreaty_2
    rw [k_sn hR hw, if_pos (Int32.le_refl _)]
theorem m_isIn {y : Int32} {p : Nat} (hp : p < 31) : f_X11_isIn y (nI p) = some (bti y p) := by
  unfold f_X11_isIn
  by_cases c : bti y p = true
  · rw [if_pos ((bit_q y hp).mpr c), c]
  · rw [if_neg (fun d => c ((bit_q y hp).mp d))]
    cases e : bti y p
    · rfl
    · exact absurd e c
theorem m_tre1 {h : Hp} {k p : Nat} {y x : Int32} {b : Bool} {A : Prop} (hw : WF (aI h 83) k) (hp : p < k) (hb : b = true ↔ A) : ∃ e, lp (fun s => b_X11_isTreaty_20_5 y x (nI p) s.1 s.2 h) FU (b2i b, nI p + 1) = some e ∧ ∃ b', e = b2i b' ∧ (b' = true ↔ A ∧ ∀ q, p < q → q < k → okT (aI h 83) y x p q) := by
  have h6 := hw.2.1
  refine lp_inv (b := fun s : Int32 × Int32 => b_X11_isTreaty_20_5 y x (nI p) s.1 s.2 h) (fun i s => s.2 = nI (p + 1 + i) ∧ ∃ b', s.1 = b2i b' ∧ (b' = true ↔ A ∧ ∀ q, p < q → q < p + 1 + i → okT (aI h 83) y x p q)) (fun e => ∃ b', e = b2i b' ∧ (b' = true ↔ A ∧ ∀ q, p < q → q < k → okT (aI h 83) y x p q)) (k - (p + 1)) (b2i b, nI p + 1) (by omega) ⟨nI_1 p, b, rfl, hb.trans ⟨fun a => ⟨a, fun q h1 h2 => by omega⟩, fun a => a.1⟩⟩ ?_ ?_
  · rintro i ⟨s1, s2⟩ hi ⟨q1, b', q2, q3⟩
    dsimp only at q1 q2
    subst q1
    subst q2
    have hq : p + 1 + i < k := by omega
    have j0 : j_X11_isTreaty_67_20 y x (nI p) (nI (p + 1 + i)) h = some (.inl (b2i false, nI (p + 1 + (i + 1)))) := by
      unfold j_X11_isTreaty_67_20 j_X11_isTreaty_68_20
      rw [nI_1]
      rfl
    have j1 : j_X11_isTreaty_68_20 y x (nI p) (nI (p + 1 + i)) 1 h = some (.inl (b2i true, nI (p + 1 + (i + 1)))) := by
      unfold j_X11_isTreaty_68_20
      rw [nI_1]
      rfl
    refine Or.inl ?_
    show ∃ s', b_X11_isTreaty_20_5 y x (nI p) (b2i b') (nI (p + 1 + i)) h = _ ∧ _
    unfold b_X11_isTreaty_20_5
    rw [m_many hw, Option.bind_some, if_neg (show ¬ nI k ≤ nI (p + 1 + i) by rw [nI_le6 (by omega) (by omega)]; omega)]
    have bad : ¬ (b' = true ∧ okT (aI h 83) y x p (p + 1 + i)) → (false = true ↔ A ∧ ∀ q, p < q → q < p + 1 + (i + 1) → okT (aI h 83) y x p q) := by
      intro c
      refine ⟨fun d => absurd d Bool.false_ne_true, fun d => absurd ⟨q3.mpr ⟨d.1, fun q h1 h2 => d.2 q h1 (by omega)⟩, d.2 _ (by omega) (by omega)⟩ c⟩
    have fine : b' = true → okT (aI h 83) y x p (p + 1 + i) → (true = true ↔ A ∧ ∀ q, p < q → q < p + 1 + (i + 1) → okT (aI h 83) y x p q) := by
      intro c d
      refine ⟨fun _ => ⟨(q3.mp c).1, fun q h1 h2 => ?_⟩, fun _ => rfl⟩
      by_cases e : q = p + 1 + i
      · rw [e]; exact d
      · exact (q3.mp c).2 q h1 (by omega)
    cases b' with
    | false =>
      rw [if_pos (show b2i false = 0 from rfl), j0]
      exact ⟨_, rfl, rfl, false, rfl, bad (fun d => Bool.false_ne_true d.1)⟩
    | true =>
      rw [if_neg (show ¬ b2i true = 0 by decide), m_isIn (by omega), Option.bind_some]
      by_cases c1 : bti y p = true
      · rw [if_pos c1, m_isIn (by omega), Option.bind_some]
        by_cases c2 : bti y (p + 1 + i) = true
        · rw [if_pos c2, m_common (by omega) (by omega), Option.bind_some]
          by_cases c3 : comK (aI h 83) p (p + 1 + i) < x
          · rw [if_pos c3, j0]
            exact ⟨_, rfl, rfl, false, rfl, bad (fun d => i32_nle.mpr c3 (d.2 c1 c2))⟩
          · rw [if_neg c3, j1]
            exact ⟨_, rfl, rfl, true, rfl, fine rfl (fun _ _ => Int32.not_lt.mp c3)⟩
        · rw [if_neg c2, j1]
          exact ⟨_, rfl, rfl, true, rfl, fine rfl (fun _ d => absurd d c2)⟩
      · rw [if_neg c1, j1]
        exact ⟨_, rfl, rfl, true, rfl, fine rfl (fun d => absurd d c1)⟩
  · rintro ⟨s1, s2⟩ ⟨q1, b', q2, q3⟩
    dsimp only at q1 q2
    subst q1
    subst q2
    refine ⟨b2i b', ?_, b', rfl, q3.trans ⟨fun a => ⟨a.1, fun q h1 h2 => a.2 q h1 (by omega)⟩, fun a => ⟨a.1, fun q h1 h2 => a.2 q h1 (by omega)⟩⟩⟩
    show b_X11_isTreaty_20_5 y x (nI p) (b2i b') (nI (p + 1 + (k - (p + 1)))) h = _
    unfold b_X11_isTreaty_20_5
    rw [m_many hw, Option.bind_some, if_pos (by rw [nI_le6 (by omega) (by omega)]; omega)]
theorem m_tre {h : Hp} {k : Nat} {y x : Int32} (hw : WF (aI h 83) k) : ∃ b, f_X11_isTreaty y x h = some b ∧ (b = true ↔ ∀ p q, p < q → q < k → okT (aI h 83) y x p q) := by
  have h6 := hw.2.1
  have key := lp_inv (b := fun s : Int32 × Int32 => b_X11_isTreaty_5 y x s.1 s.2 h) (fun i s => s.2 = nI i ∧ ∃ b', s.1 = b2i b' ∧ (b' = true ↔ ∀ p q, p < i → p < q → q < k → okT (aI h 83) y x p q)) (fun e => ∃ b', e = b2i b' ∧ (b' = true ↔ ∀ p q, p < q → q < k → okT (aI h 83) y x p q)) k ((1 : Int32), (0 : Int32)) (by omega) ⟨rfl, true, rfl, fun _ p q h1 => by omega, fun _ => rfl⟩ ?_ ?_
  · obtain ⟨e, k1, b', k2, k3⟩ := key
    unfold f_X11_isTreaty
    rw [k1, Option.bind_some, k2, i2b_b, Option.bind_some]
    exact ⟨b', rfl, k3⟩
  · rintro i ⟨s1, s2⟩ hi ⟨q1, b', q2, q3⟩
    dsimp only at q1 q2
    subst q1
    subst q2
    obtain ⟨e, e1, b2, e2, e3⟩ := m_tre1 (y := y) (x := x) hw hi q3
    refine Or.inl ⟨(e, nI (i + 1)), ?_, rfl, b2, e2, e3.trans ⟨fun a p q h1 h2 h3 => ?_, fun a => ⟨fun p q h1 h2 h3 => a p q (by omega) h2 h3, fun q h1 h2 => a i q (by omega) h1 h2⟩⟩⟩
    · show b_X11_isTreaty_5 y x (b2i b') (nI i) h = _
      unfold b_X11_isTreaty_5
      rw [m_many hw, Option.bind_some, if_neg (show ¬ nI k ≤ nI i by rw [nI_le6 (by omega) (by omega)]; omega), e1, Option.bind_some, nI_1]
    · by_cases c : p = i
      · subst c; exact a.2 q h2 h3
      · exact a.1 p q (by omega) h2 h3
  · rintro ⟨s1, s2⟩ ⟨q1, b', q2, q3⟩
    dsimp only at q1 q2
    subst q1
    refine ⟨s1, ?_, b', q2, q3.trans ⟨fun a p q h1 h2 => a p q (by omega) h1 h2, fun a p q h1 h2 h3 => a p q h2 h3⟩⟩
    show b_X11_isTreaty_5 y x s1 (nI k) h = _
    unfold b_X11_isTreaty_5
    rw [m_many hw, Option.bind_some, if_pos (Int32.le_refl _)]
def pcN (n : Nat) : Int32 := (f_J6_bitCount_0f7a4 (nI n)).getD 0
theorem c_pc (n : Nat) : f_J6_bitCount_0f7a4 (nI n) = some (pcN n) := rfl
theorem m_pc : ∀ n, n < 64 → f_X11_ones (nI n) = some (pcN n) := by decide +kernel
theorem sh_1 : ∀ k, k ≤ 6 → (1 : Int32) <<< (nI k &&& 31) = nI (2 ^ k) := by decide
/-- the best of the first i sets -/
def bstT (T : Nat → Bool) : Nat → Nat
  | 0 => 0
  | i + 1 => if pcN i ≤ pcN (bstT T i) then bstT T i else if T i = true then i else bstT T i
theorem bstT_le (T : Nat → Bool) : ∀ i, bstT T i ≤ i
  | 0 => Nat.le_refl _
  | i + 1 => by
    have := bstT_le T i
    unfold bstT
    split
    · omega
    · split <;> omega
theorem p2_6 : ∀ k, k ≤ 6 → 2 ^ k ≤ 64 ∧ 1 ≤ 2 ^ k := by decide
theorem c_treL {h : Hp} {K : Nat → Int32} {k : Nat} {x z : Int32} {T : Nat → Bool} (hR : RRh h 33 K) (hw : WF K k) (hT : ∀ n, n < 64 → f_X6_isTreaty 33 (nI n) x h = some (T n)) : lp (fun s => b_X10_treaty_27 x z s.1 s.2 h) FU ((0 : Int32), (0 : Int32)) = some (nI (bstT T (2 ^ k))) := by
  have h6 := hw.2.1
  obtain ⟨p1, p2⟩ := p2_6 k h6
  have key := lp_inv (b := fun s : Int32 × Int32 => b_X10_treaty_27 x z s.1 s.2 h) (fun i s => s.1 = nI (bstT T i) ∧ s.2 = nI i) (fun e => e = nI (bstT T (2 ^ k))) (2 ^ k) ((0 : Int32), (0 : Int32)) (by omega) ⟨rfl, rfl⟩ ?_ ?_
  · obtain ⟨e, k1, k2⟩ := key
    rw [k1, k2]
  · rintro i ⟨s1, s2⟩ hi ⟨q1, q2⟩
    dsimp only at q1 q2
    subst q1
    subst q2
    refine Or.inl ⟨(nI (bstT T (i + 1)), nI (i + 1)), ?_, rfl, rfl⟩
    show b_X10_treaty_27 x z (nI (bstT T i)) (nI i) h = _
    unfold b_X10_treaty_27
    rw [k_sn hR hw, sh_1 k h6, if_neg (show ¬ nI (2 ^ k) ≤ nI i by rw [nI_le6 (by omega) (by omega)]; omega), c_pc, Option.bind_some, c_pc, Option.bind_some, hT i (by omega), Option.bind_some, nI_1]
    show _ = some (Sum.inl (nI (if pcN i ≤ pcN (bstT T i) then bstT T i else if T i = true then i else bstT T i), nI (i + 1)))
    split
    · rfl
    · split <;> rfl
  · rintro ⟨s1, s2⟩ ⟨q1, q2⟩
    dsimp only at q1 q2
    subst q1
    subst q2
    refine ⟨_, ?_, rfl⟩
    show b_X10_treaty_27 x z (nI (bstT T (2 ^ k))) (nI (2 ^ k)) h = _
    unfold b_X10_treaty_27
    rw [k_sn hR hw, sh_1 k h6, if_pos (Int32.le_refl _)]
theorem m_treL {h : Hp} {k : Nat} {x z : Int32} {T : Nat → Bool} (hw : WF (aI h 83) k) (hT : ∀ n, n < 64 → f_X11_isTreaty (nI n) x h = some (T n)) : lp (fun s => b_X11_treaty_26 x z s.1 s.2 h) FU ((0 : Int32), (1 : Int32)) = some (nI (bstT T (2 ^ k))) := by
  have h6 := hw.2.1
  obtain ⟨p1, p2⟩ := p2_6 k h6
  have b1 : bstT T 1 = 0 := by
    show (if pcN 0 ≤ pcN 0 then 0 else _) = 0
    rw [if_pos (Int32.le_refl _)]
  have key := lp_inv (b := fun s : Int32 × Int32 => b_X11_treaty_26 x z s.1 s.2 h) (fun i s => s.1 = nI (bstT T (i + 1)) ∧ s.2 = nI (i + 1)) (fun e => e = nI (bstT T (2 ^ k))) (2 ^ k - 1) ((0 : Int32), (1 : Int32)) (by omega) ⟨by rw [Nat.zero_add, b1]; rfl, rfl⟩ ?_ ?_
  · obtain ⟨e, k1, k2⟩ := key
    rw [k1, k2]
  · rintro i ⟨s1, s2⟩ hi ⟨q1, q2⟩
    dsimp only at q1 q2
    subst q1
    subst q2
    have hb := bstT_le T (i + 1)
    refine Or.inl ⟨(nI (bstT T (i + 1 + 1)), nI (i + 1 + 1)), ?_, rfl, rfl⟩
    show b_X11_treaty_26 x z (nI (bstT T (i + 1))) (nI (i + 1)) h = _
    unfold b_X11_treaty_26
    rw [m_many hw, Option.bind_some, sh_1 k h6, if_neg (show ¬ nI (2 ^ k) ≤ nI (i + 1) by rw [nI_le6 (by omega) (by omega)]; omega), m_pc _ (by omega), Option.bind_some, m_pc _ (by omega), Option.bind_some, hT (i + 1) (by omega), Option.bind_some, nI_1]
    show _ = some (Sum.inl (nI (if pcN (i + 1) ≤ pcN (bstT T (i + 1)) then bstT T (i + 1) else if T (i + 1) = true then i + 1 else bstT T (i + 1)), nI (i + 1 + 1)))
    split
    · rfl
    · split <;> rfl
  · rintro ⟨s1, s2⟩ ⟨q1, q2⟩
    dsimp only at q1 q2
    subst q1
    subst q2
    have e : 2 ^ k - 1 + 1 = 2 ^ k := by omega
    rw [e]
    refine ⟨_, ?_, rfl⟩
    show b_X11_treaty_26 x z (nI (bstT T (2 ^ k))) (nI (2 ^ k)) h = _
    unfold b_X11_treaty_26
    rw [m_many hw, Option.bind_some, sh_1 k h6, if_pos (Int32.le_refl _)]
theorem op_28 : Op_28 INV := by
  intro n h hI _ x1 x2
  have hI0 := hI
  obtain ⟨k, sm, lc, L, i1, i2, i3, i4, i5, i6, i7, i8, i9⟩ := hI
  have hw := i1.1
  have h6 := hw.2.1
  have hR := i2.1
  have ff : ¬ (false = true) := Bool.false_ne_true
  have l99 : ((99 : Int32)) = nI 99 := rfl
  rcases ix1 x1 99 (by omega) with ⟨x, hxa, hxb, e⟩ | hx1
  · subst e
    rcases ix (x := x2) 2 (by omega) with ⟨z, hz, e⟩ | hx2
    · subst e
      have cT : ∀ m, f_X6_isTreaty 33 (nI m) (nI x) h = some ((f_X6_isTreaty 33 (nI m) (nI x) h).getD false) := by
        intro m
        obtain ⟨b, b1, -⟩ := c_tre (y := nI m) (x := nI x) hR hw
        rw [b1]
        rfl
      have mT : ∀ m, f_X11_isTreaty (nI m) (nI x) h = some ((f_X6_isTreaty 33 (nI m) (nI x) h).getD false) := by
        intro m
        obtain ⟨b, b1, b2⟩ := c_tre (y := nI m) (x := nI x) hR hw
        obtain ⟨c, c1, c2⟩ := m_tre (y := nI m) (x := nI x) hw
        rw [b1, c1]
        show some c = some b
        rw [bool_if (c2.trans b2.symm)]
      have cl := c_treL (z := nI z) hR hw (fun m _ => cT m)
      have ml := m_treL (z := nI z) hw (fun m _ => mT m)
      generalize (fun m => (f_X6_isTreaty 33 (nI m) (nI x) h).getD false) = T at cl ml
      have hb := bstT_le T (2 ^ k)
      obtain ⟨p1, p2⟩ := p2_6 k h6
      have hb2 : bstT T (2 ^ k) < 64 := by
        rcases Nat.lt_or_ge (bstT T (2 ^ k)) 64 with c | c
        · exact c
        · obtain ⟨j, hj⟩ : ∃ j, 2 ^ k = j + 1 := ⟨2 ^ k - 1, by omega⟩
          rw [hj] at c hb
          have hj2 := bstT_le T j
          unfold bstT at c
          split at c
          · omega
          · split at c <;> omega
      refine ⟨if z = 0 then pcN (bstT T (2 ^ k)) else nI (bstT T (2 ^ k)), ?_, ?_, INV_up hI0⟩
      · unfold f_X10_treaty
        rw [if_neg (show ¬ nI x < (1 : Int32) from nI_nlt (b := 1) (by omega) (by omega)), if_neg (show ¬ (99 : Int32) < nI x from nI_nlt (a := 99) (by omega) (by omega)), if_neg (nI_pos (by omega)), if_pos (show nI z ≤ (1 : Int32) from nI_le (b := 1) (by omega) (by omega)), cl, Option.bind_some]
        by_cases c : z = 0
        · rw [if_pos c, if_pos (show nI z = 0 by rw [c]; rfl), c_pc, Option.bind_some]
        · rw [if_neg c, if_neg (nI_ne0 (by omega) (by omega))]
      · unfold f_X11_treaty
        rw [l99, lies_1n (by omega) hxa hxb, Option.bind_some, if_pos rfl, show f_X11_lies (nI z) (0 : Int32) (1 : Int32) = some true from lies_n (n := 1) (by omega) (by omega), Option.bind_some, if_pos rfl, ml, Option.bind_some]
        by_cases c : z = 0
        · rw [if_pos c, if_pos (show nI z = 0 by rw [c]; rfl), m_pc _ hb2, Option.bind_some]
        · rw [if_neg c, if_neg (nI_ne0 (by omega) (by omega))]
    · refine ⟨-1, ?_, ?_, INV_up hI0⟩
      · unfold f_X10_treaty
        rw [if_neg (show ¬ nI x < (1 : Int32) from nI_nlt (b := 1) (by omega) (by omega)), if_neg (show ¬ (99 : Int32) < nI x from nI_nlt (a := 99) (by omega) (by omega))]
        by_cases c : x2 < 0
        · rw [if_pos c]
        · have := hx2.resolve_left c
          rw [if_neg c, if_neg]
          rw [Int32.le_iff_toInt_le, nI_toInt (by omega)] at this
          rw [Int32.le_iff_toInt_le]
          have e2 : Int32.toInt 1 = 1 := by decide
          omega
      · unfold f_X11_treaty
        rw [l99, lies_1n (by omega) hxa hxb, Option.bind_some, if_pos rfl, show f_X11_lies x2 (0 : Int32) (1 : Int32) = some false from lies_0 (n := 1) (by omega) hx2, Option.bind_some, if_neg ff]
  · refine ⟨-1, ?_, ?_, INV_up hI0⟩
    · unfold f_X10_treaty
      by_cases c : x1 < 1
      · rw [if_pos c]
      · rw [if_neg c, if_pos (show (99 : Int32) < x1 from hx1.resolve_left c)]
    · unfold f_X11_treaty
      rw [l99, lies_10 hx1, Option.bind_some, if_neg ff]
