/-! ===== how likely so few faint ===== -/
theorem aL_q {h : Hp} {a k j : Nat} {x : Int64} : aL (sL h a k x) a j = if j = k then x else aL h a j := by
  show (if a = a then (if j = k then x else aL h a j) else aL h a j) = _
  rw [if_pos rfl]
theorem fillL_ok {a n : Nat} {x : Int64} {h : Hp} (hn : n < 20000) : ∃ h', f_J7_fill_d0a16 a n x h = some ((), h') ∧ (∀ i, i < n → aL h' a i = x) ∧ Fr (fun b => b = a) noF h h' := by
  unfold f_J7_fill_d0a16
  have key := lp_inv (b := fun s : Int32 × Hp => b_J7_fill_d0a16_6 a n x (Int32.ofNat n) s.1 s.2) (fun i s => s.1 = nI i ∧ (∀ j, j < i → aL s.2 a j = x) ∧ Fr (fun b => b = a) noF h s.2) (fun e => (∀ j, j < n → aL e a j = x) ∧ Fr (fun b => b = a) noF h e) n ((0 : Int32), h) hn ⟨rfl, fun j hj => absurd hj (Nat.not_lt_zero _), Fr_rfl⟩ ?_ ?_
  · obtain ⟨e, h1, h2, h3⟩ := key
    rw [h1]
    exact ⟨e, rfl, h2, h3⟩
  · rintro i ⟨s1, s2⟩ hi ⟨q1, q2, q3⟩
    dsimp only at q1 q2 q3
    subst q1
    left
    refine ⟨(nI (i + 1), sL s2 a i x), ?_, rfl, fun j hj => ?_, Fr_tr q3 (Fr_sL rfl)⟩
    · show b_J7_fill_d0a16_6 a n x (nI n) (nI i) s2 = _
      unfold b_J7_fill_d0a16_6
      rw [if_neg (nI_ge hi (by omega)), inb_nI hi (by omega), nI_1]
      rfl
    · show aL (sL s2 a i x) a j = x
      rw [aL_q]
      by_cases e : j = i
      · rw [if_pos e]
      · rw [if_neg e]; exact q2 j (by omega)
  · rintro ⟨s1, s2⟩ ⟨q1, q2, q3⟩
    dsimp only at q1 q2 q3
    subst q1
    refine ⟨s2, ?_, q2, q3⟩
    show b_J7_fill_d0a16_6 a n x (nI n) (nI n) s2 = _
    unfold b_J7_fill_d0a16_6
    rw [if_pos (Int32.le_refl _)]
/-- one more sitter: f of 10 faint -/
def stL (f : Int32) (c : Nat → Int64) : Nat → Int64 := fun j => if j = 0 then c 0 * ((10 : Int32) - f).toInt64 / (10 : Int64) else c j * ((10 : Int32) - f).toInt64 / (10 : Int64) + c (j - 1) * f.toInt64 / (10 : Int64)
def stN (f : Int32) : Nat → Nat → Int64
  | 0 => fun j => if j = 0 then (1000000000000 : Int64) else 0
  | i + 1 => stL f (stN f i)
theorem c_few1 {h : Hp} {f x2 x4 : Int32} {c : Nat → Int64} {k : Nat} (hk : k ≤ 20) (hk0 : 1 ≤ k) (hc : ∀ j, j < k → aL h 24 j = c j) : ∃ h', lp (fun s => b_X10_few_69_58 (nI k) x2 f x4 s.1 s.2) FU (nI k - 1, h) = some h' ∧ (∀ j, 0 < j → j < k → aL h' 24 j = stL f c j) ∧ aL h' 24 0 = c 0 ∧ Fr (fun a => a = 24) noF h h' := by
  have e0 : nI k - 1 = nI (k - 1) := by
    obtain ⟨k', rfl⟩ : ∃ k', k = k' + 1 := ⟨k - 1, by omega⟩
    exact nI_pred k'
  rw [e0]
  have key := lp_inv (b := fun s : Int32 × Hp => b_X10_few_69_58 (nI k) x2 f x4 s.1 s.2) (fun i s => s.1 = nI (k - 1 - i) ∧ (∀ j, j < k → aL s.2 24 j = if k - 1 - i < j then stL f c j else c j) ∧ Fr (fun a => a = 24) noF h s.2) (fun e => (∀ j, 0 < j → j < k → aL e 24 j = stL f c j) ∧ aL e 24 0 = c 0 ∧ Fr (fun a => a = 24) noF h e) (k - 1) (nI (k - 1), h) (by omega) ⟨rfl, fun j hj => by rw [if_neg (by omega)]; exact hc j hj, Fr_rfl⟩ ?_ ?_
  · exact key
  · rintro i ⟨s1, s2⟩ hi ⟨q1, q2, q3⟩
    dsimp only at q1 q2 q3
    subst q1
    obtain ⟨t, ht⟩ : ∃ t, k - 1 - i = t + 1 := ⟨k - 1 - i - 1, by omega⟩
    have ht2 : k - 1 - (i + 1) = t := by omega
    rw [ht] at q2 ⊢
    refine Or.inl ⟨(nI t, sL s2 24 (t + 1) (aL s2 24 (t + 1) * ((10 : Int32) - f).toInt64 / (10 : Int64) + aL s2 24 t * f.toInt64 / (10 : Int64))), ?_, by rw [ht2], fun j hj => ?_, Fr_tr q3 (Fr_sL rfl)⟩
    · show b_X10_few_69_58 (nI k) x2 f x4 (nI (t + 1)) s2 = _
      unfold b_X10_few_69_58
      rw [if_neg (nI_nle (by omega) (by omega)), inb_nI (show t + 1 < 20 by omega) (by omega), Option.bind_some, nI_pred, inb_nI (show t < 20 by omega) (by omega), Option.bind_some, Option.bind_some, pk_m1]
    · show aL (sL s2 24 (t + 1) _) 24 j = _
      rw [aL_q, ht2]
      by_cases e : j = t + 1
      · rw [if_pos e, if_pos (by omega), q2 (t + 1) (by omega), q2 t (by omega), if_neg (by omega), if_neg (by omega), e]
        unfold stL
        rw [if_neg (by omega)]
        rfl
      · rw [if_neg e, q2 j hj]
        by_cases c2 : t + 1 < j
        · rw [if_pos c2, if_pos (by omega)]
        · rw [if_neg c2, if_neg (by omega)]
  · rintro ⟨s1, s2⟩ ⟨q1, q2, q3⟩
    dsimp only at q1 q2 q3
    subst q1
    refine ⟨s2, ?_, fun j h1 h2 => by rw [q2 j h2, if_pos (by omega)], by rw [q2 0 (by omega), if_neg (by omega)], q3⟩
    show b_X10_few_69_58 (nI k) x2 f x4 (nI (k - 1 - (k - 1))) s2 = _
    unfold b_X10_few_69_58
    rw [Nat.sub_self, if_pos (show nI 0 ≤ 0 by decide)]
theorem c_few2 {h : Hp} {f : Int32} {k n : Nat} (hk : k ≤ 20) (hk0 : 1 ≤ k) (hn : n ≤ 99) (hc : ∀ j, j < k → aL h 24 j = stN f 0 j) : ∃ h', lp (fun s => b_X10_few_58 (nI k) (nI n) f s.1 s.2) FU ((0 : Int32), h) = some h' ∧ (∀ j, j < k → aL h' 24 j = stN f n j) ∧ Fr (fun a => a = 24) noF h h' := by
  refine lp_inv (b := fun s : Int32 × Hp => b_X10_few_58 (nI k) (nI n) f s.1 s.2) (fun i s => s.1 = nI i ∧ (∀ j, j < k → aL s.2 24 j = stN f i j) ∧ Fr (fun a => a = 24) noF h s.2) (fun e => (∀ j, j < k → aL e 24 j = stN f n j) ∧ Fr (fun a => a = 24) noF h e) n ((0 : Int32), h) (by omega) ⟨rfl, hc, Fr_rfl⟩ ?_ ?_
  · rintro i ⟨s1, s2⟩ hi ⟨q1, q2, q3⟩
    dsimp only at q1 q2 q3
    subst q1
    obtain ⟨g, g1, g2, g3, g4⟩ := c_few1 (f := f) (x2 := nI n) (x4 := nI i) hk hk0 q2
    refine Or.inl ⟨(nI (i + 1), sL g 24 0 (aL g 24 0 * ((10 : Int32) - f).toInt64 / (10 : Int64))), ?_, rfl, fun j hj => ?_, Fr_tr (Fr_tr q3 g4) (Fr_sL rfl)⟩
    · show b_X10_few_58 (nI k) (nI n) f (nI i) s2 = _
      unfold b_X10_few_58
      rw [if_neg (nI_ge hi (by omega)), g1, Option.bind_some, nI_1]
    · show aL (sL g 24 0 _) 24 j = stL f (stN f i) j
      rw [aL_q]
      by_cases e : j = 0
      · rw [if_pos e, g3, e]
        unfold stL
        rw [if_pos rfl]
      · rw [if_neg e]; exact g2 j (by omega) hj
  · rintro ⟨s1, s2⟩ ⟨q1, q2, q3⟩
    dsimp only at q1 q2 q3
    subst q1
    refine ⟨s2, ?_, q2, q3⟩
    show b_X10_few_58 (nI k) (nI n) f (nI n) s2 = _
    unfold b_X10_few_58
    rw [if_pos (Int32.le_refl _)]
theorem m1_e (x : Int32) : x + (-1) = x - 1 := by rw [Int32.sub_eq_add_neg]
theorem m_few1 {h : Hp} {f x2 x3 : Int32} {c : Nat → Int64} {k : Nat} (hk : k ≤ 20) (hf : aI h 83 49 = f) (hc : ∀ j, j < k → aL h 107 j = c j) : ∃ h', lp (fun s => b_X11_few_67_57 (nI k) x2 x3 s.1 s.2) FU (nI k - 1, h) = some h' ∧ (∀ j, j < k → aL h' 107 j = stL f c j) ∧ Fr (fun a => a = 107) noF h h' := by
  have key := lp_inv (b := fun s : Int32 × Hp => b_X11_few_67_57 (nI k) x2 x3 s.1 s.2) (fun i s => s.1 = nI (k - i) - 1 ∧ (∀ j, j < k → aL s.2 107 j = if k - i < j then stL f c j else if j = k - i then c j * ((10 : Int32) - f).toInt64 / (10 : Int64) else c j) ∧ Fr (fun a => a = 107) noF h s.2) (fun e => (∀ j, j < k → aL e 107 j = stL f c j) ∧ Fr (fun a => a = 107) noF h e) k (nI k - 1, h) (by omega) ⟨rfl, fun j hj => by rw [if_neg (by omega), if_neg (by omega)]; exact hc j hj, Fr_rfl⟩ ?_ ?_
  · exact key
  · rintro i ⟨s1, s2⟩ hi ⟨q1, q2, q3⟩
    dsimp only at q1 q2 q3
    subst q1
    obtain ⟨t, ht⟩ : ∃ t, k - i = t + 1 := ⟨k - i - 1, by omega⟩
    have ht2 : k - (i + 1) = t := by omega
    have e49 : aI s2 83 49 = f := by rw [q3.2.1 83 (by omega)]; exact hf
    rw [ht] at q2 ⊢
    rw [nI_pred]
    refine Or.inl ⟨(nI t - 1, sL (sL s2 107 (t + 1) (aL s2 107 (t + 1) + aL s2 107 t * f.toInt64 / (10 : Int64))) 107 t (aL (sL s2 107 (t + 1) (aL s2 107 (t + 1) + aL s2 107 t * f.toInt64 / (10 : Int64))) 107 t * ((10 : Int32) - f).toInt64 / (10 : Int64))), ?_, by rw [ht2], fun j hj => ?_, Fr_tr (Fr_tr q3 (Fr_sL rfl)) (Fr_sL rfl)⟩
    · show b_X11_few_67_57 (nI k) x2 x3 (nI t) s2 = _
      unfold b_X11_few_67_57
      rw [if_neg (nI_pos (by omega)), nI_1, inb_nI (show t + 1 < 21 by omega) (by omega), Option.bind_some, inb_nI (show t < 21 by omega) (by omega), Option.bind_some, Option.bind_some, Option.bind_some, Option.bind_some, m1_e]
      show some (Sum.inl (nI t - 1, sL (sL s2 107 (t + 1) (aL s2 107 (t + 1) + aL s2 107 t * (aI s2 83 49).toInt64 / (10 : Int64))) 107 t (aL (sL s2 107 (t + 1) (aL s2 107 (t + 1) + aL s2 107 t * (aI s2 83 49).toInt64 / (10 : Int64))) 107 t * ((10 : Int32) - aI s2 83 49).toInt64 / (10 : Int64)))) = _
      rw [e49]
    · show aL (sL (sL s2 107 (t + 1) _) 107 t _) 107 j = _
      rw [aL_q, aL_q, if_neg (show ¬ t = t + 1 by omega), aL_q, ht2]
      by_cases e : j = t
      · rw [if_pos e, if_neg (by omega), if_pos e, q2 t (by omega), if_neg (by omega), if_neg (by omega), e]
      · rw [if_neg e]
        by_cases e2 : j = t + 1
        · rw [if_pos e2, if_pos (by omega), q2 (t + 1) (by omega), if_neg (by omega), if_pos rfl, q2 t (by omega), if_neg (by omega), if_neg (by omega), e2]
          unfold stL
          rw [if_neg (by omega)]
          rfl
        · rw [if_neg e2, q2 j hj]
          by_cases c2 : t + 1 < j
          · rw [if_pos c2, if_pos (by omega)]
          · rw [if_neg c2, if_neg e2, if_neg (by omega), if_neg e]
  · rintro ⟨s1, s2⟩ ⟨q1, q2, q3⟩
    dsimp only at q1 q2 q3
    subst q1
    refine ⟨s2, ?_, fun j h1 => ?_, q3⟩
    · show b_X11_few_67_57 (nI k) x2 x3 (nI (k - k) - 1) s2 = _
      unfold b_X11_few_67_57
      rw [Nat.sub_self, if_pos (show nI 0 - 1 < 0 by decide)]
    · rw [q2 j h1, Nat.sub_self]
      by_cases c0 : 0 < j
      · rw [if_pos c0]
      · rw [if_neg c0, if_pos (by omega)]
        unfold stL
        rw [if_pos (show j = 0 by omega), show j = 0 by omega]
theorem m_few0 {h : Hp} {x1 x2 f : Int32} : ∃ h', lp (fun s => b_X11_few_26 x1 x2 s.1 s.2) FU ((0 : Int32), h) = some h' ∧ (∀ j, j < 21 → aL h' 107 j = stN f 0 j) ∧ Fr (fun a => a = 107) noF h h' := by
  refine lp_inv (b := fun s : Int32 × Hp => b_X11_few_26 x1 x2 s.1 s.2) (fun i s => s.1 = nI i ∧ (∀ j, j < i → aL s.2 107 j = stN f 0 j) ∧ Fr (fun a => a = 107) noF h s.2) (fun e => (∀ j, j < 21 → aL e 107 j = stN f 0 j) ∧ Fr (fun a => a = 107) noF h e) 21 ((0 : Int32), h) (by omega) ⟨rfl, fun j hj => absurd hj (Nat.not_lt_zero _), Fr_rfl⟩ ?_ ?_
  · rintro i ⟨s1, s2⟩ hi ⟨q1, q2, q3⟩
    dsimp only at q1 q2 q3
    subst q1
    refine Or.inl ⟨(nI (i + 1), sL s2 107 i (stN f 0 i)), ?_, rfl, fun j hj => ?_, Fr_tr q3 (Fr_sL rfl)⟩
    · show b_X11_few_26 x1 x2 (nI i) s2 = _
      unfold b_X11_few_26 j_X11_few_48_26
      rw [if_neg (show ¬ (20 : Int32) < nI i from nI_nlt (a := 20) (by omega) (by omega)), inb_nI hi (by omega), Option.bind_some, Option.bind_some, nI_1]
      show _ = some (Sum.inl (nI (i + 1), sL s2 107 i (if i = 0 then (1000000000000 : Int64) else 0)))
      by_cases c : i = 0
      · rw [if_pos c, if_pos (show nI i = 0 by rw [c]; rfl)]
      · rw [if_neg c, if_neg (nI_ne0 (by omega) (by omega))]
    · show aL (sL s2 107 i (stN f 0 i)) 107 j = _
      rw [aL_q]
      by_cases e : j = i
      · rw [if_pos e, e]
      · rw [if_neg e]; exact q2 j (by omega)
  · rintro ⟨s1, s2⟩ ⟨q1, q2, q3⟩
    dsimp only at q1 q2 q3
    subst q1
    refine ⟨s2, ?_, q2, q3⟩
    show b_X11_few_26 x1 x2 (nI 21) s2 = _
    unfold b_X11_few_26
    rw [if_pos (by decide)]
theorem m_few2 {h : Hp} {f : Int32} {k n : Nat} (hk : k ≤ 20) (hn : n ≤ 99) (hf : aI h 83 49 = f) (hc : ∀ j, j < k → aL h 107 j = stN f 0 j) : ∃ h', lp (fun s => b_X11_few_57 (nI k) (nI n) s.1 s.2) FU ((0 : Int32), h) = some h' ∧ (∀ j, j < k → aL h' 107 j = stN f n j) ∧ Fr (fun a => a = 107) noF h h' := by
  refine lp_inv (b := fun s : Int32 × Hp => b_X11_few_57 (nI k) (nI n) s.1 s.2) (fun i s => s.1 = nI i ∧ (∀ j, j < k → aL s.2 107 j = stN f i j) ∧ Fr (fun a => a = 107) noF h s.2) (fun e => (∀ j, j < k → aL e 107 j = stN f n j) ∧ Fr (fun a => a = 107) noF h e) n ((0 : Int32), h) (by omega) ⟨rfl, hc, Fr_rfl⟩ ?_ ?_
  · rintro i ⟨s1, s2⟩ hi ⟨q1, q2, q3⟩
    dsimp only at q1 q2 q3
    subst q1
    obtain ⟨g, g1, g2, g3⟩ := m_few1 (f := f) (x2 := nI n) (x3 := nI i) hk (by rw [q3.2.1 83 (by omega)]; exact hf) q2
    refine Or.inl ⟨(nI (i + 1), g), ?_, rfl, g2, Fr_tr q3 g3⟩
    show b_X11_few_57 (nI k) (nI n) (nI i) s2 = _
    unfold b_X11_few_57
    rw [if_neg (nI_ge hi (by omega)), g1, Option.bind_some, nI_1]
  · rintro ⟨s1, s2⟩ ⟨q1, q2, q3⟩
    dsimp only at q1 q2 q3
    subst q1
    refine ⟨s2, ?_, q2, q3⟩
    show b_X11_few_57 (nI k) (nI n) (nI n) s2 = _
    unfold b_X11_few_57
    rw [if_pos (Int32.le_refl _)]
theorem op_30 : Op_30 INV := by
  intro n h hI _ x1 x2
  have hI0 := hI
  obtain ⟨k, sm, lc, L, i1, i2, i3, i4, i5, i6, i7, i8, i9⟩ := hI
  have hw := i1.1
  have hR := i2.1
  have ff : ¬ (false = true) := Bool.false_ne_true
  have l20 : ((20 : Int32)) = nI 20 := rfl
  have l99 : ((99 : Int32)) = nI 99 := rfl
  rcases ix1 x1 20 (by omega) with ⟨x, hxa, hxb, e⟩ | hx1
  · subst e
    rcases ix (x := x2) 100 (by omega) with ⟨z, hz, e⟩ | hx2
    · subst e
      have e37 : aI h 37 1 = aI h 83 49 := hR.2.2.2.2.2.1
      obtain ⟨g1, a1, a2, a3⟩ := fillL_ok (a := 24) (n := 20) (x := 0) (h := h) (by omega)
      obtain ⟨g2, b1, b2, b3⟩ := c_few2 (h := sL g1 24 0 (1000000000000 : Int64)) (f := aI h 83 49) (k := x) (n := z) hxb hxa (by omega) (fun j hj => by
        rw [aL_q]
        show _ = if j = 0 then (1000000000000 : Int64) else 0
        by_cases c : j = 0
        · rw [if_pos c, if_pos c]
        · rw [if_neg c, if_neg c]; exact a2 j (by omega))
      have F1 : Fr (fun a => a = 24) noF h g2 := Fr_tr (Fr_tr a3 (Fr_sL rfl)) b3
      have q83 : aI g2 83 = aI h 83 := F1.2.1 83 (by omega)
      obtain ⟨g3, c1, c2, c3⟩ := m_few0 (h := g2) (x1 := nI x) (x2 := nI z) (f := aI h 83 49)
      obtain ⟨g4, d1, d2, d3⟩ := m_few2 (h := g3) (f := aI h 83 49) (k := x) (n := z) hxb (by omega) (by rw [c3.2.1 83 (by omega), q83]) (fun j hj => c2 j (by omega))
      have s1 := lp_fold (b := fun s : Int64 × Int32 => b_X10_few_155 (nI x) s.1 s.2 g2) (fun (a : Int64) i => a + stN (aI h 83 49) z i) (fun a => a) x (0 : Int64) (by omega) (fun i a hi => by
        show b_X10_few_155 (nI x) a (nI i) g2 = _
        unfold b_X10_few_155
        rw [if_neg (nI_ge hi (by omega)), inb_nI (show i < 20 by omega) (by omega), Option.bind_some, b2 i hi, nI_1]) (fun a => by
        show b_X10_few_155 (nI x) a (nI x) g2 = _
        unfold b_X10_few_155
        rw [if_pos (Int32.le_refl _)])
      have s2 := lp_fold (b := fun s : Int64 × Int32 => b_X11_few_151 (nI x) s.1 s.2 g4) (fun (a : Int64) i => a + stN (aI h 83 49) z i) (fun a => a) x (0 : Int64) (by omega) (fun i a hi => by
        show b_X11_few_151 (nI x) a (nI i) g4 = _
        unfold b_X11_few_151
        rw [if_neg (nI_ge hi (by omega)), inb_nI (show i < 21 by omega) (by omega), Option.bind_some, d2 i hi, nI_1]) (fun a => by
        show b_X11_few_151 (nI x) a (nI x) g4 = _
        unfold b_X11_few_151
        rw [if_pos (Int32.le_refl _)])
      refine ⟨itr (fun (a : Int64) i => a + stN (aI h 83 49) z i) x 0 0, g2, g4, ?_, ?_, INV_fr hI0 ?_⟩
      · unfold f_X10_few
        rw [if_neg (show ¬ nI x < (1 : Int32) from nI_nlt (b := 1) (by omega) (by omega)), if_neg (show ¬ (20 : Int32) < nI x from nI_nlt (a := 20) (by omega) (by omega)), if_neg (nI_pos (by omega)), if_pos (show nI z ≤ (99 : Int32) from nI_le (b := 99) (by omega) (by omega)), a1, Option.bind_some, e37, b1, Option.bind_some, show lp (fun s : Int64 × Int32 => b_X10_few_155 (nI x) s.1 s.2 g2) FU ((0 : Int64), (0 : Int32)) = _ from s1, Option.bind_some]
      · unfold f_X11_few
        rw [l20, lies_1n (by omega) hxa hxb, Option.bind_some, if_pos rfl, l99, lies_n (by omega) (by omega), Option.bind_some, if_pos rfl, c1, Option.bind_some, d1, Option.bind_some, show lp (fun s : Int64 × Int32 => b_X11_few_151 (nI x) s.1 s.2 g4) FU ((0 : Int64), (0 : Int32)) = _ from s2, Option.bind_some]
      · refine Fr_tr (Fr_tr (Fr_mono F1 ?_ ?_) (Fr_mono c3 ?_ ?_)) (Fr_mono d3 ?_ ?_)
        · intro a c; unfold scA; omega
        · intro a j c; exact c.elim
        · intro a c; unfold scA; omega
        · intro a j c; exact c.elim
        · intro a c; unfold scA; omega
        · intro a j c; exact c.elim
    · refine ⟨-1, h, h, ?_, ?_, INV_up hI0⟩
      · unfold f_X10_few
        rw [if_neg (show ¬ nI x < (1 : Int32) from nI_nlt (b := 1) (by omega) (by omega)), if_neg (show ¬ (20 : Int32) < nI x from nI_nlt (a := 20) (by omega) (by omega))]
        by_cases c : x2 < 0
        · rw [if_pos c]
        · have := hx2.resolve_left c
          rw [if_neg c, if_neg]
          rw [Int32.le_iff_toInt_le, nI_toInt (by omega)] at this
          rw [Int32.le_iff_toInt_le]
          have e2 : Int32.toInt 99 = 99 := by decide
          omega
      · unfold f_X11_few
        rw [l20, lies_1n (by omega) hxa hxb, Option.bind_some, if_pos rfl, l99, lies_0 (by omega) hx2, Option.bind_some, if_neg ff]
  · refine ⟨-1, h, h, ?_, ?_, INV_up hI0⟩
    · unfold f_X10_few
      by_cases c : x1 < 1
      · rw [if_pos c]
      · rw [if_neg c, if_pos (show (20 : Int32) < x1 from hx1.resolve_left c)]
    · unfold f_X11_few
      rw [l20, lies_10 hx1, Option.bind_some, if_neg ff]
