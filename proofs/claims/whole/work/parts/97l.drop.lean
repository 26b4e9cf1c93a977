/-! ===== how far a drop gets ===== -/
def sumZ (f : Nat → Int) : Nat → Int
  | 0 => 0
  | n + 1 => sumZ f n + f n
theorem sumZ_ext {f g : Nat → Int} : ∀ n, (∀ i, i < n → f i = g i) → sumZ f n = sumZ g n
  | 0, _ => rfl
  | n + 1, h => by
    show sumZ f n + f n = sumZ g n + g n
    rw [sumZ_ext n (fun i hi => h i (by omega)), h n (by omega)]
theorem sumZ_0 {f : Nat → Int} : ∀ n, (∀ i, i < n → f i = 0) → sumZ f n = 0
  | 0, _ => rfl
  | n + 1, h => by
    show sumZ f n + f n = 0
    rw [sumZ_0 n (fun i hi => h i (by omega)), h n (by omega)]
    rfl
theorem sumZ_one {f g : Nat → Int} {s : Nat} : ∀ n, s < n → (∀ i, i < n → i ≠ s → g i = f i) → sumZ g n = sumZ f n + (g s - f s)
  | 0, hs, _ => by omega
  | n + 1, hs, h => by
    show sumZ g n + g n = sumZ f n + f n + (g s - f s)
    by_cases c : s = n
    · subst c
      rw [sumZ_ext (f := g) (g := f) s (fun i hi => h i (by omega) (by omega))]
      omega
    · rw [sumZ_one n (by omega) (fun i hi hne => h i (by omega) hne), h n (by omega) (by omega)]
      omega
theorem sumZ_cnt {c : Nat → Bool} {t : Int} : ∀ n, sumZ (fun j => if c j = true then t else 0) n = (cntN c n : Int) * t
  | 0 => by show (0 : Int) = ((0 : Nat) : Int) * t; simp
  | n + 1 => by
    show sumZ (fun j => if c j = true then t else 0) n + (if c n = true then t else 0) = ((cntN c n + (if c n = true then 1 else 0) : Nat) : Int) * t
    rw [sumZ_cnt n]
    by_cases e : c n = true
    · rw [if_pos e, if_pos e, Int.natCast_add, Int.add_mul]
      simp
    · rw [if_neg e, if_neg e]
      simp
/-- v passes from i to j -/
def trf (c : Nat → Nat → Bool) (v : Nat → Int32) (i : Nat) (X : Nat → Int32) (j : Nat) : Nat → Int32 := if c i j = true then upd (upd X i (X i - v i)) j (upd X i (X i - v i) j + v i) else X
def trA (c : Nat → Nat → Bool) (v : Nat → Int32) (n m : Nat) (X : Nat → Int32) : Nat → Int32 := itr (fun X i => itr (trf c v i) n 0 X) m 0 X
theorem trA_s {c : Nat → Nat → Bool} {v : Nat → Int32} {n m : Nat} {X : Nat → Int32} : trA c v n (m + 1) X = itr (trf c v m) n 0 (trA c v n m X) := by
  unfold trA
  exact (itr_succ _ m 0 X).trans (by rw [Nat.zero_add])
theorem tr_row {c : Nat → Nat → Bool} {v : Nat → Int32} {w : Nat → Int} {i : Nat} {X : Nat → Int32} {Z : Nat → Int} (hc : c i i = false) (hX : ∀ x, X x = Int32.ofInt (Z x)) (hv : v i = Int32.ofInt (w i)) : ∀ n x, itr (trf c v i) n 0 X x = Int32.ofInt (Z x + (if x = i then -sumZ (fun j => if c i j = true then w i else 0) n else if x < n ∧ c i x = true then w i else 0))
  | 0, x => by
    show X x = _
    rw [hX x]
    congr 1
    by_cases e : x = i
    · rw [if_pos e]; show Z x = Z x + -0; omega
    · rw [if_neg e, if_neg (by omega)]; omega
  | n + 1, x => by
    have IH := tr_row (n := n) hc hX hv
    rw [itr_succ, Nat.zero_add]
    generalize itr (trf c v i) n 0 X = Y at IH
    show trf c v i Y n x = Int32.ofInt (Z x + (if x = i then -(sumZ (fun j => if c i j = true then w i else 0) n + (if c i n = true then w i else 0)) else if x < n + 1 ∧ c i x = true then w i else 0))
    unfold trf
    by_cases e : c i n = true
    · have hn : n ≠ i := fun d => by rw [d, hc] at e; exact Bool.false_ne_true e
      rw [if_pos e, if_pos e]
      by_cases x1 : x = n
      · subst x1
        rw [pk_us, pk_un hn, IH x, hv, ← Int32.ofInt_add, if_neg hn, if_neg hn, if_neg (by omega), if_pos ⟨by omega, e⟩]
        congr 1
        omega
      · rw [pk_un x1]
        by_cases x2 : x = i
        · subst x2
          rw [pk_us, IH x, hv, ← Int32.ofInt_sub, if_pos rfl, if_pos rfl]
          congr 1
          omega
        · rw [pk_un x2, IH x, if_neg x2, if_neg x2]
          congr 2
          by_cases x3 : x < n ∧ c i x = true
          · rw [if_pos x3, if_pos ⟨by omega, x3.2⟩]
          · rw [if_neg x3, if_neg (fun d => x3 ⟨by omega, d.2⟩)]
    · rw [if_neg e, if_neg e, IH x]
      congr 2
      by_cases x2 : x = i
      · rw [if_pos x2, if_pos x2]; omega
      · rw [if_neg x2, if_neg x2]
        by_cases x3 : x < n ∧ c i x = true
        · rw [if_pos x3, if_pos ⟨by omega, x3.2⟩]
        · rw [if_neg x3, if_neg (fun d => x3 ⟨by
            by_cases x4 : x = n
            · rw [x4] at d; exact absurd d.2 e
            · omega, d.2⟩)]
theorem tr_all {c : Nat → Nat → Bool} {v : Nat → Int32} {w : Nat → Int} {n : Nat} {X : Nat → Int32} {Z : Nat → Int} (hX : ∀ x, X x = Int32.ofInt (Z x)) : ∀ m, (∀ i, i < m → c i i = false) → (∀ i, i < m → v i = Int32.ofInt (w i)) → ∀ x, trA c v n m X x = Int32.ofInt (Z x - (if x < m then sumZ (fun j => if c x j = true then w x else 0) n else 0) + sumZ (fun i => if x < n ∧ c i x = true then w i else 0) m)
  | 0, _, _, x => by
    show X x = _
    rw [hX x, if_neg (by omega)]
    congr 1
    show Z x = Z x - 0 + 0
    omega
  | m + 1, hc, hv, x => by
    have IH := tr_all (n := n) hX m (fun i hi => hc i (by omega)) (fun i hi => hv i (by omega))
    rw [trA_s, tr_row (hc m (by omega)) IH (hv m (by omega)) n x]
    congr 1
    show _ = Z x - (if x < m + 1 then sumZ (fun j => if c x j = true then w x else 0) n else 0) + (sumZ (fun i => if x < n ∧ c i x = true then w i else 0) m + (if x < n ∧ c m x = true then w m else 0))
    by_cases e : x = m
    · subst e
      rw [if_pos rfl, if_neg (by omega), if_pos (by omega), if_neg (fun d => by rw [hc x (by omega)] at d; exact Bool.false_ne_true d.2)]
      omega
    · rw [if_neg e]
      by_cases e2 : x < m
      · rw [if_pos e2, if_pos (show x < m + 1 by omega)]; exact Int.add_assoc _ _ _
      · rw [if_neg e2, if_neg (show ¬ x < m + 1 by omega)]; exact Int.add_assoc _ _ _
/-- seat i passes to seat j -/
def cS (K : Nat → Int32) (k i j : Nat) : Bool := decide (j ∈ nbs i) && (whoS K k j).isSome
/-- sitter p passes to sitter q -/
def cP (K : Nat → Int32) (p q : Nat) : Bool := insb K p && (insb K q && decide (seatN K q ∈ nbs (seatN K p)))
theorem upd_id {f : Nat → Int32} {i : Nat} {x : Int32} (h : x = f i) : upd f i x = f := by
  funext z
  unfold upd
  by_cases c : z = i
  · rw [if_pos c, c]; exact h
  · rw [if_neg c]
theorem trf_0 {c : Nat → Nat → Bool} {v : Nat → Int32} {i : Nat} {X : Nat → Int32} {j : Nat} (h : v i = 0) : trf c v i X j = X := by
  unfold trf
  by_cases e : c i j = true
  · rw [if_pos e, h]
    rw [upd_id (f := X) (i := i) (Int32.sub_zero _)]
    exact upd_id (Int32.add_zero _)
  · rw [if_neg e]
theorem c_sp1 {h : Hp} {K : Nat → Int32} {k i t : Nat} {v : Nat → Int32} (hR : RRh h 33 K) (hw : WF K k) (hi : i < 9) (hv : v i = nI t) (ht : t < 2 ^ 31) : ∃ h', lp (fun s => b_X10_spreadDrops_36_17 33 (nI i) (v i) s.1 s.2) FU ((0 : Int32), h) = some h' ∧ aI h' 22 = itr (trf (cS K k) v i) 9 0 (aI h 22) ∧ Fr (fun a => a = 22) noF h h' := by
  have h6 := hw.2.1
  refine lp_inv (b := fun s : Int32 × Hp => b_X10_spreadDrops_36_17 33 (nI i) (v i) s.1 s.2) (fun j s => s.1 = nI j ∧ aI s.2 22 = itr (trf (cS K k) v i) j 0 (aI h 22) ∧ Fr (fun a => a = 22) noF h s.2) (fun e => aI e 22 = itr (trf (cS K k) v i) 9 0 (aI h 22) ∧ Fr (fun a => a = 22) noF h e) 9 ((0 : Int32), h) (by omega) ⟨rfl, rfl, Fr_rfl⟩ ?_ ?_
  · rintro j ⟨s1, s2⟩ hj ⟨q1, q2, q3⟩
    dsimp only at q1 q2 q3
    subst q1
    have step : itr (trf (cS K k) v i) (j + 1) 0 (aI h 22) = trf (cS K k) v i (aI s2 22) j := by rw [itr_succ, Nat.zero_add, q2]
    have hR2 : RRh s2 33 K := RR_fr hR q3 (fun c => c) (by omega) (by omega) (by omega) (by omega)
    have skip : trf (cS K k) v i (aI s2 22) j = aI s2 22 → (some (Sum.inl (nI j + 1, s2)) : Option ((Int32 × Hp) ⊕ Hp)) = some (Sum.inl (nI (j + 1), s2)) ∧ aI s2 22 = itr (trf (cS K k) v i) (j + 1) 0 (aI h 22) := fun e => ⟨by rw [nI_1], by rw [step, e]⟩
    refine Or.inl ?_
    show ∃ s', b_X10_spreadDrops_36_17 33 (nI i) (v i) (nI j) s2 = _ ∧ _
    unfold b_X10_spreadDrops_36_17
    rw [l9_, if_neg (nI_ge hj (by omega))]
    by_cases c0 : t = 0
    · rw [if_pos (show v i ≤ 0 by rw [hv, c0]; decide)]
      have := skip (trf_0 (by rw [hv, c0]; rfl))
      exact ⟨_, this.1, rfl, this.2, q3⟩
    · rw [if_neg (show ¬ v i ≤ 0 by rw [hv]; exact nI_nle (by omega) ht), c_beside i hi j hj, Option.bind_some]
      by_cases c1 : j ∈ nbs i
      · rw [decide_eq_true c1, if_pos rfl, k_whoAt hR2 hw, Option.bind_some, if_neg (nI_ne1 (by omega)), whoK_S]
        cases hq : whoS K k j with
        | none =>
          have cf : cS K k i j = false := by unfold cS; rw [hq]; simp
          have := skip (by unfold trf; rw [cf, if_neg Bool.false_ne_true])
          rw [if_pos rfl]
          exact ⟨_, this.1, rfl, this.2, q3⟩
        | some q =>
          have hq6 : q < 6 := by have := (firstM_some hq).2.1; omega
          have cf : cS K k i j = true := by unfold cS; rw [hq, decide_eq_true c1]; rfl
          rw [if_neg (show ¬ nI q = -1 from nI_ne1 (by omega)), inb_nI hi (by omega), Option.bind_some, Option.bind_some, inb_nI hj (by omega), Option.bind_some, Option.bind_some, nI_1]
          refine ⟨_, rfl, rfl, ?_, Fr_tA (Fr_tA q3 rfl) rfl⟩
          rw [step]
          show aI (sA (sA s2 22 i _) 22 j _) 22 = _
          rw [ps_aAs, ps_aAs]
          unfold trf
          rw [if_pos cf]
      · rw [decide_eq_false c1, if_neg Bool.false_ne_true]
        have cf : cS K k i j = false := by unfold cS; rw [decide_eq_false c1]; rfl
        have := skip (by unfold trf; rw [cf, if_neg Bool.false_ne_true])
        exact ⟨_, this.1, rfl, this.2, q3⟩
  · rintro ⟨s1, s2⟩ ⟨q1, q2, q3⟩
    dsimp only at q1 q2 q3
    subst q1
    refine ⟨s2, ?_, q2, q3⟩
    show b_X10_spreadDrops_36_17 33 (nI i) (v i) (nI 9) s2 = _
    unfold b_X10_spreadDrops_36_17
    rw [if_pos (by decide)]
def vS (d : Nat → Nat) : Nat → Int32 := fun i => nI (d i / 10)
theorem c_sp {h : Hp} {K : Nat → Int32} {k : Nat} {d : Nat → Nat} (hR : RRh h 33 K) (hw : WF K k) (hd : ∀ s, s < 9 → aI h 22 s = nI (d s) ∧ d s < 2 ^ 31) : ∃ h', f_X10_spreadDrops 33 h = some ((), h') ∧ aI h' 22 = trA (cS K k) (vS d) 9 9 (aI h 22) ∧ Fr (fun a => a = 22 ∨ a = 23) noF h h' := by
  have ic : icp (0 : Int32) (0 : Int32) (9 : Int32) 9 9 = some (0, 0, 9) := icp_n (a := 0) (b := 0) (c := 9) (by omega) (by omega) (by omega) (by omega)
  have key := lp_inv (b := fun s : Int32 × Hp => b_X10_spreadDrops_17 33 s.1 s.2) (fun i s => s.1 = nI i ∧ aI s.2 22 = trA (cS K k) (vS d) 9 i (aI h 22) ∧ (∀ s', s' < 9 → aI s.2 23 s' = nI (d s')) ∧ Fr (fun a => a = 22 ∨ a = 23) noF h s.2) (fun e => aI e 22 = trA (cS K k) (vS d) 9 9 (aI h 22) ∧ Fr (fun a => a = 22 ∨ a = 23) noF h e) 9 ((0 : Int32), cpA h 22 0 23 0 9) (by omega) ⟨rfl, ps_aCn _ _ _ _ _ _ _ (by omega), fun s hs => by
    show aI (cpA h 22 0 23 0 9) 23 s = _
    rw [ps_aCs, pk_cpy_in (by omega) (by omega), Nat.sub_zero, Nat.zero_add]
    exact (hd s hs).1, Fr_cp (Or.inr rfl)⟩ ?_ ?_
  · obtain ⟨e, k1, k2, k3⟩ := key
    refine ⟨e, ?_, k2, k3⟩
    unfold f_X10_spreadDrops
    rw [ic, Option.bind_some, k1, Option.bind_some]
  · rintro i ⟨s1, s2⟩ hi ⟨q1, q2, q3, q4⟩
    dsimp only at q1 q2 q3 q4
    subst q1
    have hdi := (hd i hi).2
    have hR2 : RRh s2 33 K := RR_fr hR q4 (fun c => c) (by omega) (by omega) (by omega) (by omega)
    obtain ⟨g, g1, g2, g3⟩ := c_sp1 (v := vS d) hR2 hw hi rfl (by omega)
    refine Or.inl ⟨(nI (i + 1), g), ?_, rfl, ?_, fun s hs => ?_, Fr_tr q4 (Fr_mono g3 (fun _ c => Or.inl c) (fun _ _ c => c))⟩
    · show b_X10_spreadDrops_17 33 (nI i) s2 = _
      unfold b_X10_spreadDrops_17
      rw [l9_, if_neg (nI_ge hi (by omega)), inb_nI hi (by omega), Option.bind_some, q3 i hi, show nI (d i) / (10 : Int32) = vS d i from pk_div (d := 10) hdi (by omega) (by omega), g1, Option.bind_some, nI_1]
    · show aI g 22 = _
      rw [g2, q2, trA_s]
    · show aI g 23 s = _
      rw [g3.2.1 23 (by omega)]; exact q3 s hs
  · rintro ⟨s1, s2⟩ ⟨q1, q2, q3, q4⟩
    dsimp only at q1 q2 q3 q4
    subst q1
    refine ⟨s2, ?_, q2, q4⟩
    show b_X10_spreadDrops_17 33 (nI 9) s2 = _
    unfold b_X10_spreadDrops_17
    rw [if_pos (by decide)]
/-! the reference's -/
theorem m_dr0 {h : Hp} {k : Nat} {d : Nat → Nat} (hw : WF (aI h 83) k) (hd : ∀ p, p < k → insb (aI h 83) p = true → aI h 105 p = nI (d (seatN (aI h 83) p)) ∧ d (seatN (aI h 83) p) < 2 ^ 31) : ∃ h', lp (fun s => b_X11_drops_2 s.1 s.2) FU ((0 : Int32), h) = some h' ∧ (∀ p, p < k → aI h' 106 p = if insb (aI h 83) p = true then nI (d (seatN (aI h 83) p) / 10) else 0) ∧ Fr (fun a => a = 106) noF h h' := by
  have h6 := hw.2.1
  refine lp_inv (b := fun s : Int32 × Hp => b_X11_drops_2 s.1 s.2) (fun i s => s.1 = nI i ∧ (∀ p, p < i → aI s.2 106 p = if insb (aI h 83) p = true then nI (d (seatN (aI h 83) p) / 10) else 0) ∧ Fr (fun a => a = 106) noF h s.2) (fun e => (∀ p, p < k → aI e 106 p = if insb (aI h 83) p = true then nI (d (seatN (aI h 83) p) / 10) else 0) ∧ Fr (fun a => a = 106) noF h e) k ((0 : Int32), h) (by omega) ⟨rfl, fun p hp => absurd hp (Nat.not_lt_zero _), Fr_rfl⟩ ?_ ?_
  · rintro i ⟨s1, s2⟩ hi ⟨q1, q2, q3⟩
    dsimp only at q1 q2 q3
    subst q1
    have e83 : aI s2 83 = aI h 83 := q3.2.1 83 (by omega)
    refine Or.inl ⟨(nI (i + 1), sA s2 106 i (if insb (aI h 83) i = true then nI (d (seatN (aI h 83) i) / 10) else 0)), ?_, rfl, fun p hp => ?_, Fr_tA q3 rfl⟩
    · show b_X11_drops_2 (nI i) s2 = _
      unfold b_X11_drops_2 j_X11_drops_36_2
      rw [m_many (k := k) (by rw [e83]; exact hw), Option.bind_some, if_neg (nI_ge hi (by omega)), m_isInside (by omega), Option.bind_some, e83, inb_nI (show i < 6 by omega) (by omega), Option.bind_some, Option.bind_some, Option.bind_some, nI_1]
      by_cases c : insb (aI h 83) i = true
      · rw [if_pos c, if_pos c, q3.2.1 105 (by omega), (hd i hi c).1, show nI (d (seatN (aI h 83) i)) / (10 : Int32) = nI (d (seatN (aI h 83) i) / 10) from pk_div (d := 10) (hd i hi c).2 (by omega) (by omega)]
      · rw [if_neg c, if_neg c]
    · show aI (sA s2 106 i _) 106 p = _
      by_cases e : p = i
      · rw [e, aI_s]
      · rw [aI_n e]; exact q2 p (by omega)
  · rintro ⟨s1, s2⟩ ⟨q1, q2, q3⟩
    dsimp only at q1 q2 q3
    subst q1
    refine ⟨s2, ?_, q2, q3⟩
    show b_X11_drops_2 (nI k) s2 = _
    unfold b_X11_drops_2
    rw [m_many (k := k) (by rw [q3.2.1 83 (by omega)]; exact hw), Option.bind_some, if_pos (Int32.le_refl _)]
theorem m_dr1 {h : Hp} {k p : Nat} {v : Nat → Int32} (hw : WF (aI h 83) k) (hp : p < k) (hv : aI h 106 p = v p) : ∃ h', lp (fun s => b_X11_drops_55_45 (nI p) s.1 s.2) FU ((0 : Int32), h) = some h' ∧ aI h' 105 = itr (trf (cP (aI h 83)) v p) k 0 (aI h 105) ∧ Fr (fun a => a = 105) noF h h' := by
  have h6 := hw.2.1
  refine lp_inv (b := fun s : Int32 × Hp => b_X11_drops_55_45 (nI p) s.1 s.2) (fun j s => s.1 = nI j ∧ aI s.2 105 = itr (trf (cP (aI h 83)) v p) j 0 (aI h 105) ∧ Fr (fun a => a = 105) noF h s.2) (fun e => aI e 105 = itr (trf (cP (aI h 83)) v p) k 0 (aI h 105) ∧ Fr (fun a => a = 105) noF h e) k ((0 : Int32), h) (by omega) ⟨rfl, rfl, Fr_rfl⟩ ?_ ?_
  · rintro j ⟨s1, s2⟩ hj ⟨q1, q2, q3⟩
    dsimp only at q1 q2 q3
    subst q1
    have e83 : aI s2 83 = aI h 83 := q3.2.1 83 (by omega)
    have step : itr (trf (cP (aI h 83)) v p) (j + 1) 0 (aI h 105) = trf (cP (aI h 83)) v p (aI s2 105) j := by rw [itr_succ, Nat.zero_add, q2]
    have skip : cP (aI h 83) p j = false → (some (Sum.inl (nI j + 1, s2)) : Option ((Int32 × Hp) ⊕ Hp)) = some (Sum.inl (nI (j + 1), s2)) ∧ aI s2 105 = itr (trf (cP (aI h 83)) v p) (j + 1) 0 (aI h 105) := fun e => ⟨by rw [nI_1], by rw [step]; unfold trf; rw [e, if_neg Bool.false_ne_true]⟩
    refine Or.inl ?_
    show ∃ s', b_X11_drops_55_45 (nI p) (nI j) s2 = _ ∧ _
    unfold b_X11_drops_55_45
    rw [m_many (k := k) (by rw [e83]; exact hw), Option.bind_some, if_neg (nI_ge hj (by omega)), m_isInside (by omega), Option.bind_some, e83]
    by_cases c1 : insb (aI h 83) p = true
    · rw [if_pos c1, m_isInside (by omega), Option.bind_some, e83]
      by_cases c2 : insb (aI h 83) j = true
      · obtain ⟨t1, t2⟩ := seat_of hw hp c1
        obtain ⟨u1, u2⟩ := seat_of hw hj c2
        rw [if_pos c2, m_seatOf (by omega), Option.bind_some, m_seatOf (by omega), Option.bind_some, e83, t1, u1, m_beside _ t2 _ u2, Option.bind_some]
        by_cases c3 : seatN (aI h 83) j ∈ nbs (seatN (aI h 83) p)
        · have cf : cP (aI h 83) p j = true := by unfold cP; rw [c1, c2, decide_eq_true c3]; rfl
          rw [decide_eq_true c3, if_pos rfl, inb_nI (show p < 6 by omega) (by omega), Option.bind_some, Option.bind_some, Option.bind_some, inb_nI (show j < 6 by omega) (by omega), Option.bind_some, Option.bind_some, Option.bind_some, nI_1]
          refine ⟨_, rfl, rfl, ?_, Fr_tA (Fr_tA q3 rfl) rfl⟩
          rw [step]
          show aI (sA (sA s2 105 p _) 105 j (_ + aI (sA s2 105 p _) 106 p)) 105 = _
          rw [ps_aAs, ps_aAs, ps_aAn _ _ _ _ _ (by omega), q3.2.1 106 (by omega), hv]
          unfold trf
          rw [if_pos cf]
        · rw [decide_eq_false c3, if_neg Bool.false_ne_true]
          have := skip (by unfold cP; rw [decide_eq_false c3]; simp)
          exact ⟨_, this.1, rfl, this.2, q3⟩
      · rw [if_neg c2]
        have := skip (by unfold cP; rw [Bool.eq_false_iff.mpr c2]; simp)
        exact ⟨_, this.1, rfl, this.2, q3⟩
    · rw [if_neg c1]
      have := skip (by unfold cP; rw [Bool.eq_false_iff.mpr c1]; rfl)
      exact ⟨_, this.1, rfl, this.2, q3⟩
  · rintro ⟨s1, s2⟩ ⟨q1, q2, q3⟩
    dsimp only at q1 q2 q3
    subst q1
    refine ⟨s2, ?_, q2, q3⟩
    show b_X11_drops_55_45 (nI p) (nI k) s2 = _
    unfold b_X11_drops_55_45
    rw [m_many (k := k) (by rw [q3.2.1 83 (by omega)]; exact hw), Option.bind_some, if_pos (Int32.le_refl _)]
def vP (K : Nat → Int32) (d : Nat → Nat) : Nat → Int32 := fun p => if insb K p = true then nI (d (seatN K p) / 10) else 0
theorem m_dr {h : Hp} {k : Nat} {d : Nat → Nat} (hw : WF (aI h 83) k) (hd : ∀ p, p < k → insb (aI h 83) p = true → aI h 105 p = nI (d (seatN (aI h 83) p)) ∧ d (seatN (aI h 83) p) < 2 ^ 31) : ∃ h', f_X11_drops h = some ((), h') ∧ aI h' 105 = trA (cP (aI h 83)) (vP (aI h 83) d) k k (aI h 105) ∧ Fr (fun a => a = 105 ∨ a = 106) noF h h' := by
  have h6 := hw.2.1
  obtain ⟨g, g1, g2, g3⟩ := m_dr0 hw hd
  have e83 : aI g 83 = aI h 83 := g3.2.1 83 (by omega)
  have key := lp_inv (b := fun s : Int32 × Hp => b_X11_drops_45 s.1 s.2) (fun i s => s.1 = nI i ∧ aI s.2 105 = trA (cP (aI h 83)) (vP (aI h 83) d) k i (aI h 105) ∧ Fr (fun a => a = 105) noF g s.2) (fun e => aI e 105 = trA (cP (aI h 83)) (vP (aI h 83) d) k k (aI h 105) ∧ Fr (fun a => a = 105) noF g e) k ((0 : Int32), g) (by omega) ⟨rfl, g3.2.1 105 (by omega), Fr_rfl⟩ ?_ ?_
  · obtain ⟨e, k1, k2, k3⟩ := key
    refine ⟨e, ?_, k2, Fr_tr (Fr_mono g3 (fun _ c => Or.inr c) (fun _ _ c => c)) (Fr_mono k3 (fun _ c => Or.inl c) (fun _ _ c => c))⟩
    unfold f_X11_drops
    rw [g1, Option.bind_some, k1, Option.bind_some]
  · rintro i ⟨s1, s2⟩ hi ⟨q1, q2, q3⟩
    dsimp only at q1 q2 q3
    subst q1
    have s83 : aI s2 83 = aI h 83 := by rw [q3.2.1 83 (by omega), e83]
    obtain ⟨r, r1, r2, r3⟩ := m_dr1 (h := s2) (k := k) (p := i) (v := vP (aI h 83) d) (by rw [s83]; exact hw) hi (by rw [q3.2.1 106 (by omega), g2 i hi]; rfl)
    refine Or.inl ⟨(nI (i + 1), r), ?_, rfl, ?_, Fr_tr q3 r3⟩
    · show b_X11_drops_45 (nI i) s2 = _
      unfold b_X11_drops_45
      rw [m_many (k := k) (by rw [s83]; exact hw), Option.bind_some, if_neg (nI_ge hi (by omega)), r1, Option.bind_some, nI_1]
    · show aI r 105 = _
      rw [r2, s83, q2, trA_s]
  · rintro ⟨s1, s2⟩ ⟨q1, q2, q3⟩
    dsimp only at q1 q2 q3
    subst q1
    refine ⟨s2, ?_, q2, q3⟩
    show b_X11_drops_45 (nI k) s2 = _
    unfold b_X11_drops_45
    rw [m_many (k := k) (by rw [q3.2.1 83 (by omega), e83]; exact hw), Option.bind_some, if_pos (Int32.le_refl _)]
