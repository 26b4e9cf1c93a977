/-! ===== what orders say of the room ===== -/
def envO (K : Nat → Int32) (k : Nat) (dn lt : Int32) : Env := fun w => if w = 6 then K 24 else if w = 8 then dn else if w = 9 then lt else if w = 10 then nI (cntN (insb K) k) else if w = 11 then nI (cntN (plsb K) k) else if 12 ≤ w ∧ w < 18 then (if w - 12 < k then nI (nat3 K (w - 12)) else -1) else if 18 ≤ w ∧ w < 24 then (if w - 18 < k then K (3 * (w - 18) + nat3 K (w - 18)) else -1) else 0
theorem envO_n (K : Nat → Int32) (k : Nat) (dn lt : Int32) {p : Nat} (hp : p < 6) : envO K k dn lt (12 + p) = (if p < k then nI (nat3 K p) else -1) ∧ envO K k dn lt (18 + p) = (if p < k then K (3 * p + nat3 K p) else -1) := by
  unfold envO
  refine ⟨?_, ?_⟩
  · rw [if_neg (by omega), if_neg (by omega), if_neg (by omega), if_neg (by omega), if_neg (by omega), if_pos (by omega), show 12 + p - 12 = p by omega]
  · rw [if_neg (by omega), if_neg (by omega), if_neg (by omega), if_neg (by omega), if_neg (by omega), if_neg (by omega), if_pos (by omega), show 18 + p - 18 = p by omega]
theorem k_much {h : Hp} {K : Nat → Int32} {k p : Nat} (hR : RRh h 33 K) (hw : WF K k) (hp : p < 6) : f_X6_nationOf 33 (nI p) h = some (if p < k then nI (nat3 K p) else -1) ∧ f_X6_muchOf 33 (nI p) h = some (if p < k then K (3 * p + nat3 K p) else -1) := by
  have h6 := hw.2.1
  by_cases c : p < k
  · rw [if_pos c, if_pos c]
    refine ⟨k_nationOf hR hw c, ?_⟩
    have n3 := nat3_lt K p
    unfold f_X6_muchOf
    rw [k_has hR hw c, Option.bind_some, if_pos rfl, k_nationOf hR hw c, Option.bind_some, l3_, pk_mul, nI_add, Nat.mul_comm p 3, inb_nI (show 3 * p + nat3 K p < 18 by omega) (by omega), Option.bind_some, hR.2.1 _ (by omega)]
  · rw [if_neg c, if_neg c]
    have hx : nI p < 0 ∨ nI k ≤ nI p := Or.inr (nI_le (by omega) (by omega))
    refine ⟨?_, ?_⟩
    · unfold f_X6_nationOf
      rw [if_neg (nI_pos (by omega)), k_sn hR hw, if_neg (nI_nlt (by omega) (by omega))]
    · unfold f_X6_muchOf
      rw [k_has0 hR hw hx, Option.bind_some, if_neg Bool.false_ne_true]
theorem c_sayO {h : Hp} {K : Nat → Int32} {k : Nat} {dn lt : Int32} (hR : RRh h 33 K) (hw : WF K k) (e4 : fI h 60 4 = dn) (e5 : fI h 60 5 = lt) : ∃ h', f_X0_sayWords 33 h = some ((), h') ∧ (∀ i, okW true i → i < 24 ∧ aI h' 30 i = envO K k dn lt i) ∧ Fr (fun a => a = 30) noF h h' := by
  have h6 := hw.2.1
  have e24 : aI h 37 0 = K 24 := hR.2.2.2.2.1
  have RR' : ∀ {h2 : Hp}, Fr (fun a => a = 30) noF h h2 → RRh h2 33 K := fun hf => RR_fr hR hf (fun c => c) (by omega) (by omega) (by omega) (by omega)
  have F3 : Fr (fun a => a = 30) noF h (sA (sA (sA h 30 6 (K 24)) 30 8 dn) 30 9 lt) := Fr_tA (Fr_tA (Fr_sA rfl) rfl) rfl
  have F5 : Fr (fun a => a = 30) noF h (sA (sA (sA (sA (sA h 30 6 (K 24)) 30 8 dn) 30 9 lt) 30 10 (nI (cntN (insb K) k))) 30 11 (nI (cntN (plsb K) k))) := Fr_tA (Fr_tA F3 rfl) rfl
  have key := lp_inv (b := fun s : Int32 × Hp => b_X0_sayWords_74 33 s.1 s.2) (fun i s => s.1 = nI i ∧ (∀ w, (w = 6 ∨ 8 ≤ w ∧ w ≤ 11) → aI s.2 30 w = envO K k dn lt w) ∧ (∀ p, p < i → aI s.2 30 (12 + p) = envO K k dn lt (12 + p) ∧ aI s.2 30 (18 + p) = envO K k dn lt (18 + p)) ∧ Fr (fun a => a = 30) noF h s.2) (fun e => (∀ i, okW true i → i < 24 ∧ aI e 30 i = envO K k dn lt i) ∧ Fr (fun a => a = 30) noF h e) 6 ((0 : Int32), sA (sA (sA (sA (sA h 30 6 (K 24)) 30 8 dn) 30 9 lt) 30 10 (nI (cntN (insb K) k))) 30 11 (nI (cntN (plsb K) k))) (by omega) ⟨rfl, fun w hw' => ?_, fun p hp => absurd hp (Nat.not_lt_zero _), F5⟩ ?_ ?_
  · obtain ⟨e, k1, k2, k3⟩ := key
    refine ⟨e, ?_, k2, k3⟩
    unfold f_X0_sayWords
    simp only [ps_fA]
    rw [show aI h (33 + 4) 0 = K 24 from e24, e4, e5, k_countInside (RR' F3) hw, Option.bind_some, k_contented (RR' (Fr_tA F3 rfl)) hw, Option.bind_some, k1, Option.bind_some]
  · show aI (sA (sA (sA (sA (sA h 30 6 (K 24)) 30 8 dn) 30 9 lt) 30 10 (nI (cntN (insb K) k))) 30 11 (nI (cntN (plsb K) k))) 30 w = _
    rcases (show w = 6 ∨ w = 8 ∨ w = 9 ∨ w = 10 ∨ w = 11 by omega) with e | e | e | e | e <;> subst e
    · rw [aI_n (by omega), aI_n (by omega), aI_n (by omega), aI_n (by omega), aI_s]; rfl
    · rw [aI_n (by omega), aI_n (by omega), aI_n (by omega), aI_s]; rfl
    · rw [aI_n (by omega), aI_n (by omega), aI_s]; rfl
    · rw [aI_n (by omega), aI_s]; rfl
    · rw [aI_s]; rfl
  · rintro i ⟨s1, s2⟩ hi ⟨q1, q2, q3, q4⟩
    dsimp only at q1 q2 q3 q4
    subst q1
    obtain ⟨v1, v2⟩ := envO_n K k dn lt hi
    refine Or.inl ⟨(nI (i + 1), sA (sA s2 30 (12 + i) (envO K k dn lt (12 + i))) 30 (18 + i) (envO K k dn lt (18 + i))), ?_, rfl, fun w hw' => ?_, fun p hp => ?_, Fr_tA (Fr_tA q4 rfl) rfl⟩
    · show b_X0_sayWords_74 33 (nI i) s2 = _
      unfold b_X0_sayWords_74
      rw [l6_, if_neg (nI_ge hi (by omega)), (k_much (RR' q4) hw hi).1, Option.bind_some, show ((12 : Int32)) = nI 12 from rfl, m_inb (show 12 + i < 24 by omega) (by omega), Option.bind_some, ← v1, (k_much (RR' (Fr_tA q4 rfl)) hw hi).2, Option.bind_some, l18_, m_inb (show 18 + i < 24 by omega) (by omega), Option.bind_some, ← v2, nI_1]
    · show aI (sA (sA s2 30 _ _) 30 _ _) 30 w = _
      rw [aI_n (by omega), aI_n (by omega)]; exact q2 w hw'
    · show aI (sA (sA s2 30 _ _) 30 _ _) 30 (12 + p) = _ ∧ aI (sA (sA s2 30 _ _) 30 _ _) 30 (18 + p) = _
      by_cases e : p = i
      · subst e
        rw [aI_n (by omega), aI_s, aI_s]
        exact ⟨rfl, rfl⟩
      · rw [aI_n (by omega), aI_n (by omega), aI_n (by omega), aI_n (by omega)]
        exact q3 p (by omega)
  · rintro ⟨s1, s2⟩ ⟨q1, q2, q3, q4⟩
    dsimp only at q1 q2 q3 q4
    subst q1
    refine ⟨s2, ?_, fun i hi => ?_, q4⟩
    · show b_X0_sayWords_74 33 (nI 6) s2 = _
      unfold b_X0_sayWords_74
      rw [if_pos (by decide)]
    · unfold okW at hi
      rw [if_pos rfl] at hi
      refine ⟨by omega, ?_⟩
      by_cases c1 : 12 ≤ i
      · by_cases c2 : 18 ≤ i
        · obtain ⟨p, hp⟩ : ∃ p, i = 18 + p := ⟨i - 18, by omega⟩
          rw [hp]; exact (q3 p (by omega)).2
        · obtain ⟨p, hp⟩ : ∃ p, i = 12 + p := ⟨i - 12, by omega⟩
          rw [hp]; exact (q3 p (by omega)).1
      · exact q2 i (by omega)
theorem m_envO {g : Hp} {K : Nat → Int32} {k : Nat} {dn lt : Int32} (e83 : aI g 83 = K) (hw : WF K k) (e27 : fI g 81 27 = dn) (e28 : fI g 81 28 = lt) : EnvR true g (envO K k dn lt) := by
  intro j b
  refine ⟨fun c => absurd c (by decide), fun _ => ?_⟩
  have hw' : WF (aI (gb g j b) 83) k := by rw [gb_aI, e83]; exact hw
  have k83 : aI (gb g j b) 83 = K := by rw [gb_aI, e83]
  have f27 : fI (gb g j b) 81 27 = dn := by rw [gb_o _ _ _ (by omega) (by omega)]; exact e27
  have f28 : fI (gb g j b) 81 28 = lt := by rw [gb_o _ _ _ (by omega) (by omega)]; exact e28
  have h6 := hw.2.1
  generalize gb g j b = g2 at hw' k83 f27 f28
  refine ⟨fun q hq => ?_, fun p hp => ⟨?_, ?_⟩⟩
  · rcases (show q = 6 ∨ q = 8 ∨ q = 9 ∨ q = 10 ∨ q = 11 by omega) with e | e | e | e | e <;> subst e <;> unfold f_X11_orderValue
    · rw [if_neg (by decide), if_neg (by decide), if_pos (by decide), k83]; rfl
    · rw [if_neg (by decide), if_neg (by decide), if_neg (by decide), if_pos (by decide), f27]; rfl
    · rw [if_neg (by decide), if_neg (by decide), if_neg (by decide), if_neg (by decide), if_pos (by decide), f28]; rfl
    · rw [if_neg (by decide), if_neg (by decide), if_neg (by decide), if_neg (by decide), if_neg (by decide), if_pos (by decide), m_insideMany hw', Option.bind_some, k83]; rfl
    · rw [if_neg (by decide), if_neg (by decide), if_neg (by decide), if_neg (by decide), if_neg (by decide), if_neg (by decide), if_pos (by decide)]
      unfold j_X11_orderValue_108
      rw [m_pleasedMany hw', Option.bind_some, k83]; rfl
  · rw [(envO_n K k dn lt hp).1]
    unfold f_X11_orderValue
    rw [if_neg (by decide), if_neg (by decide), if_neg (by decide), if_neg (by decide), if_neg (by decide), if_neg (by decide), if_neg (by decide), if_pos (by decide)]
    by_cases c : p < k
    · rw [if_pos c, m_isSitter hw' c, Option.bind_some, if_pos rfl, m_nationOf (by omega), Option.bind_some, k83]
    · rw [if_neg c, m_isSitter0 hw' (Or.inr (nI_le (by omega) (by omega))), Option.bind_some, if_neg Bool.false_ne_true]
  · rw [(envO_n K k dn lt hp).2]
    unfold f_X11_orderValue
    rw [if_neg (by decide), if_pos (by decide)]
    by_cases c : p < k
    · rw [if_pos c, m_isSitter hw' c, Option.bind_some, if_pos rfl, m_nationOf (by omega), Option.bind_some, m_partsOf (by omega) (nat3_lt _ _), Option.bind_some, k83]
    · rw [if_neg c, m_isSitter0 hw' (Or.inr (nI_le (by omega) (by omega))), Option.bind_some, if_neg Bool.false_ne_true]
theorem envO_nb {K : Nat → Int32} {k dn : Nat} {lt : Int32} (hw : WF K k) (hm : MOb K 999) (hd : dn < 1000) (hl : lt ≠ BRK) : ∀ i, okW true i → envO K k (nI dn) lt i ≠ BRK := by
  intro i hi
  have h6 := hw.2.1
  have n1 : ((-1 : Int32)) ≠ BRK := by decide
  obtain ⟨m, m1, m2⟩ := hm
  unfold okW at hi
  rw [if_pos rfl] at hi
  by_cases c1 : 12 ≤ i
  · by_cases c2 : 18 ≤ i
    · obtain ⟨p, hp⟩ : ∃ p, i = 18 + p := ⟨i - 18, by omega⟩
      rw [hp, (envO_n K k _ lt (show p < 6 by omega)).2]
      split
      · have n3 := nat3_lt K p
        obtain ⟨l, l1, l2⟩ := part_of hw (show 3 * p + nat3 K p < 18 by omega)
        rw [l2]; exact nI_nb (by omega)
      · exact n1
    · obtain ⟨p, hp⟩ : ∃ p, i = 12 + p := ⟨i - 12, by omega⟩
      rw [hp, (envO_n K k _ lt (show p < 6 by omega)).1]
      split
      · have n3 := nat3_lt K p
        exact nI_nb (by omega)
      · exact n1
  · have c3 := cntN_le (insb K) k
    have c4 := cntN_le (plsb K) k
    rcases (show i = 6 ∨ i = 8 ∨ i = 9 ∨ i = 10 ∨ i = 11 by omega) with e | e | e | e | e <;> subst e
    · show K 24 ≠ BRK
      rw [m2]; exact nI_nb (by omega)
    · show nI dn ≠ BRK
      exact nI_nb (by omega)
    · exact hl
    · show nI (cntN (insb K) k) ≠ BRK
      exact nI_nb (by omega)
    · show nI (cntN (plsb K) k) ≠ BRK
      exact nI_nb (by omega)
/-! ===== the clauses of orders ===== -/
abbrev DO : Type := Nat × Nat × Nat × Nat × (Env → Option Int32) × (Env → Option Int32) × (Env → Option Bool)
abbrev DOs : Type := Nat → Nat × Nat × Nat × Nat × DO
def CdO (T : Tok) (d : DO) : CPt := fun c mk n i0 i1 s0 s1 => mkL mk n d.1 d.2.1 s0 d.2.2.1 d.2.2.2.1 s1 ∧ s0 ≤ d.2.2.1 ∧ d.2.2.1 ≤ d.2.2.2.1 ∧ d.2.2.2.1 ≤ s1 ∧ ClO T c i0 i1 d.1 d.2.1 s0 d.2.2.1 d.2.2.2.1 s1 d.2.2.2.2.1 d.2.2.2.2.2.1 d.2.2.2.2.2.2
def oq (D : DOs) (c : Nat) : Nat := (D c).2.2.2.2.1
def otm (D : DOs) (c : Nat) : Nat := (D c).2.2.2.2.2.1
def oσ (D : DOs) (c : Nat) : Env → Option Int32 := if oq D c = 19 then fun _ => some 1 else (D c).2.2.2.2.2.2.2.2.1
def oσ2 (D : DOs) (c : Nat) : Env → Option Int32 := if oq D c = 16 ∨ oq D c = 18 then (D c).2.2.2.2.2.2.2.2.2.1 else fun _ => some 1
def oτ (D : DOs) (c : Nat) : Env → Option Bool := (D c).2.2.2.2.2.2.2.2.2.2
theorem CU_O {T : Tok} {c mk : Nat → Int32} {n i s : Nat} (h : CU T (CPO T) c mk n i s) : ∃ D : DOs, ClD T (CdO T) c mk D n i s :=
  CU_D (0, 0, 0, 0, fun _ => none, fun _ => none, fun _ => none) n i s (CU_map (CP' := fun c mk n i0 i1 s0 s1 => ∃ d, CdO T d c mk n i0 i1 s0 s1) (fun _ _ _ _ _ ⟨q, tm, f2, f3, σ, σ2, τ, h1, h2, h3, h4, h5⟩ => ⟨(q, tm, f2, f3, σ, σ2, τ), h1, h2, h3, h4, h5⟩) n i s h)
section COR
variable {T : Tok} {h0 : Hp} {a n s i : Nat} {c mk : Nat → Int32} {D : DOs}
theorem o_test (ht : TxI h0 a n s c mk) (hD : ClD T (CdO T) c mk D n i s) {h : Hp} (hS : TxSame h0 h a) {w : Env} (hw : ∀ i, okW true i → i < 24 ∧ aI h 30 i = w i) {k : Nat} (hk : k < n) : ∃ v h', f_X2_workOut a (nI k) 4 h = some (v, h') ∧ (v = 1 ↔ oτ D k w = some true) ∧ Fr stF noF h h' := by
  obtain ⟨⟨m1, m2, m3, m4, q1, q2, q3, q4, r1, r2, r3, q5, q6, q7, q8, q9, q10, q11⟩, s1, -⟩ := hD k hk
  obtain ⟨k1, k2, k3, k4, k5, k6⟩ := m1
  have hx := x_work (TxI_same ht hS) (ok := okW true) (w := w) hw (k := k) (m := 4) (B := 0) (σ := fun w => (oτ D k w).map b2i) hk (by omega) k5 k6 s1 ?_
  · obtain ⟨h', e1, e2⟩ := hx
    refine ⟨_, h', e1, ?_, e2⟩
    cases oτ D k w with
    | none => exact ⟨fun c => absurd c (by decide), fun c => (by cases c)⟩
    | some b =>
      cases b
      · exact ⟨fun c => absurd c (by decide), fun c => (by cases c)⟩
      · exact ⟨fun _ => rfl, fun _ => rfl⟩
  · rcases q11 with ⟨g1, g2, g3, g4⟩ | ⟨g1, g0, g2, g3, g4⟩
    · exact Or.inl ⟨g3, by show (oτ D k w).map b2i = some 1; rw [show oτ D k = fun _ => some true from g4]; rfl⟩
    · exact Or.inr ⟨g2, g3⟩
/-- both sums; BRK for what is broken -/
theorem o_sums (ht : TxI h0 a n s c mk) (hD : ClD T (CdO T) c mk D n i s) {h : Hp} (hS : TxSame h0 h a) (ha : isTx a) {w : Env} (hw : ∀ i, okW true i → i < 24 ∧ aI h 30 i = w i) (hnb : ∀ i, okW true i → w i ≠ BRK) {k : Nat} (hk : k < n) : ∃ v1 h1 v2 h2, f_X2_workOut a (nI k) 2 h = some (v1, h1) ∧ f_X2_workOut a (nI k) 3 h1 = some (v2, h2) ∧ Fr stF noF h h2 ∧ (oσ D k w = none → v1 = BRK) ∧ (∀ x, oσ D k w = some x → v1 = x ∧ x ≠ BRK) ∧ (oσ2 D k w = none → v2 = BRK) ∧ (∀ x, oσ2 D k w = some x → v2 = x ∧ x ≠ BRK) := by
  obtain ⟨⟨m1, m2, m3, m4, q1, q2, q3, q4, r1, r2, r3, q5, q6, q7, q8, q9, q10, q11⟩, s1, -⟩ := hD k hk
  obtain ⟨k1, k2, k3, k4, k5, k6⟩ := m1
  have n1 : ((1 : Int32)) ≠ BRK := by decide
  have A : ((D k).2.2.1 = (D k).2.2.2.2.2.2.1 ∧ oσ D k w = some 1) ∨ ((D k).2.2.1 < (D k).2.2.2.2.2.2.1 ∧ MC (okW true) c (D k).2.2.1 (D k).2.2.2.2.2.2.1 1 (oσ D k)) := by
    unfold oσ
    rcases q8 with ⟨g1, g2, g3, g4, g5⟩ | ⟨g1, g2, g3⟩
    · rw [if_neg (show ¬ oq D k = 19 from g1)]
      exact Or.inr ⟨g3, g4⟩
    · have : oq D k = 19 := Classical.not_not.mp g1
      rw [if_pos this]
      exact Or.inl ⟨g3, rfl⟩
  have B : ((D k).2.2.2.2.2.2.1 = (D k).2.2.2.2.2.2.2.1 ∧ oσ2 D k w = some 1) ∨ ((D k).2.2.2.2.2.2.1 < (D k).2.2.2.2.2.2.2.1 ∧ MC (okW true) c (D k).2.2.2.2.2.2.1 (D k).2.2.2.2.2.2.2.1 1 (oσ2 D k)) := by
    unfold oσ2
    rcases q9 with ⟨g1, g2, g3, g4, g5, g6, g7⟩ | ⟨g1, g2, g3⟩
    · rw [if_pos (show oq D k = 16 ∨ oq D k = 18 from g1)]
      exact Or.inr ⟨g5, g6⟩
    · rw [if_neg (show ¬ (oq D k = 16 ∨ oq D k = 18) from g1)]
      exact Or.inl ⟨g3.symm, rfl⟩
  obtain ⟨h1, a1, a2⟩ := x_work (TxI_same ht hS) (ok := okW true) (w := w) hw (k := k) (m := 2) (B := 1) (σ := oσ D k) hk (by omega) k3 k4 (by omega) A
  have hS1 := Tx_s ha hS a2
  have hw1 : ∀ i, okW true i → i < 24 ∧ aI h1 30 i = w i := fun i hi => ⟨(hw i hi).1, by rw [a2.2.1 30 (by unfold stF; omega)]; exact (hw i hi).2⟩
  obtain ⟨h2, b1, b2⟩ := x_work (TxI_same ht hS1) (ok := okW true) (w := w) hw1 (k := k) (m := 3) (B := 1) (σ := oσ2 D k) hk (by omega) k4 k5 (by omega) B
  refine ⟨_, h1, _, h2, a1, b1, Fr_tr a2 b2, fun e => by rw [e], fun x e => ⟨by rw [e], ?_⟩, fun e => by rw [e], fun x e => ⟨by rw [e], ?_⟩⟩
  · rcases A with ⟨-, e2⟩ | ⟨-, e2⟩
    · rw [e2] at e
      rw [← Option.some.inj e]; exact n1
    · exact e2.2 w hnb x e
  · rcases B with ⟨-, e2⟩ | ⟨-, e2⟩
    · rw [e2] at e
      rw [← Option.some.inj e]; exact n1
    · exact e2.2 w hnb x e
end COR
