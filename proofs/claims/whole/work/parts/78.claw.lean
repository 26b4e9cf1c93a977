/-! ===== what the clauses of a text are ===== -/
theorem CU_map {T : Tok} {CP CP' : CPt} {c mk : Nat → Int32} (hm : ∀ n i0 i1 s0 s1, CP c mk n i0 i1 s0 s1 → CP' c mk n i0 i1 s0 s1) : ∀ n i s, CU T CP c mk n i s → CU T CP' c mk n i s
  | 0, _, _, h => h
  | n + 1, _, _, ⟨i0, s0, i1, h1, h2, h3⟩ => ⟨i0, s0, i1, CU_map hm n i0 s0 h1, hm _ _ _ _ _ h2, h3⟩
/-- each clause's tokens, code and more -/
def ClD {δ : Type} (T : Tok) (Cd : δ → CPt) (c mk : Nat → Int32) (D : Nat → Nat × Nat × Nat × Nat × δ) (n i s : Nat) : Prop := ∀ k, k < n → Cd (D k).2.2.2.2 c mk k (D k).1 (D k).2.1 (D k).2.2.1 (D k).2.2.2.1 ∧ (D k).2.2.2.1 ≤ s ∧ (D k).1 < (D k).2.1 ∧ (D k).2.1 ≤ tN T ∧ ((D k).2.1 < tN T → tkd T (D k).2.1 = 159) ∧ (k = 0 → (D k).1 = 0) ∧ (k + 1 < n → (D (k + 1)).1 = (D k).2.1 + 1) ∧ (k + 1 = n → i = (D k).2.1 + 1)
theorem CU_D {T : Tok} {δ : Type} (d0 : δ) {Cd : δ → CPt} {c mk : Nat → Int32} : ∀ n i s, CU T (fun c mk n i0 i1 s0 s1 => ∃ d, Cd d c mk n i0 i1 s0 s1) c mk n i s → ∃ D : Nat → Nat × Nat × Nat × Nat × δ, ClD T Cd c mk D n i s
  | 0, i, s, h => ⟨fun _ => (0, 0, 0, 0, d0), fun k hk => absurd hk (Nat.not_lt_zero _)⟩
  | n + 1, i, s, ⟨i0, s0, i1, h1, ⟨d, h2⟩, h3, h4, h5, h6, h7⟩ => by
    obtain ⟨D, hD⟩ := CU_D d0 (Cd := Cd) n i0 s0 h1
    refine ⟨fun k => if k = n then (i0, i1, s0, s, d) else D k, fun k hk => ?_⟩
    dsimp only
    by_cases e : k = n
    · subst e
      rw [if_pos rfl, if_neg (by omega)]
      refine ⟨h2, Nat.le_refl _, h4, h6, h7, fun e0 => ?_, fun c => by omega, fun _ => h5⟩
      subst e0
      exact h1.1
    · have hk2 : k < n := by omega
      obtain ⟨g1, g2, g3, g4, g5, g6, g7, g8⟩ := hD k hk2
      rw [if_neg e]
      refine ⟨g1, by omega, g3, g4, g5, g6, fun _ => ?_, fun c => by omega⟩
      by_cases e2 : k + 1 = n
      · rw [if_pos e2]
        exact g8 e2
      · rw [if_neg e2]
        exact g7 (by omega)
abbrev DL : Type := Nat × Nat × (Env → Option Int32) × (Env → Option Bool)
def CdL (T : Tok) (d : DL) : CPt := fun c mk n i0 i1 s0 s1 => mkL mk n d.1 1 s0 d.2.1 d.2.1 s1 ∧ s0 ≤ d.2.1 ∧ d.2.1 ≤ s1 ∧ ClL T c i0 i1 d.1 s0 d.2.1 s1 d.2.2.1 d.2.2.2
abbrev DLs : Type := Nat → Nat × Nat × Nat × Nat × DL
def dq (D : DLs) (k : Nat) : Nat := (D k).2.2.2.2.1
def dσ (D : DLs) (k : Nat) : Env → Option Int32 := (D k).2.2.2.2.2.2.1
def dτ (D : DLs) (k : Nat) : Env → Option Bool := (D k).2.2.2.2.2.2.2
/-- whether one of the first n clauses of this kind holds -/
def hld (D : DLs) (kind : Nat) (w : Env) : Nat → Bool
  | 0 => false
  | n + 1 => hld D kind w n || decide (dq D n = kind ∧ dτ D n w = some true)
def clp (v : Int32) : Int32 := if v < 0 then 0 else if 9 < v then 9 else v
/-- how much the last of the first n clauses says -/
def tld (D : DLs) (w : Env) : Nat → Option Int32
  | 0 => none
  | n + 1 => if dq D n = 13 ∧ dτ D n w = some true then (match dσ D n w with
      | some v => some (clp v)
      | none => tld D w n) else tld D w n
def semL (D : DLs) (n : Nat) : Sem := fun w => (hld D 14 w n, hld D 15 w n, (tld D w n).getD 1)
theorem clp_9 (v : Int32) : ∃ t, t ≤ 9 ∧ clp v = nI t := by
  unfold clp
  by_cases c : v < 0
  · rw [if_pos c]; exact ⟨0, by omega, rfl⟩
  · rw [if_neg c]
    by_cases d : 9 < v
    · rw [if_pos d]; exact ⟨9, by omega, rfl⟩
    · rw [if_neg d]
      have h9 : v ≤ 9 := by rw [Int32.le_iff_toInt_le]; rw [Int32.lt_iff_toInt_lt] at d; omega
      obtain ⟨j, j1, j2⟩ := nI_of2 (M := 9) (n := 9) (by decide) c h9
      exact ⟨j, j1, j2⟩
theorem tld_9 (D : DLs) (w : Env) : ∀ n, tld D w n = none ∨ ∃ t, t ≤ 9 ∧ tld D w n = some (nI t)
  | 0 => Or.inl rfl
  | n + 1 => by
    have ih := tld_9 D w n
    unfold tld
    split
    · split
      · obtain ⟨t, t1, t2⟩ := clp_9 (by assumption)
        exact Or.inr ⟨t, t1, by rw [t2]⟩
      · exact ih
    · exact ih
theorem semL_ok (D : DLs) (n : Nat) : semOK (semL D n) := by
  intro w
  show ∃ t, t ≤ 9 ∧ (tld D w n).getD 1 = nI t
  rcases tld_9 D w n with e | ⟨t, t1, t2⟩
  · rw [e]; exact ⟨1, by omega, rfl⟩
  · rw [t2]; exact ⟨t, t1, rfl⟩
theorem hld_iff (D : DLs) (kind : Nat) (w : Env) : ∀ n, hld D kind w n = true ↔ ∃ k, k < n ∧ dq D k = kind ∧ dτ D k w = some true
  | 0 => ⟨fun c => (by cases c), fun ⟨k, k1, _⟩ => absurd k1 (Nat.not_lt_zero _)⟩
  | n + 1 => by
    unfold hld
    rw [Bool.or_eq_true, hld_iff D kind w n, decide_eq_true_iff]
    constructor
    · rintro (⟨k, k1, k2⟩ | e)
      · exact ⟨k, by omega, k2⟩
      · exact ⟨n, by omega, e⟩
    · rintro ⟨k, k1, k2⟩
      by_cases c : k = n
      · subst c; exact Or.inr k2
      · exact Or.inl ⟨k, by omega, k2⟩
/-! ===== the class's law ===== -/
theorem c_words {K : Nat → Int32} {k r p : Nat} {h : Hp} (hr : IsRm r) (hR : RRh h r K) (hw : WF K k) (hp : p < k) (o : Int32) : ∃ h', f_X8_sayWords r (nI p) o h = some ((), h') ∧ (∀ i, i < 8 → aI h' 30 i = envL K p o i) ∧ Fr wA noF h h' := by
  have h6 := hw.2.1
  have hn3 := nat3_lt K p
  have n1 : ∀ (g : Hp) (j : Nat) (x : Int32), aI (sA g 30 j x) (r + 1) = aI g (r + 1) := fun g j x => ps_aAn _ _ _ _ _ (by rcases hr with e | e | e | e <;> omega)
  have n2 : ∀ (g : Hp) (j : Nat) (x : Int32), aI (sA g 30 j x) (r + 2) = aI g (r + 2) := fun g j x => ps_aAn _ _ _ _ _ (by rcases hr with e | e | e | e <;> omega)
  have n3 : ∀ (g : Hp) (j : Nat) (x : Int32), aI (sA g 30 j x) (r + 3) = aI g (r + 3) := fun g j x => ps_aAn _ _ _ _ _ (by rcases hr with e | e | e | e <;> omega)
  have n4 : ∀ (g : Hp) (j : Nat) (x : Int32), aI (sA g 30 j x) (r + 4) = aI g (r + 4) := fun g j x => ps_aAn _ _ _ _ _ (by rcases hr with e | e | e | e <;> omega)
  unfold f_X8_sayWords
  rw [k_nationOf hR hw hp, Option.bind_some, inb_nI (show p < 6 by omega) (by omega), Option.bind_some, l3_, pk_mul, nI_add, show p * 3 + nat3 K p = 3 * p + nat3 K p by omega, inb_nI (show 3 * p + nat3 K p < 18 by omega) (by omega), Option.bind_some, Option.bind_some]
  simp only [n1, n2, n3, n4]
  rw [hR.2.2.2.1 p (by omega), hR.2.1 (3 * p + nat3 K p) (by omega), hR.2.2.1 p (by omega), hR.2.2.2.2.1, hR.2.2.2.2.2.2]
  refine ⟨_, rfl, fun i hi => ?_, ?_⟩
  · have hh : i = 0 ∨ i = 1 ∨ i = 2 ∨ i = 3 ∨ i = 4 ∨ i = 5 ∨ i = 6 ∨ i = 7 := by omega
    rcases hh with e | e | e | e | e | e | e | e <;> subst e
    · rw [aI_n (by omega), aI_n (by omega), aI_n (by omega), aI_n (by omega), aI_n (by omega), aI_n (by omega), aI_n (by omega), aI_s]; rfl
    · rw [aI_n (by omega), aI_n (by omega), aI_n (by omega), aI_n (by omega), aI_n (by omega), aI_n (by omega), aI_s]; rfl
    · rw [aI_n (by omega), aI_n (by omega), aI_n (by omega), aI_n (by omega), aI_n (by omega), aI_s]; rfl
    · rw [aI_n (by omega), aI_n (by omega), aI_n (by omega), aI_n (by omega), aI_s]; rfl
    · rw [aI_n (by omega), aI_n (by omega), aI_n (by omega), aI_s]; rfl
    · rw [aI_n (by omega), aI_n (by omega), aI_s]; rfl
    · rw [aI_n (by omega), aI_s]; rfl
    · rw [aI_s]; rfl
  · exact Fr_tA (Fr_tA (Fr_tA (Fr_tA (Fr_tA (Fr_tA (Fr_tA (Fr_sA (Or.inl rfl)) (Or.inl rfl)) (Or.inl rfl)) (Or.inl rfl)) (Or.inl rfl)) (Or.inl rfl)) (Or.inl rfl)) (Or.inl rfl)
theorem Tx_w {h0 h h' : Hp} {a : Nat} (ha : isTx a) (hT : TxSame h0 h a) (hf : Fr wA noF h h') : TxSame h0 h' a := Tx_fr hT hf (fun c => c) (fun c => c) (by unfold wA; rcases ha with e | e <;> omega) (by unfold wA; rcases ha with e | e <;> omega)
theorem Tx_s {h0 h h' : Hp} {a : Nat} (ha : isTx a) (hT : TxSame h0 h a) (hf : Fr stF noF h h') : TxSame h0 h' a := Tx_w ha hT (Fr_w hf)
section CLW
variable {T : Tok} {h0 : Hp} {a n s i : Nat} {c mk : Nat → Int32} {D : DLs}
/-- the test of clause k, the class's way -/
theorem c_test (ht : TxI h0 a n s c mk) (hD : ClD T (CdL T) c mk D n i s) {h : Hp} (hS : TxSame h0 h a) {w : Env} (hw : ∀ i, i < 8 → aI h 30 i = w i) {k : Nat} (hk : k < n) : ∃ v h', f_X2_workOut a (nI k) 4 h = some (v, h') ∧ (v = 1 ↔ dτ D k w = some true) ∧ Fr stF noF h h' := by
  obtain ⟨⟨m1, m2, m3, q1, q2, q3, q4, m, q5, q6, q7⟩, s1, -⟩ := hD k hk
  obtain ⟨k1, k2, k3, k4, k5, k6⟩ := m1
  have hx := x_work (TxI_same ht hS) (ok := okW false) (w := w) (fun i hi => by unfold okW at hi; rw [if_neg (by decide)] at hi; exact ⟨by omega, hw i hi⟩) (k := k) (m := 4) (B := 0) (σ := fun w => (dτ D k w).map b2i) hk (by omega) k5 k6 s1 ?_
  · obtain ⟨h', e1, e2⟩ := hx
    refine ⟨_, h', e1, ?_, e2⟩
    cases dτ D k w with
    | none => exact ⟨fun c => absurd c (by decide), fun c => (by cases c)⟩
    | some b =>
      cases b
      · exact ⟨fun c => absurd c (by decide), fun c => (by cases c)⟩
      · exact ⟨fun _ => rfl, fun _ => rfl⟩
  · rcases q7 with ⟨g1, g2, g3, g4⟩ | ⟨g1, g0, g2, g3, g4⟩
    · exact Or.inl ⟨g3, by show (dτ D k w).map b2i = some 1; rw [show dτ D k = fun _ => some true from g4]; rfl⟩
    · exact Or.inr ⟨g2, g3⟩
/-- the sum of a clause that passes -/
theorem c_fsum (ht : TxI h0 a n s c mk) (hD : ClD T (CdL T) c mk D n i s) {h : Hp} (hS : TxSame h0 h a) {w : Env} (hw : ∀ i, i < 8 → aI h 30 i = w i) {k : Nat} (hk : k < n) (h13 : dq D k = 13) : ∃ h', f_X2_workOut a (nI k) 2 h = some ((match dσ D k w with
    | some v => v
    | none => BRK), h') ∧ Fr stF noF h h' := by
  obtain ⟨⟨m1, m2, m3, q1, q2, q3, q4, m, q5, q6, q7⟩, s1, -⟩ := hD k hk
  obtain ⟨k1, k2, k3, k4, k5, k6⟩ := m1
  refine x_work (TxI_same ht hS) (ok := okW false) (w := w) (fun i hi => by unfold okW at hi; rw [if_neg (by decide)] at hi; exact ⟨by omega, hw i hi⟩) (k := k) (m := 2) (B := 1) (σ := dσ D k) hk (by omega) k3 k4 (by omega) ?_
  rcases q6 with ⟨g1, g2, g3, g4, g5⟩ | ⟨g1, -⟩
  · exact Or.inr ⟨g3, g4⟩
  · exact absurd h13 g1
theorem mk_q (hD : ClD T (CdL T) c mk D n i s) {k : Nat} (hk : k < n) : mk (6 * k) = nI (dq D k) ∧ dq D k < 16 := by
  have m1 := (hD k hk).1.1.1
  have h3 : dq D k = 13 ∨ dq D k = 14 ∨ dq D k = 15 := (hD k hk).1.2.2.2.2.1
  exact ⟨m1, by omega⟩
theorem c_any (ht : TxI h0 a n s c mk) (hD : ClD T (CdL T) c mk D n i s) {h : Hp} (hS : TxSame h0 h a) (ha : isTx a) {w : Env} (hw : ∀ i, i < 8 → aI h 30 i = w i) (r : Nat) (kind : Nat) (hkd : kind < 31) : ∃ h', (lp (fun s => b_X8_anyHolds_21 r a (nI kind) s.1 s.2) FU ((0 : Int32), h)).bind (fun e15 => sc e15 (fun e17 => some (false, e17)) (fun e18 => some (true, e18))) = some (hld D kind w n, h') ∧ Fr stF noF h h' := by
  have hn := ht.2.2.2.2.2.2.2.1
  have key := lp_inv (b := fun s : Int32 × Hp => b_X8_anyHolds_21 r a (nI kind) s.1 s.2) (fun k s => s.1 = nI k ∧ (∀ j, j < k → ¬ (dq D j = kind ∧ dτ D j w = some true)) ∧ Fr stF noF h s.2) (fun e => sc e (fun g => (∀ j, j < n → ¬ (dq D j = kind ∧ dτ D j w = some true)) ∧ Fr stF noF h g) (fun g => (∃ j, j < n ∧ dq D j = kind ∧ dτ D j w = some true) ∧ Fr stF noF h g)) n ((0 : Int32), h) (by omega) ⟨rfl, fun j hj => absurd hj (Nat.not_lt_zero _), Fr_rfl⟩ ?_ ?_
  · obtain ⟨e, k1, k2⟩ := key
    rw [k1, Option.bind_some]
    cases e with
    | inl g =>
      refine ⟨g, ?_, k2.2⟩
      have : hld D kind w n = false := by
        cases e : hld D kind w n with
        | false => rfl
        | true =>
          obtain ⟨j, j1, j2⟩ := (hld_iff D kind w n).mp e
          exact absurd j2 (k2.1 j j1)
      rw [this]; rfl
    | inr g => exact ⟨g, by rw [(hld_iff D kind w n).mpr k2.1]; rfl, k2.2⟩
  · rintro k ⟨x, g⟩ hk ⟨q1, q2, q3⟩
    dsimp only at q1 q2 q3
    subst q1
    have hSg := Tx_s ha hS q3
    have htg := TxI_same ht hSg
    obtain ⟨m1, m2⟩ := mk_q hD hk
    have hwg : ∀ i, i < 8 → aI g 30 i = w i := fun i hi => by rw [q3.2.1 30 (by unfold stF; omega)]; exact hw i hi
    have go : ¬ (dq D k = kind ∧ dτ D k w = some true) → ∀ j, j < k + 1 → ¬ (dq D j = kind ∧ dτ D j w = some true) := by
      intro hn2 j hj
      by_cases e : j = k
      · rw [e]; exact hn2
      · exact q2 j (by omega)
    show (∃ s', b_X8_anyHolds_21 r a (nI kind) (nI k) g = some (.inl s') ∧ _) ∨ (∃ e, b_X8_anyHolds_21 r a (nI kind) (nI k) g = some (.inr e) ∧ _)
    unfold b_X8_anyHolds_21
    rw [if_pos htg.2.1, htg.2.2.1, if_neg (nI_ge hk (by omega)), show ((0 : Int32)) = nI 0 from rfl, x_mark htg hk (by omega), Option.bind_some, Nat.add_zero, m1]
    by_cases cq : dq D k = kind
    · rw [if_pos (by rw [cq])]
      obtain ⟨v, g2, e1, e2, e3⟩ := c_test ht hD hSg hwg hk
      rw [e1, Option.bind_some]
      dsimp only
      by_cases cv : v = 1
      · right
        exact ⟨.inr g2, by rw [if_pos cv]; rfl, ⟨k, hk, cq, e2.mp cv⟩, Fr_tr q3 e3⟩
      · left
        exact ⟨(nI (k + 1), g2), by rw [if_neg cv, nI_1], rfl, go (fun d => cv (e2.mpr d.2)), Fr_tr q3 e3⟩
    · left
      rw [if_neg (fun d => cq ((nI_eq (by omega) (by omega)).mp d))]
      exact ⟨(nI (k + 1), g), by rw [nI_1], rfl, go (fun d => cq d.1), q3⟩
  · rintro ⟨x, g⟩ ⟨q1, q2, q3⟩
    dsimp only at q1 q2 q3
    subst q1
    have htg := TxI_same ht (Tx_s ha hS q3)
    refine ⟨.inl g, ?_, q2, q3⟩
    show b_X8_anyHolds_21 r a (nI kind) (nI n) g = _
    unfold b_X8_anyHolds_21
    rw [if_pos htg.2.1, htg.2.2.1, if_pos (Int32.le_refl _)]
/-- whether any holds, whole -/
theorem c_anyH (ht : TxI h0 a n s c mk) (hD : ClD T (CdL T) c mk D n i s) {h : Hp} (hS : TxSame h0 h a) {K : Nat → Int32} {k r p : Nat} (hr : IsRm r) (hR : RRh h r K) (hw : WF K k) (hp : p < k) (kind : Nat) (hkd : kind < 31) : ∃ h', f_X8_anyHolds r a (nI p) (nI kind) h = some (hld D kind (envL K p (-1)) n, h') ∧ Fr wA noF h h' := by
  have ha := ht.1
  have hth := TxI_same ht hS
  obtain ⟨v, v1, v2⟩ := x_kind hth hkd
  unfold f_X8_anyHolds
  rw [if_pos hth.2.1, v1, Option.bind_some]
  cases v with
  | false =>
    refine ⟨h, ?_, Fr_rfl⟩
    have : hld D kind (envL K p (-1)) n = false := by
      cases e : hld D kind (envL K p (-1)) n with
      | false => rfl
      | true =>
        obtain ⟨j, j1, j2, j3⟩ := (hld_iff D kind _ n).mp e
        exact absurd (v2.mpr ⟨j, j1, by rw [(mk_q hD j1).1, j2]⟩) (by decide)
    rw [if_neg (by decide), this]
  | true =>
    obtain ⟨g, w1, w2, w3⟩ := c_words hr hR hw hp (-1)
    obtain ⟨g2, k1, k2⟩ := c_any ht hD (Tx_w ha hS w3) ha w2 r kind hkd
    refine ⟨g2, ?_, Fr_tr w3 (Fr_w k2)⟩
    rw [if_pos rfl, w1, Option.bind_some]
    exact k1
theorem c_told (ht : TxI h0 a n s c mk) (hD : ClD T (CdL T) c mk D n i s) {h : Hp} (hS : TxSame h0 h a) (ha : isTx a) {w : Env} (hwo : ∀ i, i < 8 → w i ≠ BRK) (hw : ∀ i, i < 8 → aI h 30 i = w i) (hbk : ∀ k, k < n → dq D k = 13 → ∀ v, dσ D k w = some v → v ≠ BRK) (r : Nat) : ∃ h', (lp (fun s => b_X8_partsTold_31 r a s.1 s.2) FU (nI n - 1, h)).bind (fun e21 => sc e21 (fun e23 => some ((1 : Int32), e23)) (fun e24 => (f_J9_min_7cf53 e24.1 (9 : Int32)).bind fun v25 => (f_J9_max_7cf53 (0 : Int32) v25).bind fun v27 => some (v27, e24.2))) = some ((tld D w n).getD 1, h') ∧ Fr stF noF h h' := by
  have hn := ht.2.2.2.2.2.2.2.1
  have clpeq : ∀ v : Int32, ((f_J9_min_7cf53 v (9 : Int32)).bind fun v25 => (f_J9_max_7cf53 (0 : Int32) v25).bind fun v27 => some v27) = some (clp v) := by
    intro v
    rw [j_min, Option.bind_some]
    unfold mnI f_J9_max_7cf53 clp
    have e0 : Int32.toInt 0 = 0 := by decide
    have e9 : Int32.toInt 9 = 9 := by decide
    by_cases c9 : (9 : Int32) < v
    · have n0 : ¬ v < 0 := by
        intro c0
        rw [Int32.lt_iff_toInt_lt] at c0 c9
        omega
      simp only [c9, n0, if_true, if_false]
      rfl
    · by_cases c0 : 0 < v
      · have n0 : ¬ v < 0 := by
          intro c1
          rw [Int32.lt_iff_toInt_lt] at c0 c1
          omega
        simp only [c9, c0, n0, if_true, if_false, Option.bind_some]
      · by_cases c1 : v < 0
        · simp only [c9, c0, c1, if_true, if_false, Option.bind_some]
        · have hv : v = 0 := by
            rw [Int32.lt_iff_toInt_lt] at c0 c1
            exact Int32.toInt_inj.mp (by omega)
          subst hv
          rfl
  have key := lp_inv (b := fun s : Int32 × Hp => b_X8_partsTold_31 r a s.1 s.2) (fun j st => st.1 = nI (n - j) - 1 ∧ j ≤ n ∧ tld D w n = tld D w (n - j) ∧ Fr stF noF h st.2) (fun e => sc e (fun g => tld D w n = none ∧ Fr stF noF h g) (fun g => tld D w n = some (clp g.1) ∧ Fr stF noF h g.2)) n (nI n - 1, h) (by omega) ⟨rfl, Nat.zero_le _, rfl, Fr_rfl⟩ ?_ ?_
  · obtain ⟨e, k1, k2⟩ := key
    rw [k1, Option.bind_some]
    cases e with
    | inl g => exact ⟨g, by rw [k2.1]; rfl, k2.2⟩
    | inr g =>
      refine ⟨g.2, ?_, k2.2⟩
      have := clpeq g.1
      show ((f_J9_min_7cf53 g.1 (9 : Int32)).bind fun v25 => (f_J9_max_7cf53 (0 : Int32) v25).bind fun v27 => some (v27, g.2)) = _
      cases e1 : f_J9_min_7cf53 g.1 9 with
      | none => rw [e1] at this; cases this
      | some v25 =>
        rw [e1, Option.bind_some] at this
        rw [Option.bind_some]
        cases e2 : f_J9_max_7cf53 0 v25 with
        | none => rw [e2] at this; cases this
        | some v27 =>
          rw [e2, Option.bind_some] at this
          rw [Option.bind_some, k2.1, Option.some.inj this]
          rfl
  · rintro j ⟨x, g⟩ hj ⟨q1, q2, q4, q3⟩
    dsimp only at q1 q3
    obtain ⟨k, hk⟩ : ∃ k, n - j = k + 1 := ⟨n - j - 1, by omega⟩
    rw [hk, nI_pred] at q1
    rw [hk] at q4
    subst q1
    have hkn : k < n := by omega
    have hSg := Tx_s ha hS q3
    have htg := TxI_same ht hSg
    obtain ⟨m1, m2⟩ := mk_q hD hkn
    have hwg : ∀ i, i < 8 → aI g 30 i = w i := fun i hi => by rw [q3.2.1 30 (by unfold stF; omega)]; exact hw i hi
    have nx : nI k + -1 = nI (n - (j + 1)) - 1 := by
      rw [show n - (j + 1) = k by omega, show ((-1 : Int32)) = -(1 : Int32) from rfl, ← Int32.sub_eq_add_neg]
    have tl : tld D w (k + 1) = if dq D k = 13 ∧ dτ D k w = some true then (match dσ D k w with
      | some v => some (clp v)
      | none => tld D w k) else tld D w k := rfl
    show (∃ s', b_X8_partsTold_31 r a (nI k) g = some (.inl s') ∧ _) ∨ (∃ e, b_X8_partsTold_31 r a (nI k) g = some (.inr e) ∧ _)
    unfold b_X8_partsTold_31
    rw [if_neg (nI_pos (by omega)), if_pos htg.2.1, show ((0 : Int32)) = nI 0 from rfl, x_mark htg hkn (by omega), Option.bind_some, Nat.add_zero, m1]
    by_cases cq : dq D k = 13
    · rw [if_pos (show nI (dq D k) = 13 by rw [cq]; rfl)]
      obtain ⟨v, g2, e1, e2, e3⟩ := c_test ht hD hSg hwg hkn
      rw [e1, Option.bind_some]
      dsimp only
      by_cases cv : v = 1
      · rw [if_pos cv]
        have hS2 := Tx_s ha hSg e3
        have hw2 : ∀ i, i < 8 → aI g2 30 i = w i := fun i hi => by rw [e3.2.1 30 (by unfold stF; omega)]; exact hwg i hi
        obtain ⟨g3, f1, f2⟩ := c_fsum ht hD hS2 hw2 hkn cq
        rw [if_pos ⟨cq, e2.mp cv⟩] at tl
        cases es : dσ D k w with
        | some v' =>
          right
          rw [es] at tl f1
          replace f1 : f_X2_workOut a (nI k) 2 g2 = some (v', g3) := f1
          rw [f1, Option.bind_some]
          exact ⟨.inr (v', g3), by rw [if_neg (show ¬ v' = -2147483648 from hbk k hkn cq v' es)]; rfl, q4.trans tl, Fr_tr (Fr_tr q3 e3) f2⟩
        | none =>
          left
          rw [es] at tl f1
          replace f1 : f_X2_workOut a (nI k) 2 g2 = some (BRK, g3) := f1
          rw [f1, Option.bind_some]
          exact ⟨(nI k + -1, g3), by rw [if_pos (by rfl)], nx, by omega, by rw [show n - (j + 1) = k by omega]; exact q4.trans tl, Fr_tr (Fr_tr q3 e3) f2⟩
      · left
        rw [if_neg cv]
        rw [if_neg (fun d => cv (e2.mpr d.2))] at tl
        exact ⟨(nI k + -1, g2), rfl, nx, by omega, by rw [show n - (j + 1) = k by omega]; exact q4.trans tl, Fr_tr q3 e3⟩
    · left
      rw [if_neg (show ¬ nI (dq D k) = 13 from fun d => cq ((nI_eq (by omega) (by omega)).mp (show nI _ = nI 13 from d)))]
      rw [if_neg (fun d => cq d.1)] at tl
      exact ⟨(nI k + -1, g), rfl, nx, by omega, by rw [show n - (j + 1) = k by omega]; exact q4.trans tl, q3⟩
  · rintro ⟨x, g⟩ ⟨q1, q2, q4, q3⟩
    dsimp only at q1 q3
    subst q1
    refine ⟨.inl g, ?_, ?_, q3⟩
    · show b_X8_partsTold_31 r a (nI (n - n) - 1) g = _
      unfold b_X8_partsTold_31
      rw [Nat.sub_self, if_pos (by decide)]
    · rw [q4, Nat.sub_self]
      rfl
end CLW
