/-! ===== the first exchange ===== -/
def FP (G : Nat → Nat → Bool) (m i j : Nat) : Prop := i < j ∧ j < m ∧ G i j = true ∧ (∀ i' j', i' < i → i' < j' → j' < m → G i' j' = false) ∧ ∀ j', i < j' → j' < j → G i j' = false
def AnsX (G : Nat → Nat → Bool) (m : Nat) (L : Nat → Nat) (v : Int32) : Prop := (v = -1 ∧ ∀ i j, i < j → j < m → G i j = false) ∨ ∃ i j, FP G m i j ∧ v = nI (10 * L i + L j)
theorem tf {b : Bool} (h1 : b = true) (h2 : b = false) : False := by rw [h1] at h2; cases h2
theorem Ans_un {G : Nat → Nat → Bool} {m : Nat} {L : Nat → Nat} {v v' : Int32} (h : AnsX G m L v) (h' : AnsX G m L v') : v = v' := by
  rcases h with ⟨e, a⟩ | ⟨i, j, ⟨a1, a2, a3, a4, a5⟩, e⟩
  · rcases h' with ⟨e', -⟩ | ⟨i', j', ⟨b1, b2, b3, -, -⟩, -⟩
    · rw [e, e']
    · exact (tf b3 (a _ _ b1 b2)).elim
  · rcases h' with ⟨-, b⟩ | ⟨i', j', ⟨b1, b2, b3, b4, b5⟩, e'⟩
    · exact (tf a3 (b _ _ a1 a2)).elim
    · rcases Nat.lt_trichotomy i i' with c | c | c
      · exact (tf a3 (b4 _ _ c a1 a2)).elim
      · subst c
        rcases Nat.lt_trichotomy j j' with d | d | d
        · exact (tf a3 (b5 _ a1 d)).elim
        · subst d; rw [e, e']
        · exact (tf b3 (a5 _ b1 d)).elim
      · exact (tf b3 (a4 _ _ c b1 b2)).elim
def Gx (F : Nat → Nat) (s0 : Nat → Nat) (m d i j : Nat) : Bool := match NS s0 m i j with
  | none => false
  | some r => decide (F r ≠ 0 ∧ F r + 1 = d)
section FST
variable {K : Nat → Int32} {k : Nat} {S : Sem} {kn : Nat}
theorem c_far {h : Hp} (hc : CAv h K k S kn) (hw : WF K k) {s : BS} (hs : CBF h (fct (insL K k).length) s) {R : Nat} {s0 : Nat → Nat} (hR : RwS R K k s0) : f_X7_farOf (nI R) h = some (mI (s.1 (rkS s0 (insL K k).length (insL K k).length))) := by
  have m6 := ins_le hw
  have f7 := (fct_le _ m6).1
  have rl := rk_lt s0 m6
  unfold f_X7_farOf
  rw [c_rank (CAv_I hc) hw hR, Option.bind_some, c_isS hc hw rl, Option.bind_some, if_pos rfl, inb_nI (show rkS s0 (insL K k).length (insL K k).length < 720 by omega) (by omega), Option.bind_some, hs.1 _ rl]
theorem c_first {h : Hp} (hc : CAv h K k S kn) (hw : WF K k) {s : BS} (hs : CBF h (fct (insL K k).length) s) (ho : bsO (fct (insL K k).length) s) {R : Nat} {s0 : Nat → Nat} (hR : RwS R K k s0) {d : Nat} (hd : 2 ≤ d) (hd7 : d ≤ 721) : ∃ v, ((lp (fun t => b_X7_firstExchange_21 33 (nI R) (mI d) t h) FU (0 : Int32)).bind fun e24 => sc e24 (fun e26 => some (-1 : Int32)) (fun e27 => some (((10 : Int32) * e27.1) + e27.2))) = some v ∧ AnsX (Gx s.1 s0 (insL K k).length d) (insL K k).length (fun x => (insL K k).getD x 0) v := by
  have m6 := ins_le hw
  have h6 := hw.2.1
  have f7 := (fct_le _ m6).1
  have w7 := bs_M ho
  have ed : mI d - 1 = nI (d - 2) := by
    rw [mI_p (by omega), show d - 1 = (d - 2) + 1 by omega, nI_pred]
  have inner : ∀ i, i < (insL K k).length → ∃ e : Unit ⊕ (Int32 × Int32), lp (fun t => b_X7_firstExchange_36_21 33 (nI R) (mI d) (nI i) t h) FU (nI (i + 1)) = some e ∧ ((e = .inl () ∧ ∀ j, i < j → j < (insL K k).length → Gx s.1 s0 (insL K k).length d i j = false) ∨ ∃ j, i < j ∧ j < (insL K k).length ∧ Gx s.1 s0 (insL K k).length d i j = true ∧ (∀ j', i < j' → j' < j → Gx s.1 s0 (insL K k).length d i j' = false) ∧ e = .inr (nI ((insL K k).getD i 0), nI ((insL K k).getD j 0))) := by
    intro i hi
    refine lp_inv (b := fun t : Int32 => b_X7_firstExchange_36_21 33 (nI R) (mI d) (nI i) t h) (fun T t => t = nI (i + 1 + T) ∧ ∀ j, i < j → j < i + 1 + T → Gx s.1 s0 (insL K k).length d i j = false) (fun e => (e = .inl () ∧ ∀ j, i < j → j < (insL K k).length → Gx s.1 s0 (insL K k).length d i j = false) ∨ ∃ j, i < j ∧ j < (insL K k).length ∧ Gx s.1 s0 (insL K k).length d i j = true ∧ (∀ j', i < j' → j' < j → Gx s.1 s0 (insL K k).length d i j' = false) ∧ e = .inr (nI ((insL K k).getD i 0), nI ((insL K k).getD j 0))) ((insL K k).length - (i + 1)) (nI (i + 1)) (by omega) ⟨rfl, fun j h1 h2 => by omega⟩ ?_ ?_
    · rintro T t hT ⟨q1, q2⟩
      subst q1
      have hj : i + 1 + T < (insL K k).length := by omega
      have ext : ∀ b : Bool, Gx s.1 s0 (insL K k).length d i (i + 1 + T) = b → b = false → ∀ j, i < j → j < i + 1 + (T + 1) → Gx s.1 s0 (insL K k).length d i j = false := by
        intro b e1 e2 j h1 h2
        by_cases c : j = i + 1 + T
        · rw [c, e1, e2]
        · exact q2 j h1 (by omega)
      show (∃ s', b_X7_firstExchange_36_21 33 (nI R) (mI d) (nI i) (nI (i + 1 + T)) h = _ ∧ _) ∨ (∃ e, b_X7_firstExchange_36_21 33 (nI R) (mI d) (nI i) (nI (i + 1 + T)) h = _ ∧ _)
      unfold b_X7_firstExchange_36_21
      rw [hc.1, if_neg (nI_ge hj (by omega)), inb_nI (show i < 6 by omega) (by omega), Option.bind_some, inb_nI (show i + 1 + T < 6 by omega) (by omega), Option.bind_some, hc.2.2.1 i hi, hc.2.2.1 _ hj, c_can hw hR hi hj, Option.bind_some]
      by_cases c : s0 (i + 1 + T) ∈ nbs (s0 i)
      · obtain ⟨R', x1, x2⟩ := c_exd hw hR (show i < i + 1 + T by omega) hj
        have rl := rk_lt (swF s0 i (i + 1 + T)) m6
        have eG : Gx s.1 s0 (insL K k).length d i (i + 1 + T) = decide (s.1 (rkS (swF s0 i (i + 1 + T)) (insL K k).length (insL K k).length) ≠ 0 ∧ s.1 (rkS (swF s0 i (i + 1 + T)) (insL K k).length (insL K k).length) + 1 = d) := by
          unfold Gx NS
          rw [if_pos c]
        have b3 := ho.2.2.1 (rkS (swF s0 i (i + 1 + T)) (insL K k).length (insL K k).length)
        rw [decide_eq_true c, if_pos rfl, x1, Option.bind_some, c_far hc hw hs x2, Option.bind_some, ed]
        generalize s.1 (rkS (swF s0 i (i + 1 + T)) (insL K k).length (insL K k).length) = y at eG b3
        have iff : mI y = nI (d - 2) ↔ (y ≠ 0 ∧ y + 1 = d) := by
          by_cases z : y = 0
          · rw [z]
            exact ⟨fun e => absurd e.symm (nI_ne1 (by omega)), fun e => absurd rfl e.1⟩
          · rw [mI_p z]
            exact ⟨fun e => by have := (nI_eq (by omega) (by omega)).mp e; omega, fun e => by congr 1; omega⟩
        by_cases z : y ≠ 0 ∧ y + 1 = d
        · refine Or.inr ⟨.inr (nI ((insL K k).getD i 0), nI ((insL K k).getD (i + 1 + T) 0)), ?_, Or.inr ⟨i + 1 + T, by omega, hj, by rw [eG, decide_eq_true z], q2, rfl⟩⟩
          rw [if_pos (iff.mpr z)]
          rfl
        · refine Or.inl ⟨nI (i + 1 + T + 1), ?_, rfl, ext _ eG (decide_eq_false z)⟩
          rw [if_neg (fun e => z (iff.mp e)), nI_1]
      · refine Or.inl ⟨nI (i + 1 + T + 1), ?_, rfl, ext false ?_ rfl⟩
        · rw [decide_eq_false c, if_neg Bool.false_ne_true, nI_1]
        · unfold Gx NS
          rw [if_neg c]
    · rintro t ⟨q1, q2⟩
      subst q1
      refine ⟨.inl (), ?_, Or.inl ⟨rfl, fun j h1 h2 => q2 j h1 (by omega)⟩⟩
      show b_X7_firstExchange_36_21 33 (nI R) (mI d) (nI i) _ h = _
      unfold b_X7_firstExchange_36_21
      rw [hc.1, if_pos (nI_le (by omega) (by omega))]
  have key := lp_inv (b := fun t : Int32 => b_X7_firstExchange_21 33 (nI R) (mI d) t h) (fun T t => t = nI T ∧ ∀ i j, i < T → i < j → j < (insL K k).length → Gx s.1 s0 (insL K k).length d i j = false) (fun e => (e = .inl () ∧ ∀ i j, i < j → j < (insL K k).length → Gx s.1 s0 (insL K k).length d i j = false) ∨ ∃ i j, FP (Gx s.1 s0 (insL K k).length d) (insL K k).length i j ∧ e = .inr (nI ((insL K k).getD i 0), nI ((insL K k).getD j 0))) (insL K k).length (0 : Int32) (by omega) ⟨rfl, fun i j h1 => absurd h1 (Nat.not_lt_zero _)⟩ ?_ ?_
  · obtain ⟨e, k1, k2⟩ := key
    rw [k1, Option.bind_some]
    rcases k2 with ⟨e1, e2⟩ | ⟨i, j, e1, e2⟩
    · subst e1
      exact ⟨-1, rfl, Or.inl ⟨rfl, e2⟩⟩
    · subst e2
      refine ⟨nI (10 * (insL K k).getD i 0 + (insL K k).getD j 0), ?_, Or.inr ⟨i, j, e1, rfl⟩⟩
      rw [sc_r]
      dsimp only
      rw [l10_, pk_mul, nI_add]
  · rintro T t hT ⟨q1, q2⟩
    subst q1
    obtain ⟨e, z1, z2⟩ := inner T hT
    show (∃ s', b_X7_firstExchange_21 33 (nI R) (mI d) (nI T) h = _ ∧ _) ∨ (∃ e, b_X7_firstExchange_21 33 (nI R) (mI d) (nI T) h = _ ∧ _)
    unfold b_X7_firstExchange_21
    rw [hc.1, if_neg (nI_ge hT (by omega)), nI_1, z1, Option.bind_some]
    rcases z2 with ⟨e1, e2⟩ | ⟨j, e1, e2, e3, e4, e5⟩
    · subst e1
      refine Or.inl ⟨nI (T + 1), by rw [sc_l], rfl, fun i j h1 h2 h3 => ?_⟩
      by_cases c : i = T
      · rw [c]; exact e2 j (by omega) h3
      · exact q2 i j (by omega) h2 h3
    · subst e5
      exact Or.inr ⟨.inr (nI ((insL K k).getD T 0), nI ((insL K k).getD j 0)), by rw [sc_r]; rfl, Or.inr ⟨T, j, ⟨e1, e2, e3, fun i' j' h1 h2 h3 => q2 i' j' h1 h2 h3, e4⟩, rfl⟩⟩
  · rintro t ⟨q1, q2⟩
    subst q1
    refine ⟨.inl (), ?_, Or.inl ⟨rfl, fun i j h1 h2 => q2 i j (by omega) h1 h2⟩⟩
    show b_X7_firstExchange_21 33 (nI R) (mI d) (nI (insL K k).length) h = _
    unfold b_X7_firstExchange_21
    rw [hc.1, if_pos (Int32.le_refl _)]
theorem m_first {h : Hp} (hh : HLD h K k) (hw : WF K k) {s : BS} (hs : MBF h (fct (insL K k).length) s) (ho : bsO (fct (insL K k).length) s) {s0 : Nat → Nat} (hS : StS (aI h 83) K k s0) {d : Nat} (hd : 1 ≤ d) (hd7 : d ≤ 721) : ∃ v h', f_X11_firstTwo (sI d) h = some (v, h') ∧ AnsX (Gx s.1 s0 (insL K k).length d) (insL K k).length (fun x => (insL K k).getD x 0) v ∧ aI h' 83 = aI h 83 ∧ Fr (fun a => a = 83) noF h h' := by
  have m6 := ins_le hw
  have h6 := hw.2.1
  have f7 := (fct_le _ m6).1
  have w7 := bs_M ho
  have HH : ∀ h', Fr (fun a => a = 83) noF h h' → HLD h' K k := fun h' hf => HLD_fr hh hf (by omega) (by omega) (fun c => c) (fun c => c)
  have iff : ∀ y, y ≤ 721 → (sI y = sI d - 1 ↔ (y ≠ 0 ∧ y + 1 = d)) := by
    intro y hy
    rw [sI_p (show d ≠ 0 by omega)]
    by_cases c : d = 1
    · rw [c, show nI (1 - 1) - 1 = (-1 : Int32) from rfl]
      refine ⟨fun e => ?_, fun e => by omega⟩
      by_cases z : y = 0
      · rw [z] at e; exact absurd e (by decide)
      · rw [sI_p z] at e; exact absurd e (nI_ne1 (by omega))
    · rw [show d - 1 = (d - 2) + 1 by omega, nI_pred]
      by_cases z : y = 0
      · rw [z]
        exact ⟨fun e => by have := (nI_eq (by omega) (by omega)).mp (show nI 1000000 = nI (d - 2) from e); omega, fun e => absurd rfl e.1⟩
      · rw [sI_p z]
        exact ⟨fun e => by have := (nI_eq (by omega) (by omega)).mp e; omega, fun e => by congr 1; omega⟩
  have inner : ∀ i, i < (insL K k).length → ∀ g, aI g 83 = aI h 83 → Fr (fun a => a = 83) noF h g → ∃ e : Hp ⊕ (Int32 × Hp), lp (fun t => b_X11_firstTwo_14_2 (sI d) (nI i) t.1 t.2) FU (nI (i + 1), g) = some e ∧ ((∃ g', e = .inl g' ∧ aI g' 83 = aI h 83 ∧ Fr (fun a => a = 83) noF h g' ∧ ∀ j, i < j → j < (insL K k).length → Gx s.1 s0 (insL K k).length d i j = false) ∨ ∃ j g', i < j ∧ j < (insL K k).length ∧ Gx s.1 s0 (insL K k).length d i j = true ∧ (∀ j', i < j' → j' < j → Gx s.1 s0 (insL K k).length d i j' = false) ∧ e = .inr (nI j, g') ∧ aI g' 83 = aI h 83 ∧ Fr (fun a => a = 83) noF h g') := by
    intro i hi g g83 gF
    refine lp_inv (b := fun t : Int32 × Hp => b_X11_firstTwo_14_2 (sI d) (nI i) t.1 t.2) (fun T t => t.1 = nI (i + 1 + T) ∧ aI t.2 83 = aI h 83 ∧ Fr (fun a => a = 83) noF h t.2 ∧ ∀ j, i < j → j < i + 1 + T → Gx s.1 s0 (insL K k).length d i j = false) (fun e => (∃ g', e = .inl g' ∧ aI g' 83 = aI h 83 ∧ Fr (fun a => a = 83) noF h g' ∧ ∀ j, i < j → j < (insL K k).length → Gx s.1 s0 (insL K k).length d i j = false) ∨ ∃ j g', i < j ∧ j < (insL K k).length ∧ Gx s.1 s0 (insL K k).length d i j = true ∧ (∀ j', i < j' → j' < j → Gx s.1 s0 (insL K k).length d i j' = false) ∧ e = .inr (nI j, g') ∧ aI g' 83 = aI h 83 ∧ Fr (fun a => a = 83) noF h g') ((insL K k).length - (i + 1)) (nI (i + 1), g) (by omega) ⟨rfl, g83, gF, fun j h1 h2 => by omega⟩ ?_ ?_
    · rintro T ⟨t1, t2⟩ hT ⟨q1, q3, q4, q2⟩
      dsimp only at q1 q3 q4
      subst q1
      have hj : i + 1 + T < (insL K k).length := by omega
      have ext : ∀ b : Bool, Gx s.1 s0 (insL K k).length d i (i + 1 + T) = b → b = false → ∀ j, i < j → j < i + 1 + (T + 1) → Gx s.1 s0 (insL K k).length d i j = false := by
        intro b e1 e2 j h1 h2
        by_cases c : j = i + 1 + T
        · rw [c, e1, e2]
        · exact q2 j h1 (by omega)
      obtain ⟨h1, c1, c2, c3⟩ := m_swapped (HH _ q4) hw (s := s0) (by rw [q3]; exact hS) (show i < i + 1 + T by omega) hj
      have hs1 := MBF_83 (MBF_83 hs q4) c3
      show (∃ s', b_X11_firstTwo_14_2 (sI d) (nI i) (nI (i + 1 + T)) t2 = _ ∧ _) ∨ (∃ e, b_X11_firstTwo_14_2 (sI d) (nI i) (nI (i + 1 + T)) t2 = _ ∧ _)
      unfold b_X11_firstTwo_14_2
      rw [(HH _ q4).1, if_neg (nI_ge hj (by omega)), c1, Option.bind_some]
      cases hn : NS s0 (insL K k).length i (i + 1 + T) with
      | none =>
        refine Or.inl ⟨(nI (i + 1 + T + 1), h1), ?_, rfl, c2.trans q3, Fr_tr q4 c3, ext false ?_ rfl⟩
        · dsimp only
          rw [if_pos rfl, nI_1]
        · unfold Gx; rw [hn]
      | some r =>
        have rl : r < fct (insL K k).length := by
          unfold NS at hn
          by_cases c : s0 (i + 1 + T) ∈ nbs (s0 i)
          · rw [if_pos c] at hn
            rw [← Option.some.inj hn]; exact rk_lt _ m6
          · rw [if_neg c] at hn; cases hn
        have eG : Gx s.1 s0 (insL K k).length d i (i + 1 + T) = decide (s.1 r ≠ 0 ∧ s.1 r + 1 = d) := by
          unfold Gx
          rw [hn]
        have b3 := ho.2.2.1 r
        have hif := iff (s.1 r) (by omega)
        dsimp only
        rw [if_neg (show ¬ nI r = -1 from nI_ne1 (by omega)), inb_nI (show r < 720 by omega) (by omega), Option.bind_some, hs1.1 r rl]
        by_cases z : s.1 r ≠ 0 ∧ s.1 r + 1 = d
        · refine Or.inr ⟨.inr (nI (i + 1 + T), h1), ?_, Or.inr ⟨i + 1 + T, h1, by omega, hj, by rw [eG, decide_eq_true z], q2, rfl, c2.trans q3, Fr_tr q4 c3⟩⟩
          rw [if_pos (hif.mpr z)]
          rfl
        · refine Or.inl ⟨(nI (i + 1 + T + 1), h1), ?_, rfl, c2.trans q3, Fr_tr q4 c3, ext _ eG (decide_eq_false z)⟩
          rw [if_neg (fun e => z (hif.mp e)), nI_1]
    · rintro ⟨t1, t2⟩ ⟨q1, q3, q4, q2⟩
      dsimp only at q1 q3 q4
      subst q1
      refine ⟨.inl t2, ?_, Or.inl ⟨t2, rfl, q3, q4, fun j h1 h2 => q2 j h1 (by omega)⟩⟩
      show b_X11_firstTwo_14_2 (sI d) (nI i) _ t2 = _
      unfold b_X11_firstTwo_14_2
      rw [(HH _ q4).1, if_pos (nI_le (by omega) (by omega))]
  have key := lp_inv (b := fun t : Int32 × Hp => b_X11_firstTwo_2 (sI d) t.1 t.2) (fun T t => t.1 = nI T ∧ aI t.2 83 = aI h 83 ∧ Fr (fun a => a = 83) noF h t.2 ∧ ∀ i j, i < T → i < j → j < (insL K k).length → Gx s.1 s0 (insL K k).length d i j = false) (fun e => (∃ g', e = .inl g' ∧ aI g' 83 = aI h 83 ∧ Fr (fun a => a = 83) noF h g' ∧ ∀ i j, i < j → j < (insL K k).length → Gx s.1 s0 (insL K k).length d i j = false) ∨ ∃ i j g', FP (Gx s.1 s0 (insL K k).length d) (insL K k).length i j ∧ e = .inr (nI i, nI j, g') ∧ aI g' 83 = aI h 83 ∧ Fr (fun a => a = 83) noF h g') (insL K k).length ((0 : Int32), h) (by omega) ⟨rfl, rfl, Fr_rfl, fun i j h1 => absurd h1 (Nat.not_lt_zero _)⟩ ?_ ?_
  · obtain ⟨e, k1, k2⟩ := key
    unfold f_X11_firstTwo
    rw [k1, Option.bind_some]
    rcases k2 with ⟨g', e1, e3, e4, e2⟩ | ⟨i, j, g', e1, e2, e3, e4⟩
    · subst e1
      exact ⟨-1, g', rfl, Or.inl ⟨rfl, e2⟩, e3, e4⟩
    · subst e2
      have hi : i < (insL K k).length := by have := e1.1; have := e1.2.1; omega
      have hj := e1.2.1
      refine ⟨nI (10 * (insL K k).getD i 0 + (insL K k).getD j 0), g', ?_, Or.inr ⟨i, j, e1, rfl⟩, e3, e4⟩
      rw [sc_r]
      dsimp only
      rw [inb_nI (show i < 6 by omega) (by omega), Option.bind_some, inb_nI (show j < 6 by omega) (by omega), Option.bind_some, (HH _ e4).2.2.1 i hi, (HH _ e4).2.2.1 j hj, l10_, pk_mul, nI_add]
  · rintro T ⟨t1, t2⟩ hT ⟨q1, q3, q4, q2⟩
    dsimp only at q1 q3 q4
    subst q1
    obtain ⟨e, z1, z2⟩ := inner T hT t2 q3 q4
    show (∃ s', b_X11_firstTwo_2 (sI d) (nI T) t2 = _ ∧ _) ∨ (∃ e, b_X11_firstTwo_2 (sI d) (nI T) t2 = _ ∧ _)
    unfold b_X11_firstTwo_2
    rw [(HH _ q4).1, if_neg (nI_ge hT (by omega)), nI_1, z1, Option.bind_some]
    rcases z2 with ⟨g', e1, e3, e4, e2⟩ | ⟨j, g', e1, e2, e3, e4, e5, e6, e7⟩
    · subst e1
      refine Or.inl ⟨(nI (T + 1), g'), by rw [sc_l], rfl, e3, e4, fun i j h1 h2 h3 => ?_⟩
      by_cases c : i = T
      · rw [c]; exact e2 j (by omega) h3
      · exact q2 i j (by omega) h2 h3
    · subst e5
      exact Or.inr ⟨.inr (nI T, nI j, g'), by rw [sc_r]; rfl, Or.inr ⟨T, j, g', ⟨e1, e2, e3, fun i' j' h1 h2 h3 => q2 i' j' h1 h2 h3, e4⟩, rfl, e6, e7⟩⟩
  · rintro ⟨t1, t2⟩ ⟨q1, q3, q4, q2⟩
    dsimp only at q1 q3 q4
    subst q1
    refine ⟨.inl t2, ?_, Or.inl ⟨t2, rfl, q3, q4, fun i j h1 h2 => q2 i j (by omega) h1 h2⟩⟩
    show b_X11_firstTwo_2 (sI d) (nI (insL K k).length) t2 = _
    unfold b_X11_firstTwo_2
    rw [(HH _ q4).1, if_pos (Int32.le_refl _)]
theorem far_tr (h6 : k ≤ 6) (n : Nat) : farS S (trK K) k n = farS S K k n := by
  have iT : insL (trK K) k = insL K k := insL_ag (trK_AG K) h6
  have plT : plL (trK K) k = plL K k := plL_ag (trK_AG K) h6
  have pT : ples S (trK K) k n = ples S K k n := by
    funext q
    exact ples_tr h6 n q
  have sT : ssq (trK K) k = ssq K k := by
    funext q i
    unfold ssq
    rw [iT, plT]
  have nT : Nq (trK K) k = Nq K k := by
    funext q i j
    unfold Nq
    rw [iT, sT]
  unfold farS moP
  rw [iT, pT, nT]
theorem rw_tr (hw : WF K k) : RwS (seatRow (trK K) k 6) (trK K) k (fun x => seatN K ((insL K k).getD x 0)) := by
  have h6 := hw.2.1
  refine rw_gen (WF_tr hw) (WF_tr hw) (fun x hx => ?_)
  rw [insL_ag (trK_AG K) h6] at hx ⊢
  obtain ⟨a1, a2⟩ := ins_at hw hx
  rw [trK_AG K _ (by omega)]
  exact seat_of hw a1 a2
theorem st_own (hw : WF K k) : StS K K k (fun x => seatN K ((insL K k).getD x 0)) := fun x hx => by
  obtain ⟨a1, a2⟩ := ins_at hw hx
  exact seat_of hw a1 a2
end FST
