/-! ===== a row of sitters from the tape ===== -/
theorem sF_id {h : Hp} {a k : Nat} {x : Int32} (e : fI h a k = x) : sF h a k x = h := by
  refine Prod.ext ?_ rfl
  funext b j
  show (if b = a then (if j = k then x else h.1 b j) else h.1 b j) = h.1 b j
  by_cases c : b = a
  · rw [if_pos c]
    by_cases d : j = k
    · rw [if_pos d, c, d, ← e]; rfl
    · rw [if_neg d]
  · rw [if_neg c]
theorem refu2 {n : Nat} {h : Hp} (hI : INV n h) {x : Int32} {j : Nat} (hx : rfz x j) {C M : Hp → Option (Int32 × Hp)} (e1 : C h = f_X10_answer x h) (e2 : ∀ h1, aI h1 83 = aI h 83 → (∀ j, fI h1 81 j = fI h 81 j) → M h1 = f_X11_refuses x h1) : ∃ r h1 h2, C h = some (r, h1) ∧ M h1 = some (r, h2) ∧ INV (n + 1) h2 := by
  obtain ⟨r, h1, h2, g1, g2, g3⟩ := op_ref hI hx
  refine ⟨r, h1, h2, by rw [e1]; exact g1, ?_, g3⟩
  rw [c_ansR hx] at g1
  have this : sA (sF h 0 19 x) 25 j (aI h 25 j + 1) = h1 := congrArg Prod.snd (Option.some.inj g1)
  rw [e2 h1 ?_ ?_]
  · exact g2
  · rw [← this]
    show aI (sA (sF h 0 19 x) 25 j (aI h 25 j + 1)) 83 = aI h 83
    exact ps_aAn _ _ _ _ _ (by omega)
  · intro i
    rw [← this, ps_fA, fI_n (by omega)]
def cbt (bt : Nat → Nat) (g : Nat) : Bool := decide (bt (4 * g) < 100 ∧ bt (4 * g + 1) < 100 ∧ bt (4 * g + 2) < 100 ∧ bt (4 * g + 3) < 3)
theorem can_t {a b c w : Nat} (ha : a < 256) (hb : b < 256) (hc : c < 256) (hw : w < 256) : (a < 100 ∧ b < 100 ∧ c < 100 ∧ w < 3 ∧ f_X10_canBeSitter (nI a) (nI b) (nI c) (nI w) = some true ∧ f_X11_canBe (sb a) (sb b) (sb c) (sb w) = some true ∧ sb a = nI a ∧ sb b = nI b ∧ sb c = nI c ∧ sb w = nI w) ∨ (¬ (a < 100 ∧ b < 100 ∧ c < 100 ∧ w < 3) ∧ f_X10_canBeSitter (nI a) (nI b) (nI c) (nI w) = some false ∧ f_X11_canBe (sb a) (sb b) (sb c) (sb w) = some false) := by
  have ne : ∀ {x y : Nat}, x < 256 → y < 100 → nI x = nI y → x = y := fun h1 h2 e => (nI_eq (by omega) (by omega)).mp e
  rcases can_be (nI a) (nI b) (nI c) (nI w) with ⟨a', b', c', w', p1, p2, p3, p4, e1, e2, e3, e4, q1, q2⟩ | ⟨q1, q2⟩
  · have a1 := ne ha p1 e1
    have a2 := ne hb p2 e2
    have a3 := ne hc p3 e3
    have a4 := ne hw (by omega) e4
    have s1 : sb a = nI a := sb_lo a (by omega)
    have s2 : sb b = nI b := sb_lo b (by omega)
    have s3 : sb c = nI c := sb_lo c (by omega)
    have s4 : sb w = nI w := sb_lo w (by omega)
    refine Or.inl ⟨by omega, by omega, by omega, by omega, q1, ?_, s1, s2, s3, s4⟩
    rw [s1, s2, s3, s4]
    exact q2
  · rcases can_be (sb a) (sb b) (sb c) (sb w) with ⟨a', b', c', w', p1, p2, p3, p4, e1, e2, e3, e4, r1, r2⟩ | ⟨r1, r2⟩
    · have a1 := (sb_eq a ha a' (by omega)).mp e1.symm
      have a2 := (sb_eq b hb b' (by omega)).mp e2.symm
      have a3 := (sb_eq c hc c' (by omega)).mp e3.symm
      have a4 := (sb_eq w hw w' (by omega)).mp e4.symm
      rw [e1, e2, e3, e4, ← a1, ← a2, ← a3, ← a4] at r1
      rw [q1] at r1
      exact absurd (Option.some.inj r1) Bool.false_ne_true
    · refine Or.inr ⟨?_, q1, r2⟩
      rintro ⟨b1, b2, b3, b4⟩
      rw [sb_lo a (by omega), sb_lo b (by omega), sb_lo c (by omega), sb_lo w (by omega), q2] at r2
      rcases can_be (nI a) (nI b) (nI c) (nI w) with ⟨a', b', c', w', p1, p2, p3, p4, e1, e2, e3, e4, t1, t2⟩ | ⟨t1, t2⟩
      · rw [q1] at t1
        exact absurd (Option.some.inj t1) Bool.false_ne_true
      · have l99 : ((99 : Int32)) = nI 99 := rfl
        have : f_X11_canBe (nI a) (nI b) (nI c) (nI w) = some true := by
          unfold f_X11_canBe
          rw [l99, lies_n (by omega) (by omega), Option.bind_some, if_pos rfl, lies_n (by omega) (by omega), Option.bind_some, if_pos rfl, lies_n (by omega) (by omega), Option.bind_some, if_pos rfl, m_isNat, lies_n (by omega) (by omega), Option.bind_some, if_pos rfl]
        rw [this] at t2
        exact absurd (Option.some.inj t2).symm Bool.false_ne_true
def rwN (bt : Nat → Nat) (k : Nat) : Nat → Nat
  | 0 => k
  | g + 1 => if (decide (rwN bt k g < 6) && cbt bt g) = true then rwN bt k g + 1 else rwN bt k g
def rwK (bt : Nat → Nat) (k : Nat) (K : Nat → Int32) : Nat → (Nat → Int32)
  | 0 => K
  | g + 1 => if (decide (rwN bt k g < 6) && cbt bt g) = true then sitK (rwK bt k K g) (rwN bt k g) (nI (bt (4 * g))) (nI (bt (4 * g + 1))) (nI (bt (4 * g + 2))) (nI (bt (4 * g + 3))) else rwK bt k K g
theorem rw_yes {bt : Nat → Nat} {k g : Nat} (K : Nat → Int32) (h1 : rwN bt k g < 6) (h2 : cbt bt g = true) : rwN bt k (g + 1) = rwN bt k g + 1 ∧ rwK bt k K (g + 1) = sitK (rwK bt k K g) (rwN bt k g) (nI (bt (4 * g))) (nI (bt (4 * g + 1))) (nI (bt (4 * g + 2))) (nI (bt (4 * g + 3))) := by
  have e : (decide (rwN bt k g < 6) && cbt bt g) = true := by rw [decide_eq_true h1, h2]; rfl
  constructor
  · show (if _ then _ else _) = _
    rw [if_pos e]
  · show (if _ then _ else _) = _
    rw [if_pos e]
theorem rw_no {bt : Nat → Nat} {k g : Nat} (K : Nat → Int32) (h : ¬ rwN bt k g < 6 ∨ cbt bt g = false) : rwN bt k (g + 1) = rwN bt k g ∧ rwK bt k K (g + 1) = rwK bt k K g := by
  have e : ¬ (decide (rwN bt k g < 6) && cbt bt g) = true := by
    rcases h with h | h
    · rw [decide_eq_false h]; exact Bool.false_ne_true
    · rw [h, Bool.and_false]; exact Bool.false_ne_true
  constructor
  · show (if _ then _ else _) = _
    rw [if_neg e]
  · show (if _ then _ else _) = _
    rw [if_neg e]
theorem rw_ok {bt : Nat → Nat} {k : Nat} {K : Nat → Int32} (hw : WF K k) : ∀ g, WF (rwK bt k K g) (rwN bt k g) ∧ k ≤ rwN bt k g ∧ rwN bt k g ≤ k + g ∧ (∀ i, 31 ≤ i → i ≠ 51 → rwK bt k K g i = K i) ∧ rwK bt k K g 24 = K 24
  | 0 => ⟨hw, Nat.le_refl _, Nat.le_refl _, fun _ _ _ => rfl, rfl⟩
  | g + 1 => by
    obtain ⟨a1, a2, a3, a4, a5⟩ := rw_ok hw g
    by_cases c1 : rwN bt k g < 6
    · cases c2 : cbt bt g with
      | true =>
        obtain ⟨e1, e2⟩ := rw_yes K c1 c2
        have c3 : bt (4 * g) < 100 ∧ bt (4 * g + 1) < 100 ∧ bt (4 * g + 2) < 100 ∧ bt (4 * g + 3) < 3 := of_decide_eq_true c2
        rw [e1, e2]
        exact ⟨WF_sit a1 c1 c3.1 c3.2.1 c3.2.2.1 c3.2.2.2, by omega, by omega, fun i h1 h2 => by rw [sitK_o (by omega) (by omega) (by omega) h2]; exact a4 i h1 h2, by rw [sitK_o (by omega) (by omega) (by omega) (by omega)]; exact a5⟩
      | false =>
        obtain ⟨e1, e2⟩ := rw_no K (Or.inr c2)
        rw [e1, e2]
        exact ⟨a1, a2, by omega, a4, a5⟩
    · obtain ⟨e1, e2⟩ := rw_no K (Or.inl c1)
      rw [e1, e2]
      exact ⟨a1, a2, by omega, a4, a5⟩
