/-! ===== simple facts of rooms, both sides ===== -/
theorem l1_ : ((1 : Int32)) = nI 1 := rfl
theorem l3_ : ((3 : Int32)) = nI 3 := rfl
theorem l6_ : ((6 : Int32)) = nI 6 := rfl
theorem l18_ : ((18 : Int32)) = nI 18 := rfl
theorem l25_ : ((25 : Int32)) = nI 25 := rfl
theorem l0_ : ((0 : Int32)) = nI 0 := rfl
def firstM (f : Nat → Bool) : Nat → Nat → Option Nat
  | 0, _ => none
  | m + 1, i => if f i = true then some i else firstM f m (i + 1)
theorem firstM_some {f : Nat → Bool} : ∀ {m i p : Nat}, firstM f m i = some p → i ≤ p ∧ p < i + m ∧ f p = true ∧ ∀ q, i ≤ q → q < p → f q = false
  | 0, i, p, h => by cases h
  | m + 1, i, p, h => by
    unfold firstM at h
    by_cases c : f i = true
    · rw [if_pos c] at h
      cases h
      exact ⟨Nat.le_refl _, by omega, c, fun q h1 h2 => by omega⟩
    · rw [if_neg c] at h
      obtain ⟨h1, h2, h3, h4⟩ := firstM_some h
      refine ⟨by omega, by omega, h3, fun q g1 g2 => ?_⟩
      by_cases e : q = i
      · subst e; simpa using c
      · exact h4 q (by omega) g2
theorem firstM_none {f : Nat → Bool} : ∀ {m i : Nat}, firstM f m i = none → ∀ q, i ≤ q → q < i + m → f q = false
  | 0, i, h, q, h1, h2 => by omega
  | m + 1, i, h, q, h1, h2 => by
    unfold firstM at h
    by_cases c : f i = true
    · rw [if_pos c] at h; cases h
    · rw [if_neg c] at h
      by_cases e : q = i
      · subst e; simpa using c
      · exact firstM_none h q (by omega) (by omega)
theorem lp_find {ε : Type} {b : Int32 → Option (Int32 ⊕ ε)} (f : Nat → Bool) (n : Nat) (fnd : Nat → ε) (miss : ε) (hn : n < 20000) (hs : ∀ i, i < n → f i = false → b (nI i) = some (.inl (nI (i + 1)))) (hf : ∀ i, i < n → f i = true → b (nI i) = some (.inr (fnd i))) (he : b (nI n) = some (.inr miss)) : lp b FU (nI 0) = some (match firstM f n 0 with
    | some i => fnd i
    | none => miss) := by
  cases hm : firstM f n 0 with
  | none =>
    have h1 := firstM_none hm
    exact lp_run (fun i => nI i) n _ hn (fun i hi => hs i hi (h1 i (Nat.zero_le _) (by omega))) he
  | some p =>
    obtain ⟨-, h2, h3, h4⟩ := firstM_some hm
    exact lp_run (fun i => nI i) p _ (by omega) (fun i hi => hs i (by omega) (h4 i (Nat.zero_le _) hi)) (hf p (by omega) h3)
section RM
variable {h : Hp} {r k : Nat} {K : Nat → Int32}
theorem k_sn (hr : RRh h r K) (hw : WF K k) : fI h r 0 = nI k := hr.1.trans hw.1
theorem k_has (hr : RRh h r K) (hw : WF K k) {p : Nat} (hp : p < k) : f_X6_has r (nI p) h = some true := by
  unfold f_X6_has
  have := hw.2.1
  rw [if_neg (nI_pos (by omega)), k_sn hr hw, if_neg (by rw [nI_le6 (by omega) (by omega)]; omega)]
theorem k_has0 (hr : RRh h r K) (hw : WF K k) {x : Int32} (hx : x < 0 ∨ nI k ≤ x) : f_X6_has r x h = some false := by
  unfold f_X6_has
  rw [k_sn hr hw]
  by_cases c : x < 0
  · rw [if_pos c]
  · rw [if_neg c, if_pos (hx.resolve_left c)]
theorem ix6 (hw : WF K k) (x : Int32) : (∃ p, p < k ∧ x = nI p) ∨ (x < 0 ∨ nI k ≤ x) := by
  have := hw.2.1
  rcases pk_ix x (n := k) (by omega) with h | h | h
  · exact Or.inr (Or.inl h)
  · exact Or.inr (Or.inr h)
  · exact Or.inl h
def insb (K : Nat → Int32) (p : Nat) : Bool := !decide (K (18 + p) = -1)
theorem k_isInside (hr : RRh h r K) (hw : WF K k) {p : Nat} (hp : p < k) : f_X6_isInside r (nI p) h = some (insb K p) := by
  unfold f_X6_isInside
  have h6 := hw.2.1
  rw [k_has hr hw hp, Option.bind_some, if_pos rfl, inb_nI (by omega) (by omega), Option.bind_some]
  rw [hr.2.2.2.1 p (by omega)]
  unfold insb
  by_cases c : K (18 + p) = -1
  · rw [if_pos c, decide_eq_true c]; rfl
  · rw [if_neg c, decide_eq_false c]; rfl
theorem k_isInside0 (hr : RRh h r K) (hw : WF K k) {x : Int32} (hx : x < 0 ∨ nI k ≤ x) : f_X6_isInside r x h = some false := by
  unfold f_X6_isInside
  rw [k_has0 hr hw hx]
  rfl
/-- who has a seat -/
def whoK (K : Nat → Int32) (k : Nat) (x : Int32) : Int32 := match firstM (fun p => decide (K (18 + p) = x)) k 0 with
  | some p => nI p
  | none => -1
theorem k_whoAt (hr : RRh h r K) (hw : WF K k) (x : Int32) : f_X6_whoAt r x h = some (if x = -1 then -1 else whoK K k x) := by
  have h6 := hw.2.1
  unfold f_X6_whoAt
  have key := lp_find (b := fun s => b_X6_whoAt_2 r x s h) (fun p => decide (K (18 + p) = x) && !decide (x = -1)) k (fun i => Sum.inr (nI i)) (Sum.inl ()) (by omega) ?_ ?_ ?_
  · rw [show ((0 : Int32)) = nI 0 from rfl, key]
    by_cases c : x = -1
    · rw [if_pos c]
      have e1 : firstM (fun p => decide (K (18 + p) = x) && !decide (x = -1)) k 0 = none := by
        cases hm : firstM (fun p => decide (K (18 + p) = x) && !decide (x = -1)) k 0 with
        | none => rfl
        | some p => have := (firstM_some hm).2.2.1; simp [c] at this
      rw [e1]
      rfl
    · rw [if_neg c]
      have e1 : (fun p => decide (K (18 + p) = x) && !decide (x = -1)) = fun p => decide (K (18 + p) = x) := by funext p; simp [c]
      rw [e1]
      unfold whoK
      cases firstM (fun p => decide (K (18 + p) = x)) k 0 <;> rfl
  · intro i hi hf
    unfold b_X6_whoAt_2
    rw [k_sn hr hw, if_neg (by rw [nI_le6 (by omega) (by omega)]; omega), inb_nI (by omega) (by omega)]
    show (if aI h (r + 3) i = x then _ else _) = _
    rw [hr.2.2.2.1 i (by omega), nI_1]
    by_cases c : K (18 + i) = x
    · rw [if_pos c]
      have c2 : x = -1 := by simpa [c] using hf
      rw [if_pos c2]
    · rw [if_neg c]
  · intro i hi hf
    unfold b_X6_whoAt_2
    rw [k_sn hr hw, if_neg (by rw [nI_le6 (by omega) (by omega)]; omega), inb_nI (by omega) (by omega)]
    show (if aI h (r + 3) i = x then _ else _) = _
    rw [hr.2.2.2.1 i (by omega)]
    simp only [Bool.and_eq_true, decide_eq_true_eq, Bool.not_eq_true', decide_eq_false_iff_not] at hf
    rw [if_pos hf.1, if_neg hf.2]
    rfl
  · unfold b_X6_whoAt_2
    rw [k_sn hr hw, if_pos (Int32.le_refl _)]
/-- how many p below n have f -/
def cntN (f : Nat → Bool) : Nat → Nat
  | 0 => 0
  | n + 1 => cntN f n + (if f n = true then 1 else 0)
theorem cnt_itr (f : Nat → Bool) : ∀ n, itr (fun (a : Int32) i => a + nI (if f i = true then 1 else 0)) n 0 (nI 0) = nI (cntN f n)
  | 0 => rfl
  | n + 1 => by
    rw [itr_succ, cnt_itr f n, Nat.zero_add, nI_add]
    rfl
theorem cntN_le (f : Nat → Bool) : ∀ n, cntN f n ≤ n
  | 0 => Nat.le_refl _
  | n + 1 => by
    have := cntN_le f n
    unfold cntN
    split <;> omega
theorem k_countInside (hr : RRh h r K) (hw : WF K k) : f_X6_countInside r h = some (nI (cntN (insb K) k)) := by
  have h6 := hw.2.1
  unfold f_X6_countInside
  have key := lp_fold (b := fun s => b_X6_countInside_4 r s.1 s.2 h) (fun (a : Int32) i => a + nI (if insb K i = true then 1 else 0)) (fun a => a) k (nI 0) (by omega) ?_ ?_
  · rw [show (((0 : Int32), (0 : Int32))) = (nI 0, nI 0) from rfl, key, cnt_itr]
    rfl
  · intro i a hi
    show b_X6_countInside_4 r a (nI i) h = _
    unfold b_X6_countInside_4
    rw [k_sn hr hw, if_neg (by rw [nI_le6 (by omega) (by omega)]; omega), inb_nI (by omega) (by omega)]
    show (if aI h (r + 3) i = -1 then _ else _) = _
    rw [hr.2.2.2.1 i (by omega)]
    unfold j_X6_countInside_28_4 f_X10_oneIf insb
    by_cases c : K (18 + i) = -1
    · rw [if_pos c, if_pos rfl, decide_eq_true c]
      show some (Sum.inl (a + 0, nI i + 1)) = _
      rw [l1_, nI_add]; rfl
    · rw [if_neg c, if_neg (by decide), decide_eq_false c]
      show some (Sum.inl (a + 1, nI i + 1)) = _
      rw [l1_, nI_add]; rfl
  · intro a
    show b_X6_countInside_4 r a (nI k) h = _
    unfold b_X6_countInside_4
    rw [k_sn hr hw, if_pos (Int32.le_refl _)]
/-- is what it wishes -/
def plsb (K : Nat → Int32) (p : Nat) : Bool := decide (nI (nat3 K p) = K (25 + p))
theorem k_contented (hr : RRh h r K) (hw : WF K k) : f_X6_contented r h = some (nI (cntN (plsb K) k)) := by
  have h6 := hw.2.1
  unfold f_X6_contented
  have key := lp_fold (b := fun s => b_X6_contented_4 r s.1 s.2 h) (fun (a : Int32) i => a + nI (if plsb K i = true then 1 else 0)) (fun a => a) k (nI 0) (by omega) ?_ ?_
  · rw [show (((0 : Int32), (0 : Int32))) = (nI 0, nI 0) from rfl, key, cnt_itr]
    rfl
  · intro i a hi
    show b_X6_contented_4 r a (nI i) h = _
    unfold b_X6_contented_4
    rw [k_sn hr hw, if_neg (by rw [nI_le6 (by omega) (by omega)]; omega), k_nationOf hr hw hi]
    show Option.bind (inb (nI i) 6) _ = _
    rw [inb_nI (by omega) (by omega)]
    show (if nI (nat3 K i) = aI h (r + 2) i then _ else _) = _
    rw [hr.2.2.1 i (by omega)]
    unfold j_X6_contented_32_4 f_X10_oneIf plsb
    by_cases c : nI (nat3 K i) = K (25 + i)
    · rw [if_pos c, if_neg (by decide), decide_eq_true c]
      show some (Sum.inl (a + 1, nI i + 1)) = _
      rw [l1_, nI_add]; rfl
    · rw [if_neg c, if_pos rfl, decide_eq_false c]
      show some (Sum.inl (a + 0, nI i + 1)) = _
      rw [l1_, nI_add]; rfl
  · intro a
    show b_X6_contented_4 r a (nI k) h = _
    unfold b_X6_contented_4
    rw [k_sn hr hw, if_pos (Int32.le_refl _)]
end RM
/-! ===== the reference's ===== -/
section MM
variable {h : Hp} {k : Nat}
theorem m_many (hw : WF (aI h 83) k) : f_X11_many h = some (nI k) := by
  show some (aI h 83 51) = _
  rw [hw.1]
theorem m_inb {a i n : Nat} (hn : a + i < n) (hn2 : n < 2 ^ 31) : inb (nI a + nI i) n = some (a + i) := by rw [nI_add]; exact inb_nI hn hn2
theorem m_partsOf {p n : Nat} (hp : p < 6) (hn : n < 3) : f_X11_partsOf (nI p) (nI n) h = some (aI h 83 (3 * p + n)) := by
  unfold f_X11_partsOf
  rw [l0_, l3_, pk_mul, nI_add, nI_add, Nat.zero_add, inb_nI (by omega) (by omega)]
  rfl
theorem m_seatOf {p : Nat} (hp : p < 6) : f_X11_seatOf (nI p) h = some (aI h 83 (18 + p)) := by
  unfold f_X11_seatOf
  rw [l18_, m_inb (by omega) (by omega)]
  rfl
theorem m_isInside {p : Nat} (hp : p < 6) : f_X11_isInside (nI p) h = some (insb (aI h 83) p) := by
  unfold f_X11_isInside
  rw [l18_, m_inb (by omega) (by omega)]
  show (if aI h 83 (18 + p) = -1 then _ else _) = _
  unfold insb
  by_cases c : aI h 83 (18 + p) = -1
  · rw [if_pos c, decide_eq_true c]; rfl
  · rw [if_neg c, decide_eq_false c]; rfl
theorem m_isSitter (hw : WF (aI h 83) k) {p : Nat} (hp : p < k) : f_X11_isSitter (nI p) h = some true := by
  have h6 := hw.2.1
  unfold f_X11_isSitter
  rw [m_many hw]
  show Option.bind (f_X11_lies (nI p) 0 (nI k - 1)) _ = _
  unfold f_X11_lies
  rw [if_neg (nI_pos (by omega)), l1_, pk_sub (by omega), if_neg (by rw [nI_lt6 (by omega) (by omega)]; omega)]
  rfl
theorem m_isSitter0 (hw : WF (aI h 83) k) {x : Int32} (hx : x < 0 ∨ nI k ≤ x) : f_X11_isSitter x h = some false := by
  have h6 := hw.2.1
  unfold f_X11_isSitter
  rw [m_many hw]
  show Option.bind (f_X11_lies x 0 (nI k - 1)) _ = _
  unfold f_X11_lies
  by_cases c : x < 0
  · rw [if_pos c]; rfl
  · have h2 := hx.resolve_left c
    rw [if_neg c, if_pos]
    · rfl
    · rw [Int32.lt_iff_toInt_lt]
      rw [Int32.le_iff_toInt_le, nI_toInt (by omega)] at h2
      have : (nI k - 1).toInt = (k : Int) - 1 := by rw [l1_, pk_sub_toInt (by omega) (by omega)]; rfl
      omega
theorem m_nationOf {p : Nat} (hp : p < 6) : f_X11_nationOf (nI p) h = some (nI (nat3 (aI h 83) p)) := by
  have step : ∀ best n, best < 3 → n < 3 → b_X11_nationOf_4 (nI p) (nI best) (nI n) h = some (.inl (if aI h 83 (3 * p + n) ≤ aI h 83 (3 * p + best) then nI best else nI n, nI (n + 1))) := by
    intro best n hb hn
    unfold b_X11_nationOf_4
    rw [if_neg (by rw [l3_, nI_le6 (by omega) (by omega)]; omega), m_partsOf hp hn, m_partsOf hp hb]
    show (if aI h 83 (3 * p + n) ≤ aI h 83 (3 * p + best) then _ else _) = _
    split <;> rw [l1_, nI_add]
  unfold f_X11_nationOf
  have l1 : lp (fun s => b_X11_nationOf_4 (nI p) s.1 s.2 h) FU ((0 : Int32), (1 : Int32)) = some (nI (nat3 (aI h 83) p)) := by
    refine lp_run (fun i => if i = 0 then ((0 : Int32), (1 : Int32)) else if i = 1 then ((if aI h 83 (3 * p + 1) ≤ aI h 83 (3 * p) then nI 0 else nI 1), nI 2) else (nI (nat3 (aI h 83) p), nI 3)) 2 _ (by decide) (fun i hi => ?_) ?_
    · match i, hi with
      | 0, _ => exact step 0 1 (by decide) (by decide)
      | 1, _ =>
        show b_X11_nationOf_4 (nI p) (if aI h 83 (3 * p + 1) ≤ aI h 83 (3 * p) then nI 0 else nI 1) (nI 2) h = _
        show _ = some (Sum.inl (nI (nat3 (aI h 83) p), nI 3))
        by_cases c : aI h 83 (3 * p + 1) ≤ aI h 83 (3 * p)
        · rw [if_pos c, step 0 2 (by decide) (by decide)]
          unfold nat3
          rw [if_pos c]
          show some (Sum.inl (if aI h 83 (3 * p + 2) ≤ aI h 83 (3 * p) then nI 0 else nI 2, nI 3)) = _
          split <;> rfl
        · rw [if_neg c, step 1 2 (by decide) (by decide)]
          unfold nat3
          rw [if_neg c]
          split <;> rfl
    · show b_X11_nationOf_4 (nI p) (nI (nat3 (aI h 83) p)) (nI 3) h = _
      unfold b_X11_nationOf_4
      rw [if_pos (by decide)]
  rw [l1]
  rfl
theorem m_insideMany (hw : WF (aI h 83) k) : f_X11_insideMany h = some (nI (cntN (insb (aI h 83)) k)) := by
  have h6 := hw.2.1
  unfold f_X11_insideMany
  have key := lp_fold (b := fun s => b_X11_insideMany_4 s.1 s.2 h) (fun (a : Int32) i => a + nI (if insb (aI h 83) i = true then 1 else 0)) (fun a => a) k (nI 0) (by omega) ?_ ?_
  · rw [show (((0 : Int32), (0 : Int32))) = (nI 0, nI 0) from rfl, key, cnt_itr]
    rfl
  · intro i a hi
    show b_X11_insideMany_4 a (nI i) h = _
    unfold b_X11_insideMany_4
    rw [m_many hw]
    show (if nI k ≤ nI i then _ else _) = _
    rw [if_neg (by rw [nI_le6 (by omega) (by omega)]; omega), m_isInside (by omega)]
    show (if insb (aI h 83) i = true then _ else _) = _
    unfold j_X11_insideMany_26_4
    split <;> (rw [nI_1]; try rfl)
  · intro a
    show b_X11_insideMany_4 a (nI k) h = _
    unfold b_X11_insideMany_4
    rw [m_many hw]
    show (if nI k ≤ nI k then _ else _) = _
    rw [if_pos (Int32.le_refl _)]
theorem m_pleasedMany (hw : WF (aI h 83) k) : f_X11_pleasedMany h = some (nI (cntN (plsb (aI h 83)) k)) := by
  have h6 := hw.2.1
  unfold f_X11_pleasedMany
  have key := lp_fold (b := fun s => b_X11_pleasedMany_4 s.1 s.2 h) (fun (a : Int32) i => a + nI (if plsb (aI h 83) i = true then 1 else 0)) (fun a => a) k (nI 0) (by omega) ?_ ?_
  · rw [show (((0 : Int32), (0 : Int32))) = (nI 0, nI 0) from rfl, key, cnt_itr]
    rfl
  · intro i a hi
    show b_X11_pleasedMany_4 a (nI i) h = _
    unfold b_X11_pleasedMany_4
    rw [m_many hw]
    show (if nI k ≤ nI i then _ else _) = _
    rw [if_neg (by rw [nI_le6 (by omega) (by omega)]; omega), m_nationOf (by omega)]
    show Option.bind (inb (25 + nI i) 5662) _ = _
    rw [l25_, m_inb (by omega) (by omega)]
    show (if nI (nat3 (aI h 83) i) = aI h 83 (25 + i) then _ else _) = _
    unfold j_X11_pleasedMany_35_4 plsb
    by_cases c : nI (nat3 (aI h 83) i) = aI h 83 (25 + i)
    · rw [if_pos c, decide_eq_true c, l1_, nI_add]; rfl
    · rw [if_neg c, decide_eq_false c, l1_, nI_add]; rfl
  · intro a
    show b_X11_pleasedMany_4 a (nI k) h = _
    unfold b_X11_pleasedMany_4
    rw [m_many hw]
    show (if nI k ≤ nI k then _ else _) = _
    rw [if_pos (Int32.le_refl _)]
end MM
