/-! ===== images ===== -/
def chF (r : Nat) (a j : Nat) : Prop := a = r ∧ (j = 3 ∨ j = 4 ∨ j = 6) ∨ a = r + 1 ∧ j = 0
def chA (r : Nat) (a : Nat) : Prop := r + 2 ≤ a ∧ a ≤ r + 5 ∨ a = r + 7
/-- all stays but the house r -/
def HFr (r : Nat) (h h' : Hp) : Prop := (∀ a j, ¬ chF r a j → fI h' a j = fI h a j) ∧ (∀ a, ¬ chA r a → aI h' a = aI h a) ∧ (∀ a, ¬ chA r a → aL h' a = aL h a) ∧ (∀ a, a ≠ r + 6 → aO h' a = aO h a) ∧ (∀ a, ln h' a = ln h a) ∧ sz h' = sz h
theorem aO_s {h : Hp} {a k : Nat} {x : Option Nat} : aO (sO h a k x) a k = x := by
  show (if a = a then (if k = k then x else _) else _) = x
  rw [if_pos rfl, if_pos rfl]
theorem aO_n {h : Hp} {a k j : Nat} {x : Option Nat} (e : j ≠ k) : aO (sO h a k x) a j = aO h a j := by
  show (if a = a then (if j = k then x else _) else _) = _
  rw [if_pos rfl, if_neg e]
  rfl
theorem aO_o {h : Hp} {a k b : Nat} {x : Option Nat} (e : b ≠ a) : aO (sO h a k x) b = aO h b := by
  funext j
  show (if b = a then (if j = k then x else _) else _) = _
  rw [if_neg e]
  rfl
theorem tg_sz {h h' : Hp} (e : sz h' = sz h) (a : Nat) : tg h' a = tg h a := by unfold tg; rw [e]
/-- the same but for the references of one array -/
def OFr (b : Nat) (h h' : Hp) : Prop := (∀ a j, fI h' a j = fI h a j) ∧ (∀ a, aI h' a = aI h a) ∧ (∀ a, aL h' a = aL h a) ∧ (∀ a, a ≠ b → aO h' a = aO h a) ∧ (∀ a, ln h' a = ln h a) ∧ sz h' = sz h
theorem c_refs {h : Hp} {r s : Nat} (hrs : r ≠ s) (ho : ∀ t, t < 6 → aO h (s + 6) t = none ∨ ∃ a, aO h (s + 6) t = some a ∧ tg h a = true) : ∃ h', lp (fun q => b_X1_copyFrom_13 r s q.1 q.2) FU ((0 : Int32), h) = some h' ∧ (∀ t, t < 6 → aO h' (r + 6) t = aO h (s + 6) t) ∧ OFr (r + 6) h h' := by
  have key := lp_inv (b := fun q : Int32 × Hp => b_X1_copyFrom_13 r s q.1 q.2) (fun i q => q.1 = nI i ∧ (∀ t, t < i → aO q.2 (r + 6) t = aO h (s + 6) t) ∧ OFr (r + 6) h q.2) (fun e => (∀ t, t < 6 → aO e (r + 6) t = aO h (s + 6) t) ∧ OFr (r + 6) h e) 6 ((0 : Int32), h) (by omega) ⟨rfl, fun t ht => absurd ht (Nat.not_lt_zero _), fun _ _ => rfl, fun _ => rfl, fun _ => rfl, fun _ _ => rfl, fun _ => rfl, rfl⟩ ?_ ?_
  · obtain ⟨e, k1, k2, k3⟩ := key
    exact ⟨e, k1, k2, k3⟩
  · intro i q hi ⟨p1, p2, p3⟩
    have es : aO q.2 (s + 6) i = aO h (s + 6) i := by rw [p3.2.2.2.1 (s + 6) (by omega)]
    have st : ∀ x, b_X1_copyFrom_13 r s q.1 q.2 = some (.inl (nI (i + 1), sO q.2 (r + 6) i x)) → x = aO h (s + 6) i → ∃ q', b_X1_copyFrom_13 r s q.1 q.2 = some (.inl q') ∧ q'.1 = nI (i + 1) ∧ (∀ t, t < i + 1 → aO q'.2 (r + 6) t = aO h (s + 6) t) ∧ OFr (r + 6) h q'.2 := by
      intro x e ex
      refine ⟨_, e, rfl, fun t ht => ?_, p3.1, p3.2.1, p3.2.2.1, fun a ha => ?_, p3.2.2.2.2.1, p3.2.2.2.2.2⟩
      · show aO (sO q.2 (r + 6) i x) (r + 6) t = _
        by_cases c : t = i
        · rw [c, aO_s, ex]
        · rw [aO_n c]; exact p2 t (by omega)
      · show aO (sO q.2 (r + 6) i x) a = _
        rw [aO_o ha]; exact p3.2.2.2.1 a ha
    refine Or.inl ?_
    rcases ho i hi with c | ⟨a, c, d⟩
    · refine st none ?_ c.symm
      unfold b_X1_copyFrom_13
      rw [p1, if_neg (show ¬ (6 : Int32) ≤ nI i by rw [l6_, nI_le6 (by omega) (by omega)]; omega), inb_nI hi (by omega), Option.bind_some, es, c, nI_1]
      rfl
    · refine st (some a) ?_ c.symm
      unfold b_X1_copyFrom_13
      rw [p1, if_neg (show ¬ (6 : Int32) ≤ nI i by rw [l6_, nI_le6 (by omega) (by omega)]; omega), inb_nI hi (by omega), Option.bind_some, es, c, nI_1]
      show (if tg q.2 a = true then _ else _) = _
      rw [if_pos (by rw [tg_sz p3.2.2.2.2.2]; exact d)]
      rfl
  · intro q ⟨p1, p2, p3⟩
    refine ⟨q.2, ?_, p2, p3⟩
    show b_X1_copyFrom_13 r s q.1 q.2 = _
    unfold b_X1_copyFrom_13
    rw [p1, if_pos (show (6 : Int32) ≤ nI 6 by decide)]
theorem c_house {h : Hp} {r s : Nat} {K : Nat → Int32} {sm lc : Nat} {L : LDt} (hh : HR h s K sm lc L) (hrs : r + 8 ≤ s ∨ s + 8 ≤ r) (hr : r + 8 ≤ 110) (h28 : ln h 28 = 0) (hL : ∀ t, t < lc → 0 < ldN L t) (hlc : lc ≤ 6) : ∃ h', f_X1_copyFrom r s h = some ((), h') ∧ HR h' r K sm lc L ∧ HFr r h h' := by
  obtain ⟨r1, r2, r3, r4, r5, r6, r7⟩ := hh
  obtain ⟨g, a1, a2, a3⟩ := c_copy (r := r + 1) (s := s + 1) r1 (by omega)
  have ho : ∀ t, t < 6 → aO g (s + 6) t = none ∨ ∃ a, aO g (s + 6) t = some a ∧ tg g a = true := by
    intro t ht
    rw [a3.2.2.2.1]
    by_cases c : t < lc
    · obtain ⟨a, e1, e2⟩ := r5 t c
      exact Or.inr ⟨a, e1, by rw [tg_sz a3.2.2.2.2.2]; exact e2.2.1⟩
    · exact Or.inl (r6 t (by omega) ht)
  obtain ⟨e, b1, b2, b3⟩ := c_refs (r := r) (s := s) (by omega) ho
  have q3 : fI e s 3 = nI lc := by rw [b3.1, a3.1 _ _ (by omega)]; exact r4
  have q4 : fI e s 4 = K 54 := by rw [b3.1, a3.1 _ _ (by omega)]; exact r7
  have q6 : fI e s 6 = nI sm := by rw [b3.1, a3.1 _ _ (by omega)]; exact r2
  have q7 : ∀ i, i < 18 → aI e (s + 7) i = K (31 + i) := fun i hi => by rw [b3.2.1, a3.2.1 _ (by omega)]; exact r3 i hi
  have eq : f_X1_copyFrom r s h = some ((), sF (cpA (sF (sF e r 3 (nI lc)) r 4 (K 54)) (s + 7) 0 (r + 7) 0 18) r 6 (nI sm)) := by
    unfold f_X1_copyFrom
    rw [a1, Option.bind_some, b1, Option.bind_some, q3, fI_n (show ¬ (s = r ∧ 4 = 3) by omega), q4]
    show some ((), sF (cpA (sF (sF e r 3 (nI lc)) r 4 (K 54)) (s + 7) 0 (r + 7) 0 18) r 6 (fI (cpA (sF (sF e r 3 (nI lc)) r 4 (K 54)) (s + 7) 0 (r + 7) 0 18) s 6)) = _
    rw [ps_fC, fI_n (by omega), fI_n (by omega), q6]
  have HF : HFr r h (sF (cpA (sF (sF e r 3 (nI lc)) r 4 (K 54)) (s + 7) 0 (r + 7) 0 18) r 6 (nI sm)) := by
    refine ⟨fun a j c => ?_, fun a c => ?_, fun a c => ?_, fun a c => ?_, fun a => ?_, ?_⟩
    · unfold chF at c
      rw [fI_n (by omega), ps_fC, fI_n (by omega), fI_n (by omega), b3.1, a3.1 _ _ (by omega)]
    · unfold chA at c
      rw [ps_aF, ps_aCn _ _ _ _ _ _ _ (by omega), ps_aF, ps_aF, b3.2.1, a3.2.1 _ (by omega)]
    · unfold chA at c
      show aL e a = _
      rw [b3.2.2.1, a3.2.2.1 _ (by omega)]
    · show aO e a = _
      rw [b3.2.2.2.1 a c, a3.2.2.2.1]
    · show ln e a = _
      rw [b3.2.2.2.2.1, a3.2.2.2.2.1]
    · show sz e = _
      rw [b3.2.2.2.2.2, a3.2.2.2.2.2]
  refine ⟨_, eq, ?_, HF⟩
  refine ⟨?_, fI_s, fun i hi => ?_, ?_, fun t ht => ?_, fun t h1 h2 => ?_, ?_⟩
  · obtain ⟨u1, u2, u3, u4, u5, u6, u7⟩ := a2
    refine ⟨?_, fun i hi => ?_, fun i hi => ?_, fun i hi => ?_, ?_, ?_, ?_⟩
    · rw [fI_n (by omega), ps_fC, fI_n (by omega), fI_n (by omega), b3.1]; exact u1
    · rw [ps_aF, ps_aCn _ _ _ _ _ _ _ (by omega), ps_aF, ps_aF, b3.2.1]; exact u2 i hi
    · rw [ps_aF, ps_aCn _ _ _ _ _ _ _ (by omega), ps_aF, ps_aF, b3.2.1]; exact u3 i hi
    · rw [ps_aF, ps_aCn _ _ _ _ _ _ _ (by omega), ps_aF, ps_aF, b3.2.1]; exact u4 i hi
    · rw [ps_aF, ps_aCn _ _ _ _ _ _ _ (by omega), ps_aF, ps_aF, b3.2.1]; exact u5
    · rw [ps_aF, ps_aCn _ _ _ _ _ _ _ (by omega), ps_aF, ps_aF, b3.2.1]; exact u6
    · rw [ps_aF, ps_aCn _ _ _ _ _ _ _ (by omega), ps_aF, ps_aF, b3.2.1]; exact u7
  · rw [ps_aF, ps_aCs, pk_cpy_in (by omega) (by omega), ps_aF, ps_aF, Nat.zero_add, Nat.sub_zero]; exact q7 i hi
  · rw [fI_n (by omega), ps_fC, fI_n (by omega), fI_s]
  · obtain ⟨a, e1, e2⟩ := r5 t ht
    have h110 := tx26 e2 (hL t ht) h28
    refine ⟨a, ?_, TxI_kp e2 h110 ⟨fun b j c _ => HF.1 b j (by unfold chF; omega), fun b c _ => HF.2.1 b (by unfold chA; omega), fun b _ => HF.2.2.2.2.1 b, Nat.le_of_eq HF.2.2.2.2.2.symm⟩⟩
    show aO e (r + 6) t = _
    rw [b2 t (by omega), a3.2.2.2.1]
    exact e1
  · show aO e (r + 6) t = _
    rw [b2 t h2, a3.2.2.2.1]
    exact r6 t h1 h2
  · rw [fI_n (by omega), ps_fC, fI_s]
