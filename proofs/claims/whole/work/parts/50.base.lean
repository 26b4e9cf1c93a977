/-! ===== reading behind writing ===== -/
section PB
variable (h : Hp) (a b i j k : Nat) (x : Int32)
theorem ps_fF : fI (sF h a k x) b j = if b = a then (if j = k then x else fI h b j) else fI h b j := rfl
theorem ps_fA : fI (sA h a k x) b j = fI h b j := rfl
theorem ps_fL (y : Int64) : fI (sL h a k y) b j = fI h b j := rfl
theorem ps_fO (y : Option Nat) : fI (sO h a k y) b j = fI h b j := rfl
theorem ps_fC (s p d q n : Nat) : fI (cpA h s p d q n) b j = fI h b j := rfl
theorem ps_aA : aI (sA h a k x) b j = if b = a then (if j = k then x else aI h b j) else aI h b j := rfl
theorem ps_aF : aI (sF h a k x) b = aI h b := rfl
theorem ps_aL (y : Int64) : aI (sL h a k y) b = aI h b := rfl
theorem ps_aO (y : Option Nat) : aI (sO h a k y) b = aI h b := rfl
theorem ps_aAs : aI (sA h a k x) a = upd (aI h a) k x := aI_sA
theorem ps_aAn (hb : b ≠ a) : aI (sA h a k x) b = aI h b := by
  funext z
  show (if b = a then _ else aI h b z) = _
  rw [if_neg hb]
theorem ps_aCs (s p d q n : Nat) : aI (cpA h s p d q n) d = va_cpy (aI h s) (aI h d) p q n := aI_cpA
theorem ps_aCn (s p d q n : Nat) (hb : b ≠ d) : aI (cpA h s p d q n) b = aI h b := by
  funext z
  show (if b = d then _ else aI h b z) = _
  rw [if_neg hb]
theorem ps_lF : aL (sF h a k x) b = aL h b := rfl
theorem ps_lA : aL (sA h a k x) b = aL h b := rfl
theorem ps_lC (s p d q n : Nat) : aL (cpA h s p d q n) b = aL h b := rfl
theorem ps_oF : aO (sF h a k x) b = aO h b := rfl
theorem ps_oA : aO (sA h a k x) b = aO h b := rfl
theorem ps_oL (y : Int64) : aO (sL h a k y) b = aO h b := rfl
theorem ps_oC (s p d q n : Nat) : aO (cpA h s p d q n) b = aO h b := rfl
theorem ps_nF : ln (sF h a k x) b = ln h b := rfl
theorem ps_nA : ln (sA h a k x) b = ln h b := rfl
theorem ps_nL (y : Int64) : ln (sL h a k y) b = ln h b := rfl
theorem ps_nO (y : Option Nat) : ln (sO h a k y) b = ln h b := rfl
theorem ps_nC (s p d q n : Nat) : ln (cpA h s p d q n) b = ln h b := rfl
theorem ps_sF : sz (sF h a k x) = sz h := rfl
theorem ps_sA : sz (sA h a k x) = sz h := rfl
theorem ps_sL (y : Int64) : sz (sL h a k y) = sz h := rfl
theorem ps_sO (y : Option Nat) : sz (sO h a k y) = sz h := rfl
theorem ps_sC (s p d q n : Nat) : sz (cpA h s p d q n) = sz h := rfl
end PB
/-! ===== loops that count ===== -/
def itr {α : Type} (g : α → Nat → α) : Nat → Nat → α → α
  | 0, _, a => a
  | n + 1, i, a => itr g n (i + 1) (g a i)
theorem itr_succ {α : Type} (g : α → Nat → α) : ∀ (n i : Nat) (a : α), itr g (n + 1) i a = g (itr g n i a) (i + n)
  | 0, i, a => rfl
  | n + 1, i, a => by
    show itr g (n + 1) (i + 1) (g a i) = _
    rw [itr_succ g n (i + 1) (g a i), show i + 1 + n = i + (n + 1) by omega]
    rfl
/-- states S i, i = 0 .. n; the loop ends at the n-th -/
theorem lp_states {σ ε : Type} {b : σ → Option (σ ⊕ ε)} (S : Nat → σ) (n : Nat) (e : ε) (hs : ∀ i, i < n → b (S i) = some (.inl (S (i + 1)))) (he : b (S n) = some (.inr e)) : ∀ (m i f : Nat), i + m = n → m < f → lp b f (S i) = some e
  | 0, i, f, hi, hf => by
    obtain ⟨f', rfl⟩ : ∃ f', f = f' + 1 := ⟨f - 1, by omega⟩
    rw [show i = n by omega]
    unfold lp
    rw [he]
  | m + 1, i, f, hi, hf => by
    obtain ⟨f', rfl⟩ : ∃ f', f = f' + 1 := ⟨f - 1, by omega⟩
    unfold lp
    rw [hs i (by omega)]
    exact lp_states S n e hs he m (i + 1) f' (by omega) (by omega)
theorem lp_run {σ ε : Type} {b : σ → Option (σ ⊕ ε)} (S : Nat → σ) (n : Nat) (e : ε) (hn : n < 20000) (hs : ∀ i, i < n → b (S i) = some (.inl (S (i + 1)))) (he : b (S n) = some (.inr e)) : lp b FU (S 0) = some e :=
  lp_states S n e hs he n 0 FU (by omega) (by show n < 20000; exact hn)
/-- an accumulator and a counter -/
theorem lp_fold {α ε : Type} {b : α × Int32 → Option ((α × Int32) ⊕ ε)} (g : α → Nat → α) (fin : α → ε) (n : Nat) (a0 : α) (hn : n < 20000) (hs : ∀ i a, i < n → b (a, nI i) = some (.inl (g a i, nI (i + 1)))) (he : ∀ a, b (a, nI n) = some (.inr (fin a))) : lp b FU (a0, nI 0) = some (fin (itr g n 0 a0)) := by
  refine lp_run (fun i => (itr g i 0 a0, nI i)) n _ hn (fun i hi => ?_) (he _)
  rw [hs i _ hi, itr_succ, Nat.zero_add]
/-- a counter and the heap -/
theorem lp_heap {ε : Type} {b : Int32 × Hp → Option ((Int32 × Hp) ⊕ ε)} (g : Hp → Nat → Hp) (fin : Hp → ε) (n : Nat) (h0 : Hp) (hn : n < 20000) (hs : ∀ i h, i < n → b (nI i, h) = some (.inl (nI (i + 1), g h i))) (he : ∀ h, b (nI n, h) = some (.inr (fin h))) : lp b FU (nI 0, h0) = some (fin (itr g n 0 h0)) := by
  refine lp_run (fun i => (nI i, itr g i 0 h0)) n _ hn (fun i hi => ?_) (he _)
  rw [hs i _ hi, itr_succ, Nat.zero_add]
theorem nI_lt6 {k n : Nat} (h : k < 2 ^ 31) (hn : n < 2 ^ 31) : (nI k < nI n) = (k < n) := propext (nI_ltI h hn)
theorem nI_le6 {k n : Nat} (h : k < 2 ^ 31) (hn : n < 2 ^ 31) : (nI k ≤ nI n) = (k ≤ n) := propext (nI_leI h hn)
theorem nI_eq6 {k n : Nat} (h : k < 2 ^ 31) (hn : n < 2 ^ 31) : (nI k = nI n) = (k = n) := propext (nI_eq h hn)
theorem nI_ne1 {k : Nat} (h : k < 2 ^ 31) : nI k ≠ -1 := by
  intro e
  have h1 := congrArg Int32.toInt e
  rw [nI_toInt h] at h1
  have h2 : Int32.toInt (-1) = -1 := by decide
  omega
/-! ===== the room, as the reference's row K ===== -/
/-- what a room's cells hold, and K -/
def RR (sn : Int32) (P Wi S T K : Nat → Int32) : Prop := sn = K 51 ∧ (∀ i, i < 18 → P i = K i) ∧ (∀ i, i < 6 → Wi i = K (25 + i)) ∧ (∀ i, i < 6 → S i = K (18 + i)) ∧ T 0 = K 24 ∧ T 1 = K 49 ∧ T 2 = K 50
abbrev RRh (h : Hp) (r : Nat) (K : Nat → Int32) : Prop := RR (fI h r 0) (aI h (r + 1)) (aI h (r + 2)) (aI h (r + 3)) (aI h (r + 4)) K
/-- k sitters; parts, seats, wishes as they can be -/
def WF (K : Nat → Int32) (k : Nat) : Prop := K 51 = nI k ∧ k ≤ 6 ∧ (∀ i, i < 18 → ∃ q, q ≤ 2000 ∧ K i = nI q) ∧ (∀ p, p < k → K (18 + p) = -1 ∨ ∃ s, s < 9 ∧ K (18 + p) = nI s) ∧ (∀ p q, p < k → q < k → p ≠ q → K (18 + p) = K (18 + q) → K (18 + p) = -1) ∧ (∀ p, p < k → ∃ w, w < 3 ∧ K (25 + p) = nI w) ∧ (∃ P : Nat → Nat, (∀ i, i < 18 → K i = nI (P i)) ∧ ∀ n, n < 3 → P n + P (3 + n) + P (6 + n) + P (9 + n) + P (12 + n) + P (15 + n) ≤ 100 * k) ∧ (∀ i, 3 * k ≤ i → i < 18 → K i = 0) ∧ (∃ v, v ≤ 10 ∧ K 49 = nI v) ∧ (∃ v, v ≤ 9 ∧ K 50 = nI v)
/-- which nation a sitter is -/
def nat3 (K : Nat → Int32) (p : Nat) : Nat := if K (3 * p + 1) ≤ K (3 * p) then (if K (3 * p + 2) ≤ K (3 * p) then 0 else 2) else (if K (3 * p + 2) ≤ K (3 * p + 1) then 1 else 2)
theorem nat3_lt (K : Nat → Int32) (p : Nat) : nat3 K p < 3 := by
  unfold nat3
  repeat' split
  all_goals omega
theorem k_nationOf {h : Hp} {r p k : Nat} {K : Nat → Int32} (hr : RRh h r K) (hw : WF K k) (hp : p < k) : f_X6_nationOf r (nI p) h = some (nI (nat3 K p)) := by
  obtain ⟨h1, h2, -⟩ := hr
  obtain ⟨w1, w2, -⟩ := hw
  have e0 : fI h r 0 = nI k := h1.trans w1
  have b1 : ∀ n, n < 3 → inb (nI p * (3 : Int32) + nI n) 18 = some (3 * p + n) := by
    intro n hn
    rw [show ((3 : Int32)) = nI 3 from rfl, pk_mul, nI_add, show p * 3 + n = 3 * p + n by omega]
    exact inb_nI (by omega) (by omega)
  have v1 : ∀ n, n < 3 → aI h (r + 1) (3 * p + n) = K (3 * p + n) := fun n hn => h2 _ (by omega)
  have step : ∀ best n, best < 3 → n < 3 → b_X6_nationOf_18 r (nI p) (nI best) (nI n) h = some (.inl (if K (3 * p + n) ≤ K (3 * p + best) then nI best else nI n, nI (n + 1))) := by
    intro best n hb hn
    unfold b_X6_nationOf_18
    rw [if_neg (by rw [show ((3 : Int32)) = nI 3 from rfl, nI_le6 (by omega) (by omega)]; omega), b1 n hn, b1 best hb]
    show (if aI h (r + 1) (3 * p + n) ≤ aI h (r + 1) (3 * p + best) then _ else _) = _
    rw [v1 n hn, v1 best hb]
    split <;> rw [show ((1 : Int32)) = nI 1 from rfl, nI_add]
  unfold f_X6_nationOf
  rw [if_neg (nI_pos (by omega)), e0, if_pos (by rw [nI_lt6 (by omega) (by omega)]; exact hp)]
  have l1 : lp (fun s => b_X6_nationOf_18 r (nI p) s.1 s.2 h) FU ((0 : Int32), (1 : Int32)) = some (nI (nat3 K p)) := by
    refine lp_run (fun i => if i = 0 then ((0 : Int32), (1 : Int32)) else if i = 1 then ((if K (3 * p + 1) ≤ K (3 * p) then nI 0 else nI 1), nI 2) else (nI (nat3 K p), nI 3)) 2 _ (by decide) (fun i hi => ?_) ?_
    · match i, hi with
      | 0, _ =>
        have := step 0 1 (by decide) (by decide)
        exact this
      | 1, _ =>
        show b_X6_nationOf_18 r (nI p) (if K (3 * p + 1) ≤ K (3 * p) then nI 0 else nI 1) (nI 2) h = _
        show _ = some (Sum.inl (nI (nat3 K p), nI 3))
        by_cases c : K (3 * p + 1) ≤ K (3 * p)
        · rw [if_pos c, step 0 2 (by decide) (by decide)]
          unfold nat3
          rw [if_pos c]
          show some (Sum.inl (if K (3 * p + 2) ≤ K (3 * p) then nI 0 else nI 2, nI 3)) = _
          split <;> rfl
        · rw [if_neg c, step 1 2 (by decide) (by decide)]
          unfold nat3
          rw [if_neg c]
          split <;> rfl
    · show b_X6_nationOf_18 r (nI p) (nI (nat3 K p)) (nI 3) h = _
      unfold b_X6_nationOf_18
      rw [if_pos (by decide)]
  rw [l1]
  rfl
