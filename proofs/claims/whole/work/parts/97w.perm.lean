/-! ===== seatings: orders of places ===== -/
section SWS
variable {I : List Nat} {V : Nat → Int32}
theorem sw_s (n : Nat) (K : Nat → Int32) : sw I V (n + 1) K = upd (sw I V n K) (18 + I.getD n 0) (V n) := by
  unfold sw
  rw [itr_succ, Nat.zero_add]
theorem sw_o : ∀ (n : Nat) (K : Nat → Int32) (x : Nat), (∀ i, i < n → x ≠ 18 + I.getD i 0) → sw I V n K x = K x
  | 0, K, x, _ => rfl
  | n + 1, K, x, h => by
    rw [sw_s, pk_un (h n (by omega))]
    exact sw_o n K x (fun i hi => h i (by omega))
theorem sw_i : ∀ (n : Nat) (K K' : Nat → Int32) (x : Nat), (∃ i, i < n ∧ x = 18 + I.getD i 0) → sw I V n K x = sw I V n K' x
  | 0, K, K', x, ⟨i, hi, _⟩ => absurd hi (Nat.not_lt_zero _)
  | n + 1, K, K', x, ⟨i, hi, e⟩ => by
    rw [sw_s, sw_s]
    by_cases c : x = 18 + I.getD n 0
    · rw [c, pk_us, pk_us]
    · rw [pk_un c, pk_un c]
      exact sw_i n K K' x ⟨i, by
        by_cases d : i = n
        · rw [d] at e; exact absurd e c
        · omega, e⟩
theorem sw_w {V' : Nat → Int32} (n : Nat) (K : Nat → Int32) : sw I V n (sw I V' n K) = sw I V n K := by
  funext x
  by_cases c : ∃ i, i < n ∧ x = 18 + I.getD i 0
  · exact sw_i n _ _ x c
  · have c' : ∀ i, i < n → x ≠ 18 + I.getD i 0 := fun i hi e => c ⟨i, hi, e⟩
    rw [sw_o n _ x c', sw_o n _ x c', sw_o n _ x c']
/-- what the i-th has, if no one stands there twice -/
theorem sw_at : ∀ (n : Nat) (K : Nat → Int32), (∀ i j, i < n → j < n → I.getD i 0 = I.getD j 0 → i = j) → ∀ i, i < n → sw I V n K (18 + I.getD i 0) = V i
  | 0, K, _, i, hi => absurd hi (Nat.not_lt_zero _)
  | n + 1, K, hn, i, hi => by
    rw [sw_s]
    by_cases c : i = n
    · rw [c, pk_us]
    · rw [pk_un (fun e => c (hn i n hi (by omega) (by omega)))]
      exact sw_at n K (fun a b ha hb => hn a b (by omega) (by omega)) i (by omega)
end SWS
/-! lists of those below n -/
def flt (f : Nat → Bool) (n : Nat) : List Nat := (List.range n).filter f
theorem flt_s (f : Nat → Bool) (n : Nat) : flt f (n + 1) = flt f n ++ (if f n = true then [n] else []) := by
  unfold flt
  rw [List.range_succ, List.filter_append]
  congr 1
  by_cases c : f n = true
  · rw [if_pos c, List.filter_cons_of_pos c, List.filter_nil]
  · rw [if_neg c, List.filter_cons_of_neg c, List.filter_nil]
theorem flt_len (f : Nat → Bool) : ∀ n, (flt f n).length = cntN f n
  | 0 => rfl
  | n + 1 => by
    rw [flt_s, List.length_append, flt_len f n]
    show _ = cntN f n + (if f n = true then 1 else 0)
    by_cases c : f n = true
    · rw [if_pos c, if_pos c]; rfl
    · rw [if_neg c, if_neg c]; rfl
theorem getD_app {l : List Nat} {i y : Nat} (h : i < l.length) : (l ++ [y]).getD i 0 = l.getD i 0 := by
  rw [List.getD_eq_getElem?_getD, List.getD_eq_getElem?_getD, List.getElem?_append_left h]
theorem getD_last {l : List Nat} {y : Nat} : (l ++ [y]).getD l.length 0 = y := by
  rw [List.getD_eq_getElem?_getD, List.getElem?_append_right (Nat.le_refl _), Nat.sub_self]
  rfl
/-- each is below n, has f; they rise -/
theorem flt_ok (f : Nat → Bool) : ∀ n, (∀ i, i < (flt f n).length → (flt f n).getD i 0 < n ∧ f ((flt f n).getD i 0) = true) ∧ (∀ i j, i < j → j < (flt f n).length → (flt f n).getD i 0 < (flt f n).getD j 0)
  | 0 => ⟨fun i hi => absurd hi (Nat.not_lt_zero _), fun i j _ hj => absurd hj (Nat.not_lt_zero _)⟩
  | n + 1 => by
    obtain ⟨h1, h2⟩ := flt_ok f n
    by_cases c : f n = true
    · have e : flt f (n + 1) = flt f n ++ [n] := by rw [flt_s, if_pos c]
      rw [e]
      refine ⟨fun i hi => ?_, fun i j hij hj => ?_⟩
      · rw [List.length_append] at hi
        have hi' : i < (flt f n).length + 1 := hi
        by_cases d : i < (flt f n).length
        · rw [getD_app d]
          exact ⟨by have := (h1 i d).1; omega, (h1 i d).2⟩
        · rw [show i = (flt f n).length by omega, getD_last]
          exact ⟨by omega, c⟩
      · rw [List.length_append] at hj
        have hj' : j < (flt f n).length + 1 := hj
        by_cases d : j < (flt f n).length
        · rw [getD_app d, getD_app (by omega)]
          exact h2 i j hij d
        · rw [show j = (flt f n).length by omega, getD_last, getD_app (by omega)]
          exact (h1 i (by omega)).1
    · have e : flt f (n + 1) = flt f n := by rw [flt_s, if_neg c, List.append_nil]
      rw [e]
      exact ⟨fun i hi => ⟨by have := (h1 i hi).1; omega, (h1 i hi).2⟩, h2⟩
theorem flt_all (f : Nat → Bool) : ∀ n p, p < n → f p = true → ∃ i, i < (flt f n).length ∧ (flt f n).getD i 0 = p
  | 0, p, hp, _ => absurd hp (Nat.not_lt_zero _)
  | n + 1, p, hp, hf => by
    by_cases d : p = n
    · subst d
      have e : flt f (p + 1) = flt f p ++ [p] := by rw [flt_s, if_pos hf]
      rw [e]
      exact ⟨(flt f p).length, by rw [List.length_append]; exact Nat.lt_succ_self _, getD_last⟩
    · obtain ⟨i, h1, h2⟩ := flt_all f n p (by omega) hf
      rw [flt_s]
      by_cases c : f n = true
      · rw [if_pos c]
        exact ⟨i, by rw [List.length_append]; omega, by rw [getD_app h1]; exact h2⟩
      · rw [if_neg c, List.append_nil]
        exact ⟨i, h1, h2⟩
theorem cnt_Z (f : Nat → Bool) : ∀ n, (cntN f n : Int) = sumZ (fun i => if f i = true then 1 else 0) n
  | 0 => rfl
  | n + 1 => by
    show ((cntN f n + (if f n = true then 1 else 0) : Nat) : Int) = sumZ (fun i => if f i = true then 1 else 0) n + (if f n = true then 1 else 0)
    rw [Int.natCast_add, cnt_Z f n]
    split <;> rfl
section LST
variable {K : Nat → Int32} {k : Nat}
theorem insL_f : insL K k = flt (insb K) k := rfl
theorem plL_f : plL K k = flt (fun s => occ K k s) 9 := rfl
theorem len_eq (hw : WF K k) : (plL K k).length = (insL K k).length := by
  rw [insL_f, plL_f, flt_len, flt_len]
  have h := reix hw (fun _ => 1) k (Nat.le_refl _)
  have h1 := cnt_Z (insb K) k
  have h2 := cnt_Z (fun s => occ K k s) 9
  have h3 : sumZ (fun s => if occ K k s = true then (1 : Int) else 0) 9 = sumZ (fun s => if (firstM (fun q => decide (K (18 + q) = nI s)) k 0).isSome = true then (1 : Int) else 0) 9 := rfl
  have : (cntN (fun s => occ K k s) 9 : Int) = (cntN (insb K) k : Int) := by
    rw [h2, h3, ← h, ← h1]
  omega
theorem ins_le (hw : WF K k) : (insL K k).length ≤ 6 := by
  rw [insL_f, flt_len]
  have := cntN_le (insb K) k
  have := hw.2.1
  omega
theorem ins_at (hw : WF K k) {i : Nat} (hi : i < (insL K k).length) : (insL K k).getD i 0 < k ∧ insb K ((insL K k).getD i 0) = true := (flt_ok (insb K) k).1 i hi
theorem ins_inj {i j : Nat} (hi : i < (insL K k).length) (hj : j < (insL K k).length) (e : (insL K k).getD i 0 = (insL K k).getD j 0) : i = j := by
  have h := (flt_ok (insb K) k).2
  rcases Nat.lt_trichotomy i j with c | c | c
  · have := h i j c hj; rw [← insL_f] at this; omega
  · exact c
  · have := h j i c hi; rw [← insL_f] at this; omega
theorem pl_at (hw : WF K k) {i : Nat} (hi : i < (insL K k).length) : (plL K k).getD i 0 < 9 := by
  rw [← len_eq hw] at hi
  exact ((flt_ok (fun s => occ K k s) 9).1 i hi).1
theorem pl_mono (hw : WF K k) {i j : Nat} (hij : i < j) (hj : j < (insL K k).length) : (plL K k).getD i 0 < (plL K k).getD j 0 := by
  rw [← len_eq hw] at hj
  exact (flt_ok (fun s => occ K k s) 9).2 i j hij hj
end LST
theorem fct_le : ∀ m, m ≤ 6 → fct m ≤ 720 ∧ 1 ≤ fct m := by decide
theorem dec_lt : ∀ m, m ≤ 6 → ∀ q, q < fct m → ∀ i, i < m → dec m q i < m := by decide +kernel
theorem dec_inj : ∀ m, m ≤ 6 → ∀ q, q < fct m → ∀ i, i < m → ∀ j, j < m → dec m q i = dec m q j → i = j := by decide +kernel
theorem dec_0 : ∀ m, m ≤ 6 → ∀ i, i < m → dec m 0 i = i := by decide
/-! the next order, over a heap that has the numbers alone -/
def hP (m q : Nat) : Hp := (fun a k => if a = 68 ∧ k = 9 then nI m else 0, fun a i => if a = 79 then nI (dec m q i) else 0, fun _ _ => 0, fun _ _ => none, fun _ => 0, 0)
def nxOK (m q : Nat) : Bool := match f_X7_toNextOrder (hP m q) with
  | some (b, h') => (b == decide (q + 1 < fct m)) && (!decide (q + 1 < fct m) || (List.range m).all fun i => aI h' 79 i == nI (dec m (q + 1) i))
  | none => false
theorem nx_all : ∀ m, m ≤ 6 → ∀ q, q < fct m → nxOK m q = true := by decide +kernel
