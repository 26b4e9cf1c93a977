/-! ===== how far each seating is: numbers alone ===== -/
abbrev BS : Type := (Nat → Nat) × (Nat → Nat) × Nat
def upN (f : Nat → Nat) (i x : Nat) : Nat → Nat := fun j => if j = i then x else f j
theorem upN_s {f : Nat → Nat} {i x : Nat} : upN f i x i = x := if_pos rfl
theorem upN_n {f : Nat → Nat} {i x j : Nat} (h : j ≠ i) : upN f i x j = f j := if_neg h
def nxS (N : Nat → Nat → Nat → Option Nat) (q i : Nat) (s : BS) (j : Nat) : BS := match N q i j with
  | none => s
  | some r => if s.1 r = 0 then (upN s.1 r (s.1 q + 1), upN s.2.1 s.2.2 r, s.2.2 + 1) else s
def rowS (N : Nat → Nat → Nat → Option Nat) (m q : Nat) (s : BS) (i : Nat) : BS := itr (fun s t => nxS N q i s (i + 1 + t)) (m - (i + 1)) 0 s
def reS (N : Nat → Nat → Nat → Option Nat) (m q : Nat) (s : BS) : BS := itr (fun s i => rowS N m q s i) m 0 s
def bfS (N : Nat → Nat → Nat → Option Nat) (m : Nat) (s0 : BS) : Nat → BS
  | 0 => s0
  | t + 1 => if t < (bfS N m s0 t).2.2 then reS N m ((bfS N m s0 t).2.1 t) (bfS N m s0 t) else bfS N m s0 t
def iniS (P : Nat → Nat) (mo : Nat) : Nat → BS
  | 0 => (fun _ => 0, fun _ => 0, 0)
  | n + 1 => if P n = mo then (upN (iniS P mo n).1 n 1, upN (iniS P mo n).2.1 (iniS P mo n).2.2 n, (iniS P mo n).2.2 + 1) else iniS P mo n
/-- what always holds -/
def bsO (M : Nat) (s : BS) : Prop := s.2.2 = cntN (fun r => decide (s.1 r ≠ 0)) M ∧ (∀ t, t < s.2.2 → s.2.1 t < M ∧ s.1 (s.2.1 t) ≠ 0) ∧ (∀ r, s.1 r ≤ s.2.2 + 1) ∧ ∀ r, M ≤ r → s.1 r = 0
theorem cnt_up1 {f g : Nat → Bool} {r : Nat} (hf : f r = false) (hg : g r = true) (ho : ∀ i, i ≠ r → g i = f i) : ∀ M, cntN g M = cntN f M + (if r < M then 1 else 0)
  | 0 => rfl
  | M + 1 => by
    have IH := cnt_up1 hf hg ho M
    show cntN g M + (if g M = true then 1 else 0) = cntN f M + (if f M = true then 1 else 0) + (if r < M + 1 then 1 else 0)
    rw [IH]
    by_cases c : M = r
    · subst c
      rw [hf, hg, if_pos rfl, if_neg Bool.false_ne_true, if_neg (Nat.lt_irrefl _), if_pos (Nat.lt_succ_self _)]
    · rw [ho M c]
      by_cases d : r < M
      · rw [if_pos d, if_pos (show r < M + 1 by omega)]; omega
      · rw [if_neg d, if_neg (show ¬ r < M + 1 by omega)]; omega
theorem cnt_full {f : Nat → Bool} {r : Nat} (hf : f r = false) : ∀ M, r < M → cntN f M < M
  | 0, h => absurd h (Nat.not_lt_zero _)
  | M + 1, h => by
    show cntN f M + (if f M = true then 1 else 0) < M + 1
    by_cases c : r = M
    · subst c
      rw [hf, if_neg Bool.false_ne_true]
      have := cntN_le f r
      omega
    · have := cnt_full hf M (by omega)
      split <;> omega
theorem add_ok {M : Nat} {s : BS} (h : bsO M s) {r x : Nat} (hr : r < M) (h0 : s.1 r = 0) (hx : 0 < x) (hx2 : x ≤ s.2.2 + 2) : bsO M (upN s.1 r x, upN s.2.1 s.2.2 r, s.2.2 + 1) ∧ s.2.2 < M := by
  obtain ⟨h1, h2, h3, h4⟩ := h
  have e1 := cnt_up1 (f := fun r => decide (s.1 r ≠ 0)) (g := fun y => decide (upN s.1 r x y ≠ 0)) (r := r) (by simp [h0]) (by simp [upN_s]; omega) (fun i hi => by simp [upN_n hi]) M
  rw [if_pos hr] at e1
  have e2 := cnt_full (f := fun r => decide (s.1 r ≠ 0)) (r := r) (by simp [h0]) M hr
  refine ⟨⟨?_, fun t ht => ?_, fun y => ?_, fun y hy => ?_⟩, by omega⟩
  · show s.2.2 + 1 = cntN (fun y => decide (upN s.1 r x y ≠ 0)) M
    omega
  · show upN s.2.1 s.2.2 r t < M ∧ upN s.1 r x (upN s.2.1 s.2.2 r t) ≠ 0
    have ht' : t < s.2.2 + 1 := ht
    by_cases c : t = s.2.2
    · rw [c, upN_s, upN_s]
      exact ⟨hr, by omega⟩
    · rw [upN_n c]
      obtain ⟨a1, a2⟩ := h2 t (by omega)
      refine ⟨a1, ?_⟩
      by_cases d : s.2.1 t = r
      · rw [d, upN_s]; omega
      · rw [upN_n d]; exact a2
  · show upN s.1 r x y ≤ s.2.2 + 1 + 1
    by_cases c : y = r
    · rw [c, upN_s]; omega
    · rw [upN_n c]; have := h3 y; omega
  · show upN s.1 r x y = 0
    rw [upN_n (by omega)]; exact h4 y hy
theorem nx_ok {N : Nat → Nat → Nat → Option Nat} {M q i j : Nat} {s : BS} (h : bsO M s) (hN : ∀ r, N q i j = some r → r < M) : bsO M (nxS N q i s j) ∧ (s.1 q ≠ 0 → (nxS N q i s j).1 q ≠ 0) ∧ (∀ t, t < s.2.2 → (nxS N q i s j).2.1 t = s.2.1 t) ∧ s.2.2 ≤ (nxS N q i s j).2.2 := by
  unfold nxS
  cases hn : N q i j with
  | none => exact ⟨h, fun d => d, fun _ _ => rfl, Nat.le_refl _⟩
  | some r =>
    dsimp only
    by_cases c : s.1 r = 0
    · rw [if_pos c]
      refine ⟨(add_ok h (hN r hn) c (by omega) (by have := h.2.2.1 q; omega)).1, fun d => ?_, fun t ht => upN_n (by omega), by show s.2.2 ≤ s.2.2 + 1; omega⟩
      show upN s.1 r (s.1 q + 1) q ≠ 0
      by_cases e : q = r
      · rw [e, upN_s]; omega
      · rw [upN_n e]; exact d
    · rw [if_neg c]
      exact ⟨h, fun d => d, fun _ _ => rfl, Nat.le_refl _⟩
theorem ini_ok (P : Nat → Nat) (mo : Nat) {M : Nat} : ∀ n, n ≤ M → bsO M (iniS P mo n) ∧ (∀ r, n ≤ r → (iniS P mo n).1 r = 0) ∧ (iniS P mo n).2.2 ≤ n
  | 0, _ => by
    refine ⟨⟨?_, fun t ht => absurd ht (Nat.not_lt_zero _), fun r => Nat.zero_le _, fun r _ => rfl⟩, fun r _ => rfl, Nat.le_refl _⟩
    show 0 = cntN (fun r => decide ((0 : Nat) ≠ 0)) M
    have : ∀ M, cntN (fun _ => decide ((0 : Nat) ≠ 0)) M = 0 := by
      intro M
      induction M with
      | zero => rfl
      | succ M IH =>
        show cntN _ M + (if decide ((0 : Nat) ≠ 0) = true then 1 else 0) = 0
        rw [IH, if_neg (by decide)]
    exact (this M).symm
  | n + 1, hn => by
    obtain ⟨h1, h2, h3⟩ := ini_ok P mo (M := M) n (by omega)
    unfold iniS
    by_cases c : P n = mo
    · rw [if_pos c]
      refine ⟨(add_ok (x := 1) h1 (show n < M by omega) (h2 n (Nat.le_refl _)) Nat.one_pos (by omega)).1, fun r hr => ?_, by show _ + 1 ≤ n + 1; omega⟩
      show upN _ n 1 r = 0
      rw [upN_n (by omega)]; exact h2 r (by omega)
    · rw [if_neg c]
      exact ⟨h1, fun r hr => h2 r (by omega), by omega⟩
/-- the k-th of all turns keeps it -/
theorem row_ok {N : Nat → Nat → Nat → Option Nat} {M m q i : Nat} (hN : ∀ i j r, i < j → j < m → N q i j = some r → r < M) {s : BS} (h : bsO M s) (hq : s.1 q ≠ 0) : ∀ T, T ≤ m - (i + 1) → bsO M (itr (fun s t => nxS N q i s (i + 1 + t)) T 0 s) ∧ (itr (fun s t => nxS N q i s (i + 1 + t)) T 0 s).1 q ≠ 0 ∧ (∀ t, t < s.2.2 → (itr (fun s t => nxS N q i s (i + 1 + t)) T 0 s).2.1 t = s.2.1 t) ∧ s.2.2 ≤ (itr (fun s t => nxS N q i s (i + 1 + t)) T 0 s).2.2
  | 0, _ => ⟨h, hq, fun _ _ => rfl, Nat.le_refl _⟩
  | T + 1, hT => by
    obtain ⟨a1, a2, a3, a4⟩ := row_ok (M := M) (m := m) (i := i) hN h hq T (by omega)
    rw [itr_succ, Nat.zero_add]
    obtain ⟨b1, b2, b3, b4⟩ := nx_ok (q := q) (i := i) (j := i + 1 + T) a1 (fun r hr => hN i (i + 1 + T) r (by omega) (by omega) hr)
    exact ⟨b1, b2 a2, fun t ht => (b3 t (by omega)).trans (a3 t ht), by omega⟩
theorem re_ok {N : Nat → Nat → Nat → Option Nat} {M m q : Nat} (hN : ∀ i j r, i < j → j < m → N q i j = some r → r < M) {s : BS} (h : bsO M s) (hq : s.1 q ≠ 0) : ∀ T, T ≤ m → bsO M (itr (fun s i => rowS N m q s i) T 0 s) ∧ (itr (fun s i => rowS N m q s i) T 0 s).1 q ≠ 0 ∧ (∀ t, t < s.2.2 → (itr (fun s i => rowS N m q s i) T 0 s).2.1 t = s.2.1 t) ∧ s.2.2 ≤ (itr (fun s i => rowS N m q s i) T 0 s).2.2
  | 0, _ => ⟨h, hq, fun _ _ => rfl, Nat.le_refl _⟩
  | T + 1, hT => by
    obtain ⟨a1, a2, a3, a4⟩ := re_ok (M := M) (m := m) hN h hq T (by omega)
    rw [itr_succ, Nat.zero_add]
    obtain ⟨b1, b2, b3, b4⟩ := row_ok (m := m) (i := T) hN a1 a2 (m - (T + 1)) (Nat.le_refl _)
    exact ⟨b1, b2, fun t ht => (b3 t (by omega)).trans (a3 t ht), Nat.le_trans a4 b4⟩
theorem bf_ok {N : Nat → Nat → Nat → Option Nat} {M m : Nat} (hN : ∀ q i j r, q < M → i < j → j < m → N q i j = some r → r < M) {s : BS} (h : bsO M s) : ∀ t, bsO M (bfS N m s t)
  | 0 => h
  | t + 1 => by
    have IH := bf_ok (M := M) (m := m) hN h t
    unfold bfS
    by_cases c : t < (bfS N m s t).2.2
    · rw [if_pos c]
      obtain ⟨a1, a2⟩ := IH.2.1 t c
      exact (re_ok (fun i j r => hN _ i j r a1) IH a2 m (Nat.le_refl _)).1
    · rw [if_neg c]; exact IH
theorem bs_M {M : Nat} {s : BS} (h : bsO M s) : s.2.2 ≤ M := by
  rw [h.1]
  exact cntN_le _ _
/-- behind the last all stays -/
theorem bf_end {N : Nat → Nat → Nat → Option Nat} {m t : Nat} {s : BS} (h : (bfS N m s t).2.2 ≤ t) : ∀ d, bfS N m s (t + d) = bfS N m s t
  | 0 => rfl
  | d + 1 => by
    have IH := bf_end (N := N) (m := m) h d
    show (if t + d < (bfS N m s (t + d)).2.2 then _ else bfS N m s (t + d)) = _
    rw [IH, if_neg (by omega)]
