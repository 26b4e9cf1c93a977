/-! ===== both readers: words ===== -/
def wlL : List Nat := [115, 105, 116, 116, 101, 114, 32, 111, 116, 104, 101, 114, 32, 116, 105, 101, 114, 32, 110, 97, 116, 105, 111, 110, 32, 109, 117, 99, 104, 32, 119, 105, 115, 104, 32, 109, 105, 110, 117, 116, 101, 32, 109, 111, 111, 100, 32, 100, 111, 110, 101, 32, 108, 97, 116, 101, 115, 116, 32, 105, 110, 115, 105, 100, 101, 32, 112, 108, 101, 97, 115, 101, 100, 32, 105, 115, 32, 112, 97, 115, 115, 101, 115, 32, 107, 101, 101, 112, 115, 32, 108, 101, 97, 118, 101, 115, 32, 115, 101, 97, 116, 32, 111, 117, 116, 32, 115, 119, 97, 112, 32, 112, 97, 115, 115, 32, 97, 116, 32, 119, 105, 116, 104, 32, 116, 105, 109, 101, 115, 32, 105, 102, 32, 111, 114, 32, 97, 110, 100, 32, 110, 111, 116, 32]
def rlL : List Nat := [112, 97, 115, 115, 101, 115, 32, 107, 101, 101, 112, 115, 32, 108, 101, 97, 118, 101, 115, 32, 105, 102, 32, 111, 114, 32, 97, 110, 100, 32, 110, 111, 116, 32, 115, 105, 116, 116, 101, 114, 32, 111, 116, 104, 101, 114, 32, 116, 105, 101, 114, 32, 110, 97, 116, 105, 111, 110, 32, 119, 105, 115, 104, 32, 109, 111, 111, 100, 32, 109, 117, 99, 104, 32, 109, 105, 110, 117, 116, 101, 32, 100, 111, 110, 101, 32, 108, 97, 116, 101, 115, 116, 32, 105, 110, 115, 105, 100, 101, 32, 112, 108, 101, 97, 115, 101, 100, 32, 105, 115, 32, 115, 101, 97, 116, 32, 97, 116, 32, 111, 117, 116, 32, 115, 119, 97, 112, 32, 119, 105, 116, 104, 32, 112, 97, 115, 115, 32, 116, 105, 109, 101, 115, 32]
def wstL : List Nat := [0, 7, 13, 18, 25, 30, 35, 42, 47, 52, 59, 66, 74, 77, 84, 90, 97, 102, 106, 111, 116, 119, 124, 130, 133, 136, 140, 144]
def rstL : List Nat := [0, 7, 13, 20, 23, 26, 30, 34, 41, 47, 52, 59, 64, 69, 74, 81, 86, 93, 100, 108, 111, 116, 119, 123, 128, 133, 138, 144]
def wlenL : List Nat := [6, 5, 4, 6, 4, 4, 6, 4, 4, 6, 6, 7, 2, 6, 5, 6, 4, 3, 4, 4, 2, 4, 5, 2, 2, 3, 3]
def rlenL : List Nat := [6, 5, 6, 2, 2, 3, 3, 6, 5, 4, 6, 4, 4, 4, 6, 4, 6, 6, 7, 2, 4, 2, 3, 4, 4, 4, 5]
def wOfL : List Nat := [0, 0, 0, 0, 0, 0, 0, 1, 1, 1, 1, 1, 1, 2, 2, 2, 2, 2, 3, 3, 3, 3, 3, 3, 3, 4, 4, 4, 4, 4, 5, 5, 5, 5, 5, 6, 6, 6, 6, 6, 6, 6, 7, 7, 7, 7, 7, 8, 8, 8, 8, 8, 9, 9, 9, 9, 9, 9, 9, 10, 10, 10, 10, 10, 10, 10, 11, 11, 11, 11, 11, 11, 11, 11, 12, 12, 12, 13, 13, 13, 13, 13, 13, 13, 14, 14, 14, 14, 14, 14, 15, 15, 15, 15, 15, 15, 15, 16, 16, 16, 16, 16, 17, 17, 17, 17, 18, 18, 18, 18, 18, 19, 19, 19, 19, 19, 20, 20, 20, 21, 21, 21, 21, 21, 22, 22, 22, 22, 22, 22, 23, 23, 23, 24, 24, 24, 25, 25, 25, 25, 26, 26, 26, 26, 27]
def tOfL : List Nat := [0, 1, 2, 3, 4, 5, 6, 0, 1, 2, 3, 4, 5, 0, 1, 2, 3, 4, 0, 1, 2, 3, 4, 5, 6, 0, 1, 2, 3, 4, 0, 1, 2, 3, 4, 0, 1, 2, 3, 4, 5, 6, 0, 1, 2, 3, 4, 0, 1, 2, 3, 4, 0, 1, 2, 3, 4, 5, 6, 0, 1, 2, 3, 4, 5, 6, 0, 1, 2, 3, 4, 5, 6, 7, 0, 1, 2, 0, 1, 2, 3, 4, 5, 6, 0, 1, 2, 3, 4, 5, 0, 1, 2, 3, 4, 5, 6, 0, 1, 2, 3, 4, 0, 1, 2, 3, 0, 1, 2, 3, 4, 0, 1, 2, 3, 4, 0, 1, 2, 0, 1, 2, 3, 4, 0, 1, 2, 3, 4, 5, 0, 1, 2, 0, 1, 2, 0, 1, 2, 3, 0, 1, 2, 3, 0]
def wlN (k : Nat) : Nat := wlL.getD k 0
def rlN (k : Nat) : Nat := rlL.getD k 0
def wst (k : Nat) : Nat := wstL.getD k 0
def rst (k : Nat) : Nat := rstL.getD k 0
def wlen (k : Nat) : Nat := wlenL.getD k 0
def rlen (k : Nat) : Nat := rlenL.getD k 0
def wOf (k : Nat) : Nat := wOfL.getD k 0
def tOf (k : Nat) : Nat := tOfL.getD k 0
theorem wch_n : ∀ k, k < 144 → wch k = nI (wlN k) ∧ wlN k < 256 := by decide +kernel
theorem w_tab : ∀ k, k < 144 → wOf k < 27 ∧ wst (wOf k) + tOf k = k ∧ tOf k < 20 ∧ ((wlN k = 32 ∧ tOf k = wlen (wOf k) ∧ wOf (k + 1) = wOf k + 1 ∧ tOf (k + 1) = 0) ∨ (wlN k ≠ 32 ∧ tOf k < wlen (wOf k) ∧ wOf (k + 1) = wOf k ∧ tOf (k + 1) = tOf k + 1)) := by decide +kernel
theorem w_end : wOf 144 = 27 := by decide
theorem r_tab : ∀ r, r < 27 → rst r + rlen r < 144 ∧ rst (r + 1) = rst r + rlen r + 1 ∧ rlN (rst r + rlen r) = 32 ∧ ∀ y, y < rlen r → rlN (rst r + y) ≠ 32 := by decide +kernel
theorem r_end : rst 27 = 144 := by decide
theorem r_lt : ∀ k, k < 144 → rlN k < 256 := by decide +kernel
theorem wr_tab : ∀ w, w < 27 → 1 ≤ rk w ∧ rk w ≤ 27 ∧ wlen w = rlen (rk w - 1) ∧ ∀ y, y < wlen w → wlN (wst w + y) = rlN (rst (rk w - 1) + y) := by decide +kernel
theorem wr_sur : ∀ r, r < 27 → ∃ w, w < 27 ∧ rk w = r + 1 := by decide +kernel
theorem w_dis : ∀ w, w < 27 → ∀ v, v < 27 → w ≠ v → wlen w ≠ wlen v ∨ ∃ y, y < wlen w ∧ wlN (wst w + y) ≠ wlN (wst v + y) := by decide +kernel
/-- the bytes from p, n of them, are word w -/
def mW (bt : Nat → Nat) (p n w : Nat) : Prop := n = wlen w ∧ ∀ y, y < n → bt (p + y) = wlN (wst w + y)
def mR (bt : Nat → Nat) (p n r : Nat) : Prop := n = rlen r ∧ ∀ y, y < n → bt (p + y) = rlN (rst r + y)
theorem mW_un {bt : Nat → Nat} {p n w v : Nat} (hw : w < 27) (hv : v < 27) (h1 : mW bt p n w) (h2 : mW bt p n v) : w = v := by
  by_cases c : w = v
  · exact c
  · rcases w_dis w hw v hv c with d | ⟨y, y1, y2⟩
    · exact absurd (h1.1.symm.trans h2.1) d
    · rw [← h1.1] at y1
      exact absurd ((h1.2 y y1).symm.trans (h2.2 y y1)) y2
theorem mWR {bt : Nat → Nat} {p n w : Nat} (hw : w < 27) : mW bt p n w ↔ mR bt p n (rk w - 1) := by
  obtain ⟨-, -, t3, t4⟩ := wr_tab w hw
  unfold mW mR
  rw [← t3]
  constructor
  · rintro ⟨a, b⟩
    exact ⟨a, fun y hy => by rw [b y hy, t4 y (by omega)]⟩
  · rintro ⟨a, b⟩
    exact ⟨a, fun y hy => by rw [b y hy, t4 y (by omega)]⟩
/-- the tape of both -/
def Bts (bt : Nat → Nat) (len : Nat) : Prop := len ≤ 400 ∧ ∀ i, i < len → bt i < 256
def CB (bt : Nat → Nat) (len : Nat) (h : Hp) : Prop := ∀ i, i < len → aI h 3 i = nI (bt i)
def sb (b : Nat) : Int32 := (nI b).toInt8.toInt32
def RB (bt : Nat → Nat) (len : Nat) (h : Hp) : Prop := (∀ i, i < len → aI h 88 i = sb (bt i)) ∧ ∀ k, k < 144 → aI h 87 k = nI (rlN k)
theorem sb_t : ∀ b, b < 256 → f_X11_isSmall (sb b) = some (decide (97 ≤ b ∧ b ≤ 122)) ∧ f_X11_isDigit (sb b) = some (decide (48 ≤ b ∧ b ≤ 57)) ∧ (sb b = 32 ↔ b = 32) ∧ (100 : Int32) + (sb b &&& 255) = nI (100 + b) ∧ f_X5_isLetter (nI b) = some (decide (97 ≤ b ∧ b ≤ 122)) ∧ f_X5_isDigit (nI b) = some (decide (48 ≤ b ∧ b ≤ 57)) := by decide +kernel
theorem sb_lo : ∀ b, b < 128 → sb b = nI b := by decide +kernel
theorem sb_eq : ∀ b, b < 256 → ∀ c, c < 128 → (nI c = sb b ↔ b = c) := by
  intro b hb c hc
  by_cases h : b < 128
  · rw [sb_lo b h, nI_eq (by omega) (by omega)]
    omega
  · have hn : ∀ b, b < 256 → 128 ≤ b → sb b < 0 := by decide +kernel
    have h1 := hn b hb (by omega)
    refine ⟨fun e => ?_, fun e => by omega⟩
    rw [← e] at h1
    exact absurd h1 (nI_pos (by omega))
theorem rl_lo : ∀ k, k < 144 → rlN k < 128 := by decide +kernel
theorem c_word {bt : Nat → Nat} {len p e : Nat} {h : Hp} (hB : Bts bt len) (hb : CB bt len h) (hp : p ≤ e) (he : e ≤ len) : ∃ w, w ≤ 27 ∧ f_X5_wordNumber (nI p) (nI e) h = some (nI w) ∧ (∀ v, v < w → ¬ mW bt p (e - p) v) ∧ (w < 27 → mW bt p (e - p) w) := by
  have hl := hB.1
  unfold f_X5_wordNumber
  have key := lp_inv (b := fun s : Int32 × Int32 × Int32 × Int32 => b_X5_wordNumber_11 (nI p) (nI e) s.1 s.2.1 s.2.2.1 s.2.2.2 h) (fun k s => s.1 = nI (wOf k) ∧ s.2.1 = nI (p + tOf k) ∧ s.2.2.2 = nI k ∧ (∀ v, v < wOf k → ¬ mW bt p (e - p) v) ∧ ∃ al : Bool, s.2.2.1 = b2i al ∧ (al = true ↔ ∀ y, y < tOf k → p + y < e ∧ bt (p + y) = wlN (wst (wOf k) + y))) (fun x => sc x (fun _ => ∀ v, v < 27 → ¬ mW bt p (e - p) v) (fun r => ∃ w, w < 27 ∧ r = nI w ∧ (∀ v, v < w → ¬ mW bt p (e - p) v) ∧ mW bt p (e - p) w)) 144 ((0 : Int32), nI p, (1 : Int32), (0 : Int32)) (by omega) ⟨rfl, rfl, rfl, fun v hv => absurd hv (Nat.not_lt_zero _), true, rfl, fun _ y hy => absurd hy (Nat.not_lt_zero _), fun _ => rfl⟩ ?_ ?_
  · obtain ⟨x, h1, h2⟩ := key
    rw [h1, Option.bind_some]
    cases x with
    | inl a => exact ⟨27, Nat.le_refl _, rfl, h2, fun c => by omega⟩
    | inr r =>
      obtain ⟨w, w1, w2, w3, w4⟩ := h2
      exact ⟨w, by omega, by rw [w2]; rfl, w3, fun _ => w4⟩
  · rintro k ⟨x3, x4, x5, x6⟩ hk ⟨q1, q2, q3, q4, al, q5, q6⟩
    dsimp only at q1 q2 q3 q5
    subst q1
    subst q2
    subst q3
    subst q5
    obtain ⟨t1, t2, t3, t4⟩ := w_tab k hk
    obtain ⟨c1, c2⟩ := wch_n k hk
    have hmw : mW bt p (e - p) (wOf k) → ∀ y, y < wlen (wOf k) → p + y < e ∧ bt (p + y) = wlN (wst (wOf k) + y) := fun hm y hy => ⟨by have := hm.1; omega, hm.2 y (by have := hm.1; omega)⟩
    show (∃ s', b_X5_wordNumber_11 (nI p) (nI e) (nI (wOf k)) (nI (p + tOf k)) (b2i al) (nI k) h = some (.inl s') ∧ _) ∨ (∃ x, b_X5_wordNumber_11 (nI p) (nI e) (nI (wOf k)) (nI (p + tOf k)) (b2i al) (nI k) h = some (.inr x) ∧ _)
    unfold b_X5_wordNumber_11
    rw [if_neg (show ¬ (144 : Int32) ≤ nI k from nI_ge (a := k) (b := 144) hk (by omega)), inb_nI hk (by omega), Option.bind_some, c1]
    rcases t4 with ⟨t5, t6, t7, t8⟩ | ⟨t5, t6, t7, t8⟩
    · rw [if_pos (show nI (wlN k) = 32 by rw [t5]; rfl)]
      have nxt : ¬ mW bt p (e - p) (wOf k) → ∀ v, v < wOf (k + 1) → ¬ mW bt p (e - p) v := by
        intro hn v hv
        rw [t7] at hv
        by_cases c : v = wOf k
        · rw [c]; exact hn
        · exact q4 v (by omega)
      have go : ¬ mW bt p (e - p) (wOf k) → ∃ s', j_X5_wordNumber_83_11 (nI p) (nI e) (nI (wOf k)) (nI k) h = some (.inl s') ∧ s'.1 = nI (wOf (k + 1)) ∧ s'.2.1 = nI (p + tOf (k + 1)) ∧ s'.2.2.2 = nI (k + 1) ∧ (∀ v, v < wOf (k + 1) → ¬ mW bt p (e - p) v) ∧ ∃ al : Bool, s'.2.2.1 = b2i al ∧ (al = true ↔ ∀ y, y < tOf (k + 1) → p + y < e ∧ bt (p + y) = wlN (wst (wOf (k + 1)) + y)) := by
        intro hn
        refine ⟨(nI (wOf k + 1), nI p, 1, nI (k + 1)), ?_, by rw [t7], by rw [t8]; rfl, rfl, nxt hn, true, rfl, fun _ y hy => ?_, fun _ => rfl⟩
        · unfold j_X5_wordNumber_83_11
          rw [nI_1, nI_1]
        · rw [t8] at hy; omega
      cases al with
      | false =>
        left
        rw [if_pos (show b2i false = 0 from rfl)]
        exact go (fun hm => absurd (q6.mpr (fun y hy => hmw hm y (by omega))) (by decide))
      | true =>
        rw [if_neg (show ¬ b2i true = 0 by decide)]
        by_cases ce : p + tOf k = e
        · right
          refine ⟨.inr (nI (wOf k)), by rw [if_pos (by rw [ce])]; rfl, wOf k, t1, rfl, q4, by omega, fun y hy => (q6.mp rfl y (by omega)).2⟩
        · left
          rw [if_neg (fun c => ce ((nI_eq (by omega) (by omega)).mp c))]
          exact go (fun hm => ce (by have := hm.1; omega))
    · left
      rw [if_neg (show ¬ nI (wlN k) = 32 from fun c => t5 ((nI_eq (by omega) (by omega)).mp (show nI _ = nI 32 from c)))]
      have go : ∀ al' : Bool, (al' = true ↔ al = true ∧ p + tOf k < e ∧ bt (p + tOf k) = wlN k) → ∃ s', j_X5_wordNumber_62_11 (nI p) (nI e) (nI (wOf k)) (nI (p + tOf k)) (nI k) (b2i al') h = some (.inl s') ∧ s'.1 = nI (wOf (k + 1)) ∧ s'.2.1 = nI (p + tOf (k + 1)) ∧ s'.2.2.2 = nI (k + 1) ∧ (∀ v, v < wOf (k + 1) → ¬ mW bt p (e - p) v) ∧ ∃ al : Bool, s'.2.2.1 = b2i al ∧ (al = true ↔ ∀ y, y < tOf (k + 1) → p + y < e ∧ bt (p + y) = wlN (wst (wOf (k + 1)) + y)) := by
        intro al' ha
        refine ⟨(nI (wOf k), nI (p + tOf k + 1), b2i al', nI (k + 1)), ?_, by rw [t7], by rw [t8]; rfl, rfl, by rw [t7]; exact q4, al', rfl, ?_⟩
        · unfold j_X5_wordNumber_62_11
          rw [nI_1, nI_1]
        · rw [ha, q6, t7, t8]
          constructor
          · rintro ⟨a1, a2, a3⟩ y hy
            by_cases c : y = tOf k
            · rw [c, t2]; exact ⟨a2, a3⟩
            · exact a1 y (by omega)
          · intro a
            have := a (tOf k) (by omega)
            rw [t2] at this
            exact ⟨fun y hy => a y (by omega), this.1, this.2⟩
      cases al with
      | false =>
        rw [if_pos (show b2i false = 0 from rfl)]
        exact go false ⟨fun c => absurd c (by decide), fun c => absurd c.1 (by decide)⟩
      | true =>
        rw [if_neg (show ¬ b2i true = 0 by decide)]
        by_cases ce : p + tOf k < e
        · rw [if_neg (nI_ge ce (by omega)), inb_nI (show p + tOf k < 400 by omega) (by omega), Option.bind_some, hb _ (by omega)]
          have hbl := hB.2 (p + tOf k) (by omega)
          by_cases cc : bt (p + tOf k) = wlN k
          · rw [if_pos (by rw [cc])]
            exact go true ⟨fun _ => ⟨rfl, ce, cc⟩, fun _ => rfl⟩
          · rw [if_neg (fun c => cc ((nI_eq (by omega) (by omega)).mp c))]
            exact go false ⟨fun c => absurd c (by decide), fun c => absurd c.2.2 cc⟩
        · rw [if_pos (nI_le (by omega) (by omega))]
          exact go false ⟨fun c => absurd c (by decide), fun c => absurd c.2.1 ce⟩
  · rintro ⟨x3, x4, x5, x6⟩ ⟨q1, q2, q3, q4, -⟩
    dsimp only at q1 q2 q3
    subst q3
    refine ⟨.inl (), ?_, ?_⟩
    · show b_X5_wordNumber_11 (nI p) (nI e) x3 x4 x5 (nI 144) h = _
      unfold b_X5_wordNumber_11
      rw [if_pos (by decide)]
    · rw [w_end] at q4
      exact q4
theorem m_word {bt : Nat → Nat} {len p e : Nat} {h : Hp} (hB : Bts bt len) (hb : RB bt len h) (hp : p ≤ e) (he : e ≤ len) : ∃ r, r ≤ 27 ∧ f_X11_wordOf (nI p) (nI e) h = some (if r < 27 then nI (r + 1) else 0) ∧ (∀ v, v < r → ¬ mR bt p (e - p) v) ∧ (r < 27 → mR bt p (e - p) r) := by
  have hl := hB.1
  unfold f_X11_wordOf
  have key := lp_inv (b := fun s : Int32 × Int32 => b_X11_wordOf_5 (nI p) (nI e) s.1 s.2 h) (fun r s => s.1 = nI (r + 1) ∧ s.2 = nI (rst r) ∧ ∀ v, v < r → ¬ mR bt p (e - p) v) (fun x => sc x (fun _ => ∀ v, v < 27 → ¬ mR bt p (e - p) v) (fun y => ∃ r, r < 27 ∧ y = nI (r + 1) ∧ (∀ v, v < r → ¬ mR bt p (e - p) v) ∧ mR bt p (e - p) r)) 27 ((1 : Int32), (0 : Int32)) (by omega) ⟨rfl, rfl, fun v hv => absurd hv (Nat.not_lt_zero _)⟩ ?_ ?_
  · obtain ⟨x, h1, h2⟩ := key
    rw [h1, Option.bind_some]
    cases x with
    | inl a => exact ⟨27, Nat.le_refl _, rfl, h2, fun c => by omega⟩
    | inr y =>
      obtain ⟨r, w1, w2, w3, w4⟩ := h2
      exact ⟨r, by omega, by rw [w2, if_pos w1]; rfl, w3, fun _ => w4⟩
  · rintro r ⟨x3, x4⟩ hr ⟨q1, q2, q3⟩
    dsimp only at q1 q2
    subst q1
    subst q2
    obtain ⟨t1, t2, t3, t4⟩ := r_tab r hr
    have l1 : lp (fun s => b_X11_wordOf_18_5 (nI p) (nI e) (nI (r + 1)) (nI (rst r)) s h) FU (nI 0) = some (nI (rlen r)) := by
      refine lp_run (fun i => nI i) (rlen r) _ (by omega) (fun i hi => ?_) ?_
      · show b_X11_wordOf_18_5 (nI p) (nI e) (nI (r + 1)) (nI (rst r)) (nI i) h = _
        unfold b_X11_wordOf_18_5
        have := rl_lo (rst r + i) (by omega)
        rw [nI_add, inb_nI (by omega) (by omega), Option.bind_some, hb.2 _ (by omega), if_neg (show ¬ nI (rlN (rst r + i)) = 32 from fun c => t4 i hi ((nI_eq (by omega) (by omega)).mp (show nI _ = nI 32 from c))), nI_1]
      · show b_X11_wordOf_18_5 (nI p) (nI e) (nI (r + 1)) (nI (rst r)) (nI (rlen r)) h = _
        unfold b_X11_wordOf_18_5
        rw [nI_add, inb_nI t1 (by omega), Option.bind_some, hb.2 _ t1, t3, if_pos (show nI 32 = 32 from rfl)]
    have l2 : ∃ al : Bool, (∀ s0 : Int32, s0 = b2i (decide (rlen r = e - p)) → j_X11_wordOf_52_5 (nI p) (nI e) (nI (r + 1)) (nI (rst r)) (nI (rlen r)) s0 h = j_X11_wordOf_104_5 (nI p) (nI e) (nI (r + 1)) (nI (rst r)) (nI (rlen r)) (b2i al) h) ∧ (al = true ↔ mR bt p (e - p) r) := by
      have key2 := lp_inv (b := fun s : Int32 × Int32 => b_X11_wordOf_57_5 (nI p) (nI e) (nI (r + 1)) (nI (rst r)) (nI (rlen r)) s.1 s.2 h) (fun i s => s.2 = nI i ∧ ∃ al : Bool, s.1 = b2i al ∧ (al = true ↔ rlen r = e - p ∧ ∀ y, y < i → bt (p + y) = rlN (rst r + y))) (fun x => ∃ al : Bool, x = b2i al ∧ (al = true ↔ mR bt p (e - p) r)) (rlen r) (b2i (decide (rlen r = e - p)), (0 : Int32)) (by omega) ⟨rfl, _, rfl, by rw [decide_eq_true_iff]; exact ⟨fun a => ⟨a, fun y hy => absurd hy (Nat.not_lt_zero _)⟩, fun a => a.1⟩⟩ ?_ ?_
      · obtain ⟨x, k1, al, k2, k3⟩ := key2
        refine ⟨al, fun s0 hs => ?_, k3⟩
        unfold j_X11_wordOf_52_5
        rw [hs, k1, Option.bind_some, k2]
      · rintro i ⟨x6, x7⟩ hi ⟨p1, al, p2, p3⟩
        dsimp only at p1 p2
        subst p1
        subst p2
        show (∃ s', b_X11_wordOf_57_5 (nI p) (nI e) (nI (r + 1)) (nI (rst r)) (nI (rlen r)) (b2i al) (nI i) h = some (.inl s') ∧ _) ∨ (∃ x, b_X11_wordOf_57_5 (nI p) (nI e) (nI (r + 1)) (nI (rst r)) (nI (rlen r)) (b2i al) (nI i) h = some (.inr x) ∧ _)
        unfold b_X11_wordOf_57_5
        rw [if_neg (nI_ge hi (by omega))]
        cases al with
        | false =>
          right
          refine ⟨b2i false, by rw [if_pos (show b2i false = 0 from rfl)], false, rfl, fun c => absurd c (by decide), fun c => ?_⟩
          exact p3.mpr ⟨c.1.symm, fun y hy => c.2 y (by have := c.1; omega)⟩
        | true =>
          left
          obtain ⟨g1, g2⟩ := p3.mp rfl
          have hbl := hB.2 (p + i) (by omega)
          have hrl := rl_lo (rst r + i) (by omega)
          rw [if_neg (show ¬ b2i true = 0 by decide), nI_add, nI_add, inb_nI (show rst r + i < 144 by omega) (by omega), inb_nI (show p + i < 400 by omega) (by omega), Option.bind_some, Option.bind_some, hb.2 _ (by omega), hb.1 _ (by omega)]
          unfold j_X11_wordOf_96_57
          by_cases cc : bt (p + i) = rlN (rst r + i)
          · refine ⟨(b2i true, nI (i + 1)), by rw [if_pos ((sb_eq _ hbl _ hrl).mpr cc), nI_1]; rfl, rfl, true, rfl, fun _ => ⟨g1, fun y hy => ?_⟩, fun _ => rfl⟩
            by_cases c : y = i
            · rw [c]; exact cc
            · exact g2 y (by omega)
          · refine ⟨(b2i false, nI (i + 1)), by rw [if_neg (fun c => cc ((sb_eq _ hbl _ hrl).mp c)), nI_1]; rfl, rfl, false, rfl, fun c => absurd c (by decide), fun c => absurd (c.2 i (by omega)) cc⟩
      · rintro ⟨x6, x7⟩ ⟨p1, al, p2, p3⟩
        dsimp only at p1 p2
        subst p1
        subst p2
        refine ⟨b2i al, ?_, al, rfl, ?_⟩
        · show b_X11_wordOf_57_5 (nI p) (nI e) (nI (r + 1)) (nI (rst r)) (nI (rlen r)) (b2i al) (nI (rlen r)) h = _
          unfold b_X11_wordOf_57_5
          rw [if_pos (Int32.le_refl _)]
        · rw [p3]
          exact ⟨fun a => ⟨a.1.symm, fun y hy => a.2 y (by omega)⟩, fun a => ⟨a.1.symm, fun y hy => a.2 y (by have := a.1; omega)⟩⟩
    obtain ⟨al, m1, m2⟩ := l2
    have eb : b_X11_wordOf_5 (nI p) (nI e) (nI (r + 1)) (nI (rst r)) h = j_X11_wordOf_104_5 (nI p) (nI e) (nI (r + 1)) (nI (rst r)) (nI (rlen r)) (b2i al) h := by
      unfold b_X11_wordOf_5
      rw [if_neg (show ¬ (144 : Int32) ≤ nI (rst r) from nI_ge (a := rst r) (b := 144) (by omega) (by omega)), show ((0 : Int32)) = nI 0 from rfl, l1, Option.bind_some, pk_sub hp]
      by_cases c : rlen r = e - p
      · rw [if_pos (by rw [c])]
        exact m1 1 (by rw [decide_eq_true c]; rfl)
      · rw [if_neg (fun d => c ((nI_eq (by omega) (by omega)).mp d))]
        exact m1 (nI 0) (by rw [decide_eq_false c]; rfl)
    show (∃ s', b_X11_wordOf_5 (nI p) (nI e) (nI (r + 1)) (nI (rst r)) h = some (.inl s') ∧ _) ∨ (∃ x, b_X11_wordOf_5 (nI p) (nI e) (nI (r + 1)) (nI (rst r)) h = some (.inr x) ∧ _)
    rw [eb]
    unfold j_X11_wordOf_104_5
    cases al with
    | false =>
      left
      refine ⟨(nI (r + 1 + 1), nI (rst (r + 1))), ?_, rfl, rfl, fun v hv => ?_⟩
      · rw [if_pos (show b2i false = 0 from rfl), nI_1, nI_1, nI_add, t2]
        rfl
      · by_cases c : v = r
        · rw [c]; exact fun d => absurd (m2.mpr d) (by decide)
        · exact q3 v (by omega)
    | true =>
      right
      exact ⟨.inr (nI (r + 1)), by rw [if_neg (show ¬ b2i true = 0 by decide)]; rfl, r, hr, rfl, q3, m2.mp rfl⟩
  · rintro ⟨x3, x4⟩ ⟨q1, q2, q3⟩
    dsimp only at q1 q2
    subst q2
    refine ⟨.inl (), ?_, q3⟩
    show b_X11_wordOf_5 (nI p) (nI e) x3 (nI (rst 27)) h = _
    unfold b_X11_wordOf_5
    rw [r_end, if_pos (by decide)]
/-- both know the same word -/
theorem two_words {bt : Nat → Nat} {len p e : Nat} {hc g : Hp} (hB : Bts bt len) (hb : CB bt len hc) (hr : RB bt len g) (hp : p ≤ e) (he : e ≤ len) : ∃ w, w ≤ 27 ∧ f_X5_wordNumber (nI p) (nI e) hc = some (nI w) ∧ f_X11_wordOf (nI p) (nI e) g = some (nI (rk w)) := by
  obtain ⟨w, a1, a2, a3, a4⟩ := c_word hB hb hp he
  obtain ⟨r, b1, b2, b3, b4⟩ := m_word hB hr hp he
  refine ⟨w, a1, a2, ?_⟩
  rw [b2]
  by_cases hw : w < 27
  · have h1 := a4 hw
    have h2 := (mWR hw).mp h1
    obtain ⟨t1, t2, -, -⟩ := wr_tab w hw
    have hr1 : r < 27 := by
      by_cases c : r < 27
      · exact c
      · exact absurd h2 (b3 _ (by omega))
    obtain ⟨v, v1, v2⟩ := wr_sur r hr1
    have h3 : mW bt p (e - p) v := (mWR v1).mpr (by rw [v2]; exact b4 hr1)
    have h4 := mW_un hw v1 h1 h3
    rw [if_pos hr1, h4, v2]
  · have hw2 : w = 27 := by omega
    have hr1 : ¬ r < 27 := by
      intro c
      obtain ⟨v, v1, v2⟩ := wr_sur r c
      exact a3 v (by omega) ((mWR v1).mpr (by rw [v2]; exact b4 c))
    rw [if_neg hr1, hw2]
    rfl
