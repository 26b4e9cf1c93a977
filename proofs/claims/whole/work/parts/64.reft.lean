/-! ===== the reference's tests ===== -/
def RPt (lv br : Bool) (r : Option Bool) (v b : Bool) : Prop := (lv = true → br = false → (∀ x, r = some x → v = x ∧ b = false) ∧ (r = none → b = true)) ∧ ((lv = false ∨ br = true) → b = br)
def RD (kd vl : Nat → Nat) (N : Nat) (o : Bool) (k fu i j : Nat) (τ : Env → Option Bool) : Prop := ∀ f, fu ≤ f → ∀ (h : Hp) (base : Nat) (w : Env) (lv br : Bool), RX kd vl N base o w h → fI h 81 22 = nI (base + i) → fI h 81 24 = b2i br → ∃ v b, gr_D f k (b2i lv) h = some (v, gb h (nI (base + j)) (b2i b)) ∧ RPt lv br (τ w) v b
theorem gD_0 (f : Nat) (x : Int32) (h : Hp) : gr_D (f + 1) 0 x h = f_X11_testOf (gr_D f) x h := rfl
theorem gD_1 (f : Nat) (x : Int32) (h : Hp) : gr_D (f + 1) 1 x h = f_X11_bothOf (gr_D f) x h := rfl
theorem gD_2 (f : Nat) (x : Int32) (h : Hp) : gr_D (f + 1) 2 x h = f_X11_plainOf (gr_D f) x h := rfl
theorem gD_3 (f : Nat) (x : Int32) (h : Hp) : gr_D (f + 1) 3 x h = f_X11_positiveOf (gr_D f) x h := rfl
theorem i2b_b (b : Bool) : i2b (b2i b) = some b := by cases b <;> rfl
theorem b2i_0 (b : Bool) : b2i b = 0 ↔ b = false := by cases b <;> decide
section RDS
variable {kd vl : Nat → Nat} {N : Nat} {o : Bool}
theorem RD_paren {fu i j : Nat} {τ : Env → Option Bool} (hi : i < N) (hk : kd i = 140) (h1 : RD kd vl N o 0 fu (i + 1) j τ) : RD kd vl N o 3 (fu + 1) i (j + 1) τ := by
  intro f hf h base w lv br hx hg hb
  obtain ⟨f', rfl⟩ : ∃ f', f = f' + 1 := ⟨f - 1, by omega⟩
  have hc : rk (kd i) = 140 := by rw [hk]; rfl
  obtain ⟨v, b, e1, e2⟩ := h1 f' (by omega) (gb h (nI (base + i + 1)) (b2i br)) base w lv br (RX_gb hx _ _) (by rw [gb_22]; rfl) (gb_24 _ _ _)
  refine ⟨v, b, ?_, e2⟩
  rw [gD_3]
  unfold f_X11_positiveOf
  rw [sg40, Option.bind_some, r_passes hx (Nat.le_of_lt hi) hg (by decide) (hx.2.2.2.1 i hi).1, Option.bind_some]
  dsimp only
  rw [decide_eq_true hc, if_pos hc, if_pos rfl, hb, e1, Option.bind_some]
  dsimp only
  rw [gb_gb, gb_22, gb_s22, nI_1]
  rfl
def cmpS (q : Nat) (l r : Int32) : Bool := if q = 7 then decide (l < r) else if q = 8 then decide (r < l) else decide (l = r)
theorem toL_lt {l r : Int32} : l.toInt64 < r.toInt64 ↔ l < r := by
  rw [Int64.lt_iff_toInt_lt, Int32.lt_iff_toInt_lt, Int32.toInt_toInt64, Int32.toInt_toInt64]
theorem toL_le {l r : Int32} : l.toInt64 ≤ r.toInt64 ↔ l ≤ r := by
  rw [Int64.le_iff_toInt_le, Int32.le_iff_toInt_le, Int32.toInt_toInt64, Int32.toInt_toInt64]
theorem toL_eq {l r : Int32} : l.toInt64 = r.toInt64 ↔ l = r := by
  rw [← Int64.toInt_inj, ← Int32.toInt_inj, Int32.toInt_toInt64, Int32.toInt_toInt64]
theorem i32_nle {l r : Int32} : ¬ r ≤ l ↔ l < r := by
  rw [Int32.le_iff_toInt_le, Int32.lt_iff_toInt_lt]; omega
theorem RD_cmp {i m j q : Nat} {σ τ : Env → Option Int32} (hi : i < N) (hm : m < N) (hki : kd i ≠ 140) (h1 : RC kd vl N o 0 27 i m σ) (h2 : RC kd vl N o 0 27 (m + 1) j τ) (hk : kd m = 160 ∧ q = 7 ∨ kd m = 162 ∧ q = 8 ∨ kd m = 161 ∧ q = 9) : RD kd vl N o 3 1 i j (fun w => (σ w).bind fun l => (τ w).bind fun r => some (cmpS q l r)) := by
  intro f hf h base w lv br hx hg hb
  obtain ⟨f', rfl⟩ : ∃ f', f = f' + 1 := ⟨f - 1, by omega⟩
  have hc : rk (kd i) ≠ 140 := fun e => hki ((rk_sign (by decide)).mp e)
  obtain ⟨v, b, e1, e2⟩ := h1 GD (by decide) h base w lv br hx hg hb
  obtain ⟨v2, b2, d1, d2⟩ := h2 GD (by decide) (gb h (nI (base + (m + 1))) (b2i b)) base w lv b (RX_gb hx _ _) (gb_22 _ _ _) (gb_24 _ _ _)
  rw [gb_gb] at d1
  have hxg := RX_gb hx (nI (base + m)) (b2i b)
  have main : ∃ v', gr_D (f' + 1) 3 (b2i lv) h = some (v', gb h (nI (base + j)) (b2i b2)) ∧ (lv = true → b2 = false → ∀ l r : Int32, v = l.toInt64 → v2 = r.toInt64 → v' = cmpS q l r) := by
    rw [gD_3]
    unfold f_X11_positiveOf
    rw [sg40, Option.bind_some, r_passes hx (Nat.le_of_lt hi) hg (by decide) (hx.2.2.2.1 i hi).1, Option.bind_some]
    dsimp only
    rw [decide_eq_false hc, if_neg hc, if_neg (by decide), e1, Option.bind_some]
    dsimp only
    rw [gb_22, r_code hxg (Nat.le_of_lt hm), Option.bind_some, nI_1, gb_s22, Nat.add_assoc, d1, Option.bind_some]
    dsimp only
    cases lv with
    | false => exact ⟨false, by rw [if_pos (by decide)], fun c => (by cases c)⟩
    | true =>
      rw [if_neg (by decide), gb_24]
      cases b2 with
      | true => exact ⟨false, by rw [if_neg (by decide)], fun _ c => (by cases c)⟩
      | false =>
        rw [if_pos (by decide), sg60, Option.bind_some]
        rcases hk with ⟨hk, rfl⟩ | ⟨hk, rfl⟩ | ⟨hk, rfl⟩
        · rw [hk, if_pos (by decide)]
          by_cases c : v2 ≤ v
          · refine ⟨false, by rw [if_pos (lg_ge.mpr c)], fun _ _ l r hl hr => ?_⟩
            rw [hl, hr, toL_le] at c
            show false = decide (l < r)
            rw [decide_eq_false (fun d => i32_nle.mpr d c)]
          · refine ⟨true, by rw [if_neg (fun e => c (lg_ge.mp e))], fun _ _ l r hl hr => ?_⟩
            rw [hl, hr, toL_le] at c
            show true = decide (l < r)
            rw [decide_eq_true (i32_nle.mp c)]
        · rw [hk, if_neg (by decide), sg62, Option.bind_some, if_pos (by decide)]
          by_cases c : v ≤ v2
          · refine ⟨false, by rw [if_pos (lg_le.mpr c)], fun _ _ l r hl hr => ?_⟩
            rw [hl, hr, toL_le] at c
            show false = decide (r < l)
            rw [decide_eq_false (fun d => i32_nle.mpr d c)]
          · refine ⟨true, by rw [if_neg (fun e => c (lg_le.mp e))], fun _ _ l r hl hr => ?_⟩
            rw [hl, hr, toL_le] at c
            show true = decide (r < l)
            rw [decide_eq_true (i32_nle.mp c)]
        · rw [hk, if_neg (by decide), sg62, Option.bind_some, if_neg (by decide)]
          by_cases c : v = v2
          · refine ⟨true, by rw [if_pos (lg_eq.mpr c)], fun _ _ l r hl hr => ?_⟩
            rw [hl, hr, toL_eq] at c
            show true = decide (l = r)
            rw [decide_eq_true c]
          · refine ⟨false, by rw [if_neg (fun e => c (lg_eq.mp e))], fun _ _ l r hl hr => ?_⟩
            rw [hl, hr, toL_eq] at c
            show false = decide (l = r)
            rw [decide_eq_false c]
  obtain ⟨v', g1, g2⟩ := main
  refine ⟨v', b2, g1, fun c1 c2 => ?_, fun c => ?_⟩
  · obtain ⟨a1, a2⟩ := e2.1 c1 c2
    dsimp only
    cases es : σ w with
    | none =>
      have x1 := a2 es
      have x2 := d2.2 (Or.inr x1)
      exact ⟨fun x hx => (by cases hx), fun _ => x2.trans x1⟩
    | some l =>
      obtain ⟨a3, a4⟩ := a1 l es
      obtain ⟨b1, b3⟩ := d2.1 c1 a4
      cases et : τ w with
      | none => exact ⟨fun x hx => (by cases hx), fun _ => b3 et⟩
      | some r =>
        obtain ⟨b4, b5⟩ := b1 r et
        exact ⟨fun x hx => ⟨(g2 c1 b5 l r a3 b4).trans (Option.some.inj hx), b5⟩, fun hx => (by cases hx)⟩
  · have x1 := e2.2 c
    exact (d2.2 (c.imp id (fun c => x1.trans c))).trans x1
theorem RD_plain {n fu i j : Nat} {τ : Env → Option Bool} (hi : i + n < N) (hl : n < 10000) (hn : ∀ x, x < n → kd (i + x) = 26) (hk : kd (i + n) ≠ 26) (hk2 : kd (i + n) < 400) (h1 : RD kd vl N o 3 fu (i + n) j τ) : RD kd vl N o 2 (fu + 1) i j (fun w => if n % 2 = 1 then (τ w).map (fun x => !x) else τ w) := by
  intro f hf h base w lv br hx hg hb
  obtain ⟨f', rfl⟩ : ∃ f', f = f' + 1 := ⟨f - 1, by omega⟩
  have hrk : ∀ q, q < 400 → (rk q = 7 ↔ q = 26) := by
    intro q hq
    by_cases c : q < 30
    · have : ∀ q, q < 30 → (rk q = 7 ↔ q = 26) := by decide
      exact this q c
    · rw [rk_hi (by omega)]; omega
  have hid : gb h (nI (base + (i + 0))) (b2i br) = h := by
    have := gb_id h
    rw [hg, hb] at this
    exact this
  have lps : lp (fun s : Int32 × Hp => b_X11_plainOf_2 (gr_D f') (b2i lv) s.1 s.2) FU (nI 0, h) = some (nI (n % 2), gb h (nI (base + (i + n))) (b2i br)) := by
    have := lp_run (b := fun s : Int32 × Hp => b_X11_plainOf_2 (gr_D f') (b2i lv) s.1 s.2) (fun x => (nI (x % 2), gb h (nI (base + (i + x))) (b2i br))) n (nI (n % 2), gb h (nI (base + (i + n))) (b2i br)) (by omega) (fun x hx1 => ?_) ?_
    · rw [hid] at this
      exact this
    · show b_X11_plainOf_2 (gr_D f') (b2i lv) (nI (x % 2)) (gb h (nI (base + (i + x))) (b2i br)) = _
      unfold b_X11_plainOf_2
      have h7 : rk (kd (i + x)) = 7 := by rw [hn x hx1]; rfl
      rw [show ((7 : Int32)) = nI 7 from rfl, r_passes (RX_gb hx _ _) (by omega) (gb_22 _ _ _) (by decide) (by rw [hn x hx1]; decide), Option.bind_some]
      dsimp only
      rw [decide_eq_true h7, if_pos h7, if_pos rfl, gb_gb, gb_24]
      by_cases c : x % 2 = 0
      · rw [if_pos (by rw [c]; rfl), show (x + 1) % 2 = 1 by omega]
        rfl
      · rw [if_neg (by rw [show x % 2 = 1 by omega]; decide), show (x + 1) % 2 = 0 by omega]
        rfl
    · show b_X11_plainOf_2 (gr_D f') (b2i lv) (nI (n % 2)) (gb h (nI (base + (i + n))) (b2i br)) = _
      unfold b_X11_plainOf_2
      have h7 : ¬ rk (kd (i + n)) = 7 := fun e => hk ((hrk _ hk2).mp e)
      rw [show ((7 : Int32)) = nI 7 from rfl, r_passes (RX_gb hx _ _) (by omega) (gb_22 _ _ _) (by decide) hk2, Option.bind_some]
      dsimp only
      rw [decide_eq_false h7, if_neg h7, if_neg (by decide)]
  obtain ⟨v, b, e1, e2⟩ := h1 f' (by omega) (gb h (nI (base + (i + n))) (b2i br)) base w lv br (RX_gb hx _ _) (gb_22 _ _ _) (gb_24 _ _ _)
  rw [gb_gb] at e1
  refine ⟨if n % 2 = 1 then !v else v, b, ?_, fun c1 c2 => ?_, e2.2⟩
  · rw [gD_2]
    unfold f_X11_plainOf
    rw [show (((0 : Int32), h)) = (nI 0, h) from rfl, lps, Option.bind_some]
    dsimp only
    rw [e1, Option.bind_some]
    dsimp only
    have h01 : n % 2 = 1 ∨ n % 2 = 0 := by omega
    rcases h01 with c | c
    · rw [c]
      cases v <;> rfl
    · rw [c]
      cases v <;> rfl
  · obtain ⟨a1, a2⟩ := e2.1 c1 c2
    dsimp only
    by_cases c : n % 2 = 1
    · rw [if_pos c, if_pos c]
      refine ⟨fun x hx => ?_, fun hx => a2 (map_none hx)⟩
      obtain ⟨y, hy, hxy⟩ := map_some hx
      rw [hxy, (a1 y hy).1]
      exact ⟨rfl, (a1 y hy).2⟩
    · rw [if_neg c, if_neg c]
      exact ⟨a1, a2⟩
theorem RPt_Tst {lv br b b2 v v2 : Bool} {s t : Option Bool} (h1 : RPt lv br s v b) (h2 : RPt (lv && !v) b t v2 b2) : RPt lv br (s.bind fun x => if x = true then some true else t) (v || v2) b2 := by
  refine ⟨fun c1 c2 => ?_, fun c => ?_⟩
  · obtain ⟨a1, a2⟩ := h1.1 c1 c2
    cases s with
    | none =>
      have e1 := a2 rfl
      exact ⟨fun x hx => (by cases hx), fun _ => (h2.2 (Or.inr e1)).trans e1⟩
    | some x =>
      obtain ⟨a3, a4⟩ := a1 x rfl
      subst a3
      subst c1
      cases v with
      | true =>
        have e1 := h2.2 (Or.inl rfl)
        refine ⟨fun y hy => ⟨?_, e1.trans a4⟩, fun hy => (by cases hy)⟩
        exact Option.some.inj hy
      | false =>
        obtain ⟨b1, b3⟩ := h2.1 rfl a4
        exact ⟨fun y hy => b1 y hy, fun hy => b3 hy⟩
  · have e1 := h1.2 c
    refine (h2.2 ?_).trans e1
    rcases c with c | c
    · left; rw [c]; rfl
    · right; exact e1.trans c
/-- a testOf, up to token j -/
def PTst (kd vl : Nat → Nat) (N : Nat) (o : Bool) (fu i j : Nat) (σ : Env → Option Bool) : Prop := ∀ f, fu ≤ f → ∀ (h : Hp) (base : Nat) (w : Env) (lv br : Bool), RX kd vl N base o w h → fI h 81 22 = nI (base + i) → fI h 81 24 = b2i br → ∃ v1 v b m, m ≤ j - i ∧ gr_D f 1 (b2i lv) h = some v1 ∧ (∀ F, lp (fun s : Int32 × Hp => b_X11_testOf_6 (gr_D f) (b2i lv) s.1 s.2) (F + m) (b2i v1.1, v1.2) = lp (fun s : Int32 × Hp => b_X11_testOf_6 (gr_D f) (b2i lv) s.1 s.2) F (b2i v, gb h (nI (base + j)) (b2i b))) ∧ RPt lv br (σ w) v b
theorem PTst_0 {fu i j : Nat} {σ : Env → Option Bool} (h1 : RD kd vl N o 1 fu i j σ) : PTst kd vl N o fu i j σ := by
  intro f hf h base w lv br hx hg hb
  obtain ⟨v, b, e1, e2⟩ := h1 f hf h base w lv br hx hg hb
  exact ⟨_, v, b, 0, Nat.zero_le _, e1, fun F => rfl, e2⟩
theorem PTst_e {fu i j : Nat} {σ : Env → Option Bool} (h1 : PTst kd vl N o fu i j σ) (hj : j ≤ N) (hl : j - i < 10000) (hkd : kd j < 400) (hk : kd j ≠ 24) : RD kd vl N o 0 (fu + 1) i j σ := by
  intro f hf h base w lv br hx hg hb
  obtain ⟨f', rfl⟩ : ∃ f', f = f' + 1 := ⟨f - 1, by omega⟩
  obtain ⟨v1, v, b, m, e1, e2, e3, e4⟩ := h1 f' (by omega) h base w lv br hx hg hb
  refine ⟨v, b, ?_, e4⟩
  have hc : ¬ rk (kd j) = 5 := by
    intro e
    by_cases c : kd j < 30
    · revert e hk
      have : ∀ q, q < 30 → q ≠ 24 → rk q = 5 → False := by decide
      exact this (kd j) c
    · rw [rk_hi (by omega)] at e; omega
  have hxg := RX_gb hx (nI (base + j)) (b2i b)
  rw [gD_0]
  unfold f_X11_testOf
  rw [e2, Option.bind_some]
  have e5 := e3 (FU - m)
  rw [show FU - m + m = FU by show 20000 - m + m = 20000; omega] at e5
  rw [e5]
  obtain ⟨F', hF⟩ : ∃ F', FU - m = F' + 1 := ⟨19999 - m, by show 20000 - m = _; omega⟩
  rw [hF, lp_e (e := (b2i v, gb h (nI (base + j)) (b2i b))) ?_ F', Option.bind_some]
  · dsimp only
    rw [i2b_b, Option.bind_some]
  · show b_X11_testOf_6 (gr_D f') (b2i lv) (b2i v) (gb h (nI (base + j)) (b2i b)) = _
    unfold b_X11_testOf_6
    rw [show ((5 : Int32)) = nI 5 from rfl, r_passes hxg hj (gb_22 _ _ _) (by decide) hkd, Option.bind_some]
    dsimp only
    rw [decide_eq_false hc, if_neg hc, if_neg (by decide)]
theorem PTst_s {fu i j : Nat} {σ : Env → Option Bool} {j' : Nat} {τ : Env → Option Bool} (h1 : PTst kd vl N o fu i j σ) (h2 : RD kd vl N o 1 fu (j + 1) j' τ) (hij : i ≤ j) (hj : j < N) (hj' : j < j') (hk : kd j = 24) : PTst kd vl N o fu i j' (fun w => (σ w).bind fun x => if x = true then some true else τ w) := by
  intro f hf h base w lv br hx hg hb
  obtain ⟨v1, v, b, m, e1, e2, e3, e4⟩ := h1 f hf h base w lv br hx hg hb
  have hxg := RX_gb hx (nI (base + j)) (b2i b)
  have hjN := Nat.le_of_lt hj
  have hc : rk (kd j) = 5 := by rw [hk]; rfl
  obtain ⟨v2, b2, d1, d2⟩ := h2 f hf (gb h (nI (base + (j + 1))) (b2i b)) base w (lv && !v) b (RX_gb hx _ _) (gb_22 _ _ _) (gb_24 _ _ _)
  rw [gb_gb] at d1
  have hst : b_X11_testOf_6 (gr_D f) (b2i lv) (b2i v) (gb h (nI (base + j)) (b2i b)) = some (.inl (b2i (v || v2), gb h (nI (base + j')) (b2i b2))) := by
    unfold b_X11_testOf_6
    rw [show ((5 : Int32)) = nI 5 from rfl, r_passes hxg hjN (gb_22 _ _ _) (by decide) (by rw [hk]; decide), Option.bind_some]
    dsimp only
    rw [decide_eq_true hc, if_pos hc, if_pos rfl, gb_gb, gb_24, Nat.add_assoc]
    have e28 : ∀ s1 : Int32, s1 = b2i (lv && !v) → j_X11_testOf_28_6 (gr_D f) (b2i lv) (b2i v) s1 (gb h (nI (base + (j + 1))) (b2i b)) = some (.inl (b2i (v || v2), gb h (nI (base + j')) (b2i b2))) := by
      intro s1 hs
      unfold j_X11_testOf_28_6
      rw [hs, d1, Option.bind_some]
      dsimp only
      cases v
      · rw [if_pos (by decide)]
        cases v2
        · rw [if_neg (by decide)]; rfl
        · rw [if_pos rfl]; rfl
      · rw [if_neg (by decide)]; rfl
    cases lv with
    | false => rw [if_pos (by decide)]; exact e28 0 rfl
    | true =>
      rw [if_neg (by decide)]
      cases v with
      | false => rw [if_pos (by decide)]; exact e28 1 rfl
      | true => rw [if_neg (by decide)]; exact e28 0 rfl
  refine ⟨v1, (v || v2), b2, 1 + m, by omega, e2, fun F => ?_, RPt_Tst e4 d2⟩
  rw [← Nat.add_assoc, e3]
  exact lp_1 hst F
theorem RPt_Bth {lv br b b2 v v2 : Bool} {s t : Option Bool} (h1 : RPt lv br s v b) (h2 : RPt (lv && v) b t v2 b2) : RPt lv br (s.bind fun x => if x = false then some false else t) (v && v2) b2 := by
  refine ⟨fun c1 c2 => ?_, fun c => ?_⟩
  · obtain ⟨a1, a2⟩ := h1.1 c1 c2
    cases s with
    | none =>
      have e1 := a2 rfl
      exact ⟨fun x hx => (by cases hx), fun _ => (h2.2 (Or.inr e1)).trans e1⟩
    | some x =>
      obtain ⟨a3, a4⟩ := a1 x rfl
      subst a3
      subst c1
      cases v with
      | false =>
        have e1 := h2.2 (Or.inl rfl)
        refine ⟨fun y hy => ⟨?_, e1.trans a4⟩, fun hy => (by cases hy)⟩
        exact Option.some.inj hy
      | true =>
        obtain ⟨b1, b3⟩ := h2.1 rfl a4
        exact ⟨fun y hy => b1 y hy, fun hy => b3 hy⟩
  · have e1 := h1.2 c
    refine (h2.2 ?_).trans e1
    rcases c with c | c
    · left; rw [c]; rfl
    · right; exact e1.trans c
/-- a bothOf, up to token j -/
def PBth (kd vl : Nat → Nat) (N : Nat) (o : Bool) (fu i j : Nat) (σ : Env → Option Bool) : Prop := ∀ f, fu ≤ f → ∀ (h : Hp) (base : Nat) (w : Env) (lv br : Bool), RX kd vl N base o w h → fI h 81 22 = nI (base + i) → fI h 81 24 = b2i br → ∃ v1 v b m, m ≤ j - i ∧ gr_D f 2 (b2i lv) h = some v1 ∧ (∀ F, lp (fun s : Int32 × Hp => b_X11_bothOf_6 (gr_D f) (b2i lv) s.1 s.2) (F + m) (b2i v1.1, v1.2) = lp (fun s : Int32 × Hp => b_X11_bothOf_6 (gr_D f) (b2i lv) s.1 s.2) F (b2i v, gb h (nI (base + j)) (b2i b))) ∧ RPt lv br (σ w) v b
theorem PBth_0 {fu i j : Nat} {σ : Env → Option Bool} (h1 : RD kd vl N o 2 fu i j σ) : PBth kd vl N o fu i j σ := by
  intro f hf h base w lv br hx hg hb
  obtain ⟨v, b, e1, e2⟩ := h1 f hf h base w lv br hx hg hb
  exact ⟨_, v, b, 0, Nat.zero_le _, e1, fun F => rfl, e2⟩
theorem PBth_e {fu i j : Nat} {σ : Env → Option Bool} (h1 : PBth kd vl N o fu i j σ) (hj : j ≤ N) (hl : j - i < 10000) (hkd : kd j < 400) (hk : kd j ≠ 25) : RD kd vl N o 1 (fu + 1) i j σ := by
  intro f hf h base w lv br hx hg hb
  obtain ⟨f', rfl⟩ : ∃ f', f = f' + 1 := ⟨f - 1, by omega⟩
  obtain ⟨v1, v, b, m, e1, e2, e3, e4⟩ := h1 f' (by omega) h base w lv br hx hg hb
  refine ⟨v, b, ?_, e4⟩
  have hc : ¬ rk (kd j) = 6 := by
    intro e
    by_cases c : kd j < 30
    · revert e hk
      have : ∀ q, q < 30 → q ≠ 25 → rk q = 6 → False := by decide
      exact this (kd j) c
    · rw [rk_hi (by omega)] at e; omega
  have hxg := RX_gb hx (nI (base + j)) (b2i b)
  rw [gD_1]
  unfold f_X11_bothOf
  rw [e2, Option.bind_some]
  have e5 := e3 (FU - m)
  rw [show FU - m + m = FU by show 20000 - m + m = 20000; omega] at e5
  rw [e5]
  obtain ⟨F', hF⟩ : ∃ F', FU - m = F' + 1 := ⟨19999 - m, by show 20000 - m = _; omega⟩
  rw [hF, lp_e (e := (b2i v, gb h (nI (base + j)) (b2i b))) ?_ F', Option.bind_some]
  · dsimp only
    rw [i2b_b, Option.bind_some]
  · show b_X11_bothOf_6 (gr_D f') (b2i lv) (b2i v) (gb h (nI (base + j)) (b2i b)) = _
    unfold b_X11_bothOf_6
    rw [show ((6 : Int32)) = nI 6 from rfl, r_passes hxg hj (gb_22 _ _ _) (by decide) hkd, Option.bind_some]
    dsimp only
    rw [decide_eq_false hc, if_neg hc, if_neg (by decide)]
theorem PBth_s {fu i j : Nat} {σ : Env → Option Bool} {j' : Nat} {τ : Env → Option Bool} (h1 : PBth kd vl N o fu i j σ) (h2 : RD kd vl N o 2 fu (j + 1) j' τ) (hij : i ≤ j) (hj : j < N) (hj' : j < j') (hk : kd j = 25) : PBth kd vl N o fu i j' (fun w => (σ w).bind fun x => if x = false then some false else τ w) := by
  intro f hf h base w lv br hx hg hb
  obtain ⟨v1, v, b, m, e1, e2, e3, e4⟩ := h1 f hf h base w lv br hx hg hb
  have hxg := RX_gb hx (nI (base + j)) (b2i b)
  have hjN := Nat.le_of_lt hj
  have hc : rk (kd j) = 6 := by rw [hk]; rfl
  obtain ⟨v2, b2, d1, d2⟩ := h2 f hf (gb h (nI (base + (j + 1))) (b2i b)) base w (lv && v) b (RX_gb hx _ _) (gb_22 _ _ _) (gb_24 _ _ _)
  rw [gb_gb] at d1
  have hst : b_X11_bothOf_6 (gr_D f) (b2i lv) (b2i v) (gb h (nI (base + j)) (b2i b)) = some (.inl (b2i (v && v2), gb h (nI (base + j')) (b2i b2))) := by
    unfold b_X11_bothOf_6
    rw [show ((6 : Int32)) = nI 6 from rfl, r_passes hxg hjN (gb_22 _ _ _) (by decide) (by rw [hk]; decide), Option.bind_some]
    dsimp only
    rw [decide_eq_true hc, if_pos hc, if_pos rfl, gb_gb, gb_24, Nat.add_assoc]
    have e28 : ∀ s1 : Int32, s1 = b2i (lv && v) → j_X11_bothOf_29_6 (gr_D f) (b2i lv) (b2i v) s1 (gb h (nI (base + (j + 1))) (b2i b)) = some (.inl (b2i (v && v2), gb h (nI (base + j')) (b2i b2))) := by
      intro s1 hs
      unfold j_X11_bothOf_29_6
      rw [hs, d1, Option.bind_some]
      dsimp only
      cases v
      · rw [if_pos (by decide)]; rfl
      · rw [if_neg (by decide)]
        cases v2
        · rw [if_neg (by decide)]; rfl
        · rw [if_pos rfl]; rfl
    cases lv with
    | false => rw [if_pos (by decide)]; exact e28 0 rfl
    | true =>
      rw [if_neg (by decide)]
      cases v with
      | false => rw [if_pos (by decide)]; exact e28 0 rfl
      | true => rw [if_neg (by decide)]; exact e28 1 rfl
  refine ⟨v1, (v && v2), b2, 1 + m, by omega, e2, fun F => ?_, RPt_Bth e4 d2⟩
  rw [← Nat.add_assoc, e3]
  exact lp_1 hst F
end RDS
