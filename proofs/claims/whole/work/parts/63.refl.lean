/-! ===== sums and terms ===== -/
theorem rk_sign {q c : Nat} (hc : 100 ≤ c) : rk q = c ↔ q = c := by
  by_cases h : q < 30
  · have := rk_lo q h
    exact ⟨fun e => by omega, fun e => by omega⟩
  · rw [rk_hi (by omega)]
theorem rk_no {q c : Nat} (h : q ≠ c) (hq : q < 400) (hc : 100 ≤ c) (hc2 : c < 400) : ¬ nI (rk q) = nI c := by
  intro e
  have := rk_bd hq
  exact h ((rk_sign hc).mp ((nI_eq (by omega) (by omega)).mp e))
/-- a Sum, up to token j -/
def PSum (kd vl : Nat → Nat) (N : Nat) (o : Bool) (fu i j : Nat) (σ : Env → Option Int32) : Prop := ∀ f, fu ≤ f → ∀ (h : Hp) (base : Nat) (w : Env) (lv br : Bool), RX kd vl N base o w h → fI h 81 22 = nI (base + i) → fI h 81 24 = b2i br → ∃ v1 v b m, m ≤ j - i ∧ gr_C f 1 (b2i lv) h = some v1 ∧ (∀ F, lp (fun s : Int64 × Hp => b_X11_sumOf_6 (gr_C f) (b2i lv) s.1 s.2) (F + m) (v1.1, v1.2) = lp (fun s : Int64 × Hp => b_X11_sumOf_6 (gr_C f) (b2i lv) s.1 s.2) F (v, gb h (nI (base + j)) (b2i b))) ∧ RPo lv br (σ w) v b
theorem PSum_0 {kd vl : Nat → Nat} {N : Nat} {o : Bool} {fu i j : Nat} {σ : Env → Option Int32} (h1 : RC kd vl N o 1 fu i j σ) : PSum kd vl N o fu i j σ := by
  intro f hf h base w lv br hx hg hb
  obtain ⟨v, b, e1, e2⟩ := h1 f hf h base w lv br hx hg hb
  exact ⟨_, v, b, 0, Nat.zero_le _, e1, fun F => rfl, e2⟩
theorem PSum_e {kd vl : Nat → Nat} {N : Nat} {o : Bool} {fu i j : Nat} {σ : Env → Option Int32} (h1 : PSum kd vl N o fu i j σ) (hj : j ≤ N) (hl : j - i < 10000) (hkd : kd j < 400) (hk : kd j ≠ 143 ∧ kd j ≠ 145) : RC kd vl N o 0 (fu + 1) i j σ := by
  intro f hf h base w lv br hx hg hb
  obtain ⟨f', rfl⟩ : ∃ f', f = f' + 1 := ⟨f - 1, by omega⟩
  obtain ⟨v1, v, b, m, e1, e2, e3, e4⟩ := h1 f' (by omega) h base w lv br hx hg hb
  refine ⟨v, b, ?_, e4⟩
  obtain ⟨hk0, hk1⟩ := hk
  have hxg := RX_gb hx (nI (base + j)) (b2i b)
  rw [gC_0]
  unfold f_X11_sumOf
  rw [e2, Option.bind_some]
  have e5 := e3 (FU - m)
  rw [show FU - m + m = FU by show 20000 - m + m = 20000; omega] at e5
  rw [e5]
  obtain ⟨F', hF⟩ : ∃ F', FU - m = F' + 1 := ⟨19999 - m, by show 20000 - m = _; omega⟩
  rw [hF, lp_e (e := (v, gb h (nI (base + j)) (b2i b))) ?_ F', Option.bind_some]
  show b_X11_sumOf_6 (gr_C f') (b2i lv) v (gb h (nI (base + j)) (b2i b)) = _
  unfold b_X11_sumOf_6
  rw [gb_22, r_code hxg hj, Option.bind_some, sg43, Option.bind_some, if_neg (rk_no hk0 hkd (by decide) (by decide)), Option.bind_some, sg45, Option.bind_some, if_neg (rk_no hk1 hkd (by decide) (by decide))]
theorem PSum_s {kd vl : Nat → Nat} {N : Nat} {o : Bool} {fu i j : Nat} {σ : Env → Option Int32} {q j' : Nat} {τ : Env → Option Int32} (h1 : PSum kd vl N o fu i j σ) (h2 : RC kd vl N o 1 fu (j + 1) j' τ) (hij : i ≤ j) (hj : j < N) (hj' : j < j') (hk : kd j = 143 ∧ q = 2 ∨ kd j = 145 ∧ q = 3) : PSum kd vl N o fu i j' (fun w => (σ w).bind fun l => (τ w).bind fun r => opS q l r) := by
  intro f hf h base w lv br hx hg hb
  obtain ⟨v1, v, b, m, e1, e2, e3, e4⟩ := h1 f hf h base w lv br hx hg hb
  have hxg := RX_gb hx (nI (base + j)) (b2i b)
  have hjN := Nat.le_of_lt hj
  obtain ⟨v2, b2, d1, d2⟩ := h2 f hf (gb h (nI (base + (j + 1))) (b2i b)) base w lv b (RX_gb hx _ _) (gb_22 _ _ _) (gb_24 _ _ _)
  rw [gb_gb] at d1
  have hst : ∃ v' b', b_X11_sumOf_6 (gr_C f) (b2i lv) v (gb h (nI (base + j)) (b2i b)) = some (.inl (v', gb h (nI (base + j')) (b2i b'))) ∧ RPo lv br ((σ w).bind fun l => (τ w).bind fun r => opS q l r) v' b' := by
    rcases hk with ⟨hk, rfl⟩ | ⟨hk, rfl⟩
    · have hc : rk (kd j) = 143 := by rw [hk]; rfl
      obtain ⟨v', b', x1, x2, x3⟩ := r_bounded h (nI (base + j')) lv b2 (v + v2)
      refine ⟨v', b', ?_, RPo_op e4 d2 x2 x3 (fun l r hl hr => by rw [hl, hr]; exact opS_2 l r)⟩
      unfold b_X11_sumOf_6
      rw [gb_22, r_code hxg hjN, Option.bind_some, sg43, Option.bind_some, hc, if_pos rfl]
      unfold j_X11_sumOf_38_6
      rw [gb_22, r_code hxg hjN, Option.bind_some, sg43, Option.bind_some, hc, if_pos rfl]
      unfold j_X11_sumOf_59_6
      rw [gb_22, nI_1, gb_s22, Nat.add_assoc, d1, Option.bind_some, if_neg (by decide)]
      unfold j_X11_sumOf_95_6
      rw [x1, Option.bind_some]
    · have hc : rk (kd j) = 145 := by rw [hk]; rfl
      obtain ⟨v', b', x1, x2, x3⟩ := r_bounded h (nI (base + j')) lv b2 (v - v2)
      refine ⟨v', b', ?_, RPo_op e4 d2 x2 x3 (fun l r hl hr => by rw [hl, hr]; exact opS_3 l r)⟩
      unfold b_X11_sumOf_6
      rw [gb_22, r_code hxg hjN, Option.bind_some, sg43, Option.bind_some, hc, if_neg (show ¬ nI 145 = nI 143 by decide), Option.bind_some, sg45, Option.bind_some, if_pos rfl]
      unfold j_X11_sumOf_38_6
      rw [gb_22, r_code hxg hjN, Option.bind_some, sg43, Option.bind_some, hc, if_neg (show ¬ nI 145 = nI 143 by decide)]
      unfold j_X11_sumOf_59_6
      rw [gb_22, nI_1, gb_s22, Nat.add_assoc, d1, Option.bind_some, if_pos rfl]
      unfold j_X11_sumOf_95_6
      rw [x1, Option.bind_some]
  obtain ⟨v', b', s1, s2⟩ := hst
  refine ⟨v1, v', b', 1 + m, by omega, e2, fun F => ?_, s2⟩
  rw [← Nat.add_assoc, e3]
  exact lp_1 s1 F
/-- a Trm, up to token j -/
def PTrm (kd vl : Nat → Nat) (N : Nat) (o : Bool) (fu i j : Nat) (σ : Env → Option Int32) : Prop := ∀ f, fu ≤ f → ∀ (h : Hp) (base : Nat) (w : Env) (lv br : Bool), RX kd vl N base o w h → fI h 81 22 = nI (base + i) → fI h 81 24 = b2i br → ∃ v1 v b m, m ≤ j - i ∧ gr_C f 2 (b2i lv) h = some v1 ∧ (∀ F, lp (fun s : Int64 × Hp => b_X11_termOf_6 (gr_C f) (b2i lv) s.1 s.2) (F + m) (v1.1, v1.2) = lp (fun s : Int64 × Hp => b_X11_termOf_6 (gr_C f) (b2i lv) s.1 s.2) F (v, gb h (nI (base + j)) (b2i b))) ∧ RPo lv br (σ w) v b
theorem PTrm_0 {kd vl : Nat → Nat} {N : Nat} {o : Bool} {fu i j : Nat} {σ : Env → Option Int32} (h1 : RC kd vl N o 2 fu i j σ) : PTrm kd vl N o fu i j σ := by
  intro f hf h base w lv br hx hg hb
  obtain ⟨v, b, e1, e2⟩ := h1 f hf h base w lv br hx hg hb
  exact ⟨_, v, b, 0, Nat.zero_le _, e1, fun F => rfl, e2⟩
theorem PTrm_e {kd vl : Nat → Nat} {N : Nat} {o : Bool} {fu i j : Nat} {σ : Env → Option Int32} (h1 : PTrm kd vl N o fu i j σ) (hj : j ≤ N) (hl : j - i < 10000) (hkd : kd j < 400) (hk : kd j ≠ 142 ∧ kd j ≠ 147 ∧ kd j ≠ 137) : RC kd vl N o 1 (fu + 1) i j σ := by
  intro f hf h base w lv br hx hg hb
  obtain ⟨f', rfl⟩ : ∃ f', f = f' + 1 := ⟨f - 1, by omega⟩
  obtain ⟨v1, v, b, m, e1, e2, e3, e4⟩ := h1 f' (by omega) h base w lv br hx hg hb
  refine ⟨v, b, ?_, e4⟩
  obtain ⟨hk0, hk1, hk2⟩ := hk
  have hxg := RX_gb hx (nI (base + j)) (b2i b)
  rw [gC_1]
  unfold f_X11_termOf
  rw [e2, Option.bind_some]
  have e5 := e3 (FU - m)
  rw [show FU - m + m = FU by show 20000 - m + m = 20000; omega] at e5
  rw [e5]
  obtain ⟨F', hF⟩ : ∃ F', FU - m = F' + 1 := ⟨19999 - m, by show 20000 - m = _; omega⟩
  rw [hF, lp_e (e := (v, gb h (nI (base + j)) (b2i b))) ?_ F', Option.bind_some]
  show b_X11_termOf_6 (gr_C f') (b2i lv) v (gb h (nI (base + j)) (b2i b)) = _
  unfold b_X11_termOf_6
  rw [gb_22, r_code hxg hj, Option.bind_some, sg42, Option.bind_some, if_neg (rk_no hk0 hkd (by decide) (by decide)), Option.bind_some, sg47, Option.bind_some, if_neg (rk_no hk1 hkd (by decide) (by decide)), Option.bind_some, sg37, Option.bind_some, if_neg (rk_no hk2 hkd (by decide) (by decide))]
theorem PTrm_s {kd vl : Nat → Nat} {N : Nat} {o : Bool} {fu i j : Nat} {σ : Env → Option Int32} {q j' : Nat} {τ : Env → Option Int32} (h1 : PTrm kd vl N o fu i j σ) (h2 : RC kd vl N o 2 fu (j + 1) j' τ) (hij : i ≤ j) (hj : j < N) (hj' : j < j') (hk : kd j = 142 ∧ q = 4 ∨ kd j = 147 ∧ q = 5 ∨ kd j = 137 ∧ q = 6) : PTrm kd vl N o fu i j' (fun w => (σ w).bind fun l => (τ w).bind fun r => opS q l r) := by
  intro f hf h base w lv br hx hg hb
  obtain ⟨v1, v, b, m, e1, e2, e3, e4⟩ := h1 f hf h base w lv br hx hg hb
  have hxg := RX_gb hx (nI (base + j)) (b2i b)
  have hjN := Nat.le_of_lt hj
  obtain ⟨v2, b2, d1, d2⟩ := h2 f hf (gb h (nI (base + (j + 1))) (b2i b)) base w lv b (RX_gb hx _ _) (gb_22 _ _ _) (gb_24 _ _ _)
  rw [gb_gb] at d1
  have hst : ∃ v' b', b_X11_termOf_6 (gr_C f) (b2i lv) v (gb h (nI (base + j)) (b2i b)) = some (.inl (v', gb h (nI (base + j')) (b2i b'))) ∧ RPo lv br ((σ w).bind fun l => (τ w).bind fun r => opS q l r) v' b' := by
    rcases hk with ⟨hk, rfl⟩ | ⟨hk, rfl⟩ | ⟨hk, rfl⟩
    · have hc : rk (kd j) = 142 := by rw [hk]; rfl
      have en : b_X11_termOf_6 (gr_C f) (b2i lv) v (gb h (nI (base + j)) (b2i b)) = j_X11_termOf_54_6 (gr_C f) (b2i lv) v (gb h (nI (base + j)) (b2i b)) := by
        unfold b_X11_termOf_6
        rw [gb_22, r_code hxg hjN, Option.bind_some, sg42, Option.bind_some, hc, if_pos rfl]
      rw [en]
      unfold j_X11_termOf_54_6
      rw [gb_22, r_code hxg hjN, Option.bind_some, nI_1, gb_s22, Nat.add_assoc, d1, Option.bind_some, sg42, Option.bind_some, hc]
      dsimp only
      rw [if_pos rfl]
      obtain ⟨v', b', x1, x2, x3⟩ := r_bounded h (nI (base + j')) lv b2 (v * v2)
      refine ⟨v', b', ?_, RPo_op e4 d2 x2 x3 (fun l r hl hr => by rw [hl, hr]; exact opS_4 l r)⟩
      unfold j_X11_termOf_121_6
      rw [sg42, Option.bind_some, if_pos rfl]
      unfold j_X11_termOf_160_6
      rw [x1, Option.bind_some]
    · have hc : rk (kd j) = 147 := by rw [hk]; rfl
      have en : b_X11_termOf_6 (gr_C f) (b2i lv) v (gb h (nI (base + j)) (b2i b)) = j_X11_termOf_54_6 (gr_C f) (b2i lv) v (gb h (nI (base + j)) (b2i b)) := by
        unfold b_X11_termOf_6
        rw [gb_22, r_code hxg hjN, Option.bind_some, sg42, Option.bind_some, hc, if_neg (show ¬ nI 147 = nI 142 by decide), Option.bind_some, sg47, Option.bind_some, if_pos rfl]
      rw [en]
      unfold j_X11_termOf_54_6
      rw [gb_22, r_code hxg hjN, Option.bind_some, nI_1, gb_s22, Nat.add_assoc, d1, Option.bind_some, sg42, Option.bind_some, hc]
      dsimp only
      rw [if_neg (show ¬ nI 147 = nI 142 by decide)]
      by_cases cz : v2 = 0
      · subst cz
        rw [if_pos (lg_eq.mpr rfl)]
        obtain ⟨v', b', x1, x2, x3⟩ := r_bounded h (nI (base + j')) lv (b2 || lv) (v / 1)
        refine ⟨v', b', ?_, RPo_op0 e4 d2 x3 (by decide)⟩
        have e115 : ∀ s1 : Int32, s1 = b2i (b2 || lv) → j_X11_termOf_115_6 (gr_C f) (b2i lv) v (nI 147) s1 (gb h (nI (base + j')) (b2i b2)) = some (.inl (v', gb h (nI (base + j')) (b2i b'))) := by
          intro s1 hs
          unfold j_X11_termOf_115_6
          rw [hs, show i2b (b2i (b2 || lv)) = some (b2 || lv) by cases (b2 || lv) <;> rfl, Option.bind_some, gb_s24]
          unfold j_X11_termOf_121_6
          rw [sg42, Option.bind_some, if_neg (show ¬ nI 147 = nI 142 by decide), sg47, Option.bind_some, if_pos rfl, if_neg (by decide)]
          unfold j_X11_termOf_160_6
          rw [x1, Option.bind_some]
        rw [gb_24]
        cases b2 with
        | true => rw [if_neg (by decide)]; exact e115 1 rfl
        | false =>
          rw [if_pos (by decide)]
          cases lv with
          | true => rw [if_neg (by decide)]; exact e115 1 rfl
          | false => rw [if_pos (by decide)]; exact e115 0 rfl
      · rw [if_neg (fun e => cz (lg_eq.mp e))]
        obtain ⟨v', b', x1, x2, x3⟩ := r_bounded h (nI (base + j')) lv b2 (v / v2)
        refine ⟨v', b', ?_, RPo_op e4 d2 x2 x3 (fun l r hl hr => by
          have cr : r ≠ 0 := fun e => cz (by rw [hr, e]; rfl)
          rw [hl, hr]
          exact opS_5 l cr)⟩
        unfold j_X11_termOf_121_6
        rw [sg42, Option.bind_some, if_neg (show ¬ nI 147 = nI 142 by decide), sg47, Option.bind_some, if_pos rfl, if_neg cz]
        unfold j_X11_termOf_160_6
        rw [x1, Option.bind_some]
    · have hc : rk (kd j) = 137 := by rw [hk]; rfl
      have en : b_X11_termOf_6 (gr_C f) (b2i lv) v (gb h (nI (base + j)) (b2i b)) = j_X11_termOf_54_6 (gr_C f) (b2i lv) v (gb h (nI (base + j)) (b2i b)) := by
        unfold b_X11_termOf_6
        rw [gb_22, r_code hxg hjN, Option.bind_some, sg42, Option.bind_some, hc, if_neg (show ¬ nI 137 = nI 142 by decide), Option.bind_some, sg47, Option.bind_some, if_neg (show ¬ nI 137 = nI 147 by decide), Option.bind_some, sg37, Option.bind_some, if_pos rfl]
      rw [en]
      unfold j_X11_termOf_54_6
      rw [gb_22, r_code hxg hjN, Option.bind_some, nI_1, gb_s22, Nat.add_assoc, d1, Option.bind_some, sg42, Option.bind_some, hc]
      dsimp only
      rw [if_neg (show ¬ nI 137 = nI 142 by decide)]
      by_cases cz : v2 = 0
      · subst cz
        rw [if_pos (lg_eq.mpr rfl)]
        obtain ⟨v', b', x1, x2, x3⟩ := r_bounded h (nI (base + j')) lv (b2 || lv) (v - v / 1 * 1)
        refine ⟨v', b', ?_, RPo_op0 e4 d2 x3 (by decide)⟩
        have e115 : ∀ s1 : Int32, s1 = b2i (b2 || lv) → j_X11_termOf_115_6 (gr_C f) (b2i lv) v (nI 137) s1 (gb h (nI (base + j')) (b2i b2)) = some (.inl (v', gb h (nI (base + j')) (b2i b'))) := by
          intro s1 hs
          unfold j_X11_termOf_115_6
          rw [hs, show i2b (b2i (b2 || lv)) = some (b2 || lv) by cases (b2 || lv) <;> rfl, Option.bind_some, gb_s24]
          unfold j_X11_termOf_121_6
          rw [sg42, Option.bind_some, if_neg (show ¬ nI 137 = nI 142 by decide), sg47, Option.bind_some, if_neg (show ¬ nI 137 = nI 147 by decide), if_neg (by decide)]
          unfold j_X11_termOf_160_6
          rw [x1, Option.bind_some]
        rw [gb_24]
        cases b2 with
        | true => rw [if_neg (by decide)]; exact e115 1 rfl
        | false =>
          rw [if_pos (by decide)]
          cases lv with
          | true => rw [if_neg (by decide)]; exact e115 1 rfl
          | false => rw [if_pos (by decide)]; exact e115 0 rfl
      · rw [if_neg (fun e => cz (lg_eq.mp e))]
        obtain ⟨v', b', x1, x2, x3⟩ := r_bounded h (nI (base + j')) lv b2 (v - v / v2 * v2)
        refine ⟨v', b', ?_, RPo_op e4 d2 x2 x3 (fun l r hl hr => by
          have cr : r ≠ 0 := fun e => cz (by rw [hr, e]; rfl)
          rw [hl, hr]
          exact opS_6 l cr)⟩
        unfold j_X11_termOf_121_6
        rw [sg42, Option.bind_some, if_neg (show ¬ nI 137 = nI 142 by decide), sg47, Option.bind_some, if_neg (show ¬ nI 137 = nI 147 by decide), if_neg cz]
        unfold j_X11_termOf_160_6
        rw [x1, Option.bind_some]
  obtain ⟨v', b', s1, s2⟩ := hst
  refine ⟨v1, v', b', 1 + m, by omega, e2, fun F => ?_, s2⟩
  rw [← Nat.add_assoc, e3]
  exact lp_1 s1 F
