/-! ===== the reference's sums ===== -/
theorem sg37 : f_X11_sign 37 = some (nI 137) := by decide
theorem sg40 : f_X11_sign 40 = some (nI 140) := by decide
theorem sg41 : f_X11_sign 41 = some (nI 141) := by decide
theorem sg42 : f_X11_sign 42 = some (nI 142) := by decide
theorem sg43 : f_X11_sign 43 = some (nI 143) := by decide
theorem sg45 : f_X11_sign 45 = some (nI 145) := by decide
theorem sg47 : f_X11_sign 47 = some (nI 147) := by decide
theorem sg59 : f_X11_sign 59 = some (nI 159) := by decide
theorem sg60 : f_X11_sign 60 = some (nI 160) := by decide
theorem sg61 : f_X11_sign 61 = some (nI 161) := by decide
theorem sg62 : f_X11_sign 62 = some (nI 162) := by decide
theorem sg91 : f_X11_sign 91 = some (nI 191) := by decide
theorem sg93 : f_X11_sign 93 = some (nI 193) := by decide
theorem gC_0 (f : Nat) (x : Int32) (h : Hp) : gr_C (f + 1) 0 x h = f_X11_sumOf (gr_C f) x h := rfl
theorem gC_1 (f : Nat) (x : Int32) (h : Hp) : gr_C (f + 1) 1 x h = f_X11_termOf (gr_C f) x h := rfl
theorem gC_2 (f : Nat) (x : Int32) (h : Hp) : gr_C (f + 1) 2 x h = f_X11_partOf (gr_C f) x h := rfl
theorem opS_137 {k : Nat} {l r : Int32} {x : Int64} (h : f_X2_join (nI k) l r = j_X2_join_137 x) : (rng x → opS k l r = some x.toInt32) ∧ (¬ rng x → opS k l r = none) := by
  unfold opS
  rw [h]
  refine ⟨fun hr => ?_, fun hr => ?_⟩
  · rw [(j137 x).1 hr]
    show (if x.toInt32 = BRK then none else some x.toInt32) = _
    rw [if_neg (rng_brk hr)]
  · rw [(j137 x).2 hr]
    rfl
theorem opS_2 (l r : Int32) : (rng (l.toInt64 + r.toInt64) → opS 2 l r = some (l.toInt64 + r.toInt64).toInt32) ∧ (¬ rng (l.toInt64 + r.toInt64) → opS 2 l r = none) := opS_137 (by rw [join_eq l r (Or.inr ⟨by decide, by decide⟩) (by decide), j18_2])
theorem opS_3 (l r : Int32) : (rng (l.toInt64 - r.toInt64) → opS 3 l r = some (l.toInt64 - r.toInt64).toInt32) ∧ (¬ rng (l.toInt64 - r.toInt64) → opS 3 l r = none) := opS_137 (by rw [join_eq l r (Or.inr ⟨by decide, by decide⟩) (by decide), j18_3])
theorem opS_4 (l r : Int32) : (rng (l.toInt64 * r.toInt64) → opS 4 l r = some (l.toInt64 * r.toInt64).toInt32) ∧ (¬ rng (l.toInt64 * r.toInt64) → opS 4 l r = none) := opS_137 (by rw [join_eq l r (Or.inr ⟨by decide, by decide⟩) (by decide), j18_4])
theorem opS_5 (l : Int32) {r : Int32} (c : r ≠ 0) : (rng (l.toInt64 / r.toInt64) → opS 5 l r = some (l.toInt64 / r.toInt64).toInt32) ∧ (¬ rng (l.toInt64 / r.toInt64) → opS 5 l r = none) := opS_137 (by rw [join_eq l r (Or.inl c) (by decide), j18_5, if_neg (toL_ne c)])
theorem opS_6 (l : Int32) {r : Int32} (c : r ≠ 0) : (rng (l.toInt64 - l.toInt64 / r.toInt64 * r.toInt64) → opS 6 l r = some (l.toInt64 - l.toInt64 / r.toInt64 * r.toInt64).toInt32) ∧ (¬ rng (l.toInt64 - l.toInt64 / r.toInt64 * r.toInt64) → opS 6 l r = none) := opS_137 (by rw [join_eq l r (Or.inl c) (by decide), j18_6, if_neg (toL_ne c)])
theorem opS_0 {k : Nat} (l : Int32) (h : k = 5 ∨ k = 6) : opS k l 0 = none := by
  unfold opS
  rw [join_0 l h]
  rfl
/-- two reckonings and their joining -/
theorem RPo_op {lv br b b2 b' : Bool} {v v2 v' x : Int64} {s t : Option Int32} {k : Nat} (h1 : RPo lv br s v b) (h2 : RPo lv b t v2 b2) (h3 : lv = true → b2 = false → (rng x → v' = x ∧ b' = false) ∧ (¬ rng x → b' = true)) (h4 : (lv = false ∨ b2 = true) → b' = b2) (hx : ∀ l r : Int32, v = l.toInt64 → v2 = r.toInt64 → (rng x → opS k l r = some x.toInt32) ∧ (¬ rng x → opS k l r = none)) : RPo lv br (s.bind fun l => t.bind fun r => opS k l r) v' b' := by
  refine ⟨fun c1 c2 => ?_, fun c => ?_⟩
  · obtain ⟨a1, a2⟩ := h1.1 c1 c2
    cases s with
    | none =>
      have e1 := a2 rfl
      have e2 := h2.2 (Or.inr e1)
      have e3 := h4 (Or.inr (e2.trans e1))
      exact ⟨fun x hx => (by cases hx), fun _ => e3.trans (e2.trans e1)⟩
    | some l =>
      obtain ⟨a3, a4⟩ := a1 l rfl
      obtain ⟨b1, b3⟩ := h2.1 c1 a4
      cases t with
      | none =>
        have e1 := b3 rfl
        exact ⟨fun x hx => (by cases hx), fun _ => (h4 (Or.inr e1)).trans e1⟩
      | some r =>
        obtain ⟨b4, b5⟩ := b1 r rfl
        obtain ⟨d1, d2⟩ := h3 c1 b5
        obtain ⟨f1, f2⟩ := hx l r a3 b4
        show (∀ y, opS k l r = some y → v' = y.toInt64 ∧ b' = false) ∧ (opS k l r = none → b' = true)
        by_cases cr : rng x
        · rw [f1 cr]
          refine ⟨fun y hy => ?_, fun hy => (by cases hy)⟩
          rw [← Option.some.inj hy, rng_back cr]
          exact d1 cr
        · rw [f2 cr]
          exact ⟨fun y hy => (by cases hy), fun _ => d2 cr⟩
  · have e1 := h1.2 c
    have e2 : b2 = b := h2.2 (c.imp id (fun c => e1.trans c))
    have e3 : b' = b2 := h4 (c.imp id (fun c => e2.trans (e1.trans c)))
    exact e3.trans (e2.trans e1)
/-- a division by 0 -/
theorem RPo_op0 {lv br b b2 b' : Bool} {v v' : Int64} {s t : Option Int32} {k : Nat} (h1 : RPo lv br s v b) (h2 : RPo lv b t 0 b2) (h4 : (lv = false ∨ (b2 || lv) = true) → b' = (b2 || lv)) (hk : k = 5 ∨ k = 6) : RPo lv br (s.bind fun l => t.bind fun r => opS k l r) v' b' := by
  refine ⟨fun c1 c2 => ?_, fun c => ?_⟩
  · have e1 : b' = true := by
      have := h4 (Or.inr (by rw [c1]; exact Bool.or_true _))
      rw [this, c1]
      exact Bool.or_true _
    refine ⟨fun x hx => ?_, fun _ => e1⟩
    obtain ⟨a1, a2⟩ := h1.1 c1 c2
    cases s with
    | none => cases hx
    | some l =>
      obtain ⟨a3, a4⟩ := a1 l rfl
      obtain ⟨b1, b3⟩ := h2.1 c1 a4
      cases t with
      | none => cases hx
      | some r =>
        have e0 : r = 0 := by
          have := (b1 r rfl).1
          by_cases c : r = 0
          · exact c
          · exact absurd this.symm (toL_ne c)
        replace hx : opS k l r = some x := hx
        rw [e0, opS_0 l hk] at hx
        cases hx
  · have e1 := h1.2 c
    cases lv with
    | false =>
      have e2 : b2 = b := h2.2 (Or.inl rfl)
      have e3 := h4 (Or.inl rfl)
      rw [e3, Bool.or_false]
      exact e2.trans e1
    | true =>
      have cb : br = true := c.resolve_left (by decide)
      have e3 := h4 (Or.inr (Bool.or_true _))
      rw [e3, cb, Bool.or_true]
section RCT
variable {kd vl : Nat → Nat} {N : Nat} {o : Bool}
/-- a leaf -/
theorem r_leaf {rc : Nat → Int32 → Hp → Option (Int64 × Hp)} {lv br : Bool} {c k j : Int32} {h : Hp} {x : Int32} (hl : (if c = 50 then (inb (2862 + j - 1) 5662).bind fun j17 => some ((aI h 83 j17).toInt64, gb h j (b2i false)) else if fI h 81 25 = 0 then (inb (c - 8) 8).bind fun j13 => some ((aI h 93 j13).toInt64, gb h j (b2i false)) else (f_X11_orderValue c k (gb h j (b2i false))).bind fun v15 => some (v15.toInt64, gb h j (b2i false))) = some (x.toInt64, gb h j (b2i false))) : ∃ v b, j_X11_partOf_94 rc (b2i lv) c k (gb h j (b2i br)) = some (v, gb h j (b2i b)) ∧ RPo lv br (some x) v b := by
  unfold j_X11_partOf_94
  cases lv with
  | false => exact ⟨0, br, by rw [if_pos (by decide)], fun c => (by cases c), fun _ => rfl⟩
  | true =>
    rw [if_neg (by decide)]
    cases br with
    | true => exact ⟨0, true, by rw [gb_24, if_neg (by decide)], fun _ c => (by cases c), fun _ => rfl⟩
    | false =>
      refine ⟨x.toInt64, false, ?_, fun _ _ => ⟨fun y hy => ⟨by rw [Option.some.inj hy], rfl⟩, fun c => (by cases c)⟩, fun c => ?_⟩
      · rw [gb_24, if_pos (by decide), gb_22, gb_o _ _ _ (by decide) (by decide)]
        exact hl
      · rcases c with c | c <;> cases c
theorem r_step {h : Hp} {base i : Nat} {br : Bool} (hg : fI h 81 22 = nI (base + i)) (hb : fI h 81 24 = b2i br) : sF h 81 22 (fI h 81 22 + 1) = gb h (nI (base + i + 1)) (b2i br) := by
  have := gb_s22 h (fI h 81 22) (fI h 81 24) (nI (base + i + 1))
  rw [gb_id, hb] at this
  rw [hg, nI_1]
  exact this
theorem r_part {f : Nat} {h : Hp} {base i : Nat} {w : Env} {lv br : Bool} (hx : RX kd vl N base o w h) (hg : fI h 81 22 = nI (base + i)) (hb : fI h 81 24 = b2i br) (hi : i < N) (hk : rk (kd i) ≠ 191) : gr_C (f + 1) 2 (b2i lv) h = if fI h 81 25 = 0 then j_X11_partOf_94 (gr_C f) (b2i lv) (nI (rk (kd i))) 0 (gb h (nI (base + i + 1)) (b2i br)) else if nI (rk (kd i)) = 14 then j_X11_partOf_70 (gr_C f) (b2i lv) (nI (rk (kd i))) (gb h (nI (base + i + 1)) (b2i br)) else if nI (rk (kd i)) = 20 then j_X11_partOf_70 (gr_C f) (b2i lv) (nI (rk (kd i))) (gb h (nI (base + i + 1)) (b2i br)) else j_X11_partOf_94 (gr_C f) (b2i lv) (nI (rk (kd i))) 0 (gb h (nI (base + i + 1)) (b2i br)) := by
  rw [gC_2]
  unfold f_X11_partOf
  rw [sg91, Option.bind_some, r_passes hx (Nat.le_of_lt hi) hg (by decide) (hx.2.2.2.1 i hi).1, Option.bind_some]
  dsimp only
  rw [decide_eq_false hk, if_neg hk, if_neg (by decide), r_step hg hb, hg, r_code hx (Nat.le_of_lt hi), Option.bind_some, gb_o _ _ _ (by decide) (by decide)]
theorem RC_num {i : Nat} (hi : i < N) (hk : kd i = 28) : RC kd vl N o 2 1 i (i + 1) (fun _ => some (nI (vl i))) := by
  intro f hf h base w lv br hx hg hb
  obtain ⟨f', rfl⟩ : ∃ f', f = f' + 1 := ⟨f - 1, by omega⟩
  have hc : rk (kd i) = 50 := by rw [hk]; rfl
  have hN := hx.2.1
  rw [r_part hx hg hb hi (by rw [hc]; decide), hc]
  have hl : (if nI 50 = 50 then (inb (2862 + nI (base + i + 1) - 1) 5662).bind fun j17 => some ((aI h 83 j17).toInt64, gb h (nI (base + i + 1)) (b2i false)) else if fI h 81 25 = 0 then (inb (nI 50 - 8) 8).bind fun j13 => some ((aI h 93 j13).toInt64, gb h (nI (base + i + 1)) (b2i false)) else (f_X11_orderValue (nI 50) 0 (gb h (nI (base + i + 1)) (b2i false))).bind fun v15 => some (v15.toInt64, gb h (nI (base + i + 1)) (b2i false))) = some ((nI (vl i)).toInt64, gb h (nI (base + i + 1)) (b2i false)) := by
    rw [if_pos (show nI 50 = 50 from rfl), show ((2862 : Int32)) = nI 2862 from rfl, show ((1 : Int32)) = nI 1 from rfl, nI_add, pk_sub (by omega), show 2862 + (base + i + 1) - 1 = 2862 + (base + i) by omega, inb_nI (by omega) (by omega), Option.bind_some, (hx.2.2.2.1 i hi).2.2]
  have key := r_leaf (rc := gr_C f') (lv := lv) (br := br) hl
  rw [if_neg (show ¬ nI 50 = 14 by decide), if_neg (show ¬ nI 50 = 20 by decide)]
  split <;> exact key
theorem RC_wordL {i : Nat} (hi : i < N) (ho : o = false) (hk : kd i < 8) : RC kd vl N o 2 1 i (i + 1) (fun w => some (w (kd i))) := by
  intro f hf h base w lv br hx hg hb
  obtain ⟨f', rfl⟩ : ∃ f', f = f' + 1 := ⟨f - 1, by omega⟩
  have hN := hx.2.1
  have tb : ∀ q, q < 8 → rk q ≠ 191 ∧ rk q ≠ 50 ∧ 8 ≤ rk q ∧ rk q < 16 := by decide
  obtain ⟨t1, t2, t3, t4⟩ := tb (kd i) hk
  have e0 : fI h 81 25 = 0 := by rw [hx.2.2.2.2.1, ho]; rfl
  rw [r_part hx hg hb hi t1, if_pos e0]
  refine r_leaf ?_
  rw [if_neg (show ¬ nI (rk (kd i)) = 50 from fun e => t2 ((nI_eq (by omega) (by omega)).mp (show nI _ = nI 50 from e))), if_pos e0, show ((8 : Int32)) = nI 8 from rfl, pk_sub t3, inb_nI (by omega) (by omega), Option.bind_some, (hx.2.2.2.2.2 0 0).1 ho (kd i) hk]
theorem RC_wordP {i : Nat} (hi : i < N) (ho : o = true) (hk : kd i = 6 ∨ 8 ≤ kd i ∧ kd i ≤ 11) : RC kd vl N o 2 1 i (i + 1) (fun w => some (w (kd i))) := by
  intro f hf h base w lv br hx hg hb
  obtain ⟨f', rfl⟩ : ∃ f', f = f' + 1 := ⟨f - 1, by omega⟩
  have tb : ∀ q, q < 12 → (q = 6 ∨ 8 ≤ q ∧ q ≤ 11) → rk q ≠ 191 ∧ rk q ≠ 50 ∧ rk q ≠ 14 ∧ rk q ≠ 20 ∧ rk q < 51 := by decide
  obtain ⟨t1, t2, t3, t4, t5⟩ := tb (kd i) (by omega) hk
  have e0 : ¬ fI h 81 25 = 0 := by rw [hx.2.2.2.2.1, ho]; decide
  rw [r_part hx hg hb hi t1, if_neg e0, if_neg (show ¬ nI (rk (kd i)) = 14 from fun e => t3 ((nI_eq (by omega) (by omega)).mp (show nI _ = nI 14 from e))), if_neg (show ¬ nI (rk (kd i)) = 20 from fun e => t4 ((nI_eq (by omega) (by omega)).mp (show nI _ = nI 20 from e)))]
  refine r_leaf ?_
  rw [if_neg (show ¬ nI (rk (kd i)) = 50 from fun e => t2 ((nI_eq (by omega) (by omega)).mp (show nI _ = nI 50 from e))), if_neg e0, ((hx.2.2.2.2.2 _ _).2 ho).1 (kd i) hk, Option.bind_some]
theorem RC_wordS {i : Nat} (hi : i + 1 < N) (ho : o = true) (hk : kd i = 12 ∨ kd i = 4) (hv : vl (i + 1) < 6) : RC kd vl N o 2 1 i (i + 2) (fun w => some (w (vl (i + 1) + (if kd i = 12 then 12 else 18)))) := by
  intro f hf h base w lv br hx hg hb
  obtain ⟨f', rfl⟩ : ∃ f', f = f' + 1 := ⟨f - 1, by omega⟩
  have hN := hx.2.1
  have e0 : ¬ fI h 81 25 = 0 := by rw [hx.2.2.2.2.1, ho]; decide
  have j70 : ∀ c, j_X11_partOf_70 (gr_C f') (b2i lv) c (gb h (nI (base + i + 1)) (b2i br)) = j_X11_partOf_94 (gr_C f') (b2i lv) c (nI (vl (i + 1))) (gb h (nI (base + (i + 2))) (b2i br)) := by
    intro c
    unfold j_X11_partOf_70
    rw [gb_22, show ((2862 : Int32)) = nI 2862 from rfl, nI_add, show 2862 + (base + i + 1) = 2862 + (base + (i + 1)) by omega, inb_nI (by omega) (by omega), Option.bind_some, gb_s22, nI_1]
    show j_X11_partOf_94 (gr_C f') (b2i lv) c (aI h 83 (2862 + (base + (i + 1)))) _ = _
    rw [(hx.2.2.2.1 (i + 1) hi).2.2]
    rfl
  rcases hk with hk | hk
  · have hc : rk (kd i) = 20 := by rw [hk]; rfl
    rw [r_part hx hg hb (by omega) (by rw [hc]; decide), hc, if_neg e0, if_neg (by decide), if_pos (show nI 20 = 20 from rfl), j70]
    refine r_leaf ?_
    rw [if_neg (by decide), if_neg e0, if_pos hk, show nI 20 = 20 from rfl, (((hx.2.2.2.2.2 _ _).2 ho).2 _ hv).1, Option.bind_some, Nat.add_comm]
  · have hc : rk (kd i) = 14 := by rw [hk]; rfl
    rw [r_part hx hg hb (by omega) (by rw [hc]; decide), hc, if_neg e0, if_pos (show nI 14 = 14 from rfl), j70]
    refine r_leaf ?_
    rw [if_neg (by decide), if_neg e0, if_neg (by omega), show nI 14 = 14 from rfl, (((hx.2.2.2.2.2 _ _).2 ho).2 _ hv).2, Option.bind_some, Nat.add_comm]
theorem RC_brack {fu i j : Nat} {σ : Env → Option Int32} (hi : i < N) (hk : kd i = 191) (h1 : RC kd vl N o 0 fu (i + 1) j σ) : RC kd vl N o 2 (fu + 1) i (j + 1) σ := by
  intro f hf h base w lv br hx hg hb
  obtain ⟨f', rfl⟩ : ∃ f', f = f' + 1 := ⟨f - 1, by omega⟩
  have hc : rk (kd i) = 191 := by rw [hk]; rfl
  obtain ⟨v, b, e1, e2⟩ := h1 f' (by omega) (gb h (nI (base + i + 1)) (b2i br)) base w lv br (RX_gb hx _ _) (by rw [gb_22]; rfl) (gb_24 _ _ _)
  refine ⟨v, b, ?_, e2⟩
  rw [gC_2]
  unfold f_X11_partOf
  rw [sg91, Option.bind_some, r_passes hx (Nat.le_of_lt hi) hg (by decide) (hx.2.2.2.1 i hi).1, Option.bind_some]
  dsimp only
  rw [decide_eq_true hc, if_pos hc, if_pos rfl, hb, e1, Option.bind_some]
  dsimp only
  rw [gb_gb, gb_22, gb_s22, nI_1]
  rfl
end RCT
