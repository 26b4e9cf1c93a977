/-! ===== the reference's reckoning over tokens ===== -/
theorem lg_gt {x y : Int64} : 0 < lg_cmp x y ↔ y < x := by
  unfold lg_cmp
  by_cases c : x > y
  · rw [if_pos c]; exact ⟨fun _ => c, fun _ => by decide⟩
  · rw [if_neg c]
    by_cases c2 : x = y
    · rw [if_pos c2]; exact ⟨fun h => absurd h (by decide), fun h => absurd h c⟩
    · rw [if_neg c2]; exact ⟨fun h => absurd h (by decide), fun h => absurd h c⟩
theorem lg_ge {x y : Int64} : 0 ≤ lg_cmp x y ↔ y ≤ x := by
  unfold lg_cmp
  by_cases c : x > y
  · rw [if_pos c]; exact ⟨fun _ => by rw [Int64.le_iff_toInt_le]; rw [gt_iff_lt, Int64.lt_iff_toInt_lt] at c; omega, fun _ => by decide⟩
  · rw [if_neg c]
    by_cases c2 : x = y
    · rw [if_pos c2]; exact ⟨fun _ => by rw [c2]; exact Int64.le_refl _, fun _ => by decide⟩
    · rw [if_neg c2]
      refine ⟨fun h => absurd h (by decide), fun h => ?_⟩
      rw [Int64.le_iff_toInt_le] at h
      rw [gt_iff_lt, Int64.lt_iff_toInt_lt] at c
      exact absurd (Int64.toInt_inj.mp (by omega)) c2
theorem lg_eq {x y : Int64} : lg_cmp x y = 0 ↔ x = y := by
  unfold lg_cmp
  by_cases c : x > y
  · rw [if_pos c]
    refine ⟨fun h => absurd h (by decide), fun h => ?_⟩
    rw [h, gt_iff_lt, Int64.lt_iff_toInt_lt] at c
    omega
  · rw [if_neg c]
    by_cases c2 : x = y
    · rw [if_pos c2]; exact ⟨fun _ => c2, fun _ => rfl⟩
    · rw [if_neg c2]; exact ⟨fun h => absurd h (by decide), fun h => absurd h c2⟩
theorem lg_le {x y : Int64} : lg_cmp x y ≤ 0 ↔ x ≤ y := by
  have h1 : lg_cmp x y ≤ 0 ↔ ¬ 0 < lg_cmp x y := by
    rw [Int32.le_iff_toInt_le, Int32.lt_iff_toInt_lt]; omega
  rw [h1, lg_gt, Int64.le_iff_toInt_le, Int64.lt_iff_toInt_lt]
  omega
theorem lg_lt {x y : Int64} : lg_cmp x y < 0 ↔ x < y := by
  have h1 : lg_cmp x y < 0 ↔ ¬ 0 ≤ lg_cmp x y := by
    rw [Int32.le_iff_toInt_le, Int32.lt_iff_toInt_lt]; omega
  rw [h1, lg_ge, Int64.le_iff_toInt_le, Int64.lt_iff_toInt_lt]
  omega
/-- from -10^9 to 10^9 -/
def rng (x : Int64) : Prop := ¬ (1000000000 : Int64) < x ∧ (-1000000000 : Int64) ≤ x
theorem rng_i {x : Int64} (h : rng x) : -1000000000 ≤ x.toInt ∧ x.toInt ≤ 1000000000 := by
  obtain ⟨h1, h2⟩ := h
  rw [Int64.lt_iff_toInt_lt] at h1
  rw [Int64.le_iff_toInt_le] at h2
  have e1 : Int64.toInt 1000000000 = 1000000000 := by decide
  have e2 : Int64.toInt (-1000000000) = -1000000000 := by decide
  omega
theorem rng_back {x : Int64} (h : rng x) : x.toInt32.toInt64 = x := by
  obtain ⟨h1, h2⟩ := rng_i h
  apply Int64.toInt_inj.mp
  rw [Int32.toInt_toInt64, Int64.toInt_toInt32, Int.bmod_eq_of_le (by omega) (by omega)]
theorem rng_brk {x : Int64} (h : rng x) : x.toInt32 ≠ BRK := by
  obtain ⟨h1, h2⟩ := rng_i h
  intro e
  have e2 := congrArg Int32.toInt e
  rw [Int64.toInt_toInt32, Int.bmod_eq_of_le (by omega) (by omega)] at e2
  have e3 : Int32.toInt BRK = -2147483648 := by decide
  omega
theorem j137 (x : Int64) : (rng x → j_X2_join_137 x = some x.toInt32) ∧ (¬ rng x → j_X2_join_137 x = some BRK) := by
  unfold j_X2_join_137
  refine ⟨fun h => ?_, fun h => ?_⟩
  · rw [if_neg (fun c => h.1 (lg_gt.mp c)), if_pos (lg_ge.mpr h.2)]
  · by_cases c : (1000000000 : Int64) < x
    · rw [if_pos (lg_gt.mpr c)]; rfl
    · rw [if_neg (fun d => c (lg_gt.mp d)), if_neg (fun d => h ⟨c, lg_ge.mp d⟩)]; rfl
/-- go and broken -/
def gb (h : Hp) (j b : Int32) : Hp := sF (sF h 81 22 j) 81 24 b
theorem gb_gb (h : Hp) (j b j' b' : Int32) : gb (gb h j b) j' b' = gb h j' b' := by
  apply Prod.ext
  · funext a k
    show (if a = 81 then (if k = 24 then b' else (if a = 81 then (if k = 22 then j' else (if a = 81 then (if k = 24 then b else (if a = 81 then (if k = 22 then j else h.1 a k) else h.1 a k)) else _)) else _)) else (if a = 81 then _ else (if a = 81 then _ else (if a = 81 then _ else h.1 a k)))) = (if a = 81 then (if k = 24 then b' else (if a = 81 then (if k = 22 then j' else h.1 a k) else h.1 a k)) else (if a = 81 then _ else h.1 a k))
    by_cases c : a = 81
    · simp only [c, if_true]
      by_cases c1 : k = 24
      · simp [c1]
      · by_cases c2 : k = 22
        · simp [c2]
        · simp [c1, c2]
    · simp only [c, if_false]
  · rfl
theorem gb_22 (h : Hp) (j b : Int32) : fI (gb h j b) 81 22 = j := rfl
theorem gb_24 (h : Hp) (j b : Int32) : fI (gb h j b) 81 24 = b := rfl
theorem gb_o (h : Hp) (j b : Int32) {k : Nat} (h1 : k ≠ 22) (h2 : k ≠ 24) : fI (gb h j b) 81 k = fI h 81 k := by
  unfold gb
  rw [fI_n (by omega), fI_n (by omega)]
theorem gb_aI (h : Hp) (j b : Int32) : aI (gb h j b) = aI h := rfl
theorem gb_s22 (h : Hp) (j b x : Int32) : sF (gb h j b) 81 22 x = gb h x b := by
  have e : sF (gb h j b) 81 22 x = gb (gb h j b) x (fI (sF (gb h j b) 81 22 x) 81 24) := by
    apply Prod.ext
    · funext a k
      show _ = (if a = 81 then (if k = 24 then _ else (sF (gb h j b) 81 22 x).1 a k) else (sF (gb h j b) 81 22 x).1 a k)
      by_cases c : a = 81
      · rw [if_pos c]
        by_cases c2 : k = 24
        · rw [if_pos c2, c, c2]; rfl
        · rw [if_neg c2]
      · rw [if_neg c]
    · rfl
  rw [e, gb_gb]
  rfl
theorem gb_s24 (h : Hp) (j b x : Int32) : sF (gb h j b) 81 24 x = gb h j x := by
  have e : sF (gb h j b) 81 24 x = gb (gb h j b) (fI (gb h j b) 81 22) x := by
    apply Prod.ext
    · funext a k
      show (if a = 81 then (if k = 24 then x else (gb h j b).1 a k) else (gb h j b).1 a k) = (if a = 81 then (if k = 24 then x else (sF (gb h j b) 81 22 (fI (gb h j b) 81 22)).1 a k) else (sF (gb h j b) 81 22 (fI (gb h j b) 81 22)).1 a k)
      have e1 : (sF (gb h j b) 81 22 (fI (gb h j b) 81 22)).1 a k = (gb h j b).1 a k := by
        show (if a = 81 then (if k = 22 then _ else (gb h j b).1 a k) else (gb h j b).1 a k) = _
        by_cases c : a = 81
        · rw [if_pos c]
          by_cases c2 : k = 22
          · rw [if_pos c2, c, c2]; rfl
          · rw [if_neg c2]
        · rw [if_neg c]
      rw [e1]
    · rfl
  rw [e, gb_gb]
  rfl
theorem gb_id (h : Hp) : gb h (fI h 81 22) (fI h 81 24) = h := by
  apply Prod.ext
  · funext a k
    show (if a = 81 then (if k = 24 then fI h 81 24 else (if a = 81 then (if k = 22 then fI h 81 22 else h.1 a k) else h.1 a k)) else (if a = 81 then _ else h.1 a k)) = h.1 a k
    by_cases c : a = 81
    · simp only [c, if_true]
      by_cases c1 : k = 24
      · rw [if_pos c1, c1]; rfl
      · rw [if_neg c1]
        by_cases c2 : k = 22
        · rw [if_pos c2, c2]; rfl
        · rw [if_neg c2]
    · simp only [c, if_false]
  · rfl
/-- the class's kinds as the reference's codes -/
def rk (q : Nat) : Nat := [8, 9, 10, 11, 14, 12, 15, 13, 16, 17, 18, 19, 20, 1, 2, 3, 21, 23, 24, 26, 22, 25, 27, 4, 5, 6, 7, 0, 50, 0].getD q q
theorem rk_lo : ∀ q, q < 30 → rk q < 51 := by decide
theorem rk_hi {q : Nat} (h : 30 ≤ q) : rk q = q := by
  unfold rk
  rw [List.getD_eq_getElem?_getD, List.getElem?_eq_none (by simpa using h)]
  rfl
theorem rk_bd {q : Nat} (h : q < 400) : rk q < 400 := by
  by_cases c : q < 30
  · have := rk_lo q c; omega
  · rw [rk_hi (by omega)]; exact h
/-- what the words are worth -/
def EnvR (o : Bool) (h : Hp) (w : Env) : Prop := ∀ j b, (o = false → ∀ q, q < 8 → aI h 93 (rk q - 8) = w q) ∧ (o = true → (∀ q, (q = 6 ∨ 8 ≤ q ∧ q ≤ 11) → f_X11_orderValue (nI (rk q)) 0 (gb h j b) = some (w q)) ∧ ∀ p, p < 6 → f_X11_orderValue 20 (nI p) (gb h j b) = some (w (12 + p)) ∧ f_X11_orderValue 14 (nI p) (gb h j b) = some (w (18 + p)))
/-- where the reference stands: tokens kd, vl laid behind base -/
def RX (kd vl : Nat → Nat) (N base : Nat) (o : Bool) (w : Env) (h : Hp) : Prop := fI h 81 23 = nI (base + N) ∧ base + N ≤ 2800 ∧ kd N = 29 ∧ (∀ x, x < N → kd x < 400 ∧ aI h 83 (62 + (base + x)) = nI (rk (kd x)) ∧ aI h 83 (2862 + (base + x)) = nI (vl x)) ∧ fI h 81 25 = b2i o ∧ EnvR o h w
theorem RX_gb {kd vl : Nat → Nat} {N base : Nat} {o : Bool} {w : Env} {h : Hp} (hx : RX kd vl N base o w h) (j b : Int32) : RX kd vl N base o w (gb h j b) := by
  obtain ⟨x1, x2, x3, x4, x5, x6⟩ := hx
  refine ⟨by rw [gb_o _ _ _ (by omega) (by omega)]; exact x1, x2, x3, x4, by rw [gb_o _ _ _ (by omega) (by omega)]; exact x5, fun j' b' => ?_⟩
  rw [gb_gb]
  exact x6 j' b'
section RCS
variable {kd vl : Nat → Nat} {N base : Nat} {o : Bool} {w : Env} {h : Hp}
theorem r_code (hx : RX kd vl N base o w h) {x : Nat} (hn : x ≤ N) : f_X11_codeAt (nI (base + x)) h = some (nI (rk (kd x))) := by
  obtain ⟨x1, x2, x3, x4, x5, x6⟩ := hx
  unfold f_X11_codeAt
  rw [x1]
  by_cases c : x < N
  · rw [if_neg (nI_ge (by omega) (by omega)), show ((62 : Int32)) = nI 62 from rfl, m_inb (by omega) (by omega), Option.bind_some, (x4 x c).2.1]
  · rw [if_pos (nI_le (by omega) (by omega)), show x = N by omega, x3]
    rfl
theorem r_passes (hx : RX kd vl N base o w h) {x c : Nat} (hn : x ≤ N) (hg : fI h 81 22 = nI (base + x)) (hc : c < 400) (hk : kd x < 400) : f_X11_passes0 (nI c) h = some (decide (rk (kd x) = c), if rk (kd x) = c then gb h (nI (base + x + 1)) (fI h 81 24) else h) := by
  unfold f_X11_passes0
  rw [hg, r_code hx hn, Option.bind_some]
  have hb := rk_bd hk
  by_cases e : rk (kd x) = c
  · rw [if_pos (by rw [e]), if_pos e, decide_eq_true e]
    unfold j_X11_passes0_17
    rw [if_neg (by decide)]
    show some (true, sF h 81 22 (fI h 81 22 + 1)) = _
    rw [hg, nI_1]
    have : sF h 81 22 (nI (base + x + 1)) = gb h (nI (base + x + 1)) (fI h 81 24) := by
      have := gb_s22 h (fI h 81 22) (fI h 81 24) (nI (base + x + 1))
      rw [gb_id] at this
      exact this
    rw [this]
  · rw [if_neg (fun e2 => e ((nI_eq (by omega) (by omega)).mp e2)), if_neg e, decide_eq_false e]
    rfl
end RCS
/-- what comes of a live reckoning; of one that isn't -/
def RPo (lv br : Bool) (r : Option Int32) (v : Int64) (b : Bool) : Prop := (lv = true → br = false → (∀ x, r = some x → v = x.toInt64 ∧ b = false) ∧ (r = none → b = true)) ∧ ((lv = false ∨ br = true) → b = br)
/-- from token i to token j there stands a sum (k = 0), a term (1), a part (2) that is worth σ -/
def RC (kd vl : Nat → Nat) (N : Nat) (o : Bool) (k fu i j : Nat) (σ : Env → Option Int32) : Prop := ∀ f, fu ≤ f → ∀ (h : Hp) (base : Nat) (w : Env) (lv br : Bool), RX kd vl N base o w h → fI h 81 22 = nI (base + i) → fI h 81 24 = b2i br → ∃ v b, gr_C f k (b2i lv) h = some (v, gb h (nI (base + j)) (b2i b)) ∧ RPo lv br (σ w) v b
theorem r_bounded (h : Hp) (j : Int32) (lv br : Bool) (x : Int64) : ∃ v b, f_X11_bounded x (b2i lv) (gb h j (b2i br)) = some (v, gb h j (b2i b)) ∧ (lv = true → br = false → (rng x → v = x ∧ b = false) ∧ (¬ rng x → b = true)) ∧ ((lv = false ∨ br = true) → b = br) := by
  have j25 : ∀ b', ∃ v, j_X11_bounded_25 x (gb h j (b2i b')) = some (v, gb h j (b2i b')) ∧ (b' = false → v = x) := by
    intro b'
    unfold j_X11_bounded_25
    rw [gb_24]
    cases b' with
    | true => exact ⟨0, by rw [if_neg (by decide)], fun c => by cases c⟩
    | false => exact ⟨x, by rw [if_pos (by decide)], fun _ => rfl⟩
  have j20 : ∃ v, j_X11_bounded_20 x (gb h j (b2i br)) = some (v, gb h j (b2i true)) := by
    unfold j_X11_bounded_20
    rw [gb_s24]
    obtain ⟨v, e, -⟩ := j25 true
    exact ⟨v, e⟩
  unfold f_X11_bounded
  cases lv with
  | false =>
    obtain ⟨v, e, -⟩ := j25 br
    exact ⟨v, br, by rw [if_pos (by decide)]; exact e, fun c => (by cases c), fun _ => rfl⟩
  | true =>
    rw [if_neg (by decide)]
    by_cases c1 : (1000000000 : Int64) < x
    · obtain ⟨v, e⟩ := j20
      refine ⟨v, true, by rw [if_pos (lg_gt.mpr c1)]; exact e, fun _ _ => ⟨fun r => absurd c1 r.1, fun _ => rfl⟩, fun c => ?_⟩
      rcases c with c | c
      · cases c
      · exact c.symm
    · rw [if_neg (fun c => c1 (lg_gt.mp c))]
      by_cases c2 : (-1000000000 : Int64) ≤ x
      · obtain ⟨v, e, e2⟩ := j25 br
        exact ⟨v, br, by rw [if_pos (lg_ge.mpr c2)]; exact e, fun _ cb => ⟨fun _ => ⟨e2 cb, cb⟩, fun r => absurd ⟨c1, c2⟩ r⟩, fun _ => rfl⟩
      · obtain ⟨v, e⟩ := j20
        refine ⟨v, true, by rw [if_neg (fun c => c2 (lg_ge.mp c))]; exact e, fun _ _ => ⟨fun r => absurd r.2 c2, fun _ => rfl⟩, fun c => ?_⟩
        rcases c with c | c
        · cases c
        · exact c.symm
