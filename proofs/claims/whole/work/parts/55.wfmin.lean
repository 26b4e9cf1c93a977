/-! ===== parts are passed on, none is lost ===== -/
def updZ (M : Nat → Int) (i : Nat) (x : Int) : Nat → Int := fun j => if j = i then x else M j
def sum6 (M : Nat → Int) (c : Nat) : Int := M c + M (3 + c) + M (6 + c) + M (9 + c) + M (12 + c) + M (15 + c)
theorem sum6_upd (M : Nat → Int) (a c d : Nat) (y : Int) (ha : a < 6) (hc : c < 3) (hd : d < 3) : sum6 (updZ M (3 * a + c) y) d = sum6 M d + (if d = c then y - M (3 * a + c) else 0) := by
  have h1 : a = 0 ∨ a = 1 ∨ a = 2 ∨ a = 3 ∨ a = 4 ∨ a = 5 := by omega
  have h2 : c = 0 ∨ c = 1 ∨ c = 2 := by omega
  have h3 : d = 0 ∨ d = 1 ∨ d = 2 := by omega
  rcases h1 with e | e | e | e | e | e <;> subst e <;> rcases h2 with e | e | e <;> subst e <;> rcases h3 with e | e | e <;> subst e <;> simp [sum6, updZ] <;> omega
theorem ofZ (n : Nat) : nI n = Int32.ofInt (n : Int) := Int32.ofInt_eq_ofNat.symm
/-- how far the passing has come: the number of parts P, what is left of p's -/
def GI (P : Nat → Nat) (k p c l : Nat) (m : Nat → Int32) : Prop := ∃ M : Nat → Int, (∀ i, i < 18 → m i = Int32.ofInt (M i)) ∧ (∀ d, d < 3 → sum6 M d = 0) ∧ (∀ i, i < 18 → -(P i : Int) ≤ M i) ∧ (∀ q d, p < q → q < 6 → d < 3 → 0 ≤ M (3 * q + d)) ∧ (∀ i, 3 * k ≤ i → i < 18 → M i = 0) ∧ (l : Int) - (P (3 * p + c) : Int) ≤ M (3 * p + c)
theorem GI_T {P : Nat → Nat} {k p c l q v : Nat} {m : Nat → Int32} (h : GI P k p c l m) (hp : p < k) (hq : q < k) (hk : k ≤ 6) (hc : c < 3) (hpq : q ≠ p) (hl : l ≤ 2000) (hv : v ≤ 9) : GI P k p c (l - min l v) (gT (nI v) (3 * p + c) (3 * q + c) (nI l, m)).2 := by
  obtain ⟨M, g1, g2, g3, g4, g5, g6⟩ := h
  have hx : min l v ≤ l := Nat.min_le_left _ _
  generalize ex : min l v = x at hx
  refine ⟨updZ (updZ M (3 * p + c) (M (3 * p + c) - x)) (3 * q + c) (M (3 * q + c) + x), fun i hi => ?_, fun d hd => ?_, fun i hi => ?_, fun q' d h1 h2 h3 => ?_, fun i h1 h2 => ?_, ?_⟩
  · show upd (upd m (3 * p + c) (m (3 * p + c) - mnI (nI l) (nI v))) (3 * q + c) (upd m (3 * p + c) (m (3 * p + c) - mnI (nI l) (nI v)) (3 * q + c) + mnI (nI l) (nI v)) i = _
    rw [mnI_n l v (by omega) (by omega), ex]
    have e1 : upd m (3 * p + c) (m (3 * p + c) - nI x) (3 * q + c) = m (3 * q + c) := pk_un (by omega)
    rw [e1]
    unfold upd updZ
    by_cases c1 : i = 3 * q + c
    · rw [if_pos c1, if_pos c1, g1 _ (by omega), Int32.ofInt_add, ofZ]
    · rw [if_neg c1, if_neg c1]
      by_cases c2 : i = 3 * p + c
      · rw [if_pos c2, if_pos c2, g1 _ (by omega), Int32.ofInt_sub, ofZ]
      · rw [if_neg c2, if_neg c2]
        exact g1 i hi
  · rw [sum6_upd _ _ _ _ _ (by omega) hc hd, sum6_upd _ _ _ _ _ (by omega) hc hd, g2 d hd]
    have e1 : updZ M (3 * p + c) (M (3 * p + c) - x) (3 * q + c) = M (3 * q + c) := by unfold updZ; rw [if_neg (by omega)]
    rw [e1]
    split <;> omega
  · have := g3 i hi
    unfold updZ
    by_cases c1 : i = 3 * q + c
    · rw [if_pos c1, ← c1]; omega
    · rw [if_neg c1]
      by_cases c2 : i = 3 * p + c
      · rw [if_pos c2, c2]; omega
      · rw [if_neg c2]; exact this
  · have := g4 q' d h1 h2 h3
    unfold updZ
    by_cases c1 : 3 * q' + d = 3 * q + c
    · rw [if_pos c1, ← c1]; omega
    · rw [if_neg c1, if_neg (by omega)]; exact this
  · have := g5 i h1 h2
    unfold updZ
    rw [if_neg (by omega), if_neg (by omega)]
    exact this
  · unfold updZ
    rw [if_neg (by omega), if_pos rfl]
    omega
theorem nbs_self : ∀ s, s < 9 → ∀ t, t ∈ nbs s → t ≠ s := by decide
theorem GI_F {S : Sem} {K : Nat → Int32} {P : Nat → Nat} {k p : Nat} (hS : semOK S) (hw : WF K k) (hp : p < k) (hi : insb K p = true) : ∀ (ls : List Nat) (l : Nat) (m : Nat → Int32), (∀ t, t ∈ ls → t ≠ seatN K p ∧ t < 9) → l ≤ 2000 → GI P k p (nat3 K p) l m → ∃ l', GI P k p (nat3 K p) l' (ls.foldl (gS S K k p) (nI l, m)).2
  | [], l, m, _, _, hg => ⟨l, hg⟩
  | t :: ls, l, m, ht, hl, hg => by
    rw [List.foldl_cons]
    have ht2 : ∀ u, u ∈ ls → u ≠ seatN K p ∧ u < 9 := fun u hu => ht u (List.mem_cons_of_mem _ hu)
    unfold gS
    cases e : whoS K k t with
    | none => exact GI_F hS hw hp hi ls l m ht2 hl hg
    | some q =>
      obtain ⟨-, f1, f2, -⟩ := firstM_some e
      have f2' : K (18 + q) = nI t := by simpa using f2
      obtain ⟨s1, s2⟩ := seat_of hw hp hi
      have t1 := ht t List.mem_cons_self
      have hqp : q ≠ p := by
        intro e2
        rw [e2, s1] at f2'
        exact t1.1 ((nI_eq (by omega) (by omega)).mp f2').symm
      obtain ⟨v, h1, h2⟩ := hS (envL K p (nI (nat3 K q)))
      show ∃ l', GI P k p (nat3 K p) l' (ls.foldl (gS S K k p) (gT (S (envL K p (nI (nat3 K q)))).2.2 (3 * p + nat3 K p) (3 * q + nat3 K p) (nI l, m))).2
      rw [h2]
      have e3 : gT (nI v) (3 * p + nat3 K p) (3 * q + nat3 K p) (nI l, m) = (nI (l - min l v), (gT (nI v) (3 * p + nat3 K p) (3 * q + nat3 K p) (nI l, m)).2) := by
        apply Prod.ext
        · show nI l - mnI (nI l) (nI v) = _
          rw [mnI_n l v (by omega) (by omega), pk_sub (Nat.min_le_left _ _)]
        · rfl
      rw [e3]
      exact GI_F hS hw hp hi ls (l - min l v) _ ht2 (by omega) (GI_T hg hp (by omega) hw.2.1 (nat3_lt K p) hqp hl h1)
/-- how far the minute has come -/
def GJ (P : Nat → Nat) (k n : Nat) (m : Nat → Int32) : Prop := ∃ M : Nat → Int, (∀ i, i < 18 → m i = Int32.ofInt (M i)) ∧ (∀ d, d < 3 → sum6 M d = 0) ∧ (∀ i, i < 18 → -(P i : Int) ≤ M i) ∧ (∀ q d, n ≤ q → q < 6 → d < 3 → 0 ≤ M (3 * q + d)) ∧ (∀ i, 3 * k ≤ i → i < 18 → M i = 0)
theorem GJ_giv {S : Sem} {K m : Nat → Int32} {P : Nat → Nat} {k p : Nat} (hS : semOK S) (hw : WF K k) (hp : p < k) (hi : insb K p = true) (hP : ∀ i, i < 18 → K i = nI (P i)) (hb : ∀ i, i < 18 → P i ≤ 2000) (h : GJ P k p m) : GJ P k (p + 1) (givK S K k p m) := by
  have h6 := hw.2.1
  have hn := nat3_lt K p
  obtain ⟨s1, s2⟩ := seat_of hw hp hi
  obtain ⟨M, g1, g2, g3, g4, g5⟩ := h
  have hg : GI P k p (nat3 K p) (P (3 * p + nat3 K p)) m := ⟨M, g1, g2, g3, fun q d q1 q2 q3 => g4 q d (by omega) q2 q3, g5, by have := g4 p (nat3 K p) (Nat.le_refl _) (by omega) hn; omega⟩
  obtain ⟨l', M', r1, r2, r3, r4, r5, r6⟩ := GI_F hS hw hp hi (nbs (seatN K p)) (P (3 * p + nat3 K p)) m (fun t ht => ⟨nbs_self _ s2 t ht, nbs_lt _ s2 t ht⟩) (hb _ (by omega)) hg
  rw [← hP _ (by omega)] at r1
  exact ⟨M', r1, r2, r3, fun q d q1 q2 q3 => r4 q d (by omega) q2 q3, r5⟩
theorem GJ_mor {S : Sem} {K : Nat → Int32} {P : Nat → Nat} {k : Nat} (hS : semOK S) (hw : WF K k) (hP : ∀ i, i < 18 → K i = nI (P i)) (hb : ∀ i, i < 18 → P i ≤ 2000) : ∀ n, n ≤ k → GJ P k n (morK S K k n)
  | 0, _ => ⟨fun _ => 0, fun i _ => rfl, fun d _ => rfl, fun i _ => by show -(P i : Int) ≤ 0; omega, fun q d _ _ _ => Int.le_refl _, fun i _ _ => rfl⟩
  | n + 1, hn => by
    have ih := GJ_mor hS hw hP hb n (by omega)
    unfold morK
    rw [itr_succ, Nat.zero_add]
    by_cases c : (insb K n && !(S (envL K n (-1))).1) = true
    · rw [if_pos c]
      have c1 : insb K n = true := by
        cases e : insb K n with
        | true => rfl
        | false => rw [e] at c; simp at c
      exact GJ_giv hS hw (by omega) c1 hP hb ih
    · rw [if_neg c]
      obtain ⟨M, g1, g2, g3, g4, g5⟩ := ih
      exact ⟨M, g1, g2, g3, fun q d q1 q2 q3 => g4 q d (by omega) q2 q3, g5⟩
theorem wf_P {K : Nat → Int32} {k : Nat} (hw : WF K k) : ∃ P : Nat → Nat, (∀ i, i < 18 → K i = nI (P i)) ∧ (∀ n, n < 3 → P n + P (3 + n) + P (6 + n) + P (9 + n) + P (12 + n) + P (15 + n) ≤ 100 * k) ∧ (∀ i, i < 18 → P i ≤ 600) := by
  obtain ⟨P, h1, h2⟩ := hw.2.2.2.2.2.2.1
  refine ⟨P, h1, h2, fun i hi => ?_⟩
  have h6 := hw.2.1
  have a0 := h2 0 (by omega)
  have a1 := h2 1 (by omega)
  have a2 := h2 2 (by omega)
  have hh : i = 0 ∨ i = 1 ∨ i = 2 ∨ i = 3 ∨ i = 4 ∨ i = 5 ∨ i = 6 ∨ i = 7 ∨ i = 8 ∨ i = 9 ∨ i = 10 ∨ i = 11 ∨ i = 12 ∨ i = 13 ∨ i = 14 ∨ i = 15 ∨ i = 16 ∨ i = 17 := by omega
  simp only [Nat.add_zero, Nat.reduceAdd] at a0 a1 a2
  rcases hh with e | e | e | e | e | e | e | e | e | e | e | e | e | e | e | e | e | e <;> subst e <;> omega
/-- only the moved part of K, and only parts -/
theorem addK_hi (S : Sem) (k : Nat) (K : Nat → Int32) {i : Nat} (hi : 18 ≤ i) : addK S k K i = K i := by
  unfold addK
  rw [if_neg (by omega)]
theorem mor_zero {S : Sem} {K : Nat → Int32} {k : Nat} (hS : semOK S) (hw : WF K k) {i : Nat} (h1 : 3 * k ≤ i) (h2 : i < 18) : morK S K k k i = 0 := by
  obtain ⟨P, p1, -, p3⟩ := wf_P hw
  obtain ⟨M, g1, -, -, -, g5⟩ := GJ_mor hS hw p1 (fun i hi => by have := p3 i hi; omega) k (Nat.le_refl _)
  rw [g1 i h2, g5 i h1 h2]
  rfl
theorem WF_of {K K' : Nat → Int32} {k : Nat} (hw : WF K k) (h1 : ∀ i, 25 ≤ i → i ≤ 51 → K' i = K i) (h2 : ∀ p, p < k → K' (18 + p) = K (18 + p) ∨ K' (18 + p) = -1) (h3 : ∃ P : Nat → Nat, (∀ i, i < 18 → K' i = nI (P i)) ∧ ∀ n, n < 3 → P n + P (3 + n) + P (6 + n) + P (9 + n) + P (12 + n) + P (15 + n) ≤ 100 * k) (h4 : ∀ i, 3 * k ≤ i → i < 18 → K' i = 0) : WF K' k := by
  obtain ⟨w1, w2, w3, w4, w5, w6, w7, w8, w9, w10⟩ := hw
  refine ⟨by rw [h1 51 (by omega) (by omega)]; exact w1, w2, fun i hi => ?_, fun p hp => ?_, fun p q hp hq hpq e => ?_, fun p hp => ?_, h3, h4, by rw [h1 49 (by omega) (by omega)]; exact w9, by rw [h1 50 (by omega) (by omega)]; exact w10⟩
  · obtain ⟨P, p1, p2⟩ := h3
    have a0 := p2 0 (by omega)
    have a1 := p2 1 (by omega)
    have a2 := p2 2 (by omega)
    refine ⟨P i, ?_, p1 i hi⟩
    have hh : i = 0 ∨ i = 1 ∨ i = 2 ∨ i = 3 ∨ i = 4 ∨ i = 5 ∨ i = 6 ∨ i = 7 ∨ i = 8 ∨ i = 9 ∨ i = 10 ∨ i = 11 ∨ i = 12 ∨ i = 13 ∨ i = 14 ∨ i = 15 ∨ i = 16 ∨ i = 17 := by omega
    simp only [Nat.add_zero, Nat.reduceAdd] at a0 a1 a2
    rcases hh with e | e | e | e | e | e | e | e | e | e | e | e | e | e | e | e | e | e <;> subst e <;> omega
  · rcases h2 p hp with e | e
    · rw [e]; exact w4 p hp
    · exact Or.inl e
  · rcases h2 p hp with e1 | e1
    · rcases h2 q hq with e2 | e2
      · rw [e1, e2] at e
        rw [e1]
        exact w5 p q hp hq hpq e
      · rw [e, e2]
    · exact e1
  · rw [h1 (25 + p) (by omega) (by omega)]
    exact w6 p hp
theorem WF_add {S : Sem} {K : Nat → Int32} {k : Nat} (hS : semOK S) (hw : WF K k) : WF (addK S k K) k := by
  have h6 := hw.2.1
  obtain ⟨P, p1, p2, p3⟩ := wf_P hw
  obtain ⟨M, g1, g2, g3, -, g5⟩ := GJ_mor hS hw p1 (fun i hi => by have := p3 i hi; omega) k (Nat.le_refl _)
  refine WF_of hw (fun i h1 _ => addK_hi S k K (by omega)) (fun p _ => Or.inl (addK_hi S k K (by omega))) ⟨fun i => ((P i : Int) + M i).toNat, fun i hi => ?_, fun n hn => ?_⟩ (fun i h1 h2 => ?_)
  · unfold addK
    rw [if_pos hi, p1 i hi, g1 i hi, ofZ, ofZ, ← Int32.ofInt_add, Int.toNat_of_nonneg (by have := g3 i hi; omega)]
  · have b := p2 n hn
    have c := g2 n hn
    unfold sum6 at c
    have q0 := g3 n (by omega)
    have q1 := g3 (3 + n) (by omega)
    have q2 := g3 (6 + n) (by omega)
    have q3 := g3 (9 + n) (by omega)
    have q4 := g3 (12 + n) (by omega)
    have q5 := g3 (15 + n) (by omega)
    dsimp only
    omega
  · unfold addK
    rw [if_pos h2, mor_zero hS hw h1 h2, hw.2.2.2.2.2.2.2.1 i h1 h2]
    rfl
theorem WF_out {K : Nat → Int32} {k p : Nat} (hw : WF K k) (hp : p < k) : WF (upd K (18 + p) (-1)) k := by
  have h6 := hw.2.1
  obtain ⟨P, p1, p2⟩ := hw.2.2.2.2.2.2.1
  refine WF_of hw (fun i h1 _ => pk_un (by omega)) (fun q _ => ?_) ⟨P, fun i hi => by rw [pk_un (by omega)]; exact p1 i hi, p2⟩ (fun i h1 h2 => by rw [pk_un (by omega)]; exact hw.2.2.2.2.2.2.2.1 i h1 h2)
  by_cases c : q = p
  · right; rw [c, pk_us]
  · left; rw [pk_un (by omega)]
theorem WF_lv {S : Sem} {k : Nat} : ∀ (n : Nat) (K : Nat → Int32), WF K k → n ≤ k → WF (lvK S n K) k
  | 0, K, hw, _ => hw
  | n + 1, K, hw, hn => by
    have ih := WF_lv (S := S) n K hw (by omega)
    unfold lvK
    rw [itr_succ, Nat.zero_add]
    split
    · exact WF_out ih (by omega)
    · exact ih
theorem lvK_ne {S : Sem} {k : Nat} : ∀ (n : Nat) (K : Nat → Int32), n ≤ 6 → ∀ i, (i < 18 ∨ 24 ≤ i) → lvK S n K i = K i
  | 0, K, _, i, _ => rfl
  | n + 1, K, hn, i, hi => by
    have ih := lvK_ne (S := S) (k := k) n K (by omega) i hi
    unfold lvK
    rw [itr_succ, Nat.zero_add]
    split
    · rw [pk_un (by omega)]; exact ih
    · exact ih
theorem minK_hi {S : Sem} {k : Nat} (hk : k ≤ 6) (K : Nat → Int32) {i : Nat} (hi : 25 ≤ i) : minK S k K i = K i := by
  unfold minK
  rw [pk_un (by omega), lvK_ne (k := k) k _ hk i (by omega), addK_hi S k K (by omega)]
theorem minK_24 {S : Sem} {k : Nat} (hk : k ≤ 6) (K : Nat → Int32) : minK S k K 24 = K 24 + 1 := by
  unfold minK
  rw [pk_us, lvK_ne (k := k) k _ hk 24 (by omega), addK_hi S k K (by omega)]
theorem WF_min {S : Sem} {K : Nat → Int32} {k : Nat} (hS : semOK S) (hw : WF K k) : WF (minK S k K) k := by
  have h6 := hw.2.1
  have h1 := WF_lv (S := S) k _ (WF_add hS hw) (Nat.le_refl _)
  obtain ⟨P, p1, p2⟩ := h1.2.2.2.2.2.2.1
  unfold minK
  exact WF_of h1 (fun i h1 _ => pk_un (by omega)) (fun q _ => Or.inl (pk_un (by omega))) ⟨P, fun i hi => by rw [pk_un (by omega)]; exact p1 i hi, p2⟩ (fun i h2 h3 => by rw [pk_un (by omega)]; exact h1.2.2.2.2.2.2.2.1 i h2 h3)
theorem MOb_min {S : Sem} {K : Nat → Int32} {k b : Nat} (hk : k ≤ 6) (h : MOb K b) : MOb (minK S k K) (b + 1) := by
  obtain ⟨m, h1, h2⟩ := h
  exact ⟨m + 1, by omega, by rw [minK_24 hk, h2, nI_1]⟩
