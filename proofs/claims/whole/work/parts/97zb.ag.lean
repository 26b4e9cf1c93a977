/-! ===== rows that agree where it matters ===== -/
section AGS
variable {K K' : Nat → Int32} {k : Nat}
theorem nat3_ag (ha : AG K K') {p : Nat} (hp : p < 6) : nat3 K' p = nat3 K p := by
  unfold nat3
  rw [ha (3 * p) (by omega), ha (3 * p + 1) (by omega), ha (3 * p + 2) (by omega)]
theorem insb_ag (ha : AG K K') {p : Nat} (hp : p < 6) : insb K' p = insb K p := by
  unfold insb
  rw [ha (18 + p) (by omega)]
theorem envL_ag (ha : AG K K') {p : Nat} (hp : p < 6) (o : Int32) : envL K' p o = envL K p o := by
  funext w
  have n3 := nat3_lt K p
  unfold envL
  rw [nat3_ag ha hp, ha (18 + p) (by omega), ha (3 * p + nat3 K p) (by omega), ha (25 + p) (by omega), ha 24 (by omega), ha 50 (by omega)]
theorem firstM_ag {f g : Nat → Bool} : ∀ (n i : Nat), (∀ q, i ≤ q → q < i + n → f q = g q) → firstM f n i = firstM g n i
  | 0, _, _ => rfl
  | n + 1, i, h => by
    unfold firstM
    rw [h i (Nat.le_refl _) (by omega), firstM_ag n (i + 1) (fun q h1 h2 => h q (by omega) (by omega))]
theorem whoS_ag (ha : AG K K') (hk : k ≤ 6) (t : Nat) : whoS K' k t = whoS K k t := by
  unfold whoS
  exact firstM_ag k 0 (fun q _ h2 => by rw [ha (18 + q) (by omega)])
theorem gS_ag {S : Sem} (ha : AG K K') (hk : k ≤ 6) {p : Nat} (hp : p < 6) : gS S K' k p = gS S K k p := by
  funext st t
  unfold gS
  rw [whoS_ag ha hk]
  cases hq : whoS K k t with
  | none => rfl
  | some q =>
    have := (firstM_some hq).2.1
    show gT _ _ _ _ = gT _ _ _ _
    rw [nat3_ag ha hp, nat3_ag ha (show q < 6 by omega), envL_ag ha hp]
theorem givK_ag {S : Sem} (ha : AG K K') (hk : k ≤ 6) {p : Nat} (hp : p < 6) (m : Nat → Int32) : givK S K' k p m = givK S K k p m := by
  have n3 := nat3_lt K p
  unfold givK seatN
  rw [gS_ag ha hk hp, nat3_ag ha hp, ha (18 + p) (by omega), ha (3 * p + nat3 K p) (by omega)]
theorem mor_s {S : Sem} (K : Nat → Int32) (k n : Nat) : morK S K k (n + 1) = if (insb K n && !(S (envL K n (-1))).1) = true then givK S K k n (morK S K k n) else morK S K k n := by
  unfold morK
  exact (itr_succ _ n 0 _).trans (by rw [Nat.zero_add])
theorem mor_0 {S : Sem} (K : Nat → Int32) (k : Nat) : morK S K k 0 = fun _ => 0 := rfl
theorem morK_ag {S : Sem} (ha : AG K K') (hk : k ≤ 6) (n : Nat) : n ≤ k → morK S K' k n = morK S K k n := by
  induction n with
  | zero => intro _; rw [mor_0, mor_0]
  | succ n IH =>
    intro hn
    have e1 := IH (by omega)
    rw [mor_s, mor_s, e1, insb_ag ha (show n < 6 by omega), envL_ag ha (show n < 6 by omega), givK_ag ha hk (show n < 6 by omega)]
theorem lvK_ag {S : Sem} (hk : k ≤ 6) : ∀ n, n ≤ k → ∀ {A B : Nat → Int32}, AG A B → AG (lvK S n A) (lvK S n B)
  | 0, _, A, B, h => h
  | n + 1, hn, A, B, h => by
    have IH := lvK_ag (S := S) hk n (by omega) h
    unfold lvK at IH ⊢
    rw [itr_succ, itr_succ, Nat.zero_add, insb_ag IH (by omega), envL_ag IH (by omega)]
    split
    · intro i hi
      unfold upd
      by_cases c : i = 18 + n
      · rw [if_pos c, if_pos c]
      · rw [if_neg c, if_neg c]; exact IH i hi
    · exact IH
theorem minK_ag {S : Sem} (ha : AG K K') (hk : k ≤ 6) : AG (minK S k K) (minK S k K') := by
  have h1 : AG (addK S k K) (addK S k K') := by
    intro i hi
    unfold addK
    rw [morK_ag ha hk k (Nat.le_refl _), ha i hi]
  have h2 := lvK_ag (S := S) hk k (Nat.le_refl _) h1
  intro i hi
  unfold minK
  rw [h2 24 (by omega)]
  unfold upd
  by_cases c : i = 24
  · rw [if_pos c, if_pos c]
  · rw [if_neg c, if_neg c]; exact h2 i hi
theorem minN_ag {S : Sem} (ha : AG K K') (hk : k ≤ 6) : ∀ j, AG (minN S k j K) (minN S k j K')
  | 0 => ha
  | j + 1 => minK_ag (minN_ag ha hk j) hk
theorem flt_ag {f g : Nat → Bool} : ∀ n, (∀ i, i < n → f i = g i) → flt f n = flt g n
  | 0, _ => rfl
  | n + 1, h => by
    rw [flt_s, flt_s, flt_ag n (fun i hi => h i (by omega)), h n (by omega)]
theorem insL_ag (ha : AG K K') (hk : k ≤ 6) : insL K' k = insL K k := flt_ag k (fun i hi => insb_ag ha (by omega))
theorem plL_ag (ha : AG K K') (hk : k ≤ 6) : plL K' k = plL K k := flt_ag 9 (fun i hi => by show (whoS K' k i).isSome = (whoS K k i).isSome; rw [whoS_ag ha hk])
theorem seatK_ag (ha : AG K K') (hk : k ≤ 6) (q : Nat) : AG (seatK K k q) (seatK K' k q) := by
  have e : stV K' k q = stV K k q := by
    funext i
    unfold stV
    rw [insL_ag ha hk, plL_ag ha hk]
  intro i hi
  unfold seatK
  rw [insL_ag ha hk, e]
  by_cases c : ∃ j, j < (insL K k).length ∧ i = 18 + (insL K k).getD j 0
  · exact sw_i _ _ _ _ c
  · have c' : ∀ j, j < (insL K k).length → i ≠ 18 + (insL K k).getD j 0 := fun j hj e => c ⟨j, hj, e⟩
    rw [sw_o _ _ _ c', sw_o _ _ _ c']
    exact ha i hi
end AGS
theorem trK_AG (K : Nat → Int32) : AG K (trK K) := fun i hi => by unfold trK; rw [if_pos hi]
/-- K behind j minutes of the q-th seating -/
def kjq (S : Sem) (K : Nat → Int32) (k q j : Nat) : Nat → Int32 := minN S k j (seatK K k q)
theorem kjq_ag {S : Sem} {K : Nat → Int32} {k : Nat} (hk : k ≤ 6) (q j : Nat) : AG (kjq S K k q j) (kjq S (trK K) k q j) := minN_ag (seatK_ag (trK_AG K) hk q) hk j
/-! digits -/
theorem sr_dg {K : Nat → Int32} {k : Nat} (hw : WF K k) {p : Nat} (hp : p < 6) : seatRow K k 6 / 16 ^ p % 16 = seatD K k p := by
  have d0 := seatD_lt hw 0
  have d1 := seatD_lt hw 1
  have d2 := seatD_lt hw 2
  have d3 := seatD_lt hw 3
  have d4 := seatD_lt hw 4
  have d5 := seatD_lt hw 5
  have e : seatRow K k 6 = seatD K k 0 + seatD K k 1 * 16 + seatD K k 2 * 256 + seatD K k 3 * 4096 + seatD K k 4 * 65536 + seatD K k 5 * 1048576 := by
    show 0 + seatD K k 0 * 16 ^ 0 + seatD K k 1 * 16 ^ 1 + seatD K k 2 * 16 ^ 2 + seatD K k 3 * 16 ^ 3 + seatD K k 4 * 16 ^ 4 + seatD K k 5 * 16 ^ 5 = _
    omega
  rw [e]
  rcases (show p = 0 ∨ p = 1 ∨ p = 2 ∨ p = 3 ∨ p = 4 ∨ p = 5 by omega) with c | c | c | c | c | c <;> subst c <;> omega
theorem nr_e (K : Nat → Int32) : ∀ k, k ≤ 6 → ∃ r, natRow K 6 = natRow K k + r * 4 ^ k := by
  intro k hk
  rcases (show k = 0 ∨ k = 1 ∨ k = 2 ∨ k = 3 ∨ k = 4 ∨ k = 5 ∨ k = 6 by omega) with c | c | c | c | c | c | c <;> subst c
  · exact ⟨natRow K 6, by show _ = 0 + _ * 1; omega⟩
  · exact ⟨nat3 K 1 + nat3 K 2 * 4 + nat3 K 3 * 16 + nat3 K 4 * 64 + nat3 K 5 * 256, by simp only [natRow]; omega⟩
  · exact ⟨nat3 K 2 + nat3 K 3 * 4 + nat3 K 4 * 16 + nat3 K 5 * 64, by simp only [natRow]; omega⟩
  · exact ⟨nat3 K 3 + nat3 K 4 * 4 + nat3 K 5 * 16, by simp only [natRow]; omega⟩
  · exact ⟨nat3 K 4 + nat3 K 5 * 4, by simp only [natRow]; omega⟩
  · exact ⟨nat3 K 5, by simp only [natRow]⟩
  · exact ⟨0, by omega⟩
theorem nr_dg (K : Nat → Int32) {k p : Nat} (hk : k ≤ 6) (hp : p < k) : natRow K k / 4 ^ p % 4 = nat3 K p := by
  have d0 := nat3_lt K 0
  have d1 := nat3_lt K 1
  have d2 := nat3_lt K 2
  have d3 := nat3_lt K 3
  have d4 := nat3_lt K 4
  have d5 := nat3_lt K 5
  rcases (show k = 1 ∨ k = 2 ∨ k = 3 ∨ k = 4 ∨ k = 5 ∨ k = 6 by omega) with c | c | c | c | c | c <;> subst c <;> rcases (show p = 0 ∨ p = 1 ∨ p = 2 ∨ p = 3 ∨ p = 4 ∨ p = 5 by omega) with d | d | d | d | d | d <;> subst d <;> (try omega) <;> simp only [natRow] <;> omega
