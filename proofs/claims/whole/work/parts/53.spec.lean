/-! ===== a minute, as a function of the row K ===== -/
abbrev Env : Type := Nat → Int32
/-- what a law says: keeps, leaves, how much is passed -/
abbrev Sem : Type := Env → Bool × Bool × Int32
def envL (K : Nat → Int32) (p : Nat) (o : Int32) : Env := fun w => if w = 0 then nI p else if w = 1 then o else if w = 2 then K (18 + p) / 3 else if w = 3 then nI (nat3 K p) else if w = 4 then K (3 * p + nat3 K p) else if w = 5 then K (25 + p) else if w = 6 then K 24 else if w = 7 then K 50 else 0
def S0 : Sem := fun _ => (false, false, 1)
def semOK (S : Sem) : Prop := ∀ w, ∃ t, t ≤ 9 ∧ (S w).2.2 = nI t
def MOb (K : Nat → Int32) (b : Nat) : Prop := ∃ m, m ≤ b ∧ K 24 = nI m
def IsRm (r : Nat) : Prop := r = 12 ∨ r = 17 ∨ r = 33 ∨ r = 69
def wA (a : Nat) : Prop := a = 30 ∨ a = 31
/-- one text, two heaps -/
def TxSame (h h' : Hp) (a : Nat) : Prop := fI h' a 2 = fI h a 2 ∧ fI h' a 3 = fI h a 3 ∧ aI h' (a + 1) = aI h (a + 1) ∧ aI h' (a + 2) = aI h (a + 2) ∧ ln h' (a + 1) = ln h (a + 1) ∧ ln h' (a + 2) = ln h (a + 2) ∧ tg h' a = true
/-- the class's text a says S -/
def CL (h : Hp) (a : Nat) (S : Sem) : Prop := ∀ h', TxSame h h' a → ∀ r K k p, IsRm r → RRh h' r K → WF K k → MOb K 1000000 → p < k → insb K p = true →
  (∃ h2, f_X8_anyHolds r a (nI p) 14 h' = some ((S (envL K p (-1))).1, h2) ∧ Fr wA noF h' h2) ∧ (∃ h2, f_X8_anyHolds r a (nI p) 15 h' = some ((S (envL K p (-1))).2.1, h2) ∧ Fr wA noF h' h2) ∧ ∀ q, q < k → ∃ h2, f_X8_partsTold r a (nI p) (nI q) h' = some ((S (envL K p (nI (nat3 K q)))).2.2, h2) ∧ Fr wA noF h' h2
def tA (a : Nat) : Prop := a = 93
def tF (a k : Nat) : Prop := a = 81 ∧ 22 ≤ k ∧ k ≤ 25
/-- the reference's law in force says S, as long as what it keeps behind the 25th place is K0 -/
def RT (K0 : Nat → Int32) (S : Sem) : Prop := ∀ h' k p, (∀ i, 25 ≤ i → aI h' 83 i = K0 i) → WF (aI h' 83) k → MOb (aI h' 83) 1000000 → p < k → insb (aI h' 83) p = true →
  (∃ v h2, f_X11_tells 2 (nI p) (-1) h' = some (v, h2) ∧ decide (0 < v) = (S (envL (aI h' 83) p (-1))).1 ∧ Fr tA tF h' h2) ∧ (∃ v h2, f_X11_tells 3 (nI p) (-1) h' = some (v, h2) ∧ decide (0 < v) = (S (envL (aI h' 83) p (-1))).2.1 ∧ Fr tA tF h' h2) ∧ ∀ q, q < k → ∃ h2, f_X11_givesTo (nI p) (nI q) h' = some ((S (envL (aI h' 83) p (nI (nat3 (aI h' 83) q)))).2.2, h2) ∧ Fr tA tF h' h2
def nbs (s : Nat) : List Nat := [[1, 3], [0, 2, 4], [1, 5], [0, 4, 6], [1, 3, 5, 7], [2, 4, 8], [3, 7], [4, 6, 8], [5, 7]].getD s []
def whoS (K : Nat → Int32) (k t : Nat) : Option Nat := firstM (fun q => decide (K (18 + q) = nI t)) k 0
theorem whoK_S (K : Nat → Int32) (k t : Nat) : whoK K k (nI t) = match whoS K k t with
    | some q => nI q
    | none => -1 := rfl
def gT (v : Int32) (i j : Nat) (st : Int32 × (Nat → Int32)) : Int32 × (Nat → Int32) := (st.1 - mnI st.1 v, upd (upd st.2 i (st.2 i - mnI st.1 v)) j (upd st.2 i (st.2 i - mnI st.1 v) j + mnI st.1 v))
def gS (S : Sem) (K : Nat → Int32) (k p : Nat) (st : Int32 × (Nat → Int32)) (t : Nat) : Int32 × (Nat → Int32) := match whoS K k t with
  | none => st
  | some q => gT (S (envL K p (nI (nat3 K q)))).2.2 (3 * p + nat3 K p) (3 * q + nat3 K p) st
def seatN (K : Nat → Int32) (p : Nat) : Nat := (K (18 + p)).toNatClampNeg
def givK (S : Sem) (K : Nat → Int32) (k p : Nat) (m : Nat → Int32) : Nat → Int32 := ((nbs (seatN K p)).foldl (gS S K k p) (K (3 * p + nat3 K p), m)).2
def morK (S : Sem) (K : Nat → Int32) (k n : Nat) : Nat → Int32 := itr (fun m p => if (insb K p && !(S (envL K p (-1))).1) = true then givK S K k p m else m) n 0 (fun _ => 0)
def addK (S : Sem) (k : Nat) (K : Nat → Int32) : Nat → Int32 := fun i => if i < 18 then K i + morK S K k k i else K i
def lvK (S : Sem) (n : Nat) (K : Nat → Int32) : Nat → Int32 := itr (fun K p => if (insb K p && (S (envL K p (-1))).2.1) = true then upd K (18 + p) (-1) else K) n 0 K
def minK (S : Sem) (k : Nat) (K : Nat → Int32) : Nat → Int32 := upd (lvK S k (addK S k K)) 24 (lvK S k (addK S k K) 24 + 1)
/-! ===== facts of the steps ===== -/
theorem gT_zero {v : Nat} (hv : v < 2 ^ 31) (i j : Nat) (m : Nat → Int32) : gT (nI v) i j (nI 0, m) = (nI 0, m) := by
  unfold gT
  have e : mnI (nI 0) (nI v) = nI 0 := by rw [mnI_n 0 v (by omega) hv, Nat.zero_min]
  show (nI 0 - mnI (nI 0) (nI v), upd (upd m i (m i - mnI (nI 0) (nI v))) j (upd m i (m i - mnI (nI 0) (nI v)) j + mnI (nI 0) (nI v))) = _
  rw [e]
  have e1 : ∀ x : Int32, x - nI 0 = x := fun x => Int32.sub_zero x
  have e2 : ∀ x : Int32, x + nI 0 = x := fun x => Int32.add_zero x
  rw [e1, e1, e2]
  have u1 : upd m i (m i) = m := by
    funext z
    unfold upd
    by_cases c : z = i
    · rw [if_pos c, c]
    · rw [if_neg c]
  rw [u1]
  have u2 : upd m j (m j) = m := by
    funext z
    unfold upd
    by_cases c : z = j
    · rw [if_pos c, c]
    · rw [if_neg c]
  rw [u2]
theorem gS_zero {S : Sem} (hS : semOK S) (K : Nat → Int32) (k p : Nat) (m : Nat → Int32) (t : Nat) : gS S K k p (nI 0, m) t = (nI 0, m) := by
  unfold gS
  cases whoS K k t with
  | none => rfl
  | some q =>
    obtain ⟨v, h1, h2⟩ := hS (envL K p (nI (nat3 K q)))
    show gT _ _ _ _ = _
    rw [h2]
    exact gT_zero (by omega) _ _ _
theorem gF_zero {S : Sem} (hS : semOK S) (K : Nat → Int32) (k p : Nat) (m : Nat → Int32) : ∀ l : List Nat, l.foldl (gS S K k p) (nI 0, m) = (nI 0, m)
  | [] => rfl
  | t :: l => by
    rw [List.foldl_cons, gS_zero hS]
    exact gF_zero hS K k p m l
theorem gS_left {S : Sem} (hS : semOK S) (K : Nat → Int32) (k p : Nat) (m : Nat → Int32) (t : Nat) {l : Nat} (hl : l ≤ 2000) : ∃ l', l' ≤ l ∧ (gS S K k p (nI l, m) t).1 = nI l' := by
  unfold gS
  cases whoS K k t with
  | none => exact ⟨l, Nat.le_refl _, rfl⟩
  | some q =>
    obtain ⟨v, h1, h2⟩ := hS (envL K p (nI (nat3 K q)))
    refine ⟨l - min l v, Nat.sub_le _ _, ?_⟩
    show nI l - mnI (nI l) _ = _
    rw [h2, mnI_n l v (by omega) (by omega), pk_sub (Nat.min_le_left _ _)]
theorem upd2 {f g : Nat → Int32} {n i : Nat} {x y : Int32} (h : ∀ j, j < n → f j = g j) (e : x = y) : ∀ j, j < n → upd f i x j = upd g i y j := by
  intro j hj
  unfold upd
  rw [e]
  by_cases c : j = i
  · rw [if_pos c, if_pos c]
  · rw [if_neg c, if_neg c]; exact h j hj
theorem Tx_fr {A : Nat → Prop} {F : Nat → Nat → Prop} {h h' h'' : Hp} {a : Nat} (hT : TxSame h h' a) (hf : Fr A F h' h'') (f2 : ¬ F a 2) (f3 : ¬ F a 3) (a1 : ¬ A (a + 1)) (a2 : ¬ A (a + 2)) : TxSame h h'' a := by
  obtain ⟨t1, t2, t3, t4, t5, t6, t7⟩ := hT
  refine ⟨(hf.1 a 2 f2).trans t1, (hf.1 a 3 f3).trans t2, (hf.2.1 _ a1).trans t3, (hf.2.1 _ a2).trans t4, (hf.2.2.2.2.1 _).trans t5, (hf.2.2.2.2.1 _).trans t6, ?_⟩
  unfold tg at t7 ⊢
  rw [hf.2.2.2.2.2]
  exact t7
theorem RR_fr {A : Nat → Prop} {F : Nat → Nat → Prop} {h h' : Hp} {r : Nat} {K : Nat → Int32} (hr : RRh h r K) (hf : Fr A F h h') (f0 : ¬ F r 0) (a1 : ¬ A (r + 1)) (a2 : ¬ A (r + 2)) (a3 : ¬ A (r + 3)) (a4 : ¬ A (r + 4)) : RRh h' r K := by
  unfold RRh at hr ⊢
  rw [hf.1 r 0 f0, hf.2.1 _ a1, hf.2.1 _ a2, hf.2.1 _ a3, hf.2.1 _ a4]
  exact hr
theorem seat_of {K : Nat → Int32} {k p : Nat} (hw : WF K k) (hp : p < k) (hi : insb K p = true) : K (18 + p) = nI (seatN K p) ∧ seatN K p < 9 := by
  have h1 := hw.2.2.2.1 p hp
  unfold insb at hi
  have h2 : ¬ K (18 + p) = -1 := by simpa using hi
  rcases h1 with h1 | ⟨s, h3, h4⟩
  · exact absurd h1 h2
  · have : seatN K p = s := by
      unfold seatN
      rw [h4, nI_clamp (by omega)]
    rw [this]
    exact ⟨h4, h3⟩
theorem part_of {K : Nat → Int32} {k : Nat} (hw : WF K k) {i : Nat} (hi : i < 18) : ∃ l, l ≤ 2000 ∧ K i = nI l := hw.2.2.1 i hi
