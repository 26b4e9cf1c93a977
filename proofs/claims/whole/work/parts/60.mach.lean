/-! ===== the class's machine: pieces of code ===== -/
theorem l2_ : ((2 : Int32)) = nI 2 := rfl
theorem l10_ : ((10 : Int32)) = nI 10 := rfl
theorem l11_ : ((11 : Int32)) = nI 11 := rfl
theorem l12_ : ((12 : Int32)) = nI 12 := rfl
theorem l64_ : ((64 : Int32)) = nI 64 := rfl
def BRK : Int32 := -2147483648
/-- the machine's step -/
def mb (a to : Nat) : Int32 × Int32 × Hp → Option ((Int32 × Int32 × Hp) ⊕ (Hp ⊕ Hp ⊕ Hp ⊕ Hp ⊕ Hp)) := fun s => b_X2_workOut_42 a (nI to) s.1 s.2.1 s.2.2
theorem lp_1 {σ ε : Type} {b : σ → Option (σ ⊕ ε)} {s s' : σ} (h : b s = some (.inl s')) (F : Nat) : lp b (F + 1) s = lp b F s' := by
  show (match b s with
    | none => none
    | some (.inl s') => lp b F s'
    | some (.inr e) => some e) = _
  rw [h]
theorem lp_e {σ ε : Type} {b : σ → Option (σ ⊕ ε)} {s : σ} {e : ε} (h : b s = some (.inr e)) (F : Nat) : lp b (F + 1) s = some e := by
  show (match b s with
    | none => none
    | some (.inl s') => lp b F s'
    | some (.inr e) => some e) = _
  rw [h]
/-- where the machine stands: text a, code c from s to e, words w -/
def MX (ok : Nat → Prop) (c : Nat → Int32) (s e a to : Nat) (w : Env) (h : Hp) : Prop := isTx a ∧ tg h a = true ∧ 2 * e ≤ ln h (a + 1) ∧ ln h (a + 1) ≤ 800 ∧ (∀ j, 2 * s ≤ j → j < 2 * e → aI h (a + 1) j = c j) ∧ (∀ i, ok i → i < 24 ∧ aI h 30 i = w i) ∧ e ≤ to ∧ to ≤ 400
def stF (b : Nat) : Prop := b = 31
/-- the piece from s to e puts what σ says on the stack -/
def MC0 (ok : Nat → Prop) (c : Nat → Int32) (s e B : Nat) (σ : Env → Option Int32) : Prop := ∀ (h : Hp) (a to t : Nat) (w : Env), MX ok c s e a to w h → t ≤ B →
  (∀ v, σ w = some v → ∃ h' m, m ≤ e - s ∧ (∀ F, lp (mb a to) (F + m) (nI t, nI s, h) = lp (mb a to) F (nI (t + 1), nI e, h')) ∧ aI h' 31 t = v ∧ (∀ j, j < t → aI h' 31 j = aI h 31 j) ∧ Fr stF noF h h') ∧ (σ w = none → ∃ h' m, m ≤ e - s ∧ (∀ F, lp (mb a to) (F + m) (nI t, nI s, h) = some (.inr (.inr (.inl h')))) ∧ Fr stF noF h h')
/-- no number is the mark of what is broken -/
def NB (ok : Nat → Prop) (σ : Env → Option Int32) : Prop := ∀ w, (∀ i, ok i → w i ≠ BRK) → ∀ v, σ w = some v → v ≠ BRK
def MC (ok : Nat → Prop) (c : Nat → Int32) (s e B : Nat) (σ : Env → Option Int32) : Prop := MC0 ok c s e B σ ∧ NB ok σ
theorem nI_nb {n : Nat} (h : n < 2 ^ 31) : nI n ≠ BRK := by
  intro e
  have := congrArg Int32.toInt e
  rw [nI_toInt h] at this
  have e3 : Int32.toInt BRK = -2147483648 := by decide
  omega
theorem NB_map (ok : Nat → Prop) (τ : Env → Option Bool) : NB ok (fun w => (τ w).map b2i) := by
  intro w _ v hv
  dsimp only at hv
  cases e : τ w with
  | none => rw [e] at hv; cases hv
  | some b =>
    rw [e] at hv
    rw [← Option.some.inj hv]
    cases b <;> decide
theorem MX_fr {ok : Nat → Prop} {c : Nat → Int32} {s e a to : Nat} {w : Env} {h h' : Hp} (hm : MX ok c s e a to w h) (hf : Fr stF noF h h') : MX ok c s e a to w h' := by
  obtain ⟨m1, m2, m3, m4, m5, m6, m7, m8⟩ := hm
  have hne : ¬ stF (a + 1) := by unfold stF; rcases m1 with e | e <;> omega
  refine ⟨m1, ?_, ?_, ?_, ?_, ?_, m7, m8⟩
  · unfold tg at m2 ⊢
    rw [hf.2.2.2.2.2]
    exact m2
  · rw [hf.2.2.2.2.1]; exact m3
  · rw [hf.2.2.2.2.1]; exact m4
  · rw [hf.2.1 _ hne]; exact m5
  · rw [hf.2.1 30 (by unfold stF; omega)]; exact m6
theorem MX_sub {ok : Nat → Prop} {c : Nat → Int32} {s e s' e' a to : Nat} {w : Env} {h : Hp} (hm : MX ok c s e a to w h) (h1 : s ≤ s') (h2 : e' ≤ e) : MX ok c s' e' a to w h := by
  obtain ⟨m1, m2, m3, m4, m5, m6, m7, m8⟩ := hm
  exact ⟨m1, m2, by omega, m4, fun j a1 a2 => m5 j (by omega) (by omega), m6, by omega, m8⟩
theorem MX_at {ok : Nat → Prop} {c : Nat → Int32} {s e a to x : Nat} {w : Env} {h : Hp} (hm : MX ok c s e a to w h) (h1 : s ≤ x) (h2 : x < e) : inb (nI x * 2) (ln h (a + 1)) = some (2 * x) ∧ inb (nI x * 2 + 1) (ln h (a + 1)) = some (2 * x + 1) ∧ aI h (a + 1) (2 * x) = c (2 * x) ∧ aI h (a + 1) (2 * x + 1) = c (2 * x + 1) ∧ x < to := by
  obtain ⟨m1, m2, m3, m4, m5, m6, m7, m8⟩ := hm
  refine ⟨?_, ?_, m5 _ (by omega) (by omega), m5 _ (by omega) (by omega), by omega⟩
  · rw [l2_, pk_mul, Nat.mul_comm, inb_nI (by omega) (by omega)]
  · rw [l2_, pk_mul, nI_1, Nat.mul_comm, inb_nI (by omega) (by omega)]
/-- one step: a number or a word is pushed -/
theorem MC_push {ok : Nat → Prop} {c : Nat → Int32} {s B : Nat} {σ : Env → Int32} (hB : B < 64) (hk : c (2 * s) = 0 ∧ (∀ w, σ w = c (2 * s + 1)) ∧ c (2 * s + 1) ≠ BRK ∨ c (2 * s) = 1 ∧ ∃ q, c (2 * s + 1) = nI q ∧ ok q ∧ ∀ w, σ w = w q) : MC ok c s (s + 1) B (fun w => some (σ w)) := by
  refine ⟨?_, fun w hw v hv => ?_⟩
  rotate_left
  · have hv : σ w = v := Option.some.inj hv
    rcases hk with ⟨-, k2, k3⟩ | ⟨-, q, -, k3, k4⟩
    · rw [← hv, k2]; exact k3
    · rw [← hv, k4]; exact hw q k3
  intro h a to t w hm ht
  obtain ⟨i1, i2, c1, c2, i3⟩ := MX_at hm (Nat.le_refl _) (Nat.lt_succ_self _)
  obtain ⟨m1, m2, m3, m4, m5, m6, m7, m8⟩ := hm
  refine ⟨fun v hv => ?_, fun hv => (by cases hv)⟩
  have hv : σ w = v := Option.some.inj hv
  refine ⟨sA h 31 t v, 1, by omega, fun F => ?_, aI_s, fun j hj => aI_n (by omega), Fr_sA rfl⟩
  refine lp_1 ?_ F
  show b_X2_workOut_42 a (nI to) (nI t) (nI s) h = _
  unfold b_X2_workOut_42
  rw [if_neg (nI_ge i3 (by omega)), if_pos m2, i1, Option.bind_some, i2, Option.bind_some, c1, c2]
  rcases hk with ⟨k1, k2, -⟩ | ⟨k1, q, k2, k3, k4⟩
  · rw [k1, if_neg (by decide), l64_, if_pos (nI_lt (show t < 64 by omega) (by omega)), if_pos rfl]
    unfold j_X2_workOut_114_42
    rw [inb_nI (show t < 64 by omega) (by omega), Option.bind_some, nI_1, nI_1, ← hv, k2]
  · rw [k1, if_neg (by decide), l64_, if_pos (nI_lt (show t < 64 by omega) (by omega)), if_neg (by decide), k2]
    obtain ⟨k5, k6⟩ := m6 q k3
    unfold f_X2_wordAt
    rw [if_neg (nI_pos (by omega)), show ((24 : Int32)) = nI 24 from rfl, if_neg (nI_ge k5 (by omega)), inb_nI k5 (by omega), Option.bind_some, Option.bind_some]
    unfold j_X2_workOut_114_42
    rw [inb_nI (show t < 64 by omega) (by omega), Option.bind_some, nI_1, nI_1, ← hv, k4, k6]
/-- two numbers joined -/
def opS (k : Nat) (l r : Int32) : Option Int32 := match f_X2_join (nI k) l r with
  | some v => if v = BRK then none else some v
  | none => none
theorem j18_2 (l r : Int32) : j_X2_join_18 (nI 2) l r = (j_X2_join_137 (l.toInt64 + r.toInt64)) := by
  unfold j_X2_join_18
  rw [if_neg (by decide), if_pos (by decide)]
theorem j18_3 (l r : Int32) : j_X2_join_18 (nI 3) l r = (j_X2_join_137 (l.toInt64 - r.toInt64)) := by
  unfold j_X2_join_18
  rw [if_neg (by decide), if_neg (by decide), if_pos (by decide)]
theorem j18_4 (l r : Int32) : j_X2_join_18 (nI 4) l r = (j_X2_join_137 (l.toInt64 * r.toInt64)) := by
  unfold j_X2_join_18
  rw [if_neg (by decide), if_neg (by decide), if_neg (by decide), if_pos (by decide)]
theorem j18_5 (l r : Int32) : j_X2_join_18 (nI 5) l r = (if r.toInt64 = 0 then none else j_X2_join_137 (l.toInt64 / r.toInt64)) := by
  unfold j_X2_join_18
  rw [if_neg (by decide), if_neg (by decide), if_neg (by decide), if_neg (by decide), if_pos (by decide)]
theorem j18_6 (l r : Int32) : j_X2_join_18 (nI 6) l r = (if r.toInt64 = 0 then none else j_X2_join_137 (l.toInt64 - l.toInt64 / r.toInt64 * r.toInt64)) := by
  unfold j_X2_join_18
  rw [if_neg (by decide), if_neg (by decide), if_neg (by decide), if_neg (by decide), if_neg (by decide), if_pos (by decide)]
theorem j18_7 (l r : Int32) : j_X2_join_18 (nI 7) l r = (if r ≤ l then some 0 else some 1) := by
  unfold j_X2_join_18
  rw [if_neg (by decide), if_neg (by decide), if_neg (by decide), if_neg (by decide), if_neg (by decide), if_neg (by decide), if_pos (by decide)]
theorem j18_8 (l r : Int32) : j_X2_join_18 (nI 8) l r = (if l ≤ r then some 0 else some 1) := by
  unfold j_X2_join_18
  rw [if_neg (by decide), if_neg (by decide), if_neg (by decide), if_neg (by decide), if_neg (by decide), if_neg (by decide), if_neg (by decide), if_pos (by decide)]
theorem j18_9 (l r : Int32) : j_X2_join_18 (nI 9) l r = (if l = r then some 1 else some 0) := by
  unfold j_X2_join_18
  rw [if_pos (by decide)]
theorem toL_ne {r : Int32} (c : r ≠ 0) : r.toInt64 ≠ 0 := by
  intro e
  apply c
  have := congrArg Int64.toInt32 e
  rw [Int32.toInt32_toInt64] at this
  exact this
theorem j137_some (x : Int64) : ∃ v, j_X2_join_137 x = some v := by
  unfold j_X2_join_137
  split
  · exact ⟨_, rfl⟩
  · split <;> exact ⟨_, rfl⟩
theorem join_eq {k : Nat} (l r : Int32) (h : r ≠ 0 ∨ (k ≠ 5 ∧ k ≠ 6)) (h1 : k < 10) : f_X2_join (nI k) l r = j_X2_join_18 (nI k) l r := by
  unfold f_X2_join
  by_cases c : r = 0
  · rcases h with h | h
    · exact absurd c h
    · rw [if_pos c, if_neg (show ¬ nI k = 5 from fun e => h.1 ((nI_eq (by omega) (by omega)).mp (show nI k = nI 5 from e))), if_neg (show ¬ nI k = 6 from fun e => h.2 ((nI_eq (by omega) (by omega)).mp (show nI k = nI 6 from e)))]
  · rw [if_neg c]
theorem join_0 {k : Nat} (l : Int32) (h : k = 5 ∨ k = 6) : f_X2_join (nI k) l 0 = some BRK := by
  unfold f_X2_join
  rw [if_pos rfl]
  rcases h with e | e <;> subst e
  · rw [if_pos (by decide)]; rfl
  · rw [if_neg (by decide), if_pos (by decide)]; rfl
theorem join_some {k : Nat} (h1 : 2 ≤ k) (h2 : k < 10) (l r : Int32) : ∃ v, f_X2_join (nI k) l r = some v := by
  by_cases hb : r = 0 ∧ (k = 5 ∨ k = 6)
  · rw [hb.1]; exact ⟨_, join_0 l hb.2⟩
  have hor : r ≠ 0 ∨ (k ≠ 5 ∧ k ≠ 6) := by
    by_cases c : r = 0
    · exact Or.inr ⟨fun e => hb ⟨c, Or.inl e⟩, fun e => hb ⟨c, Or.inr e⟩⟩
    · exact Or.inl c
  rw [join_eq l r hor h2]
  have hk : k = 2 ∨ k = 3 ∨ k = 4 ∨ k = 5 ∨ k = 6 ∨ k = 7 ∨ k = 8 ∨ k = 9 := by omega
  rcases hk with e | e | e | e | e | e | e | e <;> subst e
  · rw [j18_2]; exact j137_some _
  · rw [j18_3]; exact j137_some _
  · rw [j18_4]; exact j137_some _
  · rw [j18_5, if_neg (toL_ne (fun c => hb ⟨c, Or.inl rfl⟩))]; exact j137_some _
  · rw [j18_6, if_neg (toL_ne (fun c => hb ⟨c, Or.inr rfl⟩))]; exact j137_some _
  · rw [j18_7]; split <;> exact ⟨_, rfl⟩
  · rw [j18_8]; split <;> exact ⟨_, rfl⟩
  · rw [j18_9]; split <;> exact ⟨_, rfl⟩
theorem opS_nb {k : Nat} {l r v : Int32} (h : opS k l r = some v) : v ≠ BRK := by
  unfold opS at h
  split at h
  · split at h
    · cases h
    · rename_i c
      rw [← Option.some.inj h]
      exact c
  · cases h
theorem MC_bin {ok : Nat → Prop} {c : Nat → Int32} {s m e B k : Nat} {σ τ : Env → Option Int32} (hB : B < 60) (h1 : MC ok c s m B σ) (h2 : MC ok c m e (B + 1) τ) (hs : s ≤ m) (hm : m ≤ e) (hk : c (2 * e) = nI k) (hk1 : 2 ≤ k) (hk2 : k < 10) : MC ok c s (e + 1) B (fun w => (σ w).bind fun l => (τ w).bind fun r => opS k l r) := by
  refine ⟨?_, fun w _ v hv => ?_⟩
  rotate_left
  · dsimp only at hv
    cases e1 : σ w with
    | none => rw [e1] at hv; cases hv
    | some l =>
      cases e2 : τ w with
      | none => rw [e1, e2] at hv; cases hv
      | some r =>
        rw [e1, e2] at hv
        exact opS_nb hv
  replace h1 := h1.1
  replace h2 := h2.1
  intro h a to t w hx ht
  have hx1 := MX_sub hx (Nat.le_refl s) (show m ≤ e + 1 by omega)
  have hx2 := MX_sub hx hs (show e ≤ e + 1 by omega)
  dsimp only
  cases e1 : σ w with
  | none =>
    refine ⟨fun v hv => (by cases hv), fun _ => ?_⟩
    obtain ⟨h', n, n1, n2, n3⟩ := (h1 h a to t w hx1 ht).2 e1
    exact ⟨h', n, by omega, n2, n3⟩
  | some l =>
    show (∀ v, ((τ w).bind fun r => opS k l r) = some v → _) ∧ (((τ w).bind fun r => opS k l r) = none → _)
    obtain ⟨ha, na, a1, a2, a3, a4, a5⟩ := (h1 h a to t w hx1 ht).1 l e1
    cases e2 : τ w with
    | none =>
      refine ⟨fun v hv => (by cases hv), fun _ => ?_⟩
      obtain ⟨hb, nb, b1, b2, b3⟩ := (h2 ha a to (t + 1) w (MX_fr hx2 a5) (by omega)).2 e2
      refine ⟨hb, nb + na, by omega, fun F => ?_, Fr_tr a5 b3⟩
      rw [← Nat.add_assoc, a2, b2]
    | some r =>
      show (∀ v, opS k l r = some v → _) ∧ (opS k l r = none → _)
      obtain ⟨hb, nb, b1, b2, b3, b4, b5⟩ := (h2 ha a to (t + 1) w (MX_fr hx2 a5) (by omega)).1 r e2
      have hxb := MX_fr hx (Fr_tr a5 b5)
      obtain ⟨i1, i2, c1, c2, i3⟩ := MX_at hxb (show s ≤ e by omega) (Nat.lt_succ_self _)
      obtain ⟨m1, m2, m3, m4, m5, m6, m7, m8⟩ := hxb
      obtain ⟨v, jv⟩ := join_some hk1 hk2 l r
      have ej : b_X2_workOut_42 a (nI to) (nI (t + 1 + 1)) (nI e) hb = if v = BRK then some (.inr (.inr (.inr (.inl (sA hb 31 t v))))) else some (.inl (nI (t + 1), nI (e + 1), sA hb 31 t v)) := by
        unfold b_X2_workOut_42
        rw [if_neg (nI_ge i3 (by omega)), if_pos m2, i1, Option.bind_some, i2, Option.bind_some, c1, c2, hk, if_pos (show (1 : Int32) < nI k from nI_lt (show 1 < k by omega) (by omega)), if_neg (show ¬ (10 : Int32) ≤ nI k from nI_ge (a := k) (b := 10) hk2 (by omega)), if_pos (show (2 : Int32) ≤ nI (t + 1 + 1) from nI_le (a := 2) (b := t + 1 + 1) (by omega) (by omega)), pk_m1, nI_pred, inb_nI (show t < 64 by omega) (by omega), Option.bind_some, inb_nI (show t + 1 < 64 by omega) (by omega), Option.bind_some, b3, b4 t (by omega), a3, jv, Option.bind_some, Option.bind_some, Option.bind_some, aI_s, nI_1]
        rfl
      unfold opS
      rw [jv]
      dsimp only
      by_cases cb : v = BRK
      · rw [if_pos cb] at ej ⊢
        refine ⟨fun v hv => (by cases hv), fun _ => ⟨sA hb 31 t v, (1 + nb) + na, by omega, fun F => ?_, Fr_tA (Fr_tr a5 b5) rfl⟩⟩
        rw [← Nat.add_assoc, a2, ← Nat.add_assoc, b2]
        exact lp_e ej F
      · rw [if_neg cb] at ej ⊢
        refine ⟨fun v' hv => ?_, fun hv => (by cases hv)⟩
        have hv : v = v' := Option.some.inj hv
        subst hv
        refine ⟨sA hb 31 t v, (1 + nb) + na, by omega, fun F => ?_, aI_s, fun j hj => ?_, Fr_tA (Fr_tr a5 b5) rfl⟩
        · rw [← Nat.add_assoc, a2, ← Nat.add_assoc, b2]
          exact lp_1 ej F
        · rw [aI_n (by omega), b4 j (by omega), a4 j hj]
theorem map_none {α β : Type} {f : α → β} {o : Option α} (h : o.map f = none) : o = none := by
  cases o with
  | none => rfl
  | some a => cases h
theorem map_some {α β : Type} {f : α → β} {o : Option α} {v : β} (h : o.map f = some v) : ∃ a, o = some a ∧ v = f a := by
  cases o with
  | none => cases h
  | some a => exact ⟨a, rfl, (Option.some.inj h).symm⟩
/-- a test's piece -/
def MT (ok : Nat → Prop) (c : Nat → Int32) (s e B : Nat) (τ : Env → Option Bool) : Prop := MC ok c s e B (fun w => (τ w).map b2i)
theorem MT_not {ok : Nat → Prop} {c : Nat → Int32} {s e B : Nat} {τ : Env → Option Bool} (hB : B < 60) (h1 : MT ok c s e B τ) (hs : s ≤ e) (hk : c (2 * e) = nI 10) : MT ok c s (e + 1) B (fun w => (τ w).map (fun x => !x)) := by
  refine ⟨?_, NB_map _ _⟩
  replace h1 := h1.1
  intro h a to t w hx ht
  have hx1 := MX_sub hx (Nat.le_refl s) (show e ≤ e + 1 by omega)
  dsimp only
  have g := h1 h a to t w hx1 ht
  dsimp only at g
  cases e1 : τ w with
  | none =>
    rw [e1] at g
    refine ⟨fun v hv => (by cases hv), fun _ => ?_⟩
    obtain ⟨h', n, n1, n2, n3⟩ := g.2 rfl
    exact ⟨h', n, by omega, n2, n3⟩
  | some x =>
    rw [e1] at g
    refine ⟨fun v hv => ?_, fun hv => (by cases hv)⟩
    have hv : b2i (!x) = v := Option.some.inj hv
    obtain ⟨ha, na, a1, a2, a3, a4, a5⟩ := g.1 (b2i x) rfl
    have hxb := MX_fr hx a5
    obtain ⟨i1, i2, c1, c2, i3⟩ := MX_at hxb hs (Nat.lt_succ_self _)
    obtain ⟨m1, m2, m3, m4, m5, m6, m7, m8⟩ := hxb
    have ej : b_X2_workOut_42 a (nI to) (nI (t + 1)) (nI e) ha = some (.inl (nI (t + 1), nI (e + 1), sA ha 31 t v)) := by
      unfold b_X2_workOut_42
      rw [if_neg (nI_ge i3 (by omega)), if_pos m2, i1, Option.bind_some, i2, Option.bind_some, c1, c2, hk, if_pos (show (1 : Int32) < nI 10 by decide), if_pos (show (10 : Int32) ≤ nI 10 by decide), if_pos (show (1 : Int32) ≤ nI (t + 1) from nI_le (a := 1) (b := t + 1) (by omega) (by omega)), if_pos (show nI 10 = 10 from rfl), nI_pred, inb_nI (show t < 64 by omega) (by omega), Option.bind_some, Option.bind_some, a3, nI_1, ← hv]
      cases x <;> rfl
    refine ⟨sA ha 31 t v, 1 + na, by omega, fun F => ?_, aI_s, fun j hj => ?_, Fr_tA a5 rfl⟩
    · rw [← Nat.add_assoc, a2]
      exact lp_1 ej F
    · rw [aI_n (by omega), a4 j hj]
/-- or: what stands behind is skipped, if it can't matter -/
theorem MT_or {ok : Nat → Prop} {c : Nat → Int32} {s m e B : Nat} {σ τ : Env → Option Bool} (hB : B < 60) (h1 : MT ok c s m B σ) (h2 : MT ok c (m + 1) e B τ) (hs : s ≤ m) (hm : m + 1 ≤ e) (hk : c (2 * m) = nI 12) (hj : c (2 * m + 1) = nI e) : MT ok c s e B (fun w => (σ w).bind fun x => if x = true then some true else τ w) := by
  refine ⟨?_, NB_map _ _⟩
  replace h1 := h1.1
  replace h2 := h2.1
  intro h a to t w hx ht
  have hx1 := MX_sub hx (Nat.le_refl s) (show m ≤ e by omega)
  have hx2 := MX_sub hx (show s ≤ m + 1 by omega) (Nat.le_refl e)
  dsimp only
  have g := h1 h a to t w hx1 ht
  dsimp only at g
  cases e1 : σ w with
  | none =>
    rw [e1] at g
    refine ⟨fun v hv => (by cases hv), fun _ => ?_⟩
    obtain ⟨h', n, n1, n2, n3⟩ := g.2 rfl
    exact ⟨h', n, by omega, n2, n3⟩
  | some x =>
    rw [e1] at g
    obtain ⟨ha, na, a1, a2, a3, a4, a5⟩ := g.1 (b2i x) rfl
    have hxb := MX_fr hx a5
    obtain ⟨i1, i2, c1, c2, i3⟩ := MX_at hxb hs (show m < e by omega)
    obtain ⟨m1, m2, m3, m4, m5, m6, m7, m8⟩ := hxb
    have ej : b_X2_workOut_42 a (nI to) (nI (t + 1)) (nI m) ha = j_X2_workOut_247_42 a (nI to) (nI (t + 1)) (nI m) (nI e) (b2i x) 1 ha := by
      unfold b_X2_workOut_42
      rw [if_neg (nI_ge i3 (by omega)), if_pos m2, i1, Option.bind_some, i2, Option.bind_some, c1, c2, hk, hj, if_pos (show (1 : Int32) < nI 12 by decide), if_pos (show (10 : Int32) ≤ nI 12 by decide), if_pos (show (1 : Int32) ≤ nI (t + 1) from nI_le (a := 1) (b := t + 1) (by omega) (by omega)), if_neg (show ¬ nI 12 = 10 by decide), nI_pred, inb_nI (show t < 64 by omega) (by omega), Option.bind_some, if_pos (show nI 12 = 12 from rfl), a3]
    show (∀ v, Option.map b2i (if x = true then some true else τ w) = some v → _) ∧ (Option.map b2i (if x = true then some true else τ w) = none → _)
    by_cases cx : x = true
    · rw [if_pos cx]
      refine ⟨fun v hv => ?_, fun hv => (by cases hv)⟩
      have hv : b2i true = v := Option.some.inj hv
      refine ⟨ha, 1 + na, by omega, fun F => ?_, by rw [a3, cx]; exact hv, a4, a5⟩
      rw [← Nat.add_assoc, a2]
      refine lp_1 (ej.trans ?_) F
      unfold j_X2_workOut_247_42
      rw [cx, if_pos (by decide)]
      unfold f_J9_max_7cf53
      rw [show ((1 : Int32)) = nI 1 from rfl, pk_sub (show 1 ≤ e by omega)]
      by_cases c3 : m < e - 1
      · rw [if_pos (nI_lt c3 (by omega)), Option.bind_some, nI_add, Nat.sub_add_cancel (by omega)]
      · rw [if_neg (nI_nlt (by omega) (by omega)), Option.bind_some, nI_add, show m + 1 = e by omega]
    · rw [if_neg cx]
      have ej2 : j_X2_workOut_247_42 a (nI to) (nI (t + 1)) (nI m) (nI e) (b2i x) 1 ha = some (.inl (nI t, nI (m + 1), ha)) := by
        unfold j_X2_workOut_247_42
        rw [if_neg (by cases x <;> revert cx <;> decide), pk_m1, nI_1]
      have g2 := h2 ha a to t w (MX_fr hx2 a5) ht
      dsimp only at g2
      refine ⟨fun v hv => ?_, fun hv => ?_⟩
      · obtain ⟨hb, nb, b1, b2, b3, b4, b5⟩ := g2.1 v hv
        refine ⟨hb, (nb + 1) + na, by omega, fun F => ?_, b3, fun j hj => by rw [b4 j hj, a4 j hj], Fr_tr a5 b5⟩
        rw [← Nat.add_assoc, a2, ← Nat.add_assoc, lp_1 (ej.trans ej2), b2]
      · obtain ⟨hb, nb, b1, b2, b3⟩ := g2.2 hv
        refine ⟨hb, (nb + 1) + na, by omega, fun F => ?_, Fr_tr a5 b3⟩
        rw [← Nat.add_assoc, a2, ← Nat.add_assoc, lp_1 (ej.trans ej2), b2]
/-- and: what stands behind is skipped, if it can't matter -/
theorem MT_and {ok : Nat → Prop} {c : Nat → Int32} {s m e B : Nat} {σ τ : Env → Option Bool} (hB : B < 60) (h1 : MT ok c s m B σ) (h2 : MT ok c (m + 1) e B τ) (hs : s ≤ m) (hm : m + 1 ≤ e) (hk : c (2 * m) = nI 11) (hj : c (2 * m + 1) = nI e) : MT ok c s e B (fun w => (σ w).bind fun x => if x = false then some false else τ w) := by
  refine ⟨?_, NB_map _ _⟩
  replace h1 := h1.1
  replace h2 := h2.1
  intro h a to t w hx ht
  have hx1 := MX_sub hx (Nat.le_refl s) (show m ≤ e by omega)
  have hx2 := MX_sub hx (show s ≤ m + 1 by omega) (Nat.le_refl e)
  dsimp only
  have g := h1 h a to t w hx1 ht
  dsimp only at g
  cases e1 : σ w with
  | none =>
    rw [e1] at g
    refine ⟨fun v hv => (by cases hv), fun _ => ?_⟩
    obtain ⟨h', n, n1, n2, n3⟩ := g.2 rfl
    exact ⟨h', n, by omega, n2, n3⟩
  | some x =>
    rw [e1] at g
    obtain ⟨ha, na, a1, a2, a3, a4, a5⟩ := g.1 (b2i x) rfl
    have hxb := MX_fr hx a5
    obtain ⟨i1, i2, c1, c2, i3⟩ := MX_at hxb hs (show m < e by omega)
    obtain ⟨m1, m2, m3, m4, m5, m6, m7, m8⟩ := hxb
    have ej : b_X2_workOut_42 a (nI to) (nI (t + 1)) (nI m) ha = j_X2_workOut_247_42 a (nI to) (nI (t + 1)) (nI m) (nI e) (b2i x) 0 ha := by
      unfold b_X2_workOut_42
      rw [if_neg (nI_ge i3 (by omega)), if_pos m2, i1, Option.bind_some, i2, Option.bind_some, c1, c2, hk, hj, if_pos (show (1 : Int32) < nI 11 by decide), if_pos (show (10 : Int32) ≤ nI 11 by decide), if_pos (show (1 : Int32) ≤ nI (t + 1) from nI_le (a := 1) (b := t + 1) (by omega) (by omega)), if_neg (show ¬ nI 11 = 10 by decide), nI_pred, inb_nI (show t < 64 by omega) (by omega), Option.bind_some, if_neg (show ¬ nI 11 = 12 by decide), a3]
    show (∀ v, Option.map b2i (if x = false then some false else τ w) = some v → _) ∧ (Option.map b2i (if x = false then some false else τ w) = none → _)
    by_cases cx : x = false
    · rw [if_pos cx]
      refine ⟨fun v hv => ?_, fun hv => (by cases hv)⟩
      have hv : b2i false = v := Option.some.inj hv
      refine ⟨ha, 1 + na, by omega, fun F => ?_, by rw [a3, cx]; exact hv, a4, a5⟩
      rw [← Nat.add_assoc, a2]
      refine lp_1 (ej.trans ?_) F
      unfold j_X2_workOut_247_42
      rw [cx, if_pos (by decide)]
      unfold f_J9_max_7cf53
      rw [show ((1 : Int32)) = nI 1 from rfl, pk_sub (show 1 ≤ e by omega)]
      by_cases c3 : m < e - 1
      · rw [if_pos (nI_lt c3 (by omega)), Option.bind_some, nI_add, Nat.sub_add_cancel (by omega)]
      · rw [if_neg (nI_nlt (by omega) (by omega)), Option.bind_some, nI_add, show m + 1 = e by omega]
    · rw [if_neg cx]
      have ej2 : j_X2_workOut_247_42 a (nI to) (nI (t + 1)) (nI m) (nI e) (b2i x) 0 ha = some (.inl (nI t, nI (m + 1), ha)) := by
        unfold j_X2_workOut_247_42
        rw [if_neg (by cases x <;> revert cx <;> decide), pk_m1, nI_1]
      have g2 := h2 ha a to t w (MX_fr hx2 a5) ht
      dsimp only at g2
      refine ⟨fun v hv => ?_, fun hv => ?_⟩
      · obtain ⟨hb, nb, b1, b2, b3, b4, b5⟩ := g2.1 v hv
        refine ⟨hb, (nb + 1) + na, by omega, fun F => ?_, b3, fun j hj => by rw [b4 j hj, a4 j hj], Fr_tr a5 b5⟩
        rw [← Nat.add_assoc, a2, ← Nat.add_assoc, lp_1 (ej.trans ej2), b2]
      · obtain ⟨hb, nb, b1, b2, b3⟩ := g2.2 hv
        refine ⟨hb, (nb + 1) + na, by omega, fun F => ?_, Fr_tr a5 b3⟩
        rw [← Nat.add_assoc, a2, ← Nat.add_assoc, lp_1 (ej.trans ej2), b2]
/-- a comparison -/
theorem MT_cmp {ok : Nat → Prop} {c : Nat → Int32} {s e B : Nat} {σ : Env → Option Int32} {τ : Env → Option Bool} (h : MC ok c s e B σ) (he : ∀ w, σ w = (τ w).map b2i) : MT ok c s e B τ := by
  have : σ = fun w => (τ w).map b2i := funext he
  unfold MT
  rw [← this]
  exact h
/-- the code may be another one beyond the piece -/
theorem MC_code {ok : Nat → Prop} {c c' : Nat → Int32} {s e B : Nat} {σ : Env → Option Int32} (h : MC ok c s e B σ) (hc : ∀ j, 2 * s ≤ j → j < 2 * e → c' j = c j) : MC ok c' s e B σ := by
  refine ⟨fun g a to t w hx ht => ?_, h.2⟩
  obtain ⟨m1, m2, m3, m4, m5, m6, m7, m8⟩ := hx
  exact h.1 g a to t w ⟨m1, m2, m3, m4, fun j h1 h2 => (m5 j h1 h2).trans (hc j h1 h2), m6, m7, m8⟩ ht
theorem MC_B {ok : Nat → Prop} {c : Nat → Int32} {s e B B' : Nat} {σ : Env → Option Int32} (h : MC ok c s e B σ) (hb : B' ≤ B) : MC ok c s e B' σ := ⟨fun g a to t w hx ht => h.1 g a to t w hx (by omega), h.2⟩
