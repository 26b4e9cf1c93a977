/-! ===== loops by an invariant ===== -/
theorem lp_go {σ ε : Type} {b : σ → Option (σ ⊕ ε)} (P : Nat → σ → Prop) (Q : ε → Prop) (n : Nat) (hs : ∀ i s, i < n → P i s → (∃ s', b s = some (.inl s') ∧ P (i + 1) s') ∨ (∃ e, b s = some (.inr e) ∧ Q e)) (he : ∀ s, P n s → ∃ e, b s = some (.inr e) ∧ Q e) : ∀ (m i f : Nat) (s : σ), i + m = n → m < f → P i s → ∃ e, lp b f s = some e ∧ Q e
  | 0, i, f, s, hi, hf, hp => by
    obtain ⟨f', rfl⟩ : ∃ f', f = f' + 1 := ⟨f - 1, by omega⟩
    have h0 : i = n := by omega
    subst h0
    obtain ⟨e, h1, h2⟩ := he s hp
    exact ⟨e, by unfold lp; rw [h1], h2⟩
  | m + 1, i, f, s, hi, hf, hp => by
    obtain ⟨f', rfl⟩ : ∃ f', f = f' + 1 := ⟨f - 1, by omega⟩
    rcases hs i s (by omega) hp with ⟨s', h1, h2⟩ | ⟨e, h1, h2⟩
    · obtain ⟨e, h3, h4⟩ := lp_go P Q n hs he m (i + 1) f' s' (by omega) (by omega) h2
      exact ⟨e, by unfold lp; rw [h1]; exact h3, h4⟩
    · exact ⟨e, by unfold lp; rw [h1], h2⟩
/-- n steps, or an earlier end -/
theorem lp_inv {σ ε : Type} {b : σ → Option (σ ⊕ ε)} (P : Nat → σ → Prop) (Q : ε → Prop) (n : Nat) (s0 : σ) (hn : n < 20000) (h0 : P 0 s0) (hs : ∀ i s, i < n → P i s → (∃ s', b s = some (.inl s') ∧ P (i + 1) s') ∨ (∃ e, b s = some (.inr e) ∧ Q e)) (he : ∀ s, P n s → ∃ e, b s = some (.inr e) ∧ Q e) : ∃ e, lp b FU s0 = some e ∧ Q e :=
  lp_go P Q n hs he n 0 FU s0 (by omega) (by show n < 20000; exact hn) h0
/-! ===== frames ===== -/
def Fr (A : Nat → Prop) (F : Nat → Nat → Prop) (h h' : Hp) : Prop := (∀ a k, ¬ F a k → fI h' a k = fI h a k) ∧ (∀ a, ¬ A a → aI h' a = aI h a) ∧ (∀ a, ¬ A a → aL h' a = aL h a) ∧ (∀ a, aO h' a = aO h a) ∧ (∀ a, ln h' a = ln h a) ∧ sz h' = sz h
def noF : Nat → Nat → Prop := fun _ _ => False
def noA : Nat → Prop := fun _ => False
section FRM
variable {A A' : Nat → Prop} {F F' : Nat → Nat → Prop} {h h' h'' : Hp}
theorem Fr_rfl : Fr A F h h := ⟨fun _ _ _ => rfl, fun _ _ => rfl, fun _ _ => rfl, fun _ => rfl, fun _ => rfl, rfl⟩
theorem Fr_tr (h1 : Fr A F h h') (h2 : Fr A F h' h'') : Fr A F h h'' :=
  ⟨fun a k c => (h2.1 a k c).trans (h1.1 a k c), fun a c => (h2.2.1 a c).trans (h1.2.1 a c), fun a c => (h2.2.2.1 a c).trans (h1.2.2.1 a c), fun a => (h2.2.2.2.1 a).trans (h1.2.2.2.1 a), fun a => (h2.2.2.2.2.1 a).trans (h1.2.2.2.2.1 a), h2.2.2.2.2.2.trans h1.2.2.2.2.2⟩
theorem Fr_mono (h1 : Fr A F h h') (hA : ∀ a, A a → A' a) (hF : ∀ a k, F a k → F' a k) : Fr A' F' h h' :=
  ⟨fun a k c => h1.1 a k (fun d => c (hF a k d)), fun a c => h1.2.1 a (fun d => c (hA a d)), fun a c => h1.2.2.1 a (fun d => c (hA a d)), h1.2.2.2.1, h1.2.2.2.2.1, h1.2.2.2.2.2⟩
theorem Fr_sA {a k : Nat} {x : Int32} (ha : A a) : Fr A F h (sA h a k x) :=
  ⟨fun _ _ _ => rfl, fun b c => ps_aAn h a b k x (fun e => c (e ▸ ha)), fun _ _ => rfl, fun _ => rfl, fun _ => rfl, rfl⟩
theorem Fr_sF {a k : Nat} {x : Int32} (ha : F a k) : Fr A F h (sF h a k x) := by
  refine ⟨fun b j c => ?_, fun _ _ => rfl, fun _ _ => rfl, fun _ => rfl, fun _ => rfl, rfl⟩
  rw [ps_fF]
  by_cases e : b = a
  · rw [if_pos e]
    by_cases e2 : j = k
    · exact absurd (by rw [e, e2]; exact ha) c
    · rw [if_neg e2]
  · rw [if_neg e]
theorem Fr_sL {a k : Nat} {x : Int64} (ha : A a) : Fr A F h (sL h a k x) := by
  refine ⟨fun _ _ _ => rfl, fun _ _ => rfl, fun b c => ?_, fun _ => rfl, fun _ => rfl, rfl⟩
  funext j
  have hb : ¬ b = a := fun e => c (e ▸ ha)
  show (if b = a then _ else aL h b j) = _
  rw [if_neg hb]
theorem Fr_cp {s p d q n : Nat} (ha : A d) : Fr A F h (cpA h s p d q n) :=
  ⟨fun _ _ _ => rfl, fun b c => ps_aCn h b s p d q n (fun e => c (e ▸ ha)), fun _ _ => rfl, fun _ => rfl, fun _ => rfl, rfl⟩
theorem Fr_tA {a k : Nat} {x : Int32} (h1 : Fr A F h h') (ha : A a) : Fr A F h (sA h' a k x) := Fr_tr h1 (Fr_sA ha)
theorem Fr_tF {a k : Nat} {x : Int32} (h1 : Fr A F h h') (ha : F a k) : Fr A F h (sF h' a k x) := Fr_tr h1 (Fr_sF ha)
end FRM
theorem aI_s {h : Hp} {a k : Nat} {x : Int32} : aI (sA h a k x) a k = x := by rw [ps_aAs, pk_us]
theorem aI_n {h : Hp} {a k j : Nat} {x : Int32} (e : j ≠ k) : aI (sA h a k x) a j = aI h a j := by rw [ps_aAs, pk_un e]
theorem fI_s {h : Hp} {a k : Nat} {x : Int32} : fI (sF h a k x) a k = x := by rw [ps_fF, if_pos rfl, if_pos rfl]
theorem fI_n {h : Hp} {a k b j : Nat} {x : Int32} (e : ¬ (b = a ∧ j = k)) : fI (sF h a k x) b j = fI h b j := by
  rw [ps_fF]
  by_cases e1 : b = a
  · rw [if_pos e1, if_neg (fun e2 => e ⟨e1, e2⟩)]
  · rw [if_neg e1]
/-! ===== small members ===== -/
theorem fill_ok {a n : Nat} {x : Int32} {h : Hp} (hn : n < 20000) : ∃ h', f_J7_fill_53178 a n x h = some ((), h') ∧ (∀ i, i < n → aI h' a i = x) ∧ Fr (fun b => b = a) noF h h' := by
  unfold f_J7_fill_53178
  have key := lp_inv (b := fun s : Int32 × Hp => b_J7_fill_53178_5 a n x (Int32.ofNat n) s.1 s.2) (fun i s => s.1 = nI i ∧ (∀ j, j < i → aI s.2 a j = x) ∧ Fr (fun b => b = a) noF h s.2) (fun e => (∀ j, j < n → aI e a j = x) ∧ Fr (fun b => b = a) noF h e) n ((0 : Int32), h) hn ⟨rfl, fun j hj => absurd hj (Nat.not_lt_zero _), Fr_rfl⟩ ?_ ?_
  · obtain ⟨e, h1, h2, h3⟩ := key
    rw [h1]
    exact ⟨e, rfl, h2, h3⟩
  · rintro i ⟨s1, s2⟩ hi ⟨q1, q2, q3⟩
    dsimp only at q1 q2 q3
    subst q1
    left
    refine ⟨(nI (i + 1), sA s2 a i x), ?_, rfl, fun j hj => ?_, Fr_tA q3 rfl⟩
    · show b_J7_fill_53178_5 a n x (nI n) (nI i) s2 = _
      unfold b_J7_fill_53178_5
      rw [if_neg (nI_ge hi (by omega)), inb_nI hi (by omega), nI_1]
      rfl
    · show aI (sA s2 a i x) a j = x
      by_cases e : j = i
      · rw [e, aI_s]
      · rw [aI_n e]; exact q2 j (by omega)
  · rintro ⟨s1, s2⟩ ⟨q1, q2, q3⟩
    dsimp only at q1 q2 q3
    subst q1
    refine ⟨s2, ?_, q2, q3⟩
    show b_J7_fill_53178_5 a n x (nI n) (nI n) s2 = _
    unfold b_J7_fill_53178_5
    rw [if_pos (Int32.le_refl _)]
def mnI (a b : Int32) : Int32 := if b < a then b else a
theorem j_min (a b : Int32) : f_J9_min_7cf53 a b = some (mnI a b) := by
  unfold f_J9_min_7cf53 mnI
  split <;> rfl
theorem m_lesser (a b : Int32) : f_X11_lesser a b = some (mnI a b) := by
  unfold f_X11_lesser mnI
  by_cases c : b < a
  · rw [if_pos c, if_pos (Int32.le_of_lt c)]
  · rw [if_neg c]
    by_cases c2 : b ≤ a
    · rw [if_pos c2]
      have : b = a := by
        rw [Int32.lt_iff_toInt_lt] at c
        rw [Int32.le_iff_toInt_le] at c2
        exact Int32.toInt_inj.mp (by omega)
      rw [this]
    · rw [if_neg c2]
theorem mnI_n (a b : Nat) (ha : a < 2 ^ 31) (hb : b < 2 ^ 31) : mnI (nI a) (nI b) = nI (min a b) := by
  unfold mnI
  by_cases c : b < a
  · rw [if_pos (nI_lt c ha), Nat.min_eq_right (by omega)]
  · rw [if_neg (nI_nlt (by omega) hb), Nat.min_eq_left (by omega)]
theorem sub_n {a b : Nat} (h : b ≤ a) : nI a - nI b = nI (a - b) := pk_sub h
