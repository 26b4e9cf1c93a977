/-! ===== the class's next order; rows in bits ===== -/
theorem lp_sim {σ ε σ' ε' : Type} {b : σ → Option (σ ⊕ ε)} {b' : σ' → Option (σ' ⊕ ε')} (R : σ → σ' → Prop) (Q : ε → ε' → Prop) (hs : ∀ s t, R s t → (∃ s' t', b s = some (.inl s') ∧ b' t = some (.inl t') ∧ R s' t') ∨ (∃ e f, b s = some (.inr e) ∧ b' t = some (.inr f) ∧ Q e f)) : ∀ (F : Nat) (s : σ) (t : σ') (f : ε'), R s t → lp b' F t = some f → ∃ e, lp b F s = some e ∧ Q e f
  | 0, s, t, f, _, h => by cases h
  | F + 1, s, t, f, hr, h => by
    rcases hs s t hr with ⟨s', t', h1, h2, h3⟩ | ⟨e, f', h1, h2, h3⟩
    · rw [lp_1 h2] at h
      obtain ⟨e, g1, g2⟩ := lp_sim R Q hs F s' t' f h3 h
      exact ⟨e, by rw [lp_1 h1]; exact g1, g2⟩
    · rw [lp_e h2] at h
      cases h
      exact ⟨e, lp_e h1 F, h3⟩
def RH (m : Nat) (v : Nat → Nat) (h hp : Hp) : Prop := fI h 68 9 = nI m ∧ fI hp 68 9 = nI m ∧ ∀ i, i < m → ∃ t, t < m ∧ aI hp 79 i = nI t ∧ aI h 79 i = nI (v t)
section NXT
variable {m : Nat} {v : Nat → Nat}
theorem RH_le (hm : m ≤ 6) (hv : ∀ t, t < m → v t < 9) (hmo : ∀ a b, a < b → b < m → v a < v b) {h hp : Hp} (hr : RH m v h hp) {i j : Nat} (hi : i < m) (hj : j < m) : (aI h 79 i ≤ aI h 79 j) = (aI hp 79 i ≤ aI hp 79 j) := by
  obtain ⟨t, t1, t2, t3⟩ := hr.2.2 i hi
  obtain ⟨u, u1, u2, u3⟩ := hr.2.2 j hj
  have a1 := hv t t1
  have a2 := hv u u1
  rw [t2, t3, u2, u3, nI_le6 (by omega) (by omega), nI_le6 (by omega) (by omega)]
  refine propext ⟨fun c => ?_, fun c => ?_⟩
  · rcases Nat.lt_or_ge u t with d | d
    · have := hmo u t d t1; omega
    · exact d
  · rcases Nat.lt_trichotomy t u with d | d | d
    · have := hmo t u d u1; omega
    · rw [d]; exact Nat.le_refl _
    · omega
theorem c_exch {h hp : Hp} (hm : m ≤ 6) (hr : RH m v h hp) {i j : Nat} (hi : i < m) (hj : j < m) : ∃ h1 hp1, f_X7_exchangePlaces (nI i) (nI j) h = some ((), h1) ∧ f_X7_exchangePlaces (nI i) (nI j) hp = some ((), hp1) ∧ RH m v h1 hp1 ∧ Fr (fun a => a = 79) noF h h1 := by
  have ev : ∀ x : Hp, f_X7_exchangePlaces (nI i) (nI j) x = some ((), sA (sA x 79 i (aI x 79 j)) 79 j (aI x 79 i)) := by
    intro x
    unfold f_X7_exchangePlaces
    rw [inb_nI (show i < 6 by omega) (by omega), Option.bind_some, inb_nI (show j < 6 by omega) (by omega), Option.bind_some, Option.bind_some, Option.bind_some]
  refine ⟨_, _, ev h, ev hp, ⟨hr.1, hr.2.1, fun x hx => ?_⟩, Fr_tA (Fr_sA rfl) rfl⟩
  by_cases c1 : x = j
  · rw [c1, aI_s, aI_s]; exact hr.2.2 i hi
  · rw [aI_n c1, aI_n c1]
    by_cases c2 : x = i
    · rw [c2, aI_s, aI_s]; exact hr.2.2 j hj
    · rw [aI_n c2, aI_n c2]; exact hr.2.2 x hx
theorem c_next {h hp : Hp} (hm : m ≤ 6) (hv : ∀ t, t < m → v t < 9) (hmo : ∀ a b, a < b → b < m → v a < v b) (hr : RH m v h hp) {b : Bool} {hp' : Hp} (e : f_X7_toNextOrder hp = some (b, hp')) : ∃ h1, f_X7_toNextOrder h = some (b, h1) ∧ RH m v h1 hp' ∧ Fr (fun a => a = 79) noF h h1 := by
  have m1 : ((-1 : Int32)) < 0 := by decide
  unfold f_X7_toNextOrder at e ⊢
  rw [hr.2.1] at e
  rw [hr.1]
  have st0 : (nI m - 2 < 0 ∨ ∃ i, i + 1 < m ∧ nI m - 2 = nI i) := by
    rcases (show m = 0 ∨ m = 1 ∨ 2 ≤ m by omega) with c | c | c
    · rw [c]; exact Or.inl (by decide)
    · rw [c]; exact Or.inl (by decide)
    · exact Or.inr ⟨m - 2, by omega, show nI m - nI 2 = _ from pk_sub c⟩
  obtain ⟨f7, g1, g2⟩ := bd e
  obtain ⟨e7, k1, k2, k3⟩ := lp_sim (b := fun s => b_X7_toNextOrder_7 s h) (b' := fun s => b_X7_toNextOrder_7 s hp) (fun s t => s = t ∧ (s < 0 ∨ ∃ i, i + 1 < m ∧ s = nI i)) (fun e f => e = f ∧ (e < 0 ∨ ∃ i, i + 1 < m ∧ e = nI i)) (by
    rintro s t ⟨q1, q2⟩
    subst q1
    unfold b_X7_toNextOrder_7
    by_cases c : s < 0
    · rw [if_pos c, if_pos c]
      exact Or.inr ⟨s, s, rfl, rfl, rfl, Or.inl c⟩
    · obtain ⟨i, i1, i2⟩ := q2.resolve_left c
      subst i2
      rw [if_neg c, if_neg c, inb_nI (show i < 6 by omega) (by omega), Option.bind_some, nI_1, inb_nI (show i + 1 < 6 by omega) (by omega), Option.bind_some, Option.bind_some, Option.bind_some]
      have le := RH_le hm hv hmo hr (show i < m by omega) i1
      by_cases d : aI hp 79 i ≤ aI hp 79 (i + 1)
      · rw [if_pos (Eq.mpr le d), if_pos d]
        exact Or.inr ⟨nI i, nI i, rfl, rfl, rfl, Or.inr ⟨i, i1, rfl⟩⟩
      · rw [if_neg (fun x => d (Eq.mp le x)), if_neg d]
        refine Or.inl ⟨_, _, rfl, rfl, rfl, ?_⟩
        by_cases z : i = 0
        · rw [z]; exact Or.inl (by decide)
        · obtain ⟨i', rfl⟩ : ∃ i', i = i' + 1 := ⟨i - 1, by omega⟩
          exact Or.inr ⟨i', by omega, pk_m1 i'⟩) FU _ _ f7 ⟨rfl, st0⟩ g1
  subst k2
  rw [k1, Option.bind_some]
  unfold j_X7_toNextOrder_34 at g2 ⊢
  by_cases c0 : 0 ≤ e7
  · rw [if_pos c0] at g2 ⊢
    obtain ⟨i, i1, i2⟩ := k3.resolve_left (fun d => i32_nle.mpr d c0)
    subst i2
    rw [hr.2.1] at g2
    rw [hr.1]
    have em : nI m - 1 = nI (m - 1) := show nI m - nI 1 = _ from pk_sub (by omega)
    rw [em] at g2 ⊢
    obtain ⟨f16, y1, y2⟩ := bd g2
    obtain ⟨e16, z1, z2, j, z3, z4, z5⟩ := lp_sim (b := fun s => b_X7_toNextOrder_47 (nI i) s h) (b' := fun s => b_X7_toNextOrder_47 (nI i) s hp) (fun s t => s = t ∧ ∃ j, i ≤ j ∧ j < m ∧ s = nI j) (fun e f => e = f ∧ ∃ j, i ≤ j ∧ j < m ∧ e = nI j) (by
      rintro s t ⟨q1, j, j1, j2, j3⟩
      subst q1
      subst j3
      unfold b_X7_toNextOrder_47
      by_cases c : nI j ≤ nI i
      · rw [if_pos c, if_pos c]
        exact Or.inr ⟨nI j, nI j, rfl, rfl, rfl, j, j1, j2, rfl⟩
      · rw [if_neg c, if_neg c, inb_nI (show j < 6 by omega) (by omega), Option.bind_some, inb_nI (show i < 6 by omega) (by omega), Option.bind_some, Option.bind_some, Option.bind_some]
        have le := RH_le hm hv hmo hr (show i < m by omega) j2
        rw [nI_le6 (by omega) (by omega)] at c
        by_cases d : aI hp 79 i ≤ aI hp 79 j
        · rw [if_pos (Eq.mpr le d), if_pos d]
          exact Or.inr ⟨nI j, nI j, rfl, rfl, rfl, j, j1, j2, rfl⟩
        · rw [if_neg (fun x => d (Eq.mp le x)), if_neg d]
          obtain ⟨j', rfl⟩ : ∃ j', j = j' + 1 := ⟨j - 1, by omega⟩
          exact Or.inl ⟨_, _, rfl, rfl, rfl, j', by omega, by omega, pk_m1 j'⟩) FU _ _ f16 ⟨rfl, m - 1, by omega, by omega, rfl⟩ y1
    subst z2
    subst z5
    rw [z1, Option.bind_some]
    unfold j_X7_toNextOrder_73 at y2 ⊢
    obtain ⟨h1, hp1, w1, w2, w3, w4⟩ := c_exch hm hr (show i < m by omega) z4
    rw [w2, Option.bind_some] at y2
    rw [w1, Option.bind_some]
    have y2' : (lp (fun s => b_X7_toNextOrder_91 s.1 s.2.1 s.2.2) FU (nI i + 1, fI hp1 68 9 - 1, hp1)).bind (fun e23 => some (true, e23)) = some (b, hp') := y2
    show ∃ h1', (lp (fun s => b_X7_toNextOrder_91 s.1 s.2.1 s.2.2) FU (nI i + 1, fI h1 68 9 - 1, h1)).bind (fun e23 => some (true, e23)) = some (b, h1') ∧ _
    rw [w3.2.1, em, nI_1] at y2'
    rw [w3.1, em, nI_1]
    obtain ⟨f23, x1, x2⟩ := bd y2'
    obtain ⟨e23, v1, v2, v3⟩ := lp_sim (b := fun s : Int32 × Int32 × Hp => b_X7_toNextOrder_91 s.1 s.2.1 s.2.2) (b' := fun s : Int32 × Int32 × Hp => b_X7_toNextOrder_91 s.1 s.2.1 s.2.2) (fun s t => ∃ a c, a ≤ m ∧ c < m ∧ s.1 = nI a ∧ t.1 = nI a ∧ s.2.1 = nI c ∧ t.2.1 = nI c ∧ RH m v s.2.2 t.2.2 ∧ Fr (fun a => a = 79) noF h s.2.2) (fun e f => RH m v e f ∧ Fr (fun a => a = 79) noF h e) (by
      rintro ⟨s1, s2, s3⟩ ⟨t1, t2, t3⟩ ⟨a, c, q1, q2, q3, q4, q5, q6, q7, q8⟩
      dsimp only at q3 q4 q5 q6 q7 q8
      subst q3
      subst q4
      subst q5
      subst q6
      show (∃ s' t', b_X7_toNextOrder_91 (nI a) (nI c) s3 = some (.inl s') ∧ b_X7_toNextOrder_91 (nI a) (nI c) t3 = some (.inl t') ∧ _) ∨ (∃ e f, b_X7_toNextOrder_91 (nI a) (nI c) s3 = some (.inr e) ∧ b_X7_toNextOrder_91 (nI a) (nI c) t3 = some (.inr f) ∧ _)
      unfold b_X7_toNextOrder_91
      by_cases d : nI c ≤ nI a
      · rw [if_pos d, if_pos d]
        exact Or.inr ⟨s3, t3, rfl, rfl, q7, q8⟩
      · rw [if_neg d, if_neg d]
        rw [nI_le6 (by omega) (by omega)] at d
        obtain ⟨s4, t4, r1, r2, r3, r4⟩ := c_exch hm q7 (show a < m by omega) q2
        rw [r1, r2, Option.bind_some, Option.bind_some, nI_1]
        obtain ⟨c', rfl⟩ : ∃ c', c = c' + 1 := ⟨c - 1, by omega⟩
        rw [pk_m1]
        exact Or.inl ⟨_, _, rfl, rfl, a + 1, c', by omega, by omega, rfl, rfl, rfl, rfl, r3, Fr_tr q8 r4⟩) FU (nI (i + 1), nI (m - 1), h1) _ f23 ⟨i + 1, m - 1, by omega, by omega, rfl, rfl, rfl, rfl, w3, w4⟩ x1
    rw [v1, Option.bind_some]
    have ex : (true, f23) = (b, hp') := Option.some.inj x2
    have eb : true = b := congrArg Prod.fst ex
    have eh : f23 = hp' := congrArg Prod.snd ex
    subst eb
    subst eh
    exact ⟨e23, rfl, v2, v3⟩
  · rw [if_neg c0] at g2 ⊢
    have ex : (false, hp) = (b, hp') := Option.some.inj g2
    have eb : false = b := congrArg Prod.fst ex
    have eh : hp = hp' := congrArg Prod.snd ex
    subst eb
    subst eh
    exact ⟨h, rfl, hr, Fr_rfl⟩
end NXT
/-- from the q-th order to the next -/
theorem c_nextq {m q : Nat} {v : Nat → Nat} {h : Hp} (hm : m ≤ 6) (hq : q < fct m) (hv : ∀ t, t < m → v t < 9) (hmo : ∀ a b, a < b → b < m → v a < v b) (e9 : fI h 68 9 = nI m) (e79 : ∀ i, i < m → aI h 79 i = nI (v (dec m q i))) : ∃ h1, f_X7_toNextOrder h = some (decide (q + 1 < fct m), h1) ∧ (q + 1 < fct m → ∀ i, i < m → aI h1 79 i = nI (v (dec m (q + 1) i))) ∧ Fr (fun a => a = 79) noF h h1 := by
  have ok := nx_all m hm q hq
  unfold nxOK at ok
  cases hx : f_X7_toNextOrder (hP m q) with
  | none => rw [hx] at ok; cases ok
  | some w =>
    obtain ⟨b, h'⟩ := w
    rw [hx] at ok
    simp only [Bool.and_eq_true, beq_iff_eq, Bool.or_eq_true, Bool.not_eq_true', decide_eq_false_iff_not, List.all_eq_true, List.mem_range] at ok
    obtain ⟨o1, o2⟩ := ok
    have r0 : RH m v h (hP m q) := ⟨e9, rfl, fun i hi => ⟨dec m q i, dec_lt m hm q hq i hi, rfl, e79 i hi⟩⟩
    obtain ⟨h1, k1, k2, k3⟩ := c_next hm hv hmo r0 hx
    refine ⟨h1, by rw [k1, o1], fun hq1 i hi => ?_, k3⟩
    obtain ⟨t, t1, t2, t3⟩ := k2.2.2 i hi
    have := (o2.resolve_left (fun c => c hq1)) i hi
    rw [t2] at this
    have dl := dec_lt m hm (q + 1) hq1 i hi
    have : t = dec m (q + 1) i := (nI_eq (by omega) (by omega)).mp this
    rw [t3, this]
/-! bits -/
theorem nI_or {a b k : Nat} (hk : k ≤ 31) (ha : a < 2 ^ k) (hb : b * 2 ^ k < 2 ^ 31) : nI a ||| nI (b * 2 ^ k) = nI (a + b * 2 ^ k) := by
  have hs : a + b * 2 ^ k < 2 ^ 32 := by
    by_cases c : b = 0
    · rw [c, Nat.zero_mul] at hb ⊢
      have : 2 ^ k ≤ 2 ^ 31 := Nat.pow_le_pow_right (by omega) hk
      omega
    · have : 2 ^ k ≤ b * 2 ^ k := Nat.le_mul_of_pos_left _ (by omega)
      omega
  have h1 : a < 2 ^ 32 := by omega
  apply Int32.toBitVec_inj.mp
  apply BitVec.eq_of_toNat_eq
  rw [Int32.toBitVec_or, BitVec.toNat_or, pk_tn h1, pk_tn (by omega), pk_tn hs, Nat.or_comm, Nat.mul_comm b, ← Nat.two_pow_add_eq_or_of_lt ha, Nat.add_comm]
theorem nI_xor {a b : Nat} (ha : a < 2 ^ 31) (hb : b < 2 ^ 31) : nI a ^^^ nI b = nI (a ^^^ b) := by
  have hx : a ^^^ b < 2 ^ 31 := Nat.xor_lt_two_pow ha hb
  apply Int32.toBitVec_inj.mp
  apply BitVec.eq_of_toNat_eq
  rw [Int32.toBitVec_xor, BitVec.toNat_xor, pk_tn (by omega), pk_tn (by omega), pk_tn (by omega)]
theorem p16 (p : Nat) : 2 ^ (4 * p) = 16 ^ p := by rw [Nat.pow_mul]
theorem p4 (p : Nat) : 2 ^ (2 * p) = 4 ^ p := by rw [Nat.pow_mul]
theorem sh4 {p d : Nat} (hp : p < 6) (hd : d < 16) : nI d <<< ((4 : Int32) * nI p &&& 31) = nI (d * 2 ^ (4 * p)) := by
  rw [l4_, pk_mul]
  refine pk_shlN _ (4 * p) (s_l (4 * p) (by omega)) ?_
  have : 2 ^ (4 * p) ≤ 2 ^ 20 := Nat.pow_le_pow_right (by omega) (by omega)
  have : d * 2 ^ (4 * p) ≤ 15 * 2 ^ 20 := Nat.mul_le_mul (by omega) this
  omega
theorem sh2 {p d : Nat} (hp : p < 6) (hd : d < 4) : nI d <<< ((2 : Int32) * nI p &&& 31) = nI (d * 2 ^ (2 * p)) := by
  rw [l2_, pk_mul]
  refine pk_shlN _ (2 * p) (s_l (2 * p) (by omega)) ?_
  have : 2 ^ (2 * p) ≤ 2 ^ 10 := Nat.pow_le_pow_right (by omega) (by omega)
  have : d * 2 ^ (2 * p) ≤ 3 * 2 ^ 10 := Nat.mul_le_mul (by omega) this
  omega
theorem dg4 {x p : Nat} (hp : p < 6) (hx : x < 2 ^ 31) : (nI x >>> ((4 : Int32) * nI p &&& 31)) &&& 15 = nI (x / 16 ^ p % 16) := by
  rw [l4_, pk_mul, pk_shrN hx _ (4 * p) (s_l (4 * p) (by omega)), p16]
  exact pk_andN (m := 15) (by have := Nat.div_le_self x (16 ^ p); omega) 4 rfl
theorem dg2 {x p : Nat} (hp : p < 6) (hx : x < 2 ^ 31) : (nI x >>> ((2 : Int32) * nI p &&& 31)) &&& 3 = nI (x / 4 ^ p % 4) := by
  rw [l2_, pk_mul, pk_shrN hx _ (2 * p) (s_l (2 * p) (by omega)), p4]
  exact pk_andN (m := 3) (by have := Nat.div_le_self x (4 ^ p); omega) 2 rfl
