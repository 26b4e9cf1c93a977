/-! ===== Int32 by its bits: bti x i ===== -/
def bti (x : Int32) (i : Nat) : Bool := x.toBitVec.getLsbD i
theorem b_ext {x y : Int32} (h : ∀ i, i < 32 → bti x i = bti y i) : x = y := Int32.toBitVec_inj.mp (BitVec.eq_of_getLsbD_eq (fun i hi => h i hi))
theorem b_or (x y : Int32) (i : Nat) : bti (x ||| y) i = (bti x i || bti y i) := by unfold bti; rw [Int32.toBitVec_or, BitVec.getLsbD_or]
theorem b_and (x y : Int32) (i : Nat) : bti (x &&& y) i = (bti x i && bti y i) := by unfold bti; rw [Int32.toBitVec_and, BitVec.getLsbD_and]
theorem b_xor (x y : Int32) (i : Nat) : bti (x ^^^ y) i = (bti x i ^^ bti y i) := by unfold bti; rw [Int32.toBitVec_xor, BitVec.getLsbD_xor]
theorem b_big {x : Int32} {i : Nat} (h : 32 ≤ i) : bti x i = false := BitVec.getLsbD_of_ge _ _ h
theorem b_255 (i : Nat) : bti 255 i = decide (i < 8) := by
  rcases Nat.lt_or_ge i 32 with h | h
  · exact (by decide +kernel : ∀ i, i < 32 → bti 255 i = decide (i < 8)) i h
  · rw [b_big h, decide_eq_false (by omega)]
theorem b_65535 (i : Nat) : bti 65535 i = decide (i < 16) := by
  rcases Nat.lt_or_ge i 32 with h | h
  · exact (by decide +kernel : ∀ i, i < 32 → bti 65535 i = decide (i < 16)) i h
  · rw [b_big h, decide_eq_false (by omega)]
theorem b_m1 : ∀ i, i < 32 → bti (-1) i = true := by decide +kernel
theorem b_0 (i : Nat) : bti 0 i = false := BitVec.getLsbD_zero
theorem s_l : ∀ n, n < 32 → ((nI n &&& 31).toBitVec.smod 32).toNat = n := by decide +kernel
theorem s_u : ∀ n, n < 32 → (((nI n).toUInt32 &&& Int32.toUInt32 31).toBitVec % 32).toNat = n := by decide +kernel
theorem b_shl (n : Nat) (hn : n < 32) (x : Int32) {i : Nat} (hi : i < 32) : bti (x <<< (nI n &&& 31)) i = (decide (n ≤ i) && bti x (i - n)) := by
  unfold bti
  rw [Int32.toBitVec_shiftLeft]
  show (x.toBitVec <<< ((nI n &&& 31).toBitVec.smod 32).toNat).getLsbD i = _
  rw [s_l n hn, BitVec.getLsbD_shiftLeft]
  rcases Nat.lt_or_ge i n with h | h
  · simp [h, Nat.not_le.mpr h]
  · simp [hi, h, Nat.not_lt.mpr h]
theorem b_ushr (n : Nat) (hn : n < 32) (x : Int32) (i : Nat) : bti ((x.toUInt32 >>> ((nI n).toUInt32 &&& Int32.toUInt32 31)).toInt32) i = bti x (n + i) := by
  show (x.toUInt32 >>> ((nI n).toUInt32 &&& Int32.toUInt32 31)).toBitVec.getLsbD i = x.toUInt32.toBitVec.getLsbD (n + i)
  rw [UInt32.toBitVec_shiftRight]
  show (x.toUInt32.toBitVec >>> (((nI n).toUInt32 &&& Int32.toUInt32 31).toBitVec % 32).toNat).getLsbD i = _
  rw [s_u n hn, BitVec.getLsbD_ushiftRight]
theorem b_sshr (n : Nat) (hn : n < 32) (x : Int32) {i : Nat} (hi : i < 32) : bti (x >>> (nI n &&& 31)) i = if n + i < 32 then bti x (n + i) else bti x 31 := by
  unfold bti
  rw [Int32.toBitVec_shiftRight]
  show (x.toBitVec.sshiftRight ((nI n &&& 31).toBitVec.smod 32).toNat).getLsbD i = _
  rw [s_l n hn, BitVec.getLsbD_sshiftRight, BitVec.msb_eq_getLsbD_last]
  simp [hi]
theorem bt_1 : ∀ i, i < 32 → bti 1 i = decide (i = 0) := by decide +kernel
theorem and1 (x : Int32) : x &&& 1 = 1 ↔ bti x 0 = true := by
  constructor
  · intro e
    have : bti (x &&& 1) 0 = bti 1 0 := by rw [e]
    rw [b_and, bt_1 0 (by omega)] at this
    simpa using this
  · intro e
    apply b_ext
    intro i hi
    rw [b_and, bt_1 i hi]
    by_cases c : i = 0
    · subst c; rw [e]; rfl
    · rw [decide_eq_false c, Bool.and_false]
theorem bit_q (x : Int32) {q : Nat} (hq : q < 31) : (x >>> (nI q &&& 31)) &&& 1 = 1 ↔ bti x q = true := by
  rw [and1, b_sshr q (by omega) x (by omega), if_pos (by omega), Nat.add_zero]
theorem bit_1l {q : Nat} (hq : q < 32) {b : Nat} (hb : b < 32) : bti ((1 : Int32) <<< (nI q &&& 31)) b = decide (b = q) := by
  rw [b_shl q hq 1 hb]
  by_cases c : q ≤ b
  · rw [decide_eq_true c, bt_1 _ (by omega), Bool.true_and]
    by_cases d : b = q
    · rw [decide_eq_true d, decide_eq_true (by omega)]
    · rw [decide_eq_false d, decide_eq_false (by omega)]
  · rw [decide_eq_false c, decide_eq_false (by omega), Bool.false_and]
/-! ===== a text that was made ===== -/
/-- text a: n clauses, s steps of code c, marks mk -/
def TxI (h : Hp) (a n s : Nat) (c mk : Nat → Int32) : Prop := isTx a ∧ tg h a = true ∧ fI h a 2 = nI n ∧ ln h (a + 1) = 2 * s ∧ s ≤ 400 ∧ (∀ j, j < 2 * s → aI h (a + 1) j = c j) ∧ ln h (a + 2) = 6 * n ∧ n ≤ 12 ∧ (∀ j, j < 6 * n → aI h (a + 2) j = mk j) ∧ (∀ b, b < 32 → (bti (fI h a 3) b = true ↔ ∃ c', c' < n ∧ mk (6 * c') = nI b))
theorem TxI_same {h h' : Hp} {a n s : Nat} {c mk : Nat → Int32} (ht : TxI h a n s c mk) (hs : TxSame h h' a) : TxI h' a n s c mk := by
  obtain ⟨t1, t2, t3, t4, t5, t6, t7, t8, t9, t10⟩ := ht
  obtain ⟨s1, s2, s3, s4, s5, s6, s7⟩ := hs
  exact ⟨t1, s7, by rw [s1]; exact t3, by rw [s5]; exact t4, t5, by rw [s3]; exact t6, by rw [s6]; exact t7, t8, by rw [s4]; exact t9, by rw [s2]; exact t10⟩
theorem kb_loop {f : Nat → Int32} {n : Nat} (hn : n ≤ 12) (hf : ∀ c, c < n → ∃ q, q < 32 ∧ f (6 * c) = nI q) : ∃ kb, lp (tb_b f (6 * n)) FU ((0 : Int32), (0 : Int32)) = some kb ∧ ∀ b, b < 32 → (bti kb b = true ↔ ∃ c', c' < n ∧ f (6 * c') = nI b) := by
  refine lp_inv (b := tb_b f (6 * n)) (fun c s => s.2 = nI (6 * c) ∧ ∀ b, b < 32 → (bti s.1 b = true ↔ ∃ c', c' < c ∧ f (6 * c') = nI b)) (fun kb => ∀ b, b < 32 → (bti kb b = true ↔ ∃ c', c' < n ∧ f (6 * c') = nI b)) n _ (by omega) ⟨rfl, fun b hb => ?_⟩ ?_ ?_
  · rw [b_0]
    exact ⟨fun c => (by cases c), fun ⟨c', c1, _⟩ => absurd c1 (Nat.not_lt_zero _)⟩
  · rintro c ⟨x, y⟩ hc ⟨q1, q2⟩
    dsimp only at q1 q2
    subst q1
    left
    obtain ⟨q, g1, g2⟩ := hf c hc
    refine ⟨(x ||| ((1 : Int32) <<< (nI q &&& 31)), nI (6 * (c + 1))), ?_, rfl, fun b hb => ?_⟩
    · unfold tb_b
      dsimp only
      rw [if_neg (show ¬ Int32.ofNat (6 * n) ≤ nI (6 * c) from nI_ge (a := 6 * c) (b := 6 * n) (by omega) (by omega)), inb_nI (show 6 * c < 6 * n by omega) (by omega), Option.bind_some, g2, show ((6 : Int32)) = nI 6 from rfl, nI_add]
      rfl
    · show bti (x ||| ((1 : Int32) <<< (nI q &&& 31))) b = true ↔ _
      rw [b_or, bit_1l g1 hb, Bool.or_eq_true, q2 b hb, decide_eq_true_iff]
      constructor
      · rintro (⟨c', c1, c2⟩ | e)
        · exact ⟨c', by omega, c2⟩
        · exact ⟨c, by omega, by rw [g2, e]⟩
      · rintro ⟨c', c1, c2⟩
        by_cases e : c' = c
        · right
          rw [e, g2] at c2
          exact ((nI_eq (by omega) (by omega)).mp c2).symm
        · exact Or.inl ⟨c', by omega, c2⟩
  · rintro ⟨x, y⟩ ⟨q1, q2⟩
    dsimp only at q1 q2
    subst q1
    refine ⟨x, ?_, q2⟩
    unfold tb_b
    dsimp only
    rw [if_pos (show Int32.ofNat (6 * n) ≤ nI (6 * n) from Int32.le_refl _)]
theorem cpG_eq {N nn : Nat} {f : Nat → Int32} (hn : nn ≤ N) {j : Nat} (hj : j < nn) : cpG N nn f j = f j := by
  unfold cpG
  split
  · rfl
  · rw [pk_cpy_in (by omega) (by omega)]
    rw [show 0 + (j - 0) = j by omega]
/-- a text is made: what it holds; what else holds on -/
theorem rdT_ok {h : Hp} {s c : Nat} (hs : s ≤ 400) (hc : c < 12) (h8 : fI h 4 8 = nI s) (hm : ∀ c', c' < c + 1 → ∃ q, q < 32 ∧ aI h 9 (6 * c') = nI q) (hz : (sz h - 110) % 3 = 0) (hz2 : sz h + 3 < 1000000) (hz3 : 110 ≤ sz h) : ∃ h', rdT h (nI c) = some (some (sz h), h') ∧ TxI h' (sz h) (c + 1) s (aI h 8) (aI h 9) ∧ sz h' = sz h + 3 ∧ (∀ a k, a ≠ sz h → fI h' a k = fI h a k) ∧ (∀ a, a < sz h → aI h' a = aI h a) ∧ (∀ a, aL h' a = aL h a) ∧ (∀ a, aO h' a = aO h a) ∧ (∀ a, a < sz h → ln h' a = ln h a) := by
  have e1 : fI h 4 8 * 2 = nI (2 * s) := by rw [h8, l2_, pk_mul, Nat.mul_comm]
  have e2 : (nI c + 1) * 6 = nI (6 * (c + 1)) := by rw [nI_1, show ((6 : Int32)) = nI 6 from rfl, pk_mul, Nat.mul_comm]
  have t1 : (nI (2 * s)).toNatClampNeg = 2 * s := nI_clamp (by omega)
  have t2 : (nI (6 * (c + 1))).toNatClampNeg = 6 * (c + 1) := nI_clamp (by omega)
  obtain ⟨kb, k1, k2⟩ := kb_loop (f := cpG 72 (6 * (c + 1)) (aI h 9)) (n := c + 1) (by omega) (fun c' hc' => by rw [cpG_eq (by omega) (by omega)]; exact hm c' hc')
  refine ⟨mkT h (2 * s) (cpG 800 (2 * s) (aI h 8)) (6 * (c + 1)) (cpG 72 (6 * (c + 1)) (aI h 9)) (nI c + 1) kb, ?_, ⟨Or.inr (by omega), ?_, ?_, ?_, hs, fun j hj => ?_, ?_, by omega, fun j hj => ?_, fun b hb => ?_⟩, rfl, fun a k ha => ?_, fun a ha => ?_, fun a => rfl, fun a => rfl, fun a ha => ?_⟩
  · unfold rdT
    rw [e1, e2, t1, t2, if_pos ⟨nI_pos' (by omega), nI_pos' (by omega), by omega, by omega, hz, hz2, hz3⟩, k1, Option.bind_some]
  · unfold tg
    rw [decide_eq_true (show 110 ≤ sz h by omega), decide_eq_true hz, decide_eq_true (show sz h + 2 < sz (mkT h (2 * s) (cpG 800 (2 * s) (aI h 8)) (6 * (c + 1)) (cpG 72 (6 * (c + 1)) (aI h 9)) (nI c + 1) kb) from (by show sz h + 2 < sz h + 3; omega)), Bool.and_true, Bool.and_true, Bool.or_true]
  · show (if sz h = sz h then (if 2 = 2 then nI c + 1 else _) else _) = _
    rw [if_pos rfl, if_pos rfl, nI_1]
  · show (if sz h + 1 = sz h + 1 then 2 * s else _) = _
    rw [if_pos rfl]
  · show (if sz h + 1 = sz h + 1 then cpG 800 (2 * s) (aI h 8) j else _) = _
    rw [if_pos rfl, cpG_eq (by omega) hj]
  · show (if sz h + 2 = sz h + 1 then _ else if sz h + 2 = sz h + 2 then 6 * (c + 1) else _) = _
    rw [if_neg (by omega), if_pos rfl]
  · show (if sz h + 2 = sz h + 1 then _ else if sz h + 2 = sz h + 2 then cpG 72 (6 * (c + 1)) (aI h 9) j else _) = _
    rw [if_neg (by omega), if_pos rfl, cpG_eq (by omega) hj]
  · have e3 : fI (mkT h (2 * s) (cpG 800 (2 * s) (aI h 8)) (6 * (c + 1)) (cpG 72 (6 * (c + 1)) (aI h 9)) (nI c + 1) kb) (sz h) 3 = kb := by
      show (if sz h = sz h then (if 3 = 2 then _ else if 3 = 3 then kb else 0) else _) = _
      rw [if_pos rfl, if_neg (by omega), if_pos rfl]
    rw [e3, k2 b hb]
    constructor
    · rintro ⟨c', c1, c2⟩
      exact ⟨c', c1, by rw [cpG_eq (by omega) (by omega)] at c2; exact c2⟩
    · rintro ⟨c', c1, c2⟩
      exact ⟨c', c1, by rw [cpG_eq (by omega) (by omega)]; exact c2⟩
  · show (if a = sz h then _ else h.1 a k) = _
    rw [if_neg ha]
    rfl
  · funext j
    show (if a = sz h + 1 then _ else if a = sz h + 2 then _ else h.2.1 a j) = _
    rw [if_neg (by omega), if_neg (by omega)]
    rfl
  · show (if a = sz h + 1 then _ else if a = sz h + 2 then _ else h.2.2.2.2.1 a) = _
    rw [if_neg (by omega), if_neg (by omega)]
    rfl
/-! ===== the machine over a text ===== -/
section WRK
variable {h : Hp} {a n s : Nat} {c mk : Nat → Int32}
theorem x_mark (ht : TxI h a n s c mk) {k m : Nat} (hk : k < n) (hm : m < 6) : f_X9_markOf a (nI k) (nI m) h = some (mk (6 * k + m)) := by
  obtain ⟨t1, t2, t3, t4, t5, t6, t7, t8, t9, t10⟩ := ht
  unfold f_X9_markOf
  rw [show ((6 : Int32)) = nI 6 from rfl, pk_mul, nI_add, Nat.mul_comm k 6, if_neg (nI_pos (by omega)), if_pos t2, t7, if_neg (show ¬ Int32.ofNat (6 * n) ≤ nI (6 * k + m) from nI_ge (a := 6 * k + m) (b := 6 * n) (by omega) (by omega)), inb_nI (by omega) (by omega), Option.bind_some, t9 _ (by omega)]
theorem x_kind (ht : TxI h a n s c mk) {b : Nat} (hb : b < 31) : ∃ v, f_X9_hasKind a (nI b) h = some v ∧ (v = true ↔ ∃ c', c' < n ∧ mk (6 * c') = nI b) := by
  obtain ⟨t1, t2, t3, t4, t5, t6, t7, t8, t9, t10⟩ := ht
  unfold f_X9_hasKind
  rw [if_pos t2]
  by_cases e : bti (fI h a 3) b = true
  · exact ⟨true, by rw [if_pos ((bit_q _ hb).mpr e)], fun _ => (t10 b (by omega)).mp e, fun _ => rfl⟩
  · exact ⟨false, by rw [if_neg (fun d => e ((bit_q _ hb).mp d))], fun d => (by cases d), fun d => absurd ((t10 b (by omega)).mpr d) e⟩
theorem Fr_w {h h' : Hp} (hf : Fr stF noF h h') : Fr wA noF h h' := Fr_mono hf (fun _ c => Or.inr c) (fun _ _ c => c)
theorem x_work (ht : TxI h a n s c mk) {ok : Nat → Prop} {w : Env} (hw : ∀ i, ok i → i < 24 ∧ aI h 30 i = w i) {k m x y B : Nat} {σ : Env → Option Int32} (hk : k < n) (hm : m < 5) (hx : mk (6 * k + m) = nI x) (hy : mk (6 * k + (m + 1)) = nI y) (hys : y ≤ s) (hp : (x = y ∧ σ w = some 1) ∨ (x < y ∧ MC ok c x y B σ)) : ∃ h', f_X2_workOut a (nI k) (nI m) h = some ((match σ w with
    | some v => v
    | none => BRK), h') ∧ Fr stF noF h h' := by
  have ht0 := ht
  obtain ⟨t1, t2, t3, t4, t5, t6, t7, t8, t9, t10⟩ := ht0
  have hne : ∀ b, (b = a + 1 ∨ b = a + 2) → b ≠ 31 ∧ b ≠ 30 := by intro b hb; rcases t1 with e | e <;> omega
  have F1 : Fr stF noF h (sA h 31 0 1) := Fr_sA rfl
  have hS : TxSame h (sA h 31 0 1) a := ⟨rfl, rfl, ps_aAn _ _ _ _ _ (hne _ (Or.inl rfl)).1, ps_aAn _ _ _ _ _ (hne _ (Or.inr rfl)).1, rfl, rfl, t2⟩
  have ht1 := TxI_same ht hS
  have e0 : f_X2_workOut a (nI k) (nI m) h = (lp (mb a y) FU (nI 0, nI x, sA h 31 0 1)).bind fun e51 => sc e51 (fun e53 => some (aI e53 31 0, e53)) (fun e54 => sc e54 (fun e55 => some (BRK, e55)) (fun e56 => sc e56 (fun e57 => some (BRK, e57)) (fun e58 => sc e58 (fun e59 => some (BRK, e59)) (fun e60 => some (BRK, e60))))) := by
    unfold f_X2_workOut
    rw [if_pos t2, nI_1, x_mark ht hk (by omega), Option.bind_some, hy, t4, j_min, Option.bind_some]
    have : Int32.ofNat (2 * s) / 2 = nI s := by
      show nI (2 * s) / nI 2 = _
      rw [pk_div (by omega) (by omega) (by omega), Nat.mul_div_cancel_left s (by omega)]
    rw [this, mnI_n y s (by omega) (by omega), Nat.min_eq_left hys, if_pos ht1.2.1, x_mark ht1 hk (by omega), Option.bind_some, hx]
    unfold f_J9_max_7cf53
    by_cases c0 : x = 0
    · subst c0
      rw [if_neg (by decide), Option.bind_some]
      rfl
    · rw [if_pos (show (0 : Int32) < nI x from nI_lt (a := 0) (b := x) (by omega) (by omega)), Option.bind_some]
      rfl
  rw [e0]
  have mend : ∀ (t : Nat) (g : Hp), mb a y (nI t, nI y, g) = some (.inr (.inl g)) := by
    intro t g
    show b_X2_workOut_42 a (nI y) (nI t) (nI y) g = _
    unfold b_X2_workOut_42
    rw [if_pos (Int32.le_refl _)]
  rcases hp with ⟨h1, h2⟩ | ⟨h1, h2⟩
  · subst h1
    refine ⟨sA h 31 0 1, ?_, F1⟩
    rw [lp_eF (mend 0 _), Option.bind_some, h2]
    show some (aI (sA h 31 0 1) 31 0, sA h 31 0 1) = _
    rw [aI_s]
  · have hX : MX ok c x y a y w (sA h 31 0 1) := ⟨t1, ht1.2.1, by rw [ht1.2.2.2.1]; omega, by rw [ht1.2.2.2.1]; omega, fun j j1 j2 => ht1.2.2.2.2.2.1 j (by omega), fun i hi => ⟨(hw i hi).1, by rw [ps_aAn _ _ _ _ _ (by omega)]; exact (hw i hi).2⟩, Nat.le_refl _, by omega⟩
    obtain ⟨g1, g2⟩ := h2.1 _ a y 0 w hX (Nat.zero_le _)
    cases es : σ w with
    | some v =>
      obtain ⟨h', m', m1, m2, m3, m4, m5⟩ := g1 v es
      refine ⟨h', ?_, Fr_tr F1 m5⟩
      have := m2 (FU - m')
      rw [show FU - m' + m' = FU by show 20000 - m' + m' = 20000; omega] at this
      obtain ⟨F', hF⟩ : ∃ F', FU - m' = F' + 1 := ⟨19999 - m', by show 20000 - m' = _; omega⟩
      rw [this, hF, lp_e (mend (0 + 1) h'), Option.bind_some]
      show some (aI h' 31 0, h') = _
      rw [m3]
    | none =>
      obtain ⟨h', m', m1, m2, m5⟩ := g2 es
      refine ⟨h', ?_, Fr_tr F1 m5⟩
      have := m2 (FU - m')
      rw [show FU - m' + m' = FU by show 20000 - m' + m' = 20000; omega] at this
      rw [this, Option.bind_some]
      rfl
end WRK
