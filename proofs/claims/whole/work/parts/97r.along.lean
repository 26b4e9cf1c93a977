/-! ===== the reference goes along an order ===== -/
def LdO (T : Tok) (K : Nat → Int32) : Prop := ∀ x, x < tN T → K (62 + (2400 + x)) = nI (rk (tkd T x)) ∧ K (2862 + (2400 + x)) = nI (tvl T x)
def OX (T : Tok) (K : Nat → Int32) (dn lt : Int32) (x : Hp) : Prop := aI x 83 = K ∧ fI x 81 27 = dn ∧ fI x 81 28 = lt ∧ fI x 81 23 = nI (2400 + tN T) ∧ fI x 81 25 = b2i true
def gF (a k : Nat) : Prop := a = 81 ∧ (22 ≤ k ∧ k ≤ 25 ∨ 48 ≤ k ∧ k ≤ 51)
section OXS
variable {T : Tok} {K : Nat → Int32} {k : Nat} {dn lt : Int32} {x : Hp}
theorem OX_sF (h : OX T K dn lt x) {j : Nat} {v : Int32} (hj : j ≠ 23 ∧ j ≠ 25 ∧ j ≠ 27 ∧ j ≠ 28) : OX T K dn lt (sF x 81 j v) := by
  obtain ⟨o1, o2, o3, o4, o5⟩ := h
  exact ⟨o1, by rw [fI_n (by omega)]; exact o2, by rw [fI_n (by omega)]; exact o3, by rw [fI_n (by omega)]; exact o4, by rw [fI_n (by omega)]; exact o5⟩
theorem OX_sL (h : OX T K dn lt x) {j : Nat} {v : Int64} : OX T K dn lt (sL x 108 j v) := h
theorem OX_gb (h : OX T K dn lt x) (j b : Int32) : OX T K dn lt (gb x j b) := OX_sF (OX_sF h (by omega)) (by omega)
theorem RX_O (hT : TF T) (hL : LdO T K) (hw : WF K k) (h : OX T K dn lt x) : RX (tkd T) (tvl T) (tN T) 2400 true (envO K k dn lt) x := by
  obtain ⟨o1, o2, o3, o4, o5⟩ := h
  have hN := hT.1
  exact ⟨o4, by omega, hT.2.1, fun y hy => ⟨(hT.2.2.1 y hy).2.1, by rw [o1]; exact (hL y hy).1, by rw [o1]; exact (hL y hy).2⟩, o5, m_envO o1 hw o2 o3⟩
theorem s24_gb (x : Hp) (b : Int32) : sF x 81 24 b = gb x (fI x 81 22) b := by
  have := gb_s24 x (fI x 81 22) (fI x 81 24) b
  rw [gb_id] at this
  exact this
theorem Fr_gb {A : Nat → Prop} {F : Nat → Nat → Prop} (h1 : F 81 22) (h2 : F 81 24) (j b : Int32) : Fr A F x (gb x j b) := Fr_tF (Fr_sF h1) h2
/-- one sum -/
theorem m_sum1 (hT : TF T) (hL : LdO T K) (hw : WF K k) (ho : OX T K dn lt x) {lv : Bool} {i j jj : Nat} {s : Bool} {x3 : Int32} {σ : Env → Option Int32} (hjj : jj < 2) (h22 : fI x 81 22 = nI (2400 + i)) (h50 : fI x 81 50 = b2i s) (hC : RC (tkd T) (tvl T) (tN T) true 0 27 i j σ) : ∃ v b x', j_X11_goesAlong_97_76 (b2i lv) x3 (nI jj) x = some (.inl (nI (jj + 1), x')) ∧ OX T K dn lt x' ∧ fI x' 81 22 = nI (2400 + j) ∧ fI x' 81 50 = b2i (s && !b) ∧ aL x' 108 jj = v ∧ (∀ z, z ≠ jj → aL x' 108 z = aL x 108 z) ∧ fI x' 81 49 = fI x 81 49 ∧ Fr (fun a => a = 108) gF x x' ∧ RPo lv false (σ (envO K k dn lt)) v b := by
  have h24 : sF x 81 24 (b2i false) = gb x (fI x 81 22) (b2i false) := s24_gb x _
  obtain ⟨v, b, e1, e2⟩ := hC GD (by decide) (gb x (fI x 81 22) (b2i false)) 2400 (envO K k dn lt) lv false (RX_gb (RX_O hT hL hw ho) _ _) (by rw [gb_22]; exact h22) (gb_24 _ _ _)
  rw [gb_gb] at e1
  have f50 : fI (sL (gb x (nI (2400 + j)) (b2i b)) 108 jj v) 81 50 = b2i s := by
    show fI (gb x (nI (2400 + j)) (b2i b)) 81 50 = _
    rw [gb_o _ _ _ (by omega) (by omega)]; exact h50
  have f24 : fI (sL (gb x (nI (2400 + j)) (b2i b)) 108 jj v) 81 24 = b2i b := gb_24 x (nI (2400 + j)) (b2i b)
  have O2 : OX T K dn lt (sL (gb x (nI (2400 + j)) (b2i b)) 108 jj v) := OX_sL (OX_gb ho _ _)
  have F2 : Fr (fun a => a = 108) gF x (sL (gb x (nI (2400 + j)) (b2i b)) 108 jj v) := Fr_tr (Fr_gb ⟨rfl, by omega⟩ ⟨rfl, by omega⟩ _ _) (Fr_sL rfl)
  have g22 : fI (sL (gb x (nI (2400 + j)) (b2i b)) 108 jj v) 81 22 = nI (2400 + j) := gb_22 x (nI (2400 + j)) (b2i b)
  have g49 : fI (sL (gb x (nI (2400 + j)) (b2i b)) 108 jj v) 81 49 = fI x 81 49 := gb_o (k := 49) x (nI (2400 + j)) (b2i b) (by omega) (by omega)
  have gL : ∀ z, aL (sL (gb x (nI (2400 + j)) (b2i b)) 108 jj v) 108 z = if z = jj then v else aL x 108 z := fun z => aL_q
  have j134 : ∀ t : Bool, j_X11_goesAlong_134_76 (b2i lv) x3 (nI jj) (b2i t) (sL (gb x (nI (2400 + j)) (b2i b)) 108 jj v) = some (.inl (nI (jj + 1), sF (sL (gb x (nI (2400 + j)) (b2i b)) 108 jj v) 81 50 (b2i t))) := by
    intro t
    unfold j_X11_goesAlong_134_76
    rw [i2b_b, Option.bind_some, nI_1]
  refine ⟨v, b, sF (sL (gb x (nI (2400 + j)) (b2i b)) 108 jj v) 81 50 (b2i (s && !b)), ?_, OX_sF O2 (by omega), by rw [fI_n (by omega)]; exact g22, fI_s, ?_, fun z hz => ?_, by rw [fI_n (by omega)]; exact g49, Fr_tF F2 ⟨rfl, by omega⟩, e2⟩
  · unfold j_X11_goesAlong_97_76
    rw [h24, e1, Option.bind_some, inb_nI hjj (by omega), Option.bind_some]
    dsimp only
    rw [f50, f24]
    unfold j_X11_goesAlong_133_76
    cases s with
    | false =>
      rw [if_pos (show b2i false = 0 from rfl), show ((0 : Int32)) = b2i false from rfl, j134]
      rfl
    | true =>
      rw [if_neg (show ¬ b2i true = 0 by decide)]
      cases b with
      | false =>
        rw [if_pos (show b2i false = 0 from rfl), show ((1 : Int32)) = b2i true from rfl, j134]
        rfl
      | true =>
        rw [if_neg (show ¬ b2i true = 0 by decide), show ((0 : Int32)) = b2i false from rfl, j134]
        rfl
  · show aL (sL (gb x (nI (2400 + j)) (b2i b)) 108 jj v) 108 jj = v
    rw [gL, if_pos rfl]
  · show aL (sL (gb x (nI (2400 + j)) (b2i b)) 108 jj v) 108 z = _
    rw [gL, if_neg hz]
end OXS
theorem lp_2s {σ ε : Type} {b : σ → Option (σ ⊕ ε)} {s0 s1 : σ} {e : ε} (h0 : b s0 = some (.inl s1)) (h1 : b s1 = some (.inr e)) : lp b FU s0 = some e := by
  show lp b (19999 + 1) s0 = _
  rw [lp_1 h0]
  exact lp_e h1 19998
theorem lp_3s {σ ε : Type} {b : σ → Option (σ ⊕ ε)} {s0 s1 s2 : σ} {e : ε} (h0 : b s0 = some (.inl s1)) (h1 : b s1 = some (.inl s2)) (h2 : b s2 = some (.inr e)) : lp b FU s0 = some e := by
  show lp b (19999 + 1) s0 = _
  rw [lp_1 h0]
  show lp b (19998 + 1) s1 = _
  rw [lp_1 h1]
  exact lp_e h2 19997
def nnO (q : Nat) : Nat := if q = 19 then 0 else if q = 17 then 1 else 2
section ALG
variable {T : Tok} {K : Nat → Int32} {k : Nat} {dn lt : Int32} {n s i : Nat} {c mk : Nat → Int32} {D : DOs}
/-- all sums of an order -/
theorem m_sums (hT : TF T) (hL : LdO T K) (hw : WF K k) (hD : ClD T (CdO T) c mk D n i s) {kk : Nat} (hk : kk < n) {x : Hp} (ho : OX T K dn lt x) {lv : Bool} (h22 : fI x 81 22 = nI (2400 + ((D kk).1 + 1))) (h50 : fI x 81 50 = b2i true) : ∃ m2 m3 e sA, m2 ≤ tN T ∧ m3 ≤ tN T ∧ TmP T m2 m3 (otm D kk) ∧ TsP T true c m3 (D kk).2.1 (D kk).2.2.2.2.2.2.2.1 (D kk).2.2.2.1 (oτ D kk) ∧ lp (fun s => b_X11_goesAlong_76 (b2i lv) (nI (nnO (oq D kk))) s.1 s.2) FU ((0 : Int32), x) = some e ∧ OX T K dn lt e ∧ fI e 81 22 = nI (2400 + m2) ∧ fI e 81 49 = fI x 81 49 ∧ fI e 81 50 = b2i sA ∧ Fr (fun a => a = 108) gF x e ∧ (lv = true → (sA = true ↔ ∃ a1 a2, oσ D kk (envO K k dn lt) = some a1 ∧ oσ2 D kk (envO K k dn lt) = some a2) ∧ (∀ a1, sA = true → oq D kk ≠ 19 → oσ D kk (envO K k dn lt) = some a1 → aL e 108 0 = a1.toInt64) ∧ (∀ a2, sA = true → (oq D kk = 16 ∨ oq D kk = 18) → oσ2 D kk (envO K k dn lt) = some a2 → aL e 108 1 = a2.toInt64)) := by
  obtain ⟨⟨y1, y2, y3, y4, q1, q2, q3, q4, m1, m2, m3, q5, q6, q7, q8, q9, q10, q11⟩, s1, -⟩ := hD kk hk
  have hq : oq D kk = 16 ∨ oq D kk = 17 ∨ oq D kk = 18 ∨ oq D kk = 19 := q2
  refine ⟨m2, m3, ?_⟩
  have hend : ∀ (nn : Nat) (e : Hp), nn ≤ 2 → b_X11_goesAlong_76 (b2i lv) (nI nn) (nI nn) e = some (.inr e) := by
    intro nn e _
    unfold b_X11_goesAlong_76
    rw [if_pos (Int32.le_refl _)]
  have h0step : ∀ (nn : Nat), 0 < nn → nn ≤ 2 → b_X11_goesAlong_76 (b2i lv) (nI nn) (nI 0) x = j_X11_goesAlong_97_76 (b2i lv) (nI nn) (nI 0) x := by
    intro nn h1 h2
    unfold b_X11_goesAlong_76
    rw [if_neg (nI_ge h1 (by omega)), if_pos (show nI 0 ≤ 0 by decide)]
  by_cases c19 : oq D kk = 19
  · rcases q8 with ⟨g1, -⟩ | ⟨g1, g2, g3⟩
    · exact absurd c19 g1
    · rcases q9 with ⟨g4, -⟩ | ⟨g4, g5, g6⟩
      · have : oq D kk = 16 ∨ oq D kk = 18 := g4
        omega
      · refine ⟨x, true, q6, q7, q10, q11, ?_, ho, ?_, rfl, h50, Fr_rfl, fun _ => ⟨⟨fun _ => ⟨1, 1, ?_, ?_⟩, fun _ => rfl⟩, fun a1 _ d => absurd c19 d, fun a2 _ d => ?_⟩⟩
        · unfold nnO
          rw [if_pos c19]
          exact lp_eF (hend 0 x (by omega))
        · rw [h22, g5, ← g2]
        · unfold oσ; rw [if_pos c19]
        · unfold oσ2; rw [if_neg (show ¬ (oq D kk = 16 ∨ oq D kk = 18) by omega)]
        · omega
  · rcases q8 with ⟨g1, g2, g3, g4, g5⟩ | ⟨g1, -⟩
    · have eσ : oσ D kk = (D kk).2.2.2.2.2.2.2.2.1 := by unfold oσ; rw [if_neg c19]
      obtain ⟨v, b, x1, z1, z2, z3, z4, z5, z6, z7, z8, z9⟩ := m_sum1 (lv := lv) (jj := 0) (x3 := nI (nnO (oq D kk))) hT hL hw ho (by omega) h22 h50 g5
      rw [← eσ] at z9
      by_cases c17 : oq D kk = 17
      · have e1 : nnO (oq D kk) = 1 := by unfold nnO; rw [if_neg c19, if_pos c17]
        rw [e1] at z1
        rcases q9 with ⟨g6, -⟩ | ⟨g6, g7, g8⟩
        · have : oq D kk = 16 ∨ oq D kk = 18 := g6
          omega
        · refine ⟨x1, true && !b, q6, q7, q10, q11, ?_, z2, ?_, z7, z4, z8, fun hlv => ⟨?_, fun a1 hs _ ha => ?_, fun a2 _ d => ?_⟩⟩
          · rw [e1]
            exact lp_2s (b := fun s : Int32 × Hp => b_X11_goesAlong_76 (b2i lv) (nI 1) s.1 s.2) (s0 := (nI 0, x)) (s1 := (nI 1, x1)) ((h0step 1 (by omega) (by omega)).trans z1) (hend 1 x1 (by omega))
          · rw [z3, g7]
          · obtain ⟨w1, w2⟩ := z9.1 hlv rfl
            have e2 : oσ2 D kk (envO K k dn lt) = some 1 := by unfold oσ2; rw [if_neg (show ¬ (oq D kk = 16 ∨ oq D kk = 18) by omega)]
            cases es : oσ D kk (envO K k dn lt) with
            | none => rw [w2 es]; exact ⟨fun d => absurd d (by decide), fun ⟨a1, a2, d, _⟩ => by cases d⟩
            | some y => rw [(w1 y es).2]; exact ⟨fun _ => ⟨y, 1, rfl, e2⟩, fun _ => rfl⟩
          · rw [z5]; exact ((z9.1 hlv rfl).1 a1 ha).1
          · omega
      · have e2 : nnO (oq D kk) = 2 := by unfold nnO; rw [if_neg c19, if_neg c17]
        rw [e2] at z1
        have h1618 : oq D kk = 16 ∨ oq D kk = 18 := by omega
        rcases q9 with ⟨g6, g7, g8, g9, g10, g11, g12⟩ | ⟨g6, -⟩
        · have eσ2 : oσ2 D kk = (D kk).2.2.2.2.2.2.2.2.2.1 := by unfold oσ2; rw [if_pos h1618]
          have o3 : OX T K dn lt (sF x1 81 22 (nI (2400 + (m1 + 1)))) := OX_sF z2 (by omega)
          obtain ⟨v2, b2, x2, u1, u2, u3, u4, u5, u6, u7, u8, u9⟩ := m_sum1 (lv := lv) (jj := 1) (x3 := nI 2) (s := true && !b) hT hL hw o3 (by omega) fI_s (by rw [fI_n (by omega)]; exact z4) g12
          rw [← eσ2] at u9
          refine ⟨x2, (true && !b) && !b2, q6, q7, q10, q11, ?_, u2, u3, ?_, u4, ?_, fun hlv => ⟨?_, fun a1 hs _ ha => ?_, fun a2 hs _ ha => ?_⟩⟩
          · rw [e2]
            refine lp_3s (b := fun s : Int32 × Hp => b_X11_goesAlong_76 (b2i lv) (nI 2) s.1 s.2) (s0 := (nI 0, x)) (s1 := (nI 1, x1)) (s2 := (nI 2, x2)) ((h0step 2 (by omega) (by omega)).trans z1) ?_ (hend 2 x2 (by omega))
            show b_X11_goesAlong_76 (b2i lv) (nI 2) (nI 1) x1 = _
            unfold b_X11_goesAlong_76
            rw [if_neg (nI_ge (by omega) (by omega)), if_neg (show ¬ nI 1 ≤ 0 by decide), z3, nI_1, Nat.add_assoc]
            exact u1
          · rw [u7, fI_n (by omega)]; exact z7
          · exact Fr_tr (Fr_tF z8 ⟨rfl, by omega⟩) u8
          · obtain ⟨w1, w2⟩ := z9.1 hlv rfl
            obtain ⟨w3, w4⟩ := u9.1 hlv rfl
            cases es : oσ D kk (envO K k dn lt) with
            | none => rw [w2 es]; exact ⟨fun d => absurd d (by simp), fun ⟨a1, a2, d, _⟩ => by cases d⟩
            | some y =>
              rw [(w1 y es).2]
              cases es2 : oσ2 D kk (envO K k dn lt) with
              | none => rw [w4 es2]; exact ⟨fun d => absurd d (by decide), fun ⟨a1, a2, _, d⟩ => by cases d⟩
              | some y2 => rw [(w3 y2 es2).2]; exact ⟨fun _ => ⟨y, y2, rfl, rfl⟩, fun _ => rfl⟩
          · rw [u6 0 (by omega)]
            show aL x1 108 0 = _
            rw [z5]; exact ((z9.1 hlv rfl).1 a1 ha).1
          · rw [u5]; exact ((u9.1 hlv rfl).1 a2 ha).1
        · exact absurd h1618 g6
    · exact absurd (Classical.not_not.mp g1) c19
theorem rk_27 : ∀ q, q < 400 → (rk q = 27 ↔ q = 22) := by
  intro q _
  by_cases h : q < 30
  · have : ∀ q, q < 30 → (rk q = 27 ↔ q = 22) := by decide
    exact this _ h
  · rw [rk_hi (by omega)]; omega
theorem rk_4 : ∀ q, q < 400 → (rk q = 4 ↔ q = 23) := by
  intro q _
  by_cases h : q < 30
  · have : ∀ q, q < 30 → (rk q = 4 ↔ q = 23) := by decide
    exact this _ h
  · rw [rk_hi (by omega)]; omega
theorem j211 {x : Hp} {y : Nat} (h22 : fI x 81 22 = nI y) (t b : Bool) (h24 : fI x 81 24 = b2i b) : ∃ x', j_X11_goesAlong_211 (b2i t) x = some ((), x') ∧ fI x' 81 22 = nI (y + 1) ∧ fI x' 81 51 = b2i (t && !b) ∧ (∀ j, j ≠ 22 → j ≠ 51 → fI x' 81 j = fI x 81 j) ∧ Fr noA gF x x' ∧ (∀ z, aL x' z = aL x z) := by
  have j234 : ∀ (u : Bool), j_X11_goesAlong_234 (b2i u) (sF x 81 51 (b2i t)) = some ((), sF (sF (sF x 81 51 (b2i t)) 81 51 (b2i u)) 81 22 (nI (y + 1))) := by
    intro u
    unfold j_X11_goesAlong_234
    rw [i2b_b, Option.bind_some, fI_n (by omega), fI_n (by omega), h22, nI_1]
  refine ⟨sF (sF (sF x 81 51 (b2i t)) 81 51 (b2i (t && !b))) 81 22 (nI (y + 1)), ?_, fI_s, by rw [fI_n (by omega), fI_s], fun j h1 h2 => by rw [fI_n (by omega), fI_n (by omega), fI_n (by omega)], Fr_tF (Fr_tF (Fr_sF ⟨rfl, by omega⟩) ⟨rfl, by omega⟩) ⟨rfl, by omega⟩, fun _ => rfl⟩
  unfold j_X11_goesAlong_211
  rw [i2b_b, Option.bind_some, fI_s, fI_n (by omega), h24]
  unfold j_X11_goesAlong_233
  cases t with
  | false =>
    rw [if_pos (show b2i false = 0 from rfl), show ((0 : Int32)) = b2i false from rfl, j234]
    rfl
  | true =>
    rw [if_neg (show ¬ b2i true = 0 by decide)]
    cases b with
    | false =>
      rw [if_pos (show b2i false = 0 from rfl), show ((1 : Int32)) = b2i true from rfl, j234]
      rfl
    | true =>
      rw [if_neg (show ¬ b2i true = 0 by decide), show ((0 : Int32)) = b2i false from rfl, j234]
      rfl
/-- the test of an order -/
theorem m_testO (hT : TF T) (hL : LdO T K) (hw : WF K k) {x : Hp} (ho : OX T K dn lt x) {lv : Bool} {m3 i1 f3 f4 : Nat} {τ : Env → Option Bool} (hm3 : m3 ≤ tN T) (h22 : fI x 81 22 = nI (2400 + m3)) (hP : TsP T true c m3 i1 f3 f4 τ) : ∃ tI x', j_X11_goesAlong_184 (b2i lv) x = some ((), x') ∧ fI x' 81 22 = nI (2400 + (i1 + 1)) ∧ fI x' 81 51 = b2i tI ∧ (∀ j, j ≠ 22 → j ≠ 24 → j ≠ 51 → fI x' 81 j = fI x 81 j) ∧ Fr noA gF x x' ∧ (∀ z, aL x' z = aL x z) ∧ (lv = true → (tI = true ↔ τ (envO K k dn lt) = some true)) := by
  have kb := kd_bd hT hm3
  have hX := RX_gb (RX_O hT hL hw ho) (fI x 81 22) (b2i false)
  have hp := r_passes hX hm3 (by rw [gb_22]; exact h22) (show 4 < 400 by omega) kb
  unfold j_X11_goesAlong_184
  rw [s24_gb, show f_X11_passes0 (4 : Int32) _ = _ from hp, Option.bind_some]
  dsimp only
  rw [gb_24, gb_gb]
  rcases hP with ⟨g1, g2, g3, g4⟩ | ⟨g1, g0, g2, g3, g4⟩
  · have n4 : ¬ rk (tkd T m3) = 4 := fun e => g1 ((rk_4 _ kb).mp e)
    obtain ⟨x', z1, z2, z3, z4, z5, z6⟩ := j211 (x := gb x (fI x 81 22) (b2i false)) (y := 2400 + m3) (by rw [gb_22]; exact h22) true false (gb_24 _ _ _)
    refine ⟨true, x', ?_, by rw [z2, g2, Nat.add_assoc], z3, fun j h1 h2 h3 => by rw [z4 j h1 h3, gb_o _ _ _ h1 h2], Fr_tr (Fr_gb ⟨rfl, by omega⟩ ⟨rfl, by omega⟩ _ _) z5, fun z => z6 z, fun _ => ⟨fun _ => by rw [g4], fun _ => rfl⟩⟩
    rw [decide_eq_false n4, if_neg (by decide), if_neg n4]
    exact z1
  · have n4 : rk (tkd T m3) = 4 := (rk_4 _ kb).mpr g1
    obtain ⟨v, b, f1, f2⟩ := g4 GD (by decide) (gb x (nI (2400 + (m3 + 1))) (b2i false)) 2400 (envO K k dn lt) lv false (RX_gb (RX_O hT hL hw ho) _ _) (gb_22 _ _ _) (gb_24 _ _ _)
    rw [gb_gb] at f1
    obtain ⟨x', z1, z2, z3, z4, z5, z6⟩ := j211 (x := gb x (nI (2400 + i1)) (b2i b)) (y := 2400 + i1) (gb_22 _ _ _) v b (gb_24 _ _ _)
    refine ⟨v && !b, x', ?_, by rw [z2, Nat.add_assoc], z3, fun j h1 h2 h3 => by rw [z4 j h1 h3, gb_o _ _ _ h1 h2], Fr_tr (Fr_gb ⟨rfl, by omega⟩ ⟨rfl, by omega⟩ _ _) z5, fun z => z6 z, fun hlv => ?_⟩
    · rw [decide_eq_true n4, if_pos rfl, if_pos n4, Nat.add_assoc, f1, Option.bind_some]
      dsimp only
      cases v
      · rw [if_neg Bool.false_ne_true]; exact z1
      · rw [if_pos rfl]; exact z1
    · obtain ⟨f3, f4⟩ := f2.1 hlv rfl
      cases et : τ (envO K k dn lt) with
      | none => rw [f4 et]; exact ⟨fun d => absurd d (by simp), fun d => (by cases d)⟩
      | some y =>
        obtain ⟨f5, f6⟩ := f3 y et
        rw [f5, f6]
        cases y
        · exact ⟨fun d => absurd d (by decide), fun d => absurd (Option.some.inj d) (by decide)⟩
        · exact ⟨fun _ => rfl, fun _ => rfl⟩
theorem m_along (hT : TF T) (hL : LdO T K) (hw : WF K k) (hD : ClD T (CdO T) c mk D n i s) {kk : Nat} (hk : kk < n) {g : Hp} (e83 : aI g 83 = K) (e27 : fI g 81 27 = dn) (e28 : fI g 81 28 = lt) (e47 : fI g 81 47 = nI (2400 + (D kk).1)) (lv : Bool) : ∃ sA tI x', f_X11_goesAlong (nI (2400 + tN T)) (b2i lv) g = some ((), x') ∧ fI x' 81 22 = nI (2400 + ((D kk).2.1 + 1)) ∧ fI x' 81 48 = nI (otm D kk) ∧ fI x' 81 49 = nI (rk (oq D kk)) ∧ fI x' 81 50 = b2i sA ∧ fI x' 81 51 = b2i tI ∧ Fr (fun a => a = 108) gF g x' ∧ (lv = true → (tI = true ↔ oτ D kk (envO K k dn lt) = some true) ∧ (sA = true ↔ ∃ a1 a2, oσ D kk (envO K k dn lt) = some a1 ∧ oσ2 D kk (envO K k dn lt) = some a2) ∧ (∀ a1, sA = true → oq D kk ≠ 19 → oσ D kk (envO K k dn lt) = some a1 → aL x' 108 0 = a1.toInt64) ∧ (∀ a2, sA = true → (oq D kk = 16 ∨ oq D kk = 18) → oσ2 D kk (envO K k dn lt) = some a2 → aL x' 108 1 = a2.toInt64)) := by
  have hN := hT.1
  obtain ⟨⟨y1, y2, y3, y4, q1, q2, q3, q4, -⟩, s1, -⟩ := id (hD kk hk)
  have hq : oq D kk = 16 ∨ oq D kk = 17 ∨ oq D kk = 18 ∨ oq D kk = 19 := q2
  have O0 : OX T K dn lt (sF (sF (sF g 81 25 (b2i true)) 81 23 (nI (2400 + tN T))) 81 22 (nI (2400 + (D kk).1))) := ⟨e83, by rw [fI_n (by omega), fI_n (by omega), fI_n (by omega)]; exact e27, by rw [fI_n (by omega), fI_n (by omega), fI_n (by omega)]; exact e28, by rw [fI_n (by omega), fI_s], by rw [fI_n (by omega), fI_n (by omega), fI_s]⟩
  have hcode : f_X11_codeAt (nI (2400 + (D kk).1)) (sF (sF (sF g 81 25 (b2i true)) 81 23 (nI (2400 + tN T))) 81 22 (nI (2400 + (D kk).1))) = some (nI (rk (oq D kk))) := by
    rw [r_code (RX_O hT hL hw O0) (Nat.le_of_lt q3), show tkd T (D kk).1 = oq D kk from q1]
  have F0 : Fr (fun a => a = 108) gF g (sF (sF (sF (sF (sF (sF g 81 25 (b2i true)) 81 23 (nI (2400 + tN T))) 81 22 (nI (2400 + (D kk).1))) 81 49 (nI (rk (oq D kk)))) 81 22 (nI (2400 + ((D kk).1 + 1)))) 81 50 (b2i true)) := Fr_tF (Fr_tF (Fr_tF (Fr_tF (Fr_tF (Fr_sF ⟨rfl, by omega⟩) ⟨rfl, by omega⟩) ⟨rfl, by omega⟩) ⟨rfl, by omega⟩) ⟨rfl, by omega⟩) ⟨rfl, by omega⟩
  have O1 : OX T K dn lt (sF (sF (sF (sF (sF (sF g 81 25 (b2i true)) 81 23 (nI (2400 + tN T))) 81 22 (nI (2400 + (D kk).1))) 81 49 (nI (rk (oq D kk)))) 81 22 (nI (2400 + ((D kk).1 + 1)))) 81 50 (b2i true)) := OX_sF (OX_sF (OX_sF O0 (by omega)) (by omega)) (by omega)
  have v49 : fI (sF (sF (sF (sF (sF (sF g 81 25 (b2i true)) 81 23 (nI (2400 + tN T))) 81 22 (nI (2400 + (D kk).1))) 81 49 (nI (rk (oq D kk)))) 81 22 (nI (2400 + ((D kk).1 + 1)))) 81 50 (b2i true)) 81 49 = nI (rk (oq D kk)) := by rw [fI_n (by omega), fI_n (by omega), fI_s]
  have v22 : fI (sF (sF (sF (sF (sF (sF g 81 25 (b2i true)) 81 23 (nI (2400 + tN T))) 81 22 (nI (2400 + (D kk).1))) 81 49 (nI (rk (oq D kk)))) 81 22 (nI (2400 + ((D kk).1 + 1)))) 81 50 (b2i true)) 81 22 = nI (2400 + ((D kk).1 + 1)) := by rw [fI_n (by omega), fI_s]
  have v50 : fI (sF (sF (sF (sF (sF (sF g 81 25 (b2i true)) 81 23 (nI (2400 + tN T))) 81 22 (nI (2400 + (D kk).1))) 81 49 (nI (rk (oq D kk)))) 81 22 (nI (2400 + ((D kk).1 + 1)))) 81 50 (b2i true)) 81 50 = b2i true := fI_s
  have e0 : f_X11_goesAlong (nI (2400 + tN T)) (b2i lv) g = j_X11_goesAlong_72 (b2i lv) (nI (nnO (oq D kk))) (sF (sF (sF (sF (sF (sF g 81 25 (b2i true)) 81 23 (nI (2400 + tN T))) 81 22 (nI (2400 + (D kk).1))) 81 49 (nI (rk (oq D kk)))) 81 22 (nI (2400 + ((D kk).1 + 1)))) 81 50 (b2i true)) := by
    unfold f_X11_goesAlong
    rw [show fI (sF (sF g 81 25 (b2i true)) 81 23 (nI (2400 + tN T))) 81 47 = nI (2400 + (D kk).1) by rw [fI_n (by omega), fI_n (by omega)]; exact e47, fI_s, hcode, Option.bind_some, show fI (sF (sF (sF (sF g 81 25 (b2i true)) 81 23 (nI (2400 + tN T))) 81 22 (nI (2400 + (D kk).1))) 81 49 (nI (rk (oq D kk)))) 81 22 = nI (2400 + (D kk).1) by rw [fI_n (by omega), fI_s], nI_1, Nat.add_assoc, v49]
    rcases hq with e | e | e | e <;> rw [e]
    · rw [if_neg (by decide), if_neg (by decide)]; rfl
    · rw [if_neg (by decide), if_pos (by decide)]; rfl
    · rw [if_neg (by decide), if_neg (by decide)]; rfl
    · rw [if_pos (by decide)]; rfl
  rw [e0]
  generalize sF (sF (sF (sF (sF (sF g 81 25 (b2i true)) 81 23 (nI (2400 + tN T))) 81 22 (nI (2400 + (D kk).1))) 81 49 (nI (rk (oq D kk)))) 81 22 (nI (2400 + ((D kk).1 + 1)))) 81 50 (b2i true) = x at F0 O1 v49 v22 v50
  obtain ⟨m2, m3, e, sA, p1, p2, p3, p4, p5, p6, p7, p8, p9, p10, p11⟩ := m_sums (lv := lv) hT hL hw hD hk O1 v22 v50
  have kb := kd_bd hT p1
  have O2 : OX T K dn lt (sF e 81 48 1) := OX_sF p6 (by omega)
  have hp := r_passes (RX_O hT hL hw O2) p1 (by rw [fI_n (by omega)]; exact p7) (show 27 < 400 by omega) kb
  -- behind the times
  have key : ∃ e2, j_X11_goesAlong_72 (b2i lv) (nI (nnO (oq D kk))) x = j_X11_goesAlong_184 (b2i lv) e2 ∧ OX T K dn lt e2 ∧ fI e2 81 22 = nI (2400 + m3) ∧ fI e2 81 48 = nI (otm D kk) ∧ fI e2 81 49 = fI e 81 49 ∧ fI e2 81 50 = fI e 81 50 ∧ (∀ z, aL e2 z = aL e z) ∧ Fr noA gF e e2 := by
    unfold j_X11_goesAlong_72
    rw [p5, Option.bind_some, show f_X11_passes0 (27 : Int32) _ = _ from hp, Option.bind_some]
    dsimp only
    rcases p3 with ⟨t1, t2, t3, t4, t5, t6⟩ | ⟨t1, t2, t3⟩
    · have n27 : rk (tkd T m2) = 27 := (rk_27 _ kb).mpr t1
      refine ⟨sF (sF (gb (sF e 81 48 1) (nI (2400 + m2 + 1)) (fI (sF e 81 48 1) 81 24)) 81 48 (nI (otm D kk))) 81 22 (nI (2400 + m3)), ?_, OX_sF (OX_sF (OX_gb O2 _ _) (by omega)) (by omega), fI_s, by rw [fI_n (by omega), fI_s], ?_, ?_, fun _ => rfl, ?_⟩
      · rw [decide_eq_true n27, if_pos rfl, if_pos n27, gb_22, show ((2862 : Int32)) = nI 2862 from rfl, nI_add, inb_nI (show 2862 + (2400 + m2 + 1) < 5662 by omega) (by omega), Option.bind_some]
        have ev : aI (gb (sF e 81 48 1) (nI (2400 + m2 + 1)) (fI (sF e 81 48 1) 81 24)) 83 (2862 + (2400 + m2 + 1)) = nI (otm D kk) := by
          show aI e 83 _ = _
          rw [p6.1, show 2862 + (2400 + m2 + 1) = 2862 + (2400 + (m2 + 1)) by omega, (hL _ t2).2]
          exact congrArg nI t3
        rw [ev, show ∀ b y : Int32, fI (sF (gb (sF e 81 48 1) (nI (2400 + m2 + 1)) b) 81 48 y) 81 22 = nI (2400 + m2 + 1) from fun b y => by rw [fI_n (by omega), gb_22], nI_1, t6, show 2400 + m2 + 1 + 1 = 2400 + (m2 + 2) by omega]
      · rw [fI_n (by omega), fI_n (by omega), gb_o _ _ _ (by omega) (by omega), fI_n (by omega)]
      · rw [fI_n (by omega), fI_n (by omega), gb_o _ _ _ (by omega) (by omega), fI_n (by omega)]
      · exact Fr_tF (Fr_tF (Fr_tr (Fr_sF ⟨rfl, by omega⟩) (Fr_gb ⟨rfl, by omega⟩ ⟨rfl, by omega⟩ _ _)) ⟨rfl, by omega⟩) ⟨rfl, by omega⟩
    · have n27 : ¬ rk (tkd T m2) = 27 := fun d => t1 ((rk_27 _ kb).mp d)
      refine ⟨sF e 81 48 1, ?_, O2, by rw [fI_n (by omega), t3]; exact p7, by rw [fI_s, show otm D kk = 1 from t2]; rfl, fI_n (by omega), fI_n (by omega), fun _ => rfl, Fr_sF ⟨rfl, by omega⟩⟩
      rw [decide_eq_false n27, if_neg Bool.false_ne_true, if_neg n27]
  obtain ⟨e2, k1, k2, k3, k4, k5, k6, k7, k8⟩ := key
  obtain ⟨tI, x', z1, z2, z3, z4, z5, z6, z7⟩ := m_testO (lv := lv) hT hL hw k2 p2 k3 p4
  refine ⟨sA, tI, x', by rw [k1]; exact z1, z2, by rw [z4 48 (by omega) (by omega) (by omega)]; exact k4, by rw [z4 49 (by omega) (by omega) (by omega), k5, p8]; exact v49, by rw [z4 50 (by omega) (by omega) (by omega), k6]; exact p9, z3, ?_, fun hlv => ⟨z7 hlv, (p11 hlv).1, fun a1 h1 h2 h3 => ?_, fun a2 h1 h2 h3 => ?_⟩⟩
  · exact Fr_tr (Fr_tr (Fr_tr F0 p10) (Fr_mono k8 (fun _ d => d.elim) (fun _ _ d => d))) (Fr_mono z5 (fun _ d => d.elim) (fun _ _ d => d))
  · rw [z6, k7]; exact (p11 hlv).2.1 a1 h1 h2 h3
  · rw [z6, k7]; exact (p11 hlv).2.2 a2 h1 h2 h3
end ALG
