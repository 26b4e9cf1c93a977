/-! ===== the class's law says what its clauses say ===== -/
theorem tld_none {D : DLs} {w : Env} : ∀ n, (∀ k, k < n → dq D k ≠ 13) → tld D w n = none
  | 0, _ => rfl
  | n + 1, h => by
    unfold tld
    rw [if_neg (fun c => h n (by omega) c.1)]
    exact tld_none n (fun k hk => h k (by omega))
theorem env_nb {K : Nat → Int32} {k p : Nat} {o : Int32} (hw : WF K k) (hm : MOb K 1000000) (hp : p < k) (hi : insb K p = true) (ho : o ≠ BRK) : ∀ i, i < 8 → envL K p o i ≠ BRK := by
  have h6 := hw.2.1
  intro i hi8
  have hh : i = 0 ∨ i = 1 ∨ i = 2 ∨ i = 3 ∨ i = 4 ∨ i = 5 ∨ i = 6 ∨ i = 7 := by omega
  have hn3 := nat3_lt K p
  rcases hh with e | e | e | e | e | e | e | e <;> subst e
  · show nI p ≠ BRK; exact nI_nb (by omega)
  · exact ho
  · show K (18 + p) / 3 ≠ BRK
    obtain ⟨s1, s2⟩ := seat_of hw hp hi
    rw [s1, l3_, pk_div (by omega) (by omega) (by omega)]
    exact nI_nb (by omega)
  · show nI (nat3 K p) ≠ BRK; exact nI_nb (by omega)
  · show K (3 * p + nat3 K p) ≠ BRK
    obtain ⟨l, l1, l2⟩ := part_of hw (i := 3 * p + nat3 K p) (by omega)
    rw [l2]; exact nI_nb (by omega)
  · show K (25 + p) ≠ BRK
    obtain ⟨v, v1, v2⟩ := hw.2.2.2.2.2.1 p hp
    rw [v2]; exact nI_nb (by omega)
  · show K 24 ≠ BRK
    obtain ⟨m, m1, m2⟩ := hm
    rw [m2]; exact nI_nb (by omega)
  · show K 50 ≠ BRK
    obtain ⟨v, v1, v2⟩ := hw.2.2.2.2.2.2.2.2.2
    rw [v2]; exact nI_nb (by omega)
theorem CL_of {T : Tok} {h0 : Hp} {a n s i : Nat} {c mk : Nat → Int32} {D : DLs} (ht : TxI h0 a n s c mk) (hD : ClD T (CdL T) c mk D n i s) : CL h0 a (semL D n) := by
  intro h hS r K k p hr hR hw hm hp hi
  have h6 := hw.2.1
  refine ⟨c_anyH ht hD hS hr hR hw hp 14 (by omega), c_anyH ht hD hS hr hR hw hp 15 (by omega), fun q hq => ?_⟩
  have ha := ht.1
  have hth := TxI_same ht hS
  have hn3 := nat3_lt K q
  obtain ⟨v, v1, v2⟩ := x_kind hth (b := 13) (by omega)
  show ∃ h2, f_X8_partsTold r a (nI p) (nI q) h = some ((tld D (envL K p (nI (nat3 K q))) n).getD 1, h2) ∧ Fr wA noF h h2
  unfold f_X8_partsTold
  rw [if_pos hth.2.1, show ((13 : Int32)) = nI 13 from rfl, v1, Option.bind_some]
  cases v with
  | false =>
    refine ⟨h, ?_, Fr_rfl⟩
    rw [if_neg (by decide), tld_none n (fun j j1 j2 => absurd (v2.mpr ⟨j, j1, by rw [(mk_q hD j1).1, j2]⟩) (by decide))]
    rfl
  | true =>
    obtain ⟨g, w1, w2, w3⟩ := c_words hr hR hw hp (nI (nat3 K q))
    have hSg := Tx_w ha hS w3
    have htg := TxI_same ht hSg
    have hwo := env_nb hw hm hp hi (o := nI (nat3 K q)) (nI_nb (by omega))
    have hbk : ∀ j, j < n → dq D j = 13 → ∀ v, dσ D j (envL K p (nI (nat3 K q))) = some v → v ≠ BRK := by
      intro j j1 j13 v hv
      obtain ⟨⟨m1, m2, m3, q1, q2, q3, q4, m, q5, q6, q7⟩, s1, -⟩ := hD j j1
      rcases q6 with ⟨g1, g2', g3, g4, g5⟩ | ⟨g1, -⟩
      · exact g4.2 _ (fun i hi => hwo i (by unfold okW at hi; rw [if_neg (by decide)] at hi; exact hi)) v hv
      · exact absurd j13 g1
    obtain ⟨g2, k1, k2⟩ := c_told ht hD hSg ha hwo w2 hbk r
    refine ⟨g2, ?_, Fr_tr w3 (Fr_w k2)⟩
    rw [if_pos rfl, k_nationOf hR hw hq, Option.bind_some, w1, Option.bind_some, if_pos htg.2.1, htg.2.2.1]
    exact k1
/-! ===== the reference's law ===== -/
theorem m_asked {h : Hp} {k p : Nat} (hw : WF (aI h 83) k) (hp : p < k) (q : Int32) (o : Int32) (hq : (q = -1 ∧ o = -1) ∨ ∃ q', q' < k ∧ q = nI q' ∧ o = nI (nat3 (aI h 83) q')) : ∃ h', f_X11_setsAsked (nI p) q h = some ((), h') ∧ (∀ x, x < 8 → aI h' 93 (rk x - 8) = envL (aI h 83) p o x) ∧ Fr tA noF h h' := by
  have h6 := hw.2.1
  have hn3 := nat3_lt (aI h 83) p
  have n83 : ∀ (g : Hp) (j : Nat) (x : Int32), aI (sA g 93 j x) 83 = aI g 83 := fun g j x => ps_aAn _ _ _ _ _ (by omega)
  have e26 : ∀ g : Hp, aI g 83 = aI h 83 → Fr tA noF h g → aI g 93 0 = nI p → ∃ h', j_X11_setsAsked_26 (nI p) 1 o g = some ((), h') ∧ (∀ x, x < 8 → aI h' 93 (rk x - 8) = envL (aI h 83) p o x) ∧ Fr tA noF h h' := by
    intro g g83 gF g0
    unfold j_X11_setsAsked_26
    rw [show ((1 : Int32)) = nI 1 from rfl, inb_nI (show 1 < 8 by omega) (by omega), Option.bind_some, m_seatOf (by omega), Option.bind_some, m_nationOf (by omega), Option.bind_some, show ((25 : Int32)) = nI 25 from rfl, nI_add, inb_nI (show 25 + p < 5662 by omega) (by omega), Option.bind_some, m_nationOf (by omega), Option.bind_some]
    simp only [n83, g83]
    rw [m_partsOf (by omega) hn3, Option.bind_some]
    simp only [n83, g83]
    refine ⟨_, rfl, fun x hx => ?_, ?_⟩
    · have hh : x = 0 ∨ x = 1 ∨ x = 2 ∨ x = 3 ∨ x = 4 ∨ x = 5 ∨ x = 6 ∨ x = 7 := by omega
      rcases hh with e | e | e | e | e | e | e | e <;> subst e
      · show aI _ 93 0 = _
        rw [aI_n (by omega), aI_n (by omega), aI_n (by omega), aI_n (by omega), aI_n (by omega), aI_n (by omega), aI_n (by omega), g0]; rfl
      · show aI _ 93 1 = _
        rw [aI_n (by omega), aI_n (by omega), aI_n (by omega), aI_n (by omega), aI_n (by omega), aI_n (by omega), aI_s]; rfl
      · show aI _ 93 2 = _
        rw [aI_n (by omega), aI_n (by omega), aI_n (by omega), aI_n (by omega), aI_n (by omega), aI_s]; rfl
      · show aI _ 93 3 = _
        rw [aI_n (by omega), aI_n (by omega), aI_n (by omega), aI_n (by omega), aI_s]; rfl
      · show aI _ 93 6 = _
        rw [aI_n (by omega), aI_s]; rfl
      · show aI _ 93 4 = _
        rw [aI_n (by omega), aI_n (by omega), aI_n (by omega), aI_s]; rfl
      · show aI _ 93 7 = _
        rw [aI_s]; rfl
      · show aI _ 93 5 = _
        rw [aI_n (by omega), aI_n (by omega), aI_s]; rfl
    · exact Fr_tA (Fr_tA (Fr_tA (Fr_tA (Fr_tA (Fr_tA (Fr_tA gF rfl) rfl) rfl) rfl) rfl) rfl) rfl
  unfold f_X11_setsAsked
  rcases hq with ⟨e1, e2⟩ | ⟨q', q1, q2, q3⟩
  · subst e2
    rw [if_pos e1]
    exact e26 _ (n83 _ _ _) (Fr_sA rfl) aI_s
  · rw [q2, if_neg (nI_ne1 (by omega)), m_nationOf (by omega), Option.bind_some, n83, ← q3]
    exact e26 _ (n83 _ _ _) (Fr_sA rfl) aI_s
/-- the tokens of a text, laid at slot t of what the reference keeps -/
def Laid (T : Tok) (K : Nat → Int32) (t : Nat) : Prop := K (55 + t) = nI (tN T) ∧ ∀ x, x < tN T → K (62 + (400 * t + x)) = nI (rk (tkd T x)) ∧ K (2862 + (400 * t + x)) = nI (tvl T x)
/-- what the reference has been told after c clauses, for each head -/
def tv (D : DLs) (w : Env) (hd c : Nat) : Int64 := if hd = 13 then (match tld D w c with
    | some v => v.toInt64
    | none => -1) else if hld D hd w c = true then 1 else -1
theorem clpL (x : Int32) : (if 0 ≤ lg_cmp x.toInt64 0 then (if lg_cmp x.toInt64 9 ≤ 0 then x.toInt64 else (9 : Int64)) else 0) = (clp x).toInt64 := by
  have e0 : Int32.toInt64 0 = 0 := rfl
  have e9 : Int32.toInt64 9 = 9 := by decide
  unfold clp
  by_cases c : x < 0
  · rw [if_pos c, if_neg (fun d => by rw [lg_ge, ← e0, toL_le] at d; exact i32_nle.mpr c d)]; rfl
  · have c' : (0 : Int32) ≤ x := by rw [Int32.le_iff_toInt_le]; rw [Int32.lt_iff_toInt_lt] at c; omega
    rw [if_neg c, if_pos (by rw [lg_ge, ← e0, toL_le]; exact c')]
    by_cases d : (9 : Int32) < x
    · rw [if_pos d, if_neg (fun f => by rw [lg_le, ← e9, toL_le] at f; exact i32_nle.mpr d f)]
      exact e9.symm
    · have d' : x ≤ 9 := by rw [Int32.le_iff_toInt_le]; rw [Int32.lt_iff_toInt_lt] at d; omega
      rw [if_neg d, if_pos (by rw [lg_le, ← e9, toL_le]; exact d')]
/-- a clause, the reference's way -/
theorem m_clause {T : Tok} {n s i : Nat} {c mk : Nat → Int32} {D : DLs} (hT : TF T) (hD : ClD T (CdL T) c mk D n i s) {base : Nat} {w : Env} {g : Hp} (hx : RX (tkd T) (tvl T) (tN T) base false w g) {k : Nat} (hk : k < n) (hgo : fI g 81 22 = nI (base + (D k).1)) {hd : Nat} (hhd : hd = 13 ∨ hd = 14 ∨ hd = 15) : ∃ b, b_X11_tells_68 (nI (rk hd)) (tv D w hd k) g = some (.inl (tv D w hd (k + 1), gb g (nI (base + (D k).2.1 + 1)) (b2i b))) := by
  obtain ⟨⟨m1, m2, m3, q1, q2, q3, q4, m, q5, q6, q7⟩, s1, s2, -⟩ := hD k hk
  have hN := hT.1
  have hbN := hx.2.1
  have hq : dq D k = 13 ∨ dq D k = 14 ∨ dq D k = 15 := q2
  have hcode : f_X11_codeAt (nI (base + (D k).1)) g = some (nI (rk (dq D k))) := by rw [r_code hx (Nat.le_of_lt q3)]; rw [show tkd T (D k).1 = dq D k from q1]
  -- the sum
  have S1 : ∃ v b, b_X11_tells_68 (nI (rk hd)) (tv D w hd k) g = j_X11_tells_119_68 (nI (rk hd)) (tv D w hd k) (nI (rk (dq D k))) v (gb g (nI (base + m)) (b2i b)) ∧ (dq D k = 13 → (∀ x, dσ D k w = some x → v = x.toInt64 ∧ b = false) ∧ (dσ D k w = none → b = true)) ∧ (dq D k ≠ 13 → v = 1 ∧ b = false) := by
    have eq0 : b_X11_tells_68 (nI (rk hd)) (tv D w hd k) g = if nI (rk (dq D k)) = 1 then (gr_C GD 0 1 (gb g (nI (base + ((D k).1 + 1))) (b2i false))).bind fun v22 => j_X11_tells_119_68 (nI (rk hd)) (tv D w hd k) (nI (rk (dq D k))) v22.1 v22.2 else j_X11_tells_119_68 (nI (rk hd)) (tv D w hd k) (nI (rk (dq D k))) 1 (gb g (nI (base + ((D k).1 + 1))) (b2i false)) := by
      unfold b_X11_tells_68
      have e24 : sF g 81 24 (b2i false) = gb g (fI g 81 22) (b2i false) := by
        have := gb_s24 g (fI g 81 22) (fI g 81 24) (b2i false)
        rw [gb_id] at this
        exact this
      rw [hx.1, hgo, if_neg (nI_ge (by omega) (by omega)), hcode, Option.bind_some, e24, gb_22, gb_s22, hgo, nI_1, Nat.add_assoc]
    rw [eq0]
    rcases q6 with ⟨g1, g2, g3, g4, g5⟩ | ⟨g1, g2, g3⟩
    · have h13 : dq D k = 13 := g1
      obtain ⟨v, b, e1, e2⟩ := g5 GD (by decide) (gb g (nI (base + ((D k).1 + 1))) (b2i false)) base w true false (RX_gb hx _ _) (gb_22 _ _ _) (gb_24 _ _ _)
      rw [gb_gb] at e1
      refine ⟨v, b, ?_, fun _ => e2.1 rfl rfl, fun c => absurd h13 c⟩
      rw [h13, if_pos (by decide), show ((1 : Int32)) = b2i true from rfl, e1, Option.bind_some]
    · have h13 : dq D k ≠ 13 := g1
      refine ⟨1, false, ?_, fun c => absurd c h13, fun _ => ⟨rfl, rfl⟩⟩
      rw [if_neg (show ¬ nI (rk (dq D k)) = 1 by rcases hq with e | e | e; · exact absurd e h13
                                                 · rw [e]; decide
                                                 · rw [e]; decide), g2]
  obtain ⟨v, b, e1, e2, e3⟩ := S1
  rw [e1]
  -- the test
  have S2 : ∃ x b2, j_X11_tells_119_68 (nI (rk hd)) (tv D w hd k) (nI (rk (dq D k))) v (gb g (nI (base + m)) (b2i b)) = j_X11_tells_153_68 (nI (rk hd)) (tv D w hd k) (nI (rk (dq D k))) v (b2i b) (b2i x) (gb g (nI (base + (D k).2.1)) (b2i b2)) ∧ ((x = true ∧ b2 = false) ↔ dτ D k w = some true) := by
    unfold j_X11_tells_119_68
    have kb := kd_bd hT q5
    rw [gb_s24, gb_24, show ((4 : Int32)) = nI 4 from rfl, r_passes (RX_gb hx _ _) q5 (gb_22 _ _ _) (by decide) kb, Option.bind_some]
    dsimp only
    have hr4 : rk (tkd T m) = 4 ↔ tkd T m = 23 := by
      by_cases h : tkd T m < 30
      · have : ∀ q, q < 30 → (rk q = 4 ↔ q = 23) := by decide
        exact this _ h
      · rw [rk_hi (by omega)]; omega
    rcases q7 with ⟨g1, g2, g3, g4⟩ | ⟨g1, g0, g2, g3, g4⟩
    · have n4 : ¬ rk (tkd T m) = 4 := fun e => g1 (hr4.mp e)
      refine ⟨true, false, ?_, fun _ => by rw [show dτ D k = fun _ => some true from g4], fun _ => ⟨rfl, rfl⟩⟩
      rw [decide_eq_false n4, if_neg (by decide), if_neg n4, g2]
      rfl
    · have n4 : rk (tkd T m) = 4 := hr4.mpr g1
      obtain ⟨x, b2, f1, f2⟩ := g4 GD (by decide) (gb g (nI (base + (m + 1))) (b2i false)) base w true false (RX_gb hx _ _) (gb_22 _ _ _) (gb_24 _ _ _)
      rw [gb_gb] at f1
      refine ⟨x, b2, ?_, ?_⟩
      · rw [decide_eq_true n4, if_pos rfl, if_pos n4, gb_gb, gb_24, Nat.add_assoc, show ((1 : Int32)) = b2i true from rfl, f1, Option.bind_some]
        cases x
        · rw [if_neg Bool.false_ne_true]; rfl
        · rw [if_pos rfl]
      · obtain ⟨f3, f4⟩ := f2.1 rfl rfl
        show _ ↔ dτ D k w = some true
        cases et : dτ D k w with
        | none => exact ⟨fun c => absurd (f4 et) (by rw [c.2]; decide), fun c => (by cases c)⟩
        | some y =>
          obtain ⟨f5, f6⟩ := f3 y et
          rw [f5, f6]
          exact ⟨fun c => by rw [c.1], fun c => ⟨Option.some.inj c, rfl⟩⟩
  obtain ⟨x, b2, e4, e5⟩ := S2
  rw [e4]
  have hrk : nI (rk (dq D k)) = nI (rk hd) ↔ dq D k = hd := by
    constructor
    · intro e
      rcases hq with h | h | h <;> rcases hhd with h' | h' | h' <;> rw [h, h'] at e ⊢ <;> first | rfl | (exact absurd e (by decide))
    · intro e; rw [e]
  have j208 : ∀ y : Int64, j_X11_tells_208_68 (nI (rk hd)) y (gb g (nI (base + (D k).2.1)) (b2i b2)) = some (.inl (y, gb g (nI (base + (D k).2.1 + 1)) (b2i b2))) := by
    intro y
    unfold j_X11_tells_208_68
    rw [gb_22, nI_1, gb_s22]
  refine ⟨b2, ?_⟩
  have tvs : tv D w hd (k + 1) = if dq D k = hd ∧ dτ D k w = some true ∧ b = false then (if 0 ≤ lg_cmp v 0 then (if lg_cmp v 9 ≤ 0 then v else 9) else 0) else tv D w hd k := by
    unfold tv
    by_cases h13 : hd = 13
    · subst h13
      rw [if_pos rfl, if_pos rfl]
      by_cases cq : dq D k = 13
      · obtain ⟨a1, a2⟩ := e2 cq
        have tl : tld D w (k + 1) = if dq D k = 13 ∧ dτ D k w = some true then (match dσ D k w with
          | some v => some (clp v)
          | none => tld D w k) else tld D w k := rfl
        by_cases ct : dτ D k w = some true
        · rw [if_pos ⟨cq, ct⟩] at tl
          cases es : dσ D k w with
          | none =>
            rw [es] at tl
            rw [tl, if_neg (fun d => by rw [a2 es] at d; exact absurd d.2.2 (by decide))]
          | some y =>
            rw [es] at tl
            obtain ⟨a3, a4⟩ := a1 y es
            rw [tl, if_pos ⟨cq, ct, a4⟩, a3, clpL]
        · rw [if_neg (fun d => ct d.2)] at tl
          rw [tl, if_neg (fun d => ct d.2.1)]
      · have tl : tld D w (k + 1) = tld D w k := by
          show (if dq D k = 13 ∧ dτ D k w = some true then _ else _) = _
          rw [if_neg (fun d => cq d.1)]
        rw [tl, if_neg (fun d => cq d.1)]
    · rw [if_neg h13, if_neg h13]
      have hl : hld D hd w (k + 1) = (hld D hd w k || decide (dq D k = hd ∧ dτ D k w = some true)) := rfl
      by_cases cq : dq D k = hd ∧ dτ D k w = some true
      · obtain ⟨a1, a2⟩ := e3 (by rw [cq.1]; exact h13)
        rw [hl, decide_eq_true cq, Bool.or_true, if_pos rfl, if_pos ⟨cq.1, cq.2, a2⟩, a1]
        rfl
      · rw [hl, decide_eq_false cq, Bool.or_false, if_neg (show ¬ (dq D k = hd ∧ dτ D k w = some true ∧ b = false) from fun d => cq ⟨d.1, d.2.1⟩)]
  rw [tvs]
  unfold j_X11_tells_153_68
  by_cases cq : dq D k = hd
  · rw [if_pos (hrk.mpr cq)]
    cases x with
    | false =>
      rw [if_pos (show b2i false = 0 from rfl), j208, if_neg (fun d => absurd (e5.mpr d.2.1).1 (by decide))]
    | true =>
      rw [if_neg (show ¬ b2i true = 0 by decide), gb_24]
      cases b2 with
      | true =>
        rw [if_neg (show ¬ b2i true = 0 by decide), j208, if_neg (fun d => absurd (e5.mpr d.2.1).2 (by decide))]
      | false =>
        rw [if_pos (show b2i false = 0 from rfl)]
        have ct := e5.mp ⟨rfl, rfl⟩
        cases b with
        | true => rw [if_neg (show ¬ b2i true = 0 by decide), j208, if_neg (fun d => absurd d.2.2 (by decide))]
        | false =>
          rw [if_pos (show b2i false = 0 from rfl), if_pos (show dq D k = hd ∧ dτ D k w = some true ∧ false = false from ⟨cq, ct, rfl⟩)]
          unfold j_X11_tells_206_68
          rw [j208, j208, j208]
          split
          · split <;> rfl
          · rfl
  · rw [if_neg (fun d => cq (hrk.mp d)), j208, if_neg (fun d => cq d.1)]
theorem m_tells {T : Tok} {n s t : Nat} {c mk : Nat → Int32} {D : DLs} (hT : TF T) (hn : 0 < n) (hn12 : n ≤ 12) (hD : ClD T (CdL T) c mk D n (tN T + 1) s) {h : Hp} {k p : Nat} (ht6 : t < 6) (hL : Laid T (aI h 83) t) (hf : aI h 83 54 = nI t) (hw : WF (aI h 83) k) (hp : p < k) (q o : Int32) (hq : (q = -1 ∧ o = -1) ∨ ∃ q', q' < k ∧ q = nI q' ∧ o = nI (nat3 (aI h 83) q')) {hd : Nat} (hhd : hd = 13 ∨ hd = 14 ∨ hd = 15) : ∃ h', f_X11_tells (nI (rk hd)) (nI p) q h = some ((tv D (envL (aI h 83) p o) hd n).toInt32, h') ∧ Fr tA tF h h' := by
  have hN := hT.1
  obtain ⟨g, a1, a2, a3⟩ := m_asked hw hp q o hq
  have g83 : aI g 83 = aI h 83 := a3.2.1 83 (by unfold tA; omega)
  unfold f_X11_tells
  rw [hf, if_neg (nI_ne1 (by omega)), a1, Option.bind_some]
  dsimp only
  have s54 : ∀ g' : Hp, g'.2 = g.2 → aI g' 83 = aI h 83 := fun g' hg => by rw [← g83]; unfold aI; rw [hg]
  have e54 : aI (sF g 81 25 (b2i false)) 83 54 = nI t := by show aI g 83 54 = _; rw [g83, hf]
  have e54' : ∀ x, aI (sF (sF g 81 25 (b2i false)) 81 22 x) 83 54 = nI t := fun x => by show aI g 83 54 = _; rw [g83, hf]
  rw [e54, show ((400 : Int32)) = nI 400 from rfl, pk_mul, e54', show ((55 : Int32)) = nI 55 from rfl, nI_add, inb_nI (show 55 + t < 5662 by omega) (by omega), Option.bind_some, fI_s]
  have e55 : aI (sF (sF g 81 25 (b2i false)) 81 22 (nI (400 * t))) 83 (55 + t) = nI (tN T) := by show aI g 83 _ = _; rw [g83, hL.1]
  rw [e55, nI_add]
  have F0 : Fr tA tF h (sF (sF (sF g 81 25 (b2i false)) 81 22 (nI (400 * t))) 81 23 (nI (400 * t + tN T))) := Fr_tF (Fr_tF (Fr_tF (Fr_mono a3 (fun _ c => c) (fun _ _ c => c.elim)) ⟨rfl, by omega, by omega⟩) ⟨rfl, by omega, by omega⟩) ⟨rfl, by omega, by omega⟩
  have hX0 : RX (tkd T) (tvl T) (tN T) (400 * t) false (envL (aI h 83) p o) (sF (sF (sF g 81 25 (b2i false)) 81 22 (nI (400 * t))) 81 23 (nI (400 * t + tN T))) := by
    refine ⟨fI_s, by omega, hT.2.1, fun x hx => ⟨(hT.2.2.1 x hx).2.1, ?_, ?_⟩, ?_, fun j b => ⟨fun _ q' hq' => ?_, fun c => (by cases c)⟩⟩
    · show aI g 83 _ = _
      rw [g83]; exact (hL.2 x hx).1
    · show aI g 83 _ = _
      rw [g83]; exact (hL.2 x hx).2
    · rw [fI_n (by omega), fI_n (by omega), fI_s]
    · exact a2 q' hq'
  have h22 : fI (sF (sF (sF g 81 25 (b2i false)) 81 22 (nI (400 * t))) 81 23 (nI (400 * t + tN T))) 81 22 = nI (400 * t) := by rw [fI_n (by omega), fI_s]
  generalize sF (sF (sF g 81 25 (b2i false)) 81 22 (nI (400 * t))) 81 23 (nI (400 * t + tN T)) = g0 at F0 hX0 h22
  have key := lp_inv (b := fun s : Int64 × Hp => b_X11_tells_68 (nI (rk hd)) s.1 s.2) (fun k st => st.1 = tv D (envL (aI h 83) p o) hd k ∧ (k < n → fI st.2 81 22 = nI (400 * t + (D k).1)) ∧ (k = n → fI st.2 81 22 = nI (400 * t + (tN T + 1))) ∧ RX (tkd T) (tvl T) (tN T) (400 * t) false (envL (aI h 83) p o) st.2 ∧ Fr tA tF h st.2) (fun e => e.1 = tv D (envL (aI h 83) p o) hd n ∧ Fr tA tF h e.2) n ((-1 : Int64), g0) (by omega) ⟨?_, fun _ => ?_, fun c => by omega, hX0, F0⟩ ?_ ?_
  · obtain ⟨e, k1, k2, k3⟩ := key
    refine ⟨e.2, ?_, k3⟩
    rw [k1, Option.bind_some, k2]
  · dsimp only
    unfold tv
    split
    · rfl
    · rfl
  · show fI g0 81 22 = _
    rw [h22, (hD 0 hn).2.2.2.2.2.1 rfl, Nat.add_zero]
  · rintro k ⟨x4, g1⟩ hk ⟨q1, q2, q3, q4, q5⟩
    dsimp only at q1 q2 q3 q4 q5
    subst q1
    left
    obtain ⟨b, e1⟩ := m_clause hT hD q4 hk (q2 hk) hhd
    refine ⟨_, e1, rfl, fun hk1 => ?_, fun hk1 => ?_, RX_gb q4 _ _, ?_⟩
    · rw [gb_22, (hD k hk).2.2.2.2.2.2.1 hk1, Nat.add_assoc]
    · rw [gb_22, (hD k hk).2.2.2.2.2.2.2 hk1, Nat.add_assoc]
    · exact Fr_tF (Fr_tF q5 ⟨rfl, by omega, by omega⟩) ⟨rfl, by omega, by omega⟩
  · rintro ⟨x4, g1⟩ ⟨q1, q2, q3, q4, q5⟩
    dsimp only at q1 q2 q3 q4 q5
    subst q1
    refine ⟨(tv D (envL (aI h 83) p o) hd n, g1), ?_, rfl, q5⟩
    show b_X11_tells_68 (nI (rk hd)) (tv D (envL (aI h 83) p o) hd n) g1 = _
    unfold b_X11_tells_68
    rw [q4.1, q3 rfl, if_pos (nI_le (by omega) (by omega))]
theorem RT_of {T : Tok} {n s t : Nat} {c mk : Nat → Int32} {D : DLs} {K0 : Nat → Int32} (hT : TF T) (hn : 0 < n) (hn12 : n ≤ 12) (hD : ClD T (CdL T) c mk D n (tN T + 1) s) (ht6 : t < 6) (hL : Laid T K0 t) (hf : K0 54 = nI t) : RT K0 (semL D n) := by
  intro h k p hK hw hm hp hi
  have hL' : Laid T (aI h 83) t := ⟨by rw [hK _ (by omega)]; exact hL.1, fun x hx => ⟨by rw [hK _ (by omega)]; exact (hL.2 x hx).1, by rw [hK _ (by omega)]; exact (hL.2 x hx).2⟩⟩
  have hf' : aI h 83 54 = nI t := by rw [hK _ (by omega)]; exact hf
  have t2 : ∀ hd, hd = 14 ∨ hd = 15 → ∀ w, decide (0 < (tv D w hd n).toInt32) = hld D hd w n := by
    intro hd h1 w
    unfold tv
    rw [if_neg (by omega)]
    cases hld D hd w n with
    | true => rw [if_pos rfl]; decide
    | false => rw [if_neg (by decide)]; decide
  refine ⟨?_, ?_, fun q hq => ?_⟩
  · obtain ⟨h', e1, e2⟩ := m_tells hT hn hn12 hD ht6 hL' hf' hw hp (-1) (-1) (Or.inl ⟨rfl, rfl⟩) (hd := 14) (by omega)
    exact ⟨_, h', e1, t2 14 (by omega) _, e2⟩
  · obtain ⟨h', e1, e2⟩ := m_tells hT hn hn12 hD ht6 hL' hf' hw hp (-1) (-1) (Or.inl ⟨rfl, rfl⟩) (hd := 15) (by omega)
    exact ⟨_, h', e1, t2 15 (by omega) _, e2⟩
  · obtain ⟨h', e1, e2⟩ := m_tells hT hn hn12 hD ht6 hL' hf' hw hp (nI q) (nI (nat3 (aI h 83) q)) (Or.inr ⟨q, hq, rfl, rfl⟩) (hd := 13) (by omega)
    refine ⟨h', ?_, e2⟩
    unfold f_X11_givesTo
    rw [show f_X11_tells 1 (nI p) (nI q) h = _ from e1, Option.bind_some]
    dsimp only
    show _ = some ((tld D (envL (aI h 83) p (nI (nat3 (aI h 83) q))) n).getD 1, h')
    unfold tv
    rw [if_pos rfl]
    rcases tld_9 D (envL (aI h 83) p (nI (nat3 (aI h 83) q))) n with e | ⟨t', t1, t2'⟩
    · rw [e]; rfl
    · rw [t2']
      show (if (nI t').toInt64.toInt32 = -1 then _ else _) = _
      rw [Int32.toInt32_toInt64, if_neg (nI_ne1 (by omega))]
      rfl
