/-! ===== what was before a move is kept ===== -/
theorem icp_n {a b c n0 n1 : Nat} (h1 : a + c ≤ n0) (h2 : b + c ≤ n1) (h3 : n0 < 2 ^ 31) (h4 : n1 < 2 ^ 31) : icp (nI a) (nI b) (nI c) n0 n1 = some (a, b, c) := by
  unfold icp
  rw [nI_clamp (by omega), nI_clamp (by omega), nI_clamp (by omega), if_pos ⟨nI_pos' (by omega), nI_pos' (by omega), nI_pos' (by omega), h1, h2⟩]
theorem r16a : ∀ nx, nx < 16 → nI (nx + 1) - nI (nx + 1) / 16 * 16 = nI ((nx + 1) % 16) := by decide
theorem r16b : ∀ nx, nx < 16 → nI nx + 16 - 1 - (nI nx + 16 - 1) / 16 * 16 = nI ((nx + 15) % 16) := by decide
theorem c_keep {h : Hp} {K : Nat → Int32} {nx u : Nat} (hR : RRh h 33 K) (e1 : fI h 10 1 = nI nx) (e2 : fI h 10 2 = nI u) (hn : nx < 16) (hu : u ≤ 16) (d : Int32) : ∃ h', f_X4_keep 10 d 33 h = some ((), h') ∧ fI h' 10 1 = nI ((nx + 1) % 16) ∧ fI h' 10 2 = nI (min (u + 1) 16) ∧ aI h' 11 (26 * nx) = d ∧ aI h' 11 (26 * nx + 1) = K 24 ∧ (∀ j, j < 6 → aI h' 11 (26 * nx + 2 + j) = K (18 + j)) ∧ (∀ j, j < 18 → aI h' 11 (26 * nx + 8 + j) = K j) ∧ (∀ i, ¬ (26 * nx ≤ i ∧ i < 26 * nx + 26) → aI h' 11 i = aI h 11 i) ∧ Fr (fun a => a = 11) (fun a _ => a = 10) h h' := by
  obtain ⟨r1, r2, r3, r4, r5, r6, r7⟩ := hR
  refine ⟨sF (sF (cpA (cpA (sA (sA h 11 (26 * nx) d) 11 (26 * nx + 1) (aI h 37 0)) 36 0 11 (26 * nx + 2) 6) 34 0 11 (26 * nx + 8) 18) 10 1 (nI ((nx + 1) % 16))) 10 2 (nI (min (u + 1) 16)), ?_, ?_, fI_s, ?_, ?_, fun j hj => ?_, fun j hj => ?_, fun i hi => ?_, ?_⟩
  · unfold f_X4_keep
    rw [e1, show ((26 : Int32)) = nI 26 from rfl, pk_mul, Nat.mul_comm nx 26, inb_nI (show 26 * nx < 416 by omega) (by omega), Option.bind_some, nI_1, inb_nI (show 26 * nx + 1 < 416 by omega) (by omega), Option.bind_some, l2_, nI_add, show icp (0 : Int32) (nI (26 * nx + 2)) (6 : Int32) 6 416 = some (0, 26 * nx + 2, 6) from icp_n (a := 0) (c := 6) (by omega) (by omega) (by omega) (by omega), Option.bind_some, show ((8 : Int32)) = nI 8 from rfl, nI_add, show icp (0 : Int32) (nI (26 * nx + 8)) (18 : Int32) 18 416 = some (0, 26 * nx + 8, 18) from icp_n (a := 0) (c := 18) (by omega) (by omega) (by omega) (by omega), Option.bind_some]
    dsimp only
    rw [ps_fC, ps_fC, ps_fA, ps_fA, e1, nI_1, r16a nx hn, fI_n (by omega), ps_fC, ps_fC, ps_fA, ps_fA, e2, nI_1, j_min, show ((16 : Int32)) = nI 16 from rfl, mnI_n _ _ (by omega) (by omega), Option.bind_some]
    rfl
  · rw [fI_n (by omega), fI_s]
  · rw [ps_aF, ps_aF, ps_aCs, pk_cpy_out (by omega), ps_aCs, pk_cpy_out (by omega), ps_aAs, pk_un (by omega), ps_aAs, pk_us]
  · rw [ps_aF, ps_aF, ps_aCs, pk_cpy_out (by omega), ps_aCs, pk_cpy_out (by omega), ps_aAs, pk_us]
    exact r5
  · rw [ps_aF, ps_aF, ps_aCs, pk_cpy_out (by omega), ps_aCs, pk_cpy_in (by omega) (by omega), show 0 + (26 * nx + 2 + j - (26 * nx + 2)) = j by omega, ps_aAn _ _ _ _ _ (by omega), ps_aAn _ _ _ _ _ (by omega)]
    exact r4 j hj
  · rw [ps_aF, ps_aF, ps_aCs, pk_cpy_in (by omega) (by omega), show 0 + (26 * nx + 8 + j - (26 * nx + 8)) = j by omega, ps_aCn _ _ _ _ _ _ _ (by omega), ps_aAn _ _ _ _ _ (by omega), ps_aAn _ _ _ _ _ (by omega)]
    exact r2 j hj
  · rw [ps_aF, ps_aF, ps_aCs, pk_cpy_out (by omega), ps_aCs, pk_cpy_out (by omega), ps_aAs, pk_un (by omega), ps_aAs, pk_un (by omega)]
  · exact Fr_tF (Fr_tF (Fr_tr (Fr_tr (Fr_tA (Fr_sA rfl) rfl) (Fr_cp rfl)) (Fr_cp rfl)) rfl) rfl
theorem m_keep52 {h : Hp} {v : Nat} (e : fI h 81 32 = nI v) (hv : v < 16) (d : Int32) : ∃ h', j_X11_keeps_52 d 26 h = some ((), h') ∧ fI h' 81 32 = nI (v + 1) ∧ (∀ i, i < 25 → aI h' 95 (26 * v + i) = aI h 83 i) ∧ aI h' 95 (26 * v + 25) = d ∧ (∀ i, i < 26 * v → aI h' 95 i = aI h 95 i) ∧ Fr (fun a => a = 95) (fun a j => a = 81 ∧ j = 32) h h' := by
  have key := lp_inv (b := fun s : Int32 × Hp => b_X11_keeps_54 d 26 s.1 s.2) (fun i s => s.1 = nI i ∧ (∀ j, j < i → aI s.2 95 (26 * v + j) = aI h 83 j) ∧ (∀ j, j < 26 * v → aI s.2 95 j = aI h 95 j) ∧ Fr (fun a => a = 95) noF h s.2) (fun g => (∀ j, j < 25 → aI g 95 (26 * v + j) = aI h 83 j) ∧ (∀ j, j < 26 * v → aI g 95 j = aI h 95 j) ∧ Fr (fun a => a = 95) noF h g) 25 ((0 : Int32), h) (by omega) ⟨rfl, fun j hj => absurd hj (Nat.not_lt_zero _), fun _ _ => rfl, Fr_rfl⟩ ?_ ?_
  · obtain ⟨g, k1, k2, k3, k4⟩ := key
    have e' : fI g 81 32 = nI v := by rw [k4.1 _ _ (fun c => c)]; exact e
    refine ⟨sF (sA g 95 (26 * v + 25) d) 81 32 (nI (v + 1)), ?_, fI_s, fun i hi => ?_, ?_, fun i hi => ?_, Fr_tF (Fr_tA (Fr_mono k4 (fun _ c => c) (fun _ _ c => c.elim)) rfl) ⟨rfl, rfl⟩⟩
    · unfold j_X11_keeps_52
      rw [k1, Option.bind_some, e', show ((26 : Int32)) = nI 26 from rfl, pk_mul, l25_, nI_add, inb_nI (show 26 * v + 25 < 416 by omega) (by omega), Option.bind_some, ps_fA, e', nI_1]
    · rw [ps_aF, ps_aAs, pk_un (by omega)]; exact k2 i hi
    · rw [ps_aF, ps_aAs, pk_us]
    · rw [ps_aF, ps_aAs, pk_un (by omega)]; exact k3 i hi
  · intro i s hi ⟨p1, p2, p3, p4⟩
    refine Or.inl ⟨(nI (i + 1), sA s.2 95 (26 * v + i) (aI s.2 83 i)), ?_, rfl, fun j hj => ?_, fun j hj => ?_, Fr_tA p4 rfl⟩
    · show b_X11_keeps_54 d 26 s.1 s.2 = _
      unfold b_X11_keeps_54
      rw [p1, if_neg (show ¬ (25 : Int32) ≤ nI i by rw [l25_, nI_le6 (by omega) (by omega)]; omega), inb_nI (show i < 5662 by omega) (by omega), Option.bind_some, p4.1 _ _ (fun c => c), e, show ((26 : Int32)) = nI 26 from rfl, pk_mul, nI_add, inb_nI (show 26 * v + i < 416 by omega) (by omega), Option.bind_some, nI_1]
    · show aI (sA s.2 95 (26 * v + i) (aI s.2 83 i)) 95 (26 * v + j) = _
      by_cases c : j = i
      · rw [c, aI_s, p4.2.1 83 (by omega)]
      · rw [aI_n (by omega)]; exact p2 j (by omega)
    · show aI (sA s.2 95 (26 * v + i) (aI s.2 83 i)) 95 j = _
      rw [aI_n (by omega)]; exact p3 j hj
  · intro s ⟨p1, p2, p3, p4⟩
    refine ⟨s.2, ?_, p2, p3, p4⟩
    show b_X11_keeps_54 d 26 s.1 s.2 = _
    unfold b_X11_keeps_54
    rw [p1, if_pos (show (25 : Int32) ≤ nI 25 by decide)]
theorem m_keeps {h : Hp} {u : Nat} (e : fI h 81 32 = nI u) (hu : u ≤ 16) (d : Int32) : ∃ h' v, f_X11_keeps d h = some ((), h') ∧ v = (if u = 16 then 15 else u) ∧ fI h' 81 32 = nI (v + 1) ∧ (∀ i, i < 25 → aI h' 95 (26 * v + i) = aI h 83 i) ∧ aI h' 95 (26 * v + 25) = d ∧ (∀ i, i < 26 * v → aI h' 95 i = if u = 16 then aI h 95 (i + 26) else aI h 95 i) ∧ Fr (fun a => a = 95) (fun a j => a = 81 ∧ j = 32) h h' := by
  by_cases c : u = 16
  · subst c
    have key := lp_inv (b := fun s : Int32 × Hp => b_X11_keeps_14 d 26 s.1 s.2) (fun i s => s.1 = nI i ∧ (∀ j, j < i → aI s.2 95 j = aI h 95 (j + 26)) ∧ (∀ j, i ≤ j → aI s.2 95 j = aI h 95 j) ∧ Fr (fun a => a = 95) noF h s.2) (fun g => (∀ j, j < 390 → aI g 95 j = aI h 95 (j + 26)) ∧ Fr (fun a => a = 95) noF h g) 390 ((0 : Int32), h) (by omega) ⟨rfl, fun j hj => absurd hj (Nat.not_lt_zero _), fun _ _ => rfl, Fr_rfl⟩ ?_ ?_
    · obtain ⟨g, k1, k2, k4⟩ := key
      have e' : fI g 81 32 = nI 16 := by rw [k4.1 _ _ (fun c => c)]; exact e
      obtain ⟨h', q1, q2, q3, q4, q5, q6⟩ := m_keep52 (h := sF g 81 32 (nI 15)) (v := 15) fI_s (by omega) d
      refine ⟨h', 15, ?_, rfl, q2, fun i hi => ?_, q4, fun i hi => ?_, Fr_tr (Fr_tF (Fr_mono k4 (fun _ c => c) (fun _ _ c => c.elim)) ⟨rfl, rfl⟩) q6⟩
      · unfold f_X11_keeps
        rw [e, if_pos (show nI 16 = 16 from rfl), k1, Option.bind_some, e']
        exact q1
      · rw [q3 i hi]
        show aI g 83 i = _
        rw [k4.2.1 83 (by omega)]
      · rw [if_pos rfl, q5 i hi]
        exact k2 i (by omega)
    · intro i s hi ⟨p1, p2, p3, p4⟩
      refine Or.inl ⟨(nI (i + 1), sA s.2 95 i (aI s.2 95 (i + 26))), ?_, rfl, fun j hj => ?_, fun j hj => ?_, Fr_tA p4 rfl⟩
      · show b_X11_keeps_14 d 26 s.1 s.2 = _
        unfold b_X11_keeps_14
        rw [p1, if_neg (show ¬ (15 : Int32) * 26 ≤ nI i by rw [show (15 : Int32) * 26 = nI 390 from rfl, nI_le6 (by omega) (by omega)]; omega), show ((26 : Int32)) = nI 26 from rfl, nI_add, inb_nI (show i + 26 < 416 by omega) (by omega), Option.bind_some, inb_nI (show i < 416 by omega) (by omega), Option.bind_some, nI_1]
      · show aI (sA s.2 95 i (aI s.2 95 (i + 26))) 95 j = _
        by_cases c : j = i
        · rw [c, aI_s]; exact p3 _ (by omega)
        · rw [aI_n (by omega)]; exact p2 j (by omega)
      · show aI (sA s.2 95 i (aI s.2 95 (i + 26))) 95 j = _
        rw [aI_n (by omega)]; exact p3 j (by omega)
    · intro s ⟨p1, p2, p3, p4⟩
      refine ⟨s.2, ?_, p2, p4⟩
      show b_X11_keeps_14 d 26 s.1 s.2 = _
      unfold b_X11_keeps_14
      rw [p1, if_pos (show (15 : Int32) * 26 ≤ nI 390 by decide)]
  · obtain ⟨h', q1, q2, q3, q4, q5, q6⟩ := m_keep52 (v := u) e (by omega) d
    refine ⟨h', u, ?_, by rw [if_neg c], q2, q3, q4, fun i hi => by rw [if_neg c]; exact q5 i hi, q6⟩
    unfold f_X11_keeps
    rw [e, if_neg (show ¬ nI u = 16 from fun f => c ((nI_eq (by omega) (by omega)).mp (show nI u = nI 16 from f)))]
    exact q1
/-- both keep it -/
theorem keep_both {h : Hp} {K : Nat → Int32} {k : Nat} (hp : PAS h K k) (hR : RRh h 33 K) (hw : WF K k) (hm : MOb K 999) {d : Nat} (hd : d < 4) : ∃ h1, f_X4_keep 10 (nI d) 33 h = some ((), h1) ∧ Fr (fun a => a = 11) (fun a _ => a = 10) h h1 ∧
    ∀ g, aI g 83 = K → aI g 95 = aI h 95 → fI g 81 32 = fI h 81 32 → ∃ g1, f_X11_keeps (nI d) g = some ((), g1) ∧ Fr (fun a => a = 95) (fun a j => a = 81 ∧ j = 32) g g1 ∧
    ∀ g2 K', aI g2 11 = aI h1 11 → fI g2 10 1 = fI h1 10 1 → fI g2 10 2 = fI h1 10 2 → aI g2 95 = aI g1 95 → fI g2 81 32 = fI g1 81 32 → (∀ i, (25 ≤ i ∧ i ≤ 30 ∨ 49 ≤ i ∧ i ≤ 51) → K' i = K i) → PAS g2 K' k := by
  obtain ⟨nx, u, p1, p2, p3, p4, p5, p6⟩ := hp
  obtain ⟨h1, a1, a2, a3, a4, a5, a6, a7, a8, a9⟩ := c_keep hR p3 p4 p1 p2 (nI d)
  refine ⟨h1, a1, a9, fun g g1 g2 g3 => ?_⟩
  obtain ⟨g', v, b1, b2, b3, b4, b5, b6, b7⟩ := m_keeps (h := g) (u := u) (by rw [g3]; exact p5) p2 (nI d)
  refine ⟨g', b1, b7, fun q K' c1 c2 c3 c4 c5 c6 => ?_⟩
  have hv : v + 1 = min (u + 1) 16 ∧ v < 16 ∧ (u = 16 → v = 15) ∧ (u ≠ 16 → v = u) := by
    by_cases c : u = 16
    · rw [if_pos c] at b2; omega
    · rw [if_neg c] at b2; omega
  refine ⟨(nx + 1) % 16, v + 1, Nat.mod_lt _ (by omega), by omega, by rw [c2]; exact a2, by rw [c3, hv.1]; exact a3, by rw [c5]; exact b3, fun e he => ?_⟩
  rw [c1, c4]
  by_cases ce : e = v
  · have er : rg ((nx + 1) % 16) (v + 1) e = 26 * nx := by
      unfold rg
      have : ((nx + 1) % 16 + 16 - (v + 1) + e) % 16 = nx := by omega
      rw [this]
    have hq : ∀ i, i < 25 → aI g' 95 (26 * e + i) = K i := fun i hi => by rw [ce, b4 i hi, g1]
    rw [er, ce]
    rw [ce] at hq
    refine ⟨⟨d, hd, a4, b5⟩, ?_, fun j hj => ?_, fun j hj => ?_, ?_, ?_⟩
    · rw [a5, hq 24 (by omega)]
    · rw [a6 j hj, show 26 * v + 18 + j = 26 * v + (18 + j) by omega, hq _ (by omega)]
    · rw [a7 j hj, hq _ (by omega)]
    · refine WF_ag hw (fun i hi => ?_)
      unfold mvK
      by_cases c : i < 25
      · rw [if_pos c]; exact hq i c
      · rw [if_neg c]; exact c6 i (by omega)
    · obtain ⟨m, m1, m2⟩ := hm
      exact ⟨m, m1, by show aI g' 95 (26 * v + 24) = _; rw [hq 24 (by omega)]; exact m2⟩
  · have hev : e < v := by omega
    obtain ⟨e0, f1, f2, f3, f4⟩ : ∃ e0, e0 < u ∧ (nx + 16 - u + e0) % 16 = ((nx + 1) % 16 + 16 - (v + 1) + e) % 16 ∧ (nx + 16 - u + e0) % 16 ≠ nx ∧ (if u = 16 then e0 = e + 1 else e0 = e) := by
      by_cases c : u = 16
      · exact ⟨e + 1, by omega, by omega, by omega, by rw [if_pos c]⟩
      · exact ⟨e, by omega, by omega, by omega, by rw [if_neg c]⟩
    have er : rg ((nx + 1) % 16) (v + 1) e = rg nx u e0 := by
      unfold rg
      rw [f2]
    have hr : ∀ j, j < 26 → aI h1 11 (rg nx u e0 + j) = aI h 11 (rg nx u e0 + j) := fun j hj => a8 _ (by unfold rg; omega)
    have hq : ∀ i, i < 26 → aI g' 95 (26 * e + i) = aI h 95 (26 * e0 + i) := fun i hi => by
      rw [b6 _ (by omega), ← g2]
      by_cases c : u = 16
      · rw [if_pos c] at f4 ⊢
        rw [show 26 * e + i + 26 = 26 * e0 + i by omega]
      · rw [if_neg c] at f4 ⊢
        rw [f4]
    obtain ⟨⟨d', d1, d2, d3⟩, q2, q3, q4, q5, q6⟩ := p6 e0 f1
    rw [er]
    refine ⟨⟨d', d1, by rw [show rg nx u e0 = rg nx u e0 + 0 from rfl, hr 0 (by omega)]; exact d2, by rw [hq 25 (by omega)]; exact d3⟩, ?_, fun j hj => ?_, fun j hj => ?_, ?_, ?_⟩
    · rw [hr 1 (by omega), hq 24 (by omega)]; exact q2
    · rw [Nat.add_assoc, hr _ (by omega), Nat.add_assoc, hq _ (by omega)]
      have := q3 j hj
      rw [Nat.add_assoc, Nat.add_assoc] at this
      exact this
    · rw [Nat.add_assoc, hr _ (by omega), hq _ (by omega)]
      have := q4 j hj
      rw [Nat.add_assoc] at this
      exact this
    · refine WF_ag q5 (fun i hi => ?_)
      unfold mvK
      by_cases c : i < 25
      · rw [if_pos c, if_pos c]; exact hq i (by omega)
      · rw [if_neg c, if_neg c]; exact c6 i (by omega)
    · obtain ⟨m, m1, m2⟩ := q6
      exact ⟨m, m1, by show aI g' 95 (26 * e + 24) = _; rw [hq 24 (by omega)]; exact m2⟩
