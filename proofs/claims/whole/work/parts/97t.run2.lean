/-! ===== all orders ===== -/
section RN2
variable {hc0 g0 : Hp} {K0 : Nat → Int32} {k : Nat} {T : Tok} {a n s : Nat} {c mk : Nat → Int32} {D : DOs}
theorem o_inner (hX : RnC hc0 K0 T a n s c mk D) {kk d : Nat} {x3 : Int32} {hc g : Hp} (hk : kk < n) (hs : SmO hc0 g0 K0 k d hc g) (hd : d ≤ 600) (e47 : fI g 81 47 = nI (2400 + (D kk).1)) :
    ∃ e f, lp (fun s => b_X0_run_53_43 a (nI kk) s.1 s.2) FU ((0 : Int32), hc) = some e ∧ lp (fun s => b_X11_runs_19 (nI (2400 + tN T)) (nI (otm D kk)) x3 s.1 s.2) FU ((0 : Int32), g) = some f ∧ ((∃ hc' g', e = .inl hc' ∧ f = .inl g' ∧ SmO hc0 g0 K0 k (d + 20) hc' g') ∨ (∃ hc' g', e = .inr hc' ∧ f = .inr g' ∧ Fr rcA rcF hc0 hc' ∧ Fr rrA rrF g0 g' ∧ ∀ i, 25 ≤ i → aI g' 83 i = K0 i)) := by
  obtain ⟨ht, ha, hT, hL0, hD, hlaw⟩ := id hX
  obtain ⟨tm20, hq, mkq, mkt⟩ := otm_le hD hk
  have n12 : n ≤ 12 := ht.2.2.2.2.2.2.2.1
  refine lp_pair (b := fun s : Int32 × Hp => b_X0_run_53_43 a (nI kk) s.1 s.2) (b' := fun s : Int32 × Hp => b_X11_runs_19 (nI (2400 + tN T)) (nI (otm D kk)) x3 s.1 s.2) (fun i s t => s.1 = nI i ∧ t.1 = nI i ∧ SmO hc0 g0 K0 k (d + i) s.2 t.2 ∧ fI t.2 81 47 = nI (2400 + (D kk).1)) (fun e f => (∃ hc' g', e = .inl hc' ∧ f = .inl g' ∧ SmO hc0 g0 K0 k (d + 20) hc' g') ∨ (∃ hc' g', e = .inr hc' ∧ f = .inr g' ∧ Fr rcA rcF hc0 hc' ∧ Fr rrA rrF g0 g' ∧ ∀ i, 25 ≤ i → aI g' 83 i = K0 i)) (otm D kk) ((0 : Int32), hc) ((0 : Int32), g) (by omega) ⟨rfl, rfl, hs, e47⟩ ?_ ?_
  · rintro i ⟨s1, s2⟩ ⟨t1, t2⟩ hi ⟨q1, q2, q3, q4⟩
    dsimp only at q1 q2 q3 q4
    subst q1
    subst q2
    rcases o_turn (x3 := x3) hX hk hi q3 (by omega) q4 with ⟨hc', g', z1, z2, z3, z4⟩ | ⟨hc', g', z1, z2, z3, z4, z5⟩
    · exact Or.inl ⟨(nI (i + 1), hc'), (nI (i + 1), g'), z1, z2, rfl, rfl, z3, z4.trans q4⟩
    · exact Or.inr ⟨.inr hc', .inr g', z1, z2, Or.inr ⟨hc', g', rfl, rfl, z3, z4, z5⟩⟩
  · rintro ⟨s1, s2⟩ ⟨t1, t2⟩ ⟨q1, q2, q3, q4⟩
    dsimp only at q1 q2 q3 q4
    subst q1
    subst q2
    obtain ⟨K, dn, lt, -, -, -, -, -, -, -, FC, -⟩ := id q3
    have hS := rc_tx ha ht.2.1 FC
    refine ⟨.inl s2, .inl t2, ?_, ?_, Or.inl ⟨s2, t2, rfl, rfl, SmO_le q3 (by omega)⟩⟩
    · show b_X0_run_53_43 a (nI kk) (nI (otm D kk)) s2 = _
      unfold b_X0_run_53_43
      rw [if_pos hS.2.2.2.2.2.2, show f_X9_markOf a (nI kk) (1 : Int32) s2 = some (mk (6 * kk + 1)) from x_mark (TxI_same ht hS) hk (show 1 < 6 by omega), Option.bind_some, mkt, if_pos (Int32.le_refl _)]
    · show b_X11_runs_19 (nI (2400 + tN T)) (nI (otm D kk)) x3 (nI (otm D kk)) t2 = _
      unfold b_X11_runs_19
      rw [if_pos (Int32.le_refl _)]
theorem o_outer (hX : RnC hc0 K0 T a n s c mk D) (hn0 : 0 < n) {x1 : Int32} {hc g : Hp} (hs : SmO hc0 g0 K0 k 0 hc g) (e47 : fI g 81 47 = nI 2400) :
    ∃ e f, lp (fun s => b_X0_run_43 a s.1 s.2) FU ((0 : Int32), hc) = some e ∧ lp (fun s => b_X11_orders_95 x1 (nI (2400 + tN T)) s.1 s.2) FU ((0 : Int32), g) = some f ∧ ((∃ hc' g', e = .inl hc' ∧ f = .inl g' ∧ SmO hc0 g0 K0 k 240 hc' g') ∨ (∃ kk hc' g', kk < n ∧ e = .inr (nI kk, hc') ∧ f = .inr (nI kk, g') ∧ Fr rcA rcF hc0 hc' ∧ Fr rrA rrF g0 g' ∧ ∀ i, 25 ≤ i → aI g' 83 i = K0 i)) := by
  obtain ⟨ht, ha, hT, hL0, hD, hlaw⟩ := id hX
  have n12 : n ≤ 12 := ht.2.2.2.2.2.2.2.1
  have hN := hT.1
  refine lp_pair (b := fun s : Int32 × Hp => b_X0_run_43 a s.1 s.2) (b' := fun s : Int32 × Hp => b_X11_orders_95 x1 (nI (2400 + tN T)) s.1 s.2) (fun i s t => s.1 = nI i ∧ t.1 = nI i ∧ SmO hc0 g0 K0 k (20 * i) s.2 t.2 ∧ (i < n → fI t.2 81 47 = nI (2400 + (D i).1)) ∧ (i = n → fI t.2 81 47 = nI (2400 + (tN T + 1)))) (fun e f => (∃ hc' g', e = .inl hc' ∧ f = .inl g' ∧ SmO hc0 g0 K0 k 240 hc' g') ∨ (∃ kk hc' g', kk < n ∧ e = .inr (nI kk, hc') ∧ f = .inr (nI kk, g') ∧ Fr rcA rcF hc0 hc' ∧ Fr rrA rrF g0 g' ∧ ∀ i, 25 ≤ i → aI g' 83 i = K0 i)) n ((0 : Int32), hc) ((0 : Int32), g) (by omega) ⟨rfl, rfl, hs, fun _ => ?_, fun d => by omega⟩ ?_ ?_
  · show fI g 81 47 = _
    rw [e47, (hD 0 hn0).2.2.2.2.2.1 rfl]
  · rintro i ⟨s1, s2⟩ ⟨t1, t2⟩ hi ⟨q1, q2, q3, q4, q5⟩
    dsimp only at q1 q2 q3 q4 q5
    subst q1
    subst q2
    obtain ⟨K, dn, lt, hM, hdn, c4, r27, c5, r28, hlt, FC, FR⟩ := id q3
    obtain ⟨hR, e83, hp, hw, hm, hk0⟩ := id hM
    have hS := rc_tx ha ht.2.1 FC
    have hL : LdO T K := fun x hx => by rw [hk0 _ (by omega), hk0 _ (by omega)]; exact hL0 x hx
    have e47 := q4 hi
    obtain ⟨hDi, hDs, hDa, hDb, hDc, hDd, hDe, hDf⟩ := hD i hi
    have hlt2 : (D i).1 < tN T := by omega
    obtain ⟨sA, tI, x', z1, z2, z3, z4, z5, z6, z7, -⟩ := m_along (k := k) (dn := nI dn) (lt := lt) hT hL hw hD hi e83 r27 r28 e47 false
    have hs' : SmO hc0 g0 K0 k (20 * i) s2 x' := by
      refine ⟨K, dn, lt, MvK_tr (A := noA) (F := noF) hM Fr_rfl z7 (fun _ c => c.elim) (fun _ _ c => c.elim) (fun a c => by omega) (fun a j c => by unfold gF at c; omega), hdn, c4, by rw [z7.1 _ _ (by unfold gF; omega)]; exact r27, c5, by rw [z7.1 _ _ (by unfold gF; omega)]; exact r28, hlt, FC, Fr_tr FR (Fr_mono z7 (fun _ c => Or.inr (Or.inr c)) (fun a j c => by unfold gF at c; unfold rrF tF; omega))⟩
    have x47 : fI x' 81 47 = nI (2400 + (D i).1) := by rw [z7.1 _ _ (by unfold gF; omega)]; exact e47
    obtain ⟨e, f, y1, y2, y3⟩ := o_inner (x3 := fI x' 81 22) hX hi hs' (by omega) x47
    have f2n : fI s2 a 2 = nI n := hS.1.trans ht.2.2.1
    have bc : b_X0_run_43 a (nI i) s2 = sc e (fun e21 => some (.inl (nI (i + 1), e21))) (fun e22 => some (.inr (.inr (nI i, e22)))) := by
      unfold b_X0_run_43
      rw [if_pos hS.2.2.2.2.2.2, f2n, if_neg (nI_ge hi (by omega)), y1, Option.bind_some, nI_1]
      rfl
    have br : b_X11_orders_95 x1 (nI (2400 + tN T)) (nI i) t2 = sc f (fun e13 => some (.inl (nI (i + 1), sF e13 81 47 (nI (2400 + ((D i).2.1 + 1)))))) (fun e14 => some (.inr (.inr (nI i, e14)))) := by
      unfold b_X11_orders_95 f_X11_runs
      rw [e47, if_neg (nI_ge (by omega) (by omega)), show f_X11_goesAlong (nI (2400 + tN T)) (0 : Int32) t2 = some ((), x') from z1, Option.bind_some]
      show ((lp (fun s => b_X11_runs_19 (nI (2400 + tN T)) (fI x' 81 48) (fI x' 81 22) s.1 s.2) FU ((0 : Int32), x')).bind _).bind _ = _
      rw [z3, y2, Option.bind_some]
      cases f with
      | inl e13 =>
        rw [sc_l, sc_l, Option.bind_some, if_pos rfl, nI_1]
        show some (Sum.inl (nI (i + 1), sF e13 81 47 (fI x' 81 22))) = _
        rw [z2]
      | inr e14 =>
        rw [sc_r, sc_r, Option.bind_some, if_neg Bool.false_ne_true]
        rfl
    rcases y3 with ⟨hc', g', w1, w2, w3⟩ | ⟨hc', g', w1, w2, w3, w4, w5⟩
    · subst w1
      subst w2
      refine Or.inl ⟨(nI (i + 1), hc'), (nI (i + 1), sF g' 81 47 (nI (2400 + ((D i).2.1 + 1)))), bc, br, rfl, rfl, ?_, fun hi2 => ?_, fun hi2 => ?_⟩
      · obtain ⟨K', dn', lt', v1, v2, v3, v4, v5, v6, v7, v8, v9⟩ := w3
        exact ⟨K', dn', lt', MvK_tr (A := noA) (A' := noA) (F := noF) (F' := fun a j => a = 81 ∧ j = 47) v1 Fr_rfl (Fr_sF ⟨rfl, rfl⟩) (fun _ c => c.elim) (fun _ _ c => c.elim) (fun _ c => c.elim) (fun a j c => by omega), by omega, v3, by rw [fI_n (by omega)]; exact v4, v5, by rw [fI_n (by omega)]; exact v6, v7, v8, Fr_tF v9 (Or.inr ⟨rfl, by omega⟩)⟩
      · show fI (sF g' 81 47 _) 81 47 = _
        rw [fI_s, hDe hi2]
      · show fI (sF g' 81 47 _) 81 47 = _
        rw [fI_s, hDf hi2]
    · subst w1
      subst w2
      exact Or.inr ⟨.inr (nI i, hc'), .inr (nI i, g'), bc, br, Or.inr ⟨i, hc', g', hi, rfl, rfl, w3, w4, w5⟩⟩
  · rintro ⟨s1, s2⟩ ⟨t1, t2⟩ ⟨q1, q2, q3, q4, q5⟩
    dsimp only at q1 q2 q3 q4 q5
    subst q1
    subst q2
    obtain ⟨K, dn, lt, -, -, -, -, -, -, -, FC, -⟩ := id q3
    have hS := rc_tx ha ht.2.1 FC
    have f2n : fI s2 a 2 = nI n := hS.1.trans ht.2.2.1
    refine ⟨.inl s2, .inl t2, ?_, ?_, Or.inl ⟨s2, t2, rfl, rfl, SmO_le q3 (by omega)⟩⟩
    · show b_X0_run_43 a (nI n) s2 = _
      unfold b_X0_run_43
      rw [if_pos hS.2.2.2.2.2.2, f2n, if_pos (Int32.le_refl _)]
    · show b_X11_orders_95 x1 (nI (2400 + tN T)) (nI n) t2 = _
      unfold b_X11_orders_95
      rw [q5 rfl, if_pos (nI_le (by omega) (by omega))]
end RN2
/-- the class's past copied -/
theorem c_pastcp {h : Hp} {r t : Nat} (hrt : r + 2 ≤ t ∨ t + 2 ≤ r) : ∃ h', f_X4_copyFrom r t h = some ((), h') ∧ (∀ i, i < 416 → aI h' (r + 1) i = aI h (t + 1) i) ∧ fI h' r 1 = fI h t 1 ∧ fI h' r 2 = fI h t 2 ∧ Fr (fun a => a = r + 1) (fun a j => a = r ∧ (j = 1 ∨ j = 2)) h h' := by
  have ic : icp (0 : Int32) (0 : Int32) (416 : Int32) 416 416 = some (0, 0, 416) := icp_n (a := 0) (b := 0) (c := 416) (by omega) (by omega) (by omega) (by omega)
  refine ⟨sF (sF (cpA h (t + 1) 0 (r + 1) 0 416) r 1 (fI h t 1)) r 2 (fI h t 2), ?_, fun i hi => ?_, ?_, fI_s, ?_⟩
  · unfold f_X4_copyFrom
    rw [ic, Option.bind_some]
    dsimp only
    rw [ps_fC, fI_n (by omega), ps_fC]
  · rw [ps_aF, ps_aF, ps_aCs, pk_cpy_in (by omega) (by omega), Nat.sub_zero, Nat.zero_add]
  · rw [fI_n (by omega), fI_s]
  · exact Fr_tF (Fr_tF (Fr_cp rfl) ⟨rfl, Or.inl rfl⟩) ⟨rfl, Or.inr rfl⟩
theorem m_lcp {h : Hp} : ∃ h', lp (fun s => b_X11_orders_27 s.1 s.2) FU ((0 : Int32), h) = some h' ∧ (∀ i, i < 416 → aI h' 96 i = aI h 95 i) ∧ Fr (fun a => a = 96) noF h h' := by
  refine lp_inv (b := fun s : Int32 × Hp => b_X11_orders_27 s.1 s.2) (fun i s => s.1 = nI i ∧ (∀ j, j < i → aI s.2 96 j = aI h 95 j) ∧ Fr (fun a => a = 96) noF h s.2) (fun e => (∀ j, j < 416 → aI e 96 j = aI h 95 j) ∧ Fr (fun a => a = 96) noF h e) 416 ((0 : Int32), h) (by omega) ⟨rfl, fun j hj => absurd hj (Nat.not_lt_zero _), Fr_rfl⟩ ?_ ?_
  · intro i s hi ⟨p1, p2, p4⟩
    refine Or.inl ⟨(nI (i + 1), sA s.2 96 i (aI s.2 95 i)), ?_, rfl, fun j hj => ?_, Fr_tA p4 rfl⟩
    · show b_X11_orders_27 s.1 s.2 = _
      unfold b_X11_orders_27
      rw [p1, if_neg (show ¬ (416 : Int32) ≤ nI i from nI_ge (b := 416) hi (by omega)), inb_nI hi (by omega), Option.bind_some, Option.bind_some, nI_1]
    · show aI (sA s.2 96 i (aI s.2 95 i)) 96 j = _
      by_cases c : j = i
      · rw [c, aI_s, p4.2.1 95 (by omega)]
      · rw [aI_n c]; exact p2 j (by omega)
  · intro s ⟨p1, p2, p4⟩
    refine ⟨s.2, ?_, p2, p4⟩
    show b_X11_orders_27 s.1 s.2 = _
    unfold b_X11_orders_27
    rw [p1, if_pos (show (416 : Int32) ≤ nI 416 by decide)]
theorem m_lcb {h : Hp} {x1 x3 : Int32} : ∃ h', lp (fun s => b_X11_orders_122 x1 x3 s.1 s.2) FU ((0 : Int32), h) = some h' ∧ (∀ i, i < 416 → aI h' 95 i = aI h 96 i) ∧ Fr (fun a => a = 95) noF h h' := by
  refine lp_inv (b := fun s : Int32 × Hp => b_X11_orders_122 x1 x3 s.1 s.2) (fun i s => s.1 = nI i ∧ (∀ j, j < i → aI s.2 95 j = aI h 96 j) ∧ Fr (fun a => a = 95) noF h s.2) (fun e => (∀ j, j < 416 → aI e 95 j = aI h 96 j) ∧ Fr (fun a => a = 95) noF h e) 416 ((0 : Int32), h) (by omega) ⟨rfl, fun j hj => absurd hj (Nat.not_lt_zero _), Fr_rfl⟩ ?_ ?_
  · intro i s hi ⟨p1, p2, p4⟩
    refine Or.inl ⟨(nI (i + 1), sA s.2 95 i (aI s.2 96 i)), ?_, rfl, fun j hj => ?_, Fr_tA p4 rfl⟩
    · show b_X11_orders_122 x1 x3 s.1 s.2 = _
      unfold b_X11_orders_122
      rw [p1, if_neg (show ¬ (416 : Int32) ≤ nI i from nI_ge (b := 416) hi (by omega)), inb_nI hi (by omega), Option.bind_some, Option.bind_some, nI_1]
    · show aI (sA s.2 95 i (aI s.2 96 i)) 95 j = _
      by_cases c : j = i
      · rw [c, aI_s, p4.2.1 96 (by omega)]
      · rw [aI_n c]; exact p2 j (by omega)
  · intro s ⟨p1, p2, p4⟩
    refine ⟨s.2, ?_, p2, p4⟩
    show b_X11_orders_122 x1 x3 s.1 s.2 = _
    unfold b_X11_orders_122
    rw [p1, if_pos (show (416 : Int32) ≤ nI 416 by decide)]
