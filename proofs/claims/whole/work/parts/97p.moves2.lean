/-! ===== moves, the class's on one heap, the reference's on another ===== -/
def comb (hc g : Hp) : Hp := (fun a k => if a = 81 then fI g a k else fI hc a k, fun a i => if a = 95 then aI g a i else aI hc a i, hc.2.2)
theorem cb_f {hc g : Hp} {a k : Nat} (ha : a ≠ 81) : fI (comb hc g) a k = fI hc a k := if_neg ha
theorem cb_g {hc g : Hp} {k : Nat} : fI (comb hc g) 81 k = fI g 81 k := rfl
theorem cb_a {hc g : Hp} {a : Nat} (ha : a ≠ 95) : aI (comb hc g) a = aI hc a := by
  funext i
  exact if_neg ha
theorem cb_95 {hc g : Hp} : aI (comb hc g) 95 = aI g 95 := by
  funext i
  rfl
/-- PAS over two heaps -/
def PAS2 (hc g : Hp) (K : Nat → Int32) (k : Nat) : Prop := PAS (comb hc g) K k
theorem PAS2_of {h hc g : Hp} {K : Nat → Int32} {k : Nat} (hp : PAS h K k) (e1 : aI hc 11 = aI h 11) (e2 : fI hc 10 1 = fI h 10 1) (e3 : fI hc 10 2 = fI h 10 2) (e4 : aI g 95 = aI h 95) (e5 : fI g 81 32 = fI h 81 32) : PAS2 hc g K k := by
  obtain ⟨nx, u, p1, p2, p3, p4, p5, p6⟩ := hp
  exact ⟨nx, u, p1, p2, by rw [cb_f (by omega), e2]; exact p3, by rw [cb_f (by omega), e3]; exact p4, by rw [cb_g, e5]; exact p5, by rw [cb_a (by omega), cb_95, e1, e4]; exact p6⟩
theorem PAS_of2 {h hc g : Hp} {K : Nat → Int32} {k : Nat} (hp : PAS2 hc g K k) (e1 : aI h 11 = aI hc 11) (e2 : fI h 10 1 = fI hc 10 1) (e3 : fI h 10 2 = fI hc 10 2) (e4 : aI h 95 = aI g 95) (e5 : fI h 81 32 = fI g 81 32) : PAS h K k := by
  obtain ⟨nx, u, p1, p2, p3, p4, p5, p6⟩ := hp
  rw [cb_f (by omega)] at p3 p4
  rw [cb_g] at p5
  rw [cb_a (by omega), cb_95] at p6
  exact ⟨nx, u, p1, p2, by rw [e2]; exact p3, by rw [e3]; exact p4, by rw [e5]; exact p5, by rw [e1, e4]; exact p6⟩
theorem keep2 {hc g : Hp} {K : Nat → Int32} {k : Nat} (hp : PAS2 hc g K k) (hR : RRh hc 33 K) (hw : WF K k) (hm : MOb K 999) {d : Nat} (hd : d < 4) (e83 : aI g 83 = K) : ∃ h1 g1, f_X4_keep 10 (nI d) 33 hc = some ((), h1) ∧ Fr (fun a => a = 11) (fun a _ => a = 10) hc h1 ∧ f_X11_keeps (nI d) g = some ((), g1) ∧ Fr (fun a => a = 95) (fun a j => a = 81 ∧ j = 32) g g1 ∧ ∀ hc2 g2 K', aI hc2 11 = aI h1 11 → fI hc2 10 1 = fI h1 10 1 → fI hc2 10 2 = fI h1 10 2 → aI g2 95 = aI g1 95 → fI g2 81 32 = fI g1 81 32 → (∀ i, (25 ≤ i ∧ i ≤ 30 ∨ 49 ≤ i ∧ i ≤ 51) → K' i = K i) → PAS2 hc2 g2 K' k := by
  have hR2 : RRh (comb hc g) 33 K := by
    unfold RRh at hR ⊢
    rw [cb_f (by omega), cb_a (by omega), cb_a (by omega), cb_a (by omega), cb_a (by omega)]
    exact hR
  obtain ⟨hh, a1, a2, a3⟩ := keep_both (h := comb hc g) hp hR2 hw hm hd
  obtain ⟨g1, b1, b2, b3⟩ := a3 g e83 cb_95.symm cb_g.symm
  obtain ⟨nx, u, p1, p2, p3, p4, -, -⟩ := id hp
  obtain ⟨h1, c1, c2, c3, c4, c5, c6, c7, c8, c9⟩ := c_keep hR (by rw [← p3, cb_f (by omega)]) (by rw [← p4, cb_f (by omega)]) p1 p2 (nI d)
  obtain ⟨hh', d1, d2, d3, d4, d5, d6, d7, d8, d9⟩ := c_keep hR2 p3 p4 p1 p2 (nI d)
  have eh : hh' = hh := congrArg Prod.snd (Option.some.inj (d1.symm.trans a1))
  subst eh
  have e11 : aI hh' 11 = aI h1 11 := by
    funext i
    by_cases c : 26 * nx ≤ i ∧ i < 26 * nx + 26
    · rcases (show i = 26 * nx ∨ i = 26 * nx + 1 ∨ (26 * nx + 2 ≤ i ∧ i < 26 * nx + 8) ∨ (26 * nx + 8 ≤ i ∧ i < 26 * nx + 26) by omega) with e | e | e | e
      · rw [e, d4, c4]
      · rw [e, d5, c5]
      · obtain ⟨j, hj⟩ : ∃ j, i = 26 * nx + 2 + j := ⟨i - (26 * nx + 2), by omega⟩
        rw [hj, d6 j (by omega), c6 j (by omega)]
      · obtain ⟨j, hj⟩ : ∃ j, i = 26 * nx + 8 + j := ⟨i - (26 * nx + 8), by omega⟩
        rw [hj, d7 j (by omega), c7 j (by omega)]
    · rw [d8 i c, c8 i c, cb_a (by omega)]
  refine ⟨h1, g1, c1, c9, b1, b2, fun hc2 g2 K' z1 z2 z3 z4 z5 z6 => ?_⟩
  exact b3 (comb hc2 g2) K' (by rw [cb_a (by omega), z1, e11]) (by rw [cb_f (by omega), z2, d2, c2]) (by rw [cb_f (by omega), z3, d3, c3]) (by rw [cb_95, z4]) (by rw [cb_g, z5]) z6
/-- what a number out of a sum is, as the reference takes it -/
def smI (x : Int32) : Int32 := if x < 0 then -1 else if x ≤ 1000000 then x else -1
theorem m_small (x : Int32) : f_X11_small x.toInt64 = some (smI x) := by
  unfold f_X11_small smI
  have e0 : (0 : Int64) = Int32.toInt64 0 := rfl
  have e6 : (1000000 : Int64) = Int32.toInt64 1000000 := by decide
  by_cases c : x < 0
  · rw [if_pos c, if_pos (by rw [lg_lt, e0, toL_lt]; exact c)]
  · rw [if_neg c, if_neg (by rw [lg_lt, e0, toL_lt]; exact c)]
    by_cases d : x ≤ 1000000
    · rw [if_pos d, if_pos (by rw [lg_le, e6, toL_le]; exact d)]
      congr 1
      exact Int32.toInt32_toInt64 x
    · rw [if_neg d, if_neg (by rw [lg_le, e6, toL_le]; exact d)]
theorem smI_n {n : Nat} (h : n ≤ 1000000) : smI (nI n) = nI n := by
  unfold smI
  rw [if_neg (nI_pos (by omega)), if_pos (show nI n ≤ (1000000 : Int32) from nI_le (b := 1000000) h (by omega))]
theorem smI_o {x : Int32} {n : Nat} (hn : n ≤ 1000000) (hx : x < 0 ∨ nI n ≤ x) : smI x < 0 ∨ nI n ≤ smI x := by
  unfold smI
  by_cases c : x < 0
  · rw [if_pos c]; exact Or.inl (by decide)
  · rw [if_neg c]
    by_cases d : x ≤ 1000000
    · rw [if_pos d]; exact hx
    · rw [if_neg d]; exact Or.inl (by decide)
def rcA (a : Nat) : Prop := pA 33 a ∨ a = 11
def rcF (a k : Nat) : Prop := a = 10 ∨ a = 60 ∧ (k = 4 ∨ k = 5)
def rrA (a : Nat) : Prop := mA a ∨ a = 95 ∨ a = 108
def rrF (a k : Nat) : Prop := tF a k ∨ a = 81 ∧ (k = 27 ∨ k = 28 ∨ k = 32 ∨ 47 ≤ k ∧ k ≤ 51)
/-- behind a move, on both heaps -/
def MvK (hc g : Hp) (K0 : Nat → Int32) (k : Nat) (K : Nat → Int32) : Prop := RRh hc 33 K ∧ aI g 83 = K ∧ PAS2 hc g K k ∧ WF K k ∧ MOb K 999 ∧ ∀ i, 25 ≤ i → K i = K0 i
def Mv2 (C M : Hp → Option (Int32 × Hp)) (hc g : Hp) (K0 : Nat → Int32) (k : Nat) : Prop := ∃ r1 hc' r2 g', C hc = some (r1, hc') ∧ M g = some (r2, g') ∧ Fr rcA (fun a _ => a = 10) hc hc' ∧ Fr rrA (fun a j => tF a j ∨ a = 81 ∧ j = 32) g g' ∧ ((r1 < 0 ∧ r2 < 0 ∧ aI g' 83 = aI g 83) ∨ (r1 = r2 ∧ (∃ v, v ≤ 1000 ∧ r1 = nI v) ∧ ∃ K, MvK hc' g' K0 k K))
theorem Mv2_no {C M : Hp → Option (Int32 × Hp)} {hc g : Hp} {K0 : Nat → Int32} {k : Nat} {r1 r2 : Int32} (e1 : C hc = some (r1, hc)) (e2 : M g = some (r2, g)) (h1 : r1 < 0) (h2 : r2 < 0) : Mv2 C M hc g K0 k := ⟨r1, hc, r2, g, e1, e2, Fr_rfl, Fr_rfl, Or.inl ⟨h1, h2, rfl⟩⟩
section MV2
variable {hc g : Hp} {K0 K : Nat → Int32} {k : Nat}
theorem mv_seat (hM : MvK hc g K0 k K) (x1 x2 : Int32) : Mv2 (f_X3_toSeat x1 x2) (f_X11_seatsKept (smI x1) (smI x2)) hc g K0 k := by
  obtain ⟨hR, e83, hp, hw, hm, hk0⟩ := hM
  have h6 := hw.2.1
  have hw' : WF (aI g 83) k := by rw [e83]; exact hw
  have ff : ¬ (false = true) := Bool.false_ne_true
  rcases ix (x := x2) 9 (by omega) with ⟨s, hs, e⟩ | hx2
  · subst e
    rw [smI_n (show s ≤ 1000000 by omega)]
    have n9 : f_X11_isSeat (nI s) = some true := by unfold f_X11_isSeat; rw [show ((8 : Int32)) = nI 8 from rfl, lies_n (by omega) (by omega), Option.bind_some]
    have c9 : nI s < 9 := nI_lt (a := s) (b := 9) hs (by omega)
    have sne : nI s ≠ -1 := nI_ne1 (by omega)
    rcases ix6 hw x1 with ⟨p, hpk, e⟩ | hx1
    · subst e
      rw [smI_n (show p ≤ 1000000 by omega)]
      by_cases cw : whoK K k (nI s) = -1
      · obtain ⟨h1, g1, a1, a2, b1, b2, b3⟩ := keep2 hp hR hw hm (d := 0) (by omega) e83
        have R1 : RRh (sA h1 36 p (nI s)) 33 (upd K (18 + p) (nI s)) := RR_seat (r := 33) (RR_fr hR a2 (by omega) (by omega) (by omega) (by omega) (by omega)) (by omega)
        have wK := WF_seat hw hpk hs (fun q hq _ => who_no hw hs cw q hq)
        have e83' : aI (sA g1 83 (18 + p) (nI s)) 83 = upd K (18 + p) (nI s) := by rw [ps_aAs, b2.2.1 83 (by omega), e83]
        have cl := cntN_le (insb (upd K (18 + p) (nI s))) k
        refine ⟨nI (cntN (insb (upd K (18 + p) (nI s))) k), sA h1 36 p (nI s), nI (cntN (insb (upd K (18 + p) (nI s))) k), sA g1 83 (18 + p) (nI s), ?_, ?_, ?_, ?_, Or.inr ⟨rfl, ⟨_, by omega, rfl⟩, upd K (18 + p) (nI s), R1, e83', ?_, wK, ?_, fun i hi => by rw [pk_un (by omega)]; exact hk0 i hi⟩⟩
        · unfold f_X3_toSeat
          rw [if_neg (nI_pos (by omega)), if_pos c9, k_has hR hw hpk, Option.bind_some, if_pos rfl, k_whoAt hR hw, Option.bind_some, if_neg sne, if_pos cw, show f_X4_keep 10 (0 : Int32) 33 hc = some ((), h1) from a1, Option.bind_some, inb_nI (show p < 6 by omega) (by omega), Option.bind_some, k_countInside R1 wK, Option.bind_some]
        · unfold f_X11_seatsKept
          rw [n9, Option.bind_some, if_pos rfl, m_isSitter hw' hpk, Option.bind_some, if_pos rfl, m_onSeat hw' sne, Option.bind_some, e83, if_pos cw, show f_X11_keeps (0 : Int32) g = some ((), g1) from b1, Option.bind_some, l18_, m_inb (show 18 + p < 5662 by omega) (by omega), Option.bind_some, m_insideMany (k := k) (by rw [e83']; exact wK), e83', Option.bind_some]
        · exact Fr_tA (Fr_mono a2 (fun _ c => Or.inr c) (fun _ _ c => c)) (Or.inl (by unfold pA; omega))
        · exact Fr_tA (Fr_mono b2 (fun _ c => Or.inr (Or.inl c)) (fun _ _ c => Or.inr c)) (Or.inl (by unfold mA; omega))
        · exact b3 _ _ _ (by rw [ps_aAn _ _ _ _ _ (by omega)]) rfl rfl (by rw [ps_aAn _ _ _ _ _ (by omega)]) rfl (fun i hi => pk_un (by omega))
        · obtain ⟨m, q1, q2⟩ := hm
          exact ⟨m, q1, by rw [pk_un (by omega)]; exact q2⟩
      · refine Mv2_no (r1 := -3) (r2 := -3) ?_ ?_ (by decide) (by decide)
        · unfold f_X3_toSeat
          rw [if_neg (nI_pos (by omega)), if_pos c9, k_has hR hw hpk, Option.bind_some, if_pos rfl, k_whoAt hR hw, Option.bind_some, if_neg sne, if_neg cw]
        · unfold f_X11_seatsKept
          rw [n9, Option.bind_some, if_pos rfl, m_isSitter hw' hpk, Option.bind_some, if_pos rfl, m_onSeat hw' sne, Option.bind_some, e83, if_neg cw]
    · refine Mv2_no (r1 := -2) (r2 := -2) ?_ ?_ (by decide) (by decide)
      · unfold f_X3_toSeat
        rw [if_neg (nI_pos (by omega)), if_pos c9, k_has0 hR hw hx1, Option.bind_some, if_neg ff]
      · unfold f_X11_seatsKept
        rw [n9, Option.bind_some, if_pos rfl, m_isSitter0 hw' (smI_o (by omega) hx1), Option.bind_some, if_neg ff]
  · refine Mv2_no (r1 := -1) (r2 := -1) ?_ ?_ (by decide) (by decide)
    · unfold f_X3_toSeat
      by_cases c : x2 < 0
      · rw [if_pos c]
      · rw [if_neg c, if_neg (fun d => by have := hx2.resolve_left c; rw [show nI 9 = 9 from rfl] at this; exact i32_nle.mpr d this)]
    · unfold f_X11_seatsKept f_X11_isSeat
      rw [show ((8 : Int32)) = nI 8 from rfl, lies_0 (by omega) (smI_o (by omega) hx2), Option.bind_some, Option.bind_some, if_neg ff]
theorem mv_out (hM : MvK hc g K0 k K) (x1 : Int32) : Mv2 (f_X3_toSendOut x1) (f_X11_outKept (smI x1)) hc g K0 k := by
  obtain ⟨hR, e83, hp, hw, hm, hk0⟩ := hM
  have h6 := hw.2.1
  have hw' : WF (aI g 83) k := by rw [e83]; exact hw
  have ff : ¬ (false = true) := Bool.false_ne_true
  rcases ix6 hw x1 with ⟨p, hpk, e⟩ | hx1
  · subst e
    rw [smI_n (show p ≤ 1000000 by omega)]
    cases ci : insb K p with
    | true =>
      obtain ⟨s1, s2⟩ := seat_of hw hpk ci
      obtain ⟨h1, g1, a1, a2, b1, b2, b3⟩ := keep2 hp hR hw hm (d := 1) (by omega) e83
      have R0 : RRh h1 33 K := RR_fr hR a2 (by omega) (by omega) (by omega) (by omega) (by omega)
      have R1 : RRh (sA h1 36 p (-1)) 33 (upd K (18 + p) (-1)) := RR_seat (r := 33) R0 (by omega)
      have wK := WF_out hw hpk
      have q83m : aI g1 83 = K := by rw [b2.2.1 83 (by omega), e83]
      have e83' : aI (sA g1 83 (18 + p) (-1)) 83 = upd K (18 + p) (-1) := by rw [ps_aAs, q83m]
      have e36 : aI h1 36 p = nI (seatN K p) := by rw [← s1]; exact R0.2.2.2.1 p (by omega)
      refine ⟨nI (seatN K p), sA h1 36 p (-1), nI (seatN K p), sA g1 83 (18 + p) (-1), ?_, ?_, ?_, ?_, Or.inr ⟨rfl, ⟨_, by omega, rfl⟩, upd K (18 + p) (-1), R1, e83', ?_, wK, ?_, fun i hi => by rw [pk_un (by omega)]; exact hk0 i hi⟩⟩
      · unfold f_X3_toSendOut
        rw [k_has hR hw hpk, Option.bind_some, if_pos rfl, k_isInside hR hw hpk, ci, Option.bind_some, if_pos rfl, show f_X4_keep 10 (1 : Int32) 33 hc = some ((), h1) from a1, Option.bind_some, inb_nI (show p < 6 by omega) (by omega), Option.bind_some, Option.bind_some]
        show some (aI h1 36 p, _) = _
        rw [e36]
      · unfold f_X11_outKept
        rw [m_isSitter hw' hpk, Option.bind_some, if_pos rfl, m_isInside (by omega), e83, ci, Option.bind_some, if_pos rfl, show f_X11_keeps (1 : Int32) g = some ((), g1) from b1, Option.bind_some, m_seatOf (by omega), Option.bind_some, l18_, m_inb (show 18 + p < 5662 by omega) (by omega), Option.bind_some]
        show some (aI g1 83 (18 + p), _) = _
        rw [q83m, s1]
      · exact Fr_tA (Fr_mono a2 (fun _ c => Or.inr c) (fun _ _ c => c)) (Or.inl (by unfold pA; omega))
      · exact Fr_tA (Fr_mono b2 (fun _ c => Or.inr (Or.inl c)) (fun _ _ c => Or.inr c)) (Or.inl (by unfold mA; omega))
      · exact b3 _ _ _ (by rw [ps_aAn _ _ _ _ _ (by omega)]) rfl rfl (by rw [ps_aAn _ _ _ _ _ (by omega)]) rfl (fun i hi => pk_un (by omega))
      · obtain ⟨m, q1, q2⟩ := hm
        exact ⟨m, q1, by rw [pk_un (by omega)]; exact q2⟩
    | false =>
      refine Mv2_no (r1 := -3) (r2 := -3) ?_ ?_ (by decide) (by decide)
      · unfold f_X3_toSendOut
        rw [k_has hR hw hpk, Option.bind_some, if_pos rfl, k_isInside hR hw hpk, ci, Option.bind_some, if_neg ff]
      · unfold f_X11_outKept
        rw [m_isSitter hw' hpk, Option.bind_some, if_pos rfl, m_isInside (by omega), e83, ci, Option.bind_some, if_neg ff]
  · refine Mv2_no (r1 := -2) (r2 := -2) ?_ ?_ (by decide) (by decide)
    · unfold f_X3_toSendOut
      rw [k_has0 hR hw hx1, Option.bind_some, if_neg ff]
    · unfold f_X11_outKept
      rw [m_isSitter0 hw' (smI_o (by omega) hx1), Option.bind_some, if_neg ff]
theorem sk_neg (hw : WF (aI g 83) k) {y1 y2 : Int32} (h : (y1 < 0 ∨ nI k ≤ y1) ∨ ((∃ p, p < k ∧ y1 = nI p) ∧ (y2 < 0 ∨ nI k ≤ y2))) : ∃ r, f_X11_swapsKept y1 y2 g = some (r, g) ∧ r < 0 := by
  have ff : ¬ (false = true) := Bool.false_ne_true
  unfold f_X11_swapsKept
  by_cases c : y1 = y2
  · exact ⟨-1, by rw [if_pos c], by decide⟩
  · rw [if_neg c]
    rcases h with h | ⟨⟨p, hp, e⟩, h⟩
    · exact ⟨-2, by rw [m_isSitter0 hw h, Option.bind_some, if_neg ff], by decide⟩
    · exact ⟨-2, by rw [e, m_isSitter hw hp, Option.bind_some, if_pos rfl, m_isSitter0 hw h, Option.bind_some, if_neg ff], by decide⟩
theorem ck_neg (hR : RRh hc 33 K) (hw : WF K k) {y1 y2 : Int32} (h : (y1 < 0 ∨ nI k ≤ y1) ∨ ((∃ p, p < k ∧ y1 = nI p) ∧ (y2 < 0 ∨ nI k ≤ y2))) : ∃ r, f_X3_toExchange y1 y2 hc = some (r, hc) ∧ r < 0 := by
  have ff : ¬ (false = true) := Bool.false_ne_true
  unfold f_X3_toExchange
  by_cases c : y1 = y2
  · exact ⟨-1, by rw [if_pos c], by decide⟩
  · rw [if_neg c]
    rcases h with h | ⟨⟨p, hp, e⟩, h⟩
    · exact ⟨-2, by rw [k_has0 hR hw h, Option.bind_some, if_neg ff], by decide⟩
    · exact ⟨-2, by rw [e, k_has hR hw hp, Option.bind_some, if_pos rfl, k_has0 hR hw h, Option.bind_some, if_neg ff], by decide⟩
theorem mv_swap (hM : MvK hc g K0 k K) (x1 x2 : Int32) : Mv2 (f_X3_toExchange x1 x2) (f_X11_swapsKept (smI x1) (smI x2)) hc g K0 k := by
  obtain ⟨hR, e83, hp, hw, hm, hk0⟩ := hM
  have h6 := hw.2.1
  have hw' : WF (aI g 83) k := by rw [e83]; exact hw
  have ff : ¬ (false = true) := Bool.false_ne_true
  rcases ix6 hw x1 with ⟨p, hpk, e⟩ | hx1
  · subst e
    rw [smI_n (show p ≤ 1000000 by omega)]
    rcases ix6 hw x2 with ⟨q, hqk, e⟩ | hx2
    · subst e
      rw [smI_n (show q ≤ 1000000 by omega)]
      by_cases ce : nI p = nI q
      · refine Mv2_no (r1 := -1) (r2 := -1) ?_ ?_ (by decide) (by decide)
        · unfold f_X3_toExchange; rw [if_pos ce]
        · unfold f_X11_swapsKept; rw [if_pos ce]
      · have hpq : p ≠ q := fun c => ce (by rw [c])
        cases ci : insb K p with
        | true =>
          cases cj : insb K q with
          | true =>
            obtain ⟨s1, s2⟩ := seat_of hw hpk ci
            obtain ⟨t1, t2⟩ := seat_of hw hqk cj
            obtain ⟨h1, g1, a1, a2, b1, b2, b3⟩ := keep2 hp hR hw hm (d := 2) (by omega) e83
            have R0 : RRh h1 33 K := RR_fr hR a2 (by omega) (by omega) (by omega) (by omega) (by omega)
            have e36p : aI h1 36 p = K (18 + p) := R0.2.2.2.1 p (by omega)
            have e36q : aI h1 36 q = K (18 + q) := R0.2.2.2.1 q (by omega)
            have R1 : RRh (sA (sA h1 36 p (K (18 + q))) 36 q (K (18 + p))) 33 (swpK K p q) := RR_seat (r := 33) (RR_seat (r := 33) R0 (by omega)) (by omega)
            have wK := WF_swp hw hpk hqk hpq ci cj
            have q83m : aI g1 83 = K := by rw [b2.2.1 83 (by omega), e83]
            have e83' : aI (sA (sA g1 83 (18 + p) (K (18 + q))) 83 (18 + q) (K (18 + p))) 83 = swpK K p q := by
              rw [ps_aAs, ps_aAs, q83m]
              rfl
            refine ⟨nI (seatN K q), sA (sA h1 36 p (K (18 + q))) 36 q (K (18 + p)), nI (seatN K q), sA (sA g1 83 (18 + p) (K (18 + q))) 83 (18 + q) (K (18 + p)), ?_, ?_, ?_, ?_, Or.inr ⟨rfl, ⟨_, by omega, rfl⟩, swpK K p q, R1, e83', ?_, wK, ?_, fun i hi => by unfold swpK; rw [pk_un (by omega), pk_un (by omega)]; exact hk0 i hi⟩⟩
            · unfold f_X3_toExchange
              rw [if_neg ce, k_has hR hw hpk, Option.bind_some, if_pos rfl, k_has hR hw hqk, Option.bind_some, if_pos rfl, k_isInside hR hw hpk, ci, Option.bind_some, if_pos rfl, k_isInside hR hw hqk, cj, Option.bind_some, if_pos rfl, show f_X4_keep 10 (2 : Int32) 33 hc = some ((), h1) from a1, Option.bind_some, inb_nI (show p < 6 by omega) (by omega), Option.bind_some, inb_nI (show q < 6 by omega) (by omega), Option.bind_some, Option.bind_some, Option.bind_some, Option.bind_some]
              show some (aI (sA (sA h1 36 p (aI h1 36 q)) 36 q (aI h1 36 p)) 36 p, sA (sA h1 36 p (aI h1 36 q)) 36 q (aI h1 36 p)) = _
              rw [aI_n hpq, aI_s, e36p, e36q, t1]
            · unfold f_X11_swapsKept
              rw [if_neg ce, m_isSitter hw' hpk, Option.bind_some, if_pos rfl, m_isSitter hw' hqk, Option.bind_some, if_pos rfl, m_isInside (by omega), e83, ci, Option.bind_some, if_pos rfl, m_isInside (by omega), e83, cj, Option.bind_some, if_pos rfl, show f_X11_keeps (2 : Int32) g = some ((), g1) from b1, Option.bind_some, m_seatOf (by omega), Option.bind_some, m_seatOf (by omega), Option.bind_some, l18_, m_inb (show 18 + p < 5662 by omega) (by omega), Option.bind_some, m_inb (show 18 + q < 5662 by omega) (by omega), Option.bind_some, m_seatOf (by omega), Option.bind_some]
              show some (aI (sA (sA g1 83 (18 + p) (aI g1 83 (18 + q))) 83 (18 + q) (aI g1 83 (18 + p))) 83 (18 + p), sA (sA g1 83 (18 + p) (aI g1 83 (18 + q))) 83 (18 + q) (aI g1 83 (18 + p))) = _
              rw [aI_n (by omega), aI_s, q83m, t1]
            · exact Fr_tA (Fr_tA (Fr_mono a2 (fun _ c => Or.inr c) (fun _ _ c => c)) (Or.inl (by unfold pA; omega))) (Or.inl (by unfold pA; omega))
            · exact Fr_tA (Fr_tA (Fr_mono b2 (fun _ c => Or.inr (Or.inl c)) (fun _ _ c => Or.inr c)) (Or.inl (by unfold mA; omega))) (Or.inl (by unfold mA; omega))
            · exact b3 _ _ _ (by rw [ps_aAn _ _ _ _ _ (by omega), ps_aAn _ _ _ _ _ (by omega)]) rfl rfl (by rw [ps_aAn _ _ _ _ _ (by omega), ps_aAn _ _ _ _ _ (by omega)]) rfl (fun i hi => by unfold swpK; rw [pk_un (by omega), pk_un (by omega)])
            · obtain ⟨m, q1, q2⟩ := hm
              exact ⟨m, q1, by unfold swpK; rw [pk_un (by omega), pk_un (by omega)]; exact q2⟩
          | false =>
            refine Mv2_no (r1 := -3) (r2 := -3) ?_ ?_ (by decide) (by decide)
            · unfold f_X3_toExchange
              rw [if_neg ce, k_has hR hw hpk, Option.bind_some, if_pos rfl, k_has hR hw hqk, Option.bind_some, if_pos rfl, k_isInside hR hw hpk, ci, Option.bind_some, if_pos rfl, k_isInside hR hw hqk, cj, Option.bind_some, if_neg ff]
            · unfold f_X11_swapsKept
              rw [if_neg ce, m_isSitter hw' hpk, Option.bind_some, if_pos rfl, m_isSitter hw' hqk, Option.bind_some, if_pos rfl, m_isInside (by omega), e83, ci, Option.bind_some, if_pos rfl, m_isInside (by omega), e83, cj, Option.bind_some, if_neg ff]
        | false =>
          refine Mv2_no (r1 := -3) (r2 := -3) ?_ ?_ (by decide) (by decide)
          · unfold f_X3_toExchange
            rw [if_neg ce, k_has hR hw hpk, Option.bind_some, if_pos rfl, k_has hR hw hqk, Option.bind_some, if_pos rfl, k_isInside hR hw hpk, ci, Option.bind_some, if_neg ff]
          · unfold f_X11_swapsKept
            rw [if_neg ce, m_isSitter hw' hpk, Option.bind_some, if_pos rfl, m_isSitter hw' hqk, Option.bind_some, if_pos rfl, m_isInside (by omega), e83, ci, Option.bind_some, if_neg ff]
    · obtain ⟨r1, z1, z2⟩ := ck_neg hR hw (y1 := nI p) (y2 := x2) (Or.inr ⟨⟨p, hpk, rfl⟩, hx2⟩)
      obtain ⟨r2, z3, z4⟩ := sk_neg hw' (y1 := nI p) (y2 := smI x2) (Or.inr ⟨⟨p, hpk, rfl⟩, smI_o (by omega) hx2⟩)
      exact Mv2_no z1 z3 z2 z4
  · obtain ⟨r1, z1, z2⟩ := ck_neg hR hw (y1 := x1) (y2 := x2) (Or.inl hx1)
    obtain ⟨r2, z3, z4⟩ := sk_neg hw' (y1 := smI x1) (y2 := smI x2) (Or.inl (smI_o (by omega) hx1))
    exact Mv2_no z1 z3 z2 z4
theorem mv_pass {al : Nat} {S : Sem} {hc0 : Hp} (hM : MvK hc g K0 k K) (f1 : f_X1_inForce 32 hc0 = some al) (f2 : isTx al) (f3 : tg hc0 al = true) (f4 : CL hc0 al S) (f5 : RT K0 S) (f6 : semOK S) (hF : Fr rcA rcF hc0 hc) : Mv2 f_X3_toPassMinute f_X11_passesKept hc g K0 k := by
  obtain ⟨hR, e83, hp, hw, hm, hk0⟩ := hM
  have h6 := hw.2.1
  have hw' : WF (aI g 83) k := by rw [e83]; exact hw
  obtain ⟨m, hm1, hm2⟩ := id hm
  have h37 : aI hc 37 0 = nI m := by rw [← hm2]; exact hR.2.2.2.2.1
  by_cases cm : m < 999
  · obtain ⟨h1, g1, a1, a2, b1, b2, b3⟩ := keep2 hp hR hw hm (d := 3) (by omega) e83
    have R0 : RRh h1 33 K := RR_fr hR a2 (by omega) (by omega) (by omega) (by omega) (by omega)
    have F1 : Fr rcA rcF hc0 h1 := Fr_tr hF (Fr_mono a2 (fun _ c => Or.inr c) (fun _ _ c => Or.inl c))
    have i1 : f_X1_inForce 32 h1 = some al := by
      unfold f_X1_inForce f_X1_lawAt f_X1_hasLaw at f1 ⊢
      rw [F1.1 32 4 (by unfold rcF; omega), F1.1 32 3 (by unfold rcF; omega), F1.2.2.2.1]
      exact f1
    have tx : TxSame hc0 h1 al := by
      refine Tx_fr ⟨rfl, rfl, rfl, rfl, rfl, rfl, f3⟩ F1 ?_ ?_ ?_ ?_
      · unfold rcF; rcases f2 with e | e <;> omega
      · unfold rcF; rcases f2 with e | e <;> omega
      · unfold rcA pA; rcases f2 with e | e <;> omega
      · unfold rcA pA; rcases f2 with e | e <;> omega
    have mo6 : MOb K 1000000 := ⟨m, by omega, hm2⟩
    obtain ⟨h2, c1, c2, c3⟩ := c_pass f6 f4 tx f2 (Or.inr (Or.inr (Or.inl rfl))) R0 hw mo6
    have q83m : aI g1 83 = K := by rw [b2.2.1 83 (by omega), e83]
    obtain ⟨g2, d1, d2, d3⟩ := m_pass (h := g1) (k := k) f6 f5 (fun i hi => by rw [q83m]; exact hk0 i hi) (by rw [q83m]; exact hw) (by rw [q83m]; exact mo6)
    rw [q83m] at d2
    have e24 : minK S k K 24 = nI (m + 1) := by rw [minK_24 h6, hm2, nI_1]
    refine ⟨nI (m + 1), h2, nI (m + 1), g2, ?_, ?_, ?_, ?_, Or.inr ⟨rfl, ⟨m + 1, by omega, rfl⟩, minK S k K, c2, d2, ?_, WF_min f6 hw, ⟨m + 1, by omega, e24⟩, fun i hi => by rw [minK_hi h6 _ hi]; exact hk0 i hi⟩⟩
    · unfold f_X3_toPassMinute
      rw [h37, if_pos (show nI m < 999 from nI_lt (a := m) (b := 999) cm (by omega)), show f_X4_keep 10 (3 : Int32) 33 hc = some ((), h1) from a1, Option.bind_some, i1, Option.bind_some, c1, Option.bind_some]
      show some (aI h2 37 0, h2) = _
      rw [show aI h2 37 0 = nI (m + 1) from c2.2.2.2.2.1.trans e24]
    · unfold f_X11_passesKept
      rw [e83, hm2, if_neg (show ¬ nI m = 999 from fun c => by have := (nI_eq (by omega) (by omega)).mp (show nI m = nI 999 from c); omega), show f_X11_keeps (3 : Int32) g = some ((), g1) from b1, Option.bind_some, d1, Option.bind_some]
      show some (aI g2 83 24, g2) = _
      rw [d2, e24]
    · exact Fr_tr (Fr_mono a2 (fun _ c => Or.inr c) (fun _ _ c => c)) (Fr_mono c3 (fun _ c => Or.inl c) (fun _ _ c => c.elim))
    · exact Fr_tr (Fr_mono b2 (fun _ c => Or.inr (Or.inl c)) (fun _ _ c => Or.inr c)) (Fr_mono d3 (fun _ c => Or.inl c) (fun _ _ c => Or.inl c))
    · exact b3 _ _ _ (c3.2.1 11 (by unfold pA; omega)) (c3.1 _ _ (fun c => c)) (c3.1 _ _ (fun c => c)) (d3.2.1 95 (by unfold mA; omega)) (d3.1 _ _ (by unfold tF; omega)) (fun i hi => minK_hi h6 _ (by omega))
  · have m9 : m = 999 := by omega
    refine Mv2_no (r1 := -3) (r2 := -3) ?_ ?_ (by decide) (by decide)
    · unfold f_X3_toPassMinute
      rw [h37, m9, if_neg (by decide)]
    · unfold f_X11_passesKept
      rw [e83, hm2, m9, if_pos (show nI 999 = 999 from rfl)]
end MV2
