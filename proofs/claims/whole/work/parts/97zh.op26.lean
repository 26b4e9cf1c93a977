/-! ===== sat, ask ===== -/
theorem HSg_of {h h' : Hp} {K : Nat → Int32} {sm lc : Nat} {L : LDt} (i2 : HR h 32 K sm lc L) (hf : Fr laA laF h h') : HSg h' K sm := ⟨by rw [hf.1 _ _ (by unfold laF; omega)]; exact i2.2.1, fun i hi => by rw [hf.2.1 39 (by unfold laA; omega)]; exact i2.2.2.1 i hi⟩
theorem op_26 : Op_26 INV := by
  intro n h hI _ x1 x2
  have hI0 := hI
  obtain ⟨k, sm, lc, L, i1, i2, i3, i4, i5, i6, i7, i8, i9⟩ := hI
  have hw := i1.1
  have h6 := hw.2.1
  have hsm := i1.2.2.1
  have h52 := i1.2.2.2.1
  have hsg := i1.2.2.2.2.1
  have ff : ¬ (false = true) := Bool.false_ne_true
  have wT := WF_tr hw
  have f7 := fct_le _ (ins_le hw)
  obtain ⟨lt, l1, l2, l3⟩ := c_latest (h := h) (K := aI h 83) (k := k) (sm := sm) ⟨i2.2.1, i2.2.2.1⟩ h6 hsg hsm
  obtain ⟨al, h', kn, c1, c2, c3, c4, c5, c6, c7, c8, c9, c10, c11⟩ := look i1 i2 i3 i9 l2
  have hg := HSg_of i2 c7
  have hl : ∀ i, i < sm → sgM (aI h 83) i ≤ kn := fun i hi => Nat.le_trans (l3 i hi) c3
  have cl := cntN_le (FB (SF (aI h 83) L) (aI h 83) k sm) (fct (insL (aI h 83) k).length)
  have hcount := c_count c6 hw c4 hg hsg hsm hl
  have head : f_X10_sat x1 x2 h = (if x1 = (-1 : Int32) then (f_X7_countSat 32 h').bind fun v17 => some (v17, h') else if x1 < 0 then some ((-1 : Int32), h') else (f_X6_has 33 x2 h').bind fun v9 => if v9 = true then (f_X7_findSat 32 x1 h').bind fun v12 => if v12 = (-1 : Int32) then some ((-1 : Int32), h') else (f_X7_seatIn v12 x2 h').bind fun v15 => some (v15, h') else some ((-1 : Int32), h')) := by
    unfold f_X10_sat
    rw [c1, Option.bind_some, l1, Option.bind_some, c2, Option.bind_some]
  have Ih : INV (n + 1) h' := INV_lk i1 i2 i4 i5 i6 i7 i8 i9 (la_lk c7) c9 (Or.inr ⟨kn, c4, c5, c6⟩)
  obtain ⟨g1, d1, d2, d3, d4, d5, d6⟩ := m_laysS (h := h') (k := k) (sm := sm) c11 c10 c9 hw i1.2.1 hsg hsm h52 (t := 0) (by omega)
  have d1' : f_X11_laysSat (0 : Int32) h' = _ := d1
  have Ig : INV (n + 1) g1 := INV_lk i1 i2 i4 i5 i6 i7 i8 i9 (Fr_tr (la_lk c7) (pl_lk d6)) d2 (CAC_lk c4 c5 c6 d6 (fun a c => by unfold plsA mA at c; omega) (fun a j c => by unfold plsF tF at c; omega))
  by_cases cm : x1 = -1
  · refine ⟨_, h', g1, by rw [head, if_pos cm, hcount, Option.bind_some], ?_, Ig⟩
    unfold f_X11_sat j_X11_sat_20 j_X11_sat_36
    rw [cm, if_neg (by decide), if_pos (by decide), d1', Option.bind_some, if_pos rfl, if_pos rfl]
  · by_cases cn : x1 < 0
    · refine ⟨-1, h', h', by rw [head, if_neg cm, if_pos cn], ?_, Ih⟩
      unfold f_X11_sat
      rw [if_pos]
      rw [Int32.lt_iff_toInt_lt] at cn ⊢
      have e1 : Int32.toInt (-1) = -1 := by decide
      have e0 : Int32.toInt 0 = 0 := by decide
      have : x1.toInt ≠ -1 := fun d => cm (Int32.toInt_inj.mp (by rw [d, e1]))
      omega
    · obtain ⟨i, hi31, ei⟩ := nI_of cn
      subst ei
      have r1 : ¬ nI i < (-1 : Int32) := fun d => by
        rw [Int32.lt_iff_toInt_lt, nI_toInt hi31] at d
        have e1 : Int32.toInt (-1) = -1 := by decide
        omega
      have r2 : ¬ nI i ≤ (-1 : Int32) := fun d => by
        rw [Int32.le_iff_toInt_le, nI_toInt hi31] at d
        have e1 : Int32.toInt (-1) = -1 := by decide
        omega
      rw [if_neg cm, if_neg cn] at head
      rcases ix6 hw x2 with ⟨p, hp, e⟩ | hx2
      · subst e
        have hwg : WF (aI h' 83) k := by rw [c9]; exact hw
        rw [k_has c8 wT hp, Option.bind_some, if_pos rfl] at head
        have mhead : f_X11_sat (nI i) (nI p) h' = (if nI i < nI (cntN (FB (SF (aI h 83) L) (aI h 83) k sm) (fct (insL (aI h 83) k).length)) then (lp (fun s => b_X11_sat_53 (nI p) s.1 s.2 g1) FU ((0 : Int32), nI i)).bind fun e15 => (f_X11_seatsAll e15 g1).bind fun v17 => (f_X11_seatOf (nI p) v17.2).bind fun v19 => (f_X11_takesBack (0 : Int32) v17.2).bind fun v21 => some (v19, v21.2) else some ((-1 : Int32), g1)) := by
          unfold f_X11_sat j_X11_sat_20 j_X11_sat_36
          rw [if_neg r1, if_neg r2, m_isSitter hwg hp, Option.bind_some, if_pos rfl, d1', Option.bind_some, if_neg cm, if_neg cm]
        rcases c_find c6 hw c4 hg hsg hsm hl (nI i) with ⟨q, q1, q2, q3, q4⟩ | ⟨q1, q2⟩
        · have cq := cnt_lt q1 q2
          have ei : cntN (FB (SF (aI h 83) L) (aI h 83) k sm) q = i := (nI_eq (by omega) hi31).mp q3
          have hseat := c_seatIn (q := q) (p := p) c6 wT (by rw [len_tr h6]; exact q1) hp
          rw [seatK_ag (trK_AG (aI h 83)) h6 q (18 + p) (by omega)] at hseat
          obtain ⟨g2, e1, e2, e3⟩ := m_seats (h := g1) d3 hw q1
          obtain ⟨g3, u1, u2, u3⟩ := m_tbk (h := g2) (t := 0) (by omega)
          have g283 : aI g2 83 = seatK (aI h 83) k q := by rw [e2, d2]; rfl
          have g383 : aI g3 83 = aI h 83 := tk_seat hw g283 (fun i hi => seatK_o hw (by omega)) (fun i hi => by rw [e3.2.1 86 (by omega)]; exact d5 i hi) u2
          have FR : Fr plsA plsF h' g3 := Fr_tr (Fr_tr d6 (Fr_mono e3 (fun a c => by unfold plsA mA; omega) (fun _ _ c => c.elim))) (Fr_mono u3 (fun a c => by unfold plsA mA; omega) (fun _ _ c => c.elim))
          have find : lp (fun s => b_X11_sat_53 (nI p) s.1 s.2 g1) FU ((0 : Int32), nI i) = some (nI q) := by
            have key := lp_run (b := fun s : Int32 × Int32 => b_X11_sat_53 (nI p) s.1 s.2 g1) (fun r => (nI r, nI (i - cntN (FB (SF (aI h 83) L) (aI h 83) k sm) r))) q (nI q) (by omega) (fun r hr => ?_) ?_
            · exact key
            · have cr := cntN_up (FB (SF (aI h 83) L) (aI h 83) k sm) (a := r + 1) q (by omega)
              have cs : cntN (FB (SF (aI h 83) L) (aI h 83) k sm) (r + 1) = cntN (FB (SF (aI h 83) L) (aI h 83) k sm) r + (if FB (SF (aI h 83) L) (aI h 83) k sm r = true then 1 else 0) := rfl
              show b_X11_sat_53 (nI p) (nI r) (nI (i - cntN (FB (SF (aI h 83) L) (aI h 83) k sm) r)) g1 = some (.inl (nI (r + 1), nI (i - cntN (FB (SF (aI h 83) L) (aI h 83) k sm) (r + 1))))
              unfold b_X11_sat_53 j_X11_sat_68_53 j_X11_sat_85_53
              rw [inb_nI (show r < 720 by omega) (by omega), Option.bind_some, Option.bind_some, (d4 r (by omega)).1, nI_1]
              cases hb : FB (SF (aI h 83) L) (aI h 83) k sm r with
              | false =>
                rw [hb, if_neg Bool.false_ne_true] at cs
                rw [if_pos (show b2i false = 0 from rfl), cs, if_pos (show b2i false = 0 from rfl)]
                show some (Sum.inl (_, nI _ - nI 0)) = _
                rw [pk_sub (by omega)]
                rfl
              | true =>
                rw [hb, if_pos rfl] at cs
                rw [if_neg (show ¬ b2i true = 0 by decide), if_neg (show ¬ b2i true = 0 by decide), if_neg (nI_nle (by omega) (by omega)), cs]
                show some (Sum.inl (_, nI _ - nI 1)) = _
                rw [pk_sub (by omega), Nat.sub_sub]
            · show b_X11_sat_53 (nI p) (nI q) (nI (i - cntN (FB (SF (aI h 83) L) (aI h 83) k sm) q)) g1 = some (.inr (nI q))
              unfold b_X11_sat_53
              rw [inb_nI (show q < 720 by omega) (by omega), Option.bind_some, (d4 q q1).1, q2, if_neg (show ¬ b2i true = 0 by decide), ei, Nat.sub_self, if_pos (show nI 0 ≤ 0 by decide)]
          refine ⟨seatK (aI h 83) k q (18 + p), h', g3, ?_, ?_, INV_lk i1 i2 i4 i5 i6 i7 i8 i9 (Fr_tr (la_lk c7) (pl_lk FR)) g383 (CAC_lk c4 c5 c6 FR (fun a c => by unfold plsA mA at c; omega) (fun a j c => by unfold plsF tF at c; omega))⟩
          · rw [head, q4, Option.bind_some, if_neg (nI_ne1 (by omega)), hseat, Option.bind_some]
          · rw [mhead, if_pos (nI_lt (by omega) (by omega)), find, Option.bind_some, e1, Option.bind_some, m_seatOf (by omega), Option.bind_some, show f_X11_takesBack (0 : Int32) g2 = some ((), g3) from u1, Option.bind_some, g283]
        · refine ⟨-1, h', g1, by rw [head, q2, Option.bind_some, if_pos rfl], ?_, Ig⟩
          rw [mhead, if_neg]
          intro d
          rw [nI_lt6 hi31 (by omega)] at d
          obtain ⟨q, z1, z2, z3⟩ := cnt_ex _ d
          exact q1 q z1 z2 (by rw [z3])
      · refine ⟨-1, h', h', ?_, ?_, Ih⟩
        · rw [head, k_has0 c8 wT hx2, Option.bind_some, if_neg ff]
        · unfold f_X11_sat
          rw [if_neg r1, if_neg r2, m_isSitter0 (k := k) (by rw [c9]; exact hw) hx2, Option.bind_some, if_neg ff]
/-! whom to ask -/
section ASK
variable {K : Nat → Int32} {k : Nat} {S : Sem} {sm : Nat}
theorem m_alike {h : Hp} (hh : HLD h K k) (hw : WF K k) {n p : Nat} (hp : p < k) (h102 : ∀ q, q < fct (insL K k).length → aI h 102 q = b2i (FB S K k sm q) ∧ WB h S K k q n (FB S K k sm q)) : ∃ h', f_X11_mostAlike (nI p) h = some (nI (AL S K k sm n p), h') ∧ Fr (fun a => a = 104) noF h h' := by
  have f7 := (fct_le _ (ins_le hw)).1
  have h6 := hw.2.1
  have z0 : ∃ g1, lp (fun s => b_X11_mostAlike_2 (nI p) s.1 s.2) FU ((0 : Int32), h) = some g1 ∧ (∀ c, c < 3 → aI g1 104 c = 0) ∧ Fr (fun a => a = 104) noF h g1 := by
    refine lp_inv (b := fun s : Int32 × Hp => b_X11_mostAlike_2 (nI p) s.1 s.2) (fun i s => s.1 = nI i ∧ (∀ j, j < i → aI s.2 104 j = 0) ∧ Fr (fun a => a = 104) noF h s.2) (fun e => (∀ j, j < 3 → aI e 104 j = 0) ∧ Fr (fun a => a = 104) noF h e) 3 ((0 : Int32), h) (by omega) ⟨rfl, fun j hj => absurd hj (Nat.not_lt_zero _), Fr_rfl⟩ ?_ ?_
    · rintro i ⟨s1, s2⟩ hi ⟨q1, q2, q3⟩
      dsimp only at q1 q2 q3
      subst q1
      refine Or.inl ⟨(nI (i + 1), sA s2 104 i 0), ?_, rfl, fun j hj => ?_, Fr_tA q3 rfl⟩
      · show b_X11_mostAlike_2 (nI p) (nI i) s2 = _
        unfold b_X11_mostAlike_2
        rw [l3_, if_neg (nI_ge hi (by omega)), inb_nI hi (by omega), Option.bind_some, nI_1]
      · show aI (sA s2 104 i 0) 104 j = _
        by_cases c : j = i
        · rw [c, aI_s]
        · rw [aI_n c]; exact q2 j (by omega)
    · rintro ⟨s1, s2⟩ ⟨q1, q2, q3⟩
      dsimp only at q1 q2 q3
      subst q1
      refine ⟨s2, ?_, q2, q3⟩
      show b_X11_mostAlike_2 (nI p) (nI 3) s2 = _
      unfold b_X11_mostAlike_2
      rw [if_pos (by decide)]
  obtain ⟨g1, a1, a2, a3⟩ := z0
  have key := lp_inv (b := fun s : Int32 × Hp => b_X11_mostAlike_22 (nI p) s.1 s.2) (fun q s => s.1 = nI q ∧ (∀ c, c < 3 → aI s.2 104 c = nI (alk S K k sm n p c q)) ∧ Fr (fun a => a = 104) noF h s.2) (fun e => (∀ c, c < 3 → aI e 104 c = nI (alk S K k sm n p c (fct (insL K k).length))) ∧ Fr (fun a => a = 104) noF h e) (fct (insL K k).length) ((0 : Int32), g1) (by omega) ⟨rfl, fun c hc => a2 c hc, a3⟩ ?_ ?_
  · obtain ⟨e, k1, k2, k3⟩ := key
    have l0 := alk_le S K k sm n p 0 (fct (insL K k).length)
    have l1 := alk_le S K k sm n p 1 (fct (insL K k).length)
    have l2 := alk_le S K k sm n p 2 (fct (insL K k).length)
    refine ⟨e, ?_, k3⟩
    unfold f_X11_mostAlike
    rw [a1, Option.bind_some, k1, Option.bind_some, k2 0 (by omega), k2 1 (by omega), k2 2 (by omega), m_gr_n (by omega) (by omega), Option.bind_some, m_gr_n (by omega) (by omega), Option.bind_some]
    rfl
  · rintro q ⟨s1, s2⟩ hq ⟨q1, q2, q3⟩
    dsimp only at q1 q2 q3
    subst q1
    obtain ⟨w1, w2⟩ := h102 q hq
    obtain ⟨⟨c, c1, c2⟩, w3⟩ := w2 p hp
    have fin : ∀ v : Nat, j_X11_mostAlike_61_22 (nI p) (nI q) (nI c) (nI (alk S K k sm n p c q)) (nI v) s2 = some (.inl (nI (q + 1), sA s2 104 c (nI (alk S K k sm n p c q + v)))) := by
      intro v
      unfold j_X11_mostAlike_61_22
      rw [inb_nI c1 (by omega), Option.bind_some, nI_1, nI_add]
    refine Or.inl ?_
    show ∃ s', b_X11_mostAlike_22 (nI p) (nI q) s2 = _ ∧ _
    unfold b_X11_mostAlike_22
    rw [q3.1 _ _ (fun c => c), hh.2.1, if_neg (nI_ge hq (by omega)), l6_, pk_mul, nI_add, inb_nI (show 6 * q + p < 4320 by omega) (by omega), Option.bind_some, q3.2.1 103 (by omega), c2, inb_nI c1 (by omega), Option.bind_some, inb_nI (show q < 720 by omega) (by omega), Option.bind_some, q3.2.1 102 (by omega), w1, q2 c c1]
    cases hb : FB S K k sm q with
    | false =>
      rw [if_pos (show b2i false = 0 from rfl), show ((0 : Int32)) = nI 0 from rfl, fin 0]
      refine ⟨_, rfl, rfl, fun c' hc' => ?_, Fr_tA q3 rfl⟩
      show aI (sA s2 104 c _) 104 c' = _
      rw [alk_s, hb, if_neg (fun d => absurd d.2 Bool.false_ne_true)]
      by_cases d : c' = c
      · rw [d, aI_s]
      · rw [aI_n d]; exact q2 c' hc'
    | true =>
      have n3 := nat3_lt (kjq S K k q n) p
      have ec : c = nat3 (kjq S K k q n) p := (nI_eq (by omega) (by omega)).mp (c2.symm.trans (w3 hb))
      rw [if_neg (show ¬ b2i true = 0 by decide), show ((1 : Int32)) = nI 1 from rfl, fin 1]
      refine ⟨_, rfl, rfl, fun c' hc' => ?_, Fr_tA q3 rfl⟩
      show aI (sA s2 104 c _) 104 c' = _
      rw [alk_s, hb]
      by_cases d : c' = c
      · rw [d, aI_s, if_pos ⟨ec.symm, rfl⟩]
      · rw [aI_n d, if_neg (fun e => d (e.1.symm.trans ec.symm)), Nat.add_zero]; exact q2 c' hc'
  · rintro ⟨s1, s2⟩ ⟨q1, q2, q3⟩
    dsimp only at q1 q2 q3
    subst q1
    refine ⟨s2, ?_, q2, q3⟩
    show b_X11_mostAlike_22 (nI p) (nI (fct (insL K k).length)) s2 = _
    unfold b_X11_mostAlike_22
    rw [q3.1 _ _ (fun c => c), hh.2.1, if_pos (Int32.le_refl _)]
end ASK
def lkN (A : Nat → Nat) : Nat → Nat
  | 0 => 1000000
  | p + 1 => if A p < lkN A p then A p else lkN A p
def bkN (A : Nat → Nat) : Nat → Nat
  | 0 => 0
  | p + 1 => if A p < lkN A p then p else bkN A p
theorem bk_le (A : Nat → Nat) : ∀ p, bkN A p ≤ p
  | 0 => Nat.le_refl _
  | p + 1 => by
    have := bk_le A p
    unfold bkN
    split <;> omega
theorem lk_le (A : Nat → Nat) : ∀ p, lkN A p ≤ 1000000
  | 0 => Nat.le_refl _
  | p + 1 => by
    have := lk_le A p
    unfold lkN
    split <;> omega
theorem AL_le (S : Sem) (K : Nat → Int32) (k sm n p : Nat) : AL S K k sm n p ≤ fct (insL K k).length := by
  have l0 := alk_le S K k sm n p 0 (fct (insL K k).length)
  have l1 := alk_le S K k sm n p 1 (fct (insL K k).length)
  have l2 := alk_le S K k sm n p 2 (fct (insL K k).length)
  unfold AL
  omega
theorem op_27 : Op_27 INV := by
  intro n h hI _ x1 x2
  have hI0 := hI
  obtain ⟨k, sm, lc, L, i1, i2, i3, i4, i5, i6, i7, i8, i9⟩ := hI
  have hw := i1.1
  have h6 := hw.2.1
  have hsm := i1.2.2.1
  have h52 := i1.2.2.2.1
  have hsg := i1.2.2.2.2.1
  have ff : ¬ (false = true) := Bool.false_ne_true
  have wT := WF_tr hw
  have f7 := fct_le _ (ins_le hw)
  rcases ix (x := x1) 10 (by omega) with ⟨x, hx, e⟩ | hx1
  · subst e
    have m9 : f_X11_lies (nI x) (0 : Int32) (9 : Int32) = some true := lies_n (n := 9) (by omega) (by omega)
    rcases ix (x := x2) 2 (by omega) with ⟨z, hz, e⟩ | hx2
    · subst e
      have mz : f_X11_lies (nI z) (0 : Int32) (1 : Int32) = some true := lies_n (n := 1) (by omega) (by omega)
      obtain ⟨lt, l1, l2, l3⟩ := c_latest (h := h) (K := aI h 83) (k := k) (sm := sm) ⟨i2.2.1, i2.2.2.1⟩ h6 hsg hsm
      obtain ⟨al, h', kn, c1, c2, c3, c4, c5, c6, c7, c8, c9, c10, c11⟩ := look i1 i2 i3 i9 (show max x lt ≤ 9 by omega)
      have hg := HSg_of i2 c7
      have hl : ∀ i, i < sm → sgM (aI h 83) i ≤ kn := fun i hi => Nat.le_trans (l3 i hi) (by omega)
      have cl := cntN_le (FB (SF (aI h 83) L) (aI h 83) k sm) (fct (insL (aI h 83) k).length)
      have hcount := c_count c6 hw c4 hg hsg hsm hl
      -- the class asks
      have CL1 : ∃ e, lp (fun s => b_X10_ask_74 (nI x) (nI z) s.1 s.2.1 s.2.2.1 s.2.2.2) FU ((-1 : Int32), (0 : Int32), (0 : Int32), h') = some (if k = 0 then (-1 : Int32) else nI (bkN (AL (SF (aI h 83) L) (aI h 83) k sm x) k), (if k = 0 then (0 : Int32) else nI (lkN (AL (SF (aI h 83) L) (aI h 83) k sm x) k)), e) ∧ Fr (fun a => a = 80) noF h' e := by
        have key := lp_inv (b := fun s : Int32 × Int32 × Int32 × Hp => b_X10_ask_74 (nI x) (nI z) s.1 s.2.1 s.2.2.1 s.2.2.2) (fun p s => s.1 = (if p = 0 then (-1 : Int32) else nI (bkN (AL (SF (aI h 83) L) (aI h 83) k sm x) p)) ∧ s.2.1 = (if p = 0 then (0 : Int32) else nI (lkN (AL (SF (aI h 83) L) (aI h 83) k sm x) p)) ∧ s.2.2.1 = nI p ∧ Fr (fun a => a = 80) noF h' s.2.2.2) (fun e => e.1 = (if k = 0 then (-1 : Int32) else nI (bkN (AL (SF (aI h 83) L) (aI h 83) k sm x) k)) ∧ e.2.1 = (if k = 0 then (0 : Int32) else nI (lkN (AL (SF (aI h 83) L) (aI h 83) k sm x) k)) ∧ Fr (fun a => a = 80) noF h' e.2.2) k ((-1 : Int32), (0 : Int32), (0 : Int32), h') (by omega) ⟨rfl, rfl, rfl, Fr_rfl⟩ ?_ ?_
        · obtain ⟨e, k1, k2, k3, k4⟩ := key
          exact ⟨e.2.2, by rw [k1, ← k2, ← k3], k4⟩
        · rintro p ⟨s1, s2, s3, s4⟩ hp ⟨q1, q2, q3, q4⟩
          dsimp only at q1 q2 q3 q4
          subst q1
          subst q2
          subst q3
          have c6' : CAv s4 (trK (aI h 83)) k (SF (aI h 83) L) kn := by
            obtain ⟨v1, v2, v3, v4⟩ := c6
            exact ⟨by rw [q4.1 _ _ (fun c => c)]; exact v1, by rw [q4.1 _ _ (fun c => c)]; exact v2, by rw [q4.2.1 78 (by omega)]; exact v3, by rw [q4.2.1 74 (by omega), q4.2.1 75 (by omega)]; exact v4⟩
          have hg' : HSg s4 (aI h 83) sm := ⟨by rw [q4.1 _ _ (fun c => c)]; exact hg.1, by rw [q4.2.1 39 (by omega)]; exact hg.2⟩
          obtain ⟨s5, y1, y2⟩ := c_alike c6' hw c4 hg' hsg hsm hl (n := x) (p := p) (by omega) hp
          have ale := AL_le (SF (aI h 83) L) (aI h 83) k sm x p
          have lke := lk_le (AL (SF (aI h 83) L) (aI h 83) k sm x) p
          have R33 : RRh s4 33 (trK (aI h 83)) := RR_fr c8 q4 (fun c => c) (by omega) (by omega) (by omega) (by omega)
          refine Or.inl ⟨(nI (bkN (AL (SF (aI h 83) L) (aI h 83) k sm x) (p + 1)), nI (lkN (AL (SF (aI h 83) L) (aI h 83) k sm x) (p + 1)), nI (p + 1), s5), ?_, by rw [if_neg (by omega)], by rw [if_neg (by omega)], rfl, Fr_tr q4 y2⟩
          show b_X10_ask_74 (nI x) (nI z) (if p = 0 then (-1 : Int32) else nI (bkN (AL (SF (aI h 83) L) (aI h 83) k sm x) p)) (if p = 0 then (0 : Int32) else nI (lkN (AL (SF (aI h 83) L) (aI h 83) k sm x) p)) (nI p) s4 = _
          unfold b_X10_ask_74 j_X10_ask_117_74
          rw [k_sn R33 wT, if_neg (nI_ge hp (by omega)), y1, Option.bind_some, nI_1]
          show _ = some (Sum.inl (nI (if AL (SF (aI h 83) L) (aI h 83) k sm x p < lkN (AL (SF (aI h 83) L) (aI h 83) k sm x) p then p else bkN (AL (SF (aI h 83) L) (aI h 83) k sm x) p), nI (if AL (SF (aI h 83) L) (aI h 83) k sm x p < lkN (AL (SF (aI h 83) L) (aI h 83) k sm x) p then AL (SF (aI h 83) L) (aI h 83) k sm x p else lkN (AL (SF (aI h 83) L) (aI h 83) k sm x) p), nI (p + 1), s5))
          by_cases c0 : p = 0
          · subst c0
            rw [if_pos rfl, if_pos rfl]
            have : AL (SF (aI h 83) L) (aI h 83) k sm x 0 < lkN (AL (SF (aI h 83) L) (aI h 83) k sm x) 0 := by
              show _ < 1000000
              omega
            rw [if_pos this, if_pos this]
          · have bl := bk_le (AL (SF (aI h 83) L) (aI h 83) k sm x) p
            rw [if_neg c0, if_neg c0, if_neg (nI_ne1 (by omega))]
            by_cases c2 : AL (SF (aI h 83) L) (aI h 83) k sm x p < lkN (AL (SF (aI h 83) L) (aI h 83) k sm x) p
            · rw [if_pos c2, if_pos c2, if_neg (nI_ge c2 (by omega))]
            · rw [if_neg c2, if_neg c2, if_pos (nI_le (by omega) (by omega))]
        · rintro ⟨s1, s2, s3, s4⟩ ⟨q1, q2, q3, q4⟩
          dsimp only at q1 q2 q3 q4
          subst q3
          refine ⟨(s1, s2, s4), ?_, q1, q2, q4⟩
          show b_X10_ask_74 (nI x) (nI z) s1 s2 (nI k) s4 = _
          unfold b_X10_ask_74
          rw [k_sn (RR_fr c8 q4 (fun c => c) (by omega) (by omega) (by omega) (by omega)) wT, if_pos (Int32.le_refl _)]
      obtain ⟨he, ce1, ce2⟩ := CL1
      by_cases cz : cntN (FB (SF (aI h 83) L) (aI h 83) k sm) (fct (insL (aI h 83) k).length) = 0
      · obtain ⟨g1, d1, d2, d3, d4, d5, d6⟩ := m_laysS (h := h') (k := k) (sm := sm) c11 c10 c9 hw i1.2.1 hsg hsm h52 (t := x) (by omega)
        refine ⟨-1, h', g1, ?_, ?_, INV_lk i1 i2 i4 i5 i6 i7 i8 i9 (Fr_tr (la_lk c7) (pl_lk d6)) d2 (CAC_lk c4 c5 c6 d6 (fun a c => by unfold plsA mA at c; omega) (fun a j c => by unfold plsF tF at c; omega))⟩
        · unfold f_X10_ask
          rw [near_n (by omega), Option.bind_some, if_pos rfl, if_neg (nI_pos (by omega)), if_pos (show nI z ≤ (1 : Int32) from nI_le (b := 1) (by omega) (by omega)), c1, Option.bind_some, l1, Option.bind_some, j_max_n (by omega) (by omega), Option.bind_some, c2, Option.bind_some, hcount, Option.bind_some, cz, if_pos (show nI 0 = 0 from rfl)]
        · unfold f_X11_ask
          rw [m9, Option.bind_some, if_pos rfl, mz, Option.bind_some, if_pos rfl, d1, Option.bind_some, cz, if_pos (show nI 0 = 0 from rfl)]
      · have he83 : aI he 83 = aI h 83 := by rw [ce2.2.1 83 (by omega), c9]
        obtain ⟨g1, d1, d2, d3, d4, d5, d6⟩ := m_laysS (h := he) (k := k) (sm := sm) c11 c10 he83 hw i1.2.1 hsg hsm h52 (t := x) (by omega)
        -- the reference asks
        have ML1 : ∃ e, lp (fun s => b_X11_ask_38 (nI z) s.1 s.2.1 s.2.2.1 s.2.2.2) FU ((-1 : Int32), (1000000 : Int32), (0 : Int32), g1) = some (if k = 0 then (-1 : Int32) else nI (bkN (AL (SF (aI h 83) L) (aI h 83) k sm x) k), nI (lkN (AL (SF (aI h 83) L) (aI h 83) k sm x) k), e) ∧ Fr (fun a => a = 104) noF g1 e := by
          have key := lp_inv (b := fun s : Int32 × Int32 × Int32 × Hp => b_X11_ask_38 (nI z) s.1 s.2.1 s.2.2.1 s.2.2.2) (fun p s => s.1 = (if p = 0 then (-1 : Int32) else nI (bkN (AL (SF (aI h 83) L) (aI h 83) k sm x) p)) ∧ s.2.1 = nI (lkN (AL (SF (aI h 83) L) (aI h 83) k sm x) p) ∧ s.2.2.1 = nI p ∧ Fr (fun a => a = 104) noF g1 s.2.2.2) (fun e => e.1 = (if k = 0 then (-1 : Int32) else nI (bkN (AL (SF (aI h 83) L) (aI h 83) k sm x) k)) ∧ e.2.1 = nI (lkN (AL (SF (aI h 83) L) (aI h 83) k sm x) k) ∧ Fr (fun a => a = 104) noF g1 e.2.2) k ((-1 : Int32), (1000000 : Int32), (0 : Int32), g1) (by omega) ⟨rfl, rfl, rfl, Fr_rfl⟩ ?_ ?_
          · obtain ⟨e, k1, k2, k3, k4⟩ := key
            exact ⟨e.2.2, by rw [k1, ← k2, ← k3], k4⟩
          · rintro p ⟨s1, s2, s3, s4⟩ hp ⟨q1, q2, q3, q4⟩
            dsimp only at q1 q2 q3 q4
            subst q1
            subst q2
            subst q3
            have hd : HLD s4 (aI h 83) k := HLD_fr d3 q4 (by omega) (by omega) (fun c => c) (fun c => c)
            obtain ⟨s5, y1, y2⟩ := m_alike (S := SF (aI h 83) L) (sm := sm) (n := x) (p := p) hd hw hp (fun q hq => by
              obtain ⟨w1, w2⟩ := d4 q hq
              refine ⟨by rw [q4.2.1 102 (by omega)]; exact w1, fun p' hp' => ?_⟩
              rw [q4.2.1 103 (by omega)]
              exact w2 p' hp')
            have ale := AL_le (SF (aI h 83) L) (aI h 83) k sm x p
            have lke := lk_le (AL (SF (aI h 83) L) (aI h 83) k sm x) p
            refine Or.inl ⟨(nI (bkN (AL (SF (aI h 83) L) (aI h 83) k sm x) (p + 1)), nI (lkN (AL (SF (aI h 83) L) (aI h 83) k sm x) (p + 1)), nI (p + 1), s5), ?_, by rw [if_neg (by omega)], rfl, rfl, Fr_tr q4 y2⟩
            show b_X11_ask_38 (nI z) (if p = 0 then (-1 : Int32) else nI (bkN (AL (SF (aI h 83) L) (aI h 83) k sm x) p)) (nI (lkN (AL (SF (aI h 83) L) (aI h 83) k sm x) p)) (nI p) s4 = _
            unfold b_X11_ask_38
            rw [m_many (k := k) (by rw [q4.2.1 83 (by omega), d2]; exact hw), Option.bind_some, if_neg (nI_ge hp (by omega)), y1, Option.bind_some, nI_1]
            show _ = some (Sum.inl (nI (if AL (SF (aI h 83) L) (aI h 83) k sm x p < lkN (AL (SF (aI h 83) L) (aI h 83) k sm x) p then p else bkN (AL (SF (aI h 83) L) (aI h 83) k sm x) p), nI (if AL (SF (aI h 83) L) (aI h 83) k sm x p < lkN (AL (SF (aI h 83) L) (aI h 83) k sm x) p then AL (SF (aI h 83) L) (aI h 83) k sm x p else lkN (AL (SF (aI h 83) L) (aI h 83) k sm x) p), nI (p + 1), s5))
            by_cases c2 : AL (SF (aI h 83) L) (aI h 83) k sm x p < lkN (AL (SF (aI h 83) L) (aI h 83) k sm x) p
            · rw [if_pos c2, if_pos c2, if_pos (nI_lt c2 (by omega))]
            · have c0 : p ≠ 0 := by
                intro c0
                subst c0
                apply c2
                show _ < 1000000
                omega
              rw [if_neg c2, if_neg c2, if_neg (nI_nlt (by omega) (by omega)), if_neg c0]
          · rintro ⟨s1, s2, s3, s4⟩ ⟨q1, q2, q3, q4⟩
            dsimp only at q1 q2 q3 q4
            subst q3
            refine ⟨(s1, s2, s4), ?_, q1, q2, q4⟩
            show b_X11_ask_38 (nI z) s1 s2 (nI k) s4 = _
            unfold b_X11_ask_38
            rw [m_many (k := k) (by rw [q4.2.1 83 (by omega), d2]; exact hw), Option.bind_some, if_pos (Int32.le_refl _)]
        obtain ⟨ge, me1, me2⟩ := ML1
        have FT : Fr (fun a => a = 80 ∨ plsA a ∨ a = 104) plsF h' ge := Fr_tr (Fr_tr (Fr_mono ce2 (fun _ c => Or.inl c) (fun _ _ c => c.elim)) (Fr_mono d6 (fun _ c => Or.inr (Or.inl c)) (fun _ _ c => c))) (Fr_mono me2 (fun _ c => Or.inr (Or.inr c)) (fun _ _ c => c.elim))
        have ge83 : aI ge 83 = aI h 83 := by rw [me2.2.1 83 (by omega), d2]
        have II : INV (n + 1) ge := INV_lk i1 i2 i4 i5 i6 i7 i8 i9 (Fr_tr (la_lk c7) (Fr_mono FT (fun a c => by unfold plsA mA at c; unfold lkA scA; omega) (fun a j c => by unfold plsF tF at c; unfold lkF scF; omega))) ge83 (CAC_lk c4 c5 c6 FT (fun a c => by unfold plsA mA at c; omega) (fun a j c => by unfold plsF tF at c; omega))
        have bl := bk_le (AL (SF (aI h 83) L) (aI h 83) k sm x) k
        have hc0 : ¬ nI (cntN (FB (SF (aI h 83) L) (aI h 83) k sm) (fct (insL (aI h 83) k).length)) = 0 := nI_ne0 (by omega) (by omega)
        refine ⟨if k = 0 then -1 else if z = 0 then nI (bkN (AL (SF (aI h 83) L) (aI h 83) k sm x) k) else nI (lkN (AL (SF (aI h 83) L) (aI h 83) k sm x) k), he, ge, ?_, ?_, II⟩
        · unfold f_X10_ask
          rw [near_n (by omega), Option.bind_some, if_pos rfl, if_neg (nI_pos (by omega)), if_pos (show nI z ≤ (1 : Int32) from nI_le (b := 1) (by omega) (by omega)), c1, Option.bind_some, l1, Option.bind_some, j_max_n (by omega) (by omega), Option.bind_some, c2, Option.bind_some, hcount, Option.bind_some, if_neg hc0, ce1, Option.bind_some]
          by_cases k0 : k = 0
          · rw [if_pos k0, if_pos k0, if_pos k0, if_pos rfl]
          · rw [if_neg k0, if_neg k0, if_neg k0, if_neg (nI_ne1 (by omega))]
            by_cases z0 : z = 0
            · rw [if_pos z0, if_pos (by rw [z0]; rfl)]
            · rw [if_neg z0, if_neg (nI_ne0 (by omega) (by omega))]
        · unfold f_X11_ask
          rw [m9, Option.bind_some, if_pos rfl, mz, Option.bind_some, if_pos rfl, d1, Option.bind_some, if_neg hc0, me1, Option.bind_some]
          by_cases k0 : k = 0
          · rw [if_pos k0, if_pos k0, if_pos rfl]
          · rw [if_neg k0, if_neg k0, if_neg (nI_ne1 (by omega))]
            by_cases z0 : z = 0
            · rw [if_pos z0, if_pos (by rw [z0]; rfl)]
            · rw [if_neg z0, if_neg (nI_ne0 (by omega) (by omega))]
    · refine ⟨-1, h, h, ?_, ?_, INV_up hI0⟩
      · unfold f_X10_ask
        rw [near_n (by omega), Option.bind_some, if_pos rfl]
        by_cases c : x2 < 0
        · rw [if_pos c]
        · have := hx2.resolve_left c
          rw [if_neg c, if_neg]
          rw [Int32.le_iff_toInt_le, nI_toInt (by omega)] at this
          rw [Int32.le_iff_toInt_le]
          have e2 : Int32.toInt 1 = 1 := by decide
          omega
      · unfold f_X11_ask
        rw [m9, Option.bind_some, if_pos rfl, show f_X11_lies x2 (0 : Int32) (1 : Int32) = some false from lies_0 (n := 1) (by omega) hx2, Option.bind_some, if_neg ff]
  · refine ⟨-1, h, h, ?_, ?_, INV_up hI0⟩
    · unfold f_X10_ask
      rw [near_0 hx1, Option.bind_some, if_neg ff]
    · unfold f_X11_ask
      rw [show f_X11_lies x1 (0 : Int32) (9 : Int32) = some false from lies_0 (n := 9) (by omega) hx1, Option.bind_some, if_neg ff]
