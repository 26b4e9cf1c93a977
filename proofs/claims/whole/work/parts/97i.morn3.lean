/-! ===== the class's mornings, and the call ===== -/
theorem if_r {h h' : Hp} {a r : Nat} (hr : r ≠ 32) (f1 : f_X1_inForce 32 h = some a) (hf : Fr (paA r) (paF r) h h') : f_X1_inForce 32 h' = some a := by
  unfold f_X1_inForce f_X1_lawAt f_X1_hasLaw at f1 ⊢
  rw [hf.1 32 4 (by unfold paF; omega), hf.1 32 3 (by unfold paF; omega), hf.2.2.2.1]
  exact f1
theorem ix1 (x : Int32) (b : Nat) (hb : b + 1 < 2 ^ 31) : (∃ j, 1 ≤ j ∧ j ≤ b ∧ x = nI j) ∨ (x < 1 ∨ nI b < x) := by
  have e1 : Int32.toInt 1 = 1 := by decide
  rcases ix (x := x) (b + 1) hb with ⟨j, hj, e⟩ | hx | hx
  · by_cases c : j = 0
    · subst c
      exact Or.inr (Or.inl (by rw [e]; decide))
    · exact Or.inl ⟨j, by omega, by omega, e⟩
  · refine Or.inr (Or.inl ?_)
    rw [Int32.lt_iff_toInt_lt] at hx ⊢
    have e0 : Int32.toInt 0 = 0 := by decide
    omega
  · refine Or.inr (Or.inr ?_)
    rw [Int32.le_iff_toInt_le, nI_toInt (by omega)] at hx
    rw [Int32.lt_iff_toInt_lt, nI_toInt (by omega)]
    omega
theorem lies_1n {j n : Nat} (hn : n < 2 ^ 31) (h1 : 1 ≤ j) (hj : j ≤ n) : f_X11_lies (nI j) 1 (nI n) = some true := by
  unfold f_X11_lies
  rw [if_neg (show ¬ nI j < (1 : Int32) from nI_nlt (b := 1) h1 (by omega)), if_neg (nI_nlt hj (by omega))]
theorem lies_10 {x : Int32} {n : Nat} (hx : x < 1 ∨ nI n < x) : f_X11_lies x 1 (nI n) = some false := by
  unfold f_X11_lies
  by_cases c : x < 1
  · rw [if_pos c]
  · rw [if_neg c, if_pos (hx.resolve_left c)]
theorem c_morn {S : Sem} {h g : Hp} {K : Nat → Int32} {k s m x a : Nat} (hS : semOK S) (hC : CL h a S) (hg : tg h a = true) (ha : isTx a) (f1 : f_X1_inForce 32 h = some a) (hR : RRh g 17 K) (hf : Fr (paA 17) (paF 17) h g) (hs : s < 1000003) (hw : WF K k) (hk : 0 < k) (hm : K 24 = nI m) (hm9 : m ≤ 999) (hx : x ≤ 60) : ∃ h', lp (fun q => b_X10_mornings_70 (nI x) (nI k) q.1 q.2.1 q.2.2) FU (nI s, (0 : Int32), g) = some h' ∧ RRh h' 17 (dsK S k s K (min x (999 - m))) ∧ Fr (paA 17) (paF 17) h h' := by
  have h6 := hw.2.1
  have key := lp_inv (b := fun q : Int32 × Int32 × Hp => b_X10_mornings_70 (nI x) (nI k) q.1 q.2.1 q.2.2) (fun g q => q.1 = nI (dsS s g) ∧ q.2.1 = nI g ∧ RRh q.2.2 17 (dsK S k s K g) ∧ Fr (paA 17) (paF 17) h q.2.2) (fun e => RRh e 17 (dsK S k s K (min x (999 - m))) ∧ Fr (paA 17) (paF 17) h e) (min x (999 - m)) (nI s, (0 : Int32), g) (by omega) ⟨rfl, rfl, hR, hf⟩ ?_ ?_
  · exact key
  · intro g q hg' ⟨p1, p2, p3, p4⟩
    obtain ⟨a1, a2, a3⟩ := ds_ok (s := s) hS hw hk hm g
    have d0 := dsS_lt hs g
    have d1 := drN_lt (dsS s g)
    have d2 := drN_lt (drN (dsS s g))
    have d3 := drN_lt (drN (drN (dsS s g)))
    have hp : drN (dsS s g) % k < k := Nat.mod_lt _ hk
    have ht : drN (drN (dsS s g)) % 9 < 9 := Nat.mod_lt _ (by omega)
    have hc : drN (drN (drN (dsS s g))) % 3 < 3 := Nat.mod_lt _ (by omega)
    obtain ⟨h1, z1, z2, z3⟩ := c_move p3 a1 hp ht hc
    have F1 : Fr (paA 17) (paF 17) h h1 := Fr_tr p4 (Fr_mono z3 (fun a c => by unfold paA; omega) (fun _ _ c => c.elim))
    obtain ⟨t1, t2, t3, t4⟩ := pa_tx (r := 17) (Or.inr (Or.inl rfl)) ha
    obtain ⟨h2, y1, y2, y3⟩ := c_pass hS hC (Tx_fr ⟨rfl, rfl, rfl, rfl, rfl, rfl, hg⟩ F1 t1 t2 t3 t4) ha (Or.inr (Or.inl rfl)) z2 (WF_mvd a1 hp ht) ⟨m + g, by omega, by rw [mvd_o (by omega)]; exact a2⟩
    refine Or.inl ⟨(nI (dsS s (g + 1)), nI (g + 1), h2), ?_, rfl, rfl, y2, Fr_tr F1 (pA_pa y3)⟩
    show b_X10_mornings_70 (nI x) (nI k) q.1 q.2.1 q.2.2 = _
    unfold b_X10_mornings_70
    rw [p1, p2, if_neg (show ¬ nI x ≤ nI g by rw [nI_le6 (by omega) (by omega)]; omega), show aI q.2.2 21 0 = nI (m + g) from p3.2.2.2.2.1.trans a2, if_neg (show ¬ (999 : Int32) ≤ nI (m + g) by rw [show ((999 : Int32)) = nI 999 from rfl, nI_le6 (by omega) (by omega)]; omega), c_draw d0, Option.bind_some, if_neg (nI_ne0 hk (by omega)), c_draw d1, Option.bind_some, c_draw d2, Option.bind_some, pk_rem (by omega) hk (by omega), show nI (drN (drN (dsS s g))) - nI (drN (drN (dsS s g))) / (9 : Int32) * (9 : Int32) = nI (drN (drN (dsS s g)) % 9) from pk_rem (d := 9) (by omega) (by omega) (by omega), show nI (drN (drN (drN (dsS s g)))) - nI (drN (drN (drN (dsS s g)))) / (3 : Int32) * (3 : Int32) = nI (drN (drN (drN (dsS s g))) % 3) from pk_rem (d := 3) (by omega) (by omega) (by omega), z1, Option.bind_some, if_r (by omega) f1 F1, Option.bind_some, y1, Option.bind_some, nI_1]
    rfl
  · intro q ⟨p1, p2, p3, p4⟩
    obtain ⟨a1, a2, a3⟩ := ds_ok (s := s) hS hw hk hm (min x (999 - m))
    refine ⟨q.2.2, ?_, p3, p4⟩
    show b_X10_mornings_70 (nI x) (nI k) q.1 q.2.1 q.2.2 = _
    unfold b_X10_mornings_70
    rw [p2, show aI q.2.2 21 0 = nI (m + min x (999 - m)) from p3.2.2.2.2.1.trans a2]
    by_cases c : x ≤ 999 - m
    · rw [if_pos (show nI x ≤ nI (min x (999 - m)) by rw [nI_le6 (by omega) (by omega)]; omega)]
    · rw [if_neg (show ¬ nI x ≤ nI (min x (999 - m)) by rw [nI_le6 (by omega) (by omega)]; omega), if_pos (show (999 : Int32) ≤ nI (m + min x (999 - m)) by rw [show ((999 : Int32)) = nI 999 from rfl, nI_le6 (by omega) (by omega)]; omega)]
theorem m_cp109 {h : Hp} {v : Int32} : ∃ h', lp (fun s => b_X11_mornings_96 v s.1 s.2) FU ((0 : Int32), h) = some h' ∧ (∀ i, i < 25 → aI h' 109 i = aI h 83 i) ∧ Fr (fun a => a = 109) noF h h' := by
  refine lp_inv (b := fun s : Int32 × Hp => b_X11_mornings_96 v s.1 s.2) (fun i s => s.1 = nI i ∧ (∀ j, j < i → aI s.2 109 j = aI h 83 j) ∧ Fr (fun a => a = 109) noF h s.2) (fun e => (∀ j, j < 25 → aI e 109 j = aI h 83 j) ∧ Fr (fun a => a = 109) noF h e) 25 ((0 : Int32), h) (by omega) ⟨rfl, fun j hj => absurd hj (Nat.not_lt_zero _), Fr_rfl⟩ ?_ ?_
  · intro i s hi ⟨p1, p2, p4⟩
    refine Or.inl ⟨(nI (i + 1), sA s.2 109 i (aI s.2 83 i)), ?_, rfl, fun j hj => ?_, Fr_tA p4 rfl⟩
    · show b_X11_mornings_96 v s.1 s.2 = _
      unfold b_X11_mornings_96
      rw [p1, if_neg (show ¬ (25 : Int32) ≤ nI i by rw [l25_, nI_le6 (by omega) (by omega)]; omega), inb_nI (show i < 5662 by omega) (by omega), Option.bind_some, inb_nI (show i < 25 by omega) (by omega), Option.bind_some, nI_1]
    · show aI (sA s.2 109 i (aI s.2 83 i)) 109 j = _
      by_cases c : j = i
      · rw [c, aI_s, p4.2.1 83 (by omega)]
      · rw [aI_n c]; exact p2 j (by omega)
  · intro s ⟨p1, p2, p4⟩
    refine ⟨s.2, ?_, p2, p4⟩
    show b_X11_mornings_96 v s.1 s.2 = _
    unfold b_X11_mornings_96
    rw [p1, if_pos (show (25 : Int32) ≤ nI 25 by decide)]
def moA (a : Nat) : Prop := 18 ≤ a ∧ a ≤ 21 ∨ a = 30 ∨ a = 31 ∨ a = 57 ∨ a = 58 ∨ a = 83 ∨ a = 86 ∨ a = 93 ∨ a = 94 ∨ a = 109
def moF (a j : Nat) : Prop := a = 17 ∨ a = 0 ∧ j = 19 ∨ a = 81 ∧ (j = 0 ∨ 22 ≤ j ∧ j ≤ 25 ∨ j = 54 ∨ j = 55)
theorem op_32 : Op_32 INV := by
  intro n h hI _ x1 x2
  have hI0 := hI
  obtain ⟨k, sm, lc, L, i1, i2, i3, i4, i5, i6, i7, i8, i9⟩ := hI
  have hw := i1.1
  have h6 := hw.2.1
  have hR := i2.1
  have ff : ¬ (false = true) := Bool.false_ne_true
  have h28 : ln h 28 = 0 := i9.2.2.2.2.2.1
  have lM : ((1000000 : Int32)) = nI 1000000 := rfl
  have l60 : ((60 : Int32)) = nI 60 := rfl
  have j22 : j_X10_mornings_22 h = f_X10_answer (-1) h := by unfold j_X10_mornings_22; rw [bnd]
  have j20 : ∀ h1, j_X11_mornings_20 h1 = f_X11_refuses (-1) h1 := fun h1 => by unfold j_X11_mornings_20; rw [bnd]
  rcases ix (x := x1) 1000001 (by omega) with ⟨s, hs, e⟩ | hx1
  · subst e
    rcases ix1 x2 60 (by omega) with ⟨x, hxa, hxb, e⟩ | hx2
    · subst e
      by_cases hk : k = 0
      · refine refu (C := f_X10_mornings (nI s) (nI x)) (M := f_X11_mornings (nI s) (nI x)) hI0 rf3 ?_ (fun h1 e83 => ?_)
        · unfold f_X10_mornings
          rw [if_neg (nI_pos (by omega)), if_neg (show ¬ (1000000 : Int32) < nI s from nI_nlt (a := 1000000) (by omega) (by omega)), if_neg (show ¬ nI x < (1 : Int32) from nI_nlt (b := 1) (by omega) (by omega)), if_pos (show nI x ≤ (60 : Int32) from nI_le (b := 60) (by omega) (by omega)), k_sn hR hw, hk, if_pos (show nI 0 = 0 from rfl), bnd]
        · unfold f_X11_mornings
          rw [lM, lies_n (by omega) (by omega), Option.bind_some, if_pos rfl, l60, lies_1n (by omega) hxa hxb, Option.bind_some, if_pos rfl, m_many (k := k) (by rw [e83]; exact hw), Option.bind_some, hk, if_pos (show nI 0 = 0 from rfl), bnd]
      · have hk0 : 0 < k := by omega
        obtain ⟨m, hm9, hm⟩ := i1.2.1
        obtain ⟨a, f1, f2, f3, f4, f5, f6⟩ := in_force i1 i2 i9
        obtain ⟨g, g1, g2, g3⟩ := c_copy (r := 17) hR (by omega)
        have F0 : Fr (paA 17) (paF 17) h g := Fr_mono g3 (fun a c => by unfold paA; omega) (fun a j c => c)
        obtain ⟨e, c1, c2, c3⟩ := c_morn (s := s) (x := x) f6 f4 f3 f2 f1 g2 F0 (by omega) hw hk0 hm hm9 (by omega)
        have hG := ds_ok (s := s) f6 hw hk0 hm (min x (999 - m))
        have q83 : aI e 83 = aI h 83 := c3.2.1 83 (by unfold paA; omega)
        obtain ⟨r1, a1, a2, -, a4⟩ := m_aside (h := sF (sF (sF e 0 19 0) 81 55 (nI s)) 81 54 (nI k)) (t := 0) (by omega)
        have q83a : aI r1 83 = aI h 83 := by rw [a4.2.1 83 (by omega)]; exact q83
        have q55 : fI r1 81 55 = nI s := by rw [a4.1 _ _ (fun c => c), fI_n (by omega), fI_s]
        obtain ⟨r2, b1, b2, b3⟩ := m_morn (x := x) f6 f5 (fun i hi => rfl) q55 (by omega) q83a hw hk0 hm hm9 (by omega)
        obtain ⟨r3, d1, d2, d3⟩ := m_cp109 (h := r2) (v := nI (cntN (plsb (dsK (SF (aI h 83) L) k s (aI h 83) (min x (999 - m)))) k))
        obtain ⟨r4, y1, y2, y3⟩ := m_tbk (h := r3) (t := 0) (by omega)
        have e83 : aI r4 83 = aI h 83 := by
          funext i
          rw [y2 i]
          by_cases c : i < 25
          · rw [if_pos c, d3.2.1 86 (by omega), b3.2.1 86 (by unfold mA; omega), a2 i c]
            show aI e 83 i = _
            rw [q83]
          · rw [if_neg c, d3.2.1 83 (by omega), b2, hG.2.2 i (by omega)]
        have cl := cntN_le (plsb (dsK (SF (aI h 83) L) k s (aI h 83) (min x (999 - m)))) k
        refine ⟨nI (cntN (plsb (dsK (SF (aI h 83) L) k s (aI h 83) (min x (999 - m)))) k), sF e 0 19 0, sF r4 81 0 0, ?_, ?_, ?_⟩
        · unfold f_X10_mornings
          rw [if_neg (nI_pos (by omega)), if_neg (show ¬ (1000000 : Int32) < nI s from nI_nlt (a := 1000000) (by omega) (by omega)), if_neg (show ¬ nI x < (1 : Int32) from nI_nlt (b := 1) (by omega) (by omega)), if_pos (show nI x ≤ (60 : Int32) from nI_le (b := 60) (by omega) (by omega)), k_sn hR hw, if_neg (nI_ne0 hk0 (by omega)), g1, Option.bind_some, c1, Option.bind_some]
          unfold j_X10_mornings_161
          rw [k_contented c2 hG.1, Option.bind_some, c_ans0 (nI_pos' (by omega)), Option.bind_some]
        · unfold f_X11_mornings
          have mk : ∀ z : Hp, aI z 83 = aI h 83 → f_X11_many z = some (nI k) := fun z hz => m_many (k := k) (by rw [hz]; exact hw)
          rw [lM, lies_n (by omega) (by omega), Option.bind_some, if_pos rfl, l60, lies_1n (by omega) hxa hxb, Option.bind_some, if_pos rfl, mk (sF e 0 19 0) q83, Option.bind_some, if_neg (nI_ne0 hk0 (by omega)), mk (sF (sF e 0 19 0) 81 55 (nI s)) q83, Option.bind_some, show f_X11_laysAside (0 : Int32) _ = some ((), r1) from a1, Option.bind_some, b1, Option.bind_some]
          unfold j_X11_mornings_88
          rw [m_pleasedMany (k := k) (by rw [b2]; exact hG.1), Option.bind_some, b2, d1, Option.bind_some, show f_X11_takesBack (0 : Int32) r3 = some ((), r4) from y1, Option.bind_some]
          rfl
        · have hf : Fr moA moF h (sF r4 81 0 0) := by
            refine Fr_tF (Fr_tr (Fr_tr (Fr_tr (Fr_tr (Fr_tF (Fr_tF (Fr_tF (Fr_mono c3 ?_ ?_) ?_) ?_) ?_) (Fr_mono a4 ?_ ?_)) (Fr_mono b3 ?_ ?_)) (Fr_mono d3 ?_ ?_)) (Fr_mono y3 ?_ ?_)) ?_
            · intro a c; unfold paA at c; unfold moA; omega
            · intro a j c; unfold paF at c; unfold moF; omega
            · unfold moF; omega
            · unfold moF; omega
            · unfold moF; omega
            · intro a c; unfold moA; omega
            · intro a j c; exact c.elim
            · intro a c; unfold mA at c; unfold moA; omega
            · intro a j c; unfold tF at c; unfold moF; omega
            · intro a c; unfold moA; omega
            · intro a j c; exact c.elim
            · intro a c; unfold moA; omega
            · intro a j c; exact c.elim
            · unfold moF; omega
          have z83 : aI (sF r4 81 0 0) 83 = aI h 83 := e83
          have z19 : fI (sF r4 81 0 0) 0 19 = 0 := by
            rw [fI_n (by omega), y3.1 _ _ (fun c => c), d3.1 _ _ (fun c => c), b3.1 _ _ (by unfold tF; omega), a4.1 _ _ (fun c => c), fI_n (by omega), fI_n (by omega), fI_s]
          have z54 : fI (sF r4 81 0 0) 81 54 = nI k := by
            rw [fI_n (by omega), y3.1 _ _ (fun c => c), d3.1 _ _ (fun c => c), b3.1 _ _ (by unfold tF; omega), a4.1 _ _ (fun c => c), fI_s]
          have F17 : Fr (fun a => a = 83 ∨ a = 86 ∨ a = 93 ∨ a = 94 ∨ a = 109) (fun a j => a = 0 ∧ j = 19 ∨ a = 81) e (sF r4 81 0 0) := by
            refine Fr_tF (Fr_tr (Fr_tr (Fr_tr (Fr_tr (Fr_tF (Fr_tF (Fr_tF Fr_rfl ?_) ?_) ?_) (Fr_mono a4 ?_ ?_)) (Fr_mono b3 ?_ ?_)) (Fr_mono d3 ?_ ?_)) (Fr_mono y3 ?_ ?_)) ?_
            · omega
            · omega
            · omega
            · intro a c; omega
            · intro a j c; exact c.elim
            · intro a c; unfold mA at c; omega
            · intro a j c; unfold tF at c; omega
            · intro a c; omega
            · intro a j c; exact c.elim
            · intro a c; omega
            · intro a j c; exact c.elim
            · omega
          have R17 := RR_fr c2 F17 (by omega) (by omega) (by omega) (by omega) (by omega)
          have z109 : ∀ i, i < 25 → aI (sF r4 81 0 0) 109 i = dsK (SF (aI h 83) L) k s (aI h 83) (min x (999 - m)) i := by
            intro i hi
            show aI r4 109 i = _
            rw [y3.2.1 109 (by omega), d2 i hi, b2]
          refine ⟨k, sm, lc, L, by rw [z83]; exact i1, by rw [z83]; exact HR_tr i2 i1 h28 hf (fun a c => by unfold moA at c; omega) (fun a j c => by unfold moF at c; omega), by rw [z83]; exact CAC_tr i3 hf (fun a c => by unfold moA at c; omega) (fun a j c => by unfold moF at c; omega), IMG_tr i4 h28 hf (fun a c => by unfold moA at c; omega) (fun a j c => by unfold moF at c; omega), TAP_tr i5 hf (fun a c => by unfold moA at c; omega) (fun a j c => by unfold moF at c; omega), MIS_g i6 (hf.1 _ _ (by unfold moF; omega)) (hf.1 _ _ (by unfold moF; omega)) (hf.1 _ _ (by unfold moF; omega)) (hf.1 _ _ (by unfold moF; omega)) (hf.1 _ _ (by unfold moF; omega)) (hf.1 _ _ (by unfold moF; omega)) (hf.2.1 _ (by unfold moA; omega)) (hf.2.1 _ (by unfold moA; omega)) z19 fI_s, by rw [z83]; exact PAS_tr i7 hf (fun a c => by unfold moA at c; omega) (fun a j c => by unfold moF at c; omega), Or.inr ⟨k, hk0, h6, ?_, z54, fun i hi => ?_, fun i hi => ?_⟩, CON_tr i9 hf (fun a c => by unfold moA at c; omega) (fun a j c => by unfold moF at c; omega)⟩
          · exact k_sn R17 hG.1
          · rw [z109 i (by omega)]; exact R17.2.1 i hi
          · rw [z109 (18 + i) (by omega)]; exact R17.2.2.2.1 i hi
    · refine refu (C := f_X10_mornings (nI s) x2) (M := f_X11_mornings (nI s) x2) hI0 rf1 ?_ (fun h1 e83 => ?_)
      · unfold f_X10_mornings
        rw [if_neg (nI_pos (by omega)), if_neg (show ¬ (1000000 : Int32) < nI s from nI_nlt (a := 1000000) (by omega) (by omega)), j22]
        by_cases c : x2 < 1
        · rw [if_pos c]
        · rw [if_neg c, if_neg (show ¬ x2 ≤ (60 : Int32) from i32_nle.mpr (hx2.resolve_left c))]
      · unfold f_X11_mornings
        rw [lM, lies_n (by omega) (by omega), Option.bind_some, if_pos rfl, l60, lies_10 hx2, Option.bind_some, if_neg ff, j20]
  · refine refu (C := f_X10_mornings x1 x2) (M := f_X11_mornings x1 x2) hI0 rf1 ?_ (fun h1 e83 => ?_)
    · unfold f_X10_mornings
      rw [j22]
      by_cases c : x1 < 0
      · rw [if_pos c]
      · rw [if_neg c, if_pos]
        have := hx1.resolve_left c
        rw [Int32.le_iff_toInt_le, nI_toInt (by omega)] at this
        rw [Int32.lt_iff_toInt_lt]
        have e2 : Int32.toInt 1000000 = 1000000 := by decide
        omega
    · unfold f_X11_mornings
      rw [lM, lies_0 (by omega) hx1, Option.bind_some, if_neg ff, j20]
