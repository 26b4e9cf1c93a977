/-! ===== the call: orders ===== -/
def ordT (u : Int32) (e19 : Hp ⊕ (Int32 × Hp)) : Option (Int32 × Hp) :=
  sc e19 (fun e21 => (f_X11_good (fI e21 81 27) e21).bind fun v22 => some (v22.1, v22.2)) (fun e24 => (f_X11_takesBack (1 : Int32) e24.2).bind fun v25 => (lp (fun s => b_X11_orders_122 u e24.1 s.1 s.2) FU ((0 : Int32), v25.2)).bind fun e32 => (f_X11_refuses (-3 : Int32) (sF (sF e32 81 32 u) 81 46 e24.1)).bind fun v34 => some (v34.1, v34.2))
def opA (a : Nat) : Prop := 90 ≤ a ∧ a ≤ 92 ∨ a = 86 ∨ a = 96 ∨ a = 83
def opF (a k : Nat) : Prop := a = 81 ∧ (8 ≤ k ∧ k ≤ 10 ∨ k = 13 ∨ k = 14 ∨ 18 ≤ k ∧ k ≤ 21 ∨ k = 27 ∨ k = 28 ∨ k = 46 ∨ k = 47)
/-- K and K0 are one but for the orders' own text -/
def AG6 (K K0 : Nat → Int32) : Prop := ∀ i, ¬ (i = 61 ∨ 2462 ≤ i ∧ i < 2862 ∨ 5262 ≤ i ∧ i < 5662) → K0 i = K i
theorem KOK_6 {K K0 : Nat → Int32} {k sm lc : Nat} {L : LDt} (hK : KOK K k sm lc L) (ha : AG6 K K0) : KOK K0 k sm lc L := by
  obtain ⟨w1, w2, w3, w4, w5, w6, w7, w8, w9⟩ := hK
  refine ⟨WF_ag w1 (fun i hi => ha i (by omega)), ?_, w3, by rw [ha 52 (by omega)]; exact w4, fun i hi => ?_, w6, by rw [ha 53 (by omega)]; exact w7, fun t ht => ⟨(w8 t ht).1, ?_⟩, by rw [ha 54 (by omega)]; exact w9⟩
  · obtain ⟨m, m1, m2⟩ := w2
    exact ⟨m, m1, by rw [ha 24 (by omega)]; exact m2⟩
  · obtain ⟨p, m, c, q1, q2, q3, q4, q5, q6⟩ := w5 i hi
    exact ⟨p, m, c, q1, q2, q3, by rw [ha _ (by omega)]; exact q4, by rw [ha _ (by omega)]; exact q5, by rw [ha _ (by omega)]; exact q6⟩
  · obtain ⟨p1, q1, q2⟩ := w8 t ht
    have tn := p1.1.1
    exact ⟨by rw [ha _ (by omega)]; exact q1, fun x hx => ⟨by rw [ha _ (by omega)]; exact (q2 x hx).1, by rw [ha _ (by omega)]; exact (q2 x hx).2⟩⟩
theorem HR_6 {h : Hp} {K K0 : Nat → Int32} {sm lc : Nat} {L : LDt} (hh : HR h 32 K sm lc L) (ha : AG6 K K0) : HR h 32 K0 sm lc L := by
  obtain ⟨r1, r2, r3, r4, r5, r6, r7⟩ := hh
  exact ⟨RR_ag r1 (fun i hi => ha i (by omega)), r2, fun i hi => by rw [ha _ (by omega)]; exact r3 i hi, r4, r5, r6, by rw [ha 54 (by omega)]; exact r7⟩
theorem CL_tr {h h2 : Hp} {a : Nat} {S : Sem} (hc : CL h a S) (ht : TxSame h h2 a) : CL h2 a S := by
  obtain ⟨t1, t2, t3, t4, t5, t6, t7⟩ := ht
  intro h' ⟨s1, s2, s3, s4, s5, s6, s7⟩
  exact hc h' ⟨s1.trans t1, s2.trans t2, s3.trans t3, s4.trans t4, s5.trans t5, s6.trans t6, s7⟩
/-- the reference, up to its first order -/
theorem o_prep {hc' : Hp} {bt : Nat → Nat} {tl sz0 : Nat} {r : Option Nat} (hr : r = some sz0) (a5 : ∀ g, RB bt tl g → fI g 81 13 = nI tl → ∃ b g', f_X11_readsAs (b2i true) g = some (b, g') ∧ Fr xA xF g g' ∧ fI g' 81 13 = 0 ∧ fI hc' 4 10 = fI g' 81 14 ∧ ((∃ T n s c mk, TF T ∧ r = some sz0 ∧ b = true ∧ 0 < n ∧ n ≤ 12 ∧ TxI hc' sz0 n s c mk ∧ CU T (CPO T) c mk n (tN T + 1) s ∧ TR T g') ∨ (r = none ∧ b = false))) {g : Hp} (hB : RB bt tl g) (h13 : fI g 81 13 = nI tl) :
    ∃ T n s c mk D g0, TF T ∧ 0 < n ∧ TxI hc' sz0 n s c mk ∧ ClD T (CdO T) c mk D n (tN T + 1) s ∧ LdO T (aI g0 83) ∧ AG6 (aI g 83) (aI g0 83) ∧ fI g0 81 27 = 0 ∧ fI g0 81 28 = -1 ∧ fI g0 81 47 = nI 2400 ∧ (∀ i, i < 416 → aI g0 96 i = aI g 95 i) ∧ (∀ i, i < 25 → aI g0 86 (25 + i) = aI g 83 i) ∧ fI hc' 4 10 = fI g0 81 14 ∧ fI g0 81 13 = 0 ∧ fI g0 81 46 = -1 ∧ Fr opA opF g g0 ∧ f_X11_orders g = (lp (fun s => b_X11_orders_95 (fI g 81 32) (nI (2400 + tN T)) s.1 s.2) FU ((0 : Int32), g0)).bind (ordT (fI g 81 32)) := by
  obtain ⟨b, g1, b1, b2, b3, b4, b5⟩ := a5 (sF g 81 46 (-1)) hB (by rw [fI_n (by omega)]; exact h13)
  rcases b5 with ⟨T, n, s, c, mk, hT, -, eb, hn0, hn12, hX, hU, hR⟩ | ⟨eb, -⟩
  · subst eb
    obtain ⟨D, hD⟩ := CU_O hU
    obtain ⟨g2, c1, c2, -, c4⟩ := m_aside (h := g1) (t := 1) (by omega)
    obtain ⟨g3, d1, d2, d3⟩ := m_lcp (h := g2)
    have hR3 : TR T g3 := by
      obtain ⟨r1, r2, r3⟩ := hR
      refine ⟨?_, ?_, ?_⟩
      · rw [d3.2.1 90 (by omega), c4.2.1 90 (by omega), d3.2.1 92 (by omega), c4.2.1 92 (by omega)]; exact r1
      · rw [d3.2.1 91 (by omega), c4.2.1 91 (by omega)]; exact r2
      · rw [d3.1 _ _ (fun c => c), c4.1 _ _ (fun c => c)]; exact r3
    obtain ⟨g4, l1, l2, l3, l4, l5⟩ := m_lays (t := 6) hT hR3 (by omega)
    have k83 : aI g3 83 = aI g 83 := by
      rw [d3.2.1 83 (by omega), c4.2.1 83 (by omega), b2.2.1 83 (by unfold xA; omega)]
      rfl
    have k32 : fI g3 81 32 = fI g 81 32 := by
      rw [d3.1 _ _ (fun c => c), c4.1 _ _ (fun c => c), b2.1 _ _ (by unfold xF; omega), fI_n (by omega)]
    refine ⟨T, n, s, c, mk, D, sF (sF (sF g4 81 27 0) 81 28 (-1)) 81 47 2400, hT, hn0, hX, hD, fun x hx => l3 x hx, fun i hi => ?_, by rw [fI_n (by omega), fI_n (by omega), fI_s], by rw [fI_n (by omega), fI_s], fI_s, fun i hi => ?_, fun i hi => ?_, ?_, ?_, ?_, ?_, ?_⟩
    · show aI g4 83 i = _
      rw [l4 i (by omega) (by omega) (by omega), k83]
    · show aI g4 96 i = _
      rw [l5.2.1 96 (by omega), d2 i hi, c4.2.1 95 (by omega), b2.2.1 95 (by unfold xA; omega)]
      rfl
    · show aI g4 86 (25 + i) = _
      rw [l5.2.1 86 (by omega), d3.2.1 86 (by omega), show 25 + i = 25 * 1 + i by omega, c2 i hi, b2.2.1 83 (by unfold xA; omega)]
      rfl
    · rw [fI_n (by omega), fI_n (by omega), fI_n (by omega), l5.1 _ _ (fun c => c), d3.1 _ _ (fun c => c), c4.1 _ _ (fun c => c)]
      exact b4
    · rw [fI_n (by omega), fI_n (by omega), fI_n (by omega), l5.1 _ _ (fun c => c), d3.1 _ _ (fun c => c), c4.1 _ _ (fun c => c)]
      exact b3
    · rw [fI_n (by omega), fI_n (by omega), fI_n (by omega), l5.1 _ _ (fun c => c), d3.1 _ _ (fun c => c), c4.1 _ _ (fun c => c), b2.1 _ _ (by unfold xF; omega), fI_s]
    · refine Fr_tF (Fr_tF (Fr_tF (Fr_tr (Fr_tr (Fr_tr (Fr_tr (Fr_sF ?_) (Fr_mono b2 ?_ ?_)) (Fr_mono c4 ?_ ?_)) (Fr_mono d3 ?_ ?_)) (Fr_mono l5 ?_ ?_)) ?_) ?_) ?_
      · unfold opF; omega
      · intro a c; unfold xA at c; unfold opA; omega
      · intro a j c; unfold xF at c; unfold opF; omega
      · intro a c; unfold opA; omega
      · intro a j c; exact c.elim
      · intro a c; unfold opA; omega
      · intro a j c; exact c.elim
      · intro a c; unfold opA; omega
      · intro a j c; exact c.elim
      · unfold opF; omega
      · unfold opF; omega
      · unfold opF; omega
    · unfold f_X11_orders
      rw [show f_X11_readsAs (1 : Int32) (sF g 81 46 (-1)) = some (true, g1) from b1, Option.bind_some, if_pos rfl]
      show (f_X11_laysAside (1 : Int32) g1).bind _ = _
      rw [show f_X11_laysAside (1 : Int32) g1 = some ((), g2) from c1, Option.bind_some, d1, Option.bind_some, show f_X11_lays (6 : Int32) g3 = some ((), g4) from l1, Option.bind_some, k32]
      show (lp (fun s => b_X11_orders_95 (fI g 81 32) (fI (sF (sF (sF g4 81 27 0) 81 28 (-1)) 81 47 2400) 81 47 + aI g4 83 61) s.1 s.2) FU ((0 : Int32), sF (sF (sF g4 81 27 0) 81 28 (-1)) 81 47 2400)).bind (ordT (fI g 81 32)) = _
      rw [fI_s, show aI g4 83 61 = nI (tN T) from l2, show ((2400 : Int32)) = nI 2400 from rfl, nI_add]
  · rw [hr] at eb
    cases eb
def LFr (h x : Hp) : Prop := (∀ a k, a < sz h → ¬ uF a k → fI x a k = fI h a k) ∧ (∀ a, a < sz h → ¬ uA a → aI x a = aI h a) ∧ (∀ a, aO x a = aO h a) ∧ (∀ a, a < sz h → ln x a = ln h a) ∧ sz x = sz h + 3
theorem LFr_tr {h x y : Hp} (hl : LFr h x) (hf : Fr uA uF x y) : LFr h y := ⟨fun a k h1 h2 => (hf.1 a k h2).trans (hl.1 a k h1 h2), fun a h1 h2 => (hf.2.1 a h2).trans (hl.2.1 a h1 h2), fun a => (hf.2.2.2.1 a).trans (hl.2.2.1 a), fun a h1 => (hf.2.2.2.2.1 a).trans (hl.2.2.2.1 a h1), hf.2.2.2.2.2.trans hl.2.2.2.2⟩
theorem uu {A : Nat → Prop} {F : Nat → Nat → Prop} {x y : Hp} (hf : Fr A F x y) (hA : ∀ a, A a → uA a) (hF : ∀ a k, F a k → uF a k) : Fr uA uF x y := Fr_mono hf hA hF
theorem uF_0 (k : Nat) : uF 0 k := by unfold uF; omega
theorem rc_uA {a : Nat} (c : rcA a) : uA a := by
  unfold rcA pA at c
  unfold uA scA
  omega
theorem rc_uF {a k : Nat} (c : rcF a k) : uF a k := by
  unfold rcF at c
  unfold uF scF
  omega
theorem rr_uA {a : Nat} (c : rrA a) : uA a := by
  unfold rrA mA at c
  unfold uA scA
  omega
theorem rr_uF {a k : Nat} (c : rrF a k) : uF a k := by
  unfold rrF tF at c
  unfold uF scF
  omega
theorem op_uA {a : Nat} (c : opA a) : uA a := by
  unfold opA at c
  unfold uA scA
  omega
theorem op_uF {a k : Nat} (c : opF a k) : uF a k := by
  unfold opF at c
  unfold uF scF
  omega
/-- the class's surroundings as its orders begin -/
theorem RnC_mk {n : Nat} {h hc' hc0 : Hp} {k sm lc n' s sz0 : Nat} {L : LDt} {T : Tok} {c mk K0 : Nat → Int32} {D : DOs} (hI : INV n h) (i1 : KOK (aI h 83) k sm lc L) (i2 : HR h 32 (aI h 83) sm lc L) (i9 : CON h n) (hL : LFr h hc0) (hs0 : sz0 = sz h) (h33 : ∀ a, (34 ≤ a ∧ a ≤ 37) → aI hc0 a = aI h a) (f33 : fI hc0 33 0 = fI h 33 0) (f32 : fI hc0 32 4 = fI h 32 4) (tf : ∀ a k, 110 ≤ a → fI hc0 a k = fI hc' a k) (ta : ∀ a, 110 ≤ a → aI hc0 a = aI hc' a) (tn : ∀ a, ln hc0 a = ln hc' a) (tz : sz hc0 = sz hc') (hT : TF T) (hX : TxI hc' sz0 n' s c mk) (hD : ClD T (CdO T) c mk D n' (tN T + 1) s) (hL0 : LdO T K0) (ha : AG6 (aI h 83) K0) : RnC hc0 K0 T sz0 n' s c mk D ∧ SF K0 L = SF (aI h 83) L := by
  subst hs0
  obtain ⟨⟨m, c1, c2⟩, c3, c4, c5, c6, c7, c8, c9⟩ := id i9
  have ht : TxI hc0 (sz h) n' s c mk := by
    refine TxI_same hX ⟨tf _ _ (by omega), tf _ _ (by omega), ta _ (by omega), ta _ (by omega), tn _, tn _, ?_⟩
    have := hX.2.1
    unfold tg at this ⊢
    rw [tz]
    exact this
  have eS : SF K0 L = SF (aI h 83) L := SF_eq (ha 54 (by omega))
  refine ⟨⟨ht, by omega, hT, hL0, hD, ?_⟩, eS⟩
  have kp : KpT h hc0 := ⟨fun a k h1 h2 => hL.1 a k h2 (by unfold uF scF; omega), fun a h1 h2 => hL.2.1 a h2 (by unfold uA scA; omega), hL.2.2.2.1, by have := hL.2.2.2.2; omega⟩
  have hh : HR hc0 32 (aI h 83) sm lc L := HR_kp i2 (fun t ht => (i1.2.2.2.2.2.2.2.1 t ht).1.2.1) c7 kp (hL.1 _ _ (by omega) (by unfold uF scF; omega)) f32 (hL.1 _ _ (by omega) (by unfold uF scF; omega)) f33 (h33 _ (by omega)) (h33 _ (by omega)) (h33 _ (by omega)) (h33 _ (by omega)) (hL.2.1 _ (by omega) (by unfold uA scA; omega)) (hL.2.2.1 _)
  have hcon : CON hc0 (n + 1) := ⟨⟨m + 1, by omega, by rw [hL.2.2.2.2, c2]; omega⟩, by rw [hL.2.1 87 (by omega) (by unfold uA scA; omega)]; exact c3, by rw [hL.1 26 2 (by omega) (by unfold uF scF; omega)]; exact c4, by rw [hL.1 26 3 (by omega) (by unfold uF scF; omega)]; exact c5, by rw [hL.2.2.2.1 27 (by omega)]; exact c6, by rw [hL.2.2.2.1 28 (by omega)]; exact c7, by rw [hL.2.2.1]; exact c8, by rw [hL.2.2.1]; exact c9⟩
  obtain ⟨al, f1, f2, f3, f4, f5, f6⟩ := in_force (KOK_6 i1 ha) (HR_6 hh ha) hcon
  exact ⟨al, SF K0 L, f1, f2, f3, f4, f5, f6⟩
