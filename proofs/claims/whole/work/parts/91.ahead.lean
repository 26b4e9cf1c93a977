/-! ===== minutes on paper ===== -/
theorem c_copy {h : Hp} {K : Nat → Int32} {r s : Nat} (hR : RRh h s K) (hrs : r + 5 ≤ s ∨ s + 5 ≤ r) : ∃ h', f_X6_copyFrom r s h = some ((), h') ∧ RRh h' r K ∧ Fr (fun a => r + 1 ≤ a ∧ a ≤ r + 4) (fun a j => a = r ∧ j = 0) h h' := by
  obtain ⟨r1, r2, r3, r4, r5, r6, r7⟩ := hR
  refine ⟨cpA (cpA (cpA (cpA (sF h r 0 (fI h s 0)) (s + 1) 0 (r + 1) 0 18) (s + 2) 0 (r + 2) 0 6) (s + 3) 0 (r + 3) 0 6) (s + 4) 0 (r + 4) 0 3, ?_, ⟨?_, fun i hi => ?_, fun i hi => ?_, fun i hi => ?_, ?_, ?_, ?_⟩, ?_⟩
  · rfl
  · rw [ps_fC, ps_fC, ps_fC, ps_fC, fI_s]; exact r1
  · rw [ps_aCn _ _ _ _ _ _ _ (by omega), ps_aCn _ _ _ _ _ _ _ (by omega), ps_aCn _ _ _ _ _ _ _ (by omega), ps_aCs, pk_cpy_in (by omega) (by omega), ps_aF, Nat.sub_zero, Nat.zero_add]
    exact r2 i hi
  · rw [ps_aCn _ _ _ _ _ _ _ (by omega), ps_aCn _ _ _ _ _ _ _ (by omega), ps_aCs, pk_cpy_in (by omega) (by omega), ps_aCn _ _ _ _ _ _ _ (by omega), ps_aF, Nat.sub_zero, Nat.zero_add]
    exact r3 i hi
  · rw [ps_aCn _ _ _ _ _ _ _ (by omega), ps_aCs, pk_cpy_in (by omega) (by omega), ps_aCn _ _ _ _ _ _ _ (by omega), ps_aCn _ _ _ _ _ _ _ (by omega), ps_aF, Nat.sub_zero, Nat.zero_add]
    exact r4 i hi
  · rw [ps_aCs, pk_cpy_in (by omega) (by omega), ps_aCn _ _ _ _ _ _ _ (by omega), ps_aCn _ _ _ _ _ _ _ (by omega), ps_aCn _ _ _ _ _ _ _ (by omega), ps_aF]
    exact r5
  · rw [ps_aCs, pk_cpy_in (by omega) (by omega), ps_aCn _ _ _ _ _ _ _ (by omega), ps_aCn _ _ _ _ _ _ _ (by omega), ps_aCn _ _ _ _ _ _ _ (by omega), ps_aF]
    exact r6
  · rw [ps_aCs, pk_cpy_in (by omega) (by omega), ps_aCn _ _ _ _ _ _ _ (by omega), ps_aCn _ _ _ _ _ _ _ (by omega), ps_aCn _ _ _ _ _ _ _ (by omega), ps_aF]
    exact r7
  · exact Fr_tr (Fr_tr (Fr_tr (Fr_tr (Fr_sF ⟨rfl, rfl⟩) (Fr_cp (by omega))) (Fr_cp (by omega))) (Fr_cp (by omega))) (Fr_cp (by omega))
theorem WF_minN {S : Sem} {K : Nat → Int32} {k : Nat} (hS : semOK S) (hw : WF K k) : ∀ j, WF (minN S k j K) k
  | 0 => hw
  | j + 1 => WF_min hS (WF_minN hS hw j)
theorem MOb_minN {S : Sem} {K : Nat → Int32} {k b : Nat} (hk : k ≤ 6) (hm : MOb K b) : ∀ j, MOb (minN S k j K) (b + j)
  | 0 => hm
  | j + 1 => MOb_min hk (MOb_minN hk hm j)
theorem minN_hi {S : Sem} {k : Nat} (hk : k ≤ 6) (K : Nat → Int32) {i : Nat} (hi : 25 ≤ i) : ∀ j, minN S k j K i = K i
  | 0 => rfl
  | j + 1 => by
    show minK S k (minN S k j K) i = _
    rw [minK_hi hk _ hi]
    exact minN_hi hk K hi j
theorem MOb_le {K : Nat → Int32} {a b : Nat} (h : MOb K a) (hab : a ≤ b) : MOb K b := by
  obtain ⟨m, m1, m2⟩ := h
  exact ⟨m, by omega, m2⟩
/-- what a room of paper may touch -/
def paA (r a : Nat) : Prop := r + 1 ≤ a ∧ a ≤ r + 4 ∨ a = 30 ∨ a = 31 ∨ a = 57 ∨ a = 58
def paF (r a j : Nat) : Prop := a = r ∧ j = 0
theorem pa_tx {r a : Nat} (hr : IsRm r) (ha : isTx a) : ¬ paF r a 2 ∧ ¬ paF r a 3 ∧ ¬ paA r (a + 1) ∧ ¬ paA r (a + 2) := by
  unfold paF paA
  rcases hr with e | e | e | e <;> subst e <;> rcases ha with e | e <;> omega
theorem pA_pa {r : Nat} {h h' : Hp} (hf : Fr (pA r) noF h h') : Fr (paA r) (paF r) h h' := Fr_mono hf (fun a c => by unfold pA at c; unfold paA; omega) (fun _ _ c => c.elim)
/-- one minute of a room of paper -/
theorem pa_min {S : Sem} {K : Nat → Int32} {k r a j : Nat} {h0 h : Hp} (hS : semOK S) (hC : CL h0 a S) (hg : tg h0 a = true) (ha : isTx a) (hr : IsRm r) (hf : Fr (paA r) (paF r) h0 h) (hR : RRh h r (minN S k j K)) (hw : WF K k) (hm : MOb K 999) (hj : j ≤ 900000) : ∃ h', f_X8_passMinute r a h = some ((), h') ∧ RRh h' r (minN S k (j + 1) K) ∧ Fr (paA r) (paF r) h0 h' := by
  obtain ⟨t1, t2, t3, t4⟩ := pa_tx hr ha
  obtain ⟨h', c1, c2, c3⟩ := c_pass hS hC (Tx_fr ⟨rfl, rfl, rfl, rfl, rfl, rfl, hg⟩ hf t1 t2 t3 t4) ha hr hR (WF_minN hS hw j) (MOb_le (MOb_minN hw.2.1 hm j) (by omega))
  exact ⟨h', c1, c2, Fr_tr hf (pA_pa c3)⟩
theorem c_play {S : Sem} {K : Nat → Int32} {k a x : Nat} {h : Hp} (hS : semOK S) (hC : CL h a S) (hg : tg h a = true) (ha : isTx a) (hR : RRh h 33 K) (hw : WF K k) (hm : MOb K 999) (hx : x ≤ 60) : ∃ h', f_X10_playOnPaper a (nI x) h = some ((), h') ∧ RRh h' 12 (minN S k x K) ∧ Fr (paA 12) (paF 12) h h' := by
  obtain ⟨g, g1, g2, g3⟩ := c_copy (r := 12) hR (by omega)
  have F0 : Fr (paA 12) (paF 12) h g := Fr_mono g3 (fun a c => by unfold paA; omega) (fun a j c => c)
  have key := lp_inv (b := fun s : Int32 × Hp => b_X10_playOnPaper_16 a (nI x) s.1 s.2) (fun i s => s.1 = nI i ∧ RRh s.2 12 (minN S k i K) ∧ Fr (paA 12) (paF 12) h s.2) (fun e => RRh e 12 (minN S k x K) ∧ Fr (paA 12) (paF 12) h e) x ((0 : Int32), g) (by omega) ⟨rfl, g2, F0⟩ ?_ ?_
  · obtain ⟨e, k1, k2, k3⟩ := key
    refine ⟨e, ?_, k2, k3⟩
    unfold f_X10_playOnPaper
    rw [g1, Option.bind_some, k1, Option.bind_some]
  · intro i s hi ⟨p1, p2, p3⟩
    obtain ⟨h', c1, c2, c3⟩ := pa_min hS hC hg ha (Or.inl rfl) p3 p2 hw hm (by omega)
    refine Or.inl ⟨(nI (i + 1), h'), ?_, rfl, c2, c3⟩
    show b_X10_playOnPaper_16 a (nI x) s.1 s.2 = _
    unfold b_X10_playOnPaper_16
    rw [p1, if_neg (show ¬ nI x ≤ nI i by rw [nI_le6 (by omega) (by omega)]; omega), c1, Option.bind_some, nI_1]
  · intro s ⟨p1, p2, p3⟩
    refine ⟨s.2, ?_, p2, p3⟩
    show b_X10_playOnPaper_16 a (nI x) s.1 s.2 = _
    unfold b_X10_playOnPaper_16
    rw [p1, if_pos (Int32.le_refl _)]
/-- the reference lays aside, plays, takes back -/
def mpA (a : Nat) : Prop := a = 83 ∨ a = 93 ∨ a = 94
theorem m_aside {h : Hp} {t : Nat} (ht : t < 2) : ∃ h', f_X11_laysAside (nI t) h = some ((), h') ∧ (∀ i, i < 25 → aI h' 86 (25 * t + i) = aI h 83 i) ∧ (∀ i, ¬ (25 * t ≤ i ∧ i < 25 * t + 25) → aI h' 86 i = aI h 86 i) ∧ Fr (fun a => a = 86) noF h h' := by
  have key := lp_inv (b := fun s : Int32 × Hp => b_X11_laysAside_2 (nI t) s.1 s.2) (fun i s => s.1 = nI i ∧ (∀ j, j < i → aI s.2 86 (25 * t + j) = aI h 83 j) ∧ (∀ j, ¬ (25 * t ≤ j ∧ j < 25 * t + 25) → aI s.2 86 j = aI h 86 j) ∧ Fr (fun a => a = 86) noF h s.2) (fun e => (∀ j, j < 25 → aI e 86 (25 * t + j) = aI h 83 j) ∧ (∀ j, ¬ (25 * t ≤ j ∧ j < 25 * t + 25) → aI e 86 j = aI h 86 j) ∧ Fr (fun a => a = 86) noF h e) 25 ((0 : Int32), h) (by omega) ⟨rfl, fun j hj => absurd hj (Nat.not_lt_zero _), fun _ _ => rfl, Fr_rfl⟩ ?_ ?_
  · obtain ⟨e, k1, k2, k3, k4⟩ := key
    refine ⟨e, ?_, k2, k3, k4⟩
    unfold f_X11_laysAside
    rw [k1, Option.bind_some]
  · intro i s hi ⟨p1, p2, p3, p4⟩
    refine Or.inl ⟨(nI (i + 1), sA s.2 86 (25 * t + i) (aI s.2 83 i)), ?_, rfl, fun j hj => ?_, fun j hj => ?_, Fr_tA p4 rfl⟩
    · show b_X11_laysAside_2 (nI t) s.1 s.2 = _
      unfold b_X11_laysAside_2
      rw [p1, if_neg (show ¬ (25 : Int32) ≤ nI i by rw [l25_, nI_le6 (by omega) (by omega)]; omega), inb_nI (show i < 5662 by omega) (by omega), Option.bind_some, l25_, pk_mul, nI_add, inb_nI (show 25 * t + i < 50 by omega) (by omega), Option.bind_some, nI_1]
    · show aI (sA s.2 86 (25 * t + i) (aI s.2 83 i)) 86 (25 * t + j) = _
      by_cases c : j = i
      · rw [c, aI_s, p4.2.1 83 (by omega)]
      · rw [aI_n (by omega)]; exact p2 j (by omega)
    · show aI (sA s.2 86 (25 * t + i) (aI s.2 83 i)) 86 j = _
      rw [aI_n (by omega)]; exact p3 j hj
  · intro s ⟨p1, p2, p3, p4⟩
    refine ⟨s.2, ?_, p2, p3, p4⟩
    show b_X11_laysAside_2 (nI t) s.1 s.2 = _
    unfold b_X11_laysAside_2
    rw [p1, if_pos (show (25 : Int32) ≤ nI 25 by decide)]
theorem m_tbk {h : Hp} {t : Nat} (ht : t < 2) : ∃ h', f_X11_takesBack (nI t) h = some ((), h') ∧ (∀ j, aI h' 83 j = if j < 25 then aI h 86 (25 * t + j) else aI h 83 j) ∧ Fr (fun a => a = 83) noF h h' := by
  have key := lp_inv (b := fun s : Int32 × Hp => b_X11_takesBack_2 (nI t) s.1 s.2) (fun i s => s.1 = nI i ∧ (∀ j, aI s.2 83 j = if j < i then aI h 86 (25 * t + j) else aI h 83 j) ∧ Fr (fun a => a = 83) noF h s.2) (fun e => (∀ j, aI e 83 j = if j < 25 then aI h 86 (25 * t + j) else aI h 83 j) ∧ Fr (fun a => a = 83) noF h e) 25 ((0 : Int32), h) (by omega) ⟨rfl, fun j => by rw [if_neg (by omega)], Fr_rfl⟩ ?_ ?_
  · obtain ⟨e, k1, k2, k4⟩ := key
    refine ⟨e, ?_, k2, k4⟩
    unfold f_X11_takesBack
    rw [k1, Option.bind_some]
  · intro i s hi ⟨p1, p2, p4⟩
    refine Or.inl ⟨(nI (i + 1), sA s.2 83 i (aI s.2 86 (25 * t + i))), ?_, rfl, fun j => ?_, Fr_tA p4 rfl⟩
    · show b_X11_takesBack_2 (nI t) s.1 s.2 = _
      unfold b_X11_takesBack_2
      rw [p1, if_neg (show ¬ (25 : Int32) ≤ nI i by rw [l25_, nI_le6 (by omega) (by omega)]; omega), l25_, pk_mul, nI_add, inb_nI (show 25 * t + i < 50 by omega) (by omega), Option.bind_some, inb_nI (show i < 5662 by omega) (by omega), Option.bind_some, nI_1]
    · show aI (sA s.2 83 i (aI s.2 86 (25 * t + i))) 83 j = _
      by_cases c : j = i
      · rw [c, aI_s, p4.2.1 86 (by omega), if_pos (by omega)]
      · rw [aI_n c, p2 j]
        by_cases c2 : j < i
        · rw [if_pos c2, if_pos (by omega)]
        · rw [if_neg c2, if_neg (by omega)]
  · intro s ⟨p1, p2, p4⟩
    refine ⟨s.2, ?_, p2, p4⟩
    show b_X11_takesBack_2 (nI t) s.1 s.2 = _
    unfold b_X11_takesBack_2
    rw [p1, if_pos (show (25 : Int32) ≤ nI 25 by decide)]
/-- one minute of the reference's -/
theorem mp_min {S : Sem} {K K0 : Nat → Int32} {k j : Nat} {h0 h : Hp} (hS : semOK S) (hT : RT K0 S) (hK : ∀ i, 25 ≤ i → K i = K0 i) (hf : Fr mA tF h0 h) (e83 : aI h 83 = minN S k j K) (hw : WF K k) (hm : MOb K 999) (hj : j ≤ 900000) : ∃ h', f_X11_minutePasses h = some ((), h') ∧ aI h' 83 = minN S k (j + 1) K ∧ Fr mA tF h0 h' := by
  obtain ⟨h', c1, c2, c3⟩ := m_pass (h := h) (k := k) hS hT (fun i hi => by rw [e83, minN_hi hw.2.1 _ hi]; exact hK i hi) (by rw [e83]; exact WF_minN hS hw j) (by rw [e83]; exact MOb_le (MOb_minN hw.2.1 hm j) (by omega))
  exact ⟨h', c1, by rw [c2, e83]; rfl, Fr_tr hf c3⟩
theorem m_play {S : Sem} {K K0 : Nat → Int32} {k x : Nat} {h : Hp} (hS : semOK S) (hT : RT K0 S) (hK : ∀ i, 25 ≤ i → K i = K0 i) (e83 : aI h 83 = K) (hw : WF K k) (hm : MOb K 999) (hx : x ≤ 60) : ∃ h', f_X11_passMinutes (nI x) h = some ((), h') ∧ aI h' 83 = minN S k x K ∧ Fr mA tF h h' := by
  have key := lp_inv (b := fun s : Int32 × Hp => b_X11_passMinutes_2 (nI x) s.1 s.2) (fun i s => s.1 = nI i ∧ aI s.2 83 = minN S k i K ∧ Fr mA tF h s.2) (fun e => aI e 83 = minN S k x K ∧ Fr mA tF h e) x ((0 : Int32), h) (by omega) ⟨rfl, e83, Fr_rfl⟩ ?_ ?_
  · obtain ⟨e, k1, k2, k3⟩ := key
    refine ⟨e, ?_, k2, k3⟩
    unfold f_X11_passMinutes
    rw [k1, Option.bind_some]
  · intro i s hi ⟨p1, p2, p3⟩
    obtain ⟨h', c1, c2, c3⟩ := mp_min hS hT hK p3 p2 hw hm (by omega)
    refine Or.inl ⟨(nI (i + 1), h'), ?_, rfl, c2, c3⟩
    show b_X11_passMinutes_2 (nI x) s.1 s.2 = _
    unfold b_X11_passMinutes_2
    rw [p1, if_neg (show ¬ nI x ≤ nI i by rw [nI_le6 (by omega) (by omega)]; omega), c1, Option.bind_some, nI_1]
  · intro s ⟨p1, p2, p3⟩
    refine ⟨s.2, ?_, p2, p3⟩
    show b_X11_passMinutes_2 (nI x) s.1 s.2 = _
    unfold b_X11_passMinutes_2
    rw [p1, if_pos (Int32.le_refl _)]
/-- after all, K is as it was -/
theorem tk_back {S : Sem} {K : Nat → Int32} {k j : Nat} {g h' : Hp} (hk : k ≤ 6) (e83 : aI g 83 = minN S k j K) (e86 : ∀ i, i < 25 → aI g 86 i = K i) (ht : ∀ j, aI h' 83 j = if j < 25 then aI g 86 (25 * 0 + j) else aI g 83 j) : aI h' 83 = K := by
  funext i
  rw [ht i]
  by_cases c : i < 25
  · rw [if_pos c, show 25 * 0 + i = i by omega]; exact e86 i c
  · rw [if_neg c, e83, minN_hi hk _ (by omega)]
theorem pa_sc {h h' : Hp} (hf : Fr (paA 12) (paF 12) h h') : Fr (fun a => scA a ∨ a = 83) scF h h' := Fr_mono hf (fun a c => by unfold paA at c; unfold scA; omega) (fun a j c => by unfold paF at c; unfold scF; omega)
theorem mp_sc {h h' : Hp} (hf : Fr mA tF h h') : Fr (fun a => scA a ∨ a = 83) scF h h' := Fr_mono hf (fun a c => by unfold mA at c; unfold scA; omega) (fun a j c => by unfold tF at c; unfold scF; omega)
theorem as_sc {h h' : Hp} (hf : Fr (fun a => a = 86) noF h h') : Fr (fun a => scA a ∨ a = 83) scF h h' := Fr_mono hf (fun a c => by unfold scA; omega) (fun a j c => c.elim)
theorem tb_sc {h h' : Hp} (hf : Fr (fun a => a = 83) noF h h') : Fr (fun a => scA a ∨ a = 83) scF h h' := Fr_mono hf (fun a c => by omega) (fun a j c => c.elim)
theorem far_n {x : Nat} (hx : x ≤ 60) : f_X10_isFarMinute (nI x) = some true := by
  unfold f_X10_isFarMinute
  rw [if_neg (nI_pos (by omega)), if_neg (show ¬ (60 : Int32) < nI x from nI_nlt (a := 60) (b := x) (by omega) (by omega))]
theorem far_0 {x : Int32} (hx : x < 0 ∨ nI 61 ≤ x) : f_X10_isFarMinute x = some false := by
  unfold f_X10_isFarMinute
  by_cases c : x < 0
  · rw [if_pos c]
  · have := hx.resolve_left c
    rw [if_neg c, if_pos]
    rw [Int32.le_iff_toInt_le, nI_toInt (by omega)] at this
    rw [Int32.lt_iff_toInt_lt]
    have e2 : Int32.toInt 60 = 60 := by decide
    omega
theorem op_19 : Op_19 INV := by
  intro n h hI _ x1 x2 x3
  have hI0 := hI
  obtain ⟨k, sm, lc, L, i1, i2, i3, i4, i5, i6, i7, i8, i9⟩ := hI
  have hw := i1.1
  have h6 := hw.2.1
  have hR := i2.1
  have ff : ¬ (false = true) := Bool.false_ne_true
  have l60 : ((60 : Int32)) = nI 60 := rfl
  rcases ix6 hw x1 with ⟨p, hp, e⟩ | hx1
  · subst e
    rcases ix (x := x2) 61 (by omega) with ⟨x, hx, e⟩ | hx2
    · subst e
      rcases ix (x := x3) 4 (by omega) with ⟨c, hc, e⟩ | hx3
      · subst e
        obtain ⟨a, f1, f2, f3, f4, f5, f6⟩ := in_force i1 i2 i9
        obtain ⟨h1, c1, c2, c3⟩ := c_play f6 f4 f3 f2 hR hw i1.2.1 (x := x) (by omega)
        have q83 : aI h1 83 = aI h 83 := c3.2.1 83 (by unfold paA; omega)
        obtain ⟨g1, a1, a2, -, a4⟩ := m_aside (h := h1) (t := 0) (by omega)
        have q83a : aI g1 83 = aI h 83 := by rw [a4.2.1 83 (by omega), q83]
        obtain ⟨g2, b1, b2, b3⟩ := m_play (K := aI h 83) (K0 := aI h 83) (x := x) f6 f5 (fun i hi => rfl) q83a hw i1.2.1 (by omega)
        obtain ⟨g3, d1, d2, d3⟩ := m_tbk (h := g2) (t := 0) (by omega)
        have e83 : aI g3 83 = aI h 83 := tk_back h6 b2 (fun i hi => by rw [b3.2.1 86 (by unfold mA; omega)]; have := a2 i hi; rw [q83, show 25 * 0 + i = i by omega] at this; exact this) d2
        have wN := WF_minN f6 hw x
        refine ⟨if c = 3 then nI (nat3 (minN (SF (aI h 83) L) k x (aI h 83)) p) else minN (SF (aI h 83) L) k x (aI h 83) (3 * p + c), h1, g3, ?_, ?_, INV_rd hI0 (Fr_tr (Fr_tr (Fr_tr (pa_sc c3) (as_sc a4)) (mp_sc b3)) (tb_sc d3)) e83⟩
        · unfold f_X10_later
          rw [k_has hR hw hp, Option.bind_some, if_pos rfl, far_n (by omega), Option.bind_some, if_pos rfl, if_neg (nI_pos (by omega)), if_pos (show nI c ≤ 3 by rw [l3_, nI_le6 (by omega) (by omega)]; omega), f1, Option.bind_some, c1, Option.bind_some]
          by_cases cc : c = 3
          · rw [if_pos cc, if_pos (show nI c = 3 by rw [cc]; rfl), k_nationOf c2 wN hp, Option.bind_some]
          · rw [if_neg cc, if_neg (show ¬ nI c = 3 from fun d => cc ((nI_eq (by omega) (by omega)).mp (show nI c = nI 3 from d))), l3_, pk_mul, nI_add, Nat.mul_comm p 3, inb_nI (show 3 * p + c < 18 by omega) (by omega), Option.bind_some]
            rw [show aI ((), h1).2 13 (3 * p + c) = _ from c2.2.1 _ (by omega)]
        · unfold f_X11_later
          rw [m_isSitter (k := k) (by rw [q83]; exact hw) hp, Option.bind_some, if_pos rfl, l60, lies_n (by omega) (by omega), Option.bind_some, if_pos rfl, l3_, lies_n (by omega) (by omega), Option.bind_some, if_pos rfl, show f_X11_laysAside (0 : Int32) h1 = some ((), g1) from a1, Option.bind_some, b1, Option.bind_some]
          by_cases cc : c = 3
          · rw [if_pos cc, if_pos (show nI c = nI 3 by rw [cc]), m_nationOf (by omega), Option.bind_some, b2]
            unfold j_X11_later_58
            rw [show f_X11_takesBack (0 : Int32) g2 = some ((), g3) from d1, Option.bind_some]
          · rw [if_neg cc, if_neg (show ¬ nI c = nI 3 from fun d => cc ((nI_eq (by omega) (by omega)).mp d)), m_partsOf (by omega) (by omega), Option.bind_some, b2]
            unfold j_X11_later_58
            rw [show f_X11_takesBack (0 : Int32) g2 = some ((), g3) from d1, Option.bind_some]
      · refine ⟨-1, h, h, ?_, ?_, INV_up hI0⟩
        · unfold f_X10_later
          rw [k_has hR hw hp, Option.bind_some, if_pos rfl, far_n (by omega), Option.bind_some, if_pos rfl]
          by_cases c : x3 < 0
          · rw [if_pos c]
          · have := hx3.resolve_left c
            rw [if_neg c, if_neg]
            rw [Int32.le_iff_toInt_le, nI_toInt (by omega)] at this
            rw [Int32.le_iff_toInt_le]
            have e2 : Int32.toInt 3 = 3 := by decide
            omega
        · unfold f_X11_later
          rw [m_isSitter hw hp, Option.bind_some, if_pos rfl, l60, lies_n (by omega) (by omega), Option.bind_some, if_pos rfl, l3_, lies_0 (by omega) hx3, Option.bind_some, if_neg ff]
    · refine ⟨-1, h, h, ?_, ?_, INV_up hI0⟩
      · unfold f_X10_later
        rw [k_has hR hw hp, Option.bind_some, if_pos rfl, far_0 hx2, Option.bind_some, if_neg ff]
      · unfold f_X11_later
        rw [m_isSitter hw hp, Option.bind_some, if_pos rfl, l60, lies_0 (by omega) hx2, Option.bind_some, if_neg ff]
  · refine ⟨-1, h, h, ?_, ?_, INV_up hI0⟩
    · unfold f_X10_later
      rw [k_has0 hR hw hx1, Option.bind_some, if_neg ff]
    · unfold f_X11_later
      rw [m_isSitter0 hw hx1, Option.bind_some, if_neg ff]
