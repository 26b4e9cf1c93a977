/-! ===== how far each seating is: the class ===== -/
def A76 (a : Nat) : Prop := a = 76 ∨ a = 77
def CBF (h : Hp) (M : Nat) (s : BS) : Prop := (∀ r, r < M → aI h 76 r = mI (s.1 r)) ∧ ∀ t, t < s.2.2 → aI h 77 t = nI (s.2.1 t)
theorem mI_p {x : Nat} (h : x ≠ 0) : mI x = nI (x - 1) := if_neg h
theorem mI_m {x : Nat} (hx : x < 100000) : mI x = -1 ↔ x = 0 := by
  unfold mI
  by_cases c : x = 0
  · rw [if_pos c]; exact ⟨fun _ => c, fun _ => rfl⟩
  · rw [if_neg c]
    exact ⟨fun d => absurd d (nI_ne1 (by omega)), fun d => absurd d c⟩
theorem mI_up {x : Nat} (h : x ≠ 0) : mI x + 1 = mI (x + 1) := by
  rw [mI_p h, nI_1, mI_p (Nat.succ_ne_zero x)]
  congr 1
  omega
theorem CBF_add {h : Hp} {M : Nat} {s : BS} (hc : CBF h M s) {r x : Nat} : CBF (sA (sA h 76 r (mI x)) 77 s.2.2 (nI r)) M (upN s.1 r x, upN s.2.1 s.2.2 r, s.2.2 + 1) := by
  refine ⟨fun y hy => ?_, fun t ht => ?_⟩
  · show aI (sA (sA h 76 r (mI x)) 77 s.2.2 (nI r)) 76 y = mI (upN s.1 r x y)
    rw [ps_aAn _ _ _ _ _ (by omega)]
    by_cases c : y = r
    · rw [c, aI_s, upN_s]
    · rw [aI_n c, upN_n c]; exact hc.1 y hy
  · have ht' : t < s.2.2 + 1 := ht
    show aI (sA (sA h 76 r (mI x)) 77 s.2.2 (nI r)) 77 t = nI (upN s.2.1 s.2.2 r t)
    by_cases c : t = s.2.2
    · rw [c, aI_s, upN_s]
    · rw [aI_n c, upN_n c, ps_aAn _ _ _ _ _ (by omega)]; exact hc.2 t (by omega)
def Nq (K : Nat → Int32) (k q i j : Nat) : Option Nat := NS (ssq K k q) (insL K k).length i j
theorem Nq_lt {K : Nat → Int32} {k : Nat} (hw : WF K k) {q i j r : Nat} (h : Nq K k q i j = some r) : r < fct (insL K k).length := by
  unfold Nq NS at h
  by_cases c : ssq K k q j ∈ nbs (ssq K k q i)
  · rw [if_pos c] at h
    rw [← Option.some.inj h]
    exact rk_lt _ (ins_le hw)
  · rw [if_neg c] at h; cases h
section MEA
variable {K : Nat → Int32} {k : Nat} {S : Sem} {kn : Nat}
theorem CAv_fr {h h' : Hp} (hc : CAv h K k S kn) {A : Nat → Prop} {F : Nat → Nat → Prop} (hf : Fr A F h h') (hA : ¬ A 74 ∧ ¬ A 75 ∧ ¬ A 78) (hF : ¬ F 68 9 ∧ ¬ F 68 10) : CAv h' K k S kn := by
  unfold CAv
  rw [hf.1 _ _ hF.1, hf.1 _ _ hF.2, hf.2.1 74 hA.1, hf.2.1 75 hA.2.1, hf.2.1 78 hA.2.2]
  exact hc
theorem CAv_76 {h h' : Hp} (hc : CAv h K k S kn) (hf : Fr A76 noF h h') : CAv h' K k S kn := CAv_fr hc hf ⟨by unfold A76; omega, by unfold A76; omega, by unfold A76; omega⟩ ⟨fun c => c, fun c => c⟩
theorem CAv_I {h : Hp} (hc : CAv h K k S kn) : INS h K k := ⟨hc.1, hc.2.1, hc.2.2.1⟩
theorem c_isS {h : Hp} (hc : CAv h K k S kn) (hw : WF K k) {q : Nat} (hq : q < fct (insL K k).length) : f_X7_isSeating (nI q) h = some true := by
  have f7 := (fct_le _ (ins_le hw)).1
  unfold f_X7_isSeating
  rw [if_neg (nI_pos (by omega)), hc.2.1, if_neg (nI_ge hq (by omega))]
theorem c_nx {h : Hp} (hc : CAv h K k S kn) (hw : WF K k) {s : BS} (hs : CBF h (fct (insL K k).length) s) (ho : bsO (fct (insL K k).length) s) {q i j : Nat} (hq : q < fct (insL K k).length) (h0 : s.1 q ≠ 0) (hij : i < j) (hj : j < (insL K k).length) : ∃ h', b_X7_reachFrom_20_5 (nI q) (nI i) (nI s.2.2) (nI j) h = some (.inl (nI (nxS (Nq K k) q i s j).2.2, nI (j + 1), h')) ∧ CBF h' (fct (insL K k).length) (nxS (Nq K k) q i s j) ∧ Fr A76 noF h h' := by
  have m6 := ins_le hw
  have f7 := (fct_le _ m6).1
  have hi : i < (insL K k).length := by omega
  have hR := rw_seat hw hq
  have w7 := bs_M ho
  have e74 := (hc.2.2.2 q hq).1
  unfold b_X7_reachFrom_20_5
  rw [hc.1, if_neg (nI_ge hj (by omega)), inb_nI (show q < 720 by omega) (by omega), Option.bind_some, inb_nI (show i < 6 by omega) (by omega), Option.bind_some, inb_nI (show j < 6 by omega) (by omega), Option.bind_some, e74, hc.2.2.1 i hi, hc.2.2.1 j hj, c_can hw hR hi hj, Option.bind_some]
  unfold nxS Nq NS
  by_cases c : ssq K k q j ∈ nbs (ssq K k q i)
  · obtain ⟨R', x1, x2⟩ := c_exd hw hR hij hj
    have rl := rk_lt (swF (ssq K k q) i j) m6
    rw [decide_eq_true c, if_pos rfl, if_pos c, Option.bind_some, Option.bind_some, Option.bind_some, e74, hc.2.2.1 i hi, hc.2.2.1 j hj, x1, Option.bind_some, c_rank (CAv_I hc) hw x2, Option.bind_some, c_isS hc hw rl, Option.bind_some, if_pos rfl, inb_nI (show rkS (swF (ssq K k q) i j) (insL K k).length (insL K k).length < 720 by omega) (by omega), Option.bind_some, hs.1 _ rl]
    dsimp only
    generalize rkS (swF (ssq K k q) i j) (insL K k).length (insL K k).length = r at rl
    have b3 := ho.2.2.1 r
    by_cases d : s.1 r = 0
    · obtain ⟨-, wl⟩ := add_ok ho rl d (x := s.1 q + 1) (by omega) (by have := ho.2.2.1 q; omega)
      rw [if_pos ((mI_m (by omega)).mpr d), if_neg (show ¬ (720 : Int32) ≤ nI s.2.2 from nI_ge (b := 720) (by omega) (by omega)), Option.bind_some, Option.bind_some, inb_nI (show s.2.2 < 720 by omega) (by omega), Option.bind_some, if_pos d, hs.1 q hq, mI_up h0, nI_1, nI_1]
      exact ⟨_, rfl, CBF_add hs, Fr_tA (Fr_sA (Or.inl rfl)) (Or.inr rfl)⟩
    · rw [if_neg (fun e => d ((mI_m (by omega)).mp e)), if_neg d, nI_1]
      exact ⟨_, rfl, hs, Fr_rfl⟩
  · rw [decide_eq_false c, if_neg Bool.false_ne_true, if_neg c, nI_1]
    exact ⟨_, rfl, hs, Fr_rfl⟩
theorem c_reach {h : Hp} (hc : CAv h K k S kn) (hw : WF K k) {s : BS} (hs : CBF h (fct (insL K k).length) s) (ho : bsO (fct (insL K k).length) s) {q : Nat} (hq : q < fct (insL K k).length) (h0 : s.1 q ≠ 0) : ∃ h', f_X7_reachFrom (nI q) (nI s.2.2) h = some (nI (reS (Nq K k) (insL K k).length q s).2.2, h') ∧ CBF h' (fct (insL K k).length) (reS (Nq K k) (insL K k).length q s) ∧ Fr A76 noF h h' := by
  have m6 := ins_le hw
  have hN : ∀ i j r, i < j → j < (insL K k).length → Nq K k q i j = some r → r < fct (insL K k).length := fun i j r _ _ e => Nq_lt hw e
  have inner : ∀ i, i < (insL K k).length → ∀ (s : BS) (h : Hp), CAv h K k S kn → CBF h (fct (insL K k).length) s → bsO (fct (insL K k).length) s → s.1 q ≠ 0 → ∃ e : Int32 × Hp, lp (fun t => b_X7_reachFrom_20_5 (nI q) (nI i) t.1 t.2.1 t.2.2) FU (nI s.2.2, nI (i + 1), h) = some e ∧ e.1 = nI (rowS (Nq K k) (insL K k).length q s i).2.2 ∧ CBF e.2 (fct (insL K k).length) (rowS (Nq K k) (insL K k).length q s i) ∧ Fr A76 noF h e.2 := by
    intro i hi s h hc hs ho h0
    refine lp_inv (b := fun t : Int32 × Int32 × Hp => b_X7_reachFrom_20_5 (nI q) (nI i) t.1 t.2.1 t.2.2) (fun T t => t.1 = nI (itr (fun s t => nxS (Nq K k) q i s (i + 1 + t)) T 0 s).2.2 ∧ t.2.1 = nI (i + 1 + T) ∧ CBF t.2.2 (fct (insL K k).length) (itr (fun s t => nxS (Nq K k) q i s (i + 1 + t)) T 0 s) ∧ Fr A76 noF h t.2.2) (fun e => e.1 = nI (rowS (Nq K k) (insL K k).length q s i).2.2 ∧ CBF e.2 (fct (insL K k).length) (rowS (Nq K k) (insL K k).length q s i) ∧ Fr A76 noF h e.2) ((insL K k).length - (i + 1)) (nI s.2.2, nI (i + 1), h) (by omega) ⟨rfl, rfl, hs, Fr_rfl⟩ ?_ ?_
    · rintro T ⟨t1, t2, t3⟩ hT ⟨q1, q2, q3, q4⟩
      dsimp only at q1 q2 q3 q4
      subst q1
      subst q2
      obtain ⟨o1, o2, -, -⟩ := row_ok (M := fct (insL K k).length) (m := (insL K k).length) (i := i) hN ho h0 T (by omega)
      obtain ⟨h', z1, z2, z3⟩ := c_nx (CAv_76 hc q4) hw q3 o1 hq o2 (show i < i + 1 + T by omega) (show i + 1 + T < (insL K k).length by omega)
      refine Or.inl ⟨(_, _, h'), z1, ?_, rfl, ?_, Fr_tr q4 z3⟩
      · dsimp only
        rw [itr_succ, Nat.zero_add]
      · dsimp only
        rw [itr_succ, Nat.zero_add]; exact z2
    · rintro ⟨t1, t2, t3⟩ ⟨q1, q2, q3, q4⟩
      dsimp only at q1 q2 q3 q4
      subst q1
      subst q2
      refine ⟨(_, t3), ?_, rfl, q3, q4⟩
      show b_X7_reachFrom_20_5 (nI q) (nI i) _ _ t3 = _
      unfold b_X7_reachFrom_20_5
      rw [(CAv_76 hc q4).1, if_pos (nI_le (by omega) (by omega))]
      rfl
  have key := lp_inv (b := fun t : Int32 × Int32 × Hp => b_X7_reachFrom_5 (nI q) t.1 t.2.1 t.2.2) (fun T t => t.1 = nI (itr (fun s i => rowS (Nq K k) (insL K k).length q s i) T 0 s).2.2 ∧ t.2.1 = nI T ∧ CBF t.2.2 (fct (insL K k).length) (itr (fun s i => rowS (Nq K k) (insL K k).length q s i) T 0 s) ∧ Fr A76 noF h t.2.2) (fun e => e.1 = nI (reS (Nq K k) (insL K k).length q s).2.2 ∧ CBF e.2 (fct (insL K k).length) (reS (Nq K k) (insL K k).length q s) ∧ Fr A76 noF h e.2) (insL K k).length (nI s.2.2, (0 : Int32), h) (by omega) ⟨rfl, rfl, hs, Fr_rfl⟩ ?_ ?_
  · obtain ⟨e, k1, k2, k3, k4⟩ := key
    refine ⟨e.2, ?_, k3, k4⟩
    unfold f_X7_reachFrom
    rw [k1, Option.bind_some, k2]
  · rintro T ⟨t1, t2, t3⟩ hT ⟨q1, q2, q3, q4⟩
    dsimp only at q1 q2 q3 q4
    subst q1
    subst q2
    obtain ⟨o1, o2, -, -⟩ := re_ok (M := fct (insL K k).length) (m := (insL K k).length) hN ho h0 T (by omega)
    have hc' := CAv_76 hc q4
    obtain ⟨e, z1, z2, z3, z4⟩ := inner T hT _ t3 hc' q3 o1 o2
    refine Or.inl ⟨(e.1, nI (T + 1), e.2), ?_, ?_, rfl, ?_, Fr_tr q4 z4⟩
    · show b_X7_reachFrom_5 (nI q) _ (nI T) t3 = _
      unfold b_X7_reachFrom_5
      rw [hc'.1, if_neg (nI_ge hT (by omega)), nI_1, z1, Option.bind_some]
    · dsimp only
      rw [itr_succ, Nat.zero_add]; exact z2
    · dsimp only
      rw [itr_succ, Nat.zero_add]; exact z3
  · rintro ⟨t1, t2, t3⟩ ⟨q1, q2, q3, q4⟩
    dsimp only at q1 q2 q3 q4
    subst q1
    subst q2
    refine ⟨(_, t3), ?_, rfl, q3, q4⟩
    show b_X7_reachFrom_5 (nI q) _ (nI (insL K k).length) t3 = _
    unfold b_X7_reachFrom_5
    rw [(CAv_76 hc q4).1, if_pos (Int32.le_refl _)]
    rfl
/-- the most -/
def moP (S : Sem) (K : Nat → Int32) (k n : Nat) : Nat := ples S K k n (bsP (ples S K k n) (fct (insL K k).length))
/-- how far each seating is -/
def farS (S : Sem) (K : Nat → Int32) (k n : Nat) : BS := bfS (Nq K k) (insL K k).length (iniS (ples S K k n) (moP S K k n) (fct (insL K k).length)) 720
theorem far_ok (hw : WF K k) (n t : Nat) : bsO (fct (insL K k).length) (bfS (Nq K k) (insL K k).length (iniS (ples S K k n) (moP S K k n) (fct (insL K k).length)) t) := bf_ok (fun q i j r _ _ _ e => Nq_lt hw e) (ini_ok _ _ _ (Nat.le_refl _)).1 t
theorem c_meas {h : Hp} (hc : CAv h K k S kn) (hR : RRh h 33 K) (hw : WF K k) {n : Nat} (hn : n ≤ kn) (hkn : kn ≤ 9) : ∃ h', f_X7_measure 33 (nI n) h = some ((), h') ∧ CBF h' (fct (insL K k).length) (farS S K k n) ∧ Fr A76 noF h h' := by
  have h6 := hw.2.1
  have m6 := ins_le hw
  have f7 := fct_le _ m6
  have R7 : ∀ h', Fr A76 noF h h' → RRh h' 33 K := fun h' hf => RR_fr hR hf (fun c => c) (by unfold A76; omega) (by unfold A76; omega) (by unfold A76; omega) (by unfold A76; omega)
  obtain ⟨-, mx2⟩ := mx_ok (ples S K k n) (fct (insL K k).length)
  obtain ⟨b1, -, -⟩ := mx2 (by omega)
  have mo6 := ples_le S K k n (bsP (ples S K k n) (fct (insL K k).length))
  have key1 := lp_inv (b := fun t : Int32 × Int32 × Hp => b_X7_measure_19 33 (nI n) (nI (moP S K k n)) t.1 t.2.1 t.2.2) (fun q t => t.1 = nI (iniS (ples S K k n) (moP S K k n) q).2.2 ∧ t.2.1 = nI q ∧ CBF t.2.2 q (iniS (ples S K k n) (moP S K k n) q) ∧ Fr A76 noF h t.2.2) (fun e => e.1 = nI (iniS (ples S K k n) (moP S K k n) (fct (insL K k).length)).2.2 ∧ CBF e.2 (fct (insL K k).length) (iniS (ples S K k n) (moP S K k n) (fct (insL K k).length)) ∧ Fr A76 noF h e.2) (fct (insL K k).length) ((0 : Int32), (0 : Int32), h) (by omega) ⟨rfl, rfl, ⟨fun r hr => absurd hr (Nat.not_lt_zero _), fun t ht => absurd ht (Nat.not_lt_zero _)⟩, Fr_rfl⟩ ?_ ?_
  · obtain ⟨e, k1, k2, k3, k4⟩ := key1
    have o0 : ∀ t, bsO (fct (insL K k).length) (bfS (Nq K k) (insL K k).length (iniS (ples S K k n) (moP S K k n) (fct (insL K k).length)) t) := fun t => far_ok hw n t
    have fin : ∀ t, t ≤ 720 → (bfS (Nq K k) (insL K k).length (iniS (ples S K k n) (moP S K k n) (fct (insL K k).length)) t).2.2 ≤ t → bfS (Nq K k) (insL K k).length (iniS (ples S K k n) (moP S K k n) (fct (insL K k).length)) t = farS S K k n := by
      intro t ht hl
      have := bf_end hl (720 - t)
      rw [show t + (720 - t) = 720 by omega] at this
      exact this.symm
    have key2 := lp_inv (b := fun t : Int32 × Int32 × Hp => b_X7_measure_77 33 t.1 t.2.1 t.2.2) (fun T t => t.1 = nI (bfS (Nq K k) (insL K k).length (iniS (ples S K k n) (moP S K k n) (fct (insL K k).length)) T).2.2 ∧ t.2.1 = nI T ∧ CBF t.2.2 (fct (insL K k).length) (bfS (Nq K k) (insL K k).length (iniS (ples S K k n) (moP S K k n) (fct (insL K k).length)) T) ∧ Fr A76 noF h t.2.2) (fun e => CBF e (fct (insL K k).length) (farS S K k n) ∧ Fr A76 noF h e) 720 (e.1, (0 : Int32), e.2) (by omega) ⟨k2, rfl, k3, k4⟩ ?_ ?_
    · obtain ⟨e', y1, y2, y3⟩ := key2
      refine ⟨e', ?_, y2, y3⟩
      unfold f_X7_measure
      rw [c_best hc hR hw hn hkn, Option.bind_some, c_cont hc hR hw b1 hn hkn, Option.bind_some]
      show ((lp (fun s => b_X7_measure_19 33 (nI n) (nI (moP S K k n)) s.1 s.2.1 s.2.2) FU ((0 : Int32), (0 : Int32), h)).bind _) = _
      rw [k1, Option.bind_some, y1, Option.bind_some]
    · rintro T ⟨t1, t2, t3⟩ hT ⟨q1, q2, q3, q4⟩
      dsimp only at q1 q2 q3 q4
      subst q1
      subst q2
      have wM := bs_M (o0 T)
      show (∃ s', b_X7_measure_77 33 _ (nI T) t3 = _ ∧ _) ∨ _
      by_cases c : T < (bfS (Nq K k) (insL K k).length (iniS (ples S K k n) (moP S K k n) (fct (insL K k).length)) T).2.2
      · obtain ⟨a1, a2⟩ := (o0 T).2.1 T c
        obtain ⟨h', z1, z2, z3⟩ := c_reach (CAv_76 hc q4) hw q3 (o0 T) a1 a2
        have eb : bfS (Nq K k) (insL K k).length (iniS (ples S K k n) (moP S K k n) (fct (insL K k).length)) (T + 1) = reS (Nq K k) (insL K k).length ((bfS (Nq K k) (insL K k).length (iniS (ples S K k n) (moP S K k n) (fct (insL K k).length)) T).2.1 T) (bfS (Nq K k) (insL K k).length (iniS (ples S K k n) (moP S K k n) (fct (insL K k).length)) T) := if_pos c
        refine Or.inl ⟨(nI (bfS (Nq K k) (insL K k).length (iniS (ples S K k n) (moP S K k n) (fct (insL K k).length)) (T + 1)).2.2, nI (T + 1), h'), ?_, rfl, rfl, ?_, Fr_tr q4 z3⟩
        · unfold b_X7_measure_77
          rw [if_neg (nI_ge c (by omega)), if_neg (show ¬ (720 : Int32) ≤ nI T from nI_ge (b := 720) (by omega) (by omega)), inb_nI (show T < 720 by omega) (by omega), Option.bind_some, q3.2 T c, z1, Option.bind_some, nI_1, eb]
        · dsimp only
          rw [eb]; exact z2
      · refine Or.inr ⟨t3, ?_, ?_, q4⟩
        · show b_X7_measure_77 33 _ (nI T) t3 = _
          unfold b_X7_measure_77
          rw [if_pos (nI_le (by omega) (by omega))]
        · rw [← fin T (by omega) (by omega)]; exact q3
    · rintro ⟨t1, t2, t3⟩ ⟨q1, q2, q3, q4⟩
      dsimp only at q1 q2 q3 q4
      subst q1
      subst q2
      have wM := bs_M (o0 720)
      refine ⟨t3, ?_, q3, q4⟩
      show b_X7_measure_77 33 _ (nI 720) t3 = _
      unfold b_X7_measure_77
      rw [if_pos (nI_le (by omega) (by omega))]
  · rintro q ⟨t1, t2, t3⟩ hq ⟨q1, q2, q3, q4⟩
    dsimp only at q1 q2 q3 q4
    subst q1
    subst q2
    have pl := ples_le S K k n q
    have F1 : Fr A76 noF h (sA t3 76 q (-1)) := Fr_tA q4 (Or.inl rfl)
    obtain ⟨-, i2, i3⟩ := ini_ok (ples S K k n) (moP S K k n) (M := fct (insL K k).length) q (by omega)
    have cc := c_cont (CAv_76 hc F1) (R7 _ F1) hw hq hn hkn
    refine Or.inl ?_
    show ∃ s', b_X7_measure_19 33 (nI n) (nI (moP S K k n)) _ (nI q) t3 = _ ∧ _
    unfold b_X7_measure_19
    rw [(CAv_76 hc q4).2.1, if_neg (nI_ge hq (by omega)), inb_nI (show q < 720 by omega) (by omega), Option.bind_some, cc, Option.bind_some]
    have mo6' : moP S K k n ≤ k := mo6
    have base : CBF (sA t3 76 q (-1)) (q + 1) (iniS (ples S K k n) (moP S K k n) q) := by
      refine ⟨fun r hr => ?_, fun t ht => ?_⟩
      · by_cases d : r = q
        · rw [d, aI_s, i2 q (Nat.le_refl _)]; rfl
        · rw [aI_n d]; exact q3.1 r (by omega)
      · rw [ps_aAn _ _ _ _ _ (by omega)]; exact q3.2 t ht
    by_cases c : ples S K k n q = moP S K k n
    · have ei : iniS (ples S K k n) (moP S K k n) (q + 1) = (upN (iniS (ples S K k n) (moP S K k n) q).1 q 1, upN (iniS (ples S K k n) (moP S K k n) q).2.1 (iniS (ples S K k n) (moP S K k n) q).2.2 q, (iniS (ples S K k n) (moP S K k n) q).2.2 + 1) := if_pos c
      have ad := CBF_add base (r := q) (x := 1)
      rw [if_pos (by rw [c]), Option.bind_some, inb_nI (show (iniS (ples S K k n) (moP S K k n) q).2.2 < 720 by omega) (by omega), Option.bind_some, nI_1, nI_1]
      refine ⟨_, rfl, ?_, rfl, ?_, Fr_tA (Fr_tA F1 (Or.inl rfl)) (Or.inr rfl)⟩
      · dsimp only
        rw [ei]
      · dsimp only
        rw [ei]; exact ad
    · have ei : iniS (ples S K k n) (moP S K k n) (q + 1) = iniS (ples S K k n) (moP S K k n) q := if_neg c
      rw [if_neg (fun d => c ((nI_eq (by omega) (by omega)).mp d)), nI_1]
      refine ⟨_, rfl, ?_, rfl, ?_, F1⟩
      · dsimp only
        rw [ei]
      · dsimp only
        rw [ei]; exact base
  · rintro ⟨t1, t2, t3⟩ ⟨q1, q2, q3, q4⟩
    dsimp only at q1 q2 q3 q4
    subst q1
    subst q2
    refine ⟨(_, t3), ?_, rfl, q3, q4⟩
    show b_X7_measure_19 33 (nI n) (nI (moP S K k n)) _ (nI (fct (insL K k).length)) t3 = _
    unfold b_X7_measure_19
    rw [(CAv_76 hc q4).2.1, if_pos (Int32.le_refl _)]
    rfl
end MEA
