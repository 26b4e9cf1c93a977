/-! ===== how far each seating is: the reference ===== -/
def A100 (a : Nat) : Prop := a = 83 ∨ a = 100 ∨ a = 101
def sI (x : Nat) : Int32 := if x = 0 then 1000000 else nI (x - 1)
def MBF (h : Hp) (M : Nat) (s : BS) : Prop := (∀ r, r < M → aI h 100 r = sI (s.1 r)) ∧ ∀ t, t < s.2.2 → aI h 101 t = nI (s.2.1 t)
theorem sI_p {x : Nat} (h : x ≠ 0) : sI x = nI (x - 1) := if_neg h
theorem sI_m {x : Nat} (hx : x < 100000) : (1000000 : Int32) ≤ sI x ↔ x = 0 := by
  unfold sI
  by_cases c : x = 0
  · rw [if_pos c]; exact ⟨fun _ => c, fun _ => by decide⟩
  · rw [if_neg c]
    exact ⟨fun d => absurd (show nI 1000000 ≤ nI (x - 1) from d) (nI_ge (by omega) (by omega)), fun d => absurd d c⟩
theorem sI_e {x : Nat} (hx : x < 100000) : sI x = 1000000 ↔ x = 0 := by
  unfold sI
  by_cases c : x = 0
  · rw [if_pos c]; exact ⟨fun _ => c, fun _ => rfl⟩
  · rw [if_neg c]
    exact ⟨fun d => by have := (nI_eq (by omega) (by omega)).mp (show nI (x - 1) = nI 1000000 from d); omega, fun d => absurd d c⟩
theorem sI_up {x : Nat} (h : x ≠ 0) : sI x + 1 = sI (x + 1) := by
  rw [sI_p h, nI_1, sI_p (Nat.succ_ne_zero x)]
  congr 1
  omega
theorem MBF_add {h : Hp} {M : Nat} {s : BS} (hc : MBF h M s) {r x : Nat} : MBF (sA (sA h 100 r (sI x)) 101 s.2.2 (nI r)) M (upN s.1 r x, upN s.2.1 s.2.2 r, s.2.2 + 1) := by
  refine ⟨fun y hy => ?_, fun t ht => ?_⟩
  · show aI (sA (sA h 100 r (sI x)) 101 s.2.2 (nI r)) 100 y = sI (upN s.1 r x y)
    rw [ps_aAn _ _ _ _ _ (by omega)]
    by_cases c : y = r
    · rw [c, aI_s, upN_s]
    · rw [aI_n c, upN_n c]; exact hc.1 y hy
  · have ht' : t < s.2.2 + 1 := ht
    show aI (sA (sA h 100 r (sI x)) 101 s.2.2 (nI r)) 101 t = nI (upN s.2.1 s.2.2 r t)
    by_cases c : t = s.2.2
    · rw [c, aI_s, upN_s]
    · rw [aI_n c, upN_n c, ps_aAn _ _ _ _ _ (by omega)]; exact hc.2 t (by omega)
theorem MBF_83 {h h' : Hp} {M : Nat} {s : BS} (hc : MBF h M s) (hf : Fr (fun a => a = 83) noF h h') : MBF h' M s := by
  unfold MBF
  rw [hf.2.1 100 (by omega), hf.2.1 101 (by omega)]
  exact hc
section SWP
variable {K : Nat → Int32} {k : Nat} {S : Sem}
theorem HLD_100 {h h' : Hp} (hh : HLD h K k) (hf : Fr A100 noF h h') : HLD h' K k := HLD_fr hh hf (by unfold A100; omega) (by unfold A100; omega) (fun c => c) (fun c => c)
theorem m_nx {h : Hp} (hh : HLD h K k) (hw : WF K k) {s : BS} (hs : MBF h (fct (insL K k).length) s) (ho : bsO (fct (insL K k).length) s) {q i j t : Nat} (ht : t < s.2.2) (hq : s.2.1 t = q) (hS : StS (aI h 83) K k (ssq K k q)) (hij : i < j) (hj : j < (insL K k).length) : ∃ h', b_X11_laysSwaps_97_82 (nI t) (nI i) (nI s.2.2) (nI j) h = some (.inl (nI (nxS (Nq K k) q i s j).2.2, nI (j + 1), h')) ∧ MBF h' (fct (insL K k).length) (nxS (Nq K k) q i s j) ∧ aI h' 83 = aI h 83 ∧ Fr A100 noF h h' := by
  have m6 := ins_le hw
  have f7 := (fct_le _ m6).1
  have w7 := bs_M ho
  obtain ⟨a1, a2⟩ := ho.2.1 t ht
  rw [hq] at a1 a2
  obtain ⟨h1, c1, c2, c3⟩ := m_swapped hh hw hS hij hj
  have hs1 := MBF_83 hs c3
  have c3' : Fr A100 noF h h1 := Fr_mono c3 (fun a c => Or.inl c) (fun _ _ c => c.elim)
  unfold b_X11_laysSwaps_97_82
  rw [hh.1, if_neg (nI_ge hj (by omega)), c1, Option.bind_some]
  unfold nxS
  cases hn : Nq K k q i j with
  | none =>
    have hn' : NS (ssq K k q) (insL K k).length i j = none := hn
    rw [hn']
    dsimp only
    rw [if_pos rfl, nI_1]
    exact ⟨_, rfl, hs1, c2, c3'⟩
  | some r =>
    have hn' : NS (ssq K k q) (insL K k).length i j = some r := hn
    have rl := Nq_lt hw hn
    rw [hn']
    dsimp only
    have b3 := ho.2.2.1 r
    rw [if_neg (show ¬ nI r = -1 from nI_ne1 (by omega)), inb_nI (show r < 720 by omega) (by omega), Option.bind_some, hs1.1 r rl]
    by_cases d : s.1 r = 0
    · obtain ⟨-, wl⟩ := add_ok ho rl d (x := s.1 q + 1) (by omega) (by have := ho.2.2.1 q; omega)
      rw [if_pos ((sI_m (by omega)).mpr d), inb_nI (show t < 720 by omega) (by omega), Option.bind_some, hs1.2 t ht, hq, inb_nI (show q < 720 by omega) (by omega), Option.bind_some, Option.bind_some, inb_nI (show s.2.2 < 720 by omega) (by omega), Option.bind_some, if_pos d, hs1.1 q a1, sI_up a2, nI_1, nI_1]
      refine ⟨_, rfl, MBF_add hs1, ?_, Fr_tA (Fr_tA c3' (Or.inr (Or.inl rfl))) (Or.inr (Or.inr rfl))⟩
      rw [ps_aAn _ _ _ _ _ (by omega), ps_aAn _ _ _ _ _ (by omega), c2]
    · rw [if_neg (fun e => d ((sI_m (by omega)).mp e)), if_neg d, nI_1]
      exact ⟨_, rfl, hs1, c2, c3'⟩
theorem m_reach {h : Hp} (hh : HLD h K k) (hw : WF K k) {s : BS} (hs : MBF h (fct (insL K k).length) s) (ho : bsO (fct (insL K k).length) s) {q t : Nat} (ht : t < s.2.2) (hq : s.2.1 t = q) (hS : StS (aI h 83) K k (ssq K k q)) : ∃ h', lp (fun s => b_X11_laysSwaps_82_64 (nI t) s.1 s.2.1 s.2.2) FU (nI s.2.2, (0 : Int32), h) = some (nI (reS (Nq K k) (insL K k).length q s).2.2, h') ∧ MBF h' (fct (insL K k).length) (reS (Nq K k) (insL K k).length q s) ∧ aI h' 83 = aI h 83 ∧ Fr A100 noF h h' := by
  have m6 := ins_le hw
  have hN : ∀ i j r, i < j → j < (insL K k).length → Nq K k q i j = some r → r < fct (insL K k).length := fun i j r _ _ e => Nq_lt hw e
  have h0 : s.1 q ≠ 0 := by rw [← hq]; exact (ho.2.1 t ht).2
  have inner : ∀ i, i < (insL K k).length → ∀ (s : BS) (h : Hp), HLD h K k → StS (aI h 83) K k (ssq K k q) → MBF h (fct (insL K k).length) s → bsO (fct (insL K k).length) s → t < s.2.2 → s.2.1 t = q → ∃ e : Int32 × Hp, lp (fun u => b_X11_laysSwaps_97_82 (nI t) (nI i) u.1 u.2.1 u.2.2) FU (nI s.2.2, nI (i + 1), h) = some e ∧ e.1 = nI (rowS (Nq K k) (insL K k).length q s i).2.2 ∧ MBF e.2 (fct (insL K k).length) (rowS (Nq K k) (insL K k).length q s i) ∧ aI e.2 83 = aI h 83 ∧ Fr A100 noF h e.2 := by
    intro i hi s h hh hS hs ho ht hq
    have h0 : s.1 q ≠ 0 := by rw [← hq]; exact (ho.2.1 t ht).2
    refine lp_inv (b := fun u : Int32 × Int32 × Hp => b_X11_laysSwaps_97_82 (nI t) (nI i) u.1 u.2.1 u.2.2) (fun T u => u.1 = nI (itr (fun s t => nxS (Nq K k) q i s (i + 1 + t)) T 0 s).2.2 ∧ u.2.1 = nI (i + 1 + T) ∧ MBF u.2.2 (fct (insL K k).length) (itr (fun s t => nxS (Nq K k) q i s (i + 1 + t)) T 0 s) ∧ aI u.2.2 83 = aI h 83 ∧ Fr A100 noF h u.2.2) (fun e => e.1 = nI (rowS (Nq K k) (insL K k).length q s i).2.2 ∧ MBF e.2 (fct (insL K k).length) (rowS (Nq K k) (insL K k).length q s i) ∧ aI e.2 83 = aI h 83 ∧ Fr A100 noF h e.2) ((insL K k).length - (i + 1)) (nI s.2.2, nI (i + 1), h) (by omega) ⟨rfl, rfl, hs, rfl, Fr_rfl⟩ ?_ ?_
    · rintro T ⟨t1, t2, t3⟩ hT ⟨q1, q2, q3, q5, q4⟩
      dsimp only at q1 q2 q3 q4 q5
      subst q1
      subst q2
      obtain ⟨o1, o2, o3, o4⟩ := row_ok (M := fct (insL K k).length) (m := (insL K k).length) (i := i) hN ho h0 T (by omega)
      obtain ⟨h', z1, z2, z5, z3⟩ := m_nx (HLD_100 hh q4) hw q3 o1 (Nat.lt_of_lt_of_le ht o4) ((o3 t ht).trans hq) (by rw [q5]; exact hS) (show i < i + 1 + T by omega) (show i + 1 + T < (insL K k).length by omega)
      refine Or.inl ⟨(_, _, h'), z1, ?_, rfl, ?_, z5.trans q5, Fr_tr q4 z3⟩
      · dsimp only
        rw [itr_succ, Nat.zero_add]
      · dsimp only
        rw [itr_succ, Nat.zero_add]; exact z2
    · rintro ⟨t1, t2, t3⟩ ⟨q1, q2, q3, q5, q4⟩
      dsimp only at q1 q2 q3 q4 q5
      subst q1
      subst q2
      refine ⟨(_, t3), ?_, rfl, q3, q5, q4⟩
      show b_X11_laysSwaps_97_82 (nI t) (nI i) _ _ t3 = _
      unfold b_X11_laysSwaps_97_82
      rw [(HLD_100 hh q4).1, if_pos (nI_le (by omega) (by omega))]
      rfl
  have key := lp_inv (b := fun u : Int32 × Int32 × Hp => b_X11_laysSwaps_82_64 (nI t) u.1 u.2.1 u.2.2) (fun T u => u.1 = nI (itr (fun s i => rowS (Nq K k) (insL K k).length q s i) T 0 s).2.2 ∧ u.2.1 = nI T ∧ MBF u.2.2 (fct (insL K k).length) (itr (fun s i => rowS (Nq K k) (insL K k).length q s i) T 0 s) ∧ aI u.2.2 83 = aI h 83 ∧ Fr A100 noF h u.2.2) (fun e => e.1 = nI (reS (Nq K k) (insL K k).length q s).2.2 ∧ MBF e.2 (fct (insL K k).length) (reS (Nq K k) (insL K k).length q s) ∧ aI e.2 83 = aI h 83 ∧ Fr A100 noF h e.2) (insL K k).length (nI s.2.2, (0 : Int32), h) (by omega) ⟨rfl, rfl, hs, rfl, Fr_rfl⟩ ?_ ?_
  · obtain ⟨e, k1, k2, k3, k5, k4⟩ := key
    refine ⟨e.2, ?_, k3, k5, k4⟩
    rw [k1, ← k2]
  · rintro T ⟨t1, t2, t3⟩ hT ⟨q1, q2, q3, q5, q4⟩
    dsimp only at q1 q2 q3 q4 q5
    subst q1
    subst q2
    obtain ⟨o1, o2, o3, o4⟩ := re_ok (M := fct (insL K k).length) (m := (insL K k).length) hN ho h0 T (by omega)
    have hc' := HLD_100 hh q4
    obtain ⟨e, z1, z2, z3, z5, z4⟩ := inner T hT _ t3 hc' (by rw [q5]; exact hS) q3 o1 (Nat.lt_of_lt_of_le ht o4) ((o3 t ht).trans hq)
    refine Or.inl ⟨(e.1, nI (T + 1), e.2), ?_, ?_, rfl, ?_, z5.trans q5, Fr_tr q4 z4⟩
    · show b_X11_laysSwaps_82_64 (nI t) _ (nI T) t3 = _
      unfold b_X11_laysSwaps_82_64
      rw [hc'.1, if_neg (nI_ge hT (by omega)), nI_1, z1, Option.bind_some]
    · dsimp only
      rw [itr_succ, Nat.zero_add]; exact z2
    · dsimp only
      rw [itr_succ, Nat.zero_add]; exact z3
  · rintro ⟨t1, t2, t3⟩ ⟨q1, q2, q3, q5, q4⟩
    dsimp only at q1 q2 q3 q4 q5
    subst q1
    subst q2
    refine ⟨(_, t3), ?_, rfl, q3, q5, q4⟩
    show b_X11_laysSwaps_82_64 (nI t) _ (nI (insL K k).length) t3 = _
    unfold b_X11_laysSwaps_82_64
    rw [(HLD_100 hh q4).1, if_pos (Int32.le_refl _)]
    rfl
theorem m_swaps {h : Hp} (e83 : aI h 83 = K) (hh : HLD h K k) (hw : WF K k) {n : Nat} (e99 : ∀ q, q < fct (insL K k).length → aI h 99 q = nI (ples S K k n q)) (e86 : ∀ i, i < 25 → aI h 86 i = K i) : ∃ h', f_X11_laysSwaps (nI (moP S K k n)) h = some ((), h') ∧ MBF h' (fct (insL K k).length) (farS S K k n) ∧ aI h' 83 = K ∧ HLD h' K k ∧ Fr A100 noF h h' := by
  have h6 := hw.2.1
  have m6 := ins_le hw
  have f7 := fct_le _ m6
  have mo6 := ples_le S K k n (bsP (ples S K k n) (fct (insL K k).length))
  have mo6' : moP S K k n ≤ k := mo6
  have key1 := lp_inv (b := fun t : Int32 × Int32 × Hp => b_X11_laysSwaps_4 (nI (moP S K k n)) t.1 t.2.1 t.2.2) (fun q t => t.1 = nI (iniS (ples S K k n) (moP S K k n) q).2.2 ∧ t.2.1 = nI q ∧ MBF t.2.2 q (iniS (ples S K k n) (moP S K k n) q) ∧ Fr (fun a => a = 100 ∨ a = 101) noF h t.2.2) (fun e => e.1 = nI (iniS (ples S K k n) (moP S K k n) (fct (insL K k).length)).2.2 ∧ MBF e.2 (fct (insL K k).length) (iniS (ples S K k n) (moP S K k n) (fct (insL K k).length)) ∧ Fr (fun a => a = 100 ∨ a = 101) noF h e.2) (fct (insL K k).length) ((0 : Int32), (0 : Int32), h) (by omega) ⟨rfl, rfl, ⟨fun r hr => absurd hr (Nat.not_lt_zero _), fun t ht => absurd ht (Nat.not_lt_zero _)⟩, Fr_rfl⟩ ?_ ?_
  · obtain ⟨e, k1, k2, k3, k4⟩ := key1
    have o0 : ∀ t, bsO (fct (insL K k).length) (bfS (Nq K k) (insL K k).length (iniS (ples S K k n) (moP S K k n) (fct (insL K k).length)) t) := fun t => far_ok hw n t
    have fin : ∀ t, t ≤ 720 → (bfS (Nq K k) (insL K k).length (iniS (ples S K k n) (moP S K k n) (fct (insL K k).length)) t).2.2 ≤ t → bfS (Nq K k) (insL K k).length (iniS (ples S K k n) (moP S K k n) (fct (insL K k).length)) t = farS S K k n := by
      intro t ht hl
      have := bf_end hl (720 - t)
      rw [show t + (720 - t) = 720 by omega] at this
      exact this.symm
    have k4' : Fr A100 noF h e.2 := Fr_mono k4 (fun a c => Or.inr c) (fun _ _ c => c)
    have key2 := lp_inv (b := fun t : Int32 × Int32 × Hp => b_X11_laysSwaps_64 t.1 t.2.1 t.2.2) (fun T t => t.1 = nI (bfS (Nq K k) (insL K k).length (iniS (ples S K k n) (moP S K k n) (fct (insL K k).length)) T).2.2 ∧ t.2.1 = nI T ∧ MBF t.2.2 (fct (insL K k).length) (bfS (Nq K k) (insL K k).length (iniS (ples S K k n) (moP S K k n) (fct (insL K k).length)) T) ∧ (∀ i, 25 ≤ i → aI t.2.2 83 i = K i) ∧ Fr A100 noF h t.2.2) (fun e => MBF e (fct (insL K k).length) (farS S K k n) ∧ (∀ i, 25 ≤ i → aI e 83 i = K i) ∧ Fr A100 noF h e) 720 (e.1, (0 : Int32), e.2) (by omega) ⟨k2, rfl, k3, fun i _ => by show aI e.2 83 i = K i; rw [k4.2.1 83 (by omega), e83], k4'⟩ ?_ ?_
    · obtain ⟨e', y1, y2, y5, y3⟩ := key2
      obtain ⟨g, u1, u2, u3⟩ := m_tbk (h := e') (t := 0) (by omega)
      have u3' : Fr A100 noF e' g := Fr_mono u3 (fun a c => Or.inl c) (fun _ _ c => c.elim)
      have g83 : aI g 83 = K := tk_seat hw rfl y5 (fun i hi => by rw [y3.2.1 86 (by unfold A100; omega)]; exact e86 i hi) u2
      refine ⟨g, ?_, MBF_83 y2 u3, g83, HLD_100 hh (Fr_tr y3 u3'), Fr_tr y3 u3'⟩
      unfold f_X11_laysSwaps
      rw [k1, Option.bind_some, y1, Option.bind_some, show f_X11_takesBack (0 : Int32) e' = some ((), g) from u1, Option.bind_some]
    · rintro T ⟨t1, t2, t3⟩ hT ⟨q1, q2, q3, q5, q4⟩
      dsimp only at q1 q2 q3 q4 q5
      subst q1
      subst q2
      have wM := bs_M (o0 T)
      show (∃ s', b_X11_laysSwaps_64 _ (nI T) t3 = _ ∧ _) ∨ _
      by_cases c : T < (bfS (Nq K k) (insL K k).length (iniS (ples S K k n) (moP S K k n) (fct (insL K k).length)) T).2.2
      · obtain ⟨a1, a2⟩ := (o0 T).2.1 T c
        obtain ⟨r1, c1, c2, c3⟩ := m_seats (HLD_100 hh q4) hw a1
        have c3' : Fr A100 noF t3 r1 := Fr_mono c3 (fun a c => Or.inl c) (fun _ _ c => c.elim)
        have hS : StS (aI r1 83) K k (ssq K k ((bfS (Nq K k) (insL K k).length (iniS (ples S K k n) (moP S K k n) (fct (insL K k).length)) T).2.1 T)) := by
          intro x hx
          rw [c2]
          exact ⟨sw_seat _ hx, ssq_lt hw a1 hx⟩
        obtain ⟨h', z1, z2, z5, z3⟩ := m_reach (HLD_100 hh (Fr_tr q4 c3')) hw (MBF_83 q3 c3) (o0 T) c rfl hS
        have eb : bfS (Nq K k) (insL K k).length (iniS (ples S K k n) (moP S K k n) (fct (insL K k).length)) (T + 1) = reS (Nq K k) (insL K k).length ((bfS (Nq K k) (insL K k).length (iniS (ples S K k n) (moP S K k n) (fct (insL K k).length)) T).2.1 T) (bfS (Nq K k) (insL K k).length (iniS (ples S K k n) (moP S K k n) (fct (insL K k).length)) T) := if_pos c
        refine Or.inl ⟨(nI (bfS (Nq K k) (insL K k).length (iniS (ples S K k n) (moP S K k n) (fct (insL K k).length)) (T + 1)).2.2, nI (T + 1), h'), ?_, rfl, rfl, ?_, ?_, Fr_tr q4 (Fr_tr c3' z3)⟩
        · unfold b_X11_laysSwaps_64
          rw [if_neg (nI_ge c (by omega)), inb_nI (show T < 720 by omega) (by omega), Option.bind_some, q3.2 T c, c1, Option.bind_some]
          dsimp only
          rw [z1, Option.bind_some, nI_1, eb]
        · dsimp only
          rw [eb]; exact z2
        · intro i hi
          show aI h' 83 i = K i
          rw [z5, c2, sw_o _ _ _ (fun x hx => by have := (ins_at hw hx).1; omega)]
          exact q5 i hi
      · refine Or.inr ⟨t3, ?_, ?_, q5, q4⟩
        · show b_X11_laysSwaps_64 _ (nI T) t3 = _
          unfold b_X11_laysSwaps_64
          rw [if_pos (nI_le (by omega) (by omega))]
        · rw [← fin T (by omega) (by omega)]; exact q3
    · rintro ⟨t1, t2, t3⟩ ⟨q1, q2, q3, q5, q4⟩
      dsimp only at q1 q2 q3 q4 q5
      subst q1
      subst q2
      have wM := bs_M (o0 720)
      refine ⟨t3, ?_, q3, q5, q4⟩
      show b_X11_laysSwaps_64 _ (nI 720) t3 = _
      unfold b_X11_laysSwaps_64
      rw [if_pos (nI_le (by omega) (by omega))]
  · rintro q ⟨t1, t2, t3⟩ hq ⟨q1, q2, q3, q4⟩
    dsimp only at q1 q2 q3 q4
    subst q1
    subst q2
    have pl := ples_le S K k n q
    obtain ⟨-, i2, i3⟩ := ini_ok (ples S K k n) (moP S K k n) (M := fct (insL K k).length) q (by omega)
    have e35 : fI t3 81 36 = nI (fct (insL K k).length) := by rw [q4.1 _ _ (fun c => c)]; exact hh.2.1
    refine Or.inl ?_
    show ∃ s', b_X11_laysSwaps_4 (nI (moP S K k n)) _ (nI q) t3 = _ ∧ _
    unfold b_X11_laysSwaps_4
    rw [e35, if_neg (nI_ge hq (by omega)), inb_nI (show q < 720 by omega) (by omega), Option.bind_some, q4.2.1 99 (by omega), e99 q hq]
    unfold j_X11_laysSwaps_33_4
    by_cases c : ples S K k n q = moP S K k n
    · have ei : iniS (ples S K k n) (moP S K k n) (q + 1) = (upN (iniS (ples S K k n) (moP S K k n) q).1 q 1, upN (iniS (ples S K k n) (moP S K k n) q).2.1 (iniS (ples S K k n) (moP S K k n) q).2.2 q, (iniS (ples S K k n) (moP S K k n) q).2.2 + 1) := if_pos c
      have ad : MBF (sA (sA t3 100 q (0 : Int32)) 101 (iniS (ples S K k n) (moP S K k n) q).2.2 (nI q)) (q + 1) (upN (iniS (ples S K k n) (moP S K k n) q).1 q 1, upN (iniS (ples S K k n) (moP S K k n) q).2.1 (iniS (ples S K k n) (moP S K k n) q).2.2 q, (iniS (ples S K k n) (moP S K k n) q).2.2 + 1) := by
        refine ⟨fun y hy => ?_, fun t ht => ?_⟩
        · show aI (sA (sA t3 100 q (0 : Int32)) 101 _ (nI q)) 100 y = sI (upN _ q 1 y)
          rw [ps_aAn _ _ _ _ _ (by omega)]
          by_cases d : y = q
          · rw [d, aI_s, upN_s]; rfl
          · rw [aI_n d, upN_n d]; exact q3.1 y (by omega)
        · have ht' : t < (iniS (ples S K k n) (moP S K k n) q).2.2 + 1 := ht
          show aI (sA (sA t3 100 q (0 : Int32)) 101 _ (nI q)) 101 t = nI (upN _ _ q t)
          by_cases d : t = (iniS (ples S K k n) (moP S K k n) q).2.2
          · rw [d, aI_s, upN_s]
          · rw [aI_n d, upN_n d, ps_aAn _ _ _ _ _ (by omega)]; exact q3.2 t (by omega)
      dsimp only
      rw [if_pos (by rw [c]), inb_nI (show q < 720 by omega) (by omega), Option.bind_some, Option.bind_some, aI_s, if_pos (by decide), inb_nI (show (iniS (ples S K k n) (moP S K k n) q).2.2 < 720 by omega) (by omega), Option.bind_some, nI_1, nI_1]
      refine ⟨_, rfl, ?_, rfl, ?_, Fr_tA (Fr_tA q4 (Or.inl rfl)) (Or.inr rfl)⟩
      · dsimp only
        rw [ei]
      · dsimp only
        rw [ei]; exact ad
    · have ei : iniS (ples S K k n) (moP S K k n) (q + 1) = iniS (ples S K k n) (moP S K k n) q := if_neg c
      dsimp only
      rw [if_neg (fun d => c ((nI_eq (by omega) (by omega)).mp d)), inb_nI (show q < 720 by omega) (by omega), Option.bind_some, Option.bind_some, aI_s, if_neg (by decide), nI_1]
      refine ⟨_, rfl, ?_, rfl, ?_, Fr_tA q4 (Or.inl rfl)⟩
      · dsimp only
        rw [ei]
      · dsimp only
        rw [ei]
        refine ⟨fun r hr => ?_, fun t ht => ?_⟩
        · by_cases d : r = q
          · rw [d, aI_s, i2 q (Nat.le_refl _)]; rfl
          · rw [aI_n d]; exact q3.1 r (by omega)
        · rw [ps_aAn _ _ _ _ _ (by omega)]; exact q3.2 t ht
  · rintro ⟨t1, t2, t3⟩ ⟨q1, q2, q3, q4⟩
    dsimp only at q1 q2 q3 q4
    subst q1
    subst q2
    refine ⟨(_, t3), ?_, rfl, q3, q4⟩
    show b_X11_laysSwaps_4 (nI (moP S K k n)) _ (nI (fct (insL K k).length)) t3 = _
    unfold b_X11_laysSwaps_4
    rw [q4.1 _ _ (fun c => c), hh.2.1, if_pos (Int32.le_refl _)]
    rfl
end SWP
