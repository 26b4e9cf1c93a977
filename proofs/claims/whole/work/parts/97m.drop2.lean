/-! ===== both sides of a drop are one ===== -/
theorem first_iff {f : Nat → Bool} {n : Nat} : (firstM f n 0).isSome = true ↔ ∃ q, q < n ∧ f q = true := by
  cases hm : firstM f n 0 with
  | none =>
    refine ⟨fun c => absurd c (by simp), fun ⟨q, h1, h2⟩ => ?_⟩
    have := firstM_none hm q (Nat.zero_le _) (by omega)
    rw [this] at h2
    exact absurd h2 Bool.false_ne_true
  | some p =>
    obtain ⟨-, h2, h3, -⟩ := firstM_some hm
    exact ⟨fun _ => ⟨p, by omega, h3⟩, fun _ => rfl⟩
theorem reix {K : Nat → Int32} {k : Nat} (hw : WF K k) (G : Nat → Int) : ∀ n, n ≤ k → sumZ (fun q => if insb K q = true then G (seatN K q) else 0) n = sumZ (fun s => if (firstM (fun q => decide (K (18 + q) = nI s)) n 0).isSome = true then G s else 0) 9
  | 0, _ => (sumZ_0 9 (fun i _ => if_neg (by show ¬ (none : Option Nat).isSome = true; simp))).symm
  | n + 1, hn => by
    show sumZ (fun q => if insb K q = true then G (seatN K q) else 0) n + (if insb K n = true then G (seatN K n) else 0) = _
    rw [reix hw G n (by omega)]
    by_cases c : insb K n = true
    · obtain ⟨s1, s2⟩ := seat_of hw (show n < k by omega) c
      rw [if_pos c]
      have e1 : (firstM (fun q => decide (K (18 + q) = nI (seatN K n))) (n + 1) 0).isSome = true := first_iff.mpr ⟨n, by omega, decide_eq_true s1⟩
      have e2 : ¬ (firstM (fun q => decide (K (18 + q) = nI (seatN K n))) n 0).isSome = true := by
        intro d
        obtain ⟨q, q1, q2⟩ := first_iff.mp d
        have q3 : K (18 + q) = nI (seatN K n) := of_decide_eq_true q2
        have := hw.2.2.2.2.1 n q (by omega) (by omega) (by omega) (by rw [q3]; exact s1)
        rw [s1] at this
        exact nI_ne1 (by omega) this
      rw [sumZ_one (s := seatN K n) (f := fun s => if (firstM (fun q => decide (K (18 + q) = nI s)) n 0).isSome = true then G s else 0) (g := fun s => if (firstM (fun q => decide (K (18 + q) = nI s)) (n + 1) 0).isSome = true then G s else 0) 9 s2 ?_]
      · rw [if_pos e1, if_neg e2]
        omega
      · intro i hi hne
        have : (firstM (fun q => decide (K (18 + q) = nI i)) (n + 1) 0).isSome = (firstM (fun q => decide (K (18 + q) = nI i)) n 0).isSome := by
          refine bool_if ⟨fun d => ?_, fun d => ?_⟩
          · obtain ⟨q, q1, q2⟩ := first_iff.mp d
            have q3 : K (18 + q) = nI i := of_decide_eq_true q2
            refine first_iff.mpr ⟨q, ?_, q2⟩
            by_cases e : q = n
            · rw [e, s1] at q3
              exact absurd ((nI_eq (by omega) (by omega)).mp q3).symm hne
            · omega
          · obtain ⟨q, q1, q2⟩ := first_iff.mp d
            exact first_iff.mpr ⟨q, by omega, q2⟩
        show (if _ then _ else _) = (if _ then _ else _)
        rw [this]
    · rw [if_neg c]
      have kn : K (18 + n) = -1 := by
        unfold insb at c
        simpa using c
      rw [Int.add_zero]
      refine sumZ_ext 9 (fun i hi => ?_)
      have : (firstM (fun q => decide (K (18 + q) = nI i)) (n + 1) 0).isSome = (firstM (fun q => decide (K (18 + q) = nI i)) n 0).isSome := by
        refine bool_if ⟨fun d => ?_, fun d => ?_⟩
        · obtain ⟨q, q1, q2⟩ := first_iff.mp d
          have q3 : K (18 + q) = nI i := of_decide_eq_true q2
          refine first_iff.mpr ⟨q, ?_, q2⟩
          by_cases e : q = n
          · rw [e, kn] at q3
            exact absurd q3.symm (nI_ne1 (by omega))
          · omega
        · obtain ⟨q, q1, q2⟩ := first_iff.mp d
          exact first_iff.mpr ⟨q, by omega, q2⟩
      show (if _ then _ else _) = (if _ then _ else _)
      rw [this]
/-- the drops of a seat, a minute on -/
def newZ (K : Nat → Int32) (k : Nat) (d : Nat → Nat) (s : Nat) : Int := (d s : Int) - sumZ (fun j => if cS K k s j = true then ((d s / 10 : Nat) : Int) else 0) 9 + sumZ (fun i => if cS K k i s = true then ((d i / 10 : Nat) : Int) else 0) 9
def newD (K : Nat → Int32) (k : Nat) (d : Nat → Nat) (s : Nat) : Nat := (newZ K k d s).toNat
def occ (K : Nat → Int32) (k s : Nat) : Bool := (whoS K k s).isSome
def BdD (K : Nat → Int32) (k : Nat) (d : Nat → Nat) (B : Nat) : Prop := ∀ s, s < 9 → d s ≤ B ∧ (occ K k s = false → d s = 0)
theorem nbs_sym : ∀ s, s < 9 → ∀ t, t < 9 → (t ∈ nbs s ↔ s ∈ nbs t) := by decide
theorem nbs_c4 : ∀ s, s < 9 → cntN (fun t => decide (t ∈ nbs s)) 9 ≤ 4 := by decide
theorem cntN_mono {f g : Nat → Bool} (h : ∀ i, f i = true → g i = true) : ∀ n, cntN f n ≤ cntN g n
  | 0 => Nat.le_refl _
  | n + 1 => by
    have := cntN_mono h n
    show cntN f n + (if f n = true then 1 else 0) ≤ cntN g n + (if g n = true then 1 else 0)
    by_cases c : f n = true
    · rw [if_pos c, if_pos (h n c)]; omega
    · rw [if_neg c]; split <;> omega
theorem sumZ_nn {f : Nat → Int} (h : ∀ i, 0 ≤ f i) : ∀ n, 0 ≤ sumZ f n
  | 0 => Int.le_refl _
  | n + 1 => by
    have := sumZ_nn h n
    have := h n
    show 0 ≤ sumZ f n + f n
    omega
theorem in_le {K : Nat → Int32} {k B s : Nat} {d : Nat → Nat} (hb : BdD K k d B) (hs : s < 9) : ∀ n, n ≤ 9 → sumZ (fun i => if cS K k i s = true then ((d i / 10 : Nat) : Int) else 0) n ≤ (cntN (cS K k s) n : Int) * ((B / 10 : Nat) : Int)
  | 0, _ => by
    show (0 : Int) ≤ ((0 : Nat) : Int) * _
    simp
  | n + 1, hn => by
    have IH := in_le hb hs n (by omega)
    show sumZ (fun i => if cS K k i s = true then ((d i / 10 : Nat) : Int) else 0) n + (if cS K k n s = true then ((d n / 10 : Nat) : Int) else 0) ≤ ((cntN (cS K k s) n + (if cS K k s n = true then 1 else 0) : Nat) : Int) * ((B / 10 : Nat) : Int)
    obtain ⟨b1, b2⟩ := hb n (by omega)
    have hle : d n / 10 ≤ B / 10 := Nat.div_le_div_right b1
    by_cases c : cS K k s n = true
    · rw [if_pos c, Int.natCast_add, Int.add_mul]
      have : (if cS K k n s = true then ((d n / 10 : Nat) : Int) else 0) ≤ ((B / 10 : Nat) : Int) := by
        split
        · omega
        · omega
      have e1 : (((1 : Nat) : Int)) * ((B / 10 : Nat) : Int) = ((B / 10 : Nat) : Int) := by simp
      rw [e1]
      omega
    · rw [if_neg c]
      have : (if cS K k n s = true then ((d n / 10 : Nat) : Int) else 0) = 0 := by
        by_cases c2 : cS K k n s = true
        · rw [if_pos c2]
          unfold cS at c c2
          simp only [Bool.and_eq_true, decide_eq_true_eq] at c c2
          have hn2 := (nbs_sym n (by omega) s hs).mp c2.1
          have ho : occ K k n = false := by
            unfold occ
            cases e : (whoS K k n).isSome
            · rfl
            · exact absurd ⟨hn2, e⟩ c
          rw [b2 ho]
          rfl
        · rw [if_neg c2]
      rw [this]
      show _ ≤ ((cntN (cS K k s) n : Nat) : Int) * _
      omega
theorem newZ_bd {K : Nat → Int32} {k B s : Nat} {d : Nat → Nat} (hb : BdD K k d B) (hs : s < 9) : 0 ≤ newZ K k d s ∧ newZ K k d s ≤ (B : Int) + 4 ∧ (occ K k s = false → newZ K k d s = 0) := by
  obtain ⟨b1, b2⟩ := hb s hs
  have h1 := in_le hb hs 9 (by omega)
  have h0 : 0 ≤ sumZ (fun i => if cS K k i s = true then ((d i / 10 : Nat) : Int) else 0) 9 := sumZ_nn (fun i => by split <;> omega) 9
  have hc : cntN (cS K k s) 9 ≤ 4 := Nat.le_trans (cntN_mono (fun i hi => by unfold cS at hi; simp only [Bool.and_eq_true] at hi; exact hi.1) 9) (nbs_c4 s hs)
  have ho : sumZ (fun j => if cS K k s j = true then ((d s / 10 : Nat) : Int) else 0) 9 = (cntN (cS K k s) 9 : Int) * ((d s / 10 : Nat) : Int) := sumZ_cnt 9
  unfold newZ
  rw [ho]
  generalize hS : sumZ (fun i => if cS K k i s = true then ((d i / 10 : Nat) : Int) else 0) 9 = S at h0 h1 ⊢
  have z : occ K k s = false → S = 0 := by
    intro hoc
    rw [← hS]
    refine sumZ_0 9 (fun i _ => if_neg (fun c => ?_))
    unfold cS at c
    unfold occ at hoc
    rw [hoc] at c
    simp at c
  have hd1 : 10 * (d s / 10) ≤ d s := Nat.mul_div_le _ _
  have hd2 : d s < 10 * (d s / 10) + 10 := by omega
  have hB1 : 10 * (B / 10) ≤ B := Nat.mul_div_le _ _
  generalize d s / 10 = t at hd1 hd2 ⊢
  generalize B / 10 = b at hB1 h1
  generalize cntN (cS K k s) 9 = c at hc h1 ⊢
  rcases (show c = 0 ∨ c = 1 ∨ c = 2 ∨ c = 3 ∨ c = 4 by omega) with e | e | e | e | e <;> subst e <;> refine ⟨by omega, by omega, fun hoc => ?_⟩ <;> have := z hoc <;> have := b2 hoc <;> omega
theorem BdD_new {K : Nat → Int32} {k B : Nat} {d : Nat → Nat} (hb : BdD K k d B) : BdD K k (newD K k d) (B + 4) := by
  intro s hs
  obtain ⟨a1, a2, a3⟩ := newZ_bd hb hs
  unfold newD
  exact ⟨by omega, fun h => by rw [a3 h]; rfl⟩
theorem newD_n {K : Nat → Int32} {k B s : Nat} {d : Nat → Nat} (hb : BdD K k d B) (hs : s < 9) : Int32.ofInt (newZ K k d s) = nI (newD K k d s) := by
  obtain ⟨a1, -⟩ := newZ_bd hb hs
  rw [ofZ]
  unfold newD
  congr 1
  omega
theorem c_new {K : Nat → Int32} {k B : Nat} {d : Nat → Nat} {X : Nat → Int32} (hb : BdD K k d B) (hB : B < 2 ^ 31) (hX : ∀ s, s < 9 → X s = nI (d s)) {s : Nat} (hs : s < 9) : trA (cS K k) (vS d) 9 9 X s = nI (newD K k d s) := by
  rw [← newD_n hb hs, tr_all (c := cS K k) (v := vS d) (n := 9) (w := fun i => ((d i / 10 : Nat) : Int)) (Z := fun x => (X x).toInt) (fun x => (Int32.ofInt_toInt _).symm) 9 (fun i hi => ?_) (fun i hi => ofZ _) s]
  · congr 1
    have b1 := (hb s hs).1
    unfold newZ
    rw [if_pos hs, hX s hs, nI_toInt (by omega)]
    congr 1
    exact sumZ_ext 9 (fun i hi => by
      by_cases c : cS K k i s = true
      · rw [if_pos ⟨hs, c⟩, if_pos c]
      · rw [if_neg (fun d => c d.2), if_neg c])
  · unfold cS
    rw [decide_eq_false (fun c => nbs_self i hi i c rfl)]
    rfl
theorem m_new {K : Nat → Int32} {k B : Nat} {d : Nat → Nat} {X : Nat → Int32} (hw : WF K k) (hb : BdD K k d B) (hB : B < 2 ^ 31) (hX : ∀ p, p < k → insb K p = true → X p = nI (d (seatN K p))) {p : Nat} (hp : p < k) (hi : insb K p = true) : trA (cP K) (vP K d) k k X p = nI (newD K k d (seatN K p)) := by
  obtain ⟨s1, s2⟩ := seat_of hw hp hi
  have oc : (whoS K k (seatN K p)).isSome = true := first_iff.mpr ⟨p, hp, decide_eq_true s1⟩
  rw [← newD_n hb s2, tr_all (c := cP K) (v := vP K d) (n := k) (w := fun i => if insb K i = true then ((d (seatN K i) / 10 : Nat) : Int) else 0) (Z := fun x => (X x).toInt) (fun x => (Int32.ofInt_toInt _).symm) k (fun i hi' => ?_) (fun i hi' => ?_) p]
  · congr 1
    have b1 := (hb _ s2).1
    unfold newZ
    rw [if_pos hp, hX p hp hi, nI_toInt (by omega), if_pos hi]
    have o1 : sumZ (fun j => if cP K p j = true then ((d (seatN K p) / 10 : Nat) : Int) else 0) k = sumZ (fun j => if cS K k (seatN K p) j = true then ((d (seatN K p) / 10 : Nat) : Int) else 0) 9 := by
      have r := reix hw (fun s => if s ∈ nbs (seatN K p) then ((d (seatN K p) / 10 : Nat) : Int) else 0) k (Nat.le_refl _)
      refine (sumZ_ext k (fun j hj => ?_)).trans (r.trans (sumZ_ext 9 (fun j hj => ?_)))
      · unfold cP
        rw [hi]
        by_cases c1 : insb K j = true
        · rw [c1, if_pos rfl]
          by_cases c2 : seatN K j ∈ nbs (seatN K p)
          · rw [decide_eq_true c2, if_pos c2, if_pos (show (true && (true && true)) = true from rfl)]
          · rw [decide_eq_false c2, if_neg c2, if_neg (by simp)]
        · rw [if_neg c1, Bool.eq_false_iff.mpr c1, if_neg (by simp)]
      · unfold cS
        show (if (whoS K k j).isSome = true then _ else _) = _
        by_cases c1 : (whoS K k j).isSome = true
        · rw [if_pos c1, c1]
          by_cases c2 : j ∈ nbs (seatN K p)
          · rw [decide_eq_true c2, if_pos c2, if_pos (show (true && true) = true from rfl)]
          · rw [decide_eq_false c2, if_neg c2, if_neg (by simp)]
        · rw [if_neg c1, Bool.eq_false_iff.mpr c1, if_neg (by simp)]
    have o2 : sumZ (fun i => if p < k ∧ cP K i p = true then (if insb K i = true then ((d (seatN K i) / 10 : Nat) : Int) else 0) else 0) k = sumZ (fun i => if cS K k i (seatN K p) = true then ((d i / 10 : Nat) : Int) else 0) 9 := by
      have r := reix hw (fun s => if seatN K p ∈ nbs s then ((d s / 10 : Nat) : Int) else 0) k (Nat.le_refl _)
      refine (sumZ_ext k (fun j hj => ?_)).trans (r.trans (sumZ_ext 9 (fun j hj => ?_)))
      · unfold cP
        rw [hi]
        by_cases c1 : insb K j = true
        · rw [c1, if_pos rfl, if_pos rfl]
          by_cases c2 : seatN K p ∈ nbs (seatN K j)
          · rw [decide_eq_true c2, if_pos c2, if_pos ⟨hp, rfl⟩]
          · rw [decide_eq_false c2, if_neg c2, if_neg (by simp)]
        · rw [if_neg c1, if_neg c1, Bool.eq_false_iff.mpr c1, if_neg (by simp)]
      · unfold cS
        show (if (whoS K k j).isSome = true then _ else _) = _
        rw [oc]
        by_cases c2 : seatN K p ∈ nbs j
        · rw [decide_eq_true c2, if_pos c2, if_pos (show (true && true) = true from rfl)]
          by_cases c1 : (whoS K k j).isSome = true
          · rw [if_pos c1]
          · rw [if_neg c1, (hb j hj).2 (Bool.eq_false_iff.mpr c1)]
            rfl
        · rw [decide_eq_false c2, if_neg c2, if_neg (show ¬ (false && true) = true by decide)]
          split <;> rfl
    rw [o1, o2]
  · unfold cP
    by_cases c1 : insb K i = true
    · obtain ⟨t1, t2⟩ := seat_of hw hi' c1
      rw [decide_eq_false (fun c => nbs_self _ t2 _ c rfl)]
      simp
    · rw [Bool.eq_false_iff.mpr c1]; rfl
  · unfold vP
    by_cases c1 : insb K i = true
    · rw [if_pos c1, if_pos c1]; exact ofZ _
    · rw [if_neg c1, if_neg c1]; exact ofZ 0
def dN (K : Nat → Int32) (k s0 : Nat) : Nat → Nat → Nat
  | 0 => fun s => if s = s0 then 1000000 else 0
  | j + 1 => newD K k (dN K k s0 j)
theorem dN_bd {K : Nat → Int32} {k s0 : Nat} (h0 : occ K k s0 = true) : ∀ j, BdD K k (dN K k s0 j) (1000000 + 4 * j)
  | 0 => by
    intro s hs
    show (if s = s0 then 1000000 else 0) ≤ _ ∧ (_ → (if s = s0 then 1000000 else 0) = 0)
    by_cases c : s = s0
    · rw [if_pos c]
      exact ⟨by omega, fun d => by rw [c, h0] at d; exact absurd d (by simp)⟩
    · rw [if_neg c]
      exact ⟨by omega, fun _ => rfl⟩
  | j + 1 => by
    have := BdD_new (dN_bd h0 j)
    rw [show 1000000 + 4 * (j + 1) = 1000000 + 4 * j + 4 by omega]
    exact this
theorem c_dropL {h : Hp} {K : Nat → Int32} {k s0 n : Nat} {x3 : Int32} (hR : RRh h 33 K) (hw : WF K k) (h0 : occ K k s0 = true) (hn : n ≤ 60) (hd : ∀ s, s < 9 → aI h 22 s = nI (dN K k s0 0 s)) : ∃ h', lp (fun s => b_X10_drop_62 (nI n) x3 s.1 s.2) FU ((0 : Int32), h) = some h' ∧ (∀ s, s < 9 → aI h' 22 s = nI (dN K k s0 n s)) ∧ Fr (fun a => a = 22 ∨ a = 23) noF h h' := by
  refine lp_inv (b := fun s : Int32 × Hp => b_X10_drop_62 (nI n) x3 s.1 s.2) (fun i s => s.1 = nI i ∧ (∀ t, t < 9 → aI s.2 22 t = nI (dN K k s0 i t)) ∧ Fr (fun a => a = 22 ∨ a = 23) noF h s.2) (fun e => (∀ t, t < 9 → aI e 22 t = nI (dN K k s0 n t)) ∧ Fr (fun a => a = 22 ∨ a = 23) noF h e) n ((0 : Int32), h) (by omega) ⟨rfl, hd, Fr_rfl⟩ ?_ ?_
  · rintro i ⟨s1, s2⟩ hi ⟨q1, q2, q3⟩
    dsimp only at q1 q2 q3
    subst q1
    have bd := dN_bd h0 i
    obtain ⟨g, g1, g2, g3⟩ := c_sp (d := dN K k s0 i) (RR_fr hR q3 (fun c => c) (by omega) (by omega) (by omega) (by omega)) hw (fun s hs => ⟨q2 s hs, by have := (bd s hs).1; omega⟩)
    refine Or.inl ⟨(nI (i + 1), g), ?_, rfl, fun s hs => ?_, Fr_tr q3 g3⟩
    · show b_X10_drop_62 (nI n) x3 (nI i) s2 = _
      unfold b_X10_drop_62
      rw [if_neg (nI_ge hi (by omega)), g1, Option.bind_some, nI_1]
    · show aI g 22 s = _
      rw [g2]
      exact c_new bd (by omega) q2 hs
  · rintro ⟨s1, s2⟩ ⟨q1, q2, q3⟩
    dsimp only at q1 q2 q3
    subst q1
    refine ⟨s2, ?_, q2, q3⟩
    show b_X10_drop_62 (nI n) x3 (nI n) s2 = _
    unfold b_X10_drop_62
    rw [if_pos (Int32.le_refl _)]
theorem m_dropL {h : Hp} {k s0 n : Nat} {x3 : Int32} (hw : WF (aI h 83) k) (h0 : occ (aI h 83) k s0 = true) (hn : n ≤ 60) (hd : ∀ p, p < k → insb (aI h 83) p = true → aI h 105 p = nI (dN (aI h 83) k s0 0 (seatN (aI h 83) p))) : ∃ h', lp (fun s => b_X11_drop_82 (nI n) x3 s.1 s.2) FU ((0 : Int32), h) = some h' ∧ (∀ p, p < k → insb (aI h 83) p = true → aI h' 105 p = nI (dN (aI h 83) k s0 n (seatN (aI h 83) p))) ∧ Fr (fun a => a = 105 ∨ a = 106) noF h h' := by
  refine lp_inv (b := fun s : Int32 × Hp => b_X11_drop_82 (nI n) x3 s.1 s.2) (fun i s => s.1 = nI i ∧ (∀ p, p < k → insb (aI h 83) p = true → aI s.2 105 p = nI (dN (aI h 83) k s0 i (seatN (aI h 83) p))) ∧ Fr (fun a => a = 105 ∨ a = 106) noF h s.2) (fun e => (∀ p, p < k → insb (aI h 83) p = true → aI e 105 p = nI (dN (aI h 83) k s0 n (seatN (aI h 83) p))) ∧ Fr (fun a => a = 105 ∨ a = 106) noF h e) n ((0 : Int32), h) (by omega) ⟨rfl, hd, Fr_rfl⟩ ?_ ?_
  · rintro i ⟨s1, s2⟩ hi ⟨q1, q2, q3⟩
    dsimp only at q1 q2 q3
    subst q1
    have e83 : aI s2 83 = aI h 83 := q3.2.1 83 (by omega)
    have bd := dN_bd h0 i
    obtain ⟨g, g1, g2, g3⟩ := m_dr (h := s2) (k := k) (d := dN (aI h 83) k s0 i) (by rw [e83]; exact hw) (by
      rw [e83]
      exact fun p hp hi => ⟨q2 p hp hi, by have := (bd _ (seat_of hw hp hi).2).1; omega⟩)
    refine Or.inl ⟨(nI (i + 1), g), ?_, rfl, fun p hp hi => ?_, Fr_tr q3 g3⟩
    · show b_X11_drop_82 (nI n) x3 (nI i) s2 = _
      unfold b_X11_drop_82
      rw [if_neg (nI_ge hi (by omega)), g1, Option.bind_some, nI_1]
    · show aI g 105 p = _
      rw [g2, e83]
      exact m_new hw bd (by omega) q2 hp hi
  · rintro ⟨s1, s2⟩ ⟨q1, q2, q3⟩
    dsimp only at q1 q2 q3
    subst q1
    refine ⟨s2, ?_, q2, q3⟩
    show b_X11_drop_82 (nI n) x3 (nI n) s2 = _
    unfold b_X11_drop_82
    rw [if_pos (Int32.le_refl _)]
theorem m_drop0 {h : Hp} {p : Nat} {x2 x3 : Int32} (hp : p < 6) : ∃ h', lp (fun s => b_X11_drop_47 (nI p) x2 x3 s.1 s.2) FU ((0 : Int32), h) = some h' ∧ (∀ q, q < 6 → aI h' 105 q = if q = p then nI 1000000 else nI 0) ∧ Fr (fun a => a = 105) noF h h' := by
  refine lp_inv (b := fun s : Int32 × Hp => b_X11_drop_47 (nI p) x2 x3 s.1 s.2) (fun i s => s.1 = nI i ∧ (∀ q, q < i → aI s.2 105 q = if q = p then nI 1000000 else nI 0) ∧ Fr (fun a => a = 105) noF h s.2) (fun e => (∀ q, q < 6 → aI e 105 q = if q = p then nI 1000000 else nI 0) ∧ Fr (fun a => a = 105) noF h e) 6 ((0 : Int32), h) (by omega) ⟨rfl, fun q hq => absurd hq (Nat.not_lt_zero _), Fr_rfl⟩ ?_ ?_
  · rintro i ⟨s1, s2⟩ hi ⟨q1, q2, q3⟩
    dsimp only at q1 q2 q3
    subst q1
    refine Or.inl ⟨(nI (i + 1), sA s2 105 i (if i = p then nI 1000000 else nI 0)), ?_, rfl, fun q hq => ?_, Fr_tA q3 rfl⟩
    · show b_X11_drop_47 (nI p) x2 x3 (nI i) s2 = _
      unfold b_X11_drop_47 j_X11_drop_72_47
      rw [l6_, if_neg (nI_ge hi (by omega)), inb_nI hi (by omega), Option.bind_some, Option.bind_some, nI_1]
      by_cases c : i = p
      · rw [if_pos c, if_pos (by rw [c])]
        rfl
      · rw [if_neg c, if_neg (fun d => c ((nI_eq (by omega) (by omega)).mp d))]
        rfl
    · show aI (sA s2 105 i _) 105 q = _
      by_cases e : q = i
      · rw [e, aI_s]
      · rw [aI_n e]; exact q2 q (by omega)
  · rintro ⟨s1, s2⟩ ⟨q1, q2, q3⟩
    dsimp only at q1 q2 q3
    subst q1
    refine ⟨s2, ?_, q2, q3⟩
    show b_X11_drop_47 (nI p) x2 x3 (nI 6) s2 = _
    unfold b_X11_drop_47
    rw [if_pos (by decide)]
theorem op_29 : Op_29 INV := by
  intro n h hI _ x1 x2 x3
  have hI0 := hI
  obtain ⟨k, sm, lc, L, i1, i2, i3, i4, i5, i6, i7, i8, i9⟩ := hI
  have hw := i1.1
  have h6 := hw.2.1
  have hR := i2.1
  have ff : ¬ (false = true) := Bool.false_ne_true
  have l60 : ((60 : Int32)) = nI 60 := rfl
  rcases ix6 hw x1 with ⟨p, hp, e⟩ | hx1
  · subst e
    rcases ix6 hw x3 with ⟨q, hq, e⟩ | hx3
    · subst e
      by_cases cp : insb (aI h 83) p = true
      · by_cases cq : insb (aI h 83) q = true
        · rcases ix (x := x2) 61 (by omega) with ⟨x, hx, e⟩ | hx2
          · subst e
            obtain ⟨p1, p2⟩ := seat_of hw hp cp
            obtain ⟨q1, q2⟩ := seat_of hw hq cq
            have oc : occ (aI h 83) k (seatN (aI h 83) p) = true := first_iff.mpr ⟨p, hp, decide_eq_true p1⟩
            obtain ⟨g1, a1, a2, a3⟩ := fill_ok (a := 22) (n := 9) (x := 0) (h := h) (by omega)
            have F1 : Fr (fun a => a = 22 ∨ a = 23) noF h (sA g1 22 (seatN (aI h 83) p) 1000000) := Fr_tA (Fr_mono a3 (fun _ c => Or.inl c) (fun _ _ c => c)) (Or.inl rfl)
            obtain ⟨g2, b1, b2, b3⟩ := c_dropL (h := sA g1 22 (seatN (aI h 83) p) 1000000) (x3 := nI q) (n := x) (RR_fr hR F1 (fun c => c) (by omega) (by omega) (by omega) (by omega)) hw oc (by omega) (fun s hs => by
              show _ = nI (if s = seatN (aI h 83) p then 1000000 else 0)
              by_cases c : s = seatN (aI h 83) p
              · rw [c, aI_s, if_pos rfl]
                rfl
              · rw [aI_n c, if_neg c]; exact a2 s hs)
            have F2 := Fr_tr F1 b3
            have e83 : aI g2 83 = aI h 83 := F2.2.1 83 (by omega)
            obtain ⟨g3, c1, c2, c3⟩ := m_drop0 (h := g2) (p := p) (x2 := nI x) (x3 := nI q) (by omega)
            have e83b : aI g3 83 = aI h 83 := by rw [c3.2.1 83 (by omega), e83]
            obtain ⟨g4, d1, d2, d3⟩ := m_dropL (h := g3) (k := k) (s0 := seatN (aI h 83) p) (n := x) (x3 := nI q) (by rw [e83b]; exact hw) (by rw [e83b]; exact oc) (by omega) (by
              rw [e83b]
              intro r hr hir
              obtain ⟨r1, r2⟩ := seat_of hw hr hir
              rw [c2 r (by omega)]
              show _ = nI (if seatN (aI h 83) r = seatN (aI h 83) p then 1000000 else 0)
              by_cases c : r = p
              · rw [if_pos c, c, if_pos rfl]
              · rw [if_neg c, if_neg]
                intro d
                have := hw.2.2.2.2.1 r p hr hp c (by rw [r1, p1, d])
                rw [r1] at this
                exact nI_ne1 (by omega) this)
            rw [e83b] at d2
            refine ⟨nI (dN (aI h 83) k (seatN (aI h 83) p) x (seatN (aI h 83) q)), g2, g4, ?_, ?_, INV_fr hI0 ?_⟩
            · unfold f_X10_drop
              rw [k_isInside hR hw hp, Option.bind_some, if_pos cp, k_isInside hR hw hq, Option.bind_some, if_pos cq, far_n (by omega), Option.bind_some, if_pos rfl, a1, Option.bind_some, inb_nI (show p < 6 by omega) (by omega), Option.bind_some, show aI g1 36 p = nI (seatN (aI h 83) p) by rw [a3.2.1 36 (by omega), ← p1]; exact hR.2.2.2.1 p (by omega), inb_nI p2 (by omega), Option.bind_some, b1, Option.bind_some, inb_nI (show q < 6 by omega) (by omega), Option.bind_some, show aI g2 36 q = nI (seatN (aI h 83) q) by rw [F2.2.1 36 (by omega), ← q1]; exact hR.2.2.2.1 q (by omega), inb_nI q2 (by omega), Option.bind_some, b2 _ q2]
            · unfold f_X11_drop
              have mk : WF (aI g2 83) k := by rw [e83]; exact hw
              rw [m_isSitter mk hp, Option.bind_some, if_pos rfl, m_isSitter mk hq, Option.bind_some, if_pos rfl, m_isInside (by omega), Option.bind_some, e83, if_pos cp, m_isInside (by omega), Option.bind_some, e83, if_pos cq, l60, lies_n (by omega) (by omega), Option.bind_some, if_pos rfl, c1, Option.bind_some, d1, Option.bind_some, inb_nI (show q < 6 by omega) (by omega), Option.bind_some, d2 q hq cq]
            · refine Fr_tr (Fr_tr (Fr_mono F2 ?_ ?_) (Fr_mono c3 ?_ ?_)) (Fr_mono d3 ?_ ?_)
              · intro a c; unfold scA; omega
              · intro a j c; exact c.elim
              · intro a c; unfold scA; omega
              · intro a j c; exact c.elim
              · intro a c; unfold scA; omega
              · intro a j c; exact c.elim
          · refine ⟨-1, h, h, ?_, ?_, INV_up hI0⟩
            · unfold f_X10_drop
              rw [k_isInside hR hw hp, Option.bind_some, if_pos cp, k_isInside hR hw hq, Option.bind_some, if_pos cq, far_0 hx2, Option.bind_some, if_neg ff]
            · unfold f_X11_drop
              rw [m_isSitter hw hp, Option.bind_some, if_pos rfl, m_isSitter hw hq, Option.bind_some, if_pos rfl, m_isInside (by omega), Option.bind_some, if_pos cp, m_isInside (by omega), Option.bind_some, if_pos cq, l60, lies_0 (by omega) hx2, Option.bind_some, if_neg ff]
        · refine ⟨-1, h, h, ?_, ?_, INV_up hI0⟩
          · unfold f_X10_drop
            rw [k_isInside hR hw hp, Option.bind_some, if_pos cp, k_isInside hR hw hq, Option.bind_some, if_neg cq]
          · unfold f_X11_drop
            rw [m_isSitter hw hp, Option.bind_some, if_pos rfl, m_isSitter hw hq, Option.bind_some, if_pos rfl, m_isInside (by omega), Option.bind_some, if_pos cp, m_isInside (by omega), Option.bind_some, if_neg cq]
      · refine ⟨-1, h, h, ?_, ?_, INV_up hI0⟩
        · unfold f_X10_drop
          rw [k_isInside hR hw hp, Option.bind_some, if_neg cp]
        · unfold f_X11_drop
          rw [m_isSitter hw hp, Option.bind_some, if_pos rfl, m_isSitter hw hq, Option.bind_some, if_pos rfl, m_isInside (by omega), Option.bind_some, if_neg cp]
    · refine ⟨-1, h, h, ?_, ?_, INV_up hI0⟩
      · unfold f_X10_drop
        rw [k_isInside hR hw hp, Option.bind_some, k_isInside0 hR hw hx3, Option.bind_some, if_neg ff]
        split <;> rfl
      · unfold f_X11_drop
        rw [m_isSitter hw hp, Option.bind_some, if_pos rfl, m_isSitter0 hw hx3, Option.bind_some, if_neg ff]
  · refine ⟨-1, h, h, ?_, ?_, INV_up hI0⟩
    · unfold f_X10_drop
      rw [k_isInside0 hR hw hx1, Option.bind_some, if_neg ff]
    · unfold f_X11_drop
      rw [m_isSitter0 hw hx1, Option.bind_some, if_neg ff]
