/-! ===== the first minute at which something holds ===== -/
def Res (cond : Nat → Prop) (r : Int32) : Prop := (∃ j, j ≤ 60 ∧ cond j ∧ (∀ i, i < j → ¬ cond i) ∧ r = nI j) ∨ ((∀ i, i ≤ 60 → ¬ cond i) ∧ r = -1)
theorem Res_u {cond : Nat → Prop} {r r' : Int32} (h : Res cond r) (h' : Res cond r') : r = r' := by
  rcases h with ⟨j, a1, a2, a3, a4⟩ | ⟨a1, a2⟩
  · rcases h' with ⟨i, b1, b2, b3, b4⟩ | ⟨b1, b2⟩
    · have : i = j := by
        rcases Nat.lt_trichotomy i j with c | c | c
        · exact absurd b2 (a3 i c)
        · exact c
        · exact absurd a2 (b3 j c)
      rw [a4, b4, this]
    · exact absurd a2 (b1 j a1)
  · rcases h' with ⟨i, b1, b2, b3, b4⟩ | ⟨b1, b2⟩
    · exact absurd b2 (a1 i b1)
    · rw [a2, b2]
theorem srchC {b : Int32 × Hp → Option ((Int32 × Hp) ⊕ (Hp ⊕ (Int32 × Hp)))} (cond : Nat → Prop) (I : Hp → Prop) (J : Nat → Hp → Prop) (g : Hp) (h0 : J 0 g) (hI : ∀ j s, J j s → I s) (hs : ∀ j s, j ≤ 60 → J j s → (cond j ∧ b (nI j, s) = some (.inr (.inr (nI j, s)))) ∨ (¬ cond j ∧ ∃ s', b (nI j, s) = some (.inl (nI (j + 1), s')) ∧ J (j + 1) s')) (he : ∀ s, b (nI 61, s) = some (.inr (.inl s))) : ∃ r h', (lp b FU (nI 0, g)).bind (fun e => sc e (fun e18 => some ((-1 : Int32), e18)) (fun e19 => some (e19.1, e19.2))) = some (r, h') ∧ Res cond r ∧ I h' := by
  have key := lp_inv (b := b) (fun i s => s.1 = nI i ∧ J i s.2 ∧ ∀ m, m < i → ¬ cond m) (fun e => (∃ j s, j ≤ 60 ∧ cond j ∧ (∀ i, i < j → ¬ cond i) ∧ e = .inr (nI j, s) ∧ I s) ∨ ((∀ i, i ≤ 60 → ¬ cond i) ∧ ∃ s, e = .inl s ∧ I s)) 61 (nI 0, g) (by omega) ⟨rfl, h0, fun m hm => absurd hm (Nat.not_lt_zero _)⟩ ?_ ?_
  · obtain ⟨e, k1, k2⟩ := key
    rw [k1, Option.bind_some]
    rcases k2 with ⟨j, s, q1, q2, q3, q4, q5⟩ | ⟨q1, s, q2, q3⟩
    · rw [q4]
      exact ⟨nI j, s, rfl, Or.inl ⟨j, q1, q2, q3, rfl⟩, q5⟩
    · rw [q2]
      exact ⟨-1, s, rfl, Or.inr ⟨q1, rfl⟩, q3⟩
  · rintro i ⟨x, s⟩ hi ⟨p1, p2, p3⟩
    have p1' : x = nI i := p1
    subst p1'
    rcases hs i s (by omega) p2 with ⟨c1, c2⟩ | ⟨c1, s', c2, c3⟩
    · exact Or.inr ⟨_, c2, Or.inl ⟨i, s, by omega, c1, p3, rfl, hI i s p2⟩⟩
    · refine Or.inl ⟨_, c2, rfl, c3, fun m hm => ?_⟩
      by_cases e : m = i
      · rw [e]; exact c1
      · exact p3 m (by omega)
  · rintro ⟨x, s⟩ ⟨p1, p2, p3⟩
    have p1' : x = nI 61 := p1
    subst p1'
    exact ⟨_, he s, Or.inr ⟨fun i hi => p3 i (by omega), s, rfl, hI 61 s p2⟩⟩
theorem srchM {b : Int32 × Hp → Option ((Int32 × Hp) ⊕ (Int32 × Hp))} (cond : Nat → Prop) (J : Nat → Hp → Prop) (g : Hp) (h0 : J 0 g) (hs : ∀ j s, j ≤ 60 → J j s → (cond j ∧ b (nI j, s) = some (.inr (nI j, s))) ∨ (¬ cond j ∧ ∃ s', b (nI j, s) = some (.inl (nI (j + 1), s')) ∧ J (j + 1) s')) (he : ∀ s, b (nI 61, s) = some (.inr (nI 61, s))) : ∃ j h', lp b FU (nI 0, g) = some (nI j, h') ∧ j ≤ 61 ∧ Res cond (if j ≤ 60 then nI j else -1) ∧ J j h' := by
  have key := lp_inv (b := b) (fun i s => s.1 = nI i ∧ J i s.2 ∧ ∀ m, m < i → ¬ cond m) (fun e => ∃ j, j ≤ 61 ∧ e.1 = nI j ∧ J j e.2 ∧ Res cond (if j ≤ 60 then nI j else -1)) 61 (nI 0, g) (by omega) ⟨rfl, h0, fun m hm => absurd hm (Nat.not_lt_zero _)⟩ ?_ ?_
  · obtain ⟨e, k1, j, q1, q2, q3, q4⟩ := key
    exact ⟨j, e.2, by rw [k1, ← q2], q1, q4, q3⟩
  · rintro i ⟨x, s⟩ hi ⟨p1, p2, p3⟩
    have p1' : x = nI i := p1
    subst p1'
    rcases hs i s (by omega) p2 with ⟨c1, c2⟩ | ⟨c1, s', c2, c3⟩
    · exact Or.inr ⟨_, c2, i, by omega, rfl, p2, by rw [if_pos (by omega)]; exact Or.inl ⟨i, by omega, c1, p3, rfl⟩⟩
    · refine Or.inl ⟨_, c2, rfl, c3, fun m hm => ?_⟩
      by_cases e : m = i
      · rw [e]; exact c1
      · exact p3 m (by omega)
  · rintro ⟨x, s⟩ ⟨p1, p2, p3⟩
    have p1' : x = nI 61 := p1
    subst p1'
    exact ⟨_, he s, 61, by omega, rfl, p2, by rw [if_neg (by omega)]; exact Or.inr ⟨fun i hi => p3 i (by omega), rfl⟩⟩
theorem m60 {j : Nat} (hj : j ≤ 61) {h : Hp} : (if nI j ≤ (60 : Int32) then some (nI j, h) else some ((-1 : Int32), h)) = some (if j ≤ 60 then nI j else -1, h) := by
  by_cases c : j ≤ 60
  · rw [if_pos c, if_pos (show nI j ≤ 60 by rw [show ((60 : Int32)) = nI 60 from rfl, nI_le6 (by omega) (by omega)]; exact c)]
  · rw [if_neg c, if_neg (show ¬ nI j ≤ 60 by rw [show ((60 : Int32)) = nI 60 from rfl, nI_le6 (by omega) (by omega)]; exact c)]
theorem n60 {j : Nat} (hj : j ≤ 60) : ¬ (60 : Int32) < nI j := nI_nlt (a := 60) (b := j) (by omega) (by omega)
/-- the class's law in force, on a heap that differs on paper only -/
theorem if_pa {n : Nat} {h h' : Hp} {k sm lc : Nat} {L : LDt} (i1 : KOK (aI h 83) k sm lc L) (i2 : HR h 32 (aI h 83) sm lc L) (i9 : CON h n) {a : Nat} (f1 : f_X1_inForce 32 h = some a) (hf : Fr (paA 12) (paF 12) h h') : f_X1_inForce 32 h' = some a := by
  unfold f_X1_inForce f_X1_lawAt f_X1_hasLaw at f1 ⊢
  rw [hf.1 32 4 (by unfold paF; omega), hf.1 32 3 (by unfold paF; omega), hf.2.2.2.1]
  exact f1
theorem op_20 : Op_20 INV := by
  intro n h hI _ x1 x2
  have hI0 := hI
  obtain ⟨k, sm, lc, L, i1, i2, i3, i4, i5, i6, i7, i8, i9⟩ := hI
  have hw := i1.1
  have h6 := hw.2.1
  have hR := i2.1
  have ff : ¬ (false = true) := Bool.false_ne_true
  rcases ix6 hw x1 with ⟨p, hp, e⟩ | hx1
  · subst e
    rcases ix (x := x2) 3 (by omega) with ⟨c, hc, e⟩ | hx2
    · subst e
      obtain ⟨a, f1, f2, f3, f4, f5, f6⟩ := in_force i1 i2 i9
      obtain ⟨g0, y1, y2, y3⟩ := c_copy (r := 12) hR (by omega)
      have F0 : Fr (paA 12) (paF 12) h g0 := Fr_mono y3 (fun a c => by unfold paA; omega) (fun a j c => c)
      have nc : ∀ j, nI (nat3 (minN (SF (aI h 83) L) k j (aI h 83)) p) = nI c ↔ nat3 (minN (SF (aI h 83) L) k j (aI h 83)) p = c := fun j => nI_eq (by have := nat3_lt (minN (SF (aI h 83) L) k j (aI h 83)) p; omega) (by omega)
      obtain ⟨r, h1, c1, c2, c3⟩ := srchC (b := fun s => b_X10_when_41 (nI p) (nI c) s.1 s.2) (fun j => nat3 (minN (SF (aI h 83) L) k j (aI h 83)) p = c) (fun s => Fr (paA 12) (paF 12) h s) (fun j s => RRh s 12 (minN (SF (aI h 83) L) k j (aI h 83)) ∧ Fr (paA 12) (paF 12) h s) g0 ⟨y2, F0⟩ (fun j s q => q.2) (by
        intro j s hj ⟨q1, q2⟩
        by_cases cc : nat3 (minN (SF (aI h 83) L) k j (aI h 83)) p = c
        · refine Or.inl ⟨cc, ?_⟩
          show b_X10_when_41 (nI p) (nI c) (nI j) s = _
          unfold b_X10_when_41
          rw [if_neg (n60 hj), k_nationOf q1 (WF_minN f6 hw j) hp, Option.bind_some, if_pos ((nc j).mpr cc)]
          rfl
        · obtain ⟨s', z1, z2, z3⟩ := pa_min f6 f4 f3 f2 (Or.inl rfl) q2 q1 hw i1.2.1 (by omega)
          refine Or.inr ⟨cc, s', ?_, z2, z3⟩
          show b_X10_when_41 (nI p) (nI c) (nI j) s = _
          unfold b_X10_when_41
          rw [if_neg (n60 hj), k_nationOf q1 (WF_minN f6 hw j) hp, Option.bind_some, if_neg (fun d => cc ((nc j).mp d)), if_pa i1 i2 i9 f1 q2, Option.bind_some, z1, Option.bind_some, nI_1]) (fun s => rfl)
      have q83 : aI h1 83 = aI h 83 := c3.2.1 83 (by unfold paA; omega)
      obtain ⟨g1, a1, a2, -, a4⟩ := m_aside (h := h1) (t := 0) (by omega)
      have q83a : aI g1 83 = aI h 83 := by rw [a4.2.1 83 (by omega), q83]
      obtain ⟨j, g2, b1, b2, b3, b4, b5⟩ := srchM (b := fun s => b_X11_when_24 (nI p) (nI c) s.1 s.2) (fun j => nat3 (minN (SF (aI h 83) L) k j (aI h 83)) p = c) (fun j s => aI s 83 = minN (SF (aI h 83) L) k j (aI h 83) ∧ Fr mA tF g1 s) g1 ⟨q83a, Fr_rfl⟩ (by
        intro j s hj ⟨q1, q2⟩
        by_cases cc : nat3 (minN (SF (aI h 83) L) k j (aI h 83)) p = c
        · refine Or.inl ⟨cc, ?_⟩
          show b_X11_when_24 (nI p) (nI c) (nI j) s = _
          unfold b_X11_when_24
          rw [if_neg (n60 hj), m_nationOf (by omega), Option.bind_some, q1, if_pos ((nc j).mpr cc)]
        · obtain ⟨s', z1, z2, z3⟩ := mp_min (K := aI h 83) (K0 := aI h 83) f6 f5 (fun i hi => rfl) q2 q1 hw i1.2.1 (by omega)
          refine Or.inr ⟨cc, s', ?_, z2, z3⟩
          show b_X11_when_24 (nI p) (nI c) (nI j) s = _
          unfold b_X11_when_24
          rw [if_neg (n60 hj), m_nationOf (by omega), Option.bind_some, q1, if_neg (fun d => cc ((nc j).mp d)), z1, Option.bind_some, nI_1]) (fun s => rfl)
      obtain ⟨g3, d1, d2, d3⟩ := m_tbk (h := g2) (t := 0) (by omega)
      have e83 : aI g3 83 = aI h 83 := tk_back h6 b4 (fun i hi => by rw [b5.2.1 86 (by unfold mA; omega)]; have := a2 i hi; rw [q83, show 25 * 0 + i = i by omega] at this; exact this) d2
      refine ⟨r, h1, g3, ?_, ?_, INV_rd hI0 (Fr_tr (Fr_tr (Fr_tr (pa_sc c3) (as_sc a4)) (mp_sc b5)) (tb_sc d3)) e83⟩
      · unfold f_X10_when
        rw [k_has hR hw hp, Option.bind_some, if_pos rfl, if_neg (nI_pos (by omega)), if_pos (show nI c < 3 from nI_lt (a := c) (b := 3) hc (by omega)), y1, Option.bind_some]
        exact c1
      · unfold f_X11_when
        rw [m_isSitter (k := k) (by rw [q83]; exact hw) hp, Option.bind_some, if_pos rfl, m_isNat, lies_n (by omega) (by omega), Option.bind_some, if_pos rfl, show f_X11_laysAside (0 : Int32) h1 = some ((), g1) from a1, Option.bind_some, show lp (fun s => b_X11_when_24 (nI p) (nI c) s.1 s.2) FU ((0 : Int32), g1) = some (nI j, g2) from b1, Option.bind_some]
        unfold j_X11_when_49
        rw [show f_X11_takesBack (0 : Int32) g2 = some ((), g3) from d1, Option.bind_some, m60 b2, Res_u c2 b3]
    · refine ⟨-1, h, h, ?_, ?_, INV_up hI0⟩
      · unfold f_X10_when
        rw [k_has hR hw hp, Option.bind_some, if_pos rfl]
        by_cases c : x2 < 0
        · rw [if_pos c]
        · rw [if_neg c, if_neg (fun d => by have := hx2.resolve_left c; rw [show nI 3 = 3 from rfl] at this; exact i32_nle.mpr d this)]
      · unfold f_X11_when
        rw [m_isSitter hw hp, Option.bind_some, if_pos rfl, m_isNat, lies_0 (by omega) hx2, Option.bind_some, if_neg ff]
  · refine ⟨-1, h, h, ?_, ?_, INV_up hI0⟩
    · unfold f_X10_when
      rw [k_has0 hR hw hx1, Option.bind_some, if_neg ff]
    · unfold f_X11_when
      rw [m_isSitter0 hw hx1, Option.bind_some, if_neg ff]
/-! those inside are one nation -/
def oneP (K : Nat → Int32) (k : Nat) : Prop := ∀ p q, p < k → q < k → insb K p = true → insb K q = true → nat3 K p = nat3 K q
theorem insb_iff {K : Nat → Int32} {p : Nat} : insb K p = true ↔ ¬ K (18 + p) = -1 := by
  unfold insb
  simp
/-- what both loops know before sitter i -/
def oneI (K : Nat → Int32) (i : Nat) (x : Int32) : Prop := oneP K i ∧ ((x = -1 ∧ ∀ p, p < i → insb K p = false) ∨ ∃ p, p < i ∧ insb K p = true ∧ x = nI (nat3 K p))
theorem one_out {K : Nat → Int32} {i : Nat} {x : Int32} (h : oneI K i x) (c : insb K i = false) : oneI K (i + 1) x := by
  refine ⟨fun p q hp hq h1 h2 => ?_, ?_⟩
  · have e1 : p ≠ i := fun d => by rw [d, c] at h1; exact Bool.false_ne_true h1
    have e2 : q ≠ i := fun d => by rw [d, c] at h2; exact Bool.false_ne_true h2
    exact h.1 p q (by omega) (by omega) h1 h2
  · rcases h.2 with ⟨a, b⟩ | ⟨p, a, b, d⟩
    · refine Or.inl ⟨a, fun p hp => ?_⟩
      by_cases e : p = i
      · rw [e]; exact c
      · exact b p (by omega)
    · exact Or.inr ⟨p, by omega, b, d⟩
theorem one_in {K : Nat → Int32} {i : Nat} {x : Int32} (h : oneI K i x) (c : insb K i = true) (hx : x = -1 ∨ nI (nat3 K i) = x) : oneI K (i + 1) (nI (nat3 K i)) := by
  refine ⟨?_, Or.inr ⟨i, by omega, c, rfl⟩⟩
  have al : ∀ p, p < i → insb K p = true → nat3 K p = nat3 K i := by
    intro p hp hi
    rcases h.2 with ⟨a, b⟩ | ⟨q, a, b, d⟩
    · rw [b p hp] at hi; exact absurd hi Bool.false_ne_true
    · have e1 := h.1 p q hp a hi b
      rcases hx with e | e
      · rw [e] at d
        exact absurd d.symm (nI_ne1 (by have := nat3_lt K q; omega))
      · rw [← e] at d
        have := (nI_eq (by have := nat3_lt K i; omega) (by have := nat3_lt K q; omega)).mp d
        rw [e1, this]
  intro p q hp hq h1 h2
  by_cases e1 : p = i
  · by_cases e2 : q = i
    · rw [e1, e2]
    · rw [e1]; exact (al q (by omega) h2).symm
  · by_cases e2 : q = i
    · rw [e2]; exact al p (by omega) h1
    · exact h.1 p q (by omega) (by omega) h1 h2
theorem one_no {K : Nat → Int32} {i k : Nat} {x : Int32} (h : oneI K i x) (hi : i < k) (c : insb K i = true) (hx : x ≠ -1) (hn : nI (nat3 K i) ≠ x) : ¬ oneP K k := by
  intro o
  rcases h.2 with ⟨a, -⟩ | ⟨q, a, b, d⟩
  · exact hx a
  · exact hn (by rw [d, o q i (by omega) hi b c])
theorem c_one {h : Hp} {r k : Nat} {K : Nat → Int32} (hR : RRh h r K) (hw : WF K k) : (f_X6_insideAreOne r h = some true ∧ oneP K k) ∨ (f_X6_insideAreOne r h = some false ∧ ¬ oneP K k) := by
  have h6 := hw.2.1
  have key := lp_inv (b := fun s : Int32 × Int32 => b_X6_insideAreOne_4 r s.1 s.2 h) (fun i s => s.2 = nI i ∧ oneI K i s.1) (fun e => (e = .inl () ∧ oneP K k) ∨ (e = .inr () ∧ ¬ oneP K k)) k ((-1 : Int32), (0 : Int32)) (by omega) ⟨rfl, fun p q hp => absurd hp (Nat.not_lt_zero _), Or.inl ⟨rfl, fun p hp => absurd hp (Nat.not_lt_zero _)⟩⟩ ?_ ?_
  · obtain ⟨e, k1, k2⟩ := key
    unfold f_X6_insideAreOne
    rw [k1, Option.bind_some]
    rcases k2 with ⟨a, b⟩ | ⟨a, b⟩
    · rw [a]; exact Or.inl ⟨rfl, b⟩
    · rw [a]; exact Or.inr ⟨rfl, b⟩
  · intro i s hi ⟨p1, p2⟩
    have j41 : j_X6_insideAreOne_41_4 r (nI i) h = some (.inl (nI (nat3 K i), nI (i + 1))) := by
      unfold j_X6_insideAreOne_41_4
      rw [k_nationOf hR hw hi, Option.bind_some, nI_1]
    have b0 : b_X6_insideAreOne_4 r s.1 s.2 h = (if K (18 + i) = -1 then some (.inl (s.1, nI (i + 1))) else if s.1 = -1 then some (.inl (nI (nat3 K i), nI (i + 1))) else if nI (nat3 K i) = s.1 then some (.inl (nI (nat3 K i), nI (i + 1))) else some (.inr (.inr ()))) := by
      unfold b_X6_insideAreOne_4
      rw [p1, k_sn hR hw, if_neg (show ¬ nI k ≤ nI i by rw [nI_le6 (by omega) (by omega)]; omega), inb_nI (show i < 6 by omega) (by omega), Option.bind_some, hR.2.2.2.1 i (by omega), j41, k_nationOf hR hw hi, Option.bind_some, nI_1]
    show (∃ s', b_X6_insideAreOne_4 r s.1 s.2 h = _ ∧ _) ∨ (∃ e, b_X6_insideAreOne_4 r s.1 s.2 h = _ ∧ _)
    rw [b0]
    by_cases c : K (18 + i) = -1
    · rw [if_pos c]
      exact Or.inl ⟨_, rfl, rfl, one_out p2 (by unfold insb; rw [decide_eq_true c]; rfl)⟩
    · rw [if_neg c]
      have ci : insb K i = true := insb_iff.mpr c
      by_cases d : s.1 = -1
      · rw [if_pos d]
        exact Or.inl ⟨_, rfl, rfl, one_in p2 ci (Or.inl d)⟩
      · rw [if_neg d]
        by_cases e : nI (nat3 K i) = s.1
        · rw [if_pos e]
          exact Or.inl ⟨_, rfl, rfl, one_in p2 ci (Or.inr e)⟩
        · rw [if_neg e]
          exact Or.inr ⟨_, rfl, Or.inr ⟨rfl, one_no p2 hi ci d e⟩⟩
  · intro s ⟨p1, p2⟩
    refine ⟨.inl (), ?_, Or.inl ⟨rfl, p2.1⟩⟩
    show b_X6_insideAreOne_4 r s.1 s.2 h = _
    unfold b_X6_insideAreOne_4
    rw [p1, k_sn hR hw, if_pos (Int32.le_refl _)]
theorem m_one {h : Hp} {k : Nat} {K : Nat → Int32} (e83 : aI h 83 = K) (hw : WF K k) : (f_X11_areOne h = some true ∧ oneP K k) ∨ (f_X11_areOne h = some false ∧ ¬ oneP K k) := by
  have h6 := hw.2.1
  have hw' : WF (aI h 83) k := by rw [e83]; exact hw
  have key := lp_inv (b := fun s : Int32 × Int32 => b_X11_areOne_4 s.1 s.2 h) (fun i s => s.2 = nI i ∧ oneI K i s.1) (fun e => (e = .inl () ∧ oneP K k) ∨ (e = .inr () ∧ ¬ oneP K k)) k ((-1 : Int32), (0 : Int32)) (by omega) ⟨rfl, fun p q hp => absurd hp (Nat.not_lt_zero _), Or.inl ⟨rfl, fun p hp => absurd hp (Nat.not_lt_zero _)⟩⟩ ?_ ?_
  · obtain ⟨e, k1, k2⟩ := key
    unfold f_X11_areOne
    rw [k1, Option.bind_some]
    rcases k2 with ⟨a, b⟩ | ⟨a, b⟩
    · rw [a]; exact Or.inl ⟨rfl, b⟩
    · rw [a]; exact Or.inr ⟨rfl, b⟩
  · intro i s hi ⟨p1, p2⟩
    have j34 : ∀ x, j_X11_areOne_34_4 x (nI i) h = if nI (nat3 K i) = x then some (.inl (x, nI (i + 1))) else some (.inr (.inr ())) := by
      intro x
      unfold j_X11_areOne_34_4
      rw [m_nationOf (by omega), Option.bind_some, e83, nI_1]
    have b0 : b_X11_areOne_4 s.1 s.2 h = (if insb K i = true then (if s.1 = -1 then some (.inl (nI (nat3 K i), nI (i + 1))) else if nI (nat3 K i) = s.1 then some (.inl (s.1, nI (i + 1))) else some (.inr (.inr ()))) else some (.inl (s.1, nI (i + 1)))) := by
      unfold b_X11_areOne_4
      rw [m_many hw', Option.bind_some, p1, if_neg (show ¬ nI k ≤ nI i by rw [nI_le6 (by omega) (by omega)]; omega), m_isInside (by omega), Option.bind_some, m_nationOf (by omega), Option.bind_some, e83, j34, j34, if_pos (show nI (nat3 K i) = nI (nat3 K i) from rfl), nI_1]
    show (∃ s', b_X11_areOne_4 s.1 s.2 h = _ ∧ _) ∨ (∃ e, b_X11_areOne_4 s.1 s.2 h = _ ∧ _)
    rw [b0]
    cases ci : insb K i with
    | false =>
      rw [if_neg Bool.false_ne_true]
      exact Or.inl ⟨_, rfl, rfl, one_out p2 ci⟩
    | true =>
      rw [if_pos rfl]
      by_cases d : s.1 = -1
      · rw [if_pos d]
        exact Or.inl ⟨_, rfl, rfl, one_in p2 ci (Or.inl d)⟩
      · rw [if_neg d]
        by_cases e : nI (nat3 K i) = s.1
        · rw [if_pos e, ← e]
          exact Or.inl ⟨_, rfl, rfl, one_in p2 ci (Or.inr e)⟩
        · rw [if_neg e]
          exact Or.inr ⟨_, rfl, Or.inr ⟨rfl, one_no p2 hi ci d e⟩⟩
  · intro s ⟨p1, p2⟩
    refine ⟨.inl (), ?_, Or.inl ⟨rfl, p2.1⟩⟩
    show b_X11_areOne_4 s.1 s.2 h = _
    unfold b_X11_areOne_4
    rw [m_many hw', Option.bind_some, p1, if_pos (Int32.le_refl _)]
theorem op_21 : Op_21 INV := by
  intro n h hI _
  have hI0 := hI
  obtain ⟨k, sm, lc, L, i1, i2, i3, i4, i5, i6, i7, i8, i9⟩ := hI
  have hw := i1.1
  have h6 := hw.2.1
  have hR := i2.1
  obtain ⟨a, f1, f2, f3, f4, f5, f6⟩ := in_force i1 i2 i9
  obtain ⟨g0, y1, y2, y3⟩ := c_copy (r := 12) hR (by omega)
  have F0 : Fr (paA 12) (paF 12) h g0 := Fr_mono y3 (fun a c => by unfold paA; omega) (fun a j c => c)
  obtain ⟨r, h1, c1, c2, c3⟩ := srchC (b := fun s => b_X10_one_16 s.1 s.2) (fun j => oneP (minN (SF (aI h 83) L) k j (aI h 83)) k) (fun s => Fr (paA 12) (paF 12) h s) (fun j s => RRh s 12 (minN (SF (aI h 83) L) k j (aI h 83)) ∧ Fr (paA 12) (paF 12) h s) g0 ⟨y2, F0⟩ (fun j s q => q.2) (by
    intro j s hj ⟨q1, q2⟩
    rcases c_one q1 (WF_minN f6 hw j) with ⟨o1, o2⟩ | ⟨o1, o2⟩
    · refine Or.inl ⟨o2, ?_⟩
      show b_X10_one_16 (nI j) s = _
      unfold b_X10_one_16
      rw [if_neg (n60 hj), o1, Option.bind_some, if_pos rfl]
      rfl
    · obtain ⟨s', z1, z2, z3⟩ := pa_min f6 f4 f3 f2 (Or.inl rfl) q2 q1 hw i1.2.1 (by omega)
      refine Or.inr ⟨o2, s', ?_, z2, z3⟩
      show b_X10_one_16 (nI j) s = _
      unfold b_X10_one_16
      rw [if_neg (n60 hj), o1, Option.bind_some, if_neg Bool.false_ne_true, if_pa i1 i2 i9 f1 q2, Option.bind_some, z1, Option.bind_some, nI_1]) (fun s => rfl)
  have q83 : aI h1 83 = aI h 83 := c3.2.1 83 (by unfold paA; omega)
  obtain ⟨g1, a1, a2, -, a4⟩ := m_aside (h := h1) (t := 0) (by omega)
  have q83a : aI g1 83 = aI h 83 := by rw [a4.2.1 83 (by omega), q83]
  obtain ⟨j, g2, b1, b2, b3, b4, b5⟩ := srchM (b := fun s => b_X11_one_7 s.1 s.2) (fun j => oneP (minN (SF (aI h 83) L) k j (aI h 83)) k) (fun j s => aI s 83 = minN (SF (aI h 83) L) k j (aI h 83) ∧ Fr mA tF g1 s) g1 ⟨q83a, Fr_rfl⟩ (by
    intro j s hj ⟨q1, q2⟩
    rcases m_one q1 (WF_minN f6 hw j) with ⟨o1, o2⟩ | ⟨o1, o2⟩
    · refine Or.inl ⟨o2, ?_⟩
      show b_X11_one_7 (nI j) s = _
      unfold b_X11_one_7
      rw [if_neg (n60 hj), o1, Option.bind_some, if_pos rfl]
    · obtain ⟨s', z1, z2, z3⟩ := mp_min (K := aI h 83) (K0 := aI h 83) f6 f5 (fun i hi => rfl) q2 q1 hw i1.2.1 (by omega)
      refine Or.inr ⟨o2, s', ?_, z2, z3⟩
      show b_X11_one_7 (nI j) s = _
      unfold b_X11_one_7
      rw [if_neg (n60 hj), o1, Option.bind_some, if_neg Bool.false_ne_true, z1, Option.bind_some, nI_1]) (fun s => rfl)
  obtain ⟨g3, d1, d2, d3⟩ := m_tbk (h := g2) (t := 0) (by omega)
  have e83 : aI g3 83 = aI h 83 := tk_back h6 b4 (fun i hi => by rw [b5.2.1 86 (by unfold mA; omega)]; have := a2 i hi; rw [q83, show 25 * 0 + i = i by omega] at this; exact this) d2
  refine ⟨r, h1, g3, ?_, ?_, INV_rd hI0 (Fr_tr (Fr_tr (Fr_tr (pa_sc c3) (as_sc a4)) (mp_sc b5)) (tb_sc d3)) e83⟩
  · unfold f_X10_one
    rw [y1, Option.bind_some]
    exact c1
  · unfold f_X11_one
    rw [show f_X11_laysAside (0 : Int32) h1 = some ((), g1) from a1, Option.bind_some, show lp (fun s => b_X11_one_7 s.1 s.2) FU ((0 : Int32), g1) = some (nI j, g2) from b1, Option.bind_some]
    unfold j_X11_one_30
    rw [show f_X11_takesBack (0 : Int32) g2 = some ((), g3) from d1, Option.bind_some, m60 b2, Res_u c2 b3]
theorem op_31 : Op_31 INV := by
  intro n h hI _ x1 x2
  have hI0 := hI
  obtain ⟨k, sm, lc, L, i1, i2, i3, i4, i5, i6, i7, i8, i9⟩ := hI
  have hw := i1.1
  have h6 := hw.2.1
  have hl : lc ≤ 6 := i1.2.2.2.2.2.1
  have h53 : aI h 83 53 = nI lc := i1.2.2.2.2.2.2.1
  have l60 : ((60 : Int32)) = nI 60 := rfl
  have ff : ¬ (false = true) := Bool.false_ne_true
  have f3 : fI h 32 3 = nI lc := i2.2.2.2.1
  rcases lawx x1 lc hl with hx | hx
  · have eC : f_X10_compare x1 x2 h = j_X10_compare_16 x1 x2 h := by
      unfold f_X10_compare
      by_cases c : x1 = -1
      · rw [if_pos c]
      · rw [if_neg c]
        obtain ⟨f, q1, q2⟩ := hx.resolve_left c
        have : f_X1_hasLaw 32 x1 h = some true := by
          unfold f_X1_hasLaw
          rw [q2, if_neg (nI_pos (by omega)), f3, if_neg (by rw [nI_le6 (by omega) (by omega)]; omega), if_neg (show ¬ (6 : Int32) ≤ nI f by rw [l6_, nI_le6 (by omega) (by omega)]; omega)]
        rw [this, Option.bind_some, if_pos rfl]
    rcases ix (x := x2) 61 (by omega) with ⟨x, hx2, e⟩ | hx2
    · subst e
      obtain ⟨a, f1, f2, f3', f4, f5⟩ := law_at i1 i2 i9 hx
      have f6 := SFx_ok (L := L) x1
      have ag : AG (aI h 83) (upd (aI h 83) 54 x1) := fun i hi => pk_un (by omega)
      have hwK := WF_ag hw ag
      have moK : MOb (upd (aI h 83) 54 x1) 999 := by
        obtain ⟨m, m1, m2⟩ := i1.2.1
        exact ⟨m, m1, by rw [pk_un (by omega)]; exact m2⟩
      obtain ⟨h1, c1, c2, c3⟩ := c_play f6 f4 f3' f2 (RR_ag i2.1 ag) hwK moK (x := x) (by omega)
      have q83 : aI h1 83 = aI h 83 := c3.2.1 83 (by unfold paA; omega)
      have wN := WF_minN f6 hwK x
      have q83s : aI (sA h1 83 54 x1) 83 = upd (aI h 83) 54 x1 := by rw [ps_aAs, q83]
      obtain ⟨g1, a1, a2, -, a4⟩ := m_aside (h := sA h1 83 54 x1) (t := 0) (by omega)
      have q83a : aI g1 83 = upd (aI h 83) 54 x1 := by rw [a4.2.1 83 (by omega), q83s]
      obtain ⟨g2, b1, b2, b3⟩ := m_play (K := upd (aI h 83) 54 x1) (K0 := upd (aI h 83) 54 x1) (x := x) f6 f5 (fun i hi => rfl) q83a hwK moK (by omega)
      obtain ⟨g3, d1, d2, d3⟩ := m_tbk (h := g2) (t := 0) (by omega)
      have e83 : aI g3 83 = upd (aI h 83) 54 x1 := tk_back h6 b2 (fun i hi => by rw [b3.2.1 86 (by unfold mA; omega)]; have := a2 i hi; rw [q83s, show 25 * 0 + i = i by omega] at this; exact this) d2
      refine ⟨nI (cntN (plsb (minN (SFx x1 L) k x (upd (aI h 83) 54 x1))) k), h1, sA g3 83 54 (aI h 83 54), ?_, ?_, INV_rd hI0 (Fr_tA (Fr_tr (Fr_tr (Fr_tr (Fr_tA (pa_sc c3) (by omega)) (as_sc a4)) (mp_sc b3)) (tb_sc d3)) (by omega)) ?_⟩
      · rw [eC]
        unfold j_X10_compare_16
        rw [far_n (by omega), Option.bind_some, if_pos rfl, f1, Option.bind_some, c1, Option.bind_some, k_contented c2 wN, Option.bind_some]
      · unfold f_X11_compare
        rw [m_isLaw1 hl (by rw [q83]; exact h53) hx, Option.bind_some, if_pos rfl, l60, lies_n (by omega) (by omega), Option.bind_some, if_pos rfl, show f_X11_laysAside (0 : Int32) (sA h1 83 54 x1) = some ((), g1) from a1, Option.bind_some, b1, Option.bind_some, m_pleasedMany (k := k) (by rw [b2]; exact wN), Option.bind_some, show f_X11_takesBack (0 : Int32) g2 = some ((), g3) from d1, Option.bind_some, b2, q83]
      · rw [ps_aAs, e83]
        funext i
        unfold upd
        by_cases c : i = 54
        · rw [if_pos c, c]
        · rw [if_neg c, if_neg c]
    · refine ⟨-1, h, h, ?_, ?_, INV_up hI0⟩
      · rw [eC]
        unfold j_X10_compare_16
        rw [far_0 hx2, Option.bind_some, if_neg ff]
      · unfold f_X11_compare
        rw [m_isLaw1 hl h53 hx, Option.bind_some, if_pos rfl, l60, lies_0 (by omega) hx2, Option.bind_some, if_neg ff]
  · refine ⟨-1, h, h, ?_, ?_, INV_up hI0⟩
    · unfold f_X10_compare
      have : f_X1_hasLaw 32 x1 h = some false := by
        unfold f_X1_hasLaw
        by_cases c : x1 < 0
        · rw [if_pos c]
        · rw [if_neg c, f3, if_pos (hx.2.resolve_left c)]
      rw [if_neg hx.1, this, Option.bind_some, if_neg ff]
    · unfold f_X11_compare
      rw [m_isLaw0 hl h53 hx, Option.bind_some, if_neg ff]
