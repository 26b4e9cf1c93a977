/-! ===== parts of the invariant, carried on ===== -/
section TRN
variable {A : Nat → Prop} {F : Nat → Nat → Prop} {h h' : Hp}
theorem kp_tr (hf : Fr A F h h') (hA : ∀ a, A a → a < 110) (hF : ∀ a j, F a j → a < 110) : KpT h h' := ⟨fun a k h1 _ => hf.1 a k (fun c => by have := hF a k c; omega), fun a h1 _ => hf.2.1 a (fun c => by have := hA a c; omega), fun a _ => hf.2.2.2.2.1 a, Nat.le_of_eq hf.2.2.2.2.2.symm⟩
theorem HR_tr {K : Nat → Int32} {k sm lc : Nat} {L : LDt} (hh : HR h 32 K sm lc L) (hK : KOK K k sm lc L) (h28 : ln h 28 = 0) (hf : Fr A F h h') (hA : ∀ a, A a → a < 110 ∧ ¬ (34 ≤ a ∧ a ≤ 39)) (hF : ∀ a j, F a j → a < 110 ∧ ¬ (a = 32 ∨ a = 33)) : HR h' 32 K sm lc L := by
  have g : ∀ a, 34 ≤ a → a ≤ 39 → aI h' a = aI h a := fun a h1 h2 => hf.2.1 a (fun c => (hA a c).2 ⟨h1, h2⟩)
  have f : ∀ a j, a = 32 ∨ a = 33 → fI h' a j = fI h a j := fun a j h1 => hf.1 a j (fun c => (hF a j c).2 h1)
  exact HR_kp hh (fun t ht => (hK.2.2.2.2.2.2.2.1 t ht).1.2.1) h28 (kp_tr hf (fun a c => (hA a c).1) (fun a j c => (hF a j c).1)) (f _ _ (by omega)) (f _ _ (by omega)) (f _ _ (by omega)) (f _ _ (by omega)) (g _ (by omega) (by omega)) (g _ (by omega) (by omega)) (g _ (by omega) (by omega)) (g _ (by omega) (by omega)) (g _ (by omega) (by omega)) (hf.2.2.2.1 _)
theorem CAC_tr {K : Nat → Int32} {k : Nat} {S : Sem} (hc : CAC h K k S) (hf : Fr A F h h') (hA : ∀ a, A a → ¬ (a = 74 ∨ a = 75 ∨ a = 78)) (hF : ∀ a j, F a j → a ≠ 68) : CAC h' K k S := by
  have f : ∀ j, fI h' 68 j = fI h 68 j := fun j => hf.1 68 j (fun c => hF 68 j c rfl)
  rcases hc with e | ⟨kn, e1, e2, e3, e4, e5, e6⟩
  · exact Or.inl (by rw [f]; exact e)
  · refine Or.inr ⟨kn, e1, by rw [f]; exact e2, by rw [f]; exact e3, by rw [f]; exact e4, by rw [hf.2.1 78 (fun c => hA 78 c (by omega))]; exact e5, by rw [hf.2.1 74 (fun c => hA 74 c (by omega)), hf.2.1 75 (fun c => hA 75 c (by omega))]; exact e6⟩
theorem IMG_tr (hi : IMG h) (h28 : ln h 28 = 0) (hf : Fr A F h h') (hA : ∀ a, A a → a < 110 ∧ ¬ (a = 2 ∨ a = 84 ∨ a = 85 ∨ 42 ≤ a ∧ a ≤ 55)) (hF : ∀ a j, F a j → a < 110 ∧ ¬ (40 ≤ a ∧ a ≤ 49)) : IMG h' := by
  have g : ∀ a, (a = 2 ∨ a = 84 ∨ a = 85 ∨ 42 ≤ a ∧ a ≤ 55) → aI h' a = aI h a := fun a h1 => hf.2.1 a (fun c => (hA a c).2 h1)
  have f : ∀ a j, 40 ≤ a → a ≤ 49 → fI h' a j = fI h a j := fun a j h1 h2 => hf.1 a j (fun c => (hF a j c).2 ⟨h1, h2⟩)
  have hk := kp_tr hf (fun a c => (hA a c).1) (fun a j c => (hF a j c).1)
  intro j hj
  have e84 : kI h' j = kI h j := by unfold kI; rw [g 84 (by omega)]
  rcases hi j hj with e | ⟨e1, e2, k', sm', lc', L', e3, e4⟩
  · exact Or.inl (by rw [g 2 (by omega), g 85 (by omega)]; exact e)
  · refine Or.inr ⟨by rw [g 2 (by omega)]; exact e1, by rw [g 85 (by omega)]; exact e2, k', sm', lc', L', by rw [e84]; exact e3, ?_⟩
    rw [e84]
    exact HR_kp e4 (fun t ht => (e3.2.2.2.2.2.2.2.1 t ht).1.2.1) h28 hk (f _ _ (by omega) (by omega)) (f _ _ (by omega) (by omega)) (f _ _ (by omega) (by omega)) (f _ _ (by omega) (by omega)) (g _ (by omega)) (g _ (by omega)) (g _ (by omega)) (g _ (by omega)) (g _ (by omega)) (hf.2.2.2.1 _)
theorem TAP_tr (ht : TAP h) (hf : Fr A F h h') (hA : ∀ a, A a → ¬ (a = 3 ∨ a = 88)) (hF : ∀ a j, F a j → ¬ (a = 0 ∧ j = 16 ∨ a = 81 ∧ j = 13)) : TAP h' := by
  obtain ⟨tl, bt, t1, t2, t3, t4, t5⟩ := ht
  exact ⟨tl, bt, t1, by rw [hf.1 0 16 (fun c => hF _ _ c (by omega))]; exact t2, by rw [hf.1 81 13 (fun c => hF _ _ c (by omega))]; exact t3, t4, by rw [hf.2.1 3 (fun c => hA 3 c (by omega)), hf.2.1 88 (fun c => hA 88 c (by omega))]; exact t5⟩
theorem MIS_tr (hm : MIS h) (hf : Fr A F h h') (hA : ∀ a, A a → ¬ (a = 25 ∨ a = 82)) (hF : ∀ a j, F a j → ¬ (a = 0 ∧ 17 ≤ j ∨ a = 81 ∧ (j = 0 ∨ j = 6 ∨ j = 14 ∨ j = 46) ∨ a = 60 ∧ j = 6)) : MIS h' := by
  obtain ⟨m1, m2, m3, m4, m5⟩ := hm
  have f : ∀ a j, (a = 0 ∧ 17 ≤ j ∨ a = 81 ∧ (j = 0 ∨ j = 6 ∨ j = 14 ∨ j = 46) ∨ a = 60 ∧ j = 6) → fI h' a j = fI h a j := fun a j h1 => hf.1 a j (fun c => hF a j c h1)
  exact ⟨by rw [f 0 17 (by omega), f 81 14 (by omega)]; exact m1, by rw [f 0 18 (by omega), f 81 6 (by omega)]; exact m2, by rw [f 0 19 (by omega), f 81 0 (by omega)]; exact m3, by rw [f 60 6 (by omega), f 81 46 (by omega)]; exact m4, by rw [hf.2.1 25 (fun c => hA 25 c (by omega)), hf.2.1 82 (fun c => hA 82 c (by omega))]; exact m5⟩
theorem PAS_tr {K : Nat → Int32} {k : Nat} (hp : PAS h K k) (hf : Fr A F h h') (hA : ∀ a, A a → ¬ (a = 11 ∨ a = 95)) (hF : ∀ a j, F a j → ¬ (a = 10 ∨ a = 81 ∧ j = 32)) : PAS h' K k := by
  obtain ⟨nx, u, p1, p2, p3, p4, p5, p6⟩ := hp
  exact ⟨nx, u, p1, p2, by rw [hf.1 10 1 (fun c => hF _ _ c (by omega))]; exact p3, by rw [hf.1 10 2 (fun c => hF _ _ c (by omega))]; exact p4, by rw [hf.1 81 32 (fun c => hF _ _ c (by omega))]; exact p5, by rw [hf.2.1 11 (fun c => hA 11 c (by omega)), hf.2.1 95 (fun c => hA 95 c (by omega))]; exact p6⟩
theorem DRW_tr (hd : DRW h) (hf : Fr A F h h') (hA : ∀ a, A a → ¬ (a = 18 ∨ a = 20 ∨ a = 109)) (hF : ∀ a j, F a j → ¬ (a = 17 ∨ a = 81 ∧ j = 54)) : DRW h' := by
  unfold DRW
  rw [hf.1 17 0 (fun c => hF _ _ c (by omega)), hf.1 81 54 (fun c => hF _ _ c (by omega)), hf.2.1 18 (fun c => hA 18 c (by omega)), hf.2.1 20 (fun c => hA 20 c (by omega)), hf.2.1 109 (fun c => hA 109 c (by omega))]
  exact hd
theorem CON_tr {n : Nat} (hc : CON h n) (hf : Fr A F h h') (hA : ∀ a, A a → a ≠ 87) (hF : ∀ a j, F a j → a ≠ 26) : CON h' (n + 1) := by
  obtain ⟨⟨m, c1, c2⟩, c3, c4, c5, c6, c7, c8, c9⟩ := hc
  exact ⟨⟨m, by omega, by rw [hf.2.2.2.2.2]; exact c2⟩, by rw [hf.2.1 87 (fun c => hA 87 c rfl)]; exact c3, by rw [hf.1 26 2 (fun c => hF _ _ c rfl)]; exact c4, by rw [hf.1 26 3 (fun c => hF _ _ c rfl)]; exact c5, by rw [hf.2.2.2.2.1]; exact c6, by rw [hf.2.2.2.2.1]; exact c7, by rw [hf.2.2.2.1]; exact c8, by rw [hf.2.2.2.1]; exact c9⟩
/-- two frames -/
theorem Fr_or {A' : Nat → Prop} {F' : Nat → Nat → Prop} {h'' : Hp} (h1 : Fr A F h h') (h2 : Fr A' F' h' h'') : Fr (fun a => A a ∨ A' a) (fun a j => F a j ∨ F' a j) h h'' := Fr_tr (Fr_mono h1 (fun _ c => Or.inl c) (fun _ _ c => Or.inl c)) (Fr_mono h2 (fun _ c => Or.inr c) (fun _ _ c => Or.inr c))
end TRN
/-! ===== answers ===== -/
def rfz (x : Int32) (j : Nat) : Prop := x = -1 ∧ j = 1 ∨ x = -2 ∧ j = 2 ∨ x = -3 ∧ j = 3 ∨ x = -5 ∧ j = 5 ∨ x = -6 ∧ j = 6
theorem c_ansR {x : Int32} {j : Nat} (hx : rfz x j) (h : Hp) : f_X10_answer x h = some (x, sA (sF h 0 19 x) 25 j (aI h 25 j + 1)) := by
  unfold f_X10_answer
  rcases hx with ⟨e, f⟩ | ⟨e, f⟩ | ⟨e, f⟩ | ⟨e, f⟩ | ⟨e, f⟩ <;> subst e <;> subst f <;> rfl
theorem m_ref {x : Int32} {j : Nat} (hx : rfz x j) (h : Hp) : f_X11_refuses x h = some (x, sA (sF h 81 0 x) 82 j (aI h 82 j + 1)) := by
  unfold f_X11_refuses
  rcases hx with ⟨e, f⟩ | ⟨e, f⟩ | ⟨e, f⟩ | ⟨e, f⟩ | ⟨e, f⟩ <;> subst e <;> subst f <;> rfl
theorem c_ansC {x : Int32} {j : Nat} (hx : rfz x j) (h : Hp) : f_X10_answerChanged x h = some (x, sA (sF h 0 19 x) 25 j (aI h 25 j + 1)) := by
  unfold f_X10_answerChanged
  rw [if_pos (by rcases hx with ⟨e, f⟩ | ⟨e, f⟩ | ⟨e, f⟩ | ⟨e, f⟩ | ⟨e, f⟩ <;> subst e <;> decide)]
  unfold j_X10_answerChanged_11
  rw [c_ansR hx, Option.bind_some]
theorem c_ans0 {x : Int32} (hx : 0 ≤ x) (h : Hp) : f_X10_answer x h = some (x, sF h 0 19 0) := by
  unfold f_X10_answer
  rw [if_pos hx]
theorem c_ans1 {x : Int32} (hx : 0 ≤ x) (h : Hp) : f_X10_answerChanged x h = some (x, sF (sF h 68 11 (-1)) 0 19 0) := by
  unfold f_X10_answerChanged
  rw [if_neg (fun c => by rw [Int32.lt_iff_toInt_lt] at c; rw [Int32.le_iff_toInt_le] at hx; omega)]
  unfold f_X7_makeStale
  rw [Option.bind_some]
  unfold j_X10_answerChanged_11
  rw [c_ans0 hx, Option.bind_some]
/-- a call that both refuse -/
theorem INV_ref {n : Nat} {h h1 h2 : Hp} {x : Int32} {j : Nat} (hI : INV n h) (hx : rfz x j) (e1 : h1 = sA (sF h 0 19 x) 25 j (aI h 25 j + 1)) (e2 : h2 = sA (sF h1 81 0 x) 82 j (aI h1 82 j + 1)) : INV (n + 1) h2 := by
  have hj : j < 7 := by unfold rfz at hx; omega
  obtain ⟨k, sm, lc, L, i1, i2, i3, i4, i5, i6, i7, i8, i9⟩ := hI
  have h28 : ln h 28 = 0 := i9.2.2.2.2.2.1
  have hf : Fr (fun a => a = 25 ∨ a = 82) (fun a j => a = 0 ∧ j = 19 ∨ a = 81 ∧ j = 0) h h2 := by
    rw [e2, e1]
    exact Fr_tA (Fr_tF (Fr_tA (Fr_sF (Or.inl ⟨rfl, rfl⟩)) (Or.inl rfl)) (Or.inr ⟨rfl, rfl⟩)) (Or.inr rfl)
  have g83 : aI h2 83 = aI h 83 := hf.2.1 83 (by omega)
  refine ⟨k, sm, lc, L, by rw [g83]; exact i1, by rw [g83]; exact HR_tr i2 i1 h28 hf (fun a c => by omega) (fun a j c => by omega), by rw [g83]; exact CAC_tr i3 hf (fun a c => by omega) (fun a j c => by omega), IMG_tr i4 h28 hf (fun a c => by omega) (fun a j c => by omega), TAP_tr i5 hf (fun a c => by omega) (fun a j c => by omega), ?_, by rw [g83]; exact PAS_tr i7 hf (fun a c => by omega) (fun a j c => by omega), DRW_tr i8 hf (fun a c => by omega) (fun a j c => by omega), CON_tr i9 hf (fun a c => by omega) (fun a j c => by omega)⟩
  obtain ⟨m1, m2, m3, m4, m5⟩ := i6
  refine ⟨by rw [hf.1 0 17 (by omega), hf.1 81 14 (by omega)]; exact m1, by rw [hf.1 0 18 (by omega), hf.1 81 6 (by omega)]; exact m2, ?_, by rw [hf.1 60 6 (by omega), hf.1 81 46 (by omega)]; exact m4, fun i hi => ?_⟩
  · rw [e2, e1]
    show fI (sF (sF h 0 19 x) 81 0 x) 0 19 = fI (sF (sF h 0 19 x) 81 0 x) 81 0
    rw [fI_n (by omega), fI_s, fI_s]
  · rw [e2, e1]
    show aI (sA (sF (sA (sF h 0 19 x) 25 j (aI h 25 j + 1)) 81 0 x) 82 j _) 25 i = aI (sA (sF (sA (sF h 0 19 x) 25 j (aI h 25 j + 1)) 81 0 x) 82 j _) 82 i
    rw [ps_aAn _ _ _ _ _ (by omega)]
    show aI (sA (sF h 0 19 x) 25 j (aI h 25 j + 1)) 25 i = _
    by_cases c : i = j
    · subst c
      rw [aI_s, aI_s]
      show aI h 25 i + 1 = aI h 82 i + 1
      rw [m5 i hi]
    · rw [aI_n c, aI_n c]
      show aI h 25 i = aI h 82 i
      exact m5 i hi
/-- the whole of a refused call -/
theorem op_ref {n : Nat} {h : Hp} {x : Int32} {j : Nat} (hI : INV n h) (hx : rfz x j) : ∃ r h1 h2, f_X10_answer x h = some (r, h1) ∧ f_X11_refuses x h1 = some (r, h2) ∧ INV (n + 1) h2 := ⟨x, _, _, c_ansR hx h, m_ref hx _, INV_ref hI hx rfl rfl⟩
/-! ===== the law in force ===== -/
theorem CL_0 {h : Hp} (h3 : fI h 26 3 = 0) : CL h 26 S0 := by
  intro h' hS r K k p hr hR hw hm hp hi
  have e3 : fI h' 26 3 = 0 := hS.2.1.trans h3
  have hk : ∀ x : Nat, x < 31 → f_X9_hasKind 26 (nI x) h' = some false := by
    intro x hx
    unfold f_X9_hasKind
    rw [if_pos hS.2.2.2.2.2.2, e3, if_neg (fun c => by have := (bit_q 0 hx).mp c; rw [b_0] at this; cases this)]
  refine ⟨⟨h', ?_, Fr_rfl⟩, ⟨h', ?_, Fr_rfl⟩, fun q hq => ⟨h', ?_, Fr_rfl⟩⟩
  · unfold f_X8_anyHolds
    rw [if_pos hS.2.2.2.2.2.2, show ((14 : Int32)) = nI 14 from rfl, hk 14 (by omega), Option.bind_some, if_neg (by decide)]
    rfl
  · unfold f_X8_anyHolds
    rw [if_pos hS.2.2.2.2.2.2, show ((15 : Int32)) = nI 15 from rfl, hk 15 (by omega), Option.bind_some, if_neg (by decide)]
    rfl
  · unfold f_X8_partsTold
    rw [if_pos hS.2.2.2.2.2.2, show ((13 : Int32)) = nI 13 from rfl, hk 13 (by omega), Option.bind_some, if_neg (by decide)]
    rfl
theorem RT_0 {K0 : Nat → Int32} (h54 : K0 54 = -1) : RT K0 S0 := by
  intro h k p hK hw hm hp hi
  have e : aI h 83 54 = -1 := (hK 54 (by omega)).trans h54
  have et : ∀ x q, f_X11_tells x (nI p) q h = some (-1, h) := by
    intro x q
    unfold f_X11_tells
    rw [if_pos e]
  refine ⟨⟨-1, h, et _ _, (show decide ((0 : Int32) < -1) = false by decide), Fr_rfl⟩, ⟨-1, h, et _ _, (show decide ((0 : Int32) < -1) = false by decide), Fr_rfl⟩, fun q hq => ⟨h, ?_, Fr_rfl⟩⟩
  unfold f_X11_givesTo
  rw [et, Option.bind_some, if_pos rfl]
  rfl
theorem S0_ok : semOK S0 := fun _ => ⟨1, by omega, rfl⟩
/-- the law that number x means -/
def SFx (x : Int32) (L : LDt) : Sem := if x = -1 then S0 else ldSem L x.toNatClampNeg
theorem SFx_ok {L : LDt} (x : Int32) : semOK (SFx x L) := by
  unfold SFx
  split
  · exact S0_ok
  · exact semL_ok _ _
theorem law_at {h : Hp} {K : Nat → Int32} {k sm lc n : Nat} {L : LDt} (hK : KOK K k sm lc L) (hh : HR h 32 K sm lc L) (hc : CON h n) {x : Int32} (hx : x = -1 ∨ ∃ f, f < lc ∧ x = nI f) : ∃ a, f_X1_lawAt 32 x h = some a ∧ isTx a ∧ tg h a = true ∧ CL h a (SFx x L) ∧ RT (upd K 54 x) (SFx x L) := by
  have h6 := hK.2.2.2.2.2.1
  unfold f_X1_lawAt f_X1_hasLaw SFx
  rcases hx with e | ⟨f, f1, f2⟩
  · subst e
    refine ⟨26, ?_, Or.inl rfl, ?_, ?_, ?_⟩
    · rw [if_pos (by decide), Option.bind_some, if_neg (by decide)]
    · obtain ⟨⟨m, m1, m2⟩, -⟩ := hc
      unfold tg
      rw [m2, decide_eq_true (show 26 + 2 < 110 + 3 * m by omega)]
      rfl
    · rw [if_pos rfl]; exact CL_0 hc.2.2.2.1
    · rw [if_pos rfl]; exact RT_0 pk_us
  · subst f2
    obtain ⟨a, a1, a2⟩ := hh.2.2.2.2.1 f f1
    obtain ⟨⟨p1, p2, p3, p4⟩, p5⟩ := hK.2.2.2.2.2.2.2.1 f f1
    refine ⟨a, ?_, a2.1, a2.2.1, ?_, ?_⟩
    · rw [if_neg (nI_pos (by omega)), hh.2.2.2.1, if_neg (nI_ge f1 (by omega)), if_neg (show ¬ (6 : Int32) ≤ nI f from nI_ge (a := f) (b := 6) (by omega) (by omega)), Option.bind_some, if_pos rfl, inb_nI (show f < 6 by omega) (by omega), Option.bind_some, a1]
      show oc (aO h (32 + 6) f) none (fun v10 => some v10) = _
      rw [a1]
      rfl
    · rw [if_neg (nI_ne1 (by omega)), nI_clamp (by omega)]
      exact CL_of a2 p4
    · rw [if_neg (nI_ne1 (by omega)), nI_clamp (by omega)]
      refine RT_of p1 p2 p3 p4 (show f < 6 by omega) ⟨?_, fun y hy => ⟨?_, ?_⟩⟩ pk_us
      · rw [pk_un (by omega)]; exact p5.1
      · rw [pk_un (by omega)]; exact (p5.2 y hy).1
      · rw [pk_un (by omega)]; exact (p5.2 y hy).2
theorem in_force {h : Hp} {K : Nat → Int32} {k sm lc n : Nat} {L : LDt} (hK : KOK K k sm lc L) (hh : HR h 32 K sm lc L) (hc : CON h n) : ∃ a, f_X1_inForce 32 h = some a ∧ isTx a ∧ tg h a = true ∧ CL h a (SF K L) ∧ RT K (SF K L) ∧ semOK (SF K L) := by
  obtain ⟨a, a1, a2, a3, a4, a5⟩ := law_at hK hh hc hK.2.2.2.2.2.2.2.2
  refine ⟨a, ?_, a2, a3, a4, ?_, SFx_ok _⟩
  · unfold f_X1_inForce
    rw [hh.2.2.2.2.2.2, a1, Option.bind_some]
  · have : upd K 54 (K 54) = K := by
      funext z
      unfold upd
      by_cases c : z = 54
      · rw [if_pos c, c]
      · rw [if_neg c]
    rw [this] at a5
    exact a5
