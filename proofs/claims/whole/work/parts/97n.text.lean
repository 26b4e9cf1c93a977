/-! ===== a heap with a text more ===== -/
def mix (h h2 : Hp) : Hp := (fun a k => if a < sz h then fI h a k else fI h2 a k, fun a i => if a < sz h then aI h a i else aI h2 a i, h2.2.2.1, h.2.2.2.1, h2.2.2.2.2.1, sz h2)
theorem mix_f {h h2 : Hp} {a k : Nat} (ha : a < sz h) : fI (mix h h2) a k = fI h a k := if_pos ha
theorem mix_a {h h2 : Hp} {a : Nat} (ha : a < sz h) : aI (mix h h2) a = aI h a := by
  funext i
  exact if_pos ha
theorem mix_f' {h h2 : Hp} {a k : Nat} (ha : ¬ a < sz h) : fI (mix h h2) a k = fI h2 a k := if_neg ha
theorem mix_a' {h h2 : Hp} {a : Nat} (ha : ¬ a < sz h) : aI (mix h h2) a = aI h2 a := by
  funext i
  exact if_neg ha
theorem Fr_mix {A : Nat → Prop} {F : Nat → Nat → Prop} {h h2 : Hp} (hf : ∀ a k, a < sz h → ¬ F a k → fI h2 a k = fI h a k) (ha : ∀ a, a < sz h → ¬ A a → aI h2 a = aI h a) (ho : ∀ a, aO h2 a = aO h a) : Fr A F (mix h h2) h2 := by
  refine ⟨fun a k c => ?_, fun a c => ?_, fun _ _ => rfl, ho, fun _ => rfl, rfl⟩
  · by_cases d : a < sz h
    · rw [mix_f d]; exact hf a k d c
    · rw [mix_f' d]
  · by_cases d : a < sz h
    · rw [mix_a d]; exact ha a d c
    · rw [mix_a' d]
theorem INV_mix {n : Nat} {h h2 : Hp} (hI : INV n h) (hz : sz h2 = sz h ∨ sz h2 = sz h + 3) (hl : ∀ a, a < sz h → ln h2 a = ln h a) : INV (n + 1) (mix h h2) := by
  obtain ⟨k, sm, lc, L, i1, i2, i3, i4, i5, i6, i7, i8, i9⟩ := hI
  obtain ⟨⟨m, c1, c2⟩, c3, c4, c5, c6, c7, c8, c9⟩ := id i9
  have hk : KpT h (mix h h2) := ⟨fun a k _ ha => mix_f ha, fun a _ ha => mix_a ha, fun a ha => hl a ha, by show sz h ≤ sz h2; omega⟩
  have f : ∀ a j, a < 110 → fI (mix h h2) a j = fI h a j := fun a j ha => mix_f (by omega)
  have g : ∀ a, a < 110 → aI (mix h h2) a = aI h a := fun a ha => mix_a (by omega)
  have o : ∀ a, aO (mix h h2) a = aO h a := fun a => rfl
  have g83 : aI (mix h h2) 83 = aI h 83 := g 83 (by omega)
  have h28 : ln h 28 = 0 := c7
  have hL : ∀ a, a < 110 → ln (mix h h2) a = ln h a := fun a ha => hl a (by omega)
  have hsz : sz (mix h h2) = sz h2 := rfl
  generalize mix h h2 = h' at hk f g o g83 hL hsz
  refine ⟨k, sm, lc, L, by rw [g83]; exact i1, ?_, ?_, ?_, ?_, ?_, ?_, ?_, ?_⟩
  · rw [g83]
    exact HR_kp i2 (fun t ht => (i1.2.2.2.2.2.2.2.1 t ht).1.2.1) h28 hk (f _ _ (by omega)) (f _ _ (by omega)) (f _ _ (by omega)) (f _ _ (by omega)) (g _ (by omega)) (g _ (by omega)) (g _ (by omega)) (g _ (by omega)) (g _ (by omega)) (o _)
  · rw [g83]
    rcases i3 with e | ⟨kn, e1, e2, e3, e4, e5, e6⟩
    · exact Or.inl (by rw [f 68 11 (by omega)]; exact e)
    · refine Or.inr ⟨kn, e1, by rw [f 68 11 (by omega)]; exact e2, by rw [f 68 9 (by omega)]; exact e3, by rw [f 68 10 (by omega)]; exact e4, by rw [g 78 (by omega)]; exact e5, by rw [g 74 (by omega), g 75 (by omega)]; exact e6⟩
  · intro j hj
    have e84 : kI h' j = kI h j := by unfold kI; rw [g 84 (by omega)]
    rcases i4 j hj with e | ⟨e1, e2, k', sm', lc', L', e3, e4⟩
    · exact Or.inl (by rw [g 2 (by omega), g 85 (by omega)]; exact e)
    · refine Or.inr ⟨by rw [g 2 (by omega)]; exact e1, by rw [g 85 (by omega)]; exact e2, k', sm', lc', L', by rw [e84]; exact e3, ?_⟩
      rw [e84]
      exact HR_kp e4 (fun t ht => (e3.2.2.2.2.2.2.2.1 t ht).1.2.1) h28 hk (f _ _ (by omega)) (f _ _ (by omega)) (f _ _ (by omega)) (f _ _ (by omega)) (g _ (by omega)) (g _ (by omega)) (g _ (by omega)) (g _ (by omega)) (g _ (by omega)) (o _)
  · obtain ⟨tl, bt, t1, t2, t3, t4, t5⟩ := i5
    exact ⟨tl, bt, t1, by rw [f 0 16 (by omega)]; exact t2, by rw [f 81 13 (by omega)]; exact t3, t4, by rw [g 3 (by omega), g 88 (by omega)]; exact t5⟩
  · obtain ⟨m1, m2, m3, m4, m5⟩ := i6
    exact ⟨by rw [f 0 17 (by omega), f 81 14 (by omega)]; exact m1, by rw [f 0 18 (by omega), f 81 6 (by omega)]; exact m2, by rw [f 0 19 (by omega), f 81 0 (by omega)]; exact m3, by rw [f 60 6 (by omega), f 81 46 (by omega)]; exact m4, by rw [g 25 (by omega), g 82 (by omega)]; exact m5⟩
  · obtain ⟨nx, u, p1, p2, p3, p4, p5, p6⟩ := i7
    rw [g83]
    exact ⟨nx, u, p1, p2, by rw [f 10 1 (by omega)]; exact p3, by rw [f 10 2 (by omega)]; exact p4, by rw [f 81 32 (by omega)]; exact p5, by rw [g 11 (by omega), g 95 (by omega)]; exact p6⟩
  · unfold DRW
    rw [f 17 0 (by omega), f 81 54 (by omega), g 18 (by omega), g 20 (by omega), g 109 (by omega)]
    exact i8
  · refine ⟨?_, by rw [g 87 (by omega)]; exact c3, by rw [f 26 2 (by omega)]; exact c4, by rw [f 26 3 (by omega)]; exact c5, by rw [hL 27 (by omega)]; exact c6, by rw [hL 28 (by omega)]; exact c7, by rw [o]; exact c8, by rw [o]; exact c9⟩
    rcases hz with e | e
    · exact ⟨m, by omega, by rw [hsz, e]; exact c2⟩
    · exact ⟨m + 1, by omega, by rw [hsz, e, c2]; omega⟩
theorem CON_t0 {A : Nat → Prop} {F : Nat → Nat → Prop} {h h' : Hp} {n : Nat} (hc : CON h n) (hf : Fr A F h h') (hA : ∀ a, A a → a ≠ 87) (hF : ∀ a j, F a j → a ≠ 26) : CON h' n := by
  obtain ⟨⟨m, c1, c2⟩, c3, c4, c5, c6, c7, c8, c9⟩ := hc
  exact ⟨⟨m, c1, by rw [hf.2.2.2.2.2]; exact c2⟩, by rw [hf.2.1 87 (fun c => hA 87 c rfl)]; exact c3, by rw [hf.1 26 2 (fun c => hF _ _ c rfl)]; exact c4, by rw [hf.1 26 3 (fun c => hF _ _ c rfl)]; exact c5, by rw [hf.2.2.2.2.1]; exact c6, by rw [hf.2.2.2.2.1]; exact c7, by rw [hf.2.2.2.1]; exact c8, by rw [hf.2.2.2.1]; exact c9⟩
/-- as INV_std, no call counted -/
theorem INV_st0 {n : Nat} {h h' : Hp} {k k' sm lc : Nat} {L : LDt} (i1 : KOK (aI h 83) k sm lc L) (i2 : HR h 32 (aI h 83) sm lc L) (i4 : IMG h) (i8 : DRW h) (i9 : CON h n) (hf : Fr uA uF h h') (w : WF (aI h' 83) k') (mo : MOb (aI h' 83) 999) (hk : k ≤ k') (ag : ∀ i, 31 ≤ i → ¬ (49 ≤ i ∧ i ≤ 51) → i ≠ 54 → ¬ (i = 61 ∨ 2462 ≤ i ∧ i < 2862 ∨ 5262 ≤ i) → aI h' 83 i = aI h 83 i) (hR : RRh h' 33 (aI h' 83)) (h54 : aI h' 83 54 = -1 ∨ ∃ f, f < lc ∧ aI h' 83 54 = nI f) (f4 : fI h' 32 4 = aI h' 83 54) (cac : CAC h' (aI h' 83) k' (SF (aI h' 83) L)) (t : TAP h') (m : MIS h') (p : PAS h' (aI h' 83) k') : INV n h' := by
  have h28 : ln h 28 = 0 := i9.2.2.2.2.2.1
  have ok := kp_tr hf (fun a c => by unfold uA scA at c; omega) (fun a j c => by unfold uF scF at c; omega)
  have l6 := i1.2.2.2.2.2.1
  refine ⟨k', sm, lc, L, ⟨w, mo, i1.2.2.1, by rw [ag 52 (by omega) (by omega) (by omega) (by omega)]; exact i1.2.2.2.1, fun i hi => ?_, i1.2.2.2.2.2.1, by rw [ag 53 (by omega) (by omega) (by omega) (by omega)]; exact i1.2.2.2.2.2.2.1, fun t ht => ⟨(i1.2.2.2.2.2.2.2.1 t ht).1, ?_⟩, h54⟩, HR_mk i2 i1 h28 ok (hf.2.2.2.1 _) hR (by rw [hf.1 32 6 (by unfold uF scF; omega)]; exact i2.2.1) (fun i hi => by rw [hf.2.1 39 (by unfold uA scA; omega), ag _ (by omega) (by omega) (by omega) (by omega)]; exact i2.2.2.1 i hi) (hf.1 32 3 (by unfold uF scF; omega)) f4, cac, IMG_tr i4 h28 hf (fun a c => by unfold uA scA at c; omega) (fun a j c => by unfold uF scF at c; omega), t, m, p, DRW_tr i8 hf (fun a c => by unfold uA scA at c; omega) (fun a j c => by unfold uF scF at c; omega), CON_t0 i9 hf (fun a c => by unfold uA scA at c; omega) (fun a j c => by unfold uF scF at c; omega)⟩
  · have h6 := i1.2.2.1
    obtain ⟨p, m, c, q1, q2, q3, q4, q5, q6⟩ := i1.2.2.2.2.1 i hi
    exact ⟨p, m, c, by omega, q2, q3, by rw [ag _ (by omega) (by omega) (by omega) (by omega)]; exact q4, by rw [ag _ (by omega) (by omega) (by omega) (by omega)]; exact q5, by rw [ag _ (by omega) (by omega) (by omega) (by omega)]; exact q6⟩
  · obtain ⟨⟨p1, -⟩, q1, q2⟩ := i1.2.2.2.2.2.2.2.1 t ht
    have tn := p1.1
    exact ⟨by rw [ag _ (by omega) (by omega) (by omega) (by omega)]; exact q1, fun x hx => ⟨by rw [ag _ (by omega) (by omega) (by omega) (by omega)]; exact (q2 x hx).1, by rw [ag _ (by omega) (by omega) (by omega) (by omega)]; exact (q2 x hx).2⟩⟩
def lA (a : Nat) : Prop := 5 ≤ a ∧ a ≤ 9 ∨ 90 ≤ a ∧ a ≤ 92 ∨ a = 25 ∨ a = 82
def lF (a k : Nat) : Prop := a = 4 ∨ a = 0 ∧ (k = 16 ∨ k = 17 ∨ k = 19) ∨ a = 60 ∧ k = 6 ∨ a = 81 ∧ (k = 0 ∨ 8 ≤ k ∧ k ≤ 10 ∨ k = 13 ∨ k = 14 ∨ 18 ≤ k ∧ k ≤ 21 ∨ k = 46)
theorem INV_tx {n : Nat} {h h2 : Hp} (hI : INV n h) (hz : sz h2 = sz h ∨ sz h2 = sz h + 3) (hl : ∀ a, a < sz h → ln h2 a = ln h a) (hf : ∀ a k, a < sz h → ¬ lF a k → fI h2 a k = fI h a k) (ha : ∀ a, a < sz h → ¬ lA a → aI h2 a = aI h a) (ho : ∀ a, aO h2 a = aO h a) (t1 : fI h2 0 16 = 0) (t2 : fI h2 81 13 = 0) (mis : MIS h2) : INV (n + 1) h2 := by
  obtain ⟨k, sm, lc, L, i1, i2, i3, i4, i5, i6, i7, i8, i9⟩ := INV_mix hI hz hl
  have F := Fr_mix (A := lA) (F := lF) hf ha ho
  generalize mix h h2 = hx at i1 i2 i3 i4 i5 i6 i7 i8 i9 F
  have e83 : aI h2 83 = aI hx 83 := F.2.1 83 (by unfold lA; omega)
  refine INV_st0 i1 i2 i4 i8 i9 (Fr_mono F (fun a c => by unfold lA at c; unfold uA scA; omega) (fun a j c => by unfold lF at c; unfold uF scF; omega)) (by rw [e83]; exact i1.1) (by rw [e83]; exact i1.2.1) (Nat.le_refl k) (fun i _ _ _ _ => by rw [e83]) ?_ (by rw [e83]; exact i1.2.2.2.2.2.2.2.2) (by rw [e83, F.1 _ _ (by unfold lF; omega)]; exact i2.2.2.2.2.2.2) (by rw [e83]; exact CAC_tr i3 F (fun a c => by unfold lA at c; omega) (fun a j c => by unfold lF at c; omega)) ⟨0, fun _ => 0, by omega, t1, t2, fun _ => by show 0 < 256; omega, fun i hi => absurd hi (Nat.not_lt_zero _)⟩ mis (by rw [e83]; exact PAS_tr i7 F (fun a c => by unfold lA at c; omega) (fun a j c => by unfold lF at c; omega))
  rw [e83]
  exact RR_fr i2.1 F (by unfold lF; omega) (by unfold lA; omega) (by unfold lA; omega) (by unfold lA; omega) (by unfold lA; omega)
/-- what the class's reading has done -/
def QFr (h hq : Hp) : Prop := (∀ a k, a < sz h → ¬ (a = 4 ∨ a = 0 ∧ (k = 16 ∨ k = 17) ∨ a = 60 ∧ k = 6) → fI hq a k = fI h a k) ∧ (∀ a, a < sz h → ¬ (5 ≤ a ∧ a ≤ 9) → aI hq a = aI h a) ∧ (∀ a, aO hq a = aO h a) ∧ (∀ a, a < sz h → ln hq a = ln h a) ∧ (sz hq = sz h ∨ sz hq = sz h + 3)
def xG (a k : Nat) : Prop := xF a k ∨ a = 81 ∧ k = 46
theorem tx_ref {n : Nat} {h hq g1 : Hp} {x : Int32} {j : Nat} (hI : INV n h) (hx : rfz x j) (hQ : QFr h hq) (Fg : Fr xA xG (sA (sF hq 0 19 x) 25 j (aI hq 25 j + 1)) g1) (t1 : fI hq 0 16 = 0) (t2 : fI g1 81 13 = 0) (ft : fI hq 0 17 = fI g1 81 14) (st : fI hq 60 6 = fI g1 81 46) : INV (n + 1) (sA (sF g1 81 0 x) 82 j (aI g1 82 j + 1)) := by
  have hI0 := hI
  obtain ⟨k, sm, lc, L, i1, i2, i3, i4, i5, i6, i7, i8, i9⟩ := hI
  obtain ⟨⟨m, c1, c2⟩, -⟩ := i9
  have hj : j < 7 := by unfold rfz at hx; omega
  obtain ⟨q1, q2, q3, q4, q5⟩ := hQ
  obtain ⟨m1, m2, m3, m4, m5⟩ := i6
  refine INV_tx hI0 ?_ (fun a ha => ?_) (fun a k' ha c => ?_) (fun a ha c => ?_) (fun a => ?_) ?_ ?_ ⟨?_, ?_, ?_, ?_, fun i hi => ?_⟩
  · show sz g1 = sz h ∨ sz g1 = sz h + 3
    rw [Fg.2.2.2.2.2]
    exact q5
  · show ln g1 a = _
    rw [Fg.2.2.2.2.1]
    exact q4 a ha
  · show fI (sF g1 81 0 x) a k' = _
    rw [fI_n (by unfold lF at c; omega), Fg.1 a k' (by unfold lF at c; unfold xG xF; omega)]
    show fI (sF hq 0 19 x) a k' = _
    rw [fI_n (by unfold lF at c; omega)]
    exact q1 a k' ha (by unfold lF at c; omega)
  · rw [ps_aAn _ _ _ _ _ (by unfold lA at c; omega)]
    show aI g1 a = _
    rw [Fg.2.1 a (by unfold lA at c; unfold xA; omega), ps_aAn _ _ _ _ _ (by unfold lA at c; omega)]
    show aI hq a = _
    exact q2 a ha (by unfold lA at c; omega)
  · show aO g1 a = _
    rw [Fg.2.2.2.1]
    exact q3 a
  · show fI (sF g1 81 0 x) 0 16 = 0
    rw [fI_n (by omega), Fg.1 _ _ (by unfold xG xF; omega)]
    show fI (sF hq 0 19 x) 0 16 = 0
    rw [fI_n (by omega)]
    exact t1
  · show fI (sF g1 81 0 x) 81 13 = 0
    rw [fI_n (by omega)]
    exact t2
  · show fI (sF g1 81 0 x) 0 17 = fI (sF g1 81 0 x) 81 14
    rw [fI_n (by omega), fI_n (by omega), Fg.1 _ _ (by unfold xG xF; omega)]
    show fI (sF hq 0 19 x) 0 17 = _
    rw [fI_n (by omega)]
    exact ft
  · show fI (sF g1 81 0 x) 0 18 = fI (sF g1 81 0 x) 81 6
    rw [fI_n (by omega), fI_n (by omega), Fg.1 0 18 (by unfold xG xF; omega), Fg.1 81 6 (by unfold xG xF; omega)]
    show fI (sF hq 0 19 x) 0 18 = fI (sF hq 0 19 x) 81 6
    rw [fI_n (by omega), fI_n (by omega), q1 0 18 (by omega) (by omega), q1 81 6 (by omega) (by omega)]
    exact m2
  · show fI (sF g1 81 0 x) 0 19 = fI (sF g1 81 0 x) 81 0
    rw [fI_n (by omega), fI_s, Fg.1 0 19 (by unfold xG xF; omega)]
    show fI (sF hq 0 19 x) 0 19 = x
    exact fI_s
  · show fI (sF g1 81 0 x) 60 6 = fI (sF g1 81 0 x) 81 46
    rw [fI_n (by omega), fI_n (by omega), Fg.1 60 6 (by unfold xG xF; omega)]
    show fI (sF hq 0 19 x) 60 6 = _
    rw [fI_n (by omega)]
    exact st
  · have z82 : aI g1 82 = aI h 82 := by
      rw [Fg.2.1 82 (by unfold xA; omega), ps_aAn _ _ _ _ _ (by omega)]
      exact q2 82 (by omega) (by omega)
    have z25 : aI (sA (sF g1 81 0 x) 82 j (aI g1 82 j + 1)) 25 = upd (aI h 25) j (aI h 25 j + 1) := by
      rw [ps_aAn _ _ _ _ _ (by omega)]
      show aI g1 25 = _
      rw [Fg.2.1 25 (by unfold xA; omega), ps_aAs]
      show upd (aI hq 25) j _ = _
      rw [q2 25 (by omega) (by omega)]
    rw [z25, ps_aAs]
    show _ = upd (aI g1 82) j (aI g1 82 j + 1) i
    rw [z82]
    by_cases c : i = j
    · subst c
      rw [pk_us, pk_us, m5 i hi]
    · rw [pk_un c, pk_un c]
      exact m5 i hi
/-- a text read by the class, then by the reference on any heap that has the tape -/
theorem rd_twice {bt : Nat → Nat} {len : Nat} {hc g0 : Hp} {o : Bool} {CP : Tok → CPt} (hok : ∀ T, CPok (CP T)) (hk : ∀ T, CPk (CP T)) (hR : ∀ T, TF T → RdC T o (CP T)) (hB : Bts bt len) (hbb : ∀ i, bt i < 256) (hb : CB bt len hc) (hr0 : RB bt len g0) (h130 : fI g0 81 13 = nI len) (hz : (sz hc - 110) % 3 = 0) (hz2 : sz hc + 3 < 1000000) (hz3 : 110 ≤ sz hc) :
    ∃ r hc', f_X5_read (nI len) (b2i o) hc = some (r, hc') ∧ CFr hc hc' ∧ (r = some (sz hc) ∧ sz hc' = sz hc + 3 ∨ r = none ∧ sz hc' = sz hc) ∧ ∀ g, RB bt len g → fI g 81 13 = nI len → ∃ b g', f_X11_readsAs (b2i o) g = some (b, g') ∧ Fr xA xF g g' ∧ fI g' 81 13 = 0 ∧ fI hc' 4 10 = fI g' 81 14 ∧ ((∃ T n s c mk, TF T ∧ r = some (sz hc) ∧ b = true ∧ 0 < n ∧ n ≤ 12 ∧ TxI hc' (sz hc) n s c mk ∧ CU T (CP T) c mk n (tN T + 1) s ∧ TR T g') ∨ (r = none ∧ b = false)) := by
  obtain ⟨r, hc', b, g', a1, a2, a3, a4, a5, a6, a7⟩ := rd_text (g := g0) hok hk hR hB hbb hb hr0 h130 hz hz2 hz3
  refine ⟨r, hc', a1, a3, ?_, fun g hr h13 => ?_⟩
  · rcases a7 with ⟨T, n, s, c, mk, -, b1, -, -, -, -, -, -, b2⟩ | ⟨b1, -, b2⟩
    · exact Or.inl ⟨b1, b2⟩
    · exact Or.inr ⟨b1, b2⟩
  · obtain ⟨r2, hc2, b2, g2, d1, d2, d3, d4, d5, d6, d7⟩ := rd_text (g := g) hok hk hR hB hbb hb hr h13 hz hz2 hz3
    have e := d1.symm.trans a1
    have e1 : r2 = r := congrArg Prod.fst (Option.some.inj e)
    have e2 : hc2 = hc' := congrArg Prod.snd (Option.some.inj e)
    subst e1
    subst e2
    refine ⟨b2, g2, d2, d4, d5, d6, ?_⟩
    rcases d7 with ⟨T, n, s, c, mk, b1, b3, b4, b5, b6, b7, b8, b9, -⟩ | ⟨b1, b3, -⟩
    · exact Or.inl ⟨T, n, s, c, mk, b1, b3, b4, b5, b6, b7, b8, b9⟩
    · exact Or.inr ⟨b1, b3⟩
/-- the reference lays a text down -/
theorem m_lays {g : Hp} {T : Tok} {t : Nat} (hT : TF T) (hR : TR T g) (ht : t ≤ 6) : ∃ g', f_X11_lays (nI t) g = some ((), g') ∧ aI g' 83 (55 + t) = nI (tN T) ∧ (∀ x, x < tN T → aI g' 83 (62 + (400 * t + x)) = nI (rk (tkd T x)) ∧ aI g' 83 (2862 + (400 * t + x)) = nI (tvl T x)) ∧ (∀ i, i ≠ 55 + t → ¬ (62 + 400 * t ≤ i ∧ i < 462 + 400 * t) → ¬ (2862 + 400 * t ≤ i ∧ i < 3262 + 400 * t) → aI g' 83 i = aI g 83 i) ∧ Fr (fun a => a = 83) noF g g' := by
  obtain ⟨hN, -⟩ := hT
  obtain ⟨r1, r2, r3⟩ := hR
  have key := lp_inv (b := fun s : Int32 × Hp => b_X11_lays_15 (nI t) s.1 s.2) (fun i s => s.1 = nI i ∧ aI s.2 83 (55 + t) = nI (tN T) ∧ (∀ x, x < i → aI s.2 83 (62 + (400 * t + x)) = nI (rk (tkd T x)) ∧ aI s.2 83 (2862 + (400 * t + x)) = nI (tvl T x)) ∧ (∀ i, i ≠ 55 + t → ¬ (62 + 400 * t ≤ i ∧ i < 462 + 400 * t) → ¬ (2862 + 400 * t ≤ i ∧ i < 3262 + 400 * t) → aI s.2 83 i = aI g 83 i) ∧ Fr (fun a => a = 83) noF g s.2) (fun e => aI e 83 (55 + t) = nI (tN T) ∧ (∀ x, x < tN T → aI e 83 (62 + (400 * t + x)) = nI (rk (tkd T x)) ∧ aI e 83 (2862 + (400 * t + x)) = nI (tvl T x)) ∧ (∀ i, i ≠ 55 + t → ¬ (62 + 400 * t ≤ i ∧ i < 462 + 400 * t) → ¬ (2862 + 400 * t ≤ i ∧ i < 3262 + 400 * t) → aI e 83 i = aI g 83 i) ∧ Fr (fun a => a = 83) noF g e) (tN T) ((0 : Int32), sA g 83 (55 + t) (nI (tN T))) (by omega) ⟨rfl, aI_s, fun x hx => absurd hx (Nat.not_lt_zero _), fun i h1 _ _ => aI_n h1, Fr_sA rfl⟩ ?_ ?_
  · obtain ⟨e, k1, k2, k3, k4, k5⟩ := key
    refine ⟨e, ?_, k2, k3, k4, k5⟩
    unfold f_X11_lays
    rw [show ((55 : Int32)) = nI 55 from rfl, m_inb (show 55 + t < 5662 by omega) (by omega), Option.bind_some, r3, k1, Option.bind_some]
  · rintro i ⟨s1, s2⟩ hi ⟨q1, q2, q3, q4, q5⟩
    dsimp only at q1 q2 q3 q4 q5
    subst q1
    have v90 : aI s2 90 i = nI (rk (tkd T i)) := by rw [q5.2.1 90 (by omega)]; exact (r1 i (by omega)).1
    have v91 : aI s2 91 i = nI (tvl T i) := by rw [q5.2.1 91 (by omega)]; exact r2 i hi
    refine Or.inl ⟨(nI (i + 1), sA (sA s2 83 (62 + (400 * t + i)) (nI (rk (tkd T i)))) 83 (2862 + (400 * t + i)) (nI (tvl T i))), ?_, rfl, ?_, fun x hx => ?_, fun z h1 h2 h3 => ?_, Fr_tA (Fr_tA q5 rfl) rfl⟩
    · show b_X11_lays_15 (nI t) (nI i) s2 = _
      unfold b_X11_lays_15
      rw [show fI s2 81 18 = nI (tN T) by rw [q5.1 _ _ (fun c => c)]; exact r3, if_neg (nI_ge hi (by omega)), inb_nI (show i < 401 by omega) (by omega), Option.bind_some, show ((62 : Int32)) = nI 62 from rfl, show ((400 : Int32)) = nI 400 from rfl, show ((2862 : Int32)) = nI 2862 from rfl, pk_mul, nI_add, nI_add, show 62 + 400 * t + i = 62 + (400 * t + i) by omega, inb_nI (show 62 + (400 * t + i) < 5662 by omega) (by omega), Option.bind_some, Option.bind_some, nI_add, nI_add, show 2862 + 400 * t + i = 2862 + (400 * t + i) by omega, inb_nI (show 2862 + (400 * t + i) < 5662 by omega) (by omega), Option.bind_some, nI_1, v90, ps_aAn _ _ _ _ _ (by omega), v91]
    · show aI (sA (sA s2 83 _ _) 83 _ _) 83 (55 + t) = _
      rw [aI_n (by omega), aI_n (by omega)]; exact q2
    · show aI (sA (sA s2 83 _ _) 83 _ _) 83 (62 + (400 * t + x)) = _ ∧ aI (sA (sA s2 83 _ _) 83 _ _) 83 (2862 + (400 * t + x)) = _
      by_cases e : x = i
      · subst e
        rw [aI_n (by omega), aI_s, aI_s]
        exact ⟨rfl, rfl⟩
      · rw [aI_n (by omega), aI_n (by omega), aI_n (by omega), aI_n (by omega)]
        exact q3 x (by omega)
    · show aI (sA (sA s2 83 _ _) 83 _ _) 83 z = _
      rw [aI_n (by omega), aI_n (by omega)]; exact q4 z h1 h2 h3
  · rintro ⟨s1, s2⟩ ⟨q1, q2, q3, q4, q5⟩
    dsimp only at q1 q2 q3 q4 q5
    subst q1
    refine ⟨s2, ?_, q2, q3, q4, q5⟩
    show b_X11_lays_15 (nI t) (nI (tN T)) s2 = _
    unfold b_X11_lays_15
    rw [show fI s2 81 18 = nI (tN T) by rw [q5.1 _ _ (fun c => c)]; exact r3, if_pos (Int32.le_refl _)]
