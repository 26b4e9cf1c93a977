/-! ===== a text read by both ===== -/
def CFr (h h' : Hp) : Prop := (∀ a k, a ≠ 4 → a < sz h → fI h' a k = fI h a k) ∧ (∀ a, a < sz h → ¬ (5 ≤ a ∧ a ≤ 9) → aI h' a = aI h a) ∧ (∀ a, ¬ (5 ≤ a ∧ a ≤ 9) → aL h' a = aL h a) ∧ (∀ a, aO h' a = aO h a) ∧ (∀ a, a < sz h → ln h' a = ln h a) ∧ sz h ≤ sz h'
def xA (a : Nat) : Prop := a = 90 ∨ a = 91 ∨ a = 92
def xF (a k : Nat) : Prop := a = 81 ∧ (k = 8 ∨ k = 9 ∨ k = 10 ∨ k = 13 ∨ k = 14 ∨ 18 ≤ k ∧ k ≤ 21)
def CPk (CP : CPt) : Prop := ∀ c mk n i0 i1 s0 s1, CP c mk n i0 i1 s0 s1 → ∃ q, q < 32 ∧ mk (6 * n) = nI q
theorem CU_k {T : Tok} {CP : CPt} (hk : CPk CP) {c mk : Nat → Int32} : ∀ n i s, CU T CP c mk n i s → ∀ c', c' < n → ∃ q, q < 32 ∧ mk (6 * c') = nI q
  | 0, _, _, _, c', h => absurd h (Nat.not_lt_zero _)
  | n + 1, _, _, ⟨i0, s0, i1, h1, h2, _⟩, c', h => by
    by_cases e : c' = n
    · rw [e]; exact hk _ _ _ _ _ _ _ h2
    · exact CU_k hk n i0 s0 h1 c' (by omega)
theorem CPL_k (T : Tok) : CPk (CPL T) := fun _ _ _ _ _ _ _ ⟨q, _, _, _, h1, _, _, _, h2, _⟩ => ⟨q, by omega, h1.1⟩
theorem CPO_k (T : Tok) : CPk (CPO T) := fun _ _ _ _ _ _ _ ⟨q, _, _, _, _, _, _, h1, _, _, _, _, h2, _⟩ => ⟨q, by omega, h1.1⟩
theorem rd_text {bt : Nat → Nat} {len : Nat} {hc g : Hp} {o : Bool} {CP : Tok → CPt} (hok : ∀ T, CPok (CP T)) (hk : ∀ T, CPk (CP T)) (hR : ∀ T, TF T → RdC T o (CP T)) (hB : Bts bt len) (hbb : ∀ i, bt i < 256) (hb : CB bt len hc) (hr : RB bt len g) (h13 : fI g 81 13 = nI len) (hz : (sz hc - 110) % 3 = 0) (hz2 : sz hc + 3 < 1000000) (hz3 : 110 ≤ sz hc) :
    ∃ r hc' b g', f_X5_read (nI len) (b2i o) hc = some (r, hc') ∧ f_X11_readsAs (b2i o) g = some (b, g') ∧ CFr hc hc' ∧ Fr xA xF g g' ∧ fI g' 81 13 = 0 ∧ fI hc' 4 10 = fI g' 81 14 ∧ ((∃ T n s c mk, TF T ∧ r = some (sz hc) ∧ b = true ∧ 0 < n ∧ n ≤ 12 ∧ TxI hc' (sz hc) n s c mk ∧ CU T (CP T) c mk n (tN T + 1) s ∧ TR T g' ∧ sz hc' = sz hc + 3) ∨ (r = none ∧ b = false ∧ sz hc' = sz hc)) := by
  have hl := hB.1
  -- the class's start
  have F1 : Fr noA (fun a k => a = 4 ∧ 5 ≤ k ∧ k ≤ 10) hc (sF (sF (sF (sF hc 4 5 (b2i o)) 4 8 0) 4 9 0) 4 10 (-1)) := Fr_tF (Fr_tF (Fr_tF (Fr_sF ⟨rfl, by omega, by omega⟩) ⟨rfl, by omega, by omega⟩) ⟨rfl, by omega, by omega⟩) ⟨rfl, by omega, by omega⟩
  have v5 : fI (sF (sF (sF (sF hc 4 5 (b2i o)) 4 8 0) 4 9 0) 4 10 (-1)) 4 5 = b2i o := by rw [fI_n (by omega), fI_n (by omega), fI_n (by omega), fI_s]
  have v8 : fI (sF (sF (sF (sF hc 4 5 (b2i o)) 4 8 0) 4 9 0) 4 10 (-1)) 4 8 = 0 := by rw [fI_n (by omega), fI_n (by omega), fI_s]
  have v9 : fI (sF (sF (sF (sF hc 4 5 (b2i o)) 4 8 0) 4 9 0) 4 10 (-1)) 4 9 = 0 := by rw [fI_n (by omega), fI_s]
  have v10 : fI (sF (sF (sF (sF hc 4 5 (b2i o)) 4 8 0) 4 9 0) 4 10 (-1)) 4 10 = -1 := fI_s
  have eA : f_X5_read (nI len) (b2i o) hc = (f_X5_cut (nI len) (sF (sF (sF (sF hc 4 5 (b2i o)) 4 8 0) 4 9 0) 4 10 (-1))).bind fun v5 => (f_X5_goOn (sF v5.2 4 6 (-1))).bind fun v7 => (lp (fun s => b_X5_read_43 (b2i o) s.1 s.2) FU ((0 : Int32), v7.2)).bind clsT := by
    unfold f_X5_read
    rw [i2b_b, Option.bind_some, j_min, Option.bind_some, show ((400 : Int32)) = nI 400 from rfl, mnI_n _ _ (by omega) (by omega), Nat.min_eq_left hl]
    rfl
  have hb1 : CB bt len (sF (sF (sF (sF hc 4 5 (b2i o)) 4 8 0) 4 9 0) 4 10 (-1)) := hb
  generalize sF (sF (sF (sF hc 4 5 (b2i o)) 4 8 0) 4 9 0) 4 10 (-1) = hc1 at F1 v5 v8 v9 v10 eA hb1
  -- the reference's start
  have hg1 : ∃ g1, f_X11_readsAs (b2i o) g = (f_X11_reads g1).bind (fun v5 => some (v5.1, v5.2)) ∧ Fr noA xF g g1 ∧ fI g1 81 10 = b2i o ∧ fI g1 81 8 = (if o = true then 14 else 8) ∧ fI g1 81 9 = (if o = true then 20 else 15) ∧ fI g1 81 13 = nI len := by
    refine ⟨sF (sF (sF g 81 10 (b2i o)) 81 8 (if o = true then 14 else 8)) 81 9 (if o = true then 20 else 15), ?_, Fr_tF (Fr_tF (Fr_sF ⟨rfl, by omega⟩) ⟨rfl, by omega⟩) ⟨rfl, by omega⟩, ?_, ?_, fI_s, ?_⟩
    · unfold f_X11_readsAs
      rw [i2b_b, Option.bind_some]
      cases o
      · rfl
      · rfl
    · rw [fI_n (by omega), fI_n (by omega), fI_s]
    · rw [fI_n (by omega), fI_s]
    · rw [fI_n (by omega), fI_n (by omega), fI_n (by omega)]; exact h13
  obtain ⟨g1, eB, G1, w10, w8, w9, w13⟩ := hg1
  have hr1 : RB bt len g1 := ⟨fun i hi => by rw [G1.2.1 88 (fun c => c)]; exact hr.1 i hi, fun k hk => by rw [G1.2.1 87 (fun c => c)]; exact hr.2 k hk⟩
  obtain ⟨T, hc2, g2, a1, a2, hT, a4, a5, a6, a7⟩ := lex hB hbb hb1 hr1
  -- the first token
  have hN := hT.1
  have F26 : Fr ctA (fun a k => a = 4 ∧ k = 6) hc1 (sF hc2 4 6 (-1)) := Fr_tF (Fr_mono a6 (fun _ c => c) (fun _ _ c => c.elim)) ⟨rfl, rfl⟩
  have eG : f_X5_goOn (sF hc2 4 6 (-1)) = some ((), sF (sF (sF hc2 4 6 (-1)) 4 6 (nI 0)) 4 7 (nI (tkd T 0))) := by
    unfold f_X5_goOn
    rw [fI_s, fI_s, show ((-1 : Int32)) + 1 = nI 0 by decide, if_neg (by decide), if_neg (by decide), inb_nI (show 0 < 401 by omega) (by omega), Option.bind_some]
    show some ((), sF _ 4 7 (aI hc2 5 0)) = _
    rw [(a4.1 0 (Nat.zero_le _)).1]
  have C3 : CS T o (sF (sF (sF hc2 4 6 (-1)) 4 6 (nI 0)) 4 7 (nI (tkd T 0))) 0 0 0 := by
    refine ⟨a4, Nat.zero_le _, ?_, fI_s, ?_, ?_, ?_, by omega, ?_⟩
    · rw [fI_n (by omega), fI_s]
    · rw [fI_n (by omega), fI_n (by omega), F26.1 4 8 (by omega)]; exact v8
    · rw [fI_n (by omega), fI_n (by omega), F26.1 4 9 (by omega)]; exact v9
    · rw [fI_n (by omega), fI_n (by omega), F26.1 4 5 (by omega)]; exact v5
    · rw [fI_n (by omega), fI_n (by omega), F26.1 4 10 (by omega)]; exact v10
  have F3 : Fr (fun a => 5 ≤ a ∧ a ≤ 9) (fun a k => a = 4) hc (sF (sF (sF hc2 4 6 (-1)) 4 6 (nI 0)) 4 7 (nI (tkd T 0))) := Fr_tF (Fr_tF (Fr_tr (Fr_mono F1 (fun _ c => c.elim) (fun _ _ c => c.1)) (Fr_mono F26 (fun a c => by unfold ctA at c; omega) (fun _ _ c => c.1))) rfl) rfl
  have R3 : RS T o (sF (sF (sF (sF g2 81 13 0) 81 19 0) 81 20 0) 81 21 (-1)) 0 0 := by
    refine ⟨⟨a5.1, a5.2.1, ?_⟩, Nat.zero_le _, ?_, ?_, fI_s, ?_, ?_, ?_⟩
    · rw [fI_n (by omega), fI_n (by omega), fI_n (by omega), fI_n (by omega)]; exact a5.2.2
    · rw [fI_n (by omega), fI_n (by omega), fI_s]; rfl
    · rw [fI_n (by omega), fI_s]; rfl
    · rw [fI_n (by omega), fI_n (by omega), fI_n (by omega), fI_n (by omega), a7.1 81 10 (by unfold spF; omega)]; exact w10
    · rw [fI_n (by omega), fI_n (by omega), fI_n (by omega), fI_n (by omega), a7.1 81 8 (by unfold spF; omega)]; exact w8
    · rw [fI_n (by omega), fI_n (by omega), fI_n (by omega), fI_n (by omega), a7.1 81 9 (by unfold spF; omega)]; exact w9
  have G3 : Fr xA xF g (sF (sF (sF (sF g2 81 13 0) 81 19 0) 81 20 0) 81 21 (-1)) := Fr_tF (Fr_tF (Fr_tF (Fr_tF (Fr_tr (Fr_mono G1 (fun _ c => c.elim) (fun _ _ c => c)) (Fr_mono a7 (fun _ c => c) (fun a k c => ⟨c.1, by have := c.2; omega⟩))) ⟨rfl, by omega⟩) ⟨rfl, by omega⟩) ⟨rfl, by omega⟩) ⟨rfl, by omega⟩
  have g13 : fI (sF (sF (sF (sF g2 81 13 0) 81 19 0) 81 20 0) 81 21 (-1)) 81 13 = 0 := by rw [fI_n (by omega), fI_n (by omega), fI_n (by omega), fI_s]
  have eB2 : f_X11_readsAs (b2i o) g = (((f_X11_readOne (sF (sF (sF (sF g2 81 13 0) 81 19 0) 81 20 0) 81 21 (-1))).bind fun v => lp (fun s => b_X11_reads_34 s.1 s.2) FU (nI 1, v.2)).bind refT).bind (fun v5 => some (v5.1, v5.2)) := by
    rw [eB]
    unfold f_X11_reads
    rw [w13, a2, Option.bind_some]
    dsimp only
    cases f_X11_readOne (sF (sF (sF (sF g2 81 13 0) 81 19 0) 81 20 0) 81 21 (-1)) with
    | none => rfl
    | some v => rfl
  generalize sF (sF (sF (sF g2 81 13 0) 81 19 0) 81 20 0) 81 21 (-1) = g3 at R3 G3 g13 eB2
  rw [a1, Option.bind_some] at eA
  dsimp only at eA
  rw [eG, Option.bind_some] at eA
  dsimp only at eA
  generalize sF (sF (sF hc2 4 6 (-1)) 4 6 (nI 0)) 4 7 (nI (tkd T 0)) = hc3 at C3 F3 eA
  obtain ⟨e, gE, k1, k2, k3⟩ := rd_all (CP := CP T) hT (hok T) (hR T hT) 11 0 FU FU hc3 g3 0 0 0 (by omega) (by decide) (by decide) Fr_rfl Fr_rfl C3 R3 (Nat.le_refl _) ⟨rfl, rfl⟩
  replace k1 : lp (fun s : Int32 × Hp => b_X5_read_43 (b2i o) s.1 s.2) FU ((0 : Int32), hc3) = some e := k1
  rw [k1, Option.bind_some] at eA
  rw [k2, Option.bind_some] at eB2
  have toC : ∀ {h' : Hp}, Fr (fun a => 5 ≤ a ∧ a ≤ 9) (fun a k => a = 4) hc h' → CFr hc h' := fun hf => ⟨fun a k h1 _ => hf.1 a k h1, fun a _ h1 => hf.2.1 a h1, fun a h1 => hf.2.2.1 a h1, hf.2.2.2.1, fun a _ => hf.2.2.2.2.1 a, Nat.le_of_eq hf.2.2.2.2.2.symm⟩
  rcases k3 with ⟨c, hc', s, u, r1, r2, r3, r4, r5, r6, r7, r8⟩ | ⟨x, hc', gr', r1, r2, r3, r4, r5, r6⟩
  · have F4 : Fr (fun a => 5 ≤ a ∧ a ≤ 9) (fun a k => a = 4) hc hc' := Fr_tr F3 (Fr_mono r6 (fun a c => by unfold rA2 at c; omega) (fun _ _ c => c.1))
    have z4 : sz hc' = sz hc := F4.2.2.2.2.2
    obtain ⟨h5, t1, t2, t3, t4, t5, t6, t7, t8⟩ := rdT_ok (h := hc') r4 r2 r3.2.2.2.2.1 (CU_k (hk T) _ _ _ r5) (by rw [z4]; exact hz) (by rw [z4]; exact hz2) (by rw [z4]; exact hz3)
    rw [z4] at t1 t2 t3 t4 t5 t8
    have f10 : fI hc' 4 10 = -1 := r3.2.2.2.2.2.2.2.2
    refine ⟨some (sz hc), h5, true, sF gE 81 14 (-1), by rw [eA, r1, t1], by rw [eB2, r7, Option.bind_some], ?_, ?_, ?_, ?_, Or.inl ⟨T, c + 1, s, aI hc' 8, aI hc' 9, hT, rfl, rfl, by omega, by omega, t2, r5, ?_, t3⟩⟩
    · have c4 := toC F4
      refine ⟨fun a k h1 h2 => by rw [t4 a k (by omega)]; exact c4.1 a k h1 h2, fun a h1 h2 => by rw [t5 a h1]; exact c4.2.1 a h1 h2, fun a h1 => by rw [t6 a]; exact c4.2.2.1 a h1, fun a => by rw [t7 a]; exact c4.2.2.2.1 a, fun a h1 => by rw [t8 a h1]; exact c4.2.2.2.2.1 a h1, by omega⟩
    · exact Fr_tF (Fr_tr G3 (Fr_mono r8 (fun _ c => c.elim) (fun a k c => ⟨c.1, by have := c.2; omega⟩))) ⟨rfl, by omega⟩
    · rw [fI_n (by omega), r8.1 81 13 (by unfold yF; omega)]; exact g13
    · rw [t4 4 10 (by omega), f10, fI_s]
    · have := R3.1
      refine ⟨?_, ?_, ?_⟩
      · show ∀ i, i ≤ tN T → aI gE 90 i = _ ∧ aI gE 92 i = _
        rw [r8.2.1 90 (fun c => c), r8.2.1 92 (fun c => c)]; exact this.1
      · show ∀ i, i < tN T → aI gE 91 i = _
        rw [r8.2.1 91 (fun c => c)]; exact this.2.1
      · rw [fI_n (by omega), r8.1 81 18 (by unfold yF; omega)]; exact this.2.2
  · have F4 : Fr (fun a => 5 ≤ a ∧ a ≤ 9) (fun a k => a = 4) hc hc' := Fr_tr F3 (Fr_mono r3 (fun a c => by unfold rA2 at c; omega) (fun _ _ c => c.1))
    refine ⟨none, hc', false, gr', by rw [eA, r1], by rw [eB2, r4, Option.bind_some], toC F4, Fr_tr G3 (Fr_mono r6 (fun _ c => c.elim) (fun a k c => ⟨c.1, by have := c.2; omega⟩)), by rw [r6.1 81 13 (by unfold yF2; omega)]; exact g13, by rw [r2, r5], Or.inr ⟨rfl, rfl, F4.2.2.2.2.2⟩⟩
