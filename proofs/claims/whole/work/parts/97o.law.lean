/-! ===== a law told ===== -/
theorem QFr_0 (h : Hp) : QFr h (sF h 0 16 0) := ⟨fun a k _ c => fI_n (by omega), fun _ _ _ => rfl, fun _ => rfl, fun _ _ => rfl, Or.inl rfl⟩
theorem QFr_c {h hc' : Hp} (hC : CFr (sF h 0 16 0) hc') (hz : sz hc' = sz h ∨ sz hc' = sz h + 3) (x : Int32) : QFr h (sF hc' 0 17 x) := by
  obtain ⟨c1, c2, c3, c4, c5, c6⟩ := hC
  refine ⟨fun a k ha c => ?_, fun a ha c => c2 a ha c, fun a => c4 a, fun a ha => c5 a ha, hz⟩
  rw [fI_n (by omega), c1 a k (by omega) ha, fI_n (by omega)]
def lwA (a : Nat) : Prop := 5 ≤ a ∧ a ≤ 9 ∨ 90 ≤ a ∧ a ≤ 92 ∨ a = 83
def lwF (a k : Nat) : Prop := a = 4 ∨ a = 0 ∧ (k = 16 ∨ k = 17 ∨ k = 19) ∨ a = 32 ∧ k = 3 ∨ a = 60 ∧ k = 6 ∨ a = 81 ∧ (k = 0 ∨ 8 ≤ k ∧ k ≤ 10 ∨ k = 13 ∨ k = 14 ∨ 18 ≤ k ∧ k ≤ 21)
/-- the invariant behind a law that was told -/
theorem INV_law {n : Nat} {h h2 : Hp} {k sm lc n' s : Nat} {L : LDt} {T : Tok} {c mk : Nat → Int32} {D : DLs} (hI : INV n h) (i1 : KOK (aI h 83) k sm lc L) (i2 : HR h 32 (aI h 83) sm lc L) (i3 : CAC h (aI h 83) k (SF (aI h 83) L)) (i7 : PAS h (aI h 83) k) (hlc : lc < 6) (hz : sz h2 = sz h + 3) (hl : ∀ a, a < sz h → ln h2 a = ln h a) (hf : ∀ a k, a < sz h → ¬ lwF a k → fI h2 a k = fI h a k) (ha : ∀ a, a < sz h → ¬ lwA a → aI h2 a = aI h a) (ho : ∀ a, a ≠ 38 → aO h2 a = aO h a) (o38 : ∀ t, t ≠ lc → aO h2 38 t = aO h 38 t) (oN : aO h2 38 lc = some (sz h)) (t1 : fI h2 0 16 = 0) (t2 : fI h2 81 13 = 0) (mis : MIS h2) (f3 : fI h2 32 3 = nI (lc + 1)) (k53 : aI h2 83 53 = nI (lc + 1)) (kag : ∀ i, i ≠ 53 → i ≠ 55 + lc → ¬ (62 + 400 * lc ≤ i ∧ i < 462 + 400 * lc) → ¬ (2862 + 400 * lc ≤ i ∧ i < 3262 + 400 * lc) → aI h2 83 i = aI h 83 i) (hT : TF T) (hn0 : 0 < n') (hn12 : n' ≤ 12) (hD : ClD T (CdL T) c mk D n' (tN T + 1) s) (hX : TxI h2 (sz h) n' s c mk) (hLd : Laid T (aI h2 83) lc) : INV (n + 1) h2 := by
  have hK := i1
  obtain ⟨w1, w2, w3, w4, w5, w6, w7, w8, w9⟩ := i1
  have AGK : AG (aI h 83) (aI h2 83) := fun i hi => kag i (by omega) (by omega) (by omega) (by omega)
  have hx0 := INV_mix (h2 := h2) hI (Or.inr hz) hl
  have F : Fr lwA lwF (mix h h2) (rO (mix h h2) h2) := by
    refine ⟨fun a j c => ?_, fun a c => ?_, fun _ _ => rfl, fun _ => rfl, fun _ => rfl, rfl⟩
    · show fI h2 a j = _
      by_cases d : a < sz h
      · rw [mix_f d]; exact hf a j d c
      · rw [mix_f' d]
    · show aI h2 a = _
      by_cases d : a < sz h
      · rw [mix_a d]; exact ha a d c
      · rw [mix_a' d]
  have z110 : 110 ≤ sz h := by
    obtain ⟨k0, sm0, lc0, L0, -, -, -, -, -, -, -, -, ⟨⟨m, c1, c2⟩, -⟩⟩ := hI
    omega
  have x83 : aI (mix h h2) 83 = aI h 83 := mix_a (by omega)
  have kp : KpT h h2 := ⟨fun a j h1 h2' => hf a j h2' (by unfold lwF; omega), fun a h1 h2' => ha a h2' (by unfold lwA; omega), hl, by omega⟩
  obtain ⟨k0, sm0, lc0, L0, j1, j2, j3, j4, j5, j6, j7, j8, j9⟩ := hx0
  have h28x : ln (mix h h2) 28 = 0 := j9.2.2.2.2.2.1
  have h28 : ln h 28 = 0 := (hl 28 (by omega)).symm.trans h28x
  have f110 : ∀ a j, a < 110 → ¬ lwF a j → fI h2 a j = fI h a j := fun a j h1 h2' => hf a j (by omega) h2'
  have a110 : ∀ a, a < 110 → ¬ lwA a → aI h2 a = aI h a := fun a h1 h2' => ha a (by omega) h2'
  have k54 : aI h2 83 54 = aI h 83 54 := kag 54 (by omega) (by omega) (by omega) (by omega)
  have hL' : ∀ t, t ≠ lc → (fun t => if t = lc then (T, n', s, c, mk, D) else L t) t = L t := fun t ht => if_neg ht
  have hLc : (fun t => if t = lc then (T, n', s, c, mk, D) else L t) lc = (T, n', s, c, mk, D) := if_pos rfl
  generalize (fun t => if t = lc then (T, n', s, c, mk, D) else L t) = L' at hL' hLc
  have eS : SF (aI h2 83) L' = SF (aI h 83) L := by
    unfold SF
    rw [k54]
    rcases w9 with e | ⟨f, e1, e2⟩
    · rw [if_pos e, if_pos e]
    · have : ¬ aI h 83 54 = -1 := by rw [e2]; exact nI_ne1 (by omega)
      rw [if_neg this, if_neg this, e2, nI_clamp (by omega)]
      unfold ldSem ldD ldN
      rw [hL' f (by omega)]
  refine ⟨k, sm, lc + 1, L', ⟨WF_ag w1 AGK, ?_, w3, by rw [kag 52 (by omega) (by omega) (by omega) (by omega)]; exact w4, fun i hi => ?_, by omega, k53, fun t ht => ?_, ?_⟩, ⟨?_, ?_, fun i hi => ?_, f3, fun t ht => ?_, fun t h1 h2' => ?_, ?_⟩, ?_, ?_, ⟨0, fun _ => 0, by omega, t1, t2, fun _ => by show 0 < 256; omega, fun i hi => absurd hi (Nat.not_lt_zero _)⟩, mis, ?_, ?_, ?_⟩
  · obtain ⟨m, m1, m2⟩ := w2
    exact ⟨m, m1, by rw [kag 24 (by omega) (by omega) (by omega) (by omega)]; exact m2⟩
  · obtain ⟨p, m, c', q1, q2, q3, q4, q5, q6⟩ := w5 i hi
    exact ⟨p, m, c', q1, q2, q3, by rw [kag _ (by omega) (by omega) (by omega) (by omega)]; exact q4, by rw [kag _ (by omega) (by omega) (by omega) (by omega)]; exact q5, by rw [kag _ (by omega) (by omega) (by omega) (by omega)]; exact q6⟩
  · by_cases e : t = lc
    · subst e
      unfold LawP ldT ldN ldC ldM ldD ldS
      rw [hLc]
      exact ⟨⟨hT, hn0, hn12, hD⟩, hLd⟩
    · obtain ⟨p1, q1, q2⟩ := w8 t (by omega)
      have tn := p1.1.1
      refine ⟨?_, ?_⟩
      · unfold LawP ldT ldN ldC ldM ldD ldS at p1 ⊢
        rw [hL' t e]
        exact p1
      · unfold ldT at q1 q2 tn ⊢
        rw [hL' t e]
        exact ⟨by rw [kag _ (by omega) (by omega) (by omega) (by omega)]; exact q1, fun x hx => ⟨by rw [kag _ (by omega) (by omega) (by omega) (by omega)]; exact (q2 x hx).1, by rw [kag _ (by omega) (by omega) (by omega) (by omega)]; exact (q2 x hx).2⟩⟩
  · rw [k54]
    rcases w9 with e | ⟨f, e1, e2⟩
    · exact Or.inl e
    · exact Or.inr ⟨f, by omega, e2⟩
  · have r := i2.1
    refine RR_ag ?_ AGK
    unfold RRh at r ⊢
    rw [f110 33 0 (by omega) (by unfold lwF; omega), a110 _ (by omega) (by unfold lwA; omega), a110 _ (by omega) (by unfold lwA; omega), a110 _ (by omega) (by unfold lwA; omega), a110 _ (by omega) (by unfold lwA; omega)]
    exact r
  · rw [f110 32 6 (by omega) (by unfold lwF; omega)]; exact i2.2.1
  · rw [a110 39 (by omega) (by unfold lwA; omega), kag _ (by omega) (by omega) (by omega) (by omega)]; exact i2.2.2.1 i hi
  · by_cases e : t = lc
    · subst e
      refine ⟨sz h, oN, ?_⟩
      unfold ldN ldS ldC ldM
      rw [hLc]
      exact hX
    · obtain ⟨a, e1, e2⟩ := i2.2.2.2.2.1 t (by omega)
      refine ⟨a, by rw [show aO h2 (32 + 6) t = aO h 38 t from o38 t e]; exact e1, ?_⟩
      unfold ldN ldS ldC ldM at e2 ⊢
      rw [hL' t e]
      exact TxI_kp e2 (tx26 e2 (w8 t (by omega)).1.2.1 h28) kp
  · rw [show aO h2 (32 + 6) t = aO h 38 t from o38 t (by omega)]
    exact i2.2.2.2.2.2.1 t (by omega) h2'
  · rw [f110 32 4 (by omega) (by unfold lwF; omega), k54]; exact i2.2.2.2.2.2.2
  · rw [eS]
    refine CAC_ag ?_ AGK
    rcases i3 with e | ⟨kn, e1, e2, e3, e4, e5, e6⟩
    · exact Or.inl (by rw [f110 68 11 (by omega) (by unfold lwF; omega)]; exact e)
    · refine Or.inr ⟨kn, e1, by rw [f110 68 11 (by omega) (by unfold lwF; omega)]; exact e2, by rw [f110 68 9 (by omega) (by unfold lwF; omega)]; exact e3, by rw [f110 68 10 (by omega) (by unfold lwF; omega)]; exact e4, by rw [a110 78 (by omega) (by unfold lwA; omega)]; exact e5, by rw [a110 74 (by omega) (by unfold lwA; omega), a110 75 (by omega) (by unfold lwA; omega)]; exact e6⟩
  · have q := IMG_tr j4 h28x F (fun a c => by unfold lwA at c; omega) (fun a j c => by unfold lwF at c; omega)
    have r : ∀ a, a ≠ 38 → aO h2 a = aO (rO (mix h h2) h2) a := fun a c => ho a c
    intro j hj
    rcases q j hj with e | ⟨s1, s2, k2, sm2, lc2, L2, s3, s4⟩
    · exact Or.inl e
    · refine Or.inr ⟨s1, s2, k2, sm2, lc2, L2, s3, ?_⟩
      obtain ⟨b1, b2, b3, b4, b5, b6, b7⟩ := s4
      refine ⟨b1, b2, b3, b4, fun t ht => ?_, fun t h1 h2' => ?_, b7⟩
      · obtain ⟨a, e1, e2⟩ := b5 t ht
        exact ⟨a, by rw [r _ (by omega)]; exact e1, e2⟩
      · rw [r _ (by omega)]; exact b6 t h1 h2'
  · obtain ⟨nx, u, p1, p2, p3, p4, p5, p6⟩ := PAS_ag i7 (fun i hi => kag i (by omega) (by omega) (by omega) (by omega))
    exact ⟨nx, u, p1, p2, by rw [f110 10 1 (by omega) (by unfold lwF; omega)]; exact p3, by rw [f110 10 2 (by omega) (by unfold lwF; omega)]; exact p4, by rw [f110 81 32 (by omega) (by unfold lwF; omega)]; exact p5, by rw [a110 11 (by omega) (by unfold lwA; omega), a110 95 (by omega) (by unfold lwA; omega)]; exact p6⟩
  · exact DRW_tr (h' := rO (mix h h2) h2) j8 F (fun a c => by unfold lwA at c; omega) (fun a j c => by unfold lwF at c; omega)
  · have q := CON_t0 j9 F (fun a c => by unfold lwA at c; omega) (fun a j c => by unfold lwF at c; omega)
    exact ⟨q.1, q.2.1, q.2.2.1, q.2.2.2.1, q.2.2.2.2.1, q.2.2.2.2.2.1, by rw [ho 1 (by omega)]; exact q.2.2.2.2.2.2.1, by rw [ho 1 (by omega)]; exact q.2.2.2.2.2.2.2⟩
theorem CU_L {T : Tok} {c mk : Nat → Int32} {n i s : Nat} (h : CU T (CPL T) c mk n i s) : ∃ D : DLs, ClD T (CdL T) c mk D n i s :=
  CU_D (0, 0, fun _ => none, fun _ => none) n i s (CU_map (CP' := fun c mk n i0 i1 s0 s1 => ∃ d, CdL T d c mk n i0 i1 s0 s1) (fun _ _ _ _ _ ⟨q, f2, σ, τ, h1, h2, h3, h4⟩ => ⟨(q, f2, σ, τ), h1, h2, h3, h4⟩) n i s h)
theorem op_9 : Op_9 INV := by
  intro n h hI hn512
  have hI0 := hI
  obtain ⟨k, sm, lc, L, i1, i2, i3, i4, i5, i6, i7, i8, i9⟩ := hI
  obtain ⟨tl, bt, t1, t2, t3, t4, t5⟩ := id i5
  obtain ⟨⟨m, c1, c2⟩, c3, -⟩ := id i9
  have hlc := i1.2.2.2.2.2.1
  have e53 := i1.2.2.2.2.2.2.1
  have f3 := i2.2.2.2.1
  have eT : f_X10_takeTape h = some (nI tl, sF h 0 16 0) := by
    unfold f_X10_takeTape
    rw [t2]
  by_cases h6 : lc < 6
  · obtain ⟨r, hc', a1, a3, a4, a5⟩ := rd_twice (bt := bt) (len := tl) (hc := sF h 0 16 0) (g0 := h) (o := false) (CP := CPL) CPL_ok CPL_k (fun T hT => RdC_L hT) ⟨t1, fun i _ => t4 i⟩ t4 (fun i hi => (t5 i hi).1) ⟨fun i hi => (t5 i hi).2, c3⟩ t3 (by show (sz h - 110) % 3 = 0; omega) (by show sz h + 3 < 1000000; omega) (by show 110 ≤ sz h; omega)
    have a1' : f_X5_read (nI tl) (0 : Int32) (sF h 0 16 0) = some (r, hc') := a1
    have hz' : sz hc' = sz h ∨ sz hc' = sz h + 3 := by
      rcases a4 with ⟨-, e⟩ | ⟨-, e⟩
      · exact Or.inr e
      · exact Or.inl e
    have hQ := QFr_c a3 hz' (fI hc' 4 10)
    have l6 : fI (sF h 0 16 0) 32 3 < 6 := by rw [fI_n (by omega), f3]; exact nI_lt (b := 6) h6 (by omega)
    have q16 : fI (sF hc' 0 17 (fI hc' 4 10)) 0 16 = 0 := by rw [fI_n (by omega), a3.1 0 16 (by omega) (by show 0 < sz h; omega), fI_s]
    obtain ⟨q1, q2, q3, q4, q5⟩ := id hQ
    rcases a4 with ⟨er, ez⟩ | ⟨er, ez⟩
    · subst er
      -- the class's last heap
      have g13 : ∀ x, RB bt tl (sF (sF (sO (sF hc' 0 17 (fI hc' 4 10)) 38 lc (some (sz h))) 32 3 x) 0 19 0) := by
        intro x
        refine ⟨fun i hi => ?_, fun i hi => ?_⟩
        · show aI (sF hc' 0 17 (fI hc' 4 10)) 88 i = _
          rw [q2 88 (by omega) (by omega)]; exact (t5 i hi).2
        · show aI (sF hc' 0 17 (fI hc' 4 10)) 87 i = _
          rw [q2 87 (by omega) (by omega)]; exact c3 i hi
      obtain ⟨b, g', b1, b2, b3, b4, b5⟩ := a5 (sF (sF (sO (sF hc' 0 17 (fI hc' 4 10)) 38 lc (some (sz h))) 32 3 (nI (lc + 1))) 0 19 0) (g13 _) (by
        rw [fI_n (by omega), fI_n (by omega)]
        show fI (sF hc' 0 17 (fI hc' 4 10)) 81 13 = _
        rw [q1 81 13 (by omega) (by omega)]; exact t3)
      rcases b5 with ⟨T, n', s, c, mk, hT, -, eb, hn0, hn12, hX, hU, hR⟩ | ⟨eb, -⟩
      · subst eb
        obtain ⟨D, hD⟩ := CU_L hU
        obtain ⟨g2, d1, d2, d3, d4, d5⟩ := m_lays hT hR (show lc ≤ 6 by omega)
        have w53 : aI g' 83 53 = nI lc := by
          rw [b2.2.1 83 (by unfold xA; omega)]
          show aI (sF hc' 0 17 (fI hc' 4 10)) 83 53 = _
          rw [q2 83 (by omega) (by omega)]; exact e53
        have w53b : aI g2 83 53 = nI lc := by rw [d4 53 (by omega) (by omega) (by omega)]; exact w53
        have q32 : fI (sF hc' 0 17 (fI hc' 4 10)) 32 3 = nI lc := by rw [q1 32 3 (by omega) (by omega)]; exact f3
        have tg1 : tg (sF hc' 0 17 (fI hc' 4 10)) (sz h) = true := hX.2.1
        refine ⟨nI lc, sF (sF (sO (sF hc' 0 17 (fI hc' 4 10)) 38 lc (some (sz h))) 32 3 (nI (lc + 1))) 0 19 0, sF (sA g2 83 53 (nI (lc + 1))) 81 0 0, ?_, ?_, ?_⟩
        · unfold f_X10_law
          rw [eT, Option.bind_some]
          show (if fI (sF h 0 16 0) 32 3 < 6 then (f_X5_read (nI tl) 0 (sF h 0 16 0)).bind _ else _) = _
          rw [if_pos l6, a1', Option.bind_some]
          show (f_X1_addLaw 32 (sz h) (sF hc' 0 17 (fI hc' 4 10))).bind _ = _
          unfold f_X1_addLaw
          rw [q32, if_pos (show nI lc < 6 from nI_lt (b := 6) h6 (by omega)), if_pos tg1, inb_nI h6 (by omega), Option.bind_some]
          show (Option.bind (some ((fI (sF (sO (sF hc' 0 17 (fI hc' 4 10)) 38 lc (some (sz h))) 32 3 (fI (sF hc' 0 17 (fI hc' 4 10)) 32 3 + 1)) 32 3 - 1), sF (sO (sF hc' 0 17 (fI hc' 4 10)) 38 lc (some (sz h))) 32 3 (fI (sF hc' 0 17 (fI hc' 4 10)) 32 3 + 1))) _) = _
          rw [q32, nI_1, fI_s, nI_pred, Option.bind_some]
          rw [c_ans0 (nI_pos' (by omega)), Option.bind_some]
        · unfold f_X11_law
          have w : aI (sF (sF (sO (sF hc' 0 17 (fI hc' 4 10)) 38 lc (some (sz h))) 32 3 (nI (lc + 1))) 0 19 0) 83 53 = nI lc := by
            show aI (sF hc' 0 17 (fI hc' 4 10)) 83 53 = _
            rw [q2 83 (by omega) (by omega)]; exact e53
          rw [w, if_neg (show ¬ nI lc = 6 from fun d => by have := (nI_eq (by omega) (by omega)).mp (show nI lc = nI 6 from d); omega), show f_X11_readsAs (0 : Int32) _ = some (true, g') from b1, Option.bind_some, if_pos rfl]
          show (f_X11_lays (aI g' 83 53) g').bind _ = _
          rw [w53, d1, Option.bind_some]
          show (f_X11_good ((aI (sA g2 83 53 (aI g2 83 53 + 1)) 83 53) - 1) (sA g2 83 53 (aI g2 83 53 + 1))).bind _ = _
          rw [w53b, nI_1, aI_s, nI_pred]
          rfl
        · have F1 : ∀ a j, a < sz h → ¬ lwF a j → fI (sF (sA g2 83 53 (nI (lc + 1))) 81 0 0) a j = fI h a j := by
            intro a j hal hc
            rw [fI_n (by unfold lwF at hc; omega)]
            show fI g2 a j = _
            rw [d5.1 _ _ (fun c => c), b2.1 a j (by unfold lwF at hc; unfold xF; omega), fI_n (by unfold lwF at hc; omega), fI_n (by unfold lwF at hc; omega)]
            show fI (sF hc' 0 17 (fI hc' 4 10)) a j = _
            exact q1 a j hal (by unfold lwF at hc; omega)
          have F2 : ∀ a, a < sz h → ¬ lwA a → aI (sF (sA g2 83 53 (nI (lc + 1))) 81 0 0) a = aI h a := by
            intro a hal hc
            show aI (sA g2 83 53 (nI (lc + 1))) a = _
            rw [ps_aAn _ _ _ _ _ (by unfold lwA at hc; omega), d5.2.1 a (by unfold lwA at hc; omega), b2.2.1 a (by unfold lwA at hc; unfold xA; omega)]
            show aI (sF hc' 0 17 (fI hc' 4 10)) a = _
            exact q2 a hal (by unfold lwA at hc; omega)
          have eO : ∀ a, aO (sF (sA g2 83 53 (nI (lc + 1))) 81 0 0) a = aO (sO (sF hc' 0 17 (fI hc' 4 10)) 38 lc (some (sz h))) a := by
            intro a
            show aO g2 a = _
            rw [d5.2.2.2.1, b2.2.2.2.1]
            rfl
          have kag : ∀ i, i ≠ 53 → i ≠ 55 + lc → ¬ (62 + 400 * lc ≤ i ∧ i < 462 + 400 * lc) → ¬ (2862 + 400 * lc ≤ i ∧ i < 3262 + 400 * lc) → aI (sF (sA g2 83 53 (nI (lc + 1))) 81 0 0) 83 i = aI h 83 i := by
            intro i h1 h2 h3 h4
            show aI (sA g2 83 53 (nI (lc + 1))) 83 i = _
            rw [aI_n h1, d4 i h2 h3 h4, b2.2.1 83 (by unfold xA; omega)]
            show aI (sF hc' 0 17 (fI hc' 4 10)) 83 i = _
            rw [q2 83 (by omega) (by omega)]
          have eF : ∀ j, fI (sF (sA g2 83 53 (nI (lc + 1))) 81 0 0) 0 j = fI (sF (sF (sO (sF hc' 0 17 (fI hc' 4 10)) 38 lc (some (sz h))) 32 3 (nI (lc + 1))) 0 19 0) 0 j := by
            intro j
            rw [fI_n (by omega)]
            show fI g2 0 j = _
            rw [d5.1 _ _ (fun c => c), b2.1 0 j (by unfold xF; omega)]
          have eG : ∀ j, j ≠ 0 → fI (sF (sA g2 83 53 (nI (lc + 1))) 81 0 0) 81 j = fI g' 81 j := by
            intro j hj
            rw [fI_n (by omega)]
            show fI g2 81 j = _
            rw [d5.1 _ _ (fun c => c)]
          have X2 : TxI (sF (sA g2 83 53 (nI (lc + 1))) 81 0 0) (sz h) n' s c mk := by
            have u1 : ∀ a j, 110 ≤ a → fI (sF (sA g2 83 53 (nI (lc + 1))) 81 0 0) a j = fI hc' a j := by
              intro a j h1
              rw [fI_n (by omega)]
              show fI g2 a j = _
              rw [d5.1 _ _ (fun c => c), b2.1 a j (by unfold xF; omega), fI_n (by omega), fI_n (by omega)]
              show fI (sF hc' 0 17 (fI hc' 4 10)) a j = _
              rw [fI_n (by omega)]
            have u2 : ∀ a, 110 ≤ a → aI (sF (sA g2 83 53 (nI (lc + 1))) 81 0 0) a = aI hc' a := by
              intro a h1
              show aI (sA g2 83 53 (nI (lc + 1))) a = _
              rw [ps_aAn _ _ _ _ _ (by omega), d5.2.1 a (by omega), b2.2.1 a (by unfold xA; omega)]
              rfl
            have u3 : ∀ a, ln (sF (sA g2 83 53 (nI (lc + 1))) 81 0 0) a = ln hc' a := by
              intro a
              show ln g2 a = _
              rw [d5.2.2.2.2.1, b2.2.2.2.2.1]
              rfl
            have u4 : sz (sF (sA g2 83 53 (nI (lc + 1))) 81 0 0) = sz hc' := by
              show sz g2 = _
              rw [d5.2.2.2.2.2, b2.2.2.2.2.2]
              rfl
            refine TxI_same hX ⟨u1 _ _ (by omega), u1 _ _ (by omega), u2 _ (by omega), u2 _ (by omega), u3 _, u3 _, ?_⟩
            have := hX.2.1
            unfold tg at this ⊢
            rw [u4]
            exact this
          obtain ⟨m1, m2, m3, m4, m5⟩ := i6
          refine INV_law (T := T) (D := D) hI0 i1 i2 i3 i7 h6 ?_ (fun a hal => ?_) F1 F2 (fun a hne => ?_) (fun t ht => ?_) ?_ ?_ ?_ ⟨?_, ?_, ?_, ?_, fun i hi => ?_⟩ ?_ ?_ kag hT hn0 hn12 hD X2 ⟨?_, fun x hx => ?_⟩
          · show sz g2 = _
            rw [d5.2.2.2.2.2, b2.2.2.2.2.2]
            exact ez
          · show ln g2 a = _
            rw [d5.2.2.2.2.1, b2.2.2.2.2.1]
            exact q4 a hal
          · rw [eO]
            have : aO (sO (sF hc' 0 17 (fI hc' 4 10)) 38 lc (some (sz h))) a = aO (sF hc' 0 17 (fI hc' 4 10)) a := by
              funext z
              show (if a = 38 then _ else aO (sF hc' 0 17 (fI hc' 4 10)) a z) = _
              rw [if_neg hne]
            rw [this]
            exact q3 a
          · rw [eO]
            rw [aO_n ht, q3 38]
          · rw [eO]
            exact aO_s
          · rw [eF, fI_n (by omega), fI_n (by omega)]
            exact q16
          · rw [eG 13 (by omega)]
            exact b3
          · rw [eF, eG 14 (by omega), fI_n (by omega), fI_n (by omega)]
            show fI (sF hc' 0 17 (fI hc' 4 10)) 0 17 = _
            rw [fI_s]
            exact b4
          · rw [F1 0 18 (by omega) (by unfold lwF; omega), F1 81 6 (by omega) (by unfold lwF; omega)]
            exact m2
          · rw [eF, fI_s, fI_s]
          · rw [fI_n (by omega), fI_n (by omega)]
            show fI g2 60 6 = fI g2 81 46
            rw [d5.1 _ _ (fun c => c), d5.1 _ _ (fun c => c), b2.1 60 6 (by unfold xF; omega), b2.1 81 46 (by unfold xF; omega), fI_n (by omega), fI_n (by omega), fI_n (by omega), fI_n (by omega)]
            show fI (sF hc' 0 17 (fI hc' 4 10)) 60 6 = fI (sF hc' 0 17 (fI hc' 4 10)) 81 46
            rw [fI_n (by omega), fI_n (by omega), a3.1 60 6 (by omega) (by show 60 < sz h; omega), a3.1 81 46 (by omega) (by show 81 < sz h; omega), fI_n (by omega), fI_n (by omega)]
            exact m4
          · rw [F2 25 (by omega) (by unfold lwA; omega), F2 82 (by omega) (by unfold lwA; omega)]
            exact m5 i hi
          · rw [fI_n (by omega)]
            show fI g2 32 3 = _
            rw [d5.1 _ _ (fun c => c), b2.1 32 3 (by unfold xF; omega), fI_n (by omega), fI_s]
          · show aI (sA g2 83 53 (nI (lc + 1))) 83 53 = _
            exact aI_s
          · show aI (sA g2 83 53 (nI (lc + 1))) 83 (55 + lc) = _
            rw [aI_n (by omega)]
            exact d2
          · show aI (sA g2 83 53 (nI (lc + 1))) 83 (62 + (400 * lc + x)) = _ ∧ aI (sA g2 83 53 (nI (lc + 1))) 83 (2862 + (400 * lc + x)) = _
            rw [aI_n (by omega), aI_n (by omega)]
            exact d3 x hx
      · exact absurd eb (by simp)
    · subst er
      have g13 : RB bt tl (sA (sF (sF hc' 0 17 (fI hc' 4 10)) 0 19 (-6)) 25 6 (aI (sF hc' 0 17 (fI hc' 4 10)) 25 6 + 1)) := by
        refine ⟨fun i hi => ?_, fun i hi => ?_⟩
        · rw [ps_aAn _ _ _ _ _ (by omega)]
          show aI (sF hc' 0 17 (fI hc' 4 10)) 88 i = _
          rw [q2 88 (by omega) (by omega)]; exact (t5 i hi).2
        · rw [ps_aAn _ _ _ _ _ (by omega)]
          show aI (sF hc' 0 17 (fI hc' 4 10)) 87 i = _
          rw [q2 87 (by omega) (by omega)]; exact c3 i hi
      obtain ⟨b, g', b1, b2, b3, b4, b5⟩ := a5 _ g13 (by
        show fI (sF (sF hc' 0 17 (fI hc' 4 10)) 0 19 (-6)) 81 13 = _
        rw [fI_n (by omega), q1 81 13 (by omega) (by omega)]; exact t3)
      rcases b5 with ⟨T, n', s, c, mk, -, er, -⟩ | ⟨-, eb⟩
      · exact absurd er (by simp)
      · subst eb
        refine ⟨-6, sA (sF (sF hc' 0 17 (fI hc' 4 10)) 0 19 (-6)) 25 6 (aI (sF hc' 0 17 (fI hc' 4 10)) 25 6 + 1), sA (sF g' 81 0 (-6)) 82 6 (aI g' 82 6 + 1), ?_, ?_, tx_ref hI0 rf6 hQ (Fr_mono b2 (fun _ c => c) (fun _ _ c => Or.inl c)) q16 b3 ?_ ?_⟩
        · unfold f_X10_law
          rw [eT, Option.bind_some]
          show (if fI (sF h 0 16 0) 32 3 < 6 then (f_X5_read (nI tl) 0 (sF h 0 16 0)).bind _ else _) = _
          rw [if_pos l6, a1', Option.bind_some]
          show (f_X10_answer (-6) (sF hc' 0 17 (fI hc' 4 10))).bind _ = _
          rw [c_ansR rf6, Option.bind_some]
        · unfold f_X11_law
          have w : aI (sA (sF (sF hc' 0 17 (fI hc' 4 10)) 0 19 (-6)) 25 6 (aI (sF hc' 0 17 (fI hc' 4 10)) 25 6 + 1)) 83 53 = nI lc := by
            rw [ps_aAn _ _ _ _ _ (by omega)]
            show aI (sF hc' 0 17 (fI hc' 4 10)) 83 53 = _
            rw [q2 83 (by omega) (by omega)]; exact e53
          rw [w, if_neg (show ¬ nI lc = 6 from fun d => by have := (nI_eq (by omega) (by omega)).mp (show nI lc = nI 6 from d); omega), show f_X11_readsAs (0 : Int32) _ = some (false, g') from b1, Option.bind_some, if_neg Bool.false_ne_true]
          show (f_X11_refuses (-6) g').bind _ = _
          rw [m_ref rf6, Option.bind_some]
        · rw [fI_s]; exact b4
        · obtain ⟨m1, m2, m3, m4, m5⟩ := i6
          rw [b2.1 81 46 (by unfold xF; omega)]
          show _ = fI (sF (sF hc' 0 17 (fI hc' 4 10)) 0 19 (-6)) 81 46
          rw [fI_n (by omega), fI_n (by omega), fI_n (by omega), a3.1 60 6 (by omega) (by show 60 < sz h; omega), a3.1 81 46 (by omega) (by show 81 < sz h; omega), fI_n (by omega), fI_n (by omega)]
          exact m4
  · have e6 : lc = 6 := by omega
    subst e6
    have hQ := QFr_0 h
    refine ⟨-5, sA (sF (sF h 0 16 0) 0 19 (-5)) 25 5 (aI (sF h 0 16 0) 25 5 + 1), sA (sF (sF (sA (sF (sF h 0 16 0) 0 19 (-5)) 25 5 (aI (sF h 0 16 0) 25 5 + 1)) 81 13 0) 81 0 (-5)) 82 5 (aI (sF (sA (sF (sF h 0 16 0) 0 19 (-5)) 25 5 (aI (sF h 0 16 0) 25 5 + 1)) 81 13 0) 82 5 + 1), ?_, ?_, tx_ref (g1 := sF (sA (sF (sF h 0 16 0) 0 19 (-5)) 25 5 (aI (sF h 0 16 0) 25 5 + 1)) 81 13 0) hI0 rf5 hQ (Fr_sF (Or.inl ⟨rfl, by omega⟩)) fI_s fI_s ?_ ?_⟩
    · unfold f_X10_law
      rw [eT, Option.bind_some]
      show (if fI (sF h 0 16 0) 32 3 < 6 then _ else (f_X10_answer (-5) (sF h 0 16 0)).bind _) = _
      rw [if_neg (by rw [fI_n (by omega), f3]; decide), c_ansR rf5, Option.bind_some]
    · unfold f_X11_law
      have w : aI (sA (sF (sF h 0 16 0) 0 19 (-5)) 25 5 (aI (sF h 0 16 0) 25 5 + 1)) 83 53 = nI 6 := by
        rw [ps_aAn _ _ _ _ _ (by omega)]
        exact e53
      rw [w, if_pos (show nI 6 = 6 from rfl), m_ref rf5, Option.bind_some]
    · obtain ⟨m1, m2, m3, m4, m5⟩ := i6
      rw [fI_n (by omega), fI_n (by omega)]
      show _ = fI (sF (sF h 0 16 0) 0 19 (-5)) 81 14
      rw [fI_n (by omega), fI_n (by omega)]
      exact m1
    · obtain ⟨m1, m2, m3, m4, m5⟩ := i6
      rw [fI_n (by omega), fI_n (by omega)]
      show _ = fI (sF (sF h 0 16 0) 0 19 (-5)) 81 46
      rw [fI_n (by omega), fI_n (by omega)]
      exact m4
