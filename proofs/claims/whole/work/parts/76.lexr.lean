/-! ===== the reference's tokens; both ===== -/
theorem m_value {bt : Nat → Nat} {len p e t : Nat} {g : Hp} (hl : len ≤ 400) (hbb : ∀ i, bt i < 256) (hb : ∀ i, i < len → aI g 88 i = sb (bt i)) (hp : p < e) (he : e ≤ len) (ht : t < 401) (h18 : fI g 81 18 = nI t) (h0 : aI g 91 t = 0) :
    ∃ g', lp (fun s : Int32 × Hp => b_X11_splits_169_7 (nI len) (sb (bt p)) (nI e) s.1 s.2) FU (nI p, g) = some g' ∧ ((isD (bt p) = false → aI g' 91 t = 0) ∧ ((∀ x, p ≤ x → x < e → isD (bt x) = true) → aI g' 91 t = nI (vF bt p (e - p)))) ∧ (∀ j, j ≠ t → aI g' 91 j = aI g 91 j) ∧ Fr (fun a => a = 91) noF g g' := by
  cases cd : isD (bt p) with
  | false =>
    refine ⟨g, lp_eF ?_, ⟨fun _ => h0, fun c => ?_⟩, fun j _ => rfl, Fr_rfl⟩
    · show b_X11_splits_169_7 (nI len) (sb (bt p)) (nI e) (nI p) g = _
      unfold b_X11_splits_169_7
      rw [if_neg (nI_ge hp (by omega)), srD (hbb p), Option.bind_some, cd, if_neg (by decide)]
    · have := c p (Nat.le_refl _) hp
      rw [cd] at this
      cases this
  | true =>
    by_cases hall : ∀ x, p ≤ x → x < e → isD (bt x) = true
    · have key := lp_inv (b := fun s : Int32 × Hp => b_X11_splits_169_7 (nI len) (sb (bt p)) (nI e) s.1 s.2) (fun i s => s.1 = nI (p + i) ∧ aI s.2 91 t = nI (vF bt p i) ∧ (∀ j, j ≠ t → aI s.2 91 j = aI g 91 j) ∧ Fr (fun a => a = 91) noF g s.2) (fun g' => aI g' 91 t = nI (vF bt p (e - p)) ∧ (∀ j, j ≠ t → aI g' 91 j = aI g 91 j) ∧ Fr (fun a => a = 91) noF g g') (e - p) (nI p, g) (by omega) ⟨rfl, h0, fun j _ => rfl, Fr_rfl⟩ ?_ ?_
      · obtain ⟨g', k1, k2, k3, k4⟩ := key
        exact ⟨g', k1, ⟨fun c => (by cases c), fun _ => k2⟩, k3, k4⟩
      · rintro i ⟨x5, g1⟩ hi ⟨q1, q2, q3, q4⟩
        dsimp only at q1 q2 q3 q4
        subst q1
        left
        have hd1 : 48 ≤ bt (p + i) ∧ bt (p + i) ≤ 57 := by
          have := hall (p + i) (by omega) (by omega)
          unfold isD at this
          simpa using this
        have hv := vF_bd bt p hbb i
        have e18 : fI g1 81 18 = nI t := (q4.1 81 18 (fun c => c)).trans h18
        have e88 : aI g1 88 (p + i) = nI (bt (p + i)) := by
          rw [q4.2.1 88 (by omega), hb _ (by omega), sb_lo _ (by omega)]
        refine ⟨(nI (p + (i + 1)), sA g1 91 t (nI (vF bt p (i + 1)))), ?_, rfl, aI_s, fun j hj => ?_, Fr_tA q4 rfl⟩
        · show b_X11_splits_169_7 (nI len) (sb (bt p)) (nI e) (nI (p + i)) g1 = _
          unfold b_X11_splits_169_7
          rw [if_neg (nI_ge (by omega) (by omega)), srD (hbb p), Option.bind_some, cd, if_pos rfl, e18, inb_nI ht (by omega), Option.bind_some, q2]
          unfold j_X11_splits_240_169
          by_cases c : vF bt p i ≤ 1000000
          · have ev : vF bt p (i + 1) = 10 * vF bt p i + (bt (p + i) - 48) := by
              show (if vF bt p i ≤ 1000000 then _ else _) = _
              rw [if_pos c]
            rw [if_pos (show nI (vF bt p i) ≤ 1000000 from nI_le (a := vF bt p i) (b := 1000000) c (by omega)), Option.bind_some, inb_nI (show p + i < 400 by omega) (by omega), Option.bind_some, q2, e88, l10_, pk_mul, nI_add, show ((48 : Int32)) = nI 48 from rfl, pk_sub (by omega), inb_nI ht (by omega), Option.bind_some, nI_1, ev, show 10 * vF bt p i + bt (p + i) - 48 = 10 * vF bt p i + (bt (p + i) - 48) by omega]
            rfl
          · have ev : vF bt p (i + 1) = vF bt p i := by
              show (if vF bt p i ≤ 1000000 then _ else _) = _
              rw [if_neg c]
            rw [if_neg (show ¬ nI (vF bt p i) ≤ 1000000 from nI_ge (a := 1000000) (b := vF bt p i) (by omega) (by omega)), Option.bind_some, q2, inb_nI ht (by omega), Option.bind_some, nI_1, ev]
            rfl
        · show aI (sA g1 91 t _) 91 j = _
          rw [aI_n hj, q3 j hj]
      · rintro ⟨x5, g1⟩ ⟨q1, q2, q3, q4⟩
        dsimp only at q1 q2 q3 q4
        subst q1
        refine ⟨g1, ?_, q2, q3, q4⟩
        show b_X11_splits_169_7 (nI len) (sb (bt p)) (nI e) (nI (p + (e - p))) g1 = _
        unfold b_X11_splits_169_7
        rw [show p + (e - p) = e by omega, if_pos (Int32.le_refl _)]
    · -- not wanted: the run would not be one of digits
      have key := lp_inv (b := fun s : Int32 × Hp => b_X11_splits_169_7 (nI len) (sb (bt p)) (nI e) s.1 s.2) (fun i s => s.1 = nI (p + i) ∧ (∀ j, j ≠ t → aI s.2 91 j = aI g 91 j) ∧ Fr (fun a => a = 91) noF g s.2) (fun g' => (∀ j, j ≠ t → aI g' 91 j = aI g 91 j) ∧ Fr (fun a => a = 91) noF g g') (e - p) (nI p, g) (by omega) ⟨rfl, fun j _ => rfl, Fr_rfl⟩ ?_ ?_
      · obtain ⟨g', k1, k3, k4⟩ := key
        exact ⟨g', k1, ⟨fun c => (by cases c), fun c => absurd c hall⟩, k3, k4⟩
      · rintro i ⟨x5, g1⟩ hi ⟨q1, q3, q4⟩
        dsimp only at q1 q3 q4
        subst q1
        left
        have e18 : fI g1 81 18 = nI t := (q4.1 81 18 (fun c => c)).trans h18
        show ∃ s', b_X11_splits_169_7 (nI len) (sb (bt p)) (nI e) (nI (p + i)) g1 = some (.inl s') ∧ _
        unfold b_X11_splits_169_7
        rw [if_neg (nI_ge (by omega) (by omega)), srD (hbb p), Option.bind_some, cd, if_pos rfl, e18, inb_nI ht (by omega), Option.bind_some]
        unfold j_X11_splits_240_169
        rw [inb_nI ht (by omega), inb_nI (show p + i < 400 by omega) (by omega)]
        simp only [Option.bind_some, nI_1]
        by_cases c : aI g1 91 t ≤ 1000000
        · rw [if_pos c]
          exact ⟨_, rfl, rfl, fun j hj => by show aI (sA g1 91 t _) 91 j = _; rw [aI_n hj, q3 j hj], Fr_tA q4 rfl⟩
        · rw [if_neg c]
          exact ⟨_, rfl, rfl, fun j hj => by show aI (sA g1 91 t _) 91 j = _; rw [aI_n hj, q3 j hj], Fr_tA q4 rfl⟩
      · rintro ⟨x5, g1⟩ ⟨q1, q3, q4⟩
        dsimp only at q1 q3 q4
        subst q1
        refine ⟨g1, ?_, q3, q4⟩
        show b_X11_splits_169_7 (nI len) (sb (bt p)) (nI e) (nI (p + (e - p))) g1 = _
        unfold b_X11_splits_169_7
        rw [show p + (e - p) = e by omega, if_pos (Int32.le_refl _)]
theorem m_tok {bt : Nat → Nat} {len p t : Nat} {g : Hp} (hB : Bts bt len) (hbb : ∀ i, bt i < 256) (hb : RB bt len g) (hp : p < len) (ht : t ≤ p) (h18 : fI g 81 18 = nI t) (h32 : bt p ≠ 32) {e : Nat} (he : e ≤ len) (hpe : p < e) (hrun : (isL (bt p) = true ∧ (∀ x, p + 1 ≤ x → x < e → isL (bt x) = true) ∧ (e < len → isL (bt e) = false)) ∨ (isD (bt p) = true ∧ (∀ x, p + 1 ≤ x → x < e → isD (bt x) = true) ∧ (e < len → isD (bt e) = false)) ∨ (isL (bt p) = false ∧ isD (bt p) = false ∧ e = p + 1)) {w : Nat} (hw27 : w ≤ 27) (hw : isL (bt p) = true → f_X11_wordOf (nI p) (nI e) (sA (sA g 92 t (nI p)) 91 t 0) = some (nI (rk w))) :
    ∃ g' k, b_X11_splits_7 (nI len) (nI p) g = some (.inl (nI e, g')) ∧ fI g' 81 18 = nI (t + 1) ∧ aI g' 90 t = nI (rk k) ∧ aI g' 92 t = nI p ∧ aI g' 91 t = nI (if isD (bt p) = true then vF bt p (e - p) else 0) ∧ (∀ j, j < t → aI g' 90 j = aI g 90 j ∧ aI g' 91 j = aI g 91 j ∧ aI g' 92 j = aI g 92 j) ∧ Fr spA spF g g' ∧ k = (if isL (bt p) = true then w else if isD (bt p) = true then 28 else 100 + bt p) := by
  have hl := hB.1
  obtain ⟨s1, s2, s3, s4, -, -⟩ := sb_t (bt p) (hbb p)
  have hLD : isL (bt p) = true → isD (bt p) = false := by
    unfold isL isD
    intro c
    simp at c ⊢
    omega
  -- to the end of the run
  have e1 : b_X11_splits_7 (nI len) (nI p) g = j_X11_splits_100_7 (nI len) (nI p) (sb (bt p)) (nI e) g := by
    unfold b_X11_splits_7
    rw [if_neg (nI_ge hp (by omega)), inb_nI (show p < 400 by omega) (by omega)]
    simp only [Option.bind_some]
    rw [hb.1 p hp, if_neg (fun c => h32 (s3.mp c)), srL (hbb p)]
    simp only [Option.bind_some]
    have e68 : ∀ x : Nat, (isD (bt p) = false → x = e) → (isD (bt p) = true → x = p + 1) → j_X11_splits_68_7 (nI len) (nI p) (sb (bt p)) (nI x) g = j_X11_splits_100_7 (nI len) (nI p) (sb (bt p)) (nI e) g := by
      intro x hx1 hx2
      unfold j_X11_splits_68_7
      rw [srD (hbb p), Option.bind_some]
      cases cd : isD (bt p) with
      | false => rw [if_neg (by decide), hx1 cd]
      | true =>
        rw [if_pos rfl, hx2 cd]
        rcases hrun with ⟨r0, -, -⟩ | ⟨-, r1, r2⟩ | ⟨-, r0, -⟩
        · have := hLD r0; rw [cd] at this; cases this
        · have lr : lp (fun s => b_X11_splits_75_7 (nI len) (nI p) (sb (bt p)) s g) FU (nI (p + 1)) = some (nI e) := by
            refine lp_runE (f := fun x => isD (bt x)) hl (show p + 1 ≤ e by omega) he r1 r2 (fun x hx hf => ?_) (fun x hx hf => ?_) ?_
            · show b_X11_splits_75_7 (nI len) (nI p) (sb (bt p)) (nI x) g = _
              unfold b_X11_splits_75_7
              rw [if_neg (nI_ge hx (by omega)), inb_nI (show x < 400 by omega) (by omega), Option.bind_some, hb.1 x hx, srD (hbb x), Option.bind_some, if_pos hf, nI_1]
            · show b_X11_splits_75_7 (nI len) (nI p) (sb (bt p)) (nI x) g = _
              unfold b_X11_splits_75_7
              rw [if_neg (nI_ge hx (by omega)), inb_nI (show x < 400 by omega) (by omega), Option.bind_some, hb.1 x hx, srD (hbb x), Option.bind_some, if_neg (show ¬ isD (bt x) = true by rw [show isD (bt x) = false from hf]; decide)]
            · show b_X11_splits_75_7 (nI len) (nI p) (sb (bt p)) (nI len) g = _
              unfold b_X11_splits_75_7
              rw [if_pos (Int32.le_refl _)]
          rw [lr, Option.bind_some]
        · rw [cd] at r0; cases r0
    cases cl : isL (bt p) with
    | true =>
      rcases hrun with ⟨-, r1, r2⟩ | ⟨r0, -, -⟩ | ⟨r0, -, -⟩
      · have lr : lp (fun s => b_X11_splits_43_7 (nI len) (nI p) (sb (bt p)) s g) FU (nI (p + 1)) = some (nI e) := by
          refine lp_runE (f := fun x => isL (bt x)) hl (show p + 1 ≤ e by omega) he r1 r2 (fun x hx hf => ?_) (fun x hx hf => ?_) ?_
          · show b_X11_splits_43_7 (nI len) (nI p) (sb (bt p)) (nI x) g = _
            unfold b_X11_splits_43_7
            rw [if_neg (nI_ge hx (by omega)), inb_nI (show x < 400 by omega) (by omega), Option.bind_some, hb.1 x hx, srL (hbb x), Option.bind_some, if_pos hf, nI_1]
          · show b_X11_splits_43_7 (nI len) (nI p) (sb (bt p)) (nI x) g = _
            unfold b_X11_splits_43_7
            rw [if_neg (nI_ge hx (by omega)), inb_nI (show x < 400 by omega) (by omega), Option.bind_some, hb.1 x hx, srL (hbb x), Option.bind_some, if_neg (show ¬ isL (bt x) = true by rw [show isL (bt x) = false from hf]; decide)]
          · show b_X11_splits_43_7 (nI len) (nI p) (sb (bt p)) (nI len) g = _
            unfold b_X11_splits_43_7
            rw [if_pos (Int32.le_refl _)]
        rw [if_pos rfl, nI_1, lr, Option.bind_some]
        exact e68 e (fun _ => rfl) (fun c => by have := hLD cl; rw [c] at this; cases this)
      · have := hLD cl; rw [r0] at this; cases this
      · rw [cl] at r0; cases r0
    | false =>
      rw [if_neg (by decide), nI_1]
      refine e68 (p + 1) (fun c => ?_) (fun _ => rfl)
      rcases hrun with ⟨r0, -, -⟩ | ⟨r0, -, -⟩ | ⟨-, -, r0⟩
      · rw [cl] at r0; cases r0
      · rw [c] at r0; cases r0
      · exact r0.symm
  have e18 : ∀ (x : Int32) (y : Int32), fI (sA (sA g 92 t x) 91 t y) 81 18 = nI t := fun x y => h18
  have e2 : ∃ k, j_X11_splits_100_7 (nI len) (nI p) (sb (bt p)) (nI e) g = j_X11_splits_165_7 (nI len) (nI p) (sb (bt p)) (nI e) (nI t) (nI (rk k)) (sA (sA g 92 t (nI p)) 91 t 0) ∧ k = (if isL (bt p) = true then w else if isD (bt p) = true then 28 else 100 + bt p) := by
    refine ⟨_, ?_, rfl⟩
    unfold j_X11_splits_100_7
    rw [h18, inb_nI (show t < 401 by omega) (by omega)]
    simp only [Option.bind_some]
    rw [show fI (sA g 92 t (nI p)) 81 18 = nI t from h18, inb_nI (show t < 401 by omega) (by omega)]
    simp only [Option.bind_some]
    rw [srL (hbb p), srD (hbb p), e18, s4]
    simp only [Option.bind_some]
    cases cl : isL (bt p) with
    | true => rw [if_pos rfl, if_pos rfl, hw cl, Option.bind_some]
    | false =>
      cases cd : isD (bt p) with
      | true => rfl
      | false =>
        show _ = j_X11_splits_165_7 (nI len) (nI p) (sb (bt p)) (nI e) (nI t) (nI (rk (100 + bt p))) (sA (sA g 92 t (nI p)) 91 t 0)
        rw [rk_hi (by omega)]
        rfl
  obtain ⟨k, e3, hk⟩ := e2
  obtain ⟨g', m1, m2, m3, m4⟩ := m_value (t := t) (g := sA (sA (sA g 92 t (nI p)) 91 t 0) 90 t (nI (rk k))) hl hbb (fun i hi => by rw [ps_aAn _ _ _ _ _ (by omega), ps_aAn _ _ _ _ _ (by omega), ps_aAn _ _ _ _ _ (by omega)]; exact hb.1 i hi) hpe he (by omega) h18 (by rw [ps_aAn _ _ _ _ _ (by omega), aI_s])
  refine ⟨sF g' 81 18 (nI (t + 1)), k, ?_, fI_s, ?_, ?_, ?_, fun j hj => ⟨?_, ?_, ?_⟩, ?_, hk⟩
  · rw [e1, e3]
    unfold j_X11_splits_165_7
    rw [inb_nI (show t < 401 by omega) (by omega), Option.bind_some, m1, Option.bind_some]
    unfold j_X11_splits_247_7
    rw [show fI g' 81 18 = nI t from (m4.1 81 18 (fun c => c)).trans h18, nI_1]
  · show aI g' 90 t = _
    rw [m4.2.1 90 (by omega), aI_s]
  · show aI g' 92 t = _
    rw [m4.2.1 92 (by omega), ps_aAn _ _ _ _ _ (by omega), ps_aAn _ _ _ _ _ (by omega), aI_s]
  · show aI g' 91 t = _
    cases cd : isD (bt p) with
    | false => rw [if_neg (by decide)]; exact m2.1 cd
    | true =>
      rw [if_pos rfl]
      refine m2.2 (fun x h1 h2 => ?_)
      by_cases c : x = p
      · rw [c]; exact cd
      · rcases hrun with ⟨r0, -, -⟩ | ⟨-, r1, -⟩ | ⟨-, r0, -⟩
        · have := hLD r0; rw [cd] at this; cases this
        · exact r1 x (by omega) h2
        · rw [cd] at r0; cases r0
  · show aI g' 90 j = _
    rw [m4.2.1 90 (by omega), aI_n (by omega), ps_aAn _ _ _ _ _ (by omega), ps_aAn _ _ _ _ _ (by omega)]
  · show aI g' 91 j = _
    rw [m3 j (by omega), ps_aAn _ _ _ _ _ (by omega), aI_n (by omega), ps_aAn _ _ _ _ _ (by omega)]
  · show aI g' 92 j = _
    rw [m4.2.1 92 (by omega), ps_aAn _ _ _ _ _ (by omega), ps_aAn _ _ _ _ _ (by omega), aI_n (by omega)]
  · exact Fr_tF (Fr_tr (Fr_tA (Fr_tA (Fr_sA (Or.inr (Or.inr rfl))) (Or.inr (Or.inl rfl))) (Or.inl rfl)) (Fr_mono m4 (fun a c => Or.inr (Or.inl c)) (fun a k c => c.elim))) ⟨rfl, rfl⟩
/-- both cut the same bytes into the same tokens -/
theorem lex {bt : Nat → Nat} {len : Nat} {hc g : Hp} (hB : Bts bt len) (hbb : ∀ i, bt i < 256) (hb : CB bt len hc) (hr : RB bt len g) : ∃ T hc' g', f_X5_cut (nI len) hc = some ((), hc') ∧ f_X11_splits (nI len) g = some ((), g') ∧ TF T ∧ TK T hc' ∧ TR T g' ∧ Fr ctA noF hc hc' ∧ Fr spA spF g g' := by
  have hl := hB.1
  have key := lp_two (b₁ := fun s : Int32 × Int32 × Hp => b_X5_cut_5 (nI len) s.1 s.2.1 s.2.2) (b₂ := fun s : Int32 × Hp => b_X11_splits_7 (nI len) s.1 s.2)
    (fun idx s r => ∃ p t kd vl ps, idx ≤ p ∧ p ≤ len ∧ t ≤ p ∧ s.1 = nI t ∧ s.2.1 = nI p ∧ r.1 = nI p ∧ fI r.2 81 18 = nI t ∧ Tk kd vl ps t s.2.2 r.2 ∧ (∀ i, vl i < 2 ^ 31) ∧ Fr ctA noF hc s.2.2 ∧ Fr spA spF g r.2)
    (fun e f => ∃ t kd vl ps, t ≤ 400 ∧ e.1 = nI t ∧ fI f 81 18 = nI t ∧ Tk kd vl ps t e.2 f ∧ (∀ i, vl i < 2 ^ 31) ∧ Fr ctA noF hc e.2 ∧ Fr spA spF g f)
    401 ((0 : Int32), (0 : Int32), hc) ((0 : Int32), sF g 81 18 (0 : Int32)) (by omega) ⟨0, 0, fun _ => 0, fun _ => 0, fun _ => 0, Nat.le_refl _, Nat.zero_le _, Nat.le_refl _, rfl, rfl, rfl, fI_s, fun i hi => absurd hi (Nat.not_lt_zero _), fun _ => by show 0 < 2 ^ 31; omega, Fr_rfl, Fr_sF ⟨rfl, rfl⟩⟩ ?_ ?_
  · obtain ⟨e, f, k1, k2, t, kd, vl, ps, k3, k4, k5, k6, k7, k8, k9⟩ := key
    refine ⟨(fun i => if i = t then 29 else kd i, vl, fun i => if i = t then len else ps i, t), sA (sA e.2 6 t (nI len)) 5 t (nI 29), sA (sA (sA f 92 t (nI len)) 90 t 0) 91 t 0, ?_, ?_, ⟨k3, if_pos rfl, fun i hi => ?_, fun i hi => ?_, k7⟩, ⟨fun i hi => ?_, fun i hi hk => ?_⟩, ⟨fun i hi => ?_, fun i hi => ?_, k5⟩, Fr_tA (Fr_tA k8 (Or.inr (Or.inl rfl))) (Or.inl rfl), Fr_tA (Fr_tA (Fr_tA k9 (Or.inr (Or.inr rfl))) (Or.inl rfl)) (Or.inr (Or.inl rfl))⟩
    · unfold f_X5_cut
      rw [k1, Option.bind_some, k4]
      unfold j_X5_cut_170
      rw [inb_nI (show t < 401 by omega) (by omega), Option.bind_some, Option.bind_some]
      rfl
    · unfold f_X11_splits
      rw [k2, Option.bind_some, k5, inb_nI (show t < 401 by omega) (by omega), Option.bind_some, show fI (sA f 92 t (nI len)) 81 18 = nI t from k5, inb_nI (show t < 401 by omega) (by omega), Option.bind_some, show fI (sA (sA f 92 t (nI len)) 90 t 0) 81 18 = nI t from k5, inb_nI (show t < 401 by omega) (by omega), Option.bind_some]
    · have hi : i < t := hi
      have q := k6 i hi
      show (if i = t then 29 else kd i) ≠ 29 ∧ (if i = t then 29 else kd i) < 400 ∧ ((if i = t then 29 else kd i) < 29 ∨ 100 ≤ (if i = t then 29 else kd i))
      rw [if_neg (by omega)]
      exact ⟨q.2.2.2.2.2.2.1, q.2.2.2.2.2.2.2.1, q.2.2.2.2.2.2.2.2.1⟩
    · have hi : i ≤ t := hi
      show (if i = t then len else ps i) ≤ 400
      by_cases c : i = t
      · rw [if_pos c]; exact hl
      · rw [if_neg c]; exact (k6 i (by omega)).2.2.2.2.2.2.2.2.2
    · have hi : i ≤ t := hi
      show aI (sA (sA e.2 6 t (nI len)) 5 t (nI 29)) 5 i = nI (if i = t then 29 else kd i) ∧ aI (sA (sA e.2 6 t (nI len)) 5 t (nI 29)) 6 i = nI (if i = t then len else ps i)
      by_cases c : i = t
      · subst c
        rw [if_pos rfl, if_pos rfl]
        exact ⟨aI_s, by rw [ps_aAn _ _ _ _ _ (by omega), aI_s]⟩
      · have q := k6 i (by omega)
        rw [if_neg c, if_neg c]
        exact ⟨by rw [aI_n c, ps_aAn _ _ _ _ _ (by omega)]; exact q.1, by rw [ps_aAn _ _ _ _ _ (by omega), aI_n c]; exact q.2.1⟩
    · have hi : i < t := hi
      have q := k6 i hi
      have hk : (if i = t then 29 else kd i) = 28 := hk
      rw [if_neg (by omega)] at hk
      show aI (sA (sA e.2 6 t (nI len)) 5 t (nI 29)) 7 i = nI (min (vl i) 1001)
      rw [ps_aAn _ _ _ _ _ (by omega), ps_aAn _ _ _ _ _ (by omega)]
      exact q.2.2.1 hk
    · have hi : i ≤ t := hi
      show aI (sA (sA (sA f 92 t (nI len)) 90 t 0) 91 t 0) 90 i = nI (rk (if i = t then 29 else kd i)) ∧ aI (sA (sA (sA f 92 t (nI len)) 90 t 0) 91 t 0) 92 i = nI (if i = t then len else ps i)
      by_cases c : i = t
      · subst c
        rw [if_pos rfl, if_pos rfl, ps_aAn _ _ _ _ _ (by omega), aI_s, ps_aAn _ _ _ _ _ (by omega), ps_aAn _ _ _ _ _ (by omega), aI_s]
        exact ⟨rfl, rfl⟩
      · have q := k6 i (by omega)
        rw [if_neg c, if_neg c, ps_aAn _ _ _ _ _ (by omega), aI_n c, ps_aAn _ _ _ _ _ (by omega), ps_aAn _ _ _ _ _ (by omega), ps_aAn _ _ _ _ _ (by omega), aI_n c]
        exact ⟨q.2.2.2.1, q.2.2.2.2.1⟩
    · have hi : i < t := hi
      have q := k6 i hi
      show aI (sA (sA (sA f 92 t (nI len)) 90 t 0) 91 t 0) 91 i = nI (vl i)
      rw [aI_n (by omega), ps_aAn _ _ _ _ _ (by omega), ps_aAn _ _ _ _ _ (by omega)]
      exact q.2.2.2.2.2.1
  · rintro idx ⟨x3, x4, h1⟩ ⟨x2, g1⟩ hidx ⟨p, t, kd, vl, ps, q1, q2, q3, q4, q5, q6, q7, q8, q9, q10, q11⟩
    dsimp only at q4 q5 q6 q7 q8 q10 q11
    subst q4
    subst q5
    subst q6
    have hb1 : CB bt len h1 := fun i hi => by rw [q10.2.1 3 (by unfold ctA; omega)]; exact hb i hi
    have hr1 : RB bt len g1 := ⟨fun i hi => by rw [q11.2.1 88 (by unfold spA; omega)]; exact hr.1 i hi, fun k hk => by rw [q11.2.1 87 (by unfold spA; omega)]; exact hr.2 k hk⟩
    by_cases hp : p < len
    · left
      by_cases h32 : bt p = 32
      · refine ⟨(nI t, nI (p + 1), h1), (nI (p + 1), g1), ?_, ?_, p + 1, t, kd, vl, ps, by omega, by omega, by omega, rfl, rfl, rfl, q7, q8, q9, q10, q11⟩
        · show b_X5_cut_5 (nI len) (nI t) (nI p) h1 = _
          unfold b_X5_cut_5
          rw [if_neg (nI_ge hp (by omega)), if_neg (show ¬ (400 : Int32) ≤ nI t from nI_ge (a := t) (b := 400) (by omega) (by omega)), inb_nI (show p < 400 by omega) (by omega), Option.bind_some, hb1 p hp, if_pos (show nI (bt p) = 32 by rw [h32]; rfl), nI_1]
        · show b_X11_splits_7 (nI len) (nI p) g1 = _
          unfold b_X11_splits_7
          rw [if_neg (nI_ge hp (by omega)), inb_nI (show p < 400 by omega) (by omega), Option.bind_some, hr1.1 p hp, if_pos ((sb_t (bt p) (hbb p)).2.2.1.mpr h32), nI_1]
      · have hLD : isL (bt p) = true → isD (bt p) = false := by
          unfold isL isD
          intro c
          simp at c ⊢
          omega
        obtain ⟨e, he, hpe, hrun⟩ : ∃ e, e ≤ len ∧ p < e ∧ ((isL (bt p) = true ∧ (∀ x, p + 1 ≤ x → x < e → isL (bt x) = true) ∧ (e < len → isL (bt e) = false)) ∨ (isD (bt p) = true ∧ (∀ x, p + 1 ≤ x → x < e → isD (bt x) = true) ∧ (e < len → isD (bt e) = false)) ∨ (isL (bt p) = false ∧ isD (bt p) = false ∧ e = p + 1)) := by
          cases cl : isL (bt p) with
          | true =>
            obtain ⟨e, e1, e2, e3, e4⟩ := run_end (fun x => isL (bt x)) len (len - (p + 1)) (p + 1) (by omega)
            exact ⟨e, e2, by omega, Or.inl ⟨rfl, e3, e4⟩⟩
          | false =>
            cases cd : isD (bt p) with
            | true =>
              obtain ⟨e, e1, e2, e3, e4⟩ := run_end (fun x => isD (bt x)) len (len - (p + 1)) (p + 1) (by omega)
              exact ⟨e, e2, by omega, Or.inr (Or.inl ⟨rfl, e3, e4⟩)⟩
            | false => exact ⟨p + 1, by omega, by omega, Or.inr (Or.inr ⟨rfl, rfl, rfl⟩)⟩
        have hb6 : CB bt len (sA h1 6 t (nI p)) := fun i hi => by rw [ps_aAn _ _ _ _ _ (by omega)]; exact hb1 i hi
        have hr6 : RB bt len (sA (sA g1 92 t (nI p)) 91 t 0) := ⟨fun i hi => by rw [ps_aAn _ _ _ _ _ (by omega), ps_aAn _ _ _ _ _ (by omega)]; exact hr1.1 i hi, fun k hk => by rw [ps_aAn _ _ _ _ _ (by omega), ps_aAn _ _ _ _ _ (by omega)]; exact hr1.2 k hk⟩
        obtain ⟨w, w1, w2, w3⟩ := two_words hB hb6 hr6 (show p ≤ e by omega) he
        obtain ⟨h', k, a1, a2, a3, a4, a5, a6, a7⟩ := c_tok hB hbb hb1 hp q3 h32 he hpe hrun w1 (fun _ => w2)
        obtain ⟨g', k', b1, b2, b3, b4, b5, b6, b7, b8⟩ := m_tok hB hbb hr1 hp q3 q7 h32 he hpe hrun w1 (fun _ => w3)
        have hkk : k' = k := b8.trans a7.symm
        subst hkk
        have hkb := hbb p
        refine ⟨(nI (t + 1), nI e, h'), (nI e, g'), a1, b1, e, t + 1, (fun i => if i = t then k' else kd i), (fun i => if i = t then (if isD (bt p) = true then vF bt p (e - p) else 0) else vl i), (fun i => if i = t then p else ps i), by omega, he, by omega, rfl, rfl, rfl, b2, fun i hi => ?_, fun i => ?_, Fr_tr q10 a6, Fr_tr q11 b7⟩
        · dsimp only
          by_cases c : i = t
          · subst c
            rw [if_pos rfl, if_pos rfl, if_pos rfl]
            refine ⟨a2, a3, fun hk28 => ?_, b3, b4, b5, ?_, ?_, ?_, by omega⟩
            · rw [a4 hk28]
              cases cd : isD (bt p) with
              | true => rw [if_pos rfl]
              | false =>
                cases cl : isL (bt p) with
                | true => rw [cl, if_pos rfl] at a7; omega
                | false => rw [cl, cd, if_neg (by decide), if_neg (by decide)] at a7; omega
            · rw [a7]; split
              · omega
              · split <;> omega
            · rw [a7]; split
              · omega
              · split <;> omega
            · rw [a7]; split
              · omega
              · split <;> omega
          · have hit : i < t := by omega
            obtain ⟨c1, c2, c3, c4, c5, c6, c7⟩ := q8 i hit
            obtain ⟨d1, d2, d3⟩ := a5 i hit
            obtain ⟨f1, f2, f3⟩ := b6 i hit
            rw [if_neg c, if_neg c, if_neg c]
            exact ⟨d1.trans c1, d2.trans c2, fun hh => d3.trans (c3 hh), f1.trans c4, f3.trans c5, f2.trans c6, c7⟩
        · dsimp only
          by_cases c : i = t
          · rw [if_pos c]
            have := vF_bd bt p hbb (e - p)
            split <;> omega
          · rw [if_neg c]; exact q9 i
    · right
      have hpl : p = len := by omega
      subst hpl
      refine ⟨(nI t, h1), g1, ?_, ?_, t, kd, vl, ps, by omega, rfl, q7, q8, q9, q10, q11⟩
      · show b_X5_cut_5 (nI p) (nI t) (nI p) h1 = _
        unfold b_X5_cut_5
        rw [if_pos (Int32.le_refl _)]
      · show b_X11_splits_7 (nI p) (nI p) g1 = _
        unfold b_X11_splits_7
        rw [if_pos (Int32.le_refl _)]
  · rintro ⟨x3, x4, h1⟩ ⟨x2, g1⟩ ⟨p, t, kd, vl, ps, q1, q2, -⟩
    omega
