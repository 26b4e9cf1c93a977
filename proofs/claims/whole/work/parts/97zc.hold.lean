/-! ===== the reference's holders and seatings ===== -/
def dH : Hp := (fun _ _ => 0, fun _ _ => 0, fun _ _ => 0, fun _ _ => none, fun _ => 0, 0)
/-- a turn of seatsAll: who is next, and what is left -/
def sqs (m i : Nat) (s : Int32 × Int32 × Int32) : Option (Int32 × (Int32 × Int32 × Int32)) :=
  if (nI m - nI i) = 0 then none else
  if (s.2.1 / (nI m - nI i)) = 0 then none else
  (lp (fun t => b_X11_seatsAll_44_13 (s.1 - s.1 / (s.2.1 / (nI m - nI i)) * (s.2.1 / (nI m - nI i))) (s.2.1 / (nI m - nI i)) s.2.2 (nI i) t.1 t.2 dH) FU ((s.1 / (s.2.1 / (nI m - nI i))), (0 : Int32))).bind fun e12 =>
  some (e12, (s.1 - s.1 / (s.2.1 / (nI m - nI i)) * (s.2.1 / (nI m - nI i)), s.2.1 / (nI m - nI i), s.2.2 ||| ((1 : Int32) <<< (e12 &&& 31))))
def sqr (m q : Nat) : Nat → Option (Int32 × Int32 × Int32)
  | 0 => some (nI q, nI (fct m), 0)
  | i + 1 => (sqr m q i).bind fun s => (sqs m i s).bind fun w => if w.1 = nI (dec m q i) then some w.2 else none
theorem sq_all : ∀ m, m ≤ 6 → ∀ q, q < fct m → (sqr m q m).isSome = true := by decide +kernel
theorem sq_dn {m q : Nat} : ∀ n, (sqr m q n).isSome = true → ∀ i, i < n → ∃ s w, sqr m q i = some s ∧ sqs m i s = some w ∧ w.1 = nI (dec m q i) ∧ sqr m q (i + 1) = some w.2
  | 0, _, i, hi => absurd hi (Nat.not_lt_zero _)
  | n + 1, h, i, hi => by
    have e : sqr m q (n + 1) = (sqr m q n).bind fun s => (sqs m n s).bind fun w => if w.1 = nI (dec m q n) then some w.2 else none := rfl
    cases hs : sqr m q n with
    | none => rw [e, hs] at h; cases h
    | some s =>
      by_cases c : i = n
      · subst c
        rw [hs, Option.bind_some] at e
        cases hw : sqs m i s with
        | none => rw [e, hw] at h; cases h
        | some w =>
          rw [hw, Option.bind_some] at e
          by_cases d : w.1 = nI (dec m q i)
          · rw [if_pos d] at e
            exact ⟨s, w, hs, hw, d, e⟩
          · rw [if_neg d] at e
            rw [e] at h
            cases h
      · exact sq_dn n (by rw [hs]; rfl) i (by omega)
def HLD (h : Hp) (K : Nat → Int32) (k : Nat) : Prop := fI h 81 35 = nI (insL K k).length ∧ fI h 81 36 = nI (fct (insL K k).length) ∧ (∀ i, i < (insL K k).length → aI h 97 i = nI ((insL K k).getD i 0)) ∧ (∀ i, i < (insL K k).length → aI h 98 i = nI ((plL K k).getD i 0))
theorem HLD_fr {A : Nat → Prop} {F : Nat → Nat → Prop} {h h' : Hp} {K : Nat → Int32} {k : Nat} (hh : HLD h K k) (hf : Fr A F h h') (h97 : ¬ A 97) (h98 : ¬ A 98) (f35 : ¬ F 81 35) (f36 : ¬ F 81 36) : HLD h' K k := by
  unfold HLD
  rw [hf.1 _ _ f35, hf.1 _ _ f36, hf.2.1 97 h97, hf.2.1 98 h98]
  exact hh
section HLS
variable {K : Nat → Int32} {k : Nat}
theorem m_hold {h : Hp} (e83 : aI h 83 = K) (hw : WF K k) : ∃ h', f_X11_laysHolders h = some ((), h') ∧ HLD h' K k ∧ Fr (fun a => a = 97 ∨ a = 98) (fun a j => a = 81 ∧ (j = 35 ∨ j = 36)) h h' := by
  have h6 := hw.2.1
  have m6 := ins_le hw
  have fl6 : ∀ p, p ≤ 6 → (flt (insb K) p).length ≤ 6 := fun p hp => by rw [flt_len]; have := cntN_le (insb K) p; omega
  have key := lp_inv (b := fun s : Int32 × Hp => b_X11_laysHolders_12 s.1 s.2) (fun p s => s.1 = nI p ∧ fI s.2 81 35 = nI (flt (insb K) p).length ∧ fI s.2 81 36 = nI (fct (flt (insb K) p).length) ∧ (∀ i, i < (flt (insb K) p).length → aI s.2 97 i = nI ((flt (insb K) p).getD i 0)) ∧ Fr (fun a => a = 97 ∨ a = 98) (fun a j => a = 81 ∧ (j = 35 ∨ j = 36)) h s.2) (fun e => fI e 81 35 = nI (flt (insb K) k).length ∧ fI e 81 36 = nI (fct (flt (insb K) k).length) ∧ (∀ i, i < (flt (insb K) k).length → aI e 97 i = nI ((flt (insb K) k).getD i 0)) ∧ Fr (fun a => a = 97 ∨ a = 98) (fun a j => a = 81 ∧ (j = 35 ∨ j = 36)) h e) k ((0 : Int32), sF (sF h 81 35 0) 81 36 1) (by omega) ⟨rfl, by rw [fI_n (by omega), fI_s]; rfl, fI_s, fun i hi => absurd hi (Nat.not_lt_zero _), Fr_tF (Fr_sF (by omega)) (by omega)⟩ ?_ ?_
  · obtain ⟨e, k1, k2, k3, k4, k5⟩ := key
    have e83' : aI e 83 = K := by rw [k5.2.1 83 (by omega), e83]
    have key2 := lp_inv (b := fun s : Int32 × Int32 × Hp => b_X11_laysHolders_74 s.1 s.2.1 s.2.2) (fun t s => s.1 = nI (flt (fun s => occ K k s) t).length ∧ s.2.1 = nI t ∧ (∀ i, i < (flt (fun s => occ K k s) t).length → aI s.2.2 98 i = nI ((flt (fun s => occ K k s) t).getD i 0)) ∧ Fr (fun a => a = 98) noF e s.2.2) (fun e' => (∀ i, i < (flt (fun s => occ K k s) 9).length → aI e' 98 i = nI ((flt (fun s => occ K k s) 9).getD i 0)) ∧ Fr (fun a => a = 98) noF e e') 9 ((0 : Int32), (0 : Int32), e) (by omega) ⟨rfl, rfl, fun i hi => absurd hi (Nat.not_lt_zero _), Fr_rfl⟩ ?_ ?_
    · obtain ⟨e', y1, y2, y3⟩ := key2
      refine ⟨e', ?_, ⟨by rw [y3.1 _ _ (fun c => c)]; exact k2, by rw [y3.1 _ _ (fun c => c)]; exact k3, fun i hi => by rw [y3.2.1 97 (by omega)]; exact k4 i hi, fun i hi => ?_⟩, Fr_tr k5 (Fr_mono y3 (fun _ c => Or.inr c) (fun _ _ c => c.elim))⟩
      · unfold f_X11_laysHolders
        rw [k1, Option.bind_some, y1, Option.bind_some]
      · exact y2 i (by have := len_eq hw; rw [plL_f] at this; omega)
    · rintro t ⟨s1, s2, s3⟩ ht ⟨q1, q2, q3, q4⟩
      dsimp only at q1 q2 q3 q4
      subst q1
      subst q2
      have w3 : aI s3 83 = K := by rw [q4.2.1 83 (by omega), e83']
      refine Or.inl ?_
      show ∃ s', b_X11_laysHolders_74 (nI (flt (fun s => occ K k s) t).length) (nI t) s3 = _ ∧ _
      unfold b_X11_laysHolders_74
      rw [l9_, if_neg (nI_ge ht (by omega)), m_onSeat (k := k) (by rw [w3]; exact hw) (nI_ne1 (by omega)), Option.bind_some, w3, whoK_S]
      have hoc : occ K k t = (whoS K k t).isSome := rfl
      cases hq : whoS K k t with
      | none =>
        have f0 : ¬ occ K k t = true := by rw [hoc, hq]; simp
        have e0 : flt (fun s => occ K k s) (t + 1) = flt (fun s => occ K k s) t := by rw [flt_s, if_neg f0, List.append_nil]
        rw [if_pos rfl, nI_1]
        refine ⟨_, rfl, ?_, rfl, ?_, q4⟩
        · rw [e0]
        · rw [e0]; exact q3
      | some p =>
        have hp6 : p < 6 := by have := (firstM_some hq).2.1; omega
        have f1 : occ K k t = true := by rw [hoc, hq]; rfl
        have e0 : flt (fun s => occ K k s) (t + 1) = flt (fun s => occ K k s) t ++ [t] := by rw [flt_s, if_pos f1]
        have l0 : (flt (fun s => occ K k s) t).length < (flt (insb K) k).length := by
          have a1 : (flt (fun s => occ K k s) (t + 1)).length = (flt (fun s => occ K k s) t).length + 1 := by rw [e0, List.length_append]; rfl
          have a2 := cntN_up (fun s => occ K k s) (a := t + 1) 9 (by omega)
          rw [← flt_len, ← flt_len] at a2
          have a3 := len_eq hw
          rw [plL_f, insL_f] at a3
          omega
        have l1 : (flt (insb K) k).length ≤ 6 := m6
        rw [if_neg (show ¬ nI p = -1 from nI_ne1 (by omega)), inb_nI (show (flt (fun s => occ K k s) t).length < 6 by omega) (by omega), Option.bind_some, nI_1, nI_1]
        refine ⟨_, rfl, ?_, rfl, fun i hi => ?_, Fr_tA q4 rfl⟩
        · rw [e0, List.length_append]; rfl
        · show aI (sA s3 98 (flt (fun s => occ K k s) t).length (nI t)) 98 i = _
          rw [e0] at hi ⊢
          rw [List.length_append] at hi
          have hi' : i < (flt (fun s => occ K k s) t).length + 1 := hi
          by_cases c : i = (flt (fun s => occ K k s) t).length
          · rw [c, aI_s, getD_last]
          · rw [aI_n c, getD_app (by omega)]; exact q3 i (by omega)
    · rintro ⟨s1, s2, s3⟩ ⟨q1, q2, q3, q4⟩
      dsimp only at q1 q2 q3 q4
      subst q1
      subst q2
      refine ⟨s3, ?_, q3, q4⟩
      show b_X11_laysHolders_74 _ (nI 9) s3 = _
      unfold b_X11_laysHolders_74
      rw [if_pos (by decide)]
  · rintro p ⟨s1, s2⟩ hp ⟨q1, q2, q3, q4, q5⟩
    dsimp only at q1 q2 q3 q4 q5
    subst q1
    have w2 : aI s2 83 = K := by rw [q5.2.1 83 (by omega), e83]
    refine Or.inl ?_
    show ∃ s', b_X11_laysHolders_12 (nI p) s2 = _ ∧ _
    unfold b_X11_laysHolders_12
    rw [m_many (k := k) (by rw [w2]; exact hw), Option.bind_some, if_neg (nI_ge hp (by omega)), m_isInside (by omega), Option.bind_some, w2]
    by_cases c : insb K p = true
    · have e0 : flt (insb K) (p + 1) = flt (insb K) p ++ [p] := by rw [flt_s, if_pos c]
      have l0 : (flt (insb K) p).length ≤ p := by rw [flt_len]; exact cntN_le _ _
      have el : (flt (insb K) (p + 1)).length = (flt (insb K) p).length + 1 := by rw [e0, List.length_append]; rfl
      rw [if_pos c, q2, inb_nI (show (flt (insb K) p).length < 6 by omega) (by omega), Option.bind_some, nI_1]
      refine ⟨_, rfl, rfl, ?_, ?_, fun i hi => ?_, Fr_tF (Fr_tF (Fr_tA q5 (Or.inl rfl)) (by omega)) (by omega)⟩
      · show fI (sF (sF (sA s2 97 _ (nI p)) 81 35 (fI (sA s2 97 _ (nI p)) 81 35 + 1)) 81 36 _) 81 35 = _
        rw [fI_n (by omega), fI_s, ps_fA, q2, nI_1, el]
      · show fI (sF _ 81 36 (fI (sF (sA s2 97 _ (nI p)) 81 35 (fI (sA s2 97 _ (nI p)) 81 35 + 1)) 81 36 * fI (sF (sA s2 97 _ (nI p)) 81 35 (fI (sA s2 97 _ (nI p)) 81 35 + 1)) 81 35)) 81 36 = _
        rw [fI_s, fI_n (by omega), fI_s, ps_fA, ps_fA, q2, q3, nI_1, pk_mul, el, Nat.mul_comm]
        rfl
      · show aI (sA s2 97 (flt (insb K) p).length (nI p)) 97 i = _
        rw [e0] at hi ⊢
        rw [List.length_append] at hi
        have hi' : i < (flt (insb K) p).length + 1 := hi
        by_cases d : i = (flt (insb K) p).length
        · rw [d, aI_s, getD_last]
        · rw [aI_n d, getD_app (by omega)]; exact q4 i (by omega)
    · have e0 : flt (insb K) (p + 1) = flt (insb K) p := by rw [flt_s, if_neg c, List.append_nil]
      rw [if_neg c, nI_1]
      exact ⟨_, rfl, rfl, by rw [e0]; exact q2, by rw [e0]; exact q3, by rw [e0]; exact q4, q5⟩
  · rintro ⟨s1, s2⟩ ⟨q1, q2, q3, q4, q5⟩
    dsimp only at q1 q2 q3 q4 q5
    subst q1
    refine ⟨s2, ?_, q2, q3, q4, q5⟩
    show b_X11_laysHolders_12 (nI k) s2 = _
    unfold b_X11_laysHolders_12
    rw [m_many (k := k) (by rw [q5.2.1 83 (by omega), e83]; exact hw), Option.bind_some, if_pos (Int32.le_refl _)]
theorem m_seats {h : Hp} (hh : HLD h K k) (hw : WF K k) {q : Nat} (hq : q < fct (insL K k).length) : ∃ h', f_X11_seatsAll (nI q) h = some ((), h') ∧ aI h' 83 = sw (insL K k) (stV K k q) (insL K k).length (aI h 83) ∧ Fr (fun a => a = 83) noF h h' := by
  have h6 := hw.2.1
  have m6 := ins_le hw
  have ok := sq_dn _ (sq_all _ m6 q hq)
  have key := lp_inv (b := fun s : Int32 × Int32 × Int32 × Int32 × Hp => b_X11_seatsAll_13 s.1 s.2.1 s.2.2.1 s.2.2.2.1 s.2.2.2.2) (fun i s => sqr (insL K k).length q i = some (s.1, s.2.1, s.2.2.1) ∧ s.2.2.2.1 = nI i ∧ aI s.2.2.2.2 83 = sw (insL K k) (stV K k q) i (aI h 83) ∧ Fr (fun a => a = 83) noF h s.2.2.2.2) (fun e => aI e 83 = sw (insL K k) (stV K k q) (insL K k).length (aI h 83) ∧ Fr (fun a => a = 83) noF h e) (insL K k).length (nI q, fI h 81 36, (0 : Int32), (0 : Int32), h) (by omega) ⟨by rw [hh.2.1]; rfl, rfl, rfl, Fr_rfl⟩ ?_ ?_
  · obtain ⟨e, k1, k2, k3⟩ := key
    refine ⟨e, ?_, k2, k3⟩
    unfold f_X11_seatsAll
    rw [k1, Option.bind_some]
  · rintro i ⟨s1, s2, s3, s4, s5⟩ hi ⟨q1, q2, q3, q4⟩
    dsimp only at q1 q2 q3 q4
    subst q2
    obtain ⟨s, w, w1, w2, w3, w4⟩ := ok i hi
    have es : s = (s1, s2, s3) := Option.some.inj (w1.symm.trans q1)
    subst es
    have dl := dec_lt _ m6 q hq i hi
    have ip := (ins_at hw hi).1
    have e35 : fI s5 81 35 = nI (insL K k).length := by rw [q4.1 _ _ (fun c => c)]; exact hh.1
    unfold sqs at w2
    dsimp only at w2
    by_cases c1 : nI (insL K k).length - nI i = 0
    · rw [if_pos c1] at w2; cases w2
    · rw [if_neg c1] at w2
      by_cases c2 : s2 / (nI (insL K k).length - nI i) = 0
      · rw [if_pos c2] at w2; cases w2
      · rw [if_neg c2] at w2
        obtain ⟨e12, v1, v2⟩ := bd w2
        have ew : (e12, (s1 - s1 / (s2 / (nI (insL K k).length - nI i)) * (s2 / (nI (insL K k).length - nI i)), s2 / (nI (insL K k).length - nI i), s3 ||| ((1 : Int32) <<< (e12 &&& 31)))) = w := Option.some.inj v2
        subst ew
        have e12n : e12 = nI (dec (insL K k).length q i) := w3
        refine Or.inl ⟨(s1 - s1 / (s2 / (nI (insL K k).length - nI i)) * (s2 / (nI (insL K k).length - nI i)), s2 / (nI (insL K k).length - nI i), s3 ||| ((1 : Int32) <<< (e12 &&& 31)), nI (i + 1), sA s5 83 (18 + (insL K k).getD i 0) (stV K k q i)), ?_, w4, rfl, ?_, Fr_tA q4 rfl⟩
        · show b_X11_seatsAll_13 s1 s2 s3 (nI i) s5 = _
          unfold b_X11_seatsAll_13
          rw [e35, if_neg (nI_ge hi (by omega)), if_neg c1, if_neg c2, if_neg c2, show lp (fun s => b_X11_seatsAll_44_13 (s1 - s1 / (s2 / (nI (insL K k).length - nI i)) * (s2 / (nI (insL K k).length - nI i))) (s2 / (nI (insL K k).length - nI i)) s3 (nI i) s.1 s.2 s5) FU (s1 / (s2 / (nI (insL K k).length - nI i)), (0 : Int32)) = some e12 from v1, Option.bind_some, inb_nI (show i < 6 by omega) (by omega), Option.bind_some, e12n, inb_nI (show dec (insL K k).length q i < 6 by omega) (by omega), Option.bind_some, q4.2.1 97 (by omega), hh.2.2.1 i hi, l18_, m_inb (show 18 + (insL K k).getD i 0 < 5662 by omega) (by omega), Option.bind_some, q4.2.1 98 (by omega), hh.2.2.2 _ dl, nI_1]
          rfl
        · show aI (sA s5 83 _ _) 83 = _
          rw [ps_aAs, sw_s, q3]
  · rintro ⟨s1, s2, s3, s4, s5⟩ ⟨q1, q2, q3, q4⟩
    dsimp only at q1 q2 q3 q4
    subst q2
    refine ⟨s5, ?_, q3, q4⟩
    show b_X11_seatsAll_13 s1 s2 s3 (nI (insL K k).length) s5 = _
    unfold b_X11_seatsAll_13
    rw [q4.1 _ _ (fun c => c), hh.1, if_pos (Int32.le_refl _)]
end HLS
