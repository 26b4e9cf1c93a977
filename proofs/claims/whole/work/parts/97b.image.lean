theorem Laid_b {T : Tok} {K K' : Nat → Int32} {t : Nat} (hT : TF T) (ht : t < 6) (hl : Laid T K t) (ha : ∀ i, i < 5662 → K' i = K i) : Laid T K' t := by
  have h4 : tN T ≤ 400 := hT.1
  exact ⟨by rw [ha _ (by omega)]; exact hl.1, fun x hx => ⟨by rw [ha _ (by omega)]; exact (hl.2 x hx).1, by rw [ha _ (by omega)]; exact (hl.2 x hx).2⟩⟩
theorem KOK_b {K K' : Nat → Int32} {k sm lc : Nat} {L : LDt} (hK : KOK K k sm lc L) (ha : ∀ i, i < 5662 → K' i = K i) : KOK K' k sm lc L := by
  obtain ⟨w1, ⟨m, m1, m2⟩, w3, w4, w5, w6, w7, w8, w9⟩ := hK
  refine ⟨WF_ag w1 (fun i hi => ha i (by omega)), ⟨m, m1, by rw [ha _ (by omega)]; exact m2⟩, w3, by rw [ha _ (by omega)]; exact w4, fun i hi => ?_, w6, by rw [ha _ (by omega)]; exact w7, fun t ht => ⟨(w8 t ht).1, Laid_b (w8 t ht).1.1 (by omega) (w8 t ht).2 ha⟩, by rw [ha _ (by omega)]; exact w9⟩
  obtain ⟨p', m', c', a1, a2, a3, a4, a5, a6⟩ := w5 i hi
  exact ⟨p', m', c', a1, a2, a3, by rw [ha _ (by omega)]; exact a4, by rw [ha _ (by omega)]; exact a5, by rw [ha _ (by omega)]; exact a6⟩
theorem HR_b {h : Hp} {hs : Nat} {K K' : Nat → Int32} {sm lc : Nat} {L : LDt} (hh : HR h hs K sm lc L) (ha : ∀ i, i < 5662 → K' i = K i) : HR h hs K' sm lc L := by
  obtain ⟨r1, r2, r3, r4, r5, r6, r7⟩ := hh
  exact ⟨RR_ag r1 (fun i hi => ha i (by omega)), r2, fun i hi => by rw [ha _ (by omega)]; exact r3 i hi, r4, r5, r6, by rw [ha _ (by omega)]; exact r7⟩
/-- h' with h's references -/
def rO (h h' : Hp) : Hp := (h'.1, h'.2.1, h'.2.2.1, h.2.2.2.1, h'.2.2.2.2)
theorem HF_r {r : Nat} {h h' : Hp} (hf : HFr r h h') : Fr (chA r) (chF r) h (rO h h') := ⟨hf.1, hf.2.1, hf.2.2.1, fun _ => rfl, hf.2.2.2.2.1, hf.2.2.2.2.2⟩
theorem m_img {h : Hp} {j : Nat} (hj : j < 2) : ∃ h', lp (fun s => b_X11_image_17 (nI j) s.1 s.2) FU ((0 : Int32), h) = some h' ∧ (∀ i, i < 5662 → aI h' 84 (5662 * j + i) = aI h 83 i) ∧ (∀ i, ¬ (5662 * j ≤ i ∧ i < 5662 * j + 5662) → aI h' 84 i = aI h 84 i) ∧ Fr (fun a => a = 84) noF h h' := by
  have key := lp_inv (b := fun s : Int32 × Hp => b_X11_image_17 (nI j) s.1 s.2) (fun i s => s.1 = nI i ∧ (∀ t, t < i → aI s.2 84 (5662 * j + t) = aI h 83 t) ∧ (∀ t, ¬ (5662 * j ≤ t ∧ t < 5662 * j + 5662) → aI s.2 84 t = aI h 84 t) ∧ Fr (fun a => a = 84) noF h s.2) (fun e => (∀ t, t < 5662 → aI e 84 (5662 * j + t) = aI h 83 t) ∧ (∀ t, ¬ (5662 * j ≤ t ∧ t < 5662 * j + 5662) → aI e 84 t = aI h 84 t) ∧ Fr (fun a => a = 84) noF h e) 5662 ((0 : Int32), h) (by omega) ⟨rfl, fun j hj => absurd hj (Nat.not_lt_zero _), fun _ _ => rfl, Fr_rfl⟩ ?_ ?_
  · exact key
  · intro i s hi ⟨p1, p2, p3, p4⟩
    refine Or.inl ⟨(nI (i + 1), sA s.2 84 (5662 * j + i) (aI s.2 83 i)), ?_, rfl, fun t ht => ?_, fun t ht => ?_, Fr_tA p4 rfl⟩
    · show b_X11_image_17 (nI j) s.1 s.2 = _
      unfold b_X11_image_17
      rw [p1, show ((5662 : Int32)) = nI 5662 from rfl, if_neg (show ¬ nI 5662 ≤ nI i by rw [nI_le6 (by omega) (by omega)]; omega), inb_nI (show i < 5662 by omega) (by omega), Option.bind_some, pk_mul, nI_add, inb_nI (show 5662 * j + i < 11324 by omega) (by omega), Option.bind_some, nI_1]
    · show aI (sA s.2 84 (5662 * j + i) (aI s.2 83 i)) 84 (5662 * j + t) = _
      by_cases c : t = i
      · rw [c, aI_s, p4.2.1 83 (by omega)]
      · rw [aI_n (by omega)]; exact p2 t (by omega)
    · show aI (sA s.2 84 (5662 * j + i) (aI s.2 83 i)) 84 t = _
      rw [aI_n (by omega)]; exact p3 t ht
  · intro s ⟨p1, p2, p3, p4⟩
    refine ⟨s.2, ?_, p2, p3, p4⟩
    show b_X11_image_17 (nI j) s.1 s.2 = _
    unfold b_X11_image_17
    rw [p1, if_pos (show (5662 : Int32) ≤ nI 5662 by decide)]
theorem m_bck {h : Hp} {j : Nat} (hj : j < 2) : ∃ h', lp (fun s => b_X11_back_33 (nI j) s.1 s.2) FU ((0 : Int32), h) = some h' ∧ (∀ i, aI h' 83 i = if i < 5662 then aI h 84 (5662 * j + i) else aI h 83 i) ∧ Fr (fun a => a = 83) noF h h' := by
  have key := lp_inv (b := fun s : Int32 × Hp => b_X11_back_33 (nI j) s.1 s.2) (fun i s => s.1 = nI i ∧ (∀ t, aI s.2 83 t = if t < i then aI h 84 (5662 * j + t) else aI h 83 t) ∧ Fr (fun a => a = 83) noF h s.2) (fun e => (∀ t, aI e 83 t = if t < 5662 then aI h 84 (5662 * j + t) else aI h 83 t) ∧ Fr (fun a => a = 83) noF h e) 5662 ((0 : Int32), h) (by omega) ⟨rfl, fun t => by rw [if_neg (by omega)], Fr_rfl⟩ ?_ ?_
  · exact key
  · intro i s hi ⟨p1, p2, p4⟩
    refine Or.inl ⟨(nI (i + 1), sA s.2 83 i (aI s.2 84 (5662 * j + i))), ?_, rfl, fun t => ?_, Fr_tA p4 rfl⟩
    · show b_X11_back_33 (nI j) s.1 s.2 = _
      unfold b_X11_back_33
      rw [p1, show ((5662 : Int32)) = nI 5662 from rfl, if_neg (show ¬ nI 5662 ≤ nI i by rw [nI_le6 (by omega) (by omega)]; omega), pk_mul, nI_add, inb_nI (show 5662 * j + i < 11324 by omega) (by omega), Option.bind_some, inb_nI (show i < 5662 by omega) (by omega), Option.bind_some, nI_1]
    · show aI (sA s.2 83 i (aI s.2 84 (5662 * j + i))) 83 t = _
      by_cases c : t = i
      · rw [c, aI_s, p4.2.1 84 (by omega), if_pos (by omega)]
      · rw [aI_n c, p2 t]
        by_cases c2 : t < i
        · rw [if_pos c2, if_pos (by omega)]
        · rw [if_neg c2, if_neg (by omega)]
  · intro s ⟨p1, p2, p4⟩
    refine ⟨s.2, ?_, p2, p4⟩
    show b_X11_back_33 (nI j) s.1 s.2 = _
    unfold b_X11_back_33
    rw [p1, if_pos (show (5662 : Int32) ≤ nI 5662 by decide)]
