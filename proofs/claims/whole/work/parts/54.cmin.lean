/-! ===== a minute of the class's ===== -/
theorem l4_ : ((4 : Int32)) = nI 4 := rfl
theorem l9_ : ((9 : Int32)) = nI 9 := rfl
def isTx (a : Nat) : Prop := a = 26 ∨ 110 ≤ a
def dA (b : Nat) : Prop := b = 30 ∨ b = 31 ∨ b = 57
/-- who sits where, in the row of nine -/
def WhoR (h : Hp) (K : Nat → Int32) (k : Nat) : Prop := ∀ s, s < 9 → aI h 58 s = whoK K k (nI s)
theorem bsT_nbs : ∀ s, s < 9 → ∀ i, i < 4 → bsT.getD (s * 4 + i) 0 = (match (nbs s)[i]? with
    | some t => nI t
    | none => -1) := by decide
theorem nbs_lt : ∀ s, s < 9 → ∀ t, t ∈ nbs s → t < 9 := by decide
theorem nbs_len : ∀ s, s < 9 → (nbs s).length ≤ 4 := by decide
theorem c_whoBeside {h : Hp} {K : Nat → Int32} {k s i : Nat} (hW : WhoR h K k) (hs : s < 9) (hi : i < 4) : f_X8_whoBeside (nI s) (nI i) h = some (match (nbs s)[i]? with
    | some t => whoK K k (nI t)
    | none => -1) := by
  unfold f_X8_whoBeside
  rw [if_neg (nI_pos (by omega)), l9_, if_neg (nI_ge hs (by omega)), l4_, pk_mul, nI_add, inb_nI (by omega) (by omega)]
  show j_X8_whoBeside_23 (bsT.getD (s * 4 + i) 0) h = _
  rw [bsT_nbs s hs i hi]
  cases e : (nbs s)[i]? with
  | none => rfl
  | some t =>
    have ht : t < 9 := nbs_lt s hs t (List.mem_of_getElem? e)
    show j_X8_whoBeside_23 (nI t) h = _
    unfold j_X8_whoBeside_23
    rw [if_neg (nI_ne1 (by omega)), inb_nI ht (by omega)]
    show some (aI h 58 t) = _
    rw [hW t ht]
theorem take_1 {α : Type} (l : List α) (i : Nat) : l.take (i + 1) = l.take i ++ l[i]?.toList := List.take_succ
theorem c_give {S : Sem} {K m : Nat → Int32} {k r a p : Nat} {h0 h : Hp} (hS : semOK S) (hC : CL h0 a S) (hT : TxSame h0 h a) (ha : isTx a) (hr : IsRm r) (hR : RRh h r K) (hw : WF K k) (hm : MOb K 1000000) (hp : p < k) (hi : insb K p = true) (hW : WhoR h K k) (hc : ∀ i, i < 18 → aI h 57 i = m i) :
    ∃ h', lp (fun s => b_X8_passMinute_71_15 r a (nI p) (nI (nat3 K p)) s.1 s.2.1 s.2.2) FU (K (3 * p + nat3 K p), (0 : Int32), h) = some h' ∧ (∀ i, i < 18 → aI h' 57 i = givK S K k p m i) ∧ Fr dA noF h h' := by
  have h6 := hw.2.1
  have hn3 := nat3_lt K p
  obtain ⟨hs1, hs2⟩ := seat_of hw hp hi
  obtain ⟨l0, hl0, hl1⟩ := part_of hw (i := 3 * p + nat3 K p) (by omega)
  have key := lp_inv (b := fun s : Int32 × Int32 × Hp => b_X8_passMinute_71_15 r a (nI p) (nI (nat3 K p)) s.1 s.2.1 s.2.2) (fun i s => s.2.1 = nI i ∧ ∃ l m', l ≤ 2000 ∧ s.1 = nI l ∧ ((nbs (seatN K p)).take i).foldl (gS S K k p) (K (3 * p + nat3 K p), m) = (nI l, m') ∧ (∀ j, j < 18 → aI s.2.2 57 j = m' j) ∧ Fr dA noF h s.2.2) (fun e => (∀ i, i < 18 → aI e 57 i = givK S K k p m i) ∧ Fr dA noF h e) 4 (K (3 * p + nat3 K p), (0 : Int32), h) (by omega) ⟨rfl, l0, m, hl0, hl1, by rw [List.take_zero, List.foldl_nil, hl1], hc, Fr_rfl⟩ ?_ ?_
  · exact key
  · rintro i ⟨x, y, g⟩ hi4 ⟨q1, l, m', q2, q3, q4, q5, q6⟩
    dsimp only at q1 q3 q5 q6
    subst q1
    subst q3
    show (∃ s', b_X8_passMinute_71_15 r a (nI p) (nI (nat3 K p)) (nI l) (nI i) g = _ ∧ _) ∨ (∃ e, b_X8_passMinute_71_15 r a (nI p) (nI (nat3 K p)) (nI l) (nI i) g = _ ∧ _)
    unfold b_X8_passMinute_71_15
    rw [l4_, if_neg (nI_ge hi4 (by omega))]
    by_cases cl : l = 0
    · right
      subst cl
      rw [if_pos (show nI 0 ≤ 0 from Int32.le_refl _)]
      refine ⟨g, rfl, ?_, q6⟩
      intro j hj
      rw [q5 j hj]
      unfold givK
      have e3 : (nbs (seatN K p)).foldl (gS S K k p) (K (3 * p + nat3 K p), m) = ((nbs (seatN K p)).drop i).foldl (gS S K k p) (((nbs (seatN K p)).take i).foldl (gS S K k p) (K (3 * p + nat3 K p), m)) := by
        rw [← List.foldl_append, List.take_append_drop]
      rw [e3, q4, gF_zero hS]
    · left
      have hRg : RRh g r K := by
        rcases hr with e | e | e | e <;> subst e <;> exact RR_fr hR q6 (fun c => c) (by unfold dA; omega) (by unfold dA; omega) (by unfold dA; omega) (by unfold dA; omega)
      have hTg : TxSame h0 g a := Tx_fr hT q6 (fun c => c) (fun c => c) (by unfold dA; rcases ha with e | e <;> omega) (by unfold dA; rcases ha with e | e <;> omega)
      have hWg : WhoR g K k := fun s hs => by rw [q6.2.1 58 (by unfold dA; omega)]; exact hW s hs
      rw [if_neg (nI_nle (by omega) (by omega)), inb_nI (show p < 6 by omega) (by omega)]
      show ∃ s', Option.bind (f_X8_whoBeside (aI g (r + 3) p) (nI i) g) _ = _ ∧ _
      rw [hRg.2.2.2.1 p (by omega), hs1]
      have hwb := c_whoBeside hWg hs2 hi4
      have tk := take_1 (nbs (seatN K p)) i
      cases e1 : (nbs (seatN K p))[i]? with
      | none =>
        rw [e1] at tk hwb
        replace hwb : f_X8_whoBeside (nI (seatN K p)) (nI i) g = some (-1) := hwb
        refine ⟨(nI l, nI (i + 1), g), ?_, rfl, l, m', q2, rfl, ?_, q5, q6⟩
        · rw [hwb, Option.bind_some, if_pos rfl, nI_1]
        · rw [tk]
          show ((nbs (seatN K p)).take i ++ []).foldl _ _ = _
          rw [List.append_nil]
          exact q4
      | some t =>
        rw [e1] at tk hwb
        have fo : ((nbs (seatN K p)).take (i + 1)).foldl (gS S K k p) (K (3 * p + nat3 K p), m) = gS S K k p (nI l, m') t := by
          rw [tk]
          show ((nbs (seatN K p)).take i ++ [t]).foldl _ _ = _
          rw [List.foldl_append, q4]
          rfl
        replace hwb : f_X8_whoBeside (nI (seatN K p)) (nI i) g = some (whoK K k (nI t)) := hwb
        rw [whoK_S] at hwb
        have gs : gS S K k p (nI l, m') t = match whoS K k t with
          | none => (nI l, m')
          | some q => gT (S (envL K p (nI (nat3 K q)))).2.2 (3 * p + nat3 K p) (3 * q + nat3 K p) (nI l, m') := rfl
        cases e2 : whoS K k t with
        | none =>
          rw [e2] at gs hwb
          replace hwb : f_X8_whoBeside (nI (seatN K p)) (nI i) g = some (-1) := hwb
          refine ⟨(nI l, nI (i + 1), g), ?_, rfl, l, m', q2, rfl, fo.trans gs, q5, q6⟩
          rw [hwb, Option.bind_some, if_pos rfl, nI_1]
        | some q =>
          rw [e2] at gs hwb
          replace hwb : f_X8_whoBeside (nI (seatN K p)) (nI i) g = some (nI q) := hwb
          have hq : q < k := by have := (firstM_some e2).2.1; omega
          obtain ⟨g2, b1, b2⟩ := (hC g hTg r K k p hr hRg hw hm hp hi).2.2 q hq
          obtain ⟨v, c1, c2⟩ := hS (envL K p (nI (nat3 K q)))
          replace gs : gS S K k p (nI l, m') t = gT (S (envL K p (nI (nat3 K q)))).2.2 (3 * p + nat3 K p) (3 * q + nat3 K p) (nI l, m') := gs
          rw [c2] at b1 gs
          have f57 : aI g2 57 = aI g 57 := b2.2.1 57 (by unfold wA; omega)
          refine ⟨(nI l - mnI (nI l) (nI v), nI (i + 1), sA (sA g2 57 (3 * p + nat3 K p) (aI g2 57 (3 * p + nat3 K p) - mnI (nI l) (nI v))) 57 (3 * q + nat3 K p) (aI (sA g2 57 (3 * p + nat3 K p) (aI g2 57 (3 * p + nat3 K p) - mnI (nI l) (nI v))) 57 (3 * q + nat3 K p) + mnI (nI l) (nI v))), ?_, rfl, l - min l v, (gT (nI v) (3 * p + nat3 K p) (3 * q + nat3 K p) (nI l, m')).2, by omega, ?_, ?_, ?_, ?_⟩
          · rw [hwb, Option.bind_some, if_neg (nI_ne1 (by omega)), b1, Option.bind_some]
            dsimp only
            rw [j_min, Option.bind_some, l3_, pk_mul, pk_mul, nI_add, nI_add, show p * 3 + nat3 K p = 3 * p + nat3 K p by omega, show q * 3 + nat3 K p = 3 * q + nat3 K p by omega, inb_nI (show 3 * p + nat3 K p < 18 by omega) (by omega), inb_nI (show 3 * q + nat3 K p < 18 by omega) (by omega), nI_1]
            rfl
          · rw [mnI_n l v (by omega) (by omega), pk_sub (Nat.min_le_left _ _)]
          · rw [fo, gs]
            apply Prod.ext
            · show nI l - mnI (nI l) (nI v) = _
              rw [mnI_n l v (by omega) (by omega), pk_sub (Nat.min_le_left _ _)]
            · rfl
          · show ∀ j, j < 18 → aI (sA (sA g2 57 _ _) 57 _ _) 57 j = upd (upd m' _ _) _ _ j
            rw [ps_aAs, ps_aAs, f57]
            refine upd2 (upd2 q5 ?_) ?_
            · rw [q5 _ (by omega)]
            · rw [upd2 q5 (show aI g 57 (3 * p + nat3 K p) - mnI (nI l) (nI v) = m' (3 * p + nat3 K p) - mnI (nI l) (nI v) by rw [q5 _ (by omega)]) _ (by omega)]
          · exact Fr_tA (Fr_tA (Fr_tr q6 (Fr_mono b2 (fun a c => by unfold wA at c; unfold dA; omega) (fun a k c => c))) (Or.inr (Or.inr rfl))) (Or.inr (Or.inr rfl))
  · rintro ⟨x, y, g⟩ ⟨q1, l, m', q2, q3, q4, q5, q6⟩
    dsimp only at q1 q3 q5 q6
    subst q1
    subst q3
    refine ⟨g, ?_, ?_, q6⟩
    · show b_X8_passMinute_71_15 r a (nI p) (nI (nat3 K p)) (nI l) (nI 4) g = _
      unfold b_X8_passMinute_71_15
      rw [l4_, if_pos (Int32.le_refl _)]
    · intro j hj
      rw [q5 j hj]
      unfold givK
      rw [List.take_of_length_le (nbs_len _ hs2)] at q4
      rw [q4]
