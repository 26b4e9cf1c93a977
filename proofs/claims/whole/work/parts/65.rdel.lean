/-! ===== both readers: their small members ===== -/
/-- kinds, numbers, places of N tokens -/
abbrev Tok : Type := (Nat → Nat) × (Nat → Nat) × (Nat → Nat) × Nat
def tkd (T : Tok) : Nat → Nat := T.1
def tvl (T : Tok) : Nat → Nat := T.2.1
def tps (T : Tok) : Nat → Nat := T.2.2.1
def tN (T : Tok) : Nat := T.2.2.2
def TF (T : Tok) : Prop := tN T ≤ 400 ∧ tkd T (tN T) = 29 ∧ (∀ i, i < tN T → tkd T i ≠ 29 ∧ tkd T i < 400 ∧ (tkd T i < 29 ∨ 100 ≤ tkd T i)) ∧ (∀ i, i ≤ tN T → tps T i ≤ 400) ∧ (∀ i, tvl T i < 2 ^ 31)
def TK (T : Tok) (h : Hp) : Prop := (∀ i, i ≤ tN T → aI h 5 i = nI (tkd T i) ∧ aI h 6 i = nI (tps T i)) ∧ (∀ i, i < tN T → tkd T i = 28 → aI h 7 i = nI (min (tvl T i) 1001))
def TR (T : Tok) (h : Hp) : Prop := (∀ i, i ≤ tN T → aI h 90 i = nI (rk (tkd T i)) ∧ aI h 92 i = nI (tps T i)) ∧ (∀ i, i < tN T → aI h 91 i = nI (tvl T i)) ∧ fI h 81 18 = nI (tN T)
def CS (T : Tok) (o : Bool) (h : Hp) (i s u : Nat) : Prop := TK T h ∧ i ≤ tN T ∧ fI h 4 6 = nI i ∧ fI h 4 7 = nI (tkd T i) ∧ fI h 4 8 = nI s ∧ fI h 4 9 = nI u ∧ fI h 4 5 = b2i o ∧ u ≤ 50 ∧ fI h 4 10 = -1
def RS (T : Tok) (o : Bool) (h : Hp) (i u : Nat) : Prop := TR T h ∧ i ≤ tN T ∧ fI h 81 19 = nI i ∧ fI h 81 20 = nI u ∧ fI h 81 21 = -1 ∧ fI h 81 10 = b2i o ∧ fI h 81 8 = (if o = true then 14 else 8) ∧ fI h 81 9 = (if o = true then 20 else 15)
/-- a fault was found at place x -/
def CF (h : Hp) (x : Nat) : Prop := fI h 4 10 = nI x ∧ ∃ s, s ≤ 400 ∧ fI h 4 8 = nI s
def rA (a : Nat) : Prop := a = 8
def rF (a k : Nat) : Prop := a = 4 ∧ 6 ≤ k ∧ k ≤ 10
def yF (a k : Nat) : Prop := a = 81 ∧ 19 ≤ k ∧ k ≤ 21
theorem kd_bd {T : Tok} (hT : TF T) {i : Nat} (hi : i ≤ tN T) : tkd T i < 400 := by
  by_cases c : i < tN T
  · exact (hT.2.2.1 i c).2.1
  · rw [show i = tN T by omega, hT.2.1]; decide
theorem kd_lt {T : Tok} (hT : TF T) {i : Nat} (hi : i ≤ tN T) (h : tkd T i ≠ 29) : i < tN T := by
  by_cases c : i < tN T
  · exact c
  · exact absurd (by rw [show i = tN T by omega]; exact hT.2.1) h
theorem TK_fr {T : Tok} {h h' : Hp} (hk : TK T h) (hf : Fr rA rF h h') : TK T h' := by
  unfold TK at hk ⊢
  rw [hf.2.1 5 (by unfold rA; omega), hf.2.1 6 (by unfold rA; omega), hf.2.1 7 (by unfold rA; omega)]
  exact hk
theorem TR_fr {T : Tok} {h h' : Hp} (hk : TR T h) (hf : Fr noA yF h h') : TR T h' := by
  unfold TR at hk ⊢
  rw [hf.2.1 90 (fun c => c), hf.2.1 91 (fun c => c), hf.2.1 92 (fun c => c), hf.1 81 18 (by unfold yF; omega)]
  exact hk
theorem lp_eF {σ ε : Type} {b : σ → Option (σ ⊕ ε)} {s : σ} {e : ε} (h : b s = some (.inr e)) : lp b FU s = some e := lp_e h 19999
section CEL
variable {T : Tok} {o : Bool} {h : Hp} {i s u : Nat}
theorem c_goOn (hT : TF T) (hc : CS T o h i s u) (hi : i < tN T) : ∃ h', f_X5_goOn h = some ((), h') ∧ CS T o h' (i + 1) s u ∧ Fr rA rF h h' ∧ aI h' 8 = aI h 8 := by
  obtain ⟨c1, c2, c3, c4, c5, c6, c7, c8⟩ := hc
  have hN := hT.1
  refine ⟨sF (sF h 4 6 (nI (i + 1))) 4 7 (nI (tkd T (i + 1))), ?_, ?_, ?_, rfl⟩
  · unfold f_X5_goOn
    rw [c3, nI_1, fI_s, if_neg (nI_pos (by omega)), if_neg (show ¬ (401 : Int32) ≤ nI (i + 1) from nI_ge (a := i + 1) (b := 401) (by omega) (by omega)), inb_nI (by omega) (by omega), Option.bind_some]
    show some ((), sF (sF h 4 6 (nI (i + 1))) 4 7 (aI h 5 (i + 1))) = _
    rw [(c1.1 (i + 1) (by omega)).1]
  · refine ⟨c1, by omega, ?_, fI_s, ?_, ?_, ?_, c8.1, by rw [fI_n (by omega), fI_n (by omega)]; exact c8.2⟩
    · rw [fI_n (by omega), fI_s]
    · rw [fI_n (by omega), fI_n (by omega)]; exact c5
    · rw [fI_n (by omega), fI_n (by omega)]; exact c6
    · rw [fI_n (by omega), fI_n (by omega)]; exact c7
  · exact Fr_tF (Fr_sF ⟨rfl, by omega, by omega⟩) ⟨rfl, by omega, by omega⟩
theorem c_kind (hT : TF T) (hc : CS T o h i s u) (q : Nat) (hq : q < 400) : (fI h 4 7 = nI q) ↔ tkd T i = q := by
  have := kd_bd hT hc.2.1
  rw [hc.2.2.2.1]
  exact nI_eq (by omega) (by omega)
theorem c_takeIf (hT : TF T) (hc : CS T o h i s u) (q : Nat) (hq : q < 29) : (tkd T i = q → ∃ h', f_X5_takeIf (nI q) h = some (true, h') ∧ i < tN T ∧ CS T o h' (i + 1) s u ∧ Fr rA rF h h' ∧ aI h' 8 = aI h 8) ∧ (tkd T i ≠ q → f_X5_takeIf (nI q) h = some (false, h)) := by
  refine ⟨fun e => ?_, fun e => ?_⟩
  · have hi : i < tN T := kd_lt hT hc.2.1 (by omega)
    obtain ⟨h', g1, g2, g3, g4⟩ := c_goOn hT hc hi
    refine ⟨h', ?_, hi, g2, g3, g4⟩
    unfold f_X5_takeIf
    rw [if_pos ((c_kind hT hc q (by omega)).mpr e), g1, Option.bind_some]
  · unfold f_X5_takeIf
    rw [if_neg (fun d => e ((c_kind hT hc q (by omega)).mp d))]
theorem c_isSign (hT : TF T) (hc : CS T o h i s u) (q : Nat) (hq : q < 256) : f_X5_isSign (nI q) h = some (decide (tkd T i = 100 + q)) := by
  unfold f_X5_isSign
  rw [show ((100 : Int32)) = nI 100 from rfl, nI_add]
  by_cases e : tkd T i = 100 + q
  · rw [if_pos ((c_kind hT hc _ (by omega)).mpr e), decide_eq_true e]
  · rw [if_neg (fun d => e ((c_kind hT hc _ (by omega)).mp d)), decide_eq_false e]
theorem c_wrong (hT : TF T) (hc : CS T o h i s u) (hs : s ≤ 400) : ∃ h', f_X5_wrong h = some (false, h') ∧ CF h' (tps T i) ∧ Fr rA rF h h' ∧ aI h' 8 = aI h 8 := by
  obtain ⟨c1, c2, c3, c4, c5, c6, c7, c8⟩ := hc
  have hN := hT.1
  refine ⟨sF h 4 10 (nI (tps T i)), ?_, ⟨fI_s, s, hs, by rw [fI_n (by omega)]; exact c5⟩, Fr_sF ⟨rfl, by omega, by omega⟩, rfl⟩
  unfold f_X5_wrong
  rw [c3, if_neg (nI_pos (by omega)), if_neg (show ¬ (401 : Int32) ≤ nI i from nI_ge (a := i) (b := 401) (by omega) (by omega)), inb_nI (by omega) (by omega), Option.bind_some, (c1.1 i (by omega)).2]
theorem c_takeSign (hT : TF T) (hc : CS T o h i s u) (hs : s ≤ 400) (q : Nat) (hq : q < 256) : (tkd T i = 100 + q → ∃ h', f_X5_takeSign (nI q) h = some (true, h') ∧ i < tN T ∧ CS T o h' (i + 1) s u ∧ Fr rA rF h h' ∧ aI h' 8 = aI h 8) ∧ (tkd T i ≠ 100 + q → ∃ h', f_X5_takeSign (nI q) h = some (false, h') ∧ CF h' (tps T i) ∧ Fr rA rF h h' ∧ aI h' 8 = aI h 8) := by
  refine ⟨fun e => ?_, fun e => ?_⟩
  · have hi : i < tN T := kd_lt hT hc.2.1 (by omega)
    obtain ⟨h', g1, g2, g3, g4⟩ := c_goOn hT hc hi
    refine ⟨h', ?_, hi, g2, g3, g4⟩
    unfold f_X5_takeSign
    rw [show ((100 : Int32)) = nI 100 from rfl, nI_add, if_pos ((c_kind hT hc _ (by omega)).mpr e), g1, Option.bind_some]
  · obtain ⟨h', g1, g2, g3, g4⟩ := c_wrong hT hc hs
    refine ⟨h', ?_, g2, g3, g4⟩
    unfold f_X5_takeSign
    rw [show ((100 : Int32)) = nI 100 from rfl, nI_add, if_neg (fun d => e ((c_kind hT hc _ (by omega)).mp d)), g1, Option.bind_some]
theorem c_put (hc : CS T o h i s u) (hs : s < 400) (k n : Int32) : ∃ h', f_X5_put k n h = some (nI s, h') ∧ CS T o h' i (s + 1) u ∧ Fr rA rF h h' ∧ aI h' 8 = upd (upd (aI h 8) (2 * s) k) (2 * s + 1) n := by
  obtain ⟨c1, c2, c3, c4, c5, c6, c7, c8⟩ := hc
  have hF : Fr rA rF h (sF (sA (sA h 8 (2 * s) k) 8 (2 * s + 1) n) 4 8 (nI (s + 1))) := Fr_tF (Fr_tA (Fr_sA rfl) rfl) ⟨rfl, by omega, by omega⟩
  refine ⟨sF (sA (sA h 8 (2 * s) k) 8 (2 * s + 1) n) 4 8 (nI (s + 1)), ?_, ?_, hF, ?_⟩
  · unfold f_X5_put
    rw [c5, if_neg (show ¬ (400 : Int32) ≤ nI s from nI_ge (a := s) (b := 400) hs (by omega)), l2_, pk_mul, Nat.mul_comm s 2, inb_nI (by omega) (by omega), Option.bind_some, ps_fA, c5, pk_mul, nI_1, Nat.mul_comm s 2, inb_nI (by omega) (by omega), Option.bind_some, ps_fA, ps_fA, c5, nI_1, fI_s, nI_pred]
  · refine ⟨TK_fr c1 hF, c2, ?_, ?_, fI_s, ?_, ?_, c8.1, by rw [fI_n (by omega)]; exact c8.2⟩
    · rw [fI_n (by omega)]; exact c3
    · rw [fI_n (by omega)]; exact c4
    · rw [fI_n (by omega)]; exact c6
    · rw [fI_n (by omega)]; exact c7
  · show aI (sA (sA h 8 (2 * s) k) 8 (2 * s + 1) n) 8 = _
    rw [ps_aAs, ps_aAs]
theorem c_putF {x : Nat} (hc : CF h x) (k n : Int32) : ∃ r h', f_X5_put k n h = some (r, h') ∧ CF h' x ∧ Fr rA rF h h' ∧ (∃ s, fI h 4 8 = nI s ∧ ∀ j, j < 2 * s → aI h' 8 j = aI h 8 j) := by
  obtain ⟨c1, s, c2, c3⟩ := hc
  unfold f_X5_put
  by_cases c : s < 400
  · refine ⟨nI s, sF (sA (sA h 8 (2 * s) k) 8 (2 * s + 1) n) 4 8 (nI (s + 1)), ?_, ⟨by rw [fI_n (by omega)]; exact c1, s + 1, by omega, fI_s⟩, Fr_tF (Fr_tA (Fr_sA rfl) rfl) ⟨rfl, by omega, by omega⟩, s, c3, fun j hj => ?_⟩
    · rw [c3, if_neg (show ¬ (400 : Int32) ≤ nI s from nI_ge (a := s) (b := 400) c (by omega)), l2_, pk_mul, Nat.mul_comm s 2, inb_nI (by omega) (by omega), Option.bind_some, ps_fA, c3, pk_mul, nI_1, Nat.mul_comm s 2, inb_nI (by omega) (by omega), Option.bind_some, ps_fA, ps_fA, c3, nI_1, fI_s, nI_pred]
    · show aI (sA (sA h 8 (2 * s) k) 8 (2 * s + 1) n) 8 j = _
      rw [aI_n (by omega), aI_n (by omega)]
  · rw [c3, if_pos (show (400 : Int32) ≤ nI s from nI_le (a := 400) (b := s) (by omega) (by omega))]
    exact ⟨_, h, rfl, ⟨c1, s, c2, c3⟩, Fr_rfl, s, rfl, fun j _ => rfl⟩
theorem c_num (hT : TF T) (hc : CS T o h i s u) : f_X5_numberHere h = some (if tkd T i = 28 then nI (min (tvl T i) 1001) else -1) := by
  have hN := hT.1
  unfold f_X5_numberHere
  by_cases e : tkd T i = 28
  · have hi : i < tN T := kd_lt hT hc.2.1 (by omega)
    rw [if_pos (show fI h 4 7 = 28 from (c_kind hT hc 28 (by decide)).mpr e), hc.2.2.1, if_neg (nI_pos (by omega)), if_neg (show ¬ (401 : Int32) ≤ nI i from nI_ge (a := i) (b := 401) (by omega) (by omega)), inb_nI (by omega) (by omega), Option.bind_some, if_pos e, hc.1.2 i hi e]
  · rw [if_neg (show ¬ fI h 4 7 = 28 from fun d => e ((c_kind hT hc 28 (by decide)).mp d)), if_neg e]
end CEL
section MEL
variable {T : Tok} {o : Bool} {h : Hp} {i u : Nat}
theorem m_fineT (hr : RS T o h i u) : f_X11_fine h = some true := by
  unfold f_X11_fine
  rw [if_pos hr.2.2.2.2.1]
theorem m_fineF (hb : fI h 81 21 ≠ -1) : f_X11_fine h = some false := by
  unfold f_X11_fine
  rw [if_neg hb]
theorem RS_go (hr : RS T o h i u) (hi : i < tN T) : RS T o (sF h 81 19 (nI (i + 1))) (i + 1) u ∧ Fr noA yF h (sF h 81 19 (nI (i + 1))) := by
  have hF : Fr noA yF h (sF h 81 19 (nI (i + 1))) := Fr_sF ⟨rfl, by omega, by omega⟩
  obtain ⟨r1, r2, r3, r4, r5, r6, r7, r8⟩ := hr
  refine ⟨⟨TR_fr r1 hF, by omega, fI_s, ?_, ?_, ?_, ?_, ?_⟩, hF⟩
  · rw [fI_n (by omega)]; exact r4
  · rw [fI_n (by omega)]; exact r5
  · rw [fI_n (by omega)]; exact r6
  · rw [fI_n (by omega)]; exact r7
  · rw [fI_n (by omega)]; exact r8
theorem m_takes (hT : TF T) (hr : RS T o h i u) (c : Nat) (hc : 0 < c) (hc2 : c < 400) : (rk (tkd T i) = c → ∃ h', f_X11_takes0 (nI c) h = some (true, h') ∧ i < tN T ∧ RS T o h' (i + 1) u ∧ Fr noA yF h h') ∧ (rk (tkd T i) ≠ c → f_X11_takes0 (nI c) h = some (false, h)) := by
  have hN := hT.1
  have hk := rk_bd (kd_bd hT hr.2.1)
  have hi401 : inb (fI h 81 19) 401 = some i := by
    rw [hr.2.2.1]
    have := hr.2.1
    exact inb_nI (by omega) (by omega)
  have h90 := (hr.1.1 i hr.2.1).1
  unfold f_X11_takes0
  rw [m_fineT hr, Option.bind_some, if_pos rfl, hi401, Option.bind_some, h90]
  refine ⟨fun e => ?_, fun e => ?_⟩
  · have hi : i < tN T := kd_lt hT hr.2.1 (by intro e2; rw [e2] at e; revert e; show ¬ (0 = c); omega)
    obtain ⟨g1, g2⟩ := RS_go hr hi
    refine ⟨_, ?_, hi, g1, g2⟩
    rw [if_pos (by rw [e])]
    unfold j_X11_takes0_25
    rw [if_neg (by decide), hr.2.2.1, nI_1]
    rfl
  · rw [if_neg (fun d => e ((nI_eq (by omega) (by omega)).mp d))]
    rfl
theorem m_takesF (hb : fI h 81 21 ≠ -1) (c : Int32) : f_X11_takes0 c h = some (false, h) := by
  unfold f_X11_takes0
  rw [m_fineF hb, Option.bind_some, if_neg (by decide)]
  rfl
theorem m_faults (hT : TF T) (hr : RS T o h i u) : ∃ h', f_X11_faults h = some ((), h') ∧ fI h' 81 21 = nI (tps T i) ∧ fI h' 81 21 ≠ -1 ∧ Fr noA yF h h' := by
  have hN := hT.1
  have hps := hT.2.2.2.1 i hr.2.1
  refine ⟨sF h 81 21 (nI (tps T i)), ?_, fI_s, by rw [fI_s]; exact nI_ne1 (by omega), Fr_sF ⟨rfl, by omega, by omega⟩⟩
  unfold f_X11_faults
  have := hr.2.1
  rw [m_fineT hr, Option.bind_some, if_pos rfl, hr.2.2.1, inb_nI (by omega) (by omega), Option.bind_some, (hr.1.1 i hr.2.1).2]
theorem m_faultsF (hb : fI h 81 21 ≠ -1) : f_X11_faults h = some ((), h) := by
  unfold f_X11_faults
  rw [m_fineF hb, Option.bind_some, if_neg (by decide)]
theorem m_must (hT : TF T) (hr : RS T o h i u) (c : Nat) (hc : 0 < c) (hc2 : c < 400) : (rk (tkd T i) = c → ∃ h', f_X11_must (nI c) h = some ((), h') ∧ i < tN T ∧ RS T o h' (i + 1) u ∧ Fr noA yF h h') ∧ (rk (tkd T i) ≠ c → ∃ h', f_X11_must (nI c) h = some ((), h') ∧ fI h' 81 21 = nI (tps T i) ∧ fI h' 81 21 ≠ -1 ∧ Fr noA yF h h') := by
  obtain ⟨t1, t2⟩ := m_takes hT hr c hc hc2
  unfold f_X11_must
  refine ⟨fun e => ?_, fun e => ?_⟩
  · obtain ⟨h', g1, g2, g3, g4⟩ := t1 e
    exact ⟨h', by rw [g1, Option.bind_some, if_pos rfl], g2, g3, g4⟩
  · obtain ⟨h', g1, g2, g3, g4⟩ := m_faults hT hr
    exact ⟨h', by rw [t2 e, Option.bind_some, if_neg Bool.false_ne_true, g1, Option.bind_some], g2, g3, g4⟩
theorem m_mustF (hb : fI h 81 21 ≠ -1) (c : Int32) : f_X11_must c h = some ((), h) := by
  unfold f_X11_must
  rw [m_takesF hb, Option.bind_some, if_neg Bool.false_ne_true, m_faultsF hb, Option.bind_some]
theorem m_mnF (hb : fI h 81 21 ≠ -1) (x y : Int32) : f_X11_mustNumber x y h = some ((), h) := by
  unfold f_X11_mustNumber
  rw [m_fineF hb, Option.bind_some, if_neg (by decide)]
  unfold j_X11_mustNumber_42
  rw [m_fineF hb, Option.bind_some, if_neg (by decide)]
theorem m_mn (hT : TF T) (hr : RS T o h i u) (x y : Nat) (hx : x < 1000) (hy : y < 1000) : (tkd T i = 28 ∧ x ≤ tvl T i ∧ tvl T i ≤ y → ∃ h', f_X11_mustNumber (nI x) (nI y) h = some ((), h') ∧ i < tN T ∧ RS T o h' (i + 1) u ∧ Fr noA yF h h') ∧ (¬ (tkd T i = 28 ∧ x ≤ tvl T i ∧ tvl T i ≤ y) → ∃ h', f_X11_mustNumber (nI x) (nI y) h = some ((), h') ∧ fI h' 81 21 = nI (tps T i) ∧ fI h' 81 21 ≠ -1 ∧ Fr noA yF h h') := by
  have hN := hT.1
  have hin := hr.2.1
  have hk := kd_bd hT hr.2.1
  have hrk := rk_bd hk
  have h50 : rk (tkd T i) = 50 ↔ tkd T i = 28 := by
    by_cases c : tkd T i < 30
    · have : ∀ q, q < 30 → (rk q = 50 ↔ q = 28) := by decide
      exact this _ c
    · rw [rk_hi (by omega)]
      refine ⟨fun e => ?_, fun e => by omega⟩
      by_cases ci : i < tN T
      · have := (hT.2.2.1 i ci).2.2; omega
      · rw [show i = tN T by omega, hT.2.1] at c; omega
  have hv := hT.2.2.2.2 i
  have bad : ∃ h', j_X11_mustNumber_38 h = some ((), h') ∧ fI h' 81 21 = nI (tps T i) ∧ fI h' 81 21 ≠ -1 ∧ Fr noA yF h h' := by
    obtain ⟨h', g1, g2, g3, g4⟩ := m_faults hT hr
    refine ⟨h', ?_, g2, g3, g4⟩
    unfold j_X11_mustNumber_38
    rw [g1, Option.bind_some]
    unfold j_X11_mustNumber_42
    rw [m_fineF g3, Option.bind_some, if_neg (by decide)]
  unfold f_X11_mustNumber
  rw [m_fineT hr, Option.bind_some, if_pos rfl, hr.2.2.1, inb_nI (show i < 401 by omega) (by omega), Option.bind_some, (hr.1.1 i hr.2.1).1]
  refine ⟨fun e => ?_, fun e => ?_⟩
  · obtain ⟨e1, e2, e3⟩ := e
    have hi : i < tN T := kd_lt hT hr.2.1 (by omega)
    obtain ⟨g1, g2⟩ := RS_go hr hi
    refine ⟨_, ?_, hi, g1, g2⟩
    rw [if_pos (show nI (rk (tkd T i)) = 50 by rw [h50.mpr e1]; rfl), Option.bind_some, hr.1.2.1 i hi]
    unfold f_X11_lies
    rw [if_neg (nI_nlt e2 hv), if_neg (nI_nlt e3 (by omega)), Option.bind_some, if_pos rfl]
    unfold j_X11_mustNumber_42
    rw [m_fineT hr, Option.bind_some, if_pos rfl, hr.2.2.1, nI_1]
  · by_cases e1 : tkd T i = 28
    · have hi : i < tN T := kd_lt hT hr.2.1 (by omega)
      rw [if_pos (show nI (rk (tkd T i)) = 50 by rw [h50.mpr e1]; rfl), Option.bind_some, hr.1.2.1 i hi]
      unfold f_X11_lies
      by_cases e2 : x ≤ tvl T i
      · rw [if_neg (nI_nlt e2 hv), if_pos (nI_lt (show y < tvl T i from Nat.lt_of_not_le (fun e3 => e ⟨e1, e2, e3⟩)) hv), Option.bind_some, if_neg (by decide)]
        exact bad
      · rw [if_pos (nI_lt (by omega) (by omega)), Option.bind_some, if_neg (by decide)]
        exact bad
    · rw [if_neg (show ¬ nI (rk (tkd T i)) = 50 from fun d => e1 (h50.mp ((nI_eq (by omega) (by omega)).mp (show nI _ = nI 50 from d))))]
      exact bad
end MEL
/-- once a fault is found, the reference reads on without a change -/
theorem gB_F {h : Hp} (hb : fI h 81 21 ≠ -1) (x : Int32) : (∀ f, gr_B (f + 1) 5 x h = some ((), h)) ∧ (∀ f, gr_B (f + 2) 4 x h = some ((), h)) ∧ (∀ f, gr_B (f + 3) 3 x h = some ((), h)) ∧ (∀ f, gr_B (f + 1) 2 x h = some ((), h)) ∧ (∀ f, gr_B (f + 2) 1 x h = some ((), h)) ∧ (∀ f, gr_B (f + 3) 0 x h = some ((), h)) := by
  have h5 : ∀ f, gr_B (f + 1) 5 x h = some ((), h) := by
    intro f
    show f_X11_readPart (gr_B f) x h = _
    unfold f_X11_readPart
    rw [m_fineF hb, Option.bind_some, if_neg (by decide)]
  have h4 : ∀ f, gr_B (f + 2) 4 x h = some ((), h) := by
    intro f
    show f_X11_readTerm (gr_B (f + 1)) x h = _
    unfold f_X11_readTerm
    rw [h5, Option.bind_some, lp_eF (b := fun s => b_X11_readTerm_5 (gr_B (f + 1)) x s) (s := h) (e := h) ?_, Option.bind_some]
    unfold b_X11_readTerm_5
    rw [sg42, Option.bind_some, m_takesF hb, Option.bind_some, if_neg Bool.false_ne_true, sg47, Option.bind_some, m_takesF hb, Option.bind_some, if_neg Bool.false_ne_true, sg37, Option.bind_some, m_takesF hb, Option.bind_some, if_neg Bool.false_ne_true]
  have h3 : ∀ f, gr_B (f + 3) 3 x h = some ((), h) := by
    intro f
    show f_X11_readSum (gr_B (f + 2)) x h = _
    unfold f_X11_readSum
    rw [h4, Option.bind_some, lp_eF (b := fun s => b_X11_readSum_5 (gr_B (f + 2)) x s) (s := h) (e := h) ?_, Option.bind_some]
    unfold b_X11_readSum_5
    rw [sg43, Option.bind_some, m_takesF hb, Option.bind_some, if_neg Bool.false_ne_true, sg45, Option.bind_some, m_takesF hb, Option.bind_some, if_neg Bool.false_ne_true]
  have h2 : ∀ f, gr_B (f + 1) 2 x h = some ((), h) := by
    intro f
    show f_X11_readPlain (gr_B f) x h = _
    unfold f_X11_readPlain
    have e1 : b_X11_readPlain_2 (gr_B f) x 1 h = some (.inl (0, h)) := by
      unfold b_X11_readPlain_2
      rw [if_neg (by decide), m_takesF hb, Option.bind_some]
      rfl
    have e2 : b_X11_readPlain_2 (gr_B f) x 0 h = some (.inr h) := by
      unfold b_X11_readPlain_2
      rw [if_pos rfl]
    rw [show FU = 19998 + 1 + 1 from rfl, lp_1 (b := fun s : Int32 × Hp => b_X11_readPlain_2 (gr_B f) x s.1 s.2) (s' := (0, h)) e1, lp_e (b := fun s : Int32 × Hp => b_X11_readPlain_2 (gr_B f) x s.1 s.2) e2, Option.bind_some, m_fineF hb, Option.bind_some, if_neg (by decide)]
  have h1 : ∀ f, gr_B (f + 2) 1 x h = some ((), h) := by
    intro f
    show f_X11_readBoth (gr_B (f + 1)) x h = _
    unfold f_X11_readBoth
    rw [h2, Option.bind_some, lp_eF (b := fun s => b_X11_readBoth_5 (gr_B (f + 1)) x s) (s := h) (e := h) ?_, Option.bind_some]
    unfold b_X11_readBoth_5
    rw [m_takesF hb, Option.bind_some, if_neg Bool.false_ne_true]
  have h0 : ∀ f, gr_B (f + 3) 0 x h = some ((), h) := by
    intro f
    show f_X11_readTest (gr_B (f + 2)) x h = _
    unfold f_X11_readTest
    rw [h1, Option.bind_some, lp_eF (b := fun s => b_X11_readTest_5 (gr_B (f + 2)) x s) (s := h) (e := h) ?_, Option.bind_some]
    unfold b_X11_readTest_5
    rw [m_takesF hb, Option.bind_some, if_neg Bool.false_ne_true]
  exact ⟨h5, h4, h3, h2, h1, h0⟩
