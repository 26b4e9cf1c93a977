/-! ===== both readers, step by step: a part ===== -/
def okW (o : Bool) (q : Nat) : Prop := if o = true then (q = 6 ∨ 8 ≤ q ∧ q < 24) else q < 8
def ZV (T : Tok) (o : Bool) (kx fx B : Nat) : (Nat → Int32) → Nat → Nat → Nat → Nat → Prop := fun c s s' i i' => ∃ σ, MC (okW o) c s s' B σ ∧ RC (tkd T) (tvl T) (tN T) o kx fx i i' σ
def ZT (T : Tok) (o : Bool) (kx fx B : Nat) : (Nat → Int32) → Nat → Nat → Nat → Nat → Prop := fun c s s' i i' => ∃ τ, MT (okW o) c s s' B τ ∧ RD (tkd T) (tvl T) (tN T) o kx fx i i' τ
def Out (T : Tok) (o : Bool) (Z : (Nat → Int32) → Nat → Nat → Nat → Nat → Prop) (hc hr : Hp) (s i : Nat) (bo : Bool) : Prop := (bo = true → ∃ i' s' u', CS T o hc i' s' u' ∧ RS T o hr i' u' ∧ i < i' ∧ s < s' ∧ s' + i ≤ s + i' ∧ Z (aI hc 8) s s' i i') ∧ (bo = false → ∃ x, x ≤ tN T ∧ CF hc (tps T x) ∧ fI hr 81 21 = nI (tps T x) ∧ fI hr 81 21 ≠ -1)
def Rd (T : Tok) (o : Bool) (kc kr fa fb dd : Nat) (Z : (Nat → Int32) → Nat → Nat → Nat → Nat → Prop) : Prop := ∀ hc hr i s u fA fB, CS T o hc i s u → RS T o hr i u → s ≤ i → fa ≤ fA → fb ≤ fB → ∃ bo hc' hr', gr_A fA kc (nI dd) hc = some (bo, hc') ∧ gr_B fB kr (nI dd) hr = some ((), hr') ∧ Fr rA rF hc hc' ∧ Fr noA yF hr hr' ∧ (bo = true → ∀ j, j < 2 * s → aI hc' 8 j = aI hc 8 j) ∧ Out T o Z hc' hr' s i bo
theorem Out_F {T : Tok} {o : Bool} {Z : (Nat → Int32) → Nat → Nat → Nat → Nat → Prop} {hc hr : Hp} {s i x : Nat} (h1 : x ≤ tN T) (h2 : CF hc (tps T x)) (h3 : fI hr 81 21 = nI (tps T x)) (h4 : fI hr 81 21 ≠ -1) : Out T o Z hc hr s i false := ⟨fun c => (by cases c), fun _ => ⟨x, h1, h2, h3, h4⟩⟩
theorem Out_T {T : Tok} {o : Bool} {Z : (Nat → Int32) → Nat → Nat → Nat → Nat → Prop} {hc hr : Hp} {s i i' s' u' : Nat} (h1 : CS T o hc i' s' u') (h2 : RS T o hr i' u') (h3 : i < i') (h4 : s < s') (h5 : s' + i ≤ s + i') (h6 : Z (aI hc 8) s s' i i') : Out T o Z hc hr s i true := ⟨fun _ => ⟨i', s', u', h1, h2, h3, h4, h5, h6⟩, fun c => (by cases c)⟩
theorem RC_fu {kd vl : Nat → Nat} {N : Nat} {o : Bool} {k fu fu' i j : Nat} {σ : Env → Option Int32} (h : RC kd vl N o k fu i j σ) (hf : fu ≤ fu') : RC kd vl N o k fu' i j σ := fun f hf' => h f (by omega)
theorem RD_fu {kd vl : Nat → Nat} {N : Nat} {o : Bool} {k fu fu' i j : Nat} {τ : Env → Option Bool} (h : RD kd vl N o k fu i j τ) (hf : fu ≤ fu') : RD kd vl N o k fu' i j τ := fun f hf' => h f (by omega)
theorem gA_k (f : Nat) (x : Int32) (h : Hp) : gr_A (f + 1) 0 x h = f_X5_readTest (gr_A f) x h ∧ gr_A (f + 1) 1 x h = f_X5_readBoth (gr_A f) x h ∧ gr_A (f + 1) 2 x h = f_X5_readPlain (gr_A f) x h ∧ gr_A (f + 1) 3 x h = f_X5_readComparison (gr_A f) x h ∧ gr_A (f + 1) 4 x h = f_X5_readSum (gr_A f) x h ∧ gr_A (f + 1) 5 x h = f_X5_readTerm (gr_A f) x h ∧ gr_A (f + 1) 6 x h = f_X5_readPart (gr_A f) x h := ⟨rfl, rfl, rfl, rfl, rfl, rfl, rfl⟩
theorem gB_k (f : Nat) (x : Int32) (h : Hp) : gr_B (f + 1) 0 x h = f_X11_readTest (gr_B f) x h ∧ gr_B (f + 1) 1 x h = f_X11_readBoth (gr_B f) x h ∧ gr_B (f + 1) 2 x h = f_X11_readPlain (gr_B f) x h ∧ gr_B (f + 1) 3 x h = f_X11_readSum (gr_B f) x h ∧ gr_B (f + 1) 4 x h = f_X11_readTerm (gr_B f) x h ∧ gr_B (f + 1) 5 x h = f_X11_readPart (gr_B f) x h := ⟨rfl, rfl, rfl, rfl, rfl, rfl⟩
section PRT
variable {T : Tok} {o : Bool} {h : Hp} {i s u : Nat}
theorem CS_u (hc : CS T o h i s u) (hu : u < 50) : CS T o (sF h 4 9 (nI (u + 1))) i s (u + 1) ∧ Fr rA rF h (sF h 4 9 (nI (u + 1))) := by
  obtain ⟨c1, c2, c3, c4, c5, c6, c7, c8⟩ := hc
  have hF : Fr rA rF h (sF h 4 9 (nI (u + 1))) := Fr_sF ⟨rfl, by omega, by omega⟩
  refine ⟨⟨TK_fr c1 hF, c2, ?_, ?_, ?_, fI_s, ?_, by omega, by rw [fI_n (by omega)]; exact c8.2⟩, hF⟩
  · rw [fI_n (by omega)]; exact c3
  · rw [fI_n (by omega)]; exact c4
  · rw [fI_n (by omega)]; exact c5
  · rw [fI_n (by omega)]; exact c7
theorem m_leaf (hT : TF T) (hr : RS T o h i u) (hi : i < tN T) (hu : u < 50) : ∃ h', f_X11_leaf h = some ((), h') ∧ RS T o h' (i + 1) (u + 1) ∧ Fr noA yF h h' := by
  obtain ⟨r1, r2, r3, r4, r5, r6, r7, r8⟩ := hr
  have hF : Fr noA yF h (sF (sF h 81 20 (nI (u + 1))) 81 19 (nI (i + 1))) := Fr_tF (Fr_sF ⟨rfl, by omega, by omega⟩) ⟨rfl, by omega, by omega⟩
  refine ⟨sF (sF h 81 20 (nI (u + 1))) 81 19 (nI (i + 1)), ?_, ⟨TR_fr r1 hF, by omega, fI_s, ?_, ?_, ?_, ?_, ?_⟩, hF⟩
  · unfold f_X11_leaf
    rw [r4, if_neg (show ¬ nI u = 50 from fun e => by have := (nI_eq (by omega) (by omega)).mp (show nI u = nI 50 from e); omega)]
    unfold j_X11_leaf_13 f_X11_fine
    rw [r4, nI_1, fI_n (by omega), r5, if_pos rfl, Option.bind_some, if_pos rfl, fI_n (by omega), r3, nI_1]
  · rw [fI_n (by omega), fI_s]
  · rw [fI_n (by omega), fI_n (by omega)]; exact r5
  · rw [fI_n (by omega), fI_n (by omega)]; exact r6
  · rw [fI_n (by omega), fI_n (by omega)]; exact r7
  · rw [fI_n (by omega), fI_n (by omega)]; exact r8
theorem m_leafF (hT : TF T) (hr : RS T o h i u) (hu : u = 50) : ∃ h', f_X11_leaf h = some ((), h') ∧ fI h' 81 21 = nI (tps T i) ∧ fI h' 81 21 ≠ -1 ∧ fI h' 81 10 = fI h 81 10 ∧ Fr noA yF h h' := by
  obtain ⟨h', g1, g2, g3, g4⟩ := m_faults hT hr
  have e : fI (sF h' 81 20 (fI h' 81 20 + 1)) 81 21 = fI h' 81 21 := fI_n (by omega)
  refine ⟨sF h' 81 20 (fI h' 81 20 + 1), ?_, e.trans g2, by rw [e]; exact g3, ?_, Fr_tF g4 ⟨rfl, by omega, by omega⟩⟩
  · unfold f_X11_leaf
    rw [hr.2.2.2.1, hu, if_pos (show nI 50 = 50 from rfl), g1, Option.bind_some]
    unfold j_X11_leaf_13
    rw [m_fineF (h := sF h' 81 20 (fI h' 81 20 + 1)) (by rw [e]; exact g3), Option.bind_some, if_neg (by decide)]
  · rw [fI_n (by omega), g4.1 81 10 (by unfold yF; omega)]
/-- the reference's part that isn't in brackets -/
def isLf (T : Tok) (o : Bool) (i : Nat) : Prop := tkd T i = 28 ∧ tvl T i ≤ 1000 ∨ tkd T i < 30 ∧ (o = false ∧ tkd T i < 8 ∨ o = true ∧ (tkd T i = 4 ∨ tkd T i = 6 ∨ 8 ≤ tkd T i ∧ tkd T i ≤ 12))
theorem m_part0 (hT : TF T) (hr : RS T o h i u) (hk : tkd T i ≠ 191) (f : Nat) (x : Int32) : (isLf T o i → i < tN T ∧ gr_B (f + 1) 5 x h = j_X11_readPart_111 (gr_B f) (nI (rk (tkd T i))) h) ∧ (¬ isLf T o i → ∃ h', gr_B (f + 1) 5 x h = some ((), h') ∧ fI h' 81 21 = nI (tps T i) ∧ fI h' 81 21 ≠ -1 ∧ Fr noA yF h h') := by
  have hN := hT.1
  have hin := hr.2.1
  have hkb := kd_bd hT hr.2.1
  have hrk := rk_bd hkb
  have hk191 : ¬ nI (rk (tkd T i)) = nI 191 := rk_no hk hkb (by decide) (by decide)
  have bad : ∃ h', j_X11_readPart_143 (gr_B f) h = some ((), h') ∧ fI h' 81 21 = nI (tps T i) ∧ fI h' 81 21 ≠ -1 ∧ Fr noA yF h h' := by
    obtain ⟨h', g1, g2, g3, g4⟩ := m_faults hT hr
    exact ⟨h', by unfold j_X11_readPart_143; rw [g1, Option.bind_some], g2, g3, g4⟩
  have h50 : rk (tkd T i) = 50 ↔ tkd T i = 28 := by
    by_cases c : tkd T i < 30
    · have : ∀ q, q < 30 → (rk q = 50 ↔ q = 28) := by decide
      exact this _ c
    · rw [rk_hi (by omega)]
      refine ⟨fun e => ?_, fun e => by omega⟩
      by_cases ci : i < tN T
      · have := (hT.2.2.1 i ci).2.2; omega
      · rw [show i = tN T by omega, hT.2.1] at c; omega
  have en : gr_B (f + 1) 5 x h = if nI (rk (tkd T i)) = 50 then (if aI h 91 i ≤ 1000 then j_X11_readPart_111 (gr_B f) (nI (rk (tkd T i))) h else j_X11_readPart_95 (gr_B f) (nI (rk (tkd T i))) h) else j_X11_readPart_95 (gr_B f) (nI (rk (tkd T i))) h := by
    rw [(gB_k f x h).2.2.2.2.2]
    unfold f_X11_readPart
    rw [m_fineT hr, Option.bind_some, if_pos rfl, hr.2.2.1, inb_nI (show i < 401 by omega) (by omega), Option.bind_some, sg91, Option.bind_some, (hr.1.1 i hin).1, if_neg hk191, Option.bind_some]
  have r95 : tkd T i ≠ 28 → j_X11_readPart_95 (gr_B f) (nI (rk (tkd T i))) h = if (o = false ∧ tkd T i < 8 ∨ o = true ∧ (tkd T i = 4 ∨ tkd T i = 6 ∨ 8 ≤ tkd T i ∧ tkd T i ≤ 12)) then j_X11_readPart_111 (gr_B f) (nI (rk (tkd T i))) h else j_X11_readPart_143 (gr_B f) h := by
    intro h28
    unfold j_X11_readPart_95
    cases o with
    | false =>
      rw [show fI h 81 8 = 8 from hr.2.2.2.2.2.2.1, show fI h 81 9 = 15 from hr.2.2.2.2.2.2.2]
      by_cases c : tkd T i < 8
      · have tb : ∀ q, q < 8 → 8 ≤ rk q ∧ rk q ≤ 15 := by decide
        have := tb _ c
        rw [if_neg (show ¬ nI (rk (tkd T i)) < 8 from nI_nlt (a := rk (tkd T i)) (b := 8) (by omega) (by omega)), if_neg (show ¬ (15 : Int32) < nI (rk (tkd T i)) from nI_nlt (a := 15) (b := rk (tkd T i)) (by omega) (by omega)), if_pos (Or.inl ⟨rfl, c⟩)]
      · rw [if_neg (show ¬ (false = false ∧ tkd T i < 8 ∨ false = true ∧ (tkd T i = 4 ∨ tkd T i = 6 ∨ 8 ≤ tkd T i ∧ tkd T i ≤ 12)) by simp; omega)]
        have tb : ∀ q, q < 30 → 8 ≤ q → rk q < 8 ∨ 15 < rk q := by decide
        have h2 : rk (tkd T i) < 8 ∨ 15 < rk (tkd T i) := by
          by_cases c3 : tkd T i < 30
          · exact tb _ c3 (by omega)
          · rw [rk_hi (by omega)]; omega
        by_cases c2 : rk (tkd T i) < 8
        · rw [if_pos (show nI (rk (tkd T i)) < 8 from nI_lt (a := rk (tkd T i)) (b := 8) c2 (by omega))]
        · rw [if_neg (show ¬ nI (rk (tkd T i)) < 8 from nI_nlt (a := rk (tkd T i)) (b := 8) (by omega) (by omega)), if_pos (show (15 : Int32) < nI (rk (tkd T i)) from nI_lt (a := 15) (b := rk (tkd T i)) (by omega) (by omega))]
    | true =>
      rw [show fI h 81 8 = 14 from hr.2.2.2.2.2.2.1, show fI h 81 9 = 20 from hr.2.2.2.2.2.2.2]
      by_cases c : tkd T i = 4 ∨ tkd T i = 6 ∨ 8 ≤ tkd T i ∧ tkd T i ≤ 12
      · have tb : ∀ q, q < 13 → (q = 4 ∨ q = 6 ∨ 8 ≤ q ∧ q ≤ 12) → 14 ≤ rk q ∧ rk q ≤ 20 := by decide
        have := tb _ (by omega) c
        rw [if_neg (show ¬ nI (rk (tkd T i)) < 14 from nI_nlt (a := rk (tkd T i)) (b := 14) (by omega) (by omega)), if_neg (show ¬ (20 : Int32) < nI (rk (tkd T i)) from nI_nlt (a := 20) (b := rk (tkd T i)) (by omega) (by omega)), if_pos (Or.inr ⟨rfl, c⟩)]
      · rw [if_neg (show ¬ (true = false ∧ tkd T i < 8 ∨ true = true ∧ (tkd T i = 4 ∨ tkd T i = 6 ∨ 8 ≤ tkd T i ∧ tkd T i ≤ 12)) by simp; omega)]
        have tb : ∀ q, q < 30 → ¬ (q = 4 ∨ q = 6 ∨ 8 ≤ q ∧ q ≤ 12) → rk q < 14 ∨ 20 < rk q := by decide
        have h2 : rk (tkd T i) < 14 ∨ 20 < rk (tkd T i) := by
          by_cases c3 : tkd T i < 30
          · exact tb _ c3 c
          · rw [rk_hi (by omega)]; omega
        by_cases c2 : rk (tkd T i) < 14
        · rw [if_pos (show nI (rk (tkd T i)) < 14 from nI_lt (a := rk (tkd T i)) (b := 14) c2 (by omega))]
        · rw [if_neg (show ¬ nI (rk (tkd T i)) < 14 from nI_nlt (a := rk (tkd T i)) (b := 14) (by omega) (by omega)), if_pos (show (20 : Int32) < nI (rk (tkd T i)) from nI_lt (a := 20) (b := rk (tkd T i)) (by omega) (by omega))]
  rw [en]
  by_cases c28 : tkd T i = 28
  · have hi : i < tN T := kd_lt hT hin (by omega)
    have hv := hT.2.2.2.2 i
    rw [h50.mpr c28, if_pos (show nI 50 = 50 from rfl), hr.1.2.1 i hi]
    by_cases cv : tvl T i ≤ 1000
    · rw [if_pos (show nI (tvl T i) ≤ 1000 from nI_le (a := tvl T i) (b := 1000) cv (by omega))]
      exact ⟨fun _ => ⟨hi, rfl⟩, fun e => absurd (Or.inl ⟨c28, cv⟩) e⟩
    · rw [if_neg (show ¬ nI (tvl T i) ≤ 1000 from nI_ge (a := 1000) (b := tvl T i) (by omega) hv)]
      refine ⟨fun e => ?_, fun _ => ?_⟩
      · unfold isLf at e; omega
      · unfold j_X11_readPart_95
        cases o with
        | false => rw [show fI h 81 8 = 8 from hr.2.2.2.2.2.2.1, show fI h 81 9 = 15 from hr.2.2.2.2.2.2.2, if_neg (by decide), if_pos (by decide)]; exact bad
        | true => rw [show fI h 81 8 = 14 from hr.2.2.2.2.2.2.1, show fI h 81 9 = 20 from hr.2.2.2.2.2.2.2, if_neg (by decide), if_pos (by decide)]; exact bad
  · rw [if_neg (show ¬ nI (rk (tkd T i)) = 50 from fun e => c28 (h50.mp ((nI_eq (by omega) (by omega)).mp (show nI _ = nI 50 from e)))), r95 c28]
    by_cases cl : o = false ∧ tkd T i < 8 ∨ o = true ∧ (tkd T i = 4 ∨ tkd T i = 6 ∨ 8 ≤ tkd T i ∧ tkd T i ≤ 12)
    · rw [if_pos cl]
      exact ⟨fun _ => ⟨kd_lt hT hin (by omega), rfl⟩, fun e => absurd (Or.inr ⟨by omega, cl⟩) e⟩
    · rw [if_neg cl]
      refine ⟨fun e => ?_, fun _ => bad⟩
      rcases e with e | e
      · exact absurd e.1 c28
      · exact absurd e.2 cl
end PRT
