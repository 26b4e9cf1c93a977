def RC_C (rc : Nat → Int32 → Hp → Option (Int64 × Hp)) (D0 : Nat) : Prop := (∀ x h q, rc 0 x h = some q → MetA ⟨"SteamNationsModel", "sumOf", "(Z)J"⟩ prog_13_method_67_code 7 (some .long) D0 0 0 [.ref 81, .int x] h (some (.long q.1)) q.2) ∧ (∀ x h q, rc 1 x h = some q → MetA ⟨"SteamNationsModel", "termOf", "(Z)J"⟩ prog_13_method_68_code 7 (some .long) D0 0 0 [.ref 81, .int x] h (some (.long q.1)) q.2) ∧ (∀ x h q, rc 2 x h = some q → MetA ⟨"SteamNationsModel", "partOf", "(Z)J"⟩ prog_13_method_69_code 4 (some .long) D0 0 0 [.ref 81, .int x] h (some (.long q.1)) q.2)
/-! SteamNationsModel.sumOf(Z)J -/
def dl_X11_sumOf : List (Nat × Instr × Nat) := [(0, .aload_n 0, 1), (1, .iload_n 1, 1), (2, .invokevirtual 304, 3), (5, .lstore_n 2, 1), (6, .aload_n 0, 1), (7, .aload_n 0, 1), (8, .getfield 291, 3), (11, .invokevirtual 294, 3), (14, .bipush 43, 2), (16, .invokestatic 250, 3), (19, .if_icmp .eq 19, 3), (22, .aload_n 0, 1), (23, .aload_n 0, 1), (24, .getfield 291, 3), (27, .invokevirtual 294, 3), (30, .bipush 45, 2), (32, .invokestatic 250, 3), (35, .if_icmp .ne 68, 3), (38, .aload_n 0, 1), (39, .aload_n 0, 1), (40, .getfield 291, 3), (43, .invokevirtual 294, 3), (46, .bipush 43, 2), (48, .invokestatic 250, 3), (51, .if_icmp .ne 7, 3), (54, .iconst 1, 1), (55, .goto 4, 3), (58, .iconst 0, 1), (59, .istore 4, 2), (61, .aload_n 0, 1), (62, .dup, 1), (63, .getfield 291, 3), (66, .iconst 1, 1), (67, .iadd, 1), (68, .putfield 291, 3), (71, .aload_n 0, 1), (72, .iload_n 1, 1), (73, .invokevirtual 304, 3), (76, .lstore 5, 2), (78, .aload_n 0, 1), (79, .iload 4, 2), (81, .ifCond .eq 10, 3), (84, .lload_n 2, 1), (85, .lload 5, 2), (87, .ladd, 1), (88, .goto 7, 3), (91, .lload_n 2, 1), (92, .lload 5, 2), (94, .lsub, 1), (95, .iload_n 1, 1), (96, .invokevirtual 308, 3), (99, .lstore_n 2, 1), (100, .goto (-94), 3), (103, .lload_n 2, 1), (104, .lreturn, 1)]
set_option maxRecDepth 20000 in
theorem dt_X11_sumOf : ∀ q ∈ dl_X11_sumOf, decode prog_13_method_67_code q.1 = .ok q.2 := by decide +kernel
def kp_X11_sumOf_6  (x1 : Int32) (X : Xt) (s : (Int64 × Hp)) : Prop := G X s.2 0 0 6 [(0, .ref 81), (1, .int x1), (2, .long s.1)] []
def ke_X11_sumOf_6  (x1 : Int32) (X : Xt) (e : (Int64 × Hp)) : Prop := G X e.2 0 0 103 [(2, .long e.1)] []
def j_X11_sumOf_95_6 (rc : Nat → Int32 → Hp → Option (Int64 × Hp))  (x1 : Int32) (s1 : Int64) (h : Hp) : Option ((Int64 × Hp) ⊕ (Int64 × Hp)) :=
  (f_X11_bounded s1 x1 h).bind fun v16 =>
  some (.inl (v16.1, v16.2))
set_option maxRecDepth 20000 in
theorem wj_X11_sumOf_95_6 (rc : Nat → Int32 → Hp → Option (Int64 × Hp)) {D0 : Nat} (hD0 : 12 ≤ D0) (hrc : RC_C rc D0) {X : Xt} (C : Cx X cn_11 prog_13_method_67_code 7 (some .long) (D0 + 1) 0 0)    (x1 : Int32) (s1 : Int64) (h : Hp) (q : (Int64 × Hp) ⊕ (Int64 × Hp)) (hrun : j_X11_sumOf_95_6 rc  x1 s1 h = some q) (Ks : ∀ s, q = .inl s → kp_X11_sumOf_6  x1 X s) (Ke : ∀ e, q = .inr e → ke_X11_sumOf_6  x1 X e) : G X h 0 0 95 [(0, .ref 81), (1, .int x1)] [.long s1, .ref 81] := by
  unfold j_X11_sumOf_95_6 at hrun
  refine g_iload_n C (dat dt_X11_sumOf 49 rfl) 1 rfl ?_
  obtain ⟨v16, q17, hrun⟩ := bd hrun
  refine g_cVl [.long s1, .int x1] C (dat dt_X11_sumOf 50 rfl) ml_11_308 (w_X11_bounded s1 x1 h v16  q17) kd_81 ltk_81 rfl rfl cat0 (by have hGD : GD = 60 := rfl; omega) c00 ?_
  refine g_lstore_n (lv' := [(0, .ref 81), (1, .int x1), (2, .long v16.1)]) C (dat dt_X11_sumOf 51 rfl) (by decide) rfl ?_
  refine g_goto 6 C (dat dt_X11_sumOf 52 rfl) (by decide) ?_
  cases hrun
  exact Ks (v16.1, v16.2) rfl
def j_X11_sumOf_59_6 (rc : Nat → Int32 → Hp → Option (Int64 × Hp))  (x1 : Int32) (x2 : Int64) (s0 : Int32) (h : Hp) : Option ((Int64 × Hp) ⊕ (Int64 × Hp)) :=
  (rc 1 x1 (sF h 81 22 ((fI h 81 22) + (1 : Int32)))).bind fun v13 =>
  if s0 = 0 then
  j_X11_sumOf_95_6 rc  x1 (x2 - v13.1) v13.2
  else
  j_X11_sumOf_95_6 rc  x1 (x2 + v13.1) v13.2
set_option maxRecDepth 20000 in
theorem wj_X11_sumOf_59_6 (rc : Nat → Int32 → Hp → Option (Int64 × Hp)) {D0 : Nat} (hD0 : 12 ≤ D0) (hrc : RC_C rc D0) {X : Xt} (C : Cx X cn_11 prog_13_method_67_code 7 (some .long) (D0 + 1) 0 0)    (x1 : Int32) (x2 : Int64) (s0 : Int32) (h : Hp) (q : (Int64 × Hp) ⊕ (Int64 × Hp)) (hrun : j_X11_sumOf_59_6 rc  x1 x2 s0 h = some q) (Ks : ∀ s, q = .inl s → kp_X11_sumOf_6  x1 X s) (Ke : ∀ e, q = .inr e → ke_X11_sumOf_6  x1 X e) : G X h 0 0 59 [(0, .ref 81), (1, .int x1), (2, .long x2)] [.int s0] := by
  unfold j_X11_sumOf_59_6 at hrun
  refine g_istore (lv' := [(0, .ref 81), (1, .int x1), (2, .long x2), (4, .int s0)]) C (dat dt_X11_sumOf 28 rfl) (by decide) rfl ?_
  refine g_aload_n C (dat dt_X11_sumOf 29 rfl) 0 rfl ?_
  refine g_dup C (dat dt_X11_sumOf 30 rfl) rfl ?_
  refine g_getI C (dat dt_X11_sumOf 31 rfl) fl_11_291 kd_81 rfl ltk_81 ?_
  refine g_iconst C (dat dt_X11_sumOf 32 rfl) ic_1 ?_
  refine g_iadd C (dat dt_X11_sumOf 33 rfl) ?_
  refine g_putI C (dat dt_X11_sumOf 34 rfl) fl_11_291 rfl rfl kd_81 rfl ltk_81 ?_
  refine g_aload_n C (dat dt_X11_sumOf 35 rfl) 0 rfl ?_
  refine g_iload_n C (dat dt_X11_sumOf 36 rfl) 1 rfl ?_
  obtain ⟨v13, q14, hrun⟩ := bd hrun
  refine g_cVl [.int x1] C (dat dt_X11_sumOf 37 rfl) ml_11_304 (hrc.2.1 _ _ _ q14) kd_81 ltk_81 rfl rfl cat0 (Nat.le_refl _) c00 ?_
  refine g_lstore (lv' := [(0, .ref 81), (1, .int x1), (2, .long x2), (4, .int s0), (5, .long v13.1)]) C (dat dt_X11_sumOf 38 rfl) (by decide) rfl ?_
  refine g_aload_n C (dat dt_X11_sumOf 39 rfl) 0 rfl ?_
  refine g_iload C (dat dt_X11_sumOf 40 rfl) 3 rfl ?_
  refine g_if_eq 91 C (dat dt_X11_sumOf 41 rfl) (by decide) (fun c15 => ?_) (fun c15 => ?_)
  · rw [if_pos c15] at hrun
    refine g_lload_n C (dat dt_X11_sumOf 46 rfl) 2 rfl ?_
    refine g_lload C (dat dt_X11_sumOf 47 rfl) 4 rfl ?_
    refine g_lsub C (dat dt_X11_sumOf 48 rfl) ?_
    refine g_sub [0, 1] (lv' := [(0, .ref 81), (1, .int x1)]) rfl ?_
    exact wj_X11_sumOf_95_6 rc hD0 hrc C    x1 (x2 - v13.1) v13.2 _ hrun Ks Ke
  · rw [if_neg c15] at hrun
    refine g_lload_n C (dat dt_X11_sumOf 42 rfl) 2 rfl ?_
    refine g_lload C (dat dt_X11_sumOf 43 rfl) 4 rfl ?_
    refine g_ladd C (dat dt_X11_sumOf 44 rfl) ?_
    refine g_goto 95 C (dat dt_X11_sumOf 45 rfl) (by decide) ?_
    refine g_sub [0, 1] (lv' := [(0, .ref 81), (1, .int x1)]) rfl ?_
    exact wj_X11_sumOf_95_6 rc hD0 hrc C    x1 (x2 + v13.1) v13.2 _ hrun Ks Ke
def j_X11_sumOf_38_6 (rc : Nat → Int32 → Hp → Option (Int64 × Hp))  (x1 : Int32) (x2 : Int64) (h : Hp) : Option ((Int64 × Hp) ⊕ (Int64 × Hp)) :=
  (f_X11_codeAt (fI h 81 22) h).bind fun v8 =>
  (f_X11_sign (43 : Int32)).bind fun v10 =>
  if v8 = v10 then
  j_X11_sumOf_59_6 rc  x1 x2 (1 : Int32) h
  else
  j_X11_sumOf_59_6 rc  x1 x2 (0 : Int32) h
set_option maxRecDepth 20000 in
theorem wj_X11_sumOf_38_6 (rc : Nat → Int32 → Hp → Option (Int64 × Hp)) {D0 : Nat} (hD0 : 12 ≤ D0) (hrc : RC_C rc D0) {X : Xt} (C : Cx X cn_11 prog_13_method_67_code 7 (some .long) (D0 + 1) 0 0)    (x1 : Int32) (x2 : Int64) (h : Hp) (q : (Int64 × Hp) ⊕ (Int64 × Hp)) (hrun : j_X11_sumOf_38_6 rc  x1 x2 h = some q) (Ks : ∀ s, q = .inl s → kp_X11_sumOf_6  x1 X s) (Ke : ∀ e, q = .inr e → ke_X11_sumOf_6  x1 X e) : G X h 0 0 38 [(0, .ref 81), (1, .int x1), (2, .long x2)] [] := by
  unfold j_X11_sumOf_38_6 at hrun
  refine g_aload_n C (dat dt_X11_sumOf 18 rfl) 0 rfl ?_
  refine g_aload_n C (dat dt_X11_sumOf 19 rfl) 0 rfl ?_
  refine g_getI C (dat dt_X11_sumOf 20 rfl) fl_11_291 kd_81 rfl ltk_81 ?_
  obtain ⟨v8, q9, hrun⟩ := bd hrun
  refine g_cVi [.int (fI h 81 22)] C (dat dt_X11_sumOf 21 rfl) ml_11_294 (w_X11_codeAt (fI h 81 22) h v8  q9) kd_81 ltk_81 rfl rfl cat0 (by have hGD : GD = 60 := rfl; omega) c00 ?_
  refine g_bipush C (dat dt_X11_sumOf 22 rfl) bp_43 ?_
  obtain ⟨v10, q11, hrun⟩ := bd hrun
  refine g_cSi [.int (43 : Int32)] C (dat dt_X11_sumOf 23 rfl) ml_11_250 (w_X11_sign (43 : Int32) h v10  q11) rfl rfl (Nat.le_of_ble_eq_true rfl) (by have hGD : GD = 60 := rfl; omega) c00 ?_
  refine g_ic_ne 58 C (dat dt_X11_sumOf 24 rfl) (by decide) (fun c12 => ?_) (fun c12 => ?_)
  · rw [if_neg c12] at hrun
    refine g_iconst C (dat dt_X11_sumOf 27 rfl) ic_0 ?_
    exact wj_X11_sumOf_59_6 rc hD0 hrc C    x1 x2 (0 : Int32) h _ hrun Ks Ke
  · rw [if_pos c12] at hrun
    refine g_iconst C (dat dt_X11_sumOf 25 rfl) ic_1 ?_
    refine g_goto 59 C (dat dt_X11_sumOf 26 rfl) (by decide) ?_
    exact wj_X11_sumOf_59_6 rc hD0 hrc C    x1 x2 (1 : Int32) h _ hrun Ks Ke
def b_X11_sumOf_6 (rc : Nat → Int32 → Hp → Option (Int64 × Hp))  (x1 : Int32) (x2 : Int64) (h : Hp) : Option ((Int64 × Hp) ⊕ (Int64 × Hp)) :=
  (f_X11_codeAt (fI h 81 22) h).bind fun v3 =>
  (f_X11_sign (43 : Int32)).bind fun v5 =>
  if v3 = v5 then
  j_X11_sumOf_38_6 rc  x1 x2 h
  else
  (f_X11_codeAt (fI h 81 22) h).bind fun v18 =>
  (f_X11_sign (45 : Int32)).bind fun v20 =>
  if v18 = v20 then
  j_X11_sumOf_38_6 rc  x1 x2 h
  else
  some (.inr ( (x2, h)))
set_option maxRecDepth 20000 in
theorem wb_X11_sumOf_6 (rc : Nat → Int32 → Hp → Option (Int64 × Hp)) {D0 : Nat} (hD0 : 12 ≤ D0) (hrc : RC_C rc D0) {X : Xt} (C : Cx X cn_11 prog_13_method_67_code 7 (some .long) (D0 + 1) 0 0)   (x1 : Int32) (x2 : Int64) (h : Hp) (q : (Int64 × Hp) ⊕ (Int64 × Hp)) (hrun : b_X11_sumOf_6 rc  x1 x2 h = some q) (Ks : ∀ s, q = .inl s → kp_X11_sumOf_6  x1 X s) (Ke : ∀ e, q = .inr e → ke_X11_sumOf_6  x1 X e) : kp_X11_sumOf_6  x1 X (x2, h) := by
  show G X h 0 0 6 [(0, .ref 81), (1, .int x1), (2, .long x2)] []
  unfold b_X11_sumOf_6 at hrun
  refine g_aload_n C (dat dt_X11_sumOf 4 rfl) 0 rfl ?_
  refine g_aload_n C (dat dt_X11_sumOf 5 rfl) 0 rfl ?_
  refine g_getI C (dat dt_X11_sumOf 6 rfl) fl_11_291 kd_81 rfl ltk_81 ?_
  obtain ⟨v3, q4, hrun⟩ := bd hrun
  refine g_cVi [.int (fI h 81 22)] C (dat dt_X11_sumOf 7 rfl) ml_11_294 (w_X11_codeAt (fI h 81 22) h v3  q4) kd_81 ltk_81 rfl rfl cat0 (by have hGD : GD = 60 := rfl; omega) c00 ?_
  refine g_bipush C (dat dt_X11_sumOf 8 rfl) bp_43 ?_
  obtain ⟨v5, q6, hrun⟩ := bd hrun
  refine g_cSi [.int (43 : Int32)] C (dat dt_X11_sumOf 9 rfl) ml_11_250 (w_X11_sign (43 : Int32) h v5  q6) rfl rfl (Nat.le_of_ble_eq_true rfl) (by have hGD : GD = 60 := rfl; omega) c00 ?_
  refine g_ic_eq 38 C (dat dt_X11_sumOf 10 rfl) (by decide) (fun c7 => ?_) (fun c7 => ?_)
  · rw [if_pos c7] at hrun
    exact wj_X11_sumOf_38_6 rc hD0 hrc C    x1 x2 h _ hrun Ks Ke
  · rw [if_neg c7] at hrun
    refine g_aload_n C (dat dt_X11_sumOf 11 rfl) 0 rfl ?_
    refine g_aload_n C (dat dt_X11_sumOf 12 rfl) 0 rfl ?_
    refine g_getI C (dat dt_X11_sumOf 13 rfl) fl_11_291 kd_81 rfl ltk_81 ?_
    obtain ⟨v18, q19, hrun⟩ := bd hrun
    refine g_cVi [.int (fI h 81 22)] C (dat dt_X11_sumOf 14 rfl) ml_11_294 (w_X11_codeAt (fI h 81 22) h v18  q19) kd_81 ltk_81 rfl rfl cat0 (by have hGD : GD = 60 := rfl; omega) c00 ?_
    refine g_bipush C (dat dt_X11_sumOf 15 rfl) bp_45 ?_
    obtain ⟨v20, q21, hrun⟩ := bd hrun
    refine g_cSi [.int (45 : Int32)] C (dat dt_X11_sumOf 16 rfl) ml_11_250 (w_X11_sign (45 : Int32) h v20  q21) rfl rfl (Nat.le_of_ble_eq_true rfl) (by have hGD : GD = 60 := rfl; omega) c00 ?_
    refine g_ic_ne 103 C (dat dt_X11_sumOf 17 rfl) (by decide) (fun c22 => ?_) (fun c22 => ?_)
    · rw [if_neg c22] at hrun
      refine g_sub [2] (lv' := [(2, .long x2)]) rfl ?_
      cases hrun
      exact Ke ( (x2, h)) rfl
    · rw [if_pos c22] at hrun
      exact wj_X11_sumOf_38_6 rc hD0 hrc C    x1 x2 h _ hrun Ks Ke
def f_X11_sumOf (rc : Nat → Int32 → Hp → Option (Int64 × Hp)) (x1 : Int32) (h : Hp) : Option (Int64 × Hp) :=
  (rc 1 x1 h).bind fun v1 =>
  (lp (fun s => b_X11_sumOf_6 rc  x1 s.1 s.2) FU (v1.1, v1.2)).bind fun e23 =>
  some (e23.1, e23.2)
set_option maxRecDepth 20000 in
theorem w_X11_sumOf (rc : Nat → Int32 → Hp → Option (Int64 × Hp)) {D0 : Nat} (hD0 : 12 ≤ D0) (hrc : RC_C rc D0) (x1 : Int32) (h : Hp) (q : (Int64 × Hp))  (hrun : f_X11_sumOf rc x1 h = some q) : MetA ⟨"SteamNationsModel", "sumOf", "(Z)J"⟩ prog_13_method_67_code 7 (some .long) (D0 + 1) 0 0 [.ref 81, .int x1] h (some (.long q.1)) q.2 := by
  refine metA_of (by decide) (Nat.le_of_ble_eq_true rfl) (fun X C K => ?_)
  have C : Cx X cn_11 prog_13_method_67_code 7 (some .long) (D0 + 1) 0 0 := C
  show G X h 0 0 0 [(0, .ref 81), (1, .int x1)] []
  unfold f_X11_sumOf at hrun
  refine g_aload_n C (dat dt_X11_sumOf 0 rfl) 0 rfl ?_
  refine g_iload_n C (dat dt_X11_sumOf 1 rfl) 1 rfl ?_
  obtain ⟨v1, q2, hrun⟩ := bd hrun
  refine g_cVl [.int x1] C (dat dt_X11_sumOf 2 rfl) ml_11_304 (hrc.2.1 _ _ _ q2) kd_81 ltk_81 rfl rfl cat0 (Nat.le_refl _) c00 ?_
  refine g_lstore_n (lv' := [(0, .ref 81), (1, .int x1), (2, .long v1.1)]) C (dat dt_X11_sumOf 3 rfl) (by decide) rfl ?_
  obtain ⟨e23, q24, hrun⟩ := bd hrun
  refine lp_ind (P := fun s => kp_X11_sumOf_6  x1 X s) (K := fun e => ke_X11_sumOf_6  x1 X e) (fun s q hb Ks Ke => wb_X11_sumOf_6 rc hD0 hrc C   x1 s.1 s.2 q hb Ks Ke) FU (v1.1, v1.2) e23 q24 ?_
  show G X e23.2 0 0 103 [(2, .long e23.1)] []
  refine g_lload_n C (dat dt_X11_sumOf 53 rfl) 0 rfl ?_
  cases hrun
  exact g_lret C K (dat dt_X11_sumOf 54 rfl)
/-! SteamNationsModel.termOf(Z)J -/
def dl_X11_termOf : List (Nat × Instr × Nat) := [(0, .aload_n 0, 1), (1, .iload_n 1, 1), (2, .invokevirtual 312, 3), (5, .lstore_n 2, 1), (6, .aload_n 0, 1), (7, .aload_n 0, 1), (8, .getfield 291, 3), (11, .invokevirtual 294, 3), (14, .bipush 42, 2), (16, .invokestatic 250, 3), (19, .if_icmp .eq 35, 3), (22, .aload_n 0, 1), (23, .aload_n 0, 1), (24, .getfield 291, 3), (27, .invokevirtual 294, 3), (30, .bipush 47, 2), (32, .invokestatic 250, 3), (35, .if_icmp .eq 19, 3), (38, .aload_n 0, 1), (39, .aload_n 0, 1), (40, .getfield 291, 3), (43, .invokevirtual 294, 3), (46, .bipush 37, 2), (48, .invokestatic 250, 3), (51, .if_icmp .ne 117, 3), (54, .aload_n 0, 1), (55, .aload_n 0, 1), (56, .getfield 291, 3), (59, .invokevirtual 294, 3), (62, .istore 4, 2), (64, .aload_n 0, 1), (65, .dup, 1), (66, .getfield 291, 3), (69, .iconst 1, 1), (70, .iadd, 1), (71, .putfield 291, 3), (74, .aload_n 0, 1), (75, .iload_n 1, 1), (76, .invokevirtual 312, 3), (79, .lstore 5, 2), (81, .iload 4, 2), (83, .bipush 42, 2), (85, .invokestatic 250, 3), (88, .if_icmp .eq 33, 3), (91, .lload 5, 2), (93, .lconst 0, 1), (94, .lcmp, 1), (95, .ifCond .ne 26, 3), (98, .aload_n 0, 1), (99, .aload_n 0, 1), (100, .getfield 301, 3), (103, .ifCond .ne 7, 3), (106, .iload_n 1, 1), (107, .ifCond .eq 7, 3), (110, .iconst 1, 1), (111, .goto 4, 3), (114, .iconst 0, 1), (115, .putfield 301, 3), (118, .lconst 1, 1), (119, .lstore 5, 2), (121, .aload_n 0, 1), (122, .iload 4, 2), (124, .bipush 42, 2), (126, .invokestatic 250, 3), (129, .if_icmp .ne 10, 3), (132, .lload_n 2, 1), (133, .lload 5, 2), (135, .lmul, 1), (136, .goto 24, 3), (139, .iload 4, 2), (141, .bipush 47, 2), (143, .invokestatic 250, 3), (146, .if_icmp .ne 10, 3), (149, .lload_n 2, 1), (150, .lload 5, 2), (152, .ldiv, 1), (153, .goto 7, 3), (156, .lload_n 2, 1), (157, .lload 5, 2), (159, .lrem, 1), (160, .iload_n 1, 1), (161, .invokevirtual 308, 3), (164, .lstore_n 2, 1), (165, .goto (-159), 3), (168, .lload_n 2, 1), (169, .lreturn, 1)]
set_option maxRecDepth 20000 in
theorem dt_X11_termOf : ∀ q ∈ dl_X11_termOf, decode prog_13_method_68_code q.1 = .ok q.2 := by decide +kernel
def kp_X11_termOf_6  (x1 : Int32) (X : Xt) (s : (Int64 × Hp)) : Prop := G X s.2 0 0 6 [(0, .ref 81), (1, .int x1), (2, .long s.1)] []
def ke_X11_termOf_6  (x1 : Int32) (X : Xt) (e : (Int64 × Hp)) : Prop := G X e.2 0 0 168 [(2, .long e.1)] []
def j_X11_termOf_160_6 (rc : Nat → Int32 → Hp → Option (Int64 × Hp))  (x1 : Int32) (s1 : Int64) (h : Hp) : Option ((Int64 × Hp) ⊕ (Int64 × Hp)) :=
  (f_X11_bounded s1 x1 h).bind fun v22 =>
  some (.inl (v22.1, v22.2))
set_option maxRecDepth 20000 in
theorem wj_X11_termOf_160_6 (rc : Nat → Int32 → Hp → Option (Int64 × Hp)) {D0 : Nat} (hD0 : 12 ≤ D0) (hrc : RC_C rc D0) {X : Xt} (C : Cx X cn_11 prog_13_method_68_code 7 (some .long) (D0 + 1) 0 0)    (x1 : Int32) (s1 : Int64) (h : Hp) (q : (Int64 × Hp) ⊕ (Int64 × Hp)) (hrun : j_X11_termOf_160_6 rc  x1 s1 h = some q) (Ks : ∀ s, q = .inl s → kp_X11_termOf_6  x1 X s) (Ke : ∀ e, q = .inr e → ke_X11_termOf_6  x1 X e) : G X h 0 0 160 [(0, .ref 81), (1, .int x1)] [.long s1, .ref 81] := by
  unfold j_X11_termOf_160_6 at hrun
  refine g_iload_n C (dat dt_X11_termOf 80 rfl) 1 rfl ?_
  obtain ⟨v22, q23, hrun⟩ := bd hrun
  refine g_cVl [.long s1, .int x1] C (dat dt_X11_termOf 81 rfl) ml_11_308 (w_X11_bounded s1 x1 h v22  q23) kd_81 ltk_81 rfl rfl cat0 (by have hGD : GD = 60 := rfl; omega) c00 ?_
  refine g_lstore_n (lv' := [(0, .ref 81), (1, .int x1), (2, .long v22.1)]) C (dat dt_X11_termOf 82 rfl) (by decide) rfl ?_
  refine g_goto 6 C (dat dt_X11_termOf 83 rfl) (by decide) ?_
  cases hrun
  exact Ks (v22.1, v22.2) rfl
def j_X11_termOf_121_6 (rc : Nat → Int32 → Hp → Option (Int64 × Hp))  (x1 : Int32) (x2 : Int64) (x4 : Int32) (x5 : Int64) (h : Hp) : Option ((Int64 × Hp) ⊕ (Int64 × Hp)) :=
  (f_X11_sign (42 : Int32)).bind fun v15 =>
  if x4 = v15 then
  j_X11_termOf_160_6 rc  x1 (x2 * x5) h
  else
  (f_X11_sign (47 : Int32)).bind fun v18 =>
  if x4 = v18 then
  if x5 = 0 then none else
  j_X11_termOf_160_6 rc  x1 (x2 / x5) h
  else
  if x5 = 0 then none else
  j_X11_termOf_160_6 rc  x1 (x2 - x2 / x5 * x5) h
set_option maxRecDepth 20000 in
theorem wj_X11_termOf_121_6 (rc : Nat → Int32 → Hp → Option (Int64 × Hp)) {D0 : Nat} (hD0 : 12 ≤ D0) (hrc : RC_C rc D0) {X : Xt} (C : Cx X cn_11 prog_13_method_68_code 7 (some .long) (D0 + 1) 0 0)    (x1 : Int32) (x2 : Int64) (x4 : Int32) (x5 : Int64) (h : Hp) (q : (Int64 × Hp) ⊕ (Int64 × Hp)) (hrun : j_X11_termOf_121_6 rc  x1 x2 x4 x5 h = some q) (Ks : ∀ s, q = .inl s → kp_X11_termOf_6  x1 X s) (Ke : ∀ e, q = .inr e → ke_X11_termOf_6  x1 X e) : G X h 0 0 121 [(0, .ref 81), (1, .int x1), (2, .long x2), (4, .int x4), (5, .long x5)] [] := by
  unfold j_X11_termOf_121_6 at hrun
  refine g_aload_n C (dat dt_X11_termOf 60 rfl) 0 rfl ?_
  refine g_iload C (dat dt_X11_termOf 61 rfl) 3 rfl ?_
  refine g_bipush C (dat dt_X11_termOf 62 rfl) bp_42 ?_
  obtain ⟨v15, q16, hrun⟩ := bd hrun
  refine g_cSi [.int (42 : Int32)] C (dat dt_X11_termOf 63 rfl) ml_11_250 (w_X11_sign (42 : Int32) h v15  q16) rfl rfl (Nat.le_of_ble_eq_true rfl) (by have hGD : GD = 60 := rfl; omega) c00 ?_
  refine g_ic_ne 139 C (dat dt_X11_termOf 64 rfl) (by decide) (fun c17 => ?_) (fun c17 => ?_)
  · rw [if_neg c17] at hrun
    refine g_iload C (dat dt_X11_termOf 69 rfl) 3 rfl ?_
    refine g_bipush C (dat dt_X11_termOf 70 rfl) bp_47 ?_
    obtain ⟨v18, q19, hrun⟩ := bd hrun
    refine g_cSi [.int (47 : Int32)] C (dat dt_X11_termOf 71 rfl) ml_11_250 (w_X11_sign (47 : Int32) h v18  q19) rfl rfl (Nat.le_of_ble_eq_true rfl) (by have hGD : GD = 60 := rfl; omega) c00 ?_
    refine g_ic_ne 156 C (dat dt_X11_termOf 72 rfl) (by decide) (fun c20 => ?_) (fun c20 => ?_)
    · rw [if_neg c20] at hrun
      refine g_lload_n C (dat dt_X11_termOf 77 rfl) 2 rfl ?_
      refine g_lload C (dat dt_X11_termOf 78 rfl) 4 rfl ?_
      by_cases c21 : x5 = 0
      · rw [if_pos c21] at hrun
        cases hrun
      · rw [if_neg c21] at hrun
        refine g_lrem C (dat dt_X11_termOf 79 rfl) c21 ?_
        refine g_sub [0, 1] (lv' := [(0, .ref 81), (1, .int x1)]) rfl ?_
        exact wj_X11_termOf_160_6 rc hD0 hrc C    x1 (x2 - x2 / x5 * x5) h _ hrun Ks Ke
    · rw [if_pos c20] at hrun
      refine g_lload_n C (dat dt_X11_termOf 73 rfl) 2 rfl ?_
      refine g_lload C (dat dt_X11_termOf 74 rfl) 4 rfl ?_
      by_cases c24 : x5 = 0
      · rw [if_pos c24] at hrun
        cases hrun
      · rw [if_neg c24] at hrun
        refine g_ldiv C (dat dt_X11_termOf 75 rfl) c24 ?_
        refine g_goto 160 C (dat dt_X11_termOf 76 rfl) (by decide) ?_
        refine g_sub [0, 1] (lv' := [(0, .ref 81), (1, .int x1)]) rfl ?_
        exact wj_X11_termOf_160_6 rc hD0 hrc C    x1 (x2 / x5) h _ hrun Ks Ke
  · rw [if_pos c17] at hrun
    refine g_lload_n C (dat dt_X11_termOf 65 rfl) 2 rfl ?_
    refine g_lload C (dat dt_X11_termOf 66 rfl) 4 rfl ?_
    refine g_lmul C (dat dt_X11_termOf 67 rfl) ?_
    refine g_goto 160 C (dat dt_X11_termOf 68 rfl) (by decide) ?_
    refine g_sub [0, 1] (lv' := [(0, .ref 81), (1, .int x1)]) rfl ?_
    exact wj_X11_termOf_160_6 rc hD0 hrc C    x1 (x2 * x5) h _ hrun Ks Ke
def j_X11_termOf_115_6 (rc : Nat → Int32 → Hp → Option (Int64 × Hp))  (x1 : Int32) (x2 : Int64) (x4 : Int32) (s1 : Int32) (h : Hp) : Option ((Int64 × Hp) ⊕ (Int64 × Hp)) :=
  (i2b s1).bind fun b27 =>
  j_X11_termOf_121_6 rc  x1 x2 x4 (1 : Int64) (sF h 81 24 (b2i b27))
set_option maxRecDepth 20000 in
theorem wj_X11_termOf_115_6 (rc : Nat → Int32 → Hp → Option (Int64 × Hp)) {D0 : Nat} (hD0 : 12 ≤ D0) (hrc : RC_C rc D0) {X : Xt} (C : Cx X cn_11 prog_13_method_68_code 7 (some .long) (D0 + 1) 0 0)    (x1 : Int32) (x2 : Int64) (x4 : Int32) (s1 : Int32) (h : Hp) (q : (Int64 × Hp) ⊕ (Int64 × Hp)) (hrun : j_X11_termOf_115_6 rc  x1 x2 x4 s1 h = some q) (Ks : ∀ s, q = .inl s → kp_X11_termOf_6  x1 X s) (Ke : ∀ e, q = .inr e → ke_X11_termOf_6  x1 X e) : G X h 0 0 115 [(0, .ref 81), (1, .int x1), (2, .long x2), (4, .int x4)] [.int s1, .ref 81] := by
  unfold j_X11_termOf_115_6 at hrun
  obtain ⟨b27, q28, hrun⟩ := bd hrun
  refine g_putZ (b := b27) C (dat dt_X11_termOf 57 rfl) fl_11_301 (i2b_eq q28) kd_81 rfl ltk_81 ?_
  refine g_lconst (v := 1) C (dat dt_X11_termOf 58 rfl) rfl ?_
  refine g_lstore (lv' := [(0, .ref 81), (1, .int x1), (2, .long x2), (4, .int x4), (5, .long (1 : Int64))]) C (dat dt_X11_termOf 59 rfl) (by decide) rfl ?_
  exact wj_X11_termOf_121_6 rc hD0 hrc C    x1 x2 x4 (1 : Int64) (sF h 81 24 (b2i b27)) _ hrun Ks Ke
def j_X11_termOf_54_6 (rc : Nat → Int32 → Hp → Option (Int64 × Hp))  (x1 : Int32) (x2 : Int64) (h : Hp) : Option ((Int64 × Hp) ⊕ (Int64 × Hp)) :=
  (f_X11_codeAt (fI h 81 22) h).bind fun v8 =>
  (rc 2 x1 (sF h 81 22 ((fI h 81 22) + (1 : Int32)))).bind fun v10 =>
  (f_X11_sign (42 : Int32)).bind fun v12 =>
  if v8 = v12 then
  j_X11_termOf_121_6 rc  x1 x2 v8 v10.1 v10.2
  else
  if (lg_cmp v10.1 (0 : Int64)) = 0 then
  if (fI v10.2 81 24) = 0 then
  if x1 = 0 then
  j_X11_termOf_115_6 rc  x1 x2 v8 (0 : Int32) v10.2
  else
  j_X11_termOf_115_6 rc  x1 x2 v8 (1 : Int32) v10.2
  else
  j_X11_termOf_115_6 rc  x1 x2 v8 (1 : Int32) v10.2
  else
  j_X11_termOf_121_6 rc  x1 x2 v8 v10.1 v10.2
set_option maxRecDepth 20000 in
theorem wj_X11_termOf_54_6 (rc : Nat → Int32 → Hp → Option (Int64 × Hp)) {D0 : Nat} (hD0 : 12 ≤ D0) (hrc : RC_C rc D0) {X : Xt} (C : Cx X cn_11 prog_13_method_68_code 7 (some .long) (D0 + 1) 0 0)    (x1 : Int32) (x2 : Int64) (h : Hp) (q : (Int64 × Hp) ⊕ (Int64 × Hp)) (hrun : j_X11_termOf_54_6 rc  x1 x2 h = some q) (Ks : ∀ s, q = .inl s → kp_X11_termOf_6  x1 X s) (Ke : ∀ e, q = .inr e → ke_X11_termOf_6  x1 X e) : G X h 0 0 54 [(0, .ref 81), (1, .int x1), (2, .long x2)] [] := by
  unfold j_X11_termOf_54_6 at hrun
  refine g_aload_n C (dat dt_X11_termOf 25 rfl) 0 rfl ?_
  refine g_aload_n C (dat dt_X11_termOf 26 rfl) 0 rfl ?_
  refine g_getI C (dat dt_X11_termOf 27 rfl) fl_11_291 kd_81 rfl ltk_81 ?_
  obtain ⟨v8, q9, hrun⟩ := bd hrun
  refine g_cVi [.int (fI h 81 22)] C (dat dt_X11_termOf 28 rfl) ml_11_294 (w_X11_codeAt (fI h 81 22) h v8  q9) kd_81 ltk_81 rfl rfl cat0 (by have hGD : GD = 60 := rfl; omega) c00 ?_
  refine g_istore (lv' := [(0, .ref 81), (1, .int x1), (2, .long x2), (4, .int v8)]) C (dat dt_X11_termOf 29 rfl) (by decide) rfl ?_
  refine g_aload_n C (dat dt_X11_termOf 30 rfl) 0 rfl ?_
  refine g_dup C (dat dt_X11_termOf 31 rfl) rfl ?_
  refine g_getI C (dat dt_X11_termOf 32 rfl) fl_11_291 kd_81 rfl ltk_81 ?_
  refine g_iconst C (dat dt_X11_termOf 33 rfl) ic_1 ?_
  refine g_iadd C (dat dt_X11_termOf 34 rfl) ?_
  refine g_putI C (dat dt_X11_termOf 35 rfl) fl_11_291 rfl rfl kd_81 rfl ltk_81 ?_
  refine g_aload_n C (dat dt_X11_termOf 36 rfl) 0 rfl ?_
  refine g_iload_n C (dat dt_X11_termOf 37 rfl) 1 rfl ?_
  obtain ⟨v10, q11, hrun⟩ := bd hrun
  refine g_cVl [.int x1] C (dat dt_X11_termOf 38 rfl) ml_11_312 (hrc.2.2 _ _ _ q11) kd_81 ltk_81 rfl rfl cat0 (Nat.le_refl _) c00 ?_
  refine g_lstore (lv' := [(0, .ref 81), (1, .int x1), (2, .long x2), (4, .int v8), (5, .long v10.1)]) C (dat dt_X11_termOf 39 rfl) (by decide) rfl ?_
  refine g_iload C (dat dt_X11_termOf 40 rfl) 3 rfl ?_
  refine g_bipush C (dat dt_X11_termOf 41 rfl) bp_42 ?_
  obtain ⟨v12, q13, hrun⟩ := bd hrun
  refine g_cSi [.int (42 : Int32)] C (dat dt_X11_termOf 42 rfl) ml_11_250 (w_X11_sign (42 : Int32) v10.2 v12  q13) rfl rfl (Nat.le_of_ble_eq_true rfl) (by have hGD : GD = 60 := rfl; omega) c00 ?_
  refine g_ic_eq 121 C (dat dt_X11_termOf 43 rfl) (by decide) (fun c14 => ?_) (fun c14 => ?_)
  · rw [if_pos c14] at hrun
    exact wj_X11_termOf_121_6 rc hD0 hrc C    x1 x2 v8 v10.1 v10.2 _ hrun Ks Ke
  · rw [if_neg c14] at hrun
    refine g_lload C (dat dt_X11_termOf 44 rfl) 4 rfl ?_
    refine g_lconst (v := 0) C (dat dt_X11_termOf 45 rfl) rfl ?_
    refine g_lcmp C (dat dt_X11_termOf 46 rfl) ?_
    refine g_if_ne 121 C (dat dt_X11_termOf 47 rfl) (by decide) (fun c25 => ?_) (fun c25 => ?_)
    · rw [if_neg c25] at hrun
      exact wj_X11_termOf_121_6 rc hD0 hrc C    x1 x2 v8 v10.1 v10.2 _ hrun Ks Ke
    · rw [if_pos c25] at hrun
      refine g_aload_n C (dat dt_X11_termOf 48 rfl) 0 rfl ?_
      refine g_aload_n C (dat dt_X11_termOf 49 rfl) 0 rfl ?_
      refine g_getI C (dat dt_X11_termOf 50 rfl) fl_11_301 kd_81 rfl ltk_81 ?_
      refine g_if_ne 110 C (dat dt_X11_termOf 51 rfl) (by decide) (fun c26 => ?_) (fun c26 => ?_)
      · rw [if_neg c26] at hrun
        refine g_iconst C (dat dt_X11_termOf 54 rfl) ic_1 ?_
        refine g_goto 115 C (dat dt_X11_termOf 55 rfl) (by decide) ?_
        refine g_sub [0, 1, 2, 3] (lv' := [(0, .ref 81), (1, .int x1), (2, .long x2), (4, .int v8)]) rfl ?_
        exact wj_X11_termOf_115_6 rc hD0 hrc C    x1 x2 v8 (1 : Int32) v10.2 _ hrun Ks Ke
      · rw [if_pos c26] at hrun
        refine g_iload_n C (dat dt_X11_termOf 52 rfl) 1 rfl ?_
        refine g_if_eq 114 C (dat dt_X11_termOf 53 rfl) (by decide) (fun c29 => ?_) (fun c29 => ?_)
        · rw [if_pos c29] at hrun
          refine g_iconst C (dat dt_X11_termOf 56 rfl) ic_0 ?_
          refine g_sub [0, 1, 2, 3] (lv' := [(0, .ref 81), (1, .int x1), (2, .long x2), (4, .int v8)]) rfl ?_
          exact wj_X11_termOf_115_6 rc hD0 hrc C    x1 x2 v8 (0 : Int32) v10.2 _ hrun Ks Ke
        · rw [if_neg c29] at hrun
          refine g_iconst C (dat dt_X11_termOf 54 rfl) ic_1 ?_
          refine g_goto 115 C (dat dt_X11_termOf 55 rfl) (by decide) ?_
          refine g_sub [0, 1, 2, 3] (lv' := [(0, .ref 81), (1, .int x1), (2, .long x2), (4, .int v8)]) rfl ?_
          exact wj_X11_termOf_115_6 rc hD0 hrc C    x1 x2 v8 (1 : Int32) v10.2 _ hrun Ks Ke
def b_X11_termOf_6 (rc : Nat → Int32 → Hp → Option (Int64 × Hp))  (x1 : Int32) (x2 : Int64) (h : Hp) : Option ((Int64 × Hp) ⊕ (Int64 × Hp)) :=
  (f_X11_codeAt (fI h 81 22) h).bind fun v3 =>
  (f_X11_sign (42 : Int32)).bind fun v5 =>
  if v3 = v5 then
  j_X11_termOf_54_6 rc  x1 x2 h
  else
  (f_X11_codeAt (fI h 81 22) h).bind fun v30 =>
  (f_X11_sign (47 : Int32)).bind fun v32 =>
  if v30 = v32 then
  j_X11_termOf_54_6 rc  x1 x2 h
  else
  (f_X11_codeAt (fI h 81 22) h).bind fun v35 =>
  (f_X11_sign (37 : Int32)).bind fun v37 =>
  if v35 = v37 then
  j_X11_termOf_54_6 rc  x1 x2 h
  else
  some (.inr ( (x2, h)))
set_option maxRecDepth 20000 in
theorem wb_X11_termOf_6 (rc : Nat → Int32 → Hp → Option (Int64 × Hp)) {D0 : Nat} (hD0 : 12 ≤ D0) (hrc : RC_C rc D0) {X : Xt} (C : Cx X cn_11 prog_13_method_68_code 7 (some .long) (D0 + 1) 0 0)   (x1 : Int32) (x2 : Int64) (h : Hp) (q : (Int64 × Hp) ⊕ (Int64 × Hp)) (hrun : b_X11_termOf_6 rc  x1 x2 h = some q) (Ks : ∀ s, q = .inl s → kp_X11_termOf_6  x1 X s) (Ke : ∀ e, q = .inr e → ke_X11_termOf_6  x1 X e) : kp_X11_termOf_6  x1 X (x2, h) := by
  show G X h 0 0 6 [(0, .ref 81), (1, .int x1), (2, .long x2)] []
  unfold b_X11_termOf_6 at hrun
  refine g_aload_n C (dat dt_X11_termOf 4 rfl) 0 rfl ?_
  refine g_aload_n C (dat dt_X11_termOf 5 rfl) 0 rfl ?_
  refine g_getI C (dat dt_X11_termOf 6 rfl) fl_11_291 kd_81 rfl ltk_81 ?_
  obtain ⟨v3, q4, hrun⟩ := bd hrun
  refine g_cVi [.int (fI h 81 22)] C (dat dt_X11_termOf 7 rfl) ml_11_294 (w_X11_codeAt (fI h 81 22) h v3  q4) kd_81 ltk_81 rfl rfl cat0 (by have hGD : GD = 60 := rfl; omega) c00 ?_
  refine g_bipush C (dat dt_X11_termOf 8 rfl) bp_42 ?_
  obtain ⟨v5, q6, hrun⟩ := bd hrun
  refine g_cSi [.int (42 : Int32)] C (dat dt_X11_termOf 9 rfl) ml_11_250 (w_X11_sign (42 : Int32) h v5  q6) rfl rfl (Nat.le_of_ble_eq_true rfl) (by have hGD : GD = 60 := rfl; omega) c00 ?_
  refine g_ic_eq 54 C (dat dt_X11_termOf 10 rfl) (by decide) (fun c7 => ?_) (fun c7 => ?_)
  · rw [if_pos c7] at hrun
    exact wj_X11_termOf_54_6 rc hD0 hrc C    x1 x2 h _ hrun Ks Ke
  · rw [if_neg c7] at hrun
    refine g_aload_n C (dat dt_X11_termOf 11 rfl) 0 rfl ?_
    refine g_aload_n C (dat dt_X11_termOf 12 rfl) 0 rfl ?_
    refine g_getI C (dat dt_X11_termOf 13 rfl) fl_11_291 kd_81 rfl ltk_81 ?_
    obtain ⟨v30, q31, hrun⟩ := bd hrun
    refine g_cVi [.int (fI h 81 22)] C (dat dt_X11_termOf 14 rfl) ml_11_294 (w_X11_codeAt (fI h 81 22) h v30  q31) kd_81 ltk_81 rfl rfl cat0 (by have hGD : GD = 60 := rfl; omega) c00 ?_
    refine g_bipush C (dat dt_X11_termOf 15 rfl) bp_47 ?_
    obtain ⟨v32, q33, hrun⟩ := bd hrun
    refine g_cSi [.int (47 : Int32)] C (dat dt_X11_termOf 16 rfl) ml_11_250 (w_X11_sign (47 : Int32) h v32  q33) rfl rfl (Nat.le_of_ble_eq_true rfl) (by have hGD : GD = 60 := rfl; omega) c00 ?_
    refine g_ic_eq 54 C (dat dt_X11_termOf 17 rfl) (by decide) (fun c34 => ?_) (fun c34 => ?_)
    · rw [if_pos c34] at hrun
      exact wj_X11_termOf_54_6 rc hD0 hrc C    x1 x2 h _ hrun Ks Ke
    · rw [if_neg c34] at hrun
      refine g_aload_n C (dat dt_X11_termOf 18 rfl) 0 rfl ?_
      refine g_aload_n C (dat dt_X11_termOf 19 rfl) 0 rfl ?_
      refine g_getI C (dat dt_X11_termOf 20 rfl) fl_11_291 kd_81 rfl ltk_81 ?_
      obtain ⟨v35, q36, hrun⟩ := bd hrun
      refine g_cVi [.int (fI h 81 22)] C (dat dt_X11_termOf 21 rfl) ml_11_294 (w_X11_codeAt (fI h 81 22) h v35  q36) kd_81 ltk_81 rfl rfl cat0 (by have hGD : GD = 60 := rfl; omega) c00 ?_
      refine g_bipush C (dat dt_X11_termOf 22 rfl) bp_37 ?_
      obtain ⟨v37, q38, hrun⟩ := bd hrun
      refine g_cSi [.int (37 : Int32)] C (dat dt_X11_termOf 23 rfl) ml_11_250 (w_X11_sign (37 : Int32) h v37  q38) rfl rfl (Nat.le_of_ble_eq_true rfl) (by have hGD : GD = 60 := rfl; omega) c00 ?_
      refine g_ic_ne 168 C (dat dt_X11_termOf 24 rfl) (by decide) (fun c39 => ?_) (fun c39 => ?_)
      · rw [if_neg c39] at hrun
        refine g_sub [2] (lv' := [(2, .long x2)]) rfl ?_
        cases hrun
        exact Ke ( (x2, h)) rfl
      · rw [if_pos c39] at hrun
        exact wj_X11_termOf_54_6 rc hD0 hrc C    x1 x2 h _ hrun Ks Ke
def f_X11_termOf (rc : Nat → Int32 → Hp → Option (Int64 × Hp)) (x1 : Int32) (h : Hp) : Option (Int64 × Hp) :=
  (rc 2 x1 h).bind fun v1 =>
  (lp (fun s => b_X11_termOf_6 rc  x1 s.1 s.2) FU (v1.1, v1.2)).bind fun e40 =>
  some (e40.1, e40.2)
set_option maxRecDepth 20000 in
theorem w_X11_termOf (rc : Nat → Int32 → Hp → Option (Int64 × Hp)) {D0 : Nat} (hD0 : 12 ≤ D0) (hrc : RC_C rc D0) (x1 : Int32) (h : Hp) (q : (Int64 × Hp))  (hrun : f_X11_termOf rc x1 h = some q) : MetA ⟨"SteamNationsModel", "termOf", "(Z)J"⟩ prog_13_method_68_code 7 (some .long) (D0 + 1) 0 0 [.ref 81, .int x1] h (some (.long q.1)) q.2 := by
  refine metA_of (by decide) (Nat.le_of_ble_eq_true rfl) (fun X C K => ?_)
  have C : Cx X cn_11 prog_13_method_68_code 7 (some .long) (D0 + 1) 0 0 := C
  show G X h 0 0 0 [(0, .ref 81), (1, .int x1)] []
  unfold f_X11_termOf at hrun
  refine g_aload_n C (dat dt_X11_termOf 0 rfl) 0 rfl ?_
  refine g_iload_n C (dat dt_X11_termOf 1 rfl) 1 rfl ?_
  obtain ⟨v1, q2, hrun⟩ := bd hrun
  refine g_cVl [.int x1] C (dat dt_X11_termOf 2 rfl) ml_11_312 (hrc.2.2 _ _ _ q2) kd_81 ltk_81 rfl rfl cat0 (Nat.le_refl _) c00 ?_
  refine g_lstore_n (lv' := [(0, .ref 81), (1, .int x1), (2, .long v1.1)]) C (dat dt_X11_termOf 3 rfl) (by decide) rfl ?_
  obtain ⟨e40, q41, hrun⟩ := bd hrun
  refine lp_ind (P := fun s => kp_X11_termOf_6  x1 X s) (K := fun e => ke_X11_termOf_6  x1 X e) (fun s q hb Ks Ke => wb_X11_termOf_6 rc hD0 hrc C   x1 s.1 s.2 q hb Ks Ke) FU (v1.1, v1.2) e40 q41 ?_
  show G X e40.2 0 0 168 [(2, .long e40.1)] []
  refine g_lload_n C (dat dt_X11_termOf 84 rfl) 0 rfl ?_
  cases hrun
  exact g_lret C K (dat dt_X11_termOf 85 rfl)
/-! SteamNationsModel.partOf(Z)J -/
def dl_X11_partOf : List (Nat × Instr × Nat) := [(0, .aload_n 0, 1), (1, .bipush 91, 2), (3, .invokestatic 250, 3), (6, .invokevirtual 315, 3), (9, .ifCond .eq 21, 3), (12, .aload_n 0, 1), (13, .iload_n 1, 1), (14, .invokevirtual 318, 3), (17, .lstore_n 2, 1), (18, .aload_n 0, 1), (19, .dup, 1), (20, .getfield 291, 3), (23, .iconst 1, 1), (24, .iadd, 1), (25, .putfield 291, 3), (28, .lload_n 2, 1), (29, .lreturn, 1), (30, .aload_n 0, 1), (31, .aload_n 0, 1), (32, .getfield 291, 3), (35, .invokevirtual 294, 3), (38, .istore_n 2, 1), (39, .iconst 0, 1), (40, .istore_n 3, 1), (41, .aload_n 0, 1), (42, .dup, 1), (43, .getfield 291, 3), (46, .iconst 1, 1), (47, .iadd, 1), (48, .putfield 291, 3), (51, .aload_n 0, 1), (52, .getfield 321, 3), (55, .ifCond .eq 39, 3), (58, .iload_n 2, 1), (59, .bipush 14, 2), (61, .if_icmp .eq 9, 3), (64, .iload_n 2, 1), (65, .bipush 20, 2), (67, .if_icmp .ne 27, 3), (70, .aload_n 0, 1), (71, .getfield 28, 3), (74, .sipush 2862, 3), (77, .aload_n 0, 1), (78, .getfield 291, 3), (81, .iadd, 1), (82, .iaload, 1), (83, .istore_n 3, 1), (84, .aload_n 0, 1), (85, .dup, 1), (86, .getfield 291, 3), (89, .iconst 1, 1), (90, .iadd, 1), (91, .putfield 291, 3), (94, .iload_n 1, 1), (95, .ifCond .eq 10, 3), (98, .aload_n 0, 1), (99, .getfield 301, 3), (102, .ifCond .eq 5, 3), (105, .lconst 0, 1), (106, .lreturn, 1), (107, .iload_n 2, 1), (108, .bipush 50, 2), (110, .if_icmp .ne 20, 3), (113, .aload_n 0, 1), (114, .getfield 28, 3), (117, .sipush 2862, 3), (120, .aload_n 0, 1), (121, .getfield 291, 3), (124, .iadd, 1), (125, .iconst 1, 1), (126, .isub, 1), (127, .iaload, 1), (128, .i2l, 1), (129, .lreturn, 1), (130, .aload_n 0, 1), (131, .getfield 321, 3), (134, .ifCond .eq 13, 3), (137, .aload_n 0, 1), (138, .iload_n 2, 1), (139, .iload_n 3, 1), (140, .invokevirtual 324, 3), (143, .i2l, 1), (144, .goto 13, 3), (147, .aload_n 0, 1), (148, .getfield 63, 3), (151, .iload_n 2, 1), (152, .bipush 8, 2), (154, .isub, 1), (155, .iaload, 1), (156, .i2l, 1), (157, .lreturn, 1)]
set_option maxRecDepth 20000 in
theorem dt_X11_partOf : ∀ q ∈ dl_X11_partOf, decode prog_13_method_69_code q.1 = .ok q.2 := by decide +kernel
def j_X11_partOf_94 (rc : Nat → Int32 → Hp → Option (Int64 × Hp))  (x1 : Int32) (x2 : Int32) (x3 : Int32) (h : Hp) : Option (Int64 × Hp) :=
  if x1 = 0 then
  some ((0 : Int64), h)
  else
  if (fI h 81 24) = 0 then
  if x2 = (50 : Int32) then
  (inb (((2862 : Int32) + (fI h 81 22)) - (1 : Int32)) 5662).bind fun j17 =>
  some ((aI h 83 j17).toInt64, h)
  else
  if (fI h 81 25) = 0 then
  (inb (x2 - (8 : Int32)) 8).bind fun j13 =>
  some ((aI h 93 j13).toInt64, h)
  else
  (f_X11_orderValue x2 x3 h).bind fun v15 =>
  some ((v15).toInt64, h)
  else
  some ((0 : Int64), h)
set_option maxRecDepth 20000 in
theorem wj_X11_partOf_94 (rc : Nat → Int32 → Hp → Option (Int64 × Hp)) {D0 : Nat} (hD0 : 12 ≤ D0) (hrc : RC_C rc D0) {X : Xt} (C : Cx X cn_11 prog_13_method_69_code 4 (some .long) (D0 + 1) 0 0)    (x1 : Int32) (x2 : Int32) (x3 : Int32) (h : Hp) (q : (Int64 × Hp)) (hrun : j_X11_partOf_94 rc  x1 x2 x3 h = some q) (K : EndQ X 0 0 (some (.long q.1)) q.2) : G X h 0 0 94 [(0, .ref 81), (1, .int x1), (2, .int x2), (3, .int x3)] [] := by
  unfold j_X11_partOf_94 at hrun
  refine g_iload_n C (dat dt_X11_partOf 53 rfl) 1 rfl ?_
  refine g_if_eq 105 C (dat dt_X11_partOf 54 rfl) (by decide) (fun c9 => ?_) (fun c9 => ?_)
  · rw [if_pos c9] at hrun
    refine g_lconst (v := 0) C (dat dt_X11_partOf 58 rfl) rfl ?_
    cases hrun
    exact g_lret C K (dat dt_X11_partOf 59 rfl)
  · rw [if_neg c9] at hrun
    refine g_aload_n C (dat dt_X11_partOf 55 rfl) 0 rfl ?_
    refine g_getI C (dat dt_X11_partOf 56 rfl) fl_11_301 kd_81 rfl ltk_81 ?_
    refine g_if_eq 107 C (dat dt_X11_partOf 57 rfl) (by decide) (fun c10 => ?_) (fun c10 => ?_)
    · rw [if_pos c10] at hrun
      refine g_iload_n C (dat dt_X11_partOf 60 rfl) 2 rfl ?_
      refine g_bipush C (dat dt_X11_partOf 61 rfl) bp_50 ?_
      refine g_ic_ne 130 C (dat dt_X11_partOf 62 rfl) (by decide) (fun c11 => ?_) (fun c11 => ?_)
      · rw [if_neg c11] at hrun
        refine g_aload_n C (dat dt_X11_partOf 74 rfl) 0 rfl ?_
        refine g_getI C (dat dt_X11_partOf 75 rfl) fl_11_321 kd_81 rfl ltk_81 ?_
        refine g_if_eq 147 C (dat dt_X11_partOf 76 rfl) (by decide) (fun c12 => ?_) (fun c12 => ?_)
        · rw [if_pos c12] at hrun
          refine g_aload_n C (dat dt_X11_partOf 83 rfl) 0 rfl ?_
          refine g_getR C (dat dt_X11_partOf 84 rfl) fl_11_63 kd_81 rfl ltk_81 ?_
          refine g_iload_n C (dat dt_X11_partOf 85 rfl) 2 rfl ?_
          refine g_bipush C (dat dt_X11_partOf 86 rfl) bp_8 ?_
          refine g_isub C (dat dt_X11_partOf 87 rfl) ?_
          obtain ⟨j13, q14, hrun⟩ := bd hrun
          refine g_iald C (dat dt_X11_partOf 88 rfl) kd_93 ltk_93 q14 ?_
          refine g_i2l C (dat dt_X11_partOf 89 rfl) ?_
          cases hrun
          exact g_lret C K (dat dt_X11_partOf 90 rfl)
        · rw [if_neg c12] at hrun
          refine g_aload_n C (dat dt_X11_partOf 77 rfl) 0 rfl ?_
          refine g_iload_n C (dat dt_X11_partOf 78 rfl) 2 rfl ?_
          refine g_iload_n C (dat dt_X11_partOf 79 rfl) 3 rfl ?_
          obtain ⟨v15, q16, hrun⟩ := bd hrun
          refine g_cVi [.int x2, .int x3] C (dat dt_X11_partOf 80 rfl) ml_11_324 (w_X11_orderValue x2 x3 h v15  q16) kd_81 ltk_81 rfl rfl cat0 (by have hGD : GD = 60 := rfl; omega) c00 ?_
          refine g_i2l C (dat dt_X11_partOf 81 rfl) ?_
          refine g_goto 157 C (dat dt_X11_partOf 82 rfl) (by decide) ?_
          cases hrun
          exact g_lret C K (dat dt_X11_partOf 90 rfl)
      · rw [if_pos c11] at hrun
        refine g_aload_n C (dat dt_X11_partOf 63 rfl) 0 rfl ?_
        refine g_getR C (dat dt_X11_partOf 64 rfl) fl_11_28 kd_81 rfl ltk_81 ?_
        refine g_sipush C (dat dt_X11_partOf 65 rfl) sp_2862 ?_
        refine g_aload_n C (dat dt_X11_partOf 66 rfl) 0 rfl ?_
        refine g_getI C (dat dt_X11_partOf 67 rfl) fl_11_291 kd_81 rfl ltk_81 ?_
        refine g_iadd C (dat dt_X11_partOf 68 rfl) ?_
        refine g_iconst C (dat dt_X11_partOf 69 rfl) ic_1 ?_
        refine g_isub C (dat dt_X11_partOf 70 rfl) ?_
        obtain ⟨j17, q18, hrun⟩ := bd hrun
        refine g_iald C (dat dt_X11_partOf 71 rfl) kd_83 ltk_83 q18 ?_
        refine g_i2l C (dat dt_X11_partOf 72 rfl) ?_
        cases hrun
        exact g_lret C K (dat dt_X11_partOf 73 rfl)
    · rw [if_neg c10] at hrun
      refine g_lconst (v := 0) C (dat dt_X11_partOf 58 rfl) rfl ?_
      cases hrun
      exact g_lret C K (dat dt_X11_partOf 59 rfl)
def j_X11_partOf_70 (rc : Nat → Int32 → Hp → Option (Int64 × Hp))  (x1 : Int32) (x2 : Int32) (h : Hp) : Option (Int64 × Hp) :=
  (inb ((2862 : Int32) + (fI h 81 22)) 5662).bind fun j20 =>
  j_X11_partOf_94 rc  x1 x2 (aI h 83 j20) (sF h 81 22 ((fI h 81 22) + (1 : Int32)))
set_option maxRecDepth 20000 in
theorem wj_X11_partOf_70 (rc : Nat → Int32 → Hp → Option (Int64 × Hp)) {D0 : Nat} (hD0 : 12 ≤ D0) (hrc : RC_C rc D0) {X : Xt} (C : Cx X cn_11 prog_13_method_69_code 4 (some .long) (D0 + 1) 0 0)    (x1 : Int32) (x2 : Int32) (h : Hp) (q : (Int64 × Hp)) (hrun : j_X11_partOf_70 rc  x1 x2 h = some q) (K : EndQ X 0 0 (some (.long q.1)) q.2) : G X h 0 0 70 [(0, .ref 81), (1, .int x1), (2, .int x2)] [] := by
  unfold j_X11_partOf_70 at hrun
  refine g_aload_n C (dat dt_X11_partOf 39 rfl) 0 rfl ?_
  refine g_getR C (dat dt_X11_partOf 40 rfl) fl_11_28 kd_81 rfl ltk_81 ?_
  refine g_sipush C (dat dt_X11_partOf 41 rfl) sp_2862 ?_
  refine g_aload_n C (dat dt_X11_partOf 42 rfl) 0 rfl ?_
  refine g_getI C (dat dt_X11_partOf 43 rfl) fl_11_291 kd_81 rfl ltk_81 ?_
  refine g_iadd C (dat dt_X11_partOf 44 rfl) ?_
  obtain ⟨j20, q21, hrun⟩ := bd hrun
  refine g_iald C (dat dt_X11_partOf 45 rfl) kd_83 ltk_83 q21 ?_
  refine g_istore_n (lv' := [(0, .ref 81), (1, .int x1), (2, .int x2), (3, .int (aI h 83 j20))]) C (dat dt_X11_partOf 46 rfl) (by decide) rfl ?_
  refine g_aload_n C (dat dt_X11_partOf 47 rfl) 0 rfl ?_
  refine g_dup C (dat dt_X11_partOf 48 rfl) rfl ?_
  refine g_getI C (dat dt_X11_partOf 49 rfl) fl_11_291 kd_81 rfl ltk_81 ?_
  refine g_iconst C (dat dt_X11_partOf 50 rfl) ic_1 ?_
  refine g_iadd C (dat dt_X11_partOf 51 rfl) ?_
  refine g_putI C (dat dt_X11_partOf 52 rfl) fl_11_291 rfl rfl kd_81 rfl ltk_81 ?_
  exact wj_X11_partOf_94 rc hD0 hrc C    x1 x2 (aI h 83 j20) (sF h 81 22 ((fI h 81 22) + (1 : Int32))) _ hrun K
def f_X11_partOf (rc : Nat → Int32 → Hp → Option (Int64 × Hp)) (x1 : Int32) (h : Hp) : Option (Int64 × Hp) :=
  (f_X11_sign (91 : Int32)).bind fun v1 =>
  (f_X11_passes0 v1 h).bind fun v3 =>
  if v3.1 = true then
  (rc 0 x1 v3.2).bind fun v23 =>
  some (v23.1, (sF v23.2 81 22 ((fI v23.2 81 22) + (1 : Int32))))
  else
  (f_X11_codeAt (fI v3.2 81 22) v3.2).bind fun v6 =>
  if (fI (sF v3.2 81 22 ((fI v3.2 81 22) + (1 : Int32))) 81 25) = 0 then
  j_X11_partOf_94 rc  x1 v6 (0 : Int32) (sF v3.2 81 22 ((fI v3.2 81 22) + (1 : Int32)))
  else
  if v6 = (14 : Int32) then
  j_X11_partOf_70 rc  x1 v6 (sF v3.2 81 22 ((fI v3.2 81 22) + (1 : Int32)))
  else
  if v6 = (20 : Int32) then
  j_X11_partOf_70 rc  x1 v6 (sF v3.2 81 22 ((fI v3.2 81 22) + (1 : Int32)))
  else
  j_X11_partOf_94 rc  x1 v6 (0 : Int32) (sF v3.2 81 22 ((fI v3.2 81 22) + (1 : Int32)))
set_option maxRecDepth 20000 in
theorem w_X11_partOf (rc : Nat → Int32 → Hp → Option (Int64 × Hp)) {D0 : Nat} (hD0 : 12 ≤ D0) (hrc : RC_C rc D0) (x1 : Int32) (h : Hp) (q : (Int64 × Hp))  (hrun : f_X11_partOf rc x1 h = some q) : MetA ⟨"SteamNationsModel", "partOf", "(Z)J"⟩ prog_13_method_69_code 4 (some .long) (D0 + 1) 0 0 [.ref 81, .int x1] h (some (.long q.1)) q.2 := by
  refine metA_of (by decide) (Nat.le_of_ble_eq_true rfl) (fun X C K => ?_)
  have C : Cx X cn_11 prog_13_method_69_code 4 (some .long) (D0 + 1) 0 0 := C
  show G X h 0 0 0 [(0, .ref 81), (1, .int x1)] []
  unfold f_X11_partOf at hrun
  refine g_aload_n C (dat dt_X11_partOf 0 rfl) 0 rfl ?_
  refine g_bipush C (dat dt_X11_partOf 1 rfl) bp_91 ?_
  obtain ⟨v1, q2, hrun⟩ := bd hrun
  refine g_cSi [.int (91 : Int32)] C (dat dt_X11_partOf 2 rfl) ml_11_250 (w_X11_sign (91 : Int32) h v1  q2) rfl rfl (Nat.le_of_ble_eq_true rfl) (by have hGD : GD = 60 := rfl; omega) c00 ?_
  obtain ⟨v3, q4, hrun⟩ := bd hrun
  refine g_cVi [.int v1] C (dat dt_X11_partOf 3 rfl) ml_11_315 (w_X11_passes0 v1 h v3  q4) kd_81 ltk_81 rfl rfl cat0 (by have hGD : GD = 60 := rfl; omega) c00 ?_
  refine g_if_eq 30 C (dat dt_X11_partOf 4 rfl) (by decide) (fun c5 => ?_) (fun c5 => ?_)
  · rw [if_neg (b2i_z c5)] at hrun
    refine g_aload_n C (dat dt_X11_partOf 17 rfl) 0 rfl ?_
    refine g_aload_n C (dat dt_X11_partOf 18 rfl) 0 rfl ?_
    refine g_getI C (dat dt_X11_partOf 19 rfl) fl_11_291 kd_81 rfl ltk_81 ?_
    obtain ⟨v6, q7, hrun⟩ := bd hrun
    refine g_cVi [.int (fI v3.2 81 22)] C (dat dt_X11_partOf 20 rfl) ml_11_294 (w_X11_codeAt (fI v3.2 81 22) v3.2 v6  q7) kd_81 ltk_81 rfl rfl cat0 (by have hGD : GD = 60 := rfl; omega) c00 ?_
    refine g_istore_n (lv' := [(0, .ref 81), (1, .int x1), (2, .int v6)]) C (dat dt_X11_partOf 21 rfl) (by decide) rfl ?_
    refine g_iconst C (dat dt_X11_partOf 22 rfl) ic_0 ?_
    refine g_istore_n (lv' := [(0, .ref 81), (1, .int x1), (2, .int v6), (3, .int (0 : Int32))]) C (dat dt_X11_partOf 23 rfl) (by decide) rfl ?_
    refine g_aload_n C (dat dt_X11_partOf 24 rfl) 0 rfl ?_
    refine g_dup C (dat dt_X11_partOf 25 rfl) rfl ?_
    refine g_getI C (dat dt_X11_partOf 26 rfl) fl_11_291 kd_81 rfl ltk_81 ?_
    refine g_iconst C (dat dt_X11_partOf 27 rfl) ic_1 ?_
    refine g_iadd C (dat dt_X11_partOf 28 rfl) ?_
    refine g_putI C (dat dt_X11_partOf 29 rfl) fl_11_291 rfl rfl kd_81 rfl ltk_81 ?_
    refine g_aload_n C (dat dt_X11_partOf 30 rfl) 0 rfl ?_
    refine g_getI C (dat dt_X11_partOf 31 rfl) fl_11_321 kd_81 rfl ltk_81 ?_
    refine g_if_eq 94 C (dat dt_X11_partOf 32 rfl) (by decide) (fun c8 => ?_) (fun c8 => ?_)
    · rw [if_pos c8] at hrun
      exact wj_X11_partOf_94 rc hD0 hrc C    x1 v6 (0 : Int32) (sF v3.2 81 22 ((fI v3.2 81 22) + (1 : Int32))) _ hrun K
    · rw [if_neg c8] at hrun
      refine g_iload_n C (dat dt_X11_partOf 33 rfl) 2 rfl ?_
      refine g_bipush C (dat dt_X11_partOf 34 rfl) bp_14 ?_
      refine g_ic_eq 70 C (dat dt_X11_partOf 35 rfl) (by decide) (fun c19 => ?_) (fun c19 => ?_)
      · rw [if_pos c19] at hrun
        refine g_sub [0, 1, 2] (lv' := [(0, .ref 81), (1, .int x1), (2, .int v6)]) rfl ?_
        exact wj_X11_partOf_70 rc hD0 hrc C    x1 v6 (sF v3.2 81 22 ((fI v3.2 81 22) + (1 : Int32))) _ hrun K
      · rw [if_neg c19] at hrun
        refine g_iload_n C (dat dt_X11_partOf 36 rfl) 2 rfl ?_
        refine g_bipush C (dat dt_X11_partOf 37 rfl) bp_20 ?_
        refine g_ic_ne 94 C (dat dt_X11_partOf 38 rfl) (by decide) (fun c22 => ?_) (fun c22 => ?_)
        · rw [if_neg c22] at hrun
          exact wj_X11_partOf_94 rc hD0 hrc C    x1 v6 (0 : Int32) (sF v3.2 81 22 ((fI v3.2 81 22) + (1 : Int32))) _ hrun K
        · rw [if_pos c22] at hrun
          refine g_sub [0, 1, 2] (lv' := [(0, .ref 81), (1, .int x1), (2, .int v6)]) rfl ?_
          exact wj_X11_partOf_70 rc hD0 hrc C    x1 v6 (sF v3.2 81 22 ((fI v3.2 81 22) + (1 : Int32))) _ hrun K
  · rw [if_pos (b2i_nz c5)] at hrun
    refine g_aload_n C (dat dt_X11_partOf 5 rfl) 0 rfl ?_
    refine g_iload_n C (dat dt_X11_partOf 6 rfl) 1 rfl ?_
    obtain ⟨v23, q24, hrun⟩ := bd hrun
    refine g_cVl [.int x1] C (dat dt_X11_partOf 7 rfl) ml_11_318 (hrc.1 _ _ _ q24) kd_81 ltk_81 rfl rfl cat0 (Nat.le_refl _) c00 ?_
    refine g_lstore_n (lv' := [(0, .ref 81), (1, .int x1), (2, .long v23.1)]) C (dat dt_X11_partOf 8 rfl) (by decide) rfl ?_
    refine g_aload_n C (dat dt_X11_partOf 9 rfl) 0 rfl ?_
    refine g_dup C (dat dt_X11_partOf 10 rfl) rfl ?_
    refine g_getI C (dat dt_X11_partOf 11 rfl) fl_11_291 kd_81 rfl ltk_81 ?_
    refine g_iconst C (dat dt_X11_partOf 12 rfl) ic_1 ?_
    refine g_iadd C (dat dt_X11_partOf 13 rfl) ?_
    refine g_putI C (dat dt_X11_partOf 14 rfl) fl_11_291 rfl rfl kd_81 rfl ltk_81 ?_
    refine g_lload_n C (dat dt_X11_partOf 15 rfl) 2 rfl ?_
    cases hrun
    exact g_lret C K (dat dt_X11_partOf 16 rfl)
def gr_C : Nat → Nat → Int32 → Hp → Option (Int64 × Hp)
  | 0, _, _, _ => none
  | d + 1, k, x, h => if k = 0 then f_X11_sumOf (gr_C d) x h else if k = 1 then f_X11_termOf (gr_C d) x h else if k = 2 then f_X11_partOf (gr_C d) x h else none
theorem w_gr_C : ∀ d, RC_C (gr_C d) (12 + d)
  | 0 => ⟨fun x h q hq => (by cases hq), fun x h q hq => (by cases hq), fun x h q hq => (by cases hq)⟩
  | d + 1 => by
    have ih := w_gr_C d
    refine ⟨?_, ?_, ?_⟩
    · intro x h q hq
      unfold gr_C at hq
      rw [if_pos rfl] at hq
      exact w_X11_sumOf _ (by omega) ih x h q hq
    · intro x h q hq
      unfold gr_C at hq
      rw [if_neg (by decide)] at hq
      rw [if_pos rfl] at hq
      exact w_X11_termOf _ (by omega) ih x h q hq
    · intro x h q hq
      unfold gr_C at hq
      rw [if_neg (by decide)] at hq
      rw [if_neg (by decide)] at hq
      rw [if_pos rfl] at hq
      exact w_X11_partOf _ (by omega) ih x h q hq
