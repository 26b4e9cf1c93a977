def RC_D (rc : Nat → Int32 → Hp → Option (Bool × Hp)) (D0 : Nat) : Prop := (∀ x h q, rc 0 x h = some q → MetA ⟨"SteamNationsModel", "testOf", "(Z)Z"⟩ prog_13_method_71_code 4 (some .boolean) D0 0 0 [.ref 81, .int x] h (some (.int (b2i q.1))) q.2) ∧ (∀ x h q, rc 1 x h = some q → MetA ⟨"SteamNationsModel", "bothOf", "(Z)Z"⟩ prog_13_method_72_code 4 (some .boolean) D0 0 0 [.ref 81, .int x] h (some (.int (b2i q.1))) q.2) ∧ (∀ x h q, rc 2 x h = some q → MetA ⟨"SteamNationsModel", "plainOf", "(Z)Z"⟩ prog_13_method_73_code 3 (some .boolean) D0 0 0 [.ref 81, .int x] h (some (.int (b2i q.1))) q.2) ∧ (∀ x h q, rc 3 x h = some q → MetA ⟨"SteamNationsModel", "positiveOf", "(Z)Z"⟩ prog_13_method_74_code 7 (some .boolean) D0 0 0 [.ref 81, .int x] h (some (.int (b2i q.1))) q.2)
/-! SteamNationsModel.testOf(Z)Z -/
def dl_X11_testOf : List (Nat × Instr × Nat) := [(0, .aload_n 0, 1), (1, .iload_n 1, 1), (2, .invokevirtual 339, 3), (5, .istore_n 2, 1), (6, .aload_n 0, 1), (7, .iconst 5, 1), (8, .invokevirtual 315, 3), (11, .ifCond .eq 38, 3), (14, .aload_n 0, 1), (15, .iload_n 1, 1), (16, .ifCond .eq 11, 3), (19, .iload_n 2, 1), (20, .ifCond .ne 7, 3), (23, .iconst 1, 1), (24, .goto 4, 3), (27, .iconst 0, 1), (28, .invokevirtual 339, 3), (31, .istore_n 3, 1), (32, .iload_n 2, 1), (33, .ifCond .ne 7, 3), (36, .iload_n 3, 1), (37, .ifCond .eq 7, 3), (40, .iconst 1, 1), (41, .goto 4, 3), (44, .iconst 0, 1), (45, .istore_n 2, 1), (46, .goto (-40), 3), (49, .iload_n 2, 1), (50, .ireturn, 1)]
set_option maxRecDepth 20000 in
theorem dt_X11_testOf : ∀ q ∈ dl_X11_testOf, decode prog_13_method_71_code q.1 = .ok q.2 := by decide +kernel
def kp_X11_testOf_6  (x1 : Int32) (X : Xt) (s : (Int32 × Hp)) : Prop := G X s.2 0 0 6 [(0, .ref 81), (1, .int x1), (2, .int s.1)] []
def ke_X11_testOf_6  (x1 : Int32) (X : Xt) (e : (Int32 × Hp)) : Prop := G X e.2 0 0 49 [(2, .int e.1)] []
def j_X11_testOf_28_6 (rc : Nat → Int32 → Hp → Option (Bool × Hp))  (x1 : Int32) (x2 : Int32) (s1 : Int32) (h : Hp) : Option ((Int32 × Hp) ⊕ (Int32 × Hp)) :=
  (rc 1 s1 h).bind fun v7 =>
  if x2 = 0 then
  if v7.1 = true then
  some (.inl ((1 : Int32), v7.2))
  else
  some (.inl ((0 : Int32), v7.2))
  else
  some (.inl ((1 : Int32), v7.2))
set_option maxRecDepth 20000 in
theorem wj_X11_testOf_28_6 (rc : Nat → Int32 → Hp → Option (Bool × Hp)) {D0 : Nat} (hD0 : 80 ≤ D0) (hrc : RC_D rc D0) {X : Xt} (C : Cx X cn_11 prog_13_method_71_code 4 (some .boolean) (D0 + 1) 0 0)    (x1 : Int32) (x2 : Int32) (s1 : Int32) (h : Hp) (q : (Int32 × Hp) ⊕ (Int32 × Hp)) (hrun : j_X11_testOf_28_6 rc  x1 x2 s1 h = some q) (Ks : ∀ s, q = .inl s → kp_X11_testOf_6  x1 X s) (Ke : ∀ e, q = .inr e → ke_X11_testOf_6  x1 X e) : G X h 0 0 28 [(0, .ref 81), (1, .int x1), (2, .int x2)] [.int s1, .ref 81] := by
  unfold j_X11_testOf_28_6 at hrun
  obtain ⟨v7, q8, hrun⟩ := bd hrun
  refine g_cVi [.int s1] C (dat dt_X11_testOf 16 rfl) ml_11_339 (hrc.2.1 _ _ _ q8) kd_81 ltk_81 rfl rfl cat0 (Nat.le_refl _) c00 ?_
  refine g_istore_n (lv' := [(0, .ref 81), (1, .int x1), (2, .int x2), (3, .int (b2i v7.1))]) C (dat dt_X11_testOf 17 rfl) (by decide) rfl ?_
  refine g_iload_n C (dat dt_X11_testOf 18 rfl) 2 rfl ?_
  refine g_if_ne 40 C (dat dt_X11_testOf 19 rfl) (by decide) (fun c9 => ?_) (fun c9 => ?_)
  · rw [if_neg c9] at hrun
    refine g_iconst C (dat dt_X11_testOf 22 rfl) ic_1 ?_
    refine g_goto 45 C (dat dt_X11_testOf 23 rfl) (by decide) ?_
    refine g_istore_n (lv' := [(0, .ref 81), (1, .int x1), (2, .int (1 : Int32)), (3, .int (b2i v7.1))]) C (dat dt_X11_testOf 25 rfl) (by decide) rfl ?_
    refine g_goto 6 C (dat dt_X11_testOf 26 rfl) (by decide) ?_
    refine g_sub [0, 1, 2] (lv' := [(0, .ref 81), (1, .int x1), (2, .int (1 : Int32))]) rfl ?_
    cases hrun
    exact Ks ((1 : Int32), v7.2) rfl
  · rw [if_pos c9] at hrun
    refine g_iload_n C (dat dt_X11_testOf 20 rfl) 3 rfl ?_
    refine g_if_eq 44 C (dat dt_X11_testOf 21 rfl) (by decide) (fun c10 => ?_) (fun c10 => ?_)
    · rw [if_neg (b2i_z c10)] at hrun
      refine g_iconst C (dat dt_X11_testOf 24 rfl) ic_0 ?_
      refine g_istore_n (lv' := [(0, .ref 81), (1, .int x1), (2, .int (0 : Int32)), (3, .int (b2i v7.1))]) C (dat dt_X11_testOf 25 rfl) (by decide) rfl ?_
      refine g_goto 6 C (dat dt_X11_testOf 26 rfl) (by decide) ?_
      refine g_sub [0, 1, 2] (lv' := [(0, .ref 81), (1, .int x1), (2, .int (0 : Int32))]) rfl ?_
      cases hrun
      exact Ks ((0 : Int32), v7.2) rfl
    · rw [if_pos (b2i_nz c10)] at hrun
      refine g_iconst C (dat dt_X11_testOf 22 rfl) ic_1 ?_
      refine g_goto 45 C (dat dt_X11_testOf 23 rfl) (by decide) ?_
      refine g_istore_n (lv' := [(0, .ref 81), (1, .int x1), (2, .int (1 : Int32)), (3, .int (b2i v7.1))]) C (dat dt_X11_testOf 25 rfl) (by decide) rfl ?_
      refine g_goto 6 C (dat dt_X11_testOf 26 rfl) (by decide) ?_
      refine g_sub [0, 1, 2] (lv' := [(0, .ref 81), (1, .int x1), (2, .int (1 : Int32))]) rfl ?_
      cases hrun
      exact Ks ((1 : Int32), v7.2) rfl
def j_X11_testOf_27_6 (rc : Nat → Int32 → Hp → Option (Bool × Hp))  (x1 : Int32) (x2 : Int32) (h : Hp) : Option ((Int32 × Hp) ⊕ (Int32 × Hp)) :=
  j_X11_testOf_28_6 rc  x1 x2 (0 : Int32) h
set_option maxRecDepth 20000 in
theorem wj_X11_testOf_27_6 (rc : Nat → Int32 → Hp → Option (Bool × Hp)) {D0 : Nat} (hD0 : 80 ≤ D0) (hrc : RC_D rc D0) {X : Xt} (C : Cx X cn_11 prog_13_method_71_code 4 (some .boolean) (D0 + 1) 0 0)    (x1 : Int32) (x2 : Int32) (h : Hp) (q : (Int32 × Hp) ⊕ (Int32 × Hp)) (hrun : j_X11_testOf_27_6 rc  x1 x2 h = some q) (Ks : ∀ s, q = .inl s → kp_X11_testOf_6  x1 X s) (Ke : ∀ e, q = .inr e → ke_X11_testOf_6  x1 X e) : G X h 0 0 27 [(0, .ref 81), (1, .int x1), (2, .int x2)] [.ref 81] := by
  unfold j_X11_testOf_27_6 at hrun
  refine g_iconst C (dat dt_X11_testOf 15 rfl) ic_0 ?_
  exact wj_X11_testOf_28_6 rc hD0 hrc C    x1 x2 (0 : Int32) h _ hrun Ks Ke
def b_X11_testOf_6 (rc : Nat → Int32 → Hp → Option (Bool × Hp))  (x1 : Int32) (x2 : Int32) (h : Hp) : Option ((Int32 × Hp) ⊕ (Int32 × Hp)) :=
  (f_X11_passes0 (5 : Int32) h).bind fun v3 =>
  if v3.1 = true then
  if x1 = 0 then
  j_X11_testOf_27_6 rc  x1 x2 v3.2
  else
  if x2 = 0 then
  j_X11_testOf_28_6 rc  x1 x2 (1 : Int32) v3.2
  else
  j_X11_testOf_27_6 rc  x1 x2 v3.2
  else
  some (.inr ( (x2, v3.2)))
set_option maxRecDepth 20000 in
theorem wb_X11_testOf_6 (rc : Nat → Int32 → Hp → Option (Bool × Hp)) {D0 : Nat} (hD0 : 80 ≤ D0) (hrc : RC_D rc D0) {X : Xt} (C : Cx X cn_11 prog_13_method_71_code 4 (some .boolean) (D0 + 1) 0 0)   (x1 : Int32) (x2 : Int32) (h : Hp) (q : (Int32 × Hp) ⊕ (Int32 × Hp)) (hrun : b_X11_testOf_6 rc  x1 x2 h = some q) (Ks : ∀ s, q = .inl s → kp_X11_testOf_6  x1 X s) (Ke : ∀ e, q = .inr e → ke_X11_testOf_6  x1 X e) : kp_X11_testOf_6  x1 X (x2, h) := by
  show G X h 0 0 6 [(0, .ref 81), (1, .int x1), (2, .int x2)] []
  unfold b_X11_testOf_6 at hrun
  refine g_aload_n C (dat dt_X11_testOf 4 rfl) 0 rfl ?_
  refine g_iconst C (dat dt_X11_testOf 5 rfl) ic_5 ?_
  obtain ⟨v3, q4, hrun⟩ := bd hrun
  refine g_cVi [.int (5 : Int32)] C (dat dt_X11_testOf 6 rfl) ml_11_315 (w_X11_passes0 (5 : Int32) h v3  q4) kd_81 ltk_81 rfl rfl cat0 (by have hGD : GD = 60 := rfl; omega) c00 ?_
  refine g_if_eq 49 C (dat dt_X11_testOf 7 rfl) (by decide) (fun c5 => ?_) (fun c5 => ?_)
  · rw [if_neg (b2i_z c5)] at hrun
    refine g_sub [2] (lv' := [(2, .int x2)]) rfl ?_
    cases hrun
    exact Ke ( (x2, v3.2)) rfl
  · rw [if_pos (b2i_nz c5)] at hrun
    refine g_aload_n C (dat dt_X11_testOf 8 rfl) 0 rfl ?_
    refine g_iload_n C (dat dt_X11_testOf 9 rfl) 1 rfl ?_
    refine g_if_eq 27 C (dat dt_X11_testOf 10 rfl) (by decide) (fun c6 => ?_) (fun c6 => ?_)
    · rw [if_pos c6] at hrun
      exact wj_X11_testOf_27_6 rc hD0 hrc C    x1 x2 v3.2 _ hrun Ks Ke
    · rw [if_neg c6] at hrun
      refine g_iload_n C (dat dt_X11_testOf 11 rfl) 2 rfl ?_
      refine g_if_ne 27 C (dat dt_X11_testOf 12 rfl) (by decide) (fun c11 => ?_) (fun c11 => ?_)
      · rw [if_neg c11] at hrun
        exact wj_X11_testOf_27_6 rc hD0 hrc C    x1 x2 v3.2 _ hrun Ks Ke
      · rw [if_pos c11] at hrun
        refine g_iconst C (dat dt_X11_testOf 13 rfl) ic_1 ?_
        refine g_goto 28 C (dat dt_X11_testOf 14 rfl) (by decide) ?_
        exact wj_X11_testOf_28_6 rc hD0 hrc C    x1 x2 (1 : Int32) v3.2 _ hrun Ks Ke
def f_X11_testOf (rc : Nat → Int32 → Hp → Option (Bool × Hp)) (x1 : Int32) (h : Hp) : Option (Bool × Hp) :=
  (rc 1 x1 h).bind fun v1 =>
  (lp (fun s => b_X11_testOf_6 rc  x1 s.1 s.2) FU ((b2i v1.1), v1.2)).bind fun e12 =>
  (i2b e12.1).bind fun b14 => some (b14, e12.2)
set_option maxRecDepth 20000 in
theorem w_X11_testOf (rc : Nat → Int32 → Hp → Option (Bool × Hp)) {D0 : Nat} (hD0 : 80 ≤ D0) (hrc : RC_D rc D0) (x1 : Int32) (h : Hp) (q : (Bool × Hp))  (hrun : f_X11_testOf rc x1 h = some q) : MetA ⟨"SteamNationsModel", "testOf", "(Z)Z"⟩ prog_13_method_71_code 4 (some .boolean) (D0 + 1) 0 0 [.ref 81, .int x1] h (some (.int (b2i q.1))) q.2 := by
  refine metA_of (by decide) (Nat.le_of_ble_eq_true rfl) (fun X C K => ?_)
  have C : Cx X cn_11 prog_13_method_71_code 4 (some .boolean) (D0 + 1) 0 0 := C
  show G X h 0 0 0 [(0, .ref 81), (1, .int x1)] []
  unfold f_X11_testOf at hrun
  refine g_aload_n C (dat dt_X11_testOf 0 rfl) 0 rfl ?_
  refine g_iload_n C (dat dt_X11_testOf 1 rfl) 1 rfl ?_
  obtain ⟨v1, q2, hrun⟩ := bd hrun
  refine g_cVi [.int x1] C (dat dt_X11_testOf 2 rfl) ml_11_339 (hrc.2.1 _ _ _ q2) kd_81 ltk_81 rfl rfl cat0 (Nat.le_refl _) c00 ?_
  refine g_istore_n (lv' := [(0, .ref 81), (1, .int x1), (2, .int (b2i v1.1))]) C (dat dt_X11_testOf 3 rfl) (by decide) rfl ?_
  obtain ⟨e12, q13, hrun⟩ := bd hrun
  refine lp_ind (P := fun s => kp_X11_testOf_6  x1 X s) (K := fun e => ke_X11_testOf_6  x1 X e) (fun s q hb Ks Ke => wb_X11_testOf_6 rc hD0 hrc C   x1 s.1 s.2 q hb Ks Ke) FU ((b2i v1.1), v1.2) e12 q13 ?_
  show G X e12.2 0 0 49 [(2, .int e12.1)] []
  refine g_iload_n C (dat dt_X11_testOf 27 rfl) 0 rfl ?_
  obtain ⟨b14, q15, hrun⟩ := bd hrun
  cases hrun
  exact g_zret C K (i2b_eq q15) (dat dt_X11_testOf 28 rfl)
/-! SteamNationsModel.bothOf(Z)Z -/
def dl_X11_bothOf : List (Nat × Instr × Nat) := [(0, .aload_n 0, 1), (1, .iload_n 1, 1), (2, .invokevirtual 342, 3), (5, .istore_n 2, 1), (6, .aload_n 0, 1), (7, .bipush 6, 2), (9, .invokevirtual 315, 3), (12, .ifCond .eq 38, 3), (15, .aload_n 0, 1), (16, .iload_n 1, 1), (17, .ifCond .eq 11, 3), (20, .iload_n 2, 1), (21, .ifCond .eq 7, 3), (24, .iconst 1, 1), (25, .goto 4, 3), (28, .iconst 0, 1), (29, .invokevirtual 342, 3), (32, .istore_n 3, 1), (33, .iload_n 2, 1), (34, .ifCond .eq 11, 3), (37, .iload_n 3, 1), (38, .ifCond .eq 7, 3), (41, .iconst 1, 1), (42, .goto 4, 3), (45, .iconst 0, 1), (46, .istore_n 2, 1), (47, .goto (-41), 3), (50, .iload_n 2, 1), (51, .ireturn, 1)]
set_option maxRecDepth 20000 in
theorem dt_X11_bothOf : ∀ q ∈ dl_X11_bothOf, decode prog_13_method_72_code q.1 = .ok q.2 := by decide +kernel
def kp_X11_bothOf_6  (x1 : Int32) (X : Xt) (s : (Int32 × Hp)) : Prop := G X s.2 0 0 6 [(0, .ref 81), (1, .int x1), (2, .int s.1)] []
def ke_X11_bothOf_6  (x1 : Int32) (X : Xt) (e : (Int32 × Hp)) : Prop := G X e.2 0 0 50 [(2, .int e.1)] []
def j_X11_bothOf_45_6 (rc : Nat → Int32 → Hp → Option (Bool × Hp))  (x1 : Int32) (h : Hp) : Option ((Int32 × Hp) ⊕ (Int32 × Hp)) :=
  some (.inl ((0 : Int32), h))
set_option maxRecDepth 20000 in
theorem wj_X11_bothOf_45_6 (rc : Nat → Int32 → Hp → Option (Bool × Hp)) {D0 : Nat} (hD0 : 80 ≤ D0) (hrc : RC_D rc D0) {X : Xt} (C : Cx X cn_11 prog_13_method_72_code 4 (some .boolean) (D0 + 1) 0 0)    (x1 : Int32) (h : Hp) (q : (Int32 × Hp) ⊕ (Int32 × Hp)) (hrun : j_X11_bothOf_45_6 rc  x1 h = some q) (Ks : ∀ s, q = .inl s → kp_X11_bothOf_6  x1 X s) (Ke : ∀ e, q = .inr e → ke_X11_bothOf_6  x1 X e) : G X h 0 0 45 [(0, .ref 81), (1, .int x1)] [] := by
  unfold j_X11_bothOf_45_6 at hrun
  refine g_iconst C (dat dt_X11_bothOf 24 rfl) ic_0 ?_
  refine g_istore_n (lv' := [(0, .ref 81), (1, .int x1), (2, .int (0 : Int32))]) C (dat dt_X11_bothOf 25 rfl) (by decide) rfl ?_
  refine g_goto 6 C (dat dt_X11_bothOf 26 rfl) (by decide) ?_
  cases hrun
  exact Ks ((0 : Int32), h) rfl
def j_X11_bothOf_29_6 (rc : Nat → Int32 → Hp → Option (Bool × Hp))  (x1 : Int32) (x2 : Int32) (s1 : Int32) (h : Hp) : Option ((Int32 × Hp) ⊕ (Int32 × Hp)) :=
  (rc 2 s1 h).bind fun v7 =>
  if x2 = 0 then
  j_X11_bothOf_45_6 rc  x1 v7.2
  else
  if v7.1 = true then
  some (.inl ((1 : Int32), v7.2))
  else
  j_X11_bothOf_45_6 rc  x1 v7.2
set_option maxRecDepth 20000 in
theorem wj_X11_bothOf_29_6 (rc : Nat → Int32 → Hp → Option (Bool × Hp)) {D0 : Nat} (hD0 : 80 ≤ D0) (hrc : RC_D rc D0) {X : Xt} (C : Cx X cn_11 prog_13_method_72_code 4 (some .boolean) (D0 + 1) 0 0)    (x1 : Int32) (x2 : Int32) (s1 : Int32) (h : Hp) (q : (Int32 × Hp) ⊕ (Int32 × Hp)) (hrun : j_X11_bothOf_29_6 rc  x1 x2 s1 h = some q) (Ks : ∀ s, q = .inl s → kp_X11_bothOf_6  x1 X s) (Ke : ∀ e, q = .inr e → ke_X11_bothOf_6  x1 X e) : G X h 0 0 29 [(0, .ref 81), (1, .int x1), (2, .int x2)] [.int s1, .ref 81] := by
  unfold j_X11_bothOf_29_6 at hrun
  obtain ⟨v7, q8, hrun⟩ := bd hrun
  refine g_cVi [.int s1] C (dat dt_X11_bothOf 16 rfl) ml_11_342 (hrc.2.2.1 _ _ _ q8) kd_81 ltk_81 rfl rfl cat0 (Nat.le_refl _) c00 ?_
  refine g_istore_n (lv' := [(0, .ref 81), (1, .int x1), (2, .int x2), (3, .int (b2i v7.1))]) C (dat dt_X11_bothOf 17 rfl) (by decide) rfl ?_
  refine g_iload_n C (dat dt_X11_bothOf 18 rfl) 2 rfl ?_
  refine g_if_eq 45 C (dat dt_X11_bothOf 19 rfl) (by decide) (fun c9 => ?_) (fun c9 => ?_)
  · rw [if_pos c9] at hrun
    refine g_sub [0, 1] (lv' := [(0, .ref 81), (1, .int x1)]) rfl ?_
    exact wj_X11_bothOf_45_6 rc hD0 hrc C    x1 v7.2 _ hrun Ks Ke
  · rw [if_neg c9] at hrun
    refine g_iload_n C (dat dt_X11_bothOf 20 rfl) 3 rfl ?_
    refine g_if_eq 45 C (dat dt_X11_bothOf 21 rfl) (by decide) (fun c10 => ?_) (fun c10 => ?_)
    · rw [if_neg (b2i_z c10)] at hrun
      refine g_sub [0, 1] (lv' := [(0, .ref 81), (1, .int x1)]) rfl ?_
      exact wj_X11_bothOf_45_6 rc hD0 hrc C    x1 v7.2 _ hrun Ks Ke
    · rw [if_pos (b2i_nz c10)] at hrun
      refine g_iconst C (dat dt_X11_bothOf 22 rfl) ic_1 ?_
      refine g_goto 46 C (dat dt_X11_bothOf 23 rfl) (by decide) ?_
      refine g_istore_n (lv' := [(0, .ref 81), (1, .int x1), (2, .int (1 : Int32)), (3, .int (b2i v7.1))]) C (dat dt_X11_bothOf 25 rfl) (by decide) rfl ?_
      refine g_goto 6 C (dat dt_X11_bothOf 26 rfl) (by decide) ?_
      refine g_sub [0, 1, 2] (lv' := [(0, .ref 81), (1, .int x1), (2, .int (1 : Int32))]) rfl ?_
      cases hrun
      exact Ks ((1 : Int32), v7.2) rfl
def j_X11_bothOf_28_6 (rc : Nat → Int32 → Hp → Option (Bool × Hp))  (x1 : Int32) (x2 : Int32) (h : Hp) : Option ((Int32 × Hp) ⊕ (Int32 × Hp)) :=
  j_X11_bothOf_29_6 rc  x1 x2 (0 : Int32) h
set_option maxRecDepth 20000 in
theorem wj_X11_bothOf_28_6 (rc : Nat → Int32 → Hp → Option (Bool × Hp)) {D0 : Nat} (hD0 : 80 ≤ D0) (hrc : RC_D rc D0) {X : Xt} (C : Cx X cn_11 prog_13_method_72_code 4 (some .boolean) (D0 + 1) 0 0)    (x1 : Int32) (x2 : Int32) (h : Hp) (q : (Int32 × Hp) ⊕ (Int32 × Hp)) (hrun : j_X11_bothOf_28_6 rc  x1 x2 h = some q) (Ks : ∀ s, q = .inl s → kp_X11_bothOf_6  x1 X s) (Ke : ∀ e, q = .inr e → ke_X11_bothOf_6  x1 X e) : G X h 0 0 28 [(0, .ref 81), (1, .int x1), (2, .int x2)] [.ref 81] := by
  unfold j_X11_bothOf_28_6 at hrun
  refine g_iconst C (dat dt_X11_bothOf 15 rfl) ic_0 ?_
  exact wj_X11_bothOf_29_6 rc hD0 hrc C    x1 x2 (0 : Int32) h _ hrun Ks Ke
def b_X11_bothOf_6 (rc : Nat → Int32 → Hp → Option (Bool × Hp))  (x1 : Int32) (x2 : Int32) (h : Hp) : Option ((Int32 × Hp) ⊕ (Int32 × Hp)) :=
  (f_X11_passes0 (6 : Int32) h).bind fun v3 =>
  if v3.1 = true then
  if x1 = 0 then
  j_X11_bothOf_28_6 rc  x1 x2 v3.2
  else
  if x2 = 0 then
  j_X11_bothOf_28_6 rc  x1 x2 v3.2
  else
  j_X11_bothOf_29_6 rc  x1 x2 (1 : Int32) v3.2
  else
  some (.inr ( (x2, v3.2)))
set_option maxRecDepth 20000 in
theorem wb_X11_bothOf_6 (rc : Nat → Int32 → Hp → Option (Bool × Hp)) {D0 : Nat} (hD0 : 80 ≤ D0) (hrc : RC_D rc D0) {X : Xt} (C : Cx X cn_11 prog_13_method_72_code 4 (some .boolean) (D0 + 1) 0 0)   (x1 : Int32) (x2 : Int32) (h : Hp) (q : (Int32 × Hp) ⊕ (Int32 × Hp)) (hrun : b_X11_bothOf_6 rc  x1 x2 h = some q) (Ks : ∀ s, q = .inl s → kp_X11_bothOf_6  x1 X s) (Ke : ∀ e, q = .inr e → ke_X11_bothOf_6  x1 X e) : kp_X11_bothOf_6  x1 X (x2, h) := by
  show G X h 0 0 6 [(0, .ref 81), (1, .int x1), (2, .int x2)] []
  unfold b_X11_bothOf_6 at hrun
  refine g_aload_n C (dat dt_X11_bothOf 4 rfl) 0 rfl ?_
  refine g_bipush C (dat dt_X11_bothOf 5 rfl) bp_6 ?_
  obtain ⟨v3, q4, hrun⟩ := bd hrun
  refine g_cVi [.int (6 : Int32)] C (dat dt_X11_bothOf 6 rfl) ml_11_315 (w_X11_passes0 (6 : Int32) h v3  q4) kd_81 ltk_81 rfl rfl cat0 (by have hGD : GD = 60 := rfl; omega) c00 ?_
  refine g_if_eq 50 C (dat dt_X11_bothOf 7 rfl) (by decide) (fun c5 => ?_) (fun c5 => ?_)
  · rw [if_neg (b2i_z c5)] at hrun
    refine g_sub [2] (lv' := [(2, .int x2)]) rfl ?_
    cases hrun
    exact Ke ( (x2, v3.2)) rfl
  · rw [if_pos (b2i_nz c5)] at hrun
    refine g_aload_n C (dat dt_X11_bothOf 8 rfl) 0 rfl ?_
    refine g_iload_n C (dat dt_X11_bothOf 9 rfl) 1 rfl ?_
    refine g_if_eq 28 C (dat dt_X11_bothOf 10 rfl) (by decide) (fun c6 => ?_) (fun c6 => ?_)
    · rw [if_pos c6] at hrun
      exact wj_X11_bothOf_28_6 rc hD0 hrc C    x1 x2 v3.2 _ hrun Ks Ke
    · rw [if_neg c6] at hrun
      refine g_iload_n C (dat dt_X11_bothOf 11 rfl) 2 rfl ?_
      refine g_if_eq 28 C (dat dt_X11_bothOf 12 rfl) (by decide) (fun c11 => ?_) (fun c11 => ?_)
      · rw [if_pos c11] at hrun
        exact wj_X11_bothOf_28_6 rc hD0 hrc C    x1 x2 v3.2 _ hrun Ks Ke
      · rw [if_neg c11] at hrun
        refine g_iconst C (dat dt_X11_bothOf 13 rfl) ic_1 ?_
        refine g_goto 29 C (dat dt_X11_bothOf 14 rfl) (by decide) ?_
        exact wj_X11_bothOf_29_6 rc hD0 hrc C    x1 x2 (1 : Int32) v3.2 _ hrun Ks Ke
def f_X11_bothOf (rc : Nat → Int32 → Hp → Option (Bool × Hp)) (x1 : Int32) (h : Hp) : Option (Bool × Hp) :=
  (rc 2 x1 h).bind fun v1 =>
  (lp (fun s => b_X11_bothOf_6 rc  x1 s.1 s.2) FU ((b2i v1.1), v1.2)).bind fun e12 =>
  (i2b e12.1).bind fun b14 => some (b14, e12.2)
set_option maxRecDepth 20000 in
theorem w_X11_bothOf (rc : Nat → Int32 → Hp → Option (Bool × Hp)) {D0 : Nat} (hD0 : 80 ≤ D0) (hrc : RC_D rc D0) (x1 : Int32) (h : Hp) (q : (Bool × Hp))  (hrun : f_X11_bothOf rc x1 h = some q) : MetA ⟨"SteamNationsModel", "bothOf", "(Z)Z"⟩ prog_13_method_72_code 4 (some .boolean) (D0 + 1) 0 0 [.ref 81, .int x1] h (some (.int (b2i q.1))) q.2 := by
  refine metA_of (by decide) (Nat.le_of_ble_eq_true rfl) (fun X C K => ?_)
  have C : Cx X cn_11 prog_13_method_72_code 4 (some .boolean) (D0 + 1) 0 0 := C
  show G X h 0 0 0 [(0, .ref 81), (1, .int x1)] []
  unfold f_X11_bothOf at hrun
  refine g_aload_n C (dat dt_X11_bothOf 0 rfl) 0 rfl ?_
  refine g_iload_n C (dat dt_X11_bothOf 1 rfl) 1 rfl ?_
  obtain ⟨v1, q2, hrun⟩ := bd hrun
  refine g_cVi [.int x1] C (dat dt_X11_bothOf 2 rfl) ml_11_342 (hrc.2.2.1 _ _ _ q2) kd_81 ltk_81 rfl rfl cat0 (Nat.le_refl _) c00 ?_
  refine g_istore_n (lv' := [(0, .ref 81), (1, .int x1), (2, .int (b2i v1.1))]) C (dat dt_X11_bothOf 3 rfl) (by decide) rfl ?_
  obtain ⟨e12, q13, hrun⟩ := bd hrun
  refine lp_ind (P := fun s => kp_X11_bothOf_6  x1 X s) (K := fun e => ke_X11_bothOf_6  x1 X e) (fun s q hb Ks Ke => wb_X11_bothOf_6 rc hD0 hrc C   x1 s.1 s.2 q hb Ks Ke) FU ((b2i v1.1), v1.2) e12 q13 ?_
  show G X e12.2 0 0 50 [(2, .int e12.1)] []
  refine g_iload_n C (dat dt_X11_bothOf 27 rfl) 0 rfl ?_
  obtain ⟨b14, q15, hrun⟩ := bd hrun
  cases hrun
  exact g_zret C K (i2b_eq q15) (dat dt_X11_bothOf 28 rfl)
/-! SteamNationsModel.plainOf(Z)Z -/
def dl_X11_plainOf : List (Nat × Instr × Nat) := [(0, .iconst 0, 1), (1, .istore_n 2, 1), (2, .aload_n 0, 1), (3, .bipush 7, 2), (5, .invokevirtual 315, 3), (8, .ifCond .eq 16, 3), (11, .iload_n 2, 1), (12, .ifCond .ne 7, 3), (15, .iconst 1, 1), (16, .goto 4, 3), (19, .iconst 0, 1), (20, .istore_n 2, 1), (21, .goto (-19), 3), (24, .aload_n 0, 1), (25, .iload_n 1, 1), (26, .invokevirtual 345, 3), (29, .iload_n 2, 1), (30, .if_icmp .eq 7, 3), (33, .iconst 1, 1), (34, .goto 4, 3), (37, .iconst 0, 1), (38, .ireturn, 1)]
set_option maxRecDepth 20000 in
theorem dt_X11_plainOf : ∀ q ∈ dl_X11_plainOf, decode prog_13_method_73_code q.1 = .ok q.2 := by decide +kernel
def kp_X11_plainOf_2  (x1 : Int32) (X : Xt) (s : (Int32 × Hp)) : Prop := G X s.2 0 0 2 [(0, .ref 81), (1, .int x1), (2, .int s.1)] []
def ke_X11_plainOf_2  (x1 : Int32) (X : Xt) (e : (Int32 × Hp)) : Prop := G X e.2 0 0 24 [(0, .ref 81), (1, .int x1), (2, .int e.1)] []
def b_X11_plainOf_2 (rc : Nat → Int32 → Hp → Option (Bool × Hp))  (x1 : Int32) (x2 : Int32) (h : Hp) : Option ((Int32 × Hp) ⊕ (Int32 × Hp)) :=
  (f_X11_passes0 (7 : Int32) h).bind fun v1 =>
  if v1.1 = true then
  if x2 = 0 then
  some (.inl ((1 : Int32), v1.2))
  else
  some (.inl ((0 : Int32), v1.2))
  else
  some (.inr ( (x2, v1.2)))
set_option maxRecDepth 20000 in
theorem wb_X11_plainOf_2 (rc : Nat → Int32 → Hp → Option (Bool × Hp)) {D0 : Nat} (hD0 : 80 ≤ D0) (hrc : RC_D rc D0) {X : Xt} (C : Cx X cn_11 prog_13_method_73_code 3 (some .boolean) (D0 + 1) 0 0)   (x1 : Int32) (x2 : Int32) (h : Hp) (q : (Int32 × Hp) ⊕ (Int32 × Hp)) (hrun : b_X11_plainOf_2 rc  x1 x2 h = some q) (Ks : ∀ s, q = .inl s → kp_X11_plainOf_2  x1 X s) (Ke : ∀ e, q = .inr e → ke_X11_plainOf_2  x1 X e) : kp_X11_plainOf_2  x1 X (x2, h) := by
  show G X h 0 0 2 [(0, .ref 81), (1, .int x1), (2, .int x2)] []
  unfold b_X11_plainOf_2 at hrun
  refine g_aload_n C (dat dt_X11_plainOf 2 rfl) 0 rfl ?_
  refine g_bipush C (dat dt_X11_plainOf 3 rfl) bp_7 ?_
  obtain ⟨v1, q2, hrun⟩ := bd hrun
  refine g_cVi [.int (7 : Int32)] C (dat dt_X11_plainOf 4 rfl) ml_11_315 (w_X11_passes0 (7 : Int32) h v1  q2) kd_81 ltk_81 rfl rfl cat0 (by have hGD : GD = 60 := rfl; omega) c00 ?_
  refine g_if_eq 24 C (dat dt_X11_plainOf 5 rfl) (by decide) (fun c3 => ?_) (fun c3 => ?_)
  · rw [if_neg (b2i_z c3)] at hrun
    cases hrun
    exact Ke ( (x2, v1.2)) rfl
  · rw [if_pos (b2i_nz c3)] at hrun
    refine g_iload_n C (dat dt_X11_plainOf 6 rfl) 2 rfl ?_
    refine g_if_ne 19 C (dat dt_X11_plainOf 7 rfl) (by decide) (fun c4 => ?_) (fun c4 => ?_)
    · rw [if_neg c4] at hrun
      refine g_iconst C (dat dt_X11_plainOf 10 rfl) ic_0 ?_
      refine g_istore_n (lv' := [(0, .ref 81), (1, .int x1), (2, .int (0 : Int32))]) C (dat dt_X11_plainOf 11 rfl) (by decide) rfl ?_
      refine g_goto 2 C (dat dt_X11_plainOf 12 rfl) (by decide) ?_
      cases hrun
      exact Ks ((0 : Int32), v1.2) rfl
    · rw [if_pos c4] at hrun
      refine g_iconst C (dat dt_X11_plainOf 8 rfl) ic_1 ?_
      refine g_goto 20 C (dat dt_X11_plainOf 9 rfl) (by decide) ?_
      refine g_istore_n (lv' := [(0, .ref 81), (1, .int x1), (2, .int (1 : Int32))]) C (dat dt_X11_plainOf 11 rfl) (by decide) rfl ?_
      refine g_goto 2 C (dat dt_X11_plainOf 12 rfl) (by decide) ?_
      cases hrun
      exact Ks ((1 : Int32), v1.2) rfl
def f_X11_plainOf (rc : Nat → Int32 → Hp → Option (Bool × Hp)) (x1 : Int32) (h : Hp) : Option (Bool × Hp) :=
  (lp (fun s => b_X11_plainOf_2 rc  x1 s.1 s.2) FU ((0 : Int32), h)).bind fun e5 =>
  (rc 3 x1 e5.2).bind fun v7 =>
  if (b2i v7.1) = e5.1 then
  some (false, v7.2)
  else
  some (true, v7.2)
set_option maxRecDepth 20000 in
theorem w_X11_plainOf (rc : Nat → Int32 → Hp → Option (Bool × Hp)) {D0 : Nat} (hD0 : 80 ≤ D0) (hrc : RC_D rc D0) (x1 : Int32) (h : Hp) (q : (Bool × Hp))  (hrun : f_X11_plainOf rc x1 h = some q) : MetA ⟨"SteamNationsModel", "plainOf", "(Z)Z"⟩ prog_13_method_73_code 3 (some .boolean) (D0 + 1) 0 0 [.ref 81, .int x1] h (some (.int (b2i q.1))) q.2 := by
  refine metA_of (by decide) (Nat.le_of_ble_eq_true rfl) (fun X C K => ?_)
  have C : Cx X cn_11 prog_13_method_73_code 3 (some .boolean) (D0 + 1) 0 0 := C
  show G X h 0 0 0 [(0, .ref 81), (1, .int x1)] []
  unfold f_X11_plainOf at hrun
  refine g_iconst C (dat dt_X11_plainOf 0 rfl) ic_0 ?_
  refine g_istore_n (lv' := [(0, .ref 81), (1, .int x1), (2, .int (0 : Int32))]) C (dat dt_X11_plainOf 1 rfl) (by decide) rfl ?_
  obtain ⟨e5, q6, hrun⟩ := bd hrun
  refine lp_ind (P := fun s => kp_X11_plainOf_2  x1 X s) (K := fun e => ke_X11_plainOf_2  x1 X e) (fun s q hb Ks Ke => wb_X11_plainOf_2 rc hD0 hrc C   x1 s.1 s.2 q hb Ks Ke) FU ((0 : Int32), h) e5 q6 ?_
  show G X e5.2 0 0 24 [(0, .ref 81), (1, .int x1), (2, .int e5.1)] []
  refine g_aload_n C (dat dt_X11_plainOf 13 rfl) 0 rfl ?_
  refine g_iload_n C (dat dt_X11_plainOf 14 rfl) 1 rfl ?_
  obtain ⟨v7, q8, hrun⟩ := bd hrun
  refine g_cVi [.int x1] C (dat dt_X11_plainOf 15 rfl) ml_11_345 (hrc.2.2.2 _ _ _ q8) kd_81 ltk_81 rfl rfl cat0 (Nat.le_refl _) c00 ?_
  refine g_iload_n C (dat dt_X11_plainOf 16 rfl) 2 rfl ?_
  refine g_ic_eq 37 C (dat dt_X11_plainOf 17 rfl) (by decide) (fun c9 => ?_) (fun c9 => ?_)
  · rw [if_pos c9] at hrun
    refine g_iconst C (dat dt_X11_plainOf 20 rfl) ic_0 ?_
    cases hrun
    exact g_zret C K (show (0 : Int32) = b2i false by decide) (dat dt_X11_plainOf 21 rfl)
  · rw [if_neg c9] at hrun
    refine g_iconst C (dat dt_X11_plainOf 18 rfl) ic_1 ?_
    refine g_goto 38 C (dat dt_X11_plainOf 19 rfl) (by decide) ?_
    cases hrun
    exact g_zret C K (show (1 : Int32) = b2i true by decide) (dat dt_X11_plainOf 21 rfl)
/-! SteamNationsModel.positiveOf(Z)Z -/
def dl_X11_positiveOf : List (Nat × Instr × Nat) := [(0, .aload_n 0, 1), (1, .bipush 40, 2), (3, .invokestatic 250, 3), (6, .invokevirtual 315, 3), (9, .ifCond .eq 21, 3), (12, .aload_n 0, 1), (13, .iload_n 1, 1), (14, .invokevirtual 348, 3), (17, .istore_n 2, 1), (18, .aload_n 0, 1), (19, .dup, 1), (20, .getfield 291, 3), (23, .iconst 1, 1), (24, .iadd, 1), (25, .putfield 291, 3), (28, .iload_n 2, 1), (29, .ireturn, 1), (30, .aload_n 0, 1), (31, .iload_n 1, 1), (32, .invokevirtual 318, 3), (35, .lstore_n 2, 1), (36, .aload_n 0, 1), (37, .aload_n 0, 1), (38, .getfield 291, 3), (41, .invokevirtual 294, 3), (44, .istore 4, 2), (46, .aload_n 0, 1), (47, .dup, 1), (48, .getfield 291, 3), (51, .iconst 1, 1), (52, .iadd, 1), (53, .putfield 291, 3), (56, .aload_n 0, 1), (57, .iload_n 1, 1), (58, .invokevirtual 318, 3), (61, .lstore 5, 2), (63, .iload_n 1, 1), (64, .ifCond .eq 61, 3), (67, .aload_n 0, 1), (68, .getfield 301, 3), (71, .ifCond .ne 54, 3), (74, .iload 4, 2), (76, .bipush 60, 2), (78, .invokestatic 250, 3), (81, .if_icmp .ne 13, 3), (84, .lload_n 2, 1), (85, .lload 5, 2), (87, .lcmp, 1), (88, .ifCond .ge 37, 3), (91, .goto 30, 3), (94, .iload 4, 2), (96, .bipush 62, 2), (98, .invokestatic 250, 3), (101, .if_icmp .ne 13, 3), (104, .lload_n 2, 1), (105, .lload 5, 2), (107, .lcmp, 1), (108, .ifCond .le 17, 3), (111, .goto 10, 3), (114, .lload_n 2, 1), (115, .lload 5, 2), (117, .lcmp, 1), (118, .ifCond .ne 7, 3), (121, .iconst 1, 1), (122, .goto 4, 3), (125, .iconst 0, 1), (126, .ireturn, 1)]
set_option maxRecDepth 20000 in
theorem dt_X11_positiveOf : ∀ q ∈ dl_X11_positiveOf, decode prog_13_method_74_code q.1 = .ok q.2 := by decide +kernel
def f_X11_positiveOf (rc : Nat → Int32 → Hp → Option (Bool × Hp)) (x1 : Int32) (h : Hp) : Option (Bool × Hp) :=
  (f_X11_sign (40 : Int32)).bind fun v1 =>
  (f_X11_passes0 v1 h).bind fun v3 =>
  if v3.1 = true then
  (rc 0 x1 v3.2).bind fun v23 =>
  some (v23.1, (sF v23.2 81 22 ((fI v23.2 81 22) + (1 : Int32))))
  else
  (gr_C GD 0 x1 v3.2).bind fun v6 =>
  (f_X11_codeAt (fI v6.2 81 22) v6.2).bind fun v8 =>
  (gr_C GD 0 x1 (sF v6.2 81 22 ((fI v6.2 81 22) + (1 : Int32)))).bind fun v10 =>
  if x1 = 0 then
  some (false, v10.2)
  else
  if (fI v10.2 81 24) = 0 then
  (f_X11_sign (60 : Int32)).bind fun v14 =>
  if v8 = v14 then
  if 0 ≤ (lg_cmp v6.1 v10.1) then
  some (false, v10.2)
  else
  some (true, v10.2)
  else
  (f_X11_sign (62 : Int32)).bind fun v17 =>
  if v8 = v17 then
  if (lg_cmp v6.1 v10.1) ≤ 0 then
  some (false, v10.2)
  else
  some (true, v10.2)
  else
  if (lg_cmp v6.1 v10.1) = 0 then
  some (true, v10.2)
  else
  some (false, v10.2)
  else
  some (false, v10.2)
set_option maxRecDepth 20000 in
theorem w_X11_positiveOf (rc : Nat → Int32 → Hp → Option (Bool × Hp)) {D0 : Nat} (hD0 : 80 ≤ D0) (hrc : RC_D rc D0) (x1 : Int32) (h : Hp) (q : (Bool × Hp))  (hrun : f_X11_positiveOf rc x1 h = some q) : MetA ⟨"SteamNationsModel", "positiveOf", "(Z)Z"⟩ prog_13_method_74_code 7 (some .boolean) (D0 + 1) 0 0 [.ref 81, .int x1] h (some (.int (b2i q.1))) q.2 := by
  refine metA_of (by decide) (Nat.le_of_ble_eq_true rfl) (fun X C K => ?_)
  have C : Cx X cn_11 prog_13_method_74_code 7 (some .boolean) (D0 + 1) 0 0 := C
  show G X h 0 0 0 [(0, .ref 81), (1, .int x1)] []
  unfold f_X11_positiveOf at hrun
  refine g_aload_n C (dat dt_X11_positiveOf 0 rfl) 0 rfl ?_
  refine g_bipush C (dat dt_X11_positiveOf 1 rfl) bp_40 ?_
  obtain ⟨v1, q2, hrun⟩ := bd hrun
  refine g_cSi [.int (40 : Int32)] C (dat dt_X11_positiveOf 2 rfl) ml_11_250 (w_X11_sign (40 : Int32) h v1  q2) rfl rfl (Nat.le_of_ble_eq_true rfl) (by have hGD : GD = 60 := rfl; omega) c00 ?_
  obtain ⟨v3, q4, hrun⟩ := bd hrun
  refine g_cVi [.int v1] C (dat dt_X11_positiveOf 3 rfl) ml_11_315 (w_X11_passes0 v1 h v3  q4) kd_81 ltk_81 rfl rfl cat0 (by have hGD : GD = 60 := rfl; omega) c00 ?_
  refine g_if_eq 30 C (dat dt_X11_positiveOf 4 rfl) (by decide) (fun c5 => ?_) (fun c5 => ?_)
  · rw [if_neg (b2i_z c5)] at hrun
    refine g_aload_n C (dat dt_X11_positiveOf 17 rfl) 0 rfl ?_
    refine g_iload_n C (dat dt_X11_positiveOf 18 rfl) 1 rfl ?_
    obtain ⟨v6, q7, hrun⟩ := bd hrun
    refine g_cVl [.int x1] C (dat dt_X11_positiveOf 19 rfl) ml_11_318 ((w_gr_C GD).1 _ _ _ q7) kd_81 ltk_81 rfl rfl cat0 (by have hGD : GD = 60 := rfl; omega) c00 ?_
    refine g_lstore_n (lv' := [(0, .ref 81), (1, .int x1), (2, .long v6.1)]) C (dat dt_X11_positiveOf 20 rfl) (by decide) rfl ?_
    refine g_aload_n C (dat dt_X11_positiveOf 21 rfl) 0 rfl ?_
    refine g_aload_n C (dat dt_X11_positiveOf 22 rfl) 0 rfl ?_
    refine g_getI C (dat dt_X11_positiveOf 23 rfl) fl_11_291 kd_81 rfl ltk_81 ?_
    obtain ⟨v8, q9, hrun⟩ := bd hrun
    refine g_cVi [.int (fI v6.2 81 22)] C (dat dt_X11_positiveOf 24 rfl) ml_11_294 (w_X11_codeAt (fI v6.2 81 22) v6.2 v8  q9) kd_81 ltk_81 rfl rfl cat0 (by have hGD : GD = 60 := rfl; omega) c00 ?_
    refine g_istore (lv' := [(0, .ref 81), (1, .int x1), (2, .long v6.1), (4, .int v8)]) C (dat dt_X11_positiveOf 25 rfl) (by decide) rfl ?_
    refine g_aload_n C (dat dt_X11_positiveOf 26 rfl) 0 rfl ?_
    refine g_dup C (dat dt_X11_positiveOf 27 rfl) rfl ?_
    refine g_getI C (dat dt_X11_positiveOf 28 rfl) fl_11_291 kd_81 rfl ltk_81 ?_
    refine g_iconst C (dat dt_X11_positiveOf 29 rfl) ic_1 ?_
    refine g_iadd C (dat dt_X11_positiveOf 30 rfl) ?_
    refine g_putI C (dat dt_X11_positiveOf 31 rfl) fl_11_291 rfl rfl kd_81 rfl ltk_81 ?_
    refine g_aload_n C (dat dt_X11_positiveOf 32 rfl) 0 rfl ?_
    refine g_iload_n C (dat dt_X11_positiveOf 33 rfl) 1 rfl ?_
    obtain ⟨v10, q11, hrun⟩ := bd hrun
    refine g_cVl [.int x1] C (dat dt_X11_positiveOf 34 rfl) ml_11_318 ((w_gr_C GD).1 _ _ _ q11) kd_81 ltk_81 rfl rfl cat0 (by have hGD : GD = 60 := rfl; omega) c00 ?_
    refine g_lstore (lv' := [(0, .ref 81), (1, .int x1), (2, .long v6.1), (4, .int v8), (5, .long v10.1)]) C (dat dt_X11_positiveOf 35 rfl) (by decide) rfl ?_
    refine g_iload_n C (dat dt_X11_positiveOf 36 rfl) 1 rfl ?_
    refine g_if_eq 125 C (dat dt_X11_positiveOf 37 rfl) (by decide) (fun c12 => ?_) (fun c12 => ?_)
    · rw [if_pos c12] at hrun
      refine g_iconst C (dat dt_X11_positiveOf 65 rfl) ic_0 ?_
      cases hrun
      exact g_zret C K (show (0 : Int32) = b2i false by decide) (dat dt_X11_positiveOf 66 rfl)
    · rw [if_neg c12] at hrun
      refine g_aload_n C (dat dt_X11_positiveOf 38 rfl) 0 rfl ?_
      refine g_getI C (dat dt_X11_positiveOf 39 rfl) fl_11_301 kd_81 rfl ltk_81 ?_
      refine g_if_ne 125 C (dat dt_X11_positiveOf 40 rfl) (by decide) (fun c13 => ?_) (fun c13 => ?_)
      · rw [if_neg c13] at hrun
        refine g_iconst C (dat dt_X11_positiveOf 65 rfl) ic_0 ?_
        cases hrun
        exact g_zret C K (show (0 : Int32) = b2i false by decide) (dat dt_X11_positiveOf 66 rfl)
      · rw [if_pos c13] at hrun
        refine g_iload C (dat dt_X11_positiveOf 41 rfl) 3 rfl ?_
        refine g_bipush C (dat dt_X11_positiveOf 42 rfl) bp_60 ?_
        obtain ⟨v14, q15, hrun⟩ := bd hrun
        refine g_cSi [.int (60 : Int32)] C (dat dt_X11_positiveOf 43 rfl) ml_11_250 (w_X11_sign (60 : Int32) v10.2 v14  q15) rfl rfl (Nat.le_of_ble_eq_true rfl) (by have hGD : GD = 60 := rfl; omega) c00 ?_
        refine g_ic_ne 94 C (dat dt_X11_positiveOf 44 rfl) (by decide) (fun c16 => ?_) (fun c16 => ?_)
        · rw [if_neg c16] at hrun
          refine g_iload C (dat dt_X11_positiveOf 50 rfl) 3 rfl ?_
          refine g_bipush C (dat dt_X11_positiveOf 51 rfl) bp_62 ?_
          obtain ⟨v17, q18, hrun⟩ := bd hrun
          refine g_cSi [.int (62 : Int32)] C (dat dt_X11_positiveOf 52 rfl) ml_11_250 (w_X11_sign (62 : Int32) v10.2 v17  q18) rfl rfl (Nat.le_of_ble_eq_true rfl) (by have hGD : GD = 60 := rfl; omega) c00 ?_
          refine g_ic_ne 114 C (dat dt_X11_positiveOf 53 rfl) (by decide) (fun c19 => ?_) (fun c19 => ?_)
          · rw [if_neg c19] at hrun
            refine g_lload_n C (dat dt_X11_positiveOf 59 rfl) 2 rfl ?_
            refine g_lload C (dat dt_X11_positiveOf 60 rfl) 4 rfl ?_
            refine g_lcmp C (dat dt_X11_positiveOf 61 rfl) ?_
            refine g_if_ne 125 C (dat dt_X11_positiveOf 62 rfl) (by decide) (fun c20 => ?_) (fun c20 => ?_)
            · rw [if_neg c20] at hrun
              refine g_iconst C (dat dt_X11_positiveOf 65 rfl) ic_0 ?_
              cases hrun
              exact g_zret C K (show (0 : Int32) = b2i false by decide) (dat dt_X11_positiveOf 66 rfl)
            · rw [if_pos c20] at hrun
              refine g_iconst C (dat dt_X11_positiveOf 63 rfl) ic_1 ?_
              refine g_goto 126 C (dat dt_X11_positiveOf 64 rfl) (by decide) ?_
              cases hrun
              exact g_zret C K (show (1 : Int32) = b2i true by decide) (dat dt_X11_positiveOf 66 rfl)
          · rw [if_pos c19] at hrun
            refine g_lload_n C (dat dt_X11_positiveOf 54 rfl) 2 rfl ?_
            refine g_lload C (dat dt_X11_positiveOf 55 rfl) 4 rfl ?_
            refine g_lcmp C (dat dt_X11_positiveOf 56 rfl) ?_
            refine g_if_le 125 C (dat dt_X11_positiveOf 57 rfl) (by decide) (fun c21 => ?_) (fun c21 => ?_)
            · rw [if_pos c21] at hrun
              refine g_iconst C (dat dt_X11_positiveOf 65 rfl) ic_0 ?_
              cases hrun
              exact g_zret C K (show (0 : Int32) = b2i false by decide) (dat dt_X11_positiveOf 66 rfl)
            · rw [if_neg c21] at hrun
              refine g_goto 121 C (dat dt_X11_positiveOf 58 rfl) (by decide) ?_
              refine g_iconst C (dat dt_X11_positiveOf 63 rfl) ic_1 ?_
              refine g_goto 126 C (dat dt_X11_positiveOf 64 rfl) (by decide) ?_
              cases hrun
              exact g_zret C K (show (1 : Int32) = b2i true by decide) (dat dt_X11_positiveOf 66 rfl)
        · rw [if_pos c16] at hrun
          refine g_lload_n C (dat dt_X11_positiveOf 45 rfl) 2 rfl ?_
          refine g_lload C (dat dt_X11_positiveOf 46 rfl) 4 rfl ?_
          refine g_lcmp C (dat dt_X11_positiveOf 47 rfl) ?_
          refine g_if_ge 125 C (dat dt_X11_positiveOf 48 rfl) (by decide) (fun c22 => ?_) (fun c22 => ?_)
          · rw [if_pos c22] at hrun
            refine g_iconst C (dat dt_X11_positiveOf 65 rfl) ic_0 ?_
            cases hrun
            exact g_zret C K (show (0 : Int32) = b2i false by decide) (dat dt_X11_positiveOf 66 rfl)
          · rw [if_neg c22] at hrun
            refine g_goto 121 C (dat dt_X11_positiveOf 49 rfl) (by decide) ?_
            refine g_iconst C (dat dt_X11_positiveOf 63 rfl) ic_1 ?_
            refine g_goto 126 C (dat dt_X11_positiveOf 64 rfl) (by decide) ?_
            cases hrun
            exact g_zret C K (show (1 : Int32) = b2i true by decide) (dat dt_X11_positiveOf 66 rfl)
  · rw [if_pos (b2i_nz c5)] at hrun
    refine g_aload_n C (dat dt_X11_positiveOf 5 rfl) 0 rfl ?_
    refine g_iload_n C (dat dt_X11_positiveOf 6 rfl) 1 rfl ?_
    obtain ⟨v23, q24, hrun⟩ := bd hrun
    refine g_cVi [.int x1] C (dat dt_X11_positiveOf 7 rfl) ml_11_348 (hrc.1 _ _ _ q24) kd_81 ltk_81 rfl rfl cat0 (Nat.le_refl _) c00 ?_
    refine g_istore_n (lv' := [(0, .ref 81), (1, .int x1), (2, .int (b2i v23.1))]) C (dat dt_X11_positiveOf 8 rfl) (by decide) rfl ?_
    refine g_aload_n C (dat dt_X11_positiveOf 9 rfl) 0 rfl ?_
    refine g_dup C (dat dt_X11_positiveOf 10 rfl) rfl ?_
    refine g_getI C (dat dt_X11_positiveOf 11 rfl) fl_11_291 kd_81 rfl ltk_81 ?_
    refine g_iconst C (dat dt_X11_positiveOf 12 rfl) ic_1 ?_
    refine g_iadd C (dat dt_X11_positiveOf 13 rfl) ?_
    refine g_putI C (dat dt_X11_positiveOf 14 rfl) fl_11_291 rfl rfl kd_81 rfl ltk_81 ?_
    refine g_iload_n C (dat dt_X11_positiveOf 15 rfl) 2 rfl ?_
    cases hrun
    exact g_zret C K rfl (dat dt_X11_positiveOf 16 rfl)
def gr_D : Nat → Nat → Int32 → Hp → Option (Bool × Hp)
  | 0, _, _, _ => none
  | d + 1, k, x, h => if k = 0 then f_X11_testOf (gr_D d) x h else if k = 1 then f_X11_bothOf (gr_D d) x h else if k = 2 then f_X11_plainOf (gr_D d) x h else if k = 3 then f_X11_positiveOf (gr_D d) x h else none
theorem w_gr_D : ∀ d, RC_D (gr_D d) (80 + d)
  | 0 => ⟨fun x h q hq => (by cases hq), fun x h q hq => (by cases hq), fun x h q hq => (by cases hq), fun x h q hq => (by cases hq)⟩
  | d + 1 => by
    have ih := w_gr_D d
    refine ⟨?_, ?_, ?_, ?_⟩
    · intro x h q hq
      unfold gr_D at hq
      rw [if_pos rfl] at hq
      exact w_X11_testOf _ (by omega) ih x h q hq
    · intro x h q hq
      unfold gr_D at hq
      rw [if_neg (by decide)] at hq
      rw [if_pos rfl] at hq
      exact w_X11_bothOf _ (by omega) ih x h q hq
    · intro x h q hq
      unfold gr_D at hq
      rw [if_neg (by decide)] at hq
      rw [if_neg (by decide)] at hq
      rw [if_pos rfl] at hq
      exact w_X11_plainOf _ (by omega) ih x h q hq
    · intro x h q hq
      unfold gr_D at hq
      rw [if_neg (by decide)] at hq
      rw [if_neg (by decide)] at hq
      rw [if_neg (by decide)] at hq
      rw [if_pos rfl] at hq
      exact w_X11_positiveOf _ (by omega) ih x h q hq
