def RC_B (rc : Nat → Int32 → Hp → Option (Unit × Hp)) (D0 : Nat) : Prop := (∀ x h q, rc 0 x h = some q → MetA ⟨"SteamNationsModel", "readTest", "(I)V"⟩ prog_13_method_51_code 2 none D0 0 0 [.ref 81, .int x] h none q.2) ∧ (∀ x h q, rc 1 x h = some q → MetA ⟨"SteamNationsModel", "readBoth", "(I)V"⟩ prog_13_method_52_code 2 none D0 0 0 [.ref 81, .int x] h none q.2) ∧ (∀ x h q, rc 2 x h = some q → MetA ⟨"SteamNationsModel", "readPlain", "(I)V"⟩ prog_13_method_53_code 4 none D0 0 0 [.ref 81, .int x] h none q.2) ∧ (∀ x h q, rc 3 x h = some q → MetA ⟨"SteamNationsModel", "readSum", "(I)V"⟩ prog_13_method_54_code 2 none D0 0 0 [.ref 81, .int x] h none q.2) ∧ (∀ x h q, rc 4 x h = some q → MetA ⟨"SteamNationsModel", "readTerm", "(I)V"⟩ prog_13_method_55_code 2 none D0 0 0 [.ref 81, .int x] h none q.2) ∧ (∀ x h q, rc 5 x h = some q → MetA ⟨"SteamNationsModel", "readPart", "(I)V"⟩ prog_13_method_56_code 3 none D0 0 0 [.ref 81, .int x] h none q.2)
/-! SteamNationsModel.readTest(I)V -/
def dl_X11_readTest : List (Nat × Instr × Nat) := [(0, .aload_n 0, 1), (1, .iload_n 1, 1), (2, .invokevirtual 244, 3), (5, .aload_n 0, 1), (6, .iconst 5, 1), (7, .invokevirtual 211, 3), (10, .ifCond .eq 11, 3), (13, .aload_n 0, 1), (14, .iload_n 1, 1), (15, .invokevirtual 244, 3), (18, .goto (-13), 3), (21, .return_, 1)]
set_option maxRecDepth 20000 in
theorem dt_X11_readTest : ∀ q ∈ dl_X11_readTest, decode prog_13_method_51_code q.1 = .ok q.2 := by decide +kernel
def kp_X11_readTest_5  (x1 : Int32) (X : Xt) (s : Hp) : Prop := G X s 0 0 5 [(0, .ref 81), (1, .int x1)] []
def ke_X11_readTest_5  (x1 : Int32) (X : Xt) (e : Hp) : Prop := G X e 0 0 21 [] []
def b_X11_readTest_5 (rc : Nat → Int32 → Hp → Option (Unit × Hp))  (x1 : Int32)  (h : Hp) : Option (Hp ⊕ Hp) :=
  (f_X11_takes0 (5 : Int32) h).bind fun v3 =>
  if v3.1 = true then
  (rc 1 x1 v3.2).bind fun v6 =>
  some (.inl v6.2)
  else
  some (.inr ( v3.2))
set_option maxRecDepth 20000 in
theorem wb_X11_readTest_5 (rc : Nat → Int32 → Hp → Option (Unit × Hp)) {D0 : Nat} (hD0 : 10 ≤ D0) (hrc : RC_B rc D0) {X : Xt} (C : Cx X cn_11 prog_13_method_51_code 2 none (D0 + 1) 0 0)   (x1 : Int32)  (h : Hp) (q : Hp ⊕ Hp) (hrun : b_X11_readTest_5 rc  x1  h = some q) (Ks : ∀ s, q = .inl s → kp_X11_readTest_5  x1 X s) (Ke : ∀ e, q = .inr e → ke_X11_readTest_5  x1 X e) : kp_X11_readTest_5  x1 X h := by
  show G X h 0 0 5 [(0, .ref 81), (1, .int x1)] []
  unfold b_X11_readTest_5 at hrun
  refine g_aload_n C (dat dt_X11_readTest 3 rfl) 0 rfl ?_
  refine g_iconst C (dat dt_X11_readTest 4 rfl) ic_5 ?_
  obtain ⟨v3, q4, hrun⟩ := bd hrun
  refine g_cVi [.int (5 : Int32)] C (dat dt_X11_readTest 5 rfl) ml_11_211 (w_X11_takes0 (5 : Int32) h v3  q4) kd_81 ltk_81 rfl rfl cat0 (by have hGD : GD = 60 := rfl; omega) c00 ?_
  refine g_if_eq 21 C (dat dt_X11_readTest 6 rfl) (by decide) (fun c5 => ?_) (fun c5 => ?_)
  · rw [if_neg (b2i_z c5)] at hrun
    refine g_sub [] (lv' := []) rfl ?_
    cases hrun
    exact Ke ( v3.2) rfl
  · rw [if_pos (b2i_nz c5)] at hrun
    refine g_aload_n C (dat dt_X11_readTest 7 rfl) 0 rfl ?_
    refine g_iload_n C (dat dt_X11_readTest 8 rfl) 1 rfl ?_
    obtain ⟨v6, q7, hrun⟩ := bd hrun
    refine g_cVv [.int x1] C (dat dt_X11_readTest 9 rfl) ml_11_244 (hrc.2.1 _ _ _ q7) kd_81 ltk_81 rfl rfl cat0 (Nat.le_refl _) c00 ?_
    refine g_goto 5 C (dat dt_X11_readTest 10 rfl) (by decide) ?_
    cases hrun
    exact Ks v6.2 rfl
def f_X11_readTest (rc : Nat → Int32 → Hp → Option (Unit × Hp)) (x1 : Int32) (h : Hp) : Option (Unit × Hp) :=
  (rc 1 x1 h).bind fun v1 =>
  (lp (fun s => b_X11_readTest_5 rc  x1  s) FU v1.2).bind fun e8 =>
  some ((), e8)
set_option maxRecDepth 20000 in
theorem w_X11_readTest (rc : Nat → Int32 → Hp → Option (Unit × Hp)) {D0 : Nat} (hD0 : 10 ≤ D0) (hrc : RC_B rc D0) (x1 : Int32) (h : Hp) (q : (Unit × Hp))  (hrun : f_X11_readTest rc x1 h = some q) : MetA ⟨"SteamNationsModel", "readTest", "(I)V"⟩ prog_13_method_51_code 2 none (D0 + 1) 0 0 [.ref 81, .int x1] h none q.2 := by
  refine metA_of (by decide) (Nat.le_of_ble_eq_true rfl) (fun X C K => ?_)
  have C : Cx X cn_11 prog_13_method_51_code 2 none (D0 + 1) 0 0 := C
  show G X h 0 0 0 [(0, .ref 81), (1, .int x1)] []
  unfold f_X11_readTest at hrun
  refine g_aload_n C (dat dt_X11_readTest 0 rfl) 0 rfl ?_
  refine g_iload_n C (dat dt_X11_readTest 1 rfl) 1 rfl ?_
  obtain ⟨v1, q2, hrun⟩ := bd hrun
  refine g_cVv [.int x1] C (dat dt_X11_readTest 2 rfl) ml_11_244 (hrc.2.1 _ _ _ q2) kd_81 ltk_81 rfl rfl cat0 (Nat.le_refl _) c00 ?_
  obtain ⟨e8, q9, hrun⟩ := bd hrun
  refine lp_ind (P := fun s => kp_X11_readTest_5  x1 X s) (K := fun e => ke_X11_readTest_5  x1 X e) (fun s q hb Ks Ke => wb_X11_readTest_5 rc hD0 hrc C   x1  s q hb Ks Ke) FU v1.2 e8 q9 ?_
  show G X e8 0 0 21 [] []
  cases hrun
  exact g_vret C K (dat dt_X11_readTest 11 rfl)
/-! SteamNationsModel.readBoth(I)V -/
def dl_X11_readBoth : List (Nat × Instr × Nat) := [(0, .aload_n 0, 1), (1, .iload_n 1, 1), (2, .invokevirtual 247, 3), (5, .aload_n 0, 1), (6, .bipush 6, 2), (8, .invokevirtual 211, 3), (11, .ifCond .eq 11, 3), (14, .aload_n 0, 1), (15, .iload_n 1, 1), (16, .invokevirtual 247, 3), (19, .goto (-14), 3), (22, .return_, 1)]
set_option maxRecDepth 20000 in
theorem dt_X11_readBoth : ∀ q ∈ dl_X11_readBoth, decode prog_13_method_52_code q.1 = .ok q.2 := by decide +kernel
def kp_X11_readBoth_5  (x1 : Int32) (X : Xt) (s : Hp) : Prop := G X s 0 0 5 [(0, .ref 81), (1, .int x1)] []
def ke_X11_readBoth_5  (x1 : Int32) (X : Xt) (e : Hp) : Prop := G X e 0 0 22 [] []
def b_X11_readBoth_5 (rc : Nat → Int32 → Hp → Option (Unit × Hp))  (x1 : Int32)  (h : Hp) : Option (Hp ⊕ Hp) :=
  (f_X11_takes0 (6 : Int32) h).bind fun v3 =>
  if v3.1 = true then
  (rc 2 x1 v3.2).bind fun v6 =>
  some (.inl v6.2)
  else
  some (.inr ( v3.2))
set_option maxRecDepth 20000 in
theorem wb_X11_readBoth_5 (rc : Nat → Int32 → Hp → Option (Unit × Hp)) {D0 : Nat} (hD0 : 10 ≤ D0) (hrc : RC_B rc D0) {X : Xt} (C : Cx X cn_11 prog_13_method_52_code 2 none (D0 + 1) 0 0)   (x1 : Int32)  (h : Hp) (q : Hp ⊕ Hp) (hrun : b_X11_readBoth_5 rc  x1  h = some q) (Ks : ∀ s, q = .inl s → kp_X11_readBoth_5  x1 X s) (Ke : ∀ e, q = .inr e → ke_X11_readBoth_5  x1 X e) : kp_X11_readBoth_5  x1 X h := by
  show G X h 0 0 5 [(0, .ref 81), (1, .int x1)] []
  unfold b_X11_readBoth_5 at hrun
  refine g_aload_n C (dat dt_X11_readBoth 3 rfl) 0 rfl ?_
  refine g_bipush C (dat dt_X11_readBoth 4 rfl) bp_6 ?_
  obtain ⟨v3, q4, hrun⟩ := bd hrun
  refine g_cVi [.int (6 : Int32)] C (dat dt_X11_readBoth 5 rfl) ml_11_211 (w_X11_takes0 (6 : Int32) h v3  q4) kd_81 ltk_81 rfl rfl cat0 (by have hGD : GD = 60 := rfl; omega) c00 ?_
  refine g_if_eq 22 C (dat dt_X11_readBoth 6 rfl) (by decide) (fun c5 => ?_) (fun c5 => ?_)
  · rw [if_neg (b2i_z c5)] at hrun
    refine g_sub [] (lv' := []) rfl ?_
    cases hrun
    exact Ke ( v3.2) rfl
  · rw [if_pos (b2i_nz c5)] at hrun
    refine g_aload_n C (dat dt_X11_readBoth 7 rfl) 0 rfl ?_
    refine g_iload_n C (dat dt_X11_readBoth 8 rfl) 1 rfl ?_
    obtain ⟨v6, q7, hrun⟩ := bd hrun
    refine g_cVv [.int x1] C (dat dt_X11_readBoth 9 rfl) ml_11_247 (hrc.2.2.1 _ _ _ q7) kd_81 ltk_81 rfl rfl cat0 (Nat.le_refl _) c00 ?_
    refine g_goto 5 C (dat dt_X11_readBoth 10 rfl) (by decide) ?_
    cases hrun
    exact Ks v6.2 rfl
def f_X11_readBoth (rc : Nat → Int32 → Hp → Option (Unit × Hp)) (x1 : Int32) (h : Hp) : Option (Unit × Hp) :=
  (rc 2 x1 h).bind fun v1 =>
  (lp (fun s => b_X11_readBoth_5 rc  x1  s) FU v1.2).bind fun e8 =>
  some ((), e8)
set_option maxRecDepth 20000 in
theorem w_X11_readBoth (rc : Nat → Int32 → Hp → Option (Unit × Hp)) {D0 : Nat} (hD0 : 10 ≤ D0) (hrc : RC_B rc D0) (x1 : Int32) (h : Hp) (q : (Unit × Hp))  (hrun : f_X11_readBoth rc x1 h = some q) : MetA ⟨"SteamNationsModel", "readBoth", "(I)V"⟩ prog_13_method_52_code 2 none (D0 + 1) 0 0 [.ref 81, .int x1] h none q.2 := by
  refine metA_of (by decide) (Nat.le_of_ble_eq_true rfl) (fun X C K => ?_)
  have C : Cx X cn_11 prog_13_method_52_code 2 none (D0 + 1) 0 0 := C
  show G X h 0 0 0 [(0, .ref 81), (1, .int x1)] []
  unfold f_X11_readBoth at hrun
  refine g_aload_n C (dat dt_X11_readBoth 0 rfl) 0 rfl ?_
  refine g_iload_n C (dat dt_X11_readBoth 1 rfl) 1 rfl ?_
  obtain ⟨v1, q2, hrun⟩ := bd hrun
  refine g_cVv [.int x1] C (dat dt_X11_readBoth 2 rfl) ml_11_247 (hrc.2.2.1 _ _ _ q2) kd_81 ltk_81 rfl rfl cat0 (Nat.le_refl _) c00 ?_
  obtain ⟨e8, q9, hrun⟩ := bd hrun
  refine lp_ind (P := fun s => kp_X11_readBoth_5  x1 X s) (K := fun e => ke_X11_readBoth_5  x1 X e) (fun s q hb Ks Ke => wb_X11_readBoth_5 rc hD0 hrc C   x1  s q hb Ks Ke) FU v1.2 e8 q9 ?_
  show G X e8 0 0 22 [] []
  cases hrun
  exact g_vret C K (dat dt_X11_readBoth 11 rfl)
/-! SteamNationsModel.readPlain(I)V -/
def dl_X11_readPlain : List (Nat × Instr × Nat) := [(0, .iconst 1, 1), (1, .istore_n 2, 1), (2, .iload_n 2, 1), (3, .ifCond .eq 13, 3), (6, .aload_n 0, 1), (7, .bipush 7, 2), (9, .invokevirtual 211, 3), (12, .istore_n 2, 1), (13, .goto (-11), 3), (16, .aload_n 0, 1), (17, .invokevirtual 204, 3), (20, .ifCond .ne 4, 3), (23, .return_, 1), (24, .aload_n 0, 1), (25, .getfield 54, 3), (28, .aload_n 0, 1), (29, .getfield 208, 3), (32, .iaload, 1), (33, .istore_n 3, 1), (34, .iload_n 3, 1), (35, .bipush 40, 2), (37, .invokestatic 250, 3), (40, .if_icmp .ne 50, 3), (43, .iload_n 1, 1), (44, .bipush 8, 2), (46, .if_icmp .ne 7, 3), (49, .aload_n 0, 1), (50, .invokevirtual 214, 3), (53, .aload_n 0, 1), (54, .invokevirtual 204, 3), (57, .ifCond .ne 4, 3), (60, .return_, 1), (61, .aload_n 0, 1), (62, .dup, 1), (63, .getfield 208, 3), (66, .iconst 1, 1), (67, .iadd, 1), (68, .putfield 208, 3), (71, .aload_n 0, 1), (72, .iload_n 1, 1), (73, .iconst 1, 1), (74, .iadd, 1), (75, .invokevirtual 227, 3), (78, .aload_n 0, 1), (79, .bipush 41, 2), (81, .invokestatic 250, 3), (84, .invokevirtual 224, 3), (87, .goto 46, 3), (90, .aload_n 0, 1), (91, .iload_n 1, 1), (92, .invokevirtual 220, 3), (95, .aload_n 0, 1), (96, .bipush 60, 2), (98, .invokestatic 250, 3), (101, .invokevirtual 211, 3), (104, .ifCond .ne 24, 3), (107, .aload_n 0, 1), (108, .bipush 62, 2), (110, .invokestatic 250, 3), (113, .invokevirtual 211, 3), (116, .ifCond .ne 12, 3), (119, .aload_n 0, 1), (120, .bipush 61, 2), (122, .invokestatic 250, 3), (125, .invokevirtual 224, 3), (128, .aload_n 0, 1), (129, .iload_n 1, 1), (130, .invokevirtual 220, 3), (133, .return_, 1)]
set_option maxRecDepth 20000 in
theorem dt_X11_readPlain : ∀ q ∈ dl_X11_readPlain, decode prog_13_method_53_code q.1 = .ok q.2 := by decide +kernel
def kp_X11_readPlain_2  (x1 : Int32) (X : Xt) (s : (Int32 × Hp)) : Prop := G X s.2 0 0 2 [(0, .ref 81), (1, .int x1), (2, .int s.1)] []
def ke_X11_readPlain_2  (x1 : Int32) (X : Xt) (e : Hp) : Prop := G X e 0 0 16 [(0, .ref 81), (1, .int x1)] []
def b_X11_readPlain_2 (rc : Nat → Int32 → Hp → Option (Unit × Hp))  (x1 : Int32) (x2 : Int32) (h : Hp) : Option ((Int32 × Hp) ⊕ Hp) :=
  if x2 = 0 then
  some (.inr ( h))
  else
  (f_X11_takes0 (7 : Int32) h).bind fun v2 =>
  some (.inl ((b2i v2.1), v2.2))
set_option maxRecDepth 20000 in
theorem wb_X11_readPlain_2 (rc : Nat → Int32 → Hp → Option (Unit × Hp)) {D0 : Nat} (hD0 : 10 ≤ D0) (hrc : RC_B rc D0) {X : Xt} (C : Cx X cn_11 prog_13_method_53_code 4 none (D0 + 1) 0 0)   (x1 : Int32) (x2 : Int32) (h : Hp) (q : (Int32 × Hp) ⊕ Hp) (hrun : b_X11_readPlain_2 rc  x1 x2 h = some q) (Ks : ∀ s, q = .inl s → kp_X11_readPlain_2  x1 X s) (Ke : ∀ e, q = .inr e → ke_X11_readPlain_2  x1 X e) : kp_X11_readPlain_2  x1 X (x2, h) := by
  show G X h 0 0 2 [(0, .ref 81), (1, .int x1), (2, .int x2)] []
  unfold b_X11_readPlain_2 at hrun
  refine g_iload_n C (dat dt_X11_readPlain 2 rfl) 2 rfl ?_
  refine g_if_eq 16 C (dat dt_X11_readPlain 3 rfl) (by decide) (fun c1 => ?_) (fun c1 => ?_)
  · rw [if_pos c1] at hrun
    refine g_sub [0, 1] (lv' := [(0, .ref 81), (1, .int x1)]) rfl ?_
    cases hrun
    exact Ke ( h) rfl
  · rw [if_neg c1] at hrun
    refine g_aload_n C (dat dt_X11_readPlain 4 rfl) 0 rfl ?_
    refine g_bipush C (dat dt_X11_readPlain 5 rfl) bp_7 ?_
    obtain ⟨v2, q3, hrun⟩ := bd hrun
    refine g_cVi [.int (7 : Int32)] C (dat dt_X11_readPlain 6 rfl) ml_11_211 (w_X11_takes0 (7 : Int32) h v2  q3) kd_81 ltk_81 rfl rfl cat0 (by have hGD : GD = 60 := rfl; omega) c00 ?_
    refine g_istore_n (lv' := [(0, .ref 81), (1, .int x1), (2, .int (b2i v2.1))]) C (dat dt_X11_readPlain 7 rfl) (by decide) rfl ?_
    refine g_goto 2 C (dat dt_X11_readPlain 8 rfl) (by decide) ?_
    cases hrun
    exact Ks ((b2i v2.1), v2.2) rfl
def j_X11_readPlain_128 (rc : Nat → Int32 → Hp → Option (Unit × Hp))  (x1 : Int32) (h : Hp) : Option (Unit × Hp) :=
  (rc 3 x1 h).bind fun v21 =>
  some ((), v21.2)
set_option maxRecDepth 20000 in
theorem wj_X11_readPlain_128 (rc : Nat → Int32 → Hp → Option (Unit × Hp)) {D0 : Nat} (hD0 : 10 ≤ D0) (hrc : RC_B rc D0) {X : Xt} (C : Cx X cn_11 prog_13_method_53_code 4 none (D0 + 1) 0 0)    (x1 : Int32) (h : Hp) (q : (Unit × Hp)) (hrun : j_X11_readPlain_128 rc  x1 h = some q) (K : EndQ X 0 0 none q.2) : G X h 0 0 128 [(0, .ref 81), (1, .int x1)] [] := by
  unfold j_X11_readPlain_128 at hrun
  refine g_aload_n C (dat dt_X11_readPlain 65 rfl) 0 rfl ?_
  refine g_iload_n C (dat dt_X11_readPlain 66 rfl) 1 rfl ?_
  obtain ⟨v21, q22, hrun⟩ := bd hrun
  refine g_cVv [.int x1] C (dat dt_X11_readPlain 67 rfl) ml_11_220 (hrc.2.2.2.1 _ _ _ q22) kd_81 ltk_81 rfl rfl cat0 (Nat.le_refl _) c00 ?_
  cases hrun
  exact g_vret C K (dat dt_X11_readPlain 68 rfl)
def j_X11_readPlain_53 (rc : Nat → Int32 → Hp → Option (Unit × Hp))  (x1 : Int32) (h : Hp) : Option (Unit × Hp) :=
  (f_X11_fine  h).bind fun v33 =>
  if v33 = true then
  (rc 0 (x1 + (1 : Int32)) (sF h 81 19 ((fI h 81 19) + (1 : Int32)))).bind fun v36 =>
  (f_X11_sign (41 : Int32)).bind fun v38 =>
  (f_X11_must v38 v36.2).bind fun v40 =>
  some ((), v40.2)
  else
  some ((), h)
set_option maxRecDepth 20000 in
theorem wj_X11_readPlain_53 (rc : Nat → Int32 → Hp → Option (Unit × Hp)) {D0 : Nat} (hD0 : 10 ≤ D0) (hrc : RC_B rc D0) {X : Xt} (C : Cx X cn_11 prog_13_method_53_code 4 none (D0 + 1) 0 0)    (x1 : Int32) (h : Hp) (q : (Unit × Hp)) (hrun : j_X11_readPlain_53 rc  x1 h = some q) (K : EndQ X 0 0 none q.2) : G X h 0 0 53 [(0, .ref 81), (1, .int x1)] [] := by
  unfold j_X11_readPlain_53 at hrun
  refine g_aload_n C (dat dt_X11_readPlain 28 rfl) 0 rfl ?_
  obtain ⟨v33, q34, hrun⟩ := bd hrun
  refine g_cVi [] C (dat dt_X11_readPlain 29 rfl) ml_11_204 (w_X11_fine  h v33  q34) kd_81 ltk_81 rfl rfl cat0 (by have hGD : GD = 60 := rfl; omega) c00 ?_
  refine g_if_ne 61 C (dat dt_X11_readPlain 30 rfl) (by decide) (fun c35 => ?_) (fun c35 => ?_)
  · rw [if_pos (b2i_nz c35)] at hrun
    refine g_aload_n C (dat dt_X11_readPlain 32 rfl) 0 rfl ?_
    refine g_dup C (dat dt_X11_readPlain 33 rfl) rfl ?_
    refine g_getI C (dat dt_X11_readPlain 34 rfl) fl_11_208 kd_81 rfl ltk_81 ?_
    refine g_iconst C (dat dt_X11_readPlain 35 rfl) ic_1 ?_
    refine g_iadd C (dat dt_X11_readPlain 36 rfl) ?_
    refine g_putI C (dat dt_X11_readPlain 37 rfl) fl_11_208 rfl rfl kd_81 rfl ltk_81 ?_
    refine g_aload_n C (dat dt_X11_readPlain 38 rfl) 0 rfl ?_
    refine g_iload_n C (dat dt_X11_readPlain 39 rfl) 1 rfl ?_
    refine g_iconst C (dat dt_X11_readPlain 40 rfl) ic_1 ?_
    refine g_iadd C (dat dt_X11_readPlain 41 rfl) ?_
    obtain ⟨v36, q37, hrun⟩ := bd hrun
    refine g_cVv [.int (x1 + (1 : Int32))] C (dat dt_X11_readPlain 42 rfl) ml_11_227 (hrc.1 _ _ _ q37) kd_81 ltk_81 rfl rfl cat0 (Nat.le_refl _) c00 ?_
    refine g_aload_n C (dat dt_X11_readPlain 43 rfl) 0 rfl ?_
    refine g_bipush C (dat dt_X11_readPlain 44 rfl) bp_41 ?_
    obtain ⟨v38, q39, hrun⟩ := bd hrun
    refine g_cSi [.int (41 : Int32)] C (dat dt_X11_readPlain 45 rfl) ml_11_250 (w_X11_sign (41 : Int32) v36.2 v38  q39) rfl rfl (Nat.le_of_ble_eq_true rfl) (by have hGD : GD = 60 := rfl; omega) c00 ?_
    obtain ⟨v40, q41, hrun⟩ := bd hrun
    refine g_cVv [.int v38] C (dat dt_X11_readPlain 46 rfl) ml_11_224 (w_X11_must v38 v36.2 v40  q41) kd_81 ltk_81 rfl rfl cat0 (by have hGD : GD = 60 := rfl; omega) c00 ?_
    refine g_goto 133 C (dat dt_X11_readPlain 47 rfl) (by decide) ?_
    cases hrun
    exact g_vret C K (dat dt_X11_readPlain 68 rfl)
  · rw [if_neg (b2i_z c35)] at hrun
    cases hrun
    exact g_vret C K (dat dt_X11_readPlain 31 rfl)
def f_X11_readPlain (rc : Nat → Int32 → Hp → Option (Unit × Hp)) (x1 : Int32) (h : Hp) : Option (Unit × Hp) :=
  (lp (fun s => b_X11_readPlain_2 rc  x1 s.1 s.2) FU ((1 : Int32), h)).bind fun e4 =>
  (f_X11_fine  e4).bind fun v6 =>
  if v6 = true then
  (inb (fI e4 81 19) 401).bind fun j9 =>
  (f_X11_sign (40 : Int32)).bind fun v11 =>
  if (aI e4 90 j9) = v11 then
  if x1 = (8 : Int32) then
  (f_X11_faults  e4).bind fun v42 =>
  j_X11_readPlain_53 rc  x1 v42.2
  else
  j_X11_readPlain_53 rc  x1 e4
  else
  (rc 3 x1 e4).bind fun v14 =>
  (f_X11_sign (60 : Int32)).bind fun v16 =>
  (f_X11_takes0 v16 v14.2).bind fun v18 =>
  if v18.1 = true then
  j_X11_readPlain_128 rc  x1 v18.2
  else
  (f_X11_sign (62 : Int32)).bind fun v23 =>
  (f_X11_takes0 v23 v18.2).bind fun v25 =>
  if v25.1 = true then
  j_X11_readPlain_128 rc  x1 v25.2
  else
  (f_X11_sign (61 : Int32)).bind fun v28 =>
  (f_X11_must v28 v25.2).bind fun v30 =>
  j_X11_readPlain_128 rc  x1 v30.2
  else
  some ((), e4)
set_option maxRecDepth 20000 in
theorem w_X11_readPlain (rc : Nat → Int32 → Hp → Option (Unit × Hp)) {D0 : Nat} (hD0 : 10 ≤ D0) (hrc : RC_B rc D0) (x1 : Int32) (h : Hp) (q : (Unit × Hp))  (hrun : f_X11_readPlain rc x1 h = some q) : MetA ⟨"SteamNationsModel", "readPlain", "(I)V"⟩ prog_13_method_53_code 4 none (D0 + 1) 0 0 [.ref 81, .int x1] h none q.2 := by
  refine metA_of (by decide) (Nat.le_of_ble_eq_true rfl) (fun X C K => ?_)
  have C : Cx X cn_11 prog_13_method_53_code 4 none (D0 + 1) 0 0 := C
  show G X h 0 0 0 [(0, .ref 81), (1, .int x1)] []
  unfold f_X11_readPlain at hrun
  refine g_iconst C (dat dt_X11_readPlain 0 rfl) ic_1 ?_
  refine g_istore_n (lv' := [(0, .ref 81), (1, .int x1), (2, .int (1 : Int32))]) C (dat dt_X11_readPlain 1 rfl) (by decide) rfl ?_
  obtain ⟨e4, q5, hrun⟩ := bd hrun
  refine lp_ind (P := fun s => kp_X11_readPlain_2  x1 X s) (K := fun e => ke_X11_readPlain_2  x1 X e) (fun s q hb Ks Ke => wb_X11_readPlain_2 rc hD0 hrc C   x1 s.1 s.2 q hb Ks Ke) FU ((1 : Int32), h) e4 q5 ?_
  show G X e4 0 0 16 [(0, .ref 81), (1, .int x1)] []
  refine g_aload_n C (dat dt_X11_readPlain 9 rfl) 0 rfl ?_
  obtain ⟨v6, q7, hrun⟩ := bd hrun
  refine g_cVi [] C (dat dt_X11_readPlain 10 rfl) ml_11_204 (w_X11_fine  e4 v6  q7) kd_81 ltk_81 rfl rfl cat0 (by have hGD : GD = 60 := rfl; omega) c00 ?_
  refine g_if_ne 24 C (dat dt_X11_readPlain 11 rfl) (by decide) (fun c8 => ?_) (fun c8 => ?_)
  · rw [if_pos (b2i_nz c8)] at hrun
    refine g_aload_n C (dat dt_X11_readPlain 13 rfl) 0 rfl ?_
    refine g_getR C (dat dt_X11_readPlain 14 rfl) fl_11_54 kd_81 rfl ltk_81 ?_
    refine g_aload_n C (dat dt_X11_readPlain 15 rfl) 0 rfl ?_
    refine g_getI C (dat dt_X11_readPlain 16 rfl) fl_11_208 kd_81 rfl ltk_81 ?_
    obtain ⟨j9, q10, hrun⟩ := bd hrun
    refine g_iald C (dat dt_X11_readPlain 17 rfl) kd_90 ltk_90 q10 ?_
    refine g_istore_n (lv' := [(0, .ref 81), (1, .int x1), (3, .int (aI e4 90 j9))]) C (dat dt_X11_readPlain 18 rfl) (by decide) rfl ?_
    refine g_iload_n C (dat dt_X11_readPlain 19 rfl) 2 rfl ?_
    refine g_bipush C (dat dt_X11_readPlain 20 rfl) bp_40 ?_
    obtain ⟨v11, q12, hrun⟩ := bd hrun
    refine g_cSi [.int (40 : Int32)] C (dat dt_X11_readPlain 21 rfl) ml_11_250 (w_X11_sign (40 : Int32) e4 v11  q12) rfl rfl (Nat.le_of_ble_eq_true rfl) (by have hGD : GD = 60 := rfl; omega) c00 ?_
    refine g_ic_ne 90 C (dat dt_X11_readPlain 22 rfl) (by decide) (fun c13 => ?_) (fun c13 => ?_)
    · rw [if_neg c13] at hrun
      refine g_aload_n C (dat dt_X11_readPlain 48 rfl) 0 rfl ?_
      refine g_iload_n C (dat dt_X11_readPlain 49 rfl) 1 rfl ?_
      obtain ⟨v14, q15, hrun⟩ := bd hrun
      refine g_cVv [.int x1] C (dat dt_X11_readPlain 50 rfl) ml_11_220 (hrc.2.2.2.1 _ _ _ q15) kd_81 ltk_81 rfl rfl cat0 (Nat.le_refl _) c00 ?_
      refine g_aload_n C (dat dt_X11_readPlain 51 rfl) 0 rfl ?_
      refine g_bipush C (dat dt_X11_readPlain 52 rfl) bp_60 ?_
      obtain ⟨v16, q17, hrun⟩ := bd hrun
      refine g_cSi [.int (60 : Int32)] C (dat dt_X11_readPlain 53 rfl) ml_11_250 (w_X11_sign (60 : Int32) v14.2 v16  q17) rfl rfl (Nat.le_of_ble_eq_true rfl) (by have hGD : GD = 60 := rfl; omega) c00 ?_
      obtain ⟨v18, q19, hrun⟩ := bd hrun
      refine g_cVi [.int v16] C (dat dt_X11_readPlain 54 rfl) ml_11_211 (w_X11_takes0 v16 v14.2 v18  q19) kd_81 ltk_81 rfl rfl cat0 (by have hGD : GD = 60 := rfl; omega) c00 ?_
      refine g_if_ne 128 C (dat dt_X11_readPlain 55 rfl) (by decide) (fun c20 => ?_) (fun c20 => ?_)
      · rw [if_pos (b2i_nz c20)] at hrun
        refine g_sub [0, 1] (lv' := [(0, .ref 81), (1, .int x1)]) rfl ?_
        exact wj_X11_readPlain_128 rc hD0 hrc C    x1 v18.2 _ hrun K
      · rw [if_neg (b2i_z c20)] at hrun
        refine g_aload_n C (dat dt_X11_readPlain 56 rfl) 0 rfl ?_
        refine g_bipush C (dat dt_X11_readPlain 57 rfl) bp_62 ?_
        obtain ⟨v23, q24, hrun⟩ := bd hrun
        refine g_cSi [.int (62 : Int32)] C (dat dt_X11_readPlain 58 rfl) ml_11_250 (w_X11_sign (62 : Int32) v18.2 v23  q24) rfl rfl (Nat.le_of_ble_eq_true rfl) (by have hGD : GD = 60 := rfl; omega) c00 ?_
        obtain ⟨v25, q26, hrun⟩ := bd hrun
        refine g_cVi [.int v23] C (dat dt_X11_readPlain 59 rfl) ml_11_211 (w_X11_takes0 v23 v18.2 v25  q26) kd_81 ltk_81 rfl rfl cat0 (by have hGD : GD = 60 := rfl; omega) c00 ?_
        refine g_if_ne 128 C (dat dt_X11_readPlain 60 rfl) (by decide) (fun c27 => ?_) (fun c27 => ?_)
        · rw [if_pos (b2i_nz c27)] at hrun
          refine g_sub [0, 1] (lv' := [(0, .ref 81), (1, .int x1)]) rfl ?_
          exact wj_X11_readPlain_128 rc hD0 hrc C    x1 v25.2 _ hrun K
        · rw [if_neg (b2i_z c27)] at hrun
          refine g_aload_n C (dat dt_X11_readPlain 61 rfl) 0 rfl ?_
          refine g_bipush C (dat dt_X11_readPlain 62 rfl) bp_61 ?_
          obtain ⟨v28, q29, hrun⟩ := bd hrun
          refine g_cSi [.int (61 : Int32)] C (dat dt_X11_readPlain 63 rfl) ml_11_250 (w_X11_sign (61 : Int32) v25.2 v28  q29) rfl rfl (Nat.le_of_ble_eq_true rfl) (by have hGD : GD = 60 := rfl; omega) c00 ?_
          obtain ⟨v30, q31, hrun⟩ := bd hrun
          refine g_cVv [.int v28] C (dat dt_X11_readPlain 64 rfl) ml_11_224 (w_X11_must v28 v25.2 v30  q31) kd_81 ltk_81 rfl rfl cat0 (by have hGD : GD = 60 := rfl; omega) c00 ?_
          refine g_sub [0, 1] (lv' := [(0, .ref 81), (1, .int x1)]) rfl ?_
          exact wj_X11_readPlain_128 rc hD0 hrc C    x1 v30.2 _ hrun K
    · rw [if_pos c13] at hrun
      refine g_iload_n C (dat dt_X11_readPlain 23 rfl) 1 rfl ?_
      refine g_bipush C (dat dt_X11_readPlain 24 rfl) bp_8 ?_
      refine g_ic_ne 53 C (dat dt_X11_readPlain 25 rfl) (by decide) (fun c32 => ?_) (fun c32 => ?_)
      · rw [if_neg c32] at hrun
        refine g_sub [0, 1] (lv' := [(0, .ref 81), (1, .int x1)]) rfl ?_
        exact wj_X11_readPlain_53 rc hD0 hrc C    x1 e4 _ hrun K
      · rw [if_pos c32] at hrun
        refine g_aload_n C (dat dt_X11_readPlain 26 rfl) 0 rfl ?_
        obtain ⟨v42, q43, hrun⟩ := bd hrun
        refine g_cVv [] C (dat dt_X11_readPlain 27 rfl) ml_11_214 (w_X11_faults  e4 v42  q43) kd_81 ltk_81 rfl rfl cat0 (by have hGD : GD = 60 := rfl; omega) c00 ?_
        refine g_sub [0, 1] (lv' := [(0, .ref 81), (1, .int x1)]) rfl ?_
        exact wj_X11_readPlain_53 rc hD0 hrc C    x1 v42.2 _ hrun K
  · rw [if_neg (b2i_z c8)] at hrun
    cases hrun
    exact g_vret C K (dat dt_X11_readPlain 12 rfl)
/-! SteamNationsModel.readSum(I)V -/
def dl_X11_readSum : List (Nat × Instr × Nat) := [(0, .aload_n 0, 1), (1, .iload_n 1, 1), (2, .invokevirtual 254, 3), (5, .aload_n 0, 1), (6, .bipush 43, 2), (8, .invokestatic 250, 3), (11, .invokevirtual 211, 3), (14, .ifCond .ne 15, 3), (17, .aload_n 0, 1), (18, .bipush 45, 2), (20, .invokestatic 250, 3), (23, .invokevirtual 211, 3), (26, .ifCond .eq 11, 3), (29, .aload_n 0, 1), (30, .iload_n 1, 1), (31, .invokevirtual 254, 3), (34, .goto (-29), 3), (37, .return_, 1)]
set_option maxRecDepth 20000 in
theorem dt_X11_readSum : ∀ q ∈ dl_X11_readSum, decode prog_13_method_54_code q.1 = .ok q.2 := by decide +kernel
def kp_X11_readSum_5  (x1 : Int32) (X : Xt) (s : Hp) : Prop := G X s 0 0 5 [(0, .ref 81), (1, .int x1)] []
def ke_X11_readSum_5  (x1 : Int32) (X : Xt) (e : Hp) : Prop := G X e 0 0 37 [] []
def j_X11_readSum_29_5 (rc : Nat → Int32 → Hp → Option (Unit × Hp))  (x1 : Int32) (h : Hp) : Option (Hp ⊕ Hp) :=
  (rc 4 x1 h).bind fun v8 =>
  some (.inl v8.2)
set_option maxRecDepth 20000 in
theorem wj_X11_readSum_29_5 (rc : Nat → Int32 → Hp → Option (Unit × Hp)) {D0 : Nat} (hD0 : 10 ≤ D0) (hrc : RC_B rc D0) {X : Xt} (C : Cx X cn_11 prog_13_method_54_code 2 none (D0 + 1) 0 0)    (x1 : Int32) (h : Hp) (q : Hp ⊕ Hp) (hrun : j_X11_readSum_29_5 rc  x1 h = some q) (Ks : ∀ s, q = .inl s → kp_X11_readSum_5  x1 X s) (Ke : ∀ e, q = .inr e → ke_X11_readSum_5  x1 X e) : G X h 0 0 29 [(0, .ref 81), (1, .int x1)] [] := by
  unfold j_X11_readSum_29_5 at hrun
  refine g_aload_n C (dat dt_X11_readSum 13 rfl) 0 rfl ?_
  refine g_iload_n C (dat dt_X11_readSum 14 rfl) 1 rfl ?_
  obtain ⟨v8, q9, hrun⟩ := bd hrun
  refine g_cVv [.int x1] C (dat dt_X11_readSum 15 rfl) ml_11_254 (hrc.2.2.2.2.1 _ _ _ q9) kd_81 ltk_81 rfl rfl cat0 (Nat.le_refl _) c00 ?_
  refine g_goto 5 C (dat dt_X11_readSum 16 rfl) (by decide) ?_
  cases hrun
  exact Ks v8.2 rfl
def b_X11_readSum_5 (rc : Nat → Int32 → Hp → Option (Unit × Hp))  (x1 : Int32)  (h : Hp) : Option (Hp ⊕ Hp) :=
  (f_X11_sign (43 : Int32)).bind fun v3 =>
  (f_X11_takes0 v3 h).bind fun v5 =>
  if v5.1 = true then
  j_X11_readSum_29_5 rc  x1 v5.2
  else
  (f_X11_sign (45 : Int32)).bind fun v10 =>
  (f_X11_takes0 v10 v5.2).bind fun v12 =>
  if v12.1 = true then
  j_X11_readSum_29_5 rc  x1 v12.2
  else
  some (.inr ( v12.2))
set_option maxRecDepth 20000 in
theorem wb_X11_readSum_5 (rc : Nat → Int32 → Hp → Option (Unit × Hp)) {D0 : Nat} (hD0 : 10 ≤ D0) (hrc : RC_B rc D0) {X : Xt} (C : Cx X cn_11 prog_13_method_54_code 2 none (D0 + 1) 0 0)   (x1 : Int32)  (h : Hp) (q : Hp ⊕ Hp) (hrun : b_X11_readSum_5 rc  x1  h = some q) (Ks : ∀ s, q = .inl s → kp_X11_readSum_5  x1 X s) (Ke : ∀ e, q = .inr e → ke_X11_readSum_5  x1 X e) : kp_X11_readSum_5  x1 X h := by
  show G X h 0 0 5 [(0, .ref 81), (1, .int x1)] []
  unfold b_X11_readSum_5 at hrun
  refine g_aload_n C (dat dt_X11_readSum 3 rfl) 0 rfl ?_
  refine g_bipush C (dat dt_X11_readSum 4 rfl) bp_43 ?_
  obtain ⟨v3, q4, hrun⟩ := bd hrun
  refine g_cSi [.int (43 : Int32)] C (dat dt_X11_readSum 5 rfl) ml_11_250 (w_X11_sign (43 : Int32) h v3  q4) rfl rfl (Nat.le_of_ble_eq_true rfl) (by have hGD : GD = 60 := rfl; omega) c00 ?_
  obtain ⟨v5, q6, hrun⟩ := bd hrun
  refine g_cVi [.int v3] C (dat dt_X11_readSum 6 rfl) ml_11_211 (w_X11_takes0 v3 h v5  q6) kd_81 ltk_81 rfl rfl cat0 (by have hGD : GD = 60 := rfl; omega) c00 ?_
  refine g_if_ne 29 C (dat dt_X11_readSum 7 rfl) (by decide) (fun c7 => ?_) (fun c7 => ?_)
  · rw [if_pos (b2i_nz c7)] at hrun
    exact wj_X11_readSum_29_5 rc hD0 hrc C    x1 v5.2 _ hrun Ks Ke
  · rw [if_neg (b2i_z c7)] at hrun
    refine g_aload_n C (dat dt_X11_readSum 8 rfl) 0 rfl ?_
    refine g_bipush C (dat dt_X11_readSum 9 rfl) bp_45 ?_
    obtain ⟨v10, q11, hrun⟩ := bd hrun
    refine g_cSi [.int (45 : Int32)] C (dat dt_X11_readSum 10 rfl) ml_11_250 (w_X11_sign (45 : Int32) v5.2 v10  q11) rfl rfl (Nat.le_of_ble_eq_true rfl) (by have hGD : GD = 60 := rfl; omega) c00 ?_
    obtain ⟨v12, q13, hrun⟩ := bd hrun
    refine g_cVi [.int v10] C (dat dt_X11_readSum 11 rfl) ml_11_211 (w_X11_takes0 v10 v5.2 v12  q13) kd_81 ltk_81 rfl rfl cat0 (by have hGD : GD = 60 := rfl; omega) c00 ?_
    refine g_if_eq 37 C (dat dt_X11_readSum 12 rfl) (by decide) (fun c14 => ?_) (fun c14 => ?_)
    · rw [if_neg (b2i_z c14)] at hrun
      refine g_sub [] (lv' := []) rfl ?_
      cases hrun
      exact Ke ( v12.2) rfl
    · rw [if_pos (b2i_nz c14)] at hrun
      exact wj_X11_readSum_29_5 rc hD0 hrc C    x1 v12.2 _ hrun Ks Ke
def f_X11_readSum (rc : Nat → Int32 → Hp → Option (Unit × Hp)) (x1 : Int32) (h : Hp) : Option (Unit × Hp) :=
  (rc 4 x1 h).bind fun v1 =>
  (lp (fun s => b_X11_readSum_5 rc  x1  s) FU v1.2).bind fun e15 =>
  some ((), e15)
set_option maxRecDepth 20000 in
theorem w_X11_readSum (rc : Nat → Int32 → Hp → Option (Unit × Hp)) {D0 : Nat} (hD0 : 10 ≤ D0) (hrc : RC_B rc D0) (x1 : Int32) (h : Hp) (q : (Unit × Hp))  (hrun : f_X11_readSum rc x1 h = some q) : MetA ⟨"SteamNationsModel", "readSum", "(I)V"⟩ prog_13_method_54_code 2 none (D0 + 1) 0 0 [.ref 81, .int x1] h none q.2 := by
  refine metA_of (by decide) (Nat.le_of_ble_eq_true rfl) (fun X C K => ?_)
  have C : Cx X cn_11 prog_13_method_54_code 2 none (D0 + 1) 0 0 := C
  show G X h 0 0 0 [(0, .ref 81), (1, .int x1)] []
  unfold f_X11_readSum at hrun
  refine g_aload_n C (dat dt_X11_readSum 0 rfl) 0 rfl ?_
  refine g_iload_n C (dat dt_X11_readSum 1 rfl) 1 rfl ?_
  obtain ⟨v1, q2, hrun⟩ := bd hrun
  refine g_cVv [.int x1] C (dat dt_X11_readSum 2 rfl) ml_11_254 (hrc.2.2.2.2.1 _ _ _ q2) kd_81 ltk_81 rfl rfl cat0 (Nat.le_refl _) c00 ?_
  obtain ⟨e15, q16, hrun⟩ := bd hrun
  refine lp_ind (P := fun s => kp_X11_readSum_5  x1 X s) (K := fun e => ke_X11_readSum_5  x1 X e) (fun s q hb Ks Ke => wb_X11_readSum_5 rc hD0 hrc C   x1  s q hb Ks Ke) FU v1.2 e15 q16 ?_
  show G X e15 0 0 37 [] []
  cases hrun
  exact g_vret C K (dat dt_X11_readSum 17 rfl)
/-! SteamNationsModel.readTerm(I)V -/
def dl_X11_readTerm : List (Nat × Instr × Nat) := [(0, .aload_n 0, 1), (1, .iload_n 1, 1), (2, .invokevirtual 257, 3), (5, .aload_n 0, 1), (6, .bipush 42, 2), (8, .invokestatic 250, 3), (11, .invokevirtual 211, 3), (14, .ifCond .ne 27, 3), (17, .aload_n 0, 1), (18, .bipush 47, 2), (20, .invokestatic 250, 3), (23, .invokevirtual 211, 3), (26, .ifCond .ne 15, 3), (29, .aload_n 0, 1), (30, .bipush 37, 2), (32, .invokestatic 250, 3), (35, .invokevirtual 211, 3), (38, .ifCond .eq 11, 3), (41, .aload_n 0, 1), (42, .iload_n 1, 1), (43, .invokevirtual 257, 3), (46, .goto (-41), 3), (49, .return_, 1)]
set_option maxRecDepth 20000 in
theorem dt_X11_readTerm : ∀ q ∈ dl_X11_readTerm, decode prog_13_method_55_code q.1 = .ok q.2 := by decide +kernel
def kp_X11_readTerm_5  (x1 : Int32) (X : Xt) (s : Hp) : Prop := G X s 0 0 5 [(0, .ref 81), (1, .int x1)] []
def ke_X11_readTerm_5  (x1 : Int32) (X : Xt) (e : Hp) : Prop := G X e 0 0 49 [] []
def j_X11_readTerm_41_5 (rc : Nat → Int32 → Hp → Option (Unit × Hp))  (x1 : Int32) (h : Hp) : Option (Hp ⊕ Hp) :=
  (rc 5 x1 h).bind fun v8 =>
  some (.inl v8.2)
set_option maxRecDepth 20000 in
theorem wj_X11_readTerm_41_5 (rc : Nat → Int32 → Hp → Option (Unit × Hp)) {D0 : Nat} (hD0 : 10 ≤ D0) (hrc : RC_B rc D0) {X : Xt} (C : Cx X cn_11 prog_13_method_55_code 2 none (D0 + 1) 0 0)    (x1 : Int32) (h : Hp) (q : Hp ⊕ Hp) (hrun : j_X11_readTerm_41_5 rc  x1 h = some q) (Ks : ∀ s, q = .inl s → kp_X11_readTerm_5  x1 X s) (Ke : ∀ e, q = .inr e → ke_X11_readTerm_5  x1 X e) : G X h 0 0 41 [(0, .ref 81), (1, .int x1)] [] := by
  unfold j_X11_readTerm_41_5 at hrun
  refine g_aload_n C (dat dt_X11_readTerm 18 rfl) 0 rfl ?_
  refine g_iload_n C (dat dt_X11_readTerm 19 rfl) 1 rfl ?_
  obtain ⟨v8, q9, hrun⟩ := bd hrun
  refine g_cVv [.int x1] C (dat dt_X11_readTerm 20 rfl) ml_11_257 (hrc.2.2.2.2.2 _ _ _ q9) kd_81 ltk_81 rfl rfl cat0 (Nat.le_refl _) c00 ?_
  refine g_goto 5 C (dat dt_X11_readTerm 21 rfl) (by decide) ?_
  cases hrun
  exact Ks v8.2 rfl
def b_X11_readTerm_5 (rc : Nat → Int32 → Hp → Option (Unit × Hp))  (x1 : Int32)  (h : Hp) : Option (Hp ⊕ Hp) :=
  (f_X11_sign (42 : Int32)).bind fun v3 =>
  (f_X11_takes0 v3 h).bind fun v5 =>
  if v5.1 = true then
  j_X11_readTerm_41_5 rc  x1 v5.2
  else
  (f_X11_sign (47 : Int32)).bind fun v10 =>
  (f_X11_takes0 v10 v5.2).bind fun v12 =>
  if v12.1 = true then
  j_X11_readTerm_41_5 rc  x1 v12.2
  else
  (f_X11_sign (37 : Int32)).bind fun v15 =>
  (f_X11_takes0 v15 v12.2).bind fun v17 =>
  if v17.1 = true then
  j_X11_readTerm_41_5 rc  x1 v17.2
  else
  some (.inr ( v17.2))
set_option maxRecDepth 20000 in
theorem wb_X11_readTerm_5 (rc : Nat → Int32 → Hp → Option (Unit × Hp)) {D0 : Nat} (hD0 : 10 ≤ D0) (hrc : RC_B rc D0) {X : Xt} (C : Cx X cn_11 prog_13_method_55_code 2 none (D0 + 1) 0 0)   (x1 : Int32)  (h : Hp) (q : Hp ⊕ Hp) (hrun : b_X11_readTerm_5 rc  x1  h = some q) (Ks : ∀ s, q = .inl s → kp_X11_readTerm_5  x1 X s) (Ke : ∀ e, q = .inr e → ke_X11_readTerm_5  x1 X e) : kp_X11_readTerm_5  x1 X h := by
  show G X h 0 0 5 [(0, .ref 81), (1, .int x1)] []
  unfold b_X11_readTerm_5 at hrun
  refine g_aload_n C (dat dt_X11_readTerm 3 rfl) 0 rfl ?_
  refine g_bipush C (dat dt_X11_readTerm 4 rfl) bp_42 ?_
  obtain ⟨v3, q4, hrun⟩ := bd hrun
  refine g_cSi [.int (42 : Int32)] C (dat dt_X11_readTerm 5 rfl) ml_11_250 (w_X11_sign (42 : Int32) h v3  q4) rfl rfl (Nat.le_of_ble_eq_true rfl) (by have hGD : GD = 60 := rfl; omega) c00 ?_
  obtain ⟨v5, q6, hrun⟩ := bd hrun
  refine g_cVi [.int v3] C (dat dt_X11_readTerm 6 rfl) ml_11_211 (w_X11_takes0 v3 h v5  q6) kd_81 ltk_81 rfl rfl cat0 (by have hGD : GD = 60 := rfl; omega) c00 ?_
  refine g_if_ne 41 C (dat dt_X11_readTerm 7 rfl) (by decide) (fun c7 => ?_) (fun c7 => ?_)
  · rw [if_pos (b2i_nz c7)] at hrun
    exact wj_X11_readTerm_41_5 rc hD0 hrc C    x1 v5.2 _ hrun Ks Ke
  · rw [if_neg (b2i_z c7)] at hrun
    refine g_aload_n C (dat dt_X11_readTerm 8 rfl) 0 rfl ?_
    refine g_bipush C (dat dt_X11_readTerm 9 rfl) bp_47 ?_
    obtain ⟨v10, q11, hrun⟩ := bd hrun
    refine g_cSi [.int (47 : Int32)] C (dat dt_X11_readTerm 10 rfl) ml_11_250 (w_X11_sign (47 : Int32) v5.2 v10  q11) rfl rfl (Nat.le_of_ble_eq_true rfl) (by have hGD : GD = 60 := rfl; omega) c00 ?_
    obtain ⟨v12, q13, hrun⟩ := bd hrun
    refine g_cVi [.int v10] C (dat dt_X11_readTerm 11 rfl) ml_11_211 (w_X11_takes0 v10 v5.2 v12  q13) kd_81 ltk_81 rfl rfl cat0 (by have hGD : GD = 60 := rfl; omega) c00 ?_
    refine g_if_ne 41 C (dat dt_X11_readTerm 12 rfl) (by decide) (fun c14 => ?_) (fun c14 => ?_)
    · rw [if_pos (b2i_nz c14)] at hrun
      exact wj_X11_readTerm_41_5 rc hD0 hrc C    x1 v12.2 _ hrun Ks Ke
    · rw [if_neg (b2i_z c14)] at hrun
      refine g_aload_n C (dat dt_X11_readTerm 13 rfl) 0 rfl ?_
      refine g_bipush C (dat dt_X11_readTerm 14 rfl) bp_37 ?_
      obtain ⟨v15, q16, hrun⟩ := bd hrun
      refine g_cSi [.int (37 : Int32)] C (dat dt_X11_readTerm 15 rfl) ml_11_250 (w_X11_sign (37 : Int32) v12.2 v15  q16) rfl rfl (Nat.le_of_ble_eq_true rfl) (by have hGD : GD = 60 := rfl; omega) c00 ?_
      obtain ⟨v17, q18, hrun⟩ := bd hrun
      refine g_cVi [.int v15] C (dat dt_X11_readTerm 16 rfl) ml_11_211 (w_X11_takes0 v15 v12.2 v17  q18) kd_81 ltk_81 rfl rfl cat0 (by have hGD : GD = 60 := rfl; omega) c00 ?_
      refine g_if_eq 49 C (dat dt_X11_readTerm 17 rfl) (by decide) (fun c19 => ?_) (fun c19 => ?_)
      · rw [if_neg (b2i_z c19)] at hrun
        refine g_sub [] (lv' := []) rfl ?_
        cases hrun
        exact Ke ( v17.2) rfl
      · rw [if_pos (b2i_nz c19)] at hrun
        exact wj_X11_readTerm_41_5 rc hD0 hrc C    x1 v17.2 _ hrun Ks Ke
def f_X11_readTerm (rc : Nat → Int32 → Hp → Option (Unit × Hp)) (x1 : Int32) (h : Hp) : Option (Unit × Hp) :=
  (rc 5 x1 h).bind fun v1 =>
  (lp (fun s => b_X11_readTerm_5 rc  x1  s) FU v1.2).bind fun e20 =>
  some ((), e20)
set_option maxRecDepth 20000 in
theorem w_X11_readTerm (rc : Nat → Int32 → Hp → Option (Unit × Hp)) {D0 : Nat} (hD0 : 10 ≤ D0) (hrc : RC_B rc D0) (x1 : Int32) (h : Hp) (q : (Unit × Hp))  (hrun : f_X11_readTerm rc x1 h = some q) : MetA ⟨"SteamNationsModel", "readTerm", "(I)V"⟩ prog_13_method_55_code 2 none (D0 + 1) 0 0 [.ref 81, .int x1] h none q.2 := by
  refine metA_of (by decide) (Nat.le_of_ble_eq_true rfl) (fun X C K => ?_)
  have C : Cx X cn_11 prog_13_method_55_code 2 none (D0 + 1) 0 0 := C
  show G X h 0 0 0 [(0, .ref 81), (1, .int x1)] []
  unfold f_X11_readTerm at hrun
  refine g_aload_n C (dat dt_X11_readTerm 0 rfl) 0 rfl ?_
  refine g_iload_n C (dat dt_X11_readTerm 1 rfl) 1 rfl ?_
  obtain ⟨v1, q2, hrun⟩ := bd hrun
  refine g_cVv [.int x1] C (dat dt_X11_readTerm 2 rfl) ml_11_257 (hrc.2.2.2.2.2 _ _ _ q2) kd_81 ltk_81 rfl rfl cat0 (Nat.le_refl _) c00 ?_
  obtain ⟨e20, q21, hrun⟩ := bd hrun
  refine lp_ind (P := fun s => kp_X11_readTerm_5  x1 X s) (K := fun e => ke_X11_readTerm_5  x1 X e) (fun s q hb Ks Ke => wb_X11_readTerm_5 rc hD0 hrc C   x1  s q hb Ks Ke) FU v1.2 e20 q21 ?_
  show G X e20 0 0 49 [] []
  cases hrun
  exact g_vret C K (dat dt_X11_readTerm 22 rfl)
/-! SteamNationsModel.readPart(I)V -/
def dl_X11_readPart : List (Nat × Instr × Nat) := [(0, .aload_n 0, 1), (1, .invokevirtual 204, 3), (4, .ifCond .ne 4, 3), (7, .return_, 1), (8, .aload_n 0, 1), (9, .getfield 54, 3), (12, .aload_n 0, 1), (13, .getfield 208, 3), (16, .iaload, 1), (17, .istore_n 2, 1), (18, .iload_n 2, 1), (19, .bipush 91, 2), (21, .invokestatic 250, 3), (24, .if_icmp .ne 50, 3), (27, .iload_n 1, 1), (28, .bipush 8, 2), (30, .if_icmp .ne 7, 3), (33, .aload_n 0, 1), (34, .invokevirtual 214, 3), (37, .aload_n 0, 1), (38, .invokevirtual 204, 3), (41, .ifCond .ne 4, 3), (44, .return_, 1), (45, .aload_n 0, 1), (46, .dup, 1), (47, .getfield 208, 3), (50, .iconst 1, 1), (51, .iadd, 1), (52, .putfield 208, 3), (55, .aload_n 0, 1), (56, .iload_n 1, 1), (57, .iconst 1, 1), (58, .iadd, 1), (59, .invokevirtual 220, 3), (62, .aload_n 0, 1), (63, .bipush 93, 2), (65, .invokestatic 250, 3), (68, .invokevirtual 224, 3), (71, .goto 76, 3), (74, .iload_n 2, 1), (75, .bipush 50, 2), (77, .if_icmp .ne 18, 3), (80, .aload_n 0, 1), (81, .getfield 57, 3), (84, .aload_n 0, 1), (85, .getfield 208, 3), (88, .iaload, 1), (89, .sipush 1000, 3), (92, .if_icmp .le 19, 3), (95, .iload_n 2, 1), (96, .aload_n 0, 1), (97, .getfield 260, 3), (100, .if_icmp .lt 43, 3), (103, .iload_n 2, 1), (104, .aload_n 0, 1), (105, .getfield 263, 3), (108, .if_icmp .gt 35, 3), (111, .aload_n 0, 1), (112, .invokevirtual 266, 3), (115, .aload_n 0, 1), (116, .getfield 234, 3), (119, .ifCond .eq 28, 3), (122, .iload_n 2, 1), (123, .bipush 14, 2), (125, .if_icmp .eq 9, 3), (128, .iload_n 2, 1), (129, .bipush 20, 2), (131, .if_icmp .ne 16, 3), (134, .aload_n 0, 1), (135, .iconst 0, 1), (136, .iconst 5, 1), (137, .invokevirtual 230, 3), (140, .goto 7, 3), (143, .aload_n 0, 1), (144, .invokevirtual 214, 3), (147, .return_, 1)]
set_option maxRecDepth 20000 in
theorem dt_X11_readPart : ∀ q ∈ dl_X11_readPart, decode prog_13_method_56_code q.1 = .ok q.2 := by decide +kernel
def j_X11_readPart_143 (rc : Nat → Int32 → Hp → Option (Unit × Hp))   (h : Hp) : Option (Unit × Hp) :=
  (f_X11_faults  h).bind fun v11 =>
  some ((), v11.2)
set_option maxRecDepth 20000 in
theorem wj_X11_readPart_143 (rc : Nat → Int32 → Hp → Option (Unit × Hp)) {D0 : Nat} (hD0 : 10 ≤ D0) (hrc : RC_B rc D0) {X : Xt} (C : Cx X cn_11 prog_13_method_56_code 3 none (D0 + 1) 0 0)     (h : Hp) (q : (Unit × Hp)) (hrun : j_X11_readPart_143 rc   h = some q) (K : EndQ X 0 0 none q.2) : G X h 0 0 143 [(0, .ref 81)] [] := by
  unfold j_X11_readPart_143 at hrun
  refine g_aload_n C (dat dt_X11_readPart 73 rfl) 0 rfl ?_
  obtain ⟨v11, q12, hrun⟩ := bd hrun
  refine g_cVv [] C (dat dt_X11_readPart 74 rfl) ml_11_214 (w_X11_faults  h v11  q12) kd_81 ltk_81 rfl rfl cat0 (by have hGD : GD = 60 := rfl; omega) c00 ?_
  cases hrun
  exact g_vret C K (dat dt_X11_readPart 75 rfl)
def j_X11_readPart_134 (rc : Nat → Int32 → Hp → Option (Unit × Hp))   (h : Hp) : Option (Unit × Hp) :=
  (f_X11_mustNumber (0 : Int32) (5 : Int32) h).bind fun v18 =>
  some ((), v18.2)
set_option maxRecDepth 20000 in
theorem wj_X11_readPart_134 (rc : Nat → Int32 → Hp → Option (Unit × Hp)) {D0 : Nat} (hD0 : 10 ≤ D0) (hrc : RC_B rc D0) {X : Xt} (C : Cx X cn_11 prog_13_method_56_code 3 none (D0 + 1) 0 0)     (h : Hp) (q : (Unit × Hp)) (hrun : j_X11_readPart_134 rc   h = some q) (K : EndQ X 0 0 none q.2) : G X h 0 0 134 [(0, .ref 81)] [] := by
  unfold j_X11_readPart_134 at hrun
  refine g_aload_n C (dat dt_X11_readPart 68 rfl) 0 rfl ?_
  refine g_iconst C (dat dt_X11_readPart 69 rfl) ic_0 ?_
  refine g_iconst C (dat dt_X11_readPart 70 rfl) ic_5 ?_
  obtain ⟨v18, q19, hrun⟩ := bd hrun
  refine g_cVv [.int (0 : Int32), .int (5 : Int32)] C (dat dt_X11_readPart 71 rfl) ml_11_230 (w_X11_mustNumber (0 : Int32) (5 : Int32) h v18  q19) kd_81 ltk_81 rfl rfl cat0 (by have hGD : GD = 60 := rfl; omega) c00 ?_
  refine g_goto 147 C (dat dt_X11_readPart 72 rfl) (by decide) ?_
  cases hrun
  exact g_vret C K (dat dt_X11_readPart 75 rfl)
def j_X11_readPart_111 (rc : Nat → Int32 → Hp → Option (Unit × Hp))  (x2 : Int32) (h : Hp) : Option (Unit × Hp) :=
  (f_X11_leaf  h).bind fun v14 =>
  if (fI v14.2 81 10) = 0 then
  some ((), v14.2)
  else
  if x2 = (14 : Int32) then
  j_X11_readPart_134 rc   v14.2
  else
  if x2 = (20 : Int32) then
  j_X11_readPart_134 rc   v14.2
  else
  some ((), v14.2)
set_option maxRecDepth 20000 in
theorem wj_X11_readPart_111 (rc : Nat → Int32 → Hp → Option (Unit × Hp)) {D0 : Nat} (hD0 : 10 ≤ D0) (hrc : RC_B rc D0) {X : Xt} (C : Cx X cn_11 prog_13_method_56_code 3 none (D0 + 1) 0 0)    (x2 : Int32) (h : Hp) (q : (Unit × Hp)) (hrun : j_X11_readPart_111 rc  x2 h = some q) (K : EndQ X 0 0 none q.2) : G X h 0 0 111 [(0, .ref 81), (2, .int x2)] [] := by
  unfold j_X11_readPart_111 at hrun
  refine g_aload_n C (dat dt_X11_readPart 57 rfl) 0 rfl ?_
  obtain ⟨v14, q15, hrun⟩ := bd hrun
  refine g_cVv [] C (dat dt_X11_readPart 58 rfl) ml_11_266 (w_X11_leaf  h v14  q15) kd_81 ltk_81 rfl rfl cat0 (by have hGD : GD = 60 := rfl; omega) c00 ?_
  refine g_aload_n C (dat dt_X11_readPart 59 rfl) 0 rfl ?_
  refine g_getI C (dat dt_X11_readPart 60 rfl) fl_11_234 kd_81 rfl ltk_81 ?_
  refine g_if_eq 147 C (dat dt_X11_readPart 61 rfl) (by decide) (fun c16 => ?_) (fun c16 => ?_)
  · rw [if_pos c16] at hrun
    cases hrun
    exact g_vret C K (dat dt_X11_readPart 75 rfl)
  · rw [if_neg c16] at hrun
    refine g_iload_n C (dat dt_X11_readPart 62 rfl) 1 rfl ?_
    refine g_bipush C (dat dt_X11_readPart 63 rfl) bp_14 ?_
    refine g_ic_eq 134 C (dat dt_X11_readPart 64 rfl) (by decide) (fun c17 => ?_) (fun c17 => ?_)
    · rw [if_pos c17] at hrun
      refine g_sub [0] (lv' := [(0, .ref 81)]) rfl ?_
      exact wj_X11_readPart_134 rc hD0 hrc C     v14.2 _ hrun K
    · rw [if_neg c17] at hrun
      refine g_iload_n C (dat dt_X11_readPart 65 rfl) 1 rfl ?_
      refine g_bipush C (dat dt_X11_readPart 66 rfl) bp_20 ?_
      refine g_ic_ne 147 C (dat dt_X11_readPart 67 rfl) (by decide) (fun c20 => ?_) (fun c20 => ?_)
      · rw [if_neg c20] at hrun
        cases hrun
        exact g_vret C K (dat dt_X11_readPart 75 rfl)
      · rw [if_pos c20] at hrun
        refine g_sub [0] (lv' := [(0, .ref 81)]) rfl ?_
        exact wj_X11_readPart_134 rc hD0 hrc C     v14.2 _ hrun K
def j_X11_readPart_95 (rc : Nat → Int32 → Hp → Option (Unit × Hp))  (x2 : Int32) (h : Hp) : Option (Unit × Hp) :=
  if x2 < (fI h 81 8) then
  j_X11_readPart_143 rc   h
  else
  if (fI h 81 9) < x2 then
  j_X11_readPart_143 rc   h
  else
  j_X11_readPart_111 rc  x2 h
set_option maxRecDepth 20000 in
theorem wj_X11_readPart_95 (rc : Nat → Int32 → Hp → Option (Unit × Hp)) {D0 : Nat} (hD0 : 10 ≤ D0) (hrc : RC_B rc D0) {X : Xt} (C : Cx X cn_11 prog_13_method_56_code 3 none (D0 + 1) 0 0)    (x2 : Int32) (h : Hp) (q : (Unit × Hp)) (hrun : j_X11_readPart_95 rc  x2 h = some q) (K : EndQ X 0 0 none q.2) : G X h 0 0 95 [(0, .ref 81), (2, .int x2)] [] := by
  unfold j_X11_readPart_95 at hrun
  refine g_iload_n C (dat dt_X11_readPart 49 rfl) 1 rfl ?_
  refine g_aload_n C (dat dt_X11_readPart 50 rfl) 0 rfl ?_
  refine g_getI C (dat dt_X11_readPart 51 rfl) fl_11_260 kd_81 rfl ltk_81 ?_
  refine g_ic_lt 143 C (dat dt_X11_readPart 52 rfl) (by decide) (fun c10 => ?_) (fun c10 => ?_)
  · rw [if_pos c10] at hrun
    refine g_sub [0] (lv' := [(0, .ref 81)]) rfl ?_
    exact wj_X11_readPart_143 rc hD0 hrc C     h _ hrun K
  · rw [if_neg c10] at hrun
    refine g_iload_n C (dat dt_X11_readPart 53 rfl) 1 rfl ?_
    refine g_aload_n C (dat dt_X11_readPart 54 rfl) 0 rfl ?_
    refine g_getI C (dat dt_X11_readPart 55 rfl) fl_11_263 kd_81 rfl ltk_81 ?_
    refine g_ic_gt 143 C (dat dt_X11_readPart 56 rfl) (by decide) (fun c13 => ?_) (fun c13 => ?_)
    · rw [if_pos c13] at hrun
      refine g_sub [0] (lv' := [(0, .ref 81)]) rfl ?_
      exact wj_X11_readPart_143 rc hD0 hrc C     h _ hrun K
    · rw [if_neg c13] at hrun
      exact wj_X11_readPart_111 rc hD0 hrc C    x2 h _ hrun K
def j_X11_readPart_37 (rc : Nat → Int32 → Hp → Option (Unit × Hp))  (x1 : Int32) (h : Hp) : Option (Unit × Hp) :=
  (f_X11_fine  h).bind fun v25 =>
  if v25 = true then
  (rc 3 (x1 + (1 : Int32)) (sF h 81 19 ((fI h 81 19) + (1 : Int32)))).bind fun v28 =>
  (f_X11_sign (93 : Int32)).bind fun v30 =>
  (f_X11_must v30 v28.2).bind fun v32 =>
  some ((), v32.2)
  else
  some ((), h)
set_option maxRecDepth 20000 in
theorem wj_X11_readPart_37 (rc : Nat → Int32 → Hp → Option (Unit × Hp)) {D0 : Nat} (hD0 : 10 ≤ D0) (hrc : RC_B rc D0) {X : Xt} (C : Cx X cn_11 prog_13_method_56_code 3 none (D0 + 1) 0 0)    (x1 : Int32) (h : Hp) (q : (Unit × Hp)) (hrun : j_X11_readPart_37 rc  x1 h = some q) (K : EndQ X 0 0 none q.2) : G X h 0 0 37 [(0, .ref 81), (1, .int x1)] [] := by
  unfold j_X11_readPart_37 at hrun
  refine g_aload_n C (dat dt_X11_readPart 19 rfl) 0 rfl ?_
  obtain ⟨v25, q26, hrun⟩ := bd hrun
  refine g_cVi [] C (dat dt_X11_readPart 20 rfl) ml_11_204 (w_X11_fine  h v25  q26) kd_81 ltk_81 rfl rfl cat0 (by have hGD : GD = 60 := rfl; omega) c00 ?_
  refine g_if_ne 45 C (dat dt_X11_readPart 21 rfl) (by decide) (fun c27 => ?_) (fun c27 => ?_)
  · rw [if_pos (b2i_nz c27)] at hrun
    refine g_aload_n C (dat dt_X11_readPart 23 rfl) 0 rfl ?_
    refine g_dup C (dat dt_X11_readPart 24 rfl) rfl ?_
    refine g_getI C (dat dt_X11_readPart 25 rfl) fl_11_208 kd_81 rfl ltk_81 ?_
    refine g_iconst C (dat dt_X11_readPart 26 rfl) ic_1 ?_
    refine g_iadd C (dat dt_X11_readPart 27 rfl) ?_
    refine g_putI C (dat dt_X11_readPart 28 rfl) fl_11_208 rfl rfl kd_81 rfl ltk_81 ?_
    refine g_aload_n C (dat dt_X11_readPart 29 rfl) 0 rfl ?_
    refine g_iload_n C (dat dt_X11_readPart 30 rfl) 1 rfl ?_
    refine g_iconst C (dat dt_X11_readPart 31 rfl) ic_1 ?_
    refine g_iadd C (dat dt_X11_readPart 32 rfl) ?_
    obtain ⟨v28, q29, hrun⟩ := bd hrun
    refine g_cVv [.int (x1 + (1 : Int32))] C (dat dt_X11_readPart 33 rfl) ml_11_220 (hrc.2.2.2.1 _ _ _ q29) kd_81 ltk_81 rfl rfl cat0 (Nat.le_refl _) c00 ?_
    refine g_aload_n C (dat dt_X11_readPart 34 rfl) 0 rfl ?_
    refine g_bipush C (dat dt_X11_readPart 35 rfl) bp_93 ?_
    obtain ⟨v30, q31, hrun⟩ := bd hrun
    refine g_cSi [.int (93 : Int32)] C (dat dt_X11_readPart 36 rfl) ml_11_250 (w_X11_sign (93 : Int32) v28.2 v30  q31) rfl rfl (Nat.le_of_ble_eq_true rfl) (by have hGD : GD = 60 := rfl; omega) c00 ?_
    obtain ⟨v32, q33, hrun⟩ := bd hrun
    refine g_cVv [.int v30] C (dat dt_X11_readPart 37 rfl) ml_11_224 (w_X11_must v30 v28.2 v32  q33) kd_81 ltk_81 rfl rfl cat0 (by have hGD : GD = 60 := rfl; omega) c00 ?_
    refine g_goto 147 C (dat dt_X11_readPart 38 rfl) (by decide) ?_
    cases hrun
    exact g_vret C K (dat dt_X11_readPart 75 rfl)
  · rw [if_neg (b2i_z c27)] at hrun
    cases hrun
    exact g_vret C K (dat dt_X11_readPart 22 rfl)
def f_X11_readPart (rc : Nat → Int32 → Hp → Option (Unit × Hp)) (x1 : Int32) (h : Hp) : Option (Unit × Hp) :=
  (f_X11_fine  h).bind fun v1 =>
  if v1 = true then
  (inb (fI h 81 19) 401).bind fun j4 =>
  (f_X11_sign (91 : Int32)).bind fun v6 =>
  if (aI h 90 j4) = v6 then
  if x1 = (8 : Int32) then
  (f_X11_faults  h).bind fun v34 =>
  j_X11_readPart_37 rc  x1 v34.2
  else
  j_X11_readPart_37 rc  x1 h
  else
  if (aI h 90 j4) = (50 : Int32) then
  (inb (fI h 81 19) 401).bind fun j21 =>
  if (aI h 91 j21) ≤ (1000 : Int32) then
  j_X11_readPart_111 rc  (aI h 90 j4) h
  else
  j_X11_readPart_95 rc  (aI h 90 j4) h
  else
  j_X11_readPart_95 rc  (aI h 90 j4) h
  else
  some ((), h)
set_option maxRecDepth 20000 in
theorem w_X11_readPart (rc : Nat → Int32 → Hp → Option (Unit × Hp)) {D0 : Nat} (hD0 : 10 ≤ D0) (hrc : RC_B rc D0) (x1 : Int32) (h : Hp) (q : (Unit × Hp))  (hrun : f_X11_readPart rc x1 h = some q) : MetA ⟨"SteamNationsModel", "readPart", "(I)V"⟩ prog_13_method_56_code 3 none (D0 + 1) 0 0 [.ref 81, .int x1] h none q.2 := by
  refine metA_of (by decide) (Nat.le_of_ble_eq_true rfl) (fun X C K => ?_)
  have C : Cx X cn_11 prog_13_method_56_code 3 none (D0 + 1) 0 0 := C
  show G X h 0 0 0 [(0, .ref 81), (1, .int x1)] []
  unfold f_X11_readPart at hrun
  refine g_aload_n C (dat dt_X11_readPart 0 rfl) 0 rfl ?_
  obtain ⟨v1, q2, hrun⟩ := bd hrun
  refine g_cVi [] C (dat dt_X11_readPart 1 rfl) ml_11_204 (w_X11_fine  h v1  q2) kd_81 ltk_81 rfl rfl cat0 (by have hGD : GD = 60 := rfl; omega) c00 ?_
  refine g_if_ne 8 C (dat dt_X11_readPart 2 rfl) (by decide) (fun c3 => ?_) (fun c3 => ?_)
  · rw [if_pos (b2i_nz c3)] at hrun
    refine g_aload_n C (dat dt_X11_readPart 4 rfl) 0 rfl ?_
    refine g_getR C (dat dt_X11_readPart 5 rfl) fl_11_54 kd_81 rfl ltk_81 ?_
    refine g_aload_n C (dat dt_X11_readPart 6 rfl) 0 rfl ?_
    refine g_getI C (dat dt_X11_readPart 7 rfl) fl_11_208 kd_81 rfl ltk_81 ?_
    obtain ⟨j4, q5, hrun⟩ := bd hrun
    refine g_iald C (dat dt_X11_readPart 8 rfl) kd_90 ltk_90 q5 ?_
    refine g_istore_n (lv' := [(0, .ref 81), (1, .int x1), (2, .int (aI h 90 j4))]) C (dat dt_X11_readPart 9 rfl) (by decide) rfl ?_
    refine g_iload_n C (dat dt_X11_readPart 10 rfl) 2 rfl ?_
    refine g_bipush C (dat dt_X11_readPart 11 rfl) bp_91 ?_
    obtain ⟨v6, q7, hrun⟩ := bd hrun
    refine g_cSi [.int (91 : Int32)] C (dat dt_X11_readPart 12 rfl) ml_11_250 (w_X11_sign (91 : Int32) h v6  q7) rfl rfl (Nat.le_of_ble_eq_true rfl) (by have hGD : GD = 60 := rfl; omega) c00 ?_
    refine g_ic_ne 74 C (dat dt_X11_readPart 13 rfl) (by decide) (fun c8 => ?_) (fun c8 => ?_)
    · rw [if_neg c8] at hrun
      refine g_iload_n C (dat dt_X11_readPart 39 rfl) 2 rfl ?_
      refine g_bipush C (dat dt_X11_readPart 40 rfl) bp_50 ?_
      refine g_ic_ne 95 C (dat dt_X11_readPart 41 rfl) (by decide) (fun c9 => ?_) (fun c9 => ?_)
      · rw [if_neg c9] at hrun
        refine g_sub [0, 2] (lv' := [(0, .ref 81), (2, .int (aI h 90 j4))]) rfl ?_
        exact wj_X11_readPart_95 rc hD0 hrc C    (aI h 90 j4) h _ hrun K
      · rw [if_pos c9] at hrun
        refine g_aload_n C (dat dt_X11_readPart 42 rfl) 0 rfl ?_
        refine g_getR C (dat dt_X11_readPart 43 rfl) fl_11_57 kd_81 rfl ltk_81 ?_
        refine g_aload_n C (dat dt_X11_readPart 44 rfl) 0 rfl ?_
        refine g_getI C (dat dt_X11_readPart 45 rfl) fl_11_208 kd_81 rfl ltk_81 ?_
        obtain ⟨j21, q22, hrun⟩ := bd hrun
        refine g_iald C (dat dt_X11_readPart 46 rfl) kd_91 ltk_91 q22 ?_
        refine g_sipush C (dat dt_X11_readPart 47 rfl) sp_1000 ?_
        refine g_ic_le 111 C (dat dt_X11_readPart 48 rfl) (by decide) (fun c23 => ?_) (fun c23 => ?_)
        · rw [if_pos c23] at hrun
          refine g_sub [0, 2] (lv' := [(0, .ref 81), (2, .int (aI h 90 j4))]) rfl ?_
          exact wj_X11_readPart_111 rc hD0 hrc C    (aI h 90 j4) h _ hrun K
        · rw [if_neg c23] at hrun
          refine g_sub [0, 2] (lv' := [(0, .ref 81), (2, .int (aI h 90 j4))]) rfl ?_
          exact wj_X11_readPart_95 rc hD0 hrc C    (aI h 90 j4) h _ hrun K
    · rw [if_pos c8] at hrun
      refine g_iload_n C (dat dt_X11_readPart 14 rfl) 1 rfl ?_
      refine g_bipush C (dat dt_X11_readPart 15 rfl) bp_8 ?_
      refine g_ic_ne 37 C (dat dt_X11_readPart 16 rfl) (by decide) (fun c24 => ?_) (fun c24 => ?_)
      · rw [if_neg c24] at hrun
        refine g_sub [0, 1] (lv' := [(0, .ref 81), (1, .int x1)]) rfl ?_
        exact wj_X11_readPart_37 rc hD0 hrc C    x1 h _ hrun K
      · rw [if_pos c24] at hrun
        refine g_aload_n C (dat dt_X11_readPart 17 rfl) 0 rfl ?_
        obtain ⟨v34, q35, hrun⟩ := bd hrun
        refine g_cVv [] C (dat dt_X11_readPart 18 rfl) ml_11_214 (w_X11_faults  h v34  q35) kd_81 ltk_81 rfl rfl cat0 (by have hGD : GD = 60 := rfl; omega) c00 ?_
        refine g_sub [0, 1] (lv' := [(0, .ref 81), (1, .int x1)]) rfl ?_
        exact wj_X11_readPart_37 rc hD0 hrc C    x1 v34.2 _ hrun K
  · rw [if_neg (b2i_z c3)] at hrun
    cases hrun
    exact g_vret C K (dat dt_X11_readPart 3 rfl)
def gr_B : Nat → Nat → Int32 → Hp → Option (Unit × Hp)
  | 0, _, _, _ => none
  | d + 1, k, x, h => if k = 0 then f_X11_readTest (gr_B d) x h else if k = 1 then f_X11_readBoth (gr_B d) x h else if k = 2 then f_X11_readPlain (gr_B d) x h else if k = 3 then f_X11_readSum (gr_B d) x h else if k = 4 then f_X11_readTerm (gr_B d) x h else if k = 5 then f_X11_readPart (gr_B d) x h else none
theorem w_gr_B : ∀ d, RC_B (gr_B d) (10 + d)
  | 0 => ⟨fun x h q hq => (by cases hq), fun x h q hq => (by cases hq), fun x h q hq => (by cases hq), fun x h q hq => (by cases hq), fun x h q hq => (by cases hq), fun x h q hq => (by cases hq)⟩
  | d + 1 => by
    have ih := w_gr_B d
    refine ⟨?_, ?_, ?_, ?_, ?_, ?_⟩
    · intro x h q hq
      unfold gr_B at hq
      rw [if_pos rfl] at hq
      exact w_X11_readTest _ (by omega) ih x h q hq
    · intro x h q hq
      unfold gr_B at hq
      rw [if_neg (by decide)] at hq
      rw [if_pos rfl] at hq
      exact w_X11_readBoth _ (by omega) ih x h q hq
    · intro x h q hq
      unfold gr_B at hq
      rw [if_neg (by decide)] at hq
      rw [if_neg (by decide)] at hq
      rw [if_pos rfl] at hq
      exact w_X11_readPlain _ (by omega) ih x h q hq
    · intro x h q hq
      unfold gr_B at hq
      rw [if_neg (by decide)] at hq
      rw [if_neg (by decide)] at hq
      rw [if_neg (by decide)] at hq
      rw [if_pos rfl] at hq
      exact w_X11_readSum _ (by omega) ih x h q hq
    · intro x h q hq
      unfold gr_B at hq
      rw [if_neg (by decide)] at hq
      rw [if_neg (by decide)] at hq
      rw [if_neg (by decide)] at hq
      rw [if_neg (by decide)] at hq
      rw [if_pos rfl] at hq
      exact w_X11_readTerm _ (by omega) ih x h q hq
    · intro x h q hq
      unfold gr_B at hq
      rw [if_neg (by decide)] at hq
      rw [if_neg (by decide)] at hq
      rw [if_neg (by decide)] at hq
      rw [if_neg (by decide)] at hq
      rw [if_neg (by decide)] at hq
      rw [if_pos rfl] at hq
      exact w_X11_readPart _ (by omega) ih x h q hq
