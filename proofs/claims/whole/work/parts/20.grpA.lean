def RC_A (rc : Nat → Int32 → Hp → Option (Bool × Hp)) (D0 : Nat) : Prop := (∀ x h q, rc 0 x h = some q → MetA ⟨"SteamNations$Reader", "readTest", "(I)Z"⟩ prog_7_method_12_code 5 (some .boolean) D0 0 0 [.ref 4, .int x] h (some (.int (b2i q.1))) q.2) ∧ (∀ x h q, rc 1 x h = some q → MetA ⟨"SteamNations$Reader", "readBoth", "(I)Z"⟩ prog_7_method_13_code 5 (some .boolean) D0 0 0 [.ref 4, .int x] h (some (.int (b2i q.1))) q.2) ∧ (∀ x h q, rc 2 x h = some q → MetA ⟨"SteamNations$Reader", "readPlain", "(I)Z"⟩ prog_7_method_14_code 4 (some .boolean) D0 0 0 [.ref 4, .int x] h (some (.int (b2i q.1))) q.2) ∧ (∀ x h q, rc 3 x h = some q → MetA ⟨"SteamNations$Reader", "readComparison", "(I)Z"⟩ prog_7_method_15_code 4 (some .boolean) D0 0 0 [.ref 4, .int x] h (some (.int (b2i q.1))) q.2) ∧ (∀ x h q, rc 4 x h = some q → MetA ⟨"SteamNations$Reader", "readSum", "(I)Z"⟩ prog_7_method_16_code 5 (some .boolean) D0 0 0 [.ref 4, .int x] h (some (.int (b2i q.1))) q.2) ∧ (∀ x h q, rc 5 x h = some q → MetA ⟨"SteamNations$Reader", "readTerm", "(I)Z"⟩ prog_7_method_17_code 5 (some .boolean) D0 0 0 [.ref 4, .int x] h (some (.int (b2i q.1))) q.2) ∧ (∀ x h q, rc 6 x h = some q → MetA ⟨"SteamNations$Reader", "readPart", "(I)Z"⟩ prog_7_method_18_code 3 (some .boolean) D0 0 0 [.ref 4, .int x] h (some (.int (b2i q.1))) q.2)
/-! SteamNations$Reader.readTest(I)Z -/
def dl_X5_readTest : List (Nat × Instr × Nat) := [(0, .aload_n 0, 1), (1, .iload_n 1, 1), (2, .invokevirtual 135, 3), (5, .istore_n 2, 1), (6, .iconst 0, 1), (7, .istore_n 3, 1), (8, .iload_n 3, 1), (9, .sipush 400, 3), (12, .if_icmp .ge 43, 3), (15, .iload_n 2, 1), (16, .ifCond .eq 39, 3), (19, .aload_n 0, 1), (20, .bipush 24, 2), (22, .invokevirtual 123, 3), (25, .ifCond .eq 30, 3), (28, .aload_n 0, 1), (29, .bipush 12, 2), (31, .iconst 0, 1), (32, .invokevirtual 138, 3), (35, .istore 4, 2), (37, .aload_n 0, 1), (38, .iload_n 1, 1), (39, .invokevirtual 135, 3), (42, .istore_n 2, 1), (43, .aload_n 0, 1), (44, .iload 4, 2), (46, .invokevirtual 141, 3), (49, .iinc 3 1, 3), (52, .goto (-44), 3), (55, .iload_n 2, 1), (56, .ireturn, 1)]
set_option maxRecDepth 20000 in
theorem dt_X5_readTest : ∀ q ∈ dl_X5_readTest, decode prog_7_method_12_code q.1 = .ok q.2 := by decide +kernel
def kp_X5_readTest_8  (x1 : Int32) (X : Xt) (s : (Int32 × Int32 × Hp)) : Prop := G X s.2.2 0 0 8 [(0, .ref 4), (1, .int x1), (2, .int s.1), (3, .int s.2.1)] []
def ke_X5_readTest_8  (x1 : Int32) (X : Xt) (e : (Int32 × Hp)) : Prop := G X e.2 0 0 55 [(2, .int e.1)] []
def b_X5_readTest_8 (rc : Nat → Int32 → Hp → Option (Bool × Hp))  (x1 : Int32) (x2 : Int32) (x3 : Int32) (h : Hp) : Option ((Int32 × Int32 × Hp) ⊕ (Int32 × Hp)) :=
  if (400 : Int32) ≤ x3 then
  some (.inr ( (x2, h)))
  else
  if x2 = 0 then
  some (.inr ( (x2, h)))
  else
  (f_X5_takeIf (24 : Int32) h).bind fun v5 =>
  if v5.1 = true then
  (f_X5_put (12 : Int32) (0 : Int32) v5.2).bind fun v8 =>
  (rc 1 x1 v8.2).bind fun v10 =>
  (f_X5_land v8.1 v10.2).bind fun v12 =>
  some (.inl ((b2i v10.1), (x3 + (1 : Int32)), v12.2))
  else
  some (.inr ( (x2, v5.2)))
set_option maxRecDepth 20000 in
theorem wb_X5_readTest_8 (rc : Nat → Int32 → Hp → Option (Bool × Hp)) {D0 : Nat} (hD0 : 10 ≤ D0) (hrc : RC_A rc D0) {X : Xt} (C : Cx X cn_5 prog_7_method_12_code 5 (some .boolean) (D0 + 1) 0 0)   (x1 : Int32) (x2 : Int32) (x3 : Int32) (h : Hp) (q : (Int32 × Int32 × Hp) ⊕ (Int32 × Hp)) (hrun : b_X5_readTest_8 rc  x1 x2 x3 h = some q) (Ks : ∀ s, q = .inl s → kp_X5_readTest_8  x1 X s) (Ke : ∀ e, q = .inr e → ke_X5_readTest_8  x1 X e) : kp_X5_readTest_8  x1 X (x2, x3, h) := by
  show G X h 0 0 8 [(0, .ref 4), (1, .int x1), (2, .int x2), (3, .int x3)] []
  unfold b_X5_readTest_8 at hrun
  refine g_iload_n C (dat dt_X5_readTest 6 rfl) 3 rfl ?_
  refine g_sipush C (dat dt_X5_readTest 7 rfl) sp_400 ?_
  refine g_ic_ge 55 C (dat dt_X5_readTest 8 rfl) (by decide) (fun c3 => ?_) (fun c3 => ?_)
  · rw [if_pos c3] at hrun
    refine g_sub [2] (lv' := [(2, .int x2)]) rfl ?_
    cases hrun
    exact Ke ( (x2, h)) rfl
  · rw [if_neg c3] at hrun
    refine g_iload_n C (dat dt_X5_readTest 9 rfl) 2 rfl ?_
    refine g_if_eq 55 C (dat dt_X5_readTest 10 rfl) (by decide) (fun c4 => ?_) (fun c4 => ?_)
    · rw [if_pos c4] at hrun
      refine g_sub [2] (lv' := [(2, .int x2)]) rfl ?_
      cases hrun
      exact Ke ( (x2, h)) rfl
    · rw [if_neg c4] at hrun
      refine g_aload_n C (dat dt_X5_readTest 11 rfl) 0 rfl ?_
      refine g_bipush C (dat dt_X5_readTest 12 rfl) bp_24 ?_
      obtain ⟨v5, q6, hrun⟩ := bd hrun
      refine g_cVi [.int (24 : Int32)] C (dat dt_X5_readTest 13 rfl) ml_5_123 (w_X5_takeIf (24 : Int32) h v5  q6) kd_4 ltk_4 rfl rfl cat0 (by have hGD : GD = 60 := rfl; omega) c00 ?_
      refine g_if_eq 55 C (dat dt_X5_readTest 14 rfl) (by decide) (fun c7 => ?_) (fun c7 => ?_)
      · rw [if_neg (b2i_z c7)] at hrun
        refine g_sub [2] (lv' := [(2, .int x2)]) rfl ?_
        cases hrun
        exact Ke ( (x2, v5.2)) rfl
      · rw [if_pos (b2i_nz c7)] at hrun
        refine g_aload_n C (dat dt_X5_readTest 15 rfl) 0 rfl ?_
        refine g_bipush C (dat dt_X5_readTest 16 rfl) bp_12 ?_
        refine g_iconst C (dat dt_X5_readTest 17 rfl) ic_0 ?_
        obtain ⟨v8, q9, hrun⟩ := bd hrun
        refine g_cVi [.int (12 : Int32), .int (0 : Int32)] C (dat dt_X5_readTest 18 rfl) ml_5_138 (w_X5_put (12 : Int32) (0 : Int32) v5.2 v8  q9) kd_4 ltk_4 rfl rfl cat0 (by have hGD : GD = 60 := rfl; omega) c00 ?_
        refine g_istore (lv' := [(0, .ref 4), (1, .int x1), (2, .int x2), (3, .int x3), (4, .int v8.1)]) C (dat dt_X5_readTest 19 rfl) (by decide) rfl ?_
        refine g_aload_n C (dat dt_X5_readTest 20 rfl) 0 rfl ?_
        refine g_iload_n C (dat dt_X5_readTest 21 rfl) 1 rfl ?_
        obtain ⟨v10, q11, hrun⟩ := bd hrun
        refine g_cVi [.int x1] C (dat dt_X5_readTest 22 rfl) ml_5_135 (hrc.2.1 _ _ _ q11) kd_4 ltk_4 rfl rfl cat0 (Nat.le_refl _) c00 ?_
        refine g_istore_n (lv' := [(0, .ref 4), (1, .int x1), (2, .int (b2i v10.1)), (3, .int x3), (4, .int v8.1)]) C (dat dt_X5_readTest 23 rfl) (by decide) rfl ?_
        refine g_aload_n C (dat dt_X5_readTest 24 rfl) 0 rfl ?_
        refine g_iload C (dat dt_X5_readTest 25 rfl) 4 rfl ?_
        obtain ⟨v12, q13, hrun⟩ := bd hrun
        refine g_cVv [.int v8.1] C (dat dt_X5_readTest 26 rfl) ml_5_141 (w_X5_land v8.1 v10.2 v12  q13) kd_4 ltk_4 rfl rfl cat0 (by have hGD : GD = 60 := rfl; omega) c00 ?_
        refine g_iinc (v := (x3 + (1 : Int32))) (lv' := [(0, .ref 4), (1, .int x1), (2, .int (b2i v10.1)), (3, .int (x3 + (1 : Int32))), (4, .int v8.1)]) C (dat dt_X5_readTest 27 rfl) 3 rfl (congrArg (fun z => x3 + z) ic_1) (by decide) rfl ?_
        refine g_goto 8 C (dat dt_X5_readTest 28 rfl) (by decide) ?_
        refine g_sub [0, 1, 2, 3] (lv' := [(0, .ref 4), (1, .int x1), (2, .int (b2i v10.1)), (3, .int (x3 + (1 : Int32)))]) rfl ?_
        cases hrun
        exact Ks ((b2i v10.1), (x3 + (1 : Int32)), v12.2) rfl
def f_X5_readTest (rc : Nat → Int32 → Hp → Option (Bool × Hp)) (x1 : Int32) (h : Hp) : Option (Bool × Hp) :=
  (rc 1 x1 h).bind fun v1 =>
  (lp (fun s => b_X5_readTest_8 rc  x1 s.1 s.2.1 s.2.2) FU ((b2i v1.1), (0 : Int32), v1.2)).bind fun e14 =>
  (i2b e14.1).bind fun b16 => some (b16, e14.2)
set_option maxRecDepth 20000 in
theorem w_X5_readTest (rc : Nat → Int32 → Hp → Option (Bool × Hp)) {D0 : Nat} (hD0 : 10 ≤ D0) (hrc : RC_A rc D0) (x1 : Int32) (h : Hp) (q : (Bool × Hp))  (hrun : f_X5_readTest rc x1 h = some q) : MetA ⟨"SteamNations$Reader", "readTest", "(I)Z"⟩ prog_7_method_12_code 5 (some .boolean) (D0 + 1) 0 0 [.ref 4, .int x1] h (some (.int (b2i q.1))) q.2 := by
  refine metA_of (by decide) (Nat.le_of_ble_eq_true rfl) (fun X C K => ?_)
  have C : Cx X cn_5 prog_7_method_12_code 5 (some .boolean) (D0 + 1) 0 0 := C
  show G X h 0 0 0 [(0, .ref 4), (1, .int x1)] []
  unfold f_X5_readTest at hrun
  refine g_aload_n C (dat dt_X5_readTest 0 rfl) 0 rfl ?_
  refine g_iload_n C (dat dt_X5_readTest 1 rfl) 1 rfl ?_
  obtain ⟨v1, q2, hrun⟩ := bd hrun
  refine g_cVi [.int x1] C (dat dt_X5_readTest 2 rfl) ml_5_135 (hrc.2.1 _ _ _ q2) kd_4 ltk_4 rfl rfl cat0 (Nat.le_refl _) c00 ?_
  refine g_istore_n (lv' := [(0, .ref 4), (1, .int x1), (2, .int (b2i v1.1))]) C (dat dt_X5_readTest 3 rfl) (by decide) rfl ?_
  refine g_iconst C (dat dt_X5_readTest 4 rfl) ic_0 ?_
  refine g_istore_n (lv' := [(0, .ref 4), (1, .int x1), (2, .int (b2i v1.1)), (3, .int (0 : Int32))]) C (dat dt_X5_readTest 5 rfl) (by decide) rfl ?_
  obtain ⟨e14, q15, hrun⟩ := bd hrun
  refine lp_ind (P := fun s => kp_X5_readTest_8  x1 X s) (K := fun e => ke_X5_readTest_8  x1 X e) (fun s q hb Ks Ke => wb_X5_readTest_8 rc hD0 hrc C   x1 s.1 s.2.1 s.2.2 q hb Ks Ke) FU ((b2i v1.1), (0 : Int32), v1.2) e14 q15 ?_
  show G X e14.2 0 0 55 [(2, .int e14.1)] []
  refine g_iload_n C (dat dt_X5_readTest 29 rfl) 0 rfl ?_
  obtain ⟨b16, q17, hrun⟩ := bd hrun
  cases hrun
  exact g_zret C K (i2b_eq q17) (dat dt_X5_readTest 30 rfl)
/-! SteamNations$Reader.readBoth(I)Z -/
def dl_X5_readBoth : List (Nat × Instr × Nat) := [(0, .aload_n 0, 1), (1, .iload_n 1, 1), (2, .invokevirtual 145, 3), (5, .istore_n 2, 1), (6, .iconst 0, 1), (7, .istore_n 3, 1), (8, .iload_n 3, 1), (9, .sipush 400, 3), (12, .if_icmp .ge 43, 3), (15, .iload_n 2, 1), (16, .ifCond .eq 39, 3), (19, .aload_n 0, 1), (20, .bipush 25, 2), (22, .invokevirtual 123, 3), (25, .ifCond .eq 30, 3), (28, .aload_n 0, 1), (29, .bipush 11, 2), (31, .iconst 0, 1), (32, .invokevirtual 138, 3), (35, .istore 4, 2), (37, .aload_n 0, 1), (38, .iload_n 1, 1), (39, .invokevirtual 145, 3), (42, .istore_n 2, 1), (43, .aload_n 0, 1), (44, .iload 4, 2), (46, .invokevirtual 141, 3), (49, .iinc 3 1, 3), (52, .goto (-44), 3), (55, .iload_n 2, 1), (56, .ireturn, 1)]
set_option maxRecDepth 20000 in
theorem dt_X5_readBoth : ∀ q ∈ dl_X5_readBoth, decode prog_7_method_13_code q.1 = .ok q.2 := by decide +kernel
def kp_X5_readBoth_8  (x1 : Int32) (X : Xt) (s : (Int32 × Int32 × Hp)) : Prop := G X s.2.2 0 0 8 [(0, .ref 4), (1, .int x1), (2, .int s.1), (3, .int s.2.1)] []
def ke_X5_readBoth_8  (x1 : Int32) (X : Xt) (e : (Int32 × Hp)) : Prop := G X e.2 0 0 55 [(2, .int e.1)] []
def b_X5_readBoth_8 (rc : Nat → Int32 → Hp → Option (Bool × Hp))  (x1 : Int32) (x2 : Int32) (x3 : Int32) (h : Hp) : Option ((Int32 × Int32 × Hp) ⊕ (Int32 × Hp)) :=
  if (400 : Int32) ≤ x3 then
  some (.inr ( (x2, h)))
  else
  if x2 = 0 then
  some (.inr ( (x2, h)))
  else
  (f_X5_takeIf (25 : Int32) h).bind fun v5 =>
  if v5.1 = true then
  (f_X5_put (11 : Int32) (0 : Int32) v5.2).bind fun v8 =>
  (rc 2 x1 v8.2).bind fun v10 =>
  (f_X5_land v8.1 v10.2).bind fun v12 =>
  some (.inl ((b2i v10.1), (x3 + (1 : Int32)), v12.2))
  else
  some (.inr ( (x2, v5.2)))
set_option maxRecDepth 20000 in
theorem wb_X5_readBoth_8 (rc : Nat → Int32 → Hp → Option (Bool × Hp)) {D0 : Nat} (hD0 : 10 ≤ D0) (hrc : RC_A rc D0) {X : Xt} (C : Cx X cn_5 prog_7_method_13_code 5 (some .boolean) (D0 + 1) 0 0)   (x1 : Int32) (x2 : Int32) (x3 : Int32) (h : Hp) (q : (Int32 × Int32 × Hp) ⊕ (Int32 × Hp)) (hrun : b_X5_readBoth_8 rc  x1 x2 x3 h = some q) (Ks : ∀ s, q = .inl s → kp_X5_readBoth_8  x1 X s) (Ke : ∀ e, q = .inr e → ke_X5_readBoth_8  x1 X e) : kp_X5_readBoth_8  x1 X (x2, x3, h) := by
  show G X h 0 0 8 [(0, .ref 4), (1, .int x1), (2, .int x2), (3, .int x3)] []
  unfold b_X5_readBoth_8 at hrun
  refine g_iload_n C (dat dt_X5_readBoth 6 rfl) 3 rfl ?_
  refine g_sipush C (dat dt_X5_readBoth 7 rfl) sp_400 ?_
  refine g_ic_ge 55 C (dat dt_X5_readBoth 8 rfl) (by decide) (fun c3 => ?_) (fun c3 => ?_)
  · rw [if_pos c3] at hrun
    refine g_sub [2] (lv' := [(2, .int x2)]) rfl ?_
    cases hrun
    exact Ke ( (x2, h)) rfl
  · rw [if_neg c3] at hrun
    refine g_iload_n C (dat dt_X5_readBoth 9 rfl) 2 rfl ?_
    refine g_if_eq 55 C (dat dt_X5_readBoth 10 rfl) (by decide) (fun c4 => ?_) (fun c4 => ?_)
    · rw [if_pos c4] at hrun
      refine g_sub [2] (lv' := [(2, .int x2)]) rfl ?_
      cases hrun
      exact Ke ( (x2, h)) rfl
    · rw [if_neg c4] at hrun
      refine g_aload_n C (dat dt_X5_readBoth 11 rfl) 0 rfl ?_
      refine g_bipush C (dat dt_X5_readBoth 12 rfl) bp_25 ?_
      obtain ⟨v5, q6, hrun⟩ := bd hrun
      refine g_cVi [.int (25 : Int32)] C (dat dt_X5_readBoth 13 rfl) ml_5_123 (w_X5_takeIf (25 : Int32) h v5  q6) kd_4 ltk_4 rfl rfl cat0 (by have hGD : GD = 60 := rfl; omega) c00 ?_
      refine g_if_eq 55 C (dat dt_X5_readBoth 14 rfl) (by decide) (fun c7 => ?_) (fun c7 => ?_)
      · rw [if_neg (b2i_z c7)] at hrun
        refine g_sub [2] (lv' := [(2, .int x2)]) rfl ?_
        cases hrun
        exact Ke ( (x2, v5.2)) rfl
      · rw [if_pos (b2i_nz c7)] at hrun
        refine g_aload_n C (dat dt_X5_readBoth 15 rfl) 0 rfl ?_
        refine g_bipush C (dat dt_X5_readBoth 16 rfl) bp_11 ?_
        refine g_iconst C (dat dt_X5_readBoth 17 rfl) ic_0 ?_
        obtain ⟨v8, q9, hrun⟩ := bd hrun
        refine g_cVi [.int (11 : Int32), .int (0 : Int32)] C (dat dt_X5_readBoth 18 rfl) ml_5_138 (w_X5_put (11 : Int32) (0 : Int32) v5.2 v8  q9) kd_4 ltk_4 rfl rfl cat0 (by have hGD : GD = 60 := rfl; omega) c00 ?_
        refine g_istore (lv' := [(0, .ref 4), (1, .int x1), (2, .int x2), (3, .int x3), (4, .int v8.1)]) C (dat dt_X5_readBoth 19 rfl) (by decide) rfl ?_
        refine g_aload_n C (dat dt_X5_readBoth 20 rfl) 0 rfl ?_
        refine g_iload_n C (dat dt_X5_readBoth 21 rfl) 1 rfl ?_
        obtain ⟨v10, q11, hrun⟩ := bd hrun
        refine g_cVi [.int x1] C (dat dt_X5_readBoth 22 rfl) ml_5_145 (hrc.2.2.1 _ _ _ q11) kd_4 ltk_4 rfl rfl cat0 (Nat.le_refl _) c00 ?_
        refine g_istore_n (lv' := [(0, .ref 4), (1, .int x1), (2, .int (b2i v10.1)), (3, .int x3), (4, .int v8.1)]) C (dat dt_X5_readBoth 23 rfl) (by decide) rfl ?_
        refine g_aload_n C (dat dt_X5_readBoth 24 rfl) 0 rfl ?_
        refine g_iload C (dat dt_X5_readBoth 25 rfl) 4 rfl ?_
        obtain ⟨v12, q13, hrun⟩ := bd hrun
        refine g_cVv [.int v8.1] C (dat dt_X5_readBoth 26 rfl) ml_5_141 (w_X5_land v8.1 v10.2 v12  q13) kd_4 ltk_4 rfl rfl cat0 (by have hGD : GD = 60 := rfl; omega) c00 ?_
        refine g_iinc (v := (x3 + (1 : Int32))) (lv' := [(0, .ref 4), (1, .int x1), (2, .int (b2i v10.1)), (3, .int (x3 + (1 : Int32))), (4, .int v8.1)]) C (dat dt_X5_readBoth 27 rfl) 3 rfl (congrArg (fun z => x3 + z) ic_1) (by decide) rfl ?_
        refine g_goto 8 C (dat dt_X5_readBoth 28 rfl) (by decide) ?_
        refine g_sub [0, 1, 2, 3] (lv' := [(0, .ref 4), (1, .int x1), (2, .int (b2i v10.1)), (3, .int (x3 + (1 : Int32)))]) rfl ?_
        cases hrun
        exact Ks ((b2i v10.1), (x3 + (1 : Int32)), v12.2) rfl
def f_X5_readBoth (rc : Nat → Int32 → Hp → Option (Bool × Hp)) (x1 : Int32) (h : Hp) : Option (Bool × Hp) :=
  (rc 2 x1 h).bind fun v1 =>
  (lp (fun s => b_X5_readBoth_8 rc  x1 s.1 s.2.1 s.2.2) FU ((b2i v1.1), (0 : Int32), v1.2)).bind fun e14 =>
  (i2b e14.1).bind fun b16 => some (b16, e14.2)
set_option maxRecDepth 20000 in
theorem w_X5_readBoth (rc : Nat → Int32 → Hp → Option (Bool × Hp)) {D0 : Nat} (hD0 : 10 ≤ D0) (hrc : RC_A rc D0) (x1 : Int32) (h : Hp) (q : (Bool × Hp))  (hrun : f_X5_readBoth rc x1 h = some q) : MetA ⟨"SteamNations$Reader", "readBoth", "(I)Z"⟩ prog_7_method_13_code 5 (some .boolean) (D0 + 1) 0 0 [.ref 4, .int x1] h (some (.int (b2i q.1))) q.2 := by
  refine metA_of (by decide) (Nat.le_of_ble_eq_true rfl) (fun X C K => ?_)
  have C : Cx X cn_5 prog_7_method_13_code 5 (some .boolean) (D0 + 1) 0 0 := C
  show G X h 0 0 0 [(0, .ref 4), (1, .int x1)] []
  unfold f_X5_readBoth at hrun
  refine g_aload_n C (dat dt_X5_readBoth 0 rfl) 0 rfl ?_
  refine g_iload_n C (dat dt_X5_readBoth 1 rfl) 1 rfl ?_
  obtain ⟨v1, q2, hrun⟩ := bd hrun
  refine g_cVi [.int x1] C (dat dt_X5_readBoth 2 rfl) ml_5_145 (hrc.2.2.1 _ _ _ q2) kd_4 ltk_4 rfl rfl cat0 (Nat.le_refl _) c00 ?_
  refine g_istore_n (lv' := [(0, .ref 4), (1, .int x1), (2, .int (b2i v1.1))]) C (dat dt_X5_readBoth 3 rfl) (by decide) rfl ?_
  refine g_iconst C (dat dt_X5_readBoth 4 rfl) ic_0 ?_
  refine g_istore_n (lv' := [(0, .ref 4), (1, .int x1), (2, .int (b2i v1.1)), (3, .int (0 : Int32))]) C (dat dt_X5_readBoth 5 rfl) (by decide) rfl ?_
  obtain ⟨e14, q15, hrun⟩ := bd hrun
  refine lp_ind (P := fun s => kp_X5_readBoth_8  x1 X s) (K := fun e => ke_X5_readBoth_8  x1 X e) (fun s q hb Ks Ke => wb_X5_readBoth_8 rc hD0 hrc C   x1 s.1 s.2.1 s.2.2 q hb Ks Ke) FU ((b2i v1.1), (0 : Int32), v1.2) e14 q15 ?_
  show G X e14.2 0 0 55 [(2, .int e14.1)] []
  refine g_iload_n C (dat dt_X5_readBoth 29 rfl) 0 rfl ?_
  obtain ⟨b16, q17, hrun⟩ := bd hrun
  cases hrun
  exact g_zret C K (i2b_eq q17) (dat dt_X5_readBoth 30 rfl)
/-! SteamNations$Reader.readPlain(I)Z -/
def dl_X5_readPlain : List (Nat × Instr × Nat) := [(0, .iconst 0, 1), (1, .istore_n 2, 1), (2, .iconst 0, 1), (3, .istore_n 3, 1), (4, .iload_n 3, 1), (5, .sipush 400, 3), (8, .if_icmp .ge 28, 3), (11, .aload_n 0, 1), (12, .bipush 26, 2), (14, .invokevirtual 123, 3), (17, .ifCond .eq 19, 3), (20, .iload_n 2, 1), (21, .ifCond .ne 7, 3), (24, .iconst 1, 1), (25, .goto 4, 3), (28, .iconst 0, 1), (29, .istore_n 2, 1), (30, .iinc 3 1, 3), (33, .goto (-29), 3), (36, .aload_n 0, 1), (37, .bipush 40, 2), (39, .invokevirtual 148, 3), (42, .ifCond .eq 48, 3), (45, .aload_n 0, 1), (46, .iload_n 1, 1), (47, .invokevirtual 151, 3), (50, .ifCond .eq 35, 3), (53, .aload_n 0, 1), (54, .bipush 40, 2), (56, .invokevirtual 83, 3), (59, .ifCond .eq 26, 3), (62, .aload_n 0, 1), (63, .iload_n 1, 1), (64, .iconst 1, 1), (65, .iadd, 1), (66, .invokevirtual 132, 3), (69, .ifCond .eq 16, 3), (72, .aload_n 0, 1), (73, .bipush 41, 2), (75, .invokevirtual 83, 3), (78, .ifCond .eq 7, 3), (81, .iconst 1, 1), (82, .goto 4, 3), (85, .iconst 0, 1), (86, .istore_n 3, 1), (87, .goto 9, 3), (90, .aload_n 0, 1), (91, .iload_n 1, 1), (92, .invokevirtual 154, 3), (95, .istore_n 3, 1), (96, .iload_n 2, 1), (97, .ifCond .eq 11, 3), (100, .aload_n 0, 1), (101, .bipush 10, 2), (103, .iconst 0, 1), (104, .invokevirtual 138, 3), (107, .pop, 1), (108, .iload_n 3, 1), (109, .ireturn, 1)]
set_option maxRecDepth 20000 in
theorem dt_X5_readPlain : ∀ q ∈ dl_X5_readPlain, decode prog_7_method_14_code q.1 = .ok q.2 := by decide +kernel
def kp_X5_readPlain_4  (x1 : Int32) (X : Xt) (s : (Int32 × Int32 × Hp)) : Prop := G X s.2.2 0 0 4 [(0, .ref 4), (1, .int x1), (2, .int s.1), (3, .int s.2.1)] []
def ke_X5_readPlain_4  (x1 : Int32) (X : Xt) (e : (Int32 × Hp)) : Prop := G X e.2 0 0 36 [(0, .ref 4), (1, .int x1), (2, .int e.1)] []
def j_X5_readPlain_29_4 (rc : Nat → Int32 → Hp → Option (Bool × Hp))  (x1 : Int32) (x3 : Int32) (s0 : Int32) (h : Hp) : Option ((Int32 × Int32 × Hp) ⊕ (Int32 × Hp)) :=
  some (.inl (s0, (x3 + (1 : Int32)), h))
set_option maxRecDepth 20000 in
theorem wj_X5_readPlain_29_4 (rc : Nat → Int32 → Hp → Option (Bool × Hp)) {D0 : Nat} (hD0 : 10 ≤ D0) (hrc : RC_A rc D0) {X : Xt} (C : Cx X cn_5 prog_7_method_14_code 4 (some .boolean) (D0 + 1) 0 0)    (x1 : Int32) (x3 : Int32) (s0 : Int32) (h : Hp) (q : (Int32 × Int32 × Hp) ⊕ (Int32 × Hp)) (hrun : j_X5_readPlain_29_4 rc  x1 x3 s0 h = some q) (Ks : ∀ s, q = .inl s → kp_X5_readPlain_4  x1 X s) (Ke : ∀ e, q = .inr e → ke_X5_readPlain_4  x1 X e) : G X h 0 0 29 [(0, .ref 4), (1, .int x1), (3, .int x3)] [.int s0] := by
  unfold j_X5_readPlain_29_4 at hrun
  refine g_istore_n (lv' := [(0, .ref 4), (1, .int x1), (2, .int s0), (3, .int x3)]) C (dat dt_X5_readPlain 16 rfl) (by decide) rfl ?_
  refine g_iinc (v := (x3 + (1 : Int32))) (lv' := [(0, .ref 4), (1, .int x1), (2, .int s0), (3, .int (x3 + (1 : Int32)))]) C (dat dt_X5_readPlain 17 rfl) 3 rfl (congrArg (fun z => x3 + z) ic_1) (by decide) rfl ?_
  refine g_goto 4 C (dat dt_X5_readPlain 18 rfl) (by decide) ?_
  cases hrun
  exact Ks (s0, (x3 + (1 : Int32)), h) rfl
def b_X5_readPlain_4 (rc : Nat → Int32 → Hp → Option (Bool × Hp))  (x1 : Int32) (x2 : Int32) (x3 : Int32) (h : Hp) : Option ((Int32 × Int32 × Hp) ⊕ (Int32 × Hp)) :=
  if (400 : Int32) ≤ x3 then
  some (.inr ( (x2, h)))
  else
  (f_X5_takeIf (26 : Int32) h).bind fun v2 =>
  if v2.1 = true then
  if x2 = 0 then
  j_X5_readPlain_29_4 rc  x1 x3 (1 : Int32) v2.2
  else
  j_X5_readPlain_29_4 rc  x1 x3 (0 : Int32) v2.2
  else
  some (.inr ( (x2, v2.2)))
set_option maxRecDepth 20000 in
theorem wb_X5_readPlain_4 (rc : Nat → Int32 → Hp → Option (Bool × Hp)) {D0 : Nat} (hD0 : 10 ≤ D0) (hrc : RC_A rc D0) {X : Xt} (C : Cx X cn_5 prog_7_method_14_code 4 (some .boolean) (D0 + 1) 0 0)   (x1 : Int32) (x2 : Int32) (x3 : Int32) (h : Hp) (q : (Int32 × Int32 × Hp) ⊕ (Int32 × Hp)) (hrun : b_X5_readPlain_4 rc  x1 x2 x3 h = some q) (Ks : ∀ s, q = .inl s → kp_X5_readPlain_4  x1 X s) (Ke : ∀ e, q = .inr e → ke_X5_readPlain_4  x1 X e) : kp_X5_readPlain_4  x1 X (x2, x3, h) := by
  show G X h 0 0 4 [(0, .ref 4), (1, .int x1), (2, .int x2), (3, .int x3)] []
  unfold b_X5_readPlain_4 at hrun
  refine g_iload_n C (dat dt_X5_readPlain 4 rfl) 3 rfl ?_
  refine g_sipush C (dat dt_X5_readPlain 5 rfl) sp_400 ?_
  refine g_ic_ge 36 C (dat dt_X5_readPlain 6 rfl) (by decide) (fun c1 => ?_) (fun c1 => ?_)
  · rw [if_pos c1] at hrun
    refine g_sub [0, 1, 2] (lv' := [(0, .ref 4), (1, .int x1), (2, .int x2)]) rfl ?_
    cases hrun
    exact Ke ( (x2, h)) rfl
  · rw [if_neg c1] at hrun
    refine g_aload_n C (dat dt_X5_readPlain 7 rfl) 0 rfl ?_
    refine g_bipush C (dat dt_X5_readPlain 8 rfl) bp_26 ?_
    obtain ⟨v2, q3, hrun⟩ := bd hrun
    refine g_cVi [.int (26 : Int32)] C (dat dt_X5_readPlain 9 rfl) ml_5_123 (w_X5_takeIf (26 : Int32) h v2  q3) kd_4 ltk_4 rfl rfl cat0 (by have hGD : GD = 60 := rfl; omega) c00 ?_
    refine g_if_eq 36 C (dat dt_X5_readPlain 10 rfl) (by decide) (fun c4 => ?_) (fun c4 => ?_)
    · rw [if_neg (b2i_z c4)] at hrun
      refine g_sub [0, 1, 2] (lv' := [(0, .ref 4), (1, .int x1), (2, .int x2)]) rfl ?_
      cases hrun
      exact Ke ( (x2, v2.2)) rfl
    · rw [if_pos (b2i_nz c4)] at hrun
      refine g_iload_n C (dat dt_X5_readPlain 11 rfl) 2 rfl ?_
      refine g_if_ne 28 C (dat dt_X5_readPlain 12 rfl) (by decide) (fun c5 => ?_) (fun c5 => ?_)
      · rw [if_neg c5] at hrun
        refine g_iconst C (dat dt_X5_readPlain 15 rfl) ic_0 ?_
        refine g_sub [0, 1, 3] (lv' := [(0, .ref 4), (1, .int x1), (3, .int x3)]) rfl ?_
        exact wj_X5_readPlain_29_4 rc hD0 hrc C    x1 x3 (0 : Int32) v2.2 _ hrun Ks Ke
      · rw [if_pos c5] at hrun
        refine g_iconst C (dat dt_X5_readPlain 13 rfl) ic_1 ?_
        refine g_goto 29 C (dat dt_X5_readPlain 14 rfl) (by decide) ?_
        refine g_sub [0, 1, 3] (lv' := [(0, .ref 4), (1, .int x1), (3, .int x3)]) rfl ?_
        exact wj_X5_readPlain_29_4 rc hD0 hrc C    x1 x3 (1 : Int32) v2.2 _ hrun Ks Ke
def j_X5_readPlain_96 (rc : Nat → Int32 → Hp → Option (Bool × Hp))  (x2 : Int32) (x3 : Int32) (h : Hp) : Option (Bool × Hp) :=
  if x2 = 0 then
  (i2b x3).bind fun b14 => some (b14, h)
  else
  (f_X5_put (10 : Int32) (0 : Int32) h).bind fun v16 =>
  (i2b x3).bind fun b18 => some (b18, v16.2)
set_option maxRecDepth 20000 in
theorem wj_X5_readPlain_96 (rc : Nat → Int32 → Hp → Option (Bool × Hp)) {D0 : Nat} (hD0 : 10 ≤ D0) (hrc : RC_A rc D0) {X : Xt} (C : Cx X cn_5 prog_7_method_14_code 4 (some .boolean) (D0 + 1) 0 0)    (x2 : Int32) (x3 : Int32) (h : Hp) (q : (Bool × Hp)) (hrun : j_X5_readPlain_96 rc  x2 x3 h = some q) (K : EndQ X 0 0 (some (.int (b2i q.1))) q.2) : G X h 0 0 96 [(0, .ref 4), (2, .int x2), (3, .int x3)] [] := by
  unfold j_X5_readPlain_96 at hrun
  refine g_iload_n C (dat dt_X5_readPlain 50 rfl) 1 rfl ?_
  refine g_if_eq 108 C (dat dt_X5_readPlain 51 rfl) (by decide) (fun c13 => ?_) (fun c13 => ?_)
  · rw [if_pos c13] at hrun
    refine g_iload_n C (dat dt_X5_readPlain 57 rfl) 2 rfl ?_
    obtain ⟨b14, q15, hrun⟩ := bd hrun
    cases hrun
    exact g_zret C K (i2b_eq q15) (dat dt_X5_readPlain 58 rfl)
  · rw [if_neg c13] at hrun
    refine g_aload_n C (dat dt_X5_readPlain 52 rfl) 0 rfl ?_
    refine g_bipush C (dat dt_X5_readPlain 53 rfl) bp_10 ?_
    refine g_iconst C (dat dt_X5_readPlain 54 rfl) ic_0 ?_
    obtain ⟨v16, q17, hrun⟩ := bd hrun
    refine g_cVi [.int (10 : Int32), .int (0 : Int32)] C (dat dt_X5_readPlain 55 rfl) ml_5_138 (w_X5_put (10 : Int32) (0 : Int32) h v16  q17) kd_4 ltk_4 rfl rfl cat0 (by have hGD : GD = 60 := rfl; omega) c00 ?_
    refine g_pop C (dat dt_X5_readPlain 56 rfl) rfl ?_
    refine g_iload_n C (dat dt_X5_readPlain 57 rfl) 2 rfl ?_
    obtain ⟨b18, q19, hrun⟩ := bd hrun
    cases hrun
    exact g_zret C K (i2b_eq q19) (dat dt_X5_readPlain 58 rfl)
def j_X5_readPlain_85 (rc : Nat → Int32 → Hp → Option (Bool × Hp))  (x2 : Int32) (h : Hp) : Option (Bool × Hp) :=
  j_X5_readPlain_96 rc  x2 (0 : Int32) h
set_option maxRecDepth 20000 in
theorem wj_X5_readPlain_85 (rc : Nat → Int32 → Hp → Option (Bool × Hp)) {D0 : Nat} (hD0 : 10 ≤ D0) (hrc : RC_A rc D0) {X : Xt} (C : Cx X cn_5 prog_7_method_14_code 4 (some .boolean) (D0 + 1) 0 0)    (x2 : Int32) (h : Hp) (q : (Bool × Hp)) (hrun : j_X5_readPlain_85 rc  x2 h = some q) (K : EndQ X 0 0 (some (.int (b2i q.1))) q.2) : G X h 0 0 85 [(0, .ref 4), (2, .int x2)] [] := by
  unfold j_X5_readPlain_85 at hrun
  refine g_iconst C (dat dt_X5_readPlain 43 rfl) ic_0 ?_
  refine g_istore_n (lv' := [(0, .ref 4), (2, .int x2), (3, .int (0 : Int32))]) C (dat dt_X5_readPlain 44 rfl) (by decide) rfl ?_
  refine g_goto 96 C (dat dt_X5_readPlain 45 rfl) (by decide) ?_
  exact wj_X5_readPlain_96 rc hD0 hrc C    x2 (0 : Int32) h _ hrun K
def j_X5_readPlain_36 (rc : Nat → Int32 → Hp → Option (Bool × Hp))  (x1 : Int32) (x2 : Int32) (h : Hp) : Option (Bool × Hp) :=
  (f_X5_isSign (40 : Int32) h).bind fun v8 =>
  if v8 = true then
  (f_X5_canOpen x1 h).bind fun v20 =>
  if v20.1 = true then
  (f_X5_takeSign (40 : Int32) v20.2).bind fun v23 =>
  if v23.1 = true then
  (rc 0 (x1 + (1 : Int32)) v23.2).bind fun v26 =>
  if v26.1 = true then
  (f_X5_takeSign (41 : Int32) v26.2).bind fun v29 =>
  if v29.1 = true then
  j_X5_readPlain_96 rc  x2 (1 : Int32) v29.2
  else
  j_X5_readPlain_85 rc  x2 v29.2
  else
  j_X5_readPlain_85 rc  x2 v26.2
  else
  j_X5_readPlain_85 rc  x2 v23.2
  else
  j_X5_readPlain_85 rc  x2 v20.2
  else
  (rc 3 x1 h).bind fun v11 =>
  j_X5_readPlain_96 rc  x2 (b2i v11.1) v11.2
set_option maxRecDepth 20000 in
theorem wj_X5_readPlain_36 (rc : Nat → Int32 → Hp → Option (Bool × Hp)) {D0 : Nat} (hD0 : 10 ≤ D0) (hrc : RC_A rc D0) {X : Xt} (C : Cx X cn_5 prog_7_method_14_code 4 (some .boolean) (D0 + 1) 0 0)    (x1 : Int32) (x2 : Int32) (h : Hp) (q : (Bool × Hp)) (hrun : j_X5_readPlain_36 rc  x1 x2 h = some q) (K : EndQ X 0 0 (some (.int (b2i q.1))) q.2) : G X h 0 0 36 [(0, .ref 4), (1, .int x1), (2, .int x2)] [] := by
  unfold j_X5_readPlain_36 at hrun
  refine g_aload_n C (dat dt_X5_readPlain 19 rfl) 0 rfl ?_
  refine g_bipush C (dat dt_X5_readPlain 20 rfl) bp_40 ?_
  obtain ⟨v8, q9, hrun⟩ := bd hrun
  refine g_cVi [.int (40 : Int32)] C (dat dt_X5_readPlain 21 rfl) ml_5_148 (w_X5_isSign (40 : Int32) h v8  q9) kd_4 ltk_4 rfl rfl cat0 (by have hGD : GD = 60 := rfl; omega) c00 ?_
  refine g_if_eq 90 C (dat dt_X5_readPlain 22 rfl) (by decide) (fun c10 => ?_) (fun c10 => ?_)
  · rw [if_neg (b2i_z c10)] at hrun
    refine g_aload_n C (dat dt_X5_readPlain 46 rfl) 0 rfl ?_
    refine g_iload_n C (dat dt_X5_readPlain 47 rfl) 1 rfl ?_
    obtain ⟨v11, q12, hrun⟩ := bd hrun
    refine g_cVi [.int x1] C (dat dt_X5_readPlain 48 rfl) ml_5_154 (hrc.2.2.2.1 _ _ _ q12) kd_4 ltk_4 rfl rfl cat0 (Nat.le_refl _) c00 ?_
    refine g_istore_n (lv' := [(0, .ref 4), (1, .int x1), (2, .int x2), (3, .int (b2i v11.1))]) C (dat dt_X5_readPlain 49 rfl) (by decide) rfl ?_
    refine g_sub [0, 2, 3] (lv' := [(0, .ref 4), (2, .int x2), (3, .int (b2i v11.1))]) rfl ?_
    exact wj_X5_readPlain_96 rc hD0 hrc C    x2 (b2i v11.1) v11.2 _ hrun K
  · rw [if_pos (b2i_nz c10)] at hrun
    refine g_aload_n C (dat dt_X5_readPlain 23 rfl) 0 rfl ?_
    refine g_iload_n C (dat dt_X5_readPlain 24 rfl) 1 rfl ?_
    obtain ⟨v20, q21, hrun⟩ := bd hrun
    refine g_cVi [.int x1] C (dat dt_X5_readPlain 25 rfl) ml_5_151 (w_X5_canOpen x1 h v20  q21) kd_4 ltk_4 rfl rfl cat0 (by have hGD : GD = 60 := rfl; omega) c00 ?_
    refine g_if_eq 85 C (dat dt_X5_readPlain 26 rfl) (by decide) (fun c22 => ?_) (fun c22 => ?_)
    · rw [if_neg (b2i_z c22)] at hrun
      refine g_sub [0, 2] (lv' := [(0, .ref 4), (2, .int x2)]) rfl ?_
      exact wj_X5_readPlain_85 rc hD0 hrc C    x2 v20.2 _ hrun K
    · rw [if_pos (b2i_nz c22)] at hrun
      refine g_aload_n C (dat dt_X5_readPlain 27 rfl) 0 rfl ?_
      refine g_bipush C (dat dt_X5_readPlain 28 rfl) bp_40 ?_
      obtain ⟨v23, q24, hrun⟩ := bd hrun
      refine g_cVi [.int (40 : Int32)] C (dat dt_X5_readPlain 29 rfl) ml_5_83 (w_X5_takeSign (40 : Int32) v20.2 v23  q24) kd_4 ltk_4 rfl rfl cat0 (by have hGD : GD = 60 := rfl; omega) c00 ?_
      refine g_if_eq 85 C (dat dt_X5_readPlain 30 rfl) (by decide) (fun c25 => ?_) (fun c25 => ?_)
      · rw [if_neg (b2i_z c25)] at hrun
        refine g_sub [0, 2] (lv' := [(0, .ref 4), (2, .int x2)]) rfl ?_
        exact wj_X5_readPlain_85 rc hD0 hrc C    x2 v23.2 _ hrun K
      · rw [if_pos (b2i_nz c25)] at hrun
        refine g_aload_n C (dat dt_X5_readPlain 31 rfl) 0 rfl ?_
        refine g_iload_n C (dat dt_X5_readPlain 32 rfl) 1 rfl ?_
        refine g_iconst C (dat dt_X5_readPlain 33 rfl) ic_1 ?_
        refine g_iadd C (dat dt_X5_readPlain 34 rfl) ?_
        obtain ⟨v26, q27, hrun⟩ := bd hrun
        refine g_cVi [.int (x1 + (1 : Int32))] C (dat dt_X5_readPlain 35 rfl) ml_5_132 (hrc.1 _ _ _ q27) kd_4 ltk_4 rfl rfl cat0 (Nat.le_refl _) c00 ?_
        refine g_if_eq 85 C (dat dt_X5_readPlain 36 rfl) (by decide) (fun c28 => ?_) (fun c28 => ?_)
        · rw [if_neg (b2i_z c28)] at hrun
          refine g_sub [0, 2] (lv' := [(0, .ref 4), (2, .int x2)]) rfl ?_
          exact wj_X5_readPlain_85 rc hD0 hrc C    x2 v26.2 _ hrun K
        · rw [if_pos (b2i_nz c28)] at hrun
          refine g_aload_n C (dat dt_X5_readPlain 37 rfl) 0 rfl ?_
          refine g_bipush C (dat dt_X5_readPlain 38 rfl) bp_41 ?_
          obtain ⟨v29, q30, hrun⟩ := bd hrun
          refine g_cVi [.int (41 : Int32)] C (dat dt_X5_readPlain 39 rfl) ml_5_83 (w_X5_takeSign (41 : Int32) v26.2 v29  q30) kd_4 ltk_4 rfl rfl cat0 (by have hGD : GD = 60 := rfl; omega) c00 ?_
          refine g_if_eq 85 C (dat dt_X5_readPlain 40 rfl) (by decide) (fun c31 => ?_) (fun c31 => ?_)
          · rw [if_neg (b2i_z c31)] at hrun
            refine g_sub [0, 2] (lv' := [(0, .ref 4), (2, .int x2)]) rfl ?_
            exact wj_X5_readPlain_85 rc hD0 hrc C    x2 v29.2 _ hrun K
          · rw [if_pos (b2i_nz c31)] at hrun
            refine g_iconst C (dat dt_X5_readPlain 41 rfl) ic_1 ?_
            refine g_goto 86 C (dat dt_X5_readPlain 42 rfl) (by decide) ?_
            refine g_istore_n (lv' := [(0, .ref 4), (1, .int x1), (2, .int x2), (3, .int (1 : Int32))]) C (dat dt_X5_readPlain 44 rfl) (by decide) rfl ?_
            refine g_goto 96 C (dat dt_X5_readPlain 45 rfl) (by decide) ?_
            refine g_sub [0, 2, 3] (lv' := [(0, .ref 4), (2, .int x2), (3, .int (1 : Int32))]) rfl ?_
            exact wj_X5_readPlain_96 rc hD0 hrc C    x2 (1 : Int32) v29.2 _ hrun K
def f_X5_readPlain (rc : Nat → Int32 → Hp → Option (Bool × Hp)) (x1 : Int32) (h : Hp) : Option (Bool × Hp) :=
  (lp (fun s => b_X5_readPlain_4 rc  x1 s.1 s.2.1 s.2.2) FU ((0 : Int32), (0 : Int32), h)).bind fun e6 =>
  j_X5_readPlain_36 rc  x1 e6.1 e6.2
set_option maxRecDepth 20000 in
theorem w_X5_readPlain (rc : Nat → Int32 → Hp → Option (Bool × Hp)) {D0 : Nat} (hD0 : 10 ≤ D0) (hrc : RC_A rc D0) (x1 : Int32) (h : Hp) (q : (Bool × Hp))  (hrun : f_X5_readPlain rc x1 h = some q) : MetA ⟨"SteamNations$Reader", "readPlain", "(I)Z"⟩ prog_7_method_14_code 4 (some .boolean) (D0 + 1) 0 0 [.ref 4, .int x1] h (some (.int (b2i q.1))) q.2 := by
  refine metA_of (by decide) (Nat.le_of_ble_eq_true rfl) (fun X C K => ?_)
  have C : Cx X cn_5 prog_7_method_14_code 4 (some .boolean) (D0 + 1) 0 0 := C
  show G X h 0 0 0 [(0, .ref 4), (1, .int x1)] []
  unfold f_X5_readPlain at hrun
  refine g_iconst C (dat dt_X5_readPlain 0 rfl) ic_0 ?_
  refine g_istore_n (lv' := [(0, .ref 4), (1, .int x1), (2, .int (0 : Int32))]) C (dat dt_X5_readPlain 1 rfl) (by decide) rfl ?_
  refine g_iconst C (dat dt_X5_readPlain 2 rfl) ic_0 ?_
  refine g_istore_n (lv' := [(0, .ref 4), (1, .int x1), (2, .int (0 : Int32)), (3, .int (0 : Int32))]) C (dat dt_X5_readPlain 3 rfl) (by decide) rfl ?_
  obtain ⟨e6, q7, hrun⟩ := bd hrun
  refine lp_ind (P := fun s => kp_X5_readPlain_4  x1 X s) (K := fun e => ke_X5_readPlain_4  x1 X e) (fun s q hb Ks Ke => wb_X5_readPlain_4 rc hD0 hrc C   x1 s.1 s.2.1 s.2.2 q hb Ks Ke) FU ((0 : Int32), (0 : Int32), h) e6 q7 ?_
  show G X e6.2 0 0 36 [(0, .ref 4), (1, .int x1), (2, .int e6.1)] []
  exact wj_X5_readPlain_36 rc hD0 hrc C    x1 e6.1 e6.2 _ hrun K
/-! SteamNations$Reader.readComparison(I)Z -/
def dl_X5_readComparison : List (Nat × Instr × Nat) := [(0, .aload_n 0, 1), (1, .iload_n 1, 1), (2, .invokevirtual 120, 3), (5, .ifCond .ne 5, 3), (8, .iconst 0, 1), (9, .ireturn, 1), (10, .bipush 9, 2), (12, .istore_n 2, 1), (13, .aload_n 0, 1), (14, .bipush 60, 2), (16, .invokevirtual 148, 3), (19, .ifCond .eq 9, 3), (22, .bipush 7, 2), (24, .istore_n 2, 1), (25, .goto 32, 3), (28, .aload_n 0, 1), (29, .bipush 62, 2), (31, .invokevirtual 148, 3), (34, .ifCond .eq 9, 3), (37, .bipush 8, 2), (39, .istore_n 2, 1), (40, .goto 17, 3), (43, .aload_n 0, 1), (44, .bipush 61, 2), (46, .invokevirtual 148, 3), (49, .ifCond .ne 8, 3), (52, .aload_n 0, 1), (53, .invokevirtual 87, 3), (56, .ireturn, 1), (57, .aload_n 0, 1), (58, .invokevirtual 58, 3), (61, .aload_n 0, 1), (62, .iload_n 1, 1), (63, .invokevirtual 120, 3), (66, .istore_n 3, 1), (67, .aload_n 0, 1), (68, .iload_n 2, 1), (69, .iconst 0, 1), (70, .invokevirtual 138, 3), (73, .pop, 1), (74, .iload_n 3, 1), (75, .ireturn, 1)]
set_option maxRecDepth 20000 in
theorem dt_X5_readComparison : ∀ q ∈ dl_X5_readComparison, decode prog_7_method_15_code q.1 = .ok q.2 := by decide +kernel
def j_X5_readComparison_57 (rc : Nat → Int32 → Hp → Option (Bool × Hp))  (x1 : Int32) (x2 : Int32) (h : Hp) : Option (Bool × Hp) :=
  (f_X5_goOn  h).bind fun v13 =>
  (rc 4 x1 v13.2).bind fun v15 =>
  (f_X5_put x2 (0 : Int32) v15.2).bind fun v17 =>
  some (v15.1, v17.2)
set_option maxRecDepth 20000 in
theorem wj_X5_readComparison_57 (rc : Nat → Int32 → Hp → Option (Bool × Hp)) {D0 : Nat} (hD0 : 10 ≤ D0) (hrc : RC_A rc D0) {X : Xt} (C : Cx X cn_5 prog_7_method_15_code 4 (some .boolean) (D0 + 1) 0 0)    (x1 : Int32) (x2 : Int32) (h : Hp) (q : (Bool × Hp)) (hrun : j_X5_readComparison_57 rc  x1 x2 h = some q) (K : EndQ X 0 0 (some (.int (b2i q.1))) q.2) : G X h 0 0 57 [(0, .ref 4), (1, .int x1), (2, .int x2)] [] := by
  unfold j_X5_readComparison_57 at hrun
  refine g_aload_n C (dat dt_X5_readComparison 29 rfl) 0 rfl ?_
  obtain ⟨v13, q14, hrun⟩ := bd hrun
  refine g_cVv [] C (dat dt_X5_readComparison 30 rfl) ml_5_58 (w_X5_goOn  h v13  q14) kd_4 ltk_4 rfl rfl cat0 (by have hGD : GD = 60 := rfl; omega) c00 ?_
  refine g_aload_n C (dat dt_X5_readComparison 31 rfl) 0 rfl ?_
  refine g_iload_n C (dat dt_X5_readComparison 32 rfl) 1 rfl ?_
  obtain ⟨v15, q16, hrun⟩ := bd hrun
  refine g_cVi [.int x1] C (dat dt_X5_readComparison 33 rfl) ml_5_120 (hrc.2.2.2.2.1 _ _ _ q16) kd_4 ltk_4 rfl rfl cat0 (Nat.le_refl _) c00 ?_
  refine g_istore_n (lv' := [(0, .ref 4), (1, .int x1), (2, .int x2), (3, .int (b2i v15.1))]) C (dat dt_X5_readComparison 34 rfl) (by decide) rfl ?_
  refine g_aload_n C (dat dt_X5_readComparison 35 rfl) 0 rfl ?_
  refine g_iload_n C (dat dt_X5_readComparison 36 rfl) 2 rfl ?_
  refine g_iconst C (dat dt_X5_readComparison 37 rfl) ic_0 ?_
  obtain ⟨v17, q18, hrun⟩ := bd hrun
  refine g_cVi [.int x2, .int (0 : Int32)] C (dat dt_X5_readComparison 38 rfl) ml_5_138 (w_X5_put x2 (0 : Int32) v15.2 v17  q18) kd_4 ltk_4 rfl rfl cat0 (by have hGD : GD = 60 := rfl; omega) c00 ?_
  refine g_pop C (dat dt_X5_readComparison 39 rfl) rfl ?_
  refine g_iload_n C (dat dt_X5_readComparison 40 rfl) 3 rfl ?_
  cases hrun
  exact g_zret C K rfl (dat dt_X5_readComparison 41 rfl)
def f_X5_readComparison (rc : Nat → Int32 → Hp → Option (Bool × Hp)) (x1 : Int32) (h : Hp) : Option (Bool × Hp) :=
  (rc 4 x1 h).bind fun v1 =>
  if v1.1 = true then
  (f_X5_isSign (60 : Int32) v1.2).bind fun v4 =>
  if v4 = true then
  j_X5_readComparison_57 rc  x1 (7 : Int32) v1.2
  else
  (f_X5_isSign (62 : Int32) v1.2).bind fun v7 =>
  if v7 = true then
  j_X5_readComparison_57 rc  x1 (8 : Int32) v1.2
  else
  (f_X5_isSign (61 : Int32) v1.2).bind fun v10 =>
  if v10 = true then
  j_X5_readComparison_57 rc  x1 (9 : Int32) v1.2
  else
  (f_X5_wrong  v1.2).bind fun v19 =>
  some (v19.1, v19.2)
  else
  some (false, v1.2)
set_option maxRecDepth 20000 in
theorem w_X5_readComparison (rc : Nat → Int32 → Hp → Option (Bool × Hp)) {D0 : Nat} (hD0 : 10 ≤ D0) (hrc : RC_A rc D0) (x1 : Int32) (h : Hp) (q : (Bool × Hp))  (hrun : f_X5_readComparison rc x1 h = some q) : MetA ⟨"SteamNations$Reader", "readComparison", "(I)Z"⟩ prog_7_method_15_code 4 (some .boolean) (D0 + 1) 0 0 [.ref 4, .int x1] h (some (.int (b2i q.1))) q.2 := by
  refine metA_of (by decide) (Nat.le_of_ble_eq_true rfl) (fun X C K => ?_)
  have C : Cx X cn_5 prog_7_method_15_code 4 (some .boolean) (D0 + 1) 0 0 := C
  show G X h 0 0 0 [(0, .ref 4), (1, .int x1)] []
  unfold f_X5_readComparison at hrun
  refine g_aload_n C (dat dt_X5_readComparison 0 rfl) 0 rfl ?_
  refine g_iload_n C (dat dt_X5_readComparison 1 rfl) 1 rfl ?_
  obtain ⟨v1, q2, hrun⟩ := bd hrun
  refine g_cVi [.int x1] C (dat dt_X5_readComparison 2 rfl) ml_5_120 (hrc.2.2.2.2.1 _ _ _ q2) kd_4 ltk_4 rfl rfl cat0 (Nat.le_refl _) c00 ?_
  refine g_if_ne 10 C (dat dt_X5_readComparison 3 rfl) (by decide) (fun c3 => ?_) (fun c3 => ?_)
  · rw [if_pos (b2i_nz c3)] at hrun
    refine g_bipush C (dat dt_X5_readComparison 6 rfl) bp_9 ?_
    refine g_istore_n (lv' := [(0, .ref 4), (1, .int x1), (2, .int (9 : Int32))]) C (dat dt_X5_readComparison 7 rfl) (by decide) rfl ?_
    refine g_aload_n C (dat dt_X5_readComparison 8 rfl) 0 rfl ?_
    refine g_bipush C (dat dt_X5_readComparison 9 rfl) bp_60 ?_
    obtain ⟨v4, q5, hrun⟩ := bd hrun
    refine g_cVi [.int (60 : Int32)] C (dat dt_X5_readComparison 10 rfl) ml_5_148 (w_X5_isSign (60 : Int32) v1.2 v4  q5) kd_4 ltk_4 rfl rfl cat0 (by have hGD : GD = 60 := rfl; omega) c00 ?_
    refine g_if_eq 28 C (dat dt_X5_readComparison 11 rfl) (by decide) (fun c6 => ?_) (fun c6 => ?_)
    · rw [if_neg (b2i_z c6)] at hrun
      refine g_aload_n C (dat dt_X5_readComparison 15 rfl) 0 rfl ?_
      refine g_bipush C (dat dt_X5_readComparison 16 rfl) bp_62 ?_
      obtain ⟨v7, q8, hrun⟩ := bd hrun
      refine g_cVi [.int (62 : Int32)] C (dat dt_X5_readComparison 17 rfl) ml_5_148 (w_X5_isSign (62 : Int32) v1.2 v7  q8) kd_4 ltk_4 rfl rfl cat0 (by have hGD : GD = 60 := rfl; omega) c00 ?_
      refine g_if_eq 43 C (dat dt_X5_readComparison 18 rfl) (by decide) (fun c9 => ?_) (fun c9 => ?_)
      · rw [if_neg (b2i_z c9)] at hrun
        refine g_aload_n C (dat dt_X5_readComparison 22 rfl) 0 rfl ?_
        refine g_bipush C (dat dt_X5_readComparison 23 rfl) bp_61 ?_
        obtain ⟨v10, q11, hrun⟩ := bd hrun
        refine g_cVi [.int (61 : Int32)] C (dat dt_X5_readComparison 24 rfl) ml_5_148 (w_X5_isSign (61 : Int32) v1.2 v10  q11) kd_4 ltk_4 rfl rfl cat0 (by have hGD : GD = 60 := rfl; omega) c00 ?_
        refine g_if_ne 57 C (dat dt_X5_readComparison 25 rfl) (by decide) (fun c12 => ?_) (fun c12 => ?_)
        · rw [if_pos (b2i_nz c12)] at hrun
          exact wj_X5_readComparison_57 rc hD0 hrc C    x1 (9 : Int32) v1.2 _ hrun K
        · rw [if_neg (b2i_z c12)] at hrun
          refine g_aload_n C (dat dt_X5_readComparison 26 rfl) 0 rfl ?_
          obtain ⟨v19, q20, hrun⟩ := bd hrun
          refine g_cVi [] C (dat dt_X5_readComparison 27 rfl) ml_5_87 (w_X5_wrong  v1.2 v19  q20) kd_4 ltk_4 rfl rfl cat0 (by have hGD : GD = 60 := rfl; omega) c00 ?_
          cases hrun
          exact g_zret C K rfl (dat dt_X5_readComparison 28 rfl)
      · rw [if_pos (b2i_nz c9)] at hrun
        refine g_bipush C (dat dt_X5_readComparison 19 rfl) bp_8 ?_
        refine g_istore_n (lv' := [(0, .ref 4), (1, .int x1), (2, .int (8 : Int32))]) C (dat dt_X5_readComparison 20 rfl) (by decide) rfl ?_
        refine g_goto 57 C (dat dt_X5_readComparison 21 rfl) (by decide) ?_
        exact wj_X5_readComparison_57 rc hD0 hrc C    x1 (8 : Int32) v1.2 _ hrun K
    · rw [if_pos (b2i_nz c6)] at hrun
      refine g_bipush C (dat dt_X5_readComparison 12 rfl) bp_7 ?_
      refine g_istore_n (lv' := [(0, .ref 4), (1, .int x1), (2, .int (7 : Int32))]) C (dat dt_X5_readComparison 13 rfl) (by decide) rfl ?_
      refine g_goto 57 C (dat dt_X5_readComparison 14 rfl) (by decide) ?_
      exact wj_X5_readComparison_57 rc hD0 hrc C    x1 (7 : Int32) v1.2 _ hrun K
  · rw [if_neg (b2i_z c3)] at hrun
    refine g_iconst C (dat dt_X5_readComparison 4 rfl) ic_0 ?_
    cases hrun
    exact g_zret C K (show (0 : Int32) = b2i false by decide) (dat dt_X5_readComparison 5 rfl)
/-! SteamNations$Reader.readSum(I)Z -/
def dl_X5_readSum : List (Nat × Instr × Nat) := [(0, .aload_n 0, 1), (1, .iload_n 1, 1), (2, .invokevirtual 157, 3), (5, .istore_n 2, 1), (6, .iconst 0, 1), (7, .istore_n 3, 1), (8, .iload_n 3, 1), (9, .sipush 400, 3), (12, .if_icmp .ge 65, 3), (15, .iload_n 2, 1), (16, .ifCond .eq 61, 3), (19, .aload_n 0, 1), (20, .bipush 43, 2), (22, .invokevirtual 148, 3), (25, .ifCond .ne 12, 3), (28, .aload_n 0, 1), (29, .bipush 45, 2), (31, .invokevirtual 148, 3), (34, .ifCond .eq 43, 3), (37, .aload_n 0, 1), (38, .bipush 43, 2), (40, .invokevirtual 148, 3), (43, .ifCond .eq 7, 3), (46, .iconst 2, 1), (47, .goto 4, 3), (50, .iconst 3, 1), (51, .istore 4, 2), (53, .aload_n 0, 1), (54, .invokevirtual 58, 3), (57, .aload_n 0, 1), (58, .iload_n 1, 1), (59, .invokevirtual 157, 3), (62, .istore_n 2, 1), (63, .aload_n 0, 1), (64, .iload 4, 2), (66, .iconst 0, 1), (67, .invokevirtual 138, 3), (70, .pop, 1), (71, .iinc 3 1, 3), (74, .goto (-66), 3), (77, .iload_n 2, 1), (78, .ireturn, 1)]
set_option maxRecDepth 20000 in
theorem dt_X5_readSum : ∀ q ∈ dl_X5_readSum, decode prog_7_method_16_code q.1 = .ok q.2 := by decide +kernel
def kp_X5_readSum_8  (x1 : Int32) (X : Xt) (s : (Int32 × Int32 × Hp)) : Prop := G X s.2.2 0 0 8 [(0, .ref 4), (1, .int x1), (2, .int s.1), (3, .int s.2.1)] []
def ke_X5_readSum_8  (x1 : Int32) (X : Xt) (e : (Int32 × Hp)) : Prop := G X e.2 0 0 77 [(2, .int e.1)] []
def j_X5_readSum_51_8 (rc : Nat → Int32 → Hp → Option (Bool × Hp))  (x1 : Int32) (x3 : Int32) (s0 : Int32) (h : Hp) : Option ((Int32 × Int32 × Hp) ⊕ (Int32 × Hp)) :=
  (f_X5_goOn  h).bind fun v11 =>
  (rc 5 x1 v11.2).bind fun v13 =>
  (f_X5_put s0 (0 : Int32) v13.2).bind fun v15 =>
  some (.inl ((b2i v13.1), (x3 + (1 : Int32)), v15.2))
set_option maxRecDepth 20000 in
theorem wj_X5_readSum_51_8 (rc : Nat → Int32 → Hp → Option (Bool × Hp)) {D0 : Nat} (hD0 : 10 ≤ D0) (hrc : RC_A rc D0) {X : Xt} (C : Cx X cn_5 prog_7_method_16_code 5 (some .boolean) (D0 + 1) 0 0)    (x1 : Int32) (x3 : Int32) (s0 : Int32) (h : Hp) (q : (Int32 × Int32 × Hp) ⊕ (Int32 × Hp)) (hrun : j_X5_readSum_51_8 rc  x1 x3 s0 h = some q) (Ks : ∀ s, q = .inl s → kp_X5_readSum_8  x1 X s) (Ke : ∀ e, q = .inr e → ke_X5_readSum_8  x1 X e) : G X h 0 0 51 [(0, .ref 4), (1, .int x1), (3, .int x3)] [.int s0] := by
  unfold j_X5_readSum_51_8 at hrun
  refine g_istore (lv' := [(0, .ref 4), (1, .int x1), (3, .int x3), (4, .int s0)]) C (dat dt_X5_readSum 26 rfl) (by decide) rfl ?_
  refine g_aload_n C (dat dt_X5_readSum 27 rfl) 0 rfl ?_
  obtain ⟨v11, q12, hrun⟩ := bd hrun
  refine g_cVv [] C (dat dt_X5_readSum 28 rfl) ml_5_58 (w_X5_goOn  h v11  q12) kd_4 ltk_4 rfl rfl cat0 (by have hGD : GD = 60 := rfl; omega) c00 ?_
  refine g_aload_n C (dat dt_X5_readSum 29 rfl) 0 rfl ?_
  refine g_iload_n C (dat dt_X5_readSum 30 rfl) 1 rfl ?_
  obtain ⟨v13, q14, hrun⟩ := bd hrun
  refine g_cVi [.int x1] C (dat dt_X5_readSum 31 rfl) ml_5_157 (hrc.2.2.2.2.2.1 _ _ _ q14) kd_4 ltk_4 rfl rfl cat0 (Nat.le_refl _) c00 ?_
  refine g_istore_n (lv' := [(0, .ref 4), (1, .int x1), (2, .int (b2i v13.1)), (3, .int x3), (4, .int s0)]) C (dat dt_X5_readSum 32 rfl) (by decide) rfl ?_
  refine g_aload_n C (dat dt_X5_readSum 33 rfl) 0 rfl ?_
  refine g_iload C (dat dt_X5_readSum 34 rfl) 4 rfl ?_
  refine g_iconst C (dat dt_X5_readSum 35 rfl) ic_0 ?_
  obtain ⟨v15, q16, hrun⟩ := bd hrun
  refine g_cVi [.int s0, .int (0 : Int32)] C (dat dt_X5_readSum 36 rfl) ml_5_138 (w_X5_put s0 (0 : Int32) v13.2 v15  q16) kd_4 ltk_4 rfl rfl cat0 (by have hGD : GD = 60 := rfl; omega) c00 ?_
  refine g_pop C (dat dt_X5_readSum 37 rfl) rfl ?_
  refine g_iinc (v := (x3 + (1 : Int32))) (lv' := [(0, .ref 4), (1, .int x1), (2, .int (b2i v13.1)), (3, .int (x3 + (1 : Int32))), (4, .int s0)]) C (dat dt_X5_readSum 38 rfl) 3 rfl (congrArg (fun z => x3 + z) ic_1) (by decide) rfl ?_
  refine g_goto 8 C (dat dt_X5_readSum 39 rfl) (by decide) ?_
  refine g_sub [0, 1, 2, 3] (lv' := [(0, .ref 4), (1, .int x1), (2, .int (b2i v13.1)), (3, .int (x3 + (1 : Int32)))]) rfl ?_
  cases hrun
  exact Ks ((b2i v13.1), (x3 + (1 : Int32)), v15.2) rfl
def j_X5_readSum_37_8 (rc : Nat → Int32 → Hp → Option (Bool × Hp))  (x1 : Int32) (x3 : Int32) (h : Hp) : Option ((Int32 × Int32 × Hp) ⊕ (Int32 × Hp)) :=
  (f_X5_isSign (43 : Int32) h).bind fun v8 =>
  if v8 = true then
  j_X5_readSum_51_8 rc  x1 x3 (2 : Int32) h
  else
  j_X5_readSum_51_8 rc  x1 x3 (3 : Int32) h
set_option maxRecDepth 20000 in
theorem wj_X5_readSum_37_8 (rc : Nat → Int32 → Hp → Option (Bool × Hp)) {D0 : Nat} (hD0 : 10 ≤ D0) (hrc : RC_A rc D0) {X : Xt} (C : Cx X cn_5 prog_7_method_16_code 5 (some .boolean) (D0 + 1) 0 0)    (x1 : Int32) (x3 : Int32) (h : Hp) (q : (Int32 × Int32 × Hp) ⊕ (Int32 × Hp)) (hrun : j_X5_readSum_37_8 rc  x1 x3 h = some q) (Ks : ∀ s, q = .inl s → kp_X5_readSum_8  x1 X s) (Ke : ∀ e, q = .inr e → ke_X5_readSum_8  x1 X e) : G X h 0 0 37 [(0, .ref 4), (1, .int x1), (3, .int x3)] [] := by
  unfold j_X5_readSum_37_8 at hrun
  refine g_aload_n C (dat dt_X5_readSum 19 rfl) 0 rfl ?_
  refine g_bipush C (dat dt_X5_readSum 20 rfl) bp_43 ?_
  obtain ⟨v8, q9, hrun⟩ := bd hrun
  refine g_cVi [.int (43 : Int32)] C (dat dt_X5_readSum 21 rfl) ml_5_148 (w_X5_isSign (43 : Int32) h v8  q9) kd_4 ltk_4 rfl rfl cat0 (by have hGD : GD = 60 := rfl; omega) c00 ?_
  refine g_if_eq 50 C (dat dt_X5_readSum 22 rfl) (by decide) (fun c10 => ?_) (fun c10 => ?_)
  · rw [if_neg (b2i_z c10)] at hrun
    refine g_iconst C (dat dt_X5_readSum 25 rfl) ic_3 ?_
    exact wj_X5_readSum_51_8 rc hD0 hrc C    x1 x3 (3 : Int32) h _ hrun Ks Ke
  · rw [if_pos (b2i_nz c10)] at hrun
    refine g_iconst C (dat dt_X5_readSum 23 rfl) ic_2 ?_
    refine g_goto 51 C (dat dt_X5_readSum 24 rfl) (by decide) ?_
    exact wj_X5_readSum_51_8 rc hD0 hrc C    x1 x3 (2 : Int32) h _ hrun Ks Ke
def b_X5_readSum_8 (rc : Nat → Int32 → Hp → Option (Bool × Hp))  (x1 : Int32) (x2 : Int32) (x3 : Int32) (h : Hp) : Option ((Int32 × Int32 × Hp) ⊕ (Int32 × Hp)) :=
  if (400 : Int32) ≤ x3 then
  some (.inr ( (x2, h)))
  else
  if x2 = 0 then
  some (.inr ( (x2, h)))
  else
  (f_X5_isSign (43 : Int32) h).bind fun v5 =>
  if v5 = true then
  j_X5_readSum_37_8 rc  x1 x3 h
  else
  (f_X5_isSign (45 : Int32) h).bind fun v17 =>
  if v17 = true then
  j_X5_readSum_37_8 rc  x1 x3 h
  else
  some (.inr ( (x2, h)))
set_option maxRecDepth 20000 in
theorem wb_X5_readSum_8 (rc : Nat → Int32 → Hp → Option (Bool × Hp)) {D0 : Nat} (hD0 : 10 ≤ D0) (hrc : RC_A rc D0) {X : Xt} (C : Cx X cn_5 prog_7_method_16_code 5 (some .boolean) (D0 + 1) 0 0)   (x1 : Int32) (x2 : Int32) (x3 : Int32) (h : Hp) (q : (Int32 × Int32 × Hp) ⊕ (Int32 × Hp)) (hrun : b_X5_readSum_8 rc  x1 x2 x3 h = some q) (Ks : ∀ s, q = .inl s → kp_X5_readSum_8  x1 X s) (Ke : ∀ e, q = .inr e → ke_X5_readSum_8  x1 X e) : kp_X5_readSum_8  x1 X (x2, x3, h) := by
  show G X h 0 0 8 [(0, .ref 4), (1, .int x1), (2, .int x2), (3, .int x3)] []
  unfold b_X5_readSum_8 at hrun
  refine g_iload_n C (dat dt_X5_readSum 6 rfl) 3 rfl ?_
  refine g_sipush C (dat dt_X5_readSum 7 rfl) sp_400 ?_
  refine g_ic_ge 77 C (dat dt_X5_readSum 8 rfl) (by decide) (fun c3 => ?_) (fun c3 => ?_)
  · rw [if_pos c3] at hrun
    refine g_sub [2] (lv' := [(2, .int x2)]) rfl ?_
    cases hrun
    exact Ke ( (x2, h)) rfl
  · rw [if_neg c3] at hrun
    refine g_iload_n C (dat dt_X5_readSum 9 rfl) 2 rfl ?_
    refine g_if_eq 77 C (dat dt_X5_readSum 10 rfl) (by decide) (fun c4 => ?_) (fun c4 => ?_)
    · rw [if_pos c4] at hrun
      refine g_sub [2] (lv' := [(2, .int x2)]) rfl ?_
      cases hrun
      exact Ke ( (x2, h)) rfl
    · rw [if_neg c4] at hrun
      refine g_aload_n C (dat dt_X5_readSum 11 rfl) 0 rfl ?_
      refine g_bipush C (dat dt_X5_readSum 12 rfl) bp_43 ?_
      obtain ⟨v5, q6, hrun⟩ := bd hrun
      refine g_cVi [.int (43 : Int32)] C (dat dt_X5_readSum 13 rfl) ml_5_148 (w_X5_isSign (43 : Int32) h v5  q6) kd_4 ltk_4 rfl rfl cat0 (by have hGD : GD = 60 := rfl; omega) c00 ?_
      refine g_if_ne 37 C (dat dt_X5_readSum 14 rfl) (by decide) (fun c7 => ?_) (fun c7 => ?_)
      · rw [if_pos (b2i_nz c7)] at hrun
        refine g_sub [0, 1, 3] (lv' := [(0, .ref 4), (1, .int x1), (3, .int x3)]) rfl ?_
        exact wj_X5_readSum_37_8 rc hD0 hrc C    x1 x3 h _ hrun Ks Ke
      · rw [if_neg (b2i_z c7)] at hrun
        refine g_aload_n C (dat dt_X5_readSum 15 rfl) 0 rfl ?_
        refine g_bipush C (dat dt_X5_readSum 16 rfl) bp_45 ?_
        obtain ⟨v17, q18, hrun⟩ := bd hrun
        refine g_cVi [.int (45 : Int32)] C (dat dt_X5_readSum 17 rfl) ml_5_148 (w_X5_isSign (45 : Int32) h v17  q18) kd_4 ltk_4 rfl rfl cat0 (by have hGD : GD = 60 := rfl; omega) c00 ?_
        refine g_if_eq 77 C (dat dt_X5_readSum 18 rfl) (by decide) (fun c19 => ?_) (fun c19 => ?_)
        · rw [if_neg (b2i_z c19)] at hrun
          refine g_sub [2] (lv' := [(2, .int x2)]) rfl ?_
          cases hrun
          exact Ke ( (x2, h)) rfl
        · rw [if_pos (b2i_nz c19)] at hrun
          refine g_sub [0, 1, 3] (lv' := [(0, .ref 4), (1, .int x1), (3, .int x3)]) rfl ?_
          exact wj_X5_readSum_37_8 rc hD0 hrc C    x1 x3 h _ hrun Ks Ke
def f_X5_readSum (rc : Nat → Int32 → Hp → Option (Bool × Hp)) (x1 : Int32) (h : Hp) : Option (Bool × Hp) :=
  (rc 5 x1 h).bind fun v1 =>
  (lp (fun s => b_X5_readSum_8 rc  x1 s.1 s.2.1 s.2.2) FU ((b2i v1.1), (0 : Int32), v1.2)).bind fun e20 =>
  (i2b e20.1).bind fun b22 => some (b22, e20.2)
set_option maxRecDepth 20000 in
theorem w_X5_readSum (rc : Nat → Int32 → Hp → Option (Bool × Hp)) {D0 : Nat} (hD0 : 10 ≤ D0) (hrc : RC_A rc D0) (x1 : Int32) (h : Hp) (q : (Bool × Hp))  (hrun : f_X5_readSum rc x1 h = some q) : MetA ⟨"SteamNations$Reader", "readSum", "(I)Z"⟩ prog_7_method_16_code 5 (some .boolean) (D0 + 1) 0 0 [.ref 4, .int x1] h (some (.int (b2i q.1))) q.2 := by
  refine metA_of (by decide) (Nat.le_of_ble_eq_true rfl) (fun X C K => ?_)
  have C : Cx X cn_5 prog_7_method_16_code 5 (some .boolean) (D0 + 1) 0 0 := C
  show G X h 0 0 0 [(0, .ref 4), (1, .int x1)] []
  unfold f_X5_readSum at hrun
  refine g_aload_n C (dat dt_X5_readSum 0 rfl) 0 rfl ?_
  refine g_iload_n C (dat dt_X5_readSum 1 rfl) 1 rfl ?_
  obtain ⟨v1, q2, hrun⟩ := bd hrun
  refine g_cVi [.int x1] C (dat dt_X5_readSum 2 rfl) ml_5_157 (hrc.2.2.2.2.2.1 _ _ _ q2) kd_4 ltk_4 rfl rfl cat0 (Nat.le_refl _) c00 ?_
  refine g_istore_n (lv' := [(0, .ref 4), (1, .int x1), (2, .int (b2i v1.1))]) C (dat dt_X5_readSum 3 rfl) (by decide) rfl ?_
  refine g_iconst C (dat dt_X5_readSum 4 rfl) ic_0 ?_
  refine g_istore_n (lv' := [(0, .ref 4), (1, .int x1), (2, .int (b2i v1.1)), (3, .int (0 : Int32))]) C (dat dt_X5_readSum 5 rfl) (by decide) rfl ?_
  obtain ⟨e20, q21, hrun⟩ := bd hrun
  refine lp_ind (P := fun s => kp_X5_readSum_8  x1 X s) (K := fun e => ke_X5_readSum_8  x1 X e) (fun s q hb Ks Ke => wb_X5_readSum_8 rc hD0 hrc C   x1 s.1 s.2.1 s.2.2 q hb Ks Ke) FU ((b2i v1.1), (0 : Int32), v1.2) e20 q21 ?_
  show G X e20.2 0 0 77 [(2, .int e20.1)] []
  refine g_iload_n C (dat dt_X5_readSum 40 rfl) 0 rfl ?_
  obtain ⟨b22, q23, hrun⟩ := bd hrun
  cases hrun
  exact g_zret C K (i2b_eq q23) (dat dt_X5_readSum 41 rfl)
/-! SteamNations$Reader.readTerm(I)Z -/
def dl_X5_readTerm : List (Nat × Instr × Nat) := [(0, .aload_n 0, 1), (1, .iload_n 1, 1), (2, .invokevirtual 160, 3), (5, .istore_n 2, 1), (6, .iconst 0, 1), (7, .istore_n 3, 1), (8, .iload_n 3, 1), (9, .sipush 400, 3), (12, .if_icmp .ge 88, 3), (15, .iload_n 2, 1), (16, .ifCond .eq 84, 3), (19, .aload_n 0, 1), (20, .bipush 42, 2), (22, .invokevirtual 148, 3), (25, .ifCond .ne 21, 3), (28, .aload_n 0, 1), (29, .bipush 47, 2), (31, .invokevirtual 148, 3), (34, .ifCond .ne 12, 3), (37, .aload_n 0, 1), (38, .bipush 37, 2), (40, .invokevirtual 148, 3), (43, .ifCond .eq 57, 3), (46, .aload_n 0, 1), (47, .bipush 42, 2), (49, .invokevirtual 148, 3), (52, .ifCond .eq 7, 3), (55, .iconst 4, 1), (56, .goto 18, 3), (59, .aload_n 0, 1), (60, .bipush 47, 2), (62, .invokevirtual 148, 3), (65, .ifCond .eq 7, 3), (68, .iconst 5, 1), (69, .goto 5, 3), (72, .bipush 6, 2), (74, .istore 4, 2), (76, .aload_n 0, 1), (77, .invokevirtual 58, 3), (80, .aload_n 0, 1), (81, .iload_n 1, 1), (82, .invokevirtual 160, 3), (85, .istore_n 2, 1), (86, .aload_n 0, 1), (87, .iload 4, 2), (89, .iconst 0, 1), (90, .invokevirtual 138, 3), (93, .pop, 1), (94, .iinc 3 1, 3), (97, .goto (-89), 3), (100, .iload_n 2, 1), (101, .ireturn, 1)]
set_option maxRecDepth 20000 in
theorem dt_X5_readTerm : ∀ q ∈ dl_X5_readTerm, decode prog_7_method_17_code q.1 = .ok q.2 := by decide +kernel
def kp_X5_readTerm_8  (x1 : Int32) (X : Xt) (s : (Int32 × Int32 × Hp)) : Prop := G X s.2.2 0 0 8 [(0, .ref 4), (1, .int x1), (2, .int s.1), (3, .int s.2.1)] []
def ke_X5_readTerm_8  (x1 : Int32) (X : Xt) (e : (Int32 × Hp)) : Prop := G X e.2 0 0 100 [(2, .int e.1)] []
def j_X5_readTerm_74_8 (rc : Nat → Int32 → Hp → Option (Bool × Hp))  (x1 : Int32) (x3 : Int32) (s0 : Int32) (h : Hp) : Option ((Int32 × Int32 × Hp) ⊕ (Int32 × Hp)) :=
  (f_X5_goOn  h).bind fun v14 =>
  (rc 6 x1 v14.2).bind fun v16 =>
  (f_X5_put s0 (0 : Int32) v16.2).bind fun v18 =>
  some (.inl ((b2i v16.1), (x3 + (1 : Int32)), v18.2))
set_option maxRecDepth 20000 in
theorem wj_X5_readTerm_74_8 (rc : Nat → Int32 → Hp → Option (Bool × Hp)) {D0 : Nat} (hD0 : 10 ≤ D0) (hrc : RC_A rc D0) {X : Xt} (C : Cx X cn_5 prog_7_method_17_code 5 (some .boolean) (D0 + 1) 0 0)    (x1 : Int32) (x3 : Int32) (s0 : Int32) (h : Hp) (q : (Int32 × Int32 × Hp) ⊕ (Int32 × Hp)) (hrun : j_X5_readTerm_74_8 rc  x1 x3 s0 h = some q) (Ks : ∀ s, q = .inl s → kp_X5_readTerm_8  x1 X s) (Ke : ∀ e, q = .inr e → ke_X5_readTerm_8  x1 X e) : G X h 0 0 74 [(0, .ref 4), (1, .int x1), (3, .int x3)] [.int s0] := by
  unfold j_X5_readTerm_74_8 at hrun
  refine g_istore (lv' := [(0, .ref 4), (1, .int x1), (3, .int x3), (4, .int s0)]) C (dat dt_X5_readTerm 36 rfl) (by decide) rfl ?_
  refine g_aload_n C (dat dt_X5_readTerm 37 rfl) 0 rfl ?_
  obtain ⟨v14, q15, hrun⟩ := bd hrun
  refine g_cVv [] C (dat dt_X5_readTerm 38 rfl) ml_5_58 (w_X5_goOn  h v14  q15) kd_4 ltk_4 rfl rfl cat0 (by have hGD : GD = 60 := rfl; omega) c00 ?_
  refine g_aload_n C (dat dt_X5_readTerm 39 rfl) 0 rfl ?_
  refine g_iload_n C (dat dt_X5_readTerm 40 rfl) 1 rfl ?_
  obtain ⟨v16, q17, hrun⟩ := bd hrun
  refine g_cVi [.int x1] C (dat dt_X5_readTerm 41 rfl) ml_5_160 (hrc.2.2.2.2.2.2 _ _ _ q17) kd_4 ltk_4 rfl rfl cat0 (Nat.le_refl _) c00 ?_
  refine g_istore_n (lv' := [(0, .ref 4), (1, .int x1), (2, .int (b2i v16.1)), (3, .int x3), (4, .int s0)]) C (dat dt_X5_readTerm 42 rfl) (by decide) rfl ?_
  refine g_aload_n C (dat dt_X5_readTerm 43 rfl) 0 rfl ?_
  refine g_iload C (dat dt_X5_readTerm 44 rfl) 4 rfl ?_
  refine g_iconst C (dat dt_X5_readTerm 45 rfl) ic_0 ?_
  obtain ⟨v18, q19, hrun⟩ := bd hrun
  refine g_cVi [.int s0, .int (0 : Int32)] C (dat dt_X5_readTerm 46 rfl) ml_5_138 (w_X5_put s0 (0 : Int32) v16.2 v18  q19) kd_4 ltk_4 rfl rfl cat0 (by have hGD : GD = 60 := rfl; omega) c00 ?_
  refine g_pop C (dat dt_X5_readTerm 47 rfl) rfl ?_
  refine g_iinc (v := (x3 + (1 : Int32))) (lv' := [(0, .ref 4), (1, .int x1), (2, .int (b2i v16.1)), (3, .int (x3 + (1 : Int32))), (4, .int s0)]) C (dat dt_X5_readTerm 48 rfl) 3 rfl (congrArg (fun z => x3 + z) ic_1) (by decide) rfl ?_
  refine g_goto 8 C (dat dt_X5_readTerm 49 rfl) (by decide) ?_
  refine g_sub [0, 1, 2, 3] (lv' := [(0, .ref 4), (1, .int x1), (2, .int (b2i v16.1)), (3, .int (x3 + (1 : Int32)))]) rfl ?_
  cases hrun
  exact Ks ((b2i v16.1), (x3 + (1 : Int32)), v18.2) rfl
def j_X5_readTerm_46_8 (rc : Nat → Int32 → Hp → Option (Bool × Hp))  (x1 : Int32) (x3 : Int32) (h : Hp) : Option ((Int32 × Int32 × Hp) ⊕ (Int32 × Hp)) :=
  (f_X5_isSign (42 : Int32) h).bind fun v8 =>
  if v8 = true then
  j_X5_readTerm_74_8 rc  x1 x3 (4 : Int32) h
  else
  (f_X5_isSign (47 : Int32) h).bind fun v11 =>
  if v11 = true then
  j_X5_readTerm_74_8 rc  x1 x3 (5 : Int32) h
  else
  j_X5_readTerm_74_8 rc  x1 x3 (6 : Int32) h
set_option maxRecDepth 20000 in
theorem wj_X5_readTerm_46_8 (rc : Nat → Int32 → Hp → Option (Bool × Hp)) {D0 : Nat} (hD0 : 10 ≤ D0) (hrc : RC_A rc D0) {X : Xt} (C : Cx X cn_5 prog_7_method_17_code 5 (some .boolean) (D0 + 1) 0 0)    (x1 : Int32) (x3 : Int32) (h : Hp) (q : (Int32 × Int32 × Hp) ⊕ (Int32 × Hp)) (hrun : j_X5_readTerm_46_8 rc  x1 x3 h = some q) (Ks : ∀ s, q = .inl s → kp_X5_readTerm_8  x1 X s) (Ke : ∀ e, q = .inr e → ke_X5_readTerm_8  x1 X e) : G X h 0 0 46 [(0, .ref 4), (1, .int x1), (3, .int x3)] [] := by
  unfold j_X5_readTerm_46_8 at hrun
  refine g_aload_n C (dat dt_X5_readTerm 23 rfl) 0 rfl ?_
  refine g_bipush C (dat dt_X5_readTerm 24 rfl) bp_42 ?_
  obtain ⟨v8, q9, hrun⟩ := bd hrun
  refine g_cVi [.int (42 : Int32)] C (dat dt_X5_readTerm 25 rfl) ml_5_148 (w_X5_isSign (42 : Int32) h v8  q9) kd_4 ltk_4 rfl rfl cat0 (by have hGD : GD = 60 := rfl; omega) c00 ?_
  refine g_if_eq 59 C (dat dt_X5_readTerm 26 rfl) (by decide) (fun c10 => ?_) (fun c10 => ?_)
  · rw [if_neg (b2i_z c10)] at hrun
    refine g_aload_n C (dat dt_X5_readTerm 29 rfl) 0 rfl ?_
    refine g_bipush C (dat dt_X5_readTerm 30 rfl) bp_47 ?_
    obtain ⟨v11, q12, hrun⟩ := bd hrun
    refine g_cVi [.int (47 : Int32)] C (dat dt_X5_readTerm 31 rfl) ml_5_148 (w_X5_isSign (47 : Int32) h v11  q12) kd_4 ltk_4 rfl rfl cat0 (by have hGD : GD = 60 := rfl; omega) c00 ?_
    refine g_if_eq 72 C (dat dt_X5_readTerm 32 rfl) (by decide) (fun c13 => ?_) (fun c13 => ?_)
    · rw [if_neg (b2i_z c13)] at hrun
      refine g_bipush C (dat dt_X5_readTerm 35 rfl) bp_6 ?_
      exact wj_X5_readTerm_74_8 rc hD0 hrc C    x1 x3 (6 : Int32) h _ hrun Ks Ke
    · rw [if_pos (b2i_nz c13)] at hrun
      refine g_iconst C (dat dt_X5_readTerm 33 rfl) ic_5 ?_
      refine g_goto 74 C (dat dt_X5_readTerm 34 rfl) (by decide) ?_
      exact wj_X5_readTerm_74_8 rc hD0 hrc C    x1 x3 (5 : Int32) h _ hrun Ks Ke
  · rw [if_pos (b2i_nz c10)] at hrun
    refine g_iconst C (dat dt_X5_readTerm 27 rfl) ic_4 ?_
    refine g_goto 74 C (dat dt_X5_readTerm 28 rfl) (by decide) ?_
    exact wj_X5_readTerm_74_8 rc hD0 hrc C    x1 x3 (4 : Int32) h _ hrun Ks Ke
def b_X5_readTerm_8 (rc : Nat → Int32 → Hp → Option (Bool × Hp))  (x1 : Int32) (x2 : Int32) (x3 : Int32) (h : Hp) : Option ((Int32 × Int32 × Hp) ⊕ (Int32 × Hp)) :=
  if (400 : Int32) ≤ x3 then
  some (.inr ( (x2, h)))
  else
  if x2 = 0 then
  some (.inr ( (x2, h)))
  else
  (f_X5_isSign (42 : Int32) h).bind fun v5 =>
  if v5 = true then
  j_X5_readTerm_46_8 rc  x1 x3 h
  else
  (f_X5_isSign (47 : Int32) h).bind fun v20 =>
  if v20 = true then
  j_X5_readTerm_46_8 rc  x1 x3 h
  else
  (f_X5_isSign (37 : Int32) h).bind fun v23 =>
  if v23 = true then
  j_X5_readTerm_46_8 rc  x1 x3 h
  else
  some (.inr ( (x2, h)))
set_option maxRecDepth 20000 in
theorem wb_X5_readTerm_8 (rc : Nat → Int32 → Hp → Option (Bool × Hp)) {D0 : Nat} (hD0 : 10 ≤ D0) (hrc : RC_A rc D0) {X : Xt} (C : Cx X cn_5 prog_7_method_17_code 5 (some .boolean) (D0 + 1) 0 0)   (x1 : Int32) (x2 : Int32) (x3 : Int32) (h : Hp) (q : (Int32 × Int32 × Hp) ⊕ (Int32 × Hp)) (hrun : b_X5_readTerm_8 rc  x1 x2 x3 h = some q) (Ks : ∀ s, q = .inl s → kp_X5_readTerm_8  x1 X s) (Ke : ∀ e, q = .inr e → ke_X5_readTerm_8  x1 X e) : kp_X5_readTerm_8  x1 X (x2, x3, h) := by
  show G X h 0 0 8 [(0, .ref 4), (1, .int x1), (2, .int x2), (3, .int x3)] []
  unfold b_X5_readTerm_8 at hrun
  refine g_iload_n C (dat dt_X5_readTerm 6 rfl) 3 rfl ?_
  refine g_sipush C (dat dt_X5_readTerm 7 rfl) sp_400 ?_
  refine g_ic_ge 100 C (dat dt_X5_readTerm 8 rfl) (by decide) (fun c3 => ?_) (fun c3 => ?_)
  · rw [if_pos c3] at hrun
    refine g_sub [2] (lv' := [(2, .int x2)]) rfl ?_
    cases hrun
    exact Ke ( (x2, h)) rfl
  · rw [if_neg c3] at hrun
    refine g_iload_n C (dat dt_X5_readTerm 9 rfl) 2 rfl ?_
    refine g_if_eq 100 C (dat dt_X5_readTerm 10 rfl) (by decide) (fun c4 => ?_) (fun c4 => ?_)
    · rw [if_pos c4] at hrun
      refine g_sub [2] (lv' := [(2, .int x2)]) rfl ?_
      cases hrun
      exact Ke ( (x2, h)) rfl
    · rw [if_neg c4] at hrun
      refine g_aload_n C (dat dt_X5_readTerm 11 rfl) 0 rfl ?_
      refine g_bipush C (dat dt_X5_readTerm 12 rfl) bp_42 ?_
      obtain ⟨v5, q6, hrun⟩ := bd hrun
      refine g_cVi [.int (42 : Int32)] C (dat dt_X5_readTerm 13 rfl) ml_5_148 (w_X5_isSign (42 : Int32) h v5  q6) kd_4 ltk_4 rfl rfl cat0 (by have hGD : GD = 60 := rfl; omega) c00 ?_
      refine g_if_ne 46 C (dat dt_X5_readTerm 14 rfl) (by decide) (fun c7 => ?_) (fun c7 => ?_)
      · rw [if_pos (b2i_nz c7)] at hrun
        refine g_sub [0, 1, 3] (lv' := [(0, .ref 4), (1, .int x1), (3, .int x3)]) rfl ?_
        exact wj_X5_readTerm_46_8 rc hD0 hrc C    x1 x3 h _ hrun Ks Ke
      · rw [if_neg (b2i_z c7)] at hrun
        refine g_aload_n C (dat dt_X5_readTerm 15 rfl) 0 rfl ?_
        refine g_bipush C (dat dt_X5_readTerm 16 rfl) bp_47 ?_
        obtain ⟨v20, q21, hrun⟩ := bd hrun
        refine g_cVi [.int (47 : Int32)] C (dat dt_X5_readTerm 17 rfl) ml_5_148 (w_X5_isSign (47 : Int32) h v20  q21) kd_4 ltk_4 rfl rfl cat0 (by have hGD : GD = 60 := rfl; omega) c00 ?_
        refine g_if_ne 46 C (dat dt_X5_readTerm 18 rfl) (by decide) (fun c22 => ?_) (fun c22 => ?_)
        · rw [if_pos (b2i_nz c22)] at hrun
          refine g_sub [0, 1, 3] (lv' := [(0, .ref 4), (1, .int x1), (3, .int x3)]) rfl ?_
          exact wj_X5_readTerm_46_8 rc hD0 hrc C    x1 x3 h _ hrun Ks Ke
        · rw [if_neg (b2i_z c22)] at hrun
          refine g_aload_n C (dat dt_X5_readTerm 19 rfl) 0 rfl ?_
          refine g_bipush C (dat dt_X5_readTerm 20 rfl) bp_37 ?_
          obtain ⟨v23, q24, hrun⟩ := bd hrun
          refine g_cVi [.int (37 : Int32)] C (dat dt_X5_readTerm 21 rfl) ml_5_148 (w_X5_isSign (37 : Int32) h v23  q24) kd_4 ltk_4 rfl rfl cat0 (by have hGD : GD = 60 := rfl; omega) c00 ?_
          refine g_if_eq 100 C (dat dt_X5_readTerm 22 rfl) (by decide) (fun c25 => ?_) (fun c25 => ?_)
          · rw [if_neg (b2i_z c25)] at hrun
            refine g_sub [2] (lv' := [(2, .int x2)]) rfl ?_
            cases hrun
            exact Ke ( (x2, h)) rfl
          · rw [if_pos (b2i_nz c25)] at hrun
            refine g_sub [0, 1, 3] (lv' := [(0, .ref 4), (1, .int x1), (3, .int x3)]) rfl ?_
            exact wj_X5_readTerm_46_8 rc hD0 hrc C    x1 x3 h _ hrun Ks Ke
def f_X5_readTerm (rc : Nat → Int32 → Hp → Option (Bool × Hp)) (x1 : Int32) (h : Hp) : Option (Bool × Hp) :=
  (rc 6 x1 h).bind fun v1 =>
  (lp (fun s => b_X5_readTerm_8 rc  x1 s.1 s.2.1 s.2.2) FU ((b2i v1.1), (0 : Int32), v1.2)).bind fun e26 =>
  (i2b e26.1).bind fun b28 => some (b28, e26.2)
set_option maxRecDepth 20000 in
theorem w_X5_readTerm (rc : Nat → Int32 → Hp → Option (Bool × Hp)) {D0 : Nat} (hD0 : 10 ≤ D0) (hrc : RC_A rc D0) (x1 : Int32) (h : Hp) (q : (Bool × Hp))  (hrun : f_X5_readTerm rc x1 h = some q) : MetA ⟨"SteamNations$Reader", "readTerm", "(I)Z"⟩ prog_7_method_17_code 5 (some .boolean) (D0 + 1) 0 0 [.ref 4, .int x1] h (some (.int (b2i q.1))) q.2 := by
  refine metA_of (by decide) (Nat.le_of_ble_eq_true rfl) (fun X C K => ?_)
  have C : Cx X cn_5 prog_7_method_17_code 5 (some .boolean) (D0 + 1) 0 0 := C
  show G X h 0 0 0 [(0, .ref 4), (1, .int x1)] []
  unfold f_X5_readTerm at hrun
  refine g_aload_n C (dat dt_X5_readTerm 0 rfl) 0 rfl ?_
  refine g_iload_n C (dat dt_X5_readTerm 1 rfl) 1 rfl ?_
  obtain ⟨v1, q2, hrun⟩ := bd hrun
  refine g_cVi [.int x1] C (dat dt_X5_readTerm 2 rfl) ml_5_160 (hrc.2.2.2.2.2.2 _ _ _ q2) kd_4 ltk_4 rfl rfl cat0 (Nat.le_refl _) c00 ?_
  refine g_istore_n (lv' := [(0, .ref 4), (1, .int x1), (2, .int (b2i v1.1))]) C (dat dt_X5_readTerm 3 rfl) (by decide) rfl ?_
  refine g_iconst C (dat dt_X5_readTerm 4 rfl) ic_0 ?_
  refine g_istore_n (lv' := [(0, .ref 4), (1, .int x1), (2, .int (b2i v1.1)), (3, .int (0 : Int32))]) C (dat dt_X5_readTerm 5 rfl) (by decide) rfl ?_
  obtain ⟨e26, q27, hrun⟩ := bd hrun
  refine lp_ind (P := fun s => kp_X5_readTerm_8  x1 X s) (K := fun e => ke_X5_readTerm_8  x1 X e) (fun s q hb Ks Ke => wb_X5_readTerm_8 rc hD0 hrc C   x1 s.1 s.2.1 s.2.2 q hb Ks Ke) FU ((b2i v1.1), (0 : Int32), v1.2) e26 q27 ?_
  show G X e26.2 0 0 100 [(2, .int e26.1)] []
  refine g_iload_n C (dat dt_X5_readTerm 50 rfl) 0 rfl ?_
  obtain ⟨b28, q29, hrun⟩ := bd hrun
  cases hrun
  exact g_zret C K (i2b_eq q29) (dat dt_X5_readTerm 51 rfl)
/-! SteamNations$Reader.readPart(I)Z -/
def dl_X5_readPart : List (Nat × Instr × Nat) := [(0, .aload_n 0, 1), (1, .bipush 91, 2), (3, .invokevirtual 148, 3), (6, .ifCond .eq 45, 3), (9, .aload_n 0, 1), (10, .iload_n 1, 1), (11, .invokevirtual 151, 3), (14, .ifCond .eq 35, 3), (17, .aload_n 0, 1), (18, .bipush 91, 2), (20, .invokevirtual 83, 3), (23, .ifCond .eq 26, 3), (26, .aload_n 0, 1), (27, .iload_n 1, 1), (28, .iconst 1, 1), (29, .iadd, 1), (30, .invokevirtual 120, 3), (33, .ifCond .eq 16, 3), (36, .aload_n 0, 1), (37, .bipush 93, 2), (39, .invokevirtual 83, 3), (42, .ifCond .eq 7, 3), (45, .iconst 1, 1), (46, .goto 4, 3), (49, .iconst 0, 1), (50, .ireturn, 1), (51, .aload_n 0, 1), (52, .getfield 42, 3), (55, .bipush 50, 2), (57, .if_icmp .lt 8, 3), (60, .aload_n 0, 1), (61, .invokevirtual 87, 3), (64, .ireturn, 1), (65, .aload_n 0, 1), (66, .dup, 1), (67, .getfield 42, 3), (70, .iconst 1, 1), (71, .iadd, 1), (72, .putfield 42, 3), (75, .aload_n 0, 1), (76, .invokevirtual 129, 3), (79, .istore_n 2, 1), (80, .iload_n 2, 1), (81, .iconst (-1), 1), (82, .if_icmp .ne 22, 3), (85, .aload_n 0, 1), (86, .getfield 35, 3), (89, .ifCond .eq 10, 3), (92, .aload_n 0, 1), (93, .invokevirtual 163, 3), (96, .goto 7, 3), (99, .aload_n 0, 1), (100, .invokevirtual 166, 3), (103, .ireturn, 1), (104, .iload_n 2, 1), (105, .sipush 1000, 3), (108, .if_icmp .le 8, 3), (111, .aload_n 0, 1), (112, .invokevirtual 87, 3), (115, .ireturn, 1), (116, .aload_n 0, 1), (117, .iconst 0, 1), (118, .iload_n 2, 1), (119, .invokevirtual 138, 3), (122, .pop, 1), (123, .aload_n 0, 1), (124, .invokevirtual 58, 3), (127, .iconst 1, 1), (128, .ireturn, 1)]
set_option maxRecDepth 20000 in
theorem dt_X5_readPart : ∀ q ∈ dl_X5_readPart, decode prog_7_method_18_code q.1 = .ok q.2 := by decide +kernel
def f_X5_readPart (rc : Nat → Int32 → Hp → Option (Bool × Hp)) (x1 : Int32) (h : Hp) : Option (Bool × Hp) :=
  (f_X5_isSign (91 : Int32) h).bind fun v1 =>
  if v1 = true then
  (f_X5_canOpen x1 h).bind fun v22 =>
  if v22.1 = true then
  (f_X5_takeSign (91 : Int32) v22.2).bind fun v25 =>
  if v25.1 = true then
  (rc 4 (x1 + (1 : Int32)) v25.2).bind fun v28 =>
  if v28.1 = true then
  (f_X5_takeSign (93 : Int32) v28.2).bind fun v31 =>
  if v31.1 = true then
  some (true, v31.2)
  else
  some (false, v31.2)
  else
  some (false, v28.2)
  else
  some (false, v25.2)
  else
  some (false, v22.2)
  else
  if (fI h 4 9) < (50 : Int32) then
  (f_X5_numberHere  (sF h 4 9 ((fI h 4 9) + (1 : Int32)))).bind fun v5 =>
  if v5 = (-1 : Int32) then
  if (fI (sF h 4 9 ((fI h 4 9) + (1 : Int32))) 4 5) = 0 then
  (f_X5_readLawWord  (sF h 4 9 ((fI h 4 9) + (1 : Int32)))).bind fun v16 =>
  some (v16.1, v16.2)
  else
  (f_X5_readOrdersWord  (sF h 4 9 ((fI h 4 9) + (1 : Int32)))).bind fun v18 =>
  some (v18.1, v18.2)
  else
  if v5 ≤ (1000 : Int32) then
  (f_X5_put (0 : Int32) v5 (sF h 4 9 ((fI h 4 9) + (1 : Int32)))).bind fun v9 =>
  (f_X5_goOn  v9.2).bind fun v11 =>
  some (true, v11.2)
  else
  (f_X5_wrong  (sF h 4 9 ((fI h 4 9) + (1 : Int32)))).bind fun v13 =>
  some (v13.1, v13.2)
  else
  (f_X5_wrong  h).bind fun v20 =>
  some (v20.1, v20.2)
set_option maxRecDepth 20000 in
theorem w_X5_readPart (rc : Nat → Int32 → Hp → Option (Bool × Hp)) {D0 : Nat} (hD0 : 10 ≤ D0) (hrc : RC_A rc D0) (x1 : Int32) (h : Hp) (q : (Bool × Hp))  (hrun : f_X5_readPart rc x1 h = some q) : MetA ⟨"SteamNations$Reader", "readPart", "(I)Z"⟩ prog_7_method_18_code 3 (some .boolean) (D0 + 1) 0 0 [.ref 4, .int x1] h (some (.int (b2i q.1))) q.2 := by
  refine metA_of (by decide) (Nat.le_of_ble_eq_true rfl) (fun X C K => ?_)
  have C : Cx X cn_5 prog_7_method_18_code 3 (some .boolean) (D0 + 1) 0 0 := C
  show G X h 0 0 0 [(0, .ref 4), (1, .int x1)] []
  unfold f_X5_readPart at hrun
  refine g_aload_n C (dat dt_X5_readPart 0 rfl) 0 rfl ?_
  refine g_bipush C (dat dt_X5_readPart 1 rfl) bp_91 ?_
  obtain ⟨v1, q2, hrun⟩ := bd hrun
  refine g_cVi [.int (91 : Int32)] C (dat dt_X5_readPart 2 rfl) ml_5_148 (w_X5_isSign (91 : Int32) h v1  q2) kd_4 ltk_4 rfl rfl cat0 (by have hGD : GD = 60 := rfl; omega) c00 ?_
  refine g_if_eq 51 C (dat dt_X5_readPart 3 rfl) (by decide) (fun c3 => ?_) (fun c3 => ?_)
  · rw [if_neg (b2i_z c3)] at hrun
    refine g_aload_n C (dat dt_X5_readPart 26 rfl) 0 rfl ?_
    refine g_getI C (dat dt_X5_readPart 27 rfl) fl_5_42 kd_4 rfl ltk_4 ?_
    refine g_bipush C (dat dt_X5_readPart 28 rfl) bp_50 ?_
    refine g_ic_lt 65 C (dat dt_X5_readPart 29 rfl) (by decide) (fun c4 => ?_) (fun c4 => ?_)
    · rw [if_pos c4] at hrun
      refine g_aload_n C (dat dt_X5_readPart 33 rfl) 0 rfl ?_
      refine g_dup C (dat dt_X5_readPart 34 rfl) rfl ?_
      refine g_getI C (dat dt_X5_readPart 35 rfl) fl_5_42 kd_4 rfl ltk_4 ?_
      refine g_iconst C (dat dt_X5_readPart 36 rfl) ic_1 ?_
      refine g_iadd C (dat dt_X5_readPart 37 rfl) ?_
      refine g_putI C (dat dt_X5_readPart 38 rfl) fl_5_42 rfl rfl kd_4 rfl ltk_4 ?_
      refine g_aload_n C (dat dt_X5_readPart 39 rfl) 0 rfl ?_
      obtain ⟨v5, q6, hrun⟩ := bd hrun
      refine g_cVi [] C (dat dt_X5_readPart 40 rfl) ml_5_129 (w_X5_numberHere  (sF h 4 9 ((fI h 4 9) + (1 : Int32))) v5  q6) kd_4 ltk_4 rfl rfl cat0 (by have hGD : GD = 60 := rfl; omega) c00 ?_
      refine g_istore_n (lv' := [(0, .ref 4), (1, .int x1), (2, .int v5)]) C (dat dt_X5_readPart 41 rfl) (by decide) rfl ?_
      refine g_iload_n C (dat dt_X5_readPart 42 rfl) 2 rfl ?_
      refine g_iconst C (dat dt_X5_readPart 43 rfl) ic_m1 ?_
      refine g_ic_ne 104 C (dat dt_X5_readPart 44 rfl) (by decide) (fun c7 => ?_) (fun c7 => ?_)
      · rw [if_neg c7] at hrun
        refine g_iload_n C (dat dt_X5_readPart 54 rfl) 2 rfl ?_
        refine g_sipush C (dat dt_X5_readPart 55 rfl) sp_1000 ?_
        refine g_ic_le 116 C (dat dt_X5_readPart 56 rfl) (by decide) (fun c8 => ?_) (fun c8 => ?_)
        · rw [if_pos c8] at hrun
          refine g_aload_n C (dat dt_X5_readPart 60 rfl) 0 rfl ?_
          refine g_iconst C (dat dt_X5_readPart 61 rfl) ic_0 ?_
          refine g_iload_n C (dat dt_X5_readPart 62 rfl) 2 rfl ?_
          obtain ⟨v9, q10, hrun⟩ := bd hrun
          refine g_cVi [.int (0 : Int32), .int v5] C (dat dt_X5_readPart 63 rfl) ml_5_138 (w_X5_put (0 : Int32) v5 (sF h 4 9 ((fI h 4 9) + (1 : Int32))) v9  q10) kd_4 ltk_4 rfl rfl cat0 (by have hGD : GD = 60 := rfl; omega) c00 ?_
          refine g_pop C (dat dt_X5_readPart 64 rfl) rfl ?_
          refine g_aload_n C (dat dt_X5_readPart 65 rfl) 0 rfl ?_
          obtain ⟨v11, q12, hrun⟩ := bd hrun
          refine g_cVv [] C (dat dt_X5_readPart 66 rfl) ml_5_58 (w_X5_goOn  v9.2 v11  q12) kd_4 ltk_4 rfl rfl cat0 (by have hGD : GD = 60 := rfl; omega) c00 ?_
          refine g_iconst C (dat dt_X5_readPart 67 rfl) ic_1 ?_
          cases hrun
          exact g_zret C K (show (1 : Int32) = b2i true by decide) (dat dt_X5_readPart 68 rfl)
        · rw [if_neg c8] at hrun
          refine g_aload_n C (dat dt_X5_readPart 57 rfl) 0 rfl ?_
          obtain ⟨v13, q14, hrun⟩ := bd hrun
          refine g_cVi [] C (dat dt_X5_readPart 58 rfl) ml_5_87 (w_X5_wrong  (sF h 4 9 ((fI h 4 9) + (1 : Int32))) v13  q14) kd_4 ltk_4 rfl rfl cat0 (by have hGD : GD = 60 := rfl; omega) c00 ?_
          cases hrun
          exact g_zret C K rfl (dat dt_X5_readPart 59 rfl)
      · rw [if_pos c7] at hrun
        refine g_aload_n C (dat dt_X5_readPart 45 rfl) 0 rfl ?_
        refine g_getI C (dat dt_X5_readPart 46 rfl) fl_5_35 kd_4 rfl ltk_4 ?_
        refine g_if_eq 99 C (dat dt_X5_readPart 47 rfl) (by decide) (fun c15 => ?_) (fun c15 => ?_)
        · rw [if_pos c15] at hrun
          refine g_aload_n C (dat dt_X5_readPart 51 rfl) 0 rfl ?_
          obtain ⟨v16, q17, hrun⟩ := bd hrun
          refine g_cVi [] C (dat dt_X5_readPart 52 rfl) ml_5_166 (w_X5_readLawWord  (sF h 4 9 ((fI h 4 9) + (1 : Int32))) v16  q17) kd_4 ltk_4 rfl rfl cat0 (by have hGD : GD = 60 := rfl; omega) c00 ?_
          cases hrun
          exact g_zret C K rfl (dat dt_X5_readPart 53 rfl)
        · rw [if_neg c15] at hrun
          refine g_aload_n C (dat dt_X5_readPart 48 rfl) 0 rfl ?_
          obtain ⟨v18, q19, hrun⟩ := bd hrun
          refine g_cVi [] C (dat dt_X5_readPart 49 rfl) ml_5_163 (w_X5_readOrdersWord  (sF h 4 9 ((fI h 4 9) + (1 : Int32))) v18  q19) kd_4 ltk_4 rfl rfl cat0 (by have hGD : GD = 60 := rfl; omega) c00 ?_
          refine g_goto 103 C (dat dt_X5_readPart 50 rfl) (by decide) ?_
          cases hrun
          exact g_zret C K rfl (dat dt_X5_readPart 53 rfl)
    · rw [if_neg c4] at hrun
      refine g_aload_n C (dat dt_X5_readPart 30 rfl) 0 rfl ?_
      obtain ⟨v20, q21, hrun⟩ := bd hrun
      refine g_cVi [] C (dat dt_X5_readPart 31 rfl) ml_5_87 (w_X5_wrong  h v20  q21) kd_4 ltk_4 rfl rfl cat0 (by have hGD : GD = 60 := rfl; omega) c00 ?_
      cases hrun
      exact g_zret C K rfl (dat dt_X5_readPart 32 rfl)
  · rw [if_pos (b2i_nz c3)] at hrun
    refine g_aload_n C (dat dt_X5_readPart 4 rfl) 0 rfl ?_
    refine g_iload_n C (dat dt_X5_readPart 5 rfl) 1 rfl ?_
    obtain ⟨v22, q23, hrun⟩ := bd hrun
    refine g_cVi [.int x1] C (dat dt_X5_readPart 6 rfl) ml_5_151 (w_X5_canOpen x1 h v22  q23) kd_4 ltk_4 rfl rfl cat0 (by have hGD : GD = 60 := rfl; omega) c00 ?_
    refine g_if_eq 49 C (dat dt_X5_readPart 7 rfl) (by decide) (fun c24 => ?_) (fun c24 => ?_)
    · rw [if_neg (b2i_z c24)] at hrun
      refine g_iconst C (dat dt_X5_readPart 24 rfl) ic_0 ?_
      cases hrun
      exact g_zret C K (show (0 : Int32) = b2i false by decide) (dat dt_X5_readPart 25 rfl)
    · rw [if_pos (b2i_nz c24)] at hrun
      refine g_aload_n C (dat dt_X5_readPart 8 rfl) 0 rfl ?_
      refine g_bipush C (dat dt_X5_readPart 9 rfl) bp_91 ?_
      obtain ⟨v25, q26, hrun⟩ := bd hrun
      refine g_cVi [.int (91 : Int32)] C (dat dt_X5_readPart 10 rfl) ml_5_83 (w_X5_takeSign (91 : Int32) v22.2 v25  q26) kd_4 ltk_4 rfl rfl cat0 (by have hGD : GD = 60 := rfl; omega) c00 ?_
      refine g_if_eq 49 C (dat dt_X5_readPart 11 rfl) (by decide) (fun c27 => ?_) (fun c27 => ?_)
      · rw [if_neg (b2i_z c27)] at hrun
        refine g_iconst C (dat dt_X5_readPart 24 rfl) ic_0 ?_
        cases hrun
        exact g_zret C K (show (0 : Int32) = b2i false by decide) (dat dt_X5_readPart 25 rfl)
      · rw [if_pos (b2i_nz c27)] at hrun
        refine g_aload_n C (dat dt_X5_readPart 12 rfl) 0 rfl ?_
        refine g_iload_n C (dat dt_X5_readPart 13 rfl) 1 rfl ?_
        refine g_iconst C (dat dt_X5_readPart 14 rfl) ic_1 ?_
        refine g_iadd C (dat dt_X5_readPart 15 rfl) ?_
        obtain ⟨v28, q29, hrun⟩ := bd hrun
        refine g_cVi [.int (x1 + (1 : Int32))] C (dat dt_X5_readPart 16 rfl) ml_5_120 (hrc.2.2.2.2.1 _ _ _ q29) kd_4 ltk_4 rfl rfl cat0 (Nat.le_refl _) c00 ?_
        refine g_if_eq 49 C (dat dt_X5_readPart 17 rfl) (by decide) (fun c30 => ?_) (fun c30 => ?_)
        · rw [if_neg (b2i_z c30)] at hrun
          refine g_iconst C (dat dt_X5_readPart 24 rfl) ic_0 ?_
          cases hrun
          exact g_zret C K (show (0 : Int32) = b2i false by decide) (dat dt_X5_readPart 25 rfl)
        · rw [if_pos (b2i_nz c30)] at hrun
          refine g_aload_n C (dat dt_X5_readPart 18 rfl) 0 rfl ?_
          refine g_bipush C (dat dt_X5_readPart 19 rfl) bp_93 ?_
          obtain ⟨v31, q32, hrun⟩ := bd hrun
          refine g_cVi [.int (93 : Int32)] C (dat dt_X5_readPart 20 rfl) ml_5_83 (w_X5_takeSign (93 : Int32) v28.2 v31  q32) kd_4 ltk_4 rfl rfl cat0 (by have hGD : GD = 60 := rfl; omega) c00 ?_
          refine g_if_eq 49 C (dat dt_X5_readPart 21 rfl) (by decide) (fun c33 => ?_) (fun c33 => ?_)
          · rw [if_neg (b2i_z c33)] at hrun
            refine g_iconst C (dat dt_X5_readPart 24 rfl) ic_0 ?_
            cases hrun
            exact g_zret C K (show (0 : Int32) = b2i false by decide) (dat dt_X5_readPart 25 rfl)
          · rw [if_pos (b2i_nz c33)] at hrun
            refine g_iconst C (dat dt_X5_readPart 22 rfl) ic_1 ?_
            refine g_goto 50 C (dat dt_X5_readPart 23 rfl) (by decide) ?_
            cases hrun
            exact g_zret C K (show (1 : Int32) = b2i true by decide) (dat dt_X5_readPart 25 rfl)
def gr_A : Nat → Nat → Int32 → Hp → Option (Bool × Hp)
  | 0, _, _, _ => none
  | d + 1, k, x, h => if k = 0 then f_X5_readTest (gr_A d) x h else if k = 1 then f_X5_readBoth (gr_A d) x h else if k = 2 then f_X5_readPlain (gr_A d) x h else if k = 3 then f_X5_readComparison (gr_A d) x h else if k = 4 then f_X5_readSum (gr_A d) x h else if k = 5 then f_X5_readTerm (gr_A d) x h else if k = 6 then f_X5_readPart (gr_A d) x h else none
theorem w_gr_A : ∀ d, RC_A (gr_A d) (10 + d)
  | 0 => ⟨fun x h q hq => (by cases hq), fun x h q hq => (by cases hq), fun x h q hq => (by cases hq), fun x h q hq => (by cases hq), fun x h q hq => (by cases hq), fun x h q hq => (by cases hq), fun x h q hq => (by cases hq)⟩
  | d + 1 => by
    have ih := w_gr_A d
    refine ⟨?_, ?_, ?_, ?_, ?_, ?_, ?_⟩
    · intro x h q hq
      unfold gr_A at hq
      rw [if_pos rfl] at hq
      exact w_X5_readTest _ (by omega) ih x h q hq
    · intro x h q hq
      unfold gr_A at hq
      rw [if_neg (by decide)] at hq
      rw [if_pos rfl] at hq
      exact w_X5_readBoth _ (by omega) ih x h q hq
    · intro x h q hq
      unfold gr_A at hq
      rw [if_neg (by decide)] at hq
      rw [if_neg (by decide)] at hq
      rw [if_pos rfl] at hq
      exact w_X5_readPlain _ (by omega) ih x h q hq
    · intro x h q hq
      unfold gr_A at hq
      rw [if_neg (by decide)] at hq
      rw [if_neg (by decide)] at hq
      rw [if_neg (by decide)] at hq
      rw [if_pos rfl] at hq
      exact w_X5_readComparison _ (by omega) ih x h q hq
    · intro x h q hq
      unfold gr_A at hq
      rw [if_neg (by decide)] at hq
      rw [if_neg (by decide)] at hq
      rw [if_neg (by decide)] at hq
      rw [if_neg (by decide)] at hq
      rw [if_pos rfl] at hq
      exact w_X5_readSum _ (by omega) ih x h q hq
    · intro x h q hq
      unfold gr_A at hq
      rw [if_neg (by decide)] at hq
      rw [if_neg (by decide)] at hq
      rw [if_neg (by decide)] at hq
      rw [if_neg (by decide)] at hq
      rw [if_neg (by decide)] at hq
      rw [if_pos rfl] at hq
      exact w_X5_readTerm _ (by omega) ih x h q hq
    · intro x h q hq
      unfold gr_A at hq
      rw [if_neg (by decide)] at hq
      rw [if_neg (by decide)] at hq
      rw [if_neg (by decide)] at hq
      rw [if_neg (by decide)] at hq
      rw [if_neg (by decide)] at hq
      rw [if_neg (by decide)] at hq
      rw [if_pos rfl] at hq
      exact w_X5_readPart _ (by omega) ih x h q hq
