/-! SteamNations.canBeParts(I)Z -/
def dl_X10_canBeParts : List (Nat × Instr × Nat) := [(0, .iload_n 0, 1), (1, .ifCond .lt 13, 3), (4, .iload_n 0, 1), (5, .bipush 99, 2), (7, .if_icmp .gt 7, 3), (10, .iconst 1, 1), (11, .goto 4, 3), (14, .iconst 0, 1), (15, .ireturn, 1)]
set_option maxRecDepth 20000 in
theorem dt_X10_canBeParts : ∀ q ∈ dl_X10_canBeParts, decode prog_1_method_50_code q.1 = .ok q.2 := by decide +kernel
def f_X10_canBeParts (x0 : Int32) : Option Bool :=
  if x0 < 0 then
  some false
  else
  if (99 : Int32) < x0 then
  some false
  else
  some true
set_option maxRecDepth 20000 in
theorem w_X10_canBeParts (x0 : Int32) (h : Hp) (q : Bool)  (hrun : f_X10_canBeParts x0 = some q) : MetA ⟨"SteamNations", "canBeParts", "(I)Z"⟩ prog_1_method_50_code 1 (some .boolean) 1 0 0 [.int x0] h (some (.int (b2i q))) h := by
  refine metA_of (by decide) (Nat.le_of_ble_eq_true rfl) (fun X C K => ?_)
  have C : Cx X cn_10 prog_1_method_50_code 1 (some .boolean) 1 0 0 := C
  show G X h 0 0 0 [(0, .int x0)] []
  unfold f_X10_canBeParts at hrun
  refine g_iload_n C (dat dt_X10_canBeParts 0 rfl) 0 rfl ?_
  refine g_if_lt 14 C (dat dt_X10_canBeParts 1 rfl) (by decide) (fun c1 => ?_) (fun c1 => ?_)
  · rw [if_pos c1] at hrun
    refine g_iconst C (dat dt_X10_canBeParts 7 rfl) ic_0 ?_
    cases hrun
    exact g_zret C K (show (0 : Int32) = b2i false by decide) (dat dt_X10_canBeParts 8 rfl)
  · rw [if_neg c1] at hrun
    refine g_iload_n C (dat dt_X10_canBeParts 2 rfl) 0 rfl ?_
    refine g_bipush C (dat dt_X10_canBeParts 3 rfl) bp_99 ?_
    refine g_ic_gt 14 C (dat dt_X10_canBeParts 4 rfl) (by decide) (fun c2 => ?_) (fun c2 => ?_)
    · rw [if_pos c2] at hrun
      refine g_iconst C (dat dt_X10_canBeParts 7 rfl) ic_0 ?_
      cases hrun
      exact g_zret C K (show (0 : Int32) = b2i false by decide) (dat dt_X10_canBeParts 8 rfl)
    · rw [if_neg c2] at hrun
      refine g_iconst C (dat dt_X10_canBeParts 5 rfl) ic_1 ?_
      refine g_goto 15 C (dat dt_X10_canBeParts 6 rfl) (by decide) ?_
      cases hrun
      exact g_zret C K (show (1 : Int32) = b2i true by decide) (dat dt_X10_canBeParts 8 rfl)
/-! SteamNations.canBeSitter(IIII)Z -/
def dl_X10_canBeSitter : List (Nat × Instr × Nat) := [(0, .iload_n 0, 1), (1, .invokestatic 387, 3), (4, .ifCond .eq 30, 3), (7, .iload_n 1, 1), (8, .invokestatic 387, 3), (11, .ifCond .eq 23, 3), (14, .iload_n 2, 1), (15, .invokestatic 387, 3), (18, .ifCond .eq 16, 3), (21, .iload_n 3, 1), (22, .ifCond .lt 12, 3), (25, .iload_n 3, 1), (26, .iconst 3, 1), (27, .if_icmp .ge 7, 3), (30, .iconst 1, 1), (31, .goto 4, 3), (34, .iconst 0, 1), (35, .ireturn, 1)]
set_option maxRecDepth 20000 in
theorem dt_X10_canBeSitter : ∀ q ∈ dl_X10_canBeSitter, decode prog_1_method_49_code q.1 = .ok q.2 := by decide +kernel
def f_X10_canBeSitter (x0 : Int32) (x1 : Int32) (x2 : Int32) (x3 : Int32) : Option Bool :=
  (f_X10_canBeParts x0).bind fun v1 =>
  if v1 = true then
  (f_X10_canBeParts x1).bind fun v4 =>
  if v4 = true then
  (f_X10_canBeParts x2).bind fun v7 =>
  if v7 = true then
  if x3 < 0 then
  some false
  else
  if (3 : Int32) ≤ x3 then
  some false
  else
  some true
  else
  some false
  else
  some false
  else
  some false
set_option maxRecDepth 20000 in
theorem w_X10_canBeSitter (x0 : Int32) (x1 : Int32) (x2 : Int32) (x3 : Int32) (h : Hp) (q : Bool)  (hrun : f_X10_canBeSitter x0 x1 x2 x3 = some q) : MetA ⟨"SteamNations", "canBeSitter", "(IIII)Z"⟩ prog_1_method_49_code 4 (some .boolean) 2 0 0 [.int x0, .int x1, .int x2, .int x3] h (some (.int (b2i q))) h := by
  refine metA_of (by decide) (Nat.le_of_ble_eq_true rfl) (fun X C K => ?_)
  have C : Cx X cn_10 prog_1_method_49_code 4 (some .boolean) 2 0 0 := C
  show G X h 0 0 0 [(0, .int x0), (1, .int x1), (2, .int x2), (3, .int x3)] []
  unfold f_X10_canBeSitter at hrun
  refine g_iload_n C (dat dt_X10_canBeSitter 0 rfl) 0 rfl ?_
  obtain ⟨v1, q2, hrun⟩ := bd hrun
  refine g_cSi [.int x0] C (dat dt_X10_canBeSitter 1 rfl) ml_10_387 (w_X10_canBeParts x0 h v1  q2) rfl rfl cat0 (by decide) c00 ?_
  refine g_if_eq 34 C (dat dt_X10_canBeSitter 2 rfl) (by decide) (fun c3 => ?_) (fun c3 => ?_)
  · rw [if_neg (b2i_z c3)] at hrun
    refine g_iconst C (dat dt_X10_canBeSitter 16 rfl) ic_0 ?_
    cases hrun
    exact g_zret C K (show (0 : Int32) = b2i false by decide) (dat dt_X10_canBeSitter 17 rfl)
  · rw [if_pos (b2i_nz c3)] at hrun
    refine g_iload_n C (dat dt_X10_canBeSitter 3 rfl) 1 rfl ?_
    obtain ⟨v4, q5, hrun⟩ := bd hrun
    refine g_cSi [.int x1] C (dat dt_X10_canBeSitter 4 rfl) ml_10_387 (w_X10_canBeParts x1 h v4  q5) rfl rfl cat0 (by decide) c00 ?_
    refine g_if_eq 34 C (dat dt_X10_canBeSitter 5 rfl) (by decide) (fun c6 => ?_) (fun c6 => ?_)
    · rw [if_neg (b2i_z c6)] at hrun
      refine g_iconst C (dat dt_X10_canBeSitter 16 rfl) ic_0 ?_
      cases hrun
      exact g_zret C K (show (0 : Int32) = b2i false by decide) (dat dt_X10_canBeSitter 17 rfl)
    · rw [if_pos (b2i_nz c6)] at hrun
      refine g_iload_n C (dat dt_X10_canBeSitter 6 rfl) 2 rfl ?_
      obtain ⟨v7, q8, hrun⟩ := bd hrun
      refine g_cSi [.int x2] C (dat dt_X10_canBeSitter 7 rfl) ml_10_387 (w_X10_canBeParts x2 h v7  q8) rfl rfl cat0 (by decide) c00 ?_
      refine g_if_eq 34 C (dat dt_X10_canBeSitter 8 rfl) (by decide) (fun c9 => ?_) (fun c9 => ?_)
      · rw [if_neg (b2i_z c9)] at hrun
        refine g_iconst C (dat dt_X10_canBeSitter 16 rfl) ic_0 ?_
        cases hrun
        exact g_zret C K (show (0 : Int32) = b2i false by decide) (dat dt_X10_canBeSitter 17 rfl)
      · rw [if_pos (b2i_nz c9)] at hrun
        refine g_iload_n C (dat dt_X10_canBeSitter 9 rfl) 3 rfl ?_
        refine g_if_lt 34 C (dat dt_X10_canBeSitter 10 rfl) (by decide) (fun c10 => ?_) (fun c10 => ?_)
        · rw [if_pos c10] at hrun
          refine g_iconst C (dat dt_X10_canBeSitter 16 rfl) ic_0 ?_
          cases hrun
          exact g_zret C K (show (0 : Int32) = b2i false by decide) (dat dt_X10_canBeSitter 17 rfl)
        · rw [if_neg c10] at hrun
          refine g_iload_n C (dat dt_X10_canBeSitter 11 rfl) 3 rfl ?_
          refine g_iconst C (dat dt_X10_canBeSitter 12 rfl) ic_3 ?_
          refine g_ic_ge 34 C (dat dt_X10_canBeSitter 13 rfl) (by decide) (fun c11 => ?_) (fun c11 => ?_)
          · rw [if_pos c11] at hrun
            refine g_iconst C (dat dt_X10_canBeSitter 16 rfl) ic_0 ?_
            cases hrun
            exact g_zret C K (show (0 : Int32) = b2i false by decide) (dat dt_X10_canBeSitter 17 rfl)
          · rw [if_neg c11] at hrun
            refine g_iconst C (dat dt_X10_canBeSitter 14 rfl) ic_1 ?_
            refine g_goto 35 C (dat dt_X10_canBeSitter 15 rfl) (by decide) ?_
            cases hrun
            exact g_zret C K (show (1 : Int32) = b2i true by decide) (dat dt_X10_canBeSitter 17 rfl)
/-! SteamNations.answer(I)I -/
def dl_X10_answer : List (Nat × Instr × Nat) := [(0, .iload_n 1, 1), (1, .ifCond .ge 32, 3), (4, .aload_n 0, 1), (5, .iload_n 1, 1), (6, .putfield 374, 3), (9, .iload_n 1, 1), (10, .ineg, 1), (11, .aload_n 0, 1), (12, .getfield 57, 3), (15, .arraylength, 1), (16, .if_icmp .ge 22, 3), (19, .aload_n 0, 1), (20, .getfield 57, 3), (23, .iload_n 1, 1), (24, .ineg, 1), (25, .dup2, 1), (26, .iaload, 1), (27, .iconst 1, 1), (28, .iadd, 1), (29, .iastore, 1), (30, .goto 8, 3), (33, .aload_n 0, 1), (34, .iconst 0, 1), (35, .putfield 374, 3), (38, .iload_n 1, 1), (39, .ireturn, 1)]
set_option maxRecDepth 20000 in
theorem dt_X10_answer : ∀ q ∈ dl_X10_answer, decode prog_1_method_40_code q.1 = .ok q.2 := by decide +kernel
def f_X10_answer (x1 : Int32) (h : Hp) : Option (Int32 × Hp) :=
  if 0 ≤ x1 then
  some (x1, (sF h 0 19 (0 : Int32)))
  else
  if (7 : Int32) ≤ (-x1) then
  some (x1, (sF h 0 19 x1))
  else
  (inb (-x1) 7).bind fun j3 =>
  (inb (-x1) 7).bind fun j5 =>
  some (x1, (sA (sF h 0 19 x1) 25 j5 ((aI (sF h 0 19 x1) 25 j3) + (1 : Int32))))
set_option maxRecDepth 20000 in
theorem w_X10_answer (x1 : Int32) (h : Hp) (q : (Int32 × Hp))  (hrun : f_X10_answer x1 h = some q) : MetA ⟨"SteamNations", "answer", "(I)I"⟩ prog_1_method_40_code 2 (some .int) 1 0 0 [.ref 0, .int x1] h (some (.int q.1)) q.2 := by
  refine metA_of (by decide) (Nat.le_of_ble_eq_true rfl) (fun X C K => ?_)
  have C : Cx X cn_10 prog_1_method_40_code 2 (some .int) 1 0 0 := C
  show G X h 0 0 0 [(0, .ref 0), (1, .int x1)] []
  unfold f_X10_answer at hrun
  refine g_iload_n C (dat dt_X10_answer 0 rfl) 1 rfl ?_
  refine g_if_ge 33 C (dat dt_X10_answer 1 rfl) (by decide) (fun c1 => ?_) (fun c1 => ?_)
  · rw [if_pos c1] at hrun
    refine g_aload_n C (dat dt_X10_answer 21 rfl) 0 rfl ?_
    refine g_iconst C (dat dt_X10_answer 22 rfl) ic_0 ?_
    refine g_putI C (dat dt_X10_answer 23 rfl) fl_10_374 rfl rfl kd_0 rfl ltk_0 ?_
    refine g_iload_n C (dat dt_X10_answer 24 rfl) 1 rfl ?_
    cases hrun
    exact g_iret C K (dat dt_X10_answer 25 rfl)
  · rw [if_neg c1] at hrun
    refine g_aload_n C (dat dt_X10_answer 2 rfl) 0 rfl ?_
    refine g_iload_n C (dat dt_X10_answer 3 rfl) 1 rfl ?_
    refine g_putI C (dat dt_X10_answer 4 rfl) fl_10_374 rfl rfl kd_0 rfl ltk_0 ?_
    refine g_iload_n C (dat dt_X10_answer 5 rfl) 1 rfl ?_
    refine g_ineg C (dat dt_X10_answer 6 rfl) ?_
    refine g_aload_n C (dat dt_X10_answer 7 rfl) 0 rfl ?_
    refine g_getR C (dat dt_X10_answer 8 rfl) fl_10_57 kd_0 rfl ltk_0 ?_
    refine g_alen (v := (7 : Int32)) C (dat dt_X10_answer 9 rfl) kd_25 (by decide) ltk_25 rfl ?_
    refine g_ic_ge 38 C (dat dt_X10_answer 10 rfl) (by decide) (fun c2 => ?_) (fun c2 => ?_)
    · rw [if_pos c2] at hrun
      refine g_iload_n C (dat dt_X10_answer 24 rfl) 1 rfl ?_
      cases hrun
      exact g_iret C K (dat dt_X10_answer 25 rfl)
    · rw [if_neg c2] at hrun
      refine g_aload_n C (dat dt_X10_answer 11 rfl) 0 rfl ?_
      refine g_getR C (dat dt_X10_answer 12 rfl) fl_10_57 kd_0 rfl ltk_0 ?_
      refine g_iload_n C (dat dt_X10_answer 13 rfl) 1 rfl ?_
      refine g_ineg C (dat dt_X10_answer 14 rfl) ?_
      refine g_dup2 C (dat dt_X10_answer 15 rfl) rfl rfl ?_
      obtain ⟨j3, q4, hrun⟩ := bd hrun
      refine g_iald C (dat dt_X10_answer 16 rfl) kd_25 ltk_25 q4 ?_
      refine g_iconst C (dat dt_X10_answer 17 rfl) ic_1 ?_
      refine g_iadd C (dat dt_X10_answer 18 rfl) ?_
      obtain ⟨j5, q6, hrun⟩ := bd hrun
      refine g_iast (j := j5) C (dat dt_X10_answer 19 rfl) kd_25 ltk_25 q6  ?_
      refine g_goto 38 C (dat dt_X10_answer 20 rfl) (by decide) ?_
      refine g_iload_n C (dat dt_X10_answer 24 rfl) 1 rfl ?_
      cases hrun
      exact g_iret C K (dat dt_X10_answer 25 rfl)
/-! SteamNations.answerChanged(I)I -/
def dl_X10_answerChanged : List (Nat × Instr × Nat) := [(0, .iload_n 1, 1), (1, .ifCond .lt 10, 3), (4, .aload_n 0, 1), (5, .getfield 111, 3), (8, .invokevirtual 377, 3), (11, .aload_n 0, 1), (12, .iload_n 1, 1), (13, .invokevirtual 119, 3), (16, .ireturn, 1)]
set_option maxRecDepth 20000 in
theorem dt_X10_answerChanged : ∀ q ∈ dl_X10_answerChanged, decode prog_1_method_41_code q.1 = .ok q.2 := by decide +kernel
def j_X10_answerChanged_11  (x1 : Int32) (h : Hp) : Option (Int32 × Hp) :=
  (f_X10_answer x1 h).bind fun v2 =>
  some (v2.1, v2.2)
set_option maxRecDepth 20000 in
theorem wj_X10_answerChanged_11 {X : Xt} (C : Cx X cn_10 prog_1_method_41_code 2 (some .int) 2 0 0)    (x1 : Int32) (h : Hp) (q : (Int32 × Hp)) (hrun : j_X10_answerChanged_11  x1 h = some q) (K : EndQ X 0 0 (some (.int q.1)) q.2) : G X h 0 0 11 [(0, .ref 0), (1, .int x1)] [] := by
  unfold j_X10_answerChanged_11 at hrun
  refine g_aload_n C (dat dt_X10_answerChanged 5 rfl) 0 rfl ?_
  refine g_iload_n C (dat dt_X10_answerChanged 6 rfl) 1 rfl ?_
  obtain ⟨v2, q3, hrun⟩ := bd hrun
  refine g_cVi [.int x1] C (dat dt_X10_answerChanged 7 rfl) ml_10_119 (w_X10_answer x1 h v2  q3) kd_0 ltk_0 rfl rfl cat0 (by decide) c00 ?_
  cases hrun
  exact g_iret C K (dat dt_X10_answerChanged 8 rfl)
def f_X10_answerChanged (x1 : Int32) (h : Hp) : Option (Int32 × Hp) :=
  if x1 < 0 then
  j_X10_answerChanged_11  x1 h
  else
  (f_X7_makeStale  h).bind fun v4 =>
  j_X10_answerChanged_11  x1 v4.2
set_option maxRecDepth 20000 in
theorem w_X10_answerChanged (x1 : Int32) (h : Hp) (q : (Int32 × Hp))  (hrun : f_X10_answerChanged x1 h = some q) : MetA ⟨"SteamNations", "answerChanged", "(I)I"⟩ prog_1_method_41_code 2 (some .int) 2 0 0 [.ref 0, .int x1] h (some (.int q.1)) q.2 := by
  refine metA_of (by decide) (Nat.le_of_ble_eq_true rfl) (fun X C K => ?_)
  have C : Cx X cn_10 prog_1_method_41_code 2 (some .int) 2 0 0 := C
  show G X h 0 0 0 [(0, .ref 0), (1, .int x1)] []
  unfold f_X10_answerChanged at hrun
  refine g_iload_n C (dat dt_X10_answerChanged 0 rfl) 1 rfl ?_
  refine g_if_lt 11 C (dat dt_X10_answerChanged 1 rfl) (by decide) (fun c1 => ?_) (fun c1 => ?_)
  · rw [if_pos c1] at hrun
    exact wj_X10_answerChanged_11 C    x1 h _ hrun K
  · rw [if_neg c1] at hrun
    refine g_aload_n C (dat dt_X10_answerChanged 2 rfl) 0 rfl ?_
    refine g_getR C (dat dt_X10_answerChanged 3 rfl) fl_10_111 kd_0 rfl ltk_0 ?_
    obtain ⟨v4, q5, hrun⟩ := bd hrun
    refine g_cVv [] C (dat dt_X10_answerChanged 4 rfl) ml_10_377 (w_X7_makeStale  h v4  q5) kd_68 ltk_68 rfl rfl cat0 (by decide) c00 ?_
    exact wj_X10_answerChanged_11 C    x1 v4.2 _ hrun K
/-! SteamNations.sitter(IIII)I -/
def dl_X10_sitter : List (Nat × Instr × Nat) := [(0, .iload_n 1, 1), (1, .iload_n 2, 1), (2, .iload_n 3, 1), (3, .iload 4, 2), (5, .invokestatic 115, 3), (8, .ifCond .ne 9, 3), (11, .aload_n 0, 1), (12, .iconst (-1), 1), (13, .invokevirtual 119, 3), (16, .ireturn, 1), (17, .aload_n 0, 1), (18, .getfield 75, 3), (21, .getfield 123, 3), (24, .getfield 126, 3), (27, .bipush 6, 2), (29, .if_icmp .lt 10, 3), (32, .aload_n 0, 1), (33, .bipush (-5), 2), (35, .invokevirtual 119, 3), (38, .ireturn, 1), (39, .aload_n 0, 1), (40, .getfield 33, 3), (43, .invokevirtual 129, 3), (46, .aload_n 0, 1), (47, .aload_n 0, 1), (48, .getfield 75, 3), (51, .getfield 123, 3), (54, .iload_n 1, 1), (55, .iload_n 2, 1), (56, .iload_n 3, 1), (57, .iload 4, 2), (59, .invokevirtual 132, 3), (62, .invokevirtual 136, 3), (65, .ireturn, 1)]
set_option maxRecDepth 20000 in
theorem dt_X10_sitter : ∀ q ∈ dl_X10_sitter, decode prog_1_method_2_code q.1 = .ok q.2 := by decide +kernel
def f_X10_sitter (x1 : Int32) (x2 : Int32) (x3 : Int32) (x4 : Int32) (h : Hp) : Option (Int32 × Hp) :=
  (f_X10_canBeSitter x1 x2 x3 x4).bind fun v1 =>
  if v1 = true then
  if (fI h 33 0) < (6 : Int32) then
  (f_X4_clear 10 h).bind fun v5 =>
  (f_X6_add 33 x1 x2 x3 x4 v5.2).bind fun v7 =>
  (f_X10_answerChanged v7.1 v7.2).bind fun v9 =>
  some (v9.1, v9.2)
  else
  (f_X10_answer (-5 : Int32) h).bind fun v11 =>
  some (v11.1, v11.2)
  else
  (f_X10_answer (-1 : Int32) h).bind fun v13 =>
  some (v13.1, v13.2)
set_option maxRecDepth 20000 in
theorem w_X10_sitter (x1 : Int32) (x2 : Int32) (x3 : Int32) (x4 : Int32) (h : Hp) (q : (Int32 × Hp))  (hrun : f_X10_sitter x1 x2 x3 x4 h = some q) : MetA ⟨"SteamNations", "sitter", "(IIII)I"⟩ prog_1_method_2_code 5 (some .int) 3 0 0 [.ref 0, .int x1, .int x2, .int x3, .int x4] h (some (.int q.1)) q.2 := by
  refine metA_of (by decide) (Nat.le_of_ble_eq_true rfl) (fun X C K => ?_)
  have C : Cx X cn_10 prog_1_method_2_code 5 (some .int) 3 0 0 := C
  show G X h 0 0 0 [(0, .ref 0), (1, .int x1), (2, .int x2), (3, .int x3), (4, .int x4)] []
  unfold f_X10_sitter at hrun
  refine g_iload_n C (dat dt_X10_sitter 0 rfl) 1 rfl ?_
  refine g_iload_n C (dat dt_X10_sitter 1 rfl) 2 rfl ?_
  refine g_iload_n C (dat dt_X10_sitter 2 rfl) 3 rfl ?_
  refine g_iload C (dat dt_X10_sitter 3 rfl) 4 rfl ?_
  obtain ⟨v1, q2, hrun⟩ := bd hrun
  refine g_cSi [.int x1, .int x2, .int x3, .int x4] C (dat dt_X10_sitter 4 rfl) ml_10_115 (w_X10_canBeSitter x1 x2 x3 x4 h v1  q2) rfl rfl cat0 (by decide) c00 ?_
  refine g_if_ne 17 C (dat dt_X10_sitter 5 rfl) (by decide) (fun c3 => ?_) (fun c3 => ?_)
  · rw [if_pos (b2i_nz c3)] at hrun
    refine g_aload_n C (dat dt_X10_sitter 10 rfl) 0 rfl ?_
    refine g_getR C (dat dt_X10_sitter 11 rfl) fl_10_75 kd_0 rfl ltk_0 ?_
    refine g_getR C (dat dt_X10_sitter 12 rfl) fl_10_123 kd_32 rfl ltk_32 ?_
    refine g_getI C (dat dt_X10_sitter 13 rfl) fl_10_126 kd_33 rfl ltk_33 ?_
    refine g_bipush C (dat dt_X10_sitter 14 rfl) bp_6 ?_
    refine g_ic_lt 39 C (dat dt_X10_sitter 15 rfl) (by decide) (fun c4 => ?_) (fun c4 => ?_)
    · rw [if_pos c4] at hrun
      refine g_aload_n C (dat dt_X10_sitter 20 rfl) 0 rfl ?_
      refine g_getR C (dat dt_X10_sitter 21 rfl) fl_10_33 kd_0 rfl ltk_0 ?_
      obtain ⟨v5, q6, hrun⟩ := bd hrun
      refine g_cVv [] C (dat dt_X10_sitter 22 rfl) ml_10_129 (w_X4_clear 10 h v5 past_10 q6) kd_10 ltk_10 rfl rfl cat0 (by decide) c00 ?_
      refine g_aload_n C (dat dt_X10_sitter 23 rfl) 0 rfl ?_
      refine g_aload_n C (dat dt_X10_sitter 24 rfl) 0 rfl ?_
      refine g_getR C (dat dt_X10_sitter 25 rfl) fl_10_75 kd_0 rfl ltk_0 ?_
      refine g_getR C (dat dt_X10_sitter 26 rfl) fl_10_123 kd_32 rfl ltk_32 ?_
      refine g_iload_n C (dat dt_X10_sitter 27 rfl) 1 rfl ?_
      refine g_iload_n C (dat dt_X10_sitter 28 rfl) 2 rfl ?_
      refine g_iload_n C (dat dt_X10_sitter 29 rfl) 3 rfl ?_
      refine g_iload C (dat dt_X10_sitter 30 rfl) 4 rfl ?_
      obtain ⟨v7, q8, hrun⟩ := bd hrun
      refine g_cVi [.int x1, .int x2, .int x3, .int x4] C (dat dt_X10_sitter 31 rfl) ml_10_132 (w_X6_add 33 x1 x2 x3 x4 v5.2 v7 room_33 q8) kd_33 ltk_33 rfl rfl (Nat.le_of_ble_eq_true rfl) (by decide) c00 ?_
      obtain ⟨v9, q10, hrun⟩ := bd hrun
      refine g_cVi [.int v7.1] C (dat dt_X10_sitter 32 rfl) ml_10_136 (w_X10_answerChanged v7.1 v7.2 v9  q10) kd_0 ltk_0 rfl rfl cat0 (by decide) c00 ?_
      cases hrun
      exact g_iret C K (dat dt_X10_sitter 33 rfl)
    · rw [if_neg c4] at hrun
      refine g_aload_n C (dat dt_X10_sitter 16 rfl) 0 rfl ?_
      refine g_bipush C (dat dt_X10_sitter 17 rfl) bp_m5 ?_
      obtain ⟨v11, q12, hrun⟩ := bd hrun
      refine g_cVi [.int (-5 : Int32)] C (dat dt_X10_sitter 18 rfl) ml_10_119 (w_X10_answer (-5 : Int32) h v11  q12) kd_0 ltk_0 rfl rfl cat0 (by decide) c00 ?_
      cases hrun
      exact g_iret C K (dat dt_X10_sitter 19 rfl)
  · rw [if_neg (b2i_z c3)] at hrun
    refine g_aload_n C (dat dt_X10_sitter 6 rfl) 0 rfl ?_
    refine g_iconst C (dat dt_X10_sitter 7 rfl) ic_m1 ?_
    obtain ⟨v13, q14, hrun⟩ := bd hrun
    refine g_cVi [.int (-1 : Int32)] C (dat dt_X10_sitter 8 rfl) ml_10_119 (w_X10_answer (-1 : Int32) h v13  q14) kd_0 ltk_0 rfl rfl cat0 (by decide) c00 ?_
    cases hrun
    exact g_iret C K (dat dt_X10_sitter 9 rfl)
/-! SteamNations.of(II)I -/
def dl_X10_of : List (Nat × Instr × Nat) := [(0, .aload_n 0, 1), (1, .getfield 75, 3), (4, .getfield 123, 3), (7, .astore_n 3, 1), (8, .aload_n 3, 1), (9, .iload_n 1, 1), (10, .invokevirtual 139, 3), (13, .ifCond .ne 5, 3), (16, .iconst (-1), 1), (17, .ireturn, 1), (18, .iload_n 2, 1), (19, .tableswitch 144 0 7 #[45, 45, 45, 56, 63, 70, 76, 110], 45), (64, .aload_n 3, 1), (65, .getfield 143, 3), (68, .iload_n 1, 1), (69, .iconst 3, 1), (70, .imul, 1), (71, .iload_n 2, 1), (72, .iadd, 1), (73, .iaload, 1), (74, .ireturn, 1), (75, .aload_n 3, 1), (76, .getfield 146, 3), (79, .iload_n 1, 1), (80, .iaload, 1), (81, .ireturn, 1), (82, .aload_n 3, 1), (83, .getfield 149, 3), (86, .iload_n 1, 1), (87, .iaload, 1), (88, .ireturn, 1), (89, .aload_n 3, 1), (90, .iload_n 1, 1), (91, .invokevirtual 152, 3), (94, .ireturn, 1), (95, .aload_n 3, 1), (96, .iload_n 1, 1), (97, .invokevirtual 155, 3), (100, .ifCond .eq 27, 3), (103, .aload_n 0, 1), (104, .getfield 84, 3), (107, .aload_n 3, 1), (108, .aload_n 0, 1), (109, .getfield 75, 3), (112, .invokevirtual 158, 3), (115, .iload_n 1, 1), (116, .bipush 14, 2), (118, .invokevirtual 162, 3), (121, .invokestatic 166, 3), (124, .goto 4, 3), (127, .iconst (-1), 1), (128, .ireturn, 1), (129, .aload_n 3, 1), (130, .iload_n 1, 1), (131, .invokevirtual 155, 3), (134, .ifCond .eq 27, 3), (137, .aload_n 0, 1), (138, .getfield 84, 3), (141, .aload_n 3, 1), (142, .aload_n 0, 1), (143, .getfield 75, 3), (146, .invokevirtual 158, 3), (149, .iload_n 1, 1), (150, .bipush 15, 2), (152, .invokevirtual 162, 3), (155, .invokestatic 166, 3), (158, .goto 4, 3), (161, .iconst (-1), 1), (162, .ireturn, 1), (163, .iconst (-1), 1), (164, .ireturn, 1)]
set_option maxRecDepth 20000 in
theorem dt_X10_of : ∀ q ∈ dl_X10_of, decode prog_1_method_3_code q.1 = .ok q.2 := by decide +kernel
def j_X10_of_64  (x1 : Int32) (x2 : Int32) (h : Hp) : Option (Int32 × Hp) :=
  (inb ((x1 * (3 : Int32)) + x2) 18).bind fun j7 =>
  some ((aI h 34 j7), h)
set_option maxRecDepth 20000 in
theorem wj_X10_of_64 {X : Xt} (C : Cx X cn_10 prog_1_method_3_code 4 (some .int) 4 0 0)    (x1 : Int32) (x2 : Int32) (h : Hp) (q : (Int32 × Hp)) (hrun : j_X10_of_64  x1 x2 h = some q) (K : EndQ X 0 0 (some (.int q.1)) q.2) : G X h 0 0 64 [(1, .int x1), (2, .int x2), (3, .ref 33)] [] := by
  unfold j_X10_of_64 at hrun
  refine g_aload_n C (dat dt_X10_of 12 rfl) 2 rfl ?_
  refine g_getR C (dat dt_X10_of 13 rfl) fl_10_143 kd_33 rfl ltk_33 ?_
  refine g_iload_n C (dat dt_X10_of 14 rfl) 0 rfl ?_
  refine g_iconst C (dat dt_X10_of 15 rfl) ic_3 ?_
  refine g_imul C (dat dt_X10_of 16 rfl) ?_
  refine g_iload_n C (dat dt_X10_of 17 rfl) 1 rfl ?_
  refine g_iadd C (dat dt_X10_of 18 rfl) ?_
  obtain ⟨j7, q8, hrun⟩ := bd hrun
  refine g_iald C (dat dt_X10_of 19 rfl) kd_34 ltk_34 q8 ?_
  cases hrun
  exact g_iret C K (dat dt_X10_of 20 rfl)
def f_X10_of (x1 : Int32) (x2 : Int32) (h : Hp) : Option (Int32 × Hp) :=
  (f_X6_has 33 x1 h).bind fun v1 =>
  if v1 = true then
  if x2.toInt < (0 : Int) ∨ (7 : Int) < x2.toInt then
  some ((-1 : Int32), h)
  else if (x2.toInt - (0 : Int)).toNat = 0 then
  j_X10_of_64  x1 x2 h
  else if (x2.toInt - (0 : Int)).toNat = 1 then
  j_X10_of_64  x1 x2 h
  else if (x2.toInt - (0 : Int)).toNat = 2 then
  j_X10_of_64  x1 x2 h
  else if (x2.toInt - (0 : Int)).toNat = 3 then
  (inb x1 6).bind fun j9 =>
  some ((aI h 35 j9), h)
  else if (x2.toInt - (0 : Int)).toNat = 4 then
  (inb x1 6).bind fun j11 =>
  some ((aI h 36 j11), h)
  else if (x2.toInt - (0 : Int)).toNat = 5 then
  (f_X6_nationOf 33 x1 h).bind fun v13 =>
  some (v13, h)
  else if (x2.toInt - (0 : Int)).toNat = 6 then
  (f_X6_isInside 33 x1 h).bind fun v15 =>
  if v15 = true then
  (f_X1_inForce 32 h).bind fun v18 =>
  (f_X8_anyHolds 33 v18 x1 (14 : Int32) h).bind fun v20 =>
  (f_X10_oneIf (b2i v20.1)).bind fun v22 =>
  some (v22, v20.2)
  else
  some ((-1 : Int32), h)
  else if (x2.toInt - (0 : Int)).toNat = 7 then
  (f_X6_isInside 33 x1 h).bind fun v24 =>
  if v24 = true then
  (f_X1_inForce 32 h).bind fun v27 =>
  (f_X8_anyHolds 33 v27 x1 (15 : Int32) h).bind fun v29 =>
  (f_X10_oneIf (b2i v29.1)).bind fun v31 =>
  some (v31, v29.2)
  else
  some ((-1 : Int32), h)
  else none
  else
  some ((-1 : Int32), h)
set_option maxRecDepth 20000 in
theorem w_X10_of (x1 : Int32) (x2 : Int32) (h : Hp) (q : (Int32 × Hp))  (hrun : f_X10_of x1 x2 h = some q) : MetA ⟨"SteamNations", "of", "(II)I"⟩ prog_1_method_3_code 4 (some .int) 4 0 0 [.ref 0, .int x1, .int x2] h (some (.int q.1)) q.2 := by
  refine metA_of (by decide) (Nat.le_of_ble_eq_true rfl) (fun X C K => ?_)
  have C : Cx X cn_10 prog_1_method_3_code 4 (some .int) 4 0 0 := C
  show G X h 0 0 0 [(0, .ref 0), (1, .int x1), (2, .int x2)] []
  unfold f_X10_of at hrun
  refine g_aload_n C (dat dt_X10_of 0 rfl) 0 rfl ?_
  refine g_getR C (dat dt_X10_of 1 rfl) fl_10_75 kd_0 rfl ltk_0 ?_
  refine g_getR C (dat dt_X10_of 2 rfl) fl_10_123 kd_32 rfl ltk_32 ?_
  refine g_astore_n (lv' := [(0, .ref 0), (1, .int x1), (2, .int x2), (3, .ref 33)]) C (dat dt_X10_of 3 rfl) (by decide) rfl ?_
  refine g_aload_n C (dat dt_X10_of 4 rfl) 3 rfl ?_
  refine g_iload_n C (dat dt_X10_of 5 rfl) 1 rfl ?_
  obtain ⟨v1, q2, hrun⟩ := bd hrun
  refine g_cVi [.int x1] C (dat dt_X10_of 6 rfl) ml_10_139 (w_X6_has 33 x1 h v1 room_33 q2) kd_33 ltk_33 rfl rfl cat0 (by decide) c00 ?_
  refine g_if_ne 18 C (dat dt_X10_of 7 rfl) (by decide) (fun c3 => ?_) (fun c3 => ?_)
  · rw [if_pos (b2i_nz c3)] at hrun
    refine g_iload_n C (dat dt_X10_of 10 rfl) 2 rfl ?_
    by_cases c4 : x2.toInt < (0 : Int) ∨ (7 : Int) < x2.toInt
    · rw [if_pos c4] at hrun
      refine g_tabO 163 C (dat dt_X10_of 11 rfl) c4 (by decide) ?_
      refine g_iconst C (dat dt_X10_of 69 rfl) ic_m1 ?_
      cases hrun
      exact g_iret C K (dat dt_X10_of 70 rfl)
    · rw [if_neg c4] at hrun
      by_cases c40 : (x2.toInt - (0 : Int)).toNat = 0
      · rw [if_pos c40] at hrun
        refine g_tabI 64 C (dat dt_X10_of 11 rfl) c4 c40.symm rfl (by decide) ?_
        refine g_sub [1, 2, 3] (lv' := [(1, .int x1), (2, .int x2), (3, .ref 33)]) rfl ?_
        exact wj_X10_of_64 C    x1 x2 h _ hrun K
      · rw [if_neg c40] at hrun
        by_cases c39 : (x2.toInt - (0 : Int)).toNat = 1
        · rw [if_pos c39] at hrun
          refine g_tabI 64 C (dat dt_X10_of 11 rfl) c4 c39.symm rfl (by decide) ?_
          refine g_sub [1, 2, 3] (lv' := [(1, .int x1), (2, .int x2), (3, .ref 33)]) rfl ?_
          exact wj_X10_of_64 C    x1 x2 h _ hrun K
        · rw [if_neg c39] at hrun
          by_cases c38 : (x2.toInt - (0 : Int)).toNat = 2
          · rw [if_pos c38] at hrun
            refine g_tabI 64 C (dat dt_X10_of 11 rfl) c4 c38.symm rfl (by decide) ?_
            refine g_sub [1, 2, 3] (lv' := [(1, .int x1), (2, .int x2), (3, .ref 33)]) rfl ?_
            exact wj_X10_of_64 C    x1 x2 h _ hrun K
          · rw [if_neg c38] at hrun
            by_cases c37 : (x2.toInt - (0 : Int)).toNat = 3
            · rw [if_pos c37] at hrun
              refine g_tabI 75 C (dat dt_X10_of 11 rfl) c4 c37.symm rfl (by decide) ?_
              refine g_aload_n C (dat dt_X10_of 21 rfl) 3 rfl ?_
              refine g_getR C (dat dt_X10_of 22 rfl) fl_10_146 kd_33 rfl ltk_33 ?_
              refine g_iload_n C (dat dt_X10_of 23 rfl) 1 rfl ?_
              obtain ⟨j9, q10, hrun⟩ := bd hrun
              refine g_iald C (dat dt_X10_of 24 rfl) kd_35 ltk_35 q10 ?_
              cases hrun
              exact g_iret C K (dat dt_X10_of 25 rfl)
            · rw [if_neg c37] at hrun
              by_cases c36 : (x2.toInt - (0 : Int)).toNat = 4
              · rw [if_pos c36] at hrun
                refine g_tabI 82 C (dat dt_X10_of 11 rfl) c4 c36.symm rfl (by decide) ?_
                refine g_aload_n C (dat dt_X10_of 26 rfl) 3 rfl ?_
                refine g_getR C (dat dt_X10_of 27 rfl) fl_10_149 kd_33 rfl ltk_33 ?_
                refine g_iload_n C (dat dt_X10_of 28 rfl) 1 rfl ?_
                obtain ⟨j11, q12, hrun⟩ := bd hrun
                refine g_iald C (dat dt_X10_of 29 rfl) kd_36 ltk_36 q12 ?_
                cases hrun
                exact g_iret C K (dat dt_X10_of 30 rfl)
              · rw [if_neg c36] at hrun
                by_cases c35 : (x2.toInt - (0 : Int)).toNat = 5
                · rw [if_pos c35] at hrun
                  refine g_tabI 89 C (dat dt_X10_of 11 rfl) c4 c35.symm rfl (by decide) ?_
                  refine g_aload_n C (dat dt_X10_of 31 rfl) 3 rfl ?_
                  refine g_iload_n C (dat dt_X10_of 32 rfl) 1 rfl ?_
                  obtain ⟨v13, q14, hrun⟩ := bd hrun
                  refine g_cVi [.int x1] C (dat dt_X10_of 33 rfl) ml_10_152 (w_X6_nationOf 33 x1 h v13 room_33 q14) kd_33 ltk_33 rfl rfl cat0 (by decide) c00 ?_
                  cases hrun
                  exact g_iret C K (dat dt_X10_of 34 rfl)
                · rw [if_neg c35] at hrun
                  by_cases c34 : (x2.toInt - (0 : Int)).toNat = 6
                  · rw [if_pos c34] at hrun
                    refine g_tabI 95 C (dat dt_X10_of 11 rfl) c4 c34.symm rfl (by decide) ?_
                    refine g_aload_n C (dat dt_X10_of 35 rfl) 3 rfl ?_
                    refine g_iload_n C (dat dt_X10_of 36 rfl) 1 rfl ?_
                    obtain ⟨v15, q16, hrun⟩ := bd hrun
                    refine g_cVi [.int x1] C (dat dt_X10_of 37 rfl) ml_10_155 (w_X6_isInside 33 x1 h v15 room_33 q16) kd_33 ltk_33 rfl rfl cat0 (by decide) c00 ?_
                    refine g_if_eq 127 C (dat dt_X10_of 38 rfl) (by decide) (fun c17 => ?_) (fun c17 => ?_)
                    · rw [if_neg (b2i_z c17)] at hrun
                      refine g_iconst C (dat dt_X10_of 50 rfl) ic_m1 ?_
                      cases hrun
                      exact g_iret C K (dat dt_X10_of 51 rfl)
                    · rw [if_pos (b2i_nz c17)] at hrun
                      refine g_aload_n C (dat dt_X10_of 39 rfl) 0 rfl ?_
                      refine g_getR C (dat dt_X10_of 40 rfl) fl_10_84 kd_0 rfl ltk_0 ?_
                      refine g_aload_n C (dat dt_X10_of 41 rfl) 3 rfl ?_
                      refine g_aload_n C (dat dt_X10_of 42 rfl) 0 rfl ?_
                      refine g_getR C (dat dt_X10_of 43 rfl) fl_10_75 kd_0 rfl ltk_0 ?_
                      obtain ⟨v18, q19, hrun⟩ := bd hrun
                      refine g_cVr [] C (dat dt_X10_of 44 rfl) ml_10_158 (w_X1_inForce 32 h v18 house_32 q19) kd_32 ltk_32 rfl rfl (Nat.le_of_ble_eq_true rfl) (by decide) c00 ?_
                      refine g_iload_n C (dat dt_X10_of 45 rfl) 1 rfl ?_
                      refine g_bipush C (dat dt_X10_of 46 rfl) bp_14 ?_
                      obtain ⟨v20, q21, hrun⟩ := bd hrun
                      refine g_cVi [.ref 33, .ref v18, .int x1, .int (14 : Int32)] C (dat dt_X10_of 47 rfl) ml_10_162 (w_X8_anyHolds 33 v18 x1 (14 : Int32) h v20 room_33 q21) kd_56 ltk_56 rfl rfl cat0 (by decide) c00 ?_
                      obtain ⟨v22, q23, hrun⟩ := bd hrun
                      refine g_cSi [.int (b2i v20.1)] C (dat dt_X10_of 48 rfl) ml_10_166 (w_X10_oneIf (b2i v20.1) v20.2 v22  q23) rfl rfl cat0 (by decide) c00 ?_
                      refine g_goto 128 C (dat dt_X10_of 49 rfl) (by decide) ?_
                      cases hrun
                      exact g_iret C K (dat dt_X10_of 51 rfl)
                  · rw [if_neg c34] at hrun
                    by_cases c33 : (x2.toInt - (0 : Int)).toNat = 7
                    · rw [if_pos c33] at hrun
                      refine g_tabI 129 C (dat dt_X10_of 11 rfl) c4 c33.symm rfl (by decide) ?_
                      refine g_aload_n C (dat dt_X10_of 52 rfl) 3 rfl ?_
                      refine g_iload_n C (dat dt_X10_of 53 rfl) 1 rfl ?_
                      obtain ⟨v24, q25, hrun⟩ := bd hrun
                      refine g_cVi [.int x1] C (dat dt_X10_of 54 rfl) ml_10_155 (w_X6_isInside 33 x1 h v24 room_33 q25) kd_33 ltk_33 rfl rfl cat0 (by decide) c00 ?_
                      refine g_if_eq 161 C (dat dt_X10_of 55 rfl) (by decide) (fun c26 => ?_) (fun c26 => ?_)
                      · rw [if_neg (b2i_z c26)] at hrun
                        refine g_iconst C (dat dt_X10_of 67 rfl) ic_m1 ?_
                        cases hrun
                        exact g_iret C K (dat dt_X10_of 68 rfl)
                      · rw [if_pos (b2i_nz c26)] at hrun
                        refine g_aload_n C (dat dt_X10_of 56 rfl) 0 rfl ?_
                        refine g_getR C (dat dt_X10_of 57 rfl) fl_10_84 kd_0 rfl ltk_0 ?_
                        refine g_aload_n C (dat dt_X10_of 58 rfl) 3 rfl ?_
                        refine g_aload_n C (dat dt_X10_of 59 rfl) 0 rfl ?_
                        refine g_getR C (dat dt_X10_of 60 rfl) fl_10_75 kd_0 rfl ltk_0 ?_
                        obtain ⟨v27, q28, hrun⟩ := bd hrun
                        refine g_cVr [] C (dat dt_X10_of 61 rfl) ml_10_158 (w_X1_inForce 32 h v27 house_32 q28) kd_32 ltk_32 rfl rfl (Nat.le_of_ble_eq_true rfl) (by decide) c00 ?_
                        refine g_iload_n C (dat dt_X10_of 62 rfl) 1 rfl ?_
                        refine g_bipush C (dat dt_X10_of 63 rfl) bp_15 ?_
                        obtain ⟨v29, q30, hrun⟩ := bd hrun
                        refine g_cVi [.ref 33, .ref v27, .int x1, .int (15 : Int32)] C (dat dt_X10_of 64 rfl) ml_10_162 (w_X8_anyHolds 33 v27 x1 (15 : Int32) h v29 room_33 q30) kd_56 ltk_56 rfl rfl cat0 (by decide) c00 ?_
                        obtain ⟨v31, q32, hrun⟩ := bd hrun
                        refine g_cSi [.int (b2i v29.1)] C (dat dt_X10_of 65 rfl) ml_10_166 (w_X10_oneIf (b2i v29.1) v29.2 v31  q32) rfl rfl cat0 (by decide) c00 ?_
                        refine g_goto 162 C (dat dt_X10_of 66 rfl) (by decide) ?_
                        cases hrun
                        exact g_iret C K (dat dt_X10_of 68 rfl)
                    · rw [if_neg c33] at hrun
                      cases hrun
  · rw [if_neg (b2i_z c3)] at hrun
    refine g_iconst C (dat dt_X10_of 8 rfl) ic_m1 ?_
    cases hrun
    exact g_iret C K (dat dt_X10_of 9 rfl)
/-! SteamNations.at(I)I -/
def dl_X10_at : List (Nat × Instr × Nat) := [(0, .aload_n 0, 1), (1, .getfield 75, 3), (4, .getfield 123, 3), (7, .iload_n 1, 1), (8, .invokevirtual 170, 3), (11, .ireturn, 1)]
set_option maxRecDepth 20000 in
theorem dt_X10_at : ∀ q ∈ dl_X10_at, decode prog_1_method_4_code q.1 = .ok q.2 := by decide +kernel
def f_X10_at (x1 : Int32) (h : Hp) : Option Int32 :=
  (f_X6_whoAt 33 x1 h).bind fun v1 =>
  some v1
set_option maxRecDepth 20000 in
theorem w_X10_at (x1 : Int32) (h : Hp) (q : Int32)  (hrun : f_X10_at x1 h = some q) : MetA ⟨"SteamNations", "at", "(I)I"⟩ prog_1_method_4_code 2 (some .int) 2 0 0 [.ref 0, .int x1] h (some (.int q)) h := by
  refine metA_of (by decide) (Nat.le_of_ble_eq_true rfl) (fun X C K => ?_)
  have C : Cx X cn_10 prog_1_method_4_code 2 (some .int) 2 0 0 := C
  show G X h 0 0 0 [(0, .ref 0), (1, .int x1)] []
  unfold f_X10_at at hrun
  refine g_aload_n C (dat dt_X10_at 0 rfl) 0 rfl ?_
  refine g_getR C (dat dt_X10_at 1 rfl) fl_10_75 kd_0 rfl ltk_0 ?_
  refine g_getR C (dat dt_X10_at 2 rfl) fl_10_123 kd_32 rfl ltk_32 ?_
  refine g_iload_n C (dat dt_X10_at 3 rfl) 1 rfl ?_
  obtain ⟨v1, q2, hrun⟩ := bd hrun
  refine g_cVi [.int x1] C (dat dt_X10_at 4 rfl) ml_10_170 (w_X6_whoAt 33 x1 h v1 room_33 q2) kd_33 ltk_33 rfl rfl cat0 (by decide) c00 ?_
  cases hrun
  exact g_iret C K (dat dt_X10_at 5 rfl)
/-! SteamNations.asks(II)I -/
def dl_X10_asks : List (Nat × Instr × Nat) := [(0, .aload_n 0, 1), (1, .getfield 75, 3), (4, .getfield 123, 3), (7, .astore_n 3, 1), (8, .aload_n 3, 1), (9, .iload_n 1, 1), (10, .invokevirtual 155, 3), (13, .ifCond .eq 11, 3), (16, .aload_n 3, 1), (17, .iload_n 2, 1), (18, .invokevirtual 155, 3), (21, .ifCond .ne 5, 3), (24, .iconst (-1), 1), (25, .ireturn, 1), (26, .aload_n 3, 1), (27, .getfield 149, 3), (30, .iload_n 1, 1), (31, .iaload, 1), (32, .aload_n 3, 1), (33, .getfield 149, 3), (36, .iload_n 2, 1), (37, .iaload, 1), (38, .invokestatic 173, 3), (41, .ifCond .ne 5, 3), (44, .iconst (-1), 1), (45, .ireturn, 1), (46, .aload_n 0, 1), (47, .getfield 84, 3), (50, .aload_n 3, 1), (51, .aload_n 0, 1), (52, .getfield 75, 3), (55, .invokevirtual 158, 3), (58, .iload_n 1, 1), (59, .iload_n 2, 1), (60, .invokevirtual 177, 3), (63, .ireturn, 1)]
set_option maxRecDepth 20000 in
theorem dt_X10_asks : ∀ q ∈ dl_X10_asks, decode prog_1_method_5_code q.1 = .ok q.2 := by decide +kernel
def f_X10_asks (x1 : Int32) (x2 : Int32) (h : Hp) : Option (Int32 × Hp) :=
  (f_X6_isInside 33 x1 h).bind fun v1 =>
  if v1 = true then
  (f_X6_isInside 33 x2 h).bind fun v4 =>
  if v4 = true then
  (inb x1 6).bind fun j7 =>
  (inb x2 6).bind fun j9 =>
  (f_X10_areBeside (aI h 36 j7) (aI h 36 j9)).bind fun v11 =>
  if v11 = true then
  (f_X1_inForce 32 h).bind fun v14 =>
  (f_X8_partsTold 33 v14 x1 x2 h).bind fun v16 =>
  some (v16.1, v16.2)
  else
  some ((-1 : Int32), h)
  else
  some ((-1 : Int32), h)
  else
  some ((-1 : Int32), h)
set_option maxRecDepth 20000 in
theorem w_X10_asks (x1 : Int32) (x2 : Int32) (h : Hp) (q : (Int32 × Hp))  (hrun : f_X10_asks x1 x2 h = some q) : MetA ⟨"SteamNations", "asks", "(II)I"⟩ prog_1_method_5_code 4 (some .int) 4 0 0 [.ref 0, .int x1, .int x2] h (some (.int q.1)) q.2 := by
  refine metA_of (by decide) (Nat.le_of_ble_eq_true rfl) (fun X C K => ?_)
  have C : Cx X cn_10 prog_1_method_5_code 4 (some .int) 4 0 0 := C
  show G X h 0 0 0 [(0, .ref 0), (1, .int x1), (2, .int x2)] []
  unfold f_X10_asks at hrun
  refine g_aload_n C (dat dt_X10_asks 0 rfl) 0 rfl ?_
  refine g_getR C (dat dt_X10_asks 1 rfl) fl_10_75 kd_0 rfl ltk_0 ?_
  refine g_getR C (dat dt_X10_asks 2 rfl) fl_10_123 kd_32 rfl ltk_32 ?_
  refine g_astore_n (lv' := [(0, .ref 0), (1, .int x1), (2, .int x2), (3, .ref 33)]) C (dat dt_X10_asks 3 rfl) (by decide) rfl ?_
  refine g_aload_n C (dat dt_X10_asks 4 rfl) 3 rfl ?_
  refine g_iload_n C (dat dt_X10_asks 5 rfl) 1 rfl ?_
  obtain ⟨v1, q2, hrun⟩ := bd hrun
  refine g_cVi [.int x1] C (dat dt_X10_asks 6 rfl) ml_10_155 (w_X6_isInside 33 x1 h v1 room_33 q2) kd_33 ltk_33 rfl rfl cat0 (by decide) c00 ?_
  refine g_if_eq 24 C (dat dt_X10_asks 7 rfl) (by decide) (fun c3 => ?_) (fun c3 => ?_)
  · rw [if_neg (b2i_z c3)] at hrun
    refine g_iconst C (dat dt_X10_asks 12 rfl) ic_m1 ?_
    cases hrun
    exact g_iret C K (dat dt_X10_asks 13 rfl)
  · rw [if_pos (b2i_nz c3)] at hrun
    refine g_aload_n C (dat dt_X10_asks 8 rfl) 3 rfl ?_
    refine g_iload_n C (dat dt_X10_asks 9 rfl) 2 rfl ?_
    obtain ⟨v4, q5, hrun⟩ := bd hrun
    refine g_cVi [.int x2] C (dat dt_X10_asks 10 rfl) ml_10_155 (w_X6_isInside 33 x2 h v4 room_33 q5) kd_33 ltk_33 rfl rfl cat0 (by decide) c00 ?_
    refine g_if_ne 26 C (dat dt_X10_asks 11 rfl) (by decide) (fun c6 => ?_) (fun c6 => ?_)
    · rw [if_pos (b2i_nz c6)] at hrun
      refine g_aload_n C (dat dt_X10_asks 14 rfl) 3 rfl ?_
      refine g_getR C (dat dt_X10_asks 15 rfl) fl_10_149 kd_33 rfl ltk_33 ?_
      refine g_iload_n C (dat dt_X10_asks 16 rfl) 1 rfl ?_
      obtain ⟨j7, q8, hrun⟩ := bd hrun
      refine g_iald C (dat dt_X10_asks 17 rfl) kd_36 ltk_36 q8 ?_
      refine g_aload_n C (dat dt_X10_asks 18 rfl) 3 rfl ?_
      refine g_getR C (dat dt_X10_asks 19 rfl) fl_10_149 kd_33 rfl ltk_33 ?_
      refine g_iload_n C (dat dt_X10_asks 20 rfl) 2 rfl ?_
      obtain ⟨j9, q10, hrun⟩ := bd hrun
      refine g_iald C (dat dt_X10_asks 21 rfl) kd_36 ltk_36 q10 ?_
      obtain ⟨v11, q12, hrun⟩ := bd hrun
      refine g_cSi [.int (aI h 36 j7), .int (aI h 36 j9)] C (dat dt_X10_asks 22 rfl) ml_10_173 (w_X10_areBeside (aI h 36 j7) (aI h 36 j9) h v11  q12) rfl rfl cat0 (by decide) c00 ?_
      refine g_if_ne 46 C (dat dt_X10_asks 23 rfl) (by decide) (fun c13 => ?_) (fun c13 => ?_)
      · rw [if_pos (b2i_nz c13)] at hrun
        refine g_aload_n C (dat dt_X10_asks 26 rfl) 0 rfl ?_
        refine g_getR C (dat dt_X10_asks 27 rfl) fl_10_84 kd_0 rfl ltk_0 ?_
        refine g_aload_n C (dat dt_X10_asks 28 rfl) 3 rfl ?_
        refine g_aload_n C (dat dt_X10_asks 29 rfl) 0 rfl ?_
        refine g_getR C (dat dt_X10_asks 30 rfl) fl_10_75 kd_0 rfl ltk_0 ?_
        obtain ⟨v14, q15, hrun⟩ := bd hrun
        refine g_cVr [] C (dat dt_X10_asks 31 rfl) ml_10_158 (w_X1_inForce 32 h v14 house_32 q15) kd_32 ltk_32 rfl rfl (Nat.le_of_ble_eq_true rfl) (by decide) c00 ?_
        refine g_iload_n C (dat dt_X10_asks 32 rfl) 1 rfl ?_
        refine g_iload_n C (dat dt_X10_asks 33 rfl) 2 rfl ?_
        obtain ⟨v16, q17, hrun⟩ := bd hrun
        refine g_cVi [.ref 33, .ref v14, .int x1, .int x2] C (dat dt_X10_asks 34 rfl) ml_10_177 (w_X8_partsTold 33 v14 x1 x2 h v16 room_33 q17) kd_56 ltk_56 rfl rfl cat0 (by decide) c00 ?_
        cases hrun
        exact g_iret C K (dat dt_X10_asks 35 rfl)
      · rw [if_neg (b2i_z c13)] at hrun
        refine g_iconst C (dat dt_X10_asks 24 rfl) ic_m1 ?_
        cases hrun
        exact g_iret C K (dat dt_X10_asks 25 rfl)
    · rw [if_neg (b2i_z c6)] at hrun
      refine g_iconst C (dat dt_X10_asks 12 rfl) ic_m1 ?_
      cases hrun
      exact g_iret C K (dat dt_X10_asks 13 rfl)
/-! SteamNations.terms(II)I -/
def dl_X10_terms : List (Nat × Instr × Nat) := [(0, .iload_n 1, 1), (1, .ifCond .lt 21, 3), (4, .iload_n 1, 1), (5, .iconst 2, 1), (6, .if_icmp .gt 16, 3), (9, .iload_n 2, 1), (10, .ifCond .lt 12, 3), (13, .iload_n 2, 1), (14, .getstatic 181, 3), (17, .iload_n 1, 1), (18, .iaload, 1), (19, .if_icmp .le 9, 3), (22, .aload_n 0, 1), (23, .iconst (-1), 1), (24, .invokevirtual 119, 3), (27, .ireturn, 1), (28, .aload_n 0, 1), (29, .getfield 75, 3), (32, .getfield 123, 3), (35, .getfield 184, 3), (38, .iload_n 1, 1), (39, .iaload, 1), (40, .istore_n 3, 1), (41, .aload_n 0, 1), (42, .getfield 75, 3), (45, .getfield 123, 3), (48, .getfield 184, 3), (51, .iload_n 1, 1), (52, .iload_n 2, 1), (53, .iastore, 1), (54, .aload_n 0, 1), (55, .getfield 33, 3), (58, .invokevirtual 129, 3), (61, .aload_n 0, 1), (62, .iload_n 3, 1), (63, .invokevirtual 136, 3), (66, .ireturn, 1)]
set_option maxRecDepth 20000 in
theorem dt_X10_terms : ∀ q ∈ dl_X10_terms, decode prog_1_method_6_code q.1 = .ok q.2 := by decide +kernel
def j_X10_terms_22   (h : Hp) : Option (Int32 × Hp) :=
  (f_X10_answer (-1 : Int32) h).bind fun v2 =>
  some (v2.1, v2.2)
set_option maxRecDepth 20000 in
theorem wj_X10_terms_22 {X : Xt} (C : Cx X cn_10 prog_1_method_6_code 4 (some .int) 3 0 0)     (h : Hp) (q : (Int32 × Hp)) (hrun : j_X10_terms_22   h = some q) (K : EndQ X 0 0 (some (.int q.1)) q.2) : G X h 0 0 22 [(0, .ref 0)] [] := by
  unfold j_X10_terms_22 at hrun
  refine g_aload_n C (dat dt_X10_terms 12 rfl) 0 rfl ?_
  refine g_iconst C (dat dt_X10_terms 13 rfl) ic_m1 ?_
  obtain ⟨v2, q3, hrun⟩ := bd hrun
  refine g_cVi [.int (-1 : Int32)] C (dat dt_X10_terms 14 rfl) ml_10_119 (w_X10_answer (-1 : Int32) h v2  q3) kd_0 ltk_0 rfl rfl cat0 (by decide) c00 ?_
  cases hrun
  exact g_iret C K (dat dt_X10_terms 15 rfl)
def f_X10_terms (x1 : Int32) (x2 : Int32) (h : Hp) : Option (Int32 × Hp) :=
  if x1 < 0 then
  j_X10_terms_22   h
  else
  if (2 : Int32) < x1 then
  j_X10_terms_22   h
  else
  if x2 < 0 then
  j_X10_terms_22   h
  else
  (inb x1 3).bind fun j6 =>
  if x2 ≤ (moT.getD j6 0) then
  (inb x1 3).bind fun j9 =>
  (inb x1 3).bind fun j11 =>
  (f_X4_clear 10 (sA h 37 j11 x2)).bind fun v13 =>
  (f_X10_answerChanged (aI h 37 j9) v13.2).bind fun v15 =>
  some (v15.1, v15.2)
  else
  j_X10_terms_22   h
set_option maxRecDepth 20000 in
theorem w_X10_terms (x1 : Int32) (x2 : Int32) (h : Hp) (q : (Int32 × Hp))  (hrun : f_X10_terms x1 x2 h = some q) : MetA ⟨"SteamNations", "terms", "(II)I"⟩ prog_1_method_6_code 4 (some .int) 3 0 0 [.ref 0, .int x1, .int x2] h (some (.int q.1)) q.2 := by
  refine metA_of (by decide) (Nat.le_of_ble_eq_true rfl) (fun X C K => ?_)
  have C : Cx X cn_10 prog_1_method_6_code 4 (some .int) 3 0 0 := C
  show G X h 0 0 0 [(0, .ref 0), (1, .int x1), (2, .int x2)] []
  unfold f_X10_terms at hrun
  refine g_iload_n C (dat dt_X10_terms 0 rfl) 1 rfl ?_
  refine g_if_lt 22 C (dat dt_X10_terms 1 rfl) (by decide) (fun c1 => ?_) (fun c1 => ?_)
  · rw [if_pos c1] at hrun
    refine g_sub [0] (lv' := [(0, .ref 0)]) rfl ?_
    exact wj_X10_terms_22 C     h _ hrun K
  · rw [if_neg c1] at hrun
    refine g_iload_n C (dat dt_X10_terms 2 rfl) 1 rfl ?_
    refine g_iconst C (dat dt_X10_terms 3 rfl) ic_2 ?_
    refine g_ic_gt 22 C (dat dt_X10_terms 4 rfl) (by decide) (fun c4 => ?_) (fun c4 => ?_)
    · rw [if_pos c4] at hrun
      refine g_sub [0] (lv' := [(0, .ref 0)]) rfl ?_
      exact wj_X10_terms_22 C     h _ hrun K
    · rw [if_neg c4] at hrun
      refine g_iload_n C (dat dt_X10_terms 5 rfl) 2 rfl ?_
      refine g_if_lt 22 C (dat dt_X10_terms 6 rfl) (by decide) (fun c5 => ?_) (fun c5 => ?_)
      · rw [if_pos c5] at hrun
        refine g_sub [0] (lv' := [(0, .ref 0)]) rfl ?_
        exact wj_X10_terms_22 C     h _ hrun K
      · rw [if_neg c5] at hrun
        refine g_iload_n C (dat dt_X10_terms 7 rfl) 2 rfl ?_
        refine g_gsM C (dat dt_X10_terms 8 rfl) gs_M ?_
        refine g_iload_n C (dat dt_X10_terms 9 rfl) 1 rfl ?_
        obtain ⟨j6, q7, hrun⟩ := bd hrun
        refine g_tldM C (dat dt_X10_terms 10 rfl) q7 ?_
        refine g_ic_le 28 C (dat dt_X10_terms 11 rfl) (by decide) (fun c8 => ?_) (fun c8 => ?_)
        · rw [if_pos c8] at hrun
          refine g_aload_n C (dat dt_X10_terms 16 rfl) 0 rfl ?_
          refine g_getR C (dat dt_X10_terms 17 rfl) fl_10_75 kd_0 rfl ltk_0 ?_
          refine g_getR C (dat dt_X10_terms 18 rfl) fl_10_123 kd_32 rfl ltk_32 ?_
          refine g_getR C (dat dt_X10_terms 19 rfl) fl_10_184 kd_33 rfl ltk_33 ?_
          refine g_iload_n C (dat dt_X10_terms 20 rfl) 1 rfl ?_
          obtain ⟨j9, q10, hrun⟩ := bd hrun
          refine g_iald C (dat dt_X10_terms 21 rfl) kd_37 ltk_37 q10 ?_
          refine g_istore_n (lv' := [(0, .ref 0), (1, .int x1), (2, .int x2), (3, .int (aI h 37 j9))]) C (dat dt_X10_terms 22 rfl) (by decide) rfl ?_
          refine g_aload_n C (dat dt_X10_terms 23 rfl) 0 rfl ?_
          refine g_getR C (dat dt_X10_terms 24 rfl) fl_10_75 kd_0 rfl ltk_0 ?_
          refine g_getR C (dat dt_X10_terms 25 rfl) fl_10_123 kd_32 rfl ltk_32 ?_
          refine g_getR C (dat dt_X10_terms 26 rfl) fl_10_184 kd_33 rfl ltk_33 ?_
          refine g_iload_n C (dat dt_X10_terms 27 rfl) 1 rfl ?_
          refine g_iload_n C (dat dt_X10_terms 28 rfl) 2 rfl ?_
          obtain ⟨j11, q12, hrun⟩ := bd hrun
          refine g_iast (j := j11) C (dat dt_X10_terms 29 rfl) kd_37 ltk_37 q12  ?_
          refine g_aload_n C (dat dt_X10_terms 30 rfl) 0 rfl ?_
          refine g_getR C (dat dt_X10_terms 31 rfl) fl_10_33 kd_0 rfl ltk_0 ?_
          obtain ⟨v13, q14, hrun⟩ := bd hrun
          refine g_cVv [] C (dat dt_X10_terms 32 rfl) ml_10_129 (w_X4_clear 10 (sA h 37 j11 x2) v13 past_10 q14) kd_10 ltk_10 rfl rfl cat0 (by decide) c00 ?_
          refine g_aload_n C (dat dt_X10_terms 33 rfl) 0 rfl ?_
          refine g_iload_n C (dat dt_X10_terms 34 rfl) 3 rfl ?_
          obtain ⟨v15, q16, hrun⟩ := bd hrun
          refine g_cVi [.int (aI h 37 j9)] C (dat dt_X10_terms 35 rfl) ml_10_136 (w_X10_answerChanged (aI h 37 j9) v13.2 v15  q16) kd_0 ltk_0 rfl rfl cat0 (by decide) c00 ?_
          cases hrun
          exact g_iret C K (dat dt_X10_terms 36 rfl)
        · rw [if_neg c8] at hrun
          refine g_sub [0] (lv' := [(0, .ref 0)]) rfl ?_
          exact wj_X10_terms_22 C     h _ hrun K
/-! SteamNations.putFour(I)V -/
def dl_X10_putFour : List (Nat × Instr × Nat) := [(0, .bipush 24, 2), (2, .istore_n 2, 1), (3, .iload_n 2, 1), (4, .ifCond .lt 45, 3), (7, .aload_n 0, 1), (8, .getfield 187, 3), (11, .sipush 400, 3), (14, .if_icmp .ge 35, 3), (17, .aload_n 0, 1), (18, .getfield 19, 3), (21, .aload_n 0, 1), (22, .getfield 187, 3), (25, .iload_n 1, 1), (26, .iload_n 2, 1), (27, .ishr, 1), (28, .sipush 255, 3), (31, .iand, 1), (32, .iastore, 1), (33, .aload_n 0, 1), (34, .dup, 1), (35, .getfield 187, 3), (38, .iconst 1, 1), (39, .iadd, 1), (40, .putfield 187, 3), (43, .iinc 2 (-8), 3), (46, .goto (-43), 3), (49, .return_, 1)]
set_option maxRecDepth 20000 in
theorem dt_X10_putFour : ∀ q ∈ dl_X10_putFour, decode prog_1_method_42_code q.1 = .ok q.2 := by decide +kernel
def kp_X10_putFour_3  (x1 : Int32) (X : Xt) (s : (Int32 × Hp)) : Prop := G X s.2 0 0 3 [(0, .ref 0), (1, .int x1), (2, .int s.1)] []
def ke_X10_putFour_3  (x1 : Int32) (X : Xt) (e : Hp) : Prop := G X e 0 0 49 [] []
def b_X10_putFour_3  (x1 : Int32) (x2 : Int32) (h : Hp) : Option ((Int32 × Hp) ⊕ Hp) :=
  if x2 < 0 then
  some (.inr ( h))
  else
  if (400 : Int32) ≤ (fI h 0 16) then
  some (.inr ( h))
  else
  (inb (fI h 0 16) 400).bind fun j3 =>
  some (.inl ((x2 + (-8 : Int32)), (sF (sA h 3 j3 ((x1 >>> (x2 &&& 31)) &&& (255 : Int32))) 0 16 ((fI (sA h 3 j3 ((x1 >>> (x2 &&& 31)) &&& (255 : Int32))) 0 16) + (1 : Int32)))))
set_option maxRecDepth 20000 in
theorem wb_X10_putFour_3 {X : Xt} (C : Cx X cn_10 prog_1_method_42_code 3 none 1 0 0)   (x1 : Int32) (x2 : Int32) (h : Hp) (q : (Int32 × Hp) ⊕ Hp) (hrun : b_X10_putFour_3  x1 x2 h = some q) (Ks : ∀ s, q = .inl s → kp_X10_putFour_3  x1 X s) (Ke : ∀ e, q = .inr e → ke_X10_putFour_3  x1 X e) : kp_X10_putFour_3  x1 X (x2, h) := by
  show G X h 0 0 3 [(0, .ref 0), (1, .int x1), (2, .int x2)] []
  unfold b_X10_putFour_3 at hrun
  refine g_iload_n C (dat dt_X10_putFour 2 rfl) 2 rfl ?_
  refine g_if_lt 49 C (dat dt_X10_putFour 3 rfl) (by decide) (fun c1 => ?_) (fun c1 => ?_)
  · rw [if_pos c1] at hrun
    refine g_sub [] (lv' := []) rfl ?_
    cases hrun
    exact Ke ( h) rfl
  · rw [if_neg c1] at hrun
    refine g_aload_n C (dat dt_X10_putFour 4 rfl) 0 rfl ?_
    refine g_getI C (dat dt_X10_putFour 5 rfl) fl_10_187 kd_0 rfl ltk_0 ?_
    refine g_sipush C (dat dt_X10_putFour 6 rfl) sp_400 ?_
    refine g_ic_ge 49 C (dat dt_X10_putFour 7 rfl) (by decide) (fun c2 => ?_) (fun c2 => ?_)
    · rw [if_pos c2] at hrun
      refine g_sub [] (lv' := []) rfl ?_
      cases hrun
      exact Ke ( h) rfl
    · rw [if_neg c2] at hrun
      refine g_aload_n C (dat dt_X10_putFour 8 rfl) 0 rfl ?_
      refine g_getR C (dat dt_X10_putFour 9 rfl) fl_10_19 kd_0 rfl ltk_0 ?_
      refine g_aload_n C (dat dt_X10_putFour 10 rfl) 0 rfl ?_
      refine g_getI C (dat dt_X10_putFour 11 rfl) fl_10_187 kd_0 rfl ltk_0 ?_
      refine g_iload_n C (dat dt_X10_putFour 12 rfl) 1 rfl ?_
      refine g_iload_n C (dat dt_X10_putFour 13 rfl) 2 rfl ?_
      refine g_ishr C (dat dt_X10_putFour 14 rfl) ?_
      refine g_sipush C (dat dt_X10_putFour 15 rfl) sp_255 ?_
      refine g_iand C (dat dt_X10_putFour 16 rfl) ?_
      obtain ⟨j3, q4, hrun⟩ := bd hrun
      refine g_iast (j := j3) C (dat dt_X10_putFour 17 rfl) kd_3 ltk_3 q4  ?_
      refine g_aload_n C (dat dt_X10_putFour 18 rfl) 0 rfl ?_
      refine g_dup C (dat dt_X10_putFour 19 rfl) rfl ?_
      refine g_getI C (dat dt_X10_putFour 20 rfl) fl_10_187 kd_0 rfl ltk_0 ?_
      refine g_iconst C (dat dt_X10_putFour 21 rfl) ic_1 ?_
      refine g_iadd C (dat dt_X10_putFour 22 rfl) ?_
      refine g_putI C (dat dt_X10_putFour 23 rfl) fl_10_187 rfl rfl kd_0 rfl ltk_0 ?_
      refine g_iinc (v := (x2 + (-8 : Int32))) (lv' := [(0, .ref 0), (1, .int x1), (2, .int (x2 + (-8 : Int32)))]) C (dat dt_X10_putFour 24 rfl) 2 rfl (congrArg (fun z => x2 + z) ic_m8) (by decide) rfl ?_
      refine g_goto 3 C (dat dt_X10_putFour 25 rfl) (by decide) ?_
      cases hrun
      exact Ks ((x2 + (-8 : Int32)), (sF (sA h 3 j3 ((x1 >>> (x2 &&& 31)) &&& (255 : Int32))) 0 16 ((fI (sA h 3 j3 ((x1 >>> (x2 &&& 31)) &&& (255 : Int32))) 0 16) + (1 : Int32)))) rfl
def f_X10_putFour (x1 : Int32) (h : Hp) : Option (Unit × Hp) :=
  (lp (fun s => b_X10_putFour_3  x1 s.1 s.2) FU ((24 : Int32), h)).bind fun e5 =>
  some ((), e5)
set_option maxRecDepth 20000 in
theorem w_X10_putFour (x1 : Int32) (h : Hp) (q : (Unit × Hp))  (hrun : f_X10_putFour x1 h = some q) : MetA ⟨"SteamNations", "putFour", "(I)V"⟩ prog_1_method_42_code 3 none 1 0 0 [.ref 0, .int x1] h none q.2 := by
  refine metA_of (by decide) (Nat.le_of_ble_eq_true rfl) (fun X C K => ?_)
  have C : Cx X cn_10 prog_1_method_42_code 3 none 1 0 0 := C
  show G X h 0 0 0 [(0, .ref 0), (1, .int x1)] []
  unfold f_X10_putFour at hrun
  refine g_bipush C (dat dt_X10_putFour 0 rfl) bp_24 ?_
  refine g_istore_n (lv' := [(0, .ref 0), (1, .int x1), (2, .int (24 : Int32))]) C (dat dt_X10_putFour 1 rfl) (by decide) rfl ?_
  obtain ⟨e5, q6, hrun⟩ := bd hrun
  refine lp_ind (P := fun s => kp_X10_putFour_3  x1 X s) (K := fun e => ke_X10_putFour_3  x1 X e) (fun s q hb Ks Ke => wb_X10_putFour_3 C   x1 s.1 s.2 q hb Ks Ke) FU ((24 : Int32), h) e5 q6 ?_
  show G X e5 0 0 49 [] []
  cases hrun
  exact g_vret C K (dat dt_X10_putFour 26 rfl)
/-! SteamNations.feed(IIIII)I -/
def dl_X10_feed : List (Nat × Instr × Nat) := [(0, .aload_n 0, 1), (1, .getfield 187, 3), (4, .bipush 20, 2), (6, .iadd, 1), (7, .sipush 400, 3), (10, .if_icmp .le 5, 3), (13, .iconst (-1), 1), (14, .ireturn, 1), (15, .aload_n 0, 1), (16, .iload_n 1, 1), (17, .invokevirtual 190, 3), (20, .aload_n 0, 1), (21, .iload_n 2, 1), (22, .invokevirtual 190, 3), (25, .aload_n 0, 1), (26, .iload_n 3, 1), (27, .invokevirtual 190, 3), (30, .aload_n 0, 1), (31, .iload 4, 2), (33, .invokevirtual 190, 3), (36, .aload_n 0, 1), (37, .iload 5, 2), (39, .invokevirtual 190, 3), (42, .aload_n 0, 1), (43, .getfield 187, 3), (46, .ireturn, 1)]
set_option maxRecDepth 20000 in
theorem dt_X10_feed : ∀ q ∈ dl_X10_feed, decode prog_1_method_7_code q.1 = .ok q.2 := by decide +kernel
def f_X10_feed (x1 : Int32) (x2 : Int32) (x3 : Int32) (x4 : Int32) (x5 : Int32) (h : Hp) : Option (Int32 × Hp) :=
  if ((fI h 0 16) + (20 : Int32)) ≤ (400 : Int32) then
  (f_X10_putFour x1 h).bind fun v2 =>
  (f_X10_putFour x2 v2.2).bind fun v4 =>
  (f_X10_putFour x3 v4.2).bind fun v6 =>
  (f_X10_putFour x4 v6.2).bind fun v8 =>
  (f_X10_putFour x5 v8.2).bind fun v10 =>
  some ((fI v10.2 0 16), v10.2)
  else
  some ((-1 : Int32), h)
set_option maxRecDepth 20000 in
theorem w_X10_feed (x1 : Int32) (x2 : Int32) (x3 : Int32) (x4 : Int32) (x5 : Int32) (h : Hp) (q : (Int32 × Hp))  (hrun : f_X10_feed x1 x2 x3 x4 x5 h = some q) : MetA ⟨"SteamNations", "feed", "(IIIII)I"⟩ prog_1_method_7_code 6 (some .int) 2 0 0 [.ref 0, .int x1, .int x2, .int x3, .int x4, .int x5] h (some (.int q.1)) q.2 := by
  refine metA_of (by decide) (Nat.le_of_ble_eq_true rfl) (fun X C K => ?_)
  have C : Cx X cn_10 prog_1_method_7_code 6 (some .int) 2 0 0 := C
  show G X h 0 0 0 [(0, .ref 0), (1, .int x1), (2, .int x2), (3, .int x3), (4, .int x4), (5, .int x5)] []
  unfold f_X10_feed at hrun
  refine g_aload_n C (dat dt_X10_feed 0 rfl) 0 rfl ?_
  refine g_getI C (dat dt_X10_feed 1 rfl) fl_10_187 kd_0 rfl ltk_0 ?_
  refine g_bipush C (dat dt_X10_feed 2 rfl) bp_20 ?_
  refine g_iadd C (dat dt_X10_feed 3 rfl) ?_
  refine g_sipush C (dat dt_X10_feed 4 rfl) sp_400 ?_
  refine g_ic_le 15 C (dat dt_X10_feed 5 rfl) (by decide) (fun c1 => ?_) (fun c1 => ?_)
  · rw [if_pos c1] at hrun
    refine g_aload_n C (dat dt_X10_feed 8 rfl) 0 rfl ?_
    refine g_iload_n C (dat dt_X10_feed 9 rfl) 1 rfl ?_
    obtain ⟨v2, q3, hrun⟩ := bd hrun
    refine g_cVv [.int x1] C (dat dt_X10_feed 10 rfl) ml_10_190 (w_X10_putFour x1 h v2  q3) kd_0 ltk_0 rfl rfl cat0 (by decide) c00 ?_
    refine g_aload_n C (dat dt_X10_feed 11 rfl) 0 rfl ?_
    refine g_iload_n C (dat dt_X10_feed 12 rfl) 2 rfl ?_
    obtain ⟨v4, q5, hrun⟩ := bd hrun
    refine g_cVv [.int x2] C (dat dt_X10_feed 13 rfl) ml_10_190 (w_X10_putFour x2 v2.2 v4  q5) kd_0 ltk_0 rfl rfl cat0 (by decide) c00 ?_
    refine g_aload_n C (dat dt_X10_feed 14 rfl) 0 rfl ?_
    refine g_iload_n C (dat dt_X10_feed 15 rfl) 3 rfl ?_
    obtain ⟨v6, q7, hrun⟩ := bd hrun
    refine g_cVv [.int x3] C (dat dt_X10_feed 16 rfl) ml_10_190 (w_X10_putFour x3 v4.2 v6  q7) kd_0 ltk_0 rfl rfl cat0 (by decide) c00 ?_
    refine g_aload_n C (dat dt_X10_feed 17 rfl) 0 rfl ?_
    refine g_iload C (dat dt_X10_feed 18 rfl) 4 rfl ?_
    obtain ⟨v8, q9, hrun⟩ := bd hrun
    refine g_cVv [.int x4] C (dat dt_X10_feed 19 rfl) ml_10_190 (w_X10_putFour x4 v6.2 v8  q9) kd_0 ltk_0 rfl rfl cat0 (by decide) c00 ?_
    refine g_aload_n C (dat dt_X10_feed 20 rfl) 0 rfl ?_
    refine g_iload C (dat dt_X10_feed 21 rfl) 5 rfl ?_
    obtain ⟨v10, q11, hrun⟩ := bd hrun
    refine g_cVv [.int x5] C (dat dt_X10_feed 22 rfl) ml_10_190 (w_X10_putFour x5 v8.2 v10  q11) kd_0 ltk_0 rfl rfl cat0 (by decide) c00 ?_
    refine g_aload_n C (dat dt_X10_feed 23 rfl) 0 rfl ?_
    refine g_getI C (dat dt_X10_feed 24 rfl) fl_10_187 kd_0 rfl ltk_0 ?_
    cases hrun
    exact g_iret C K (dat dt_X10_feed 25 rfl)
  · rw [if_neg c1] at hrun
    refine g_iconst C (dat dt_X10_feed 6 rfl) ic_m1 ?_
    cases hrun
    exact g_iret C K (dat dt_X10_feed 7 rfl)
/-! SteamNations.end(I)I -/
def dl_X10_end : List (Nat × Instr × Nat) := [(0, .iload_n 1, 1), (1, .ifCond .lt 11, 3), (4, .iload_n 1, 1), (5, .aload_n 0, 1), (6, .getfield 187, 3), (9, .if_icmp .le 5, 3), (12, .iconst (-1), 1), (13, .ireturn, 1), (14, .aload_n 0, 1), (15, .iload_n 1, 1), (16, .putfield 187, 3), (19, .iload_n 1, 1), (20, .ireturn, 1)]
set_option maxRecDepth 20000 in
theorem dt_X10_end : ∀ q ∈ dl_X10_end, decode prog_1_method_8_code q.1 = .ok q.2 := by decide +kernel
def f_X10_end (x1 : Int32) (h : Hp) : Option (Int32 × Hp) :=
  if x1 < 0 then
  some ((-1 : Int32), h)
  else
  if x1 ≤ (fI h 0 16) then
  some (x1, (sF h 0 16 x1))
  else
  some ((-1 : Int32), h)
set_option maxRecDepth 20000 in
theorem w_X10_end (x1 : Int32) (h : Hp) (q : (Int32 × Hp))  (hrun : f_X10_end x1 h = some q) : MetA ⟨"SteamNations", "end", "(I)I"⟩ prog_1_method_8_code 2 (some .int) 1 0 0 [.ref 0, .int x1] h (some (.int q.1)) q.2 := by
  refine metA_of (by decide) (Nat.le_of_ble_eq_true rfl) (fun X C K => ?_)
  have C : Cx X cn_10 prog_1_method_8_code 2 (some .int) 1 0 0 := C
  show G X h 0 0 0 [(0, .ref 0), (1, .int x1)] []
  unfold f_X10_end at hrun
  refine g_iload_n C (dat dt_X10_end 0 rfl) 1 rfl ?_
  refine g_if_lt 12 C (dat dt_X10_end 1 rfl) (by decide) (fun c1 => ?_) (fun c1 => ?_)
  · rw [if_pos c1] at hrun
    refine g_iconst C (dat dt_X10_end 6 rfl) ic_m1 ?_
    cases hrun
    exact g_iret C K (dat dt_X10_end 7 rfl)
  · rw [if_neg c1] at hrun
    refine g_iload_n C (dat dt_X10_end 2 rfl) 1 rfl ?_
    refine g_aload_n C (dat dt_X10_end 3 rfl) 0 rfl ?_
    refine g_getI C (dat dt_X10_end 4 rfl) fl_10_187 kd_0 rfl ltk_0 ?_
    refine g_ic_le 14 C (dat dt_X10_end 5 rfl) (by decide) (fun c2 => ?_) (fun c2 => ?_)
    · rw [if_pos c2] at hrun
      refine g_aload_n C (dat dt_X10_end 8 rfl) 0 rfl ?_
      refine g_iload_n C (dat dt_X10_end 9 rfl) 1 rfl ?_
      refine g_putI C (dat dt_X10_end 10 rfl) fl_10_187 rfl rfl kd_0 rfl ltk_0 ?_
      refine g_iload_n C (dat dt_X10_end 11 rfl) 1 rfl ?_
      cases hrun
      exact g_iret C K (dat dt_X10_end 12 rfl)
    · rw [if_neg c2] at hrun
      refine g_iconst C (dat dt_X10_end 6 rfl) ic_m1 ?_
      cases hrun
      exact g_iret C K (dat dt_X10_end 7 rfl)
/-! SteamNations.sitterFromTape(I)Z -/
def dl_X10_sitterFromTape : List (Nat × Instr × Nat) := [(0, .iload_n 1, 1), (1, .ifCond .lt 28, 3), (4, .iload_n 1, 1), (5, .iconst 4, 1), (6, .iadd, 1), (7, .aload_n 0, 1), (8, .getfield 187, 3), (11, .if_icmp .gt 18, 3), (14, .aload_n 0, 1), (15, .getfield 75, 3), (18, .getfield 123, 3), (21, .getfield 126, 3), (24, .bipush 6, 2), (26, .if_icmp .lt 5, 3), (29, .iconst 0, 1), (30, .ireturn, 1), (31, .aload_n 0, 1), (32, .getfield 19, 3), (35, .iload_n 1, 1), (36, .iaload, 1), (37, .aload_n 0, 1), (38, .getfield 19, 3), (41, .iload_n 1, 1), (42, .iconst 1, 1), (43, .iadd, 1), (44, .iaload, 1), (45, .aload_n 0, 1), (46, .getfield 19, 3), (49, .iload_n 1, 1), (50, .iconst 2, 1), (51, .iadd, 1), (52, .iaload, 1), (53, .aload_n 0, 1), (54, .getfield 19, 3), (57, .iload_n 1, 1), (58, .iconst 3, 1), (59, .iadd, 1), (60, .iaload, 1), (61, .invokestatic 115, 3), (64, .ifCond .ne 5, 3), (67, .iconst 0, 1), (68, .ireturn, 1), (69, .aload_n 0, 1), (70, .getfield 75, 3), (73, .getfield 123, 3), (76, .aload_n 0, 1), (77, .getfield 19, 3), (80, .iload_n 1, 1), (81, .iaload, 1), (82, .aload_n 0, 1), (83, .getfield 19, 3), (86, .iload_n 1, 1), (87, .iconst 1, 1), (88, .iadd, 1), (89, .iaload, 1), (90, .aload_n 0, 1), (91, .getfield 19, 3), (94, .iload_n 1, 1), (95, .iconst 2, 1), (96, .iadd, 1), (97, .iaload, 1), (98, .aload_n 0, 1), (99, .getfield 19, 3), (102, .iload_n 1, 1), (103, .iconst 3, 1), (104, .iadd, 1), (105, .iaload, 1), (106, .invokevirtual 132, 3), (109, .pop, 1), (110, .iconst 1, 1), (111, .ireturn, 1)]
set_option maxRecDepth 20000 in
theorem dt_X10_sitterFromTape : ∀ q ∈ dl_X10_sitterFromTape, decode prog_1_method_44_code q.1 = .ok q.2 := by decide +kernel
def f_X10_sitterFromTape (x1 : Int32) (h : Hp) : Option (Bool × Hp) :=
  if x1 < 0 then
  some (false, h)
  else
  if (fI h 0 16) < (x1 + (4 : Int32)) then
  some (false, h)
  else
  if (fI h 33 0) < (6 : Int32) then
  (inb x1 400).bind fun j4 =>
  (inb (x1 + (1 : Int32)) 400).bind fun j6 =>
  (inb (x1 + (2 : Int32)) 400).bind fun j8 =>
  (inb (x1 + (3 : Int32)) 400).bind fun j10 =>
  (f_X10_canBeSitter (aI h 3 j4) (aI h 3 j6) (aI h 3 j8) (aI h 3 j10)).bind fun v12 =>
  if v12 = true then
  (inb x1 400).bind fun j15 =>
  (inb (x1 + (1 : Int32)) 400).bind fun j17 =>
  (inb (x1 + (2 : Int32)) 400).bind fun j19 =>
  (inb (x1 + (3 : Int32)) 400).bind fun j21 =>
  (f_X6_add 33 (aI h 3 j15) (aI h 3 j17) (aI h 3 j19) (aI h 3 j21) h).bind fun v23 =>
  some (true, v23.2)
  else
  some (false, h)
  else
  some (false, h)
set_option maxRecDepth 20000 in
theorem w_X10_sitterFromTape (x1 : Int32) (h : Hp) (q : (Bool × Hp))  (hrun : f_X10_sitterFromTape x1 h = some q) : MetA ⟨"SteamNations", "sitterFromTape", "(I)Z"⟩ prog_1_method_44_code 2 (some .boolean) 3 0 0 [.ref 0, .int x1] h (some (.int (b2i q.1))) q.2 := by
  refine metA_of (by decide) (Nat.le_of_ble_eq_true rfl) (fun X C K => ?_)
  have C : Cx X cn_10 prog_1_method_44_code 2 (some .boolean) 3 0 0 := C
  show G X h 0 0 0 [(0, .ref 0), (1, .int x1)] []
  unfold f_X10_sitterFromTape at hrun
  refine g_iload_n C (dat dt_X10_sitterFromTape 0 rfl) 1 rfl ?_
  refine g_if_lt 29 C (dat dt_X10_sitterFromTape 1 rfl) (by decide) (fun c1 => ?_) (fun c1 => ?_)
  · rw [if_pos c1] at hrun
    refine g_iconst C (dat dt_X10_sitterFromTape 14 rfl) ic_0 ?_
    cases hrun
    exact g_zret C K (show (0 : Int32) = b2i false by decide) (dat dt_X10_sitterFromTape 15 rfl)
  · rw [if_neg c1] at hrun
    refine g_iload_n C (dat dt_X10_sitterFromTape 2 rfl) 1 rfl ?_
    refine g_iconst C (dat dt_X10_sitterFromTape 3 rfl) ic_4 ?_
    refine g_iadd C (dat dt_X10_sitterFromTape 4 rfl) ?_
    refine g_aload_n C (dat dt_X10_sitterFromTape 5 rfl) 0 rfl ?_
    refine g_getI C (dat dt_X10_sitterFromTape 6 rfl) fl_10_187 kd_0 rfl ltk_0 ?_
    refine g_ic_gt 29 C (dat dt_X10_sitterFromTape 7 rfl) (by decide) (fun c2 => ?_) (fun c2 => ?_)
    · rw [if_pos c2] at hrun
      refine g_iconst C (dat dt_X10_sitterFromTape 14 rfl) ic_0 ?_
      cases hrun
      exact g_zret C K (show (0 : Int32) = b2i false by decide) (dat dt_X10_sitterFromTape 15 rfl)
    · rw [if_neg c2] at hrun
      refine g_aload_n C (dat dt_X10_sitterFromTape 8 rfl) 0 rfl ?_
      refine g_getR C (dat dt_X10_sitterFromTape 9 rfl) fl_10_75 kd_0 rfl ltk_0 ?_
      refine g_getR C (dat dt_X10_sitterFromTape 10 rfl) fl_10_123 kd_32 rfl ltk_32 ?_
      refine g_getI C (dat dt_X10_sitterFromTape 11 rfl) fl_10_126 kd_33 rfl ltk_33 ?_
      refine g_bipush C (dat dt_X10_sitterFromTape 12 rfl) bp_6 ?_
      refine g_ic_lt 31 C (dat dt_X10_sitterFromTape 13 rfl) (by decide) (fun c3 => ?_) (fun c3 => ?_)
      · rw [if_pos c3] at hrun
        refine g_aload_n C (dat dt_X10_sitterFromTape 16 rfl) 0 rfl ?_
        refine g_getR C (dat dt_X10_sitterFromTape 17 rfl) fl_10_19 kd_0 rfl ltk_0 ?_
        refine g_iload_n C (dat dt_X10_sitterFromTape 18 rfl) 1 rfl ?_
        obtain ⟨j4, q5, hrun⟩ := bd hrun
        refine g_iald C (dat dt_X10_sitterFromTape 19 rfl) kd_3 ltk_3 q5 ?_
        refine g_aload_n C (dat dt_X10_sitterFromTape 20 rfl) 0 rfl ?_
        refine g_getR C (dat dt_X10_sitterFromTape 21 rfl) fl_10_19 kd_0 rfl ltk_0 ?_
        refine g_iload_n C (dat dt_X10_sitterFromTape 22 rfl) 1 rfl ?_
        refine g_iconst C (dat dt_X10_sitterFromTape 23 rfl) ic_1 ?_
        refine g_iadd C (dat dt_X10_sitterFromTape 24 rfl) ?_
        obtain ⟨j6, q7, hrun⟩ := bd hrun
        refine g_iald C (dat dt_X10_sitterFromTape 25 rfl) kd_3 ltk_3 q7 ?_
        refine g_aload_n C (dat dt_X10_sitterFromTape 26 rfl) 0 rfl ?_
        refine g_getR C (dat dt_X10_sitterFromTape 27 rfl) fl_10_19 kd_0 rfl ltk_0 ?_
        refine g_iload_n C (dat dt_X10_sitterFromTape 28 rfl) 1 rfl ?_
        refine g_iconst C (dat dt_X10_sitterFromTape 29 rfl) ic_2 ?_
        refine g_iadd C (dat dt_X10_sitterFromTape 30 rfl) ?_
        obtain ⟨j8, q9, hrun⟩ := bd hrun
        refine g_iald C (dat dt_X10_sitterFromTape 31 rfl) kd_3 ltk_3 q9 ?_
        refine g_aload_n C (dat dt_X10_sitterFromTape 32 rfl) 0 rfl ?_
        refine g_getR C (dat dt_X10_sitterFromTape 33 rfl) fl_10_19 kd_0 rfl ltk_0 ?_
        refine g_iload_n C (dat dt_X10_sitterFromTape 34 rfl) 1 rfl ?_
        refine g_iconst C (dat dt_X10_sitterFromTape 35 rfl) ic_3 ?_
        refine g_iadd C (dat dt_X10_sitterFromTape 36 rfl) ?_
        obtain ⟨j10, q11, hrun⟩ := bd hrun
        refine g_iald C (dat dt_X10_sitterFromTape 37 rfl) kd_3 ltk_3 q11 ?_
        obtain ⟨v12, q13, hrun⟩ := bd hrun
        refine g_cSi [.int (aI h 3 j4), .int (aI h 3 j6), .int (aI h 3 j8), .int (aI h 3 j10)] C (dat dt_X10_sitterFromTape 38 rfl) ml_10_115 (w_X10_canBeSitter (aI h 3 j4) (aI h 3 j6) (aI h 3 j8) (aI h 3 j10) h v12  q13) rfl rfl cat0 (by decide) c00 ?_
        refine g_if_ne 69 C (dat dt_X10_sitterFromTape 39 rfl) (by decide) (fun c14 => ?_) (fun c14 => ?_)
        · rw [if_pos (b2i_nz c14)] at hrun
          refine g_aload_n C (dat dt_X10_sitterFromTape 42 rfl) 0 rfl ?_
          refine g_getR C (dat dt_X10_sitterFromTape 43 rfl) fl_10_75 kd_0 rfl ltk_0 ?_
          refine g_getR C (dat dt_X10_sitterFromTape 44 rfl) fl_10_123 kd_32 rfl ltk_32 ?_
          refine g_aload_n C (dat dt_X10_sitterFromTape 45 rfl) 0 rfl ?_
          refine g_getR C (dat dt_X10_sitterFromTape 46 rfl) fl_10_19 kd_0 rfl ltk_0 ?_
          refine g_iload_n C (dat dt_X10_sitterFromTape 47 rfl) 1 rfl ?_
          obtain ⟨j15, q16, hrun⟩ := bd hrun
          refine g_iald C (dat dt_X10_sitterFromTape 48 rfl) kd_3 ltk_3 q16 ?_
          refine g_aload_n C (dat dt_X10_sitterFromTape 49 rfl) 0 rfl ?_
          refine g_getR C (dat dt_X10_sitterFromTape 50 rfl) fl_10_19 kd_0 rfl ltk_0 ?_
          refine g_iload_n C (dat dt_X10_sitterFromTape 51 rfl) 1 rfl ?_
          refine g_iconst C (dat dt_X10_sitterFromTape 52 rfl) ic_1 ?_
          refine g_iadd C (dat dt_X10_sitterFromTape 53 rfl) ?_
          obtain ⟨j17, q18, hrun⟩ := bd hrun
          refine g_iald C (dat dt_X10_sitterFromTape 54 rfl) kd_3 ltk_3 q18 ?_
          refine g_aload_n C (dat dt_X10_sitterFromTape 55 rfl) 0 rfl ?_
          refine g_getR C (dat dt_X10_sitterFromTape 56 rfl) fl_10_19 kd_0 rfl ltk_0 ?_
          refine g_iload_n C (dat dt_X10_sitterFromTape 57 rfl) 1 rfl ?_
          refine g_iconst C (dat dt_X10_sitterFromTape 58 rfl) ic_2 ?_
          refine g_iadd C (dat dt_X10_sitterFromTape 59 rfl) ?_
          obtain ⟨j19, q20, hrun⟩ := bd hrun
          refine g_iald C (dat dt_X10_sitterFromTape 60 rfl) kd_3 ltk_3 q20 ?_
          refine g_aload_n C (dat dt_X10_sitterFromTape 61 rfl) 0 rfl ?_
          refine g_getR C (dat dt_X10_sitterFromTape 62 rfl) fl_10_19 kd_0 rfl ltk_0 ?_
          refine g_iload_n C (dat dt_X10_sitterFromTape 63 rfl) 1 rfl ?_
          refine g_iconst C (dat dt_X10_sitterFromTape 64 rfl) ic_3 ?_
          refine g_iadd C (dat dt_X10_sitterFromTape 65 rfl) ?_
          obtain ⟨j21, q22, hrun⟩ := bd hrun
          refine g_iald C (dat dt_X10_sitterFromTape 66 rfl) kd_3 ltk_3 q22 ?_
          obtain ⟨v23, q24, hrun⟩ := bd hrun
          refine g_cVi [.int (aI h 3 j15), .int (aI h 3 j17), .int (aI h 3 j19), .int (aI h 3 j21)] C (dat dt_X10_sitterFromTape 67 rfl) ml_10_132 (w_X6_add 33 (aI h 3 j15) (aI h 3 j17) (aI h 3 j19) (aI h 3 j21) h v23 room_33 q24) kd_33 ltk_33 rfl rfl cat0 (by decide) c00 ?_
          refine g_pop C (dat dt_X10_sitterFromTape 68 rfl) rfl ?_
          refine g_iconst C (dat dt_X10_sitterFromTape 69 rfl) ic_1 ?_
          cases hrun
          exact g_zret C K (show (1 : Int32) = b2i true by decide) (dat dt_X10_sitterFromTape 70 rfl)
        · rw [if_neg (b2i_z c14)] at hrun
          refine g_iconst C (dat dt_X10_sitterFromTape 40 rfl) ic_0 ?_
          cases hrun
          exact g_zret C K (show (0 : Int32) = b2i false by decide) (dat dt_X10_sitterFromTape 41 rfl)
      · rw [if_neg c3] at hrun
        refine g_iconst C (dat dt_X10_sitterFromTape 14 rfl) ic_0 ?_
        cases hrun
        exact g_zret C K (show (0 : Int32) = b2i false by decide) (dat dt_X10_sitterFromTape 15 rfl)
/-! SteamNations.row()I -/
def dl_X10_row : List (Nat × Instr × Nat) := [(0, .aload_n 0, 1), (1, .getfield 187, 3), (4, .ifCond .ne 10, 3), (7, .aload_n 0, 1), (8, .bipush (-6), 2), (10, .invokevirtual 119, 3), (13, .ireturn, 1), (14, .iconst 0, 1), (15, .istore_n 1, 1), (16, .aload_n 0, 1), (17, .iconst 0, 1), (18, .putfield 194, 3), (21, .iconst 0, 1), (22, .istore_n 2, 1), (23, .iload_n 2, 1), (24, .aload_n 0, 1), (25, .getfield 187, 3), (28, .if_icmp .ge 33, 3), (31, .aload_n 0, 1), (32, .iload_n 2, 1), (33, .invokevirtual 197, 3), (36, .ifCond .eq 9, 3), (39, .iinc 1 1, 3), (42, .goto 13, 3), (45, .aload_n 0, 1), (46, .dup, 1), (47, .getfield 194, 3), (50, .iconst 1, 1), (51, .iadd, 1), (52, .putfield 194, 3), (55, .iinc 2 4, 3), (58, .goto (-35), 3), (61, .aload_n 0, 1), (62, .iconst 0, 1), (63, .putfield 187, 3), (66, .aload_n 0, 1), (67, .getfield 33, 3), (70, .invokevirtual 129, 3), (73, .aload_n 0, 1), (74, .iload_n 1, 1), (75, .invokevirtual 136, 3), (78, .ireturn, 1)]
set_option maxRecDepth 20000 in
theorem dt_X10_row : ∀ q ∈ dl_X10_row, decode prog_1_method_9_code q.1 = .ok q.2 := by decide +kernel
def kp_X10_row_23   (X : Xt) (s : (Int32 × Int32 × Hp)) : Prop := G X s.2.2 0 0 23 [(0, .ref 0), (1, .int s.1), (2, .int s.2.1)] []
def ke_X10_row_23   (X : Xt) (e : (Int32 × Hp)) : Prop := G X e.2 0 0 61 [(0, .ref 0), (1, .int e.1)] []
def b_X10_row_23   (x1 : Int32) (x2 : Int32) (h : Hp) : Option ((Int32 × Int32 × Hp) ⊕ (Int32 × Hp)) :=
  if (fI h 0 16) ≤ x2 then
  some (.inr ( (x1, h)))
  else
  (f_X10_sitterFromTape x2 h).bind fun v3 =>
  if v3.1 = true then
  some (.inl ((x1 + (1 : Int32)), (x2 + (4 : Int32)), v3.2))
  else
  some (.inl (x1, (x2 + (4 : Int32)), (sF v3.2 0 18 ((fI v3.2 0 18) + (1 : Int32)))))
set_option maxRecDepth 20000 in
theorem wb_X10_row_23 {X : Xt} (C : Cx X cn_10 prog_1_method_9_code 3 (some .int) 4 0 0)    (x1 : Int32) (x2 : Int32) (h : Hp) (q : (Int32 × Int32 × Hp) ⊕ (Int32 × Hp)) (hrun : b_X10_row_23   x1 x2 h = some q) (Ks : ∀ s, q = .inl s → kp_X10_row_23   X s) (Ke : ∀ e, q = .inr e → ke_X10_row_23   X e) : kp_X10_row_23   X (x1, x2, h) := by
  show G X h 0 0 23 [(0, .ref 0), (1, .int x1), (2, .int x2)] []
  unfold b_X10_row_23 at hrun
  refine g_iload_n C (dat dt_X10_row 14 rfl) 2 rfl ?_
  refine g_aload_n C (dat dt_X10_row 15 rfl) 0 rfl ?_
  refine g_getI C (dat dt_X10_row 16 rfl) fl_10_187 kd_0 rfl ltk_0 ?_
  refine g_ic_ge 61 C (dat dt_X10_row 17 rfl) (by decide) (fun c2 => ?_) (fun c2 => ?_)
  · rw [if_pos c2] at hrun
    refine g_sub [0, 1] (lv' := [(0, .ref 0), (1, .int x1)]) rfl ?_
    cases hrun
    exact Ke ( (x1, h)) rfl
  · rw [if_neg c2] at hrun
    refine g_aload_n C (dat dt_X10_row 18 rfl) 0 rfl ?_
    refine g_iload_n C (dat dt_X10_row 19 rfl) 2 rfl ?_
    obtain ⟨v3, q4, hrun⟩ := bd hrun
    refine g_cVi [.int x2] C (dat dt_X10_row 20 rfl) ml_10_197 (w_X10_sitterFromTape x2 h v3  q4) kd_0 ltk_0 rfl rfl cat0 (by decide) c00 ?_
    refine g_if_eq 45 C (dat dt_X10_row 21 rfl) (by decide) (fun c5 => ?_) (fun c5 => ?_)
    · rw [if_neg (b2i_z c5)] at hrun
      refine g_aload_n C (dat dt_X10_row 24 rfl) 0 rfl ?_
      refine g_dup C (dat dt_X10_row 25 rfl) rfl ?_
      refine g_getI C (dat dt_X10_row 26 rfl) fl_10_194 kd_0 rfl ltk_0 ?_
      refine g_iconst C (dat dt_X10_row 27 rfl) ic_1 ?_
      refine g_iadd C (dat dt_X10_row 28 rfl) ?_
      refine g_putI C (dat dt_X10_row 29 rfl) fl_10_194 rfl rfl kd_0 rfl ltk_0 ?_
      refine g_iinc (v := (x2 + (4 : Int32))) (lv' := [(0, .ref 0), (1, .int x1), (2, .int (x2 + (4 : Int32)))]) C (dat dt_X10_row 30 rfl) 2 rfl (congrArg (fun z => x2 + z) ic_4) (by decide) rfl ?_
      refine g_goto 23 C (dat dt_X10_row 31 rfl) (by decide) ?_
      cases hrun
      exact Ks (x1, (x2 + (4 : Int32)), (sF v3.2 0 18 ((fI v3.2 0 18) + (1 : Int32)))) rfl
    · rw [if_pos (b2i_nz c5)] at hrun
      refine g_iinc (v := (x1 + (1 : Int32))) (lv' := [(0, .ref 0), (1, .int (x1 + (1 : Int32))), (2, .int x2)]) C (dat dt_X10_row 22 rfl) 1 rfl (congrArg (fun z => x1 + z) ic_1) (by decide) rfl ?_
      refine g_goto 55 C (dat dt_X10_row 23 rfl) (by decide) ?_
      refine g_iinc (v := (x2 + (4 : Int32))) (lv' := [(0, .ref 0), (1, .int (x1 + (1 : Int32))), (2, .int (x2 + (4 : Int32)))]) C (dat dt_X10_row 30 rfl) 2 rfl (congrArg (fun z => x2 + z) ic_4) (by decide) rfl ?_
      refine g_goto 23 C (dat dt_X10_row 31 rfl) (by decide) ?_
      cases hrun
      exact Ks ((x1 + (1 : Int32)), (x2 + (4 : Int32)), v3.2) rfl
def f_X10_row  (h : Hp) : Option (Int32 × Hp) :=
  if (fI h 0 16) = 0 then
  (f_X10_answer (-6 : Int32) h).bind fun v12 =>
  some (v12.1, v12.2)
  else
  (lp (fun s => b_X10_row_23   s.1 s.2.1 s.2.2) FU ((0 : Int32), (0 : Int32), (sF h 0 18 (0 : Int32)))).bind fun e6 =>
  (f_X4_clear 10 (sF e6.2 0 16 (0 : Int32))).bind fun v8 =>
  (f_X10_answerChanged e6.1 v8.2).bind fun v10 =>
  some (v10.1, v10.2)
set_option maxRecDepth 20000 in
theorem w_X10_row  (h : Hp) (q : (Int32 × Hp))  (hrun : f_X10_row  h = some q) : MetA ⟨"SteamNations", "row", "()I"⟩ prog_1_method_9_code 3 (some .int) 4 0 0 [.ref 0] h (some (.int q.1)) q.2 := by
  refine metA_of (by decide) (Nat.le_of_ble_eq_true rfl) (fun X C K => ?_)
  have C : Cx X cn_10 prog_1_method_9_code 3 (some .int) 4 0 0 := C
  show G X h 0 0 0 [(0, .ref 0)] []
  unfold f_X10_row at hrun
  refine g_aload_n C (dat dt_X10_row 0 rfl) 0 rfl ?_
  refine g_getI C (dat dt_X10_row 1 rfl) fl_10_187 kd_0 rfl ltk_0 ?_
  refine g_if_ne 14 C (dat dt_X10_row 2 rfl) (by decide) (fun c1 => ?_) (fun c1 => ?_)
  · rw [if_neg c1] at hrun
    refine g_iconst C (dat dt_X10_row 7 rfl) ic_0 ?_
    refine g_istore_n (lv' := [(0, .ref 0), (1, .int (0 : Int32))]) C (dat dt_X10_row 8 rfl) (by decide) rfl ?_
    refine g_aload_n C (dat dt_X10_row 9 rfl) 0 rfl ?_
    refine g_iconst C (dat dt_X10_row 10 rfl) ic_0 ?_
    refine g_putI C (dat dt_X10_row 11 rfl) fl_10_194 rfl rfl kd_0 rfl ltk_0 ?_
    refine g_iconst C (dat dt_X10_row 12 rfl) ic_0 ?_
    refine g_istore_n (lv' := [(0, .ref 0), (1, .int (0 : Int32)), (2, .int (0 : Int32))]) C (dat dt_X10_row 13 rfl) (by decide) rfl ?_
    obtain ⟨e6, q7, hrun⟩ := bd hrun
    refine lp_ind (P := fun s => kp_X10_row_23   X s) (K := fun e => ke_X10_row_23   X e) (fun s q hb Ks Ke => wb_X10_row_23 C    s.1 s.2.1 s.2.2 q hb Ks Ke) FU ((0 : Int32), (0 : Int32), (sF h 0 18 (0 : Int32))) e6 q7 ?_
    show G X e6.2 0 0 61 [(0, .ref 0), (1, .int e6.1)] []
    refine g_aload_n C (dat dt_X10_row 32 rfl) 0 rfl ?_
    refine g_iconst C (dat dt_X10_row 33 rfl) ic_0 ?_
    refine g_putI C (dat dt_X10_row 34 rfl) fl_10_187 rfl rfl kd_0 rfl ltk_0 ?_
    refine g_aload_n C (dat dt_X10_row 35 rfl) 0 rfl ?_
    refine g_getR C (dat dt_X10_row 36 rfl) fl_10_33 kd_0 rfl ltk_0 ?_
    obtain ⟨v8, q9, hrun⟩ := bd hrun
    refine g_cVv [] C (dat dt_X10_row 37 rfl) ml_10_129 (w_X4_clear 10 (sF e6.2 0 16 (0 : Int32)) v8 past_10 q9) kd_10 ltk_10 rfl rfl cat0 (by decide) c00 ?_
    refine g_aload_n C (dat dt_X10_row 38 rfl) 0 rfl ?_
    refine g_iload_n C (dat dt_X10_row 39 rfl) 1 rfl ?_
    obtain ⟨v10, q11, hrun⟩ := bd hrun
    refine g_cVi [.int e6.1] C (dat dt_X10_row 40 rfl) ml_10_136 (w_X10_answerChanged e6.1 v8.2 v10  q11) kd_0 ltk_0 rfl rfl cat0 (by decide) c00 ?_
    cases hrun
    exact g_iret C K (dat dt_X10_row 41 rfl)
  · rw [if_pos c1] at hrun
    refine g_aload_n C (dat dt_X10_row 3 rfl) 0 rfl ?_
    refine g_bipush C (dat dt_X10_row 4 rfl) bp_m6 ?_
    obtain ⟨v12, q13, hrun⟩ := bd hrun
    refine g_cVi [.int (-6 : Int32)] C (dat dt_X10_row 5 rfl) ml_10_119 (w_X10_answer (-6 : Int32) h v12  q13) kd_0 ltk_0 rfl rfl cat0 (by decide) c00 ?_
    cases hrun
    exact g_iret C K (dat dt_X10_row 6 rfl)
/-! SteamNations.puffs()I -/
def dl_X10_puffs : List (Nat × Instr × Nat) := [(0, .aload_n 0, 1), (1, .getfield 194, 3), (4, .ireturn, 1)]
set_option maxRecDepth 20000 in
theorem dt_X10_puffs : ∀ q ∈ dl_X10_puffs, decode prog_1_method_10_code q.1 = .ok q.2 := by decide +kernel
def f_X10_puffs  (h : Hp) : Option Int32 :=
  some (fI h 0 18)
set_option maxRecDepth 20000 in
theorem w_X10_puffs  (h : Hp) (q : Int32)  (hrun : f_X10_puffs  h = some q) : MetA ⟨"SteamNations", "puffs", "()I"⟩ prog_1_method_10_code 1 (some .int) 1 0 0 [.ref 0] h (some (.int q)) h := by
  refine metA_of (by decide) (Nat.le_of_ble_eq_true rfl) (fun X C K => ?_)
  have C : Cx X cn_10 prog_1_method_10_code 1 (some .int) 1 0 0 := C
  show G X h 0 0 0 [(0, .ref 0)] []
  unfold f_X10_puffs at hrun
  refine g_aload_n C (dat dt_X10_puffs 0 rfl) 0 rfl ?_
  refine g_getI C (dat dt_X10_puffs 1 rfl) fl_10_194 kd_0 rfl ltk_0 ?_
  cases hrun
  exact g_iret C K (dat dt_X10_puffs 2 rfl)
/-! SteamNations.takeTape()I -/
def dl_X10_takeTape : List (Nat × Instr × Nat) := [(0, .aload_n 0, 1), (1, .getfield 187, 3), (4, .istore_n 1, 1), (5, .aload_n 0, 1), (6, .iconst 0, 1), (7, .putfield 187, 3), (10, .iload_n 1, 1), (11, .ireturn, 1)]
set_option maxRecDepth 20000 in
theorem dt_X10_takeTape : ∀ q ∈ dl_X10_takeTape, decode prog_1_method_43_code q.1 = .ok q.2 := by decide +kernel
def f_X10_takeTape  (h : Hp) : Option (Int32 × Hp) :=
  some ((fI h 0 16), (sF h 0 16 (0 : Int32)))
set_option maxRecDepth 20000 in
theorem w_X10_takeTape  (h : Hp) (q : (Int32 × Hp))  (hrun : f_X10_takeTape  h = some q) : MetA ⟨"SteamNations", "takeTape", "()I"⟩ prog_1_method_43_code 2 (some .int) 1 0 0 [.ref 0] h (some (.int q.1)) q.2 := by
  refine metA_of (by decide) (Nat.le_of_ble_eq_true rfl) (fun X C K => ?_)
  have C : Cx X cn_10 prog_1_method_43_code 2 (some .int) 1 0 0 := C
  show G X h 0 0 0 [(0, .ref 0)] []
  unfold f_X10_takeTape at hrun
  refine g_aload_n C (dat dt_X10_takeTape 0 rfl) 0 rfl ?_
  refine g_getI C (dat dt_X10_takeTape 1 rfl) fl_10_187 kd_0 rfl ltk_0 ?_
  refine g_istore_n (lv' := [(0, .ref 0), (1, .int (fI h 0 16))]) C (dat dt_X10_takeTape 2 rfl) (by decide) rfl ?_
  refine g_aload_n C (dat dt_X10_takeTape 3 rfl) 0 rfl ?_
  refine g_iconst C (dat dt_X10_takeTape 4 rfl) ic_0 ?_
  refine g_putI C (dat dt_X10_takeTape 5 rfl) fl_10_187 rfl rfl kd_0 rfl ltk_0 ?_
  refine g_iload_n C (dat dt_X10_takeTape 6 rfl) 1 rfl ?_
  cases hrun
  exact g_iret C K (dat dt_X10_takeTape 7 rfl)
/-! SteamNations.fault()I -/
def dl_X10_fault : List (Nat × Instr × Nat) := [(0, .aload_n 0, 1), (1, .getfield 60, 3), (4, .ireturn, 1)]
set_option maxRecDepth 20000 in
theorem dt_X10_fault : ∀ q ∈ dl_X10_fault, decode prog_1_method_13_code q.1 = .ok q.2 := by decide +kernel
def f_X10_fault  (h : Hp) : Option Int32 :=
  some (fI h 0 17)
set_option maxRecDepth 20000 in
theorem w_X10_fault  (h : Hp) (q : Int32)  (hrun : f_X10_fault  h = some q) : MetA ⟨"SteamNations", "fault", "()I"⟩ prog_1_method_13_code 1 (some .int) 1 0 0 [.ref 0] h (some (.int q)) h := by
  refine metA_of (by decide) (Nat.le_of_ble_eq_true rfl) (fun X C K => ?_)
  have C : Cx X cn_10 prog_1_method_13_code 1 (some .int) 1 0 0 := C
  show G X h 0 0 0 [(0, .ref 0)] []
  unfold f_X10_fault at hrun
  refine g_aload_n C (dat dt_X10_fault 0 rfl) 0 rfl ?_
  refine g_getI C (dat dt_X10_fault 1 rfl) fl_10_60 kd_0 rfl ltk_0 ?_
  cases hrun
  exact g_iret C K (dat dt_X10_fault 2 rfl)
/-! SteamNations.stopped()I -/
def dl_X10_stopped : List (Nat × Instr × Nat) := [(0, .aload_n 0, 1), (1, .getfield 102, 3), (4, .getfield 218, 3), (7, .ireturn, 1)]
set_option maxRecDepth 20000 in
theorem dt_X10_stopped : ∀ q ∈ dl_X10_stopped, decode prog_1_method_14_code q.1 = .ok q.2 := by decide +kernel
def f_X10_stopped  (h : Hp) : Option Int32 :=
  some (fI h 60 6)
set_option maxRecDepth 20000 in
theorem w_X10_stopped  (h : Hp) (q : Int32)  (hrun : f_X10_stopped  h = some q) : MetA ⟨"SteamNations", "stopped", "()I"⟩ prog_1_method_14_code 1 (some .int) 1 0 0 [.ref 0] h (some (.int q)) h := by
  refine metA_of (by decide) (Nat.le_of_ble_eq_true rfl) (fun X C K => ?_)
  have C : Cx X cn_10 prog_1_method_14_code 1 (some .int) 1 0 0 := C
  show G X h 0 0 0 [(0, .ref 0)] []
  unfold f_X10_stopped at hrun
  refine g_aload_n C (dat dt_X10_stopped 0 rfl) 0 rfl ?_
  refine g_getR C (dat dt_X10_stopped 1 rfl) fl_10_102 kd_0 rfl ltk_0 ?_
  refine g_getI C (dat dt_X10_stopped 2 rfl) fl_10_218 kd_60 rfl ltk_60 ?_
  cases hrun
  exact g_iret C K (dat dt_X10_stopped 3 rfl)
/-! SteamNations.force(I)I -/
def dl_X10_force : List (Nat × Instr × Nat) := [(0, .iload_n 1, 1), (1, .iconst (-1), 1), (2, .if_icmp .eq 21, 3), (5, .aload_n 0, 1), (6, .getfield 75, 3), (9, .iload_n 1, 1), (10, .invokevirtual 224, 3), (13, .ifCond .ne 10, 3), (16, .aload_n 0, 1), (17, .bipush (-2), 2), (19, .invokevirtual 119, 3), (22, .ireturn, 1), (23, .aload_n 0, 1), (24, .getfield 75, 3), (27, .getfield 227, 3), (30, .istore_n 2, 1), (31, .aload_n 0, 1), (32, .getfield 75, 3), (35, .iload_n 1, 1), (36, .putfield 227, 3), (39, .aload_n 0, 1), (40, .iconst 0, 1), (41, .invokevirtual 136, 3), (44, .pop, 1), (45, .iload_n 2, 1), (46, .ireturn, 1)]
set_option maxRecDepth 20000 in
theorem dt_X10_force : ∀ q ∈ dl_X10_force, decode prog_1_method_15_code q.1 = .ok q.2 := by decide +kernel
def j_X10_force_23  (x1 : Int32) (h : Hp) : Option (Int32 × Hp) :=
  (f_X10_answerChanged (0 : Int32) (sF h 32 4 x1)).bind fun v2 =>
  some ((fI h 32 4), v2.2)
set_option maxRecDepth 20000 in
theorem wj_X10_force_23 {X : Xt} (C : Cx X cn_10 prog_1_method_15_code 3 (some .int) 3 0 0)    (x1 : Int32) (h : Hp) (q : (Int32 × Hp)) (hrun : j_X10_force_23  x1 h = some q) (K : EndQ X 0 0 (some (.int q.1)) q.2) : G X h 0 0 23 [(0, .ref 0), (1, .int x1)] [] := by
  unfold j_X10_force_23 at hrun
  refine g_aload_n C (dat dt_X10_force 12 rfl) 0 rfl ?_
  refine g_getR C (dat dt_X10_force 13 rfl) fl_10_75 kd_0 rfl ltk_0 ?_
  refine g_getI C (dat dt_X10_force 14 rfl) fl_10_227 kd_32 rfl ltk_32 ?_
  refine g_istore_n (lv' := [(0, .ref 0), (1, .int x1), (2, .int (fI h 32 4))]) C (dat dt_X10_force 15 rfl) (by decide) rfl ?_
  refine g_aload_n C (dat dt_X10_force 16 rfl) 0 rfl ?_
  refine g_getR C (dat dt_X10_force 17 rfl) fl_10_75 kd_0 rfl ltk_0 ?_
  refine g_iload_n C (dat dt_X10_force 18 rfl) 1 rfl ?_
  refine g_putI C (dat dt_X10_force 19 rfl) fl_10_227 rfl rfl kd_32 rfl ltk_32 ?_
  refine g_aload_n C (dat dt_X10_force 20 rfl) 0 rfl ?_
  refine g_iconst C (dat dt_X10_force 21 rfl) ic_0 ?_
  obtain ⟨v2, q3, hrun⟩ := bd hrun
  refine g_cVi [.int (0 : Int32)] C (dat dt_X10_force 22 rfl) ml_10_136 (w_X10_answerChanged (0 : Int32) (sF h 32 4 x1) v2  q3) kd_0 ltk_0 rfl rfl cat0 (by decide) c00 ?_
  refine g_pop C (dat dt_X10_force 23 rfl) rfl ?_
  refine g_iload_n C (dat dt_X10_force 24 rfl) 2 rfl ?_
  cases hrun
  exact g_iret C K (dat dt_X10_force 25 rfl)
def f_X10_force (x1 : Int32) (h : Hp) : Option (Int32 × Hp) :=
  if x1 = (-1 : Int32) then
  j_X10_force_23  x1 h
  else
  (f_X1_hasLaw 32 x1 h).bind fun v4 =>
  if v4 = true then
  j_X10_force_23  x1 h
  else
  (f_X10_answer (-2 : Int32) h).bind fun v7 =>
  some (v7.1, v7.2)
set_option maxRecDepth 20000 in
theorem w_X10_force (x1 : Int32) (h : Hp) (q : (Int32 × Hp))  (hrun : f_X10_force x1 h = some q) : MetA ⟨"SteamNations", "force", "(I)I"⟩ prog_1_method_15_code 3 (some .int) 3 0 0 [.ref 0, .int x1] h (some (.int q.1)) q.2 := by
  refine metA_of (by decide) (Nat.le_of_ble_eq_true rfl) (fun X C K => ?_)
  have C : Cx X cn_10 prog_1_method_15_code 3 (some .int) 3 0 0 := C
  show G X h 0 0 0 [(0, .ref 0), (1, .int x1)] []
  unfold f_X10_force at hrun
  refine g_iload_n C (dat dt_X10_force 0 rfl) 1 rfl ?_
  refine g_iconst C (dat dt_X10_force 1 rfl) ic_m1 ?_
  refine g_ic_eq 23 C (dat dt_X10_force 2 rfl) (by decide) (fun c1 => ?_) (fun c1 => ?_)
  · rw [if_pos c1] at hrun
    exact wj_X10_force_23 C    x1 h _ hrun K
  · rw [if_neg c1] at hrun
    refine g_aload_n C (dat dt_X10_force 3 rfl) 0 rfl ?_
    refine g_getR C (dat dt_X10_force 4 rfl) fl_10_75 kd_0 rfl ltk_0 ?_
    refine g_iload_n C (dat dt_X10_force 5 rfl) 1 rfl ?_
    obtain ⟨v4, q5, hrun⟩ := bd hrun
    refine g_cVi [.int x1] C (dat dt_X10_force 6 rfl) ml_10_224 (w_X1_hasLaw 32 x1 h v4 house_32 q5) kd_32 ltk_32 rfl rfl cat0 (by decide) c00 ?_
    refine g_if_ne 23 C (dat dt_X10_force 7 rfl) (by decide) (fun c6 => ?_) (fun c6 => ?_)
    · rw [if_pos (b2i_nz c6)] at hrun
      exact wj_X10_force_23 C    x1 h _ hrun K
    · rw [if_neg (b2i_z c6)] at hrun
      refine g_aload_n C (dat dt_X10_force 8 rfl) 0 rfl ?_
      refine g_bipush C (dat dt_X10_force 9 rfl) bp_m2 ?_
      obtain ⟨v7, q8, hrun⟩ := bd hrun
      refine g_cVi [.int (-2 : Int32)] C (dat dt_X10_force 10 rfl) ml_10_119 (w_X10_answer (-2 : Int32) h v7  q8) kd_0 ltk_0 rfl rfl cat0 (by decide) c00 ?_
      cases hrun
      exact g_iret C K (dat dt_X10_force 11 rfl)
/-! SteamNations.seat(II)I -/
def dl_X10_seat : List (Nat × Instr × Nat) := [(0, .aload_n 0, 1), (1, .aload_n 0, 1), (2, .getfield 93, 3), (5, .iload_n 1, 1), (6, .iload_n 2, 1), (7, .invokevirtual 230, 3), (10, .invokevirtual 136, 3), (13, .ireturn, 1)]
set_option maxRecDepth 20000 in
theorem dt_X10_seat : ∀ q ∈ dl_X10_seat, decode prog_1_method_16_code q.1 = .ok q.2 := by decide +kernel
def f_X10_seat (x1 : Int32) (x2 : Int32) (h : Hp) : Option (Int32 × Hp) :=
  (f_X3_toSeat x1 x2 h).bind fun v1 =>
  (f_X10_answerChanged v1.1 v1.2).bind fun v3 =>
  some (v3.1, v3.2)
set_option maxRecDepth 20000 in
theorem w_X10_seat (x1 : Int32) (x2 : Int32) (h : Hp) (q : (Int32 × Hp))  (hrun : f_X10_seat x1 x2 h = some q) : MetA ⟨"SteamNations", "seat", "(II)I"⟩ prog_1_method_16_code 3 (some .int) 4 0 0 [.ref 0, .int x1, .int x2] h (some (.int q.1)) q.2 := by
  refine metA_of (by decide) (Nat.le_of_ble_eq_true rfl) (fun X C K => ?_)
  have C : Cx X cn_10 prog_1_method_16_code 3 (some .int) 4 0 0 := C
  show G X h 0 0 0 [(0, .ref 0), (1, .int x1), (2, .int x2)] []
  unfold f_X10_seat at hrun
  refine g_aload_n C (dat dt_X10_seat 0 rfl) 0 rfl ?_
  refine g_aload_n C (dat dt_X10_seat 1 rfl) 0 rfl ?_
  refine g_getR C (dat dt_X10_seat 2 rfl) fl_10_93 kd_0 rfl ltk_0 ?_
  refine g_iload_n C (dat dt_X10_seat 3 rfl) 1 rfl ?_
  refine g_iload_n C (dat dt_X10_seat 4 rfl) 2 rfl ?_
  obtain ⟨v1, q2, hrun⟩ := bd hrun
  refine g_cVi [.int x1, .int x2] C (dat dt_X10_seat 5 rfl) ml_10_230 (w_X3_toSeat x1 x2 h v1  q2) kd_59 ltk_59 rfl rfl (Nat.le_of_ble_eq_true rfl) (by decide) c00 ?_
  obtain ⟨v3, q4, hrun⟩ := bd hrun
  refine g_cVi [.int v1.1] C (dat dt_X10_seat 6 rfl) ml_10_136 (w_X10_answerChanged v1.1 v1.2 v3  q4) kd_0 ltk_0 rfl rfl cat0 (by decide) c00 ?_
  cases hrun
  exact g_iret C K (dat dt_X10_seat 7 rfl)
/-! SteamNations.out(I)I -/
def dl_X10_out : List (Nat × Instr × Nat) := [(0, .aload_n 0, 1), (1, .aload_n 0, 1), (2, .getfield 93, 3), (5, .iload_n 1, 1), (6, .invokevirtual 234, 3), (9, .invokevirtual 136, 3), (12, .ireturn, 1)]
set_option maxRecDepth 20000 in
theorem dt_X10_out : ∀ q ∈ dl_X10_out, decode prog_1_method_17_code q.1 = .ok q.2 := by decide +kernel
def f_X10_out (x1 : Int32) (h : Hp) : Option (Int32 × Hp) :=
  (f_X3_toSendOut x1 h).bind fun v1 =>
  (f_X10_answerChanged v1.1 v1.2).bind fun v3 =>
  some (v3.1, v3.2)
set_option maxRecDepth 20000 in
theorem w_X10_out (x1 : Int32) (h : Hp) (q : (Int32 × Hp))  (hrun : f_X10_out x1 h = some q) : MetA ⟨"SteamNations", "out", "(I)I"⟩ prog_1_method_17_code 2 (some .int) 4 0 0 [.ref 0, .int x1] h (some (.int q.1)) q.2 := by
  refine metA_of (by decide) (Nat.le_of_ble_eq_true rfl) (fun X C K => ?_)
  have C : Cx X cn_10 prog_1_method_17_code 2 (some .int) 4 0 0 := C
  show G X h 0 0 0 [(0, .ref 0), (1, .int x1)] []
  unfold f_X10_out at hrun
  refine g_aload_n C (dat dt_X10_out 0 rfl) 0 rfl ?_
  refine g_aload_n C (dat dt_X10_out 1 rfl) 0 rfl ?_
  refine g_getR C (dat dt_X10_out 2 rfl) fl_10_93 kd_0 rfl ltk_0 ?_
  refine g_iload_n C (dat dt_X10_out 3 rfl) 1 rfl ?_
  obtain ⟨v1, q2, hrun⟩ := bd hrun
  refine g_cVi [.int x1] C (dat dt_X10_out 4 rfl) ml_10_234 (w_X3_toSendOut x1 h v1  q2) kd_59 ltk_59 rfl rfl (Nat.le_of_ble_eq_true rfl) (by decide) c00 ?_
  obtain ⟨v3, q4, hrun⟩ := bd hrun
  refine g_cVi [.int v1.1] C (dat dt_X10_out 5 rfl) ml_10_136 (w_X10_answerChanged v1.1 v1.2 v3  q4) kd_0 ltk_0 rfl rfl cat0 (by decide) c00 ?_
  cases hrun
  exact g_iret C K (dat dt_X10_out 6 rfl)
/-! SteamNations.swap(II)I -/
def dl_X10_swap : List (Nat × Instr × Nat) := [(0, .aload_n 0, 1), (1, .aload_n 0, 1), (2, .getfield 93, 3), (5, .iload_n 1, 1), (6, .iload_n 2, 1), (7, .invokevirtual 237, 3), (10, .invokevirtual 136, 3), (13, .ireturn, 1)]
set_option maxRecDepth 20000 in
theorem dt_X10_swap : ∀ q ∈ dl_X10_swap, decode prog_1_method_18_code q.1 = .ok q.2 := by decide +kernel
def f_X10_swap (x1 : Int32) (x2 : Int32) (h : Hp) : Option (Int32 × Hp) :=
  (f_X3_toExchange x1 x2 h).bind fun v1 =>
  (f_X10_answerChanged v1.1 v1.2).bind fun v3 =>
  some (v3.1, v3.2)
set_option maxRecDepth 20000 in
theorem w_X10_swap (x1 : Int32) (x2 : Int32) (h : Hp) (q : (Int32 × Hp))  (hrun : f_X10_swap x1 x2 h = some q) : MetA ⟨"SteamNations", "swap", "(II)I"⟩ prog_1_method_18_code 3 (some .int) 4 0 0 [.ref 0, .int x1, .int x2] h (some (.int q.1)) q.2 := by
  refine metA_of (by decide) (Nat.le_of_ble_eq_true rfl) (fun X C K => ?_)
  have C : Cx X cn_10 prog_1_method_18_code 3 (some .int) 4 0 0 := C
  show G X h 0 0 0 [(0, .ref 0), (1, .int x1), (2, .int x2)] []
  unfold f_X10_swap at hrun
  refine g_aload_n C (dat dt_X10_swap 0 rfl) 0 rfl ?_
  refine g_aload_n C (dat dt_X10_swap 1 rfl) 0 rfl ?_
  refine g_getR C (dat dt_X10_swap 2 rfl) fl_10_93 kd_0 rfl ltk_0 ?_
  refine g_iload_n C (dat dt_X10_swap 3 rfl) 1 rfl ?_
  refine g_iload_n C (dat dt_X10_swap 4 rfl) 2 rfl ?_
  obtain ⟨v1, q2, hrun⟩ := bd hrun
  refine g_cVi [.int x1, .int x2] C (dat dt_X10_swap 5 rfl) ml_10_237 (w_X3_toExchange x1 x2 h v1  q2) kd_59 ltk_59 rfl rfl (Nat.le_of_ble_eq_true rfl) (by decide) c00 ?_
  obtain ⟨v3, q4, hrun⟩ := bd hrun
  refine g_cVi [.int v1.1] C (dat dt_X10_swap 6 rfl) ml_10_136 (w_X10_answerChanged v1.1 v1.2 v3  q4) kd_0 ltk_0 rfl rfl cat0 (by decide) c00 ?_
  cases hrun
  exact g_iret C K (dat dt_X10_swap 7 rfl)
/-! SteamNations.pass()I -/
def dl_X10_pass : List (Nat × Instr × Nat) := [(0, .aload_n 0, 1), (1, .aload_n 0, 1), (2, .getfield 93, 3), (5, .invokevirtual 240, 3), (8, .invokevirtual 136, 3), (11, .ireturn, 1)]
set_option maxRecDepth 20000 in
theorem dt_X10_pass : ∀ q ∈ dl_X10_pass, decode prog_1_method_19_code q.1 = .ok q.2 := by decide +kernel
def f_X10_pass  (h : Hp) : Option (Int32 × Hp) :=
  (f_X3_toPassMinute  h).bind fun v1 =>
  (f_X10_answerChanged v1.1 v1.2).bind fun v3 =>
  some (v3.1, v3.2)
set_option maxRecDepth 20000 in
theorem w_X10_pass  (h : Hp) (q : (Int32 × Hp))  (hrun : f_X10_pass  h = some q) : MetA ⟨"SteamNations", "pass", "()I"⟩ prog_1_method_19_code 1 (some .int) 6 0 0 [.ref 0] h (some (.int q.1)) q.2 := by
  refine metA_of (by decide) (Nat.le_of_ble_eq_true rfl) (fun X C K => ?_)
  have C : Cx X cn_10 prog_1_method_19_code 1 (some .int) 6 0 0 := C
  show G X h 0 0 0 [(0, .ref 0)] []
  unfold f_X10_pass at hrun
  refine g_aload_n C (dat dt_X10_pass 0 rfl) 0 rfl ?_
  refine g_aload_n C (dat dt_X10_pass 1 rfl) 0 rfl ?_
  refine g_getR C (dat dt_X10_pass 2 rfl) fl_10_93 kd_0 rfl ltk_0 ?_
  obtain ⟨v1, q2, hrun⟩ := bd hrun
  refine g_cVi [] C (dat dt_X10_pass 3 rfl) ml_10_240 (w_X3_toPassMinute  h v1  q2) kd_59 ltk_59 rfl rfl (Nat.le_of_ble_eq_true rfl) (by decide) c00 ?_
  obtain ⟨v3, q4, hrun⟩ := bd hrun
  refine g_cVi [.int v1.1] C (dat dt_X10_pass 4 rfl) ml_10_136 (w_X10_answerChanged v1.1 v1.2 v3  q4) kd_0 ltk_0 rfl rfl cat0 (by decide) c00 ?_
  cases hrun
  exact g_iret C K (dat dt_X10_pass 5 rfl)
/-! SteamNations.undo()I -/
def dl_X10_undo : List (Nat × Instr × Nat) := [(0, .aload_n 0, 1), (1, .aload_n 0, 1), (2, .getfield 33, 3), (5, .aload_n 0, 1), (6, .getfield 75, 3), (9, .getfield 123, 3), (12, .invokevirtual 243, 3), (15, .invokevirtual 136, 3), (18, .ireturn, 1)]
set_option maxRecDepth 20000 in
theorem dt_X10_undo : ∀ q ∈ dl_X10_undo, decode prog_1_method_20_code q.1 = .ok q.2 := by decide +kernel
def f_X10_undo  (h : Hp) : Option (Int32 × Hp) :=
  (f_X4_bringBack 10 33 h).bind fun v1 =>
  (f_X10_answerChanged v1.1 v1.2).bind fun v3 =>
  some (v3.1, v3.2)
set_option maxRecDepth 20000 in
theorem w_X10_undo  (h : Hp) (q : (Int32 × Hp))  (hrun : f_X10_undo  h = some q) : MetA ⟨"SteamNations", "undo", "()I"⟩ prog_1_method_20_code 1 (some .int) 3 0 0 [.ref 0] h (some (.int q.1)) q.2 := by
  refine metA_of (by decide) (Nat.le_of_ble_eq_true rfl) (fun X C K => ?_)
  have C : Cx X cn_10 prog_1_method_20_code 1 (some .int) 3 0 0 := C
  show G X h 0 0 0 [(0, .ref 0)] []
  unfold f_X10_undo at hrun
  refine g_aload_n C (dat dt_X10_undo 0 rfl) 0 rfl ?_
  refine g_aload_n C (dat dt_X10_undo 1 rfl) 0 rfl ?_
  refine g_getR C (dat dt_X10_undo 2 rfl) fl_10_33 kd_0 rfl ltk_0 ?_
  refine g_aload_n C (dat dt_X10_undo 3 rfl) 0 rfl ?_
  refine g_getR C (dat dt_X10_undo 4 rfl) fl_10_75 kd_0 rfl ltk_0 ?_
  refine g_getR C (dat dt_X10_undo 5 rfl) fl_10_123 kd_32 rfl ltk_32 ?_
  obtain ⟨v1, q2, hrun⟩ := bd hrun
  refine g_cVi [.ref 33] C (dat dt_X10_undo 6 rfl) ml_10_243 (w_X4_bringBack 10 33 h v1 past_10 room_33 q2) kd_10 ltk_10 rfl rfl (Nat.le_of_ble_eq_true rfl) (by decide) c00 ?_
  obtain ⟨v3, q4, hrun⟩ := bd hrun
  refine g_cVi [.int v1.1] C (dat dt_X10_undo 7 rfl) ml_10_136 (w_X10_answerChanged v1.1 v1.2 v3  q4) kd_0 ltk_0 rfl rfl cat0 (by decide) c00 ?_
  cases hrun
  exact g_iret C K (dat dt_X10_undo 8 rfl)
/-! SteamNations.isFarMinute(I)Z -/
def dl_X10_isFarMinute : List (Nat × Instr × Nat) := [(0, .iload_n 0, 1), (1, .ifCond .lt 13, 3), (4, .iload_n 0, 1), (5, .bipush 60, 2), (7, .if_icmp .gt 7, 3), (10, .iconst 1, 1), (11, .goto 4, 3), (14, .iconst 0, 1), (15, .ireturn, 1)]
set_option maxRecDepth 20000 in
theorem dt_X10_isFarMinute : ∀ q ∈ dl_X10_isFarMinute, decode prog_1_method_51_code q.1 = .ok q.2 := by decide +kernel
def f_X10_isFarMinute (x0 : Int32) : Option Bool :=
  if x0 < 0 then
  some false
  else
  if (60 : Int32) < x0 then
  some false
  else
  some true
set_option maxRecDepth 20000 in
theorem w_X10_isFarMinute (x0 : Int32) (h : Hp) (q : Bool)  (hrun : f_X10_isFarMinute x0 = some q) : MetA ⟨"SteamNations", "isFarMinute", "(I)Z"⟩ prog_1_method_51_code 1 (some .boolean) 1 0 0 [.int x0] h (some (.int (b2i q))) h := by
  refine metA_of (by decide) (Nat.le_of_ble_eq_true rfl) (fun X C K => ?_)
  have C : Cx X cn_10 prog_1_method_51_code 1 (some .boolean) 1 0 0 := C
  show G X h 0 0 0 [(0, .int x0)] []
  unfold f_X10_isFarMinute at hrun
  refine g_iload_n C (dat dt_X10_isFarMinute 0 rfl) 0 rfl ?_
  refine g_if_lt 14 C (dat dt_X10_isFarMinute 1 rfl) (by decide) (fun c1 => ?_) (fun c1 => ?_)
  · rw [if_pos c1] at hrun
    refine g_iconst C (dat dt_X10_isFarMinute 7 rfl) ic_0 ?_
    cases hrun
    exact g_zret C K (show (0 : Int32) = b2i false by decide) (dat dt_X10_isFarMinute 8 rfl)
  · rw [if_neg c1] at hrun
    refine g_iload_n C (dat dt_X10_isFarMinute 2 rfl) 0 rfl ?_
    refine g_bipush C (dat dt_X10_isFarMinute 3 rfl) bp_60 ?_
    refine g_ic_gt 14 C (dat dt_X10_isFarMinute 4 rfl) (by decide) (fun c2 => ?_) (fun c2 => ?_)
    · rw [if_pos c2] at hrun
      refine g_iconst C (dat dt_X10_isFarMinute 7 rfl) ic_0 ?_
      cases hrun
      exact g_zret C K (show (0 : Int32) = b2i false by decide) (dat dt_X10_isFarMinute 8 rfl)
    · rw [if_neg c2] at hrun
      refine g_iconst C (dat dt_X10_isFarMinute 5 rfl) ic_1 ?_
      refine g_goto 15 C (dat dt_X10_isFarMinute 6 rfl) (by decide) ?_
      cases hrun
      exact g_zret C K (show (1 : Int32) = b2i true by decide) (dat dt_X10_isFarMinute 8 rfl)
/-! SteamNations.playOnPaper(LSteamNations$Text;I)V -/
def dl_X10_playOnPaper : List (Nat × Instr × Nat) := [(0, .aload_n 0, 1), (1, .getfield 40, 3), (4, .aload_n 0, 1), (5, .getfield 75, 3), (8, .getfield 123, 3), (11, .invokevirtual 254, 3), (14, .iconst 0, 1), (15, .istore_n 3, 1), (16, .iload_n 3, 1), (17, .iload_n 2, 1), (18, .if_icmp .ge 21, 3), (21, .aload_n 0, 1), (22, .getfield 84, 3), (25, .aload_n 0, 1), (26, .getfield 40, 3), (29, .aload_n 1, 1), (30, .invokevirtual 258, 3), (33, .iinc 3 1, 3), (36, .goto (-20), 3), (39, .return_, 1)]
set_option maxRecDepth 20000 in
theorem dt_X10_playOnPaper : ∀ q ∈ dl_X10_playOnPaper, decode prog_1_method_45_code q.1 = .ok q.2 := by decide +kernel
def kp_X10_playOnPaper_16 (a1 : Nat) (x2 : Int32) (X : Xt) (s : (Int32 × Hp)) : Prop := G X s.2 0 0 16 [(0, .ref 0), (1, .ref a1), (2, .int x2), (3, .int s.1)] []
def ke_X10_playOnPaper_16 (a1 : Nat) (x2 : Int32) (X : Xt) (e : Hp) : Prop := G X e 0 0 39 [] []
def b_X10_playOnPaper_16 (a1 : Nat) (x2 : Int32) (x3 : Int32) (h : Hp) : Option ((Int32 × Hp) ⊕ Hp) :=
  if x2 ≤ x3 then
  some (.inr ( h))
  else
  (f_X8_passMinute 12 a1 h).bind fun v4 =>
  some (.inl ((x3 + (1 : Int32)), v4.2))
set_option maxRecDepth 20000 in
theorem wb_X10_playOnPaper_16 {X : Xt} (C : Cx X cn_10 prog_1_method_45_code 4 none 5 0 0) (a1 : Nat)  (x2 : Int32) (x3 : Int32) (h : Hp) (q : (Int32 × Hp) ⊕ Hp) (hrun : b_X10_playOnPaper_16 a1 x2 x3 h = some q) (Ks : ∀ s, q = .inl s → kp_X10_playOnPaper_16 a1 x2 X s) (Ke : ∀ e, q = .inr e → ke_X10_playOnPaper_16 a1 x2 X e) : kp_X10_playOnPaper_16 a1 x2 X (x3, h) := by
  show G X h 0 0 16 [(0, .ref 0), (1, .ref a1), (2, .int x2), (3, .int x3)] []
  unfold b_X10_playOnPaper_16 at hrun
  refine g_iload_n C (dat dt_X10_playOnPaper 8 rfl) 3 rfl ?_
  refine g_iload_n C (dat dt_X10_playOnPaper 9 rfl) 2 rfl ?_
  refine g_ic_ge 39 C (dat dt_X10_playOnPaper 10 rfl) (by decide) (fun c3 => ?_) (fun c3 => ?_)
  · rw [if_pos c3] at hrun
    refine g_sub [] (lv' := []) rfl ?_
    cases hrun
    exact Ke ( h) rfl
  · rw [if_neg c3] at hrun
    refine g_aload_n C (dat dt_X10_playOnPaper 11 rfl) 0 rfl ?_
    refine g_getR C (dat dt_X10_playOnPaper 12 rfl) fl_10_84 kd_0 rfl ltk_0 ?_
    refine g_aload_n C (dat dt_X10_playOnPaper 13 rfl) 0 rfl ?_
    refine g_getR C (dat dt_X10_playOnPaper 14 rfl) fl_10_40 kd_0 rfl ltk_0 ?_
    refine g_aload_n C (dat dt_X10_playOnPaper 15 rfl) 1 rfl ?_
    obtain ⟨v4, q5, hrun⟩ := bd hrun
    refine g_cVv [.ref 12, .ref a1] C (dat dt_X10_playOnPaper 16 rfl) ml_10_258 (w_X8_passMinute 12 a1 h v4 room_12 q5) kd_56 ltk_56 rfl rfl cat0 (by decide) c00 ?_
    refine g_iinc (v := (x3 + (1 : Int32))) (lv' := [(0, .ref 0), (1, .ref a1), (2, .int x2), (3, .int (x3 + (1 : Int32)))]) C (dat dt_X10_playOnPaper 17 rfl) 3 rfl (congrArg (fun z => x3 + z) ic_1) (by decide) rfl ?_
    refine g_goto 16 C (dat dt_X10_playOnPaper 18 rfl) (by decide) ?_
    cases hrun
    exact Ks ((x3 + (1 : Int32)), v4.2) rfl
def f_X10_playOnPaper (a1 : Nat) (x2 : Int32) (h : Hp) : Option (Unit × Hp) :=
  (f_X6_copyFrom 12 33 h).bind fun v1 =>
  (lp (fun s => b_X10_playOnPaper_16 a1 x2 s.1 s.2) FU ((0 : Int32), v1.2)).bind fun e6 =>
  some ((), e6)
set_option maxRecDepth 20000 in
theorem w_X10_playOnPaper (a1 : Nat) (x2 : Int32) (h : Hp) (q : (Unit × Hp))  (hrun : f_X10_playOnPaper a1 x2 h = some q) : MetA ⟨"SteamNations", "playOnPaper", "(LSteamNations$Text;I)V"⟩ prog_1_method_45_code 4 none 5 0 0 [.ref 0, .ref a1, .int x2] h none q.2 := by
  refine metA_of (by decide) (Nat.le_of_ble_eq_true rfl) (fun X C K => ?_)
  have C : Cx X cn_10 prog_1_method_45_code 4 none 5 0 0 := C
  show G X h 0 0 0 [(0, .ref 0), (1, .ref a1), (2, .int x2)] []
  unfold f_X10_playOnPaper at hrun
  refine g_aload_n C (dat dt_X10_playOnPaper 0 rfl) 0 rfl ?_
  refine g_getR C (dat dt_X10_playOnPaper 1 rfl) fl_10_40 kd_0 rfl ltk_0 ?_
  refine g_aload_n C (dat dt_X10_playOnPaper 2 rfl) 0 rfl ?_
  refine g_getR C (dat dt_X10_playOnPaper 3 rfl) fl_10_75 kd_0 rfl ltk_0 ?_
  refine g_getR C (dat dt_X10_playOnPaper 4 rfl) fl_10_123 kd_32 rfl ltk_32 ?_
  obtain ⟨v1, q2, hrun⟩ := bd hrun
  refine g_cVv [.ref 33] C (dat dt_X10_playOnPaper 5 rfl) ml_10_254 (w_X6_copyFrom 12 33 h v1 room_12 room_33 q2) kd_12 ltk_12 rfl rfl cat0 (by decide) c00 ?_
  refine g_iconst C (dat dt_X10_playOnPaper 6 rfl) ic_0 ?_
  refine g_istore_n (lv' := [(0, .ref 0), (1, .ref a1), (2, .int x2), (3, .int (0 : Int32))]) C (dat dt_X10_playOnPaper 7 rfl) (by decide) rfl ?_
  obtain ⟨e6, q7, hrun⟩ := bd hrun
  refine lp_ind (P := fun s => kp_X10_playOnPaper_16 a1 x2 X s) (K := fun e => ke_X10_playOnPaper_16 a1 x2 X e) (fun s q hb Ks Ke => wb_X10_playOnPaper_16 C a1  x2 s.1 s.2 q hb Ks Ke) FU ((0 : Int32), v1.2) e6 q7 ?_
  show G X e6 0 0 39 [] []
  cases hrun
  exact g_vret C K (dat dt_X10_playOnPaper 19 rfl)
/-! SteamNations.later(III)I -/
def dl_X10_later : List (Nat × Instr × Nat) := [(0, .aload_n 0, 1), (1, .getfield 75, 3), (4, .getfield 123, 3), (7, .iload_n 1, 1), (8, .invokevirtual 139, 3), (11, .ifCond .eq 19, 3), (14, .iload_n 2, 1), (15, .invokestatic 247, 3), (18, .ifCond .eq 12, 3), (21, .iload_n 3, 1), (22, .ifCond .lt 8, 3), (25, .iload_n 3, 1), (26, .iconst 3, 1), (27, .if_icmp .le 5, 3), (30, .iconst (-1), 1), (31, .ireturn, 1), (32, .aload_n 0, 1), (33, .aload_n 0, 1), (34, .getfield 75, 3), (37, .invokevirtual 158, 3), (40, .iload_n 2, 1), (41, .invokevirtual 250, 3), (44, .iload_n 3, 1), (45, .iconst 3, 1), (46, .if_icmp .ne 14, 3), (49, .aload_n 0, 1), (50, .getfield 40, 3), (53, .iload_n 1, 1), (54, .invokevirtual 152, 3), (57, .goto 16, 3), (60, .aload_n 0, 1), (61, .getfield 40, 3), (64, .getfield 143, 3), (67, .iload_n 1, 1), (68, .iconst 3, 1), (69, .imul, 1), (70, .iload_n 3, 1), (71, .iadd, 1), (72, .iaload, 1), (73, .ireturn, 1)]
set_option maxRecDepth 20000 in
theorem dt_X10_later : ∀ q ∈ dl_X10_later, decode prog_1_method_21_code q.1 = .ok q.2 := by decide +kernel
def f_X10_later (x1 : Int32) (x2 : Int32) (x3 : Int32) (h : Hp) : Option (Int32 × Hp) :=
  (f_X6_has 33 x1 h).bind fun v1 =>
  if v1 = true then
  (f_X10_isFarMinute x2).bind fun v4 =>
  if v4 = true then
  if x3 < 0 then
  some ((-1 : Int32), h)
  else
  if x3 ≤ (3 : Int32) then
  (f_X1_inForce 32 h).bind fun v9 =>
  (f_X10_playOnPaper v9 x2 h).bind fun v11 =>
  if x3 = (3 : Int32) then
  (f_X6_nationOf 12 x1 v11.2).bind fun v16 =>
  some (v16, v11.2)
  else
  (inb ((x1 * (3 : Int32)) + x3) 18).bind fun j14 =>
  some ((aI v11.2 13 j14), v11.2)
  else
  some ((-1 : Int32), h)
  else
  some ((-1 : Int32), h)
  else
  some ((-1 : Int32), h)
set_option maxRecDepth 20000 in
theorem w_X10_later (x1 : Int32) (x2 : Int32) (x3 : Int32) (h : Hp) (q : (Int32 × Hp))  (hrun : f_X10_later x1 x2 x3 h = some q) : MetA ⟨"SteamNations", "later", "(III)I"⟩ prog_1_method_21_code 4 (some .int) 6 0 0 [.ref 0, .int x1, .int x2, .int x3] h (some (.int q.1)) q.2 := by
  refine metA_of (by decide) (Nat.le_of_ble_eq_true rfl) (fun X C K => ?_)
  have C : Cx X cn_10 prog_1_method_21_code 4 (some .int) 6 0 0 := C
  show G X h 0 0 0 [(0, .ref 0), (1, .int x1), (2, .int x2), (3, .int x3)] []
  unfold f_X10_later at hrun
  refine g_aload_n C (dat dt_X10_later 0 rfl) 0 rfl ?_
  refine g_getR C (dat dt_X10_later 1 rfl) fl_10_75 kd_0 rfl ltk_0 ?_
  refine g_getR C (dat dt_X10_later 2 rfl) fl_10_123 kd_32 rfl ltk_32 ?_
  refine g_iload_n C (dat dt_X10_later 3 rfl) 1 rfl ?_
  obtain ⟨v1, q2, hrun⟩ := bd hrun
  refine g_cVi [.int x1] C (dat dt_X10_later 4 rfl) ml_10_139 (w_X6_has 33 x1 h v1 room_33 q2) kd_33 ltk_33 rfl rfl cat0 (by decide) c00 ?_
  refine g_if_eq 30 C (dat dt_X10_later 5 rfl) (by decide) (fun c3 => ?_) (fun c3 => ?_)
  · rw [if_neg (b2i_z c3)] at hrun
    refine g_iconst C (dat dt_X10_later 14 rfl) ic_m1 ?_
    cases hrun
    exact g_iret C K (dat dt_X10_later 15 rfl)
  · rw [if_pos (b2i_nz c3)] at hrun
    refine g_iload_n C (dat dt_X10_later 6 rfl) 2 rfl ?_
    obtain ⟨v4, q5, hrun⟩ := bd hrun
    refine g_cSi [.int x2] C (dat dt_X10_later 7 rfl) ml_10_247 (w_X10_isFarMinute x2 h v4  q5) rfl rfl cat0 (by decide) c00 ?_
    refine g_if_eq 30 C (dat dt_X10_later 8 rfl) (by decide) (fun c6 => ?_) (fun c6 => ?_)
    · rw [if_neg (b2i_z c6)] at hrun
      refine g_iconst C (dat dt_X10_later 14 rfl) ic_m1 ?_
      cases hrun
      exact g_iret C K (dat dt_X10_later 15 rfl)
    · rw [if_pos (b2i_nz c6)] at hrun
      refine g_iload_n C (dat dt_X10_later 9 rfl) 3 rfl ?_
      refine g_if_lt 30 C (dat dt_X10_later 10 rfl) (by decide) (fun c7 => ?_) (fun c7 => ?_)
      · rw [if_pos c7] at hrun
        refine g_iconst C (dat dt_X10_later 14 rfl) ic_m1 ?_
        cases hrun
        exact g_iret C K (dat dt_X10_later 15 rfl)
      · rw [if_neg c7] at hrun
        refine g_iload_n C (dat dt_X10_later 11 rfl) 3 rfl ?_
        refine g_iconst C (dat dt_X10_later 12 rfl) ic_3 ?_
        refine g_ic_le 32 C (dat dt_X10_later 13 rfl) (by decide) (fun c8 => ?_) (fun c8 => ?_)
        · rw [if_pos c8] at hrun
          refine g_aload_n C (dat dt_X10_later 16 rfl) 0 rfl ?_
          refine g_aload_n C (dat dt_X10_later 17 rfl) 0 rfl ?_
          refine g_getR C (dat dt_X10_later 18 rfl) fl_10_75 kd_0 rfl ltk_0 ?_
          obtain ⟨v9, q10, hrun⟩ := bd hrun
          refine g_cVr [] C (dat dt_X10_later 19 rfl) ml_10_158 (w_X1_inForce 32 h v9 house_32 q10) kd_32 ltk_32 rfl rfl (Nat.le_of_ble_eq_true rfl) (by decide) c00 ?_
          refine g_iload_n C (dat dt_X10_later 20 rfl) 2 rfl ?_
          obtain ⟨v11, q12, hrun⟩ := bd hrun
          refine g_cVv [.ref v9, .int x2] C (dat dt_X10_later 21 rfl) ml_10_250 (w_X10_playOnPaper v9 x2 h v11  q12) kd_0 ltk_0 rfl rfl cat0 (by decide) c00 ?_
          refine g_iload_n C (dat dt_X10_later 22 rfl) 3 rfl ?_
          refine g_iconst C (dat dt_X10_later 23 rfl) ic_3 ?_
          refine g_ic_ne 60 C (dat dt_X10_later 24 rfl) (by decide) (fun c13 => ?_) (fun c13 => ?_)
          · rw [if_neg c13] at hrun
            refine g_aload_n C (dat dt_X10_later 30 rfl) 0 rfl ?_
            refine g_getR C (dat dt_X10_later 31 rfl) fl_10_40 kd_0 rfl ltk_0 ?_
            refine g_getR C (dat dt_X10_later 32 rfl) fl_10_143 kd_12 rfl ltk_12 ?_
            refine g_iload_n C (dat dt_X10_later 33 rfl) 1 rfl ?_
            refine g_iconst C (dat dt_X10_later 34 rfl) ic_3 ?_
            refine g_imul C (dat dt_X10_later 35 rfl) ?_
            refine g_iload_n C (dat dt_X10_later 36 rfl) 3 rfl ?_
            refine g_iadd C (dat dt_X10_later 37 rfl) ?_
            obtain ⟨j14, q15, hrun⟩ := bd hrun
            refine g_iald C (dat dt_X10_later 38 rfl) kd_13 ltk_13 q15 ?_
            cases hrun
            exact g_iret C K (dat dt_X10_later 39 rfl)
          · rw [if_pos c13] at hrun
            refine g_aload_n C (dat dt_X10_later 25 rfl) 0 rfl ?_
            refine g_getR C (dat dt_X10_later 26 rfl) fl_10_40 kd_0 rfl ltk_0 ?_
            refine g_iload_n C (dat dt_X10_later 27 rfl) 1 rfl ?_
            obtain ⟨v16, q17, hrun⟩ := bd hrun
            refine g_cVi [.int x1] C (dat dt_X10_later 28 rfl) ml_10_152 (w_X6_nationOf 12 x1 v11.2 v16 room_12 q17) kd_12 ltk_12 rfl rfl cat0 (by decide) c00 ?_
            refine g_goto 73 C (dat dt_X10_later 29 rfl) (by decide) ?_
            cases hrun
            exact g_iret C K (dat dt_X10_later 39 rfl)
        · rw [if_neg c8] at hrun
          refine g_iconst C (dat dt_X10_later 14 rfl) ic_m1 ?_
          cases hrun
          exact g_iret C K (dat dt_X10_later 15 rfl)
/-! SteamNations.when(II)I -/
def dl_X10_when : List (Nat × Instr × Nat) := [(0, .aload_n 0, 1), (1, .getfield 75, 3), (4, .getfield 123, 3), (7, .iload_n 1, 1), (8, .invokevirtual 139, 3), (11, .ifCond .eq 12, 3), (14, .iload_n 2, 1), (15, .ifCond .lt 8, 3), (18, .iload_n 2, 1), (19, .iconst 3, 1), (20, .if_icmp .lt 5, 3), (23, .iconst (-1), 1), (24, .ireturn, 1), (25, .aload_n 0, 1), (26, .getfield 40, 3), (29, .aload_n 0, 1), (30, .getfield 75, 3), (33, .getfield 123, 3), (36, .invokevirtual 254, 3), (39, .iconst 0, 1), (40, .istore_n 3, 1), (41, .iload_n 3, 1), (42, .bipush 60, 2), (44, .if_icmp .gt 41, 3), (47, .aload_n 0, 1), (48, .getfield 40, 3), (51, .iload_n 1, 1), (52, .invokevirtual 152, 3), (55, .iload_n 2, 1), (56, .if_icmp .ne 5, 3), (59, .iload_n 3, 1), (60, .ireturn, 1), (61, .aload_n 0, 1), (62, .getfield 84, 3), (65, .aload_n 0, 1), (66, .getfield 40, 3), (69, .aload_n 0, 1), (70, .getfield 75, 3), (73, .invokevirtual 158, 3), (76, .invokevirtual 258, 3), (79, .iinc 3 1, 3), (82, .goto (-41), 3), (85, .iconst (-1), 1), (86, .ireturn, 1)]
set_option maxRecDepth 20000 in
theorem dt_X10_when : ∀ q ∈ dl_X10_when, decode prog_1_method_22_code q.1 = .ok q.2 := by decide +kernel
def kp_X10_when_41  (x1 : Int32) (x2 : Int32) (X : Xt) (s : (Int32 × Hp)) : Prop := G X s.2 0 0 41 [(0, .ref 0), (1, .int x1), (2, .int x2), (3, .int s.1)] []
def ke_X10_when_41  (x1 : Int32) (x2 : Int32) (X : Xt) (e : (Hp ⊕ (Int32 × Hp))) : Prop := match e with
  | .inl e => G X e 0 0 85 [] []
  | .inr (e) => G X e.2 0 0 59 [(3, .int e.1)] []
def b_X10_when_41  (x1 : Int32) (x2 : Int32) (x3 : Int32) (h : Hp) : Option ((Int32 × Hp) ⊕ (Hp ⊕ (Int32 × Hp))) :=
  if (60 : Int32) < x3 then
  some (.inr (.inl h))
  else
  (f_X6_nationOf 12 x1 h).bind fun v9 =>
  if v9 = x2 then
  some (.inr (.inr <| id (x3, h)))
  else
  (f_X1_inForce 32 h).bind fun v12 =>
  (f_X8_passMinute 12 v12 h).bind fun v14 =>
  some (.inl ((x3 + (1 : Int32)), v14.2))
set_option maxRecDepth 20000 in
theorem wb_X10_when_41 {X : Xt} (C : Cx X cn_10 prog_1_method_22_code 4 (some .int) 5 0 0)   (x1 : Int32) (x2 : Int32) (x3 : Int32) (h : Hp) (q : (Int32 × Hp) ⊕ (Hp ⊕ (Int32 × Hp))) (hrun : b_X10_when_41  x1 x2 x3 h = some q) (Ks : ∀ s, q = .inl s → kp_X10_when_41  x1 x2 X s) (Ke : ∀ e, q = .inr e → ke_X10_when_41  x1 x2 X e) : kp_X10_when_41  x1 x2 X (x3, h) := by
  show G X h 0 0 41 [(0, .ref 0), (1, .int x1), (2, .int x2), (3, .int x3)] []
  unfold b_X10_when_41 at hrun
  refine g_iload_n C (dat dt_X10_when 21 rfl) 3 rfl ?_
  refine g_bipush C (dat dt_X10_when 22 rfl) bp_60 ?_
  refine g_ic_gt 85 C (dat dt_X10_when 23 rfl) (by decide) (fun c8 => ?_) (fun c8 => ?_)
  · rw [if_pos c8] at hrun
    refine g_sub [] (lv' := []) rfl ?_
    cases hrun
    exact Ke (.inl h) rfl
  · rw [if_neg c8] at hrun
    refine g_aload_n C (dat dt_X10_when 24 rfl) 0 rfl ?_
    refine g_getR C (dat dt_X10_when 25 rfl) fl_10_40 kd_0 rfl ltk_0 ?_
    refine g_iload_n C (dat dt_X10_when 26 rfl) 1 rfl ?_
    obtain ⟨v9, q10, hrun⟩ := bd hrun
    refine g_cVi [.int x1] C (dat dt_X10_when 27 rfl) ml_10_152 (w_X6_nationOf 12 x1 h v9 room_12 q10) kd_12 ltk_12 rfl rfl cat0 (by decide) c00 ?_
    refine g_iload_n C (dat dt_X10_when 28 rfl) 2 rfl ?_
    refine g_ic_ne 61 C (dat dt_X10_when 29 rfl) (by decide) (fun c11 => ?_) (fun c11 => ?_)
    · rw [if_neg c11] at hrun
      refine g_aload_n C (dat dt_X10_when 32 rfl) 0 rfl ?_
      refine g_getR C (dat dt_X10_when 33 rfl) fl_10_84 kd_0 rfl ltk_0 ?_
      refine g_aload_n C (dat dt_X10_when 34 rfl) 0 rfl ?_
      refine g_getR C (dat dt_X10_when 35 rfl) fl_10_40 kd_0 rfl ltk_0 ?_
      refine g_aload_n C (dat dt_X10_when 36 rfl) 0 rfl ?_
      refine g_getR C (dat dt_X10_when 37 rfl) fl_10_75 kd_0 rfl ltk_0 ?_
      obtain ⟨v12, q13, hrun⟩ := bd hrun
      refine g_cVr [] C (dat dt_X10_when 38 rfl) ml_10_158 (w_X1_inForce 32 h v12 house_32 q13) kd_32 ltk_32 rfl rfl (Nat.le_of_ble_eq_true rfl) (by decide) c00 ?_
      obtain ⟨v14, q15, hrun⟩ := bd hrun
      refine g_cVv [.ref 12, .ref v12] C (dat dt_X10_when 39 rfl) ml_10_258 (w_X8_passMinute 12 v12 h v14 room_12 q15) kd_56 ltk_56 rfl rfl cat0 (by decide) c00 ?_
      refine g_iinc (v := (x3 + (1 : Int32))) (lv' := [(0, .ref 0), (1, .int x1), (2, .int x2), (3, .int (x3 + (1 : Int32)))]) C (dat dt_X10_when 40 rfl) 3 rfl (congrArg (fun z => x3 + z) ic_1) (by decide) rfl ?_
      refine g_goto 41 C (dat dt_X10_when 41 rfl) (by decide) ?_
      cases hrun
      exact Ks ((x3 + (1 : Int32)), v14.2) rfl
    · rw [if_pos c11] at hrun
      refine g_sub [3] (lv' := [(3, .int x3)]) rfl ?_
      cases hrun
      exact Ke (.inr <| id (x3, h)) rfl
def f_X10_when (x1 : Int32) (x2 : Int32) (h : Hp) : Option (Int32 × Hp) :=
  (f_X6_has 33 x1 h).bind fun v1 =>
  if v1 = true then
  if x2 < 0 then
  some ((-1 : Int32), h)
  else
  if x2 < (3 : Int32) then
  (f_X6_copyFrom 12 33 h).bind fun v6 =>
  (lp (fun s => b_X10_when_41  x1 x2 s.1 s.2) FU ((0 : Int32), v6.2)).bind fun e16 =>
  sc e16 (fun e18 =>
  some ((-1 : Int32), e18)) (fun e19 =>
  some (e19.1, e19.2))
  else
  some ((-1 : Int32), h)
  else
  some ((-1 : Int32), h)
set_option maxRecDepth 20000 in
theorem w_X10_when (x1 : Int32) (x2 : Int32) (h : Hp) (q : (Int32 × Hp))  (hrun : f_X10_when x1 x2 h = some q) : MetA ⟨"SteamNations", "when", "(II)I"⟩ prog_1_method_22_code 4 (some .int) 5 0 0 [.ref 0, .int x1, .int x2] h (some (.int q.1)) q.2 := by
  refine metA_of (by decide) (Nat.le_of_ble_eq_true rfl) (fun X C K => ?_)
  have C : Cx X cn_10 prog_1_method_22_code 4 (some .int) 5 0 0 := C
  show G X h 0 0 0 [(0, .ref 0), (1, .int x1), (2, .int x2)] []
  unfold f_X10_when at hrun
  refine g_aload_n C (dat dt_X10_when 0 rfl) 0 rfl ?_
  refine g_getR C (dat dt_X10_when 1 rfl) fl_10_75 kd_0 rfl ltk_0 ?_
  refine g_getR C (dat dt_X10_when 2 rfl) fl_10_123 kd_32 rfl ltk_32 ?_
  refine g_iload_n C (dat dt_X10_when 3 rfl) 1 rfl ?_
  obtain ⟨v1, q2, hrun⟩ := bd hrun
  refine g_cVi [.int x1] C (dat dt_X10_when 4 rfl) ml_10_139 (w_X6_has 33 x1 h v1 room_33 q2) kd_33 ltk_33 rfl rfl cat0 (by decide) c00 ?_
  refine g_if_eq 23 C (dat dt_X10_when 5 rfl) (by decide) (fun c3 => ?_) (fun c3 => ?_)
  · rw [if_neg (b2i_z c3)] at hrun
    refine g_iconst C (dat dt_X10_when 11 rfl) ic_m1 ?_
    cases hrun
    exact g_iret C K (dat dt_X10_when 12 rfl)
  · rw [if_pos (b2i_nz c3)] at hrun
    refine g_iload_n C (dat dt_X10_when 6 rfl) 2 rfl ?_
    refine g_if_lt 23 C (dat dt_X10_when 7 rfl) (by decide) (fun c4 => ?_) (fun c4 => ?_)
    · rw [if_pos c4] at hrun
      refine g_iconst C (dat dt_X10_when 11 rfl) ic_m1 ?_
      cases hrun
      exact g_iret C K (dat dt_X10_when 12 rfl)
    · rw [if_neg c4] at hrun
      refine g_iload_n C (dat dt_X10_when 8 rfl) 2 rfl ?_
      refine g_iconst C (dat dt_X10_when 9 rfl) ic_3 ?_
      refine g_ic_lt 25 C (dat dt_X10_when 10 rfl) (by decide) (fun c5 => ?_) (fun c5 => ?_)
      · rw [if_pos c5] at hrun
        refine g_aload_n C (dat dt_X10_when 13 rfl) 0 rfl ?_
        refine g_getR C (dat dt_X10_when 14 rfl) fl_10_40 kd_0 rfl ltk_0 ?_
        refine g_aload_n C (dat dt_X10_when 15 rfl) 0 rfl ?_
        refine g_getR C (dat dt_X10_when 16 rfl) fl_10_75 kd_0 rfl ltk_0 ?_
        refine g_getR C (dat dt_X10_when 17 rfl) fl_10_123 kd_32 rfl ltk_32 ?_
        obtain ⟨v6, q7, hrun⟩ := bd hrun
        refine g_cVv [.ref 33] C (dat dt_X10_when 18 rfl) ml_10_254 (w_X6_copyFrom 12 33 h v6 room_12 room_33 q7) kd_12 ltk_12 rfl rfl cat0 (by decide) c00 ?_
        refine g_iconst C (dat dt_X10_when 19 rfl) ic_0 ?_
        refine g_istore_n (lv' := [(0, .ref 0), (1, .int x1), (2, .int x2), (3, .int (0 : Int32))]) C (dat dt_X10_when 20 rfl) (by decide) rfl ?_
        obtain ⟨e16, q17, hrun⟩ := bd hrun
        refine lp_ind (P := fun s => kp_X10_when_41  x1 x2 X s) (K := fun e => ke_X10_when_41  x1 x2 X e) (fun s q hb Ks Ke => wb_X10_when_41 C   x1 x2 s.1 s.2 q hb Ks Ke) FU ((0 : Int32), v6.2) e16 q17 ?_
        rcases e16 with e18 | e19
        · rw [sc_l] at hrun
          show G X e18 0 0 85 [] []
          refine g_iconst C (dat dt_X10_when 42 rfl) ic_m1 ?_
          cases hrun
          exact g_iret C K (dat dt_X10_when 43 rfl)
        · rw [sc_r] at hrun
          show G X e19.2 0 0 59 [(3, .int e19.1)] []
          refine g_iload_n C (dat dt_X10_when 30 rfl) 0 rfl ?_
          cases hrun
          exact g_iret C K (dat dt_X10_when 31 rfl)
      · rw [if_neg c5] at hrun
        refine g_iconst C (dat dt_X10_when 11 rfl) ic_m1 ?_
        cases hrun
        exact g_iret C K (dat dt_X10_when 12 rfl)
/-! SteamNations.one()I -/
def dl_X10_one : List (Nat × Instr × Nat) := [(0, .aload_n 0, 1), (1, .getfield 40, 3), (4, .aload_n 0, 1), (5, .getfield 75, 3), (8, .getfield 123, 3), (11, .invokevirtual 254, 3), (14, .iconst 0, 1), (15, .istore_n 1, 1), (16, .iload_n 1, 1), (17, .bipush 60, 2), (19, .if_icmp .gt 39, 3), (22, .aload_n 0, 1), (23, .getfield 40, 3), (26, .invokevirtual 262, 3), (29, .ifCond .eq 5, 3), (32, .iload_n 1, 1), (33, .ireturn, 1), (34, .aload_n 0, 1), (35, .getfield 84, 3), (38, .aload_n 0, 1), (39, .getfield 40, 3), (42, .aload_n 0, 1), (43, .getfield 75, 3), (46, .invokevirtual 158, 3), (49, .invokevirtual 258, 3), (52, .iinc 1 1, 3), (55, .goto (-39), 3), (58, .iconst (-1), 1), (59, .ireturn, 1)]
set_option maxRecDepth 20000 in
theorem dt_X10_one : ∀ q ∈ dl_X10_one, decode prog_1_method_23_code q.1 = .ok q.2 := by decide +kernel
def kp_X10_one_16   (X : Xt) (s : (Int32 × Hp)) : Prop := G X s.2 0 0 16 [(0, .ref 0), (1, .int s.1)] []
def ke_X10_one_16   (X : Xt) (e : (Hp ⊕ (Int32 × Hp))) : Prop := match e with
  | .inl e => G X e 0 0 58 [] []
  | .inr (e) => G X e.2 0 0 32 [(1, .int e.1)] []
def b_X10_one_16   (x1 : Int32) (h : Hp) : Option ((Int32 × Hp) ⊕ (Hp ⊕ (Int32 × Hp))) :=
  if (60 : Int32) < x1 then
  some (.inr (.inl h))
  else
  (f_X6_insideAreOne 12 h).bind fun v4 =>
  if v4 = true then
  some (.inr (.inr <| id (x1, h)))
  else
  (f_X1_inForce 32 h).bind fun v7 =>
  (f_X8_passMinute 12 v7 h).bind fun v9 =>
  some (.inl ((x1 + (1 : Int32)), v9.2))
set_option maxRecDepth 20000 in
theorem wb_X10_one_16 {X : Xt} (C : Cx X cn_10 prog_1_method_23_code 2 (some .int) 5 0 0)    (x1 : Int32) (h : Hp) (q : (Int32 × Hp) ⊕ (Hp ⊕ (Int32 × Hp))) (hrun : b_X10_one_16   x1 h = some q) (Ks : ∀ s, q = .inl s → kp_X10_one_16   X s) (Ke : ∀ e, q = .inr e → ke_X10_one_16   X e) : kp_X10_one_16   X (x1, h) := by
  show G X h 0 0 16 [(0, .ref 0), (1, .int x1)] []
  unfold b_X10_one_16 at hrun
  refine g_iload_n C (dat dt_X10_one 8 rfl) 1 rfl ?_
  refine g_bipush C (dat dt_X10_one 9 rfl) bp_60 ?_
  refine g_ic_gt 58 C (dat dt_X10_one 10 rfl) (by decide) (fun c3 => ?_) (fun c3 => ?_)
  · rw [if_pos c3] at hrun
    refine g_sub [] (lv' := []) rfl ?_
    cases hrun
    exact Ke (.inl h) rfl
  · rw [if_neg c3] at hrun
    refine g_aload_n C (dat dt_X10_one 11 rfl) 0 rfl ?_
    refine g_getR C (dat dt_X10_one 12 rfl) fl_10_40 kd_0 rfl ltk_0 ?_
    obtain ⟨v4, q5, hrun⟩ := bd hrun
    refine g_cVi [] C (dat dt_X10_one 13 rfl) ml_10_262 (w_X6_insideAreOne 12 h v4 room_12 q5) kd_12 ltk_12 rfl rfl cat0 (by decide) c00 ?_
    refine g_if_eq 34 C (dat dt_X10_one 14 rfl) (by decide) (fun c6 => ?_) (fun c6 => ?_)
    · rw [if_neg (b2i_z c6)] at hrun
      refine g_aload_n C (dat dt_X10_one 17 rfl) 0 rfl ?_
      refine g_getR C (dat dt_X10_one 18 rfl) fl_10_84 kd_0 rfl ltk_0 ?_
      refine g_aload_n C (dat dt_X10_one 19 rfl) 0 rfl ?_
      refine g_getR C (dat dt_X10_one 20 rfl) fl_10_40 kd_0 rfl ltk_0 ?_
      refine g_aload_n C (dat dt_X10_one 21 rfl) 0 rfl ?_
      refine g_getR C (dat dt_X10_one 22 rfl) fl_10_75 kd_0 rfl ltk_0 ?_
      obtain ⟨v7, q8, hrun⟩ := bd hrun
      refine g_cVr [] C (dat dt_X10_one 23 rfl) ml_10_158 (w_X1_inForce 32 h v7 house_32 q8) kd_32 ltk_32 rfl rfl (Nat.le_of_ble_eq_true rfl) (by decide) c00 ?_
      obtain ⟨v9, q10, hrun⟩ := bd hrun
      refine g_cVv [.ref 12, .ref v7] C (dat dt_X10_one 24 rfl) ml_10_258 (w_X8_passMinute 12 v7 h v9 room_12 q10) kd_56 ltk_56 rfl rfl cat0 (by decide) c00 ?_
      refine g_iinc (v := (x1 + (1 : Int32))) (lv' := [(0, .ref 0), (1, .int (x1 + (1 : Int32)))]) C (dat dt_X10_one 25 rfl) 1 rfl (congrArg (fun z => x1 + z) ic_1) (by decide) rfl ?_
      refine g_goto 16 C (dat dt_X10_one 26 rfl) (by decide) ?_
      cases hrun
      exact Ks ((x1 + (1 : Int32)), v9.2) rfl
    · rw [if_pos (b2i_nz c6)] at hrun
      refine g_sub [1] (lv' := [(1, .int x1)]) rfl ?_
      cases hrun
      exact Ke (.inr <| id (x1, h)) rfl
def f_X10_one  (h : Hp) : Option (Int32 × Hp) :=
  (f_X6_copyFrom 12 33 h).bind fun v1 =>
  (lp (fun s => b_X10_one_16   s.1 s.2) FU ((0 : Int32), v1.2)).bind fun e11 =>
  sc e11 (fun e13 =>
  some ((-1 : Int32), e13)) (fun e14 =>
  some (e14.1, e14.2))
set_option maxRecDepth 20000 in
theorem w_X10_one  (h : Hp) (q : (Int32 × Hp))  (hrun : f_X10_one  h = some q) : MetA ⟨"SteamNations", "one", "()I"⟩ prog_1_method_23_code 2 (some .int) 5 0 0 [.ref 0] h (some (.int q.1)) q.2 := by
  refine metA_of (by decide) (Nat.le_of_ble_eq_true rfl) (fun X C K => ?_)
  have C : Cx X cn_10 prog_1_method_23_code 2 (some .int) 5 0 0 := C
  show G X h 0 0 0 [(0, .ref 0)] []
  unfold f_X10_one at hrun
  refine g_aload_n C (dat dt_X10_one 0 rfl) 0 rfl ?_
  refine g_getR C (dat dt_X10_one 1 rfl) fl_10_40 kd_0 rfl ltk_0 ?_
  refine g_aload_n C (dat dt_X10_one 2 rfl) 0 rfl ?_
  refine g_getR C (dat dt_X10_one 3 rfl) fl_10_75 kd_0 rfl ltk_0 ?_
  refine g_getR C (dat dt_X10_one 4 rfl) fl_10_123 kd_32 rfl ltk_32 ?_
  obtain ⟨v1, q2, hrun⟩ := bd hrun
  refine g_cVv [.ref 33] C (dat dt_X10_one 5 rfl) ml_10_254 (w_X6_copyFrom 12 33 h v1 room_12 room_33 q2) kd_12 ltk_12 rfl rfl cat0 (by decide) c00 ?_
  refine g_iconst C (dat dt_X10_one 6 rfl) ic_0 ?_
  refine g_istore_n (lv' := [(0, .ref 0), (1, .int (0 : Int32))]) C (dat dt_X10_one 7 rfl) (by decide) rfl ?_
  obtain ⟨e11, q12, hrun⟩ := bd hrun
  refine lp_ind (P := fun s => kp_X10_one_16   X s) (K := fun e => ke_X10_one_16   X e) (fun s q hb Ks Ke => wb_X10_one_16 C    s.1 s.2 q hb Ks Ke) FU ((0 : Int32), v1.2) e11 q12 ?_
  rcases e11 with e13 | e14
  · rw [sc_l] at hrun
    show G X e13 0 0 58 [] []
    refine g_iconst C (dat dt_X10_one 27 rfl) ic_m1 ?_
    cases hrun
    exact g_iret C K (dat dt_X10_one 28 rfl)
  · rw [sc_r] at hrun
    show G X e14.2 0 0 32 [(1, .int e14.1)] []
    refine g_iload_n C (dat dt_X10_one 15 rfl) 0 rfl ?_
    cases hrun
    exact g_iret C K (dat dt_X10_one 16 rfl)
/-! SteamNations.isNearMinute(I)Z -/
def dl_X10_isNearMinute : List (Nat × Instr × Nat) := [(0, .iload_n 0, 1), (1, .ifCond .lt 13, 3), (4, .iload_n 0, 1), (5, .bipush 9, 2), (7, .if_icmp .gt 7, 3), (10, .iconst 1, 1), (11, .goto 4, 3), (14, .iconst 0, 1), (15, .ireturn, 1)]
set_option maxRecDepth 20000 in
theorem dt_X10_isNearMinute : ∀ q ∈ dl_X10_isNearMinute, decode prog_1_method_52_code q.1 = .ok q.2 := by decide +kernel
def f_X10_isNearMinute (x0 : Int32) : Option Bool :=
  if x0 < 0 then
  some false
  else
  if (9 : Int32) < x0 then
  some false
  else
  some true
set_option maxRecDepth 20000 in
theorem w_X10_isNearMinute (x0 : Int32) (h : Hp) (q : Bool)  (hrun : f_X10_isNearMinute x0 = some q) : MetA ⟨"SteamNations", "isNearMinute", "(I)Z"⟩ prog_1_method_52_code 1 (some .boolean) 1 0 0 [.int x0] h (some (.int (b2i q))) h := by
  refine metA_of (by decide) (Nat.le_of_ble_eq_true rfl) (fun X C K => ?_)
  have C : Cx X cn_10 prog_1_method_52_code 1 (some .boolean) 1 0 0 := C
  show G X h 0 0 0 [(0, .int x0)] []
  unfold f_X10_isNearMinute at hrun
  refine g_iload_n C (dat dt_X10_isNearMinute 0 rfl) 0 rfl ?_
  refine g_if_lt 14 C (dat dt_X10_isNearMinute 1 rfl) (by decide) (fun c1 => ?_) (fun c1 => ?_)
  · rw [if_pos c1] at hrun
    refine g_iconst C (dat dt_X10_isNearMinute 7 rfl) ic_0 ?_
    cases hrun
    exact g_zret C K (show (0 : Int32) = b2i false by decide) (dat dt_X10_isNearMinute 8 rfl)
  · rw [if_neg c1] at hrun
    refine g_iload_n C (dat dt_X10_isNearMinute 2 rfl) 0 rfl ?_
    refine g_bipush C (dat dt_X10_isNearMinute 3 rfl) bp_9 ?_
    refine g_ic_gt 14 C (dat dt_X10_isNearMinute 4 rfl) (by decide) (fun c2 => ?_) (fun c2 => ?_)
    · rw [if_pos c2] at hrun
      refine g_iconst C (dat dt_X10_isNearMinute 7 rfl) ic_0 ?_
      cases hrun
      exact g_zret C K (show (0 : Int32) = b2i false by decide) (dat dt_X10_isNearMinute 8 rfl)
    · rw [if_neg c2] at hrun
      refine g_iconst C (dat dt_X10_isNearMinute 5 rfl) ic_1 ?_
      refine g_goto 15 C (dat dt_X10_isNearMinute 6 rfl) (by decide) ?_
      cases hrun
      exact g_zret C K (show (1 : Int32) = b2i true by decide) (dat dt_X10_isNearMinute 8 rfl)
/-! SteamNations.pleased(II)I -/
def dl_X10_pleased : List (Nat × Instr × Nat) := [(0, .iload_n 1, 1), (1, .invokestatic 266, 3), (4, .ifCond .eq 21, 3), (7, .iload_n 2, 1), (8, .ifCond .lt 17, 3), (11, .iload_n 2, 1), (12, .aload_n 0, 1), (13, .getfield 75, 3), (16, .getfield 123, 3), (19, .getfield 126, 3), (22, .if_icmp .le 5, 3), (25, .iconst (-1), 1), (26, .ireturn, 1), (27, .aload_n 0, 1), (28, .getfield 111, 3), (31, .aload_n 0, 1), (32, .getfield 75, 3), (35, .getfield 123, 3), (38, .aload_n 0, 1), (39, .getfield 75, 3), (42, .invokevirtual 158, 3), (45, .iload_n 1, 1), (46, .invokevirtual 269, 3), (49, .aload_n 0, 1), (50, .getfield 111, 3), (53, .aload_n 0, 1), (54, .getfield 75, 3), (57, .getfield 123, 3), (60, .iload_n 1, 1), (61, .invokevirtual 273, 3), (64, .istore_n 3, 1), (65, .iload_n 2, 1), (66, .ifCond .ne 22, 3), (69, .aload_n 0, 1), (70, .getfield 111, 3), (73, .aload_n 0, 1), (74, .getfield 75, 3), (77, .getfield 123, 3), (80, .iload_n 3, 1), (81, .iload_n 1, 1), (82, .invokevirtual 277, 3), (85, .goto 14, 3), (88, .aload_n 0, 1), (89, .getfield 111, 3), (92, .iload_n 3, 1), (93, .iload_n 2, 1), (94, .iconst 1, 1), (95, .isub, 1), (96, .invokevirtual 281, 3), (99, .ireturn, 1)]
set_option maxRecDepth 20000 in
theorem dt_X10_pleased : ∀ q ∈ dl_X10_pleased, decode prog_1_method_24_code q.1 = .ok q.2 := by decide +kernel
def f_X10_pleased (x1 : Int32) (x2 : Int32) (h : Hp) : Option (Int32 × Hp) :=
  (f_X10_isNearMinute x1).bind fun v1 =>
  if v1 = true then
  if x2 < 0 then
  some ((-1 : Int32), h)
  else
  if x2 ≤ (fI h 33 0) then
  (f_X1_inForce 32 h).bind fun v6 =>
  (f_X7_lookAhead 33 v6 x1 h).bind fun v8 =>
  (f_X7_bestAt 33 x1 v8.2).bind fun v10 =>
  if x2 = 0 then
  (f_X7_contentedIn 33 v10 x1 v8.2).bind fun v15 =>
  some (v15, v8.2)
  else
  (f_X7_seatIn v10 (x2 - (1 : Int32)) v8.2).bind fun v13 =>
  some (v13, v8.2)
  else
  some ((-1 : Int32), h)
  else
  some ((-1 : Int32), h)
set_option maxRecDepth 20000 in
theorem w_X10_pleased (x1 : Int32) (x2 : Int32) (h : Hp) (q : (Int32 × Hp))  (hrun : f_X10_pleased x1 x2 h = some q) : MetA ⟨"SteamNations", "pleased", "(II)I"⟩ prog_1_method_24_code 4 (some .int) 7 0 0 [.ref 0, .int x1, .int x2] h (some (.int q.1)) q.2 := by
  refine metA_of (by decide) (Nat.le_of_ble_eq_true rfl) (fun X C K => ?_)
  have C : Cx X cn_10 prog_1_method_24_code 4 (some .int) 7 0 0 := C
  show G X h 0 0 0 [(0, .ref 0), (1, .int x1), (2, .int x2)] []
  unfold f_X10_pleased at hrun
  refine g_iload_n C (dat dt_X10_pleased 0 rfl) 1 rfl ?_
  obtain ⟨v1, q2, hrun⟩ := bd hrun
  refine g_cSi [.int x1] C (dat dt_X10_pleased 1 rfl) ml_10_266 (w_X10_isNearMinute x1 h v1  q2) rfl rfl cat0 (by decide) c00 ?_
  refine g_if_eq 25 C (dat dt_X10_pleased 2 rfl) (by decide) (fun c3 => ?_) (fun c3 => ?_)
  · rw [if_neg (b2i_z c3)] at hrun
    refine g_iconst C (dat dt_X10_pleased 11 rfl) ic_m1 ?_
    cases hrun
    exact g_iret C K (dat dt_X10_pleased 12 rfl)
  · rw [if_pos (b2i_nz c3)] at hrun
    refine g_iload_n C (dat dt_X10_pleased 3 rfl) 2 rfl ?_
    refine g_if_lt 25 C (dat dt_X10_pleased 4 rfl) (by decide) (fun c4 => ?_) (fun c4 => ?_)
    · rw [if_pos c4] at hrun
      refine g_iconst C (dat dt_X10_pleased 11 rfl) ic_m1 ?_
      cases hrun
      exact g_iret C K (dat dt_X10_pleased 12 rfl)
    · rw [if_neg c4] at hrun
      refine g_iload_n C (dat dt_X10_pleased 5 rfl) 2 rfl ?_
      refine g_aload_n C (dat dt_X10_pleased 6 rfl) 0 rfl ?_
      refine g_getR C (dat dt_X10_pleased 7 rfl) fl_10_75 kd_0 rfl ltk_0 ?_
      refine g_getR C (dat dt_X10_pleased 8 rfl) fl_10_123 kd_32 rfl ltk_32 ?_
      refine g_getI C (dat dt_X10_pleased 9 rfl) fl_10_126 kd_33 rfl ltk_33 ?_
      refine g_ic_le 27 C (dat dt_X10_pleased 10 rfl) (by decide) (fun c5 => ?_) (fun c5 => ?_)
      · rw [if_pos c5] at hrun
        refine g_aload_n C (dat dt_X10_pleased 13 rfl) 0 rfl ?_
        refine g_getR C (dat dt_X10_pleased 14 rfl) fl_10_111 kd_0 rfl ltk_0 ?_
        refine g_aload_n C (dat dt_X10_pleased 15 rfl) 0 rfl ?_
        refine g_getR C (dat dt_X10_pleased 16 rfl) fl_10_75 kd_0 rfl ltk_0 ?_
        refine g_getR C (dat dt_X10_pleased 17 rfl) fl_10_123 kd_32 rfl ltk_32 ?_
        refine g_aload_n C (dat dt_X10_pleased 18 rfl) 0 rfl ?_
        refine g_getR C (dat dt_X10_pleased 19 rfl) fl_10_75 kd_0 rfl ltk_0 ?_
        obtain ⟨v6, q7, hrun⟩ := bd hrun
        refine g_cVr [] C (dat dt_X10_pleased 20 rfl) ml_10_158 (w_X1_inForce 32 h v6 house_32 q7) kd_32 ltk_32 rfl rfl (Nat.le_of_ble_eq_true rfl) (by decide) c00 ?_
        refine g_iload_n C (dat dt_X10_pleased 21 rfl) 1 rfl ?_
        obtain ⟨v8, q9, hrun⟩ := bd hrun
        refine g_cVv [.ref 33, .ref v6, .int x1] C (dat dt_X10_pleased 22 rfl) ml_10_269 (w_X7_lookAhead 33 v6 x1 h v8 room_33 q9) kd_68 ltk_68 rfl rfl cat0 (by decide) c00 ?_
        refine g_aload_n C (dat dt_X10_pleased 23 rfl) 0 rfl ?_
        refine g_getR C (dat dt_X10_pleased 24 rfl) fl_10_111 kd_0 rfl ltk_0 ?_
        refine g_aload_n C (dat dt_X10_pleased 25 rfl) 0 rfl ?_
        refine g_getR C (dat dt_X10_pleased 26 rfl) fl_10_75 kd_0 rfl ltk_0 ?_
        refine g_getR C (dat dt_X10_pleased 27 rfl) fl_10_123 kd_32 rfl ltk_32 ?_
        refine g_iload_n C (dat dt_X10_pleased 28 rfl) 1 rfl ?_
        obtain ⟨v10, q11, hrun⟩ := bd hrun
        refine g_cVi [.ref 33, .int x1] C (dat dt_X10_pleased 29 rfl) ml_10_273 (w_X7_bestAt 33 x1 v8.2 v10 room_33 q11) kd_68 ltk_68 rfl rfl cat0 (by decide) c00 ?_
        refine g_istore_n (lv' := [(0, .ref 0), (1, .int x1), (2, .int x2), (3, .int v10)]) C (dat dt_X10_pleased 30 rfl) (by decide) rfl ?_
        refine g_iload_n C (dat dt_X10_pleased 31 rfl) 2 rfl ?_
        refine g_if_ne 88 C (dat dt_X10_pleased 32 rfl) (by decide) (fun c12 => ?_) (fun c12 => ?_)
        · rw [if_neg c12] at hrun
          refine g_aload_n C (dat dt_X10_pleased 42 rfl) 0 rfl ?_
          refine g_getR C (dat dt_X10_pleased 43 rfl) fl_10_111 kd_0 rfl ltk_0 ?_
          refine g_iload_n C (dat dt_X10_pleased 44 rfl) 3 rfl ?_
          refine g_iload_n C (dat dt_X10_pleased 45 rfl) 2 rfl ?_
          refine g_iconst C (dat dt_X10_pleased 46 rfl) ic_1 ?_
          refine g_isub C (dat dt_X10_pleased 47 rfl) ?_
          obtain ⟨v13, q14, hrun⟩ := bd hrun
          refine g_cVi [.int v10, .int (x2 - (1 : Int32))] C (dat dt_X10_pleased 48 rfl) ml_10_281 (w_X7_seatIn v10 (x2 - (1 : Int32)) v8.2 v13  q14) kd_68 ltk_68 rfl rfl cat0 (by decide) c00 ?_
          cases hrun
          exact g_iret C K (dat dt_X10_pleased 49 rfl)
        · rw [if_pos c12] at hrun
          refine g_aload_n C (dat dt_X10_pleased 33 rfl) 0 rfl ?_
          refine g_getR C (dat dt_X10_pleased 34 rfl) fl_10_111 kd_0 rfl ltk_0 ?_
          refine g_aload_n C (dat dt_X10_pleased 35 rfl) 0 rfl ?_
          refine g_getR C (dat dt_X10_pleased 36 rfl) fl_10_75 kd_0 rfl ltk_0 ?_
          refine g_getR C (dat dt_X10_pleased 37 rfl) fl_10_123 kd_32 rfl ltk_32 ?_
          refine g_iload_n C (dat dt_X10_pleased 38 rfl) 3 rfl ?_
          refine g_iload_n C (dat dt_X10_pleased 39 rfl) 1 rfl ?_
          obtain ⟨v15, q16, hrun⟩ := bd hrun
          refine g_cVi [.ref 33, .int v10, .int x1] C (dat dt_X10_pleased 40 rfl) ml_10_277 (w_X7_contentedIn 33 v10 x1 v8.2 v15 room_33 q16) kd_68 ltk_68 rfl rfl cat0 (by decide) c00 ?_
          refine g_goto 99 C (dat dt_X10_pleased 41 rfl) (by decide) ?_
          cases hrun
          exact g_iret C K (dat dt_X10_pleased 49 rfl)
      · rw [if_neg c5] at hrun
        refine g_iconst C (dat dt_X10_pleased 11 rfl) ic_m1 ?_
        cases hrun
        exact g_iret C K (dat dt_X10_pleased 12 rfl)
/-! SteamNations.exchanges(II)I -/
def dl_X10_exchanges : List (Nat × Instr × Nat) := [(0, .iload_n 1, 1), (1, .invokestatic 266, 3), (4, .ifCond .eq 12, 3), (7, .iload_n 2, 1), (8, .ifCond .lt 8, 3), (11, .iload_n 2, 1), (12, .iconst 1, 1), (13, .if_icmp .le 5, 3), (16, .iconst (-1), 1), (17, .ireturn, 1), (18, .aload_n 0, 1), (19, .getfield 111, 3), (22, .aload_n 0, 1), (23, .getfield 75, 3), (26, .getfield 123, 3), (29, .aload_n 0, 1), (30, .getfield 75, 3), (33, .invokevirtual 158, 3), (36, .iload_n 1, 1), (37, .invokevirtual 269, 3), (40, .aload_n 0, 1), (41, .getfield 111, 3), (44, .aload_n 0, 1), (45, .getfield 75, 3), (48, .getfield 123, 3), (51, .iload_n 1, 1), (52, .invokevirtual 284, 3), (55, .iload_n 2, 1), (56, .ifCond .ne 20, 3), (59, .aload_n 0, 1), (60, .getfield 111, 3), (63, .aload_n 0, 1), (64, .getfield 75, 3), (67, .getfield 123, 3), (70, .invokevirtual 288, 3), (73, .goto 17, 3), (76, .aload_n 0, 1), (77, .getfield 111, 3), (80, .aload_n 0, 1), (81, .getfield 75, 3), (84, .getfield 123, 3), (87, .invokevirtual 291, 3), (90, .ireturn, 1)]
set_option maxRecDepth 20000 in
theorem dt_X10_exchanges : ∀ q ∈ dl_X10_exchanges, decode prog_1_method_25_code q.1 = .ok q.2 := by decide +kernel
def f_X10_exchanges (x1 : Int32) (x2 : Int32) (h : Hp) : Option (Int32 × Hp) :=
  (f_X10_isNearMinute x1).bind fun v1 =>
  if v1 = true then
  if x2 < 0 then
  some ((-1 : Int32), h)
  else
  if x2 ≤ (1 : Int32) then
  (f_X1_inForce 32 h).bind fun v6 =>
  (f_X7_lookAhead 33 v6 x1 h).bind fun v8 =>
  (f_X7_measure 33 x1 v8.2).bind fun v10 =>
  if x2 = 0 then
  (f_X7_fewestExchanges 33 v10.2).bind fun v15 =>
  some (v15, v10.2)
  else
  (f_X7_firstExchange 33 v10.2).bind fun v13 =>
  some (v13, v10.2)
  else
  some ((-1 : Int32), h)
  else
  some ((-1 : Int32), h)
set_option maxRecDepth 20000 in
theorem w_X10_exchanges (x1 : Int32) (x2 : Int32) (h : Hp) (q : (Int32 × Hp))  (hrun : f_X10_exchanges x1 x2 h = some q) : MetA ⟨"SteamNations", "exchanges", "(II)I"⟩ prog_1_method_25_code 3 (some .int) 7 0 0 [.ref 0, .int x1, .int x2] h (some (.int q.1)) q.2 := by
  refine metA_of (by decide) (Nat.le_of_ble_eq_true rfl) (fun X C K => ?_)
  have C : Cx X cn_10 prog_1_method_25_code 3 (some .int) 7 0 0 := C
  show G X h 0 0 0 [(0, .ref 0), (1, .int x1), (2, .int x2)] []
  unfold f_X10_exchanges at hrun
  refine g_iload_n C (dat dt_X10_exchanges 0 rfl) 1 rfl ?_
  obtain ⟨v1, q2, hrun⟩ := bd hrun
  refine g_cSi [.int x1] C (dat dt_X10_exchanges 1 rfl) ml_10_266 (w_X10_isNearMinute x1 h v1  q2) rfl rfl cat0 (by decide) c00 ?_
  refine g_if_eq 16 C (dat dt_X10_exchanges 2 rfl) (by decide) (fun c3 => ?_) (fun c3 => ?_)
  · rw [if_neg (b2i_z c3)] at hrun
    refine g_iconst C (dat dt_X10_exchanges 8 rfl) ic_m1 ?_
    cases hrun
    exact g_iret C K (dat dt_X10_exchanges 9 rfl)
  · rw [if_pos (b2i_nz c3)] at hrun
    refine g_iload_n C (dat dt_X10_exchanges 3 rfl) 2 rfl ?_
    refine g_if_lt 16 C (dat dt_X10_exchanges 4 rfl) (by decide) (fun c4 => ?_) (fun c4 => ?_)
    · rw [if_pos c4] at hrun
      refine g_iconst C (dat dt_X10_exchanges 8 rfl) ic_m1 ?_
      cases hrun
      exact g_iret C K (dat dt_X10_exchanges 9 rfl)
    · rw [if_neg c4] at hrun
      refine g_iload_n C (dat dt_X10_exchanges 5 rfl) 2 rfl ?_
      refine g_iconst C (dat dt_X10_exchanges 6 rfl) ic_1 ?_
      refine g_ic_le 18 C (dat dt_X10_exchanges 7 rfl) (by decide) (fun c5 => ?_) (fun c5 => ?_)
      · rw [if_pos c5] at hrun
        refine g_aload_n C (dat dt_X10_exchanges 10 rfl) 0 rfl ?_
        refine g_getR C (dat dt_X10_exchanges 11 rfl) fl_10_111 kd_0 rfl ltk_0 ?_
        refine g_aload_n C (dat dt_X10_exchanges 12 rfl) 0 rfl ?_
        refine g_getR C (dat dt_X10_exchanges 13 rfl) fl_10_75 kd_0 rfl ltk_0 ?_
        refine g_getR C (dat dt_X10_exchanges 14 rfl) fl_10_123 kd_32 rfl ltk_32 ?_
        refine g_aload_n C (dat dt_X10_exchanges 15 rfl) 0 rfl ?_
        refine g_getR C (dat dt_X10_exchanges 16 rfl) fl_10_75 kd_0 rfl ltk_0 ?_
        obtain ⟨v6, q7, hrun⟩ := bd hrun
        refine g_cVr [] C (dat dt_X10_exchanges 17 rfl) ml_10_158 (w_X1_inForce 32 h v6 house_32 q7) kd_32 ltk_32 rfl rfl (Nat.le_of_ble_eq_true rfl) (by decide) c00 ?_
        refine g_iload_n C (dat dt_X10_exchanges 18 rfl) 1 rfl ?_
        obtain ⟨v8, q9, hrun⟩ := bd hrun
        refine g_cVv [.ref 33, .ref v6, .int x1] C (dat dt_X10_exchanges 19 rfl) ml_10_269 (w_X7_lookAhead 33 v6 x1 h v8 room_33 q9) kd_68 ltk_68 rfl rfl cat0 (by decide) c00 ?_
        refine g_aload_n C (dat dt_X10_exchanges 20 rfl) 0 rfl ?_
        refine g_getR C (dat dt_X10_exchanges 21 rfl) fl_10_111 kd_0 rfl ltk_0 ?_
        refine g_aload_n C (dat dt_X10_exchanges 22 rfl) 0 rfl ?_
        refine g_getR C (dat dt_X10_exchanges 23 rfl) fl_10_75 kd_0 rfl ltk_0 ?_
        refine g_getR C (dat dt_X10_exchanges 24 rfl) fl_10_123 kd_32 rfl ltk_32 ?_
        refine g_iload_n C (dat dt_X10_exchanges 25 rfl) 1 rfl ?_
        obtain ⟨v10, q11, hrun⟩ := bd hrun
        refine g_cVv [.ref 33, .int x1] C (dat dt_X10_exchanges 26 rfl) ml_10_284 (w_X7_measure 33 x1 v8.2 v10 room_33 q11) kd_68 ltk_68 rfl rfl cat0 (by decide) c00 ?_
        refine g_iload_n C (dat dt_X10_exchanges 27 rfl) 2 rfl ?_
        refine g_if_ne 76 C (dat dt_X10_exchanges 28 rfl) (by decide) (fun c12 => ?_) (fun c12 => ?_)
        · rw [if_neg c12] at hrun
          refine g_aload_n C (dat dt_X10_exchanges 36 rfl) 0 rfl ?_
          refine g_getR C (dat dt_X10_exchanges 37 rfl) fl_10_111 kd_0 rfl ltk_0 ?_
          refine g_aload_n C (dat dt_X10_exchanges 38 rfl) 0 rfl ?_
          refine g_getR C (dat dt_X10_exchanges 39 rfl) fl_10_75 kd_0 rfl ltk_0 ?_
          refine g_getR C (dat dt_X10_exchanges 40 rfl) fl_10_123 kd_32 rfl ltk_32 ?_
          obtain ⟨v13, q14, hrun⟩ := bd hrun
          refine g_cVi [.ref 33] C (dat dt_X10_exchanges 41 rfl) ml_10_291 (w_X7_firstExchange 33 v10.2 v13 room_33 q14) kd_68 ltk_68 rfl rfl cat0 (by decide) c00 ?_
          cases hrun
          exact g_iret C K (dat dt_X10_exchanges 42 rfl)
        · rw [if_pos c12] at hrun
          refine g_aload_n C (dat dt_X10_exchanges 29 rfl) 0 rfl ?_
          refine g_getR C (dat dt_X10_exchanges 30 rfl) fl_10_111 kd_0 rfl ltk_0 ?_
          refine g_aload_n C (dat dt_X10_exchanges 31 rfl) 0 rfl ?_
          refine g_getR C (dat dt_X10_exchanges 32 rfl) fl_10_75 kd_0 rfl ltk_0 ?_
          refine g_getR C (dat dt_X10_exchanges 33 rfl) fl_10_123 kd_32 rfl ltk_32 ?_
          obtain ⟨v15, q16, hrun⟩ := bd hrun
          refine g_cVi [.ref 33] C (dat dt_X10_exchanges 34 rfl) ml_10_288 (w_X7_fewestExchanges 33 v10.2 v15 room_33 q16) kd_68 ltk_68 rfl rfl cat0 (by decide) c00 ?_
          refine g_goto 90 C (dat dt_X10_exchanges 35 rfl) (by decide) ?_
          cases hrun
          exact g_iret C K (dat dt_X10_exchanges 42 rfl)
      · rw [if_neg c5] at hrun
        refine g_iconst C (dat dt_X10_exchanges 8 rfl) ic_m1 ?_
        cases hrun
        exact g_iret C K (dat dt_X10_exchanges 9 rfl)
/-! SteamNations.seen(III)I -/
def dl_X10_seen : List (Nat × Instr × Nat) := [(0, .iload_n 2, 1), (1, .invokestatic 266, 3), (4, .ifCond .eq 12, 3), (7, .iload_n 3, 1), (8, .ifCond .lt 8, 3), (11, .iload_n 3, 1), (12, .iconst 3, 1), (13, .if_icmp .lt 9, 3), (16, .aload_n 0, 1), (17, .iconst (-1), 1), (18, .invokevirtual 119, 3), (21, .ireturn, 1), (22, .aload_n 0, 1), (23, .getfield 75, 3), (26, .getfield 123, 3), (29, .iload_n 1, 1), (30, .invokevirtual 139, 3), (33, .ifCond .ne 10, 3), (36, .aload_n 0, 1), (37, .bipush (-2), 2), (39, .invokevirtual 119, 3), (42, .ireturn, 1), (43, .aload_n 0, 1), (44, .getfield 75, 3), (47, .getfield 294, 3), (50, .bipush 6, 2), (52, .if_icmp .lt 10, 3), (55, .aload_n 0, 1), (56, .bipush (-5), 2), (58, .invokevirtual 119, 3), (61, .ireturn, 1), (62, .aload_n 0, 1), (63, .aload_n 0, 1), (64, .getfield 75, 3), (67, .iload_n 1, 1), (68, .iload_n 2, 1), (69, .iload_n 3, 1), (70, .invokevirtual 297, 3), (73, .invokevirtual 119, 3), (76, .ireturn, 1)]
set_option maxRecDepth 20000 in
theorem dt_X10_seen : ∀ q ∈ dl_X10_seen, decode prog_1_method_26_code q.1 = .ok q.2 := by decide +kernel
def j_X10_seen_16   (h : Hp) : Option (Int32 × Hp) :=
  (f_X10_answer (-1 : Int32) h).bind fun v4 =>
  some (v4.1, v4.2)
set_option maxRecDepth 20000 in
theorem wj_X10_seen_16 {X : Xt} (C : Cx X cn_10 prog_1_method_26_code 4 (some .int) 2 0 0)     (h : Hp) (q : (Int32 × Hp)) (hrun : j_X10_seen_16   h = some q) (K : EndQ X 0 0 (some (.int q.1)) q.2) : G X h 0 0 16 [(0, .ref 0)] [] := by
  unfold j_X10_seen_16 at hrun
  refine g_aload_n C (dat dt_X10_seen 8 rfl) 0 rfl ?_
  refine g_iconst C (dat dt_X10_seen 9 rfl) ic_m1 ?_
  obtain ⟨v4, q5, hrun⟩ := bd hrun
  refine g_cVi [.int (-1 : Int32)] C (dat dt_X10_seen 10 rfl) ml_10_119 (w_X10_answer (-1 : Int32) h v4  q5) kd_0 ltk_0 rfl rfl cat0 (by decide) c00 ?_
  cases hrun
  exact g_iret C K (dat dt_X10_seen 11 rfl)
def f_X10_seen (x1 : Int32) (x2 : Int32) (x3 : Int32) (h : Hp) : Option (Int32 × Hp) :=
  (f_X10_isNearMinute x2).bind fun v1 =>
  if v1 = true then
  if x3 < 0 then
  j_X10_seen_16   h
  else
  if x3 < (3 : Int32) then
  (f_X6_has 33 x1 h).bind fun v8 =>
  if v8 = true then
  if (fI h 32 6) < (6 : Int32) then
  (f_X1_addSight 32 x1 x2 x3 h).bind fun v12 =>
  (f_X10_answer v12.1 v12.2).bind fun v14 =>
  some (v14.1, v14.2)
  else
  (f_X10_answer (-5 : Int32) h).bind fun v16 =>
  some (v16.1, v16.2)
  else
  (f_X10_answer (-2 : Int32) h).bind fun v18 =>
  some (v18.1, v18.2)
  else
  j_X10_seen_16   h
  else
  j_X10_seen_16   h
set_option maxRecDepth 20000 in
theorem w_X10_seen (x1 : Int32) (x2 : Int32) (x3 : Int32) (h : Hp) (q : (Int32 × Hp))  (hrun : f_X10_seen x1 x2 x3 h = some q) : MetA ⟨"SteamNations", "seen", "(III)I"⟩ prog_1_method_26_code 4 (some .int) 2 0 0 [.ref 0, .int x1, .int x2, .int x3] h (some (.int q.1)) q.2 := by
  refine metA_of (by decide) (Nat.le_of_ble_eq_true rfl) (fun X C K => ?_)
  have C : Cx X cn_10 prog_1_method_26_code 4 (some .int) 2 0 0 := C
  show G X h 0 0 0 [(0, .ref 0), (1, .int x1), (2, .int x2), (3, .int x3)] []
  unfold f_X10_seen at hrun
  refine g_iload_n C (dat dt_X10_seen 0 rfl) 2 rfl ?_
  obtain ⟨v1, q2, hrun⟩ := bd hrun
  refine g_cSi [.int x2] C (dat dt_X10_seen 1 rfl) ml_10_266 (w_X10_isNearMinute x2 h v1  q2) rfl rfl cat0 (by decide) c00 ?_
  refine g_if_eq 16 C (dat dt_X10_seen 2 rfl) (by decide) (fun c3 => ?_) (fun c3 => ?_)
  · rw [if_neg (b2i_z c3)] at hrun
    refine g_sub [0] (lv' := [(0, .ref 0)]) rfl ?_
    exact wj_X10_seen_16 C     h _ hrun K
  · rw [if_pos (b2i_nz c3)] at hrun
    refine g_iload_n C (dat dt_X10_seen 3 rfl) 3 rfl ?_
    refine g_if_lt 16 C (dat dt_X10_seen 4 rfl) (by decide) (fun c6 => ?_) (fun c6 => ?_)
    · rw [if_pos c6] at hrun
      refine g_sub [0] (lv' := [(0, .ref 0)]) rfl ?_
      exact wj_X10_seen_16 C     h _ hrun K
    · rw [if_neg c6] at hrun
      refine g_iload_n C (dat dt_X10_seen 5 rfl) 3 rfl ?_
      refine g_iconst C (dat dt_X10_seen 6 rfl) ic_3 ?_
      refine g_ic_lt 22 C (dat dt_X10_seen 7 rfl) (by decide) (fun c7 => ?_) (fun c7 => ?_)
      · rw [if_pos c7] at hrun
        refine g_aload_n C (dat dt_X10_seen 12 rfl) 0 rfl ?_
        refine g_getR C (dat dt_X10_seen 13 rfl) fl_10_75 kd_0 rfl ltk_0 ?_
        refine g_getR C (dat dt_X10_seen 14 rfl) fl_10_123 kd_32 rfl ltk_32 ?_
        refine g_iload_n C (dat dt_X10_seen 15 rfl) 1 rfl ?_
        obtain ⟨v8, q9, hrun⟩ := bd hrun
        refine g_cVi [.int x1] C (dat dt_X10_seen 16 rfl) ml_10_139 (w_X6_has 33 x1 h v8 room_33 q9) kd_33 ltk_33 rfl rfl cat0 (by decide) c00 ?_
        refine g_if_ne 43 C (dat dt_X10_seen 17 rfl) (by decide) (fun c10 => ?_) (fun c10 => ?_)
        · rw [if_pos (b2i_nz c10)] at hrun
          refine g_aload_n C (dat dt_X10_seen 22 rfl) 0 rfl ?_
          refine g_getR C (dat dt_X10_seen 23 rfl) fl_10_75 kd_0 rfl ltk_0 ?_
          refine g_getI C (dat dt_X10_seen 24 rfl) fl_10_294 kd_32 rfl ltk_32 ?_
          refine g_bipush C (dat dt_X10_seen 25 rfl) bp_6 ?_
          refine g_ic_lt 62 C (dat dt_X10_seen 26 rfl) (by decide) (fun c11 => ?_) (fun c11 => ?_)
          · rw [if_pos c11] at hrun
            refine g_aload_n C (dat dt_X10_seen 31 rfl) 0 rfl ?_
            refine g_aload_n C (dat dt_X10_seen 32 rfl) 0 rfl ?_
            refine g_getR C (dat dt_X10_seen 33 rfl) fl_10_75 kd_0 rfl ltk_0 ?_
            refine g_iload_n C (dat dt_X10_seen 34 rfl) 1 rfl ?_
            refine g_iload_n C (dat dt_X10_seen 35 rfl) 2 rfl ?_
            refine g_iload_n C (dat dt_X10_seen 36 rfl) 3 rfl ?_
            obtain ⟨v12, q13, hrun⟩ := bd hrun
            refine g_cVi [.int x1, .int x2, .int x3] C (dat dt_X10_seen 37 rfl) ml_10_297 (w_X1_addSight 32 x1 x2 x3 h v12 house_32 q13) kd_32 ltk_32 rfl rfl (Nat.le_of_ble_eq_true rfl) (by decide) c00 ?_
            obtain ⟨v14, q15, hrun⟩ := bd hrun
            refine g_cVi [.int v12.1] C (dat dt_X10_seen 38 rfl) ml_10_119 (w_X10_answer v12.1 v12.2 v14  q15) kd_0 ltk_0 rfl rfl cat0 (by decide) c00 ?_
            cases hrun
            exact g_iret C K (dat dt_X10_seen 39 rfl)
          · rw [if_neg c11] at hrun
            refine g_aload_n C (dat dt_X10_seen 27 rfl) 0 rfl ?_
            refine g_bipush C (dat dt_X10_seen 28 rfl) bp_m5 ?_
            obtain ⟨v16, q17, hrun⟩ := bd hrun
            refine g_cVi [.int (-5 : Int32)] C (dat dt_X10_seen 29 rfl) ml_10_119 (w_X10_answer (-5 : Int32) h v16  q17) kd_0 ltk_0 rfl rfl cat0 (by decide) c00 ?_
            cases hrun
            exact g_iret C K (dat dt_X10_seen 30 rfl)
        · rw [if_neg (b2i_z c10)] at hrun
          refine g_aload_n C (dat dt_X10_seen 18 rfl) 0 rfl ?_
          refine g_bipush C (dat dt_X10_seen 19 rfl) bp_m2 ?_
          obtain ⟨v18, q19, hrun⟩ := bd hrun
          refine g_cVi [.int (-2 : Int32)] C (dat dt_X10_seen 20 rfl) ml_10_119 (w_X10_answer (-2 : Int32) h v18  q19) kd_0 ltk_0 rfl rfl cat0 (by decide) c00 ?_
          cases hrun
          exact g_iret C K (dat dt_X10_seen 21 rfl)
      · rw [if_neg c7] at hrun
        refine g_sub [0] (lv' := [(0, .ref 0)]) rfl ?_
        exact wj_X10_seen_16 C     h _ hrun K
/-! SteamNations.forget()I -/
def dl_X10_forget : List (Nat × Instr × Nat) := [(0, .aload_n 0, 1), (1, .getfield 75, 3), (4, .getfield 294, 3), (7, .istore_n 1, 1), (8, .aload_n 0, 1), (9, .getfield 75, 3), (12, .iconst 0, 1), (13, .putfield 294, 3), (16, .iload_n 1, 1), (17, .ireturn, 1)]
set_option maxRecDepth 20000 in
theorem dt_X10_forget : ∀ q ∈ dl_X10_forget, decode prog_1_method_27_code q.1 = .ok q.2 := by decide +kernel
def f_X10_forget  (h : Hp) : Option (Int32 × Hp) :=
  some ((fI h 32 6), (sF h 32 6 (0 : Int32)))
set_option maxRecDepth 20000 in
theorem w_X10_forget  (h : Hp) (q : (Int32 × Hp))  (hrun : f_X10_forget  h = some q) : MetA ⟨"SteamNations", "forget", "()I"⟩ prog_1_method_27_code 2 (some .int) 1 0 0 [.ref 0] h (some (.int q.1)) q.2 := by
  refine metA_of (by decide) (Nat.le_of_ble_eq_true rfl) (fun X C K => ?_)
  have C : Cx X cn_10 prog_1_method_27_code 2 (some .int) 1 0 0 := C
  show G X h 0 0 0 [(0, .ref 0)] []
  unfold f_X10_forget at hrun
  refine g_aload_n C (dat dt_X10_forget 0 rfl) 0 rfl ?_
  refine g_getR C (dat dt_X10_forget 1 rfl) fl_10_75 kd_0 rfl ltk_0 ?_
  refine g_getI C (dat dt_X10_forget 2 rfl) fl_10_294 kd_32 rfl ltk_32 ?_
  refine g_istore_n (lv' := [(0, .ref 0), (1, .int (fI h 32 6))]) C (dat dt_X10_forget 3 rfl) (by decide) rfl ?_
  refine g_aload_n C (dat dt_X10_forget 4 rfl) 0 rfl ?_
  refine g_getR C (dat dt_X10_forget 5 rfl) fl_10_75 kd_0 rfl ltk_0 ?_
  refine g_iconst C (dat dt_X10_forget 6 rfl) ic_0 ?_
  refine g_putI C (dat dt_X10_forget 7 rfl) fl_10_294 rfl rfl kd_32 rfl ltk_32 ?_
  refine g_iload_n C (dat dt_X10_forget 8 rfl) 1 rfl ?_
  cases hrun
  exact g_iret C K (dat dt_X10_forget 9 rfl)
/-! SteamNations.sat(II)I -/
def dl_X10_sat : List (Nat × Instr × Nat) := [(0, .aload_n 0, 1), (1, .getfield 111, 3), (4, .aload_n 0, 1), (5, .getfield 75, 3), (8, .getfield 123, 3), (11, .aload_n 0, 1), (12, .getfield 75, 3), (15, .invokevirtual 158, 3), (18, .aload_n 0, 1), (19, .getfield 75, 3), (22, .invokevirtual 301, 3), (25, .invokevirtual 269, 3), (28, .iload_n 1, 1), (29, .iconst (-1), 1), (30, .if_icmp .ne 15, 3), (33, .aload_n 0, 1), (34, .getfield 111, 3), (37, .aload_n 0, 1), (38, .getfield 75, 3), (41, .invokevirtual 304, 3), (44, .ireturn, 1), (45, .iload_n 1, 1), (46, .ifCond .lt 17, 3), (49, .aload_n 0, 1), (50, .getfield 75, 3), (53, .getfield 123, 3), (56, .iload_n 2, 1), (57, .invokevirtual 139, 3), (60, .ifCond .ne 5, 3), (63, .iconst (-1), 1), (64, .ireturn, 1), (65, .aload_n 0, 1), (66, .getfield 111, 3), (69, .aload_n 0, 1), (70, .getfield 75, 3), (73, .iload_n 1, 1), (74, .invokevirtual 308, 3), (77, .istore_n 3, 1), (78, .iload_n 3, 1), (79, .iconst (-1), 1), (80, .if_icmp .ne 7, 3), (83, .iconst (-1), 1), (84, .goto 12, 3), (87, .aload_n 0, 1), (88, .getfield 111, 3), (91, .iload_n 3, 1), (92, .iload_n 2, 1), (93, .invokevirtual 281, 3), (96, .ireturn, 1)]
set_option maxRecDepth 20000 in
theorem dt_X10_sat : ∀ q ∈ dl_X10_sat, decode prog_1_method_28_code q.1 = .ok q.2 := by decide +kernel
def f_X10_sat (x1 : Int32) (x2 : Int32) (h : Hp) : Option (Int32 × Hp) :=
  (f_X1_inForce 32 h).bind fun v1 =>
  (f_X1_latestSight 32 h).bind fun v3 =>
  (f_X7_lookAhead 33 v1 v3 h).bind fun v5 =>
  if x1 = (-1 : Int32) then
  (f_X7_countSat 32 v5.2).bind fun v17 =>
  some (v17, v5.2)
  else
  if x1 < 0 then
  some ((-1 : Int32), v5.2)
  else
  (f_X6_has 33 x2 v5.2).bind fun v9 =>
  if v9 = true then
  (f_X7_findSat 32 x1 v5.2).bind fun v12 =>
  if v12 = (-1 : Int32) then
  some ((-1 : Int32), v5.2)
  else
  (f_X7_seatIn v12 x2 v5.2).bind fun v15 =>
  some (v15, v5.2)
  else
  some ((-1 : Int32), v5.2)
set_option maxRecDepth 20000 in
theorem w_X10_sat (x1 : Int32) (x2 : Int32) (h : Hp) (q : (Int32 × Hp))  (hrun : f_X10_sat x1 x2 h = some q) : MetA ⟨"SteamNations", "sat", "(II)I"⟩ prog_1_method_28_code 4 (some .int) 7 0 0 [.ref 0, .int x1, .int x2] h (some (.int q.1)) q.2 := by
  refine metA_of (by decide) (Nat.le_of_ble_eq_true rfl) (fun X C K => ?_)
  have C : Cx X cn_10 prog_1_method_28_code 4 (some .int) 7 0 0 := C
  show G X h 0 0 0 [(0, .ref 0), (1, .int x1), (2, .int x2)] []
  unfold f_X10_sat at hrun
  refine g_aload_n C (dat dt_X10_sat 0 rfl) 0 rfl ?_
  refine g_getR C (dat dt_X10_sat 1 rfl) fl_10_111 kd_0 rfl ltk_0 ?_
  refine g_aload_n C (dat dt_X10_sat 2 rfl) 0 rfl ?_
  refine g_getR C (dat dt_X10_sat 3 rfl) fl_10_75 kd_0 rfl ltk_0 ?_
  refine g_getR C (dat dt_X10_sat 4 rfl) fl_10_123 kd_32 rfl ltk_32 ?_
  refine g_aload_n C (dat dt_X10_sat 5 rfl) 0 rfl ?_
  refine g_getR C (dat dt_X10_sat 6 rfl) fl_10_75 kd_0 rfl ltk_0 ?_
  obtain ⟨v1, q2, hrun⟩ := bd hrun
  refine g_cVr [] C (dat dt_X10_sat 7 rfl) ml_10_158 (w_X1_inForce 32 h v1 house_32 q2) kd_32 ltk_32 rfl rfl (Nat.le_of_ble_eq_true rfl) (by decide) c00 ?_
  refine g_aload_n C (dat dt_X10_sat 8 rfl) 0 rfl ?_
  refine g_getR C (dat dt_X10_sat 9 rfl) fl_10_75 kd_0 rfl ltk_0 ?_
  obtain ⟨v3, q4, hrun⟩ := bd hrun
  refine g_cVi [] C (dat dt_X10_sat 10 rfl) ml_10_301 (w_X1_latestSight 32 h v3 house_32 q4) kd_32 ltk_32 rfl rfl (Nat.le_of_ble_eq_true rfl) (by decide) c00 ?_
  obtain ⟨v5, q6, hrun⟩ := bd hrun
  refine g_cVv [.ref 33, .ref v1, .int v3] C (dat dt_X10_sat 11 rfl) ml_10_269 (w_X7_lookAhead 33 v1 v3 h v5 room_33 q6) kd_68 ltk_68 rfl rfl cat0 (by decide) c00 ?_
  refine g_iload_n C (dat dt_X10_sat 12 rfl) 1 rfl ?_
  refine g_iconst C (dat dt_X10_sat 13 rfl) ic_m1 ?_
  refine g_ic_ne 45 C (dat dt_X10_sat 14 rfl) (by decide) (fun c7 => ?_) (fun c7 => ?_)
  · rw [if_neg c7] at hrun
    refine g_iload_n C (dat dt_X10_sat 21 rfl) 1 rfl ?_
    refine g_if_lt 63 C (dat dt_X10_sat 22 rfl) (by decide) (fun c8 => ?_) (fun c8 => ?_)
    · rw [if_pos c8] at hrun
      refine g_iconst C (dat dt_X10_sat 29 rfl) ic_m1 ?_
      cases hrun
      exact g_iret C K (dat dt_X10_sat 30 rfl)
    · rw [if_neg c8] at hrun
      refine g_aload_n C (dat dt_X10_sat 23 rfl) 0 rfl ?_
      refine g_getR C (dat dt_X10_sat 24 rfl) fl_10_75 kd_0 rfl ltk_0 ?_
      refine g_getR C (dat dt_X10_sat 25 rfl) fl_10_123 kd_32 rfl ltk_32 ?_
      refine g_iload_n C (dat dt_X10_sat 26 rfl) 2 rfl ?_
      obtain ⟨v9, q10, hrun⟩ := bd hrun
      refine g_cVi [.int x2] C (dat dt_X10_sat 27 rfl) ml_10_139 (w_X6_has 33 x2 v5.2 v9 room_33 q10) kd_33 ltk_33 rfl rfl cat0 (by decide) c00 ?_
      refine g_if_ne 65 C (dat dt_X10_sat 28 rfl) (by decide) (fun c11 => ?_) (fun c11 => ?_)
      · rw [if_pos (b2i_nz c11)] at hrun
        refine g_aload_n C (dat dt_X10_sat 31 rfl) 0 rfl ?_
        refine g_getR C (dat dt_X10_sat 32 rfl) fl_10_111 kd_0 rfl ltk_0 ?_
        refine g_aload_n C (dat dt_X10_sat 33 rfl) 0 rfl ?_
        refine g_getR C (dat dt_X10_sat 34 rfl) fl_10_75 kd_0 rfl ltk_0 ?_
        refine g_iload_n C (dat dt_X10_sat 35 rfl) 1 rfl ?_
        obtain ⟨v12, q13, hrun⟩ := bd hrun
        refine g_cVi [.ref 32, .int x1] C (dat dt_X10_sat 36 rfl) ml_10_308 (w_X7_findSat 32 x1 v5.2 v12 house_32 q13) kd_68 ltk_68 rfl rfl cat0 (by decide) c00 ?_
        refine g_istore_n (lv' := [(0, .ref 0), (1, .int x1), (2, .int x2), (3, .int v12)]) C (dat dt_X10_sat 37 rfl) (by decide) rfl ?_
        refine g_iload_n C (dat dt_X10_sat 38 rfl) 3 rfl ?_
        refine g_iconst C (dat dt_X10_sat 39 rfl) ic_m1 ?_
        refine g_ic_ne 87 C (dat dt_X10_sat 40 rfl) (by decide) (fun c14 => ?_) (fun c14 => ?_)
        · rw [if_neg c14] at hrun
          refine g_aload_n C (dat dt_X10_sat 43 rfl) 0 rfl ?_
          refine g_getR C (dat dt_X10_sat 44 rfl) fl_10_111 kd_0 rfl ltk_0 ?_
          refine g_iload_n C (dat dt_X10_sat 45 rfl) 3 rfl ?_
          refine g_iload_n C (dat dt_X10_sat 46 rfl) 2 rfl ?_
          obtain ⟨v15, q16, hrun⟩ := bd hrun
          refine g_cVi [.int v12, .int x2] C (dat dt_X10_sat 47 rfl) ml_10_281 (w_X7_seatIn v12 x2 v5.2 v15  q16) kd_68 ltk_68 rfl rfl cat0 (by decide) c00 ?_
          cases hrun
          exact g_iret C K (dat dt_X10_sat 48 rfl)
        · rw [if_pos c14] at hrun
          refine g_iconst C (dat dt_X10_sat 41 rfl) ic_m1 ?_
          refine g_goto 96 C (dat dt_X10_sat 42 rfl) (by decide) ?_
          cases hrun
          exact g_iret C K (dat dt_X10_sat 48 rfl)
      · rw [if_neg (b2i_z c11)] at hrun
        refine g_iconst C (dat dt_X10_sat 29 rfl) ic_m1 ?_
        cases hrun
        exact g_iret C K (dat dt_X10_sat 30 rfl)
  · rw [if_pos c7] at hrun
    refine g_aload_n C (dat dt_X10_sat 15 rfl) 0 rfl ?_
    refine g_getR C (dat dt_X10_sat 16 rfl) fl_10_111 kd_0 rfl ltk_0 ?_
    refine g_aload_n C (dat dt_X10_sat 17 rfl) 0 rfl ?_
    refine g_getR C (dat dt_X10_sat 18 rfl) fl_10_75 kd_0 rfl ltk_0 ?_
    obtain ⟨v17, q18, hrun⟩ := bd hrun
    refine g_cVi [.ref 32] C (dat dt_X10_sat 19 rfl) ml_10_304 (w_X7_countSat 32 v5.2 v17 house_32 q18) kd_68 ltk_68 rfl rfl cat0 (by decide) c00 ?_
    cases hrun
    exact g_iret C K (dat dt_X10_sat 20 rfl)
/-! SteamNations.ask(II)I -/
def dl_X10_ask : List (Nat × Instr × Nat) := [(0, .iload_n 1, 1), (1, .invokestatic 266, 3), (4, .ifCond .eq 12, 3), (7, .iload_n 2, 1), (8, .ifCond .lt 8, 3), (11, .iload_n 2, 1), (12, .iconst 1, 1), (13, .if_icmp .le 5, 3), (16, .iconst (-1), 1), (17, .ireturn, 1), (18, .aload_n 0, 1), (19, .getfield 111, 3), (22, .aload_n 0, 1), (23, .getfield 75, 3), (26, .getfield 123, 3), (29, .aload_n 0, 1), (30, .getfield 75, 3), (33, .invokevirtual 158, 3), (36, .iload_n 1, 1), (37, .aload_n 0, 1), (38, .getfield 75, 3), (41, .invokevirtual 301, 3), (44, .invokestatic 312, 3), (47, .invokevirtual 269, 3), (50, .aload_n 0, 1), (51, .getfield 111, 3), (54, .aload_n 0, 1), (55, .getfield 75, 3), (58, .invokevirtual 304, 3), (61, .ifCond .ne 5, 3), (64, .iconst (-1), 1), (65, .ireturn, 1), (66, .iconst (-1), 1), (67, .istore_n 3, 1), (68, .iconst 0, 1), (69, .istore 4, 2), (71, .iconst 0, 1), (72, .istore 5, 2), (74, .iload 5, 2), (76, .aload_n 0, 1), (77, .getfield 75, 3), (80, .getfield 123, 3), (83, .getfield 126, 3), (86, .if_icmp .ge 44, 3), (89, .aload_n 0, 1), (90, .getfield 111, 3), (93, .aload_n 0, 1), (94, .getfield 75, 3), (97, .iload 5, 2), (99, .iload_n 1, 1), (100, .invokevirtual 317, 3), (103, .istore 6, 2), (105, .iload_n 3, 1), (106, .iconst (-1), 1), (107, .if_icmp .eq 10, 3), (110, .iload 6, 2), (112, .iload 4, 2), (114, .if_icmp .ge 10, 3), (117, .iload 5, 2), (119, .istore_n 3, 1), (120, .iload 6, 2), (122, .istore 4, 2), (124, .iinc 5 1, 3), (127, .goto (-53), 3), (130, .iload_n 3, 1), (131, .iconst (-1), 1), (132, .if_icmp .eq 7, 3), (135, .iload_n 2, 1), (136, .ifCond .ne 7, 3), (139, .iload_n 3, 1), (140, .goto 5, 3), (143, .iload 4, 2), (145, .ireturn, 1)]
set_option maxRecDepth 20000 in
theorem dt_X10_ask : ∀ q ∈ dl_X10_ask, decode prog_1_method_29_code q.1 = .ok q.2 := by decide +kernel
def kp_X10_ask_74  (x1 : Int32) (x2 : Int32) (X : Xt) (s : (Int32 × Int32 × Int32 × Hp)) : Prop := G X s.2.2.2 0 0 74 [(0, .ref 0), (1, .int x1), (2, .int x2), (3, .int s.1), (4, .int s.2.1), (5, .int s.2.2.1)] []
def ke_X10_ask_74  (x1 : Int32) (x2 : Int32) (X : Xt) (e : (Int32 × Int32 × Hp)) : Prop := G X e.2.2 0 0 130 [(2, .int x2), (3, .int e.1), (4, .int e.2.1)] []
def j_X10_ask_117_74  (x1 : Int32) (x2 : Int32) (x5 : Int32) (x6 : Int32) (h : Hp) : Option ((Int32 × Int32 × Int32 × Hp) ⊕ (Int32 × Int32 × Hp)) :=
  some (.inl (x5, x6, (x5 + (1 : Int32)), h))
set_option maxRecDepth 20000 in
theorem wj_X10_ask_117_74 {X : Xt} (C : Cx X cn_10 prog_1_method_29_code 7 (some .int) 7 0 0)    (x1 : Int32) (x2 : Int32) (x5 : Int32) (x6 : Int32) (h : Hp) (q : (Int32 × Int32 × Int32 × Hp) ⊕ (Int32 × Int32 × Hp)) (hrun : j_X10_ask_117_74  x1 x2 x5 x6 h = some q) (Ks : ∀ s, q = .inl s → kp_X10_ask_74  x1 x2 X s) (Ke : ∀ e, q = .inr e → ke_X10_ask_74  x1 x2 X e) : G X h 0 0 117 [(0, .ref 0), (1, .int x1), (2, .int x2), (5, .int x5), (6, .int x6)] [] := by
  unfold j_X10_ask_117_74 at hrun
  refine g_iload C (dat dt_X10_ask 58 rfl) 3 rfl ?_
  refine g_istore_n (lv' := [(0, .ref 0), (1, .int x1), (2, .int x2), (3, .int x5), (5, .int x5), (6, .int x6)]) C (dat dt_X10_ask 59 rfl) (by decide) rfl ?_
  refine g_iload C (dat dt_X10_ask 60 rfl) 5 rfl ?_
  refine g_istore (lv' := [(0, .ref 0), (1, .int x1), (2, .int x2), (3, .int x5), (4, .int x6), (5, .int x5), (6, .int x6)]) C (dat dt_X10_ask 61 rfl) (by decide) rfl ?_
  refine g_iinc (v := (x5 + (1 : Int32))) (lv' := [(0, .ref 0), (1, .int x1), (2, .int x2), (3, .int x5), (4, .int x6), (5, .int (x5 + (1 : Int32))), (6, .int x6)]) C (dat dt_X10_ask 62 rfl) 5 rfl (congrArg (fun z => x5 + z) ic_1) (by decide) rfl ?_
  refine g_goto 74 C (dat dt_X10_ask 63 rfl) (by decide) ?_
  refine g_sub [0, 1, 2, 3, 4, 5] (lv' := [(0, .ref 0), (1, .int x1), (2, .int x2), (3, .int x5), (4, .int x6), (5, .int (x5 + (1 : Int32)))]) rfl ?_
  cases hrun
  exact Ks (x5, x6, (x5 + (1 : Int32)), h) rfl
def b_X10_ask_74  (x1 : Int32) (x2 : Int32) (x3 : Int32) (x4 : Int32) (x5 : Int32) (h : Hp) : Option ((Int32 × Int32 × Int32 × Hp) ⊕ (Int32 × Int32 × Hp)) :=
  if (fI h 33 0) ≤ x5 then
  some (.inr ( (x3, x4, h)))
  else
  (f_X7_mostAlike 32 x5 x1 h).bind fun v18 =>
  if x3 = (-1 : Int32) then
  j_X10_ask_117_74  x1 x2 x5 v18.1 v18.2
  else
  if x4 ≤ v18.1 then
  some (.inl (x3, x4, (x5 + (1 : Int32)), v18.2))
  else
  j_X10_ask_117_74  x1 x2 x5 v18.1 v18.2
set_option maxRecDepth 20000 in
theorem wb_X10_ask_74 {X : Xt} (C : Cx X cn_10 prog_1_method_29_code 7 (some .int) 7 0 0)   (x1 : Int32) (x2 : Int32) (x3 : Int32) (x4 : Int32) (x5 : Int32) (h : Hp) (q : (Int32 × Int32 × Int32 × Hp) ⊕ (Int32 × Int32 × Hp)) (hrun : b_X10_ask_74  x1 x2 x3 x4 x5 h = some q) (Ks : ∀ s, q = .inl s → kp_X10_ask_74  x1 x2 X s) (Ke : ∀ e, q = .inr e → ke_X10_ask_74  x1 x2 X e) : kp_X10_ask_74  x1 x2 X (x3, x4, x5, h) := by
  show G X h 0 0 74 [(0, .ref 0), (1, .int x1), (2, .int x2), (3, .int x3), (4, .int x4), (5, .int x5)] []
  unfold b_X10_ask_74 at hrun
  refine g_iload C (dat dt_X10_ask 38 rfl) 5 rfl ?_
  refine g_aload_n C (dat dt_X10_ask 39 rfl) 0 rfl ?_
  refine g_getR C (dat dt_X10_ask 40 rfl) fl_10_75 kd_0 rfl ltk_0 ?_
  refine g_getR C (dat dt_X10_ask 41 rfl) fl_10_123 kd_32 rfl ltk_32 ?_
  refine g_getI C (dat dt_X10_ask 42 rfl) fl_10_126 kd_33 rfl ltk_33 ?_
  refine g_ic_ge 130 C (dat dt_X10_ask 43 rfl) (by decide) (fun c17 => ?_) (fun c17 => ?_)
  · rw [if_pos c17] at hrun
    refine g_sub [2, 3, 4] (lv' := [(2, .int x2), (3, .int x3), (4, .int x4)]) rfl ?_
    cases hrun
    exact Ke ( (x3, x4, h)) rfl
  · rw [if_neg c17] at hrun
    refine g_aload_n C (dat dt_X10_ask 44 rfl) 0 rfl ?_
    refine g_getR C (dat dt_X10_ask 45 rfl) fl_10_111 kd_0 rfl ltk_0 ?_
    refine g_aload_n C (dat dt_X10_ask 46 rfl) 0 rfl ?_
    refine g_getR C (dat dt_X10_ask 47 rfl) fl_10_75 kd_0 rfl ltk_0 ?_
    refine g_iload C (dat dt_X10_ask 48 rfl) 5 rfl ?_
    refine g_iload_n C (dat dt_X10_ask 49 rfl) 1 rfl ?_
    obtain ⟨v18, q19, hrun⟩ := bd hrun
    refine g_cVi [.ref 32, .int x5, .int x1] C (dat dt_X10_ask 50 rfl) ml_10_317 (w_X7_mostAlike 32 x5 x1 h v18 house_32 q19) kd_68 ltk_68 rfl rfl cat0 (by decide) c00 ?_
    refine g_istore (lv' := [(0, .ref 0), (1, .int x1), (2, .int x2), (3, .int x3), (4, .int x4), (5, .int x5), (6, .int v18.1)]) C (dat dt_X10_ask 51 rfl) (by decide) rfl ?_
    refine g_iload_n C (dat dt_X10_ask 52 rfl) 3 rfl ?_
    refine g_iconst C (dat dt_X10_ask 53 rfl) ic_m1 ?_
    refine g_ic_eq 117 C (dat dt_X10_ask 54 rfl) (by decide) (fun c20 => ?_) (fun c20 => ?_)
    · rw [if_pos c20] at hrun
      refine g_sub [0, 1, 2, 5, 6] (lv' := [(0, .ref 0), (1, .int x1), (2, .int x2), (5, .int x5), (6, .int v18.1)]) rfl ?_
      exact wj_X10_ask_117_74 C    x1 x2 x5 v18.1 v18.2 _ hrun Ks Ke
    · rw [if_neg c20] at hrun
      refine g_iload C (dat dt_X10_ask 55 rfl) 6 rfl ?_
      refine g_iload C (dat dt_X10_ask 56 rfl) 4 rfl ?_
      refine g_ic_ge 124 C (dat dt_X10_ask 57 rfl) (by decide) (fun c21 => ?_) (fun c21 => ?_)
      · rw [if_pos c21] at hrun
        refine g_iinc (v := (x5 + (1 : Int32))) (lv' := [(0, .ref 0), (1, .int x1), (2, .int x2), (3, .int x3), (4, .int x4), (5, .int (x5 + (1 : Int32))), (6, .int v18.1)]) C (dat dt_X10_ask 62 rfl) 5 rfl (congrArg (fun z => x5 + z) ic_1) (by decide) rfl ?_
        refine g_goto 74 C (dat dt_X10_ask 63 rfl) (by decide) ?_
        refine g_sub [0, 1, 2, 3, 4, 5] (lv' := [(0, .ref 0), (1, .int x1), (2, .int x2), (3, .int x3), (4, .int x4), (5, .int (x5 + (1 : Int32)))]) rfl ?_
        cases hrun
        exact Ks (x3, x4, (x5 + (1 : Int32)), v18.2) rfl
      · rw [if_neg c21] at hrun
        refine g_sub [0, 1, 2, 5, 6] (lv' := [(0, .ref 0), (1, .int x1), (2, .int x2), (5, .int x5), (6, .int v18.1)]) rfl ?_
        exact wj_X10_ask_117_74 C    x1 x2 x5 v18.1 v18.2 _ hrun Ks Ke
def f_X10_ask (x1 : Int32) (x2 : Int32) (h : Hp) : Option (Int32 × Hp) :=
  (f_X10_isNearMinute x1).bind fun v1 =>
  if v1 = true then
  if x2 < 0 then
  some ((-1 : Int32), h)
  else
  if x2 ≤ (1 : Int32) then
  (f_X1_inForce 32 h).bind fun v6 =>
  (f_X1_latestSight 32 h).bind fun v8 =>
  (f_J9_max_7cf53 x1 v8).bind fun v10 =>
  (f_X7_lookAhead 33 v6 v10 h).bind fun v12 =>
  (f_X7_countSat 32 v12.2).bind fun v14 =>
  if v14 = 0 then
  some ((-1 : Int32), v12.2)
  else
  (lp (fun s => b_X10_ask_74  x1 x2 s.1 s.2.1 s.2.2.1 s.2.2.2) FU ((-1 : Int32), (0 : Int32), (0 : Int32), v12.2)).bind fun e22 =>
  if e22.1 = (-1 : Int32) then
  some (e22.1, e22.2.2)
  else
  if x2 = 0 then
  some (e22.1, e22.2.2)
  else
  some (e22.2.1, e22.2.2)
  else
  some ((-1 : Int32), h)
  else
  some ((-1 : Int32), h)
set_option maxRecDepth 20000 in
theorem w_X10_ask (x1 : Int32) (x2 : Int32) (h : Hp) (q : (Int32 × Hp))  (hrun : f_X10_ask x1 x2 h = some q) : MetA ⟨"SteamNations", "ask", "(II)I"⟩ prog_1_method_29_code 7 (some .int) 7 0 0 [.ref 0, .int x1, .int x2] h (some (.int q.1)) q.2 := by
  refine metA_of (by decide) (Nat.le_of_ble_eq_true rfl) (fun X C K => ?_)
  have C : Cx X cn_10 prog_1_method_29_code 7 (some .int) 7 0 0 := C
  show G X h 0 0 0 [(0, .ref 0), (1, .int x1), (2, .int x2)] []
  unfold f_X10_ask at hrun
  refine g_iload_n C (dat dt_X10_ask 0 rfl) 1 rfl ?_
  obtain ⟨v1, q2, hrun⟩ := bd hrun
  refine g_cSi [.int x1] C (dat dt_X10_ask 1 rfl) ml_10_266 (w_X10_isNearMinute x1 h v1  q2) rfl rfl cat0 (by decide) c00 ?_
  refine g_if_eq 16 C (dat dt_X10_ask 2 rfl) (by decide) (fun c3 => ?_) (fun c3 => ?_)
  · rw [if_neg (b2i_z c3)] at hrun
    refine g_iconst C (dat dt_X10_ask 8 rfl) ic_m1 ?_
    cases hrun
    exact g_iret C K (dat dt_X10_ask 9 rfl)
  · rw [if_pos (b2i_nz c3)] at hrun
    refine g_iload_n C (dat dt_X10_ask 3 rfl) 2 rfl ?_
    refine g_if_lt 16 C (dat dt_X10_ask 4 rfl) (by decide) (fun c4 => ?_) (fun c4 => ?_)
    · rw [if_pos c4] at hrun
      refine g_iconst C (dat dt_X10_ask 8 rfl) ic_m1 ?_
      cases hrun
      exact g_iret C K (dat dt_X10_ask 9 rfl)
    · rw [if_neg c4] at hrun
      refine g_iload_n C (dat dt_X10_ask 5 rfl) 2 rfl ?_
      refine g_iconst C (dat dt_X10_ask 6 rfl) ic_1 ?_
      refine g_ic_le 18 C (dat dt_X10_ask 7 rfl) (by decide) (fun c5 => ?_) (fun c5 => ?_)
      · rw [if_pos c5] at hrun
        refine g_aload_n C (dat dt_X10_ask 10 rfl) 0 rfl ?_
        refine g_getR C (dat dt_X10_ask 11 rfl) fl_10_111 kd_0 rfl ltk_0 ?_
        refine g_aload_n C (dat dt_X10_ask 12 rfl) 0 rfl ?_
        refine g_getR C (dat dt_X10_ask 13 rfl) fl_10_75 kd_0 rfl ltk_0 ?_
        refine g_getR C (dat dt_X10_ask 14 rfl) fl_10_123 kd_32 rfl ltk_32 ?_
        refine g_aload_n C (dat dt_X10_ask 15 rfl) 0 rfl ?_
        refine g_getR C (dat dt_X10_ask 16 rfl) fl_10_75 kd_0 rfl ltk_0 ?_
        obtain ⟨v6, q7, hrun⟩ := bd hrun
        refine g_cVr [] C (dat dt_X10_ask 17 rfl) ml_10_158 (w_X1_inForce 32 h v6 house_32 q7) kd_32 ltk_32 rfl rfl (Nat.le_of_ble_eq_true rfl) (by decide) c00 ?_
        refine g_iload_n C (dat dt_X10_ask 18 rfl) 1 rfl ?_
        refine g_aload_n C (dat dt_X10_ask 19 rfl) 0 rfl ?_
        refine g_getR C (dat dt_X10_ask 20 rfl) fl_10_75 kd_0 rfl ltk_0 ?_
        obtain ⟨v8, q9, hrun⟩ := bd hrun
        refine g_cVi [] C (dat dt_X10_ask 21 rfl) ml_10_301 (w_X1_latestSight 32 h v8 house_32 q9) kd_32 ltk_32 rfl rfl (Nat.le_of_ble_eq_true rfl) (by decide) c00 ?_
        obtain ⟨v10, q11, hrun⟩ := bd hrun
        refine g_cSi [.int x1, .int v8] C (dat dt_X10_ask 22 rfl) ml_10_312 (w_J9_max_7cf53 x1 v8 h v10  q11) rfl rfl (Nat.le_of_ble_eq_true rfl) (by decide) c00 ?_
        obtain ⟨v12, q13, hrun⟩ := bd hrun
        refine g_cVv [.ref 33, .ref v6, .int v10] C (dat dt_X10_ask 23 rfl) ml_10_269 (w_X7_lookAhead 33 v6 v10 h v12 room_33 q13) kd_68 ltk_68 rfl rfl cat0 (by decide) c00 ?_
        refine g_aload_n C (dat dt_X10_ask 24 rfl) 0 rfl ?_
        refine g_getR C (dat dt_X10_ask 25 rfl) fl_10_111 kd_0 rfl ltk_0 ?_
        refine g_aload_n C (dat dt_X10_ask 26 rfl) 0 rfl ?_
        refine g_getR C (dat dt_X10_ask 27 rfl) fl_10_75 kd_0 rfl ltk_0 ?_
        obtain ⟨v14, q15, hrun⟩ := bd hrun
        refine g_cVi [.ref 32] C (dat dt_X10_ask 28 rfl) ml_10_304 (w_X7_countSat 32 v12.2 v14 house_32 q15) kd_68 ltk_68 rfl rfl cat0 (by decide) c00 ?_
        refine g_if_ne 66 C (dat dt_X10_ask 29 rfl) (by decide) (fun c16 => ?_) (fun c16 => ?_)
        · rw [if_neg c16] at hrun
          refine g_iconst C (dat dt_X10_ask 32 rfl) ic_m1 ?_
          refine g_istore_n (lv' := [(0, .ref 0), (1, .int x1), (2, .int x2), (3, .int (-1 : Int32))]) C (dat dt_X10_ask 33 rfl) (by decide) rfl ?_
          refine g_iconst C (dat dt_X10_ask 34 rfl) ic_0 ?_
          refine g_istore (lv' := [(0, .ref 0), (1, .int x1), (2, .int x2), (3, .int (-1 : Int32)), (4, .int (0 : Int32))]) C (dat dt_X10_ask 35 rfl) (by decide) rfl ?_
          refine g_iconst C (dat dt_X10_ask 36 rfl) ic_0 ?_
          refine g_istore (lv' := [(0, .ref 0), (1, .int x1), (2, .int x2), (3, .int (-1 : Int32)), (4, .int (0 : Int32)), (5, .int (0 : Int32))]) C (dat dt_X10_ask 37 rfl) (by decide) rfl ?_
          obtain ⟨e22, q23, hrun⟩ := bd hrun
          refine lp_ind (P := fun s => kp_X10_ask_74  x1 x2 X s) (K := fun e => ke_X10_ask_74  x1 x2 X e) (fun s q hb Ks Ke => wb_X10_ask_74 C   x1 x2 s.1 s.2.1 s.2.2.1 s.2.2.2 q hb Ks Ke) FU ((-1 : Int32), (0 : Int32), (0 : Int32), v12.2) e22 q23 ?_
          show G X e22.2.2 0 0 130 [(2, .int x2), (3, .int e22.1), (4, .int e22.2.1)] []
          refine g_iload_n C (dat dt_X10_ask 64 rfl) 1 rfl ?_
          refine g_iconst C (dat dt_X10_ask 65 rfl) ic_m1 ?_
          refine g_ic_eq 139 C (dat dt_X10_ask 66 rfl) (by decide) (fun c24 => ?_) (fun c24 => ?_)
          · rw [if_pos c24] at hrun
            refine g_iload_n C (dat dt_X10_ask 69 rfl) 1 rfl ?_
            refine g_goto 145 C (dat dt_X10_ask 70 rfl) (by decide) ?_
            cases hrun
            exact g_iret C K (dat dt_X10_ask 72 rfl)
          · rw [if_neg c24] at hrun
            refine g_iload_n C (dat dt_X10_ask 67 rfl) 0 rfl ?_
            refine g_if_ne 143 C (dat dt_X10_ask 68 rfl) (by decide) (fun c25 => ?_) (fun c25 => ?_)
            · rw [if_neg c25] at hrun
              refine g_iload C (dat dt_X10_ask 71 rfl) 2 rfl ?_
              cases hrun
              exact g_iret C K (dat dt_X10_ask 72 rfl)
            · rw [if_pos c25] at hrun
              refine g_iload_n C (dat dt_X10_ask 69 rfl) 1 rfl ?_
              refine g_goto 145 C (dat dt_X10_ask 70 rfl) (by decide) ?_
              cases hrun
              exact g_iret C K (dat dt_X10_ask 72 rfl)
        · rw [if_pos c16] at hrun
          refine g_iconst C (dat dt_X10_ask 30 rfl) ic_m1 ?_
          cases hrun
          exact g_iret C K (dat dt_X10_ask 31 rfl)
      · rw [if_neg c5] at hrun
        refine g_iconst C (dat dt_X10_ask 8 rfl) ic_m1 ?_
        cases hrun
        exact g_iret C K (dat dt_X10_ask 9 rfl)
/-! SteamNations.treaty(II)I -/
def dl_X10_treaty : List (Nat × Instr × Nat) := [(0, .iload_n 1, 1), (1, .iconst 1, 1), (2, .if_icmp .lt 18, 3), (5, .iload_n 1, 1), (6, .bipush 99, 2), (8, .if_icmp .gt 12, 3), (11, .iload_n 2, 1), (12, .ifCond .lt 8, 3), (15, .iload_n 2, 1), (16, .iconst 1, 1), (17, .if_icmp .le 5, 3), (20, .iconst (-1), 1), (21, .ireturn, 1), (22, .iconst 0, 1), (23, .istore_n 3, 1), (24, .iconst 0, 1), (25, .istore 4, 2), (27, .iload 4, 2), (29, .iconst 1, 1), (30, .aload_n 0, 1), (31, .getfield 75, 3), (34, .getfield 123, 3), (37, .getfield 126, 3), (40, .ishl, 1), (41, .if_icmp .ge 40, 3), (44, .iload 4, 2), (46, .invokestatic 321, 3), (49, .iload_n 3, 1), (50, .invokestatic 321, 3), (53, .if_icmp .le 22, 3), (56, .aload_n 0, 1), (57, .getfield 75, 3), (60, .getfield 123, 3), (63, .iload 4, 2), (65, .iload_n 1, 1), (66, .invokevirtual 326, 3), (69, .ifCond .eq 6, 3), (72, .iload 4, 2), (74, .istore_n 3, 1), (75, .iinc 4 1, 3), (78, .goto (-51), 3), (81, .iload_n 2, 1), (82, .ifCond .ne 10, 3), (85, .iload_n 3, 1), (86, .invokestatic 321, 3), (89, .goto 4, 3), (92, .iload_n 3, 1), (93, .ireturn, 1)]
set_option maxRecDepth 20000 in
theorem dt_X10_treaty : ∀ q ∈ dl_X10_treaty, decode prog_1_method_30_code q.1 = .ok q.2 := by decide +kernel
def kp_X10_treaty_27  (x1 : Int32) (x2 : Int32) (h : Hp) (X : Xt) (s : (Int32 × Int32)) : Prop := G X h 0 0 27 [(0, .ref 0), (1, .int x1), (2, .int x2), (3, .int s.1), (4, .int s.2)] []
def ke_X10_treaty_27  (x1 : Int32) (x2 : Int32) (h : Hp) (X : Xt) (e : Int32) : Prop := G X h 0 0 81 [(2, .int x2), (3, .int e)] []
def b_X10_treaty_27  (x1 : Int32) (x2 : Int32) (x3 : Int32) (x4 : Int32) (h : Hp) : Option ((Int32 × Int32) ⊕ Int32) :=
  if ((1 : Int32) <<< ((fI h 33 0) &&& 31)) ≤ x4 then
  some (.inr ( x3))
  else
  (f_J6_bitCount_0f7a4 x4).bind fun v6 =>
  (f_J6_bitCount_0f7a4 x3).bind fun v8 =>
  if v6 ≤ v8 then
  some (.inl (x3, (x4 + (1 : Int32))))
  else
  (f_X6_isTreaty 33 x4 x1 h).bind fun v11 =>
  if v11 = true then
  some (.inl (x4, (x4 + (1 : Int32))))
  else
  some (.inl (x3, (x4 + (1 : Int32))))
set_option maxRecDepth 20000 in
theorem wb_X10_treaty_27 {X : Xt} (C : Cx X cn_10 prog_1_method_30_code 5 (some .int) 4 0 0)   (x1 : Int32) (x2 : Int32) (x3 : Int32) (x4 : Int32) (h : Hp) (q : (Int32 × Int32) ⊕ Int32) (hrun : b_X10_treaty_27  x1 x2 x3 x4 h = some q) (Ks : ∀ s, q = .inl s → kp_X10_treaty_27  x1 x2 h X s) (Ke : ∀ e, q = .inr e → ke_X10_treaty_27  x1 x2 h X e) : kp_X10_treaty_27  x1 x2 h X (x3, x4) := by
  show G X h 0 0 27 [(0, .ref 0), (1, .int x1), (2, .int x2), (3, .int x3), (4, .int x4)] []
  unfold b_X10_treaty_27 at hrun
  refine g_iload C (dat dt_X10_treaty 17 rfl) 4 rfl ?_
  refine g_iconst C (dat dt_X10_treaty 18 rfl) ic_1 ?_
  refine g_aload_n C (dat dt_X10_treaty 19 rfl) 0 rfl ?_
  refine g_getR C (dat dt_X10_treaty 20 rfl) fl_10_75 kd_0 rfl ltk_0 ?_
  refine g_getR C (dat dt_X10_treaty 21 rfl) fl_10_123 kd_32 rfl ltk_32 ?_
  refine g_getI C (dat dt_X10_treaty 22 rfl) fl_10_126 kd_33 rfl ltk_33 ?_
  refine g_ishl C (dat dt_X10_treaty 23 rfl) ?_
  refine g_ic_ge 81 C (dat dt_X10_treaty 24 rfl) (by decide) (fun c5 => ?_) (fun c5 => ?_)
  · rw [if_pos c5] at hrun
    refine g_sub [2, 3] (lv' := [(2, .int x2), (3, .int x3)]) rfl ?_
    cases hrun
    exact Ke ( x3) rfl
  · rw [if_neg c5] at hrun
    refine g_iload C (dat dt_X10_treaty 25 rfl) 4 rfl ?_
    obtain ⟨v6, q7, hrun⟩ := bd hrun
    refine g_cSi [.int x4] C (dat dt_X10_treaty 26 rfl) ml_10_321 (w_J6_bitCount_0f7a4 x4 h v6  q7) rfl rfl cat0 (by decide) c00 ?_
    refine g_iload_n C (dat dt_X10_treaty 27 rfl) 3 rfl ?_
    obtain ⟨v8, q9, hrun⟩ := bd hrun
    refine g_cSi [.int x3] C (dat dt_X10_treaty 28 rfl) ml_10_321 (w_J6_bitCount_0f7a4 x3 h v8  q9) rfl rfl (Nat.le_of_ble_eq_true rfl) (by decide) c00 ?_
    refine g_ic_le 75 C (dat dt_X10_treaty 29 rfl) (by decide) (fun c10 => ?_) (fun c10 => ?_)
    · rw [if_pos c10] at hrun
      refine g_iinc (v := (x4 + (1 : Int32))) (lv' := [(0, .ref 0), (1, .int x1), (2, .int x2), (3, .int x3), (4, .int (x4 + (1 : Int32)))]) C (dat dt_X10_treaty 39 rfl) 4 rfl (congrArg (fun z => x4 + z) ic_1) (by decide) rfl ?_
      refine g_goto 27 C (dat dt_X10_treaty 40 rfl) (by decide) ?_
      cases hrun
      exact Ks (x3, (x4 + (1 : Int32))) rfl
    · rw [if_neg c10] at hrun
      refine g_aload_n C (dat dt_X10_treaty 30 rfl) 0 rfl ?_
      refine g_getR C (dat dt_X10_treaty 31 rfl) fl_10_75 kd_0 rfl ltk_0 ?_
      refine g_getR C (dat dt_X10_treaty 32 rfl) fl_10_123 kd_32 rfl ltk_32 ?_
      refine g_iload C (dat dt_X10_treaty 33 rfl) 4 rfl ?_
      refine g_iload_n C (dat dt_X10_treaty 34 rfl) 1 rfl ?_
      obtain ⟨v11, q12, hrun⟩ := bd hrun
      refine g_cVi [.int x4, .int x1] C (dat dt_X10_treaty 35 rfl) ml_10_326 (w_X6_isTreaty 33 x4 x1 h v11 room_33 q12) kd_33 ltk_33 rfl rfl cat0 (by decide) c00 ?_
      refine g_if_eq 75 C (dat dt_X10_treaty 36 rfl) (by decide) (fun c13 => ?_) (fun c13 => ?_)
      · rw [if_neg (b2i_z c13)] at hrun
        refine g_iinc (v := (x4 + (1 : Int32))) (lv' := [(0, .ref 0), (1, .int x1), (2, .int x2), (3, .int x3), (4, .int (x4 + (1 : Int32)))]) C (dat dt_X10_treaty 39 rfl) 4 rfl (congrArg (fun z => x4 + z) ic_1) (by decide) rfl ?_
        refine g_goto 27 C (dat dt_X10_treaty 40 rfl) (by decide) ?_
        cases hrun
        exact Ks (x3, (x4 + (1 : Int32))) rfl
      · rw [if_pos (b2i_nz c13)] at hrun
        refine g_iload C (dat dt_X10_treaty 37 rfl) 4 rfl ?_
        refine g_istore_n (lv' := [(0, .ref 0), (1, .int x1), (2, .int x2), (3, .int x4), (4, .int x4)]) C (dat dt_X10_treaty 38 rfl) (by decide) rfl ?_
        refine g_iinc (v := (x4 + (1 : Int32))) (lv' := [(0, .ref 0), (1, .int x1), (2, .int x2), (3, .int x4), (4, .int (x4 + (1 : Int32)))]) C (dat dt_X10_treaty 39 rfl) 4 rfl (congrArg (fun z => x4 + z) ic_1) (by decide) rfl ?_
        refine g_goto 27 C (dat dt_X10_treaty 40 rfl) (by decide) ?_
        cases hrun
        exact Ks (x4, (x4 + (1 : Int32))) rfl
def f_X10_treaty (x1 : Int32) (x2 : Int32) (h : Hp) : Option Int32 :=
  if x1 < (1 : Int32) then
  some (-1 : Int32)
  else
  if (99 : Int32) < x1 then
  some (-1 : Int32)
  else
  if x2 < 0 then
  some (-1 : Int32)
  else
  if x2 ≤ (1 : Int32) then
  (lp (fun s => b_X10_treaty_27  x1 x2 s.1 s.2 h) FU ((0 : Int32), (0 : Int32))).bind fun e14 =>
  if x2 = 0 then
  (f_J6_bitCount_0f7a4 e14).bind fun v17 =>
  some v17
  else
  some e14
  else
  some (-1 : Int32)
set_option maxRecDepth 20000 in
theorem w_X10_treaty (x1 : Int32) (x2 : Int32) (h : Hp) (q : Int32)  (hrun : f_X10_treaty x1 x2 h = some q) : MetA ⟨"SteamNations", "treaty", "(II)I"⟩ prog_1_method_30_code 5 (some .int) 4 0 0 [.ref 0, .int x1, .int x2] h (some (.int q)) h := by
  refine metA_of (by decide) (Nat.le_of_ble_eq_true rfl) (fun X C K => ?_)
  have C : Cx X cn_10 prog_1_method_30_code 5 (some .int) 4 0 0 := C
  show G X h 0 0 0 [(0, .ref 0), (1, .int x1), (2, .int x2)] []
  unfold f_X10_treaty at hrun
  refine g_iload_n C (dat dt_X10_treaty 0 rfl) 1 rfl ?_
  refine g_iconst C (dat dt_X10_treaty 1 rfl) ic_1 ?_
  refine g_ic_lt 20 C (dat dt_X10_treaty 2 rfl) (by decide) (fun c1 => ?_) (fun c1 => ?_)
  · rw [if_pos c1] at hrun
    refine g_iconst C (dat dt_X10_treaty 11 rfl) ic_m1 ?_
    cases hrun
    exact g_iret C K (dat dt_X10_treaty 12 rfl)
  · rw [if_neg c1] at hrun
    refine g_iload_n C (dat dt_X10_treaty 3 rfl) 1 rfl ?_
    refine g_bipush C (dat dt_X10_treaty 4 rfl) bp_99 ?_
    refine g_ic_gt 20 C (dat dt_X10_treaty 5 rfl) (by decide) (fun c2 => ?_) (fun c2 => ?_)
    · rw [if_pos c2] at hrun
      refine g_iconst C (dat dt_X10_treaty 11 rfl) ic_m1 ?_
      cases hrun
      exact g_iret C K (dat dt_X10_treaty 12 rfl)
    · rw [if_neg c2] at hrun
      refine g_iload_n C (dat dt_X10_treaty 6 rfl) 2 rfl ?_
      refine g_if_lt 20 C (dat dt_X10_treaty 7 rfl) (by decide) (fun c3 => ?_) (fun c3 => ?_)
      · rw [if_pos c3] at hrun
        refine g_iconst C (dat dt_X10_treaty 11 rfl) ic_m1 ?_
        cases hrun
        exact g_iret C K (dat dt_X10_treaty 12 rfl)
      · rw [if_neg c3] at hrun
        refine g_iload_n C (dat dt_X10_treaty 8 rfl) 2 rfl ?_
        refine g_iconst C (dat dt_X10_treaty 9 rfl) ic_1 ?_
        refine g_ic_le 22 C (dat dt_X10_treaty 10 rfl) (by decide) (fun c4 => ?_) (fun c4 => ?_)
        · rw [if_pos c4] at hrun
          refine g_iconst C (dat dt_X10_treaty 13 rfl) ic_0 ?_
          refine g_istore_n (lv' := [(0, .ref 0), (1, .int x1), (2, .int x2), (3, .int (0 : Int32))]) C (dat dt_X10_treaty 14 rfl) (by decide) rfl ?_
          refine g_iconst C (dat dt_X10_treaty 15 rfl) ic_0 ?_
          refine g_istore (lv' := [(0, .ref 0), (1, .int x1), (2, .int x2), (3, .int (0 : Int32)), (4, .int (0 : Int32))]) C (dat dt_X10_treaty 16 rfl) (by decide) rfl ?_
          obtain ⟨e14, q15, hrun⟩ := bd hrun
          refine lp_ind (P := fun s => kp_X10_treaty_27  x1 x2 h X s) (K := fun e => ke_X10_treaty_27  x1 x2 h X e) (fun s q hb Ks Ke => wb_X10_treaty_27 C   x1 x2 s.1 s.2 h q hb Ks Ke) FU ((0 : Int32), (0 : Int32)) e14 q15 ?_
          show G X h 0 0 81 [(2, .int x2), (3, .int e14)] []
          refine g_iload_n C (dat dt_X10_treaty 41 rfl) 0 rfl ?_
          refine g_if_ne 92 C (dat dt_X10_treaty 42 rfl) (by decide) (fun c16 => ?_) (fun c16 => ?_)
          · rw [if_neg c16] at hrun
            refine g_iload_n C (dat dt_X10_treaty 46 rfl) 1 rfl ?_
            cases hrun
            exact g_iret C K (dat dt_X10_treaty 47 rfl)
          · rw [if_pos c16] at hrun
            refine g_iload_n C (dat dt_X10_treaty 43 rfl) 1 rfl ?_
            obtain ⟨v17, q18, hrun⟩ := bd hrun
            refine g_cSi [.int e14] C (dat dt_X10_treaty 44 rfl) ml_10_321 (w_J6_bitCount_0f7a4 e14 h v17  q18) rfl rfl cat0 (by decide) c00 ?_
            refine g_goto 93 C (dat dt_X10_treaty 45 rfl) (by decide) ?_
            cases hrun
            exact g_iret C K (dat dt_X10_treaty 47 rfl)
        · rw [if_neg c4] at hrun
          refine g_iconst C (dat dt_X10_treaty 11 rfl) ic_m1 ?_
          cases hrun
          exact g_iret C K (dat dt_X10_treaty 12 rfl)
/-! SteamNations.spreadDrops(LSteamNations$Room;)V -/
def dl_X10_spreadDrops : List (Nat × Instr × Nat) := [(0, .aload_n 0, 1), (1, .getfield 47, 3), (4, .iconst 0, 1), (5, .aload_n 0, 1), (6, .getfield 50, 3), (9, .iconst 0, 1), (10, .bipush 9, 2), (12, .invokestatic 380, 3), (15, .iconst 0, 1), (16, .istore_n 2, 1), (17, .iload_n 2, 1), (18, .bipush 9, 2), (20, .if_icmp .ge 79, 3), (23, .aload_n 0, 1), (24, .getfield 50, 3), (27, .iload_n 2, 1), (28, .iaload, 1), (29, .bipush 10, 2), (31, .idiv, 1), (32, .istore_n 3, 1), (33, .iconst 0, 1), (34, .istore 4, 2), (36, .iload 4, 2), (38, .bipush 9, 2), (40, .if_icmp .ge 53, 3), (43, .iload_n 3, 1), (44, .ifCond .le 43, 3), (47, .iload_n 2, 1), (48, .iload 4, 2), (50, .invokestatic 173, 3), (53, .ifCond .eq 34, 3), (56, .aload_n 1, 1), (57, .iload 4, 2), (59, .invokevirtual 170, 3), (62, .iconst (-1), 1), (63, .if_icmp .eq 24, 3), (66, .aload_n 0, 1), (67, .getfield 47, 3), (70, .iload_n 2, 1), (71, .dup2, 1), (72, .iaload, 1), (73, .iload_n 3, 1), (74, .isub, 1), (75, .iastore, 1), (76, .aload_n 0, 1), (77, .getfield 47, 3), (80, .iload 4, 2), (82, .dup2, 1), (83, .iaload, 1), (84, .iload_n 3, 1), (85, .iadd, 1), (86, .iastore, 1), (87, .iinc 4 1, 3), (90, .goto (-54), 3), (93, .iinc 2 1, 3), (96, .goto (-79), 3), (99, .return_, 1)]
set_option maxRecDepth 20000 in
theorem dt_X10_spreadDrops : ∀ q ∈ dl_X10_spreadDrops, decode prog_1_method_46_code q.1 = .ok q.2 := by decide +kernel
def kp_X10_spreadDrops_17 (a1 : Nat)  (X : Xt) (s : (Int32 × Hp)) : Prop := G X s.2 0 0 17 [(0, .ref 0), (1, .ref a1), (2, .int s.1)] []
def ke_X10_spreadDrops_17 (a1 : Nat)  (X : Xt) (e : Hp) : Prop := G X e 0 0 99 [] []
def kp_X10_spreadDrops_36_17 (a1 : Nat) (x2 : Int32) (x3 : Int32) (X : Xt) (s : (Int32 × Hp)) : Prop := G X s.2 0 0 36 [(0, .ref 0), (1, .ref a1), (2, .int x2), (3, .int x3), (4, .int s.1)] []
def ke_X10_spreadDrops_36_17 (a1 : Nat) (x2 : Int32) (x3 : Int32) (X : Xt) (e : Hp) : Prop := G X e 0 0 93 [(0, .ref 0), (1, .ref a1), (2, .int x2)] []
def b_X10_spreadDrops_36_17 (a1 : Nat) (x2 : Int32) (x3 : Int32) (x4 : Int32) (h : Hp) : Option ((Int32 × Hp) ⊕ Hp) :=
  if (9 : Int32) ≤ x4 then
  some (.inr ( h))
  else
  if x3 ≤ 0 then
  some (.inl ((x4 + (1 : Int32)), h))
  else
  (f_X10_areBeside x2 x4).bind fun v8 =>
  if v8 = true then
  (f_X6_whoAt a1 x4 h).bind fun v11 =>
  if v11 = (-1 : Int32) then
  some (.inl ((x4 + (1 : Int32)), h))
  else
  (inb x2 9).bind fun j14 =>
  (inb x2 9).bind fun j16 =>
  (inb x4 9).bind fun j18 =>
  (inb x4 9).bind fun j20 =>
  some (.inl ((x4 + (1 : Int32)), (sA (sA h 22 j16 ((aI h 22 j14) - x3)) 22 j20 ((aI (sA h 22 j16 ((aI h 22 j14) - x3)) 22 j18) + x3))))
  else
  some (.inl ((x4 + (1 : Int32)), h))
set_option maxRecDepth 20000 in
theorem wb_X10_spreadDrops_36_17 {X : Xt} (C : Cx X cn_10 prog_1_method_46_code 5 none 3 0 0) (a1 : Nat) (Ha1 : IsRoom a1) (x2 : Int32) (x3 : Int32) (x4 : Int32) (h : Hp) (q : (Int32 × Hp) ⊕ Hp) (hrun : b_X10_spreadDrops_36_17 a1 x2 x3 x4 h = some q) (Ks : ∀ s, q = .inl s → kp_X10_spreadDrops_36_17 a1 x2 x3 X s) (Ke : ∀ e, q = .inr e → ke_X10_spreadDrops_36_17 a1 x2 x3 X e) : kp_X10_spreadDrops_36_17 a1 x2 x3 X (x4, h) := by
  show G X h 0 0 36 [(0, .ref 0), (1, .ref a1), (2, .int x2), (3, .int x3), (4, .int x4)] []
  unfold b_X10_spreadDrops_36_17 at hrun
  refine g_iload C (dat dt_X10_spreadDrops 22 rfl) 4 rfl ?_
  refine g_bipush C (dat dt_X10_spreadDrops 23 rfl) bp_9 ?_
  refine g_ic_ge 93 C (dat dt_X10_spreadDrops 24 rfl) (by decide) (fun c6 => ?_) (fun c6 => ?_)
  · rw [if_pos c6] at hrun
    refine g_sub [0, 1, 2] (lv' := [(0, .ref 0), (1, .ref a1), (2, .int x2)]) rfl ?_
    cases hrun
    exact Ke ( h) rfl
  · rw [if_neg c6] at hrun
    refine g_iload_n C (dat dt_X10_spreadDrops 25 rfl) 3 rfl ?_
    refine g_if_le 87 C (dat dt_X10_spreadDrops 26 rfl) (by decide) (fun c7 => ?_) (fun c7 => ?_)
    · rw [if_pos c7] at hrun
      refine g_iinc (v := (x4 + (1 : Int32))) (lv' := [(0, .ref 0), (1, .ref a1), (2, .int x2), (3, .int x3), (4, .int (x4 + (1 : Int32)))]) C (dat dt_X10_spreadDrops 52 rfl) 4 rfl (congrArg (fun z => x4 + z) ic_1) (by decide) rfl ?_
      refine g_goto 36 C (dat dt_X10_spreadDrops 53 rfl) (by decide) ?_
      cases hrun
      exact Ks ((x4 + (1 : Int32)), h) rfl
    · rw [if_neg c7] at hrun
      refine g_iload_n C (dat dt_X10_spreadDrops 27 rfl) 2 rfl ?_
      refine g_iload C (dat dt_X10_spreadDrops 28 rfl) 4 rfl ?_
      obtain ⟨v8, q9, hrun⟩ := bd hrun
      refine g_cSi [.int x2, .int x4] C (dat dt_X10_spreadDrops 29 rfl) ml_10_173 (w_X10_areBeside x2 x4 h v8  q9) rfl rfl cat0 (by decide) c00 ?_
      refine g_if_eq 87 C (dat dt_X10_spreadDrops 30 rfl) (by decide) (fun c10 => ?_) (fun c10 => ?_)
      · rw [if_neg (b2i_z c10)] at hrun
        refine g_iinc (v := (x4 + (1 : Int32))) (lv' := [(0, .ref 0), (1, .ref a1), (2, .int x2), (3, .int x3), (4, .int (x4 + (1 : Int32)))]) C (dat dt_X10_spreadDrops 52 rfl) 4 rfl (congrArg (fun z => x4 + z) ic_1) (by decide) rfl ?_
        refine g_goto 36 C (dat dt_X10_spreadDrops 53 rfl) (by decide) ?_
        cases hrun
        exact Ks ((x4 + (1 : Int32)), h) rfl
      · rw [if_pos (b2i_nz c10)] at hrun
        refine g_aload_n C (dat dt_X10_spreadDrops 31 rfl) 1 rfl ?_
        refine g_iload C (dat dt_X10_spreadDrops 32 rfl) 4 rfl ?_
        obtain ⟨v11, q12, hrun⟩ := bd hrun
        refine g_cVi [.int x4] C (dat dt_X10_spreadDrops 33 rfl) ml_10_170 (w_X6_whoAt a1 x4 h v11 Ha1 q12) Ha1.1 (rb0 Ha1) rfl rfl cat0 (by decide) c00 ?_
        refine g_iconst C (dat dt_X10_spreadDrops 34 rfl) ic_m1 ?_
        refine g_ic_eq 87 C (dat dt_X10_spreadDrops 35 rfl) (by decide) (fun c13 => ?_) (fun c13 => ?_)
        · rw [if_pos c13] at hrun
          refine g_iinc (v := (x4 + (1 : Int32))) (lv' := [(0, .ref 0), (1, .ref a1), (2, .int x2), (3, .int x3), (4, .int (x4 + (1 : Int32)))]) C (dat dt_X10_spreadDrops 52 rfl) 4 rfl (congrArg (fun z => x4 + z) ic_1) (by decide) rfl ?_
          refine g_goto 36 C (dat dt_X10_spreadDrops 53 rfl) (by decide) ?_
          cases hrun
          exact Ks ((x4 + (1 : Int32)), h) rfl
        · rw [if_neg c13] at hrun
          refine g_aload_n C (dat dt_X10_spreadDrops 36 rfl) 0 rfl ?_
          refine g_getR C (dat dt_X10_spreadDrops 37 rfl) fl_10_47 kd_0 rfl ltk_0 ?_
          refine g_iload_n C (dat dt_X10_spreadDrops 38 rfl) 2 rfl ?_
          refine g_dup2 C (dat dt_X10_spreadDrops 39 rfl) rfl rfl ?_
          obtain ⟨j14, q15, hrun⟩ := bd hrun
          refine g_iald C (dat dt_X10_spreadDrops 40 rfl) kd_22 ltk_22 q15 ?_
          refine g_iload_n C (dat dt_X10_spreadDrops 41 rfl) 3 rfl ?_
          refine g_isub C (dat dt_X10_spreadDrops 42 rfl) ?_
          obtain ⟨j16, q17, hrun⟩ := bd hrun
          refine g_iast (j := j16) C (dat dt_X10_spreadDrops 43 rfl) kd_22 ltk_22 q17  ?_
          refine g_aload_n C (dat dt_X10_spreadDrops 44 rfl) 0 rfl ?_
          refine g_getR C (dat dt_X10_spreadDrops 45 rfl) fl_10_47 kd_0 rfl ltk_0 ?_
          refine g_iload C (dat dt_X10_spreadDrops 46 rfl) 4 rfl ?_
          refine g_dup2 C (dat dt_X10_spreadDrops 47 rfl) rfl rfl ?_
          obtain ⟨j18, q19, hrun⟩ := bd hrun
          refine g_iald C (dat dt_X10_spreadDrops 48 rfl) kd_22 ltk_22 q19 ?_
          refine g_iload_n C (dat dt_X10_spreadDrops 49 rfl) 3 rfl ?_
          refine g_iadd C (dat dt_X10_spreadDrops 50 rfl) ?_
          obtain ⟨j20, q21, hrun⟩ := bd hrun
          refine g_iast (j := j20) C (dat dt_X10_spreadDrops 51 rfl) kd_22 ltk_22 q21  ?_
          refine g_iinc (v := (x4 + (1 : Int32))) (lv' := [(0, .ref 0), (1, .ref a1), (2, .int x2), (3, .int x3), (4, .int (x4 + (1 : Int32)))]) C (dat dt_X10_spreadDrops 52 rfl) 4 rfl (congrArg (fun z => x4 + z) ic_1) (by decide) rfl ?_
          refine g_goto 36 C (dat dt_X10_spreadDrops 53 rfl) (by decide) ?_
          cases hrun
          exact Ks ((x4 + (1 : Int32)), (sA (sA h 22 j16 ((aI h 22 j14) - x3)) 22 j20 ((aI (sA h 22 j16 ((aI h 22 j14) - x3)) 22 j18) + x3))) rfl
def b_X10_spreadDrops_17 (a1 : Nat)  (x2 : Int32) (h : Hp) : Option ((Int32 × Hp) ⊕ Hp) :=
  if (9 : Int32) ≤ x2 then
  some (.inr ( h))
  else
  (inb x2 9).bind fun j4 =>
  (lp (fun s => b_X10_spreadDrops_36_17 a1 x2 ((aI h 23 j4) / (10 : Int32)) s.1 s.2) FU ((0 : Int32), h)).bind fun e22 =>
  some (.inl ((x2 + (1 : Int32)), e22))
set_option maxRecDepth 20000 in
theorem wb_X10_spreadDrops_17 {X : Xt} (C : Cx X cn_10 prog_1_method_46_code 5 none 3 0 0) (a1 : Nat) (Ha1 : IsRoom a1)  (x2 : Int32) (h : Hp) (q : (Int32 × Hp) ⊕ Hp) (hrun : b_X10_spreadDrops_17 a1  x2 h = some q) (Ks : ∀ s, q = .inl s → kp_X10_spreadDrops_17 a1  X s) (Ke : ∀ e, q = .inr e → ke_X10_spreadDrops_17 a1  X e) : kp_X10_spreadDrops_17 a1  X (x2, h) := by
  show G X h 0 0 17 [(0, .ref 0), (1, .ref a1), (2, .int x2)] []
  unfold b_X10_spreadDrops_17 at hrun
  refine g_iload_n C (dat dt_X10_spreadDrops 10 rfl) 2 rfl ?_
  refine g_bipush C (dat dt_X10_spreadDrops 11 rfl) bp_9 ?_
  refine g_ic_ge 99 C (dat dt_X10_spreadDrops 12 rfl) (by decide) (fun c3 => ?_) (fun c3 => ?_)
  · rw [if_pos c3] at hrun
    refine g_sub [] (lv' := []) rfl ?_
    cases hrun
    exact Ke ( h) rfl
  · rw [if_neg c3] at hrun
    refine g_aload_n C (dat dt_X10_spreadDrops 13 rfl) 0 rfl ?_
    refine g_getR C (dat dt_X10_spreadDrops 14 rfl) fl_10_50 kd_0 rfl ltk_0 ?_
    refine g_iload_n C (dat dt_X10_spreadDrops 15 rfl) 2 rfl ?_
    obtain ⟨j4, q5, hrun⟩ := bd hrun
    refine g_iald C (dat dt_X10_spreadDrops 16 rfl) kd_23 ltk_23 q5 ?_
    refine g_bipush C (dat dt_X10_spreadDrops 17 rfl) bp_10 ?_
    refine g_idiv C (dat dt_X10_spreadDrops 18 rfl) (by decide) ?_
    refine g_istore_n (lv' := [(0, .ref 0), (1, .ref a1), (2, .int x2), (3, .int ((aI h 23 j4) / (10 : Int32)))]) C (dat dt_X10_spreadDrops 19 rfl) (by decide) rfl ?_
    refine g_iconst C (dat dt_X10_spreadDrops 20 rfl) ic_0 ?_
    refine g_istore (lv' := [(0, .ref 0), (1, .ref a1), (2, .int x2), (3, .int ((aI h 23 j4) / (10 : Int32))), (4, .int (0 : Int32))]) C (dat dt_X10_spreadDrops 21 rfl) (by decide) rfl ?_
    obtain ⟨e22, q23, hrun⟩ := bd hrun
    refine lp_ind (P := fun s => kp_X10_spreadDrops_36_17 a1 x2 ((aI h 23 j4) / (10 : Int32)) X s) (K := fun e => ke_X10_spreadDrops_36_17 a1 x2 ((aI h 23 j4) / (10 : Int32)) X e) (fun s q hb Ks Ke => wb_X10_spreadDrops_36_17 C a1 Ha1 x2 ((aI h 23 j4) / (10 : Int32)) s.1 s.2 q hb Ks Ke) FU ((0 : Int32), h) e22 q23 ?_
    show G X e22 0 0 93 [(0, .ref 0), (1, .ref a1), (2, .int x2)] []
    refine g_iinc (v := (x2 + (1 : Int32))) (lv' := [(0, .ref 0), (1, .ref a1), (2, .int (x2 + (1 : Int32)))]) C (dat dt_X10_spreadDrops 54 rfl) 2 rfl (congrArg (fun z => x2 + z) ic_1) (by decide) rfl ?_
    refine g_goto 17 C (dat dt_X10_spreadDrops 55 rfl) (by decide) ?_
    cases hrun
    exact Ks ((x2 + (1 : Int32)), e22) rfl
def f_X10_spreadDrops (a1 : Nat) (h : Hp) : Option (Unit × Hp) :=
  (icp (0 : Int32) (0 : Int32) (9 : Int32) 9 9).bind fun q1 =>
  (lp (fun s => b_X10_spreadDrops_17 a1  s.1 s.2) FU ((0 : Int32), (cpA h 22 q1.1 23 q1.2.1 q1.2.2))).bind fun e24 =>
  some ((), e24)
set_option maxRecDepth 20000 in
theorem w_X10_spreadDrops (a1 : Nat) (h : Hp) (q : (Unit × Hp)) (Ha1 : IsRoom a1) (hrun : f_X10_spreadDrops a1 h = some q) : MetA ⟨"SteamNations", "spreadDrops", "(LSteamNations$Room;)V"⟩ prog_1_method_46_code 5 none 3 0 0 [.ref 0, .ref a1] h none q.2 := by
  refine metA_of (by decide) (Nat.le_of_ble_eq_true rfl) (fun X C K => ?_)
  have C : Cx X cn_10 prog_1_method_46_code 5 none 3 0 0 := C
  show G X h 0 0 0 [(0, .ref 0), (1, .ref a1)] []
  unfold f_X10_spreadDrops at hrun
  refine g_aload_n C (dat dt_X10_spreadDrops 0 rfl) 0 rfl ?_
  refine g_getR C (dat dt_X10_spreadDrops 1 rfl) fl_10_47 kd_0 rfl ltk_0 ?_
  refine g_iconst C (dat dt_X10_spreadDrops 2 rfl) ic_0 ?_
  refine g_aload_n C (dat dt_X10_spreadDrops 3 rfl) 0 rfl ?_
  refine g_getR C (dat dt_X10_spreadDrops 4 rfl) fl_10_50 kd_0 rfl ltk_0 ?_
  refine g_iconst C (dat dt_X10_spreadDrops 5 rfl) ic_0 ?_
  refine g_bipush C (dat dt_X10_spreadDrops 6 rfl) bp_9 ?_
  obtain ⟨q1, q2, hrun⟩ := bd hrun
  refine g_acopy C (dat dt_X10_spreadDrops 7 rfl) al_10_380 kd_22 kd_23 ltk_22 ltk_23 q2 rfl (by decide) ?_
  refine g_iconst C (dat dt_X10_spreadDrops 8 rfl) ic_0 ?_
  refine g_istore_n (lv' := [(0, .ref 0), (1, .ref a1), (2, .int (0 : Int32))]) C (dat dt_X10_spreadDrops 9 rfl) (by decide) rfl ?_
  obtain ⟨e24, q25, hrun⟩ := bd hrun
  refine lp_ind (P := fun s => kp_X10_spreadDrops_17 a1  X s) (K := fun e => ke_X10_spreadDrops_17 a1  X e) (fun s q hb Ks Ke => wb_X10_spreadDrops_17 C a1 Ha1  s.1 s.2 q hb Ks Ke) FU ((0 : Int32), (cpA h 22 q1.1 23 q1.2.1 q1.2.2)) e24 q25 ?_
  show G X e24 0 0 99 [] []
  cases hrun
  exact g_vret C K (dat dt_X10_spreadDrops 56 rfl)
/-! SteamNations.drop(III)I -/
def dl_X10_drop : List (Nat × Instr × Nat) := [(0, .aload_n 0, 1), (1, .getfield 75, 3), (4, .getfield 123, 3), (7, .astore 4, 2), (9, .aload 4, 2), (11, .iload_n 1, 1), (12, .invokevirtual 155, 3), (15, .ifCond .eq 19, 3), (18, .aload 4, 2), (20, .iload_n 3, 1), (21, .invokevirtual 155, 3), (24, .ifCond .eq 10, 3), (27, .iload_n 2, 1), (28, .invokestatic 247, 3), (31, .ifCond .ne 5, 3), (34, .iconst (-1), 1), (35, .ireturn, 1), (36, .aload_n 0, 1), (37, .getfield 47, 3), (40, .iconst 0, 1), (41, .invokestatic 329, 3), (44, .aload_n 0, 1), (45, .getfield 47, 3), (48, .aload 4, 2), (50, .getfield 149, 3), (53, .iload_n 1, 1), (54, .iaload, 1), (55, .ldc_w 335, 3), (58, .iastore, 1), (59, .iconst 0, 1), (60, .istore 5, 2), (62, .iload 5, 2), (64, .iload_n 2, 1), (65, .if_icmp .ge 15, 3), (68, .aload_n 0, 1), (69, .aload 4, 2), (71, .invokevirtual 336, 3), (74, .iinc 5 1, 3), (77, .goto (-15), 3), (80, .aload_n 0, 1), (81, .getfield 47, 3), (84, .aload 4, 2), (86, .getfield 149, 3), (89, .iload_n 3, 1), (90, .iaload, 1), (91, .iaload, 1), (92, .ireturn, 1)]
set_option maxRecDepth 20000 in
theorem dt_X10_drop : ∀ q ∈ dl_X10_drop, decode prog_1_method_31_code q.1 = .ok q.2 := by decide +kernel
def kp_X10_drop_62  (x2 : Int32) (x3 : Int32) (X : Xt) (s : (Int32 × Hp)) : Prop := G X s.2 0 0 62 [(0, .ref 0), (2, .int x2), (3, .int x3), (4, .ref 33), (5, .int s.1)] []
def ke_X10_drop_62  (x2 : Int32) (x3 : Int32) (X : Xt) (e : Hp) : Prop := G X e 0 0 80 [(0, .ref 0), (3, .int x3), (4, .ref 33)] []
def b_X10_drop_62  (x2 : Int32) (x3 : Int32) (x5 : Int32) (h : Hp) : Option ((Int32 × Hp) ⊕ Hp) :=
  if x2 ≤ x5 then
  some (.inr ( h))
  else
  (f_X10_spreadDrops 33 h).bind fun v17 =>
  some (.inl ((x5 + (1 : Int32)), v17.2))
set_option maxRecDepth 20000 in
theorem wb_X10_drop_62 {X : Xt} (C : Cx X cn_10 prog_1_method_31_code 6 (some .int) 4 0 0)   (x2 : Int32) (x3 : Int32) (x5 : Int32) (h : Hp) (q : (Int32 × Hp) ⊕ Hp) (hrun : b_X10_drop_62  x2 x3 x5 h = some q) (Ks : ∀ s, q = .inl s → kp_X10_drop_62  x2 x3 X s) (Ke : ∀ e, q = .inr e → ke_X10_drop_62  x2 x3 X e) : kp_X10_drop_62  x2 x3 X (x5, h) := by
  show G X h 0 0 62 [(0, .ref 0), (2, .int x2), (3, .int x3), (4, .ref 33), (5, .int x5)] []
  unfold b_X10_drop_62 at hrun
  refine g_iload C (dat dt_X10_drop 31 rfl) 4 rfl ?_
  refine g_iload_n C (dat dt_X10_drop 32 rfl) 1 rfl ?_
  refine g_ic_ge 80 C (dat dt_X10_drop 33 rfl) (by decide) (fun c16 => ?_) (fun c16 => ?_)
  · rw [if_pos c16] at hrun
    refine g_sub [0, 2, 3] (lv' := [(0, .ref 0), (3, .int x3), (4, .ref 33)]) rfl ?_
    cases hrun
    exact Ke ( h) rfl
  · rw [if_neg c16] at hrun
    refine g_aload_n C (dat dt_X10_drop 34 rfl) 0 rfl ?_
    refine g_aload C (dat dt_X10_drop 35 rfl) 3 rfl ?_
    obtain ⟨v17, q18, hrun⟩ := bd hrun
    refine g_cVv [.ref 33] C (dat dt_X10_drop 36 rfl) ml_10_336 (w_X10_spreadDrops 33 h v17 room_33 q18) kd_0 ltk_0 rfl rfl cat0 (by decide) c00 ?_
    refine g_iinc (v := (x5 + (1 : Int32))) (lv' := [(0, .ref 0), (2, .int x2), (3, .int x3), (4, .ref 33), (5, .int (x5 + (1 : Int32)))]) C (dat dt_X10_drop 37 rfl) 4 rfl (congrArg (fun z => x5 + z) ic_1) (by decide) rfl ?_
    refine g_goto 62 C (dat dt_X10_drop 38 rfl) (by decide) ?_
    cases hrun
    exact Ks ((x5 + (1 : Int32)), v17.2) rfl
def f_X10_drop (x1 : Int32) (x2 : Int32) (x3 : Int32) (h : Hp) : Option (Int32 × Hp) :=
  (f_X6_isInside 33 x1 h).bind fun v1 =>
  if v1 = true then
  (f_X6_isInside 33 x3 h).bind fun v4 =>
  if v4 = true then
  (f_X10_isFarMinute x2).bind fun v7 =>
  if v7 = true then
  (f_J7_fill_53178 22 9 (0 : Int32) h).bind fun v10 =>
  (inb x1 6).bind fun j12 =>
  (inb (aI v10.2 36 j12) 9).bind fun j14 =>
  (lp (fun s => b_X10_drop_62  x2 x3 s.1 s.2) FU ((0 : Int32), (sA v10.2 22 j14 (1000000 : Int32)))).bind fun e19 =>
  (inb x3 6).bind fun j21 =>
  (inb (aI e19 36 j21) 9).bind fun j23 =>
  some ((aI e19 22 j23), e19)
  else
  some ((-1 : Int32), h)
  else
  some ((-1 : Int32), h)
  else
  some ((-1 : Int32), h)
set_option maxRecDepth 20000 in
theorem w_X10_drop (x1 : Int32) (x2 : Int32) (x3 : Int32) (h : Hp) (q : (Int32 × Hp))  (hrun : f_X10_drop x1 x2 x3 h = some q) : MetA ⟨"SteamNations", "drop", "(III)I"⟩ prog_1_method_31_code 6 (some .int) 4 0 0 [.ref 0, .int x1, .int x2, .int x3] h (some (.int q.1)) q.2 := by
  refine metA_of (by decide) (Nat.le_of_ble_eq_true rfl) (fun X C K => ?_)
  have C : Cx X cn_10 prog_1_method_31_code 6 (some .int) 4 0 0 := C
  show G X h 0 0 0 [(0, .ref 0), (1, .int x1), (2, .int x2), (3, .int x3)] []
  unfold f_X10_drop at hrun
  refine g_aload_n C (dat dt_X10_drop 0 rfl) 0 rfl ?_
  refine g_getR C (dat dt_X10_drop 1 rfl) fl_10_75 kd_0 rfl ltk_0 ?_
  refine g_getR C (dat dt_X10_drop 2 rfl) fl_10_123 kd_32 rfl ltk_32 ?_
  refine g_astore (lv' := [(0, .ref 0), (1, .int x1), (2, .int x2), (3, .int x3), (4, .ref 33)]) C (dat dt_X10_drop 3 rfl) (by decide) rfl ?_
  refine g_aload C (dat dt_X10_drop 4 rfl) 4 rfl ?_
  refine g_iload_n C (dat dt_X10_drop 5 rfl) 1 rfl ?_
  obtain ⟨v1, q2, hrun⟩ := bd hrun
  refine g_cVi [.int x1] C (dat dt_X10_drop 6 rfl) ml_10_155 (w_X6_isInside 33 x1 h v1 room_33 q2) kd_33 ltk_33 rfl rfl cat0 (by decide) c00 ?_
  refine g_if_eq 34 C (dat dt_X10_drop 7 rfl) (by decide) (fun c3 => ?_) (fun c3 => ?_)
  · rw [if_neg (b2i_z c3)] at hrun
    refine g_iconst C (dat dt_X10_drop 15 rfl) ic_m1 ?_
    cases hrun
    exact g_iret C K (dat dt_X10_drop 16 rfl)
  · rw [if_pos (b2i_nz c3)] at hrun
    refine g_aload C (dat dt_X10_drop 8 rfl) 4 rfl ?_
    refine g_iload_n C (dat dt_X10_drop 9 rfl) 3 rfl ?_
    obtain ⟨v4, q5, hrun⟩ := bd hrun
    refine g_cVi [.int x3] C (dat dt_X10_drop 10 rfl) ml_10_155 (w_X6_isInside 33 x3 h v4 room_33 q5) kd_33 ltk_33 rfl rfl cat0 (by decide) c00 ?_
    refine g_if_eq 34 C (dat dt_X10_drop 11 rfl) (by decide) (fun c6 => ?_) (fun c6 => ?_)
    · rw [if_neg (b2i_z c6)] at hrun
      refine g_iconst C (dat dt_X10_drop 15 rfl) ic_m1 ?_
      cases hrun
      exact g_iret C K (dat dt_X10_drop 16 rfl)
    · rw [if_pos (b2i_nz c6)] at hrun
      refine g_iload_n C (dat dt_X10_drop 12 rfl) 2 rfl ?_
      obtain ⟨v7, q8, hrun⟩ := bd hrun
      refine g_cSi [.int x2] C (dat dt_X10_drop 13 rfl) ml_10_247 (w_X10_isFarMinute x2 h v7  q8) rfl rfl cat0 (by decide) c00 ?_
      refine g_if_ne 36 C (dat dt_X10_drop 14 rfl) (by decide) (fun c9 => ?_) (fun c9 => ?_)
      · rw [if_pos (b2i_nz c9)] at hrun
        refine g_aload_n C (dat dt_X10_drop 17 rfl) 0 rfl ?_
        refine g_getR C (dat dt_X10_drop 18 rfl) fl_10_47 kd_0 rfl ltk_0 ?_
        refine g_iconst C (dat dt_X10_drop 19 rfl) ic_0 ?_
        obtain ⟨v10, q11, hrun⟩ := bd hrun
        refine g_cSv [.ref 22, .int (0 : Int32)] C (dat dt_X10_drop 20 rfl) ml_10_329 (w_J7_fill_53178 22 9 (0 : Int32) h v10 kd_22 (by decide) q11) rfl rfl cat0 (by decide) c00 ?_
        refine g_aload_n C (dat dt_X10_drop 21 rfl) 0 rfl ?_
        refine g_getR C (dat dt_X10_drop 22 rfl) fl_10_47 kd_0 rfl ltk_0 ?_
        refine g_aload C (dat dt_X10_drop 23 rfl) 4 rfl ?_
        refine g_getR C (dat dt_X10_drop 24 rfl) fl_10_149 kd_33 rfl ltk_33 ?_
        refine g_iload_n C (dat dt_X10_drop 25 rfl) 1 rfl ?_
        obtain ⟨j12, q13, hrun⟩ := bd hrun
        refine g_iald C (dat dt_X10_drop 26 rfl) kd_36 ltk_36 q13 ?_
        refine g_ldcw C (dat dt_X10_drop 27 rfl) kc_10_335 ?_
        obtain ⟨j14, q15, hrun⟩ := bd hrun
        refine g_iast (j := j14) C (dat dt_X10_drop 28 rfl) kd_22 ltk_22 q15  ?_
        refine g_iconst C (dat dt_X10_drop 29 rfl) ic_0 ?_
        refine g_istore (lv' := [(0, .ref 0), (1, .int x1), (2, .int x2), (3, .int x3), (4, .ref 33), (5, .int (0 : Int32))]) C (dat dt_X10_drop 30 rfl) (by decide) rfl ?_
        refine g_sub [0, 2, 3, 4, 5] (lv' := [(0, .ref 0), (2, .int x2), (3, .int x3), (4, .ref 33), (5, .int (0 : Int32))]) rfl ?_
        obtain ⟨e19, q20, hrun⟩ := bd hrun
        refine lp_ind (P := fun s => kp_X10_drop_62  x2 x3 X s) (K := fun e => ke_X10_drop_62  x2 x3 X e) (fun s q hb Ks Ke => wb_X10_drop_62 C   x2 x3 s.1 s.2 q hb Ks Ke) FU ((0 : Int32), (sA v10.2 22 j14 (1000000 : Int32))) e19 q20 ?_
        show G X e19 0 0 80 [(0, .ref 0), (3, .int x3), (4, .ref 33)] []
        refine g_aload_n C (dat dt_X10_drop 39 rfl) 0 rfl ?_
        refine g_getR C (dat dt_X10_drop 40 rfl) fl_10_47 kd_0 rfl ltk_0 ?_
        refine g_aload C (dat dt_X10_drop 41 rfl) 2 rfl ?_
        refine g_getR C (dat dt_X10_drop 42 rfl) fl_10_149 kd_33 rfl ltk_33 ?_
        refine g_iload_n C (dat dt_X10_drop 43 rfl) 1 rfl ?_
        obtain ⟨j21, q22, hrun⟩ := bd hrun
        refine g_iald C (dat dt_X10_drop 44 rfl) kd_36 ltk_36 q22 ?_
        obtain ⟨j23, q24, hrun⟩ := bd hrun
        refine g_iald C (dat dt_X10_drop 45 rfl) kd_22 ltk_22 q24 ?_
        cases hrun
        exact g_iret C K (dat dt_X10_drop 46 rfl)
      · rw [if_neg (b2i_z c9)] at hrun
        refine g_iconst C (dat dt_X10_drop 15 rfl) ic_m1 ?_
        cases hrun
        exact g_iret C K (dat dt_X10_drop 16 rfl)
/-! SteamNations.few(II)J -/
def dl_X10_few : List (Nat × Instr × Nat) := [(0, .iload_n 1, 1), (1, .iconst 1, 1), (2, .if_icmp .lt 19, 3), (5, .iload_n 1, 1), (6, .bipush 20, 2), (8, .if_icmp .gt 13, 3), (11, .iload_n 2, 1), (12, .ifCond .lt 9, 3), (15, .iload_n 2, 1), (16, .bipush 99, 2), (18, .if_icmp .le 7, 3), (21, .ldc2_w 339, 3), (24, .lreturn, 1), (25, .aload_n 0, 1), (26, .getfield 75, 3), (29, .getfield 123, 3), (32, .getfield 184, 3), (35, .iconst 1, 1), (36, .iaload, 1), (37, .istore_n 3, 1), (38, .aload_n 0, 1), (39, .getfield 53, 3), (42, .lconst 0, 1), (43, .invokestatic 341, 3), (46, .aload_n 0, 1), (47, .getfield 53, 3), (50, .iconst 0, 1), (51, .ldc2_w 344, 3), (54, .lastore, 1), (55, .iconst 0, 1), (56, .istore 4, 2), (58, .iload 4, 2), (60, .iload_n 2, 1), (61, .if_icmp .ge 88, 3), (64, .iload_n 1, 1), (65, .iconst 1, 1), (66, .isub, 1), (67, .istore 5, 2), (69, .iload 5, 2), (71, .ifCond .le 50, 3), (74, .aload_n 0, 1), (75, .getfield 53, 3), (78, .iload 5, 2), (80, .aload_n 0, 1), (81, .getfield 53, 3), (84, .iload 5, 2), (86, .laload, 1), (87, .bipush 10, 2), (89, .iload_n 3, 1), (90, .isub, 1), (91, .i2l, 1), (92, .lmul, 1), (93, .ldc2_w 346, 3), (96, .ldiv, 1), (97, .aload_n 0, 1), (98, .getfield 53, 3), (101, .iload 5, 2), (103, .iconst 1, 1), (104, .isub, 1), (105, .laload, 1), (106, .iload_n 3, 1), (107, .i2l, 1), (108, .lmul, 1), (109, .ldc2_w 346, 3), (112, .ldiv, 1), (113, .ladd, 1), (114, .lastore, 1), (115, .iinc 5 (-1), 3), (118, .goto (-49), 3), (121, .aload_n 0, 1), (122, .getfield 53, 3), (125, .iconst 0, 1), (126, .aload_n 0, 1), (127, .getfield 53, 3), (130, .iconst 0, 1), (131, .laload, 1), (132, .bipush 10, 2), (134, .iload_n 3, 1), (135, .isub, 1), (136, .i2l, 1), (137, .lmul, 1), (138, .ldc2_w 346, 3), (141, .ldiv, 1), (142, .lastore, 1), (143, .iinc 4 1, 3), (146, .goto (-88), 3), (149, .lconst 0, 1), (150, .lstore 4, 2), (152, .iconst 0, 1), (153, .istore 6, 2), (155, .iload 6, 2), (157, .iload_n 1, 1), (158, .if_icmp .ge 21, 3), (161, .lload 4, 2), (163, .aload_n 0, 1), (164, .getfield 53, 3), (167, .iload 6, 2), (169, .laload, 1), (170, .ladd, 1), (171, .lstore 4, 2), (173, .iinc 6 1, 3), (176, .goto (-21), 3), (179, .lload 4, 2), (181, .lreturn, 1)]
set_option maxRecDepth 20000 in
theorem dt_X10_few : ∀ q ∈ dl_X10_few, decode prog_1_method_32_code q.1 = .ok q.2 := by decide +kernel
def kp_X10_few_58  (x1 : Int32) (x2 : Int32) (x3 : Int32) (X : Xt) (s : (Int32 × Hp)) : Prop := G X s.2 0 0 58 [(0, .ref 0), (1, .int x1), (2, .int x2), (3, .int x3), (4, .int s.1)] []
def ke_X10_few_58  (x1 : Int32) (x2 : Int32) (x3 : Int32) (X : Xt) (e : Hp) : Prop := G X e 0 0 149 [(0, .ref 0), (1, .int x1)] []
def kp_X10_few_69_58  (x1 : Int32) (x2 : Int32) (x3 : Int32) (x4 : Int32) (X : Xt) (s : (Int32 × Hp)) : Prop := G X s.2 0 0 69 [(0, .ref 0), (1, .int x1), (2, .int x2), (3, .int x3), (4, .int x4), (5, .int s.1)] []
def ke_X10_few_69_58  (x1 : Int32) (x2 : Int32) (x3 : Int32) (x4 : Int32) (X : Xt) (e : Hp) : Prop := G X e 0 0 121 [(0, .ref 0), (1, .int x1), (2, .int x2), (3, .int x3), (4, .int x4)] []
def b_X10_few_69_58  (x1 : Int32) (x2 : Int32) (x3 : Int32) (x4 : Int32) (x5 : Int32) (h : Hp) : Option ((Int32 × Hp) ⊕ Hp) :=
  if x5 ≤ 0 then
  some (.inr ( h))
  else
  (inb x5 20).bind fun j11 =>
  (inb (x5 - (1 : Int32)) 20).bind fun j13 =>
  (inb x5 20).bind fun j15 =>
  some (.inl ((x5 + (-1 : Int32)), (sL h 24 j15 ((((aL h 24 j11) * ((10 : Int32) - x3).toInt64) / (10 : Int64)) + (((aL h 24 j13) * (x3).toInt64) / (10 : Int64))))))
set_option maxRecDepth 20000 in
theorem wb_X10_few_69_58 {X : Xt} (C : Cx X cn_10 prog_1_method_32_code 7 (some .long) 2 0 0)   (x1 : Int32) (x2 : Int32) (x3 : Int32) (x4 : Int32) (x5 : Int32) (h : Hp) (q : (Int32 × Hp) ⊕ Hp) (hrun : b_X10_few_69_58  x1 x2 x3 x4 x5 h = some q) (Ks : ∀ s, q = .inl s → kp_X10_few_69_58  x1 x2 x3 x4 X s) (Ke : ∀ e, q = .inr e → ke_X10_few_69_58  x1 x2 x3 x4 X e) : kp_X10_few_69_58  x1 x2 x3 x4 X (x5, h) := by
  show G X h 0 0 69 [(0, .ref 0), (1, .int x1), (2, .int x2), (3, .int x3), (4, .int x4), (5, .int x5)] []
  unfold b_X10_few_69_58 at hrun
  refine g_iload C (dat dt_X10_few 38 rfl) 5 rfl ?_
  refine g_if_le 121 C (dat dt_X10_few 39 rfl) (by decide) (fun c10 => ?_) (fun c10 => ?_)
  · rw [if_pos c10] at hrun
    refine g_sub [0, 1, 2, 3, 4] (lv' := [(0, .ref 0), (1, .int x1), (2, .int x2), (3, .int x3), (4, .int x4)]) rfl ?_
    cases hrun
    exact Ke ( h) rfl
  · rw [if_neg c10] at hrun
    refine g_aload_n C (dat dt_X10_few 40 rfl) 0 rfl ?_
    refine g_getR C (dat dt_X10_few 41 rfl) fl_10_53 kd_0 rfl ltk_0 ?_
    refine g_iload C (dat dt_X10_few 42 rfl) 5 rfl ?_
    refine g_aload_n C (dat dt_X10_few 43 rfl) 0 rfl ?_
    refine g_getR C (dat dt_X10_few 44 rfl) fl_10_53 kd_0 rfl ltk_0 ?_
    refine g_iload C (dat dt_X10_few 45 rfl) 5 rfl ?_
    obtain ⟨j11, q12, hrun⟩ := bd hrun
    refine g_lald C (dat dt_X10_few 46 rfl) kd_24 ltk_24 q12 ?_
    refine g_bipush C (dat dt_X10_few 47 rfl) bp_10 ?_
    refine g_iload_n C (dat dt_X10_few 48 rfl) 3 rfl ?_
    refine g_isub C (dat dt_X10_few 49 rfl) ?_
    refine g_i2l C (dat dt_X10_few 50 rfl) ?_
    refine g_lmul C (dat dt_X10_few 51 rfl) ?_
    refine g_ldc2 C (dat dt_X10_few 52 rfl) kc_10_346 ?_
    refine g_ldiv C (dat dt_X10_few 53 rfl) (by decide) ?_
    refine g_aload_n C (dat dt_X10_few 54 rfl) 0 rfl ?_
    refine g_getR C (dat dt_X10_few 55 rfl) fl_10_53 kd_0 rfl ltk_0 ?_
    refine g_iload C (dat dt_X10_few 56 rfl) 5 rfl ?_
    refine g_iconst C (dat dt_X10_few 57 rfl) ic_1 ?_
    refine g_isub C (dat dt_X10_few 58 rfl) ?_
    obtain ⟨j13, q14, hrun⟩ := bd hrun
    refine g_lald C (dat dt_X10_few 59 rfl) kd_24 ltk_24 q14 ?_
    refine g_iload_n C (dat dt_X10_few 60 rfl) 3 rfl ?_
    refine g_i2l C (dat dt_X10_few 61 rfl) ?_
    refine g_lmul C (dat dt_X10_few 62 rfl) ?_
    refine g_ldc2 C (dat dt_X10_few 63 rfl) kc_10_346 ?_
    refine g_ldiv C (dat dt_X10_few 64 rfl) (by decide) ?_
    refine g_ladd C (dat dt_X10_few 65 rfl) ?_
    obtain ⟨j15, q16, hrun⟩ := bd hrun
    refine g_last (j := j15) C (dat dt_X10_few 66 rfl) kd_24 ltk_24 q16  ?_
    refine g_iinc (v := (x5 + (-1 : Int32))) (lv' := [(0, .ref 0), (1, .int x1), (2, .int x2), (3, .int x3), (4, .int x4), (5, .int (x5 + (-1 : Int32)))]) C (dat dt_X10_few 67 rfl) 5 rfl (congrArg (fun z => x5 + z) ic_m1) (by decide) rfl ?_
    refine g_goto 69 C (dat dt_X10_few 68 rfl) (by decide) ?_
    cases hrun
    exact Ks ((x5 + (-1 : Int32)), (sL h 24 j15 ((((aL h 24 j11) * ((10 : Int32) - x3).toInt64) / (10 : Int64)) + (((aL h 24 j13) * (x3).toInt64) / (10 : Int64))))) rfl
def b_X10_few_58  (x1 : Int32) (x2 : Int32) (x3 : Int32) (x4 : Int32) (h : Hp) : Option ((Int32 × Hp) ⊕ Hp) :=
  if x2 ≤ x4 then
  some (.inr ( h))
  else
  (lp (fun s => b_X10_few_69_58  x1 x2 x3 x4 s.1 s.2) FU ((x1 - (1 : Int32)), h)).bind fun e17 =>
  some (.inl ((x4 + (1 : Int32)), (sL e17 24 0 (((aL e17 24 0) * ((10 : Int32) - x3).toInt64) / (10 : Int64)))))
set_option maxRecDepth 20000 in
theorem wb_X10_few_58 {X : Xt} (C : Cx X cn_10 prog_1_method_32_code 7 (some .long) 2 0 0)   (x1 : Int32) (x2 : Int32) (x3 : Int32) (x4 : Int32) (h : Hp) (q : (Int32 × Hp) ⊕ Hp) (hrun : b_X10_few_58  x1 x2 x3 x4 h = some q) (Ks : ∀ s, q = .inl s → kp_X10_few_58  x1 x2 x3 X s) (Ke : ∀ e, q = .inr e → ke_X10_few_58  x1 x2 x3 X e) : kp_X10_few_58  x1 x2 x3 X (x4, h) := by
  show G X h 0 0 58 [(0, .ref 0), (1, .int x1), (2, .int x2), (3, .int x3), (4, .int x4)] []
  unfold b_X10_few_58 at hrun
  refine g_iload C (dat dt_X10_few 31 rfl) 4 rfl ?_
  refine g_iload_n C (dat dt_X10_few 32 rfl) 2 rfl ?_
  refine g_ic_ge 149 C (dat dt_X10_few 33 rfl) (by decide) (fun c9 => ?_) (fun c9 => ?_)
  · rw [if_pos c9] at hrun
    refine g_sub [0, 1] (lv' := [(0, .ref 0), (1, .int x1)]) rfl ?_
    cases hrun
    exact Ke ( h) rfl
  · rw [if_neg c9] at hrun
    refine g_iload_n C (dat dt_X10_few 34 rfl) 1 rfl ?_
    refine g_iconst C (dat dt_X10_few 35 rfl) ic_1 ?_
    refine g_isub C (dat dt_X10_few 36 rfl) ?_
    refine g_istore (lv' := [(0, .ref 0), (1, .int x1), (2, .int x2), (3, .int x3), (4, .int x4), (5, .int (x1 - (1 : Int32)))]) C (dat dt_X10_few 37 rfl) (by decide) rfl ?_
    obtain ⟨e17, q18, hrun⟩ := bd hrun
    refine lp_ind (P := fun s => kp_X10_few_69_58  x1 x2 x3 x4 X s) (K := fun e => ke_X10_few_69_58  x1 x2 x3 x4 X e) (fun s q hb Ks Ke => wb_X10_few_69_58 C   x1 x2 x3 x4 s.1 s.2 q hb Ks Ke) FU ((x1 - (1 : Int32)), h) e17 q18 ?_
    show G X e17 0 0 121 [(0, .ref 0), (1, .int x1), (2, .int x2), (3, .int x3), (4, .int x4)] []
    refine g_aload_n C (dat dt_X10_few 69 rfl) 0 rfl ?_
    refine g_getR C (dat dt_X10_few 70 rfl) fl_10_53 kd_0 rfl ltk_0 ?_
    refine g_iconst C (dat dt_X10_few 71 rfl) ic_0 ?_
    refine g_aload_n C (dat dt_X10_few 72 rfl) 0 rfl ?_
    refine g_getR C (dat dt_X10_few 73 rfl) fl_10_53 kd_0 rfl ltk_0 ?_
    refine g_iconst C (dat dt_X10_few 74 rfl) ic_0 ?_
    refine g_lald (j := 0) C (dat dt_X10_few 75 rfl) kd_24 ltk_24 (show inb (0 : Int32) 20 = some 0 by decide) ?_
    refine g_bipush C (dat dt_X10_few 76 rfl) bp_10 ?_
    refine g_iload_n C (dat dt_X10_few 77 rfl) 3 rfl ?_
    refine g_isub C (dat dt_X10_few 78 rfl) ?_
    refine g_i2l C (dat dt_X10_few 79 rfl) ?_
    refine g_lmul C (dat dt_X10_few 80 rfl) ?_
    refine g_ldc2 C (dat dt_X10_few 81 rfl) kc_10_346 ?_
    refine g_ldiv C (dat dt_X10_few 82 rfl) (by decide) ?_
    refine g_last (j := 0) C (dat dt_X10_few 83 rfl) kd_24 ltk_24 (show inb (0 : Int32) 20 = some 0 by decide)  ?_
    refine g_iinc (v := (x4 + (1 : Int32))) (lv' := [(0, .ref 0), (1, .int x1), (2, .int x2), (3, .int x3), (4, .int (x4 + (1 : Int32)))]) C (dat dt_X10_few 84 rfl) 4 rfl (congrArg (fun z => x4 + z) ic_1) (by decide) rfl ?_
    refine g_goto 58 C (dat dt_X10_few 85 rfl) (by decide) ?_
    cases hrun
    exact Ks ((x4 + (1 : Int32)), (sL e17 24 0 (((aL e17 24 0) * ((10 : Int32) - x3).toInt64) / (10 : Int64)))) rfl
def kp_X10_few_155  (x1 : Int32) (h : Hp) (X : Xt) (s : (Int64 × Int32)) : Prop := G X h 0 0 155 [(0, .ref 0), (1, .int x1), (4, .long s.1), (6, .int s.2)] []
def ke_X10_few_155  (x1 : Int32) (h : Hp) (X : Xt) (e : Int64) : Prop := G X h 0 0 179 [(4, .long e)] []
def b_X10_few_155  (x1 : Int32) (x4 : Int64) (x6 : Int32) (h : Hp) : Option ((Int64 × Int32) ⊕ Int64) :=
  if x1 ≤ x6 then
  some (.inr ( x4))
  else
  (inb x6 20).bind fun j24 =>
  some (.inl ((x4 + (aL h 24 j24)), (x6 + (1 : Int32))))
set_option maxRecDepth 20000 in
theorem wb_X10_few_155 {X : Xt} (C : Cx X cn_10 prog_1_method_32_code 7 (some .long) 2 0 0)   (x1 : Int32) (x4 : Int64) (x6 : Int32) (h : Hp) (q : (Int64 × Int32) ⊕ Int64) (hrun : b_X10_few_155  x1 x4 x6 h = some q) (Ks : ∀ s, q = .inl s → kp_X10_few_155  x1 h X s) (Ke : ∀ e, q = .inr e → ke_X10_few_155  x1 h X e) : kp_X10_few_155  x1 h X (x4, x6) := by
  show G X h 0 0 155 [(0, .ref 0), (1, .int x1), (4, .long x4), (6, .int x6)] []
  unfold b_X10_few_155 at hrun
  refine g_iload C (dat dt_X10_few 90 rfl) 3 rfl ?_
  refine g_iload_n C (dat dt_X10_few 91 rfl) 1 rfl ?_
  refine g_ic_ge 179 C (dat dt_X10_few 92 rfl) (by decide) (fun c23 => ?_) (fun c23 => ?_)
  · rw [if_pos c23] at hrun
    refine g_sub [2] (lv' := [(4, .long x4)]) rfl ?_
    cases hrun
    exact Ke ( x4) rfl
  · rw [if_neg c23] at hrun
    refine g_lload C (dat dt_X10_few 93 rfl) 2 rfl ?_
    refine g_aload_n C (dat dt_X10_few 94 rfl) 0 rfl ?_
    refine g_getR C (dat dt_X10_few 95 rfl) fl_10_53 kd_0 rfl ltk_0 ?_
    refine g_iload C (dat dt_X10_few 96 rfl) 3 rfl ?_
    obtain ⟨j24, q25, hrun⟩ := bd hrun
    refine g_lald C (dat dt_X10_few 97 rfl) kd_24 ltk_24 q25 ?_
    refine g_ladd C (dat dt_X10_few 98 rfl) ?_
    refine g_lstore (lv' := [(0, .ref 0), (1, .int x1), (4, .long (x4 + (aL h 24 j24))), (6, .int x6)]) C (dat dt_X10_few 99 rfl) (by decide) rfl ?_
    refine g_iinc (v := (x6 + (1 : Int32))) (lv' := [(0, .ref 0), (1, .int x1), (4, .long (x4 + (aL h 24 j24))), (6, .int (x6 + (1 : Int32)))]) C (dat dt_X10_few 100 rfl) 3 rfl (congrArg (fun z => x6 + z) ic_1) (by decide) rfl ?_
    refine g_goto 155 C (dat dt_X10_few 101 rfl) (by decide) ?_
    cases hrun
    exact Ks ((x4 + (aL h 24 j24)), (x6 + (1 : Int32))) rfl
def f_X10_few (x1 : Int32) (x2 : Int32) (h : Hp) : Option (Int64 × Hp) :=
  if x1 < (1 : Int32) then
  some ((-1 : Int64), h)
  else
  if (20 : Int32) < x1 then
  some ((-1 : Int64), h)
  else
  if x2 < 0 then
  some ((-1 : Int64), h)
  else
  if x2 ≤ (99 : Int32) then
  (f_J7_fill_d0a16 24 20 (0 : Int64) h).bind fun v5 =>
  (lp (fun s => b_X10_few_58  x1 x2 (aI h 37 1) s.1 s.2) FU ((0 : Int32), (sL v5.2 24 0 (1000000000000 : Int64)))).bind fun e21 =>
  (lp (fun s => b_X10_few_155  x1 s.1 s.2 e21) FU ((0 : Int64), (0 : Int32))).bind fun e26 =>
  some (e26, e21)
  else
  some ((-1 : Int64), h)
set_option maxRecDepth 20000 in
theorem w_X10_few (x1 : Int32) (x2 : Int32) (h : Hp) (q : (Int64 × Hp))  (hrun : f_X10_few x1 x2 h = some q) : MetA ⟨"SteamNations", "few", "(II)J"⟩ prog_1_method_32_code 7 (some .long) 2 0 0 [.ref 0, .int x1, .int x2] h (some (.long q.1)) q.2 := by
  refine metA_of (by decide) (Nat.le_of_ble_eq_true rfl) (fun X C K => ?_)
  have C : Cx X cn_10 prog_1_method_32_code 7 (some .long) 2 0 0 := C
  show G X h 0 0 0 [(0, .ref 0), (1, .int x1), (2, .int x2)] []
  unfold f_X10_few at hrun
  refine g_iload_n C (dat dt_X10_few 0 rfl) 1 rfl ?_
  refine g_iconst C (dat dt_X10_few 1 rfl) ic_1 ?_
  refine g_ic_lt 21 C (dat dt_X10_few 2 rfl) (by decide) (fun c1 => ?_) (fun c1 => ?_)
  · rw [if_pos c1] at hrun
    refine g_ldc2 C (dat dt_X10_few 11 rfl) kc_10_339 ?_
    cases hrun
    exact g_lret C K (dat dt_X10_few 12 rfl)
  · rw [if_neg c1] at hrun
    refine g_iload_n C (dat dt_X10_few 3 rfl) 1 rfl ?_
    refine g_bipush C (dat dt_X10_few 4 rfl) bp_20 ?_
    refine g_ic_gt 21 C (dat dt_X10_few 5 rfl) (by decide) (fun c2 => ?_) (fun c2 => ?_)
    · rw [if_pos c2] at hrun
      refine g_ldc2 C (dat dt_X10_few 11 rfl) kc_10_339 ?_
      cases hrun
      exact g_lret C K (dat dt_X10_few 12 rfl)
    · rw [if_neg c2] at hrun
      refine g_iload_n C (dat dt_X10_few 6 rfl) 2 rfl ?_
      refine g_if_lt 21 C (dat dt_X10_few 7 rfl) (by decide) (fun c3 => ?_) (fun c3 => ?_)
      · rw [if_pos c3] at hrun
        refine g_ldc2 C (dat dt_X10_few 11 rfl) kc_10_339 ?_
        cases hrun
        exact g_lret C K (dat dt_X10_few 12 rfl)
      · rw [if_neg c3] at hrun
        refine g_iload_n C (dat dt_X10_few 8 rfl) 2 rfl ?_
        refine g_bipush C (dat dt_X10_few 9 rfl) bp_99 ?_
        refine g_ic_le 25 C (dat dt_X10_few 10 rfl) (by decide) (fun c4 => ?_) (fun c4 => ?_)
        · rw [if_pos c4] at hrun
          refine g_aload_n C (dat dt_X10_few 13 rfl) 0 rfl ?_
          refine g_getR C (dat dt_X10_few 14 rfl) fl_10_75 kd_0 rfl ltk_0 ?_
          refine g_getR C (dat dt_X10_few 15 rfl) fl_10_123 kd_32 rfl ltk_32 ?_
          refine g_getR C (dat dt_X10_few 16 rfl) fl_10_184 kd_33 rfl ltk_33 ?_
          refine g_iconst C (dat dt_X10_few 17 rfl) ic_1 ?_
          refine g_iald (j := 1) C (dat dt_X10_few 18 rfl) kd_37 ltk_37 (show inb (1 : Int32) 3 = some 1 by decide) ?_
          refine g_istore_n (lv' := [(0, .ref 0), (1, .int x1), (2, .int x2), (3, .int (aI h 37 1))]) C (dat dt_X10_few 19 rfl) (by decide) rfl ?_
          refine g_aload_n C (dat dt_X10_few 20 rfl) 0 rfl ?_
          refine g_getR C (dat dt_X10_few 21 rfl) fl_10_53 kd_0 rfl ltk_0 ?_
          refine g_lconst (v := 0) C (dat dt_X10_few 22 rfl) rfl ?_
          obtain ⟨v5, q6, hrun⟩ := bd hrun
          refine g_cSv [.ref 24, .long (0 : Int64)] C (dat dt_X10_few 23 rfl) ml_10_341 (w_J7_fill_d0a16 24 20 (0 : Int64) h v5 kd_24 (by decide) q6) rfl rfl cat0 (by decide) c00 ?_
          refine g_aload_n C (dat dt_X10_few 24 rfl) 0 rfl ?_
          refine g_getR C (dat dt_X10_few 25 rfl) fl_10_53 kd_0 rfl ltk_0 ?_
          refine g_iconst C (dat dt_X10_few 26 rfl) ic_0 ?_
          refine g_ldc2 C (dat dt_X10_few 27 rfl) kc_10_344 ?_
          refine g_last (j := 0) C (dat dt_X10_few 28 rfl) kd_24 ltk_24 (show inb (0 : Int32) 20 = some 0 by decide)  ?_
          refine g_iconst C (dat dt_X10_few 29 rfl) ic_0 ?_
          refine g_istore (lv' := [(0, .ref 0), (1, .int x1), (2, .int x2), (3, .int (aI h 37 1)), (4, .int (0 : Int32))]) C (dat dt_X10_few 30 rfl) (by decide) rfl ?_
          obtain ⟨e21, q22, hrun⟩ := bd hrun
          refine lp_ind (P := fun s => kp_X10_few_58  x1 x2 (aI h 37 1) X s) (K := fun e => ke_X10_few_58  x1 x2 (aI h 37 1) X e) (fun s q hb Ks Ke => wb_X10_few_58 C   x1 x2 (aI h 37 1) s.1 s.2 q hb Ks Ke) FU ((0 : Int32), (sL v5.2 24 0 (1000000000000 : Int64))) e21 q22 ?_
          show G X e21 0 0 149 [(0, .ref 0), (1, .int x1)] []
          refine g_lconst (v := 0) C (dat dt_X10_few 86 rfl) rfl ?_
          refine g_lstore (lv' := [(0, .ref 0), (1, .int x1), (4, .long (0 : Int64))]) C (dat dt_X10_few 87 rfl) (by decide) rfl ?_
          refine g_iconst C (dat dt_X10_few 88 rfl) ic_0 ?_
          refine g_istore (lv' := [(0, .ref 0), (1, .int x1), (4, .long (0 : Int64)), (6, .int (0 : Int32))]) C (dat dt_X10_few 89 rfl) (by decide) rfl ?_
          obtain ⟨e26, q27, hrun⟩ := bd hrun
          refine lp_ind (P := fun s => kp_X10_few_155  x1 e21 X s) (K := fun e => ke_X10_few_155  x1 e21 X e) (fun s q hb Ks Ke => wb_X10_few_155 C   x1 s.1 s.2 e21 q hb Ks Ke) FU ((0 : Int64), (0 : Int32)) e26 q27 ?_
          show G X e21 0 0 179 [(4, .long e26)] []
          refine g_lload C (dat dt_X10_few 102 rfl) 0 rfl ?_
          cases hrun
          exact g_lret C K (dat dt_X10_few 103 rfl)
        · rw [if_neg c4] at hrun
          refine g_ldc2 C (dat dt_X10_few 11 rfl) kc_10_339 ?_
          cases hrun
          exact g_lret C K (dat dt_X10_few 12 rfl)
/-! SteamNations.compare(II)I -/
def dl_X10_compare : List (Nat × Instr × Nat) := [(0, .iload_n 1, 1), (1, .iconst (-1), 1), (2, .if_icmp .eq 14, 3), (5, .aload_n 0, 1), (6, .getfield 75, 3), (9, .iload_n 1, 1), (10, .invokevirtual 224, 3), (13, .ifCond .eq 10, 3), (16, .iload_n 2, 1), (17, .invokestatic 247, 3), (20, .ifCond .ne 5, 3), (23, .iconst (-1), 1), (24, .ireturn, 1), (25, .aload_n 0, 1), (26, .aload_n 0, 1), (27, .getfield 75, 3), (30, .iload_n 1, 1), (31, .invokevirtual 348, 3), (34, .iload_n 2, 1), (35, .invokevirtual 250, 3), (38, .aload_n 0, 1), (39, .getfield 40, 3), (42, .invokevirtual 352, 3), (45, .ireturn, 1)]
set_option maxRecDepth 20000 in
theorem dt_X10_compare : ∀ q ∈ dl_X10_compare, decode prog_1_method_33_code q.1 = .ok q.2 := by decide +kernel
def j_X10_compare_16  (x1 : Int32) (x2 : Int32) (h : Hp) : Option (Int32 × Hp) :=
  (f_X10_isFarMinute x2).bind fun v2 =>
  if v2 = true then
  (f_X1_lawAt 32 x1 h).bind fun v5 =>
  (f_X10_playOnPaper v5 x2 h).bind fun v7 =>
  (f_X6_contented 12 v7.2).bind fun v9 =>
  some (v9, v7.2)
  else
  some ((-1 : Int32), h)
set_option maxRecDepth 20000 in
theorem wj_X10_compare_16 {X : Xt} (C : Cx X cn_10 prog_1_method_33_code 3 (some .int) 6 0 0)    (x1 : Int32) (x2 : Int32) (h : Hp) (q : (Int32 × Hp)) (hrun : j_X10_compare_16  x1 x2 h = some q) (K : EndQ X 0 0 (some (.int q.1)) q.2) : G X h 0 0 16 [(0, .ref 0), (1, .int x1), (2, .int x2)] [] := by
  unfold j_X10_compare_16 at hrun
  refine g_iload_n C (dat dt_X10_compare 8 rfl) 2 rfl ?_
  obtain ⟨v2, q3, hrun⟩ := bd hrun
  refine g_cSi [.int x2] C (dat dt_X10_compare 9 rfl) ml_10_247 (w_X10_isFarMinute x2 h v2  q3) rfl rfl cat0 (by decide) c00 ?_
  refine g_if_ne 25 C (dat dt_X10_compare 10 rfl) (by decide) (fun c4 => ?_) (fun c4 => ?_)
  · rw [if_pos (b2i_nz c4)] at hrun
    refine g_aload_n C (dat dt_X10_compare 13 rfl) 0 rfl ?_
    refine g_aload_n C (dat dt_X10_compare 14 rfl) 0 rfl ?_
    refine g_getR C (dat dt_X10_compare 15 rfl) fl_10_75 kd_0 rfl ltk_0 ?_
    refine g_iload_n C (dat dt_X10_compare 16 rfl) 1 rfl ?_
    obtain ⟨v5, q6, hrun⟩ := bd hrun
    refine g_cVr [.int x1] C (dat dt_X10_compare 17 rfl) ml_10_348 (w_X1_lawAt 32 x1 h v5 house_32 q6) kd_32 ltk_32 rfl rfl (Nat.le_of_ble_eq_true rfl) (by decide) c00 ?_
    refine g_iload_n C (dat dt_X10_compare 18 rfl) 2 rfl ?_
    obtain ⟨v7, q8, hrun⟩ := bd hrun
    refine g_cVv [.ref v5, .int x2] C (dat dt_X10_compare 19 rfl) ml_10_250 (w_X10_playOnPaper v5 x2 h v7  q8) kd_0 ltk_0 rfl rfl cat0 (by decide) c00 ?_
    refine g_aload_n C (dat dt_X10_compare 20 rfl) 0 rfl ?_
    refine g_getR C (dat dt_X10_compare 21 rfl) fl_10_40 kd_0 rfl ltk_0 ?_
    obtain ⟨v9, q10, hrun⟩ := bd hrun
    refine g_cVi [] C (dat dt_X10_compare 22 rfl) ml_10_352 (w_X6_contented 12 v7.2 v9 room_12 q10) kd_12 ltk_12 rfl rfl cat0 (by decide) c00 ?_
    cases hrun
    exact g_iret C K (dat dt_X10_compare 23 rfl)
  · rw [if_neg (b2i_z c4)] at hrun
    refine g_iconst C (dat dt_X10_compare 11 rfl) ic_m1 ?_
    cases hrun
    exact g_iret C K (dat dt_X10_compare 12 rfl)
def f_X10_compare (x1 : Int32) (x2 : Int32) (h : Hp) : Option (Int32 × Hp) :=
  if x1 = (-1 : Int32) then
  j_X10_compare_16  x1 x2 h
  else
  (f_X1_hasLaw 32 x1 h).bind fun v11 =>
  if v11 = true then
  j_X10_compare_16  x1 x2 h
  else
  some ((-1 : Int32), h)
set_option maxRecDepth 20000 in
theorem w_X10_compare (x1 : Int32) (x2 : Int32) (h : Hp) (q : (Int32 × Hp))  (hrun : f_X10_compare x1 x2 h = some q) : MetA ⟨"SteamNations", "compare", "(II)I"⟩ prog_1_method_33_code 3 (some .int) 6 0 0 [.ref 0, .int x1, .int x2] h (some (.int q.1)) q.2 := by
  refine metA_of (by decide) (Nat.le_of_ble_eq_true rfl) (fun X C K => ?_)
  have C : Cx X cn_10 prog_1_method_33_code 3 (some .int) 6 0 0 := C
  show G X h 0 0 0 [(0, .ref 0), (1, .int x1), (2, .int x2)] []
  unfold f_X10_compare at hrun
  refine g_iload_n C (dat dt_X10_compare 0 rfl) 1 rfl ?_
  refine g_iconst C (dat dt_X10_compare 1 rfl) ic_m1 ?_
  refine g_ic_eq 16 C (dat dt_X10_compare 2 rfl) (by decide) (fun c1 => ?_) (fun c1 => ?_)
  · rw [if_pos c1] at hrun
    exact wj_X10_compare_16 C    x1 x2 h _ hrun K
  · rw [if_neg c1] at hrun
    refine g_aload_n C (dat dt_X10_compare 3 rfl) 0 rfl ?_
    refine g_getR C (dat dt_X10_compare 4 rfl) fl_10_75 kd_0 rfl ltk_0 ?_
    refine g_iload_n C (dat dt_X10_compare 5 rfl) 1 rfl ?_
    obtain ⟨v11, q12, hrun⟩ := bd hrun
    refine g_cVi [.int x1] C (dat dt_X10_compare 6 rfl) ml_10_224 (w_X1_hasLaw 32 x1 h v11 house_32 q12) kd_32 ltk_32 rfl rfl cat0 (by decide) c00 ?_
    refine g_if_eq 23 C (dat dt_X10_compare 7 rfl) (by decide) (fun c13 => ?_) (fun c13 => ?_)
    · rw [if_neg (b2i_z c13)] at hrun
      refine g_iconst C (dat dt_X10_compare 11 rfl) ic_m1 ?_
      cases hrun
      exact g_iret C K (dat dt_X10_compare 12 rfl)
    · rw [if_pos (b2i_nz c13)] at hrun
      exact wj_X10_compare_16 C    x1 x2 h _ hrun K
/-! SteamNations.nextDraw(I)I -/
def dl_X10_nextDraw : List (Nat × Instr × Nat) := [(0, .iload_n 0, 1), (1, .sipush 1103, 3), (4, .imul, 1), (5, .sipush 12345, 3), (8, .iadd, 1), (9, .ldc_w 386, 3), (12, .irem, 1), (13, .ireturn, 1)]
set_option maxRecDepth 20000 in
theorem dt_X10_nextDraw : ∀ q ∈ dl_X10_nextDraw, decode prog_1_method_48_code q.1 = .ok q.2 := by decide +kernel
def f_X10_nextDraw (x0 : Int32) : Option Int32 :=
  some (((x0 * (1103 : Int32)) + (12345 : Int32)) - ((x0 * (1103 : Int32)) + (12345 : Int32)) / (1000003 : Int32) * (1000003 : Int32))
set_option maxRecDepth 20000 in
theorem w_X10_nextDraw (x0 : Int32) (h : Hp) (q : Int32)  (hrun : f_X10_nextDraw x0 = some q) : MetA ⟨"SteamNations", "nextDraw", "(I)I"⟩ prog_1_method_48_code 1 (some .int) 1 0 0 [.int x0] h (some (.int q)) h := by
  refine metA_of (by decide) (Nat.le_of_ble_eq_true rfl) (fun X C K => ?_)
  have C : Cx X cn_10 prog_1_method_48_code 1 (some .int) 1 0 0 := C
  show G X h 0 0 0 [(0, .int x0)] []
  unfold f_X10_nextDraw at hrun
  refine g_iload_n C (dat dt_X10_nextDraw 0 rfl) 0 rfl ?_
  refine g_sipush C (dat dt_X10_nextDraw 1 rfl) sp_1103 ?_
  refine g_imul C (dat dt_X10_nextDraw 2 rfl) ?_
  refine g_sipush C (dat dt_X10_nextDraw 3 rfl) sp_12345 ?_
  refine g_iadd C (dat dt_X10_nextDraw 4 rfl) ?_
  refine g_ldcw C (dat dt_X10_nextDraw 5 rfl) kc_10_386 ?_
  refine g_irem C (dat dt_X10_nextDraw 6 rfl) (by decide) ?_
  cases hrun
  exact g_iret C K (dat dt_X10_nextDraw 7 rfl)
/-! SteamNations.moveByDraw(III)V -/
def dl_X10_moveByDraw : List (Nat × Instr × Nat) := [(0, .iload_n 3, 1), (1, .ifCond .ne 25, 3), (4, .aload_n 0, 1), (5, .getfield 44, 3), (8, .iload_n 2, 1), (9, .invokevirtual 170, 3), (12, .iconst (-1), 1), (13, .if_icmp .ne 13, 3), (16, .aload_n 0, 1), (17, .getfield 44, 3), (20, .getfield 149, 3), (23, .iload_n 1, 1), (24, .iload_n 2, 1), (25, .iastore, 1), (26, .iload_n 3, 1), (27, .iconst 1, 1), (28, .if_icmp .ne 13, 3), (31, .aload_n 0, 1), (32, .getfield 44, 3), (35, .getfield 149, 3), (38, .iload_n 1, 1), (39, .iconst (-1), 1), (40, .iastore, 1), (41, .return_, 1)]
set_option maxRecDepth 20000 in
theorem dt_X10_moveByDraw : ∀ q ∈ dl_X10_moveByDraw, decode prog_1_method_47_code q.1 = .ok q.2 := by decide +kernel
def j_X10_moveByDraw_26  (x1 : Int32) (x3 : Int32) (h : Hp) : Option (Unit × Hp) :=
  if x3 = (1 : Int32) then
  (inb x1 6).bind fun j3 =>
  some ((), (sA h 20 j3 (-1 : Int32)))
  else
  some ((), h)
set_option maxRecDepth 20000 in
theorem wj_X10_moveByDraw_26 {X : Xt} (C : Cx X cn_10 prog_1_method_47_code 4 none 2 0 0)    (x1 : Int32) (x3 : Int32) (h : Hp) (q : (Unit × Hp)) (hrun : j_X10_moveByDraw_26  x1 x3 h = some q) (K : EndQ X 0 0 none q.2) : G X h 0 0 26 [(0, .ref 0), (1, .int x1), (3, .int x3)] [] := by
  unfold j_X10_moveByDraw_26 at hrun
  refine g_iload_n C (dat dt_X10_moveByDraw 14 rfl) 2 rfl ?_
  refine g_iconst C (dat dt_X10_moveByDraw 15 rfl) ic_1 ?_
  refine g_ic_ne 41 C (dat dt_X10_moveByDraw 16 rfl) (by decide) (fun c2 => ?_) (fun c2 => ?_)
  · rw [if_neg c2] at hrun
    cases hrun
    exact g_vret C K (dat dt_X10_moveByDraw 23 rfl)
  · rw [if_pos c2] at hrun
    refine g_aload_n C (dat dt_X10_moveByDraw 17 rfl) 0 rfl ?_
    refine g_getR C (dat dt_X10_moveByDraw 18 rfl) fl_10_44 kd_0 rfl ltk_0 ?_
    refine g_getR C (dat dt_X10_moveByDraw 19 rfl) fl_10_149 kd_17 rfl ltk_17 ?_
    refine g_iload_n C (dat dt_X10_moveByDraw 20 rfl) 1 rfl ?_
    refine g_iconst C (dat dt_X10_moveByDraw 21 rfl) ic_m1 ?_
    obtain ⟨j3, q4, hrun⟩ := bd hrun
    refine g_iast (j := j3) C (dat dt_X10_moveByDraw 22 rfl) kd_20 ltk_20 q4  ?_
    cases hrun
    exact g_vret C K (dat dt_X10_moveByDraw 23 rfl)
def f_X10_moveByDraw (x1 : Int32) (x2 : Int32) (x3 : Int32) (h : Hp) : Option (Unit × Hp) :=
  if x3 = 0 then
  (f_X6_whoAt 17 x2 h).bind fun v5 =>
  if v5 = (-1 : Int32) then
  (inb x1 6).bind fun j8 =>
  j_X10_moveByDraw_26  x1 x3 (sA h 20 j8 x2)
  else
  j_X10_moveByDraw_26  x1 x3 h
  else
  j_X10_moveByDraw_26  x1 x3 h
set_option maxRecDepth 20000 in
theorem w_X10_moveByDraw (x1 : Int32) (x2 : Int32) (x3 : Int32) (h : Hp) (q : (Unit × Hp))  (hrun : f_X10_moveByDraw x1 x2 x3 h = some q) : MetA ⟨"SteamNations", "moveByDraw", "(III)V"⟩ prog_1_method_47_code 4 none 2 0 0 [.ref 0, .int x1, .int x2, .int x3] h none q.2 := by
  refine metA_of (by decide) (Nat.le_of_ble_eq_true rfl) (fun X C K => ?_)
  have C : Cx X cn_10 prog_1_method_47_code 4 none 2 0 0 := C
  show G X h 0 0 0 [(0, .ref 0), (1, .int x1), (2, .int x2), (3, .int x3)] []
  unfold f_X10_moveByDraw at hrun
  refine g_iload_n C (dat dt_X10_moveByDraw 0 rfl) 3 rfl ?_
  refine g_if_ne 26 C (dat dt_X10_moveByDraw 1 rfl) (by decide) (fun c1 => ?_) (fun c1 => ?_)
  · rw [if_neg c1] at hrun
    refine g_sub [0, 1, 3] (lv' := [(0, .ref 0), (1, .int x1), (3, .int x3)]) rfl ?_
    exact wj_X10_moveByDraw_26 C    x1 x3 h _ hrun K
  · rw [if_pos c1] at hrun
    refine g_aload_n C (dat dt_X10_moveByDraw 2 rfl) 0 rfl ?_
    refine g_getR C (dat dt_X10_moveByDraw 3 rfl) fl_10_44 kd_0 rfl ltk_0 ?_
    refine g_iload_n C (dat dt_X10_moveByDraw 4 rfl) 2 rfl ?_
    obtain ⟨v5, q6, hrun⟩ := bd hrun
    refine g_cVi [.int x2] C (dat dt_X10_moveByDraw 5 rfl) ml_10_170 (w_X6_whoAt 17 x2 h v5 room_17 q6) kd_17 ltk_17 rfl rfl cat0 (by decide) c00 ?_
    refine g_iconst C (dat dt_X10_moveByDraw 6 rfl) ic_m1 ?_
    refine g_ic_ne 26 C (dat dt_X10_moveByDraw 7 rfl) (by decide) (fun c7 => ?_) (fun c7 => ?_)
    · rw [if_neg c7] at hrun
      refine g_sub [0, 1, 3] (lv' := [(0, .ref 0), (1, .int x1), (3, .int x3)]) rfl ?_
      exact wj_X10_moveByDraw_26 C    x1 x3 h _ hrun K
    · rw [if_pos c7] at hrun
      refine g_aload_n C (dat dt_X10_moveByDraw 8 rfl) 0 rfl ?_
      refine g_getR C (dat dt_X10_moveByDraw 9 rfl) fl_10_44 kd_0 rfl ltk_0 ?_
      refine g_getR C (dat dt_X10_moveByDraw 10 rfl) fl_10_149 kd_17 rfl ltk_17 ?_
      refine g_iload_n C (dat dt_X10_moveByDraw 11 rfl) 1 rfl ?_
      refine g_iload_n C (dat dt_X10_moveByDraw 12 rfl) 2 rfl ?_
      obtain ⟨j8, q9, hrun⟩ := bd hrun
      refine g_iast (j := j8) C (dat dt_X10_moveByDraw 13 rfl) kd_20 ltk_20 q9  ?_
      refine g_sub [0, 1, 3] (lv' := [(0, .ref 0), (1, .int x1), (3, .int x3)]) rfl ?_
      exact wj_X10_moveByDraw_26 C    x1 x3 (sA h 20 j8 x2) _ hrun K
/-! SteamNations.mornings(II)I -/
def dl_X10_mornings : List (Nat × Instr × Nat) := [(0, .iload_n 1, 1), (1, .ifCond .lt 21, 3), (4, .iload_n 1, 1), (5, .ldc_w 335, 3), (8, .if_icmp .gt 14, 3), (11, .iload_n 2, 1), (12, .iconst 1, 1), (13, .if_icmp .lt 9, 3), (16, .iload_n 2, 1), (17, .bipush 60, 2), (19, .if_icmp .le 9, 3), (22, .aload_n 0, 1), (23, .iconst (-1), 1), (24, .invokevirtual 119, 3), (27, .ireturn, 1), (28, .aload_n 0, 1), (29, .getfield 75, 3), (32, .getfield 123, 3), (35, .getfield 126, 3), (38, .istore_n 3, 1), (39, .iload_n 3, 1), (40, .ifCond .ne 10, 3), (43, .aload_n 0, 1), (44, .bipush (-3), 2), (46, .invokevirtual 119, 3), (49, .ireturn, 1), (50, .aload_n 0, 1), (51, .getfield 44, 3), (54, .aload_n 0, 1), (55, .getfield 75, 3), (58, .getfield 123, 3), (61, .invokevirtual 254, 3), (64, .iload_n 1, 1), (65, .istore 4, 2), (67, .iconst 0, 1), (68, .istore 5, 2), (70, .iload 5, 2), (72, .iload_n 2, 1), (73, .if_icmp .ge 88, 3), (76, .aload_n 0, 1), (77, .getfield 44, 3), (80, .getfield 184, 3), (83, .iconst 0, 1), (84, .iaload, 1), (85, .sipush 999, 3), (88, .if_icmp .ge 73, 3), (91, .iload 4, 2), (93, .invokestatic 355, 3), (96, .istore 4, 2), (98, .iload 4, 2), (100, .iload_n 3, 1), (101, .irem, 1), (102, .istore 6, 2), (104, .iload 4, 2), (106, .invokestatic 355, 3), (109, .istore 4, 2), (111, .iload 4, 2), (113, .bipush 9, 2), (115, .irem, 1), (116, .istore 7, 2), (118, .iload 4, 2), (120, .invokestatic 355, 3), (123, .istore 4, 2), (125, .aload_n 0, 1), (126, .iload 6, 2), (128, .iload 7, 2), (130, .iload 4, 2), (132, .iconst 3, 1), (133, .irem, 1), (134, .invokevirtual 358, 3), (137, .aload_n 0, 1), (138, .getfield 84, 3), (141, .aload_n 0, 1), (142, .getfield 44, 3), (145, .aload_n 0, 1), (146, .getfield 75, 3), (149, .invokevirtual 158, 3), (152, .invokevirtual 258, 3), (155, .iinc 5 1, 3), (158, .goto (-88), 3), (161, .aload_n 0, 1), (162, .aload_n 0, 1), (163, .getfield 44, 3), (166, .invokevirtual 352, 3), (169, .invokevirtual 119, 3), (172, .ireturn, 1)]
set_option maxRecDepth 20000 in
theorem dt_X10_mornings : ∀ q ∈ dl_X10_mornings, decode prog_1_method_34_code q.1 = .ok q.2 := by decide +kernel
def j_X10_mornings_22   (h : Hp) : Option (Int32 × Hp) :=
  (f_X10_answer (-1 : Int32) h).bind fun v2 =>
  some (v2.1, v2.2)
set_option maxRecDepth 20000 in
theorem wj_X10_mornings_22 {X : Xt} (C : Cx X cn_10 prog_1_method_34_code 8 (some .int) 5 0 0)     (h : Hp) (q : (Int32 × Hp)) (hrun : j_X10_mornings_22   h = some q) (K : EndQ X 0 0 (some (.int q.1)) q.2) : G X h 0 0 22 [(0, .ref 0)] [] := by
  unfold j_X10_mornings_22 at hrun
  refine g_aload_n C (dat dt_X10_mornings 11 rfl) 0 rfl ?_
  refine g_iconst C (dat dt_X10_mornings 12 rfl) ic_m1 ?_
  obtain ⟨v2, q3, hrun⟩ := bd hrun
  refine g_cVi [.int (-1 : Int32)] C (dat dt_X10_mornings 13 rfl) ml_10_119 (w_X10_answer (-1 : Int32) h v2  q3) kd_0 ltk_0 rfl rfl cat0 (by decide) c00 ?_
  cases hrun
  exact g_iret C K (dat dt_X10_mornings 14 rfl)
def kp_X10_mornings_70  (x2 : Int32) (x3 : Int32) (X : Xt) (s : (Int32 × Int32 × Hp)) : Prop := G X s.2.2 0 0 70 [(0, .ref 0), (2, .int x2), (3, .int x3), (4, .int s.1), (5, .int s.2.1)] []
def ke_X10_mornings_70  (x2 : Int32) (x3 : Int32) (X : Xt) (e : Hp) : Prop := G X e 0 0 161 [(0, .ref 0)] []
def b_X10_mornings_70  (x2 : Int32) (x3 : Int32) (x4 : Int32) (x5 : Int32) (h : Hp) : Option ((Int32 × Int32 × Hp) ⊕ Hp) :=
  if x2 ≤ x5 then
  some (.inr ( h))
  else
  if (999 : Int32) ≤ (aI h 21 0) then
  some (.inr ( h))
  else
  (f_X10_nextDraw x4).bind fun v12 =>
  if x3 = 0 then none else
  (f_X10_nextDraw v12).bind fun v15 =>
  (f_X10_nextDraw v15).bind fun v17 =>
  (f_X10_moveByDraw (v12 - v12 / x3 * x3) (v15 - v15 / (9 : Int32) * (9 : Int32)) (v17 - v17 / (3 : Int32) * (3 : Int32)) h).bind fun v19 =>
  (f_X1_inForce 32 v19.2).bind fun v21 =>
  (f_X8_passMinute 17 v21 v19.2).bind fun v23 =>
  some (.inl (v17, (x5 + (1 : Int32)), v23.2))
set_option maxRecDepth 20000 in
theorem wb_X10_mornings_70 {X : Xt} (C : Cx X cn_10 prog_1_method_34_code 8 (some .int) 5 0 0)   (x2 : Int32) (x3 : Int32) (x4 : Int32) (x5 : Int32) (h : Hp) (q : (Int32 × Int32 × Hp) ⊕ Hp) (hrun : b_X10_mornings_70  x2 x3 x4 x5 h = some q) (Ks : ∀ s, q = .inl s → kp_X10_mornings_70  x2 x3 X s) (Ke : ∀ e, q = .inr e → ke_X10_mornings_70  x2 x3 X e) : kp_X10_mornings_70  x2 x3 X (x4, x5, h) := by
  show G X h 0 0 70 [(0, .ref 0), (2, .int x2), (3, .int x3), (4, .int x4), (5, .int x5)] []
  unfold b_X10_mornings_70 at hrun
  refine g_iload C (dat dt_X10_mornings 36 rfl) 4 rfl ?_
  refine g_iload_n C (dat dt_X10_mornings 37 rfl) 1 rfl ?_
  refine g_ic_ge 161 C (dat dt_X10_mornings 38 rfl) (by decide) (fun c10 => ?_) (fun c10 => ?_)
  · rw [if_pos c10] at hrun
    refine g_sub [0] (lv' := [(0, .ref 0)]) rfl ?_
    cases hrun
    exact Ke ( h) rfl
  · rw [if_neg c10] at hrun
    refine g_aload_n C (dat dt_X10_mornings 39 rfl) 0 rfl ?_
    refine g_getR C (dat dt_X10_mornings 40 rfl) fl_10_44 kd_0 rfl ltk_0 ?_
    refine g_getR C (dat dt_X10_mornings 41 rfl) fl_10_184 kd_17 rfl ltk_17 ?_
    refine g_iconst C (dat dt_X10_mornings 42 rfl) ic_0 ?_
    refine g_iald (j := 0) C (dat dt_X10_mornings 43 rfl) kd_21 ltk_21 (show inb (0 : Int32) 3 = some 0 by decide) ?_
    refine g_sipush C (dat dt_X10_mornings 44 rfl) sp_999 ?_
    refine g_ic_ge 161 C (dat dt_X10_mornings 45 rfl) (by decide) (fun c11 => ?_) (fun c11 => ?_)
    · rw [if_pos c11] at hrun
      refine g_sub [0] (lv' := [(0, .ref 0)]) rfl ?_
      cases hrun
      exact Ke ( h) rfl
    · rw [if_neg c11] at hrun
      refine g_iload C (dat dt_X10_mornings 46 rfl) 3 rfl ?_
      obtain ⟨v12, q13, hrun⟩ := bd hrun
      refine g_cSi [.int x4] C (dat dt_X10_mornings 47 rfl) ml_10_355 (w_X10_nextDraw x4 h v12  q13) rfl rfl cat0 (by decide) c00 ?_
      refine g_istore (lv' := [(0, .ref 0), (2, .int x2), (3, .int x3), (4, .int v12), (5, .int x5)]) C (dat dt_X10_mornings 48 rfl) (by decide) rfl ?_
      refine g_iload C (dat dt_X10_mornings 49 rfl) 3 rfl ?_
      refine g_iload_n C (dat dt_X10_mornings 50 rfl) 2 rfl ?_
      by_cases c14 : x3 = 0
      · rw [if_pos c14] at hrun
        cases hrun
      · rw [if_neg c14] at hrun
        refine g_irem C (dat dt_X10_mornings 51 rfl) c14 ?_
        refine g_istore (lv' := [(0, .ref 0), (2, .int x2), (3, .int x3), (4, .int v12), (5, .int x5), (6, .int (v12 - v12 / x3 * x3))]) C (dat dt_X10_mornings 52 rfl) (by decide) rfl ?_
        refine g_iload C (dat dt_X10_mornings 53 rfl) 3 rfl ?_
        obtain ⟨v15, q16, hrun⟩ := bd hrun
        refine g_cSi [.int v12] C (dat dt_X10_mornings 54 rfl) ml_10_355 (w_X10_nextDraw v12 h v15  q16) rfl rfl cat0 (by decide) c00 ?_
        refine g_istore (lv' := [(0, .ref 0), (2, .int x2), (3, .int x3), (4, .int v15), (5, .int x5), (6, .int (v12 - v12 / x3 * x3))]) C (dat dt_X10_mornings 55 rfl) (by decide) rfl ?_
        refine g_iload C (dat dt_X10_mornings 56 rfl) 3 rfl ?_
        refine g_bipush C (dat dt_X10_mornings 57 rfl) bp_9 ?_
        refine g_irem C (dat dt_X10_mornings 58 rfl) (by decide) ?_
        refine g_istore (lv' := [(0, .ref 0), (2, .int x2), (3, .int x3), (4, .int v15), (5, .int x5), (6, .int (v12 - v12 / x3 * x3)), (7, .int (v15 - v15 / (9 : Int32) * (9 : Int32)))]) C (dat dt_X10_mornings 59 rfl) (by decide) rfl ?_
        refine g_iload C (dat dt_X10_mornings 60 rfl) 3 rfl ?_
        obtain ⟨v17, q18, hrun⟩ := bd hrun
        refine g_cSi [.int v15] C (dat dt_X10_mornings 61 rfl) ml_10_355 (w_X10_nextDraw v15 h v17  q18) rfl rfl cat0 (by decide) c00 ?_
        refine g_istore (lv' := [(0, .ref 0), (2, .int x2), (3, .int x3), (4, .int v17), (5, .int x5), (6, .int (v12 - v12 / x3 * x3)), (7, .int (v15 - v15 / (9 : Int32) * (9 : Int32)))]) C (dat dt_X10_mornings 62 rfl) (by decide) rfl ?_
        refine g_aload_n C (dat dt_X10_mornings 63 rfl) 0 rfl ?_
        refine g_iload C (dat dt_X10_mornings 64 rfl) 5 rfl ?_
        refine g_iload C (dat dt_X10_mornings 65 rfl) 6 rfl ?_
        refine g_iload C (dat dt_X10_mornings 66 rfl) 3 rfl ?_
        refine g_iconst C (dat dt_X10_mornings 67 rfl) ic_3 ?_
        refine g_irem C (dat dt_X10_mornings 68 rfl) (by decide) ?_
        obtain ⟨v19, q20, hrun⟩ := bd hrun
        refine g_cVv [.int (v12 - v12 / x3 * x3), .int (v15 - v15 / (9 : Int32) * (9 : Int32)), .int (v17 - v17 / (3 : Int32) * (3 : Int32))] C (dat dt_X10_mornings 69 rfl) ml_10_358 (w_X10_moveByDraw (v12 - v12 / x3 * x3) (v15 - v15 / (9 : Int32) * (9 : Int32)) (v17 - v17 / (3 : Int32) * (3 : Int32)) h v19  q20) kd_0 ltk_0 rfl rfl cat0 (by decide) c00 ?_
        refine g_aload_n C (dat dt_X10_mornings 70 rfl) 0 rfl ?_
        refine g_getR C (dat dt_X10_mornings 71 rfl) fl_10_84 kd_0 rfl ltk_0 ?_
        refine g_aload_n C (dat dt_X10_mornings 72 rfl) 0 rfl ?_
        refine g_getR C (dat dt_X10_mornings 73 rfl) fl_10_44 kd_0 rfl ltk_0 ?_
        refine g_aload_n C (dat dt_X10_mornings 74 rfl) 0 rfl ?_
        refine g_getR C (dat dt_X10_mornings 75 rfl) fl_10_75 kd_0 rfl ltk_0 ?_
        obtain ⟨v21, q22, hrun⟩ := bd hrun
        refine g_cVr [] C (dat dt_X10_mornings 76 rfl) ml_10_158 (w_X1_inForce 32 v19.2 v21 house_32 q22) kd_32 ltk_32 rfl rfl (Nat.le_of_ble_eq_true rfl) (by decide) c00 ?_
        obtain ⟨v23, q24, hrun⟩ := bd hrun
        refine g_cVv [.ref 17, .ref v21] C (dat dt_X10_mornings 77 rfl) ml_10_258 (w_X8_passMinute 17 v21 v19.2 v23 room_17 q24) kd_56 ltk_56 rfl rfl cat0 (by decide) c00 ?_
        refine g_iinc (v := (x5 + (1 : Int32))) (lv' := [(0, .ref 0), (2, .int x2), (3, .int x3), (4, .int v17), (5, .int (x5 + (1 : Int32))), (6, .int (v12 - v12 / x3 * x3)), (7, .int (v15 - v15 / (9 : Int32) * (9 : Int32)))]) C (dat dt_X10_mornings 78 rfl) 4 rfl (congrArg (fun z => x5 + z) ic_1) (by decide) rfl ?_
        refine g_goto 70 C (dat dt_X10_mornings 79 rfl) (by decide) ?_
        refine g_sub [0, 1, 2, 3, 4] (lv' := [(0, .ref 0), (2, .int x2), (3, .int x3), (4, .int v17), (5, .int (x5 + (1 : Int32)))]) rfl ?_
        cases hrun
        exact Ks (v17, (x5 + (1 : Int32)), v23.2) rfl
def j_X10_mornings_161   (h : Hp) : Option (Int32 × Hp) :=
  (f_X6_contented 17 h).bind fun v27 =>
  (f_X10_answer v27 h).bind fun v29 =>
  some (v29.1, v29.2)
set_option maxRecDepth 20000 in
theorem wj_X10_mornings_161 {X : Xt} (C : Cx X cn_10 prog_1_method_34_code 8 (some .int) 5 0 0)     (h : Hp) (q : (Int32 × Hp)) (hrun : j_X10_mornings_161   h = some q) (K : EndQ X 0 0 (some (.int q.1)) q.2) : G X h 0 0 161 [(0, .ref 0)] [] := by
  unfold j_X10_mornings_161 at hrun
  refine g_aload_n C (dat dt_X10_mornings 80 rfl) 0 rfl ?_
  refine g_aload_n C (dat dt_X10_mornings 81 rfl) 0 rfl ?_
  refine g_getR C (dat dt_X10_mornings 82 rfl) fl_10_44 kd_0 rfl ltk_0 ?_
  obtain ⟨v27, q28, hrun⟩ := bd hrun
  refine g_cVi [] C (dat dt_X10_mornings 83 rfl) ml_10_352 (w_X6_contented 17 h v27 room_17 q28) kd_17 ltk_17 rfl rfl (Nat.le_of_ble_eq_true rfl) (by decide) c00 ?_
  obtain ⟨v29, q30, hrun⟩ := bd hrun
  refine g_cVi [.int v27] C (dat dt_X10_mornings 84 rfl) ml_10_119 (w_X10_answer v27 h v29  q30) kd_0 ltk_0 rfl rfl cat0 (by decide) c00 ?_
  cases hrun
  exact g_iret C K (dat dt_X10_mornings 85 rfl)
def f_X10_mornings (x1 : Int32) (x2 : Int32) (h : Hp) : Option (Int32 × Hp) :=
  if x1 < 0 then
  j_X10_mornings_22   h
  else
  if (1000000 : Int32) < x1 then
  j_X10_mornings_22   h
  else
  if x2 < (1 : Int32) then
  j_X10_mornings_22   h
  else
  if x2 ≤ (60 : Int32) then
  if (fI h 33 0) = 0 then
  (f_X10_answer (-3 : Int32) h).bind fun v31 =>
  some (v31.1, v31.2)
  else
  (f_X6_copyFrom 17 33 h).bind fun v8 =>
  (lp (fun s => b_X10_mornings_70  x2 (fI h 33 0) s.1 s.2.1 s.2.2) FU (x1, (0 : Int32), v8.2)).bind fun e25 =>
  j_X10_mornings_161   e25
  else
  j_X10_mornings_22   h
set_option maxRecDepth 20000 in
theorem w_X10_mornings (x1 : Int32) (x2 : Int32) (h : Hp) (q : (Int32 × Hp))  (hrun : f_X10_mornings x1 x2 h = some q) : MetA ⟨"SteamNations", "mornings", "(II)I"⟩ prog_1_method_34_code 8 (some .int) 5 0 0 [.ref 0, .int x1, .int x2] h (some (.int q.1)) q.2 := by
  refine metA_of (by decide) (Nat.le_of_ble_eq_true rfl) (fun X C K => ?_)
  have C : Cx X cn_10 prog_1_method_34_code 8 (some .int) 5 0 0 := C
  show G X h 0 0 0 [(0, .ref 0), (1, .int x1), (2, .int x2)] []
  unfold f_X10_mornings at hrun
  refine g_iload_n C (dat dt_X10_mornings 0 rfl) 1 rfl ?_
  refine g_if_lt 22 C (dat dt_X10_mornings 1 rfl) (by decide) (fun c1 => ?_) (fun c1 => ?_)
  · rw [if_pos c1] at hrun
    refine g_sub [0] (lv' := [(0, .ref 0)]) rfl ?_
    exact wj_X10_mornings_22 C     h _ hrun K
  · rw [if_neg c1] at hrun
    refine g_iload_n C (dat dt_X10_mornings 2 rfl) 1 rfl ?_
    refine g_ldcw C (dat dt_X10_mornings 3 rfl) kc_10_335 ?_
    refine g_ic_gt 22 C (dat dt_X10_mornings 4 rfl) (by decide) (fun c4 => ?_) (fun c4 => ?_)
    · rw [if_pos c4] at hrun
      refine g_sub [0] (lv' := [(0, .ref 0)]) rfl ?_
      exact wj_X10_mornings_22 C     h _ hrun K
    · rw [if_neg c4] at hrun
      refine g_iload_n C (dat dt_X10_mornings 5 rfl) 2 rfl ?_
      refine g_iconst C (dat dt_X10_mornings 6 rfl) ic_1 ?_
      refine g_ic_lt 22 C (dat dt_X10_mornings 7 rfl) (by decide) (fun c5 => ?_) (fun c5 => ?_)
      · rw [if_pos c5] at hrun
        refine g_sub [0] (lv' := [(0, .ref 0)]) rfl ?_
        exact wj_X10_mornings_22 C     h _ hrun K
      · rw [if_neg c5] at hrun
        refine g_iload_n C (dat dt_X10_mornings 8 rfl) 2 rfl ?_
        refine g_bipush C (dat dt_X10_mornings 9 rfl) bp_60 ?_
        refine g_ic_le 28 C (dat dt_X10_mornings 10 rfl) (by decide) (fun c6 => ?_) (fun c6 => ?_)
        · rw [if_pos c6] at hrun
          refine g_aload_n C (dat dt_X10_mornings 15 rfl) 0 rfl ?_
          refine g_getR C (dat dt_X10_mornings 16 rfl) fl_10_75 kd_0 rfl ltk_0 ?_
          refine g_getR C (dat dt_X10_mornings 17 rfl) fl_10_123 kd_32 rfl ltk_32 ?_
          refine g_getI C (dat dt_X10_mornings 18 rfl) fl_10_126 kd_33 rfl ltk_33 ?_
          refine g_istore_n (lv' := [(0, .ref 0), (1, .int x1), (2, .int x2), (3, .int (fI h 33 0))]) C (dat dt_X10_mornings 19 rfl) (by decide) rfl ?_
          refine g_iload_n C (dat dt_X10_mornings 20 rfl) 3 rfl ?_
          refine g_if_ne 50 C (dat dt_X10_mornings 21 rfl) (by decide) (fun c7 => ?_) (fun c7 => ?_)
          · rw [if_neg c7] at hrun
            refine g_aload_n C (dat dt_X10_mornings 26 rfl) 0 rfl ?_
            refine g_getR C (dat dt_X10_mornings 27 rfl) fl_10_44 kd_0 rfl ltk_0 ?_
            refine g_aload_n C (dat dt_X10_mornings 28 rfl) 0 rfl ?_
            refine g_getR C (dat dt_X10_mornings 29 rfl) fl_10_75 kd_0 rfl ltk_0 ?_
            refine g_getR C (dat dt_X10_mornings 30 rfl) fl_10_123 kd_32 rfl ltk_32 ?_
            obtain ⟨v8, q9, hrun⟩ := bd hrun
            refine g_cVv [.ref 33] C (dat dt_X10_mornings 31 rfl) ml_10_254 (w_X6_copyFrom 17 33 h v8 room_17 room_33 q9) kd_17 ltk_17 rfl rfl cat0 (by decide) c00 ?_
            refine g_iload_n C (dat dt_X10_mornings 32 rfl) 1 rfl ?_
            refine g_istore (lv' := [(0, .ref 0), (1, .int x1), (2, .int x2), (3, .int (fI h 33 0)), (4, .int x1)]) C (dat dt_X10_mornings 33 rfl) (by decide) rfl ?_
            refine g_iconst C (dat dt_X10_mornings 34 rfl) ic_0 ?_
            refine g_istore (lv' := [(0, .ref 0), (1, .int x1), (2, .int x2), (3, .int (fI h 33 0)), (4, .int x1), (5, .int (0 : Int32))]) C (dat dt_X10_mornings 35 rfl) (by decide) rfl ?_
            refine g_sub [0, 2, 3, 4, 5] (lv' := [(0, .ref 0), (2, .int x2), (3, .int (fI h 33 0)), (4, .int x1), (5, .int (0 : Int32))]) rfl ?_
            obtain ⟨e25, q26, hrun⟩ := bd hrun
            refine lp_ind (P := fun s => kp_X10_mornings_70  x2 (fI h 33 0) X s) (K := fun e => ke_X10_mornings_70  x2 (fI h 33 0) X e) (fun s q hb Ks Ke => wb_X10_mornings_70 C   x2 (fI h 33 0) s.1 s.2.1 s.2.2 q hb Ks Ke) FU (x1, (0 : Int32), v8.2) e25 q26 ?_
            show G X e25 0 0 161 [(0, .ref 0)] []
            exact wj_X10_mornings_161 C     e25 _ hrun K
          · rw [if_pos c7] at hrun
            refine g_aload_n C (dat dt_X10_mornings 22 rfl) 0 rfl ?_
            refine g_bipush C (dat dt_X10_mornings 23 rfl) bp_m3 ?_
            obtain ⟨v31, q32, hrun⟩ := bd hrun
            refine g_cVi [.int (-3 : Int32)] C (dat dt_X10_mornings 24 rfl) ml_10_119 (w_X10_answer (-3 : Int32) h v31  q32) kd_0 ltk_0 rfl rfl cat0 (by decide) c00 ?_
            cases hrun
            exact g_iret C K (dat dt_X10_mornings 25 rfl)
        · rw [if_neg c6] at hrun
          refine g_sub [0] (lv' := [(0, .ref 0)]) rfl ?_
          exact wj_X10_mornings_22 C     h _ hrun K
/-! SteamNations.drawn(II)I -/
def dl_X10_drawn : List (Nat × Instr × Nat) := [(0, .aload_n 0, 1), (1, .getfield 44, 3), (4, .iload_n 1, 1), (5, .invokevirtual 139, 3), (8, .ifCond .eq 12, 3), (11, .iload_n 2, 1), (12, .ifCond .lt 8, 3), (15, .iload_n 2, 1), (16, .iconst 3, 1), (17, .if_icmp .le 5, 3), (20, .iconst (-1), 1), (21, .ireturn, 1), (22, .iload_n 2, 1), (23, .iconst 3, 1), (24, .if_icmp .ne 15, 3), (27, .aload_n 0, 1), (28, .getfield 44, 3), (31, .getfield 149, 3), (34, .iload_n 1, 1), (35, .iaload, 1), (36, .goto 16, 3), (39, .aload_n 0, 1), (40, .getfield 44, 3), (43, .getfield 143, 3), (46, .iload_n 1, 1), (47, .iconst 3, 1), (48, .imul, 1), (49, .iload_n 2, 1), (50, .iadd, 1), (51, .iaload, 1), (52, .ireturn, 1)]
set_option maxRecDepth 20000 in
theorem dt_X10_drawn : ∀ q ∈ dl_X10_drawn, decode prog_1_method_35_code q.1 = .ok q.2 := by decide +kernel
def f_X10_drawn (x1 : Int32) (x2 : Int32) (h : Hp) : Option Int32 :=
  (f_X6_has 17 x1 h).bind fun v1 =>
  if v1 = true then
  if x2 < 0 then
  some (-1 : Int32)
  else
  if x2 ≤ (3 : Int32) then
  if x2 = (3 : Int32) then
  (inb x1 6).bind fun j9 =>
  some (aI h 20 j9)
  else
  (inb ((x1 * (3 : Int32)) + x2) 18).bind fun j7 =>
  some (aI h 18 j7)
  else
  some (-1 : Int32)
  else
  some (-1 : Int32)
set_option maxRecDepth 20000 in
theorem w_X10_drawn (x1 : Int32) (x2 : Int32) (h : Hp) (q : Int32)  (hrun : f_X10_drawn x1 x2 h = some q) : MetA ⟨"SteamNations", "drawn", "(II)I"⟩ prog_1_method_35_code 3 (some .int) 2 0 0 [.ref 0, .int x1, .int x2] h (some (.int q)) h := by
  refine metA_of (by decide) (Nat.le_of_ble_eq_true rfl) (fun X C K => ?_)
  have C : Cx X cn_10 prog_1_method_35_code 3 (some .int) 2 0 0 := C
  show G X h 0 0 0 [(0, .ref 0), (1, .int x1), (2, .int x2)] []
  unfold f_X10_drawn at hrun
  refine g_aload_n C (dat dt_X10_drawn 0 rfl) 0 rfl ?_
  refine g_getR C (dat dt_X10_drawn 1 rfl) fl_10_44 kd_0 rfl ltk_0 ?_
  refine g_iload_n C (dat dt_X10_drawn 2 rfl) 1 rfl ?_
  obtain ⟨v1, q2, hrun⟩ := bd hrun
  refine g_cVi [.int x1] C (dat dt_X10_drawn 3 rfl) ml_10_139 (w_X6_has 17 x1 h v1 room_17 q2) kd_17 ltk_17 rfl rfl cat0 (by decide) c00 ?_
  refine g_if_eq 20 C (dat dt_X10_drawn 4 rfl) (by decide) (fun c3 => ?_) (fun c3 => ?_)
  · rw [if_neg (b2i_z c3)] at hrun
    refine g_iconst C (dat dt_X10_drawn 10 rfl) ic_m1 ?_
    cases hrun
    exact g_iret C K (dat dt_X10_drawn 11 rfl)
  · rw [if_pos (b2i_nz c3)] at hrun
    refine g_iload_n C (dat dt_X10_drawn 5 rfl) 2 rfl ?_
    refine g_if_lt 20 C (dat dt_X10_drawn 6 rfl) (by decide) (fun c4 => ?_) (fun c4 => ?_)
    · rw [if_pos c4] at hrun
      refine g_iconst C (dat dt_X10_drawn 10 rfl) ic_m1 ?_
      cases hrun
      exact g_iret C K (dat dt_X10_drawn 11 rfl)
    · rw [if_neg c4] at hrun
      refine g_iload_n C (dat dt_X10_drawn 7 rfl) 2 rfl ?_
      refine g_iconst C (dat dt_X10_drawn 8 rfl) ic_3 ?_
      refine g_ic_le 22 C (dat dt_X10_drawn 9 rfl) (by decide) (fun c5 => ?_) (fun c5 => ?_)
      · rw [if_pos c5] at hrun
        refine g_iload_n C (dat dt_X10_drawn 12 rfl) 2 rfl ?_
        refine g_iconst C (dat dt_X10_drawn 13 rfl) ic_3 ?_
        refine g_ic_ne 39 C (dat dt_X10_drawn 14 rfl) (by decide) (fun c6 => ?_) (fun c6 => ?_)
        · rw [if_neg c6] at hrun
          refine g_aload_n C (dat dt_X10_drawn 21 rfl) 0 rfl ?_
          refine g_getR C (dat dt_X10_drawn 22 rfl) fl_10_44 kd_0 rfl ltk_0 ?_
          refine g_getR C (dat dt_X10_drawn 23 rfl) fl_10_143 kd_17 rfl ltk_17 ?_
          refine g_iload_n C (dat dt_X10_drawn 24 rfl) 1 rfl ?_
          refine g_iconst C (dat dt_X10_drawn 25 rfl) ic_3 ?_
          refine g_imul C (dat dt_X10_drawn 26 rfl) ?_
          refine g_iload_n C (dat dt_X10_drawn 27 rfl) 2 rfl ?_
          refine g_iadd C (dat dt_X10_drawn 28 rfl) ?_
          obtain ⟨j7, q8, hrun⟩ := bd hrun
          refine g_iald C (dat dt_X10_drawn 29 rfl) kd_18 ltk_18 q8 ?_
          cases hrun
          exact g_iret C K (dat dt_X10_drawn 30 rfl)
        · rw [if_pos c6] at hrun
          refine g_aload_n C (dat dt_X10_drawn 15 rfl) 0 rfl ?_
          refine g_getR C (dat dt_X10_drawn 16 rfl) fl_10_44 kd_0 rfl ltk_0 ?_
          refine g_getR C (dat dt_X10_drawn 17 rfl) fl_10_149 kd_17 rfl ltk_17 ?_
          refine g_iload_n C (dat dt_X10_drawn 18 rfl) 1 rfl ?_
          obtain ⟨j9, q10, hrun⟩ := bd hrun
          refine g_iald C (dat dt_X10_drawn 19 rfl) kd_20 ltk_20 q10 ?_
          refine g_goto 52 C (dat dt_X10_drawn 20 rfl) (by decide) ?_
          cases hrun
          exact g_iret C K (dat dt_X10_drawn 30 rfl)
      · rw [if_neg c5] at hrun
        refine g_iconst C (dat dt_X10_drawn 10 rfl) ic_m1 ?_
        cases hrun
        exact g_iret C K (dat dt_X10_drawn 11 rfl)
/-! SteamNations.image(I)I -/
def dl_X10_image : List (Nat × Instr × Nat) := [(0, .iload_n 1, 1), (1, .ifCond .lt 8, 3), (4, .iload_n 1, 1), (5, .iconst 2, 1), (6, .if_icmp .lt 9, 3), (9, .aload_n 0, 1), (10, .iconst (-1), 1), (11, .invokevirtual 119, 3), (14, .ireturn, 1), (15, .aload_n 0, 1), (16, .getfield 11, 3), (19, .iload_n 1, 1), (20, .aaload, 1), (21, .aload_n 0, 1), (22, .getfield 75, 3), (25, .invokevirtual 362, 3), (28, .aload_n 0, 1), (29, .getfield 15, 3), (32, .iload_n 1, 1), (33, .iconst 1, 1), (34, .bastore, 1), (35, .aload_n 0, 1), (36, .iconst 0, 1), (37, .invokevirtual 119, 3), (40, .ireturn, 1)]
set_option maxRecDepth 20000 in
theorem dt_X10_image : ∀ q ∈ dl_X10_image, decode prog_1_method_36_code q.1 = .ok q.2 := by decide +kernel
def j_X10_image_9   (h : Hp) : Option (Int32 × Hp) :=
  (f_X10_answer (-1 : Int32) h).bind fun v2 =>
  some (v2.1, v2.2)
set_option maxRecDepth 20000 in
theorem wj_X10_image_9 {X : Xt} (C : Cx X cn_10 prog_1_method_36_code 2 (some .int) 3 0 0)     (h : Hp) (q : (Int32 × Hp)) (hrun : j_X10_image_9   h = some q) (K : EndQ X 0 0 (some (.int q.1)) q.2) : G X h 0 0 9 [(0, .ref 0)] [] := by
  unfold j_X10_image_9 at hrun
  refine g_aload_n C (dat dt_X10_image 5 rfl) 0 rfl ?_
  refine g_iconst C (dat dt_X10_image 6 rfl) ic_m1 ?_
  obtain ⟨v2, q3, hrun⟩ := bd hrun
  refine g_cVi [.int (-1 : Int32)] C (dat dt_X10_image 7 rfl) ml_10_119 (w_X10_answer (-1 : Int32) h v2  q3) kd_0 ltk_0 rfl rfl cat0 (by decide) c00 ?_
  cases hrun
  exact g_iret C K (dat dt_X10_image 8 rfl)
def f_X10_image (x1 : Int32) (h : Hp) : Option (Int32 × Hp) :=
  if x1 < 0 then
  j_X10_image_9   h
  else
  if x1 < (2 : Int32) then
  (inb x1 2).bind fun j5 =>
  oc (aO h 1 j5) none (fun v7 =>
  if v7 = 40 then
  (f_X1_copyFrom 40 32 h).bind fun v9 =>
  (inb x1 2).bind fun j11 =>
  (f_X10_answer (0 : Int32) (sA v9.2 2 j11 (b2i true))).bind fun v13 =>
  some (v13.1, v13.2)
  else if v7 = 48 then
  (f_X1_copyFrom 48 32 h).bind fun v15 =>
  (inb x1 2).bind fun j17 =>
  (f_X10_answer (0 : Int32) (sA v15.2 2 j17 (b2i true))).bind fun v19 =>
  some (v19.1, v19.2)
  else none)
  else
  j_X10_image_9   h
set_option maxRecDepth 20000 in
theorem w_X10_image (x1 : Int32) (h : Hp) (q : (Int32 × Hp))  (hrun : f_X10_image x1 h = some q) : MetA ⟨"SteamNations", "image", "(I)I"⟩ prog_1_method_36_code 2 (some .int) 3 0 0 [.ref 0, .int x1] h (some (.int q.1)) q.2 := by
  refine metA_of (by decide) (Nat.le_of_ble_eq_true rfl) (fun X C K => ?_)
  have C : Cx X cn_10 prog_1_method_36_code 2 (some .int) 3 0 0 := C
  show G X h 0 0 0 [(0, .ref 0), (1, .int x1)] []
  unfold f_X10_image at hrun
  refine g_iload_n C (dat dt_X10_image 0 rfl) 1 rfl ?_
  refine g_if_lt 9 C (dat dt_X10_image 1 rfl) (by decide) (fun c1 => ?_) (fun c1 => ?_)
  · rw [if_pos c1] at hrun
    refine g_sub [0] (lv' := [(0, .ref 0)]) rfl ?_
    exact wj_X10_image_9 C     h _ hrun K
  · rw [if_neg c1] at hrun
    refine g_iload_n C (dat dt_X10_image 2 rfl) 1 rfl ?_
    refine g_iconst C (dat dt_X10_image 3 rfl) ic_2 ?_
    refine g_ic_lt 15 C (dat dt_X10_image 4 rfl) (by decide) (fun c4 => ?_) (fun c4 => ?_)
    · rw [if_pos c4] at hrun
      refine g_aload_n C (dat dt_X10_image 9 rfl) 0 rfl ?_
      refine g_getR C (dat dt_X10_image 10 rfl) fl_10_11 kd_0 rfl ltk_0 ?_
      refine g_iload_n C (dat dt_X10_image 11 rfl) 1 rfl ?_
      obtain ⟨j5, q6, hrun⟩ := bd hrun
      refine g_aald C (dat dt_X10_image 12 rfl) kd_1 (Or.inr rfl) ltk_1 q6 (fun o8 => ?_) (fun v7 o8 => ?_)
      · rw [o8, oc_n] at hrun
        cases hrun
      · rw [o8, oc_s] at hrun
        by_cases c21 : v7 = 40
        · rw [if_pos c21] at hrun
          subst c21
          refine g_aload_n C (dat dt_X10_image 13 rfl) 0 rfl ?_
          refine g_getR C (dat dt_X10_image 14 rfl) fl_10_75 kd_0 rfl ltk_0 ?_
          obtain ⟨v9, q10, hrun⟩ := bd hrun
          refine g_cVv [.ref 32] C (dat dt_X10_image 15 rfl) ml_10_362 (w_X1_copyFrom 40 32 h v9 house_40 house_32 q10) kd_40 ltk_40 rfl rfl cat0 (by decide) c00 ?_
          refine g_aload_n C (dat dt_X10_image 16 rfl) 0 rfl ?_
          refine g_getR C (dat dt_X10_image 17 rfl) fl_10_15 kd_0 rfl ltk_0 ?_
          refine g_iload_n C (dat dt_X10_image 18 rfl) 1 rfl ?_
          refine g_iconst C (dat dt_X10_image 19 rfl) ic_1 ?_
          obtain ⟨j11, q12, hrun⟩ := bd hrun
          refine g_zast (b := true) (j := j11) C (dat dt_X10_image 20 rfl) kd_2 ltk_2 q12 rfl ?_
          refine g_aload_n C (dat dt_X10_image 21 rfl) 0 rfl ?_
          refine g_iconst C (dat dt_X10_image 22 rfl) ic_0 ?_
          obtain ⟨v13, q14, hrun⟩ := bd hrun
          refine g_cVi [.int (0 : Int32)] C (dat dt_X10_image 23 rfl) ml_10_119 (w_X10_answer (0 : Int32) (sA v9.2 2 j11 (b2i true)) v13  q14) kd_0 ltk_0 rfl rfl cat0 (by decide) c00 ?_
          cases hrun
          exact g_iret C K (dat dt_X10_image 24 rfl)
        · rw [if_neg c21] at hrun
          by_cases c22 : v7 = 48
          · rw [if_pos c22] at hrun
            subst c22
            refine g_aload_n C (dat dt_X10_image 13 rfl) 0 rfl ?_
            refine g_getR C (dat dt_X10_image 14 rfl) fl_10_75 kd_0 rfl ltk_0 ?_
            obtain ⟨v15, q16, hrun⟩ := bd hrun
            refine g_cVv [.ref 32] C (dat dt_X10_image 15 rfl) ml_10_362 (w_X1_copyFrom 48 32 h v15 house_48 house_32 q16) kd_48 ltk_48 rfl rfl cat0 (by decide) c00 ?_
            refine g_aload_n C (dat dt_X10_image 16 rfl) 0 rfl ?_
            refine g_getR C (dat dt_X10_image 17 rfl) fl_10_15 kd_0 rfl ltk_0 ?_
            refine g_iload_n C (dat dt_X10_image 18 rfl) 1 rfl ?_
            refine g_iconst C (dat dt_X10_image 19 rfl) ic_1 ?_
            obtain ⟨j17, q18, hrun⟩ := bd hrun
            refine g_zast (b := true) (j := j17) C (dat dt_X10_image 20 rfl) kd_2 ltk_2 q18 rfl ?_
            refine g_aload_n C (dat dt_X10_image 21 rfl) 0 rfl ?_
            refine g_iconst C (dat dt_X10_image 22 rfl) ic_0 ?_
            obtain ⟨v19, q20, hrun⟩ := bd hrun
            refine g_cVi [.int (0 : Int32)] C (dat dt_X10_image 23 rfl) ml_10_119 (w_X10_answer (0 : Int32) (sA v15.2 2 j17 (b2i true)) v19  q20) kd_0 ltk_0 rfl rfl cat0 (by decide) c00 ?_
            cases hrun
            exact g_iret C K (dat dt_X10_image 24 rfl)
          · rw [if_neg c22] at hrun
            cases hrun
    · rw [if_neg c4] at hrun
      refine g_sub [0] (lv' := [(0, .ref 0)]) rfl ?_
      exact wj_X10_image_9 C     h _ hrun K
/-! SteamNations.back(I)I -/
def dl_X10_back : List (Nat × Instr × Nat) := [(0, .iload_n 1, 1), (1, .ifCond .lt 8, 3), (4, .iload_n 1, 1), (5, .iconst 2, 1), (6, .if_icmp .lt 9, 3), (9, .aload_n 0, 1), (10, .iconst (-1), 1), (11, .invokevirtual 119, 3), (14, .ireturn, 1), (15, .aload_n 0, 1), (16, .getfield 15, 3), (19, .iload_n 1, 1), (20, .baload, 1), (21, .ifCond .ne 10, 3), (24, .aload_n 0, 1), (25, .bipush (-2), 2), (27, .invokevirtual 119, 3), (30, .ireturn, 1), (31, .aload_n 0, 1), (32, .getfield 75, 3), (35, .aload_n 0, 1), (36, .getfield 11, 3), (39, .iload_n 1, 1), (40, .aaload, 1), (41, .invokevirtual 362, 3), (44, .aload_n 0, 1), (45, .getfield 33, 3), (48, .invokevirtual 129, 3), (51, .aload_n 0, 1), (52, .iconst 0, 1), (53, .invokevirtual 136, 3), (56, .ireturn, 1)]
set_option maxRecDepth 20000 in
theorem dt_X10_back : ∀ q ∈ dl_X10_back, decode prog_1_method_37_code q.1 = .ok q.2 := by decide +kernel
def j_X10_back_9   (h : Hp) : Option (Int32 × Hp) :=
  (f_X10_answer (-1 : Int32) h).bind fun v2 =>
  some (v2.1, v2.2)
set_option maxRecDepth 20000 in
theorem wj_X10_back_9 {X : Xt} (C : Cx X cn_10 prog_1_method_37_code 2 (some .int) 3 0 0)     (h : Hp) (q : (Int32 × Hp)) (hrun : j_X10_back_9   h = some q) (K : EndQ X 0 0 (some (.int q.1)) q.2) : G X h 0 0 9 [(0, .ref 0)] [] := by
  unfold j_X10_back_9 at hrun
  refine g_aload_n C (dat dt_X10_back 5 rfl) 0 rfl ?_
  refine g_iconst C (dat dt_X10_back 6 rfl) ic_m1 ?_
  obtain ⟨v2, q3, hrun⟩ := bd hrun
  refine g_cVi [.int (-1 : Int32)] C (dat dt_X10_back 7 rfl) ml_10_119 (w_X10_answer (-1 : Int32) h v2  q3) kd_0 ltk_0 rfl rfl cat0 (by decide) c00 ?_
  cases hrun
  exact g_iret C K (dat dt_X10_back 8 rfl)
def f_X10_back (x1 : Int32) (h : Hp) : Option (Int32 × Hp) :=
  if x1 < 0 then
  j_X10_back_9   h
  else
  if x1 < (2 : Int32) then
  (inb x1 2).bind fun j5 =>
  if (aI h 2 j5) = 0 then
  (f_X10_answer (-2 : Int32) h).bind fun v26 =>
  some (v26.1, v26.2)
  else
  (inb x1 2).bind fun j8 =>
  oc (aO h 1 j8) none (fun v10 =>
  if v10 = 40 then
  (f_X1_copyFrom 32 40 h).bind fun v12 =>
  (f_X4_clear 10 v12.2).bind fun v14 =>
  (f_X10_answerChanged (0 : Int32) v14.2).bind fun v16 =>
  some (v16.1, v16.2)
  else if v10 = 48 then
  (f_X1_copyFrom 32 48 h).bind fun v18 =>
  (f_X4_clear 10 v18.2).bind fun v20 =>
  (f_X10_answerChanged (0 : Int32) v20.2).bind fun v22 =>
  some (v22.1, v22.2)
  else none)
  else
  j_X10_back_9   h
set_option maxRecDepth 20000 in
theorem w_X10_back (x1 : Int32) (h : Hp) (q : (Int32 × Hp))  (hrun : f_X10_back x1 h = some q) : MetA ⟨"SteamNations", "back", "(I)I"⟩ prog_1_method_37_code 2 (some .int) 3 0 0 [.ref 0, .int x1] h (some (.int q.1)) q.2 := by
  refine metA_of (by decide) (Nat.le_of_ble_eq_true rfl) (fun X C K => ?_)
  have C : Cx X cn_10 prog_1_method_37_code 2 (some .int) 3 0 0 := C
  show G X h 0 0 0 [(0, .ref 0), (1, .int x1)] []
  unfold f_X10_back at hrun
  refine g_iload_n C (dat dt_X10_back 0 rfl) 1 rfl ?_
  refine g_if_lt 9 C (dat dt_X10_back 1 rfl) (by decide) (fun c1 => ?_) (fun c1 => ?_)
  · rw [if_pos c1] at hrun
    refine g_sub [0] (lv' := [(0, .ref 0)]) rfl ?_
    exact wj_X10_back_9 C     h _ hrun K
  · rw [if_neg c1] at hrun
    refine g_iload_n C (dat dt_X10_back 2 rfl) 1 rfl ?_
    refine g_iconst C (dat dt_X10_back 3 rfl) ic_2 ?_
    refine g_ic_lt 15 C (dat dt_X10_back 4 rfl) (by decide) (fun c4 => ?_) (fun c4 => ?_)
    · rw [if_pos c4] at hrun
      refine g_aload_n C (dat dt_X10_back 9 rfl) 0 rfl ?_
      refine g_getR C (dat dt_X10_back 10 rfl) fl_10_15 kd_0 rfl ltk_0 ?_
      refine g_iload_n C (dat dt_X10_back 11 rfl) 1 rfl ?_
      obtain ⟨j5, q6, hrun⟩ := bd hrun
      refine g_zald C (dat dt_X10_back 12 rfl) kd_2 ltk_2 q6 ?_
      refine g_if_ne 31 C (dat dt_X10_back 13 rfl) (by decide) (fun c7 => ?_) (fun c7 => ?_)
      · rw [if_neg c7] at hrun
        refine g_aload_n C (dat dt_X10_back 18 rfl) 0 rfl ?_
        refine g_getR C (dat dt_X10_back 19 rfl) fl_10_75 kd_0 rfl ltk_0 ?_
        refine g_aload_n C (dat dt_X10_back 20 rfl) 0 rfl ?_
        refine g_getR C (dat dt_X10_back 21 rfl) fl_10_11 kd_0 rfl ltk_0 ?_
        refine g_iload_n C (dat dt_X10_back 22 rfl) 1 rfl ?_
        obtain ⟨j8, q9, hrun⟩ := bd hrun
        refine g_aald C (dat dt_X10_back 23 rfl) kd_1 (Or.inr rfl) ltk_1 q9 (fun o11 => ?_) (fun v10 o11 => ?_)
        · rw [o11, oc_n] at hrun
          cases hrun
        · rw [o11, oc_s] at hrun
          by_cases c24 : v10 = 40
          · rw [if_pos c24] at hrun
            subst c24
            obtain ⟨v12, q13, hrun⟩ := bd hrun
            refine g_cVv [.ref 40] C (dat dt_X10_back 24 rfl) ml_10_362 (w_X1_copyFrom 32 40 h v12 house_32 house_40 q13) kd_32 ltk_32 rfl rfl cat0 (by decide) c00 ?_
            refine g_aload_n C (dat dt_X10_back 25 rfl) 0 rfl ?_
            refine g_getR C (dat dt_X10_back 26 rfl) fl_10_33 kd_0 rfl ltk_0 ?_
            obtain ⟨v14, q15, hrun⟩ := bd hrun
            refine g_cVv [] C (dat dt_X10_back 27 rfl) ml_10_129 (w_X4_clear 10 v12.2 v14 past_10 q15) kd_10 ltk_10 rfl rfl cat0 (by decide) c00 ?_
            refine g_aload_n C (dat dt_X10_back 28 rfl) 0 rfl ?_
            refine g_iconst C (dat dt_X10_back 29 rfl) ic_0 ?_
            obtain ⟨v16, q17, hrun⟩ := bd hrun
            refine g_cVi [.int (0 : Int32)] C (dat dt_X10_back 30 rfl) ml_10_136 (w_X10_answerChanged (0 : Int32) v14.2 v16  q17) kd_0 ltk_0 rfl rfl cat0 (by decide) c00 ?_
            cases hrun
            exact g_iret C K (dat dt_X10_back 31 rfl)
          · rw [if_neg c24] at hrun
            by_cases c25 : v10 = 48
            · rw [if_pos c25] at hrun
              subst c25
              obtain ⟨v18, q19, hrun⟩ := bd hrun
              refine g_cVv [.ref 48] C (dat dt_X10_back 24 rfl) ml_10_362 (w_X1_copyFrom 32 48 h v18 house_32 house_48 q19) kd_32 ltk_32 rfl rfl cat0 (by decide) c00 ?_
              refine g_aload_n C (dat dt_X10_back 25 rfl) 0 rfl ?_
              refine g_getR C (dat dt_X10_back 26 rfl) fl_10_33 kd_0 rfl ltk_0 ?_
              obtain ⟨v20, q21, hrun⟩ := bd hrun
              refine g_cVv [] C (dat dt_X10_back 27 rfl) ml_10_129 (w_X4_clear 10 v18.2 v20 past_10 q21) kd_10 ltk_10 rfl rfl cat0 (by decide) c00 ?_
              refine g_aload_n C (dat dt_X10_back 28 rfl) 0 rfl ?_
              refine g_iconst C (dat dt_X10_back 29 rfl) ic_0 ?_
              obtain ⟨v22, q23, hrun⟩ := bd hrun
              refine g_cVi [.int (0 : Int32)] C (dat dt_X10_back 30 rfl) ml_10_136 (w_X10_answerChanged (0 : Int32) v20.2 v22  q23) kd_0 ltk_0 rfl rfl cat0 (by decide) c00 ?_
              cases hrun
              exact g_iret C K (dat dt_X10_back 31 rfl)
            · rw [if_neg c25] at hrun
              cases hrun
      · rw [if_pos c7] at hrun
        refine g_aload_n C (dat dt_X10_back 14 rfl) 0 rfl ?_
        refine g_bipush C (dat dt_X10_back 15 rfl) bp_m2 ?_
        obtain ⟨v26, q27, hrun⟩ := bd hrun
        refine g_cVi [.int (-2 : Int32)] C (dat dt_X10_back 16 rfl) ml_10_119 (w_X10_answer (-2 : Int32) h v26  q27) kd_0 ltk_0 rfl rfl cat0 (by decide) c00 ?_
        cases hrun
        exact g_iret C K (dat dt_X10_back 17 rfl)
    · rw [if_neg c4] at hrun
      refine g_sub [0] (lv' := [(0, .ref 0)]) rfl ?_
      exact wj_X10_back_9 C     h _ hrun K
/-! SteamNations.count(I)I -/
def dl_X10_count : List (Nat × Instr × Nat) := [(0, .iload_n 1, 1), (1, .tableswitch 195 0 17 #[87, 98, 109, 117, 125, 133, 138, 138, 138, 147, 147, 156, 164, 164, 164, 180, 180, 180], 87), (88, .aload_n 0, 1), (89, .getfield 75, 3), (92, .getfield 123, 3), (95, .getfield 126, 3), (98, .ireturn, 1), (99, .aload_n 0, 1), (100, .getfield 75, 3), (103, .getfield 123, 3), (106, .invokevirtual 365, 3), (109, .ireturn, 1), (110, .aload_n 0, 1), (111, .getfield 75, 3), (114, .getfield 294, 3), (117, .ireturn, 1), (118, .aload_n 0, 1), (119, .getfield 75, 3), (122, .getfield 204, 3), (125, .ireturn, 1), (126, .aload_n 0, 1), (127, .getfield 33, 3), (130, .getfield 368, 3), (133, .ireturn, 1), (134, .aload_n 0, 1), (135, .getfield 187, 3), (138, .ireturn, 1), (139, .aload_n 0, 1), (140, .getfield 57, 3), (143, .iload_n 1, 1), (144, .iconst 5, 1), (145, .isub, 1), (146, .iaload, 1), (147, .ireturn, 1), (148, .aload_n 0, 1), (149, .getfield 57, 3), (152, .iload_n 1, 1), (153, .iconst 4, 1), (154, .isub, 1), (155, .iaload, 1), (156, .ireturn, 1), (157, .aload_n 0, 1), (158, .getfield 75, 3), (161, .getfield 227, 3), (164, .ireturn, 1), (165, .aload_n 0, 1), (166, .getfield 75, 3), (169, .getfield 123, 3), (172, .getfield 184, 3), (175, .iload_n 1, 1), (176, .bipush 12, 2), (178, .isub, 1), (179, .iaload, 1), (180, .ireturn, 1), (181, .aload_n 0, 1), (182, .getfield 75, 3), (185, .getfield 123, 3), (188, .iload_n 1, 1), (189, .bipush 15, 2), (191, .isub, 1), (192, .invokevirtual 371, 3), (195, .ireturn, 1), (196, .iconst (-1), 1), (197, .ireturn, 1)]
set_option maxRecDepth 20000 in
theorem dt_X10_count : ∀ q ∈ dl_X10_count, decode prog_1_method_38_code q.1 = .ok q.2 := by decide +kernel
def j_X10_count_139  (x1 : Int32) (h : Hp) : Option Int32 :=
  (inb (x1 - (5 : Int32)) 7).bind fun j6 =>
  some (aI h 25 j6)
set_option maxRecDepth 20000 in
theorem wj_X10_count_139 {X : Xt} (C : Cx X cn_10 prog_1_method_38_code 2 (some .int) 3 0 0)    (x1 : Int32) (h : Hp) (q : Int32) (hrun : j_X10_count_139  x1 h = some q) (K : EndQ X 0 0 (some (.int q)) h) : G X h 0 0 139 [(0, .ref 0), (1, .int x1)] [] := by
  unfold j_X10_count_139 at hrun
  refine g_aload_n C (dat dt_X10_count 27 rfl) 0 rfl ?_
  refine g_getR C (dat dt_X10_count 28 rfl) fl_10_57 kd_0 rfl ltk_0 ?_
  refine g_iload_n C (dat dt_X10_count 29 rfl) 1 rfl ?_
  refine g_iconst C (dat dt_X10_count 30 rfl) ic_5 ?_
  refine g_isub C (dat dt_X10_count 31 rfl) ?_
  obtain ⟨j6, q7, hrun⟩ := bd hrun
  refine g_iald C (dat dt_X10_count 32 rfl) kd_25 ltk_25 q7 ?_
  cases hrun
  exact g_iret C K (dat dt_X10_count 33 rfl)
def j_X10_count_148  (x1 : Int32) (h : Hp) : Option Int32 :=
  (inb (x1 - (4 : Int32)) 7).bind fun j8 =>
  some (aI h 25 j8)
set_option maxRecDepth 20000 in
theorem wj_X10_count_148 {X : Xt} (C : Cx X cn_10 prog_1_method_38_code 2 (some .int) 3 0 0)    (x1 : Int32) (h : Hp) (q : Int32) (hrun : j_X10_count_148  x1 h = some q) (K : EndQ X 0 0 (some (.int q)) h) : G X h 0 0 148 [(0, .ref 0), (1, .int x1)] [] := by
  unfold j_X10_count_148 at hrun
  refine g_aload_n C (dat dt_X10_count 34 rfl) 0 rfl ?_
  refine g_getR C (dat dt_X10_count 35 rfl) fl_10_57 kd_0 rfl ltk_0 ?_
  refine g_iload_n C (dat dt_X10_count 36 rfl) 1 rfl ?_
  refine g_iconst C (dat dt_X10_count 37 rfl) ic_4 ?_
  refine g_isub C (dat dt_X10_count 38 rfl) ?_
  obtain ⟨j8, q9, hrun⟩ := bd hrun
  refine g_iald C (dat dt_X10_count 39 rfl) kd_25 ltk_25 q9 ?_
  cases hrun
  exact g_iret C K (dat dt_X10_count 40 rfl)
def j_X10_count_165  (x1 : Int32) (h : Hp) : Option Int32 :=
  (inb (x1 - (12 : Int32)) 3).bind fun j10 =>
  some (aI h 37 j10)
set_option maxRecDepth 20000 in
theorem wj_X10_count_165 {X : Xt} (C : Cx X cn_10 prog_1_method_38_code 2 (some .int) 3 0 0)    (x1 : Int32) (h : Hp) (q : Int32) (hrun : j_X10_count_165  x1 h = some q) (K : EndQ X 0 0 (some (.int q)) h) : G X h 0 0 165 [(0, .ref 0), (1, .int x1)] [] := by
  unfold j_X10_count_165 at hrun
  refine g_aload_n C (dat dt_X10_count 45 rfl) 0 rfl ?_
  refine g_getR C (dat dt_X10_count 46 rfl) fl_10_75 kd_0 rfl ltk_0 ?_
  refine g_getR C (dat dt_X10_count 47 rfl) fl_10_123 kd_32 rfl ltk_32 ?_
  refine g_getR C (dat dt_X10_count 48 rfl) fl_10_184 kd_33 rfl ltk_33 ?_
  refine g_iload_n C (dat dt_X10_count 49 rfl) 1 rfl ?_
  refine g_bipush C (dat dt_X10_count 50 rfl) bp_12 ?_
  refine g_isub C (dat dt_X10_count 51 rfl) ?_
  obtain ⟨j10, q11, hrun⟩ := bd hrun
  refine g_iald C (dat dt_X10_count 52 rfl) kd_37 ltk_37 q11 ?_
  cases hrun
  exact g_iret C K (dat dt_X10_count 53 rfl)
def j_X10_count_181  (x1 : Int32) (h : Hp) : Option Int32 :=
  (f_X6_allPartsOf 33 (x1 - (15 : Int32)) h).bind fun v12 =>
  some v12
set_option maxRecDepth 20000 in
theorem wj_X10_count_181 {X : Xt} (C : Cx X cn_10 prog_1_method_38_code 2 (some .int) 3 0 0)    (x1 : Int32) (h : Hp) (q : Int32) (hrun : j_X10_count_181  x1 h = some q) (K : EndQ X 0 0 (some (.int q)) h) : G X h 0 0 181 [(0, .ref 0), (1, .int x1)] [] := by
  unfold j_X10_count_181 at hrun
  refine g_aload_n C (dat dt_X10_count 54 rfl) 0 rfl ?_
  refine g_getR C (dat dt_X10_count 55 rfl) fl_10_75 kd_0 rfl ltk_0 ?_
  refine g_getR C (dat dt_X10_count 56 rfl) fl_10_123 kd_32 rfl ltk_32 ?_
  refine g_iload_n C (dat dt_X10_count 57 rfl) 1 rfl ?_
  refine g_bipush C (dat dt_X10_count 58 rfl) bp_15 ?_
  refine g_isub C (dat dt_X10_count 59 rfl) ?_
  obtain ⟨v12, q13, hrun⟩ := bd hrun
  refine g_cVi [.int (x1 - (15 : Int32))] C (dat dt_X10_count 60 rfl) ml_10_371 (w_X6_allPartsOf 33 (x1 - (15 : Int32)) h v12 room_33 q13) kd_33 ltk_33 rfl rfl cat0 (by decide) c00 ?_
  cases hrun
  exact g_iret C K (dat dt_X10_count 61 rfl)
def f_X10_count (x1 : Int32) (h : Hp) : Option Int32 :=
  if x1.toInt < (0 : Int) ∨ (17 : Int) < x1.toInt then
  some (-1 : Int32)
  else if (x1.toInt - (0 : Int)).toNat = 0 then
  some (fI h 33 0)
  else if (x1.toInt - (0 : Int)).toNat = 1 then
  (f_X6_countInside 33 h).bind fun v4 =>
  some v4
  else if (x1.toInt - (0 : Int)).toNat = 2 then
  some (fI h 32 6)
  else if (x1.toInt - (0 : Int)).toNat = 3 then
  some (fI h 32 3)
  else if (x1.toInt - (0 : Int)).toNat = 4 then
  some (fI h 10 2)
  else if (x1.toInt - (0 : Int)).toNat = 5 then
  some (fI h 0 16)
  else if (x1.toInt - (0 : Int)).toNat = 6 then
  j_X10_count_139  x1 h
  else if (x1.toInt - (0 : Int)).toNat = 7 then
  j_X10_count_139  x1 h
  else if (x1.toInt - (0 : Int)).toNat = 8 then
  j_X10_count_139  x1 h
  else if (x1.toInt - (0 : Int)).toNat = 9 then
  j_X10_count_148  x1 h
  else if (x1.toInt - (0 : Int)).toNat = 10 then
  j_X10_count_148  x1 h
  else if (x1.toInt - (0 : Int)).toNat = 11 then
  some (fI h 32 4)
  else if (x1.toInt - (0 : Int)).toNat = 12 then
  j_X10_count_165  x1 h
  else if (x1.toInt - (0 : Int)).toNat = 13 then
  j_X10_count_165  x1 h
  else if (x1.toInt - (0 : Int)).toNat = 14 then
  j_X10_count_165  x1 h
  else if (x1.toInt - (0 : Int)).toNat = 15 then
  j_X10_count_181  x1 h
  else if (x1.toInt - (0 : Int)).toNat = 16 then
  j_X10_count_181  x1 h
  else if (x1.toInt - (0 : Int)).toNat = 17 then
  j_X10_count_181  x1 h
  else none
set_option maxRecDepth 20000 in
theorem w_X10_count (x1 : Int32) (h : Hp) (q : Int32)  (hrun : f_X10_count x1 h = some q) : MetA ⟨"SteamNations", "count", "(I)I"⟩ prog_1_method_38_code 2 (some .int) 3 0 0 [.ref 0, .int x1] h (some (.int q)) h := by
  refine metA_of (by decide) (Nat.le_of_ble_eq_true rfl) (fun X C K => ?_)
  have C : Cx X cn_10 prog_1_method_38_code 2 (some .int) 3 0 0 := C
  show G X h 0 0 0 [(0, .ref 0), (1, .int x1)] []
  unfold f_X10_count at hrun
  refine g_iload_n C (dat dt_X10_count 0 rfl) 1 rfl ?_
  by_cases c1 : x1.toInt < (0 : Int) ∨ (17 : Int) < x1.toInt
  · rw [if_pos c1] at hrun
    refine g_tabO 196 C (dat dt_X10_count 1 rfl) c1 (by decide) ?_
    refine g_iconst C (dat dt_X10_count 62 rfl) ic_m1 ?_
    cases hrun
    exact g_iret C K (dat dt_X10_count 63 rfl)
  · rw [if_neg c1] at hrun
    by_cases c31 : (x1.toInt - (0 : Int)).toNat = 0
    · rw [if_pos c31] at hrun
      refine g_tabI 88 C (dat dt_X10_count 1 rfl) c1 c31.symm rfl (by decide) ?_
      refine g_aload_n C (dat dt_X10_count 2 rfl) 0 rfl ?_
      refine g_getR C (dat dt_X10_count 3 rfl) fl_10_75 kd_0 rfl ltk_0 ?_
      refine g_getR C (dat dt_X10_count 4 rfl) fl_10_123 kd_32 rfl ltk_32 ?_
      refine g_getI C (dat dt_X10_count 5 rfl) fl_10_126 kd_33 rfl ltk_33 ?_
      cases hrun
      exact g_iret C K (dat dt_X10_count 6 rfl)
    · rw [if_neg c31] at hrun
      by_cases c30 : (x1.toInt - (0 : Int)).toNat = 1
      · rw [if_pos c30] at hrun
        refine g_tabI 99 C (dat dt_X10_count 1 rfl) c1 c30.symm rfl (by decide) ?_
        refine g_aload_n C (dat dt_X10_count 7 rfl) 0 rfl ?_
        refine g_getR C (dat dt_X10_count 8 rfl) fl_10_75 kd_0 rfl ltk_0 ?_
        refine g_getR C (dat dt_X10_count 9 rfl) fl_10_123 kd_32 rfl ltk_32 ?_
        obtain ⟨v4, q5, hrun⟩ := bd hrun
        refine g_cVi [] C (dat dt_X10_count 10 rfl) ml_10_365 (w_X6_countInside 33 h v4 room_33 q5) kd_33 ltk_33 rfl rfl cat0 (by decide) c00 ?_
        cases hrun
        exact g_iret C K (dat dt_X10_count 11 rfl)
      · rw [if_neg c30] at hrun
        by_cases c29 : (x1.toInt - (0 : Int)).toNat = 2
        · rw [if_pos c29] at hrun
          refine g_tabI 110 C (dat dt_X10_count 1 rfl) c1 c29.symm rfl (by decide) ?_
          refine g_aload_n C (dat dt_X10_count 12 rfl) 0 rfl ?_
          refine g_getR C (dat dt_X10_count 13 rfl) fl_10_75 kd_0 rfl ltk_0 ?_
          refine g_getI C (dat dt_X10_count 14 rfl) fl_10_294 kd_32 rfl ltk_32 ?_
          cases hrun
          exact g_iret C K (dat dt_X10_count 15 rfl)
        · rw [if_neg c29] at hrun
          by_cases c28 : (x1.toInt - (0 : Int)).toNat = 3
          · rw [if_pos c28] at hrun
            refine g_tabI 118 C (dat dt_X10_count 1 rfl) c1 c28.symm rfl (by decide) ?_
            refine g_aload_n C (dat dt_X10_count 16 rfl) 0 rfl ?_
            refine g_getR C (dat dt_X10_count 17 rfl) fl_10_75 kd_0 rfl ltk_0 ?_
            refine g_getI C (dat dt_X10_count 18 rfl) fl_10_204 kd_32 rfl ltk_32 ?_
            cases hrun
            exact g_iret C K (dat dt_X10_count 19 rfl)
          · rw [if_neg c28] at hrun
            by_cases c27 : (x1.toInt - (0 : Int)).toNat = 4
            · rw [if_pos c27] at hrun
              refine g_tabI 126 C (dat dt_X10_count 1 rfl) c1 c27.symm rfl (by decide) ?_
              refine g_aload_n C (dat dt_X10_count 20 rfl) 0 rfl ?_
              refine g_getR C (dat dt_X10_count 21 rfl) fl_10_33 kd_0 rfl ltk_0 ?_
              refine g_getI C (dat dt_X10_count 22 rfl) fl_10_368 kd_10 rfl ltk_10 ?_
              cases hrun
              exact g_iret C K (dat dt_X10_count 23 rfl)
            · rw [if_neg c27] at hrun
              by_cases c26 : (x1.toInt - (0 : Int)).toNat = 5
              · rw [if_pos c26] at hrun
                refine g_tabI 134 C (dat dt_X10_count 1 rfl) c1 c26.symm rfl (by decide) ?_
                refine g_aload_n C (dat dt_X10_count 24 rfl) 0 rfl ?_
                refine g_getI C (dat dt_X10_count 25 rfl) fl_10_187 kd_0 rfl ltk_0 ?_
                cases hrun
                exact g_iret C K (dat dt_X10_count 26 rfl)
              · rw [if_neg c26] at hrun
                by_cases c25 : (x1.toInt - (0 : Int)).toNat = 6
                · rw [if_pos c25] at hrun
                  refine g_tabI 139 C (dat dt_X10_count 1 rfl) c1 c25.symm rfl (by decide) ?_
                  exact wj_X10_count_139 C    x1 h _ hrun K
                · rw [if_neg c25] at hrun
                  by_cases c24 : (x1.toInt - (0 : Int)).toNat = 7
                  · rw [if_pos c24] at hrun
                    refine g_tabI 139 C (dat dt_X10_count 1 rfl) c1 c24.symm rfl (by decide) ?_
                    exact wj_X10_count_139 C    x1 h _ hrun K
                  · rw [if_neg c24] at hrun
                    by_cases c23 : (x1.toInt - (0 : Int)).toNat = 8
                    · rw [if_pos c23] at hrun
                      refine g_tabI 139 C (dat dt_X10_count 1 rfl) c1 c23.symm rfl (by decide) ?_
                      exact wj_X10_count_139 C    x1 h _ hrun K
                    · rw [if_neg c23] at hrun
                      by_cases c22 : (x1.toInt - (0 : Int)).toNat = 9
                      · rw [if_pos c22] at hrun
                        refine g_tabI 148 C (dat dt_X10_count 1 rfl) c1 c22.symm rfl (by decide) ?_
                        exact wj_X10_count_148 C    x1 h _ hrun K
                      · rw [if_neg c22] at hrun
                        by_cases c21 : (x1.toInt - (0 : Int)).toNat = 10
                        · rw [if_pos c21] at hrun
                          refine g_tabI 148 C (dat dt_X10_count 1 rfl) c1 c21.symm rfl (by decide) ?_
                          exact wj_X10_count_148 C    x1 h _ hrun K
                        · rw [if_neg c21] at hrun
                          by_cases c20 : (x1.toInt - (0 : Int)).toNat = 11
                          · rw [if_pos c20] at hrun
                            refine g_tabI 157 C (dat dt_X10_count 1 rfl) c1 c20.symm rfl (by decide) ?_
                            refine g_aload_n C (dat dt_X10_count 41 rfl) 0 rfl ?_
                            refine g_getR C (dat dt_X10_count 42 rfl) fl_10_75 kd_0 rfl ltk_0 ?_
                            refine g_getI C (dat dt_X10_count 43 rfl) fl_10_227 kd_32 rfl ltk_32 ?_
                            cases hrun
                            exact g_iret C K (dat dt_X10_count 44 rfl)
                          · rw [if_neg c20] at hrun
                            by_cases c19 : (x1.toInt - (0 : Int)).toNat = 12
                            · rw [if_pos c19] at hrun
                              refine g_tabI 165 C (dat dt_X10_count 1 rfl) c1 c19.symm rfl (by decide) ?_
                              exact wj_X10_count_165 C    x1 h _ hrun K
                            · rw [if_neg c19] at hrun
                              by_cases c18 : (x1.toInt - (0 : Int)).toNat = 13
                              · rw [if_pos c18] at hrun
                                refine g_tabI 165 C (dat dt_X10_count 1 rfl) c1 c18.symm rfl (by decide) ?_
                                exact wj_X10_count_165 C    x1 h _ hrun K
                              · rw [if_neg c18] at hrun
                                by_cases c17 : (x1.toInt - (0 : Int)).toNat = 14
                                · rw [if_pos c17] at hrun
                                  refine g_tabI 165 C (dat dt_X10_count 1 rfl) c1 c17.symm rfl (by decide) ?_
                                  exact wj_X10_count_165 C    x1 h _ hrun K
                                · rw [if_neg c17] at hrun
                                  by_cases c16 : (x1.toInt - (0 : Int)).toNat = 15
                                  · rw [if_pos c16] at hrun
                                    refine g_tabI 181 C (dat dt_X10_count 1 rfl) c1 c16.symm rfl (by decide) ?_
                                    exact wj_X10_count_181 C    x1 h _ hrun K
                                  · rw [if_neg c16] at hrun
                                    by_cases c15 : (x1.toInt - (0 : Int)).toNat = 16
                                    · rw [if_pos c15] at hrun
                                      refine g_tabI 181 C (dat dt_X10_count 1 rfl) c1 c15.symm rfl (by decide) ?_
                                      exact wj_X10_count_181 C    x1 h _ hrun K
                                    · rw [if_neg c15] at hrun
                                      by_cases c14 : (x1.toInt - (0 : Int)).toNat = 17
                                      · rw [if_pos c14] at hrun
                                        refine g_tabI 181 C (dat dt_X10_count 1 rfl) c1 c14.symm rfl (by decide) ?_
                                        exact wj_X10_count_181 C    x1 h _ hrun K
                                      · rw [if_neg c14] at hrun
                                        cases hrun
/-! SteamNations.status()I -/
def dl_X10_status : List (Nat × Instr × Nat) := [(0, .aload_n 0, 1), (1, .getfield 374, 3), (4, .ireturn, 1)]
set_option maxRecDepth 20000 in
theorem dt_X10_status : ∀ q ∈ dl_X10_status, decode prog_1_method_39_code q.1 = .ok q.2 := by decide +kernel
def f_X10_status  (h : Hp) : Option Int32 :=
  some (fI h 0 19)
set_option maxRecDepth 20000 in
theorem w_X10_status  (h : Hp) (q : Int32)  (hrun : f_X10_status  h = some q) : MetA ⟨"SteamNations", "status", "()I"⟩ prog_1_method_39_code 1 (some .int) 1 0 0 [.ref 0] h (some (.int q)) h := by
  refine metA_of (by decide) (Nat.le_of_ble_eq_true rfl) (fun X C K => ?_)
  have C : Cx X cn_10 prog_1_method_39_code 1 (some .int) 1 0 0 := C
  show G X h 0 0 0 [(0, .ref 0)] []
  unfold f_X10_status at hrun
  refine g_aload_n C (dat dt_X10_status 0 rfl) 0 rfl ?_
  refine g_getI C (dat dt_X10_status 1 rfl) fl_10_374 kd_0 rfl ltk_0 ?_
  cases hrun
  exact g_iret C K (dat dt_X10_status 2 rfl)
