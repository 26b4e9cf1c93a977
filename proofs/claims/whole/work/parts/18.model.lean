/-! SteamNationsModel.lies(III)Z -/
def dl_X11_lies : List (Nat × Instr × Nat) := [(0, .iload_n 0, 1), (1, .iload_n 1, 1), (2, .if_icmp .lt 12, 3), (5, .iload_n 0, 1), (6, .iload_n 2, 1), (7, .if_icmp .gt 7, 3), (10, .iconst 1, 1), (11, .goto 4, 3), (14, .iconst 0, 1), (15, .ireturn, 1)]
set_option maxRecDepth 20000 in
theorem dt_X11_lies : ∀ q ∈ dl_X11_lies, decode prog_13_method_1_code q.1 = .ok q.2 := by decide +kernel
def f_X11_lies (x0 : Int32) (x1 : Int32) (x2 : Int32) : Option Bool :=
  if x0 < x1 then
  some false
  else
  if x2 < x0 then
  some false
  else
  some true
set_option maxRecDepth 20000 in
theorem w_X11_lies (x0 : Int32) (x1 : Int32) (x2 : Int32) (h : Hp) (q : Bool)  (hrun : f_X11_lies x0 x1 x2 = some q) : MetA ⟨"SteamNationsModel", "lies", "(III)Z"⟩ prog_13_method_1_code 3 (some .boolean) 1 0 0 [.int x0, .int x1, .int x2] h (some (.int (b2i q))) h := by
  refine metA_of (by decide) (Nat.le_of_ble_eq_true rfl) (fun X C K => ?_)
  have C : Cx X cn_11 prog_13_method_1_code 3 (some .boolean) 1 0 0 := C
  show G X h 0 0 0 [(0, .int x0), (1, .int x1), (2, .int x2)] []
  unfold f_X11_lies at hrun
  refine g_iload_n C (dat dt_X11_lies 0 rfl) 0 rfl ?_
  refine g_iload_n C (dat dt_X11_lies 1 rfl) 1 rfl ?_
  refine g_ic_lt 14 C (dat dt_X11_lies 2 rfl) (by decide) (fun c1 => ?_) (fun c1 => ?_)
  · rw [if_pos c1] at hrun
    refine g_iconst C (dat dt_X11_lies 8 rfl) ic_0 ?_
    cases hrun
    exact g_zret C K (show (0 : Int32) = b2i false by decide) (dat dt_X11_lies 9 rfl)
  · rw [if_neg c1] at hrun
    refine g_iload_n C (dat dt_X11_lies 3 rfl) 0 rfl ?_
    refine g_iload_n C (dat dt_X11_lies 4 rfl) 2 rfl ?_
    refine g_ic_gt 14 C (dat dt_X11_lies 5 rfl) (by decide) (fun c2 => ?_) (fun c2 => ?_)
    · rw [if_pos c2] at hrun
      refine g_iconst C (dat dt_X11_lies 8 rfl) ic_0 ?_
      cases hrun
      exact g_zret C K (show (0 : Int32) = b2i false by decide) (dat dt_X11_lies 9 rfl)
    · rw [if_neg c2] at hrun
      refine g_iconst C (dat dt_X11_lies 6 rfl) ic_1 ?_
      refine g_goto 15 C (dat dt_X11_lies 7 rfl) (by decide) ?_
      cases hrun
      exact g_zret C K (show (1 : Int32) = b2i true by decide) (dat dt_X11_lies 9 rfl)
/-! SteamNationsModel.isNation(I)Z -/
def dl_X11_isNation : List (Nat × Instr × Nat) := [(0, .iload_n 0, 1), (1, .iconst 0, 1), (2, .iconst 2, 1), (3, .invokestatic 18, 3), (6, .ireturn, 1)]
set_option maxRecDepth 20000 in
theorem dt_X11_isNation : ∀ q ∈ dl_X11_isNation, decode prog_13_method_9_code q.1 = .ok q.2 := by decide +kernel
def f_X11_isNation (x0 : Int32) : Option Bool :=
  (f_X11_lies x0 (0 : Int32) (2 : Int32)).bind fun v1 =>
  some v1
set_option maxRecDepth 20000 in
theorem w_X11_isNation (x0 : Int32) (h : Hp) (q : Bool)  (hrun : f_X11_isNation x0 = some q) : MetA ⟨"SteamNationsModel", "isNation", "(I)Z"⟩ prog_13_method_9_code 1 (some .boolean) 2 0 0 [.int x0] h (some (.int (b2i q))) h := by
  refine metA_of (by decide) (Nat.le_of_ble_eq_true rfl) (fun X C K => ?_)
  have C : Cx X cn_11 prog_13_method_9_code 1 (some .boolean) 2 0 0 := C
  show G X h 0 0 0 [(0, .int x0)] []
  unfold f_X11_isNation at hrun
  refine g_iload_n C (dat dt_X11_isNation 0 rfl) 0 rfl ?_
  refine g_iconst C (dat dt_X11_isNation 1 rfl) ic_0 ?_
  refine g_iconst C (dat dt_X11_isNation 2 rfl) ic_2 ?_
  obtain ⟨v1, q2, hrun⟩ := bd hrun
  refine g_cSi [.int x0, .int (0 : Int32), .int (2 : Int32)] C (dat dt_X11_isNation 3 rfl) ml_11_18 (w_X11_lies x0 (0 : Int32) (2 : Int32) h v1  q2) rfl rfl cat0 (by decide) c00 ?_
  cases hrun
  exact g_zret C K rfl (dat dt_X11_isNation 4 rfl)
/-! SteamNationsModel.canBe(IIII)Z -/
def dl_X11_canBe : List (Nat × Instr × Nat) := [(0, .iload_n 0, 1), (1, .iconst 0, 1), (2, .bipush 99, 2), (4, .invokestatic 18, 3), (7, .ifCond .eq 34, 3), (10, .iload_n 1, 1), (11, .iconst 0, 1), (12, .bipush 99, 2), (14, .invokestatic 18, 3), (17, .ifCond .eq 24, 3), (20, .iload_n 2, 1), (21, .iconst 0, 1), (22, .bipush 99, 2), (24, .invokestatic 18, 3), (27, .ifCond .eq 14, 3), (30, .iload_n 3, 1), (31, .invokestatic 135, 3), (34, .ifCond .eq 7, 3), (37, .iconst 1, 1), (38, .goto 4, 3), (41, .iconst 0, 1), (42, .ireturn, 1)]
set_option maxRecDepth 20000 in
theorem dt_X11_canBe : ∀ q ∈ dl_X11_canBe, decode prog_13_method_24_code q.1 = .ok q.2 := by decide +kernel
def f_X11_canBe (x0 : Int32) (x1 : Int32) (x2 : Int32) (x3 : Int32) : Option Bool :=
  (f_X11_lies x0 (0 : Int32) (99 : Int32)).bind fun v1 =>
  if v1 = true then
  (f_X11_lies x1 (0 : Int32) (99 : Int32)).bind fun v4 =>
  if v4 = true then
  (f_X11_lies x2 (0 : Int32) (99 : Int32)).bind fun v7 =>
  if v7 = true then
  (f_X11_isNation x3).bind fun v10 =>
  if v10 = true then
  some true
  else
  some false
  else
  some false
  else
  some false
  else
  some false
set_option maxRecDepth 20000 in
theorem w_X11_canBe (x0 : Int32) (x1 : Int32) (x2 : Int32) (x3 : Int32) (h : Hp) (q : Bool)  (hrun : f_X11_canBe x0 x1 x2 x3 = some q) : MetA ⟨"SteamNationsModel", "canBe", "(IIII)Z"⟩ prog_13_method_24_code 4 (some .boolean) 3 0 0 [.int x0, .int x1, .int x2, .int x3] h (some (.int (b2i q))) h := by
  refine metA_of (by decide) (Nat.le_of_ble_eq_true rfl) (fun X C K => ?_)
  have C : Cx X cn_11 prog_13_method_24_code 4 (some .boolean) 3 0 0 := C
  show G X h 0 0 0 [(0, .int x0), (1, .int x1), (2, .int x2), (3, .int x3)] []
  unfold f_X11_canBe at hrun
  refine g_iload_n C (dat dt_X11_canBe 0 rfl) 0 rfl ?_
  refine g_iconst C (dat dt_X11_canBe 1 rfl) ic_0 ?_
  refine g_bipush C (dat dt_X11_canBe 2 rfl) bp_99 ?_
  obtain ⟨v1, q2, hrun⟩ := bd hrun
  refine g_cSi [.int x0, .int (0 : Int32), .int (99 : Int32)] C (dat dt_X11_canBe 3 rfl) ml_11_18 (w_X11_lies x0 (0 : Int32) (99 : Int32) h v1  q2) rfl rfl cat0 (by decide) c00 ?_
  refine g_if_eq 41 C (dat dt_X11_canBe 4 rfl) (by decide) (fun c3 => ?_) (fun c3 => ?_)
  · rw [if_neg (b2i_z c3)] at hrun
    refine g_iconst C (dat dt_X11_canBe 20 rfl) ic_0 ?_
    cases hrun
    exact g_zret C K (show (0 : Int32) = b2i false by decide) (dat dt_X11_canBe 21 rfl)
  · rw [if_pos (b2i_nz c3)] at hrun
    refine g_iload_n C (dat dt_X11_canBe 5 rfl) 1 rfl ?_
    refine g_iconst C (dat dt_X11_canBe 6 rfl) ic_0 ?_
    refine g_bipush C (dat dt_X11_canBe 7 rfl) bp_99 ?_
    obtain ⟨v4, q5, hrun⟩ := bd hrun
    refine g_cSi [.int x1, .int (0 : Int32), .int (99 : Int32)] C (dat dt_X11_canBe 8 rfl) ml_11_18 (w_X11_lies x1 (0 : Int32) (99 : Int32) h v4  q5) rfl rfl cat0 (by decide) c00 ?_
    refine g_if_eq 41 C (dat dt_X11_canBe 9 rfl) (by decide) (fun c6 => ?_) (fun c6 => ?_)
    · rw [if_neg (b2i_z c6)] at hrun
      refine g_iconst C (dat dt_X11_canBe 20 rfl) ic_0 ?_
      cases hrun
      exact g_zret C K (show (0 : Int32) = b2i false by decide) (dat dt_X11_canBe 21 rfl)
    · rw [if_pos (b2i_nz c6)] at hrun
      refine g_iload_n C (dat dt_X11_canBe 10 rfl) 2 rfl ?_
      refine g_iconst C (dat dt_X11_canBe 11 rfl) ic_0 ?_
      refine g_bipush C (dat dt_X11_canBe 12 rfl) bp_99 ?_
      obtain ⟨v7, q8, hrun⟩ := bd hrun
      refine g_cSi [.int x2, .int (0 : Int32), .int (99 : Int32)] C (dat dt_X11_canBe 13 rfl) ml_11_18 (w_X11_lies x2 (0 : Int32) (99 : Int32) h v7  q8) rfl rfl cat0 (by decide) c00 ?_
      refine g_if_eq 41 C (dat dt_X11_canBe 14 rfl) (by decide) (fun c9 => ?_) (fun c9 => ?_)
      · rw [if_neg (b2i_z c9)] at hrun
        refine g_iconst C (dat dt_X11_canBe 20 rfl) ic_0 ?_
        cases hrun
        exact g_zret C K (show (0 : Int32) = b2i false by decide) (dat dt_X11_canBe 21 rfl)
      · rw [if_pos (b2i_nz c9)] at hrun
        refine g_iload_n C (dat dt_X11_canBe 15 rfl) 3 rfl ?_
        obtain ⟨v10, q11, hrun⟩ := bd hrun
        refine g_cSi [.int x3] C (dat dt_X11_canBe 16 rfl) ml_11_135 (w_X11_isNation x3 h v10  q11) rfl rfl cat0 (by decide) c00 ?_
        refine g_if_eq 41 C (dat dt_X11_canBe 17 rfl) (by decide) (fun c12 => ?_) (fun c12 => ?_)
        · rw [if_neg (b2i_z c12)] at hrun
          refine g_iconst C (dat dt_X11_canBe 20 rfl) ic_0 ?_
          cases hrun
          exact g_zret C K (show (0 : Int32) = b2i false by decide) (dat dt_X11_canBe 21 rfl)
        · rw [if_pos (b2i_nz c12)] at hrun
          refine g_iconst C (dat dt_X11_canBe 18 rfl) ic_1 ?_
          refine g_goto 42 C (dat dt_X11_canBe 19 rfl) (by decide) ?_
          cases hrun
          exact g_zret C K (show (1 : Int32) = b2i true by decide) (dat dt_X11_canBe 21 rfl)
/-! SteamNationsModel.refuses(I)I -/
def dl_X11_refuses : List (Nat × Instr × Nat) := [(0, .aload_n 0, 1), (1, .iload_n 1, 1), (2, .putfield 3, 3), (5, .aload_n 0, 1), (6, .getfield 7, 3), (9, .iload_n 1, 1), (10, .ineg, 1), (11, .dup2, 1), (12, .iaload, 1), (13, .iconst 1, 1), (14, .iadd, 1), (15, .iastore, 1), (16, .iload_n 1, 1), (17, .ireturn, 1)]
set_option maxRecDepth 20000 in
theorem dt_X11_refuses : ∀ q ∈ dl_X11_refuses, decode prog_13_method_4_code q.1 = .ok q.2 := by decide +kernel
def f_X11_refuses (x1 : Int32) (h : Hp) : Option (Int32 × Hp) :=
  (inb (-x1) 7).bind fun j1 =>
  (inb (-x1) 7).bind fun j3 =>
  some (x1, (sA (sF h 81 0 x1) 82 j3 ((aI (sF h 81 0 x1) 82 j1) + (1 : Int32))))
set_option maxRecDepth 20000 in
theorem w_X11_refuses (x1 : Int32) (h : Hp) (q : (Int32 × Hp))  (hrun : f_X11_refuses x1 h = some q) : MetA ⟨"SteamNationsModel", "refuses", "(I)I"⟩ prog_13_method_4_code 2 (some .int) 1 0 0 [.ref 81, .int x1] h (some (.int q.1)) q.2 := by
  refine metA_of (by decide) (Nat.le_of_ble_eq_true rfl) (fun X C K => ?_)
  have C : Cx X cn_11 prog_13_method_4_code 2 (some .int) 1 0 0 := C
  show G X h 0 0 0 [(0, .ref 81), (1, .int x1)] []
  unfold f_X11_refuses at hrun
  refine g_aload_n C (dat dt_X11_refuses 0 rfl) 0 rfl ?_
  refine g_iload_n C (dat dt_X11_refuses 1 rfl) 1 rfl ?_
  refine g_putI C (dat dt_X11_refuses 2 rfl) fl_11_3 rfl rfl kd_81 rfl ltk_81 ?_
  refine g_aload_n C (dat dt_X11_refuses 3 rfl) 0 rfl ?_
  refine g_getR C (dat dt_X11_refuses 4 rfl) fl_11_7 kd_81 rfl ltk_81 ?_
  refine g_iload_n C (dat dt_X11_refuses 5 rfl) 1 rfl ?_
  refine g_ineg C (dat dt_X11_refuses 6 rfl) ?_
  refine g_dup2 C (dat dt_X11_refuses 7 rfl) rfl rfl ?_
  obtain ⟨j1, q2, hrun⟩ := bd hrun
  refine g_iald C (dat dt_X11_refuses 8 rfl) kd_82 ltk_82 q2 ?_
  refine g_iconst C (dat dt_X11_refuses 9 rfl) ic_1 ?_
  refine g_iadd C (dat dt_X11_refuses 10 rfl) ?_
  obtain ⟨j3, q4, hrun⟩ := bd hrun
  refine g_iast (j := j3) C (dat dt_X11_refuses 11 rfl) kd_82 ltk_82 q4  ?_
  refine g_iload_n C (dat dt_X11_refuses 12 rfl) 1 rfl ?_
  cases hrun
  exact g_iret C K (dat dt_X11_refuses 13 rfl)
/-! SteamNationsModel.many()I -/
def dl_X11_many : List (Nat × Instr × Nat) := [(0, .aload_n 0, 1), (1, .getfield 28, 3), (4, .bipush 51, 2), (6, .iaload, 1), (7, .ireturn, 1)]
set_option maxRecDepth 20000 in
theorem dt_X11_many : ∀ q ∈ dl_X11_many, decode prog_13_method_17_code q.1 = .ok q.2 := by decide +kernel
def f_X11_many  (h : Hp) : Option Int32 :=
  some (aI h 83 51)
set_option maxRecDepth 20000 in
theorem w_X11_many  (h : Hp) (q : Int32)  (hrun : f_X11_many  h = some q) : MetA ⟨"SteamNationsModel", "many", "()I"⟩ prog_13_method_17_code 1 (some .int) 1 0 0 [.ref 81] h (some (.int q)) h := by
  refine metA_of (by decide) (Nat.le_of_ble_eq_true rfl) (fun X C K => ?_)
  have C : Cx X cn_11 prog_13_method_17_code 1 (some .int) 1 0 0 := C
  show G X h 0 0 0 [(0, .ref 81)] []
  unfold f_X11_many at hrun
  refine g_aload_n C (dat dt_X11_many 0 rfl) 0 rfl ?_
  refine g_getR C (dat dt_X11_many 1 rfl) fl_11_28 kd_81 rfl ltk_81 ?_
  refine g_bipush C (dat dt_X11_many 2 rfl) bp_51 ?_
  refine g_iald (j := 51) C (dat dt_X11_many 3 rfl) kd_83 ltk_83 (show inb (51 : Int32) 5662 = some 51 by decide) ?_
  cases hrun
  exact g_iret C K (dat dt_X11_many 4 rfl)
/-! SteamNationsModel.adds(IIII)V -/
def dl_X11_adds : List (Nat × Instr × Nat) := [(0, .aload_n 0, 1), (1, .invokevirtual 127, 3), (4, .istore 5, 2), (6, .aload_n 0, 1), (7, .getfield 28, 3), (10, .iconst 0, 1), (11, .iconst 3, 1), (12, .iload 5, 2), (14, .imul, 1), (15, .iadd, 1), (16, .iload_n 1, 1), (17, .iastore, 1), (18, .aload_n 0, 1), (19, .getfield 28, 3), (22, .iconst 0, 1), (23, .iconst 3, 1), (24, .iload 5, 2), (26, .imul, 1), (27, .iadd, 1), (28, .iconst 1, 1), (29, .iadd, 1), (30, .iload_n 2, 1), (31, .iastore, 1), (32, .aload_n 0, 1), (33, .getfield 28, 3), (36, .iconst 0, 1), (37, .iconst 3, 1), (38, .iload 5, 2), (40, .imul, 1), (41, .iadd, 1), (42, .iconst 2, 1), (43, .iadd, 1), (44, .iload_n 3, 1), (45, .iastore, 1), (46, .aload_n 0, 1), (47, .getfield 28, 3), (50, .bipush 25, 2), (52, .iload 5, 2), (54, .iadd, 1), (55, .iload 4, 2), (57, .iastore, 1), (58, .aload_n 0, 1), (59, .getfield 28, 3), (62, .bipush 18, 2), (64, .iload 5, 2), (66, .iadd, 1), (67, .iconst (-1), 1), (68, .iastore, 1), (69, .aload_n 0, 1), (70, .getfield 28, 3), (73, .bipush 51, 2), (75, .dup2, 1), (76, .iaload, 1), (77, .iconst 1, 1), (78, .iadd, 1), (79, .iastore, 1), (80, .return_, 1)]
set_option maxRecDepth 20000 in
theorem dt_X11_adds : ∀ q ∈ dl_X11_adds, decode prog_13_method_25_code q.1 = .ok q.2 := by decide +kernel
def f_X11_adds (x1 : Int32) (x2 : Int32) (x3 : Int32) (x4 : Int32) (h : Hp) : Option (Unit × Hp) :=
  (f_X11_many  h).bind fun v1 =>
  (inb ((0 : Int32) + ((3 : Int32) * v1)) 5662).bind fun j3 =>
  (inb (((0 : Int32) + ((3 : Int32) * v1)) + (1 : Int32)) 5662).bind fun j5 =>
  (inb (((0 : Int32) + ((3 : Int32) * v1)) + (2 : Int32)) 5662).bind fun j7 =>
  (inb ((25 : Int32) + v1) 5662).bind fun j9 =>
  (inb ((18 : Int32) + v1) 5662).bind fun j11 =>
  some ((), (sA (sA (sA (sA (sA (sA h 83 j3 x1) 83 j5 x2) 83 j7 x3) 83 j9 x4) 83 j11 (-1 : Int32)) 83 51 ((aI (sA (sA (sA (sA (sA h 83 j3 x1) 83 j5 x2) 83 j7 x3) 83 j9 x4) 83 j11 (-1 : Int32)) 83 51) + (1 : Int32))))
set_option maxRecDepth 20000 in
theorem w_X11_adds (x1 : Int32) (x2 : Int32) (x3 : Int32) (x4 : Int32) (h : Hp) (q : (Unit × Hp))  (hrun : f_X11_adds x1 x2 x3 x4 h = some q) : MetA ⟨"SteamNationsModel", "adds", "(IIII)V"⟩ prog_13_method_25_code 6 none 2 0 0 [.ref 81, .int x1, .int x2, .int x3, .int x4] h none q.2 := by
  refine metA_of (by decide) (Nat.le_of_ble_eq_true rfl) (fun X C K => ?_)
  have C : Cx X cn_11 prog_13_method_25_code 6 none 2 0 0 := C
  show G X h 0 0 0 [(0, .ref 81), (1, .int x1), (2, .int x2), (3, .int x3), (4, .int x4)] []
  unfold f_X11_adds at hrun
  refine g_aload_n C (dat dt_X11_adds 0 rfl) 0 rfl ?_
  obtain ⟨v1, q2, hrun⟩ := bd hrun
  refine g_cVi [] C (dat dt_X11_adds 1 rfl) ml_11_127 (w_X11_many  h v1  q2) kd_81 ltk_81 rfl rfl cat0 (by decide) c00 ?_
  refine g_istore (lv' := [(0, .ref 81), (1, .int x1), (2, .int x2), (3, .int x3), (4, .int x4), (5, .int v1)]) C (dat dt_X11_adds 2 rfl) (by decide) rfl ?_
  refine g_aload_n C (dat dt_X11_adds 3 rfl) 0 rfl ?_
  refine g_getR C (dat dt_X11_adds 4 rfl) fl_11_28 kd_81 rfl ltk_81 ?_
  refine g_iconst C (dat dt_X11_adds 5 rfl) ic_0 ?_
  refine g_iconst C (dat dt_X11_adds 6 rfl) ic_3 ?_
  refine g_iload C (dat dt_X11_adds 7 rfl) 5 rfl ?_
  refine g_imul C (dat dt_X11_adds 8 rfl) ?_
  refine g_iadd C (dat dt_X11_adds 9 rfl) ?_
  refine g_iload_n C (dat dt_X11_adds 10 rfl) 1 rfl ?_
  obtain ⟨j3, q4, hrun⟩ := bd hrun
  refine g_iast (j := j3) C (dat dt_X11_adds 11 rfl) kd_83 ltk_83 q4  ?_
  refine g_aload_n C (dat dt_X11_adds 12 rfl) 0 rfl ?_
  refine g_getR C (dat dt_X11_adds 13 rfl) fl_11_28 kd_81 rfl ltk_81 ?_
  refine g_iconst C (dat dt_X11_adds 14 rfl) ic_0 ?_
  refine g_iconst C (dat dt_X11_adds 15 rfl) ic_3 ?_
  refine g_iload C (dat dt_X11_adds 16 rfl) 5 rfl ?_
  refine g_imul C (dat dt_X11_adds 17 rfl) ?_
  refine g_iadd C (dat dt_X11_adds 18 rfl) ?_
  refine g_iconst C (dat dt_X11_adds 19 rfl) ic_1 ?_
  refine g_iadd C (dat dt_X11_adds 20 rfl) ?_
  refine g_iload_n C (dat dt_X11_adds 21 rfl) 2 rfl ?_
  obtain ⟨j5, q6, hrun⟩ := bd hrun
  refine g_iast (j := j5) C (dat dt_X11_adds 22 rfl) kd_83 ltk_83 q6  ?_
  refine g_aload_n C (dat dt_X11_adds 23 rfl) 0 rfl ?_
  refine g_getR C (dat dt_X11_adds 24 rfl) fl_11_28 kd_81 rfl ltk_81 ?_
  refine g_iconst C (dat dt_X11_adds 25 rfl) ic_0 ?_
  refine g_iconst C (dat dt_X11_adds 26 rfl) ic_3 ?_
  refine g_iload C (dat dt_X11_adds 27 rfl) 5 rfl ?_
  refine g_imul C (dat dt_X11_adds 28 rfl) ?_
  refine g_iadd C (dat dt_X11_adds 29 rfl) ?_
  refine g_iconst C (dat dt_X11_adds 30 rfl) ic_2 ?_
  refine g_iadd C (dat dt_X11_adds 31 rfl) ?_
  refine g_iload_n C (dat dt_X11_adds 32 rfl) 3 rfl ?_
  obtain ⟨j7, q8, hrun⟩ := bd hrun
  refine g_iast (j := j7) C (dat dt_X11_adds 33 rfl) kd_83 ltk_83 q8  ?_
  refine g_aload_n C (dat dt_X11_adds 34 rfl) 0 rfl ?_
  refine g_getR C (dat dt_X11_adds 35 rfl) fl_11_28 kd_81 rfl ltk_81 ?_
  refine g_bipush C (dat dt_X11_adds 36 rfl) bp_25 ?_
  refine g_iload C (dat dt_X11_adds 37 rfl) 5 rfl ?_
  refine g_iadd C (dat dt_X11_adds 38 rfl) ?_
  refine g_iload C (dat dt_X11_adds 39 rfl) 4 rfl ?_
  obtain ⟨j9, q10, hrun⟩ := bd hrun
  refine g_iast (j := j9) C (dat dt_X11_adds 40 rfl) kd_83 ltk_83 q10  ?_
  refine g_aload_n C (dat dt_X11_adds 41 rfl) 0 rfl ?_
  refine g_getR C (dat dt_X11_adds 42 rfl) fl_11_28 kd_81 rfl ltk_81 ?_
  refine g_bipush C (dat dt_X11_adds 43 rfl) bp_18 ?_
  refine g_iload C (dat dt_X11_adds 44 rfl) 5 rfl ?_
  refine g_iadd C (dat dt_X11_adds 45 rfl) ?_
  refine g_iconst C (dat dt_X11_adds 46 rfl) ic_m1 ?_
  obtain ⟨j11, q12, hrun⟩ := bd hrun
  refine g_iast (j := j11) C (dat dt_X11_adds 47 rfl) kd_83 ltk_83 q12  ?_
  refine g_aload_n C (dat dt_X11_adds 48 rfl) 0 rfl ?_
  refine g_getR C (dat dt_X11_adds 49 rfl) fl_11_28 kd_81 rfl ltk_81 ?_
  refine g_bipush C (dat dt_X11_adds 50 rfl) bp_51 ?_
  refine g_dup2 C (dat dt_X11_adds 51 rfl) rfl rfl ?_
  refine g_iald (j := 51) C (dat dt_X11_adds 52 rfl) kd_83 ltk_83 (show inb (51 : Int32) 5662 = some 51 by decide) ?_
  refine g_iconst C (dat dt_X11_adds 53 rfl) ic_1 ?_
  refine g_iadd C (dat dt_X11_adds 54 rfl) ?_
  refine g_iast (j := 51) C (dat dt_X11_adds 55 rfl) kd_83 ltk_83 (show inb (51 : Int32) 5662 = some 51 by decide)  ?_
  cases hrun
  exact g_vret C K (dat dt_X11_adds 56 rfl)
/-! SteamNationsModel.good(I)I -/
def dl_X11_good : List (Nat × Instr × Nat) := [(0, .aload_n 0, 1), (1, .iconst 0, 1), (2, .putfield 3, 3), (5, .iload_n 1, 1), (6, .ireturn, 1)]
set_option maxRecDepth 20000 in
theorem dt_X11_good : ∀ q ∈ dl_X11_good, decode prog_13_method_5_code q.1 = .ok q.2 := by decide +kernel
def f_X11_good (x1 : Int32) (h : Hp) : Option (Int32 × Hp) :=
  some (x1, (sF h 81 0 (0 : Int32)))
set_option maxRecDepth 20000 in
theorem w_X11_good (x1 : Int32) (h : Hp) (q : (Int32 × Hp))  (hrun : f_X11_good x1 h = some q) : MetA ⟨"SteamNationsModel", "good", "(I)I"⟩ prog_13_method_5_code 2 (some .int) 1 0 0 [.ref 81, .int x1] h (some (.int q.1)) q.2 := by
  refine metA_of (by decide) (Nat.le_of_ble_eq_true rfl) (fun X C K => ?_)
  have C : Cx X cn_11 prog_13_method_5_code 2 (some .int) 1 0 0 := C
  show G X h 0 0 0 [(0, .ref 81), (1, .int x1)] []
  unfold f_X11_good at hrun
  refine g_aload_n C (dat dt_X11_good 0 rfl) 0 rfl ?_
  refine g_iconst C (dat dt_X11_good 1 rfl) ic_0 ?_
  refine g_putI C (dat dt_X11_good 2 rfl) fl_11_3 rfl rfl kd_81 rfl ltk_81 ?_
  refine g_iload_n C (dat dt_X11_good 3 rfl) 1 rfl ?_
  cases hrun
  exact g_iret C K (dat dt_X11_good 4 rfl)
/-! SteamNationsModel.settled(I)I -/
def dl_X11_settled : List (Nat × Instr × Nat) := [(0, .aload_n 0, 1), (1, .iconst 0, 1), (2, .putfield 11, 3), (5, .aload_n 0, 1), (6, .iload_n 1, 1), (7, .invokevirtual 14, 3), (10, .ireturn, 1)]
set_option maxRecDepth 20000 in
theorem dt_X11_settled : ∀ q ∈ dl_X11_settled, decode prog_13_method_6_code q.1 = .ok q.2 := by decide +kernel
def f_X11_settled (x1 : Int32) (h : Hp) : Option (Int32 × Hp) :=
  (f_X11_good x1 (sF h 81 32 (0 : Int32))).bind fun v1 =>
  some (v1.1, v1.2)
set_option maxRecDepth 20000 in
theorem w_X11_settled (x1 : Int32) (h : Hp) (q : (Int32 × Hp))  (hrun : f_X11_settled x1 h = some q) : MetA ⟨"SteamNationsModel", "settled", "(I)I"⟩ prog_13_method_6_code 2 (some .int) 2 0 0 [.ref 81, .int x1] h (some (.int q.1)) q.2 := by
  refine metA_of (by decide) (Nat.le_of_ble_eq_true rfl) (fun X C K => ?_)
  have C : Cx X cn_11 prog_13_method_6_code 2 (some .int) 2 0 0 := C
  show G X h 0 0 0 [(0, .ref 81), (1, .int x1)] []
  unfold f_X11_settled at hrun
  refine g_aload_n C (dat dt_X11_settled 0 rfl) 0 rfl ?_
  refine g_iconst C (dat dt_X11_settled 1 rfl) ic_0 ?_
  refine g_putI C (dat dt_X11_settled 2 rfl) fl_11_11 rfl rfl kd_81 rfl ltk_81 ?_
  refine g_aload_n C (dat dt_X11_settled 3 rfl) 0 rfl ?_
  refine g_iload_n C (dat dt_X11_settled 4 rfl) 1 rfl ?_
  obtain ⟨v1, q2, hrun⟩ := bd hrun
  refine g_cVi [.int x1] C (dat dt_X11_settled 5 rfl) ml_11_14 (w_X11_good x1 (sF h 81 32 (0 : Int32)) v1  q2) kd_81 ltk_81 rfl rfl cat0 (by decide) c00 ?_
  cases hrun
  exact g_iret C K (dat dt_X11_settled 6 rfl)
/-! SteamNationsModel.sitter(IIII)I -/
def dl_X11_sitter : List (Nat × Instr × Nat) := [(0, .iload_n 1, 1), (1, .iload_n 2, 1), (2, .iload_n 3, 1), (3, .iload 4, 2), (5, .invokestatic 139, 3), (8, .ifCond .ne 9, 3), (11, .aload_n 0, 1), (12, .iconst (-1), 1), (13, .invokevirtual 121, 3), (16, .ireturn, 1), (17, .aload_n 0, 1), (18, .invokevirtual 127, 3), (21, .bipush 6, 2), (23, .if_icmp .ne 10, 3), (26, .aload_n 0, 1), (27, .bipush (-5), 2), (29, .invokevirtual 121, 3), (32, .ireturn, 1), (33, .aload_n 0, 1), (34, .iload_n 1, 1), (35, .iload_n 2, 1), (36, .iload_n 3, 1), (37, .iload 4, 2), (39, .invokevirtual 143, 3), (42, .aload_n 0, 1), (43, .aload_n 0, 1), (44, .invokevirtual 127, 3), (47, .iconst 1, 1), (48, .isub, 1), (49, .invokevirtual 124, 3), (52, .ireturn, 1)]
set_option maxRecDepth 20000 in
theorem dt_X11_sitter : ∀ q ∈ dl_X11_sitter, decode prog_13_method_26_code q.1 = .ok q.2 := by decide +kernel
def f_X11_sitter (x1 : Int32) (x2 : Int32) (x3 : Int32) (x4 : Int32) (h : Hp) : Option (Int32 × Hp) :=
  (f_X11_canBe x1 x2 x3 x4).bind fun v1 =>
  if v1 = true then
  (f_X11_many  h).bind fun v4 =>
  if v4 = (6 : Int32) then
  (f_X11_refuses (-5 : Int32) h).bind fun v13 =>
  some (v13.1, v13.2)
  else
  (f_X11_adds x1 x2 x3 x4 h).bind fun v7 =>
  (f_X11_many  v7.2).bind fun v9 =>
  (f_X11_settled (v9 - (1 : Int32)) v7.2).bind fun v11 =>
  some (v11.1, v11.2)
  else
  (f_X11_refuses (-1 : Int32) h).bind fun v15 =>
  some (v15.1, v15.2)
set_option maxRecDepth 20000 in
theorem w_X11_sitter (x1 : Int32) (x2 : Int32) (x3 : Int32) (x4 : Int32) (h : Hp) (q : (Int32 × Hp))  (hrun : f_X11_sitter x1 x2 x3 x4 h = some q) : MetA ⟨"SteamNationsModel", "sitter", "(IIII)I"⟩ prog_13_method_26_code 5 (some .int) 4 0 0 [.ref 81, .int x1, .int x2, .int x3, .int x4] h (some (.int q.1)) q.2 := by
  refine metA_of (by decide) (Nat.le_of_ble_eq_true rfl) (fun X C K => ?_)
  have C : Cx X cn_11 prog_13_method_26_code 5 (some .int) 4 0 0 := C
  show G X h 0 0 0 [(0, .ref 81), (1, .int x1), (2, .int x2), (3, .int x3), (4, .int x4)] []
  unfold f_X11_sitter at hrun
  refine g_iload_n C (dat dt_X11_sitter 0 rfl) 1 rfl ?_
  refine g_iload_n C (dat dt_X11_sitter 1 rfl) 2 rfl ?_
  refine g_iload_n C (dat dt_X11_sitter 2 rfl) 3 rfl ?_
  refine g_iload C (dat dt_X11_sitter 3 rfl) 4 rfl ?_
  obtain ⟨v1, q2, hrun⟩ := bd hrun
  refine g_cSi [.int x1, .int x2, .int x3, .int x4] C (dat dt_X11_sitter 4 rfl) ml_11_139 (w_X11_canBe x1 x2 x3 x4 h v1  q2) rfl rfl cat0 (by decide) c00 ?_
  refine g_if_ne 17 C (dat dt_X11_sitter 5 rfl) (by decide) (fun c3 => ?_) (fun c3 => ?_)
  · rw [if_pos (b2i_nz c3)] at hrun
    refine g_aload_n C (dat dt_X11_sitter 10 rfl) 0 rfl ?_
    obtain ⟨v4, q5, hrun⟩ := bd hrun
    refine g_cVi [] C (dat dt_X11_sitter 11 rfl) ml_11_127 (w_X11_many  h v4  q5) kd_81 ltk_81 rfl rfl cat0 (by decide) c00 ?_
    refine g_bipush C (dat dt_X11_sitter 12 rfl) bp_6 ?_
    refine g_ic_ne 33 C (dat dt_X11_sitter 13 rfl) (by decide) (fun c6 => ?_) (fun c6 => ?_)
    · rw [if_neg c6] at hrun
      refine g_aload_n C (dat dt_X11_sitter 18 rfl) 0 rfl ?_
      refine g_iload_n C (dat dt_X11_sitter 19 rfl) 1 rfl ?_
      refine g_iload_n C (dat dt_X11_sitter 20 rfl) 2 rfl ?_
      refine g_iload_n C (dat dt_X11_sitter 21 rfl) 3 rfl ?_
      refine g_iload C (dat dt_X11_sitter 22 rfl) 4 rfl ?_
      obtain ⟨v7, q8, hrun⟩ := bd hrun
      refine g_cVv [.int x1, .int x2, .int x3, .int x4] C (dat dt_X11_sitter 23 rfl) ml_11_143 (w_X11_adds x1 x2 x3 x4 h v7  q8) kd_81 ltk_81 rfl rfl cat0 (by decide) c00 ?_
      refine g_aload_n C (dat dt_X11_sitter 24 rfl) 0 rfl ?_
      refine g_aload_n C (dat dt_X11_sitter 25 rfl) 0 rfl ?_
      obtain ⟨v9, q10, hrun⟩ := bd hrun
      refine g_cVi [] C (dat dt_X11_sitter 26 rfl) ml_11_127 (w_X11_many  v7.2 v9  q10) kd_81 ltk_81 rfl rfl (Nat.le_of_ble_eq_true rfl) (by decide) c00 ?_
      refine g_iconst C (dat dt_X11_sitter 27 rfl) ic_1 ?_
      refine g_isub C (dat dt_X11_sitter 28 rfl) ?_
      obtain ⟨v11, q12, hrun⟩ := bd hrun
      refine g_cVi [.int (v9 - (1 : Int32))] C (dat dt_X11_sitter 29 rfl) ml_11_124 (w_X11_settled (v9 - (1 : Int32)) v7.2 v11  q12) kd_81 ltk_81 rfl rfl cat0 (by decide) c00 ?_
      cases hrun
      exact g_iret C K (dat dt_X11_sitter 30 rfl)
    · rw [if_pos c6] at hrun
      refine g_aload_n C (dat dt_X11_sitter 14 rfl) 0 rfl ?_
      refine g_bipush C (dat dt_X11_sitter 15 rfl) bp_m5 ?_
      obtain ⟨v13, q14, hrun⟩ := bd hrun
      refine g_cVi [.int (-5 : Int32)] C (dat dt_X11_sitter 16 rfl) ml_11_121 (w_X11_refuses (-5 : Int32) h v13  q14) kd_81 ltk_81 rfl rfl cat0 (by decide) c00 ?_
      cases hrun
      exact g_iret C K (dat dt_X11_sitter 17 rfl)
  · rw [if_neg (b2i_z c3)] at hrun
    refine g_aload_n C (dat dt_X11_sitter 6 rfl) 0 rfl ?_
    refine g_iconst C (dat dt_X11_sitter 7 rfl) ic_m1 ?_
    obtain ⟨v15, q16, hrun⟩ := bd hrun
    refine g_cVi [.int (-1 : Int32)] C (dat dt_X11_sitter 8 rfl) ml_11_121 (w_X11_refuses (-1 : Int32) h v15  q16) kd_81 ltk_81 rfl rfl cat0 (by decide) c00 ?_
    cases hrun
    exact g_iret C K (dat dt_X11_sitter 9 rfl)
/-! SteamNationsModel.isSitter(I)Z -/
def dl_X11_isSitter : List (Nat × Instr × Nat) := [(0, .iload_n 1, 1), (1, .iconst 0, 1), (2, .aload_n 0, 1), (3, .invokevirtual 127, 3), (6, .iconst 1, 1), (7, .isub, 1), (8, .invokestatic 18, 3), (11, .ireturn, 1)]
set_option maxRecDepth 20000 in
theorem dt_X11_isSitter : ∀ q ∈ dl_X11_isSitter, decode prog_13_method_18_code q.1 = .ok q.2 := by decide +kernel
def f_X11_isSitter (x1 : Int32) (h : Hp) : Option Bool :=
  (f_X11_many  h).bind fun v1 =>
  (f_X11_lies x1 (0 : Int32) (v1 - (1 : Int32))).bind fun v3 =>
  some v3
set_option maxRecDepth 20000 in
theorem w_X11_isSitter (x1 : Int32) (h : Hp) (q : Bool)  (hrun : f_X11_isSitter x1 h = some q) : MetA ⟨"SteamNationsModel", "isSitter", "(I)Z"⟩ prog_13_method_18_code 2 (some .boolean) 2 0 0 [.ref 81, .int x1] h (some (.int (b2i q))) h := by
  refine metA_of (by decide) (Nat.le_of_ble_eq_true rfl) (fun X C K => ?_)
  have C : Cx X cn_11 prog_13_method_18_code 2 (some .boolean) 2 0 0 := C
  show G X h 0 0 0 [(0, .ref 81), (1, .int x1)] []
  unfold f_X11_isSitter at hrun
  refine g_iload_n C (dat dt_X11_isSitter 0 rfl) 1 rfl ?_
  refine g_iconst C (dat dt_X11_isSitter 1 rfl) ic_0 ?_
  refine g_aload_n C (dat dt_X11_isSitter 2 rfl) 0 rfl ?_
  obtain ⟨v1, q2, hrun⟩ := bd hrun
  refine g_cVi [] C (dat dt_X11_isSitter 3 rfl) ml_11_127 (w_X11_many  h v1  q2) kd_81 ltk_81 rfl rfl (Nat.le_of_ble_eq_true rfl) (by decide) c00 ?_
  refine g_iconst C (dat dt_X11_isSitter 4 rfl) ic_1 ?_
  refine g_isub C (dat dt_X11_isSitter 5 rfl) ?_
  obtain ⟨v3, q4, hrun⟩ := bd hrun
  refine g_cSi [.int x1, .int (0 : Int32), .int (v1 - (1 : Int32))] C (dat dt_X11_isSitter 6 rfl) ml_11_18 (w_X11_lies x1 (0 : Int32) (v1 - (1 : Int32)) h v3  q4) rfl rfl cat0 (by decide) c00 ?_
  cases hrun
  exact g_zret C K rfl (dat dt_X11_isSitter 7 rfl)
/-! SteamNationsModel.partsOf(II)I -/
def dl_X11_partsOf : List (Nat × Instr × Nat) := [(0, .aload_n 0, 1), (1, .getfield 28, 3), (4, .iconst 0, 1), (5, .iconst 3, 1), (6, .iload_n 1, 1), (7, .imul, 1), (8, .iadd, 1), (9, .iload_n 2, 1), (10, .iadd, 1), (11, .iaload, 1), (12, .ireturn, 1)]
set_option maxRecDepth 20000 in
theorem dt_X11_partsOf : ∀ q ∈ dl_X11_partsOf, decode prog_13_method_19_code q.1 = .ok q.2 := by decide +kernel
def f_X11_partsOf (x1 : Int32) (x2 : Int32) (h : Hp) : Option Int32 :=
  (inb (((0 : Int32) + ((3 : Int32) * x1)) + x2) 5662).bind fun j1 =>
  some (aI h 83 j1)
set_option maxRecDepth 20000 in
theorem w_X11_partsOf (x1 : Int32) (x2 : Int32) (h : Hp) (q : Int32)  (hrun : f_X11_partsOf x1 x2 h = some q) : MetA ⟨"SteamNationsModel", "partsOf", "(II)I"⟩ prog_13_method_19_code 3 (some .int) 1 0 0 [.ref 81, .int x1, .int x2] h (some (.int q)) h := by
  refine metA_of (by decide) (Nat.le_of_ble_eq_true rfl) (fun X C K => ?_)
  have C : Cx X cn_11 prog_13_method_19_code 3 (some .int) 1 0 0 := C
  show G X h 0 0 0 [(0, .ref 81), (1, .int x1), (2, .int x2)] []
  unfold f_X11_partsOf at hrun
  refine g_aload_n C (dat dt_X11_partsOf 0 rfl) 0 rfl ?_
  refine g_getR C (dat dt_X11_partsOf 1 rfl) fl_11_28 kd_81 rfl ltk_81 ?_
  refine g_iconst C (dat dt_X11_partsOf 2 rfl) ic_0 ?_
  refine g_iconst C (dat dt_X11_partsOf 3 rfl) ic_3 ?_
  refine g_iload_n C (dat dt_X11_partsOf 4 rfl) 1 rfl ?_
  refine g_imul C (dat dt_X11_partsOf 5 rfl) ?_
  refine g_iadd C (dat dt_X11_partsOf 6 rfl) ?_
  refine g_iload_n C (dat dt_X11_partsOf 7 rfl) 2 rfl ?_
  refine g_iadd C (dat dt_X11_partsOf 8 rfl) ?_
  obtain ⟨j1, q2, hrun⟩ := bd hrun
  refine g_iald C (dat dt_X11_partsOf 9 rfl) kd_83 ltk_83 q2 ?_
  cases hrun
  exact g_iret C K (dat dt_X11_partsOf 10 rfl)
/-! SteamNationsModel.seatOf(I)I -/
def dl_X11_seatOf : List (Nat × Instr × Nat) := [(0, .aload_n 0, 1), (1, .getfield 28, 3), (4, .bipush 18, 2), (6, .iload_n 1, 1), (7, .iadd, 1), (8, .iaload, 1), (9, .ireturn, 1)]
set_option maxRecDepth 20000 in
theorem dt_X11_seatOf : ∀ q ∈ dl_X11_seatOf, decode prog_13_method_20_code q.1 = .ok q.2 := by decide +kernel
def f_X11_seatOf (x1 : Int32) (h : Hp) : Option Int32 :=
  (inb ((18 : Int32) + x1) 5662).bind fun j1 =>
  some (aI h 83 j1)
set_option maxRecDepth 20000 in
theorem w_X11_seatOf (x1 : Int32) (h : Hp) (q : Int32)  (hrun : f_X11_seatOf x1 h = some q) : MetA ⟨"SteamNationsModel", "seatOf", "(I)I"⟩ prog_13_method_20_code 2 (some .int) 1 0 0 [.ref 81, .int x1] h (some (.int q)) h := by
  refine metA_of (by decide) (Nat.le_of_ble_eq_true rfl) (fun X C K => ?_)
  have C : Cx X cn_11 prog_13_method_20_code 2 (some .int) 1 0 0 := C
  show G X h 0 0 0 [(0, .ref 81), (1, .int x1)] []
  unfold f_X11_seatOf at hrun
  refine g_aload_n C (dat dt_X11_seatOf 0 rfl) 0 rfl ?_
  refine g_getR C (dat dt_X11_seatOf 1 rfl) fl_11_28 kd_81 rfl ltk_81 ?_
  refine g_bipush C (dat dt_X11_seatOf 2 rfl) bp_18 ?_
  refine g_iload_n C (dat dt_X11_seatOf 3 rfl) 1 rfl ?_
  refine g_iadd C (dat dt_X11_seatOf 4 rfl) ?_
  obtain ⟨j1, q2, hrun⟩ := bd hrun
  refine g_iald C (dat dt_X11_seatOf 5 rfl) kd_83 ltk_83 q2 ?_
  cases hrun
  exact g_iret C K (dat dt_X11_seatOf 6 rfl)
/-! SteamNationsModel.nationOf(I)I -/
def dl_X11_nationOf : List (Nat × Instr × Nat) := [(0, .iconst 0, 1), (1, .istore_n 2, 1), (2, .iconst 1, 1), (3, .istore_n 3, 1), (4, .iload_n 3, 1), (5, .iconst 3, 1), (6, .if_icmp .ge 26, 3), (9, .aload_n 0, 1), (10, .iload_n 1, 1), (11, .iload_n 3, 1), (12, .invokevirtual 131, 3), (15, .aload_n 0, 1), (16, .iload_n 1, 1), (17, .iload_n 2, 1), (18, .invokevirtual 131, 3), (21, .if_icmp .le 5, 3), (24, .iload_n 3, 1), (25, .istore_n 2, 1), (26, .iinc 3 1, 3), (29, .goto (-25), 3), (32, .iload_n 2, 1), (33, .ireturn, 1)]
set_option maxRecDepth 20000 in
theorem dt_X11_nationOf : ∀ q ∈ dl_X11_nationOf, decode prog_13_method_22_code q.1 = .ok q.2 := by decide +kernel
def kp_X11_nationOf_4  (x1 : Int32) (h : Hp) (X : Xt) (s : (Int32 × Int32)) : Prop := G X h 0 0 4 [(0, .ref 81), (1, .int x1), (2, .int s.1), (3, .int s.2)] []
def ke_X11_nationOf_4  (x1 : Int32) (h : Hp) (X : Xt) (e : Int32) : Prop := G X h 0 0 32 [(2, .int e)] []
def b_X11_nationOf_4  (x1 : Int32) (x2 : Int32) (x3 : Int32) (h : Hp) : Option ((Int32 × Int32) ⊕ Int32) :=
  if (3 : Int32) ≤ x3 then
  some (.inr ( x2))
  else
  (f_X11_partsOf x1 x3 h).bind fun v2 =>
  (f_X11_partsOf x1 x2 h).bind fun v4 =>
  if v2 ≤ v4 then
  some (.inl (x2, (x3 + (1 : Int32))))
  else
  some (.inl (x3, (x3 + (1 : Int32))))
set_option maxRecDepth 20000 in
theorem wb_X11_nationOf_4 {X : Xt} (C : Cx X cn_11 prog_13_method_22_code 4 (some .int) 2 0 0)   (x1 : Int32) (x2 : Int32) (x3 : Int32) (h : Hp) (q : (Int32 × Int32) ⊕ Int32) (hrun : b_X11_nationOf_4  x1 x2 x3 h = some q) (Ks : ∀ s, q = .inl s → kp_X11_nationOf_4  x1 h X s) (Ke : ∀ e, q = .inr e → ke_X11_nationOf_4  x1 h X e) : kp_X11_nationOf_4  x1 h X (x2, x3) := by
  show G X h 0 0 4 [(0, .ref 81), (1, .int x1), (2, .int x2), (3, .int x3)] []
  unfold b_X11_nationOf_4 at hrun
  refine g_iload_n C (dat dt_X11_nationOf 4 rfl) 3 rfl ?_
  refine g_iconst C (dat dt_X11_nationOf 5 rfl) ic_3 ?_
  refine g_ic_ge 32 C (dat dt_X11_nationOf 6 rfl) (by decide) (fun c1 => ?_) (fun c1 => ?_)
  · rw [if_pos c1] at hrun
    refine g_sub [2] (lv' := [(2, .int x2)]) rfl ?_
    cases hrun
    exact Ke ( x2) rfl
  · rw [if_neg c1] at hrun
    refine g_aload_n C (dat dt_X11_nationOf 7 rfl) 0 rfl ?_
    refine g_iload_n C (dat dt_X11_nationOf 8 rfl) 1 rfl ?_
    refine g_iload_n C (dat dt_X11_nationOf 9 rfl) 3 rfl ?_
    obtain ⟨v2, q3, hrun⟩ := bd hrun
    refine g_cVi [.int x1, .int x3] C (dat dt_X11_nationOf 10 rfl) ml_11_131 (w_X11_partsOf x1 x3 h v2  q3) kd_81 ltk_81 rfl rfl cat0 (by decide) c00 ?_
    refine g_aload_n C (dat dt_X11_nationOf 11 rfl) 0 rfl ?_
    refine g_iload_n C (dat dt_X11_nationOf 12 rfl) 1 rfl ?_
    refine g_iload_n C (dat dt_X11_nationOf 13 rfl) 2 rfl ?_
    obtain ⟨v4, q5, hrun⟩ := bd hrun
    refine g_cVi [.int x1, .int x2] C (dat dt_X11_nationOf 14 rfl) ml_11_131 (w_X11_partsOf x1 x2 h v4  q5) kd_81 ltk_81 rfl rfl (Nat.le_of_ble_eq_true rfl) (by decide) c00 ?_
    refine g_ic_le 26 C (dat dt_X11_nationOf 15 rfl) (by decide) (fun c6 => ?_) (fun c6 => ?_)
    · rw [if_pos c6] at hrun
      refine g_iinc (v := (x3 + (1 : Int32))) (lv' := [(0, .ref 81), (1, .int x1), (2, .int x2), (3, .int (x3 + (1 : Int32)))]) C (dat dt_X11_nationOf 18 rfl) 3 rfl (congrArg (fun z => x3 + z) ic_1) (by decide) rfl ?_
      refine g_goto 4 C (dat dt_X11_nationOf 19 rfl) (by decide) ?_
      cases hrun
      exact Ks (x2, (x3 + (1 : Int32))) rfl
    · rw [if_neg c6] at hrun
      refine g_iload_n C (dat dt_X11_nationOf 16 rfl) 3 rfl ?_
      refine g_istore_n (lv' := [(0, .ref 81), (1, .int x1), (2, .int x3), (3, .int x3)]) C (dat dt_X11_nationOf 17 rfl) (by decide) rfl ?_
      refine g_iinc (v := (x3 + (1 : Int32))) (lv' := [(0, .ref 81), (1, .int x1), (2, .int x3), (3, .int (x3 + (1 : Int32)))]) C (dat dt_X11_nationOf 18 rfl) 3 rfl (congrArg (fun z => x3 + z) ic_1) (by decide) rfl ?_
      refine g_goto 4 C (dat dt_X11_nationOf 19 rfl) (by decide) ?_
      cases hrun
      exact Ks (x3, (x3 + (1 : Int32))) rfl
def f_X11_nationOf (x1 : Int32) (h : Hp) : Option Int32 :=
  (lp (fun s => b_X11_nationOf_4  x1 s.1 s.2 h) FU ((0 : Int32), (1 : Int32))).bind fun e7 =>
  some e7
set_option maxRecDepth 20000 in
theorem w_X11_nationOf (x1 : Int32) (h : Hp) (q : Int32)  (hrun : f_X11_nationOf x1 h = some q) : MetA ⟨"SteamNationsModel", "nationOf", "(I)I"⟩ prog_13_method_22_code 4 (some .int) 2 0 0 [.ref 81, .int x1] h (some (.int q)) h := by
  refine metA_of (by decide) (Nat.le_of_ble_eq_true rfl) (fun X C K => ?_)
  have C : Cx X cn_11 prog_13_method_22_code 4 (some .int) 2 0 0 := C
  show G X h 0 0 0 [(0, .ref 81), (1, .int x1)] []
  unfold f_X11_nationOf at hrun
  refine g_iconst C (dat dt_X11_nationOf 0 rfl) ic_0 ?_
  refine g_istore_n (lv' := [(0, .ref 81), (1, .int x1), (2, .int (0 : Int32))]) C (dat dt_X11_nationOf 1 rfl) (by decide) rfl ?_
  refine g_iconst C (dat dt_X11_nationOf 2 rfl) ic_1 ?_
  refine g_istore_n (lv' := [(0, .ref 81), (1, .int x1), (2, .int (0 : Int32)), (3, .int (1 : Int32))]) C (dat dt_X11_nationOf 3 rfl) (by decide) rfl ?_
  obtain ⟨e7, q8, hrun⟩ := bd hrun
  refine lp_ind (P := fun s => kp_X11_nationOf_4  x1 h X s) (K := fun e => ke_X11_nationOf_4  x1 h X e) (fun s q hb Ks Ke => wb_X11_nationOf_4 C   x1 s.1 s.2 h q hb Ks Ke) FU ((0 : Int32), (1 : Int32)) e7 q8 ?_
  show G X h 0 0 32 [(2, .int e7)] []
  refine g_iload_n C (dat dt_X11_nationOf 20 rfl) 0 rfl ?_
  cases hrun
  exact g_iret C K (dat dt_X11_nationOf 21 rfl)
/-! SteamNationsModel.isInside(I)Z -/
def dl_X11_isInside : List (Nat × Instr × Nat) := [(0, .aload_n 0, 1), (1, .getfield 28, 3), (4, .bipush 18, 2), (6, .iload_n 1, 1), (7, .iadd, 1), (8, .iaload, 1), (9, .iconst (-1), 1), (10, .if_icmp .eq 7, 3), (13, .iconst 1, 1), (14, .goto 4, 3), (17, .iconst 0, 1), (18, .ireturn, 1)]
set_option maxRecDepth 20000 in
theorem dt_X11_isInside : ∀ q ∈ dl_X11_isInside, decode prog_13_method_21_code q.1 = .ok q.2 := by decide +kernel
def f_X11_isInside (x1 : Int32) (h : Hp) : Option Bool :=
  (inb ((18 : Int32) + x1) 5662).bind fun j1 =>
  if (aI h 83 j1) = (-1 : Int32) then
  some false
  else
  some true
set_option maxRecDepth 20000 in
theorem w_X11_isInside (x1 : Int32) (h : Hp) (q : Bool)  (hrun : f_X11_isInside x1 h = some q) : MetA ⟨"SteamNationsModel", "isInside", "(I)Z"⟩ prog_13_method_21_code 2 (some .boolean) 1 0 0 [.ref 81, .int x1] h (some (.int (b2i q))) h := by
  refine metA_of (by decide) (Nat.le_of_ble_eq_true rfl) (fun X C K => ?_)
  have C : Cx X cn_11 prog_13_method_21_code 2 (some .boolean) 1 0 0 := C
  show G X h 0 0 0 [(0, .ref 81), (1, .int x1)] []
  unfold f_X11_isInside at hrun
  refine g_aload_n C (dat dt_X11_isInside 0 rfl) 0 rfl ?_
  refine g_getR C (dat dt_X11_isInside 1 rfl) fl_11_28 kd_81 rfl ltk_81 ?_
  refine g_bipush C (dat dt_X11_isInside 2 rfl) bp_18 ?_
  refine g_iload_n C (dat dt_X11_isInside 3 rfl) 1 rfl ?_
  refine g_iadd C (dat dt_X11_isInside 4 rfl) ?_
  obtain ⟨j1, q2, hrun⟩ := bd hrun
  refine g_iald C (dat dt_X11_isInside 5 rfl) kd_83 ltk_83 q2 ?_
  refine g_iconst C (dat dt_X11_isInside 6 rfl) ic_m1 ?_
  refine g_ic_eq 17 C (dat dt_X11_isInside 7 rfl) (by decide) (fun c3 => ?_) (fun c3 => ?_)
  · rw [if_pos c3] at hrun
    refine g_iconst C (dat dt_X11_isInside 10 rfl) ic_0 ?_
    cases hrun
    exact g_zret C K (show (0 : Int32) = b2i false by decide) (dat dt_X11_isInside 11 rfl)
  · rw [if_neg c3] at hrun
    refine g_iconst C (dat dt_X11_isInside 8 rfl) ic_1 ?_
    refine g_goto 18 C (dat dt_X11_isInside 9 rfl) (by decide) ?_
    cases hrun
    exact g_zret C K (show (1 : Int32) = b2i true by decide) (dat dt_X11_isInside 11 rfl)
/-! SteamNationsModel.setsAsked(II)V -/
def dl_X11_setsAsked : List (Nat × Instr × Nat) := [(0, .aload_n 0, 1), (1, .getfield 63, 3), (4, .iconst 0, 1), (5, .iload_n 1, 1), (6, .iastore, 1), (7, .aload_n 0, 1), (8, .getfield 63, 3), (11, .iconst 1, 1), (12, .iload_n 2, 1), (13, .iconst (-1), 1), (14, .if_icmp .ne 7, 3), (17, .iconst (-1), 1), (18, .goto 8, 3), (21, .aload_n 0, 1), (22, .iload_n 2, 1), (23, .invokevirtual 153, 3), (26, .iastore, 1), (27, .aload_n 0, 1), (28, .getfield 63, 3), (31, .iconst 2, 1), (32, .aload_n 0, 1), (33, .iload_n 1, 1), (34, .invokevirtual 150, 3), (37, .iconst 3, 1), (38, .idiv, 1), (39, .iastore, 1), (40, .aload_n 0, 1), (41, .getfield 63, 3), (44, .iconst 3, 1), (45, .aload_n 0, 1), (46, .iload_n 1, 1), (47, .invokevirtual 153, 3), (50, .iastore, 1), (51, .aload_n 0, 1), (52, .getfield 63, 3), (55, .iconst 4, 1), (56, .aload_n 0, 1), (57, .getfield 28, 3), (60, .bipush 25, 2), (62, .iload_n 1, 1), (63, .iadd, 1), (64, .iaload, 1), (65, .iastore, 1), (66, .aload_n 0, 1), (67, .getfield 63, 3), (70, .iconst 5, 1), (71, .aload_n 0, 1), (72, .getfield 28, 3), (75, .bipush 50, 2), (77, .iaload, 1), (78, .iastore, 1), (79, .aload_n 0, 1), (80, .getfield 63, 3), (83, .bipush 6, 2), (85, .aload_n 0, 1), (86, .iload_n 1, 1), (87, .aload_n 0, 1), (88, .iload_n 1, 1), (89, .invokevirtual 153, 3), (92, .invokevirtual 131, 3), (95, .iastore, 1), (96, .aload_n 0, 1), (97, .getfield 63, 3), (100, .bipush 7, 2), (102, .aload_n 0, 1), (103, .getfield 28, 3), (106, .bipush 24, 2), (108, .iaload, 1), (109, .iastore, 1), (110, .return_, 1)]
set_option maxRecDepth 20000 in
theorem dt_X11_setsAsked : ∀ q ∈ dl_X11_setsAsked, decode prog_13_method_75_code q.1 = .ok q.2 := by decide +kernel
def j_X11_setsAsked_26  (x1 : Int32) (s1 : Int32) (s2 : Int32) (h : Hp) : Option (Unit × Hp) :=
  (inb s1 8).bind fun j6 =>
  (f_X11_seatOf x1 (sA h 93 j6 s2)).bind fun v8 =>
  (f_X11_nationOf x1 (sA (sA h 93 j6 s2) 93 2 (v8 / (3 : Int32)))).bind fun v12 =>
  (inb ((25 : Int32) + x1) 5662).bind fun j16 =>
  (f_X11_nationOf x1 (sA (sA (sA (sA (sA h 93 j6 s2) 93 2 (v8 / (3 : Int32))) 93 3 v12) 93 4 (aI (sA (sA (sA h 93 j6 s2) 93 2 (v8 / (3 : Int32))) 93 3 v12) 83 j16)) 93 5 (aI (sA (sA (sA (sA h 93 j6 s2) 93 2 (v8 / (3 : Int32))) 93 3 v12) 93 4 (aI (sA (sA (sA h 93 j6 s2) 93 2 (v8 / (3 : Int32))) 93 3 v12) 83 j16)) 83 50))).bind fun v22 =>
  (f_X11_partsOf x1 v22 (sA (sA (sA (sA (sA h 93 j6 s2) 93 2 (v8 / (3 : Int32))) 93 3 v12) 93 4 (aI (sA (sA (sA h 93 j6 s2) 93 2 (v8 / (3 : Int32))) 93 3 v12) 83 j16)) 93 5 (aI (sA (sA (sA (sA h 93 j6 s2) 93 2 (v8 / (3 : Int32))) 93 3 v12) 93 4 (aI (sA (sA (sA h 93 j6 s2) 93 2 (v8 / (3 : Int32))) 93 3 v12) 83 j16)) 83 50))).bind fun v24 =>
  some ((), (sA (sA (sA (sA (sA (sA (sA h 93 j6 s2) 93 2 (v8 / (3 : Int32))) 93 3 v12) 93 4 (aI (sA (sA (sA h 93 j6 s2) 93 2 (v8 / (3 : Int32))) 93 3 v12) 83 j16)) 93 5 (aI (sA (sA (sA (sA h 93 j6 s2) 93 2 (v8 / (3 : Int32))) 93 3 v12) 93 4 (aI (sA (sA (sA h 93 j6 s2) 93 2 (v8 / (3 : Int32))) 93 3 v12) 83 j16)) 83 50)) 93 6 v24) 93 7 (aI (sA (sA (sA (sA (sA (sA h 93 j6 s2) 93 2 (v8 / (3 : Int32))) 93 3 v12) 93 4 (aI (sA (sA (sA h 93 j6 s2) 93 2 (v8 / (3 : Int32))) 93 3 v12) 83 j16)) 93 5 (aI (sA (sA (sA (sA h 93 j6 s2) 93 2 (v8 / (3 : Int32))) 93 3 v12) 93 4 (aI (sA (sA (sA h 93 j6 s2) 93 2 (v8 / (3 : Int32))) 93 3 v12) 83 j16)) 83 50)) 93 6 v24) 83 24)))
set_option maxRecDepth 20000 in
theorem wj_X11_setsAsked_26 {X : Xt} (C : Cx X cn_11 prog_13_method_75_code 3 none 3 0 0)    (x1 : Int32) (s1 : Int32) (s2 : Int32) (h : Hp) (q : (Unit × Hp)) (hrun : j_X11_setsAsked_26  x1 s1 s2 h = some q) (K : EndQ X 0 0 none q.2) : G X h 0 0 26 [(0, .ref 81), (1, .int x1)] [.int s2, .int s1, .ref 93] := by
  unfold j_X11_setsAsked_26 at hrun
  obtain ⟨j6, q7, hrun⟩ := bd hrun
  refine g_iast (j := j6) C (dat dt_X11_setsAsked 16 rfl) kd_93 ltk_93 q7  ?_
  refine g_aload_n C (dat dt_X11_setsAsked 17 rfl) 0 rfl ?_
  refine g_getR C (dat dt_X11_setsAsked 18 rfl) fl_11_63 kd_81 rfl ltk_81 ?_
  refine g_iconst C (dat dt_X11_setsAsked 19 rfl) ic_2 ?_
  refine g_aload_n C (dat dt_X11_setsAsked 20 rfl) 0 rfl ?_
  refine g_iload_n C (dat dt_X11_setsAsked 21 rfl) 1 rfl ?_
  obtain ⟨v8, q9, hrun⟩ := bd hrun
  refine g_cVi [.int x1] C (dat dt_X11_setsAsked 22 rfl) ml_11_150 (w_X11_seatOf x1 (sA h 93 j6 s2) v8  q9) kd_81 ltk_81 rfl rfl (Nat.le_of_ble_eq_true rfl) (by decide) c00 ?_
  refine g_iconst C (dat dt_X11_setsAsked 23 rfl) ic_3 ?_
  refine g_idiv C (dat dt_X11_setsAsked 24 rfl) (by decide) ?_
  refine g_iast (j := 2) C (dat dt_X11_setsAsked 25 rfl) kd_93 ltk_93 (show inb (2 : Int32) 8 = some 2 by decide)  ?_
  refine g_aload_n C (dat dt_X11_setsAsked 26 rfl) 0 rfl ?_
  refine g_getR C (dat dt_X11_setsAsked 27 rfl) fl_11_63 kd_81 rfl ltk_81 ?_
  refine g_iconst C (dat dt_X11_setsAsked 28 rfl) ic_3 ?_
  refine g_aload_n C (dat dt_X11_setsAsked 29 rfl) 0 rfl ?_
  refine g_iload_n C (dat dt_X11_setsAsked 30 rfl) 1 rfl ?_
  obtain ⟨v12, q13, hrun⟩ := bd hrun
  refine g_cVi [.int x1] C (dat dt_X11_setsAsked 31 rfl) ml_11_153 (w_X11_nationOf x1 (sA (sA h 93 j6 s2) 93 2 (v8 / (3 : Int32))) v12  q13) kd_81 ltk_81 rfl rfl (Nat.le_of_ble_eq_true rfl) (by decide) c00 ?_
  refine g_iast (j := 3) C (dat dt_X11_setsAsked 32 rfl) kd_93 ltk_93 (show inb (3 : Int32) 8 = some 3 by decide)  ?_
  refine g_aload_n C (dat dt_X11_setsAsked 33 rfl) 0 rfl ?_
  refine g_getR C (dat dt_X11_setsAsked 34 rfl) fl_11_63 kd_81 rfl ltk_81 ?_
  refine g_iconst C (dat dt_X11_setsAsked 35 rfl) ic_4 ?_
  refine g_aload_n C (dat dt_X11_setsAsked 36 rfl) 0 rfl ?_
  refine g_getR C (dat dt_X11_setsAsked 37 rfl) fl_11_28 kd_81 rfl ltk_81 ?_
  refine g_bipush C (dat dt_X11_setsAsked 38 rfl) bp_25 ?_
  refine g_iload_n C (dat dt_X11_setsAsked 39 rfl) 1 rfl ?_
  refine g_iadd C (dat dt_X11_setsAsked 40 rfl) ?_
  obtain ⟨j16, q17, hrun⟩ := bd hrun
  refine g_iald C (dat dt_X11_setsAsked 41 rfl) kd_83 ltk_83 q17 ?_
  refine g_iast (j := 4) C (dat dt_X11_setsAsked 42 rfl) kd_93 ltk_93 (show inb (4 : Int32) 8 = some 4 by decide)  ?_
  refine g_aload_n C (dat dt_X11_setsAsked 43 rfl) 0 rfl ?_
  refine g_getR C (dat dt_X11_setsAsked 44 rfl) fl_11_63 kd_81 rfl ltk_81 ?_
  refine g_iconst C (dat dt_X11_setsAsked 45 rfl) ic_5 ?_
  refine g_aload_n C (dat dt_X11_setsAsked 46 rfl) 0 rfl ?_
  refine g_getR C (dat dt_X11_setsAsked 47 rfl) fl_11_28 kd_81 rfl ltk_81 ?_
  refine g_bipush C (dat dt_X11_setsAsked 48 rfl) bp_50 ?_
  refine g_iald (j := 50) C (dat dt_X11_setsAsked 49 rfl) kd_83 ltk_83 (show inb (50 : Int32) 5662 = some 50 by decide) ?_
  refine g_iast (j := 5) C (dat dt_X11_setsAsked 50 rfl) kd_93 ltk_93 (show inb (5 : Int32) 8 = some 5 by decide)  ?_
  refine g_aload_n C (dat dt_X11_setsAsked 51 rfl) 0 rfl ?_
  refine g_getR C (dat dt_X11_setsAsked 52 rfl) fl_11_63 kd_81 rfl ltk_81 ?_
  refine g_bipush C (dat dt_X11_setsAsked 53 rfl) bp_6 ?_
  refine g_aload_n C (dat dt_X11_setsAsked 54 rfl) 0 rfl ?_
  refine g_iload_n C (dat dt_X11_setsAsked 55 rfl) 1 rfl ?_
  refine g_aload_n C (dat dt_X11_setsAsked 56 rfl) 0 rfl ?_
  refine g_iload_n C (dat dt_X11_setsAsked 57 rfl) 1 rfl ?_
  obtain ⟨v22, q23, hrun⟩ := bd hrun
  refine g_cVi [.int x1] C (dat dt_X11_setsAsked 58 rfl) ml_11_153 (w_X11_nationOf x1 (sA (sA (sA (sA (sA h 93 j6 s2) 93 2 (v8 / (3 : Int32))) 93 3 v12) 93 4 (aI (sA (sA (sA h 93 j6 s2) 93 2 (v8 / (3 : Int32))) 93 3 v12) 83 j16)) 93 5 (aI (sA (sA (sA (sA h 93 j6 s2) 93 2 (v8 / (3 : Int32))) 93 3 v12) 93 4 (aI (sA (sA (sA h 93 j6 s2) 93 2 (v8 / (3 : Int32))) 93 3 v12) 83 j16)) 83 50)) v22  q23) kd_81 ltk_81 rfl rfl (Nat.le_of_ble_eq_true rfl) (by decide) c00 ?_
  obtain ⟨v24, q25, hrun⟩ := bd hrun
  refine g_cVi [.int x1, .int v22] C (dat dt_X11_setsAsked 59 rfl) ml_11_131 (w_X11_partsOf x1 v22 (sA (sA (sA (sA (sA h 93 j6 s2) 93 2 (v8 / (3 : Int32))) 93 3 v12) 93 4 (aI (sA (sA (sA h 93 j6 s2) 93 2 (v8 / (3 : Int32))) 93 3 v12) 83 j16)) 93 5 (aI (sA (sA (sA (sA h 93 j6 s2) 93 2 (v8 / (3 : Int32))) 93 3 v12) 93 4 (aI (sA (sA (sA h 93 j6 s2) 93 2 (v8 / (3 : Int32))) 93 3 v12) 83 j16)) 83 50)) v24  q25) kd_81 ltk_81 rfl rfl (Nat.le_of_ble_eq_true rfl) (by decide) c00 ?_
  refine g_iast (j := 6) C (dat dt_X11_setsAsked 60 rfl) kd_93 ltk_93 (show inb (6 : Int32) 8 = some 6 by decide)  ?_
  refine g_aload_n C (dat dt_X11_setsAsked 61 rfl) 0 rfl ?_
  refine g_getR C (dat dt_X11_setsAsked 62 rfl) fl_11_63 kd_81 rfl ltk_81 ?_
  refine g_bipush C (dat dt_X11_setsAsked 63 rfl) bp_7 ?_
  refine g_aload_n C (dat dt_X11_setsAsked 64 rfl) 0 rfl ?_
  refine g_getR C (dat dt_X11_setsAsked 65 rfl) fl_11_28 kd_81 rfl ltk_81 ?_
  refine g_bipush C (dat dt_X11_setsAsked 66 rfl) bp_24 ?_
  refine g_iald (j := 24) C (dat dt_X11_setsAsked 67 rfl) kd_83 ltk_83 (show inb (24 : Int32) 5662 = some 24 by decide) ?_
  refine g_iast (j := 7) C (dat dt_X11_setsAsked 68 rfl) kd_93 ltk_93 (show inb (7 : Int32) 8 = some 7 by decide)  ?_
  cases hrun
  exact g_vret C K (dat dt_X11_setsAsked 69 rfl)
def f_X11_setsAsked (x1 : Int32) (x2 : Int32) (h : Hp) : Option (Unit × Hp) :=
  if x2 = (-1 : Int32) then
  j_X11_setsAsked_26  x1 (1 : Int32) (-1 : Int32) (sA h 93 0 x1)
  else
  (f_X11_nationOf x2 (sA h 93 0 x1)).bind fun v4 =>
  j_X11_setsAsked_26  x1 (1 : Int32) v4 (sA h 93 0 x1)
set_option maxRecDepth 20000 in
theorem w_X11_setsAsked (x1 : Int32) (x2 : Int32) (h : Hp) (q : (Unit × Hp))  (hrun : f_X11_setsAsked x1 x2 h = some q) : MetA ⟨"SteamNationsModel", "setsAsked", "(II)V"⟩ prog_13_method_75_code 3 none 3 0 0 [.ref 81, .int x1, .int x2] h none q.2 := by
  refine metA_of (by decide) (Nat.le_of_ble_eq_true rfl) (fun X C K => ?_)
  have C : Cx X cn_11 prog_13_method_75_code 3 none 3 0 0 := C
  show G X h 0 0 0 [(0, .ref 81), (1, .int x1), (2, .int x2)] []
  unfold f_X11_setsAsked at hrun
  refine g_aload_n C (dat dt_X11_setsAsked 0 rfl) 0 rfl ?_
  refine g_getR C (dat dt_X11_setsAsked 1 rfl) fl_11_63 kd_81 rfl ltk_81 ?_
  refine g_iconst C (dat dt_X11_setsAsked 2 rfl) ic_0 ?_
  refine g_iload_n C (dat dt_X11_setsAsked 3 rfl) 1 rfl ?_
  refine g_iast (j := 0) C (dat dt_X11_setsAsked 4 rfl) kd_93 ltk_93 (show inb (0 : Int32) 8 = some 0 by decide)  ?_
  refine g_aload_n C (dat dt_X11_setsAsked 5 rfl) 0 rfl ?_
  refine g_getR C (dat dt_X11_setsAsked 6 rfl) fl_11_63 kd_81 rfl ltk_81 ?_
  refine g_iconst C (dat dt_X11_setsAsked 7 rfl) ic_1 ?_
  refine g_iload_n C (dat dt_X11_setsAsked 8 rfl) 2 rfl ?_
  refine g_iconst C (dat dt_X11_setsAsked 9 rfl) ic_m1 ?_
  refine g_ic_ne 21 C (dat dt_X11_setsAsked 10 rfl) (by decide) (fun c3 => ?_) (fun c3 => ?_)
  · rw [if_neg c3] at hrun
    refine g_aload_n C (dat dt_X11_setsAsked 13 rfl) 0 rfl ?_
    refine g_iload_n C (dat dt_X11_setsAsked 14 rfl) 2 rfl ?_
    obtain ⟨v4, q5, hrun⟩ := bd hrun
    refine g_cVi [.int x2] C (dat dt_X11_setsAsked 15 rfl) ml_11_153 (w_X11_nationOf x2 (sA h 93 0 x1) v4  q5) kd_81 ltk_81 rfl rfl (Nat.le_of_ble_eq_true rfl) (by decide) c00 ?_
    refine g_sub [0, 1] (lv' := [(0, .ref 81), (1, .int x1)]) rfl ?_
    exact wj_X11_setsAsked_26 C    x1 (1 : Int32) v4 (sA h 93 0 x1) _ hrun K
  · rw [if_pos c3] at hrun
    refine g_iconst C (dat dt_X11_setsAsked 11 rfl) ic_m1 ?_
    refine g_goto 26 C (dat dt_X11_setsAsked 12 rfl) (by decide) ?_
    refine g_sub [0, 1] (lv' := [(0, .ref 81), (1, .int x1)]) rfl ?_
    exact wj_X11_setsAsked_26 C    x1 (1 : Int32) (-1 : Int32) (sA h 93 0 x1) _ hrun K
/-! SteamNationsModel.codeAt(I)I -/
def dl_X11_codeAt : List (Nat × Instr × Nat) := [(0, .iload_n 1, 1), (1, .aload_n 0, 1), (2, .getfield 288, 3), (5, .if_icmp .ge 15, 3), (8, .aload_n 0, 1), (9, .getfield 28, 3), (12, .bipush 62, 2), (14, .iload_n 1, 1), (15, .iadd, 1), (16, .iaload, 1), (17, .goto 4, 3), (20, .iconst 0, 1), (21, .ireturn, 1)]
set_option maxRecDepth 20000 in
theorem dt_X11_codeAt : ∀ q ∈ dl_X11_codeAt, decode prog_13_method_64_code q.1 = .ok q.2 := by decide +kernel
def f_X11_codeAt (x1 : Int32) (h : Hp) : Option Int32 :=
  if (fI h 81 23) ≤ x1 then
  some (0 : Int32)
  else
  (inb ((62 : Int32) + x1) 5662).bind fun j2 =>
  some (aI h 83 j2)
set_option maxRecDepth 20000 in
theorem w_X11_codeAt (x1 : Int32) (h : Hp) (q : Int32)  (hrun : f_X11_codeAt x1 h = some q) : MetA ⟨"SteamNationsModel", "codeAt", "(I)I"⟩ prog_13_method_64_code 2 (some .int) 1 0 0 [.ref 81, .int x1] h (some (.int q)) h := by
  refine metA_of (by decide) (Nat.le_of_ble_eq_true rfl) (fun X C K => ?_)
  have C : Cx X cn_11 prog_13_method_64_code 2 (some .int) 1 0 0 := C
  show G X h 0 0 0 [(0, .ref 81), (1, .int x1)] []
  unfold f_X11_codeAt at hrun
  refine g_iload_n C (dat dt_X11_codeAt 0 rfl) 1 rfl ?_
  refine g_aload_n C (dat dt_X11_codeAt 1 rfl) 0 rfl ?_
  refine g_getI C (dat dt_X11_codeAt 2 rfl) fl_11_288 kd_81 rfl ltk_81 ?_
  refine g_ic_ge 20 C (dat dt_X11_codeAt 3 rfl) (by decide) (fun c1 => ?_) (fun c1 => ?_)
  · rw [if_pos c1] at hrun
    refine g_iconst C (dat dt_X11_codeAt 11 rfl) ic_0 ?_
    cases hrun
    exact g_iret C K (dat dt_X11_codeAt 12 rfl)
  · rw [if_neg c1] at hrun
    refine g_aload_n C (dat dt_X11_codeAt 4 rfl) 0 rfl ?_
    refine g_getR C (dat dt_X11_codeAt 5 rfl) fl_11_28 kd_81 rfl ltk_81 ?_
    refine g_bipush C (dat dt_X11_codeAt 6 rfl) bp_62 ?_
    refine g_iload_n C (dat dt_X11_codeAt 7 rfl) 1 rfl ?_
    refine g_iadd C (dat dt_X11_codeAt 8 rfl) ?_
    obtain ⟨j2, q3, hrun⟩ := bd hrun
    refine g_iald C (dat dt_X11_codeAt 9 rfl) kd_83 ltk_83 q3 ?_
    refine g_goto 21 C (dat dt_X11_codeAt 10 rfl) (by decide) ?_
    cases hrun
    exact g_iret C K (dat dt_X11_codeAt 12 rfl)
/-! SteamNationsModel.sign(C)I -/
def dl_X11_sign : List (Nat × Instr × Nat) := [(0, .bipush 100, 2), (2, .iload_n 0, 1), (3, .iadd, 1), (4, .ireturn, 1)]
set_option maxRecDepth 20000 in
theorem dt_X11_sign : ∀ q ∈ dl_X11_sign, decode prog_13_method_46_code q.1 = .ok q.2 := by decide +kernel
def f_X11_sign (x0 : Int32) : Option Int32 :=
  some ((100 : Int32) + x0)
set_option maxRecDepth 20000 in
theorem w_X11_sign (x0 : Int32) (h : Hp) (q : Int32)  (hrun : f_X11_sign x0 = some q) : MetA ⟨"SteamNationsModel", "sign", "(C)I"⟩ prog_13_method_46_code 1 (some .int) 1 0 0 [.int x0] h (some (.int q)) h := by
  refine metA_of (by decide) (Nat.le_of_ble_eq_true rfl) (fun X C K => ?_)
  have C : Cx X cn_11 prog_13_method_46_code 1 (some .int) 1 0 0 := C
  show G X h 0 0 0 [(0, .int x0)] []
  unfold f_X11_sign at hrun
  refine g_bipush C (dat dt_X11_sign 0 rfl) bp_100 ?_
  refine g_iload_n C (dat dt_X11_sign 1 rfl) 0 rfl ?_
  refine g_iadd C (dat dt_X11_sign 2 rfl) ?_
  cases hrun
  exact g_iret C K (dat dt_X11_sign 3 rfl)
/-! SteamNationsModel.passes0(I)Z -/
def dl_X11_passes0 : List (Nat × Instr × Nat) := [(0, .aload_n 0, 1), (1, .aload_n 0, 1), (2, .getfield 291, 3), (5, .invokevirtual 294, 3), (8, .iload_n 1, 1), (9, .if_icmp .ne 7, 3), (12, .iconst 1, 1), (13, .goto 4, 3), (16, .iconst 0, 1), (17, .istore_n 2, 1), (18, .iload_n 2, 1), (19, .ifCond .eq 13, 3), (22, .aload_n 0, 1), (23, .dup, 1), (24, .getfield 291, 3), (27, .iconst 1, 1), (28, .iadd, 1), (29, .putfield 291, 3), (32, .iload_n 2, 1), (33, .ireturn, 1)]
set_option maxRecDepth 20000 in
theorem dt_X11_passes0 : ∀ q ∈ dl_X11_passes0, decode prog_13_method_65_code q.1 = .ok q.2 := by decide +kernel
def j_X11_passes0_17  (s0 : Int32) (h : Hp) : Option (Bool × Hp) :=
  if s0 = 0 then
  (i2b s0).bind fun b5 => some (b5, h)
  else
  (i2b s0).bind fun b7 => some (b7, (sF h 81 22 ((fI h 81 22) + (1 : Int32))))
set_option maxRecDepth 20000 in
theorem wj_X11_passes0_17 {X : Xt} (C : Cx X cn_11 prog_13_method_65_code 3 (some .boolean) 2 0 0)    (s0 : Int32) (h : Hp) (q : (Bool × Hp)) (hrun : j_X11_passes0_17  s0 h = some q) (K : EndQ X 0 0 (some (.int (b2i q.1))) q.2) : G X h 0 0 17 [(0, .ref 81)] [.int s0] := by
  unfold j_X11_passes0_17 at hrun
  refine g_istore_n (lv' := [(0, .ref 81), (2, .int s0)]) C (dat dt_X11_passes0 9 rfl) (by decide) rfl ?_
  refine g_iload_n C (dat dt_X11_passes0 10 rfl) 1 rfl ?_
  refine g_if_eq 32 C (dat dt_X11_passes0 11 rfl) (by decide) (fun c4 => ?_) (fun c4 => ?_)
  · rw [if_pos c4] at hrun
    refine g_iload_n C (dat dt_X11_passes0 18 rfl) 1 rfl ?_
    obtain ⟨b5, q6, hrun⟩ := bd hrun
    cases hrun
    exact g_zret C K (i2b_eq q6) (dat dt_X11_passes0 19 rfl)
  · rw [if_neg c4] at hrun
    refine g_aload_n C (dat dt_X11_passes0 12 rfl) 0 rfl ?_
    refine g_dup C (dat dt_X11_passes0 13 rfl) rfl ?_
    refine g_getI C (dat dt_X11_passes0 14 rfl) fl_11_291 kd_81 rfl ltk_81 ?_
    refine g_iconst C (dat dt_X11_passes0 15 rfl) ic_1 ?_
    refine g_iadd C (dat dt_X11_passes0 16 rfl) ?_
    refine g_putI C (dat dt_X11_passes0 17 rfl) fl_11_291 rfl rfl kd_81 rfl ltk_81 ?_
    refine g_iload_n C (dat dt_X11_passes0 18 rfl) 1 rfl ?_
    obtain ⟨b7, q8, hrun⟩ := bd hrun
    cases hrun
    exact g_zret C K (i2b_eq q8) (dat dt_X11_passes0 19 rfl)
def f_X11_passes0 (x1 : Int32) (h : Hp) : Option (Bool × Hp) :=
  (f_X11_codeAt (fI h 81 22) h).bind fun v1 =>
  if v1 = x1 then
  j_X11_passes0_17  (1 : Int32) h
  else
  j_X11_passes0_17  (0 : Int32) h
set_option maxRecDepth 20000 in
theorem w_X11_passes0 (x1 : Int32) (h : Hp) (q : (Bool × Hp))  (hrun : f_X11_passes0 x1 h = some q) : MetA ⟨"SteamNationsModel", "passes0", "(I)Z"⟩ prog_13_method_65_code 3 (some .boolean) 2 0 0 [.ref 81, .int x1] h (some (.int (b2i q.1))) q.2 := by
  refine metA_of (by decide) (Nat.le_of_ble_eq_true rfl) (fun X C K => ?_)
  have C : Cx X cn_11 prog_13_method_65_code 3 (some .boolean) 2 0 0 := C
  show G X h 0 0 0 [(0, .ref 81), (1, .int x1)] []
  unfold f_X11_passes0 at hrun
  refine g_aload_n C (dat dt_X11_passes0 0 rfl) 0 rfl ?_
  refine g_aload_n C (dat dt_X11_passes0 1 rfl) 0 rfl ?_
  refine g_getI C (dat dt_X11_passes0 2 rfl) fl_11_291 kd_81 rfl ltk_81 ?_
  obtain ⟨v1, q2, hrun⟩ := bd hrun
  refine g_cVi [.int (fI h 81 22)] C (dat dt_X11_passes0 3 rfl) ml_11_294 (w_X11_codeAt (fI h 81 22) h v1  q2) kd_81 ltk_81 rfl rfl cat0 (by decide) c00 ?_
  refine g_iload_n C (dat dt_X11_passes0 4 rfl) 1 rfl ?_
  refine g_ic_ne 16 C (dat dt_X11_passes0 5 rfl) (by decide) (fun c3 => ?_) (fun c3 => ?_)
  · rw [if_neg c3] at hrun
    refine g_iconst C (dat dt_X11_passes0 8 rfl) ic_0 ?_
    refine g_sub [0] (lv' := [(0, .ref 81)]) rfl ?_
    exact wj_X11_passes0_17 C    (0 : Int32) h _ hrun K
  · rw [if_pos c3] at hrun
    refine g_iconst C (dat dt_X11_passes0 6 rfl) ic_1 ?_
    refine g_goto 17 C (dat dt_X11_passes0 7 rfl) (by decide) ?_
    refine g_sub [0] (lv' := [(0, .ref 81)]) rfl ?_
    exact wj_X11_passes0_17 C    (1 : Int32) h _ hrun K
/-! SteamNationsModel.insideMany()I -/
def dl_X11_insideMany : List (Nat × Instr × Nat) := [(0, .iconst 0, 1), (1, .istore_n 1, 1), (2, .iconst 0, 1), (3, .istore_n 2, 1), (4, .iload_n 2, 1), (5, .aload_n 0, 1), (6, .invokevirtual 127, 3), (9, .if_icmp .ge 25, 3), (12, .iload_n 1, 1), (13, .aload_n 0, 1), (14, .iload_n 2, 1), (15, .invokevirtual 156, 3), (18, .ifCond .eq 7, 3), (21, .iconst 1, 1), (22, .goto 4, 3), (25, .iconst 0, 1), (26, .iadd, 1), (27, .istore_n 1, 1), (28, .iinc 2 1, 3), (31, .goto (-27), 3), (34, .iload_n 1, 1), (35, .ireturn, 1)]
set_option maxRecDepth 20000 in
theorem dt_X11_insideMany : ∀ q ∈ dl_X11_insideMany, decode prog_13_method_78_code q.1 = .ok q.2 := by decide +kernel
def kp_X11_insideMany_4   (h : Hp) (X : Xt) (s : (Int32 × Int32)) : Prop := G X h 0 0 4 [(0, .ref 81), (1, .int s.1), (2, .int s.2)] []
def ke_X11_insideMany_4   (h : Hp) (X : Xt) (e : Int32) : Prop := G X h 0 0 34 [(1, .int e)] []
def j_X11_insideMany_26_4  (x2 : Int32) (s0 : Int32) (s1 : Int32) (h : Hp) : Option ((Int32 × Int32) ⊕ Int32) :=
  some (.inl ((s0 + s1), (x2 + (1 : Int32))))
set_option maxRecDepth 20000 in
theorem wj_X11_insideMany_26_4 {X : Xt} (C : Cx X cn_11 prog_13_method_78_code 3 (some .int) 2 0 0)    (x2 : Int32) (s0 : Int32) (s1 : Int32) (h : Hp) (q : (Int32 × Int32) ⊕ Int32) (hrun : j_X11_insideMany_26_4  x2 s0 s1 h = some q) (Ks : ∀ s, q = .inl s → kp_X11_insideMany_4   h X s) (Ke : ∀ e, q = .inr e → ke_X11_insideMany_4   h X e) : G X h 0 0 26 [(0, .ref 81), (2, .int x2)] [.int s1, .int s0] := by
  unfold j_X11_insideMany_26_4 at hrun
  refine g_iadd C (dat dt_X11_insideMany 16 rfl) ?_
  refine g_istore_n (lv' := [(0, .ref 81), (1, .int (s0 + s1)), (2, .int x2)]) C (dat dt_X11_insideMany 17 rfl) (by decide) rfl ?_
  refine g_iinc (v := (x2 + (1 : Int32))) (lv' := [(0, .ref 81), (1, .int (s0 + s1)), (2, .int (x2 + (1 : Int32)))]) C (dat dt_X11_insideMany 18 rfl) 2 rfl (congrArg (fun z => x2 + z) ic_1) (by decide) rfl ?_
  refine g_goto 4 C (dat dt_X11_insideMany 19 rfl) (by decide) ?_
  cases hrun
  exact Ks ((s0 + s1), (x2 + (1 : Int32))) rfl
def b_X11_insideMany_4   (x1 : Int32) (x2 : Int32) (h : Hp) : Option ((Int32 × Int32) ⊕ Int32) :=
  (f_X11_many  h).bind fun v1 =>
  if v1 ≤ x2 then
  some (.inr ( x1))
  else
  (f_X11_isInside x2 h).bind fun v4 =>
  if v4 = true then
  j_X11_insideMany_26_4  x2 x1 (1 : Int32) h
  else
  j_X11_insideMany_26_4  x2 x1 (0 : Int32) h
set_option maxRecDepth 20000 in
theorem wb_X11_insideMany_4 {X : Xt} (C : Cx X cn_11 prog_13_method_78_code 3 (some .int) 2 0 0)    (x1 : Int32) (x2 : Int32) (h : Hp) (q : (Int32 × Int32) ⊕ Int32) (hrun : b_X11_insideMany_4   x1 x2 h = some q) (Ks : ∀ s, q = .inl s → kp_X11_insideMany_4   h X s) (Ke : ∀ e, q = .inr e → ke_X11_insideMany_4   h X e) : kp_X11_insideMany_4   h X (x1, x2) := by
  show G X h 0 0 4 [(0, .ref 81), (1, .int x1), (2, .int x2)] []
  unfold b_X11_insideMany_4 at hrun
  refine g_iload_n C (dat dt_X11_insideMany 4 rfl) 2 rfl ?_
  refine g_aload_n C (dat dt_X11_insideMany 5 rfl) 0 rfl ?_
  obtain ⟨v1, q2, hrun⟩ := bd hrun
  refine g_cVi [] C (dat dt_X11_insideMany 6 rfl) ml_11_127 (w_X11_many  h v1  q2) kd_81 ltk_81 rfl rfl (Nat.le_of_ble_eq_true rfl) (by decide) c00 ?_
  refine g_ic_ge 34 C (dat dt_X11_insideMany 7 rfl) (by decide) (fun c3 => ?_) (fun c3 => ?_)
  · rw [if_pos c3] at hrun
    refine g_sub [1] (lv' := [(1, .int x1)]) rfl ?_
    cases hrun
    exact Ke ( x1) rfl
  · rw [if_neg c3] at hrun
    refine g_iload_n C (dat dt_X11_insideMany 8 rfl) 1 rfl ?_
    refine g_aload_n C (dat dt_X11_insideMany 9 rfl) 0 rfl ?_
    refine g_iload_n C (dat dt_X11_insideMany 10 rfl) 2 rfl ?_
    obtain ⟨v4, q5, hrun⟩ := bd hrun
    refine g_cVi [.int x2] C (dat dt_X11_insideMany 11 rfl) ml_11_156 (w_X11_isInside x2 h v4  q5) kd_81 ltk_81 rfl rfl (Nat.le_of_ble_eq_true rfl) (by decide) c00 ?_
    refine g_if_eq 25 C (dat dt_X11_insideMany 12 rfl) (by decide) (fun c6 => ?_) (fun c6 => ?_)
    · rw [if_neg (b2i_z c6)] at hrun
      refine g_iconst C (dat dt_X11_insideMany 15 rfl) ic_0 ?_
      refine g_sub [0, 2] (lv' := [(0, .ref 81), (2, .int x2)]) rfl ?_
      exact wj_X11_insideMany_26_4 C    x2 x1 (0 : Int32) h _ hrun Ks Ke
    · rw [if_pos (b2i_nz c6)] at hrun
      refine g_iconst C (dat dt_X11_insideMany 13 rfl) ic_1 ?_
      refine g_goto 26 C (dat dt_X11_insideMany 14 rfl) (by decide) ?_
      refine g_sub [0, 2] (lv' := [(0, .ref 81), (2, .int x2)]) rfl ?_
      exact wj_X11_insideMany_26_4 C    x2 x1 (1 : Int32) h _ hrun Ks Ke
def f_X11_insideMany  (h : Hp) : Option Int32 :=
  (lp (fun s => b_X11_insideMany_4   s.1 s.2 h) FU ((0 : Int32), (0 : Int32))).bind fun e7 =>
  some e7
set_option maxRecDepth 20000 in
theorem w_X11_insideMany  (h : Hp) (q : Int32)  (hrun : f_X11_insideMany  h = some q) : MetA ⟨"SteamNationsModel", "insideMany", "()I"⟩ prog_13_method_78_code 3 (some .int) 2 0 0 [.ref 81] h (some (.int q)) h := by
  refine metA_of (by decide) (Nat.le_of_ble_eq_true rfl) (fun X C K => ?_)
  have C : Cx X cn_11 prog_13_method_78_code 3 (some .int) 2 0 0 := C
  show G X h 0 0 0 [(0, .ref 81)] []
  unfold f_X11_insideMany at hrun
  refine g_iconst C (dat dt_X11_insideMany 0 rfl) ic_0 ?_
  refine g_istore_n (lv' := [(0, .ref 81), (1, .int (0 : Int32))]) C (dat dt_X11_insideMany 1 rfl) (by decide) rfl ?_
  refine g_iconst C (dat dt_X11_insideMany 2 rfl) ic_0 ?_
  refine g_istore_n (lv' := [(0, .ref 81), (1, .int (0 : Int32)), (2, .int (0 : Int32))]) C (dat dt_X11_insideMany 3 rfl) (by decide) rfl ?_
  obtain ⟨e7, q8, hrun⟩ := bd hrun
  refine lp_ind (P := fun s => kp_X11_insideMany_4   h X s) (K := fun e => ke_X11_insideMany_4   h X e) (fun s q hb Ks Ke => wb_X11_insideMany_4 C    s.1 s.2 h q hb Ks Ke) FU ((0 : Int32), (0 : Int32)) e7 q8 ?_
  show G X h 0 0 34 [(1, .int e7)] []
  refine g_iload_n C (dat dt_X11_insideMany 20 rfl) 0 rfl ?_
  cases hrun
  exact g_iret C K (dat dt_X11_insideMany 21 rfl)
/-! SteamNationsModel.pleasedMany()I -/
def dl_X11_pleasedMany : List (Nat × Instr × Nat) := [(0, .iconst 0, 1), (1, .istore_n 1, 1), (2, .iconst 0, 1), (3, .istore_n 2, 1), (4, .iload_n 2, 1), (5, .aload_n 0, 1), (6, .invokevirtual 127, 3), (9, .if_icmp .ge 34, 3), (12, .iload_n 1, 1), (13, .aload_n 0, 1), (14, .iload_n 2, 1), (15, .invokevirtual 153, 3), (18, .aload_n 0, 1), (19, .getfield 28, 3), (22, .bipush 25, 2), (24, .iload_n 2, 1), (25, .iadd, 1), (26, .iaload, 1), (27, .if_icmp .ne 7, 3), (30, .iconst 1, 1), (31, .goto 4, 3), (34, .iconst 0, 1), (35, .iadd, 1), (36, .istore_n 1, 1), (37, .iinc 2 1, 3), (40, .goto (-36), 3), (43, .iload_n 1, 1), (44, .ireturn, 1)]
set_option maxRecDepth 20000 in
theorem dt_X11_pleasedMany : ∀ q ∈ dl_X11_pleasedMany, decode prog_13_method_79_code q.1 = .ok q.2 := by decide +kernel
def kp_X11_pleasedMany_4   (h : Hp) (X : Xt) (s : (Int32 × Int32)) : Prop := G X h 0 0 4 [(0, .ref 81), (1, .int s.1), (2, .int s.2)] []
def ke_X11_pleasedMany_4   (h : Hp) (X : Xt) (e : Int32) : Prop := G X h 0 0 43 [(1, .int e)] []
def j_X11_pleasedMany_35_4  (x2 : Int32) (s0 : Int32) (s1 : Int32) (h : Hp) : Option ((Int32 × Int32) ⊕ Int32) :=
  some (.inl ((s0 + s1), (x2 + (1 : Int32))))
set_option maxRecDepth 20000 in
theorem wj_X11_pleasedMany_35_4 {X : Xt} (C : Cx X cn_11 prog_13_method_79_code 3 (some .int) 3 0 0)    (x2 : Int32) (s0 : Int32) (s1 : Int32) (h : Hp) (q : (Int32 × Int32) ⊕ Int32) (hrun : j_X11_pleasedMany_35_4  x2 s0 s1 h = some q) (Ks : ∀ s, q = .inl s → kp_X11_pleasedMany_4   h X s) (Ke : ∀ e, q = .inr e → ke_X11_pleasedMany_4   h X e) : G X h 0 0 35 [(0, .ref 81), (2, .int x2)] [.int s1, .int s0] := by
  unfold j_X11_pleasedMany_35_4 at hrun
  refine g_iadd C (dat dt_X11_pleasedMany 22 rfl) ?_
  refine g_istore_n (lv' := [(0, .ref 81), (1, .int (s0 + s1)), (2, .int x2)]) C (dat dt_X11_pleasedMany 23 rfl) (by decide) rfl ?_
  refine g_iinc (v := (x2 + (1 : Int32))) (lv' := [(0, .ref 81), (1, .int (s0 + s1)), (2, .int (x2 + (1 : Int32)))]) C (dat dt_X11_pleasedMany 24 rfl) 2 rfl (congrArg (fun z => x2 + z) ic_1) (by decide) rfl ?_
  refine g_goto 4 C (dat dt_X11_pleasedMany 25 rfl) (by decide) ?_
  cases hrun
  exact Ks ((s0 + s1), (x2 + (1 : Int32))) rfl
def b_X11_pleasedMany_4   (x1 : Int32) (x2 : Int32) (h : Hp) : Option ((Int32 × Int32) ⊕ Int32) :=
  (f_X11_many  h).bind fun v1 =>
  if v1 ≤ x2 then
  some (.inr ( x1))
  else
  (f_X11_nationOf x2 h).bind fun v4 =>
  (inb ((25 : Int32) + x2) 5662).bind fun j6 =>
  if v4 = (aI h 83 j6) then
  j_X11_pleasedMany_35_4  x2 x1 (1 : Int32) h
  else
  j_X11_pleasedMany_35_4  x2 x1 (0 : Int32) h
set_option maxRecDepth 20000 in
theorem wb_X11_pleasedMany_4 {X : Xt} (C : Cx X cn_11 prog_13_method_79_code 3 (some .int) 3 0 0)    (x1 : Int32) (x2 : Int32) (h : Hp) (q : (Int32 × Int32) ⊕ Int32) (hrun : b_X11_pleasedMany_4   x1 x2 h = some q) (Ks : ∀ s, q = .inl s → kp_X11_pleasedMany_4   h X s) (Ke : ∀ e, q = .inr e → ke_X11_pleasedMany_4   h X e) : kp_X11_pleasedMany_4   h X (x1, x2) := by
  show G X h 0 0 4 [(0, .ref 81), (1, .int x1), (2, .int x2)] []
  unfold b_X11_pleasedMany_4 at hrun
  refine g_iload_n C (dat dt_X11_pleasedMany 4 rfl) 2 rfl ?_
  refine g_aload_n C (dat dt_X11_pleasedMany 5 rfl) 0 rfl ?_
  obtain ⟨v1, q2, hrun⟩ := bd hrun
  refine g_cVi [] C (dat dt_X11_pleasedMany 6 rfl) ml_11_127 (w_X11_many  h v1  q2) kd_81 ltk_81 rfl rfl (Nat.le_of_ble_eq_true rfl) (by decide) c00 ?_
  refine g_ic_ge 43 C (dat dt_X11_pleasedMany 7 rfl) (by decide) (fun c3 => ?_) (fun c3 => ?_)
  · rw [if_pos c3] at hrun
    refine g_sub [1] (lv' := [(1, .int x1)]) rfl ?_
    cases hrun
    exact Ke ( x1) rfl
  · rw [if_neg c3] at hrun
    refine g_iload_n C (dat dt_X11_pleasedMany 8 rfl) 1 rfl ?_
    refine g_aload_n C (dat dt_X11_pleasedMany 9 rfl) 0 rfl ?_
    refine g_iload_n C (dat dt_X11_pleasedMany 10 rfl) 2 rfl ?_
    obtain ⟨v4, q5, hrun⟩ := bd hrun
    refine g_cVi [.int x2] C (dat dt_X11_pleasedMany 11 rfl) ml_11_153 (w_X11_nationOf x2 h v4  q5) kd_81 ltk_81 rfl rfl (Nat.le_of_ble_eq_true rfl) (by decide) c00 ?_
    refine g_aload_n C (dat dt_X11_pleasedMany 12 rfl) 0 rfl ?_
    refine g_getR C (dat dt_X11_pleasedMany 13 rfl) fl_11_28 kd_81 rfl ltk_81 ?_
    refine g_bipush C (dat dt_X11_pleasedMany 14 rfl) bp_25 ?_
    refine g_iload_n C (dat dt_X11_pleasedMany 15 rfl) 2 rfl ?_
    refine g_iadd C (dat dt_X11_pleasedMany 16 rfl) ?_
    obtain ⟨j6, q7, hrun⟩ := bd hrun
    refine g_iald C (dat dt_X11_pleasedMany 17 rfl) kd_83 ltk_83 q7 ?_
    refine g_ic_ne 34 C (dat dt_X11_pleasedMany 18 rfl) (by decide) (fun c8 => ?_) (fun c8 => ?_)
    · rw [if_neg c8] at hrun
      refine g_iconst C (dat dt_X11_pleasedMany 21 rfl) ic_0 ?_
      refine g_sub [0, 2] (lv' := [(0, .ref 81), (2, .int x2)]) rfl ?_
      exact wj_X11_pleasedMany_35_4 C    x2 x1 (0 : Int32) h _ hrun Ks Ke
    · rw [if_pos c8] at hrun
      refine g_iconst C (dat dt_X11_pleasedMany 19 rfl) ic_1 ?_
      refine g_goto 35 C (dat dt_X11_pleasedMany 20 rfl) (by decide) ?_
      refine g_sub [0, 2] (lv' := [(0, .ref 81), (2, .int x2)]) rfl ?_
      exact wj_X11_pleasedMany_35_4 C    x2 x1 (1 : Int32) h _ hrun Ks Ke
def f_X11_pleasedMany  (h : Hp) : Option Int32 :=
  (lp (fun s => b_X11_pleasedMany_4   s.1 s.2 h) FU ((0 : Int32), (0 : Int32))).bind fun e9 =>
  some e9
set_option maxRecDepth 20000 in
theorem w_X11_pleasedMany  (h : Hp) (q : Int32)  (hrun : f_X11_pleasedMany  h = some q) : MetA ⟨"SteamNationsModel", "pleasedMany", "()I"⟩ prog_13_method_79_code 3 (some .int) 3 0 0 [.ref 81] h (some (.int q)) h := by
  refine metA_of (by decide) (Nat.le_of_ble_eq_true rfl) (fun X C K => ?_)
  have C : Cx X cn_11 prog_13_method_79_code 3 (some .int) 3 0 0 := C
  show G X h 0 0 0 [(0, .ref 81)] []
  unfold f_X11_pleasedMany at hrun
  refine g_iconst C (dat dt_X11_pleasedMany 0 rfl) ic_0 ?_
  refine g_istore_n (lv' := [(0, .ref 81), (1, .int (0 : Int32))]) C (dat dt_X11_pleasedMany 1 rfl) (by decide) rfl ?_
  refine g_iconst C (dat dt_X11_pleasedMany 2 rfl) ic_0 ?_
  refine g_istore_n (lv' := [(0, .ref 81), (1, .int (0 : Int32)), (2, .int (0 : Int32))]) C (dat dt_X11_pleasedMany 3 rfl) (by decide) rfl ?_
  obtain ⟨e9, q10, hrun⟩ := bd hrun
  refine lp_ind (P := fun s => kp_X11_pleasedMany_4   h X s) (K := fun e => ke_X11_pleasedMany_4   h X e) (fun s q hb Ks Ke => wb_X11_pleasedMany_4 C    s.1 s.2 h q hb Ks Ke) FU ((0 : Int32), (0 : Int32)) e9 q10 ?_
  show G X h 0 0 43 [(1, .int e9)] []
  refine g_iload_n C (dat dt_X11_pleasedMany 26 rfl) 0 rfl ?_
  cases hrun
  exact g_iret C K (dat dt_X11_pleasedMany 27 rfl)
/-! SteamNationsModel.orderValue(II)I -/
def dl_X11_orderValue : List (Nat × Instr × Nat) := [(0, .iload_n 1, 1), (1, .tableswitch 107 14 20 #[43, 84, 92, 97, 102, 107, 66], 43), (44, .aload_n 0, 1), (45, .iload_n 2, 1), (46, .invokevirtual 147, 3), (49, .ifCond .eq 16, 3), (52, .aload_n 0, 1), (53, .iload_n 2, 1), (54, .aload_n 0, 1), (55, .iload_n 2, 1), (56, .invokevirtual 153, 3), (59, .invokevirtual 131, 3), (62, .goto 4, 3), (65, .iconst (-1), 1), (66, .ireturn, 1), (67, .aload_n 0, 1), (68, .iload_n 2, 1), (69, .invokevirtual 147, 3), (72, .ifCond .eq 11, 3), (75, .aload_n 0, 1), (76, .iload_n 2, 1), (77, .invokevirtual 153, 3), (80, .goto 4, 3), (83, .iconst (-1), 1), (84, .ireturn, 1), (85, .aload_n 0, 1), (86, .getfield 28, 3), (89, .bipush 24, 2), (91, .iaload, 1), (92, .ireturn, 1), (93, .aload_n 0, 1), (94, .getfield 327, 3), (97, .ireturn, 1), (98, .aload_n 0, 1), (99, .getfield 330, 3), (102, .ireturn, 1), (103, .aload_n 0, 1), (104, .invokevirtual 333, 3), (107, .ireturn, 1), (108, .aload_n 0, 1), (109, .invokevirtual 336, 3), (112, .ireturn, 1)]
set_option maxRecDepth 20000 in
theorem dt_X11_orderValue : ∀ q ∈ dl_X11_orderValue, decode prog_13_method_70_code q.1 = .ok q.2 := by decide +kernel
def j_X11_orderValue_108   (h : Hp) : Option Int32 :=
  (f_X11_pleasedMany  h).bind fun v4 =>
  some v4
set_option maxRecDepth 20000 in
theorem wj_X11_orderValue_108 {X : Xt} (C : Cx X cn_11 prog_13_method_70_code 3 (some .int) 4 0 0)     (h : Hp) (q : Int32) (hrun : j_X11_orderValue_108   h = some q) (K : EndQ X 0 0 (some (.int q)) h) : G X h 0 0 108 [(0, .ref 81)] [] := by
  unfold j_X11_orderValue_108 at hrun
  refine g_aload_n C (dat dt_X11_orderValue 39 rfl) 0 rfl ?_
  obtain ⟨v4, q5, hrun⟩ := bd hrun
  refine g_cVi [] C (dat dt_X11_orderValue 40 rfl) ml_11_336 (w_X11_pleasedMany  h v4  q5) kd_81 ltk_81 rfl rfl cat0 (by decide) c00 ?_
  cases hrun
  exact g_iret C K (dat dt_X11_orderValue 41 rfl)
def f_X11_orderValue (x1 : Int32) (x2 : Int32) (h : Hp) : Option Int32 :=
  if x1.toInt < (14 : Int) ∨ (20 : Int) < x1.toInt then
  j_X11_orderValue_108   h
  else if (x1.toInt - (14 : Int)).toNat = 0 then
  (f_X11_isSitter x2 h).bind fun v6 =>
  if v6 = true then
  (f_X11_nationOf x2 h).bind fun v9 =>
  (f_X11_partsOf x2 v9 h).bind fun v11 =>
  some v11
  else
  some (-1 : Int32)
  else if (x1.toInt - (14 : Int)).toNat = 1 then
  some (aI h 83 24)
  else if (x1.toInt - (14 : Int)).toNat = 2 then
  some (fI h 81 27)
  else if (x1.toInt - (14 : Int)).toNat = 3 then
  some (fI h 81 28)
  else if (x1.toInt - (14 : Int)).toNat = 4 then
  (f_X11_insideMany  h).bind fun v13 =>
  some v13
  else if (x1.toInt - (14 : Int)).toNat = 5 then
  j_X11_orderValue_108   h
  else if (x1.toInt - (14 : Int)).toNat = 6 then
  (f_X11_isSitter x2 h).bind fun v15 =>
  if v15 = true then
  (f_X11_nationOf x2 h).bind fun v18 =>
  some v18
  else
  some (-1 : Int32)
  else none
set_option maxRecDepth 20000 in
theorem w_X11_orderValue (x1 : Int32) (x2 : Int32) (h : Hp) (q : Int32)  (hrun : f_X11_orderValue x1 x2 h = some q) : MetA ⟨"SteamNationsModel", "orderValue", "(II)I"⟩ prog_13_method_70_code 3 (some .int) 4 0 0 [.ref 81, .int x1, .int x2] h (some (.int q)) h := by
  refine metA_of (by decide) (Nat.le_of_ble_eq_true rfl) (fun X C K => ?_)
  have C : Cx X cn_11 prog_13_method_70_code 3 (some .int) 4 0 0 := C
  show G X h 0 0 0 [(0, .ref 81), (1, .int x1), (2, .int x2)] []
  unfold f_X11_orderValue at hrun
  refine g_iload_n C (dat dt_X11_orderValue 0 rfl) 1 rfl ?_
  by_cases c1 : x1.toInt < (14 : Int) ∨ (20 : Int) < x1.toInt
  · rw [if_pos c1] at hrun
    refine g_tabO 108 C (dat dt_X11_orderValue 1 rfl) c1 (by decide) ?_
    refine g_sub [0] (lv' := [(0, .ref 81)]) rfl ?_
    exact wj_X11_orderValue_108 C     h _ hrun K
  · rw [if_neg c1] at hrun
    by_cases c26 : (x1.toInt - (14 : Int)).toNat = 0
    · rw [if_pos c26] at hrun
      refine g_tabI 44 C (dat dt_X11_orderValue 1 rfl) c1 c26.symm rfl (by decide) ?_
      refine g_aload_n C (dat dt_X11_orderValue 2 rfl) 0 rfl ?_
      refine g_iload_n C (dat dt_X11_orderValue 3 rfl) 2 rfl ?_
      obtain ⟨v6, q7, hrun⟩ := bd hrun
      refine g_cVi [.int x2] C (dat dt_X11_orderValue 4 rfl) ml_11_147 (w_X11_isSitter x2 h v6  q7) kd_81 ltk_81 rfl rfl cat0 (by decide) c00 ?_
      refine g_if_eq 65 C (dat dt_X11_orderValue 5 rfl) (by decide) (fun c8 => ?_) (fun c8 => ?_)
      · rw [if_neg (b2i_z c8)] at hrun
        refine g_iconst C (dat dt_X11_orderValue 13 rfl) ic_m1 ?_
        cases hrun
        exact g_iret C K (dat dt_X11_orderValue 14 rfl)
      · rw [if_pos (b2i_nz c8)] at hrun
        refine g_aload_n C (dat dt_X11_orderValue 6 rfl) 0 rfl ?_
        refine g_iload_n C (dat dt_X11_orderValue 7 rfl) 2 rfl ?_
        refine g_aload_n C (dat dt_X11_orderValue 8 rfl) 0 rfl ?_
        refine g_iload_n C (dat dt_X11_orderValue 9 rfl) 2 rfl ?_
        obtain ⟨v9, q10, hrun⟩ := bd hrun
        refine g_cVi [.int x2] C (dat dt_X11_orderValue 10 rfl) ml_11_153 (w_X11_nationOf x2 h v9  q10) kd_81 ltk_81 rfl rfl (Nat.le_of_ble_eq_true rfl) (by decide) c00 ?_
        obtain ⟨v11, q12, hrun⟩ := bd hrun
        refine g_cVi [.int x2, .int v9] C (dat dt_X11_orderValue 11 rfl) ml_11_131 (w_X11_partsOf x2 v9 h v11  q12) kd_81 ltk_81 rfl rfl cat0 (by decide) c00 ?_
        refine g_goto 66 C (dat dt_X11_orderValue 12 rfl) (by decide) ?_
        cases hrun
        exact g_iret C K (dat dt_X11_orderValue 14 rfl)
    · rw [if_neg c26] at hrun
      by_cases c25 : (x1.toInt - (14 : Int)).toNat = 1
      · rw [if_pos c25] at hrun
        refine g_tabI 85 C (dat dt_X11_orderValue 1 rfl) c1 c25.symm rfl (by decide) ?_
        refine g_aload_n C (dat dt_X11_orderValue 25 rfl) 0 rfl ?_
        refine g_getR C (dat dt_X11_orderValue 26 rfl) fl_11_28 kd_81 rfl ltk_81 ?_
        refine g_bipush C (dat dt_X11_orderValue 27 rfl) bp_24 ?_
        refine g_iald (j := 24) C (dat dt_X11_orderValue 28 rfl) kd_83 ltk_83 (show inb (24 : Int32) 5662 = some 24 by decide) ?_
        cases hrun
        exact g_iret C K (dat dt_X11_orderValue 29 rfl)
      · rw [if_neg c25] at hrun
        by_cases c24 : (x1.toInt - (14 : Int)).toNat = 2
        · rw [if_pos c24] at hrun
          refine g_tabI 93 C (dat dt_X11_orderValue 1 rfl) c1 c24.symm rfl (by decide) ?_
          refine g_aload_n C (dat dt_X11_orderValue 30 rfl) 0 rfl ?_
          refine g_getI C (dat dt_X11_orderValue 31 rfl) fl_11_327 kd_81 rfl ltk_81 ?_
          cases hrun
          exact g_iret C K (dat dt_X11_orderValue 32 rfl)
        · rw [if_neg c24] at hrun
          by_cases c23 : (x1.toInt - (14 : Int)).toNat = 3
          · rw [if_pos c23] at hrun
            refine g_tabI 98 C (dat dt_X11_orderValue 1 rfl) c1 c23.symm rfl (by decide) ?_
            refine g_aload_n C (dat dt_X11_orderValue 33 rfl) 0 rfl ?_
            refine g_getI C (dat dt_X11_orderValue 34 rfl) fl_11_330 kd_81 rfl ltk_81 ?_
            cases hrun
            exact g_iret C K (dat dt_X11_orderValue 35 rfl)
          · rw [if_neg c23] at hrun
            by_cases c22 : (x1.toInt - (14 : Int)).toNat = 4
            · rw [if_pos c22] at hrun
              refine g_tabI 103 C (dat dt_X11_orderValue 1 rfl) c1 c22.symm rfl (by decide) ?_
              refine g_aload_n C (dat dt_X11_orderValue 36 rfl) 0 rfl ?_
              obtain ⟨v13, q14, hrun⟩ := bd hrun
              refine g_cVi [] C (dat dt_X11_orderValue 37 rfl) ml_11_333 (w_X11_insideMany  h v13  q14) kd_81 ltk_81 rfl rfl cat0 (by decide) c00 ?_
              cases hrun
              exact g_iret C K (dat dt_X11_orderValue 38 rfl)
            · rw [if_neg c22] at hrun
              by_cases c21 : (x1.toInt - (14 : Int)).toNat = 5
              · rw [if_pos c21] at hrun
                refine g_tabI 108 C (dat dt_X11_orderValue 1 rfl) c1 c21.symm rfl (by decide) ?_
                refine g_sub [0] (lv' := [(0, .ref 81)]) rfl ?_
                exact wj_X11_orderValue_108 C     h _ hrun K
              · rw [if_neg c21] at hrun
                by_cases c20 : (x1.toInt - (14 : Int)).toNat = 6
                · rw [if_pos c20] at hrun
                  refine g_tabI 67 C (dat dt_X11_orderValue 1 rfl) c1 c20.symm rfl (by decide) ?_
                  refine g_aload_n C (dat dt_X11_orderValue 15 rfl) 0 rfl ?_
                  refine g_iload_n C (dat dt_X11_orderValue 16 rfl) 2 rfl ?_
                  obtain ⟨v15, q16, hrun⟩ := bd hrun
                  refine g_cVi [.int x2] C (dat dt_X11_orderValue 17 rfl) ml_11_147 (w_X11_isSitter x2 h v15  q16) kd_81 ltk_81 rfl rfl cat0 (by decide) c00 ?_
                  refine g_if_eq 83 C (dat dt_X11_orderValue 18 rfl) (by decide) (fun c17 => ?_) (fun c17 => ?_)
                  · rw [if_neg (b2i_z c17)] at hrun
                    refine g_iconst C (dat dt_X11_orderValue 23 rfl) ic_m1 ?_
                    cases hrun
                    exact g_iret C K (dat dt_X11_orderValue 24 rfl)
                  · rw [if_pos (b2i_nz c17)] at hrun
                    refine g_aload_n C (dat dt_X11_orderValue 19 rfl) 0 rfl ?_
                    refine g_iload_n C (dat dt_X11_orderValue 20 rfl) 2 rfl ?_
                    obtain ⟨v18, q19, hrun⟩ := bd hrun
                    refine g_cVi [.int x2] C (dat dt_X11_orderValue 21 rfl) ml_11_153 (w_X11_nationOf x2 h v18  q19) kd_81 ltk_81 rfl rfl cat0 (by decide) c00 ?_
                    refine g_goto 84 C (dat dt_X11_orderValue 22 rfl) (by decide) ?_
                    cases hrun
                    exact g_iret C K (dat dt_X11_orderValue 24 rfl)
                · rw [if_neg c20] at hrun
                  cases hrun
/-! SteamNationsModel.bounded(JZ)J -/
def dl_X11_bounded : List (Nat × Instr × Nat) := [(0, .iload_n 3, 1), (1, .ifCond .eq 24, 3), (4, .lload_n 1, 1), (5, .ldc2_w 297, 3), (8, .lcmp, 1), (9, .ifCond .gt 11, 3), (12, .lload_n 1, 1), (13, .ldc2_w 299, 3), (16, .lcmp, 1), (17, .ifCond .ge 8, 3), (20, .aload_n 0, 1), (21, .iconst 1, 1), (22, .putfield 301, 3), (25, .aload_n 0, 1), (26, .getfield 301, 3), (29, .ifCond .eq 7, 3), (32, .lconst 0, 1), (33, .goto 4, 3), (36, .lload_n 1, 1), (37, .lreturn, 1)]
set_option maxRecDepth 20000 in
theorem dt_X11_bounded : ∀ q ∈ dl_X11_bounded, decode prog_13_method_66_code q.1 = .ok q.2 := by decide +kernel
def j_X11_bounded_25  (x1 : Int64) (h : Hp) : Option (Int64 × Hp) :=
  if (fI h 81 24) = 0 then
  some (x1, h)
  else
  some ((0 : Int64), h)
set_option maxRecDepth 20000 in
theorem wj_X11_bounded_25 {X : Xt} (C : Cx X cn_11 prog_13_method_66_code 4 (some .long) 1 0 0)    (x1 : Int64) (h : Hp) (q : (Int64 × Hp)) (hrun : j_X11_bounded_25  x1 h = some q) (K : EndQ X 0 0 (some (.long q.1)) q.2) : G X h 0 0 25 [(0, .ref 81), (1, .long x1)] [] := by
  unfold j_X11_bounded_25 at hrun
  refine g_aload_n C (dat dt_X11_bounded 13 rfl) 0 rfl ?_
  refine g_getI C (dat dt_X11_bounded 14 rfl) fl_11_301 kd_81 rfl ltk_81 ?_
  refine g_if_eq 36 C (dat dt_X11_bounded 15 rfl) (by decide) (fun c2 => ?_) (fun c2 => ?_)
  · rw [if_pos c2] at hrun
    refine g_lload_n C (dat dt_X11_bounded 18 rfl) 1 rfl ?_
    cases hrun
    exact g_lret C K (dat dt_X11_bounded 19 rfl)
  · rw [if_neg c2] at hrun
    refine g_lconst (v := 0) C (dat dt_X11_bounded 16 rfl) rfl ?_
    refine g_goto 37 C (dat dt_X11_bounded 17 rfl) (by decide) ?_
    cases hrun
    exact g_lret C K (dat dt_X11_bounded 19 rfl)
def j_X11_bounded_20  (x1 : Int64) (h : Hp) : Option (Int64 × Hp) :=
  j_X11_bounded_25  x1 (sF h 81 24 (b2i true))
set_option maxRecDepth 20000 in
theorem wj_X11_bounded_20 {X : Xt} (C : Cx X cn_11 prog_13_method_66_code 4 (some .long) 1 0 0)    (x1 : Int64) (h : Hp) (q : (Int64 × Hp)) (hrun : j_X11_bounded_20  x1 h = some q) (K : EndQ X 0 0 (some (.long q.1)) q.2) : G X h 0 0 20 [(0, .ref 81), (1, .long x1)] [] := by
  unfold j_X11_bounded_20 at hrun
  refine g_aload_n C (dat dt_X11_bounded 10 rfl) 0 rfl ?_
  refine g_iconst C (dat dt_X11_bounded 11 rfl) ic_1 ?_
  refine g_putZ (b := true) C (dat dt_X11_bounded 12 rfl) fl_11_301 rfl kd_81 rfl ltk_81 ?_
  exact wj_X11_bounded_25 C    x1 (sF h 81 24 (b2i true)) _ hrun K
def f_X11_bounded (x1 : Int64) (x3 : Int32) (h : Hp) : Option (Int64 × Hp) :=
  if x3 = 0 then
  j_X11_bounded_25  x1 h
  else
  if 0 < (lg_cmp x1 (1000000000 : Int64)) then
  j_X11_bounded_20  x1 h
  else
  if 0 ≤ (lg_cmp x1 (-1000000000 : Int64)) then
  j_X11_bounded_25  x1 h
  else
  j_X11_bounded_20  x1 h
set_option maxRecDepth 20000 in
theorem w_X11_bounded (x1 : Int64) (x3 : Int32) (h : Hp) (q : (Int64 × Hp))  (hrun : f_X11_bounded x1 x3 h = some q) : MetA ⟨"SteamNationsModel", "bounded", "(JZ)J"⟩ prog_13_method_66_code 4 (some .long) 1 0 0 [.ref 81, .long x1, .int x3] h (some (.long q.1)) q.2 := by
  refine metA_of (by decide) (Nat.le_of_ble_eq_true rfl) (fun X C K => ?_)
  have C : Cx X cn_11 prog_13_method_66_code 4 (some .long) 1 0 0 := C
  show G X h 0 0 0 [(0, .ref 81), (1, .long x1), (3, .int x3)] []
  unfold f_X11_bounded at hrun
  refine g_iload_n C (dat dt_X11_bounded 0 rfl) 2 rfl ?_
  refine g_if_eq 25 C (dat dt_X11_bounded 1 rfl) (by decide) (fun c1 => ?_) (fun c1 => ?_)
  · rw [if_pos c1] at hrun
    refine g_sub [0, 1] (lv' := [(0, .ref 81), (1, .long x1)]) rfl ?_
    exact wj_X11_bounded_25 C    x1 h _ hrun K
  · rw [if_neg c1] at hrun
    refine g_lload_n C (dat dt_X11_bounded 2 rfl) 1 rfl ?_
    refine g_ldc2 C (dat dt_X11_bounded 3 rfl) kc_11_297 ?_
    refine g_lcmp C (dat dt_X11_bounded 4 rfl) ?_
    refine g_if_gt 20 C (dat dt_X11_bounded 5 rfl) (by decide) (fun c3 => ?_) (fun c3 => ?_)
    · rw [if_pos c3] at hrun
      refine g_sub [0, 1] (lv' := [(0, .ref 81), (1, .long x1)]) rfl ?_
      exact wj_X11_bounded_20 C    x1 h _ hrun K
    · rw [if_neg c3] at hrun
      refine g_lload_n C (dat dt_X11_bounded 6 rfl) 1 rfl ?_
      refine g_ldc2 C (dat dt_X11_bounded 7 rfl) kc_11_299 ?_
      refine g_lcmp C (dat dt_X11_bounded 8 rfl) ?_
      refine g_if_ge 25 C (dat dt_X11_bounded 9 rfl) (by decide) (fun c4 => ?_) (fun c4 => ?_)
      · rw [if_pos c4] at hrun
        refine g_sub [0, 1] (lv' := [(0, .ref 81), (1, .long x1)]) rfl ?_
        exact wj_X11_bounded_25 C    x1 h _ hrun K
      · rw [if_neg c4] at hrun
        refine g_sub [0, 1] (lv' := [(0, .ref 81), (1, .long x1)]) rfl ?_
        exact wj_X11_bounded_20 C    x1 h _ hrun K
/-! SteamNationsModel.isSeat(I)Z -/
def dl_X11_isSeat : List (Nat × Instr × Nat) := [(0, .iload_n 0, 1), (1, .iconst 0, 1), (2, .bipush 8, 2), (4, .invokestatic 18, 3), (7, .ireturn, 1)]
set_option maxRecDepth 20000 in
theorem dt_X11_isSeat : ∀ q ∈ dl_X11_isSeat, decode prog_13_method_10_code q.1 = .ok q.2 := by decide +kernel
def f_X11_isSeat (x0 : Int32) : Option Bool :=
  (f_X11_lies x0 (0 : Int32) (8 : Int32)).bind fun v1 =>
  some v1
set_option maxRecDepth 20000 in
theorem w_X11_isSeat (x0 : Int32) (h : Hp) (q : Bool)  (hrun : f_X11_isSeat x0 = some q) : MetA ⟨"SteamNationsModel", "isSeat", "(I)Z"⟩ prog_13_method_10_code 1 (some .boolean) 2 0 0 [.int x0] h (some (.int (b2i q))) h := by
  refine metA_of (by decide) (Nat.le_of_ble_eq_true rfl) (fun X C K => ?_)
  have C : Cx X cn_11 prog_13_method_10_code 1 (some .boolean) 2 0 0 := C
  show G X h 0 0 0 [(0, .int x0)] []
  unfold f_X11_isSeat at hrun
  refine g_iload_n C (dat dt_X11_isSeat 0 rfl) 0 rfl ?_
  refine g_iconst C (dat dt_X11_isSeat 1 rfl) ic_0 ?_
  refine g_bipush C (dat dt_X11_isSeat 2 rfl) bp_8 ?_
  obtain ⟨v1, q2, hrun⟩ := bd hrun
  refine g_cSi [.int x0, .int (0 : Int32), .int (8 : Int32)] C (dat dt_X11_isSeat 3 rfl) ml_11_18 (w_X11_lies x0 (0 : Int32) (8 : Int32) h v1  q2) rfl rfl cat0 (by decide) c00 ?_
  cases hrun
  exact g_zret C K rfl (dat dt_X11_isSeat 4 rfl)
/-! SteamNationsModel.onSeat(I)I -/
def dl_X11_onSeat : List (Nat × Instr × Nat) := [(0, .iconst (-1), 1), (1, .istore_n 2, 1), (2, .iconst 0, 1), (3, .istore_n 3, 1), (4, .iload_n 3, 1), (5, .aload_n 0, 1), (6, .invokevirtual 127, 3), (9, .if_icmp .ge 28, 3), (12, .aload_n 0, 1), (13, .getfield 28, 3), (16, .bipush 18, 2), (18, .iload_n 3, 1), (19, .iadd, 1), (20, .iaload, 1), (21, .iload_n 1, 1), (22, .if_icmp .ne 7, 3), (25, .iload_n 3, 1), (26, .goto 4, 3), (29, .iload_n 2, 1), (30, .istore_n 2, 1), (31, .iinc 3 1, 3), (34, .goto (-30), 3), (37, .iload_n 2, 1), (38, .ireturn, 1)]
set_option maxRecDepth 20000 in
theorem dt_X11_onSeat : ∀ q ∈ dl_X11_onSeat, decode prog_13_method_23_code q.1 = .ok q.2 := by decide +kernel
def kp_X11_onSeat_4  (x1 : Int32) (h : Hp) (X : Xt) (s : (Int32 × Int32)) : Prop := G X h 0 0 4 [(0, .ref 81), (1, .int x1), (2, .int s.1), (3, .int s.2)] []
def ke_X11_onSeat_4  (x1 : Int32) (h : Hp) (X : Xt) (e : Int32) : Prop := G X h 0 0 37 [(2, .int e)] []
def j_X11_onSeat_30_4  (x1 : Int32) (x3 : Int32) (s0 : Int32) (h : Hp) : Option ((Int32 × Int32) ⊕ Int32) :=
  some (.inl (s0, (x3 + (1 : Int32))))
set_option maxRecDepth 20000 in
theorem wj_X11_onSeat_30_4 {X : Xt} (C : Cx X cn_11 prog_13_method_23_code 4 (some .int) 2 0 0)    (x1 : Int32) (x3 : Int32) (s0 : Int32) (h : Hp) (q : (Int32 × Int32) ⊕ Int32) (hrun : j_X11_onSeat_30_4  x1 x3 s0 h = some q) (Ks : ∀ s, q = .inl s → kp_X11_onSeat_4  x1 h X s) (Ke : ∀ e, q = .inr e → ke_X11_onSeat_4  x1 h X e) : G X h 0 0 30 [(0, .ref 81), (1, .int x1), (3, .int x3)] [.int s0] := by
  unfold j_X11_onSeat_30_4 at hrun
  refine g_istore_n (lv' := [(0, .ref 81), (1, .int x1), (2, .int s0), (3, .int x3)]) C (dat dt_X11_onSeat 19 rfl) (by decide) rfl ?_
  refine g_iinc (v := (x3 + (1 : Int32))) (lv' := [(0, .ref 81), (1, .int x1), (2, .int s0), (3, .int (x3 + (1 : Int32)))]) C (dat dt_X11_onSeat 20 rfl) 3 rfl (congrArg (fun z => x3 + z) ic_1) (by decide) rfl ?_
  refine g_goto 4 C (dat dt_X11_onSeat 21 rfl) (by decide) ?_
  cases hrun
  exact Ks (s0, (x3 + (1 : Int32))) rfl
def b_X11_onSeat_4  (x1 : Int32) (x2 : Int32) (x3 : Int32) (h : Hp) : Option ((Int32 × Int32) ⊕ Int32) :=
  (f_X11_many  h).bind fun v1 =>
  if v1 ≤ x3 then
  some (.inr ( x2))
  else
  (inb ((18 : Int32) + x3) 5662).bind fun j4 =>
  if (aI h 83 j4) = x1 then
  j_X11_onSeat_30_4  x1 x3 x3 h
  else
  j_X11_onSeat_30_4  x1 x3 x2 h
set_option maxRecDepth 20000 in
theorem wb_X11_onSeat_4 {X : Xt} (C : Cx X cn_11 prog_13_method_23_code 4 (some .int) 2 0 0)   (x1 : Int32) (x2 : Int32) (x3 : Int32) (h : Hp) (q : (Int32 × Int32) ⊕ Int32) (hrun : b_X11_onSeat_4  x1 x2 x3 h = some q) (Ks : ∀ s, q = .inl s → kp_X11_onSeat_4  x1 h X s) (Ke : ∀ e, q = .inr e → ke_X11_onSeat_4  x1 h X e) : kp_X11_onSeat_4  x1 h X (x2, x3) := by
  show G X h 0 0 4 [(0, .ref 81), (1, .int x1), (2, .int x2), (3, .int x3)] []
  unfold b_X11_onSeat_4 at hrun
  refine g_iload_n C (dat dt_X11_onSeat 4 rfl) 3 rfl ?_
  refine g_aload_n C (dat dt_X11_onSeat 5 rfl) 0 rfl ?_
  obtain ⟨v1, q2, hrun⟩ := bd hrun
  refine g_cVi [] C (dat dt_X11_onSeat 6 rfl) ml_11_127 (w_X11_many  h v1  q2) kd_81 ltk_81 rfl rfl (Nat.le_of_ble_eq_true rfl) (by decide) c00 ?_
  refine g_ic_ge 37 C (dat dt_X11_onSeat 7 rfl) (by decide) (fun c3 => ?_) (fun c3 => ?_)
  · rw [if_pos c3] at hrun
    refine g_sub [2] (lv' := [(2, .int x2)]) rfl ?_
    cases hrun
    exact Ke ( x2) rfl
  · rw [if_neg c3] at hrun
    refine g_aload_n C (dat dt_X11_onSeat 8 rfl) 0 rfl ?_
    refine g_getR C (dat dt_X11_onSeat 9 rfl) fl_11_28 kd_81 rfl ltk_81 ?_
    refine g_bipush C (dat dt_X11_onSeat 10 rfl) bp_18 ?_
    refine g_iload_n C (dat dt_X11_onSeat 11 rfl) 3 rfl ?_
    refine g_iadd C (dat dt_X11_onSeat 12 rfl) ?_
    obtain ⟨j4, q5, hrun⟩ := bd hrun
    refine g_iald C (dat dt_X11_onSeat 13 rfl) kd_83 ltk_83 q5 ?_
    refine g_iload_n C (dat dt_X11_onSeat 14 rfl) 1 rfl ?_
    refine g_ic_ne 29 C (dat dt_X11_onSeat 15 rfl) (by decide) (fun c6 => ?_) (fun c6 => ?_)
    · rw [if_neg c6] at hrun
      refine g_iload_n C (dat dt_X11_onSeat 18 rfl) 2 rfl ?_
      refine g_sub [0, 1, 3] (lv' := [(0, .ref 81), (1, .int x1), (3, .int x3)]) rfl ?_
      exact wj_X11_onSeat_30_4 C    x1 x3 x2 h _ hrun Ks Ke
    · rw [if_pos c6] at hrun
      refine g_iload_n C (dat dt_X11_onSeat 16 rfl) 3 rfl ?_
      refine g_goto 30 C (dat dt_X11_onSeat 17 rfl) (by decide) ?_
      refine g_sub [0, 1, 3] (lv' := [(0, .ref 81), (1, .int x1), (3, .int x3)]) rfl ?_
      exact wj_X11_onSeat_30_4 C    x1 x3 x3 h _ hrun Ks Ke
def f_X11_onSeat (x1 : Int32) (h : Hp) : Option Int32 :=
  (lp (fun s => b_X11_onSeat_4  x1 s.1 s.2 h) FU ((-1 : Int32), (0 : Int32))).bind fun e7 =>
  some e7
set_option maxRecDepth 20000 in
theorem w_X11_onSeat (x1 : Int32) (h : Hp) (q : Int32)  (hrun : f_X11_onSeat x1 h = some q) : MetA ⟨"SteamNationsModel", "onSeat", "(I)I"⟩ prog_13_method_23_code 4 (some .int) 2 0 0 [.ref 81, .int x1] h (some (.int q)) h := by
  refine metA_of (by decide) (Nat.le_of_ble_eq_true rfl) (fun X C K => ?_)
  have C : Cx X cn_11 prog_13_method_23_code 4 (some .int) 2 0 0 := C
  show G X h 0 0 0 [(0, .ref 81), (1, .int x1)] []
  unfold f_X11_onSeat at hrun
  refine g_iconst C (dat dt_X11_onSeat 0 rfl) ic_m1 ?_
  refine g_istore_n (lv' := [(0, .ref 81), (1, .int x1), (2, .int (-1 : Int32))]) C (dat dt_X11_onSeat 1 rfl) (by decide) rfl ?_
  refine g_iconst C (dat dt_X11_onSeat 2 rfl) ic_0 ?_
  refine g_istore_n (lv' := [(0, .ref 81), (1, .int x1), (2, .int (-1 : Int32)), (3, .int (0 : Int32))]) C (dat dt_X11_onSeat 3 rfl) (by decide) rfl ?_
  obtain ⟨e7, q8, hrun⟩ := bd hrun
  refine lp_ind (P := fun s => kp_X11_onSeat_4  x1 h X s) (K := fun e => ke_X11_onSeat_4  x1 h X e) (fun s q hb Ks Ke => wb_X11_onSeat_4 C   x1 s.1 s.2 h q hb Ks Ke) FU ((-1 : Int32), (0 : Int32)) e7 q8 ?_
  show G X h 0 0 37 [(2, .int e7)] []
  refine g_iload_n C (dat dt_X11_onSeat 22 rfl) 0 rfl ?_
  cases hrun
  exact g_iret C K (dat dt_X11_onSeat 23 rfl)
/-! SteamNationsModel.at(I)I -/
def dl_X11_at : List (Nat × Instr × Nat) := [(0, .iload_n 1, 1), (1, .invokestatic 163, 3), (4, .ifCond .eq 11, 3), (7, .aload_n 0, 1), (8, .iload_n 1, 1), (9, .invokevirtual 166, 3), (12, .goto 4, 3), (15, .iconst (-1), 1), (16, .ireturn, 1)]
set_option maxRecDepth 20000 in
theorem dt_X11_at : ∀ q ∈ dl_X11_at, decode prog_13_method_28_code q.1 = .ok q.2 := by decide +kernel
def f_X11_at (x1 : Int32) (h : Hp) : Option Int32 :=
  (f_X11_isSeat x1).bind fun v1 =>
  if v1 = true then
  (f_X11_onSeat x1 h).bind fun v4 =>
  some v4
  else
  some (-1 : Int32)
set_option maxRecDepth 20000 in
theorem w_X11_at (x1 : Int32) (h : Hp) (q : Int32)  (hrun : f_X11_at x1 h = some q) : MetA ⟨"SteamNationsModel", "at", "(I)I"⟩ prog_13_method_28_code 2 (some .int) 3 0 0 [.ref 81, .int x1] h (some (.int q)) h := by
  refine metA_of (by decide) (Nat.le_of_ble_eq_true rfl) (fun X C K => ?_)
  have C : Cx X cn_11 prog_13_method_28_code 2 (some .int) 3 0 0 := C
  show G X h 0 0 0 [(0, .ref 81), (1, .int x1)] []
  unfold f_X11_at at hrun
  refine g_iload_n C (dat dt_X11_at 0 rfl) 1 rfl ?_
  obtain ⟨v1, q2, hrun⟩ := bd hrun
  refine g_cSi [.int x1] C (dat dt_X11_at 1 rfl) ml_11_163 (w_X11_isSeat x1 h v1  q2) rfl rfl cat0 (by decide) c00 ?_
  refine g_if_eq 15 C (dat dt_X11_at 2 rfl) (by decide) (fun c3 => ?_) (fun c3 => ?_)
  · rw [if_neg (b2i_z c3)] at hrun
    refine g_iconst C (dat dt_X11_at 7 rfl) ic_m1 ?_
    cases hrun
    exact g_iret C K (dat dt_X11_at 8 rfl)
  · rw [if_pos (b2i_nz c3)] at hrun
    refine g_aload_n C (dat dt_X11_at 3 rfl) 0 rfl ?_
    refine g_iload_n C (dat dt_X11_at 4 rfl) 1 rfl ?_
    obtain ⟨v4, q5, hrun⟩ := bd hrun
    refine g_cVi [.int x1] C (dat dt_X11_at 5 rfl) ml_11_166 (w_X11_onSeat x1 h v4  q5) kd_81 ltk_81 rfl rfl cat0 (by decide) c00 ?_
    refine g_goto 16 C (dat dt_X11_at 6 rfl) (by decide) ?_
    cases hrun
    exact g_iret C K (dat dt_X11_at 8 rfl)
/-! SteamNationsModel.areBeside(II)Z -/
def dl_X11_areBeside : List (Nat × Instr × Nat) := [(0, .iload_n 0, 1), (1, .iload_n 1, 1), (2, .if_icmp .le 9, 3), (5, .iload_n 0, 1), (6, .iload_n 1, 1), (7, .isub, 1), (8, .goto 6, 3), (11, .iload_n 1, 1), (12, .iload_n 0, 1), (13, .isub, 1), (14, .istore_n 2, 1), (15, .iload_n 2, 1), (16, .iconst 3, 1), (17, .if_icmp .eq 17, 3), (20, .iload_n 2, 1), (21, .iconst 1, 1), (22, .if_icmp .ne 16, 3), (25, .iload_n 0, 1), (26, .iconst 3, 1), (27, .idiv, 1), (28, .iload_n 1, 1), (29, .iconst 3, 1), (30, .idiv, 1), (31, .if_icmp .ne 7, 3), (34, .iconst 1, 1), (35, .goto 4, 3), (38, .iconst 0, 1), (39, .ireturn, 1)]
set_option maxRecDepth 20000 in
theorem dt_X11_areBeside : ∀ q ∈ dl_X11_areBeside, decode prog_13_method_11_code q.1 = .ok q.2 := by decide +kernel
def j_X11_areBeside_14  (x0 : Int32) (x1 : Int32) (s0 : Int32) : Option Bool :=
  if s0 = (3 : Int32) then
  some true
  else
  if s0 = (1 : Int32) then
  if (x0 / (3 : Int32)) = (x1 / (3 : Int32)) then
  some true
  else
  some false
  else
  some false
set_option maxRecDepth 20000 in
theorem wj_X11_areBeside_14 {X : Xt} (C : Cx X cn_11 prog_13_method_11_code 3 (some .boolean) 1 0 0)    (x0 : Int32) (x1 : Int32) (s0 : Int32) (h : Hp) (q : Bool) (hrun : j_X11_areBeside_14  x0 x1 s0 = some q) (K : EndQ X 0 0 (some (.int (b2i q))) h) : G X h 0 0 14 [(0, .int x0), (1, .int x1)] [.int s0] := by
  unfold j_X11_areBeside_14 at hrun
  refine g_istore_n (lv' := [(0, .int x0), (1, .int x1), (2, .int s0)]) C (dat dt_X11_areBeside 10 rfl) (by decide) rfl ?_
  refine g_iload_n C (dat dt_X11_areBeside 11 rfl) 2 rfl ?_
  refine g_iconst C (dat dt_X11_areBeside 12 rfl) ic_3 ?_
  refine g_ic_eq 34 C (dat dt_X11_areBeside 13 rfl) (by decide) (fun c2 => ?_) (fun c2 => ?_)
  · rw [if_pos c2] at hrun
    refine g_iconst C (dat dt_X11_areBeside 24 rfl) ic_1 ?_
    refine g_goto 39 C (dat dt_X11_areBeside 25 rfl) (by decide) ?_
    cases hrun
    exact g_zret C K (show (1 : Int32) = b2i true by decide) (dat dt_X11_areBeside 27 rfl)
  · rw [if_neg c2] at hrun
    refine g_iload_n C (dat dt_X11_areBeside 14 rfl) 2 rfl ?_
    refine g_iconst C (dat dt_X11_areBeside 15 rfl) ic_1 ?_
    refine g_ic_ne 38 C (dat dt_X11_areBeside 16 rfl) (by decide) (fun c3 => ?_) (fun c3 => ?_)
    · rw [if_neg c3] at hrun
      refine g_iconst C (dat dt_X11_areBeside 26 rfl) ic_0 ?_
      cases hrun
      exact g_zret C K (show (0 : Int32) = b2i false by decide) (dat dt_X11_areBeside 27 rfl)
    · rw [if_pos c3] at hrun
      refine g_iload_n C (dat dt_X11_areBeside 17 rfl) 0 rfl ?_
      refine g_iconst C (dat dt_X11_areBeside 18 rfl) ic_3 ?_
      refine g_idiv C (dat dt_X11_areBeside 19 rfl) (by decide) ?_
      refine g_iload_n C (dat dt_X11_areBeside 20 rfl) 1 rfl ?_
      refine g_iconst C (dat dt_X11_areBeside 21 rfl) ic_3 ?_
      refine g_idiv C (dat dt_X11_areBeside 22 rfl) (by decide) ?_
      refine g_ic_ne 38 C (dat dt_X11_areBeside 23 rfl) (by decide) (fun c4 => ?_) (fun c4 => ?_)
      · rw [if_neg c4] at hrun
        refine g_iconst C (dat dt_X11_areBeside 26 rfl) ic_0 ?_
        cases hrun
        exact g_zret C K (show (0 : Int32) = b2i false by decide) (dat dt_X11_areBeside 27 rfl)
      · rw [if_pos c4] at hrun
        refine g_iconst C (dat dt_X11_areBeside 24 rfl) ic_1 ?_
        refine g_goto 39 C (dat dt_X11_areBeside 25 rfl) (by decide) ?_
        cases hrun
        exact g_zret C K (show (1 : Int32) = b2i true by decide) (dat dt_X11_areBeside 27 rfl)
def f_X11_areBeside (x0 : Int32) (x1 : Int32) : Option Bool :=
  if x0 ≤ x1 then
  j_X11_areBeside_14  x0 x1 (x1 - x0)
  else
  j_X11_areBeside_14  x0 x1 (x0 - x1)
set_option maxRecDepth 20000 in
theorem w_X11_areBeside (x0 : Int32) (x1 : Int32) (h : Hp) (q : Bool)  (hrun : f_X11_areBeside x0 x1 = some q) : MetA ⟨"SteamNationsModel", "areBeside", "(II)Z"⟩ prog_13_method_11_code 3 (some .boolean) 1 0 0 [.int x0, .int x1] h (some (.int (b2i q))) h := by
  refine metA_of (by decide) (Nat.le_of_ble_eq_true rfl) (fun X C K => ?_)
  have C : Cx X cn_11 prog_13_method_11_code 3 (some .boolean) 1 0 0 := C
  show G X h 0 0 0 [(0, .int x0), (1, .int x1)] []
  unfold f_X11_areBeside at hrun
  refine g_iload_n C (dat dt_X11_areBeside 0 rfl) 0 rfl ?_
  refine g_iload_n C (dat dt_X11_areBeside 1 rfl) 1 rfl ?_
  refine g_ic_le 11 C (dat dt_X11_areBeside 2 rfl) (by decide) (fun c1 => ?_) (fun c1 => ?_)
  · rw [if_pos c1] at hrun
    refine g_iload_n C (dat dt_X11_areBeside 7 rfl) 1 rfl ?_
    refine g_iload_n C (dat dt_X11_areBeside 8 rfl) 0 rfl ?_
    refine g_isub C (dat dt_X11_areBeside 9 rfl) ?_
    exact wj_X11_areBeside_14 C    x0 x1 (x1 - x0) h _ hrun K
  · rw [if_neg c1] at hrun
    refine g_iload_n C (dat dt_X11_areBeside 3 rfl) 0 rfl ?_
    refine g_iload_n C (dat dt_X11_areBeside 4 rfl) 1 rfl ?_
    refine g_isub C (dat dt_X11_areBeside 5 rfl) ?_
    refine g_goto 14 C (dat dt_X11_areBeside 6 rfl) (by decide) ?_
    exact wj_X11_areBeside_14 C    x0 x1 (x0 - x1) h _ hrun K
/-! SteamNationsModel.isTerm(II)Z -/
def dl_X11_isTerm : List (Nat × Instr × Nat) := [(0, .iload_n 0, 1), (1, .tableswitch 52 0 2 #[27, 36, 44], 27), (28, .iload_n 1, 1), (29, .iconst 0, 1), (30, .sipush 999, 3), (33, .invokestatic 18, 3), (36, .ireturn, 1), (37, .iload_n 1, 1), (38, .iconst 0, 1), (39, .bipush 10, 2), (41, .invokestatic 18, 3), (44, .ireturn, 1), (45, .iload_n 1, 1), (46, .iconst 0, 1), (47, .bipush 9, 2), (49, .invokestatic 18, 3), (52, .ireturn, 1), (53, .iconst 0, 1), (54, .ireturn, 1)]
set_option maxRecDepth 20000 in
theorem dt_X11_isTerm : ∀ q ∈ dl_X11_isTerm, decode prog_13_method_30_code q.1 = .ok q.2 := by decide +kernel
def f_X11_isTerm (x0 : Int32) (x1 : Int32) : Option Bool :=
  if x0.toInt < (0 : Int) ∨ (2 : Int) < x0.toInt then
  some false
  else if (x0.toInt - (0 : Int)).toNat = 0 then
  (f_X11_lies x1 (0 : Int32) (999 : Int32)).bind fun v4 =>
  some v4
  else if (x0.toInt - (0 : Int)).toNat = 1 then
  (f_X11_lies x1 (0 : Int32) (10 : Int32)).bind fun v6 =>
  some v6
  else if (x0.toInt - (0 : Int)).toNat = 2 then
  (f_X11_lies x1 (0 : Int32) (9 : Int32)).bind fun v8 =>
  some v8
  else none
set_option maxRecDepth 20000 in
theorem w_X11_isTerm (x0 : Int32) (x1 : Int32) (h : Hp) (q : Bool)  (hrun : f_X11_isTerm x0 x1 = some q) : MetA ⟨"SteamNationsModel", "isTerm", "(II)Z"⟩ prog_13_method_30_code 2 (some .boolean) 2 0 0 [.int x0, .int x1] h (some (.int (b2i q))) h := by
  refine metA_of (by decide) (Nat.le_of_ble_eq_true rfl) (fun X C K => ?_)
  have C : Cx X cn_11 prog_13_method_30_code 2 (some .boolean) 2 0 0 := C
  show G X h 0 0 0 [(0, .int x0), (1, .int x1)] []
  unfold f_X11_isTerm at hrun
  refine g_iload_n C (dat dt_X11_isTerm 0 rfl) 0 rfl ?_
  by_cases c1 : x0.toInt < (0 : Int) ∨ (2 : Int) < x0.toInt
  · rw [if_pos c1] at hrun
    refine g_tabO 53 C (dat dt_X11_isTerm 1 rfl) c1 (by decide) ?_
    refine g_iconst C (dat dt_X11_isTerm 17 rfl) ic_0 ?_
    cases hrun
    exact g_zret C K (show (0 : Int32) = b2i false by decide) (dat dt_X11_isTerm 18 rfl)
  · rw [if_neg c1] at hrun
    by_cases c12 : (x0.toInt - (0 : Int)).toNat = 0
    · rw [if_pos c12] at hrun
      refine g_tabI 28 C (dat dt_X11_isTerm 1 rfl) c1 c12.symm rfl (by decide) ?_
      refine g_iload_n C (dat dt_X11_isTerm 2 rfl) 1 rfl ?_
      refine g_iconst C (dat dt_X11_isTerm 3 rfl) ic_0 ?_
      refine g_sipush C (dat dt_X11_isTerm 4 rfl) sp_999 ?_
      obtain ⟨v4, q5, hrun⟩ := bd hrun
      refine g_cSi [.int x1, .int (0 : Int32), .int (999 : Int32)] C (dat dt_X11_isTerm 5 rfl) ml_11_18 (w_X11_lies x1 (0 : Int32) (999 : Int32) h v4  q5) rfl rfl cat0 (by decide) c00 ?_
      cases hrun
      exact g_zret C K rfl (dat dt_X11_isTerm 6 rfl)
    · rw [if_neg c12] at hrun
      by_cases c11 : (x0.toInt - (0 : Int)).toNat = 1
      · rw [if_pos c11] at hrun
        refine g_tabI 37 C (dat dt_X11_isTerm 1 rfl) c1 c11.symm rfl (by decide) ?_
        refine g_iload_n C (dat dt_X11_isTerm 7 rfl) 1 rfl ?_
        refine g_iconst C (dat dt_X11_isTerm 8 rfl) ic_0 ?_
        refine g_bipush C (dat dt_X11_isTerm 9 rfl) bp_10 ?_
        obtain ⟨v6, q7, hrun⟩ := bd hrun
        refine g_cSi [.int x1, .int (0 : Int32), .int (10 : Int32)] C (dat dt_X11_isTerm 10 rfl) ml_11_18 (w_X11_lies x1 (0 : Int32) (10 : Int32) h v6  q7) rfl rfl cat0 (by decide) c00 ?_
        cases hrun
        exact g_zret C K rfl (dat dt_X11_isTerm 11 rfl)
      · rw [if_neg c11] at hrun
        by_cases c10 : (x0.toInt - (0 : Int)).toNat = 2
        · rw [if_pos c10] at hrun
          refine g_tabI 45 C (dat dt_X11_isTerm 1 rfl) c1 c10.symm rfl (by decide) ?_
          refine g_iload_n C (dat dt_X11_isTerm 12 rfl) 1 rfl ?_
          refine g_iconst C (dat dt_X11_isTerm 13 rfl) ic_0 ?_
          refine g_bipush C (dat dt_X11_isTerm 14 rfl) bp_9 ?_
          obtain ⟨v8, q9, hrun⟩ := bd hrun
          refine g_cSi [.int x1, .int (0 : Int32), .int (9 : Int32)] C (dat dt_X11_isTerm 15 rfl) ml_11_18 (w_X11_lies x1 (0 : Int32) (9 : Int32) h v8  q9) rfl rfl cat0 (by decide) c00 ?_
          cases hrun
          exact g_zret C K rfl (dat dt_X11_isTerm 16 rfl)
        · rw [if_neg c10] at hrun
          cases hrun
/-! SteamNationsModel.termAt(I)I -/
def dl_X11_termAt : List (Nat × Instr × Nat) := [(0, .iload_n 0, 1), (1, .ifCond .ne 8, 3), (4, .bipush 24, 2), (6, .goto 15, 3), (9, .iload_n 0, 1), (10, .iconst 1, 1), (11, .if_icmp .ne 8, 3), (14, .bipush 49, 2), (16, .goto 5, 3), (19, .bipush 50, 2), (21, .ireturn, 1)]
set_option maxRecDepth 20000 in
theorem dt_X11_termAt : ∀ q ∈ dl_X11_termAt, decode prog_13_method_31_code q.1 = .ok q.2 := by decide +kernel
def f_X11_termAt (x0 : Int32) : Option Int32 :=
  if x0 = 0 then
  some (24 : Int32)
  else
  if x0 = (1 : Int32) then
  some (49 : Int32)
  else
  some (50 : Int32)
set_option maxRecDepth 20000 in
theorem w_X11_termAt (x0 : Int32) (h : Hp) (q : Int32)  (hrun : f_X11_termAt x0 = some q) : MetA ⟨"SteamNationsModel", "termAt", "(I)I"⟩ prog_13_method_31_code 1 (some .int) 1 0 0 [.int x0] h (some (.int q)) h := by
  refine metA_of (by decide) (Nat.le_of_ble_eq_true rfl) (fun X C K => ?_)
  have C : Cx X cn_11 prog_13_method_31_code 1 (some .int) 1 0 0 := C
  show G X h 0 0 0 [(0, .int x0)] []
  unfold f_X11_termAt at hrun
  refine g_iload_n C (dat dt_X11_termAt 0 rfl) 0 rfl ?_
  refine g_if_ne 9 C (dat dt_X11_termAt 1 rfl) (by decide) (fun c1 => ?_) (fun c1 => ?_)
  · rw [if_neg c1] at hrun
    refine g_iload_n C (dat dt_X11_termAt 4 rfl) 0 rfl ?_
    refine g_iconst C (dat dt_X11_termAt 5 rfl) ic_1 ?_
    refine g_ic_ne 19 C (dat dt_X11_termAt 6 rfl) (by decide) (fun c2 => ?_) (fun c2 => ?_)
    · rw [if_neg c2] at hrun
      refine g_bipush C (dat dt_X11_termAt 9 rfl) bp_50 ?_
      cases hrun
      exact g_iret C K (dat dt_X11_termAt 10 rfl)
    · rw [if_pos c2] at hrun
      refine g_bipush C (dat dt_X11_termAt 7 rfl) bp_49 ?_
      refine g_goto 21 C (dat dt_X11_termAt 8 rfl) (by decide) ?_
      cases hrun
      exact g_iret C K (dat dt_X11_termAt 10 rfl)
  · rw [if_pos c1] at hrun
    refine g_bipush C (dat dt_X11_termAt 2 rfl) bp_24 ?_
    refine g_goto 21 C (dat dt_X11_termAt 3 rfl) (by decide) ?_
    cases hrun
    exact g_iret C K (dat dt_X11_termAt 10 rfl)
/-! SteamNationsModel.terms(II)I -/
def dl_X11_terms : List (Nat × Instr × Nat) := [(0, .iload_n 1, 1), (1, .iload_n 2, 1), (2, .invokestatic 176, 3), (5, .ifCond .ne 9, 3), (8, .aload_n 0, 1), (9, .iconst (-1), 1), (10, .invokevirtual 121, 3), (13, .ireturn, 1), (14, .aload_n 0, 1), (15, .getfield 28, 3), (18, .iload_n 1, 1), (19, .invokestatic 179, 3), (22, .iaload, 1), (23, .istore_n 3, 1), (24, .aload_n 0, 1), (25, .getfield 28, 3), (28, .iload_n 1, 1), (29, .invokestatic 179, 3), (32, .iload_n 2, 1), (33, .iastore, 1), (34, .aload_n 0, 1), (35, .iload_n 3, 1), (36, .invokevirtual 124, 3), (39, .ireturn, 1)]
set_option maxRecDepth 20000 in
theorem dt_X11_terms : ∀ q ∈ dl_X11_terms, decode prog_13_method_32_code q.1 = .ok q.2 := by decide +kernel
def f_X11_terms (x1 : Int32) (x2 : Int32) (h : Hp) : Option (Int32 × Hp) :=
  (f_X11_isTerm x1 x2).bind fun v1 =>
  if v1 = true then
  (f_X11_termAt x1).bind fun v4 =>
  (inb v4 5662).bind fun j6 =>
  (f_X11_termAt x1).bind fun v8 =>
  (inb v8 5662).bind fun j10 =>
  (f_X11_settled (aI h 83 j6) (sA h 83 j10 x2)).bind fun v12 =>
  some (v12.1, v12.2)
  else
  (f_X11_refuses (-1 : Int32) h).bind fun v14 =>
  some (v14.1, v14.2)
set_option maxRecDepth 20000 in
theorem w_X11_terms (x1 : Int32) (x2 : Int32) (h : Hp) (q : (Int32 × Hp))  (hrun : f_X11_terms x1 x2 h = some q) : MetA ⟨"SteamNationsModel", "terms", "(II)I"⟩ prog_13_method_32_code 4 (some .int) 3 0 0 [.ref 81, .int x1, .int x2] h (some (.int q.1)) q.2 := by
  refine metA_of (by decide) (Nat.le_of_ble_eq_true rfl) (fun X C K => ?_)
  have C : Cx X cn_11 prog_13_method_32_code 4 (some .int) 3 0 0 := C
  show G X h 0 0 0 [(0, .ref 81), (1, .int x1), (2, .int x2)] []
  unfold f_X11_terms at hrun
  refine g_iload_n C (dat dt_X11_terms 0 rfl) 1 rfl ?_
  refine g_iload_n C (dat dt_X11_terms 1 rfl) 2 rfl ?_
  obtain ⟨v1, q2, hrun⟩ := bd hrun
  refine g_cSi [.int x1, .int x2] C (dat dt_X11_terms 2 rfl) ml_11_176 (w_X11_isTerm x1 x2 h v1  q2) rfl rfl cat0 (by decide) c00 ?_
  refine g_if_ne 14 C (dat dt_X11_terms 3 rfl) (by decide) (fun c3 => ?_) (fun c3 => ?_)
  · rw [if_pos (b2i_nz c3)] at hrun
    refine g_aload_n C (dat dt_X11_terms 8 rfl) 0 rfl ?_
    refine g_getR C (dat dt_X11_terms 9 rfl) fl_11_28 kd_81 rfl ltk_81 ?_
    refine g_iload_n C (dat dt_X11_terms 10 rfl) 1 rfl ?_
    obtain ⟨v4, q5, hrun⟩ := bd hrun
    refine g_cSi [.int x1] C (dat dt_X11_terms 11 rfl) ml_11_179 (w_X11_termAt x1 h v4  q5) rfl rfl (Nat.le_of_ble_eq_true rfl) (by decide) c00 ?_
    obtain ⟨j6, q7, hrun⟩ := bd hrun
    refine g_iald C (dat dt_X11_terms 12 rfl) kd_83 ltk_83 q7 ?_
    refine g_istore_n (lv' := [(0, .ref 81), (1, .int x1), (2, .int x2), (3, .int (aI h 83 j6))]) C (dat dt_X11_terms 13 rfl) (by decide) rfl ?_
    refine g_aload_n C (dat dt_X11_terms 14 rfl) 0 rfl ?_
    refine g_getR C (dat dt_X11_terms 15 rfl) fl_11_28 kd_81 rfl ltk_81 ?_
    refine g_iload_n C (dat dt_X11_terms 16 rfl) 1 rfl ?_
    obtain ⟨v8, q9, hrun⟩ := bd hrun
    refine g_cSi [.int x1] C (dat dt_X11_terms 17 rfl) ml_11_179 (w_X11_termAt x1 h v8  q9) rfl rfl (Nat.le_of_ble_eq_true rfl) (by decide) c00 ?_
    refine g_iload_n C (dat dt_X11_terms 18 rfl) 2 rfl ?_
    obtain ⟨j10, q11, hrun⟩ := bd hrun
    refine g_iast (j := j10) C (dat dt_X11_terms 19 rfl) kd_83 ltk_83 q11  ?_
    refine g_aload_n C (dat dt_X11_terms 20 rfl) 0 rfl ?_
    refine g_iload_n C (dat dt_X11_terms 21 rfl) 3 rfl ?_
    obtain ⟨v12, q13, hrun⟩ := bd hrun
    refine g_cVi [.int (aI h 83 j6)] C (dat dt_X11_terms 22 rfl) ml_11_124 (w_X11_settled (aI h 83 j6) (sA h 83 j10 x2) v12  q13) kd_81 ltk_81 rfl rfl cat0 (by decide) c00 ?_
    cases hrun
    exact g_iret C K (dat dt_X11_terms 23 rfl)
  · rw [if_neg (b2i_z c3)] at hrun
    refine g_aload_n C (dat dt_X11_terms 4 rfl) 0 rfl ?_
    refine g_iconst C (dat dt_X11_terms 5 rfl) ic_m1 ?_
    obtain ⟨v14, q15, hrun⟩ := bd hrun
    refine g_cVi [.int (-1 : Int32)] C (dat dt_X11_terms 6 rfl) ml_11_121 (w_X11_refuses (-1 : Int32) h v14  q15) kd_81 ltk_81 rfl rfl cat0 (by decide) c00 ?_
    cases hrun
    exact g_iret C K (dat dt_X11_terms 7 rfl)
/-! SteamNationsModel.feed(IIIII)I -/
def dl_X11_feed : List (Nat × Instr × Nat) := [(0, .aload_n 0, 1), (1, .getfield 182, 3), (4, .bipush 20, 2), (6, .iadd, 1), (7, .sipush 400, 3), (10, .if_icmp .le 5, 3), (13, .iconst (-1), 1), (14, .ireturn, 1), (15, .aload_n 0, 1), (16, .getfield 48, 3), (19, .iconst 0, 1), (20, .iload_n 1, 1), (21, .iastore, 1), (22, .aload_n 0, 1), (23, .getfield 48, 3), (26, .iconst 1, 1), (27, .iload_n 2, 1), (28, .iastore, 1), (29, .aload_n 0, 1), (30, .getfield 48, 3), (33, .iconst 2, 1), (34, .iload_n 3, 1), (35, .iastore, 1), (36, .aload_n 0, 1), (37, .getfield 48, 3), (40, .iconst 3, 1), (41, .iload 4, 2), (43, .iastore, 1), (44, .aload_n 0, 1), (45, .getfield 48, 3), (48, .iconst 4, 1), (49, .iload 5, 2), (51, .iastore, 1), (52, .iconst 0, 1), (53, .istore 6, 2), (55, .iload 6, 2), (57, .bipush 20, 2), (59, .if_icmp .ge 42, 3), (62, .aload_n 0, 1), (63, .getfield 45, 3), (66, .aload_n 0, 1), (67, .getfield 182, 3), (70, .iload 6, 2), (72, .iadd, 1), (73, .aload_n 0, 1), (74, .getfield 48, 3), (77, .iload 6, 2), (79, .iconst 4, 1), (80, .idiv, 1), (81, .iaload, 1), (82, .bipush 24, 2), (84, .bipush 8, 2), (86, .iload 6, 2), (88, .iconst 4, 1), (89, .irem, 1), (90, .imul, 1), (91, .isub, 1), (92, .ishr, 1), (93, .i2b, 1), (94, .bastore, 1), (95, .iinc 6 1, 3), (98, .goto (-43), 3), (101, .aload_n 0, 1), (102, .dup, 1), (103, .getfield 182, 3), (106, .bipush 20, 2), (108, .iadd, 1), (109, .putfield 182, 3), (112, .aload_n 0, 1), (113, .getfield 182, 3), (116, .ireturn, 1)]
set_option maxRecDepth 20000 in
theorem dt_X11_feed : ∀ q ∈ dl_X11_feed, decode prog_13_method_35_code q.1 = .ok q.2 := by decide +kernel
def kp_X11_feed_55   (X : Xt) (s : (Int32 × Hp)) : Prop := G X s.2 0 0 55 [(0, .ref 81), (6, .int s.1)] []
def ke_X11_feed_55   (X : Xt) (e : Hp) : Prop := G X e 0 0 101 [(0, .ref 81)] []
def b_X11_feed_55   (x6 : Int32) (h : Hp) : Option ((Int32 × Hp) ⊕ Hp) :=
  if (20 : Int32) ≤ x6 then
  some (.inr ( h))
  else
  (inb (x6 / (4 : Int32)) 5).bind fun j13 =>
  (inb ((fI h 81 13) + x6) 400).bind fun j15 =>
  some (.inl ((x6 + (1 : Int32)), (sA h 88 j15 ((aI h 89 j13) >>> (((24 : Int32) - ((8 : Int32) * (x6 - x6 / (4 : Int32) * (4 : Int32)))) &&& 31)).toInt8.toInt32.toInt8.toInt32)))
set_option maxRecDepth 20000 in
theorem wb_X11_feed_55 {X : Xt} (C : Cx X cn_11 prog_13_method_35_code 7 (some .int) 1 0 0)    (x6 : Int32) (h : Hp) (q : (Int32 × Hp) ⊕ Hp) (hrun : b_X11_feed_55   x6 h = some q) (Ks : ∀ s, q = .inl s → kp_X11_feed_55   X s) (Ke : ∀ e, q = .inr e → ke_X11_feed_55   X e) : kp_X11_feed_55   X (x6, h) := by
  show G X h 0 0 55 [(0, .ref 81), (6, .int x6)] []
  unfold b_X11_feed_55 at hrun
  refine g_iload C (dat dt_X11_feed 35 rfl) 1 rfl ?_
  refine g_bipush C (dat dt_X11_feed 36 rfl) bp_20 ?_
  refine g_ic_ge 101 C (dat dt_X11_feed 37 rfl) (by decide) (fun c12 => ?_) (fun c12 => ?_)
  · rw [if_pos c12] at hrun
    refine g_sub [0] (lv' := [(0, .ref 81)]) rfl ?_
    cases hrun
    exact Ke ( h) rfl
  · rw [if_neg c12] at hrun
    refine g_aload_n C (dat dt_X11_feed 38 rfl) 0 rfl ?_
    refine g_getR C (dat dt_X11_feed 39 rfl) fl_11_45 kd_81 rfl ltk_81 ?_
    refine g_aload_n C (dat dt_X11_feed 40 rfl) 0 rfl ?_
    refine g_getI C (dat dt_X11_feed 41 rfl) fl_11_182 kd_81 rfl ltk_81 ?_
    refine g_iload C (dat dt_X11_feed 42 rfl) 1 rfl ?_
    refine g_iadd C (dat dt_X11_feed 43 rfl) ?_
    refine g_aload_n C (dat dt_X11_feed 44 rfl) 0 rfl ?_
    refine g_getR C (dat dt_X11_feed 45 rfl) fl_11_48 kd_81 rfl ltk_81 ?_
    refine g_iload C (dat dt_X11_feed 46 rfl) 1 rfl ?_
    refine g_iconst C (dat dt_X11_feed 47 rfl) ic_4 ?_
    refine g_idiv C (dat dt_X11_feed 48 rfl) (by decide) ?_
    obtain ⟨j13, q14, hrun⟩ := bd hrun
    refine g_iald C (dat dt_X11_feed 49 rfl) kd_89 ltk_89 q14 ?_
    refine g_bipush C (dat dt_X11_feed 50 rfl) bp_24 ?_
    refine g_bipush C (dat dt_X11_feed 51 rfl) bp_8 ?_
    refine g_iload C (dat dt_X11_feed 52 rfl) 1 rfl ?_
    refine g_iconst C (dat dt_X11_feed 53 rfl) ic_4 ?_
    refine g_irem C (dat dt_X11_feed 54 rfl) (by decide) ?_
    refine g_imul C (dat dt_X11_feed 55 rfl) ?_
    refine g_isub C (dat dt_X11_feed 56 rfl) ?_
    refine g_ishr C (dat dt_X11_feed 57 rfl) ?_
    refine g_i2b C (dat dt_X11_feed 58 rfl) ?_
    obtain ⟨j15, q16, hrun⟩ := bd hrun
    refine g_bast (j := j15) C (dat dt_X11_feed 59 rfl) kd_88 ltk_88 q16  ?_
    refine g_iinc (v := (x6 + (1 : Int32))) (lv' := [(0, .ref 81), (6, .int (x6 + (1 : Int32)))]) C (dat dt_X11_feed 60 rfl) 1 rfl (congrArg (fun z => x6 + z) ic_1) (by decide) rfl ?_
    refine g_goto 55 C (dat dt_X11_feed 61 rfl) (by decide) ?_
    cases hrun
    exact Ks ((x6 + (1 : Int32)), (sA h 88 j15 ((aI h 89 j13) >>> (((24 : Int32) - ((8 : Int32) * (x6 - x6 / (4 : Int32) * (4 : Int32)))) &&& 31)).toInt8.toInt32.toInt8.toInt32)) rfl
def f_X11_feed (x1 : Int32) (x2 : Int32) (x3 : Int32) (x4 : Int32) (x5 : Int32) (h : Hp) : Option (Int32 × Hp) :=
  if ((fI h 81 13) + (20 : Int32)) ≤ (400 : Int32) then
  (lp (fun s => b_X11_feed_55   s.1 s.2) FU ((0 : Int32), (sA (sA (sA (sA (sA h 89 0 x1) 89 1 x2) 89 2 x3) 89 3 x4) 89 4 x5))).bind fun e17 =>
  some ((fI (sF e17 81 13 ((fI e17 81 13) + (20 : Int32))) 81 13), (sF e17 81 13 ((fI e17 81 13) + (20 : Int32))))
  else
  some ((-1 : Int32), h)
set_option maxRecDepth 20000 in
theorem w_X11_feed (x1 : Int32) (x2 : Int32) (x3 : Int32) (x4 : Int32) (x5 : Int32) (h : Hp) (q : (Int32 × Hp))  (hrun : f_X11_feed x1 x2 x3 x4 x5 h = some q) : MetA ⟨"SteamNationsModel", "feed", "(IIIII)I"⟩ prog_13_method_35_code 7 (some .int) 1 0 0 [.ref 81, .int x1, .int x2, .int x3, .int x4, .int x5] h (some (.int q.1)) q.2 := by
  refine metA_of (by decide) (Nat.le_of_ble_eq_true rfl) (fun X C K => ?_)
  have C : Cx X cn_11 prog_13_method_35_code 7 (some .int) 1 0 0 := C
  show G X h 0 0 0 [(0, .ref 81), (1, .int x1), (2, .int x2), (3, .int x3), (4, .int x4), (5, .int x5)] []
  unfold f_X11_feed at hrun
  refine g_aload_n C (dat dt_X11_feed 0 rfl) 0 rfl ?_
  refine g_getI C (dat dt_X11_feed 1 rfl) fl_11_182 kd_81 rfl ltk_81 ?_
  refine g_bipush C (dat dt_X11_feed 2 rfl) bp_20 ?_
  refine g_iadd C (dat dt_X11_feed 3 rfl) ?_
  refine g_sipush C (dat dt_X11_feed 4 rfl) sp_400 ?_
  refine g_ic_le 15 C (dat dt_X11_feed 5 rfl) (by decide) (fun c1 => ?_) (fun c1 => ?_)
  · rw [if_pos c1] at hrun
    refine g_aload_n C (dat dt_X11_feed 8 rfl) 0 rfl ?_
    refine g_getR C (dat dt_X11_feed 9 rfl) fl_11_48 kd_81 rfl ltk_81 ?_
    refine g_iconst C (dat dt_X11_feed 10 rfl) ic_0 ?_
    refine g_iload_n C (dat dt_X11_feed 11 rfl) 1 rfl ?_
    refine g_iast (j := 0) C (dat dt_X11_feed 12 rfl) kd_89 ltk_89 (show inb (0 : Int32) 5 = some 0 by decide)  ?_
    refine g_aload_n C (dat dt_X11_feed 13 rfl) 0 rfl ?_
    refine g_getR C (dat dt_X11_feed 14 rfl) fl_11_48 kd_81 rfl ltk_81 ?_
    refine g_iconst C (dat dt_X11_feed 15 rfl) ic_1 ?_
    refine g_iload_n C (dat dt_X11_feed 16 rfl) 2 rfl ?_
    refine g_iast (j := 1) C (dat dt_X11_feed 17 rfl) kd_89 ltk_89 (show inb (1 : Int32) 5 = some 1 by decide)  ?_
    refine g_aload_n C (dat dt_X11_feed 18 rfl) 0 rfl ?_
    refine g_getR C (dat dt_X11_feed 19 rfl) fl_11_48 kd_81 rfl ltk_81 ?_
    refine g_iconst C (dat dt_X11_feed 20 rfl) ic_2 ?_
    refine g_iload_n C (dat dt_X11_feed 21 rfl) 3 rfl ?_
    refine g_iast (j := 2) C (dat dt_X11_feed 22 rfl) kd_89 ltk_89 (show inb (2 : Int32) 5 = some 2 by decide)  ?_
    refine g_aload_n C (dat dt_X11_feed 23 rfl) 0 rfl ?_
    refine g_getR C (dat dt_X11_feed 24 rfl) fl_11_48 kd_81 rfl ltk_81 ?_
    refine g_iconst C (dat dt_X11_feed 25 rfl) ic_3 ?_
    refine g_iload C (dat dt_X11_feed 26 rfl) 4 rfl ?_
    refine g_iast (j := 3) C (dat dt_X11_feed 27 rfl) kd_89 ltk_89 (show inb (3 : Int32) 5 = some 3 by decide)  ?_
    refine g_aload_n C (dat dt_X11_feed 28 rfl) 0 rfl ?_
    refine g_getR C (dat dt_X11_feed 29 rfl) fl_11_48 kd_81 rfl ltk_81 ?_
    refine g_iconst C (dat dt_X11_feed 30 rfl) ic_4 ?_
    refine g_iload C (dat dt_X11_feed 31 rfl) 5 rfl ?_
    refine g_iast (j := 4) C (dat dt_X11_feed 32 rfl) kd_89 ltk_89 (show inb (4 : Int32) 5 = some 4 by decide)  ?_
    refine g_iconst C (dat dt_X11_feed 33 rfl) ic_0 ?_
    refine g_istore (lv' := [(0, .ref 81), (1, .int x1), (2, .int x2), (3, .int x3), (4, .int x4), (5, .int x5), (6, .int (0 : Int32))]) C (dat dt_X11_feed 34 rfl) (by decide) rfl ?_
    refine g_sub [0, 6] (lv' := [(0, .ref 81), (6, .int (0 : Int32))]) rfl ?_
    obtain ⟨e17, q18, hrun⟩ := bd hrun
    refine lp_ind (P := fun s => kp_X11_feed_55   X s) (K := fun e => ke_X11_feed_55   X e) (fun s q hb Ks Ke => wb_X11_feed_55 C    s.1 s.2 q hb Ks Ke) FU ((0 : Int32), (sA (sA (sA (sA (sA h 89 0 x1) 89 1 x2) 89 2 x3) 89 3 x4) 89 4 x5)) e17 q18 ?_
    show G X e17 0 0 101 [(0, .ref 81)] []
    refine g_aload_n C (dat dt_X11_feed 62 rfl) 0 rfl ?_
    refine g_dup C (dat dt_X11_feed 63 rfl) rfl ?_
    refine g_getI C (dat dt_X11_feed 64 rfl) fl_11_182 kd_81 rfl ltk_81 ?_
    refine g_bipush C (dat dt_X11_feed 65 rfl) bp_20 ?_
    refine g_iadd C (dat dt_X11_feed 66 rfl) ?_
    refine g_putI C (dat dt_X11_feed 67 rfl) fl_11_182 rfl rfl kd_81 rfl ltk_81 ?_
    refine g_aload_n C (dat dt_X11_feed 68 rfl) 0 rfl ?_
    refine g_getI C (dat dt_X11_feed 69 rfl) fl_11_182 kd_81 rfl ltk_81 ?_
    cases hrun
    exact g_iret C K (dat dt_X11_feed 70 rfl)
  · rw [if_neg c1] at hrun
    refine g_iconst C (dat dt_X11_feed 6 rfl) ic_m1 ?_
    cases hrun
    exact g_iret C K (dat dt_X11_feed 7 rfl)
/-! SteamNationsModel.end(I)I -/
def dl_X11_end : List (Nat × Instr × Nat) := [(0, .iload_n 1, 1), (1, .iconst 0, 1), (2, .aload_n 0, 1), (3, .getfield 182, 3), (6, .invokestatic 18, 3), (9, .ifCond .ne 5, 3), (12, .iconst (-1), 1), (13, .ireturn, 1), (14, .aload_n 0, 1), (15, .iload_n 1, 1), (16, .putfield 182, 3), (19, .iload_n 1, 1), (20, .ireturn, 1)]
set_option maxRecDepth 20000 in
theorem dt_X11_end : ∀ q ∈ dl_X11_end, decode prog_13_method_36_code q.1 = .ok q.2 := by decide +kernel
def f_X11_end (x1 : Int32) (h : Hp) : Option (Int32 × Hp) :=
  (f_X11_lies x1 (0 : Int32) (fI h 81 13)).bind fun v1 =>
  if v1 = true then
  some (x1, (sF h 81 13 x1))
  else
  some ((-1 : Int32), h)
set_option maxRecDepth 20000 in
theorem w_X11_end (x1 : Int32) (h : Hp) (q : (Int32 × Hp))  (hrun : f_X11_end x1 h = some q) : MetA ⟨"SteamNationsModel", "end", "(I)I"⟩ prog_13_method_36_code 2 (some .int) 2 0 0 [.ref 81, .int x1] h (some (.int q.1)) q.2 := by
  refine metA_of (by decide) (Nat.le_of_ble_eq_true rfl) (fun X C K => ?_)
  have C : Cx X cn_11 prog_13_method_36_code 2 (some .int) 2 0 0 := C
  show G X h 0 0 0 [(0, .ref 81), (1, .int x1)] []
  unfold f_X11_end at hrun
  refine g_iload_n C (dat dt_X11_end 0 rfl) 1 rfl ?_
  refine g_iconst C (dat dt_X11_end 1 rfl) ic_0 ?_
  refine g_aload_n C (dat dt_X11_end 2 rfl) 0 rfl ?_
  refine g_getI C (dat dt_X11_end 3 rfl) fl_11_182 kd_81 rfl ltk_81 ?_
  obtain ⟨v1, q2, hrun⟩ := bd hrun
  refine g_cSi [.int x1, .int (0 : Int32), .int (fI h 81 13)] C (dat dt_X11_end 4 rfl) ml_11_18 (w_X11_lies x1 (0 : Int32) (fI h 81 13) h v1  q2) rfl rfl cat0 (by decide) c00 ?_
  refine g_if_ne 14 C (dat dt_X11_end 5 rfl) (by decide) (fun c3 => ?_) (fun c3 => ?_)
  · rw [if_pos (b2i_nz c3)] at hrun
    refine g_aload_n C (dat dt_X11_end 8 rfl) 0 rfl ?_
    refine g_iload_n C (dat dt_X11_end 9 rfl) 1 rfl ?_
    refine g_putI C (dat dt_X11_end 10 rfl) fl_11_182 rfl rfl kd_81 rfl ltk_81 ?_
    refine g_iload_n C (dat dt_X11_end 11 rfl) 1 rfl ?_
    cases hrun
    exact g_iret C K (dat dt_X11_end 12 rfl)
  · rw [if_neg (b2i_z c3)] at hrun
    refine g_iconst C (dat dt_X11_end 6 rfl) ic_m1 ?_
    cases hrun
    exact g_iret C K (dat dt_X11_end 7 rfl)
/-! SteamNationsModel.row()I -/
def dl_X11_row : List (Nat × Instr × Nat) := [(0, .aload_n 0, 1), (1, .getfield 182, 3), (4, .istore_n 1, 1), (5, .aload_n 0, 1), (6, .iconst 0, 1), (7, .putfield 182, 3), (10, .iload_n 1, 1), (11, .ifCond .ne 10, 3), (14, .aload_n 0, 1), (15, .bipush (-6), 2), (17, .invokevirtual 121, 3), (20, .ireturn, 1), (21, .iconst 0, 1), (22, .istore_n 2, 1), (23, .aload_n 0, 1), (24, .iload_n 1, 1), (25, .iconst 4, 1), (26, .irem, 1), (27, .ifCond .ne 7, 3), (30, .iconst 0, 1), (31, .goto 4, 3), (34, .iconst 1, 1), (35, .putfield 185, 3), (38, .iconst 0, 1), (39, .istore_n 3, 1), (40, .iload_n 3, 1), (41, .iconst 4, 1), (42, .iadd, 1), (43, .iload_n 1, 1), (44, .if_icmp .gt 132, 3), (47, .aload_n 0, 1), (48, .invokevirtual 127, 3), (51, .bipush 6, 2), (53, .if_icmp .ge 43, 3), (56, .aload_n 0, 1), (57, .getfield 45, 3), (60, .iload_n 3, 1), (61, .baload, 1), (62, .aload_n 0, 1), (63, .getfield 45, 3), (66, .iload_n 3, 1), (67, .iconst 1, 1), (68, .iadd, 1), (69, .baload, 1), (70, .aload_n 0, 1), (71, .getfield 45, 3), (74, .iload_n 3, 1), (75, .iconst 2, 1), (76, .iadd, 1), (77, .baload, 1), (78, .aload_n 0, 1), (79, .getfield 45, 3), (82, .iload_n 3, 1), (83, .iconst 3, 1), (84, .iadd, 1), (85, .baload, 1), (86, .invokestatic 139, 3), (89, .ifCond .eq 7, 3), (92, .iconst 1, 1), (93, .goto 4, 3), (96, .iconst 0, 1), (97, .istore 4, 2), (99, .iload 4, 2), (101, .ifCond .eq 37, 3), (104, .aload_n 0, 1), (105, .aload_n 0, 1), (106, .getfield 45, 3), (109, .iload_n 3, 1), (110, .baload, 1), (111, .aload_n 0, 1), (112, .getfield 45, 3), (115, .iload_n 3, 1), (116, .iconst 1, 1), (117, .iadd, 1), (118, .baload, 1), (119, .aload_n 0, 1), (120, .getfield 45, 3), (123, .iload_n 3, 1), (124, .iconst 2, 1), (125, .iadd, 1), (126, .baload, 1), (127, .aload_n 0, 1), (128, .getfield 45, 3), (131, .iload_n 3, 1), (132, .iconst 3, 1), (133, .iadd, 1), (134, .baload, 1), (135, .invokevirtual 143, 3), (138, .iload_n 2, 1), (139, .iload 4, 2), (141, .ifCond .eq 7, 3), (144, .iconst 1, 1), (145, .goto 4, 3), (148, .iconst 0, 1), (149, .iadd, 1), (150, .istore_n 2, 1), (151, .aload_n 0, 1), (152, .dup, 1), (153, .getfield 185, 3), (156, .iload 4, 2), (158, .ifCond .eq 7, 3), (161, .iconst 0, 1), (162, .goto 4, 3), (165, .iconst 1, 1), (166, .iadd, 1), (167, .putfield 185, 3), (170, .iinc 3 4, 3), (173, .goto (-133), 3), (176, .aload_n 0, 1), (177, .iload_n 2, 1), (178, .invokevirtual 124, 3), (181, .ireturn, 1)]
set_option maxRecDepth 20000 in
theorem dt_X11_row : ∀ q ∈ dl_X11_row, decode prog_13_method_33_code q.1 = .ok q.2 := by decide +kernel
def kp_X11_row_40  (x1 : Int32) (X : Xt) (s : (Int32 × Int32 × Hp)) : Prop := G X s.2.2 0 0 40 [(0, .ref 81), (1, .int x1), (2, .int s.1), (3, .int s.2.1)] []
def ke_X11_row_40  (x1 : Int32) (X : Xt) (e : (Int32 × Hp)) : Prop := G X e.2 0 0 176 [(0, .ref 81), (2, .int e.1)] []
def j_X11_row_166_40  (x1 : Int32) (x2 : Int32) (x3 : Int32) (s1 : Int32) (s2 : Int32) (h : Hp) : Option ((Int32 × Int32 × Hp) ⊕ (Int32 × Hp)) :=
  some (.inl (x2, (x3 + (4 : Int32)), (sF h 81 6 (s1 + s2))))
set_option maxRecDepth 20000 in
theorem wj_X11_row_166_40 {X : Xt} (C : Cx X cn_11 prog_13_method_33_code 5 (some .int) 4 0 0)    (x1 : Int32) (x2 : Int32) (x3 : Int32) (s1 : Int32) (s2 : Int32) (h : Hp) (q : (Int32 × Int32 × Hp) ⊕ (Int32 × Hp)) (hrun : j_X11_row_166_40  x1 x2 x3 s1 s2 h = some q) (Ks : ∀ s, q = .inl s → kp_X11_row_40  x1 X s) (Ke : ∀ e, q = .inr e → ke_X11_row_40  x1 X e) : G X h 0 0 166 [(0, .ref 81), (1, .int x1), (2, .int x2), (3, .int x3)] [.int s2, .int s1, .ref 81] := by
  unfold j_X11_row_166_40 at hrun
  refine g_iadd C (dat dt_X11_row 104 rfl) ?_
  refine g_putI C (dat dt_X11_row 105 rfl) fl_11_185 rfl rfl kd_81 rfl ltk_81 ?_
  refine g_iinc (v := (x3 + (4 : Int32))) (lv' := [(0, .ref 81), (1, .int x1), (2, .int x2), (3, .int (x3 + (4 : Int32)))]) C (dat dt_X11_row 106 rfl) 3 rfl (congrArg (fun z => x3 + z) ic_4) (by decide) rfl ?_
  refine g_goto 40 C (dat dt_X11_row 107 rfl) (by decide) ?_
  cases hrun
  exact Ks (x2, (x3 + (4 : Int32)), (sF h 81 6 (s1 + s2))) rfl
def j_X11_row_149_40  (x1 : Int32) (x3 : Int32) (x4 : Int32) (s0 : Int32) (s1 : Int32) (h : Hp) : Option ((Int32 × Int32 × Hp) ⊕ (Int32 × Hp)) :=
  if x4 = 0 then
  j_X11_row_166_40  x1 (s0 + s1) x3 (fI h 81 6) (1 : Int32) h
  else
  j_X11_row_166_40  x1 (s0 + s1) x3 (fI h 81 6) (0 : Int32) h
set_option maxRecDepth 20000 in
theorem wj_X11_row_149_40 {X : Xt} (C : Cx X cn_11 prog_13_method_33_code 5 (some .int) 4 0 0)    (x1 : Int32) (x3 : Int32) (x4 : Int32) (s0 : Int32) (s1 : Int32) (h : Hp) (q : (Int32 × Int32 × Hp) ⊕ (Int32 × Hp)) (hrun : j_X11_row_149_40  x1 x3 x4 s0 s1 h = some q) (Ks : ∀ s, q = .inl s → kp_X11_row_40  x1 X s) (Ke : ∀ e, q = .inr e → ke_X11_row_40  x1 X e) : G X h 0 0 149 [(0, .ref 81), (1, .int x1), (3, .int x3), (4, .int x4)] [.int s1, .int s0] := by
  unfold j_X11_row_149_40 at hrun
  refine g_iadd C (dat dt_X11_row 94 rfl) ?_
  refine g_istore_n (lv' := [(0, .ref 81), (1, .int x1), (2, .int (s0 + s1)), (3, .int x3), (4, .int x4)]) C (dat dt_X11_row 95 rfl) (by decide) rfl ?_
  refine g_aload_n C (dat dt_X11_row 96 rfl) 0 rfl ?_
  refine g_dup C (dat dt_X11_row 97 rfl) rfl ?_
  refine g_getI C (dat dt_X11_row 98 rfl) fl_11_185 kd_81 rfl ltk_81 ?_
  refine g_iload C (dat dt_X11_row 99 rfl) 4 rfl ?_
  refine g_if_eq 165 C (dat dt_X11_row 100 rfl) (by decide) (fun c9 => ?_) (fun c9 => ?_)
  · rw [if_pos c9] at hrun
    refine g_iconst C (dat dt_X11_row 103 rfl) ic_1 ?_
    refine g_sub [0, 1, 2, 3] (lv' := [(0, .ref 81), (1, .int x1), (2, .int (s0 + s1)), (3, .int x3)]) rfl ?_
    exact wj_X11_row_166_40 C    x1 (s0 + s1) x3 (fI h 81 6) (1 : Int32) h _ hrun Ks Ke
  · rw [if_neg c9] at hrun
    refine g_iconst C (dat dt_X11_row 101 rfl) ic_0 ?_
    refine g_goto 166 C (dat dt_X11_row 102 rfl) (by decide) ?_
    refine g_sub [0, 1, 2, 3] (lv' := [(0, .ref 81), (1, .int x1), (2, .int (s0 + s1)), (3, .int x3)]) rfl ?_
    exact wj_X11_row_166_40 C    x1 (s0 + s1) x3 (fI h 81 6) (0 : Int32) h _ hrun Ks Ke
def j_X11_row_138_40  (x1 : Int32) (x2 : Int32) (x3 : Int32) (x4 : Int32) (h : Hp) : Option ((Int32 × Int32 × Hp) ⊕ (Int32 × Hp)) :=
  if x4 = 0 then
  j_X11_row_149_40  x1 x3 x4 x2 (0 : Int32) h
  else
  j_X11_row_149_40  x1 x3 x4 x2 (1 : Int32) h
set_option maxRecDepth 20000 in
theorem wj_X11_row_138_40 {X : Xt} (C : Cx X cn_11 prog_13_method_33_code 5 (some .int) 4 0 0)    (x1 : Int32) (x2 : Int32) (x3 : Int32) (x4 : Int32) (h : Hp) (q : (Int32 × Int32 × Hp) ⊕ (Int32 × Hp)) (hrun : j_X11_row_138_40  x1 x2 x3 x4 h = some q) (Ks : ∀ s, q = .inl s → kp_X11_row_40  x1 X s) (Ke : ∀ e, q = .inr e → ke_X11_row_40  x1 X e) : G X h 0 0 138 [(0, .ref 81), (1, .int x1), (2, .int x2), (3, .int x3), (4, .int x4)] [] := by
  unfold j_X11_row_138_40 at hrun
  refine g_iload_n C (dat dt_X11_row 88 rfl) 2 rfl ?_
  refine g_iload C (dat dt_X11_row 89 rfl) 4 rfl ?_
  refine g_if_eq 148 C (dat dt_X11_row 90 rfl) (by decide) (fun c8 => ?_) (fun c8 => ?_)
  · rw [if_pos c8] at hrun
    refine g_iconst C (dat dt_X11_row 93 rfl) ic_0 ?_
    refine g_sub [0, 1, 3, 4] (lv' := [(0, .ref 81), (1, .int x1), (3, .int x3), (4, .int x4)]) rfl ?_
    exact wj_X11_row_149_40 C    x1 x3 x4 x2 (0 : Int32) h _ hrun Ks Ke
  · rw [if_neg c8] at hrun
    refine g_iconst C (dat dt_X11_row 91 rfl) ic_1 ?_
    refine g_goto 149 C (dat dt_X11_row 92 rfl) (by decide) ?_
    refine g_sub [0, 1, 3, 4] (lv' := [(0, .ref 81), (1, .int x1), (3, .int x3), (4, .int x4)]) rfl ?_
    exact wj_X11_row_149_40 C    x1 x3 x4 x2 (1 : Int32) h _ hrun Ks Ke
def j_X11_row_97_40  (x1 : Int32) (x2 : Int32) (x3 : Int32) (s0 : Int32) (h : Hp) : Option ((Int32 × Int32 × Hp) ⊕ (Int32 × Hp)) :=
  if s0 = 0 then
  j_X11_row_138_40  x1 x2 x3 s0 h
  else
  (inb x3 400).bind fun j10 =>
  (inb (x3 + (1 : Int32)) 400).bind fun j12 =>
  (inb (x3 + (2 : Int32)) 400).bind fun j14 =>
  (inb (x3 + (3 : Int32)) 400).bind fun j16 =>
  (f_X11_adds (aI h 88 j10) (aI h 88 j12) (aI h 88 j14) (aI h 88 j16) h).bind fun v18 =>
  j_X11_row_138_40  x1 x2 x3 s0 v18.2
set_option maxRecDepth 20000 in
theorem wj_X11_row_97_40 {X : Xt} (C : Cx X cn_11 prog_13_method_33_code 5 (some .int) 4 0 0)    (x1 : Int32) (x2 : Int32) (x3 : Int32) (s0 : Int32) (h : Hp) (q : (Int32 × Int32 × Hp) ⊕ (Int32 × Hp)) (hrun : j_X11_row_97_40  x1 x2 x3 s0 h = some q) (Ks : ∀ s, q = .inl s → kp_X11_row_40  x1 X s) (Ke : ∀ e, q = .inr e → ke_X11_row_40  x1 X e) : G X h 0 0 97 [(0, .ref 81), (1, .int x1), (2, .int x2), (3, .int x3)] [.int s0] := by
  unfold j_X11_row_97_40 at hrun
  refine g_istore (lv' := [(0, .ref 81), (1, .int x1), (2, .int x2), (3, .int x3), (4, .int s0)]) C (dat dt_X11_row 61 rfl) (by decide) rfl ?_
  refine g_iload C (dat dt_X11_row 62 rfl) 4 rfl ?_
  refine g_if_eq 138 C (dat dt_X11_row 63 rfl) (by decide) (fun c7 => ?_) (fun c7 => ?_)
  · rw [if_pos c7] at hrun
    exact wj_X11_row_138_40 C    x1 x2 x3 s0 h _ hrun Ks Ke
  · rw [if_neg c7] at hrun
    refine g_aload_n C (dat dt_X11_row 64 rfl) 0 rfl ?_
    refine g_aload_n C (dat dt_X11_row 65 rfl) 0 rfl ?_
    refine g_getR C (dat dt_X11_row 66 rfl) fl_11_45 kd_81 rfl ltk_81 ?_
    refine g_iload_n C (dat dt_X11_row 67 rfl) 3 rfl ?_
    obtain ⟨j10, q11, hrun⟩ := bd hrun
    refine g_bald C (dat dt_X11_row 68 rfl) kd_88 ltk_88 q11 ?_
    refine g_aload_n C (dat dt_X11_row 69 rfl) 0 rfl ?_
    refine g_getR C (dat dt_X11_row 70 rfl) fl_11_45 kd_81 rfl ltk_81 ?_
    refine g_iload_n C (dat dt_X11_row 71 rfl) 3 rfl ?_
    refine g_iconst C (dat dt_X11_row 72 rfl) ic_1 ?_
    refine g_iadd C (dat dt_X11_row 73 rfl) ?_
    obtain ⟨j12, q13, hrun⟩ := bd hrun
    refine g_bald C (dat dt_X11_row 74 rfl) kd_88 ltk_88 q13 ?_
    refine g_aload_n C (dat dt_X11_row 75 rfl) 0 rfl ?_
    refine g_getR C (dat dt_X11_row 76 rfl) fl_11_45 kd_81 rfl ltk_81 ?_
    refine g_iload_n C (dat dt_X11_row 77 rfl) 3 rfl ?_
    refine g_iconst C (dat dt_X11_row 78 rfl) ic_2 ?_
    refine g_iadd C (dat dt_X11_row 79 rfl) ?_
    obtain ⟨j14, q15, hrun⟩ := bd hrun
    refine g_bald C (dat dt_X11_row 80 rfl) kd_88 ltk_88 q15 ?_
    refine g_aload_n C (dat dt_X11_row 81 rfl) 0 rfl ?_
    refine g_getR C (dat dt_X11_row 82 rfl) fl_11_45 kd_81 rfl ltk_81 ?_
    refine g_iload_n C (dat dt_X11_row 83 rfl) 3 rfl ?_
    refine g_iconst C (dat dt_X11_row 84 rfl) ic_3 ?_
    refine g_iadd C (dat dt_X11_row 85 rfl) ?_
    obtain ⟨j16, q17, hrun⟩ := bd hrun
    refine g_bald C (dat dt_X11_row 86 rfl) kd_88 ltk_88 q17 ?_
    obtain ⟨v18, q19, hrun⟩ := bd hrun
    refine g_cVv [.int (aI h 88 j10), .int (aI h 88 j12), .int (aI h 88 j14), .int (aI h 88 j16)] C (dat dt_X11_row 87 rfl) ml_11_143 (w_X11_adds (aI h 88 j10) (aI h 88 j12) (aI h 88 j14) (aI h 88 j16) h v18  q19) kd_81 ltk_81 rfl rfl cat0 (by decide) c00 ?_
    exact wj_X11_row_138_40 C    x1 x2 x3 s0 v18.2 _ hrun Ks Ke
def j_X11_row_96_40  (x1 : Int32) (x2 : Int32) (x3 : Int32) (h : Hp) : Option ((Int32 × Int32 × Hp) ⊕ (Int32 × Hp)) :=
  j_X11_row_97_40  x1 x2 x3 (0 : Int32) h
set_option maxRecDepth 20000 in
theorem wj_X11_row_96_40 {X : Xt} (C : Cx X cn_11 prog_13_method_33_code 5 (some .int) 4 0 0)    (x1 : Int32) (x2 : Int32) (x3 : Int32) (h : Hp) (q : (Int32 × Int32 × Hp) ⊕ (Int32 × Hp)) (hrun : j_X11_row_96_40  x1 x2 x3 h = some q) (Ks : ∀ s, q = .inl s → kp_X11_row_40  x1 X s) (Ke : ∀ e, q = .inr e → ke_X11_row_40  x1 X e) : G X h 0 0 96 [(0, .ref 81), (1, .int x1), (2, .int x2), (3, .int x3)] [] := by
  unfold j_X11_row_96_40 at hrun
  refine g_iconst C (dat dt_X11_row 60 rfl) ic_0 ?_
  exact wj_X11_row_97_40 C    x1 x2 x3 (0 : Int32) h _ hrun Ks Ke
def b_X11_row_40  (x1 : Int32) (x2 : Int32) (x3 : Int32) (h : Hp) : Option ((Int32 × Int32 × Hp) ⊕ (Int32 × Hp)) :=
  if x1 < (x3 + (4 : Int32)) then
  some (.inr ( (x2, h)))
  else
  (f_X11_many  h).bind fun v4 =>
  if (6 : Int32) ≤ v4 then
  j_X11_row_96_40  x1 x2 x3 h
  else
  (inb x3 400).bind fun j20 =>
  (inb (x3 + (1 : Int32)) 400).bind fun j22 =>
  (inb (x3 + (2 : Int32)) 400).bind fun j24 =>
  (inb (x3 + (3 : Int32)) 400).bind fun j26 =>
  (f_X11_canBe (aI h 88 j20) (aI h 88 j22) (aI h 88 j24) (aI h 88 j26)).bind fun v28 =>
  if v28 = true then
  j_X11_row_97_40  x1 x2 x3 (1 : Int32) h
  else
  j_X11_row_96_40  x1 x2 x3 h
set_option maxRecDepth 20000 in
theorem wb_X11_row_40 {X : Xt} (C : Cx X cn_11 prog_13_method_33_code 5 (some .int) 4 0 0)   (x1 : Int32) (x2 : Int32) (x3 : Int32) (h : Hp) (q : (Int32 × Int32 × Hp) ⊕ (Int32 × Hp)) (hrun : b_X11_row_40  x1 x2 x3 h = some q) (Ks : ∀ s, q = .inl s → kp_X11_row_40  x1 X s) (Ke : ∀ e, q = .inr e → ke_X11_row_40  x1 X e) : kp_X11_row_40  x1 X (x2, x3, h) := by
  show G X h 0 0 40 [(0, .ref 81), (1, .int x1), (2, .int x2), (3, .int x3)] []
  unfold b_X11_row_40 at hrun
  refine g_iload_n C (dat dt_X11_row 25 rfl) 3 rfl ?_
  refine g_iconst C (dat dt_X11_row 26 rfl) ic_4 ?_
  refine g_iadd C (dat dt_X11_row 27 rfl) ?_
  refine g_iload_n C (dat dt_X11_row 28 rfl) 1 rfl ?_
  refine g_ic_gt 176 C (dat dt_X11_row 29 rfl) (by decide) (fun c3 => ?_) (fun c3 => ?_)
  · rw [if_pos c3] at hrun
    refine g_sub [0, 2] (lv' := [(0, .ref 81), (2, .int x2)]) rfl ?_
    cases hrun
    exact Ke ( (x2, h)) rfl
  · rw [if_neg c3] at hrun
    refine g_aload_n C (dat dt_X11_row 30 rfl) 0 rfl ?_
    obtain ⟨v4, q5, hrun⟩ := bd hrun
    refine g_cVi [] C (dat dt_X11_row 31 rfl) ml_11_127 (w_X11_many  h v4  q5) kd_81 ltk_81 rfl rfl cat0 (by decide) c00 ?_
    refine g_bipush C (dat dt_X11_row 32 rfl) bp_6 ?_
    refine g_ic_ge 96 C (dat dt_X11_row 33 rfl) (by decide) (fun c6 => ?_) (fun c6 => ?_)
    · rw [if_pos c6] at hrun
      exact wj_X11_row_96_40 C    x1 x2 x3 h _ hrun Ks Ke
    · rw [if_neg c6] at hrun
      refine g_aload_n C (dat dt_X11_row 34 rfl) 0 rfl ?_
      refine g_getR C (dat dt_X11_row 35 rfl) fl_11_45 kd_81 rfl ltk_81 ?_
      refine g_iload_n C (dat dt_X11_row 36 rfl) 3 rfl ?_
      obtain ⟨j20, q21, hrun⟩ := bd hrun
      refine g_bald C (dat dt_X11_row 37 rfl) kd_88 ltk_88 q21 ?_
      refine g_aload_n C (dat dt_X11_row 38 rfl) 0 rfl ?_
      refine g_getR C (dat dt_X11_row 39 rfl) fl_11_45 kd_81 rfl ltk_81 ?_
      refine g_iload_n C (dat dt_X11_row 40 rfl) 3 rfl ?_
      refine g_iconst C (dat dt_X11_row 41 rfl) ic_1 ?_
      refine g_iadd C (dat dt_X11_row 42 rfl) ?_
      obtain ⟨j22, q23, hrun⟩ := bd hrun
      refine g_bald C (dat dt_X11_row 43 rfl) kd_88 ltk_88 q23 ?_
      refine g_aload_n C (dat dt_X11_row 44 rfl) 0 rfl ?_
      refine g_getR C (dat dt_X11_row 45 rfl) fl_11_45 kd_81 rfl ltk_81 ?_
      refine g_iload_n C (dat dt_X11_row 46 rfl) 3 rfl ?_
      refine g_iconst C (dat dt_X11_row 47 rfl) ic_2 ?_
      refine g_iadd C (dat dt_X11_row 48 rfl) ?_
      obtain ⟨j24, q25, hrun⟩ := bd hrun
      refine g_bald C (dat dt_X11_row 49 rfl) kd_88 ltk_88 q25 ?_
      refine g_aload_n C (dat dt_X11_row 50 rfl) 0 rfl ?_
      refine g_getR C (dat dt_X11_row 51 rfl) fl_11_45 kd_81 rfl ltk_81 ?_
      refine g_iload_n C (dat dt_X11_row 52 rfl) 3 rfl ?_
      refine g_iconst C (dat dt_X11_row 53 rfl) ic_3 ?_
      refine g_iadd C (dat dt_X11_row 54 rfl) ?_
      obtain ⟨j26, q27, hrun⟩ := bd hrun
      refine g_bald C (dat dt_X11_row 55 rfl) kd_88 ltk_88 q27 ?_
      obtain ⟨v28, q29, hrun⟩ := bd hrun
      refine g_cSi [.int (aI h 88 j20), .int (aI h 88 j22), .int (aI h 88 j24), .int (aI h 88 j26)] C (dat dt_X11_row 56 rfl) ml_11_139 (w_X11_canBe (aI h 88 j20) (aI h 88 j22) (aI h 88 j24) (aI h 88 j26) h v28  q29) rfl rfl cat0 (by decide) c00 ?_
      refine g_if_eq 96 C (dat dt_X11_row 57 rfl) (by decide) (fun c30 => ?_) (fun c30 => ?_)
      · rw [if_neg (b2i_z c30)] at hrun
        exact wj_X11_row_96_40 C    x1 x2 x3 h _ hrun Ks Ke
      · rw [if_pos (b2i_nz c30)] at hrun
        refine g_iconst C (dat dt_X11_row 58 rfl) ic_1 ?_
        refine g_goto 97 C (dat dt_X11_row 59 rfl) (by decide) ?_
        exact wj_X11_row_97_40 C    x1 x2 x3 (1 : Int32) h _ hrun Ks Ke
def j_X11_row_35  (x1 : Int32) (x2 : Int32) (s1 : Int32) (h : Hp) : Option (Int32 × Hp) :=
  (lp (fun s => b_X11_row_40  x1 s.1 s.2.1 s.2.2) FU (x2, (0 : Int32), (sF h 81 6 s1))).bind fun e31 =>
  (f_X11_settled e31.1 e31.2).bind fun v33 =>
  some (v33.1, v33.2)
set_option maxRecDepth 20000 in
theorem wj_X11_row_35 {X : Xt} (C : Cx X cn_11 prog_13_method_33_code 5 (some .int) 4 0 0)    (x1 : Int32) (x2 : Int32) (s1 : Int32) (h : Hp) (q : (Int32 × Hp)) (hrun : j_X11_row_35  x1 x2 s1 h = some q) (K : EndQ X 0 0 (some (.int q.1)) q.2) : G X h 0 0 35 [(0, .ref 81), (1, .int x1), (2, .int x2)] [.int s1, .ref 81] := by
  unfold j_X11_row_35 at hrun
  refine g_putI C (dat dt_X11_row 22 rfl) fl_11_185 rfl rfl kd_81 rfl ltk_81 ?_
  refine g_iconst C (dat dt_X11_row 23 rfl) ic_0 ?_
  refine g_istore_n (lv' := [(0, .ref 81), (1, .int x1), (2, .int x2), (3, .int (0 : Int32))]) C (dat dt_X11_row 24 rfl) (by decide) rfl ?_
  obtain ⟨e31, q32, hrun⟩ := bd hrun
  refine lp_ind (P := fun s => kp_X11_row_40  x1 X s) (K := fun e => ke_X11_row_40  x1 X e) (fun s q hb Ks Ke => wb_X11_row_40 C   x1 s.1 s.2.1 s.2.2 q hb Ks Ke) FU (x2, (0 : Int32), (sF h 81 6 s1)) e31 q32 ?_
  show G X e31.2 0 0 176 [(0, .ref 81), (2, .int e31.1)] []
  refine g_aload_n C (dat dt_X11_row 108 rfl) 0 rfl ?_
  refine g_iload_n C (dat dt_X11_row 109 rfl) 1 rfl ?_
  obtain ⟨v33, q34, hrun⟩ := bd hrun
  refine g_cVi [.int e31.1] C (dat dt_X11_row 110 rfl) ml_11_124 (w_X11_settled e31.1 e31.2 v33  q34) kd_81 ltk_81 rfl rfl cat0 (by decide) c00 ?_
  cases hrun
  exact g_iret C K (dat dt_X11_row 111 rfl)
def f_X11_row  (h : Hp) : Option (Int32 × Hp) :=
  if (fI h 81 13) = 0 then
  (f_X11_refuses (-6 : Int32) (sF h 81 13 (0 : Int32))).bind fun v35 =>
  some (v35.1, v35.2)
  else
  if ((fI h 81 13) - (fI h 81 13) / (4 : Int32) * (4 : Int32)) = 0 then
  j_X11_row_35  (fI h 81 13) (0 : Int32) (0 : Int32) (sF h 81 13 (0 : Int32))
  else
  j_X11_row_35  (fI h 81 13) (0 : Int32) (1 : Int32) (sF h 81 13 (0 : Int32))
set_option maxRecDepth 20000 in
theorem w_X11_row  (h : Hp) (q : (Int32 × Hp))  (hrun : f_X11_row  h = some q) : MetA ⟨"SteamNationsModel", "row", "()I"⟩ prog_13_method_33_code 5 (some .int) 4 0 0 [.ref 81] h (some (.int q.1)) q.2 := by
  refine metA_of (by decide) (Nat.le_of_ble_eq_true rfl) (fun X C K => ?_)
  have C : Cx X cn_11 prog_13_method_33_code 5 (some .int) 4 0 0 := C
  show G X h 0 0 0 [(0, .ref 81)] []
  unfold f_X11_row at hrun
  refine g_aload_n C (dat dt_X11_row 0 rfl) 0 rfl ?_
  refine g_getI C (dat dt_X11_row 1 rfl) fl_11_182 kd_81 rfl ltk_81 ?_
  refine g_istore_n (lv' := [(0, .ref 81), (1, .int (fI h 81 13))]) C (dat dt_X11_row 2 rfl) (by decide) rfl ?_
  refine g_aload_n C (dat dt_X11_row 3 rfl) 0 rfl ?_
  refine g_iconst C (dat dt_X11_row 4 rfl) ic_0 ?_
  refine g_putI C (dat dt_X11_row 5 rfl) fl_11_182 rfl rfl kd_81 rfl ltk_81 ?_
  refine g_iload_n C (dat dt_X11_row 6 rfl) 1 rfl ?_
  refine g_if_ne 21 C (dat dt_X11_row 7 rfl) (by decide) (fun c1 => ?_) (fun c1 => ?_)
  · rw [if_neg c1] at hrun
    refine g_iconst C (dat dt_X11_row 12 rfl) ic_0 ?_
    refine g_istore_n (lv' := [(0, .ref 81), (1, .int (fI h 81 13)), (2, .int (0 : Int32))]) C (dat dt_X11_row 13 rfl) (by decide) rfl ?_
    refine g_aload_n C (dat dt_X11_row 14 rfl) 0 rfl ?_
    refine g_iload_n C (dat dt_X11_row 15 rfl) 1 rfl ?_
    refine g_iconst C (dat dt_X11_row 16 rfl) ic_4 ?_
    refine g_irem C (dat dt_X11_row 17 rfl) (by decide) ?_
    refine g_if_ne 34 C (dat dt_X11_row 18 rfl) (by decide) (fun c2 => ?_) (fun c2 => ?_)
    · rw [if_neg c2] at hrun
      refine g_iconst C (dat dt_X11_row 21 rfl) ic_1 ?_
      exact wj_X11_row_35 C    (fI h 81 13) (0 : Int32) (1 : Int32) (sF h 81 13 (0 : Int32)) _ hrun K
    · rw [if_pos c2] at hrun
      refine g_iconst C (dat dt_X11_row 19 rfl) ic_0 ?_
      refine g_goto 35 C (dat dt_X11_row 20 rfl) (by decide) ?_
      exact wj_X11_row_35 C    (fI h 81 13) (0 : Int32) (0 : Int32) (sF h 81 13 (0 : Int32)) _ hrun K
  · rw [if_pos c1] at hrun
    refine g_aload_n C (dat dt_X11_row 8 rfl) 0 rfl ?_
    refine g_bipush C (dat dt_X11_row 9 rfl) bp_m6 ?_
    obtain ⟨v35, q36, hrun⟩ := bd hrun
    refine g_cVi [.int (-6 : Int32)] C (dat dt_X11_row 10 rfl) ml_11_121 (w_X11_refuses (-6 : Int32) (sF h 81 13 (0 : Int32)) v35  q36) kd_81 ltk_81 rfl rfl cat0 (by decide) c00 ?_
    cases hrun
    exact g_iret C K (dat dt_X11_row 11 rfl)
/-! SteamNationsModel.puffs()I -/
def dl_X11_puffs : List (Nat × Instr × Nat) := [(0, .aload_n 0, 1), (1, .getfield 185, 3), (4, .ireturn, 1)]
set_option maxRecDepth 20000 in
theorem dt_X11_puffs : ∀ q ∈ dl_X11_puffs, decode prog_13_method_34_code q.1 = .ok q.2 := by decide +kernel
def f_X11_puffs  (h : Hp) : Option Int32 :=
  some (fI h 81 6)
set_option maxRecDepth 20000 in
theorem w_X11_puffs  (h : Hp) (q : Int32)  (hrun : f_X11_puffs  h = some q) : MetA ⟨"SteamNationsModel", "puffs", "()I"⟩ prog_13_method_34_code 1 (some .int) 1 0 0 [.ref 81] h (some (.int q)) h := by
  refine metA_of (by decide) (Nat.le_of_ble_eq_true rfl) (fun X C K => ?_)
  have C : Cx X cn_11 prog_13_method_34_code 1 (some .int) 1 0 0 := C
  show G X h 0 0 0 [(0, .ref 81)] []
  unfold f_X11_puffs at hrun
  refine g_aload_n C (dat dt_X11_puffs 0 rfl) 0 rfl ?_
  refine g_getI C (dat dt_X11_puffs 1 rfl) fl_11_185 kd_81 rfl ltk_81 ?_
  cases hrun
  exact g_iret C K (dat dt_X11_puffs 2 rfl)
/-! SteamNationsModel.isSmall(I)Z -/
def dl_X11_isSmall : List (Nat × Instr × Nat) := [(0, .iload_n 0, 1), (1, .bipush 97, 2), (3, .if_icmp .lt 13, 3), (6, .iload_n 0, 1), (7, .bipush 122, 2), (9, .if_icmp .gt 7, 3), (12, .iconst 1, 1), (13, .goto 4, 3), (16, .iconst 0, 1), (17, .ireturn, 1)]
set_option maxRecDepth 20000 in
theorem dt_X11_isSmall : ∀ q ∈ dl_X11_isSmall, decode prog_13_method_37_code q.1 = .ok q.2 := by decide +kernel
def f_X11_isSmall (x0 : Int32) : Option Bool :=
  if x0 < (97 : Int32) then
  some false
  else
  if (122 : Int32) < x0 then
  some false
  else
  some true
set_option maxRecDepth 20000 in
theorem w_X11_isSmall (x0 : Int32) (h : Hp) (q : Bool)  (hrun : f_X11_isSmall x0 = some q) : MetA ⟨"SteamNationsModel", "isSmall", "(I)Z"⟩ prog_13_method_37_code 1 (some .boolean) 1 0 0 [.int x0] h (some (.int (b2i q))) h := by
  refine metA_of (by decide) (Nat.le_of_ble_eq_true rfl) (fun X C K => ?_)
  have C : Cx X cn_11 prog_13_method_37_code 1 (some .boolean) 1 0 0 := C
  show G X h 0 0 0 [(0, .int x0)] []
  unfold f_X11_isSmall at hrun
  refine g_iload_n C (dat dt_X11_isSmall 0 rfl) 0 rfl ?_
  refine g_bipush C (dat dt_X11_isSmall 1 rfl) bp_97 ?_
  refine g_ic_lt 16 C (dat dt_X11_isSmall 2 rfl) (by decide) (fun c1 => ?_) (fun c1 => ?_)
  · rw [if_pos c1] at hrun
    refine g_iconst C (dat dt_X11_isSmall 8 rfl) ic_0 ?_
    cases hrun
    exact g_zret C K (show (0 : Int32) = b2i false by decide) (dat dt_X11_isSmall 9 rfl)
  · rw [if_neg c1] at hrun
    refine g_iload_n C (dat dt_X11_isSmall 3 rfl) 0 rfl ?_
    refine g_bipush C (dat dt_X11_isSmall 4 rfl) bp_122 ?_
    refine g_ic_gt 16 C (dat dt_X11_isSmall 5 rfl) (by decide) (fun c2 => ?_) (fun c2 => ?_)
    · rw [if_pos c2] at hrun
      refine g_iconst C (dat dt_X11_isSmall 8 rfl) ic_0 ?_
      cases hrun
      exact g_zret C K (show (0 : Int32) = b2i false by decide) (dat dt_X11_isSmall 9 rfl)
    · rw [if_neg c2] at hrun
      refine g_iconst C (dat dt_X11_isSmall 6 rfl) ic_1 ?_
      refine g_goto 17 C (dat dt_X11_isSmall 7 rfl) (by decide) ?_
      cases hrun
      exact g_zret C K (show (1 : Int32) = b2i true by decide) (dat dt_X11_isSmall 9 rfl)
/-! SteamNationsModel.isDigit(I)Z -/
def dl_X11_isDigit : List (Nat × Instr × Nat) := [(0, .iload_n 0, 1), (1, .bipush 48, 2), (3, .if_icmp .lt 13, 3), (6, .iload_n 0, 1), (7, .bipush 57, 2), (9, .if_icmp .gt 7, 3), (12, .iconst 1, 1), (13, .goto 4, 3), (16, .iconst 0, 1), (17, .ireturn, 1)]
set_option maxRecDepth 20000 in
theorem dt_X11_isDigit : ∀ q ∈ dl_X11_isDigit, decode prog_13_method_38_code q.1 = .ok q.2 := by decide +kernel
def f_X11_isDigit (x0 : Int32) : Option Bool :=
  if x0 < (48 : Int32) then
  some false
  else
  if (57 : Int32) < x0 then
  some false
  else
  some true
set_option maxRecDepth 20000 in
theorem w_X11_isDigit (x0 : Int32) (h : Hp) (q : Bool)  (hrun : f_X11_isDigit x0 = some q) : MetA ⟨"SteamNationsModel", "isDigit", "(I)Z"⟩ prog_13_method_38_code 1 (some .boolean) 1 0 0 [.int x0] h (some (.int (b2i q))) h := by
  refine metA_of (by decide) (Nat.le_of_ble_eq_true rfl) (fun X C K => ?_)
  have C : Cx X cn_11 prog_13_method_38_code 1 (some .boolean) 1 0 0 := C
  show G X h 0 0 0 [(0, .int x0)] []
  unfold f_X11_isDigit at hrun
  refine g_iload_n C (dat dt_X11_isDigit 0 rfl) 0 rfl ?_
  refine g_bipush C (dat dt_X11_isDigit 1 rfl) bp_48 ?_
  refine g_ic_lt 16 C (dat dt_X11_isDigit 2 rfl) (by decide) (fun c1 => ?_) (fun c1 => ?_)
  · rw [if_pos c1] at hrun
    refine g_iconst C (dat dt_X11_isDigit 8 rfl) ic_0 ?_
    cases hrun
    exact g_zret C K (show (0 : Int32) = b2i false by decide) (dat dt_X11_isDigit 9 rfl)
  · rw [if_neg c1] at hrun
    refine g_iload_n C (dat dt_X11_isDigit 3 rfl) 0 rfl ?_
    refine g_bipush C (dat dt_X11_isDigit 4 rfl) bp_57 ?_
    refine g_ic_gt 16 C (dat dt_X11_isDigit 5 rfl) (by decide) (fun c2 => ?_) (fun c2 => ?_)
    · rw [if_pos c2] at hrun
      refine g_iconst C (dat dt_X11_isDigit 8 rfl) ic_0 ?_
      cases hrun
      exact g_zret C K (show (0 : Int32) = b2i false by decide) (dat dt_X11_isDigit 9 rfl)
    · rw [if_neg c2] at hrun
      refine g_iconst C (dat dt_X11_isDigit 6 rfl) ic_1 ?_
      refine g_goto 17 C (dat dt_X11_isDigit 7 rfl) (by decide) ?_
      cases hrun
      exact g_zret C K (show (1 : Int32) = b2i true by decide) (dat dt_X11_isDigit 9 rfl)
/-! SteamNationsModel.wordOf(II)I -/
def dl_X11_wordOf : List (Nat × Instr × Nat) := [(0, .iconst 1, 1), (1, .istore_n 3, 1), (2, .iconst 0, 1), (3, .istore 4, 2), (5, .iload 4, 2), (7, .aload_n 0, 1), (8, .getfield 41, 3), (11, .arraylength, 1), (12, .if_icmp .ge 114, 3), (15, .iconst 0, 1), (16, .istore 5, 2), (18, .aload_n 0, 1), (19, .getfield 41, 3), (22, .iload 4, 2), (24, .iload 5, 2), (26, .iadd, 1), (27, .baload, 1), (28, .bipush 32, 2), (30, .if_icmp .eq 9, 3), (33, .iinc 5 1, 3), (36, .goto (-18), 3), (39, .iload 5, 2), (41, .iload_n 2, 1), (42, .iload_n 1, 1), (43, .isub, 1), (44, .if_icmp .ne 7, 3), (47, .iconst 1, 1), (48, .goto 4, 3), (51, .iconst 0, 1), (52, .istore 6, 2), (54, .iconst 0, 1), (55, .istore 7, 2), (57, .iload 7, 2), (59, .iload 5, 2), (61, .if_icmp .ge 43, 3), (64, .iload 6, 2), (66, .ifCond .eq 38, 3), (69, .aload_n 0, 1), (70, .getfield 41, 3), (73, .iload 4, 2), (75, .iload 7, 2), (77, .iadd, 1), (78, .baload, 1), (79, .aload_n 0, 1), (80, .getfield 45, 3), (83, .iload_n 1, 1), (84, .iload 7, 2), (86, .iadd, 1), (87, .baload, 1), (88, .if_icmp .ne 7, 3), (91, .iconst 1, 1), (92, .goto 4, 3), (95, .iconst 0, 1), (96, .istore 6, 2), (98, .iinc 7 1, 3), (101, .goto (-44), 3), (104, .iload 6, 2), (106, .ifCond .eq 5, 3), (109, .iload_n 3, 1), (110, .ireturn, 1), (111, .iload 4, 2), (113, .iload 5, 2), (115, .iconst 1, 1), (116, .iadd, 1), (117, .iadd, 1), (118, .istore 4, 2), (120, .iinc 3 1, 3), (123, .goto (-118), 3), (126, .iconst 0, 1), (127, .ireturn, 1)]
set_option maxRecDepth 20000 in
theorem dt_X11_wordOf : ∀ q ∈ dl_X11_wordOf, decode prog_13_method_39_code q.1 = .ok q.2 := by decide +kernel
def kp_X11_wordOf_5  (x1 : Int32) (x2 : Int32) (h : Hp) (X : Xt) (s : (Int32 × Int32)) : Prop := G X h 0 0 5 [(0, .ref 81), (1, .int x1), (2, .int x2), (3, .int s.1), (4, .int s.2)] []
def ke_X11_wordOf_5  (x1 : Int32) (x2 : Int32) (h : Hp) (X : Xt) (e : (Unit ⊕ Int32)) : Prop := match e with
  | .inl e => G X h 0 0 126 [] []
  | .inr (e) => G X h 0 0 109 [(3, .int e)] []
def kp_X11_wordOf_18_5  (x1 : Int32) (x2 : Int32) (x3 : Int32) (x4 : Int32) (h : Hp) (X : Xt) (s : Int32) : Prop := G X h 0 0 18 [(0, .ref 81), (1, .int x1), (2, .int x2), (3, .int x3), (4, .int x4), (5, .int s)] []
def ke_X11_wordOf_18_5  (x1 : Int32) (x2 : Int32) (x3 : Int32) (x4 : Int32) (h : Hp) (X : Xt) (e : Int32) : Prop := G X h 0 0 39 [(0, .ref 81), (1, .int x1), (2, .int x2), (3, .int x3), (4, .int x4), (5, .int e)] []
def b_X11_wordOf_18_5  (x1 : Int32) (x2 : Int32) (x3 : Int32) (x4 : Int32) (x5 : Int32) (h : Hp) : Option (Int32 ⊕ Int32) :=
  (inb (x4 + x5) 144).bind fun j2 =>
  if (aI h 87 j2) = (32 : Int32) then
  some (.inr ( x5))
  else
  some (.inl (x5 + (1 : Int32)))
set_option maxRecDepth 20000 in
theorem wb_X11_wordOf_18_5 {X : Xt} (C : Cx X cn_11 prog_13_method_39_code 8 (some .int) 1 0 0)   (x1 : Int32) (x2 : Int32) (x3 : Int32) (x4 : Int32) (x5 : Int32) (h : Hp) (q : Int32 ⊕ Int32) (hrun : b_X11_wordOf_18_5  x1 x2 x3 x4 x5 h = some q) (Ks : ∀ s, q = .inl s → kp_X11_wordOf_18_5  x1 x2 x3 x4 h X s) (Ke : ∀ e, q = .inr e → ke_X11_wordOf_18_5  x1 x2 x3 x4 h X e) : kp_X11_wordOf_18_5  x1 x2 x3 x4 h X x5 := by
  show G X h 0 0 18 [(0, .ref 81), (1, .int x1), (2, .int x2), (3, .int x3), (4, .int x4), (5, .int x5)] []
  unfold b_X11_wordOf_18_5 at hrun
  refine g_aload_n C (dat dt_X11_wordOf 11 rfl) 0 rfl ?_
  refine g_getR C (dat dt_X11_wordOf 12 rfl) fl_11_41 kd_81 rfl ltk_81 ?_
  refine g_iload C (dat dt_X11_wordOf 13 rfl) 4 rfl ?_
  refine g_iload C (dat dt_X11_wordOf 14 rfl) 5 rfl ?_
  refine g_iadd C (dat dt_X11_wordOf 15 rfl) ?_
  obtain ⟨j2, q3, hrun⟩ := bd hrun
  refine g_bald C (dat dt_X11_wordOf 16 rfl) kd_87 ltk_87 q3 ?_
  refine g_bipush C (dat dt_X11_wordOf 17 rfl) bp_32 ?_
  refine g_ic_eq 39 C (dat dt_X11_wordOf 18 rfl) (by decide) (fun c4 => ?_) (fun c4 => ?_)
  · rw [if_pos c4] at hrun
    cases hrun
    exact Ke ( x5) rfl
  · rw [if_neg c4] at hrun
    refine g_iinc (v := (x5 + (1 : Int32))) (lv' := [(0, .ref 81), (1, .int x1), (2, .int x2), (3, .int x3), (4, .int x4), (5, .int (x5 + (1 : Int32)))]) C (dat dt_X11_wordOf 19 rfl) 5 rfl (congrArg (fun z => x5 + z) ic_1) (by decide) rfl ?_
    refine g_goto 18 C (dat dt_X11_wordOf 20 rfl) (by decide) ?_
    cases hrun
    exact Ks (x5 + (1 : Int32)) rfl
def kp_X11_wordOf_57_5  (x1 : Int32) (x2 : Int32) (x3 : Int32) (x4 : Int32) (x5 : Int32) (h : Hp) (X : Xt) (s : (Int32 × Int32)) : Prop := G X h 0 0 57 [(0, .ref 81), (1, .int x1), (2, .int x2), (3, .int x3), (4, .int x4), (5, .int x5), (6, .int s.1), (7, .int s.2)] []
def ke_X11_wordOf_57_5  (x1 : Int32) (x2 : Int32) (x3 : Int32) (x4 : Int32) (x5 : Int32) (h : Hp) (X : Xt) (e : Int32) : Prop := G X h 0 0 104 [(0, .ref 81), (1, .int x1), (2, .int x2), (3, .int x3), (4, .int x4), (5, .int x5), (6, .int e)] []
def j_X11_wordOf_96_57  (x1 : Int32) (x2 : Int32) (x3 : Int32) (x4 : Int32) (x5 : Int32) (x7 : Int32) (s0 : Int32) (h : Hp) : Option ((Int32 × Int32) ⊕ Int32) :=
  some (.inl (s0, (x7 + (1 : Int32))))
set_option maxRecDepth 20000 in
theorem wj_X11_wordOf_96_57 {X : Xt} (C : Cx X cn_11 prog_13_method_39_code 8 (some .int) 1 0 0)    (x1 : Int32) (x2 : Int32) (x3 : Int32) (x4 : Int32) (x5 : Int32) (x7 : Int32) (s0 : Int32) (h : Hp) (q : (Int32 × Int32) ⊕ Int32) (hrun : j_X11_wordOf_96_57  x1 x2 x3 x4 x5 x7 s0 h = some q) (Ks : ∀ s, q = .inl s → kp_X11_wordOf_57_5  x1 x2 x3 x4 x5 h X s) (Ke : ∀ e, q = .inr e → ke_X11_wordOf_57_5  x1 x2 x3 x4 x5 h X e) : G X h 0 0 96 [(0, .ref 81), (1, .int x1), (2, .int x2), (3, .int x3), (4, .int x4), (5, .int x5), (7, .int x7)] [.int s0] := by
  unfold j_X11_wordOf_96_57 at hrun
  refine g_istore (lv' := [(0, .ref 81), (1, .int x1), (2, .int x2), (3, .int x3), (4, .int x4), (5, .int x5), (6, .int s0), (7, .int x7)]) C (dat dt_X11_wordOf 53 rfl) (by decide) rfl ?_
  refine g_iinc (v := (x7 + (1 : Int32))) (lv' := [(0, .ref 81), (1, .int x1), (2, .int x2), (3, .int x3), (4, .int x4), (5, .int x5), (6, .int s0), (7, .int (x7 + (1 : Int32)))]) C (dat dt_X11_wordOf 54 rfl) 7 rfl (congrArg (fun z => x7 + z) ic_1) (by decide) rfl ?_
  refine g_goto 57 C (dat dt_X11_wordOf 55 rfl) (by decide) ?_
  cases hrun
  exact Ks (s0, (x7 + (1 : Int32))) rfl
def b_X11_wordOf_57_5  (x1 : Int32) (x2 : Int32) (x3 : Int32) (x4 : Int32) (x5 : Int32) (x6 : Int32) (x7 : Int32) (h : Hp) : Option ((Int32 × Int32) ⊕ Int32) :=
  if x5 ≤ x7 then
  some (.inr ( x6))
  else
  if x6 = 0 then
  some (.inr ( x6))
  else
  (inb (x4 + x7) 144).bind fun j10 =>
  (inb (x1 + x7) 400).bind fun j12 =>
  if (aI h 87 j10) = (aI h 88 j12) then
  j_X11_wordOf_96_57  x1 x2 x3 x4 x5 x7 (1 : Int32) h
  else
  j_X11_wordOf_96_57  x1 x2 x3 x4 x5 x7 (0 : Int32) h
set_option maxRecDepth 20000 in
theorem wb_X11_wordOf_57_5 {X : Xt} (C : Cx X cn_11 prog_13_method_39_code 8 (some .int) 1 0 0)   (x1 : Int32) (x2 : Int32) (x3 : Int32) (x4 : Int32) (x5 : Int32) (x6 : Int32) (x7 : Int32) (h : Hp) (q : (Int32 × Int32) ⊕ Int32) (hrun : b_X11_wordOf_57_5  x1 x2 x3 x4 x5 x6 x7 h = some q) (Ks : ∀ s, q = .inl s → kp_X11_wordOf_57_5  x1 x2 x3 x4 x5 h X s) (Ke : ∀ e, q = .inr e → ke_X11_wordOf_57_5  x1 x2 x3 x4 x5 h X e) : kp_X11_wordOf_57_5  x1 x2 x3 x4 x5 h X (x6, x7) := by
  show G X h 0 0 57 [(0, .ref 81), (1, .int x1), (2, .int x2), (3, .int x3), (4, .int x4), (5, .int x5), (6, .int x6), (7, .int x7)] []
  unfold b_X11_wordOf_57_5 at hrun
  refine g_iload C (dat dt_X11_wordOf 32 rfl) 7 rfl ?_
  refine g_iload C (dat dt_X11_wordOf 33 rfl) 5 rfl ?_
  refine g_ic_ge 104 C (dat dt_X11_wordOf 34 rfl) (by decide) (fun c8 => ?_) (fun c8 => ?_)
  · rw [if_pos c8] at hrun
    refine g_sub [0, 1, 2, 3, 4, 5, 6] (lv' := [(0, .ref 81), (1, .int x1), (2, .int x2), (3, .int x3), (4, .int x4), (5, .int x5), (6, .int x6)]) rfl ?_
    cases hrun
    exact Ke ( x6) rfl
  · rw [if_neg c8] at hrun
    refine g_iload C (dat dt_X11_wordOf 35 rfl) 6 rfl ?_
    refine g_if_eq 104 C (dat dt_X11_wordOf 36 rfl) (by decide) (fun c9 => ?_) (fun c9 => ?_)
    · rw [if_pos c9] at hrun
      refine g_sub [0, 1, 2, 3, 4, 5, 6] (lv' := [(0, .ref 81), (1, .int x1), (2, .int x2), (3, .int x3), (4, .int x4), (5, .int x5), (6, .int x6)]) rfl ?_
      cases hrun
      exact Ke ( x6) rfl
    · rw [if_neg c9] at hrun
      refine g_aload_n C (dat dt_X11_wordOf 37 rfl) 0 rfl ?_
      refine g_getR C (dat dt_X11_wordOf 38 rfl) fl_11_41 kd_81 rfl ltk_81 ?_
      refine g_iload C (dat dt_X11_wordOf 39 rfl) 4 rfl ?_
      refine g_iload C (dat dt_X11_wordOf 40 rfl) 7 rfl ?_
      refine g_iadd C (dat dt_X11_wordOf 41 rfl) ?_
      obtain ⟨j10, q11, hrun⟩ := bd hrun
      refine g_bald C (dat dt_X11_wordOf 42 rfl) kd_87 ltk_87 q11 ?_
      refine g_aload_n C (dat dt_X11_wordOf 43 rfl) 0 rfl ?_
      refine g_getR C (dat dt_X11_wordOf 44 rfl) fl_11_45 kd_81 rfl ltk_81 ?_
      refine g_iload_n C (dat dt_X11_wordOf 45 rfl) 1 rfl ?_
      refine g_iload C (dat dt_X11_wordOf 46 rfl) 7 rfl ?_
      refine g_iadd C (dat dt_X11_wordOf 47 rfl) ?_
      obtain ⟨j12, q13, hrun⟩ := bd hrun
      refine g_bald C (dat dt_X11_wordOf 48 rfl) kd_88 ltk_88 q13 ?_
      refine g_ic_ne 95 C (dat dt_X11_wordOf 49 rfl) (by decide) (fun c14 => ?_) (fun c14 => ?_)
      · rw [if_neg c14] at hrun
        refine g_iconst C (dat dt_X11_wordOf 52 rfl) ic_0 ?_
        refine g_sub [0, 1, 2, 3, 4, 5, 7] (lv' := [(0, .ref 81), (1, .int x1), (2, .int x2), (3, .int x3), (4, .int x4), (5, .int x5), (7, .int x7)]) rfl ?_
        exact wj_X11_wordOf_96_57 C    x1 x2 x3 x4 x5 x7 (0 : Int32) h _ hrun Ks Ke
      · rw [if_pos c14] at hrun
        refine g_iconst C (dat dt_X11_wordOf 50 rfl) ic_1 ?_
        refine g_goto 96 C (dat dt_X11_wordOf 51 rfl) (by decide) ?_
        refine g_sub [0, 1, 2, 3, 4, 5, 7] (lv' := [(0, .ref 81), (1, .int x1), (2, .int x2), (3, .int x3), (4, .int x4), (5, .int x5), (7, .int x7)]) rfl ?_
        exact wj_X11_wordOf_96_57 C    x1 x2 x3 x4 x5 x7 (1 : Int32) h _ hrun Ks Ke
def j_X11_wordOf_104_5  (x1 : Int32) (x2 : Int32) (x3 : Int32) (x4 : Int32) (x5 : Int32) (x6 : Int32) (h : Hp) : Option ((Int32 × Int32) ⊕ (Unit ⊕ Int32)) :=
  if x6 = 0 then
  some (.inl ((x3 + (1 : Int32)), (x4 + (x5 + (1 : Int32)))))
  else
  some (.inr (.inr <| id x3))
set_option maxRecDepth 20000 in
theorem wj_X11_wordOf_104_5 {X : Xt} (C : Cx X cn_11 prog_13_method_39_code 8 (some .int) 1 0 0)    (x1 : Int32) (x2 : Int32) (x3 : Int32) (x4 : Int32) (x5 : Int32) (x6 : Int32) (h : Hp) (q : (Int32 × Int32) ⊕ (Unit ⊕ Int32)) (hrun : j_X11_wordOf_104_5  x1 x2 x3 x4 x5 x6 h = some q) (Ks : ∀ s, q = .inl s → kp_X11_wordOf_5  x1 x2 h X s) (Ke : ∀ e, q = .inr e → ke_X11_wordOf_5  x1 x2 h X e) : G X h 0 0 104 [(0, .ref 81), (1, .int x1), (2, .int x2), (3, .int x3), (4, .int x4), (5, .int x5), (6, .int x6)] [] := by
  unfold j_X11_wordOf_104_5 at hrun
  refine g_iload C (dat dt_X11_wordOf 56 rfl) 6 rfl ?_
  refine g_if_eq 111 C (dat dt_X11_wordOf 57 rfl) (by decide) (fun c17 => ?_) (fun c17 => ?_)
  · rw [if_pos c17] at hrun
    refine g_iload C (dat dt_X11_wordOf 60 rfl) 4 rfl ?_
    refine g_iload C (dat dt_X11_wordOf 61 rfl) 5 rfl ?_
    refine g_iconst C (dat dt_X11_wordOf 62 rfl) ic_1 ?_
    refine g_iadd C (dat dt_X11_wordOf 63 rfl) ?_
    refine g_iadd C (dat dt_X11_wordOf 64 rfl) ?_
    refine g_istore (lv' := [(0, .ref 81), (1, .int x1), (2, .int x2), (3, .int x3), (4, .int (x4 + (x5 + (1 : Int32)))), (5, .int x5), (6, .int x6)]) C (dat dt_X11_wordOf 65 rfl) (by decide) rfl ?_
    refine g_iinc (v := (x3 + (1 : Int32))) (lv' := [(0, .ref 81), (1, .int x1), (2, .int x2), (3, .int (x3 + (1 : Int32))), (4, .int (x4 + (x5 + (1 : Int32)))), (5, .int x5), (6, .int x6)]) C (dat dt_X11_wordOf 66 rfl) 3 rfl (congrArg (fun z => x3 + z) ic_1) (by decide) rfl ?_
    refine g_goto 5 C (dat dt_X11_wordOf 67 rfl) (by decide) ?_
    refine g_sub [0, 1, 2, 3, 4] (lv' := [(0, .ref 81), (1, .int x1), (2, .int x2), (3, .int (x3 + (1 : Int32))), (4, .int (x4 + (x5 + (1 : Int32))))]) rfl ?_
    cases hrun
    exact Ks ((x3 + (1 : Int32)), (x4 + (x5 + (1 : Int32)))) rfl
  · rw [if_neg c17] at hrun
    refine g_sub [3] (lv' := [(3, .int x3)]) rfl ?_
    cases hrun
    exact Ke (.inr <| id x3) rfl
def j_X11_wordOf_52_5  (x1 : Int32) (x2 : Int32) (x3 : Int32) (x4 : Int32) (x5 : Int32) (s0 : Int32) (h : Hp) : Option ((Int32 × Int32) ⊕ (Unit ⊕ Int32)) :=
  (lp (fun s => b_X11_wordOf_57_5  x1 x2 x3 x4 x5 s.1 s.2 h) FU (s0, (0 : Int32))).bind fun e15 =>
  j_X11_wordOf_104_5  x1 x2 x3 x4 x5 e15 h
set_option maxRecDepth 20000 in
theorem wj_X11_wordOf_52_5 {X : Xt} (C : Cx X cn_11 prog_13_method_39_code 8 (some .int) 1 0 0)    (x1 : Int32) (x2 : Int32) (x3 : Int32) (x4 : Int32) (x5 : Int32) (s0 : Int32) (h : Hp) (q : (Int32 × Int32) ⊕ (Unit ⊕ Int32)) (hrun : j_X11_wordOf_52_5  x1 x2 x3 x4 x5 s0 h = some q) (Ks : ∀ s, q = .inl s → kp_X11_wordOf_5  x1 x2 h X s) (Ke : ∀ e, q = .inr e → ke_X11_wordOf_5  x1 x2 h X e) : G X h 0 0 52 [(0, .ref 81), (1, .int x1), (2, .int x2), (3, .int x3), (4, .int x4), (5, .int x5)] [.int s0] := by
  unfold j_X11_wordOf_52_5 at hrun
  refine g_istore (lv' := [(0, .ref 81), (1, .int x1), (2, .int x2), (3, .int x3), (4, .int x4), (5, .int x5), (6, .int s0)]) C (dat dt_X11_wordOf 29 rfl) (by decide) rfl ?_
  refine g_iconst C (dat dt_X11_wordOf 30 rfl) ic_0 ?_
  refine g_istore (lv' := [(0, .ref 81), (1, .int x1), (2, .int x2), (3, .int x3), (4, .int x4), (5, .int x5), (6, .int s0), (7, .int (0 : Int32))]) C (dat dt_X11_wordOf 31 rfl) (by decide) rfl ?_
  obtain ⟨e15, q16, hrun⟩ := bd hrun
  refine lp_ind (P := fun s => kp_X11_wordOf_57_5  x1 x2 x3 x4 x5 h X s) (K := fun e => ke_X11_wordOf_57_5  x1 x2 x3 x4 x5 h X e) (fun s q hb Ks Ke => wb_X11_wordOf_57_5 C   x1 x2 x3 x4 x5 s.1 s.2 h q hb Ks Ke) FU (s0, (0 : Int32)) e15 q16 ?_
  show G X h 0 0 104 [(0, .ref 81), (1, .int x1), (2, .int x2), (3, .int x3), (4, .int x4), (5, .int x5), (6, .int e15)] []
  exact wj_X11_wordOf_104_5 C    x1 x2 x3 x4 x5 e15 h _ hrun Ks Ke
def b_X11_wordOf_5  (x1 : Int32) (x2 : Int32) (x3 : Int32) (x4 : Int32) (h : Hp) : Option ((Int32 × Int32) ⊕ (Unit ⊕ Int32)) :=
  if (144 : Int32) ≤ x4 then
  some (.inr (.inl ()))
  else
  (lp (fun s => b_X11_wordOf_18_5  x1 x2 x3 x4 s h) FU (0 : Int32)).bind fun e5 =>
  if e5 = (x2 - x1) then
  j_X11_wordOf_52_5  x1 x2 x3 x4 e5 (1 : Int32) h
  else
  j_X11_wordOf_52_5  x1 x2 x3 x4 e5 (0 : Int32) h
set_option maxRecDepth 20000 in
theorem wb_X11_wordOf_5 {X : Xt} (C : Cx X cn_11 prog_13_method_39_code 8 (some .int) 1 0 0)   (x1 : Int32) (x2 : Int32) (x3 : Int32) (x4 : Int32) (h : Hp) (q : (Int32 × Int32) ⊕ (Unit ⊕ Int32)) (hrun : b_X11_wordOf_5  x1 x2 x3 x4 h = some q) (Ks : ∀ s, q = .inl s → kp_X11_wordOf_5  x1 x2 h X s) (Ke : ∀ e, q = .inr e → ke_X11_wordOf_5  x1 x2 h X e) : kp_X11_wordOf_5  x1 x2 h X (x3, x4) := by
  show G X h 0 0 5 [(0, .ref 81), (1, .int x1), (2, .int x2), (3, .int x3), (4, .int x4)] []
  unfold b_X11_wordOf_5 at hrun
  refine g_iload C (dat dt_X11_wordOf 4 rfl) 4 rfl ?_
  refine g_aload_n C (dat dt_X11_wordOf 5 rfl) 0 rfl ?_
  refine g_getR C (dat dt_X11_wordOf 6 rfl) fl_11_41 kd_81 rfl ltk_81 ?_
  refine g_alen (v := (144 : Int32)) C (dat dt_X11_wordOf 7 rfl) kd_87 (by decide) ltk_87 rfl ?_
  refine g_ic_ge 126 C (dat dt_X11_wordOf 8 rfl) (by decide) (fun c1 => ?_) (fun c1 => ?_)
  · rw [if_pos c1] at hrun
    refine g_sub [] (lv' := []) rfl ?_
    cases hrun
    exact Ke (.inl ()) rfl
  · rw [if_neg c1] at hrun
    refine g_iconst C (dat dt_X11_wordOf 9 rfl) ic_0 ?_
    refine g_istore (lv' := [(0, .ref 81), (1, .int x1), (2, .int x2), (3, .int x3), (4, .int x4), (5, .int (0 : Int32))]) C (dat dt_X11_wordOf 10 rfl) (by decide) rfl ?_
    obtain ⟨e5, q6, hrun⟩ := bd hrun
    refine lp_ind (P := fun s => kp_X11_wordOf_18_5  x1 x2 x3 x4 h X s) (K := fun e => ke_X11_wordOf_18_5  x1 x2 x3 x4 h X e) (fun s q hb Ks Ke => wb_X11_wordOf_18_5 C   x1 x2 x3 x4 s h q hb Ks Ke) FU (0 : Int32) e5 q6 ?_
    show G X h 0 0 39 [(0, .ref 81), (1, .int x1), (2, .int x2), (3, .int x3), (4, .int x4), (5, .int e5)] []
    refine g_iload C (dat dt_X11_wordOf 21 rfl) 5 rfl ?_
    refine g_iload_n C (dat dt_X11_wordOf 22 rfl) 2 rfl ?_
    refine g_iload_n C (dat dt_X11_wordOf 23 rfl) 1 rfl ?_
    refine g_isub C (dat dt_X11_wordOf 24 rfl) ?_
    refine g_ic_ne 51 C (dat dt_X11_wordOf 25 rfl) (by decide) (fun c7 => ?_) (fun c7 => ?_)
    · rw [if_neg c7] at hrun
      refine g_iconst C (dat dt_X11_wordOf 28 rfl) ic_0 ?_
      exact wj_X11_wordOf_52_5 C    x1 x2 x3 x4 e5 (0 : Int32) h _ hrun Ks Ke
    · rw [if_pos c7] at hrun
      refine g_iconst C (dat dt_X11_wordOf 26 rfl) ic_1 ?_
      refine g_goto 52 C (dat dt_X11_wordOf 27 rfl) (by decide) ?_
      exact wj_X11_wordOf_52_5 C    x1 x2 x3 x4 e5 (1 : Int32) h _ hrun Ks Ke
def f_X11_wordOf (x1 : Int32) (x2 : Int32) (h : Hp) : Option Int32 :=
  (lp (fun s => b_X11_wordOf_5  x1 x2 s.1 s.2 h) FU ((1 : Int32), (0 : Int32))).bind fun e18 =>
  sc e18 (fun e20 =>
  some (0 : Int32)) (fun e21 =>
  some e21)
set_option maxRecDepth 20000 in
theorem w_X11_wordOf (x1 : Int32) (x2 : Int32) (h : Hp) (q : Int32)  (hrun : f_X11_wordOf x1 x2 h = some q) : MetA ⟨"SteamNationsModel", "wordOf", "(II)I"⟩ prog_13_method_39_code 8 (some .int) 1 0 0 [.ref 81, .int x1, .int x2] h (some (.int q)) h := by
  refine metA_of (by decide) (Nat.le_of_ble_eq_true rfl) (fun X C K => ?_)
  have C : Cx X cn_11 prog_13_method_39_code 8 (some .int) 1 0 0 := C
  show G X h 0 0 0 [(0, .ref 81), (1, .int x1), (2, .int x2)] []
  unfold f_X11_wordOf at hrun
  refine g_iconst C (dat dt_X11_wordOf 0 rfl) ic_1 ?_
  refine g_istore_n (lv' := [(0, .ref 81), (1, .int x1), (2, .int x2), (3, .int (1 : Int32))]) C (dat dt_X11_wordOf 1 rfl) (by decide) rfl ?_
  refine g_iconst C (dat dt_X11_wordOf 2 rfl) ic_0 ?_
  refine g_istore (lv' := [(0, .ref 81), (1, .int x1), (2, .int x2), (3, .int (1 : Int32)), (4, .int (0 : Int32))]) C (dat dt_X11_wordOf 3 rfl) (by decide) rfl ?_
  obtain ⟨e18, q19, hrun⟩ := bd hrun
  refine lp_ind (P := fun s => kp_X11_wordOf_5  x1 x2 h X s) (K := fun e => ke_X11_wordOf_5  x1 x2 h X e) (fun s q hb Ks Ke => wb_X11_wordOf_5 C   x1 x2 s.1 s.2 h q hb Ks Ke) FU ((1 : Int32), (0 : Int32)) e18 q19 ?_
  rcases e18 with e20 | e21
  · rw [sc_l] at hrun
    show G X h 0 0 126 [] []
    refine g_iconst C (dat dt_X11_wordOf 68 rfl) ic_0 ?_
    cases hrun
    exact g_iret C K (dat dt_X11_wordOf 69 rfl)
  · rw [sc_r] at hrun
    show G X h 0 0 109 [(3, .int e21)] []
    refine g_iload_n C (dat dt_X11_wordOf 58 rfl) 0 rfl ?_
    cases hrun
    exact g_iret C K (dat dt_X11_wordOf 59 rfl)
/-! SteamNationsModel.splits(I)V -/
def dl_X11_splits : List (Nat × Instr × Nat) := [(0, .aload_n 0, 1), (1, .iconst 0, 1), (2, .putfield 188, 3), (5, .iconst 0, 1), (6, .istore_n 2, 1), (7, .iload_n 2, 1), (8, .iload_n 1, 1), (9, .if_icmp .ge 254, 3), (12, .aload_n 0, 1), (13, .getfield 45, 3), (16, .iload_n 2, 1), (17, .baload, 1), (18, .istore_n 3, 1), (19, .iload_n 3, 1), (20, .bipush 32, 2), (22, .if_icmp .ne 9, 3), (25, .iinc 2 1, 3), (28, .goto (-21), 3), (31, .iload_n 2, 1), (32, .iconst 1, 1), (33, .iadd, 1), (34, .istore 4, 2), (36, .iload_n 3, 1), (37, .invokestatic 191, 3), (40, .ifCond .eq 28, 3), (43, .iload 4, 2), (45, .iload_n 1, 1), (46, .if_icmp .ge 22, 3), (49, .aload_n 0, 1), (50, .getfield 45, 3), (53, .iload 4, 2), (55, .baload, 1), (56, .invokestatic 191, 3), (59, .ifCond .eq 9, 3), (62, .iinc 4 1, 3), (65, .goto (-22), 3), (68, .iload_n 3, 1), (69, .invokestatic 194, 3), (72, .ifCond .eq 28, 3), (75, .iload 4, 2), (77, .iload_n 1, 1), (78, .if_icmp .ge 22, 3), (81, .aload_n 0, 1), (82, .getfield 45, 3), (85, .iload 4, 2), (87, .baload, 1), (88, .invokestatic 194, 3), (91, .ifCond .eq 9, 3), (94, .iinc 4 1, 3), (97, .goto (-22), 3), (100, .aload_n 0, 1), (101, .getfield 60, 3), (104, .aload_n 0, 1), (105, .getfield 188, 3), (108, .iload_n 2, 1), (109, .iastore, 1), (110, .aload_n 0, 1), (111, .getfield 57, 3), (114, .aload_n 0, 1), (115, .getfield 188, 3), (118, .iconst 0, 1), (119, .iastore, 1), (120, .aload_n 0, 1), (121, .getfield 54, 3), (124, .aload_n 0, 1), (125, .getfield 188, 3), (128, .iload_n 3, 1), (129, .invokestatic 191, 3), (132, .ifCond .eq 13, 3), (135, .aload_n 0, 1), (136, .iload_n 2, 1), (137, .iload 4, 2), (139, .invokevirtual 197, 3), (142, .goto 23, 3), (145, .iload_n 3, 1), (146, .invokestatic 194, 3), (149, .ifCond .eq 8, 3), (152, .bipush 50, 2), (154, .goto 11, 3), (157, .bipush 100, 2), (159, .iload_n 3, 1), (160, .sipush 255, 3), (163, .iand, 1), (164, .iadd, 1), (165, .iastore, 1), (166, .iload_n 2, 1), (167, .istore 5, 2), (169, .iload 5, 2), (171, .iload 4, 2), (173, .if_icmp .ge 74, 3), (176, .iload_n 3, 1), (177, .invokestatic 194, 3), (180, .ifCond .eq 67, 3), (183, .aload_n 0, 1), (184, .getfield 57, 3), (187, .aload_n 0, 1), (188, .getfield 188, 3), (191, .aload_n 0, 1), (192, .getfield 57, 3), (195, .aload_n 0, 1), (196, .getfield 188, 3), (199, .iaload, 1), (200, .ldc 200, 2), (202, .if_icmp .le 15, 3), (205, .aload_n 0, 1), (206, .getfield 57, 3), (209, .aload_n 0, 1), (210, .getfield 188, 3), (213, .iaload, 1), (214, .goto 26, 3), (217, .bipush 10, 2), (219, .aload_n 0, 1), (220, .getfield 57, 3), (223, .aload_n 0, 1), (224, .getfield 188, 3), (227, .iaload, 1), (228, .imul, 1), (229, .aload_n 0, 1), (230, .getfield 45, 3), (233, .iload 5, 2), (235, .baload, 1), (236, .iadd, 1), (237, .bipush 48, 2), (239, .isub, 1), (240, .iastore, 1), (241, .iinc 5 1, 3), (244, .goto (-75), 3), (247, .aload_n 0, 1), (248, .dup, 1), (249, .getfield 188, 3), (252, .iconst 1, 1), (253, .iadd, 1), (254, .putfield 188, 3), (257, .iload 4, 2), (259, .istore_n 2, 1), (260, .goto (-253), 3), (263, .aload_n 0, 1), (264, .getfield 60, 3), (267, .aload_n 0, 1), (268, .getfield 188, 3), (271, .iload_n 1, 1), (272, .iastore, 1), (273, .aload_n 0, 1), (274, .getfield 54, 3), (277, .aload_n 0, 1), (278, .getfield 188, 3), (281, .iconst 0, 1), (282, .iastore, 1), (283, .aload_n 0, 1), (284, .getfield 57, 3), (287, .aload_n 0, 1), (288, .getfield 188, 3), (291, .iconst 0, 1), (292, .iastore, 1), (293, .return_, 1)]
set_option maxRecDepth 20000 in
theorem dt_X11_splits : ∀ q ∈ dl_X11_splits, decode prog_13_method_40_code q.1 = .ok q.2 := by decide +kernel
def kp_X11_splits_7  (x1 : Int32) (X : Xt) (s : (Int32 × Hp)) : Prop := G X s.2 0 0 7 [(0, .ref 81), (1, .int x1), (2, .int s.1)] []
def ke_X11_splits_7  (x1 : Int32) (X : Xt) (e : Hp) : Prop := G X e 0 0 263 [(0, .ref 81), (1, .int x1)] []
def kp_X11_splits_169_7  (x1 : Int32) (x3 : Int32) (x4 : Int32) (X : Xt) (s : (Int32 × Hp)) : Prop := G X s.2 0 0 169 [(0, .ref 81), (1, .int x1), (3, .int x3), (4, .int x4), (5, .int s.1)] []
def ke_X11_splits_169_7  (x1 : Int32) (x3 : Int32) (x4 : Int32) (X : Xt) (e : Hp) : Prop := G X e 0 0 247 [(0, .ref 81), (1, .int x1), (4, .int x4)] []
def j_X11_splits_240_169  (x1 : Int32) (x3 : Int32) (x4 : Int32) (x5 : Int32) (s1 : Int32) (s2 : Int32) (h : Hp) : Option ((Int32 × Hp) ⊕ Hp) :=
  (inb s1 401).bind fun j34 =>
  some (.inl ((x5 + (1 : Int32)), (sA h 91 j34 s2)))
set_option maxRecDepth 20000 in
theorem wj_X11_splits_240_169 {X : Xt} (C : Cx X cn_11 prog_13_method_40_code 6 none 2 0 0)    (x1 : Int32) (x3 : Int32) (x4 : Int32) (x5 : Int32) (s1 : Int32) (s2 : Int32) (h : Hp) (q : (Int32 × Hp) ⊕ Hp) (hrun : j_X11_splits_240_169  x1 x3 x4 x5 s1 s2 h = some q) (Ks : ∀ s, q = .inl s → kp_X11_splits_169_7  x1 x3 x4 X s) (Ke : ∀ e, q = .inr e → ke_X11_splits_169_7  x1 x3 x4 X e) : G X h 0 0 240 [(0, .ref 81), (1, .int x1), (3, .int x3), (4, .int x4), (5, .int x5)] [.int s2, .int s1, .ref 91] := by
  unfold j_X11_splits_240_169 at hrun
  obtain ⟨j34, q35, hrun⟩ := bd hrun
  refine g_iast (j := j34) C (dat dt_X11_splits 124 rfl) kd_91 ltk_91 q35  ?_
  refine g_iinc (v := (x5 + (1 : Int32))) (lv' := [(0, .ref 81), (1, .int x1), (3, .int x3), (4, .int x4), (5, .int (x5 + (1 : Int32)))]) C (dat dt_X11_splits 125 rfl) 4 rfl (congrArg (fun z => x5 + z) ic_1) (by decide) rfl ?_
  refine g_goto 169 C (dat dt_X11_splits 126 rfl) (by decide) ?_
  cases hrun
  exact Ks ((x5 + (1 : Int32)), (sA h 91 j34 s2)) rfl
def b_X11_splits_169_7  (x1 : Int32) (x3 : Int32) (x4 : Int32) (x5 : Int32) (h : Hp) : Option ((Int32 × Hp) ⊕ Hp) :=
  if x4 ≤ x5 then
  some (.inr ( h))
  else
  (f_X11_isDigit x3).bind fun v24 =>
  if v24 = true then
  (inb (fI h 81 18) 401).bind fun j27 =>
  if (aI h 91 j27) ≤ (1000000 : Int32) then
  (inb (fI h 81 18) 401).bind fun j30 =>
  (inb x5 400).bind fun j32 =>
  j_X11_splits_240_169  x1 x3 x4 x5 (fI h 81 18) ((((10 : Int32) * (aI h 91 j30)) + (aI h 88 j32)) - (48 : Int32)) h
  else
  (inb (fI h 81 18) 401).bind fun j36 =>
  j_X11_splits_240_169  x1 x3 x4 x5 (fI h 81 18) (aI h 91 j36) h
  else
  some (.inr ( h))
set_option maxRecDepth 20000 in
theorem wb_X11_splits_169_7 {X : Xt} (C : Cx X cn_11 prog_13_method_40_code 6 none 2 0 0)   (x1 : Int32) (x3 : Int32) (x4 : Int32) (x5 : Int32) (h : Hp) (q : (Int32 × Hp) ⊕ Hp) (hrun : b_X11_splits_169_7  x1 x3 x4 x5 h = some q) (Ks : ∀ s, q = .inl s → kp_X11_splits_169_7  x1 x3 x4 X s) (Ke : ∀ e, q = .inr e → ke_X11_splits_169_7  x1 x3 x4 X e) : kp_X11_splits_169_7  x1 x3 x4 X (x5, h) := by
  show G X h 0 0 169 [(0, .ref 81), (1, .int x1), (3, .int x3), (4, .int x4), (5, .int x5)] []
  unfold b_X11_splits_169_7 at hrun
  refine g_iload C (dat dt_X11_splits 87 rfl) 4 rfl ?_
  refine g_iload C (dat dt_X11_splits 88 rfl) 3 rfl ?_
  refine g_ic_ge 247 C (dat dt_X11_splits 89 rfl) (by decide) (fun c23 => ?_) (fun c23 => ?_)
  · rw [if_pos c23] at hrun
    refine g_sub [0, 1, 3] (lv' := [(0, .ref 81), (1, .int x1), (4, .int x4)]) rfl ?_
    cases hrun
    exact Ke ( h) rfl
  · rw [if_neg c23] at hrun
    refine g_iload_n C (dat dt_X11_splits 90 rfl) 2 rfl ?_
    obtain ⟨v24, q25, hrun⟩ := bd hrun
    refine g_cSi [.int x3] C (dat dt_X11_splits 91 rfl) ml_11_194 (w_X11_isDigit x3 h v24  q25) rfl rfl cat0 (by decide) c00 ?_
    refine g_if_eq 247 C (dat dt_X11_splits 92 rfl) (by decide) (fun c26 => ?_) (fun c26 => ?_)
    · rw [if_neg (b2i_z c26)] at hrun
      refine g_sub [0, 1, 3] (lv' := [(0, .ref 81), (1, .int x1), (4, .int x4)]) rfl ?_
      cases hrun
      exact Ke ( h) rfl
    · rw [if_pos (b2i_nz c26)] at hrun
      refine g_aload_n C (dat dt_X11_splits 93 rfl) 0 rfl ?_
      refine g_getR C (dat dt_X11_splits 94 rfl) fl_11_57 kd_81 rfl ltk_81 ?_
      refine g_aload_n C (dat dt_X11_splits 95 rfl) 0 rfl ?_
      refine g_getI C (dat dt_X11_splits 96 rfl) fl_11_188 kd_81 rfl ltk_81 ?_
      refine g_aload_n C (dat dt_X11_splits 97 rfl) 0 rfl ?_
      refine g_getR C (dat dt_X11_splits 98 rfl) fl_11_57 kd_81 rfl ltk_81 ?_
      refine g_aload_n C (dat dt_X11_splits 99 rfl) 0 rfl ?_
      refine g_getI C (dat dt_X11_splits 100 rfl) fl_11_188 kd_81 rfl ltk_81 ?_
      obtain ⟨j27, q28, hrun⟩ := bd hrun
      refine g_iald C (dat dt_X11_splits 101 rfl) kd_91 ltk_91 q28 ?_
      refine g_ldc C (dat dt_X11_splits 102 rfl) kc_11_200 ?_
      refine g_ic_le 217 C (dat dt_X11_splits 103 rfl) (by decide) (fun c29 => ?_) (fun c29 => ?_)
      · rw [if_pos c29] at hrun
        refine g_bipush C (dat dt_X11_splits 110 rfl) bp_10 ?_
        refine g_aload_n C (dat dt_X11_splits 111 rfl) 0 rfl ?_
        refine g_getR C (dat dt_X11_splits 112 rfl) fl_11_57 kd_81 rfl ltk_81 ?_
        refine g_aload_n C (dat dt_X11_splits 113 rfl) 0 rfl ?_
        refine g_getI C (dat dt_X11_splits 114 rfl) fl_11_188 kd_81 rfl ltk_81 ?_
        obtain ⟨j30, q31, hrun⟩ := bd hrun
        refine g_iald C (dat dt_X11_splits 115 rfl) kd_91 ltk_91 q31 ?_
        refine g_imul C (dat dt_X11_splits 116 rfl) ?_
        refine g_aload_n C (dat dt_X11_splits 117 rfl) 0 rfl ?_
        refine g_getR C (dat dt_X11_splits 118 rfl) fl_11_45 kd_81 rfl ltk_81 ?_
        refine g_iload C (dat dt_X11_splits 119 rfl) 4 rfl ?_
        obtain ⟨j32, q33, hrun⟩ := bd hrun
        refine g_bald C (dat dt_X11_splits 120 rfl) kd_88 ltk_88 q33 ?_
        refine g_iadd C (dat dt_X11_splits 121 rfl) ?_
        refine g_bipush C (dat dt_X11_splits 122 rfl) bp_48 ?_
        refine g_isub C (dat dt_X11_splits 123 rfl) ?_
        exact wj_X11_splits_240_169 C    x1 x3 x4 x5 (fI h 81 18) ((((10 : Int32) * (aI h 91 j30)) + (aI h 88 j32)) - (48 : Int32)) h _ hrun Ks Ke
      · rw [if_neg c29] at hrun
        refine g_aload_n C (dat dt_X11_splits 104 rfl) 0 rfl ?_
        refine g_getR C (dat dt_X11_splits 105 rfl) fl_11_57 kd_81 rfl ltk_81 ?_
        refine g_aload_n C (dat dt_X11_splits 106 rfl) 0 rfl ?_
        refine g_getI C (dat dt_X11_splits 107 rfl) fl_11_188 kd_81 rfl ltk_81 ?_
        obtain ⟨j36, q37, hrun⟩ := bd hrun
        refine g_iald C (dat dt_X11_splits 108 rfl) kd_91 ltk_91 q37 ?_
        refine g_goto 240 C (dat dt_X11_splits 109 rfl) (by decide) ?_
        exact wj_X11_splits_240_169 C    x1 x3 x4 x5 (fI h 81 18) (aI h 91 j36) h _ hrun Ks Ke
def j_X11_splits_247_7  (x1 : Int32) (x4 : Int32) (h : Hp) : Option ((Int32 × Hp) ⊕ Hp) :=
  some (.inl (x4, (sF h 81 18 ((fI h 81 18) + (1 : Int32)))))
set_option maxRecDepth 20000 in
theorem wj_X11_splits_247_7 {X : Xt} (C : Cx X cn_11 prog_13_method_40_code 6 none 2 0 0)    (x1 : Int32) (x4 : Int32) (h : Hp) (q : (Int32 × Hp) ⊕ Hp) (hrun : j_X11_splits_247_7  x1 x4 h = some q) (Ks : ∀ s, q = .inl s → kp_X11_splits_7  x1 X s) (Ke : ∀ e, q = .inr e → ke_X11_splits_7  x1 X e) : G X h 0 0 247 [(0, .ref 81), (1, .int x1), (4, .int x4)] [] := by
  unfold j_X11_splits_247_7 at hrun
  refine g_aload_n C (dat dt_X11_splits 127 rfl) 0 rfl ?_
  refine g_dup C (dat dt_X11_splits 128 rfl) rfl ?_
  refine g_getI C (dat dt_X11_splits 129 rfl) fl_11_188 kd_81 rfl ltk_81 ?_
  refine g_iconst C (dat dt_X11_splits 130 rfl) ic_1 ?_
  refine g_iadd C (dat dt_X11_splits 131 rfl) ?_
  refine g_putI C (dat dt_X11_splits 132 rfl) fl_11_188 rfl rfl kd_81 rfl ltk_81 ?_
  refine g_iload C (dat dt_X11_splits 133 rfl) 2 rfl ?_
  refine g_istore_n (lv' := [(0, .ref 81), (1, .int x1), (2, .int x4), (4, .int x4)]) C (dat dt_X11_splits 134 rfl) (by decide) rfl ?_
  refine g_goto 7 C (dat dt_X11_splits 135 rfl) (by decide) ?_
  refine g_sub [0, 1, 2] (lv' := [(0, .ref 81), (1, .int x1), (2, .int x4)]) rfl ?_
  cases hrun
  exact Ks (x4, (sF h 81 18 ((fI h 81 18) + (1 : Int32)))) rfl
def j_X11_splits_165_7  (x1 : Int32) (x2 : Int32) (x3 : Int32) (x4 : Int32) (s1 : Int32) (s2 : Int32) (h : Hp) : Option ((Int32 × Hp) ⊕ Hp) :=
  (inb s1 401).bind fun j21 =>
  (lp (fun s => b_X11_splits_169_7  x1 x3 x4 s.1 s.2) FU (x2, (sA h 90 j21 s2))).bind fun e38 =>
  j_X11_splits_247_7  x1 x4 e38
set_option maxRecDepth 20000 in
theorem wj_X11_splits_165_7 {X : Xt} (C : Cx X cn_11 prog_13_method_40_code 6 none 2 0 0)    (x1 : Int32) (x2 : Int32) (x3 : Int32) (x4 : Int32) (s1 : Int32) (s2 : Int32) (h : Hp) (q : (Int32 × Hp) ⊕ Hp) (hrun : j_X11_splits_165_7  x1 x2 x3 x4 s1 s2 h = some q) (Ks : ∀ s, q = .inl s → kp_X11_splits_7  x1 X s) (Ke : ∀ e, q = .inr e → ke_X11_splits_7  x1 X e) : G X h 0 0 165 [(0, .ref 81), (1, .int x1), (2, .int x2), (3, .int x3), (4, .int x4)] [.int s2, .int s1, .ref 90] := by
  unfold j_X11_splits_165_7 at hrun
  obtain ⟨j21, q22, hrun⟩ := bd hrun
  refine g_iast (j := j21) C (dat dt_X11_splits 84 rfl) kd_90 ltk_90 q22  ?_
  refine g_iload_n C (dat dt_X11_splits 85 rfl) 2 rfl ?_
  refine g_istore (lv' := [(0, .ref 81), (1, .int x1), (2, .int x2), (3, .int x3), (4, .int x4), (5, .int x2)]) C (dat dt_X11_splits 86 rfl) (by decide) rfl ?_
  refine g_sub [0, 1, 3, 4, 5] (lv' := [(0, .ref 81), (1, .int x1), (3, .int x3), (4, .int x4), (5, .int x2)]) rfl ?_
  obtain ⟨e38, q39, hrun⟩ := bd hrun
  refine lp_ind (P := fun s => kp_X11_splits_169_7  x1 x3 x4 X s) (K := fun e => ke_X11_splits_169_7  x1 x3 x4 X e) (fun s q hb Ks Ke => wb_X11_splits_169_7 C   x1 x3 x4 s.1 s.2 q hb Ks Ke) FU (x2, (sA h 90 j21 s2)) e38 q39 ?_
  show G X e38 0 0 247 [(0, .ref 81), (1, .int x1), (4, .int x4)] []
  exact wj_X11_splits_247_7 C    x1 x4 e38 _ hrun Ks Ke
def j_X11_splits_100_7  (x1 : Int32) (x2 : Int32) (x3 : Int32) (x4 : Int32) (h : Hp) : Option ((Int32 × Hp) ⊕ Hp) :=
  (inb (fI h 81 18) 401).bind fun j11 =>
  (inb (fI (sA h 92 j11 x2) 81 18) 401).bind fun j13 =>
  (f_X11_isSmall x3).bind fun v15 =>
  if v15 = true then
  (f_X11_wordOf x2 x4 (sA (sA h 92 j11 x2) 91 j13 (0 : Int32))).bind fun v40 =>
  j_X11_splits_165_7  x1 x2 x3 x4 (fI (sA (sA h 92 j11 x2) 91 j13 (0 : Int32)) 81 18) v40 (sA (sA h 92 j11 x2) 91 j13 (0 : Int32))
  else
  (f_X11_isDigit x3).bind fun v18 =>
  if v18 = true then
  j_X11_splits_165_7  x1 x2 x3 x4 (fI (sA (sA h 92 j11 x2) 91 j13 (0 : Int32)) 81 18) (50 : Int32) (sA (sA h 92 j11 x2) 91 j13 (0 : Int32))
  else
  j_X11_splits_165_7  x1 x2 x3 x4 (fI (sA (sA h 92 j11 x2) 91 j13 (0 : Int32)) 81 18) ((100 : Int32) + (x3 &&& (255 : Int32))) (sA (sA h 92 j11 x2) 91 j13 (0 : Int32))
set_option maxRecDepth 20000 in
theorem wj_X11_splits_100_7 {X : Xt} (C : Cx X cn_11 prog_13_method_40_code 6 none 2 0 0)    (x1 : Int32) (x2 : Int32) (x3 : Int32) (x4 : Int32) (h : Hp) (q : (Int32 × Hp) ⊕ Hp) (hrun : j_X11_splits_100_7  x1 x2 x3 x4 h = some q) (Ks : ∀ s, q = .inl s → kp_X11_splits_7  x1 X s) (Ke : ∀ e, q = .inr e → ke_X11_splits_7  x1 X e) : G X h 0 0 100 [(0, .ref 81), (1, .int x1), (2, .int x2), (3, .int x3), (4, .int x4)] [] := by
  unfold j_X11_splits_100_7 at hrun
  refine g_aload_n C (dat dt_X11_splits 50 rfl) 0 rfl ?_
  refine g_getR C (dat dt_X11_splits 51 rfl) fl_11_60 kd_81 rfl ltk_81 ?_
  refine g_aload_n C (dat dt_X11_splits 52 rfl) 0 rfl ?_
  refine g_getI C (dat dt_X11_splits 53 rfl) fl_11_188 kd_81 rfl ltk_81 ?_
  refine g_iload_n C (dat dt_X11_splits 54 rfl) 2 rfl ?_
  obtain ⟨j11, q12, hrun⟩ := bd hrun
  refine g_iast (j := j11) C (dat dt_X11_splits 55 rfl) kd_92 ltk_92 q12  ?_
  refine g_aload_n C (dat dt_X11_splits 56 rfl) 0 rfl ?_
  refine g_getR C (dat dt_X11_splits 57 rfl) fl_11_57 kd_81 rfl ltk_81 ?_
  refine g_aload_n C (dat dt_X11_splits 58 rfl) 0 rfl ?_
  refine g_getI C (dat dt_X11_splits 59 rfl) fl_11_188 kd_81 rfl ltk_81 ?_
  refine g_iconst C (dat dt_X11_splits 60 rfl) ic_0 ?_
  obtain ⟨j13, q14, hrun⟩ := bd hrun
  refine g_iast (j := j13) C (dat dt_X11_splits 61 rfl) kd_91 ltk_91 q14  ?_
  refine g_aload_n C (dat dt_X11_splits 62 rfl) 0 rfl ?_
  refine g_getR C (dat dt_X11_splits 63 rfl) fl_11_54 kd_81 rfl ltk_81 ?_
  refine g_aload_n C (dat dt_X11_splits 64 rfl) 0 rfl ?_
  refine g_getI C (dat dt_X11_splits 65 rfl) fl_11_188 kd_81 rfl ltk_81 ?_
  refine g_iload_n C (dat dt_X11_splits 66 rfl) 3 rfl ?_
  obtain ⟨v15, q16, hrun⟩ := bd hrun
  refine g_cSi [.int x3] C (dat dt_X11_splits 67 rfl) ml_11_191 (w_X11_isSmall x3 (sA (sA h 92 j11 x2) 91 j13 (0 : Int32)) v15  q16) rfl rfl (Nat.le_of_ble_eq_true rfl) (by decide) c00 ?_
  refine g_if_eq 145 C (dat dt_X11_splits 68 rfl) (by decide) (fun c17 => ?_) (fun c17 => ?_)
  · rw [if_neg (b2i_z c17)] at hrun
    refine g_iload_n C (dat dt_X11_splits 74 rfl) 3 rfl ?_
    obtain ⟨v18, q19, hrun⟩ := bd hrun
    refine g_cSi [.int x3] C (dat dt_X11_splits 75 rfl) ml_11_194 (w_X11_isDigit x3 (sA (sA h 92 j11 x2) 91 j13 (0 : Int32)) v18  q19) rfl rfl (Nat.le_of_ble_eq_true rfl) (by decide) c00 ?_
    refine g_if_eq 157 C (dat dt_X11_splits 76 rfl) (by decide) (fun c20 => ?_) (fun c20 => ?_)
    · rw [if_neg (b2i_z c20)] at hrun
      refine g_bipush C (dat dt_X11_splits 79 rfl) bp_100 ?_
      refine g_iload_n C (dat dt_X11_splits 80 rfl) 3 rfl ?_
      refine g_sipush C (dat dt_X11_splits 81 rfl) sp_255 ?_
      refine g_iand C (dat dt_X11_splits 82 rfl) ?_
      refine g_iadd C (dat dt_X11_splits 83 rfl) ?_
      exact wj_X11_splits_165_7 C    x1 x2 x3 x4 (fI (sA (sA h 92 j11 x2) 91 j13 (0 : Int32)) 81 18) ((100 : Int32) + (x3 &&& (255 : Int32))) (sA (sA h 92 j11 x2) 91 j13 (0 : Int32)) _ hrun Ks Ke
    · rw [if_pos (b2i_nz c20)] at hrun
      refine g_bipush C (dat dt_X11_splits 77 rfl) bp_50 ?_
      refine g_goto 165 C (dat dt_X11_splits 78 rfl) (by decide) ?_
      exact wj_X11_splits_165_7 C    x1 x2 x3 x4 (fI (sA (sA h 92 j11 x2) 91 j13 (0 : Int32)) 81 18) (50 : Int32) (sA (sA h 92 j11 x2) 91 j13 (0 : Int32)) _ hrun Ks Ke
  · rw [if_pos (b2i_nz c17)] at hrun
    refine g_aload_n C (dat dt_X11_splits 69 rfl) 0 rfl ?_
    refine g_iload_n C (dat dt_X11_splits 70 rfl) 2 rfl ?_
    refine g_iload C (dat dt_X11_splits 71 rfl) 4 rfl ?_
    obtain ⟨v40, q41, hrun⟩ := bd hrun
    refine g_cVi [.int x2, .int x4] C (dat dt_X11_splits 72 rfl) ml_11_197 (w_X11_wordOf x2 x4 (sA (sA h 92 j11 x2) 91 j13 (0 : Int32)) v40  q41) kd_81 ltk_81 rfl rfl (Nat.le_of_ble_eq_true rfl) (by decide) c00 ?_
    refine g_goto 165 C (dat dt_X11_splits 73 rfl) (by decide) ?_
    exact wj_X11_splits_165_7 C    x1 x2 x3 x4 (fI (sA (sA h 92 j11 x2) 91 j13 (0 : Int32)) 81 18) v40 (sA (sA h 92 j11 x2) 91 j13 (0 : Int32)) _ hrun Ks Ke
def kp_X11_splits_75_7  (x1 : Int32) (x2 : Int32) (x3 : Int32) (h : Hp) (X : Xt) (s : Int32) : Prop := G X h 0 0 75 [(0, .ref 81), (1, .int x1), (2, .int x2), (3, .int x3), (4, .int s)] []
def ke_X11_splits_75_7  (x1 : Int32) (x2 : Int32) (x3 : Int32) (h : Hp) (X : Xt) (e : Int32) : Prop := G X h 0 0 100 [(0, .ref 81), (1, .int x1), (2, .int x2), (3, .int x3), (4, .int e)] []
def b_X11_splits_75_7  (x1 : Int32) (x2 : Int32) (x3 : Int32) (x4 : Int32) (h : Hp) : Option (Int32 ⊕ Int32) :=
  if x1 ≤ x4 then
  some (.inr ( x4))
  else
  (inb x4 400).bind fun j43 =>
  (f_X11_isDigit (aI h 88 j43)).bind fun v45 =>
  if v45 = true then
  some (.inl (x4 + (1 : Int32)))
  else
  some (.inr ( x4))
set_option maxRecDepth 20000 in
theorem wb_X11_splits_75_7 {X : Xt} (C : Cx X cn_11 prog_13_method_40_code 6 none 2 0 0)   (x1 : Int32) (x2 : Int32) (x3 : Int32) (x4 : Int32) (h : Hp) (q : Int32 ⊕ Int32) (hrun : b_X11_splits_75_7  x1 x2 x3 x4 h = some q) (Ks : ∀ s, q = .inl s → kp_X11_splits_75_7  x1 x2 x3 h X s) (Ke : ∀ e, q = .inr e → ke_X11_splits_75_7  x1 x2 x3 h X e) : kp_X11_splits_75_7  x1 x2 x3 h X x4 := by
  show G X h 0 0 75 [(0, .ref 81), (1, .int x1), (2, .int x2), (3, .int x3), (4, .int x4)] []
  unfold b_X11_splits_75_7 at hrun
  refine g_iload C (dat dt_X11_splits 39 rfl) 4 rfl ?_
  refine g_iload_n C (dat dt_X11_splits 40 rfl) 1 rfl ?_
  refine g_ic_ge 100 C (dat dt_X11_splits 41 rfl) (by decide) (fun c42 => ?_) (fun c42 => ?_)
  · rw [if_pos c42] at hrun
    cases hrun
    exact Ke ( x4) rfl
  · rw [if_neg c42] at hrun
    refine g_aload_n C (dat dt_X11_splits 42 rfl) 0 rfl ?_
    refine g_getR C (dat dt_X11_splits 43 rfl) fl_11_45 kd_81 rfl ltk_81 ?_
    refine g_iload C (dat dt_X11_splits 44 rfl) 4 rfl ?_
    obtain ⟨j43, q44, hrun⟩ := bd hrun
    refine g_bald C (dat dt_X11_splits 45 rfl) kd_88 ltk_88 q44 ?_
    obtain ⟨v45, q46, hrun⟩ := bd hrun
    refine g_cSi [.int (aI h 88 j43)] C (dat dt_X11_splits 46 rfl) ml_11_194 (w_X11_isDigit (aI h 88 j43) h v45  q46) rfl rfl cat0 (by decide) c00 ?_
    refine g_if_eq 100 C (dat dt_X11_splits 47 rfl) (by decide) (fun c47 => ?_) (fun c47 => ?_)
    · rw [if_neg (b2i_z c47)] at hrun
      cases hrun
      exact Ke ( x4) rfl
    · rw [if_pos (b2i_nz c47)] at hrun
      refine g_iinc (v := (x4 + (1 : Int32))) (lv' := [(0, .ref 81), (1, .int x1), (2, .int x2), (3, .int x3), (4, .int (x4 + (1 : Int32)))]) C (dat dt_X11_splits 48 rfl) 4 rfl (congrArg (fun z => x4 + z) ic_1) (by decide) rfl ?_
      refine g_goto 75 C (dat dt_X11_splits 49 rfl) (by decide) ?_
      cases hrun
      exact Ks (x4 + (1 : Int32)) rfl
def j_X11_splits_68_7  (x1 : Int32) (x2 : Int32) (x3 : Int32) (x4 : Int32) (h : Hp) : Option ((Int32 × Hp) ⊕ Hp) :=
  (f_X11_isDigit x3).bind fun v8 =>
  if v8 = true then
  (lp (fun s => b_X11_splits_75_7  x1 x2 x3 s h) FU x4).bind fun e48 =>
  j_X11_splits_100_7  x1 x2 x3 e48 h
  else
  j_X11_splits_100_7  x1 x2 x3 x4 h
set_option maxRecDepth 20000 in
theorem wj_X11_splits_68_7 {X : Xt} (C : Cx X cn_11 prog_13_method_40_code 6 none 2 0 0)    (x1 : Int32) (x2 : Int32) (x3 : Int32) (x4 : Int32) (h : Hp) (q : (Int32 × Hp) ⊕ Hp) (hrun : j_X11_splits_68_7  x1 x2 x3 x4 h = some q) (Ks : ∀ s, q = .inl s → kp_X11_splits_7  x1 X s) (Ke : ∀ e, q = .inr e → ke_X11_splits_7  x1 X e) : G X h 0 0 68 [(0, .ref 81), (1, .int x1), (2, .int x2), (3, .int x3), (4, .int x4)] [] := by
  unfold j_X11_splits_68_7 at hrun
  refine g_iload_n C (dat dt_X11_splits 36 rfl) 3 rfl ?_
  obtain ⟨v8, q9, hrun⟩ := bd hrun
  refine g_cSi [.int x3] C (dat dt_X11_splits 37 rfl) ml_11_194 (w_X11_isDigit x3 h v8  q9) rfl rfl cat0 (by decide) c00 ?_
  refine g_if_eq 100 C (dat dt_X11_splits 38 rfl) (by decide) (fun c10 => ?_) (fun c10 => ?_)
  · rw [if_neg (b2i_z c10)] at hrun
    exact wj_X11_splits_100_7 C    x1 x2 x3 x4 h _ hrun Ks Ke
  · rw [if_pos (b2i_nz c10)] at hrun
    obtain ⟨e48, q49, hrun⟩ := bd hrun
    refine lp_ind (P := fun s => kp_X11_splits_75_7  x1 x2 x3 h X s) (K := fun e => ke_X11_splits_75_7  x1 x2 x3 h X e) (fun s q hb Ks Ke => wb_X11_splits_75_7 C   x1 x2 x3 s h q hb Ks Ke) FU x4 e48 q49 ?_
    show G X h 0 0 100 [(0, .ref 81), (1, .int x1), (2, .int x2), (3, .int x3), (4, .int e48)] []
    exact wj_X11_splits_100_7 C    x1 x2 x3 e48 h _ hrun Ks Ke
def kp_X11_splits_43_7  (x1 : Int32) (x2 : Int32) (x3 : Int32) (h : Hp) (X : Xt) (s : Int32) : Prop := G X h 0 0 43 [(0, .ref 81), (1, .int x1), (2, .int x2), (3, .int x3), (4, .int s)] []
def ke_X11_splits_43_7  (x1 : Int32) (x2 : Int32) (x3 : Int32) (h : Hp) (X : Xt) (e : Int32) : Prop := G X h 0 0 68 [(0, .ref 81), (1, .int x1), (2, .int x2), (3, .int x3), (4, .int e)] []
def b_X11_splits_43_7  (x1 : Int32) (x2 : Int32) (x3 : Int32) (x4 : Int32) (h : Hp) : Option (Int32 ⊕ Int32) :=
  if x1 ≤ x4 then
  some (.inr ( x4))
  else
  (inb x4 400).bind fun j51 =>
  (f_X11_isSmall (aI h 88 j51)).bind fun v53 =>
  if v53 = true then
  some (.inl (x4 + (1 : Int32)))
  else
  some (.inr ( x4))
set_option maxRecDepth 20000 in
theorem wb_X11_splits_43_7 {X : Xt} (C : Cx X cn_11 prog_13_method_40_code 6 none 2 0 0)   (x1 : Int32) (x2 : Int32) (x3 : Int32) (x4 : Int32) (h : Hp) (q : Int32 ⊕ Int32) (hrun : b_X11_splits_43_7  x1 x2 x3 x4 h = some q) (Ks : ∀ s, q = .inl s → kp_X11_splits_43_7  x1 x2 x3 h X s) (Ke : ∀ e, q = .inr e → ke_X11_splits_43_7  x1 x2 x3 h X e) : kp_X11_splits_43_7  x1 x2 x3 h X x4 := by
  show G X h 0 0 43 [(0, .ref 81), (1, .int x1), (2, .int x2), (3, .int x3), (4, .int x4)] []
  unfold b_X11_splits_43_7 at hrun
  refine g_iload C (dat dt_X11_splits 25 rfl) 4 rfl ?_
  refine g_iload_n C (dat dt_X11_splits 26 rfl) 1 rfl ?_
  refine g_ic_ge 68 C (dat dt_X11_splits 27 rfl) (by decide) (fun c50 => ?_) (fun c50 => ?_)
  · rw [if_pos c50] at hrun
    cases hrun
    exact Ke ( x4) rfl
  · rw [if_neg c50] at hrun
    refine g_aload_n C (dat dt_X11_splits 28 rfl) 0 rfl ?_
    refine g_getR C (dat dt_X11_splits 29 rfl) fl_11_45 kd_81 rfl ltk_81 ?_
    refine g_iload C (dat dt_X11_splits 30 rfl) 4 rfl ?_
    obtain ⟨j51, q52, hrun⟩ := bd hrun
    refine g_bald C (dat dt_X11_splits 31 rfl) kd_88 ltk_88 q52 ?_
    obtain ⟨v53, q54, hrun⟩ := bd hrun
    refine g_cSi [.int (aI h 88 j51)] C (dat dt_X11_splits 32 rfl) ml_11_191 (w_X11_isSmall (aI h 88 j51) h v53  q54) rfl rfl cat0 (by decide) c00 ?_
    refine g_if_eq 68 C (dat dt_X11_splits 33 rfl) (by decide) (fun c55 => ?_) (fun c55 => ?_)
    · rw [if_neg (b2i_z c55)] at hrun
      cases hrun
      exact Ke ( x4) rfl
    · rw [if_pos (b2i_nz c55)] at hrun
      refine g_iinc (v := (x4 + (1 : Int32))) (lv' := [(0, .ref 81), (1, .int x1), (2, .int x2), (3, .int x3), (4, .int (x4 + (1 : Int32)))]) C (dat dt_X11_splits 34 rfl) 4 rfl (congrArg (fun z => x4 + z) ic_1) (by decide) rfl ?_
      refine g_goto 43 C (dat dt_X11_splits 35 rfl) (by decide) ?_
      cases hrun
      exact Ks (x4 + (1 : Int32)) rfl
def b_X11_splits_7  (x1 : Int32) (x2 : Int32) (h : Hp) : Option ((Int32 × Hp) ⊕ Hp) :=
  if x1 ≤ x2 then
  some (.inr ( h))
  else
  (inb x2 400).bind fun j2 =>
  if (aI h 88 j2) = (32 : Int32) then
  some (.inl ((x2 + (1 : Int32)), h))
  else
  (f_X11_isSmall (aI h 88 j2)).bind fun v5 =>
  if v5 = true then
  (lp (fun s => b_X11_splits_43_7  x1 x2 (aI h 88 j2) s h) FU (x2 + (1 : Int32))).bind fun e56 =>
  j_X11_splits_68_7  x1 x2 (aI h 88 j2) e56 h
  else
  j_X11_splits_68_7  x1 x2 (aI h 88 j2) (x2 + (1 : Int32)) h
set_option maxRecDepth 20000 in
theorem wb_X11_splits_7 {X : Xt} (C : Cx X cn_11 prog_13_method_40_code 6 none 2 0 0)   (x1 : Int32) (x2 : Int32) (h : Hp) (q : (Int32 × Hp) ⊕ Hp) (hrun : b_X11_splits_7  x1 x2 h = some q) (Ks : ∀ s, q = .inl s → kp_X11_splits_7  x1 X s) (Ke : ∀ e, q = .inr e → ke_X11_splits_7  x1 X e) : kp_X11_splits_7  x1 X (x2, h) := by
  show G X h 0 0 7 [(0, .ref 81), (1, .int x1), (2, .int x2)] []
  unfold b_X11_splits_7 at hrun
  refine g_iload_n C (dat dt_X11_splits 5 rfl) 2 rfl ?_
  refine g_iload_n C (dat dt_X11_splits 6 rfl) 1 rfl ?_
  refine g_ic_ge 263 C (dat dt_X11_splits 7 rfl) (by decide) (fun c1 => ?_) (fun c1 => ?_)
  · rw [if_pos c1] at hrun
    refine g_sub [0, 1] (lv' := [(0, .ref 81), (1, .int x1)]) rfl ?_
    cases hrun
    exact Ke ( h) rfl
  · rw [if_neg c1] at hrun
    refine g_aload_n C (dat dt_X11_splits 8 rfl) 0 rfl ?_
    refine g_getR C (dat dt_X11_splits 9 rfl) fl_11_45 kd_81 rfl ltk_81 ?_
    refine g_iload_n C (dat dt_X11_splits 10 rfl) 2 rfl ?_
    obtain ⟨j2, q3, hrun⟩ := bd hrun
    refine g_bald C (dat dt_X11_splits 11 rfl) kd_88 ltk_88 q3 ?_
    refine g_istore_n (lv' := [(0, .ref 81), (1, .int x1), (2, .int x2), (3, .int (aI h 88 j2))]) C (dat dt_X11_splits 12 rfl) (by decide) rfl ?_
    refine g_iload_n C (dat dt_X11_splits 13 rfl) 3 rfl ?_
    refine g_bipush C (dat dt_X11_splits 14 rfl) bp_32 ?_
    refine g_ic_ne 31 C (dat dt_X11_splits 15 rfl) (by decide) (fun c4 => ?_) (fun c4 => ?_)
    · rw [if_neg c4] at hrun
      refine g_iload_n C (dat dt_X11_splits 18 rfl) 2 rfl ?_
      refine g_iconst C (dat dt_X11_splits 19 rfl) ic_1 ?_
      refine g_iadd C (dat dt_X11_splits 20 rfl) ?_
      refine g_istore (lv' := [(0, .ref 81), (1, .int x1), (2, .int x2), (3, .int (aI h 88 j2)), (4, .int (x2 + (1 : Int32)))]) C (dat dt_X11_splits 21 rfl) (by decide) rfl ?_
      refine g_iload_n C (dat dt_X11_splits 22 rfl) 3 rfl ?_
      obtain ⟨v5, q6, hrun⟩ := bd hrun
      refine g_cSi [.int (aI h 88 j2)] C (dat dt_X11_splits 23 rfl) ml_11_191 (w_X11_isSmall (aI h 88 j2) h v5  q6) rfl rfl cat0 (by decide) c00 ?_
      refine g_if_eq 68 C (dat dt_X11_splits 24 rfl) (by decide) (fun c7 => ?_) (fun c7 => ?_)
      · rw [if_neg (b2i_z c7)] at hrun
        exact wj_X11_splits_68_7 C    x1 x2 (aI h 88 j2) (x2 + (1 : Int32)) h _ hrun Ks Ke
      · rw [if_pos (b2i_nz c7)] at hrun
        obtain ⟨e56, q57, hrun⟩ := bd hrun
        refine lp_ind (P := fun s => kp_X11_splits_43_7  x1 x2 (aI h 88 j2) h X s) (K := fun e => ke_X11_splits_43_7  x1 x2 (aI h 88 j2) h X e) (fun s q hb Ks Ke => wb_X11_splits_43_7 C   x1 x2 (aI h 88 j2) s h q hb Ks Ke) FU (x2 + (1 : Int32)) e56 q57 ?_
        show G X h 0 0 68 [(0, .ref 81), (1, .int x1), (2, .int x2), (3, .int (aI h 88 j2)), (4, .int e56)] []
        exact wj_X11_splits_68_7 C    x1 x2 (aI h 88 j2) e56 h _ hrun Ks Ke
    · rw [if_pos c4] at hrun
      refine g_iinc (v := (x2 + (1 : Int32))) (lv' := [(0, .ref 81), (1, .int x1), (2, .int (x2 + (1 : Int32))), (3, .int (aI h 88 j2))]) C (dat dt_X11_splits 16 rfl) 2 rfl (congrArg (fun z => x2 + z) ic_1) (by decide) rfl ?_
      refine g_goto 7 C (dat dt_X11_splits 17 rfl) (by decide) ?_
      refine g_sub [0, 1, 2] (lv' := [(0, .ref 81), (1, .int x1), (2, .int (x2 + (1 : Int32)))]) rfl ?_
      cases hrun
      exact Ks ((x2 + (1 : Int32)), h) rfl
def f_X11_splits (x1 : Int32) (h : Hp) : Option (Unit × Hp) :=
  (lp (fun s => b_X11_splits_7  x1 s.1 s.2) FU ((0 : Int32), (sF h 81 18 (0 : Int32)))).bind fun e58 =>
  (inb (fI e58 81 18) 401).bind fun j60 =>
  (inb (fI (sA e58 92 j60 x1) 81 18) 401).bind fun j62 =>
  (inb (fI (sA (sA e58 92 j60 x1) 90 j62 (0 : Int32)) 81 18) 401).bind fun j64 =>
  some ((), (sA (sA (sA e58 92 j60 x1) 90 j62 (0 : Int32)) 91 j64 (0 : Int32)))
set_option maxRecDepth 20000 in
theorem w_X11_splits (x1 : Int32) (h : Hp) (q : (Unit × Hp))  (hrun : f_X11_splits x1 h = some q) : MetA ⟨"SteamNationsModel", "splits", "(I)V"⟩ prog_13_method_40_code 6 none 2 0 0 [.ref 81, .int x1] h none q.2 := by
  refine metA_of (by decide) (Nat.le_of_ble_eq_true rfl) (fun X C K => ?_)
  have C : Cx X cn_11 prog_13_method_40_code 6 none 2 0 0 := C
  show G X h 0 0 0 [(0, .ref 81), (1, .int x1)] []
  unfold f_X11_splits at hrun
  refine g_aload_n C (dat dt_X11_splits 0 rfl) 0 rfl ?_
  refine g_iconst C (dat dt_X11_splits 1 rfl) ic_0 ?_
  refine g_putI C (dat dt_X11_splits 2 rfl) fl_11_188 rfl rfl kd_81 rfl ltk_81 ?_
  refine g_iconst C (dat dt_X11_splits 3 rfl) ic_0 ?_
  refine g_istore_n (lv' := [(0, .ref 81), (1, .int x1), (2, .int (0 : Int32))]) C (dat dt_X11_splits 4 rfl) (by decide) rfl ?_
  obtain ⟨e58, q59, hrun⟩ := bd hrun
  refine lp_ind (P := fun s => kp_X11_splits_7  x1 X s) (K := fun e => ke_X11_splits_7  x1 X e) (fun s q hb Ks Ke => wb_X11_splits_7 C   x1 s.1 s.2 q hb Ks Ke) FU ((0 : Int32), (sF h 81 18 (0 : Int32))) e58 q59 ?_
  show G X e58 0 0 263 [(0, .ref 81), (1, .int x1)] []
  refine g_aload_n C (dat dt_X11_splits 136 rfl) 0 rfl ?_
  refine g_getR C (dat dt_X11_splits 137 rfl) fl_11_60 kd_81 rfl ltk_81 ?_
  refine g_aload_n C (dat dt_X11_splits 138 rfl) 0 rfl ?_
  refine g_getI C (dat dt_X11_splits 139 rfl) fl_11_188 kd_81 rfl ltk_81 ?_
  refine g_iload_n C (dat dt_X11_splits 140 rfl) 1 rfl ?_
  obtain ⟨j60, q61, hrun⟩ := bd hrun
  refine g_iast (j := j60) C (dat dt_X11_splits 141 rfl) kd_92 ltk_92 q61  ?_
  refine g_aload_n C (dat dt_X11_splits 142 rfl) 0 rfl ?_
  refine g_getR C (dat dt_X11_splits 143 rfl) fl_11_54 kd_81 rfl ltk_81 ?_
  refine g_aload_n C (dat dt_X11_splits 144 rfl) 0 rfl ?_
  refine g_getI C (dat dt_X11_splits 145 rfl) fl_11_188 kd_81 rfl ltk_81 ?_
  refine g_iconst C (dat dt_X11_splits 146 rfl) ic_0 ?_
  obtain ⟨j62, q63, hrun⟩ := bd hrun
  refine g_iast (j := j62) C (dat dt_X11_splits 147 rfl) kd_90 ltk_90 q63  ?_
  refine g_aload_n C (dat dt_X11_splits 148 rfl) 0 rfl ?_
  refine g_getR C (dat dt_X11_splits 149 rfl) fl_11_57 kd_81 rfl ltk_81 ?_
  refine g_aload_n C (dat dt_X11_splits 150 rfl) 0 rfl ?_
  refine g_getI C (dat dt_X11_splits 151 rfl) fl_11_188 kd_81 rfl ltk_81 ?_
  refine g_iconst C (dat dt_X11_splits 152 rfl) ic_0 ?_
  obtain ⟨j64, q65, hrun⟩ := bd hrun
  refine g_iast (j := j64) C (dat dt_X11_splits 153 rfl) kd_91 ltk_91 q65  ?_
  cases hrun
  exact g_vret C K (dat dt_X11_splits 154 rfl)
/-! SteamNationsModel.fine()Z -/
def dl_X11_fine : List (Nat × Instr × Nat) := [(0, .aload_n 0, 1), (1, .getfield 201, 3), (4, .iconst (-1), 1), (5, .if_icmp .ne 7, 3), (8, .iconst 1, 1), (9, .goto 4, 3), (12, .iconst 0, 1), (13, .ireturn, 1)]
set_option maxRecDepth 20000 in
theorem dt_X11_fine : ∀ q ∈ dl_X11_fine, decode prog_13_method_41_code q.1 = .ok q.2 := by decide +kernel
def f_X11_fine  (h : Hp) : Option Bool :=
  if (fI h 81 21) = (-1 : Int32) then
  some true
  else
  some false
set_option maxRecDepth 20000 in
theorem w_X11_fine  (h : Hp) (q : Bool)  (hrun : f_X11_fine  h = some q) : MetA ⟨"SteamNationsModel", "fine", "()Z"⟩ prog_13_method_41_code 1 (some .boolean) 1 0 0 [.ref 81] h (some (.int (b2i q))) h := by
  refine metA_of (by decide) (Nat.le_of_ble_eq_true rfl) (fun X C K => ?_)
  have C : Cx X cn_11 prog_13_method_41_code 1 (some .boolean) 1 0 0 := C
  show G X h 0 0 0 [(0, .ref 81)] []
  unfold f_X11_fine at hrun
  refine g_aload_n C (dat dt_X11_fine 0 rfl) 0 rfl ?_
  refine g_getI C (dat dt_X11_fine 1 rfl) fl_11_201 kd_81 rfl ltk_81 ?_
  refine g_iconst C (dat dt_X11_fine 2 rfl) ic_m1 ?_
  refine g_ic_ne 12 C (dat dt_X11_fine 3 rfl) (by decide) (fun c1 => ?_) (fun c1 => ?_)
  · rw [if_neg c1] at hrun
    refine g_iconst C (dat dt_X11_fine 6 rfl) ic_0 ?_
    cases hrun
    exact g_zret C K (show (0 : Int32) = b2i false by decide) (dat dt_X11_fine 7 rfl)
  · rw [if_pos c1] at hrun
    refine g_iconst C (dat dt_X11_fine 4 rfl) ic_1 ?_
    refine g_goto 13 C (dat dt_X11_fine 5 rfl) (by decide) ?_
    cases hrun
    exact g_zret C K (show (1 : Int32) = b2i true by decide) (dat dt_X11_fine 7 rfl)
/-! SteamNationsModel.takes0(I)Z -/
def dl_X11_takes0 : List (Nat × Instr × Nat) := [(0, .aload_n 0, 1), (1, .invokevirtual 204, 3), (4, .ifCond .eq 20, 3), (7, .aload_n 0, 1), (8, .getfield 54, 3), (11, .aload_n 0, 1), (12, .getfield 208, 3), (15, .iaload, 1), (16, .iload_n 1, 1), (17, .if_icmp .ne 7, 3), (20, .iconst 1, 1), (21, .goto 4, 3), (24, .iconst 0, 1), (25, .istore_n 2, 1), (26, .iload_n 2, 1), (27, .ifCond .eq 13, 3), (30, .aload_n 0, 1), (31, .dup, 1), (32, .getfield 208, 3), (35, .iconst 1, 1), (36, .iadd, 1), (37, .putfield 208, 3), (40, .iload_n 2, 1), (41, .ireturn, 1)]
set_option maxRecDepth 20000 in
theorem dt_X11_takes0 : ∀ q ∈ dl_X11_takes0, decode prog_13_method_43_code q.1 = .ok q.2 := by decide +kernel
def j_X11_takes0_25  (s0 : Int32) (h : Hp) : Option (Bool × Hp) :=
  if s0 = 0 then
  (i2b s0).bind fun b5 => some (b5, h)
  else
  (i2b s0).bind fun b7 => some (b7, (sF h 81 19 ((fI h 81 19) + (1 : Int32))))
set_option maxRecDepth 20000 in
theorem wj_X11_takes0_25 {X : Xt} (C : Cx X cn_11 prog_13_method_43_code 3 (some .boolean) 2 0 0)    (s0 : Int32) (h : Hp) (q : (Bool × Hp)) (hrun : j_X11_takes0_25  s0 h = some q) (K : EndQ X 0 0 (some (.int (b2i q.1))) q.2) : G X h 0 0 25 [(0, .ref 81)] [.int s0] := by
  unfold j_X11_takes0_25 at hrun
  refine g_istore_n (lv' := [(0, .ref 81), (2, .int s0)]) C (dat dt_X11_takes0 13 rfl) (by decide) rfl ?_
  refine g_iload_n C (dat dt_X11_takes0 14 rfl) 1 rfl ?_
  refine g_if_eq 40 C (dat dt_X11_takes0 15 rfl) (by decide) (fun c4 => ?_) (fun c4 => ?_)
  · rw [if_pos c4] at hrun
    refine g_iload_n C (dat dt_X11_takes0 22 rfl) 1 rfl ?_
    obtain ⟨b5, q6, hrun⟩ := bd hrun
    cases hrun
    exact g_zret C K (i2b_eq q6) (dat dt_X11_takes0 23 rfl)
  · rw [if_neg c4] at hrun
    refine g_aload_n C (dat dt_X11_takes0 16 rfl) 0 rfl ?_
    refine g_dup C (dat dt_X11_takes0 17 rfl) rfl ?_
    refine g_getI C (dat dt_X11_takes0 18 rfl) fl_11_208 kd_81 rfl ltk_81 ?_
    refine g_iconst C (dat dt_X11_takes0 19 rfl) ic_1 ?_
    refine g_iadd C (dat dt_X11_takes0 20 rfl) ?_
    refine g_putI C (dat dt_X11_takes0 21 rfl) fl_11_208 rfl rfl kd_81 rfl ltk_81 ?_
    refine g_iload_n C (dat dt_X11_takes0 22 rfl) 1 rfl ?_
    obtain ⟨b7, q8, hrun⟩ := bd hrun
    cases hrun
    exact g_zret C K (i2b_eq q8) (dat dt_X11_takes0 23 rfl)
def j_X11_takes0_24   (h : Hp) : Option (Bool × Hp) :=
  j_X11_takes0_25  (0 : Int32) h
set_option maxRecDepth 20000 in
theorem wj_X11_takes0_24 {X : Xt} (C : Cx X cn_11 prog_13_method_43_code 3 (some .boolean) 2 0 0)     (h : Hp) (q : (Bool × Hp)) (hrun : j_X11_takes0_24   h = some q) (K : EndQ X 0 0 (some (.int (b2i q.1))) q.2) : G X h 0 0 24 [(0, .ref 81)] [] := by
  unfold j_X11_takes0_24 at hrun
  refine g_iconst C (dat dt_X11_takes0 12 rfl) ic_0 ?_
  exact wj_X11_takes0_25 C    (0 : Int32) h _ hrun K
def f_X11_takes0 (x1 : Int32) (h : Hp) : Option (Bool × Hp) :=
  (f_X11_fine  h).bind fun v1 =>
  if v1 = true then
  (inb (fI h 81 19) 401).bind fun j9 =>
  if (aI h 90 j9) = x1 then
  j_X11_takes0_25  (1 : Int32) h
  else
  j_X11_takes0_24   h
  else
  j_X11_takes0_24   h
set_option maxRecDepth 20000 in
theorem w_X11_takes0 (x1 : Int32) (h : Hp) (q : (Bool × Hp))  (hrun : f_X11_takes0 x1 h = some q) : MetA ⟨"SteamNationsModel", "takes0", "(I)Z"⟩ prog_13_method_43_code 3 (some .boolean) 2 0 0 [.ref 81, .int x1] h (some (.int (b2i q.1))) q.2 := by
  refine metA_of (by decide) (Nat.le_of_ble_eq_true rfl) (fun X C K => ?_)
  have C : Cx X cn_11 prog_13_method_43_code 3 (some .boolean) 2 0 0 := C
  show G X h 0 0 0 [(0, .ref 81), (1, .int x1)] []
  unfold f_X11_takes0 at hrun
  refine g_aload_n C (dat dt_X11_takes0 0 rfl) 0 rfl ?_
  obtain ⟨v1, q2, hrun⟩ := bd hrun
  refine g_cVi [] C (dat dt_X11_takes0 1 rfl) ml_11_204 (w_X11_fine  h v1  q2) kd_81 ltk_81 rfl rfl cat0 (by decide) c00 ?_
  refine g_if_eq 24 C (dat dt_X11_takes0 2 rfl) (by decide) (fun c3 => ?_) (fun c3 => ?_)
  · rw [if_neg (b2i_z c3)] at hrun
    refine g_sub [0] (lv' := [(0, .ref 81)]) rfl ?_
    exact wj_X11_takes0_24 C     h _ hrun K
  · rw [if_pos (b2i_nz c3)] at hrun
    refine g_aload_n C (dat dt_X11_takes0 3 rfl) 0 rfl ?_
    refine g_getR C (dat dt_X11_takes0 4 rfl) fl_11_54 kd_81 rfl ltk_81 ?_
    refine g_aload_n C (dat dt_X11_takes0 5 rfl) 0 rfl ?_
    refine g_getI C (dat dt_X11_takes0 6 rfl) fl_11_208 kd_81 rfl ltk_81 ?_
    obtain ⟨j9, q10, hrun⟩ := bd hrun
    refine g_iald C (dat dt_X11_takes0 7 rfl) kd_90 ltk_90 q10 ?_
    refine g_iload_n C (dat dt_X11_takes0 8 rfl) 1 rfl ?_
    refine g_ic_ne 24 C (dat dt_X11_takes0 9 rfl) (by decide) (fun c11 => ?_) (fun c11 => ?_)
    · rw [if_neg c11] at hrun
      refine g_sub [0] (lv' := [(0, .ref 81)]) rfl ?_
      exact wj_X11_takes0_24 C     h _ hrun K
    · rw [if_pos c11] at hrun
      refine g_iconst C (dat dt_X11_takes0 10 rfl) ic_1 ?_
      refine g_goto 25 C (dat dt_X11_takes0 11 rfl) (by decide) ?_
      refine g_sub [0] (lv' := [(0, .ref 81)]) rfl ?_
      exact wj_X11_takes0_25 C    (1 : Int32) h _ hrun K
/-! SteamNationsModel.faults()V -/
def dl_X11_faults : List (Nat × Instr × Nat) := [(0, .aload_n 0, 1), (1, .invokevirtual 204, 3), (4, .ifCond .eq 16, 3), (7, .aload_n 0, 1), (8, .aload_n 0, 1), (9, .getfield 60, 3), (12, .aload_n 0, 1), (13, .getfield 208, 3), (16, .iaload, 1), (17, .putfield 201, 3), (20, .return_, 1)]
set_option maxRecDepth 20000 in
theorem dt_X11_faults : ∀ q ∈ dl_X11_faults, decode prog_13_method_42_code q.1 = .ok q.2 := by decide +kernel
def f_X11_faults  (h : Hp) : Option (Unit × Hp) :=
  (f_X11_fine  h).bind fun v1 =>
  if v1 = true then
  (inb (fI h 81 19) 401).bind fun j4 =>
  some ((), (sF h 81 21 (aI h 92 j4)))
  else
  some ((), h)
set_option maxRecDepth 20000 in
theorem w_X11_faults  (h : Hp) (q : (Unit × Hp))  (hrun : f_X11_faults  h = some q) : MetA ⟨"SteamNationsModel", "faults", "()V"⟩ prog_13_method_42_code 1 none 2 0 0 [.ref 81] h none q.2 := by
  refine metA_of (by decide) (Nat.le_of_ble_eq_true rfl) (fun X C K => ?_)
  have C : Cx X cn_11 prog_13_method_42_code 1 none 2 0 0 := C
  show G X h 0 0 0 [(0, .ref 81)] []
  unfold f_X11_faults at hrun
  refine g_aload_n C (dat dt_X11_faults 0 rfl) 0 rfl ?_
  obtain ⟨v1, q2, hrun⟩ := bd hrun
  refine g_cVi [] C (dat dt_X11_faults 1 rfl) ml_11_204 (w_X11_fine  h v1  q2) kd_81 ltk_81 rfl rfl cat0 (by decide) c00 ?_
  refine g_if_eq 20 C (dat dt_X11_faults 2 rfl) (by decide) (fun c3 => ?_) (fun c3 => ?_)
  · rw [if_neg (b2i_z c3)] at hrun
    cases hrun
    exact g_vret C K (dat dt_X11_faults 10 rfl)
  · rw [if_pos (b2i_nz c3)] at hrun
    refine g_aload_n C (dat dt_X11_faults 3 rfl) 0 rfl ?_
    refine g_aload_n C (dat dt_X11_faults 4 rfl) 0 rfl ?_
    refine g_getR C (dat dt_X11_faults 5 rfl) fl_11_60 kd_81 rfl ltk_81 ?_
    refine g_aload_n C (dat dt_X11_faults 6 rfl) 0 rfl ?_
    refine g_getI C (dat dt_X11_faults 7 rfl) fl_11_208 kd_81 rfl ltk_81 ?_
    obtain ⟨j4, q5, hrun⟩ := bd hrun
    refine g_iald C (dat dt_X11_faults 8 rfl) kd_92 ltk_92 q5 ?_
    refine g_putI C (dat dt_X11_faults 9 rfl) fl_11_201 rfl rfl kd_81 rfl ltk_81 ?_
    cases hrun
    exact g_vret C K (dat dt_X11_faults 10 rfl)
/-! SteamNationsModel.must(I)V -/
def dl_X11_must : List (Nat × Instr × Nat) := [(0, .aload_n 0, 1), (1, .iload_n 1, 1), (2, .invokevirtual 211, 3), (5, .ifCond .ne 7, 3), (8, .aload_n 0, 1), (9, .invokevirtual 214, 3), (12, .return_, 1)]
set_option maxRecDepth 20000 in
theorem dt_X11_must : ∀ q ∈ dl_X11_must, decode prog_13_method_44_code q.1 = .ok q.2 := by decide +kernel
def f_X11_must (x1 : Int32) (h : Hp) : Option (Unit × Hp) :=
  (f_X11_takes0 x1 h).bind fun v1 =>
  if v1.1 = true then
  some ((), v1.2)
  else
  (f_X11_faults  v1.2).bind fun v4 =>
  some ((), v4.2)
set_option maxRecDepth 20000 in
theorem w_X11_must (x1 : Int32) (h : Hp) (q : (Unit × Hp))  (hrun : f_X11_must x1 h = some q) : MetA ⟨"SteamNationsModel", "must", "(I)V"⟩ prog_13_method_44_code 2 none 3 0 0 [.ref 81, .int x1] h none q.2 := by
  refine metA_of (by decide) (Nat.le_of_ble_eq_true rfl) (fun X C K => ?_)
  have C : Cx X cn_11 prog_13_method_44_code 2 none 3 0 0 := C
  show G X h 0 0 0 [(0, .ref 81), (1, .int x1)] []
  unfold f_X11_must at hrun
  refine g_aload_n C (dat dt_X11_must 0 rfl) 0 rfl ?_
  refine g_iload_n C (dat dt_X11_must 1 rfl) 1 rfl ?_
  obtain ⟨v1, q2, hrun⟩ := bd hrun
  refine g_cVi [.int x1] C (dat dt_X11_must 2 rfl) ml_11_211 (w_X11_takes0 x1 h v1  q2) kd_81 ltk_81 rfl rfl cat0 (by decide) c00 ?_
  refine g_if_ne 12 C (dat dt_X11_must 3 rfl) (by decide) (fun c3 => ?_) (fun c3 => ?_)
  · rw [if_pos (b2i_nz c3)] at hrun
    cases hrun
    exact g_vret C K (dat dt_X11_must 6 rfl)
  · rw [if_neg (b2i_z c3)] at hrun
    refine g_aload_n C (dat dt_X11_must 4 rfl) 0 rfl ?_
    obtain ⟨v4, q5, hrun⟩ := bd hrun
    refine g_cVv [] C (dat dt_X11_must 5 rfl) ml_11_214 (w_X11_faults  v1.2 v4  q5) kd_81 ltk_81 rfl rfl cat0 (by decide) c00 ?_
    cases hrun
    exact g_vret C K (dat dt_X11_must 6 rfl)
/-! SteamNationsModel.leaf()V -/
def dl_X11_leaf : List (Nat × Instr × Nat) := [(0, .aload_n 0, 1), (1, .getfield 217, 3), (4, .bipush 50, 2), (6, .if_icmp .ne 7, 3), (9, .aload_n 0, 1), (10, .invokevirtual 214, 3), (13, .aload_n 0, 1), (14, .dup, 1), (15, .getfield 217, 3), (18, .iconst 1, 1), (19, .iadd, 1), (20, .putfield 217, 3), (23, .aload_n 0, 1), (24, .invokevirtual 204, 3), (27, .ifCond .eq 13, 3), (30, .aload_n 0, 1), (31, .dup, 1), (32, .getfield 208, 3), (35, .iconst 1, 1), (36, .iadd, 1), (37, .putfield 208, 3), (40, .return_, 1)]
set_option maxRecDepth 20000 in
theorem dt_X11_leaf : ∀ q ∈ dl_X11_leaf, decode prog_13_method_45_code q.1 = .ok q.2 := by decide +kernel
def j_X11_leaf_13   (h : Hp) : Option (Unit × Hp) :=
  (f_X11_fine  (sF h 81 20 ((fI h 81 20) + (1 : Int32)))).bind fun v2 =>
  if v2 = true then
  some ((), (sF (sF h 81 20 ((fI h 81 20) + (1 : Int32))) 81 19 ((fI (sF h 81 20 ((fI h 81 20) + (1 : Int32))) 81 19) + (1 : Int32))))
  else
  some ((), (sF h 81 20 ((fI h 81 20) + (1 : Int32))))
set_option maxRecDepth 20000 in
theorem wj_X11_leaf_13 {X : Xt} (C : Cx X cn_11 prog_13_method_45_code 1 none 3 0 0)     (h : Hp) (q : (Unit × Hp)) (hrun : j_X11_leaf_13   h = some q) (K : EndQ X 0 0 none q.2) : G X h 0 0 13 [(0, .ref 81)] [] := by
  unfold j_X11_leaf_13 at hrun
  refine g_aload_n C (dat dt_X11_leaf 6 rfl) 0 rfl ?_
  refine g_dup C (dat dt_X11_leaf 7 rfl) rfl ?_
  refine g_getI C (dat dt_X11_leaf 8 rfl) fl_11_217 kd_81 rfl ltk_81 ?_
  refine g_iconst C (dat dt_X11_leaf 9 rfl) ic_1 ?_
  refine g_iadd C (dat dt_X11_leaf 10 rfl) ?_
  refine g_putI C (dat dt_X11_leaf 11 rfl) fl_11_217 rfl rfl kd_81 rfl ltk_81 ?_
  refine g_aload_n C (dat dt_X11_leaf 12 rfl) 0 rfl ?_
  obtain ⟨v2, q3, hrun⟩ := bd hrun
  refine g_cVi [] C (dat dt_X11_leaf 13 rfl) ml_11_204 (w_X11_fine  (sF h 81 20 ((fI h 81 20) + (1 : Int32))) v2  q3) kd_81 ltk_81 rfl rfl cat0 (by decide) c00 ?_
  refine g_if_eq 40 C (dat dt_X11_leaf 14 rfl) (by decide) (fun c4 => ?_) (fun c4 => ?_)
  · rw [if_neg (b2i_z c4)] at hrun
    cases hrun
    exact g_vret C K (dat dt_X11_leaf 21 rfl)
  · rw [if_pos (b2i_nz c4)] at hrun
    refine g_aload_n C (dat dt_X11_leaf 15 rfl) 0 rfl ?_
    refine g_dup C (dat dt_X11_leaf 16 rfl) rfl ?_
    refine g_getI C (dat dt_X11_leaf 17 rfl) fl_11_208 kd_81 rfl ltk_81 ?_
    refine g_iconst C (dat dt_X11_leaf 18 rfl) ic_1 ?_
    refine g_iadd C (dat dt_X11_leaf 19 rfl) ?_
    refine g_putI C (dat dt_X11_leaf 20 rfl) fl_11_208 rfl rfl kd_81 rfl ltk_81 ?_
    cases hrun
    exact g_vret C K (dat dt_X11_leaf 21 rfl)
def f_X11_leaf  (h : Hp) : Option (Unit × Hp) :=
  if (fI h 81 20) = (50 : Int32) then
  (f_X11_faults  h).bind fun v5 =>
  j_X11_leaf_13   v5.2
  else
  j_X11_leaf_13   h
set_option maxRecDepth 20000 in
theorem w_X11_leaf  (h : Hp) (q : (Unit × Hp))  (hrun : f_X11_leaf  h = some q) : MetA ⟨"SteamNationsModel", "leaf", "()V"⟩ prog_13_method_45_code 1 none 3 0 0 [.ref 81] h none q.2 := by
  refine metA_of (by decide) (Nat.le_of_ble_eq_true rfl) (fun X C K => ?_)
  have C : Cx X cn_11 prog_13_method_45_code 1 none 3 0 0 := C
  show G X h 0 0 0 [(0, .ref 81)] []
  unfold f_X11_leaf at hrun
  refine g_aload_n C (dat dt_X11_leaf 0 rfl) 0 rfl ?_
  refine g_getI C (dat dt_X11_leaf 1 rfl) fl_11_217 kd_81 rfl ltk_81 ?_
  refine g_bipush C (dat dt_X11_leaf 2 rfl) bp_50 ?_
  refine g_ic_ne 13 C (dat dt_X11_leaf 3 rfl) (by decide) (fun c1 => ?_) (fun c1 => ?_)
  · rw [if_neg c1] at hrun
    exact wj_X11_leaf_13 C     h _ hrun K
  · rw [if_pos c1] at hrun
    refine g_aload_n C (dat dt_X11_leaf 4 rfl) 0 rfl ?_
    obtain ⟨v5, q6, hrun⟩ := bd hrun
    refine g_cVv [] C (dat dt_X11_leaf 5 rfl) ml_11_214 (w_X11_faults  h v5  q6) kd_81 ltk_81 rfl rfl cat0 (by decide) c00 ?_
    exact wj_X11_leaf_13 C     v5.2 _ hrun K
/-! SteamNationsModel.mustNumber(II)V -/
def dl_X11_mustNumber : List (Nat × Instr × Nat) := [(0, .aload_n 0, 1), (1, .invokevirtual 204, 3), (4, .ifCond .eq 38, 3), (7, .aload_n 0, 1), (8, .getfield 54, 3), (11, .aload_n 0, 1), (12, .getfield 208, 3), (15, .iaload, 1), (16, .bipush 50, 2), (18, .if_icmp .ne 20, 3), (21, .aload_n 0, 1), (22, .getfield 57, 3), (25, .aload_n 0, 1), (26, .getfield 208, 3), (29, .iaload, 1), (30, .iload_n 1, 1), (31, .iload_n 2, 1), (32, .invokestatic 18, 3), (35, .ifCond .ne 7, 3), (38, .aload_n 0, 1), (39, .invokevirtual 214, 3), (42, .aload_n 0, 1), (43, .invokevirtual 204, 3), (46, .ifCond .eq 13, 3), (49, .aload_n 0, 1), (50, .dup, 1), (51, .getfield 208, 3), (54, .iconst 1, 1), (55, .iadd, 1), (56, .putfield 208, 3), (59, .return_, 1)]
set_option maxRecDepth 20000 in
theorem dt_X11_mustNumber : ∀ q ∈ dl_X11_mustNumber, decode prog_13_method_47_code q.1 = .ok q.2 := by decide +kernel
def j_X11_mustNumber_42   (h : Hp) : Option (Unit × Hp) :=
  (f_X11_fine  h).bind fun v4 =>
  if v4 = true then
  some ((), (sF h 81 19 ((fI h 81 19) + (1 : Int32))))
  else
  some ((), h)
set_option maxRecDepth 20000 in
theorem wj_X11_mustNumber_42 {X : Xt} (C : Cx X cn_11 prog_13_method_47_code 3 none 3 0 0)     (h : Hp) (q : (Unit × Hp)) (hrun : j_X11_mustNumber_42   h = some q) (K : EndQ X 0 0 none q.2) : G X h 0 0 42 [(0, .ref 81)] [] := by
  unfold j_X11_mustNumber_42 at hrun
  refine g_aload_n C (dat dt_X11_mustNumber 21 rfl) 0 rfl ?_
  obtain ⟨v4, q5, hrun⟩ := bd hrun
  refine g_cVi [] C (dat dt_X11_mustNumber 22 rfl) ml_11_204 (w_X11_fine  h v4  q5) kd_81 ltk_81 rfl rfl cat0 (by decide) c00 ?_
  refine g_if_eq 59 C (dat dt_X11_mustNumber 23 rfl) (by decide) (fun c6 => ?_) (fun c6 => ?_)
  · rw [if_neg (b2i_z c6)] at hrun
    cases hrun
    exact g_vret C K (dat dt_X11_mustNumber 30 rfl)
  · rw [if_pos (b2i_nz c6)] at hrun
    refine g_aload_n C (dat dt_X11_mustNumber 24 rfl) 0 rfl ?_
    refine g_dup C (dat dt_X11_mustNumber 25 rfl) rfl ?_
    refine g_getI C (dat dt_X11_mustNumber 26 rfl) fl_11_208 kd_81 rfl ltk_81 ?_
    refine g_iconst C (dat dt_X11_mustNumber 27 rfl) ic_1 ?_
    refine g_iadd C (dat dt_X11_mustNumber 28 rfl) ?_
    refine g_putI C (dat dt_X11_mustNumber 29 rfl) fl_11_208 rfl rfl kd_81 rfl ltk_81 ?_
    cases hrun
    exact g_vret C K (dat dt_X11_mustNumber 30 rfl)
def j_X11_mustNumber_38   (h : Hp) : Option (Unit × Hp) :=
  (f_X11_faults  h).bind fun v10 =>
  j_X11_mustNumber_42   v10.2
set_option maxRecDepth 20000 in
theorem wj_X11_mustNumber_38 {X : Xt} (C : Cx X cn_11 prog_13_method_47_code 3 none 3 0 0)     (h : Hp) (q : (Unit × Hp)) (hrun : j_X11_mustNumber_38   h = some q) (K : EndQ X 0 0 none q.2) : G X h 0 0 38 [(0, .ref 81)] [] := by
  unfold j_X11_mustNumber_38 at hrun
  refine g_aload_n C (dat dt_X11_mustNumber 19 rfl) 0 rfl ?_
  obtain ⟨v10, q11, hrun⟩ := bd hrun
  refine g_cVv [] C (dat dt_X11_mustNumber 20 rfl) ml_11_214 (w_X11_faults  h v10  q11) kd_81 ltk_81 rfl rfl cat0 (by decide) c00 ?_
  exact wj_X11_mustNumber_42 C     v10.2 _ hrun K
def f_X11_mustNumber (x1 : Int32) (x2 : Int32) (h : Hp) : Option (Unit × Hp) :=
  (f_X11_fine  h).bind fun v1 =>
  if v1 = true then
  (inb (fI h 81 19) 401).bind fun j7 =>
  if (aI h 90 j7) = (50 : Int32) then
  (inb (fI h 81 19) 401).bind fun j12 =>
  (f_X11_lies (aI h 91 j12) x1 x2).bind fun v14 =>
  if v14 = true then
  j_X11_mustNumber_42   h
  else
  j_X11_mustNumber_38   h
  else
  j_X11_mustNumber_38   h
  else
  j_X11_mustNumber_42   h
set_option maxRecDepth 20000 in
theorem w_X11_mustNumber (x1 : Int32) (x2 : Int32) (h : Hp) (q : (Unit × Hp))  (hrun : f_X11_mustNumber x1 x2 h = some q) : MetA ⟨"SteamNationsModel", "mustNumber", "(II)V"⟩ prog_13_method_47_code 3 none 3 0 0 [.ref 81, .int x1, .int x2] h none q.2 := by
  refine metA_of (by decide) (Nat.le_of_ble_eq_true rfl) (fun X C K => ?_)
  have C : Cx X cn_11 prog_13_method_47_code 3 none 3 0 0 := C
  show G X h 0 0 0 [(0, .ref 81), (1, .int x1), (2, .int x2)] []
  unfold f_X11_mustNumber at hrun
  refine g_aload_n C (dat dt_X11_mustNumber 0 rfl) 0 rfl ?_
  obtain ⟨v1, q2, hrun⟩ := bd hrun
  refine g_cVi [] C (dat dt_X11_mustNumber 1 rfl) ml_11_204 (w_X11_fine  h v1  q2) kd_81 ltk_81 rfl rfl cat0 (by decide) c00 ?_
  refine g_if_eq 42 C (dat dt_X11_mustNumber 2 rfl) (by decide) (fun c3 => ?_) (fun c3 => ?_)
  · rw [if_neg (b2i_z c3)] at hrun
    refine g_sub [0] (lv' := [(0, .ref 81)]) rfl ?_
    exact wj_X11_mustNumber_42 C     h _ hrun K
  · rw [if_pos (b2i_nz c3)] at hrun
    refine g_aload_n C (dat dt_X11_mustNumber 3 rfl) 0 rfl ?_
    refine g_getR C (dat dt_X11_mustNumber 4 rfl) fl_11_54 kd_81 rfl ltk_81 ?_
    refine g_aload_n C (dat dt_X11_mustNumber 5 rfl) 0 rfl ?_
    refine g_getI C (dat dt_X11_mustNumber 6 rfl) fl_11_208 kd_81 rfl ltk_81 ?_
    obtain ⟨j7, q8, hrun⟩ := bd hrun
    refine g_iald C (dat dt_X11_mustNumber 7 rfl) kd_90 ltk_90 q8 ?_
    refine g_bipush C (dat dt_X11_mustNumber 8 rfl) bp_50 ?_
    refine g_ic_ne 38 C (dat dt_X11_mustNumber 9 rfl) (by decide) (fun c9 => ?_) (fun c9 => ?_)
    · rw [if_neg c9] at hrun
      refine g_sub [0] (lv' := [(0, .ref 81)]) rfl ?_
      exact wj_X11_mustNumber_38 C     h _ hrun K
    · rw [if_pos c9] at hrun
      refine g_aload_n C (dat dt_X11_mustNumber 10 rfl) 0 rfl ?_
      refine g_getR C (dat dt_X11_mustNumber 11 rfl) fl_11_57 kd_81 rfl ltk_81 ?_
      refine g_aload_n C (dat dt_X11_mustNumber 12 rfl) 0 rfl ?_
      refine g_getI C (dat dt_X11_mustNumber 13 rfl) fl_11_208 kd_81 rfl ltk_81 ?_
      obtain ⟨j12, q13, hrun⟩ := bd hrun
      refine g_iald C (dat dt_X11_mustNumber 14 rfl) kd_91 ltk_91 q13 ?_
      refine g_iload_n C (dat dt_X11_mustNumber 15 rfl) 1 rfl ?_
      refine g_iload_n C (dat dt_X11_mustNumber 16 rfl) 2 rfl ?_
      obtain ⟨v14, q15, hrun⟩ := bd hrun
      refine g_cSi [.int (aI h 91 j12), .int x1, .int x2] C (dat dt_X11_mustNumber 17 rfl) ml_11_18 (w_X11_lies (aI h 91 j12) x1 x2 h v14  q15) rfl rfl cat0 (by decide) c00 ?_
      refine g_if_ne 42 C (dat dt_X11_mustNumber 18 rfl) (by decide) (fun c16 => ?_) (fun c16 => ?_)
      · rw [if_pos (b2i_nz c16)] at hrun
        refine g_sub [0] (lv' := [(0, .ref 81)]) rfl ?_
        exact wj_X11_mustNumber_42 C     h _ hrun K
      · rw [if_neg (b2i_z c16)] at hrun
        refine g_sub [0] (lv' := [(0, .ref 81)]) rfl ?_
        exact wj_X11_mustNumber_38 C     h _ hrun K
/-! SteamNationsModel.lays(I)V -/
def dl_X11_lays : List (Nat × Instr × Nat) := [(0, .aload_n 0, 1), (1, .getfield 28, 3), (4, .bipush 55, 2), (6, .iload_n 1, 1), (7, .iadd, 1), (8, .aload_n 0, 1), (9, .getfield 188, 3), (12, .iastore, 1), (13, .iconst 0, 1), (14, .istore_n 2, 1), (15, .iload_n 2, 1), (16, .aload_n 0, 1), (17, .getfield 188, 3), (20, .if_icmp .ge 52, 3), (23, .aload_n 0, 1), (24, .getfield 28, 3), (27, .bipush 62, 2), (29, .sipush 400, 3), (32, .iload_n 1, 1), (33, .imul, 1), (34, .iadd, 1), (35, .iload_n 2, 1), (36, .iadd, 1), (37, .aload_n 0, 1), (38, .getfield 54, 3), (41, .iload_n 2, 1), (42, .iaload, 1), (43, .iastore, 1), (44, .aload_n 0, 1), (45, .getfield 28, 3), (48, .sipush 2862, 3), (51, .sipush 400, 3), (54, .iload_n 1, 1), (55, .imul, 1), (56, .iadd, 1), (57, .iload_n 2, 1), (58, .iadd, 1), (59, .aload_n 0, 1), (60, .getfield 57, 3), (63, .iload_n 2, 1), (64, .iaload, 1), (65, .iastore, 1), (66, .iinc 2 1, 3), (69, .goto (-54), 3), (72, .return_, 1)]
set_option maxRecDepth 20000 in
theorem dt_X11_lays : ∀ q ∈ dl_X11_lays, decode prog_13_method_59_code q.1 = .ok q.2 := by decide +kernel
def kp_X11_lays_15  (x1 : Int32) (X : Xt) (s : (Int32 × Hp)) : Prop := G X s.2 0 0 15 [(0, .ref 81), (1, .int x1), (2, .int s.1)] []
def ke_X11_lays_15  (x1 : Int32) (X : Xt) (e : Hp) : Prop := G X e 0 0 72 [] []
def b_X11_lays_15  (x1 : Int32) (x2 : Int32) (h : Hp) : Option ((Int32 × Hp) ⊕ Hp) :=
  if (fI h 81 18) ≤ x2 then
  some (.inr ( h))
  else
  (inb x2 401).bind fun j4 =>
  (inb (((62 : Int32) + ((400 : Int32) * x1)) + x2) 5662).bind fun j6 =>
  (inb x2 401).bind fun j8 =>
  (inb (((2862 : Int32) + ((400 : Int32) * x1)) + x2) 5662).bind fun j10 =>
  some (.inl ((x2 + (1 : Int32)), (sA (sA h 83 j6 (aI h 90 j4)) 83 j10 (aI (sA h 83 j6 (aI h 90 j4)) 91 j8))))
set_option maxRecDepth 20000 in
theorem wb_X11_lays_15 {X : Xt} (C : Cx X cn_11 prog_13_method_59_code 3 none 1 0 0)   (x1 : Int32) (x2 : Int32) (h : Hp) (q : (Int32 × Hp) ⊕ Hp) (hrun : b_X11_lays_15  x1 x2 h = some q) (Ks : ∀ s, q = .inl s → kp_X11_lays_15  x1 X s) (Ke : ∀ e, q = .inr e → ke_X11_lays_15  x1 X e) : kp_X11_lays_15  x1 X (x2, h) := by
  show G X h 0 0 15 [(0, .ref 81), (1, .int x1), (2, .int x2)] []
  unfold b_X11_lays_15 at hrun
  refine g_iload_n C (dat dt_X11_lays 10 rfl) 2 rfl ?_
  refine g_aload_n C (dat dt_X11_lays 11 rfl) 0 rfl ?_
  refine g_getI C (dat dt_X11_lays 12 rfl) fl_11_188 kd_81 rfl ltk_81 ?_
  refine g_ic_ge 72 C (dat dt_X11_lays 13 rfl) (by decide) (fun c3 => ?_) (fun c3 => ?_)
  · rw [if_pos c3] at hrun
    refine g_sub [] (lv' := []) rfl ?_
    cases hrun
    exact Ke ( h) rfl
  · rw [if_neg c3] at hrun
    refine g_aload_n C (dat dt_X11_lays 14 rfl) 0 rfl ?_
    refine g_getR C (dat dt_X11_lays 15 rfl) fl_11_28 kd_81 rfl ltk_81 ?_
    refine g_bipush C (dat dt_X11_lays 16 rfl) bp_62 ?_
    refine g_sipush C (dat dt_X11_lays 17 rfl) sp_400 ?_
    refine g_iload_n C (dat dt_X11_lays 18 rfl) 1 rfl ?_
    refine g_imul C (dat dt_X11_lays 19 rfl) ?_
    refine g_iadd C (dat dt_X11_lays 20 rfl) ?_
    refine g_iload_n C (dat dt_X11_lays 21 rfl) 2 rfl ?_
    refine g_iadd C (dat dt_X11_lays 22 rfl) ?_
    refine g_aload_n C (dat dt_X11_lays 23 rfl) 0 rfl ?_
    refine g_getR C (dat dt_X11_lays 24 rfl) fl_11_54 kd_81 rfl ltk_81 ?_
    refine g_iload_n C (dat dt_X11_lays 25 rfl) 2 rfl ?_
    obtain ⟨j4, q5, hrun⟩ := bd hrun
    refine g_iald C (dat dt_X11_lays 26 rfl) kd_90 ltk_90 q5 ?_
    obtain ⟨j6, q7, hrun⟩ := bd hrun
    refine g_iast (j := j6) C (dat dt_X11_lays 27 rfl) kd_83 ltk_83 q7  ?_
    refine g_aload_n C (dat dt_X11_lays 28 rfl) 0 rfl ?_
    refine g_getR C (dat dt_X11_lays 29 rfl) fl_11_28 kd_81 rfl ltk_81 ?_
    refine g_sipush C (dat dt_X11_lays 30 rfl) sp_2862 ?_
    refine g_sipush C (dat dt_X11_lays 31 rfl) sp_400 ?_
    refine g_iload_n C (dat dt_X11_lays 32 rfl) 1 rfl ?_
    refine g_imul C (dat dt_X11_lays 33 rfl) ?_
    refine g_iadd C (dat dt_X11_lays 34 rfl) ?_
    refine g_iload_n C (dat dt_X11_lays 35 rfl) 2 rfl ?_
    refine g_iadd C (dat dt_X11_lays 36 rfl) ?_
    refine g_aload_n C (dat dt_X11_lays 37 rfl) 0 rfl ?_
    refine g_getR C (dat dt_X11_lays 38 rfl) fl_11_57 kd_81 rfl ltk_81 ?_
    refine g_iload_n C (dat dt_X11_lays 39 rfl) 2 rfl ?_
    obtain ⟨j8, q9, hrun⟩ := bd hrun
    refine g_iald C (dat dt_X11_lays 40 rfl) kd_91 ltk_91 q9 ?_
    obtain ⟨j10, q11, hrun⟩ := bd hrun
    refine g_iast (j := j10) C (dat dt_X11_lays 41 rfl) kd_83 ltk_83 q11  ?_
    refine g_iinc (v := (x2 + (1 : Int32))) (lv' := [(0, .ref 81), (1, .int x1), (2, .int (x2 + (1 : Int32)))]) C (dat dt_X11_lays 42 rfl) 2 rfl (congrArg (fun z => x2 + z) ic_1) (by decide) rfl ?_
    refine g_goto 15 C (dat dt_X11_lays 43 rfl) (by decide) ?_
    cases hrun
    exact Ks ((x2 + (1 : Int32)), (sA (sA h 83 j6 (aI h 90 j4)) 83 j10 (aI (sA h 83 j6 (aI h 90 j4)) 91 j8))) rfl
def f_X11_lays (x1 : Int32) (h : Hp) : Option (Unit × Hp) :=
  (inb ((55 : Int32) + x1) 5662).bind fun j1 =>
  (lp (fun s => b_X11_lays_15  x1 s.1 s.2) FU ((0 : Int32), (sA h 83 j1 (fI h 81 18)))).bind fun e12 =>
  some ((), e12)
set_option maxRecDepth 20000 in
theorem w_X11_lays (x1 : Int32) (h : Hp) (q : (Unit × Hp))  (hrun : f_X11_lays x1 h = some q) : MetA ⟨"SteamNationsModel", "lays", "(I)V"⟩ prog_13_method_59_code 3 none 1 0 0 [.ref 81, .int x1] h none q.2 := by
  refine metA_of (by decide) (Nat.le_of_ble_eq_true rfl) (fun X C K => ?_)
  have C : Cx X cn_11 prog_13_method_59_code 3 none 1 0 0 := C
  show G X h 0 0 0 [(0, .ref 81), (1, .int x1)] []
  unfold f_X11_lays at hrun
  refine g_aload_n C (dat dt_X11_lays 0 rfl) 0 rfl ?_
  refine g_getR C (dat dt_X11_lays 1 rfl) fl_11_28 kd_81 rfl ltk_81 ?_
  refine g_bipush C (dat dt_X11_lays 2 rfl) bp_55 ?_
  refine g_iload_n C (dat dt_X11_lays 3 rfl) 1 rfl ?_
  refine g_iadd C (dat dt_X11_lays 4 rfl) ?_
  refine g_aload_n C (dat dt_X11_lays 5 rfl) 0 rfl ?_
  refine g_getI C (dat dt_X11_lays 6 rfl) fl_11_188 kd_81 rfl ltk_81 ?_
  obtain ⟨j1, q2, hrun⟩ := bd hrun
  refine g_iast (j := j1) C (dat dt_X11_lays 7 rfl) kd_83 ltk_83 q2  ?_
  refine g_iconst C (dat dt_X11_lays 8 rfl) ic_0 ?_
  refine g_istore_n (lv' := [(0, .ref 81), (1, .int x1), (2, .int (0 : Int32))]) C (dat dt_X11_lays 9 rfl) (by decide) rfl ?_
  obtain ⟨e12, q13, hrun⟩ := bd hrun
  refine lp_ind (P := fun s => kp_X11_lays_15  x1 X s) (K := fun e => ke_X11_lays_15  x1 X e) (fun s q hb Ks Ke => wb_X11_lays_15 C   x1 s.1 s.2 q hb Ks Ke) FU ((0 : Int32), (sA h 83 j1 (fI h 81 18))) e12 q13 ?_
  show G X e12 0 0 72 [] []
  cases hrun
  exact g_vret C K (dat dt_X11_lays 44 rfl)
/-! SteamNationsModel.laysAside(I)V -/
def dl_X11_laysAside : List (Nat × Instr × Nat) := [(0, .iconst 0, 1), (1, .istore_n 2, 1), (2, .iload_n 2, 1), (3, .bipush 25, 2), (5, .if_icmp .ge 26, 3), (8, .aload_n 0, 1), (9, .getfield 38, 3), (12, .bipush 25, 2), (14, .iload_n 1, 1), (15, .imul, 1), (16, .iload_n 2, 1), (17, .iadd, 1), (18, .aload_n 0, 1), (19, .getfield 28, 3), (22, .iload_n 2, 1), (23, .iaload, 1), (24, .iastore, 1), (25, .iinc 2 1, 3), (28, .goto (-26), 3), (31, .return_, 1)]
set_option maxRecDepth 20000 in
theorem dt_X11_laysAside : ∀ q ∈ dl_X11_laysAside, decode prog_13_method_13_code q.1 = .ok q.2 := by decide +kernel
def kp_X11_laysAside_2  (x1 : Int32) (X : Xt) (s : (Int32 × Hp)) : Prop := G X s.2 0 0 2 [(0, .ref 81), (1, .int x1), (2, .int s.1)] []
def ke_X11_laysAside_2  (x1 : Int32) (X : Xt) (e : Hp) : Prop := G X e 0 0 31 [] []
def b_X11_laysAside_2  (x1 : Int32) (x2 : Int32) (h : Hp) : Option ((Int32 × Hp) ⊕ Hp) :=
  if (25 : Int32) ≤ x2 then
  some (.inr ( h))
  else
  (inb x2 5662).bind fun j2 =>
  (inb (((25 : Int32) * x1) + x2) 50).bind fun j4 =>
  some (.inl ((x2 + (1 : Int32)), (sA h 86 j4 (aI h 83 j2))))
set_option maxRecDepth 20000 in
theorem wb_X11_laysAside_2 {X : Xt} (C : Cx X cn_11 prog_13_method_13_code 3 none 1 0 0)   (x1 : Int32) (x2 : Int32) (h : Hp) (q : (Int32 × Hp) ⊕ Hp) (hrun : b_X11_laysAside_2  x1 x2 h = some q) (Ks : ∀ s, q = .inl s → kp_X11_laysAside_2  x1 X s) (Ke : ∀ e, q = .inr e → ke_X11_laysAside_2  x1 X e) : kp_X11_laysAside_2  x1 X (x2, h) := by
  show G X h 0 0 2 [(0, .ref 81), (1, .int x1), (2, .int x2)] []
  unfold b_X11_laysAside_2 at hrun
  refine g_iload_n C (dat dt_X11_laysAside 2 rfl) 2 rfl ?_
  refine g_bipush C (dat dt_X11_laysAside 3 rfl) bp_25 ?_
  refine g_ic_ge 31 C (dat dt_X11_laysAside 4 rfl) (by decide) (fun c1 => ?_) (fun c1 => ?_)
  · rw [if_pos c1] at hrun
    refine g_sub [] (lv' := []) rfl ?_
    cases hrun
    exact Ke ( h) rfl
  · rw [if_neg c1] at hrun
    refine g_aload_n C (dat dt_X11_laysAside 5 rfl) 0 rfl ?_
    refine g_getR C (dat dt_X11_laysAside 6 rfl) fl_11_38 kd_81 rfl ltk_81 ?_
    refine g_bipush C (dat dt_X11_laysAside 7 rfl) bp_25 ?_
    refine g_iload_n C (dat dt_X11_laysAside 8 rfl) 1 rfl ?_
    refine g_imul C (dat dt_X11_laysAside 9 rfl) ?_
    refine g_iload_n C (dat dt_X11_laysAside 10 rfl) 2 rfl ?_
    refine g_iadd C (dat dt_X11_laysAside 11 rfl) ?_
    refine g_aload_n C (dat dt_X11_laysAside 12 rfl) 0 rfl ?_
    refine g_getR C (dat dt_X11_laysAside 13 rfl) fl_11_28 kd_81 rfl ltk_81 ?_
    refine g_iload_n C (dat dt_X11_laysAside 14 rfl) 2 rfl ?_
    obtain ⟨j2, q3, hrun⟩ := bd hrun
    refine g_iald C (dat dt_X11_laysAside 15 rfl) kd_83 ltk_83 q3 ?_
    obtain ⟨j4, q5, hrun⟩ := bd hrun
    refine g_iast (j := j4) C (dat dt_X11_laysAside 16 rfl) kd_86 ltk_86 q5  ?_
    refine g_iinc (v := (x2 + (1 : Int32))) (lv' := [(0, .ref 81), (1, .int x1), (2, .int (x2 + (1 : Int32)))]) C (dat dt_X11_laysAside 17 rfl) 2 rfl (congrArg (fun z => x2 + z) ic_1) (by decide) rfl ?_
    refine g_goto 2 C (dat dt_X11_laysAside 18 rfl) (by decide) ?_
    cases hrun
    exact Ks ((x2 + (1 : Int32)), (sA h 86 j4 (aI h 83 j2))) rfl
def f_X11_laysAside (x1 : Int32) (h : Hp) : Option (Unit × Hp) :=
  (lp (fun s => b_X11_laysAside_2  x1 s.1 s.2) FU ((0 : Int32), h)).bind fun e6 =>
  some ((), e6)
set_option maxRecDepth 20000 in
theorem w_X11_laysAside (x1 : Int32) (h : Hp) (q : (Unit × Hp))  (hrun : f_X11_laysAside x1 h = some q) : MetA ⟨"SteamNationsModel", "laysAside", "(I)V"⟩ prog_13_method_13_code 3 none 1 0 0 [.ref 81, .int x1] h none q.2 := by
  refine metA_of (by decide) (Nat.le_of_ble_eq_true rfl) (fun X C K => ?_)
  have C : Cx X cn_11 prog_13_method_13_code 3 none 1 0 0 := C
  show G X h 0 0 0 [(0, .ref 81), (1, .int x1)] []
  unfold f_X11_laysAside at hrun
  refine g_iconst C (dat dt_X11_laysAside 0 rfl) ic_0 ?_
  refine g_istore_n (lv' := [(0, .ref 81), (1, .int x1), (2, .int (0 : Int32))]) C (dat dt_X11_laysAside 1 rfl) (by decide) rfl ?_
  obtain ⟨e6, q7, hrun⟩ := bd hrun
  refine lp_ind (P := fun s => kp_X11_laysAside_2  x1 X s) (K := fun e => ke_X11_laysAside_2  x1 X e) (fun s q hb Ks Ke => wb_X11_laysAside_2 C   x1 s.1 s.2 q hb Ks Ke) FU ((0 : Int32), h) e6 q7 ?_
  show G X e6 0 0 31 [] []
  cases hrun
  exact g_vret C K (dat dt_X11_laysAside 19 rfl)
/-! SteamNationsModel.small(J)I -/
def dl_X11_small : List (Nat × Instr × Nat) := [(0, .lload_n 0, 1), (1, .lconst 0, 1), (2, .lcmp, 1), (3, .ifCond .lt 11, 3), (6, .lload_n 0, 1), (7, .ldc2_w 476, 3), (10, .lcmp, 1), (11, .ifCond .le 7, 3), (14, .iconst (-1), 1), (15, .goto 5, 3), (18, .lload_n 0, 1), (19, .l2i, 1), (20, .ireturn, 1)]
set_option maxRecDepth 20000 in
theorem dt_X11_small : ∀ q ∈ dl_X11_small, decode prog_13_method_125_code q.1 = .ok q.2 := by decide +kernel
def f_X11_small (x0 : Int64) : Option Int32 :=
  if (lg_cmp x0 (0 : Int64)) < 0 then
  some (-1 : Int32)
  else
  if (lg_cmp x0 (1000000 : Int64)) ≤ 0 then
  some x0.toInt32
  else
  some (-1 : Int32)
set_option maxRecDepth 20000 in
theorem w_X11_small (x0 : Int64) (h : Hp) (q : Int32)  (hrun : f_X11_small x0 = some q) : MetA ⟨"SteamNationsModel", "small", "(J)I"⟩ prog_13_method_125_code 2 (some .int) 1 0 0 [.long x0] h (some (.int q)) h := by
  refine metA_of (by decide) (Nat.le_of_ble_eq_true rfl) (fun X C K => ?_)
  have C : Cx X cn_11 prog_13_method_125_code 2 (some .int) 1 0 0 := C
  show G X h 0 0 0 [(0, .long x0)] []
  unfold f_X11_small at hrun
  refine g_lload_n C (dat dt_X11_small 0 rfl) 0 rfl ?_
  refine g_lconst (v := 0) C (dat dt_X11_small 1 rfl) rfl ?_
  refine g_lcmp C (dat dt_X11_small 2 rfl) ?_
  refine g_if_lt 14 C (dat dt_X11_small 3 rfl) (by decide) (fun c1 => ?_) (fun c1 => ?_)
  · rw [if_pos c1] at hrun
    refine g_iconst C (dat dt_X11_small 8 rfl) ic_m1 ?_
    refine g_goto 20 C (dat dt_X11_small 9 rfl) (by decide) ?_
    cases hrun
    exact g_iret C K (dat dt_X11_small 12 rfl)
  · rw [if_neg c1] at hrun
    refine g_lload_n C (dat dt_X11_small 4 rfl) 0 rfl ?_
    refine g_ldc2 C (dat dt_X11_small 5 rfl) kc_11_476 ?_
    refine g_lcmp C (dat dt_X11_small 6 rfl) ?_
    refine g_if_le 18 C (dat dt_X11_small 7 rfl) (by decide) (fun c2 => ?_) (fun c2 => ?_)
    · rw [if_pos c2] at hrun
      refine g_lload_n C (dat dt_X11_small 10 rfl) 0 rfl ?_
      refine g_l2i C (dat dt_X11_small 11 rfl) ?_
      cases hrun
      exact g_iret C K (dat dt_X11_small 12 rfl)
    · rw [if_neg c2] at hrun
      refine g_iconst C (dat dt_X11_small 8 rfl) ic_m1 ?_
      refine g_goto 20 C (dat dt_X11_small 9 rfl) (by decide) ?_
      cases hrun
      exact g_iret C K (dat dt_X11_small 12 rfl)
/-! SteamNationsModel.keeps(I)V -/
def dl_X11_keeps : List (Nat × Instr × Nat) := [(0, .bipush 26, 2), (2, .istore_n 2, 1), (3, .aload_n 0, 1), (4, .getfield 11, 3), (7, .bipush 16, 2), (9, .if_icmp .ne 43, 3), (12, .iconst 0, 1), (13, .istore_n 3, 1), (14, .iload_n 3, 1), (15, .bipush 15, 2), (17, .iload_n 2, 1), (18, .imul, 1), (19, .if_icmp .ge 23, 3), (22, .aload_n 0, 1), (23, .getfield 69, 3), (26, .iload_n 3, 1), (27, .aload_n 0, 1), (28, .getfield 69, 3), (31, .iload_n 3, 1), (32, .iload_n 2, 1), (33, .iadd, 1), (34, .iaload, 1), (35, .iastore, 1), (36, .iinc 3 1, 3), (39, .goto (-25), 3), (42, .aload_n 0, 1), (43, .dup, 1), (44, .getfield 11, 3), (47, .iconst 1, 1), (48, .isub, 1), (49, .putfield 11, 3), (52, .iconst 0, 1), (53, .istore_n 3, 1), (54, .iload_n 3, 1), (55, .bipush 25, 2), (57, .if_icmp .ge 28, 3), (60, .aload_n 0, 1), (61, .getfield 69, 3), (64, .iload_n 2, 1), (65, .aload_n 0, 1), (66, .getfield 11, 3), (69, .imul, 1), (70, .iload_n 3, 1), (71, .iadd, 1), (72, .aload_n 0, 1), (73, .getfield 28, 3), (76, .iload_n 3, 1), (77, .iaload, 1), (78, .iastore, 1), (79, .iinc 3 1, 3), (82, .goto (-28), 3), (85, .aload_n 0, 1), (86, .getfield 69, 3), (89, .iload_n 2, 1), (90, .aload_n 0, 1), (91, .getfield 11, 3), (94, .imul, 1), (95, .bipush 25, 2), (97, .iadd, 1), (98, .iload_n 1, 1), (99, .iastore, 1), (100, .aload_n 0, 1), (101, .dup, 1), (102, .getfield 11, 3), (105, .iconst 1, 1), (106, .iadd, 1), (107, .putfield 11, 3), (110, .return_, 1)]
set_option maxRecDepth 20000 in
theorem dt_X11_keeps : ∀ q ∈ dl_X11_keeps, decode prog_13_method_83_code q.1 = .ok q.2 := by decide +kernel
def kp_X11_keeps_54  (x1 : Int32) (x2 : Int32) (X : Xt) (s : (Int32 × Hp)) : Prop := G X s.2 0 0 54 [(0, .ref 81), (1, .int x1), (2, .int x2), (3, .int s.1)] []
def ke_X11_keeps_54  (x1 : Int32) (x2 : Int32) (X : Xt) (e : Hp) : Prop := G X e 0 0 85 [(0, .ref 81), (1, .int x1), (2, .int x2)] []
def b_X11_keeps_54  (x1 : Int32) (x2 : Int32) (x3 : Int32) (h : Hp) : Option ((Int32 × Hp) ⊕ Hp) :=
  if (25 : Int32) ≤ x3 then
  some (.inr ( h))
  else
  (inb x3 5662).bind fun j3 =>
  (inb ((x2 * (fI h 81 32)) + x3) 416).bind fun j5 =>
  some (.inl ((x3 + (1 : Int32)), (sA h 95 j5 (aI h 83 j3))))
set_option maxRecDepth 20000 in
theorem wb_X11_keeps_54 {X : Xt} (C : Cx X cn_11 prog_13_method_83_code 4 none 1 0 0)   (x1 : Int32) (x2 : Int32) (x3 : Int32) (h : Hp) (q : (Int32 × Hp) ⊕ Hp) (hrun : b_X11_keeps_54  x1 x2 x3 h = some q) (Ks : ∀ s, q = .inl s → kp_X11_keeps_54  x1 x2 X s) (Ke : ∀ e, q = .inr e → ke_X11_keeps_54  x1 x2 X e) : kp_X11_keeps_54  x1 x2 X (x3, h) := by
  show G X h 0 0 54 [(0, .ref 81), (1, .int x1), (2, .int x2), (3, .int x3)] []
  unfold b_X11_keeps_54 at hrun
  refine g_iload_n C (dat dt_X11_keeps 33 rfl) 3 rfl ?_
  refine g_bipush C (dat dt_X11_keeps 34 rfl) bp_25 ?_
  refine g_ic_ge 85 C (dat dt_X11_keeps 35 rfl) (by decide) (fun c2 => ?_) (fun c2 => ?_)
  · rw [if_pos c2] at hrun
    refine g_sub [0, 1, 2] (lv' := [(0, .ref 81), (1, .int x1), (2, .int x2)]) rfl ?_
    cases hrun
    exact Ke ( h) rfl
  · rw [if_neg c2] at hrun
    refine g_aload_n C (dat dt_X11_keeps 36 rfl) 0 rfl ?_
    refine g_getR C (dat dt_X11_keeps 37 rfl) fl_11_69 kd_81 rfl ltk_81 ?_
    refine g_iload_n C (dat dt_X11_keeps 38 rfl) 2 rfl ?_
    refine g_aload_n C (dat dt_X11_keeps 39 rfl) 0 rfl ?_
    refine g_getI C (dat dt_X11_keeps 40 rfl) fl_11_11 kd_81 rfl ltk_81 ?_
    refine g_imul C (dat dt_X11_keeps 41 rfl) ?_
    refine g_iload_n C (dat dt_X11_keeps 42 rfl) 3 rfl ?_
    refine g_iadd C (dat dt_X11_keeps 43 rfl) ?_
    refine g_aload_n C (dat dt_X11_keeps 44 rfl) 0 rfl ?_
    refine g_getR C (dat dt_X11_keeps 45 rfl) fl_11_28 kd_81 rfl ltk_81 ?_
    refine g_iload_n C (dat dt_X11_keeps 46 rfl) 3 rfl ?_
    obtain ⟨j3, q4, hrun⟩ := bd hrun
    refine g_iald C (dat dt_X11_keeps 47 rfl) kd_83 ltk_83 q4 ?_
    obtain ⟨j5, q6, hrun⟩ := bd hrun
    refine g_iast (j := j5) C (dat dt_X11_keeps 48 rfl) kd_95 ltk_95 q6  ?_
    refine g_iinc (v := (x3 + (1 : Int32))) (lv' := [(0, .ref 81), (1, .int x1), (2, .int x2), (3, .int (x3 + (1 : Int32)))]) C (dat dt_X11_keeps 49 rfl) 3 rfl (congrArg (fun z => x3 + z) ic_1) (by decide) rfl ?_
    refine g_goto 54 C (dat dt_X11_keeps 50 rfl) (by decide) ?_
    cases hrun
    exact Ks ((x3 + (1 : Int32)), (sA h 95 j5 (aI h 83 j3))) rfl
def j_X11_keeps_52  (x1 : Int32) (x2 : Int32) (h : Hp) : Option (Unit × Hp) :=
  (lp (fun s => b_X11_keeps_54  x1 x2 s.1 s.2) FU ((0 : Int32), h)).bind fun e7 =>
  (inb ((x2 * (fI e7 81 32)) + (25 : Int32)) 416).bind fun j9 =>
  some ((), (sF (sA e7 95 j9 x1) 81 32 ((fI (sA e7 95 j9 x1) 81 32) + (1 : Int32))))
set_option maxRecDepth 20000 in
theorem wj_X11_keeps_52 {X : Xt} (C : Cx X cn_11 prog_13_method_83_code 4 none 1 0 0)    (x1 : Int32) (x2 : Int32) (h : Hp) (q : (Unit × Hp)) (hrun : j_X11_keeps_52  x1 x2 h = some q) (K : EndQ X 0 0 none q.2) : G X h 0 0 52 [(0, .ref 81), (1, .int x1), (2, .int x2)] [] := by
  unfold j_X11_keeps_52 at hrun
  refine g_iconst C (dat dt_X11_keeps 31 rfl) ic_0 ?_
  refine g_istore_n (lv' := [(0, .ref 81), (1, .int x1), (2, .int x2), (3, .int (0 : Int32))]) C (dat dt_X11_keeps 32 rfl) (by decide) rfl ?_
  obtain ⟨e7, q8, hrun⟩ := bd hrun
  refine lp_ind (P := fun s => kp_X11_keeps_54  x1 x2 X s) (K := fun e => ke_X11_keeps_54  x1 x2 X e) (fun s q hb Ks Ke => wb_X11_keeps_54 C   x1 x2 s.1 s.2 q hb Ks Ke) FU ((0 : Int32), h) e7 q8 ?_
  show G X e7 0 0 85 [(0, .ref 81), (1, .int x1), (2, .int x2)] []
  refine g_aload_n C (dat dt_X11_keeps 51 rfl) 0 rfl ?_
  refine g_getR C (dat dt_X11_keeps 52 rfl) fl_11_69 kd_81 rfl ltk_81 ?_
  refine g_iload_n C (dat dt_X11_keeps 53 rfl) 2 rfl ?_
  refine g_aload_n C (dat dt_X11_keeps 54 rfl) 0 rfl ?_
  refine g_getI C (dat dt_X11_keeps 55 rfl) fl_11_11 kd_81 rfl ltk_81 ?_
  refine g_imul C (dat dt_X11_keeps 56 rfl) ?_
  refine g_bipush C (dat dt_X11_keeps 57 rfl) bp_25 ?_
  refine g_iadd C (dat dt_X11_keeps 58 rfl) ?_
  refine g_iload_n C (dat dt_X11_keeps 59 rfl) 1 rfl ?_
  obtain ⟨j9, q10, hrun⟩ := bd hrun
  refine g_iast (j := j9) C (dat dt_X11_keeps 60 rfl) kd_95 ltk_95 q10  ?_
  refine g_aload_n C (dat dt_X11_keeps 61 rfl) 0 rfl ?_
  refine g_dup C (dat dt_X11_keeps 62 rfl) rfl ?_
  refine g_getI C (dat dt_X11_keeps 63 rfl) fl_11_11 kd_81 rfl ltk_81 ?_
  refine g_iconst C (dat dt_X11_keeps 64 rfl) ic_1 ?_
  refine g_iadd C (dat dt_X11_keeps 65 rfl) ?_
  refine g_putI C (dat dt_X11_keeps 66 rfl) fl_11_11 rfl rfl kd_81 rfl ltk_81 ?_
  cases hrun
  exact g_vret C K (dat dt_X11_keeps 67 rfl)
def kp_X11_keeps_14  (x1 : Int32) (x2 : Int32) (X : Xt) (s : (Int32 × Hp)) : Prop := G X s.2 0 0 14 [(0, .ref 81), (1, .int x1), (2, .int x2), (3, .int s.1)] []
def ke_X11_keeps_14  (x1 : Int32) (x2 : Int32) (X : Xt) (e : Hp) : Prop := G X e 0 0 42 [(0, .ref 81), (1, .int x1), (2, .int x2)] []
def b_X11_keeps_14  (x1 : Int32) (x2 : Int32) (x3 : Int32) (h : Hp) : Option ((Int32 × Hp) ⊕ Hp) :=
  if ((15 : Int32) * x2) ≤ x3 then
  some (.inr ( h))
  else
  (inb (x3 + x2) 416).bind fun j12 =>
  (inb x3 416).bind fun j14 =>
  some (.inl ((x3 + (1 : Int32)), (sA h 95 j14 (aI h 95 j12))))
set_option maxRecDepth 20000 in
theorem wb_X11_keeps_14 {X : Xt} (C : Cx X cn_11 prog_13_method_83_code 4 none 1 0 0)   (x1 : Int32) (x2 : Int32) (x3 : Int32) (h : Hp) (q : (Int32 × Hp) ⊕ Hp) (hrun : b_X11_keeps_14  x1 x2 x3 h = some q) (Ks : ∀ s, q = .inl s → kp_X11_keeps_14  x1 x2 X s) (Ke : ∀ e, q = .inr e → ke_X11_keeps_14  x1 x2 X e) : kp_X11_keeps_14  x1 x2 X (x3, h) := by
  show G X h 0 0 14 [(0, .ref 81), (1, .int x1), (2, .int x2), (3, .int x3)] []
  unfold b_X11_keeps_14 at hrun
  refine g_iload_n C (dat dt_X11_keeps 8 rfl) 3 rfl ?_
  refine g_bipush C (dat dt_X11_keeps 9 rfl) bp_15 ?_
  refine g_iload_n C (dat dt_X11_keeps 10 rfl) 2 rfl ?_
  refine g_imul C (dat dt_X11_keeps 11 rfl) ?_
  refine g_ic_ge 42 C (dat dt_X11_keeps 12 rfl) (by decide) (fun c11 => ?_) (fun c11 => ?_)
  · rw [if_pos c11] at hrun
    refine g_sub [0, 1, 2] (lv' := [(0, .ref 81), (1, .int x1), (2, .int x2)]) rfl ?_
    cases hrun
    exact Ke ( h) rfl
  · rw [if_neg c11] at hrun
    refine g_aload_n C (dat dt_X11_keeps 13 rfl) 0 rfl ?_
    refine g_getR C (dat dt_X11_keeps 14 rfl) fl_11_69 kd_81 rfl ltk_81 ?_
    refine g_iload_n C (dat dt_X11_keeps 15 rfl) 3 rfl ?_
    refine g_aload_n C (dat dt_X11_keeps 16 rfl) 0 rfl ?_
    refine g_getR C (dat dt_X11_keeps 17 rfl) fl_11_69 kd_81 rfl ltk_81 ?_
    refine g_iload_n C (dat dt_X11_keeps 18 rfl) 3 rfl ?_
    refine g_iload_n C (dat dt_X11_keeps 19 rfl) 2 rfl ?_
    refine g_iadd C (dat dt_X11_keeps 20 rfl) ?_
    obtain ⟨j12, q13, hrun⟩ := bd hrun
    refine g_iald C (dat dt_X11_keeps 21 rfl) kd_95 ltk_95 q13 ?_
    obtain ⟨j14, q15, hrun⟩ := bd hrun
    refine g_iast (j := j14) C (dat dt_X11_keeps 22 rfl) kd_95 ltk_95 q15  ?_
    refine g_iinc (v := (x3 + (1 : Int32))) (lv' := [(0, .ref 81), (1, .int x1), (2, .int x2), (3, .int (x3 + (1 : Int32)))]) C (dat dt_X11_keeps 23 rfl) 3 rfl (congrArg (fun z => x3 + z) ic_1) (by decide) rfl ?_
    refine g_goto 14 C (dat dt_X11_keeps 24 rfl) (by decide) ?_
    cases hrun
    exact Ks ((x3 + (1 : Int32)), (sA h 95 j14 (aI h 95 j12))) rfl
def f_X11_keeps (x1 : Int32) (h : Hp) : Option (Unit × Hp) :=
  if (fI h 81 32) = (16 : Int32) then
  (lp (fun s => b_X11_keeps_14  x1 (26 : Int32) s.1 s.2) FU ((0 : Int32), h)).bind fun e16 =>
  j_X11_keeps_52  x1 (26 : Int32) (sF e16 81 32 ((fI e16 81 32) - (1 : Int32)))
  else
  j_X11_keeps_52  x1 (26 : Int32) h
set_option maxRecDepth 20000 in
theorem w_X11_keeps (x1 : Int32) (h : Hp) (q : (Unit × Hp))  (hrun : f_X11_keeps x1 h = some q) : MetA ⟨"SteamNationsModel", "keeps", "(I)V"⟩ prog_13_method_83_code 4 none 1 0 0 [.ref 81, .int x1] h none q.2 := by
  refine metA_of (by decide) (Nat.le_of_ble_eq_true rfl) (fun X C K => ?_)
  have C : Cx X cn_11 prog_13_method_83_code 4 none 1 0 0 := C
  show G X h 0 0 0 [(0, .ref 81), (1, .int x1)] []
  unfold f_X11_keeps at hrun
  refine g_bipush C (dat dt_X11_keeps 0 rfl) bp_26 ?_
  refine g_istore_n (lv' := [(0, .ref 81), (1, .int x1), (2, .int (26 : Int32))]) C (dat dt_X11_keeps 1 rfl) (by decide) rfl ?_
  refine g_aload_n C (dat dt_X11_keeps 2 rfl) 0 rfl ?_
  refine g_getI C (dat dt_X11_keeps 3 rfl) fl_11_11 kd_81 rfl ltk_81 ?_
  refine g_bipush C (dat dt_X11_keeps 4 rfl) bp_16 ?_
  refine g_ic_ne 52 C (dat dt_X11_keeps 5 rfl) (by decide) (fun c1 => ?_) (fun c1 => ?_)
  · rw [if_neg c1] at hrun
    exact wj_X11_keeps_52 C    x1 (26 : Int32) h _ hrun K
  · rw [if_pos c1] at hrun
    refine g_iconst C (dat dt_X11_keeps 6 rfl) ic_0 ?_
    refine g_istore_n (lv' := [(0, .ref 81), (1, .int x1), (2, .int (26 : Int32)), (3, .int (0 : Int32))]) C (dat dt_X11_keeps 7 rfl) (by decide) rfl ?_
    obtain ⟨e16, q17, hrun⟩ := bd hrun
    refine lp_ind (P := fun s => kp_X11_keeps_14  x1 (26 : Int32) X s) (K := fun e => ke_X11_keeps_14  x1 (26 : Int32) X e) (fun s q hb Ks Ke => wb_X11_keeps_14 C   x1 (26 : Int32) s.1 s.2 q hb Ks Ke) FU ((0 : Int32), h) e16 q17 ?_
    show G X e16 0 0 42 [(0, .ref 81), (1, .int x1), (2, .int (26 : Int32))] []
    refine g_aload_n C (dat dt_X11_keeps 25 rfl) 0 rfl ?_
    refine g_dup C (dat dt_X11_keeps 26 rfl) rfl ?_
    refine g_getI C (dat dt_X11_keeps 27 rfl) fl_11_11 kd_81 rfl ltk_81 ?_
    refine g_iconst C (dat dt_X11_keeps 28 rfl) ic_1 ?_
    refine g_isub C (dat dt_X11_keeps 29 rfl) ?_
    refine g_putI C (dat dt_X11_keeps 30 rfl) fl_11_11 rfl rfl kd_81 rfl ltk_81 ?_
    exact wj_X11_keeps_52 C    x1 (26 : Int32) (sF e16 81 32 ((fI e16 81 32) - (1 : Int32))) _ hrun K
/-! SteamNationsModel.swapsKept(II)I -/
def dl_X11_swapsKept : List (Nat × Instr × Nat) := [(0, .iload_n 1, 1), (1, .iload_n 2, 1), (2, .if_icmp .ne 5, 3), (5, .iconst (-1), 1), (6, .ireturn, 1), (7, .aload_n 0, 1), (8, .iload_n 1, 1), (9, .invokevirtual 147, 3), (12, .ifCond .eq 11, 3), (15, .aload_n 0, 1), (16, .iload_n 2, 1), (17, .invokevirtual 147, 3), (20, .ifCond .ne 6, 3), (23, .bipush (-2), 2), (25, .ireturn, 1), (26, .aload_n 0, 1), (27, .iload_n 1, 1), (28, .invokevirtual 156, 3), (31, .ifCond .eq 11, 3), (34, .aload_n 0, 1), (35, .iload_n 2, 1), (36, .invokevirtual 156, 3), (39, .ifCond .ne 6, 3), (42, .bipush (-3), 2), (44, .ireturn, 1), (45, .aload_n 0, 1), (46, .iconst 2, 1), (47, .invokevirtual 367, 3), (50, .aload_n 0, 1), (51, .iload_n 1, 1), (52, .invokevirtual 150, 3), (55, .istore_n 3, 1), (56, .aload_n 0, 1), (57, .getfield 28, 3), (60, .bipush 18, 2), (62, .iload_n 1, 1), (63, .iadd, 1), (64, .aload_n 0, 1), (65, .iload_n 2, 1), (66, .invokevirtual 150, 3), (69, .iastore, 1), (70, .aload_n 0, 1), (71, .getfield 28, 3), (74, .bipush 18, 2), (76, .iload_n 2, 1), (77, .iadd, 1), (78, .iload_n 3, 1), (79, .iastore, 1), (80, .aload_n 0, 1), (81, .iload_n 1, 1), (82, .invokevirtual 150, 3), (85, .ireturn, 1)]
set_option maxRecDepth 20000 in
theorem dt_X11_swapsKept : ∀ q ∈ dl_X11_swapsKept, decode prog_13_method_88_code q.1 = .ok q.2 := by decide +kernel
def f_X11_swapsKept (x1 : Int32) (x2 : Int32) (h : Hp) : Option (Int32 × Hp) :=
  if x1 = x2 then
  some ((-1 : Int32), h)
  else
  (f_X11_isSitter x1 h).bind fun v2 =>
  if v2 = true then
  (f_X11_isSitter x2 h).bind fun v5 =>
  if v5 = true then
  (f_X11_isInside x1 h).bind fun v8 =>
  if v8 = true then
  (f_X11_isInside x2 h).bind fun v11 =>
  if v11 = true then
  (f_X11_keeps (2 : Int32) h).bind fun v14 =>
  (f_X11_seatOf x1 v14.2).bind fun v16 =>
  (f_X11_seatOf x2 v14.2).bind fun v18 =>
  (inb ((18 : Int32) + x1) 5662).bind fun j20 =>
  (inb ((18 : Int32) + x2) 5662).bind fun j22 =>
  (f_X11_seatOf x1 (sA (sA v14.2 83 j20 v18) 83 j22 v16)).bind fun v24 =>
  some (v24, (sA (sA v14.2 83 j20 v18) 83 j22 v16))
  else
  some ((-3 : Int32), h)
  else
  some ((-3 : Int32), h)
  else
  some ((-2 : Int32), h)
  else
  some ((-2 : Int32), h)
set_option maxRecDepth 20000 in
theorem w_X11_swapsKept (x1 : Int32) (x2 : Int32) (h : Hp) (q : (Int32 × Hp))  (hrun : f_X11_swapsKept x1 x2 h = some q) : MetA ⟨"SteamNationsModel", "swapsKept", "(II)I"⟩ prog_13_method_88_code 4 (some .int) 3 0 0 [.ref 81, .int x1, .int x2] h (some (.int q.1)) q.2 := by
  refine metA_of (by decide) (Nat.le_of_ble_eq_true rfl) (fun X C K => ?_)
  have C : Cx X cn_11 prog_13_method_88_code 4 (some .int) 3 0 0 := C
  show G X h 0 0 0 [(0, .ref 81), (1, .int x1), (2, .int x2)] []
  unfold f_X11_swapsKept at hrun
  refine g_iload_n C (dat dt_X11_swapsKept 0 rfl) 1 rfl ?_
  refine g_iload_n C (dat dt_X11_swapsKept 1 rfl) 2 rfl ?_
  refine g_ic_ne 7 C (dat dt_X11_swapsKept 2 rfl) (by decide) (fun c1 => ?_) (fun c1 => ?_)
  · rw [if_neg c1] at hrun
    refine g_aload_n C (dat dt_X11_swapsKept 5 rfl) 0 rfl ?_
    refine g_iload_n C (dat dt_X11_swapsKept 6 rfl) 1 rfl ?_
    obtain ⟨v2, q3, hrun⟩ := bd hrun
    refine g_cVi [.int x1] C (dat dt_X11_swapsKept 7 rfl) ml_11_147 (w_X11_isSitter x1 h v2  q3) kd_81 ltk_81 rfl rfl cat0 (by decide) c00 ?_
    refine g_if_eq 23 C (dat dt_X11_swapsKept 8 rfl) (by decide) (fun c4 => ?_) (fun c4 => ?_)
    · rw [if_neg (b2i_z c4)] at hrun
      refine g_bipush C (dat dt_X11_swapsKept 13 rfl) bp_m2 ?_
      cases hrun
      exact g_iret C K (dat dt_X11_swapsKept 14 rfl)
    · rw [if_pos (b2i_nz c4)] at hrun
      refine g_aload_n C (dat dt_X11_swapsKept 9 rfl) 0 rfl ?_
      refine g_iload_n C (dat dt_X11_swapsKept 10 rfl) 2 rfl ?_
      obtain ⟨v5, q6, hrun⟩ := bd hrun
      refine g_cVi [.int x2] C (dat dt_X11_swapsKept 11 rfl) ml_11_147 (w_X11_isSitter x2 h v5  q6) kd_81 ltk_81 rfl rfl cat0 (by decide) c00 ?_
      refine g_if_ne 26 C (dat dt_X11_swapsKept 12 rfl) (by decide) (fun c7 => ?_) (fun c7 => ?_)
      · rw [if_pos (b2i_nz c7)] at hrun
        refine g_aload_n C (dat dt_X11_swapsKept 15 rfl) 0 rfl ?_
        refine g_iload_n C (dat dt_X11_swapsKept 16 rfl) 1 rfl ?_
        obtain ⟨v8, q9, hrun⟩ := bd hrun
        refine g_cVi [.int x1] C (dat dt_X11_swapsKept 17 rfl) ml_11_156 (w_X11_isInside x1 h v8  q9) kd_81 ltk_81 rfl rfl cat0 (by decide) c00 ?_
        refine g_if_eq 42 C (dat dt_X11_swapsKept 18 rfl) (by decide) (fun c10 => ?_) (fun c10 => ?_)
        · rw [if_neg (b2i_z c10)] at hrun
          refine g_bipush C (dat dt_X11_swapsKept 23 rfl) bp_m3 ?_
          cases hrun
          exact g_iret C K (dat dt_X11_swapsKept 24 rfl)
        · rw [if_pos (b2i_nz c10)] at hrun
          refine g_aload_n C (dat dt_X11_swapsKept 19 rfl) 0 rfl ?_
          refine g_iload_n C (dat dt_X11_swapsKept 20 rfl) 2 rfl ?_
          obtain ⟨v11, q12, hrun⟩ := bd hrun
          refine g_cVi [.int x2] C (dat dt_X11_swapsKept 21 rfl) ml_11_156 (w_X11_isInside x2 h v11  q12) kd_81 ltk_81 rfl rfl cat0 (by decide) c00 ?_
          refine g_if_ne 45 C (dat dt_X11_swapsKept 22 rfl) (by decide) (fun c13 => ?_) (fun c13 => ?_)
          · rw [if_pos (b2i_nz c13)] at hrun
            refine g_aload_n C (dat dt_X11_swapsKept 25 rfl) 0 rfl ?_
            refine g_iconst C (dat dt_X11_swapsKept 26 rfl) ic_2 ?_
            obtain ⟨v14, q15, hrun⟩ := bd hrun
            refine g_cVv [.int (2 : Int32)] C (dat dt_X11_swapsKept 27 rfl) ml_11_367 (w_X11_keeps (2 : Int32) h v14  q15) kd_81 ltk_81 rfl rfl cat0 (by decide) c00 ?_
            refine g_aload_n C (dat dt_X11_swapsKept 28 rfl) 0 rfl ?_
            refine g_iload_n C (dat dt_X11_swapsKept 29 rfl) 1 rfl ?_
            obtain ⟨v16, q17, hrun⟩ := bd hrun
            refine g_cVi [.int x1] C (dat dt_X11_swapsKept 30 rfl) ml_11_150 (w_X11_seatOf x1 v14.2 v16  q17) kd_81 ltk_81 rfl rfl cat0 (by decide) c00 ?_
            refine g_istore_n (lv' := [(0, .ref 81), (1, .int x1), (2, .int x2), (3, .int v16)]) C (dat dt_X11_swapsKept 31 rfl) (by decide) rfl ?_
            refine g_aload_n C (dat dt_X11_swapsKept 32 rfl) 0 rfl ?_
            refine g_getR C (dat dt_X11_swapsKept 33 rfl) fl_11_28 kd_81 rfl ltk_81 ?_
            refine g_bipush C (dat dt_X11_swapsKept 34 rfl) bp_18 ?_
            refine g_iload_n C (dat dt_X11_swapsKept 35 rfl) 1 rfl ?_
            refine g_iadd C (dat dt_X11_swapsKept 36 rfl) ?_
            refine g_aload_n C (dat dt_X11_swapsKept 37 rfl) 0 rfl ?_
            refine g_iload_n C (dat dt_X11_swapsKept 38 rfl) 2 rfl ?_
            obtain ⟨v18, q19, hrun⟩ := bd hrun
            refine g_cVi [.int x2] C (dat dt_X11_swapsKept 39 rfl) ml_11_150 (w_X11_seatOf x2 v14.2 v18  q19) kd_81 ltk_81 rfl rfl (Nat.le_of_ble_eq_true rfl) (by decide) c00 ?_
            obtain ⟨j20, q21, hrun⟩ := bd hrun
            refine g_iast (j := j20) C (dat dt_X11_swapsKept 40 rfl) kd_83 ltk_83 q21  ?_
            refine g_aload_n C (dat dt_X11_swapsKept 41 rfl) 0 rfl ?_
            refine g_getR C (dat dt_X11_swapsKept 42 rfl) fl_11_28 kd_81 rfl ltk_81 ?_
            refine g_bipush C (dat dt_X11_swapsKept 43 rfl) bp_18 ?_
            refine g_iload_n C (dat dt_X11_swapsKept 44 rfl) 2 rfl ?_
            refine g_iadd C (dat dt_X11_swapsKept 45 rfl) ?_
            refine g_iload_n C (dat dt_X11_swapsKept 46 rfl) 3 rfl ?_
            obtain ⟨j22, q23, hrun⟩ := bd hrun
            refine g_iast (j := j22) C (dat dt_X11_swapsKept 47 rfl) kd_83 ltk_83 q23  ?_
            refine g_aload_n C (dat dt_X11_swapsKept 48 rfl) 0 rfl ?_
            refine g_iload_n C (dat dt_X11_swapsKept 49 rfl) 1 rfl ?_
            obtain ⟨v24, q25, hrun⟩ := bd hrun
            refine g_cVi [.int x1] C (dat dt_X11_swapsKept 50 rfl) ml_11_150 (w_X11_seatOf x1 (sA (sA v14.2 83 j20 v18) 83 j22 v16) v24  q25) kd_81 ltk_81 rfl rfl cat0 (by decide) c00 ?_
            cases hrun
            exact g_iret C K (dat dt_X11_swapsKept 51 rfl)
          · rw [if_neg (b2i_z c13)] at hrun
            refine g_bipush C (dat dt_X11_swapsKept 23 rfl) bp_m3 ?_
            cases hrun
            exact g_iret C K (dat dt_X11_swapsKept 24 rfl)
      · rw [if_neg (b2i_z c7)] at hrun
        refine g_bipush C (dat dt_X11_swapsKept 13 rfl) bp_m2 ?_
        cases hrun
        exact g_iret C K (dat dt_X11_swapsKept 14 rfl)
  · rw [if_pos c1] at hrun
    refine g_iconst C (dat dt_X11_swapsKept 3 rfl) ic_m1 ?_
    cases hrun
    exact g_iret C K (dat dt_X11_swapsKept 4 rfl)
/-! SteamNationsModel.outKept(I)I -/
def dl_X11_outKept : List (Nat × Instr × Nat) := [(0, .aload_n 0, 1), (1, .iload_n 1, 1), (2, .invokevirtual 147, 3), (5, .ifCond .ne 6, 3), (8, .bipush (-2), 2), (10, .ireturn, 1), (11, .aload_n 0, 1), (12, .iload_n 1, 1), (13, .invokevirtual 156, 3), (16, .ifCond .ne 6, 3), (19, .bipush (-3), 2), (21, .ireturn, 1), (22, .aload_n 0, 1), (23, .iconst 1, 1), (24, .invokevirtual 367, 3), (27, .aload_n 0, 1), (28, .iload_n 1, 1), (29, .invokevirtual 150, 3), (32, .istore_n 2, 1), (33, .aload_n 0, 1), (34, .getfield 28, 3), (37, .bipush 18, 2), (39, .iload_n 1, 1), (40, .iadd, 1), (41, .iconst (-1), 1), (42, .iastore, 1), (43, .iload_n 2, 1), (44, .ireturn, 1)]
set_option maxRecDepth 20000 in
theorem dt_X11_outKept : ∀ q ∈ dl_X11_outKept, decode prog_13_method_87_code q.1 = .ok q.2 := by decide +kernel
def f_X11_outKept (x1 : Int32) (h : Hp) : Option (Int32 × Hp) :=
  (f_X11_isSitter x1 h).bind fun v1 =>
  if v1 = true then
  (f_X11_isInside x1 h).bind fun v4 =>
  if v4 = true then
  (f_X11_keeps (1 : Int32) h).bind fun v7 =>
  (f_X11_seatOf x1 v7.2).bind fun v9 =>
  (inb ((18 : Int32) + x1) 5662).bind fun j11 =>
  some (v9, (sA v7.2 83 j11 (-1 : Int32)))
  else
  some ((-3 : Int32), h)
  else
  some ((-2 : Int32), h)
set_option maxRecDepth 20000 in
theorem w_X11_outKept (x1 : Int32) (h : Hp) (q : (Int32 × Hp))  (hrun : f_X11_outKept x1 h = some q) : MetA ⟨"SteamNationsModel", "outKept", "(I)I"⟩ prog_13_method_87_code 3 (some .int) 3 0 0 [.ref 81, .int x1] h (some (.int q.1)) q.2 := by
  refine metA_of (by decide) (Nat.le_of_ble_eq_true rfl) (fun X C K => ?_)
  have C : Cx X cn_11 prog_13_method_87_code 3 (some .int) 3 0 0 := C
  show G X h 0 0 0 [(0, .ref 81), (1, .int x1)] []
  unfold f_X11_outKept at hrun
  refine g_aload_n C (dat dt_X11_outKept 0 rfl) 0 rfl ?_
  refine g_iload_n C (dat dt_X11_outKept 1 rfl) 1 rfl ?_
  obtain ⟨v1, q2, hrun⟩ := bd hrun
  refine g_cVi [.int x1] C (dat dt_X11_outKept 2 rfl) ml_11_147 (w_X11_isSitter x1 h v1  q2) kd_81 ltk_81 rfl rfl cat0 (by decide) c00 ?_
  refine g_if_ne 11 C (dat dt_X11_outKept 3 rfl) (by decide) (fun c3 => ?_) (fun c3 => ?_)
  · rw [if_pos (b2i_nz c3)] at hrun
    refine g_aload_n C (dat dt_X11_outKept 6 rfl) 0 rfl ?_
    refine g_iload_n C (dat dt_X11_outKept 7 rfl) 1 rfl ?_
    obtain ⟨v4, q5, hrun⟩ := bd hrun
    refine g_cVi [.int x1] C (dat dt_X11_outKept 8 rfl) ml_11_156 (w_X11_isInside x1 h v4  q5) kd_81 ltk_81 rfl rfl cat0 (by decide) c00 ?_
    refine g_if_ne 22 C (dat dt_X11_outKept 9 rfl) (by decide) (fun c6 => ?_) (fun c6 => ?_)
    · rw [if_pos (b2i_nz c6)] at hrun
      refine g_aload_n C (dat dt_X11_outKept 12 rfl) 0 rfl ?_
      refine g_iconst C (dat dt_X11_outKept 13 rfl) ic_1 ?_
      obtain ⟨v7, q8, hrun⟩ := bd hrun
      refine g_cVv [.int (1 : Int32)] C (dat dt_X11_outKept 14 rfl) ml_11_367 (w_X11_keeps (1 : Int32) h v7  q8) kd_81 ltk_81 rfl rfl cat0 (by decide) c00 ?_
      refine g_aload_n C (dat dt_X11_outKept 15 rfl) 0 rfl ?_
      refine g_iload_n C (dat dt_X11_outKept 16 rfl) 1 rfl ?_
      obtain ⟨v9, q10, hrun⟩ := bd hrun
      refine g_cVi [.int x1] C (dat dt_X11_outKept 17 rfl) ml_11_150 (w_X11_seatOf x1 v7.2 v9  q10) kd_81 ltk_81 rfl rfl cat0 (by decide) c00 ?_
      refine g_istore_n (lv' := [(0, .ref 81), (1, .int x1), (2, .int v9)]) C (dat dt_X11_outKept 18 rfl) (by decide) rfl ?_
      refine g_aload_n C (dat dt_X11_outKept 19 rfl) 0 rfl ?_
      refine g_getR C (dat dt_X11_outKept 20 rfl) fl_11_28 kd_81 rfl ltk_81 ?_
      refine g_bipush C (dat dt_X11_outKept 21 rfl) bp_18 ?_
      refine g_iload_n C (dat dt_X11_outKept 22 rfl) 1 rfl ?_
      refine g_iadd C (dat dt_X11_outKept 23 rfl) ?_
      refine g_iconst C (dat dt_X11_outKept 24 rfl) ic_m1 ?_
      obtain ⟨j11, q12, hrun⟩ := bd hrun
      refine g_iast (j := j11) C (dat dt_X11_outKept 25 rfl) kd_83 ltk_83 q12  ?_
      refine g_iload_n C (dat dt_X11_outKept 26 rfl) 2 rfl ?_
      cases hrun
      exact g_iret C K (dat dt_X11_outKept 27 rfl)
    · rw [if_neg (b2i_z c6)] at hrun
      refine g_bipush C (dat dt_X11_outKept 10 rfl) bp_m3 ?_
      cases hrun
      exact g_iret C K (dat dt_X11_outKept 11 rfl)
  · rw [if_neg (b2i_z c3)] at hrun
    refine g_bipush C (dat dt_X11_outKept 4 rfl) bp_m2 ?_
    cases hrun
    exact g_iret C K (dat dt_X11_outKept 5 rfl)
/-! SteamNationsModel.lesser(II)I -/
def dl_X11_lesser : List (Nat × Instr × Nat) := [(0, .iload_n 0, 1), (1, .iload_n 1, 1), (2, .if_icmp .ge 7, 3), (5, .iload_n 0, 1), (6, .goto 4, 3), (9, .iload_n 1, 1), (10, .ireturn, 1)]
set_option maxRecDepth 20000 in
theorem dt_X11_lesser : ∀ q ∈ dl_X11_lesser, decode prog_13_method_2_code q.1 = .ok q.2 := by decide +kernel
def f_X11_lesser (x0 : Int32) (x1 : Int32) : Option Int32 :=
  if x1 ≤ x0 then
  some x1
  else
  some x0
set_option maxRecDepth 20000 in
theorem w_X11_lesser (x0 : Int32) (x1 : Int32) (h : Hp) (q : Int32)  (hrun : f_X11_lesser x0 x1 = some q) : MetA ⟨"SteamNationsModel", "lesser", "(II)I"⟩ prog_13_method_2_code 2 (some .int) 1 0 0 [.int x0, .int x1] h (some (.int q)) h := by
  refine metA_of (by decide) (Nat.le_of_ble_eq_true rfl) (fun X C K => ?_)
  have C : Cx X cn_11 prog_13_method_2_code 2 (some .int) 1 0 0 := C
  show G X h 0 0 0 [(0, .int x0), (1, .int x1)] []
  unfold f_X11_lesser at hrun
  refine g_iload_n C (dat dt_X11_lesser 0 rfl) 0 rfl ?_
  refine g_iload_n C (dat dt_X11_lesser 1 rfl) 1 rfl ?_
  refine g_ic_ge 9 C (dat dt_X11_lesser 2 rfl) (by decide) (fun c1 => ?_) (fun c1 => ?_)
  · rw [if_pos c1] at hrun
    refine g_iload_n C (dat dt_X11_lesser 5 rfl) 1 rfl ?_
    cases hrun
    exact g_iret C K (dat dt_X11_lesser 6 rfl)
  · rw [if_neg c1] at hrun
    refine g_iload_n C (dat dt_X11_lesser 3 rfl) 0 rfl ?_
    refine g_goto 10 C (dat dt_X11_lesser 4 rfl) (by decide) ?_
    cases hrun
    exact g_iret C K (dat dt_X11_lesser 6 rfl)
/-! SteamNationsModel.seatsKept(II)I -/
def dl_X11_seatsKept : List (Nat × Instr × Nat) := [(0, .iload_n 2, 1), (1, .invokestatic 163, 3), (4, .ifCond .ne 5, 3), (7, .iconst (-1), 1), (8, .ireturn, 1), (9, .aload_n 0, 1), (10, .iload_n 1, 1), (11, .invokevirtual 147, 3), (14, .ifCond .ne 6, 3), (17, .bipush (-2), 2), (19, .ireturn, 1), (20, .aload_n 0, 1), (21, .iload_n 2, 1), (22, .invokevirtual 166, 3), (25, .iconst (-1), 1), (26, .if_icmp .eq 6, 3), (29, .bipush (-3), 2), (31, .ireturn, 1), (32, .aload_n 0, 1), (33, .iconst 0, 1), (34, .invokevirtual 367, 3), (37, .aload_n 0, 1), (38, .getfield 28, 3), (41, .bipush 18, 2), (43, .iload_n 1, 1), (44, .iadd, 1), (45, .iload_n 2, 1), (46, .iastore, 1), (47, .aload_n 0, 1), (48, .invokevirtual 333, 3), (51, .ireturn, 1)]
set_option maxRecDepth 20000 in
theorem dt_X11_seatsKept : ∀ q ∈ dl_X11_seatsKept, decode prog_13_method_86_code q.1 = .ok q.2 := by decide +kernel
def f_X11_seatsKept (x1 : Int32) (x2 : Int32) (h : Hp) : Option (Int32 × Hp) :=
  (f_X11_isSeat x2).bind fun v1 =>
  if v1 = true then
  (f_X11_isSitter x1 h).bind fun v4 =>
  if v4 = true then
  (f_X11_onSeat x2 h).bind fun v7 =>
  if v7 = (-1 : Int32) then
  (f_X11_keeps (0 : Int32) h).bind fun v10 =>
  (inb ((18 : Int32) + x1) 5662).bind fun j12 =>
  (f_X11_insideMany  (sA v10.2 83 j12 x2)).bind fun v14 =>
  some (v14, (sA v10.2 83 j12 x2))
  else
  some ((-3 : Int32), h)
  else
  some ((-2 : Int32), h)
  else
  some ((-1 : Int32), h)
set_option maxRecDepth 20000 in
theorem w_X11_seatsKept (x1 : Int32) (x2 : Int32) (h : Hp) (q : (Int32 × Hp))  (hrun : f_X11_seatsKept x1 x2 h = some q) : MetA ⟨"SteamNationsModel", "seatsKept", "(II)I"⟩ prog_13_method_86_code 3 (some .int) 3 0 0 [.ref 81, .int x1, .int x2] h (some (.int q.1)) q.2 := by
  refine metA_of (by decide) (Nat.le_of_ble_eq_true rfl) (fun X C K => ?_)
  have C : Cx X cn_11 prog_13_method_86_code 3 (some .int) 3 0 0 := C
  show G X h 0 0 0 [(0, .ref 81), (1, .int x1), (2, .int x2)] []
  unfold f_X11_seatsKept at hrun
  refine g_iload_n C (dat dt_X11_seatsKept 0 rfl) 2 rfl ?_
  obtain ⟨v1, q2, hrun⟩ := bd hrun
  refine g_cSi [.int x2] C (dat dt_X11_seatsKept 1 rfl) ml_11_163 (w_X11_isSeat x2 h v1  q2) rfl rfl cat0 (by decide) c00 ?_
  refine g_if_ne 9 C (dat dt_X11_seatsKept 2 rfl) (by decide) (fun c3 => ?_) (fun c3 => ?_)
  · rw [if_pos (b2i_nz c3)] at hrun
    refine g_aload_n C (dat dt_X11_seatsKept 5 rfl) 0 rfl ?_
    refine g_iload_n C (dat dt_X11_seatsKept 6 rfl) 1 rfl ?_
    obtain ⟨v4, q5, hrun⟩ := bd hrun
    refine g_cVi [.int x1] C (dat dt_X11_seatsKept 7 rfl) ml_11_147 (w_X11_isSitter x1 h v4  q5) kd_81 ltk_81 rfl rfl cat0 (by decide) c00 ?_
    refine g_if_ne 20 C (dat dt_X11_seatsKept 8 rfl) (by decide) (fun c6 => ?_) (fun c6 => ?_)
    · rw [if_pos (b2i_nz c6)] at hrun
      refine g_aload_n C (dat dt_X11_seatsKept 11 rfl) 0 rfl ?_
      refine g_iload_n C (dat dt_X11_seatsKept 12 rfl) 2 rfl ?_
      obtain ⟨v7, q8, hrun⟩ := bd hrun
      refine g_cVi [.int x2] C (dat dt_X11_seatsKept 13 rfl) ml_11_166 (w_X11_onSeat x2 h v7  q8) kd_81 ltk_81 rfl rfl cat0 (by decide) c00 ?_
      refine g_iconst C (dat dt_X11_seatsKept 14 rfl) ic_m1 ?_
      refine g_ic_eq 32 C (dat dt_X11_seatsKept 15 rfl) (by decide) (fun c9 => ?_) (fun c9 => ?_)
      · rw [if_pos c9] at hrun
        refine g_aload_n C (dat dt_X11_seatsKept 18 rfl) 0 rfl ?_
        refine g_iconst C (dat dt_X11_seatsKept 19 rfl) ic_0 ?_
        obtain ⟨v10, q11, hrun⟩ := bd hrun
        refine g_cVv [.int (0 : Int32)] C (dat dt_X11_seatsKept 20 rfl) ml_11_367 (w_X11_keeps (0 : Int32) h v10  q11) kd_81 ltk_81 rfl rfl cat0 (by decide) c00 ?_
        refine g_aload_n C (dat dt_X11_seatsKept 21 rfl) 0 rfl ?_
        refine g_getR C (dat dt_X11_seatsKept 22 rfl) fl_11_28 kd_81 rfl ltk_81 ?_
        refine g_bipush C (dat dt_X11_seatsKept 23 rfl) bp_18 ?_
        refine g_iload_n C (dat dt_X11_seatsKept 24 rfl) 1 rfl ?_
        refine g_iadd C (dat dt_X11_seatsKept 25 rfl) ?_
        refine g_iload_n C (dat dt_X11_seatsKept 26 rfl) 2 rfl ?_
        obtain ⟨j12, q13, hrun⟩ := bd hrun
        refine g_iast (j := j12) C (dat dt_X11_seatsKept 27 rfl) kd_83 ltk_83 q13  ?_
        refine g_aload_n C (dat dt_X11_seatsKept 28 rfl) 0 rfl ?_
        obtain ⟨v14, q15, hrun⟩ := bd hrun
        refine g_cVi [] C (dat dt_X11_seatsKept 29 rfl) ml_11_333 (w_X11_insideMany  (sA v10.2 83 j12 x2) v14  q15) kd_81 ltk_81 rfl rfl cat0 (by decide) c00 ?_
        cases hrun
        exact g_iret C K (dat dt_X11_seatsKept 30 rfl)
      · rw [if_neg c9] at hrun
        refine g_bipush C (dat dt_X11_seatsKept 16 rfl) bp_m3 ?_
        cases hrun
        exact g_iret C K (dat dt_X11_seatsKept 17 rfl)
    · rw [if_neg (b2i_z c6)] at hrun
      refine g_bipush C (dat dt_X11_seatsKept 9 rfl) bp_m2 ?_
      cases hrun
      exact g_iret C K (dat dt_X11_seatsKept 10 rfl)
  · rw [if_neg (b2i_z c3)] at hrun
    refine g_iconst C (dat dt_X11_seatsKept 3 rfl) ic_m1 ?_
    cases hrun
    exact g_iret C K (dat dt_X11_seatsKept 4 rfl)
/-! SteamNationsModel.takesBack(I)V -/
def dl_X11_takesBack : List (Nat × Instr × Nat) := [(0, .iconst 0, 1), (1, .istore_n 2, 1), (2, .iload_n 2, 1), (3, .bipush 25, 2), (5, .if_icmp .ge 26, 3), (8, .aload_n 0, 1), (9, .getfield 28, 3), (12, .iload_n 2, 1), (13, .aload_n 0, 1), (14, .getfield 38, 3), (17, .bipush 25, 2), (19, .iload_n 1, 1), (20, .imul, 1), (21, .iload_n 2, 1), (22, .iadd, 1), (23, .iaload, 1), (24, .iastore, 1), (25, .iinc 2 1, 3), (28, .goto (-26), 3), (31, .return_, 1)]
set_option maxRecDepth 20000 in
theorem dt_X11_takesBack : ∀ q ∈ dl_X11_takesBack, decode prog_13_method_14_code q.1 = .ok q.2 := by decide +kernel
def kp_X11_takesBack_2  (x1 : Int32) (X : Xt) (s : (Int32 × Hp)) : Prop := G X s.2 0 0 2 [(0, .ref 81), (1, .int x1), (2, .int s.1)] []
def ke_X11_takesBack_2  (x1 : Int32) (X : Xt) (e : Hp) : Prop := G X e 0 0 31 [] []
def b_X11_takesBack_2  (x1 : Int32) (x2 : Int32) (h : Hp) : Option ((Int32 × Hp) ⊕ Hp) :=
  if (25 : Int32) ≤ x2 then
  some (.inr ( h))
  else
  (inb (((25 : Int32) * x1) + x2) 50).bind fun j2 =>
  (inb x2 5662).bind fun j4 =>
  some (.inl ((x2 + (1 : Int32)), (sA h 83 j4 (aI h 86 j2))))
set_option maxRecDepth 20000 in
theorem wb_X11_takesBack_2 {X : Xt} (C : Cx X cn_11 prog_13_method_14_code 3 none 1 0 0)   (x1 : Int32) (x2 : Int32) (h : Hp) (q : (Int32 × Hp) ⊕ Hp) (hrun : b_X11_takesBack_2  x1 x2 h = some q) (Ks : ∀ s, q = .inl s → kp_X11_takesBack_2  x1 X s) (Ke : ∀ e, q = .inr e → ke_X11_takesBack_2  x1 X e) : kp_X11_takesBack_2  x1 X (x2, h) := by
  show G X h 0 0 2 [(0, .ref 81), (1, .int x1), (2, .int x2)] []
  unfold b_X11_takesBack_2 at hrun
  refine g_iload_n C (dat dt_X11_takesBack 2 rfl) 2 rfl ?_
  refine g_bipush C (dat dt_X11_takesBack 3 rfl) bp_25 ?_
  refine g_ic_ge 31 C (dat dt_X11_takesBack 4 rfl) (by decide) (fun c1 => ?_) (fun c1 => ?_)
  · rw [if_pos c1] at hrun
    refine g_sub [] (lv' := []) rfl ?_
    cases hrun
    exact Ke ( h) rfl
  · rw [if_neg c1] at hrun
    refine g_aload_n C (dat dt_X11_takesBack 5 rfl) 0 rfl ?_
    refine g_getR C (dat dt_X11_takesBack 6 rfl) fl_11_28 kd_81 rfl ltk_81 ?_
    refine g_iload_n C (dat dt_X11_takesBack 7 rfl) 2 rfl ?_
    refine g_aload_n C (dat dt_X11_takesBack 8 rfl) 0 rfl ?_
    refine g_getR C (dat dt_X11_takesBack 9 rfl) fl_11_38 kd_81 rfl ltk_81 ?_
    refine g_bipush C (dat dt_X11_takesBack 10 rfl) bp_25 ?_
    refine g_iload_n C (dat dt_X11_takesBack 11 rfl) 1 rfl ?_
    refine g_imul C (dat dt_X11_takesBack 12 rfl) ?_
    refine g_iload_n C (dat dt_X11_takesBack 13 rfl) 2 rfl ?_
    refine g_iadd C (dat dt_X11_takesBack 14 rfl) ?_
    obtain ⟨j2, q3, hrun⟩ := bd hrun
    refine g_iald C (dat dt_X11_takesBack 15 rfl) kd_86 ltk_86 q3 ?_
    obtain ⟨j4, q5, hrun⟩ := bd hrun
    refine g_iast (j := j4) C (dat dt_X11_takesBack 16 rfl) kd_83 ltk_83 q5  ?_
    refine g_iinc (v := (x2 + (1 : Int32))) (lv' := [(0, .ref 81), (1, .int x1), (2, .int (x2 + (1 : Int32)))]) C (dat dt_X11_takesBack 17 rfl) 2 rfl (congrArg (fun z => x2 + z) ic_1) (by decide) rfl ?_
    refine g_goto 2 C (dat dt_X11_takesBack 18 rfl) (by decide) ?_
    cases hrun
    exact Ks ((x2 + (1 : Int32)), (sA h 83 j4 (aI h 86 j2))) rfl
def f_X11_takesBack (x1 : Int32) (h : Hp) : Option (Unit × Hp) :=
  (lp (fun s => b_X11_takesBack_2  x1 s.1 s.2) FU ((0 : Int32), h)).bind fun e6 =>
  some ((), e6)
set_option maxRecDepth 20000 in
theorem w_X11_takesBack (x1 : Int32) (h : Hp) (q : (Unit × Hp))  (hrun : f_X11_takesBack x1 h = some q) : MetA ⟨"SteamNationsModel", "takesBack", "(I)V"⟩ prog_13_method_14_code 3 none 1 0 0 [.ref 81, .int x1] h none q.2 := by
  refine metA_of (by decide) (Nat.le_of_ble_eq_true rfl) (fun X C K => ?_)
  have C : Cx X cn_11 prog_13_method_14_code 3 none 1 0 0 := C
  show G X h 0 0 0 [(0, .ref 81), (1, .int x1)] []
  unfold f_X11_takesBack at hrun
  refine g_iconst C (dat dt_X11_takesBack 0 rfl) ic_0 ?_
  refine g_istore_n (lv' := [(0, .ref 81), (1, .int x1), (2, .int (0 : Int32))]) C (dat dt_X11_takesBack 1 rfl) (by decide) rfl ?_
  obtain ⟨e6, q7, hrun⟩ := bd hrun
  refine lp_ind (P := fun s => kp_X11_takesBack_2  x1 X s) (K := fun e => ke_X11_takesBack_2  x1 X e) (fun s q hb Ks Ke => wb_X11_takesBack_2 C   x1 s.1 s.2 q hb Ks Ke) FU ((0 : Int32), h) e6 q7 ?_
  show G X e6 0 0 31 [] []
  cases hrun
  exact g_vret C K (dat dt_X11_takesBack 19 rfl)
/-! SteamNationsModel.fault()I -/
def dl_X11_fault : List (Nat × Instr × Nat) := [(0, .aload_n 0, 1), (1, .getfield 51, 3), (4, .ireturn, 1)]
set_option maxRecDepth 20000 in
theorem dt_X11_fault : ∀ q ∈ dl_X11_fault, decode prog_13_method_61_code q.1 = .ok q.2 := by decide +kernel
def f_X11_fault  (h : Hp) : Option Int32 :=
  some (fI h 81 14)
set_option maxRecDepth 20000 in
theorem w_X11_fault  (h : Hp) (q : Int32)  (hrun : f_X11_fault  h = some q) : MetA ⟨"SteamNationsModel", "fault", "()I"⟩ prog_13_method_61_code 1 (some .int) 1 0 0 [.ref 81] h (some (.int q)) h := by
  refine metA_of (by decide) (Nat.le_of_ble_eq_true rfl) (fun X C K => ?_)
  have C : Cx X cn_11 prog_13_method_61_code 1 (some .int) 1 0 0 := C
  show G X h 0 0 0 [(0, .ref 81)] []
  unfold f_X11_fault at hrun
  refine g_aload_n C (dat dt_X11_fault 0 rfl) 0 rfl ?_
  refine g_getI C (dat dt_X11_fault 1 rfl) fl_11_51 kd_81 rfl ltk_81 ?_
  cases hrun
  exact g_iret C K (dat dt_X11_fault 2 rfl)
/-! SteamNationsModel.stopped()I -/
def dl_X11_stopped : List (Nat × Instr × Nat) := [(0, .aload_n 0, 1), (1, .getfield 109, 3), (4, .ireturn, 1)]
set_option maxRecDepth 20000 in
theorem dt_X11_stopped : ∀ q ∈ dl_X11_stopped, decode prog_13_method_122_code q.1 = .ok q.2 := by decide +kernel
def f_X11_stopped  (h : Hp) : Option Int32 :=
  some (fI h 81 46)
set_option maxRecDepth 20000 in
theorem w_X11_stopped  (h : Hp) (q : Int32)  (hrun : f_X11_stopped  h = some q) : MetA ⟨"SteamNationsModel", "stopped", "()I"⟩ prog_13_method_122_code 1 (some .int) 1 0 0 [.ref 81] h (some (.int q)) h := by
  refine metA_of (by decide) (Nat.le_of_ble_eq_true rfl) (fun X C K => ?_)
  have C : Cx X cn_11 prog_13_method_122_code 1 (some .int) 1 0 0 := C
  show G X h 0 0 0 [(0, .ref 81)] []
  unfold f_X11_stopped at hrun
  refine g_aload_n C (dat dt_X11_stopped 0 rfl) 0 rfl ?_
  refine g_getI C (dat dt_X11_stopped 1 rfl) fl_11_109 kd_81 rfl ltk_81 ?_
  cases hrun
  exact g_iret C K (dat dt_X11_stopped 2 rfl)
/-! SteamNationsModel.isLaw(I)Z -/
def dl_X11_isLaw : List (Nat × Instr × Nat) := [(0, .iload_n 1, 1), (1, .iconst (-1), 1), (2, .aload_n 0, 1), (3, .getfield 28, 3), (6, .bipush 53, 2), (8, .iaload, 1), (9, .iconst 1, 1), (10, .isub, 1), (11, .invokestatic 18, 3), (14, .ireturn, 1)]
set_option maxRecDepth 20000 in
theorem dt_X11_isLaw : ∀ q ∈ dl_X11_isLaw, decode prog_13_method_62_code q.1 = .ok q.2 := by decide +kernel
def f_X11_isLaw (x1 : Int32) (h : Hp) : Option Bool :=
  (f_X11_lies x1 (-1 : Int32) ((aI h 83 53) - (1 : Int32))).bind fun v1 =>
  some v1
set_option maxRecDepth 20000 in
theorem w_X11_isLaw (x1 : Int32) (h : Hp) (q : Bool)  (hrun : f_X11_isLaw x1 h = some q) : MetA ⟨"SteamNationsModel", "isLaw", "(I)Z"⟩ prog_13_method_62_code 2 (some .boolean) 2 0 0 [.ref 81, .int x1] h (some (.int (b2i q))) h := by
  refine metA_of (by decide) (Nat.le_of_ble_eq_true rfl) (fun X C K => ?_)
  have C : Cx X cn_11 prog_13_method_62_code 2 (some .boolean) 2 0 0 := C
  show G X h 0 0 0 [(0, .ref 81), (1, .int x1)] []
  unfold f_X11_isLaw at hrun
  refine g_iload_n C (dat dt_X11_isLaw 0 rfl) 1 rfl ?_
  refine g_iconst C (dat dt_X11_isLaw 1 rfl) ic_m1 ?_
  refine g_aload_n C (dat dt_X11_isLaw 2 rfl) 0 rfl ?_
  refine g_getR C (dat dt_X11_isLaw 3 rfl) fl_11_28 kd_81 rfl ltk_81 ?_
  refine g_bipush C (dat dt_X11_isLaw 4 rfl) bp_53 ?_
  refine g_iald (j := 53) C (dat dt_X11_isLaw 5 rfl) kd_83 ltk_83 (show inb (53 : Int32) 5662 = some 53 by decide) ?_
  refine g_iconst C (dat dt_X11_isLaw 6 rfl) ic_1 ?_
  refine g_isub C (dat dt_X11_isLaw 7 rfl) ?_
  obtain ⟨v1, q2, hrun⟩ := bd hrun
  refine g_cSi [.int x1, .int (-1 : Int32), .int ((aI h 83 53) - (1 : Int32))] C (dat dt_X11_isLaw 8 rfl) ml_11_18 (w_X11_lies x1 (-1 : Int32) ((aI h 83 53) - (1 : Int32)) h v1  q2) rfl rfl cat0 (by decide) c00 ?_
  cases hrun
  exact g_zret C K rfl (dat dt_X11_isLaw 9 rfl)
/-! SteamNationsModel.force(I)I -/
def dl_X11_force : List (Nat × Instr × Nat) := [(0, .aload_n 0, 1), (1, .iload_n 1, 1), (2, .invokevirtual 285, 3), (5, .ifCond .ne 10, 3), (8, .aload_n 0, 1), (9, .bipush (-2), 2), (11, .invokevirtual 121, 3), (14, .ireturn, 1), (15, .aload_n 0, 1), (16, .getfield 28, 3), (19, .bipush 54, 2), (21, .iaload, 1), (22, .istore_n 2, 1), (23, .aload_n 0, 1), (24, .getfield 28, 3), (27, .bipush 54, 2), (29, .iload_n 1, 1), (30, .iastore, 1), (31, .aload_n 0, 1), (32, .iload_n 2, 1), (33, .invokevirtual 14, 3), (36, .ireturn, 1)]
set_option maxRecDepth 20000 in
theorem dt_X11_force : ∀ q ∈ dl_X11_force, decode prog_13_method_63_code q.1 = .ok q.2 := by decide +kernel
def f_X11_force (x1 : Int32) (h : Hp) : Option (Int32 × Hp) :=
  (f_X11_isLaw x1 h).bind fun v1 =>
  if v1 = true then
  (f_X11_good (aI h 83 54) (sA h 83 54 x1)).bind fun v6 =>
  some (v6.1, v6.2)
  else
  (f_X11_refuses (-2 : Int32) h).bind fun v8 =>
  some (v8.1, v8.2)
set_option maxRecDepth 20000 in
theorem w_X11_force (x1 : Int32) (h : Hp) (q : (Int32 × Hp))  (hrun : f_X11_force x1 h = some q) : MetA ⟨"SteamNationsModel", "force", "(I)I"⟩ prog_13_method_63_code 3 (some .int) 3 0 0 [.ref 81, .int x1] h (some (.int q.1)) q.2 := by
  refine metA_of (by decide) (Nat.le_of_ble_eq_true rfl) (fun X C K => ?_)
  have C : Cx X cn_11 prog_13_method_63_code 3 (some .int) 3 0 0 := C
  show G X h 0 0 0 [(0, .ref 81), (1, .int x1)] []
  unfold f_X11_force at hrun
  refine g_aload_n C (dat dt_X11_force 0 rfl) 0 rfl ?_
  refine g_iload_n C (dat dt_X11_force 1 rfl) 1 rfl ?_
  obtain ⟨v1, q2, hrun⟩ := bd hrun
  refine g_cVi [.int x1] C (dat dt_X11_force 2 rfl) ml_11_285 (w_X11_isLaw x1 h v1  q2) kd_81 ltk_81 rfl rfl cat0 (by decide) c00 ?_
  refine g_if_ne 15 C (dat dt_X11_force 3 rfl) (by decide) (fun c3 => ?_) (fun c3 => ?_)
  · rw [if_pos (b2i_nz c3)] at hrun
    refine g_aload_n C (dat dt_X11_force 8 rfl) 0 rfl ?_
    refine g_getR C (dat dt_X11_force 9 rfl) fl_11_28 kd_81 rfl ltk_81 ?_
    refine g_bipush C (dat dt_X11_force 10 rfl) bp_54 ?_
    refine g_iald (j := 54) C (dat dt_X11_force 11 rfl) kd_83 ltk_83 (show inb (54 : Int32) 5662 = some 54 by decide) ?_
    refine g_istore_n (lv' := [(0, .ref 81), (1, .int x1), (2, .int (aI h 83 54))]) C (dat dt_X11_force 12 rfl) (by decide) rfl ?_
    refine g_aload_n C (dat dt_X11_force 13 rfl) 0 rfl ?_
    refine g_getR C (dat dt_X11_force 14 rfl) fl_11_28 kd_81 rfl ltk_81 ?_
    refine g_bipush C (dat dt_X11_force 15 rfl) bp_54 ?_
    refine g_iload_n C (dat dt_X11_force 16 rfl) 1 rfl ?_
    refine g_iast (j := 54) C (dat dt_X11_force 17 rfl) kd_83 ltk_83 (show inb (54 : Int32) 5662 = some 54 by decide)  ?_
    refine g_aload_n C (dat dt_X11_force 18 rfl) 0 rfl ?_
    refine g_iload_n C (dat dt_X11_force 19 rfl) 2 rfl ?_
    obtain ⟨v6, q7, hrun⟩ := bd hrun
    refine g_cVi [.int (aI h 83 54)] C (dat dt_X11_force 20 rfl) ml_11_14 (w_X11_good (aI h 83 54) (sA h 83 54 x1) v6  q7) kd_81 ltk_81 rfl rfl cat0 (by decide) c00 ?_
    cases hrun
    exact g_iret C K (dat dt_X11_force 21 rfl)
  · rw [if_neg (b2i_z c3)] at hrun
    refine g_aload_n C (dat dt_X11_force 4 rfl) 0 rfl ?_
    refine g_bipush C (dat dt_X11_force 5 rfl) bp_m2 ?_
    obtain ⟨v8, q9, hrun⟩ := bd hrun
    refine g_cVi [.int (-2 : Int32)] C (dat dt_X11_force 6 rfl) ml_11_121 (w_X11_refuses (-2 : Int32) h v8  q9) kd_81 ltk_81 rfl rfl cat0 (by decide) c00 ?_
    cases hrun
    exact g_iret C K (dat dt_X11_force 7 rfl)
/-! SteamNationsModel.goodOr(I)I -/
def dl_X11_goodOr : List (Nat × Instr × Nat) := [(0, .iload_n 1, 1), (1, .ifCond .ge 11, 3), (4, .aload_n 0, 1), (5, .iload_n 1, 1), (6, .invokevirtual 121, 3), (9, .goto 8, 3), (12, .aload_n 0, 1), (13, .iload_n 1, 1), (14, .invokevirtual 14, 3), (17, .ireturn, 1)]
set_option maxRecDepth 20000 in
theorem dt_X11_goodOr : ∀ q ∈ dl_X11_goodOr, decode prog_13_method_85_code q.1 = .ok q.2 := by decide +kernel
def f_X11_goodOr (x1 : Int32) (h : Hp) : Option (Int32 × Hp) :=
  if 0 ≤ x1 then
  (f_X11_good x1 h).bind fun v2 =>
  some (v2.1, v2.2)
  else
  (f_X11_refuses x1 h).bind fun v4 =>
  some (v4.1, v4.2)
set_option maxRecDepth 20000 in
theorem w_X11_goodOr (x1 : Int32) (h : Hp) (q : (Int32 × Hp))  (hrun : f_X11_goodOr x1 h = some q) : MetA ⟨"SteamNationsModel", "goodOr", "(I)I"⟩ prog_13_method_85_code 2 (some .int) 2 0 0 [.ref 81, .int x1] h (some (.int q.1)) q.2 := by
  refine metA_of (by decide) (Nat.le_of_ble_eq_true rfl) (fun X C K => ?_)
  have C : Cx X cn_11 prog_13_method_85_code 2 (some .int) 2 0 0 := C
  show G X h 0 0 0 [(0, .ref 81), (1, .int x1)] []
  unfold f_X11_goodOr at hrun
  refine g_iload_n C (dat dt_X11_goodOr 0 rfl) 1 rfl ?_
  refine g_if_ge 12 C (dat dt_X11_goodOr 1 rfl) (by decide) (fun c1 => ?_) (fun c1 => ?_)
  · rw [if_pos c1] at hrun
    refine g_aload_n C (dat dt_X11_goodOr 6 rfl) 0 rfl ?_
    refine g_iload_n C (dat dt_X11_goodOr 7 rfl) 1 rfl ?_
    obtain ⟨v2, q3, hrun⟩ := bd hrun
    refine g_cVi [.int x1] C (dat dt_X11_goodOr 8 rfl) ml_11_14 (w_X11_good x1 h v2  q3) kd_81 ltk_81 rfl rfl cat0 (by decide) c00 ?_
    cases hrun
    exact g_iret C K (dat dt_X11_goodOr 9 rfl)
  · rw [if_neg c1] at hrun
    refine g_aload_n C (dat dt_X11_goodOr 2 rfl) 0 rfl ?_
    refine g_iload_n C (dat dt_X11_goodOr 3 rfl) 1 rfl ?_
    obtain ⟨v4, q5, hrun⟩ := bd hrun
    refine g_cVi [.int x1] C (dat dt_X11_goodOr 4 rfl) ml_11_121 (w_X11_refuses x1 h v4  q5) kd_81 ltk_81 rfl rfl cat0 (by decide) c00 ?_
    refine g_goto 17 C (dat dt_X11_goodOr 5 rfl) (by decide) ?_
    cases hrun
    exact g_iret C K (dat dt_X11_goodOr 9 rfl)
/-! SteamNationsModel.seat(II)I -/
def dl_X11_seat : List (Nat × Instr × Nat) := [(0, .aload_n 0, 1), (1, .aload_n 0, 1), (2, .iload_n 1, 1), (3, .iload_n 2, 1), (4, .invokevirtual 370, 3), (7, .invokevirtual 373, 3), (10, .ireturn, 1)]
set_option maxRecDepth 20000 in
theorem dt_X11_seat : ∀ q ∈ dl_X11_seat, decode prog_13_method_90_code q.1 = .ok q.2 := by decide +kernel
def f_X11_seat (x1 : Int32) (x2 : Int32) (h : Hp) : Option (Int32 × Hp) :=
  (f_X11_seatsKept x1 x2 h).bind fun v1 =>
  (f_X11_goodOr v1.1 v1.2).bind fun v3 =>
  some (v3.1, v3.2)
set_option maxRecDepth 20000 in
theorem w_X11_seat (x1 : Int32) (x2 : Int32) (h : Hp) (q : (Int32 × Hp))  (hrun : f_X11_seat x1 x2 h = some q) : MetA ⟨"SteamNationsModel", "seat", "(II)I"⟩ prog_13_method_90_code 3 (some .int) 4 0 0 [.ref 81, .int x1, .int x2] h (some (.int q.1)) q.2 := by
  refine metA_of (by decide) (Nat.le_of_ble_eq_true rfl) (fun X C K => ?_)
  have C : Cx X cn_11 prog_13_method_90_code 3 (some .int) 4 0 0 := C
  show G X h 0 0 0 [(0, .ref 81), (1, .int x1), (2, .int x2)] []
  unfold f_X11_seat at hrun
  refine g_aload_n C (dat dt_X11_seat 0 rfl) 0 rfl ?_
  refine g_aload_n C (dat dt_X11_seat 1 rfl) 0 rfl ?_
  refine g_iload_n C (dat dt_X11_seat 2 rfl) 1 rfl ?_
  refine g_iload_n C (dat dt_X11_seat 3 rfl) 2 rfl ?_
  obtain ⟨v1, q2, hrun⟩ := bd hrun
  refine g_cVi [.int x1, .int x2] C (dat dt_X11_seat 4 rfl) ml_11_370 (w_X11_seatsKept x1 x2 h v1  q2) kd_81 ltk_81 rfl rfl (Nat.le_of_ble_eq_true rfl) (by decide) c00 ?_
  obtain ⟨v3, q4, hrun⟩ := bd hrun
  refine g_cVi [.int v1.1] C (dat dt_X11_seat 5 rfl) ml_11_373 (w_X11_goodOr v1.1 v1.2 v3  q4) kd_81 ltk_81 rfl rfl cat0 (by decide) c00 ?_
  cases hrun
  exact g_iret C K (dat dt_X11_seat 6 rfl)
/-! SteamNationsModel.out(I)I -/
def dl_X11_out : List (Nat × Instr × Nat) := [(0, .aload_n 0, 1), (1, .aload_n 0, 1), (2, .iload_n 1, 1), (3, .invokevirtual 376, 3), (6, .invokevirtual 373, 3), (9, .ireturn, 1)]
set_option maxRecDepth 20000 in
theorem dt_X11_out : ∀ q ∈ dl_X11_out, decode prog_13_method_91_code q.1 = .ok q.2 := by decide +kernel
def f_X11_out (x1 : Int32) (h : Hp) : Option (Int32 × Hp) :=
  (f_X11_outKept x1 h).bind fun v1 =>
  (f_X11_goodOr v1.1 v1.2).bind fun v3 =>
  some (v3.1, v3.2)
set_option maxRecDepth 20000 in
theorem w_X11_out (x1 : Int32) (h : Hp) (q : (Int32 × Hp))  (hrun : f_X11_out x1 h = some q) : MetA ⟨"SteamNationsModel", "out", "(I)I"⟩ prog_13_method_91_code 2 (some .int) 4 0 0 [.ref 81, .int x1] h (some (.int q.1)) q.2 := by
  refine metA_of (by decide) (Nat.le_of_ble_eq_true rfl) (fun X C K => ?_)
  have C : Cx X cn_11 prog_13_method_91_code 2 (some .int) 4 0 0 := C
  show G X h 0 0 0 [(0, .ref 81), (1, .int x1)] []
  unfold f_X11_out at hrun
  refine g_aload_n C (dat dt_X11_out 0 rfl) 0 rfl ?_
  refine g_aload_n C (dat dt_X11_out 1 rfl) 0 rfl ?_
  refine g_iload_n C (dat dt_X11_out 2 rfl) 1 rfl ?_
  obtain ⟨v1, q2, hrun⟩ := bd hrun
  refine g_cVi [.int x1] C (dat dt_X11_out 3 rfl) ml_11_376 (w_X11_outKept x1 h v1  q2) kd_81 ltk_81 rfl rfl (Nat.le_of_ble_eq_true rfl) (by decide) c00 ?_
  obtain ⟨v3, q4, hrun⟩ := bd hrun
  refine g_cVi [.int v1.1] C (dat dt_X11_out 4 rfl) ml_11_373 (w_X11_goodOr v1.1 v1.2 v3  q4) kd_81 ltk_81 rfl rfl cat0 (by decide) c00 ?_
  cases hrun
  exact g_iret C K (dat dt_X11_out 5 rfl)
/-! SteamNationsModel.swap(II)I -/
def dl_X11_swap : List (Nat × Instr × Nat) := [(0, .aload_n 0, 1), (1, .aload_n 0, 1), (2, .iload_n 1, 1), (3, .iload_n 2, 1), (4, .invokevirtual 379, 3), (7, .invokevirtual 373, 3), (10, .ireturn, 1)]
set_option maxRecDepth 20000 in
theorem dt_X11_swap : ∀ q ∈ dl_X11_swap, decode prog_13_method_92_code q.1 = .ok q.2 := by decide +kernel
def f_X11_swap (x1 : Int32) (x2 : Int32) (h : Hp) : Option (Int32 × Hp) :=
  (f_X11_swapsKept x1 x2 h).bind fun v1 =>
  (f_X11_goodOr v1.1 v1.2).bind fun v3 =>
  some (v3.1, v3.2)
set_option maxRecDepth 20000 in
theorem w_X11_swap (x1 : Int32) (x2 : Int32) (h : Hp) (q : (Int32 × Hp))  (hrun : f_X11_swap x1 x2 h = some q) : MetA ⟨"SteamNationsModel", "swap", "(II)I"⟩ prog_13_method_92_code 3 (some .int) 4 0 0 [.ref 81, .int x1, .int x2] h (some (.int q.1)) q.2 := by
  refine metA_of (by decide) (Nat.le_of_ble_eq_true rfl) (fun X C K => ?_)
  have C : Cx X cn_11 prog_13_method_92_code 3 (some .int) 4 0 0 := C
  show G X h 0 0 0 [(0, .ref 81), (1, .int x1), (2, .int x2)] []
  unfold f_X11_swap at hrun
  refine g_aload_n C (dat dt_X11_swap 0 rfl) 0 rfl ?_
  refine g_aload_n C (dat dt_X11_swap 1 rfl) 0 rfl ?_
  refine g_iload_n C (dat dt_X11_swap 2 rfl) 1 rfl ?_
  refine g_iload_n C (dat dt_X11_swap 3 rfl) 2 rfl ?_
  obtain ⟨v1, q2, hrun⟩ := bd hrun
  refine g_cVi [.int x1, .int x2] C (dat dt_X11_swap 4 rfl) ml_11_379 (w_X11_swapsKept x1 x2 h v1  q2) kd_81 ltk_81 rfl rfl (Nat.le_of_ble_eq_true rfl) (by decide) c00 ?_
  obtain ⟨v3, q4, hrun⟩ := bd hrun
  refine g_cVi [.int v1.1] C (dat dt_X11_swap 5 rfl) ml_11_373 (w_X11_goodOr v1.1 v1.2 v3  q4) kd_81 ltk_81 rfl rfl cat0 (by decide) c00 ?_
  cases hrun
  exact g_iret C K (dat dt_X11_swap 6 rfl)
/-! SteamNationsModel.undo()I -/
def dl_X11_undo : List (Nat × Instr × Nat) := [(0, .aload_n 0, 1), (1, .getfield 11, 3), (4, .ifCond .ne 10, 3), (7, .aload_n 0, 1), (8, .bipush (-3), 2), (10, .invokevirtual 121, 3), (13, .ireturn, 1), (14, .aload_n 0, 1), (15, .dup, 1), (16, .getfield 11, 3), (19, .iconst 1, 1), (20, .isub, 1), (21, .putfield 11, 3), (24, .bipush 26, 2), (26, .aload_n 0, 1), (27, .getfield 11, 3), (30, .imul, 1), (31, .istore_n 1, 1), (32, .iconst 0, 1), (33, .istore_n 2, 1), (34, .iload_n 2, 1), (35, .bipush 25, 2), (37, .if_icmp .ge 23, 3), (40, .aload_n 0, 1), (41, .getfield 28, 3), (44, .iload_n 2, 1), (45, .aload_n 0, 1), (46, .getfield 69, 3), (49, .iload_n 1, 1), (50, .iload_n 2, 1), (51, .iadd, 1), (52, .iaload, 1), (53, .iastore, 1), (54, .iinc 2 1, 3), (57, .goto (-23), 3), (60, .aload_n 0, 1), (61, .aload_n 0, 1), (62, .getfield 69, 3), (65, .iload_n 1, 1), (66, .bipush 25, 2), (68, .iadd, 1), (69, .iaload, 1), (70, .invokevirtual 14, 3), (73, .ireturn, 1)]
set_option maxRecDepth 20000 in
theorem dt_X11_undo : ∀ q ∈ dl_X11_undo, decode prog_13_method_84_code q.1 = .ok q.2 := by decide +kernel
def kp_X11_undo_34  (x1 : Int32) (X : Xt) (s : (Int32 × Hp)) : Prop := G X s.2 0 0 34 [(0, .ref 81), (1, .int x1), (2, .int s.1)] []
def ke_X11_undo_34  (x1 : Int32) (X : Xt) (e : Hp) : Prop := G X e 0 0 60 [(0, .ref 81), (1, .int x1)] []
def b_X11_undo_34  (x1 : Int32) (x2 : Int32) (h : Hp) : Option ((Int32 × Hp) ⊕ Hp) :=
  if (25 : Int32) ≤ x2 then
  some (.inr ( h))
  else
  (inb (x1 + x2) 416).bind fun j3 =>
  (inb x2 5662).bind fun j5 =>
  some (.inl ((x2 + (1 : Int32)), (sA h 83 j5 (aI h 95 j3))))
set_option maxRecDepth 20000 in
theorem wb_X11_undo_34 {X : Xt} (C : Cx X cn_11 prog_13_method_84_code 3 (some .int) 2 0 0)   (x1 : Int32) (x2 : Int32) (h : Hp) (q : (Int32 × Hp) ⊕ Hp) (hrun : b_X11_undo_34  x1 x2 h = some q) (Ks : ∀ s, q = .inl s → kp_X11_undo_34  x1 X s) (Ke : ∀ e, q = .inr e → ke_X11_undo_34  x1 X e) : kp_X11_undo_34  x1 X (x2, h) := by
  show G X h 0 0 34 [(0, .ref 81), (1, .int x1), (2, .int x2)] []
  unfold b_X11_undo_34 at hrun
  refine g_iload_n C (dat dt_X11_undo 20 rfl) 2 rfl ?_
  refine g_bipush C (dat dt_X11_undo 21 rfl) bp_25 ?_
  refine g_ic_ge 60 C (dat dt_X11_undo 22 rfl) (by decide) (fun c2 => ?_) (fun c2 => ?_)
  · rw [if_pos c2] at hrun
    refine g_sub [0, 1] (lv' := [(0, .ref 81), (1, .int x1)]) rfl ?_
    cases hrun
    exact Ke ( h) rfl
  · rw [if_neg c2] at hrun
    refine g_aload_n C (dat dt_X11_undo 23 rfl) 0 rfl ?_
    refine g_getR C (dat dt_X11_undo 24 rfl) fl_11_28 kd_81 rfl ltk_81 ?_
    refine g_iload_n C (dat dt_X11_undo 25 rfl) 2 rfl ?_
    refine g_aload_n C (dat dt_X11_undo 26 rfl) 0 rfl ?_
    refine g_getR C (dat dt_X11_undo 27 rfl) fl_11_69 kd_81 rfl ltk_81 ?_
    refine g_iload_n C (dat dt_X11_undo 28 rfl) 1 rfl ?_
    refine g_iload_n C (dat dt_X11_undo 29 rfl) 2 rfl ?_
    refine g_iadd C (dat dt_X11_undo 30 rfl) ?_
    obtain ⟨j3, q4, hrun⟩ := bd hrun
    refine g_iald C (dat dt_X11_undo 31 rfl) kd_95 ltk_95 q4 ?_
    obtain ⟨j5, q6, hrun⟩ := bd hrun
    refine g_iast (j := j5) C (dat dt_X11_undo 32 rfl) kd_83 ltk_83 q6  ?_
    refine g_iinc (v := (x2 + (1 : Int32))) (lv' := [(0, .ref 81), (1, .int x1), (2, .int (x2 + (1 : Int32)))]) C (dat dt_X11_undo 33 rfl) 2 rfl (congrArg (fun z => x2 + z) ic_1) (by decide) rfl ?_
    refine g_goto 34 C (dat dt_X11_undo 34 rfl) (by decide) ?_
    cases hrun
    exact Ks ((x2 + (1 : Int32)), (sA h 83 j5 (aI h 95 j3))) rfl
def f_X11_undo  (h : Hp) : Option (Int32 × Hp) :=
  if (fI h 81 32) = 0 then
  (f_X11_refuses (-3 : Int32) h).bind fun v13 =>
  some (v13.1, v13.2)
  else
  (lp (fun s => b_X11_undo_34  ((26 : Int32) * (fI (sF h 81 32 ((fI h 81 32) - (1 : Int32))) 81 32)) s.1 s.2) FU ((0 : Int32), (sF h 81 32 ((fI h 81 32) - (1 : Int32))))).bind fun e7 =>
  (inb (((26 : Int32) * (fI (sF h 81 32 ((fI h 81 32) - (1 : Int32))) 81 32)) + (25 : Int32)) 416).bind fun j9 =>
  (f_X11_good (aI e7 95 j9) e7).bind fun v11 =>
  some (v11.1, v11.2)
set_option maxRecDepth 20000 in
theorem w_X11_undo  (h : Hp) (q : (Int32 × Hp))  (hrun : f_X11_undo  h = some q) : MetA ⟨"SteamNationsModel", "undo", "()I"⟩ prog_13_method_84_code 3 (some .int) 2 0 0 [.ref 81] h (some (.int q.1)) q.2 := by
  refine metA_of (by decide) (Nat.le_of_ble_eq_true rfl) (fun X C K => ?_)
  have C : Cx X cn_11 prog_13_method_84_code 3 (some .int) 2 0 0 := C
  show G X h 0 0 0 [(0, .ref 81)] []
  unfold f_X11_undo at hrun
  refine g_aload_n C (dat dt_X11_undo 0 rfl) 0 rfl ?_
  refine g_getI C (dat dt_X11_undo 1 rfl) fl_11_11 kd_81 rfl ltk_81 ?_
  refine g_if_ne 14 C (dat dt_X11_undo 2 rfl) (by decide) (fun c1 => ?_) (fun c1 => ?_)
  · rw [if_neg c1] at hrun
    refine g_aload_n C (dat dt_X11_undo 7 rfl) 0 rfl ?_
    refine g_dup C (dat dt_X11_undo 8 rfl) rfl ?_
    refine g_getI C (dat dt_X11_undo 9 rfl) fl_11_11 kd_81 rfl ltk_81 ?_
    refine g_iconst C (dat dt_X11_undo 10 rfl) ic_1 ?_
    refine g_isub C (dat dt_X11_undo 11 rfl) ?_
    refine g_putI C (dat dt_X11_undo 12 rfl) fl_11_11 rfl rfl kd_81 rfl ltk_81 ?_
    refine g_bipush C (dat dt_X11_undo 13 rfl) bp_26 ?_
    refine g_aload_n C (dat dt_X11_undo 14 rfl) 0 rfl ?_
    refine g_getI C (dat dt_X11_undo 15 rfl) fl_11_11 kd_81 rfl ltk_81 ?_
    refine g_imul C (dat dt_X11_undo 16 rfl) ?_
    refine g_istore_n (lv' := [(0, .ref 81), (1, .int ((26 : Int32) * (fI (sF h 81 32 ((fI h 81 32) - (1 : Int32))) 81 32)))]) C (dat dt_X11_undo 17 rfl) (by decide) rfl ?_
    refine g_iconst C (dat dt_X11_undo 18 rfl) ic_0 ?_
    refine g_istore_n (lv' := [(0, .ref 81), (1, .int ((26 : Int32) * (fI (sF h 81 32 ((fI h 81 32) - (1 : Int32))) 81 32))), (2, .int (0 : Int32))]) C (dat dt_X11_undo 19 rfl) (by decide) rfl ?_
    obtain ⟨e7, q8, hrun⟩ := bd hrun
    refine lp_ind (P := fun s => kp_X11_undo_34  ((26 : Int32) * (fI (sF h 81 32 ((fI h 81 32) - (1 : Int32))) 81 32)) X s) (K := fun e => ke_X11_undo_34  ((26 : Int32) * (fI (sF h 81 32 ((fI h 81 32) - (1 : Int32))) 81 32)) X e) (fun s q hb Ks Ke => wb_X11_undo_34 C   ((26 : Int32) * (fI (sF h 81 32 ((fI h 81 32) - (1 : Int32))) 81 32)) s.1 s.2 q hb Ks Ke) FU ((0 : Int32), (sF h 81 32 ((fI h 81 32) - (1 : Int32)))) e7 q8 ?_
    show G X e7 0 0 60 [(0, .ref 81), (1, .int ((26 : Int32) * (fI (sF h 81 32 ((fI h 81 32) - (1 : Int32))) 81 32)))] []
    refine g_aload_n C (dat dt_X11_undo 35 rfl) 0 rfl ?_
    refine g_aload_n C (dat dt_X11_undo 36 rfl) 0 rfl ?_
    refine g_getR C (dat dt_X11_undo 37 rfl) fl_11_69 kd_81 rfl ltk_81 ?_
    refine g_iload_n C (dat dt_X11_undo 38 rfl) 1 rfl ?_
    refine g_bipush C (dat dt_X11_undo 39 rfl) bp_25 ?_
    refine g_iadd C (dat dt_X11_undo 40 rfl) ?_
    obtain ⟨j9, q10, hrun⟩ := bd hrun
    refine g_iald C (dat dt_X11_undo 41 rfl) kd_95 ltk_95 q10 ?_
    obtain ⟨v11, q12, hrun⟩ := bd hrun
    refine g_cVi [.int (aI e7 95 j9)] C (dat dt_X11_undo 42 rfl) ml_11_14 (w_X11_good (aI e7 95 j9) e7 v11  q12) kd_81 ltk_81 rfl rfl cat0 (by decide) c00 ?_
    cases hrun
    exact g_iret C K (dat dt_X11_undo 43 rfl)
  · rw [if_pos c1] at hrun
    refine g_aload_n C (dat dt_X11_undo 3 rfl) 0 rfl ?_
    refine g_bipush C (dat dt_X11_undo 4 rfl) bp_m3 ?_
    obtain ⟨v13, q14, hrun⟩ := bd hrun
    refine g_cVi [.int (-3 : Int32)] C (dat dt_X11_undo 5 rfl) ml_11_121 (w_X11_refuses (-3 : Int32) h v13  q14) kd_81 ltk_81 rfl rfl cat0 (by decide) c00 ?_
    cases hrun
    exact g_iret C K (dat dt_X11_undo 6 rfl)
/-! SteamNationsModel.areOne()Z -/
def dl_X11_areOne : List (Nat × Instr × Nat) := [(0, .iconst (-1), 1), (1, .istore_n 1, 1), (2, .iconst 0, 1), (3, .istore_n 2, 1), (4, .iload_n 2, 1), (5, .aload_n 0, 1), (6, .invokevirtual 127, 3), (9, .if_icmp .ge 42, 3), (12, .aload_n 0, 1), (13, .iload_n 2, 1), (14, .invokevirtual 156, 3), (17, .ifCond .ne 6, 3), (20, .goto 25, 3), (23, .iload_n 1, 1), (24, .iconst (-1), 1), (25, .if_icmp .ne 9, 3), (28, .aload_n 0, 1), (29, .iload_n 2, 1), (30, .invokevirtual 153, 3), (33, .istore_n 1, 1), (34, .aload_n 0, 1), (35, .iload_n 2, 1), (36, .invokevirtual 153, 3), (39, .iload_n 1, 1), (40, .if_icmp .eq 5, 3), (43, .iconst 0, 1), (44, .ireturn, 1), (45, .iinc 2 1, 3), (48, .goto (-44), 3), (51, .iconst 1, 1), (52, .ireturn, 1)]
set_option maxRecDepth 20000 in
theorem dt_X11_areOne : ∀ q ∈ dl_X11_areOne, decode prog_13_method_96_code q.1 = .ok q.2 := by decide +kernel
def kp_X11_areOne_4   (h : Hp) (X : Xt) (s : (Int32 × Int32)) : Prop := G X h 0 0 4 [(0, .ref 81), (1, .int s.1), (2, .int s.2)] []
def ke_X11_areOne_4   (h : Hp) (X : Xt) (e : (Unit ⊕ Unit)) : Prop := match e with
  | .inl e => G X h 0 0 51 [] []
  | .inr (e) => G X h 0 0 43 [] []
def j_X11_areOne_34_4  (x1 : Int32) (x2 : Int32) (h : Hp) : Option ((Int32 × Int32) ⊕ (Unit ⊕ Unit)) :=
  (f_X11_nationOf x2 h).bind fun v8 =>
  if v8 = x1 then
  some (.inl (x1, (x2 + (1 : Int32))))
  else
  some (.inr (.inr <| id ()))
set_option maxRecDepth 20000 in
theorem wj_X11_areOne_34_4 {X : Xt} (C : Cx X cn_11 prog_13_method_96_code 3 (some .boolean) 3 0 0)    (x1 : Int32) (x2 : Int32) (h : Hp) (q : (Int32 × Int32) ⊕ (Unit ⊕ Unit)) (hrun : j_X11_areOne_34_4  x1 x2 h = some q) (Ks : ∀ s, q = .inl s → kp_X11_areOne_4   h X s) (Ke : ∀ e, q = .inr e → ke_X11_areOne_4   h X e) : G X h 0 0 34 [(0, .ref 81), (1, .int x1), (2, .int x2)] [] := by
  unfold j_X11_areOne_34_4 at hrun
  refine g_aload_n C (dat dt_X11_areOne 20 rfl) 0 rfl ?_
  refine g_iload_n C (dat dt_X11_areOne 21 rfl) 2 rfl ?_
  obtain ⟨v8, q9, hrun⟩ := bd hrun
  refine g_cVi [.int x2] C (dat dt_X11_areOne 22 rfl) ml_11_153 (w_X11_nationOf x2 h v8  q9) kd_81 ltk_81 rfl rfl cat0 (by decide) c00 ?_
  refine g_iload_n C (dat dt_X11_areOne 23 rfl) 1 rfl ?_
  refine g_ic_eq 45 C (dat dt_X11_areOne 24 rfl) (by decide) (fun c10 => ?_) (fun c10 => ?_)
  · rw [if_pos c10] at hrun
    refine g_iinc (v := (x2 + (1 : Int32))) (lv' := [(0, .ref 81), (1, .int x1), (2, .int (x2 + (1 : Int32)))]) C (dat dt_X11_areOne 27 rfl) 2 rfl (congrArg (fun z => x2 + z) ic_1) (by decide) rfl ?_
    refine g_goto 4 C (dat dt_X11_areOne 28 rfl) (by decide) ?_
    cases hrun
    exact Ks (x1, (x2 + (1 : Int32))) rfl
  · rw [if_neg c10] at hrun
    refine g_sub [] (lv' := []) rfl ?_
    cases hrun
    exact Ke (.inr <| id ()) rfl
def b_X11_areOne_4   (x1 : Int32) (x2 : Int32) (h : Hp) : Option ((Int32 × Int32) ⊕ (Unit ⊕ Unit)) :=
  (f_X11_many  h).bind fun v1 =>
  if v1 ≤ x2 then
  some (.inr (.inl ()))
  else
  (f_X11_isInside x2 h).bind fun v4 =>
  if v4 = true then
  if x1 = (-1 : Int32) then
  (f_X11_nationOf x2 h).bind fun v11 =>
  j_X11_areOne_34_4  v11 x2 h
  else
  j_X11_areOne_34_4  x1 x2 h
  else
  some (.inl (x1, (x2 + (1 : Int32))))
set_option maxRecDepth 20000 in
theorem wb_X11_areOne_4 {X : Xt} (C : Cx X cn_11 prog_13_method_96_code 3 (some .boolean) 3 0 0)    (x1 : Int32) (x2 : Int32) (h : Hp) (q : (Int32 × Int32) ⊕ (Unit ⊕ Unit)) (hrun : b_X11_areOne_4   x1 x2 h = some q) (Ks : ∀ s, q = .inl s → kp_X11_areOne_4   h X s) (Ke : ∀ e, q = .inr e → ke_X11_areOne_4   h X e) : kp_X11_areOne_4   h X (x1, x2) := by
  show G X h 0 0 4 [(0, .ref 81), (1, .int x1), (2, .int x2)] []
  unfold b_X11_areOne_4 at hrun
  refine g_iload_n C (dat dt_X11_areOne 4 rfl) 2 rfl ?_
  refine g_aload_n C (dat dt_X11_areOne 5 rfl) 0 rfl ?_
  obtain ⟨v1, q2, hrun⟩ := bd hrun
  refine g_cVi [] C (dat dt_X11_areOne 6 rfl) ml_11_127 (w_X11_many  h v1  q2) kd_81 ltk_81 rfl rfl (Nat.le_of_ble_eq_true rfl) (by decide) c00 ?_
  refine g_ic_ge 51 C (dat dt_X11_areOne 7 rfl) (by decide) (fun c3 => ?_) (fun c3 => ?_)
  · rw [if_pos c3] at hrun
    refine g_sub [] (lv' := []) rfl ?_
    cases hrun
    exact Ke (.inl ()) rfl
  · rw [if_neg c3] at hrun
    refine g_aload_n C (dat dt_X11_areOne 8 rfl) 0 rfl ?_
    refine g_iload_n C (dat dt_X11_areOne 9 rfl) 2 rfl ?_
    obtain ⟨v4, q5, hrun⟩ := bd hrun
    refine g_cVi [.int x2] C (dat dt_X11_areOne 10 rfl) ml_11_156 (w_X11_isInside x2 h v4  q5) kd_81 ltk_81 rfl rfl cat0 (by decide) c00 ?_
    refine g_if_ne 23 C (dat dt_X11_areOne 11 rfl) (by decide) (fun c6 => ?_) (fun c6 => ?_)
    · rw [if_pos (b2i_nz c6)] at hrun
      refine g_iload_n C (dat dt_X11_areOne 13 rfl) 1 rfl ?_
      refine g_iconst C (dat dt_X11_areOne 14 rfl) ic_m1 ?_
      refine g_ic_ne 34 C (dat dt_X11_areOne 15 rfl) (by decide) (fun c7 => ?_) (fun c7 => ?_)
      · rw [if_neg c7] at hrun
        exact wj_X11_areOne_34_4 C    x1 x2 h _ hrun Ks Ke
      · rw [if_pos c7] at hrun
        refine g_aload_n C (dat dt_X11_areOne 16 rfl) 0 rfl ?_
        refine g_iload_n C (dat dt_X11_areOne 17 rfl) 2 rfl ?_
        obtain ⟨v11, q12, hrun⟩ := bd hrun
        refine g_cVi [.int x2] C (dat dt_X11_areOne 18 rfl) ml_11_153 (w_X11_nationOf x2 h v11  q12) kd_81 ltk_81 rfl rfl cat0 (by decide) c00 ?_
        refine g_istore_n (lv' := [(0, .ref 81), (1, .int v11), (2, .int x2)]) C (dat dt_X11_areOne 19 rfl) (by decide) rfl ?_
        exact wj_X11_areOne_34_4 C    v11 x2 h _ hrun Ks Ke
    · rw [if_neg (b2i_z c6)] at hrun
      refine g_goto 45 C (dat dt_X11_areOne 12 rfl) (by decide) ?_
      refine g_iinc (v := (x2 + (1 : Int32))) (lv' := [(0, .ref 81), (1, .int x1), (2, .int (x2 + (1 : Int32)))]) C (dat dt_X11_areOne 27 rfl) 2 rfl (congrArg (fun z => x2 + z) ic_1) (by decide) rfl ?_
      refine g_goto 4 C (dat dt_X11_areOne 28 rfl) (by decide) ?_
      cases hrun
      exact Ks (x1, (x2 + (1 : Int32))) rfl
def f_X11_areOne  (h : Hp) : Option Bool :=
  (lp (fun s => b_X11_areOne_4   s.1 s.2 h) FU ((-1 : Int32), (0 : Int32))).bind fun e13 =>
  sc e13 (fun e15 =>
  some true) (fun e16 =>
  some false)
set_option maxRecDepth 20000 in
theorem w_X11_areOne  (h : Hp) (q : Bool)  (hrun : f_X11_areOne  h = some q) : MetA ⟨"SteamNationsModel", "areOne", "()Z"⟩ prog_13_method_96_code 3 (some .boolean) 3 0 0 [.ref 81] h (some (.int (b2i q))) h := by
  refine metA_of (by decide) (Nat.le_of_ble_eq_true rfl) (fun X C K => ?_)
  have C : Cx X cn_11 prog_13_method_96_code 3 (some .boolean) 3 0 0 := C
  show G X h 0 0 0 [(0, .ref 81)] []
  unfold f_X11_areOne at hrun
  refine g_iconst C (dat dt_X11_areOne 0 rfl) ic_m1 ?_
  refine g_istore_n (lv' := [(0, .ref 81), (1, .int (-1 : Int32))]) C (dat dt_X11_areOne 1 rfl) (by decide) rfl ?_
  refine g_iconst C (dat dt_X11_areOne 2 rfl) ic_0 ?_
  refine g_istore_n (lv' := [(0, .ref 81), (1, .int (-1 : Int32)), (2, .int (0 : Int32))]) C (dat dt_X11_areOne 3 rfl) (by decide) rfl ?_
  obtain ⟨e13, q14, hrun⟩ := bd hrun
  refine lp_ind (P := fun s => kp_X11_areOne_4   h X s) (K := fun e => ke_X11_areOne_4   h X e) (fun s q hb Ks Ke => wb_X11_areOne_4 C    s.1 s.2 h q hb Ks Ke) FU ((-1 : Int32), (0 : Int32)) e13 q14 ?_
  rcases e13 with e15 | e16
  · rw [sc_l] at hrun
    show G X h 0 0 51 [] []
    refine g_iconst C (dat dt_X11_areOne 29 rfl) ic_1 ?_
    cases hrun
    exact g_zret C K (show (1 : Int32) = b2i true by decide) (dat dt_X11_areOne 30 rfl)
  · rw [sc_r] at hrun
    show G X h 0 0 43 [] []
    refine g_iconst C (dat dt_X11_areOne 25 rfl) ic_0 ?_
    cases hrun
    exact g_zret C K (show (0 : Int32) = b2i false by decide) (dat dt_X11_areOne 26 rfl)
/-! SteamNationsModel.laysHolders()V -/
def dl_X11_laysHolders : List (Nat × Instr × Nat) := [(0, .aload_n 0, 1), (1, .iconst 0, 1), (2, .putfield 397, 3), (5, .aload_n 0, 1), (6, .iconst 1, 1), (7, .putfield 400, 3), (10, .iconst 0, 1), (11, .istore_n 1, 1), (12, .iload_n 1, 1), (13, .aload_n 0, 1), (14, .invokevirtual 127, 3), (17, .if_icmp .ge 53, 3), (20, .aload_n 0, 1), (21, .iload_n 1, 1), (22, .invokevirtual 156, 3), (25, .ifCond .ne 6, 3), (28, .goto 36, 3), (31, .aload_n 0, 1), (32, .getfield 75, 3), (35, .aload_n 0, 1), (36, .getfield 397, 3), (39, .iload_n 1, 1), (40, .iastore, 1), (41, .aload_n 0, 1), (42, .dup, 1), (43, .getfield 397, 3), (46, .iconst 1, 1), (47, .iadd, 1), (48, .putfield 397, 3), (51, .aload_n 0, 1), (52, .dup, 1), (53, .getfield 400, 3), (56, .aload_n 0, 1), (57, .getfield 397, 3), (60, .imul, 1), (61, .putfield 400, 3), (64, .iinc 1 1, 3), (67, .goto (-55), 3), (70, .iconst 0, 1), (71, .istore_n 1, 1), (72, .iconst 0, 1), (73, .istore_n 2, 1), (74, .iload_n 2, 1), (75, .bipush 9, 2), (77, .if_icmp .ge 31, 3), (80, .aload_n 0, 1), (81, .iload_n 2, 1), (82, .invokevirtual 166, 3), (85, .iconst (-1), 1), (86, .if_icmp .ne 6, 3), (89, .goto 13, 3), (92, .aload_n 0, 1), (93, .getfield 78, 3), (96, .iload_n 1, 1), (97, .iload_n 2, 1), (98, .iastore, 1), (99, .iinc 1 1, 3), (102, .iinc 2 1, 3), (105, .goto (-31), 3), (108, .return_, 1)]
set_option maxRecDepth 20000 in
theorem dt_X11_laysHolders : ∀ q ∈ dl_X11_laysHolders, decode prog_13_method_98_code q.1 = .ok q.2 := by decide +kernel
def kp_X11_laysHolders_12   (X : Xt) (s : (Int32 × Hp)) : Prop := G X s.2 0 0 12 [(0, .ref 81), (1, .int s.1)] []
def ke_X11_laysHolders_12   (X : Xt) (e : Hp) : Prop := G X e 0 0 70 [(0, .ref 81)] []
def b_X11_laysHolders_12   (x1 : Int32) (h : Hp) : Option ((Int32 × Hp) ⊕ Hp) :=
  (f_X11_many  h).bind fun v1 =>
  if v1 ≤ x1 then
  some (.inr ( h))
  else
  (f_X11_isInside x1 h).bind fun v4 =>
  if v4 = true then
  (inb (fI h 81 35) 6).bind fun j7 =>
  some (.inl ((x1 + (1 : Int32)), (sF (sF (sA h 97 j7 x1) 81 35 ((fI (sA h 97 j7 x1) 81 35) + (1 : Int32))) 81 36 ((fI (sF (sA h 97 j7 x1) 81 35 ((fI (sA h 97 j7 x1) 81 35) + (1 : Int32))) 81 36) * (fI (sF (sA h 97 j7 x1) 81 35 ((fI (sA h 97 j7 x1) 81 35) + (1 : Int32))) 81 35)))))
  else
  some (.inl ((x1 + (1 : Int32)), h))
set_option maxRecDepth 20000 in
theorem wb_X11_laysHolders_12 {X : Xt} (C : Cx X cn_11 prog_13_method_98_code 3 none 3 0 0)    (x1 : Int32) (h : Hp) (q : (Int32 × Hp) ⊕ Hp) (hrun : b_X11_laysHolders_12   x1 h = some q) (Ks : ∀ s, q = .inl s → kp_X11_laysHolders_12   X s) (Ke : ∀ e, q = .inr e → ke_X11_laysHolders_12   X e) : kp_X11_laysHolders_12   X (x1, h) := by
  show G X h 0 0 12 [(0, .ref 81), (1, .int x1)] []
  unfold b_X11_laysHolders_12 at hrun
  refine g_iload_n C (dat dt_X11_laysHolders 8 rfl) 1 rfl ?_
  refine g_aload_n C (dat dt_X11_laysHolders 9 rfl) 0 rfl ?_
  obtain ⟨v1, q2, hrun⟩ := bd hrun
  refine g_cVi [] C (dat dt_X11_laysHolders 10 rfl) ml_11_127 (w_X11_many  h v1  q2) kd_81 ltk_81 rfl rfl (Nat.le_of_ble_eq_true rfl) (by decide) c00 ?_
  refine g_ic_ge 70 C (dat dt_X11_laysHolders 11 rfl) (by decide) (fun c3 => ?_) (fun c3 => ?_)
  · rw [if_pos c3] at hrun
    refine g_sub [0] (lv' := [(0, .ref 81)]) rfl ?_
    cases hrun
    exact Ke ( h) rfl
  · rw [if_neg c3] at hrun
    refine g_aload_n C (dat dt_X11_laysHolders 12 rfl) 0 rfl ?_
    refine g_iload_n C (dat dt_X11_laysHolders 13 rfl) 1 rfl ?_
    obtain ⟨v4, q5, hrun⟩ := bd hrun
    refine g_cVi [.int x1] C (dat dt_X11_laysHolders 14 rfl) ml_11_156 (w_X11_isInside x1 h v4  q5) kd_81 ltk_81 rfl rfl cat0 (by decide) c00 ?_
    refine g_if_ne 31 C (dat dt_X11_laysHolders 15 rfl) (by decide) (fun c6 => ?_) (fun c6 => ?_)
    · rw [if_pos (b2i_nz c6)] at hrun
      refine g_aload_n C (dat dt_X11_laysHolders 17 rfl) 0 rfl ?_
      refine g_getR C (dat dt_X11_laysHolders 18 rfl) fl_11_75 kd_81 rfl ltk_81 ?_
      refine g_aload_n C (dat dt_X11_laysHolders 19 rfl) 0 rfl ?_
      refine g_getI C (dat dt_X11_laysHolders 20 rfl) fl_11_397 kd_81 rfl ltk_81 ?_
      refine g_iload_n C (dat dt_X11_laysHolders 21 rfl) 1 rfl ?_
      obtain ⟨j7, q8, hrun⟩ := bd hrun
      refine g_iast (j := j7) C (dat dt_X11_laysHolders 22 rfl) kd_97 ltk_97 q8  ?_
      refine g_aload_n C (dat dt_X11_laysHolders 23 rfl) 0 rfl ?_
      refine g_dup C (dat dt_X11_laysHolders 24 rfl) rfl ?_
      refine g_getI C (dat dt_X11_laysHolders 25 rfl) fl_11_397 kd_81 rfl ltk_81 ?_
      refine g_iconst C (dat dt_X11_laysHolders 26 rfl) ic_1 ?_
      refine g_iadd C (dat dt_X11_laysHolders 27 rfl) ?_
      refine g_putI C (dat dt_X11_laysHolders 28 rfl) fl_11_397 rfl rfl kd_81 rfl ltk_81 ?_
      refine g_aload_n C (dat dt_X11_laysHolders 29 rfl) 0 rfl ?_
      refine g_dup C (dat dt_X11_laysHolders 30 rfl) rfl ?_
      refine g_getI C (dat dt_X11_laysHolders 31 rfl) fl_11_400 kd_81 rfl ltk_81 ?_
      refine g_aload_n C (dat dt_X11_laysHolders 32 rfl) 0 rfl ?_
      refine g_getI C (dat dt_X11_laysHolders 33 rfl) fl_11_397 kd_81 rfl ltk_81 ?_
      refine g_imul C (dat dt_X11_laysHolders 34 rfl) ?_
      refine g_putI C (dat dt_X11_laysHolders 35 rfl) fl_11_400 rfl rfl kd_81 rfl ltk_81 ?_
      refine g_iinc (v := (x1 + (1 : Int32))) (lv' := [(0, .ref 81), (1, .int (x1 + (1 : Int32)))]) C (dat dt_X11_laysHolders 36 rfl) 1 rfl (congrArg (fun z => x1 + z) ic_1) (by decide) rfl ?_
      refine g_goto 12 C (dat dt_X11_laysHolders 37 rfl) (by decide) ?_
      cases hrun
      exact Ks ((x1 + (1 : Int32)), (sF (sF (sA h 97 j7 x1) 81 35 ((fI (sA h 97 j7 x1) 81 35) + (1 : Int32))) 81 36 ((fI (sF (sA h 97 j7 x1) 81 35 ((fI (sA h 97 j7 x1) 81 35) + (1 : Int32))) 81 36) * (fI (sF (sA h 97 j7 x1) 81 35 ((fI (sA h 97 j7 x1) 81 35) + (1 : Int32))) 81 35)))) rfl
    · rw [if_neg (b2i_z c6)] at hrun
      refine g_goto 64 C (dat dt_X11_laysHolders 16 rfl) (by decide) ?_
      refine g_iinc (v := (x1 + (1 : Int32))) (lv' := [(0, .ref 81), (1, .int (x1 + (1 : Int32)))]) C (dat dt_X11_laysHolders 36 rfl) 1 rfl (congrArg (fun z => x1 + z) ic_1) (by decide) rfl ?_
      refine g_goto 12 C (dat dt_X11_laysHolders 37 rfl) (by decide) ?_
      cases hrun
      exact Ks ((x1 + (1 : Int32)), h) rfl
def kp_X11_laysHolders_74   (X : Xt) (s : (Int32 × Int32 × Hp)) : Prop := G X s.2.2 0 0 74 [(0, .ref 81), (1, .int s.1), (2, .int s.2.1)] []
def ke_X11_laysHolders_74   (X : Xt) (e : Hp) : Prop := G X e 0 0 108 [] []
def b_X11_laysHolders_74   (x1 : Int32) (x2 : Int32) (h : Hp) : Option ((Int32 × Int32 × Hp) ⊕ Hp) :=
  if (9 : Int32) ≤ x2 then
  some (.inr ( h))
  else
  (f_X11_onSeat x2 h).bind fun v12 =>
  if v12 = (-1 : Int32) then
  some (.inl (x1, (x2 + (1 : Int32)), h))
  else
  (inb x1 6).bind fun j15 =>
  some (.inl ((x1 + (1 : Int32)), (x2 + (1 : Int32)), (sA h 98 j15 x2)))
set_option maxRecDepth 20000 in
theorem wb_X11_laysHolders_74 {X : Xt} (C : Cx X cn_11 prog_13_method_98_code 3 none 3 0 0)    (x1 : Int32) (x2 : Int32) (h : Hp) (q : (Int32 × Int32 × Hp) ⊕ Hp) (hrun : b_X11_laysHolders_74   x1 x2 h = some q) (Ks : ∀ s, q = .inl s → kp_X11_laysHolders_74   X s) (Ke : ∀ e, q = .inr e → ke_X11_laysHolders_74   X e) : kp_X11_laysHolders_74   X (x1, x2, h) := by
  show G X h 0 0 74 [(0, .ref 81), (1, .int x1), (2, .int x2)] []
  unfold b_X11_laysHolders_74 at hrun
  refine g_iload_n C (dat dt_X11_laysHolders 42 rfl) 2 rfl ?_
  refine g_bipush C (dat dt_X11_laysHolders 43 rfl) bp_9 ?_
  refine g_ic_ge 108 C (dat dt_X11_laysHolders 44 rfl) (by decide) (fun c11 => ?_) (fun c11 => ?_)
  · rw [if_pos c11] at hrun
    refine g_sub [] (lv' := []) rfl ?_
    cases hrun
    exact Ke ( h) rfl
  · rw [if_neg c11] at hrun
    refine g_aload_n C (dat dt_X11_laysHolders 45 rfl) 0 rfl ?_
    refine g_iload_n C (dat dt_X11_laysHolders 46 rfl) 2 rfl ?_
    obtain ⟨v12, q13, hrun⟩ := bd hrun
    refine g_cVi [.int x2] C (dat dt_X11_laysHolders 47 rfl) ml_11_166 (w_X11_onSeat x2 h v12  q13) kd_81 ltk_81 rfl rfl cat0 (by decide) c00 ?_
    refine g_iconst C (dat dt_X11_laysHolders 48 rfl) ic_m1 ?_
    refine g_ic_ne 92 C (dat dt_X11_laysHolders 49 rfl) (by decide) (fun c14 => ?_) (fun c14 => ?_)
    · rw [if_neg c14] at hrun
      refine g_aload_n C (dat dt_X11_laysHolders 51 rfl) 0 rfl ?_
      refine g_getR C (dat dt_X11_laysHolders 52 rfl) fl_11_78 kd_81 rfl ltk_81 ?_
      refine g_iload_n C (dat dt_X11_laysHolders 53 rfl) 1 rfl ?_
      refine g_iload_n C (dat dt_X11_laysHolders 54 rfl) 2 rfl ?_
      obtain ⟨j15, q16, hrun⟩ := bd hrun
      refine g_iast (j := j15) C (dat dt_X11_laysHolders 55 rfl) kd_98 ltk_98 q16  ?_
      refine g_iinc (v := (x1 + (1 : Int32))) (lv' := [(0, .ref 81), (1, .int (x1 + (1 : Int32))), (2, .int x2)]) C (dat dt_X11_laysHolders 56 rfl) 1 rfl (congrArg (fun z => x1 + z) ic_1) (by decide) rfl ?_
      refine g_iinc (v := (x2 + (1 : Int32))) (lv' := [(0, .ref 81), (1, .int (x1 + (1 : Int32))), (2, .int (x2 + (1 : Int32)))]) C (dat dt_X11_laysHolders 57 rfl) 2 rfl (congrArg (fun z => x2 + z) ic_1) (by decide) rfl ?_
      refine g_goto 74 C (dat dt_X11_laysHolders 58 rfl) (by decide) ?_
      cases hrun
      exact Ks ((x1 + (1 : Int32)), (x2 + (1 : Int32)), (sA h 98 j15 x2)) rfl
    · rw [if_pos c14] at hrun
      refine g_goto 102 C (dat dt_X11_laysHolders 50 rfl) (by decide) ?_
      refine g_iinc (v := (x2 + (1 : Int32))) (lv' := [(0, .ref 81), (1, .int x1), (2, .int (x2 + (1 : Int32)))]) C (dat dt_X11_laysHolders 57 rfl) 2 rfl (congrArg (fun z => x2 + z) ic_1) (by decide) rfl ?_
      refine g_goto 74 C (dat dt_X11_laysHolders 58 rfl) (by decide) ?_
      cases hrun
      exact Ks (x1, (x2 + (1 : Int32)), h) rfl
def f_X11_laysHolders  (h : Hp) : Option (Unit × Hp) :=
  (lp (fun s => b_X11_laysHolders_12   s.1 s.2) FU ((0 : Int32), (sF (sF h 81 35 (0 : Int32)) 81 36 (1 : Int32)))).bind fun e9 =>
  (lp (fun s => b_X11_laysHolders_74   s.1 s.2.1 s.2.2) FU ((0 : Int32), (0 : Int32), e9)).bind fun e17 =>
  some ((), e17)
set_option maxRecDepth 20000 in
theorem w_X11_laysHolders  (h : Hp) (q : (Unit × Hp))  (hrun : f_X11_laysHolders  h = some q) : MetA ⟨"SteamNationsModel", "laysHolders", "()V"⟩ prog_13_method_98_code 3 none 3 0 0 [.ref 81] h none q.2 := by
  refine metA_of (by decide) (Nat.le_of_ble_eq_true rfl) (fun X C K => ?_)
  have C : Cx X cn_11 prog_13_method_98_code 3 none 3 0 0 := C
  show G X h 0 0 0 [(0, .ref 81)] []
  unfold f_X11_laysHolders at hrun
  refine g_aload_n C (dat dt_X11_laysHolders 0 rfl) 0 rfl ?_
  refine g_iconst C (dat dt_X11_laysHolders 1 rfl) ic_0 ?_
  refine g_putI C (dat dt_X11_laysHolders 2 rfl) fl_11_397 rfl rfl kd_81 rfl ltk_81 ?_
  refine g_aload_n C (dat dt_X11_laysHolders 3 rfl) 0 rfl ?_
  refine g_iconst C (dat dt_X11_laysHolders 4 rfl) ic_1 ?_
  refine g_putI C (dat dt_X11_laysHolders 5 rfl) fl_11_400 rfl rfl kd_81 rfl ltk_81 ?_
  refine g_iconst C (dat dt_X11_laysHolders 6 rfl) ic_0 ?_
  refine g_istore_n (lv' := [(0, .ref 81), (1, .int (0 : Int32))]) C (dat dt_X11_laysHolders 7 rfl) (by decide) rfl ?_
  obtain ⟨e9, q10, hrun⟩ := bd hrun
  refine lp_ind (P := fun s => kp_X11_laysHolders_12   X s) (K := fun e => ke_X11_laysHolders_12   X e) (fun s q hb Ks Ke => wb_X11_laysHolders_12 C    s.1 s.2 q hb Ks Ke) FU ((0 : Int32), (sF (sF h 81 35 (0 : Int32)) 81 36 (1 : Int32))) e9 q10 ?_
  show G X e9 0 0 70 [(0, .ref 81)] []
  refine g_iconst C (dat dt_X11_laysHolders 38 rfl) ic_0 ?_
  refine g_istore_n (lv' := [(0, .ref 81), (1, .int (0 : Int32))]) C (dat dt_X11_laysHolders 39 rfl) (by decide) rfl ?_
  refine g_iconst C (dat dt_X11_laysHolders 40 rfl) ic_0 ?_
  refine g_istore_n (lv' := [(0, .ref 81), (1, .int (0 : Int32)), (2, .int (0 : Int32))]) C (dat dt_X11_laysHolders 41 rfl) (by decide) rfl ?_
  obtain ⟨e17, q18, hrun⟩ := bd hrun
  refine lp_ind (P := fun s => kp_X11_laysHolders_74   X s) (K := fun e => ke_X11_laysHolders_74   X e) (fun s q hb Ks Ke => wb_X11_laysHolders_74 C    s.1 s.2.1 s.2.2 q hb Ks Ke) FU ((0 : Int32), (0 : Int32), e9) e17 q18 ?_
  show G X e17 0 0 108 [] []
  cases hrun
  exact g_vret C K (dat dt_X11_laysHolders 59 rfl)
/-! SteamNationsModel.isIn(II)Z -/
def dl_X11_isIn : List (Nat × Instr × Nat) := [(0, .iload_n 0, 1), (1, .iload_n 1, 1), (2, .ishr, 1), (3, .iconst 1, 1), (4, .iand, 1), (5, .iconst 1, 1), (6, .if_icmp .ne 7, 3), (9, .iconst 1, 1), (10, .goto 4, 3), (13, .iconst 0, 1), (14, .ireturn, 1)]
set_option maxRecDepth 20000 in
theorem dt_X11_isIn : ∀ q ∈ dl_X11_isIn, decode prog_13_method_7_code q.1 = .ok q.2 := by decide +kernel
def f_X11_isIn (x0 : Int32) (x1 : Int32) : Option Bool :=
  if ((x0 >>> (x1 &&& 31)) &&& (1 : Int32)) = (1 : Int32) then
  some true
  else
  some false
set_option maxRecDepth 20000 in
theorem w_X11_isIn (x0 : Int32) (x1 : Int32) (h : Hp) (q : Bool)  (hrun : f_X11_isIn x0 x1 = some q) : MetA ⟨"SteamNationsModel", "isIn", "(II)Z"⟩ prog_13_method_7_code 2 (some .boolean) 1 0 0 [.int x0, .int x1] h (some (.int (b2i q))) h := by
  refine metA_of (by decide) (Nat.le_of_ble_eq_true rfl) (fun X C K => ?_)
  have C : Cx X cn_11 prog_13_method_7_code 2 (some .boolean) 1 0 0 := C
  show G X h 0 0 0 [(0, .int x0), (1, .int x1)] []
  unfold f_X11_isIn at hrun
  refine g_iload_n C (dat dt_X11_isIn 0 rfl) 0 rfl ?_
  refine g_iload_n C (dat dt_X11_isIn 1 rfl) 1 rfl ?_
  refine g_ishr C (dat dt_X11_isIn 2 rfl) ?_
  refine g_iconst C (dat dt_X11_isIn 3 rfl) ic_1 ?_
  refine g_iand C (dat dt_X11_isIn 4 rfl) ?_
  refine g_iconst C (dat dt_X11_isIn 5 rfl) ic_1 ?_
  refine g_ic_ne 13 C (dat dt_X11_isIn 6 rfl) (by decide) (fun c1 => ?_) (fun c1 => ?_)
  · rw [if_neg c1] at hrun
    refine g_iconst C (dat dt_X11_isIn 9 rfl) ic_0 ?_
    cases hrun
    exact g_zret C K (show (0 : Int32) = b2i false by decide) (dat dt_X11_isIn 10 rfl)
  · rw [if_pos c1] at hrun
    refine g_iconst C (dat dt_X11_isIn 7 rfl) ic_1 ?_
    refine g_goto 14 C (dat dt_X11_isIn 8 rfl) (by decide) ?_
    cases hrun
    exact g_zret C K (show (1 : Int32) = b2i true by decide) (dat dt_X11_isIn 10 rfl)
/-! SteamNationsModel.seatsAll(I)V -/
def dl_X11_seatsAll : List (Nat × Instr × Nat) := [(0, .iload_n 1, 1), (1, .istore_n 2, 1), (2, .aload_n 0, 1), (3, .getfield 400, 3), (6, .istore_n 3, 1), (7, .iconst 0, 1), (8, .istore 4, 2), (10, .iconst 0, 1), (11, .istore 5, 2), (13, .iload 5, 2), (15, .aload_n 0, 1), (16, .getfield 397, 3), (19, .if_icmp .ge 103, 3), (22, .iload_n 3, 1), (23, .aload_n 0, 1), (24, .getfield 397, 3), (27, .iload 5, 2), (29, .isub, 1), (30, .idiv, 1), (31, .istore_n 3, 1), (32, .iload_n 2, 1), (33, .iload_n 3, 1), (34, .idiv, 1), (35, .istore 6, 2), (37, .iload_n 2, 1), (38, .iload_n 3, 1), (39, .irem, 1), (40, .istore_n 2, 1), (41, .iconst 0, 1), (42, .istore 7, 2), (44, .iload 4, 2), (46, .iload 7, 2), (48, .invokestatic 403, 3), (51, .ifCond .ne 8, 3), (54, .iload 6, 2), (56, .ifCond .le 29, 3), (59, .iload 6, 2), (61, .iload 4, 2), (63, .iload 7, 2), (65, .invokestatic 403, 3), (68, .ifCond .eq 7, 3), (71, .iconst 0, 1), (72, .goto 4, 3), (75, .iconst 1, 1), (76, .isub, 1), (77, .istore 6, 2), (79, .iinc 7 1, 3), (82, .goto (-38), 3), (85, .iload 4, 2), (87, .iconst 1, 1), (88, .iload 7, 2), (90, .ishl, 1), (91, .ior, 1), (92, .istore 4, 2), (94, .aload_n 0, 1), (95, .getfield 28, 3), (98, .bipush 18, 2), (100, .aload_n 0, 1), (101, .getfield 75, 3), (104, .iload 5, 2), (106, .iaload, 1), (107, .iadd, 1), (108, .aload_n 0, 1), (109, .getfield 78, 3), (112, .iload 7, 2), (114, .iaload, 1), (115, .iastore, 1), (116, .iinc 5 1, 3), (119, .goto (-106), 3), (122, .return_, 1)]
set_option maxRecDepth 20000 in
theorem dt_X11_seatsAll : ∀ q ∈ dl_X11_seatsAll, decode prog_13_method_99_code q.1 = .ok q.2 := by decide +kernel
def kp_X11_seatsAll_13   (X : Xt) (s : (Int32 × Int32 × Int32 × Int32 × Hp)) : Prop := G X s.2.2.2.2 0 0 13 [(0, .ref 81), (2, .int s.1), (3, .int s.2.1), (4, .int s.2.2.1), (5, .int s.2.2.2.1)] []
def ke_X11_seatsAll_13   (X : Xt) (e : Hp) : Prop := G X e 0 0 122 [] []
def kp_X11_seatsAll_44_13  (x2 : Int32) (x3 : Int32) (x4 : Int32) (x5 : Int32) (h : Hp) (X : Xt) (s : (Int32 × Int32)) : Prop := G X h 0 0 44 [(0, .ref 81), (2, .int x2), (3, .int x3), (4, .int x4), (5, .int x5), (6, .int s.1), (7, .int s.2)] []
def ke_X11_seatsAll_44_13  (x2 : Int32) (x3 : Int32) (x4 : Int32) (x5 : Int32) (h : Hp) (X : Xt) (e : Int32) : Prop := G X h 0 0 85 [(0, .ref 81), (2, .int x2), (3, .int x3), (4, .int x4), (5, .int x5), (7, .int e)] []
def j_X11_seatsAll_76_44  (x2 : Int32) (x3 : Int32) (x4 : Int32) (x5 : Int32) (x7 : Int32) (s0 : Int32) (s1 : Int32) (h : Hp) : Option ((Int32 × Int32) ⊕ Int32) :=
  some (.inl ((s0 - s1), (x7 + (1 : Int32))))
set_option maxRecDepth 20000 in
theorem wj_X11_seatsAll_76_44 {X : Xt} (C : Cx X cn_11 prog_13_method_99_code 8 none 2 0 0)    (x2 : Int32) (x3 : Int32) (x4 : Int32) (x5 : Int32) (x7 : Int32) (s0 : Int32) (s1 : Int32) (h : Hp) (q : (Int32 × Int32) ⊕ Int32) (hrun : j_X11_seatsAll_76_44  x2 x3 x4 x5 x7 s0 s1 h = some q) (Ks : ∀ s, q = .inl s → kp_X11_seatsAll_44_13  x2 x3 x4 x5 h X s) (Ke : ∀ e, q = .inr e → ke_X11_seatsAll_44_13  x2 x3 x4 x5 h X e) : G X h 0 0 76 [(0, .ref 81), (2, .int x2), (3, .int x3), (4, .int x4), (5, .int x5), (7, .int x7)] [.int s1, .int s0] := by
  unfold j_X11_seatsAll_76_44 at hrun
  refine g_isub C (dat dt_X11_seatsAll 44 rfl) ?_
  refine g_istore (lv' := [(0, .ref 81), (2, .int x2), (3, .int x3), (4, .int x4), (5, .int x5), (6, .int (s0 - s1)), (7, .int x7)]) C (dat dt_X11_seatsAll 45 rfl) (by decide) rfl ?_
  refine g_iinc (v := (x7 + (1 : Int32))) (lv' := [(0, .ref 81), (2, .int x2), (3, .int x3), (4, .int x4), (5, .int x5), (6, .int (s0 - s1)), (7, .int (x7 + (1 : Int32)))]) C (dat dt_X11_seatsAll 46 rfl) 6 rfl (congrArg (fun z => x7 + z) ic_1) (by decide) rfl ?_
  refine g_goto 44 C (dat dt_X11_seatsAll 47 rfl) (by decide) ?_
  cases hrun
  exact Ks ((s0 - s1), (x7 + (1 : Int32))) rfl
def j_X11_seatsAll_59_44  (x2 : Int32) (x3 : Int32) (x4 : Int32) (x5 : Int32) (x6 : Int32) (x7 : Int32) (h : Hp) : Option ((Int32 × Int32) ⊕ Int32) :=
  (f_X11_isIn x4 x7).bind fun v8 =>
  if v8 = true then
  j_X11_seatsAll_76_44  x2 x3 x4 x5 x7 x6 (0 : Int32) h
  else
  j_X11_seatsAll_76_44  x2 x3 x4 x5 x7 x6 (1 : Int32) h
set_option maxRecDepth 20000 in
theorem wj_X11_seatsAll_59_44 {X : Xt} (C : Cx X cn_11 prog_13_method_99_code 8 none 2 0 0)    (x2 : Int32) (x3 : Int32) (x4 : Int32) (x5 : Int32) (x6 : Int32) (x7 : Int32) (h : Hp) (q : (Int32 × Int32) ⊕ Int32) (hrun : j_X11_seatsAll_59_44  x2 x3 x4 x5 x6 x7 h = some q) (Ks : ∀ s, q = .inl s → kp_X11_seatsAll_44_13  x2 x3 x4 x5 h X s) (Ke : ∀ e, q = .inr e → ke_X11_seatsAll_44_13  x2 x3 x4 x5 h X e) : G X h 0 0 59 [(0, .ref 81), (2, .int x2), (3, .int x3), (4, .int x4), (5, .int x5), (6, .int x6), (7, .int x7)] [] := by
  unfold j_X11_seatsAll_59_44 at hrun
  refine g_iload C (dat dt_X11_seatsAll 36 rfl) 5 rfl ?_
  refine g_iload C (dat dt_X11_seatsAll 37 rfl) 3 rfl ?_
  refine g_iload C (dat dt_X11_seatsAll 38 rfl) 6 rfl ?_
  obtain ⟨v8, q9, hrun⟩ := bd hrun
  refine g_cSi [.int x4, .int x7] C (dat dt_X11_seatsAll 39 rfl) ml_11_403 (w_X11_isIn x4 x7 h v8  q9) rfl rfl (Nat.le_of_ble_eq_true rfl) (by decide) c00 ?_
  refine g_if_eq 75 C (dat dt_X11_seatsAll 40 rfl) (by decide) (fun c10 => ?_) (fun c10 => ?_)
  · rw [if_neg (b2i_z c10)] at hrun
    refine g_iconst C (dat dt_X11_seatsAll 43 rfl) ic_1 ?_
    refine g_sub [0, 1, 2, 3, 4, 6] (lv' := [(0, .ref 81), (2, .int x2), (3, .int x3), (4, .int x4), (5, .int x5), (7, .int x7)]) rfl ?_
    exact wj_X11_seatsAll_76_44 C    x2 x3 x4 x5 x7 x6 (1 : Int32) h _ hrun Ks Ke
  · rw [if_pos (b2i_nz c10)] at hrun
    refine g_iconst C (dat dt_X11_seatsAll 41 rfl) ic_0 ?_
    refine g_goto 76 C (dat dt_X11_seatsAll 42 rfl) (by decide) ?_
    refine g_sub [0, 1, 2, 3, 4, 6] (lv' := [(0, .ref 81), (2, .int x2), (3, .int x3), (4, .int x4), (5, .int x5), (7, .int x7)]) rfl ?_
    exact wj_X11_seatsAll_76_44 C    x2 x3 x4 x5 x7 x6 (0 : Int32) h _ hrun Ks Ke
def b_X11_seatsAll_44_13  (x2 : Int32) (x3 : Int32) (x4 : Int32) (x5 : Int32) (x6 : Int32) (x7 : Int32) (h : Hp) : Option ((Int32 × Int32) ⊕ Int32) :=
  (f_X11_isIn x4 x7).bind fun v5 =>
  if v5 = true then
  j_X11_seatsAll_59_44  x2 x3 x4 x5 x6 x7 h
  else
  if x6 ≤ 0 then
  some (.inr ( x7))
  else
  j_X11_seatsAll_59_44  x2 x3 x4 x5 x6 x7 h
set_option maxRecDepth 20000 in
theorem wb_X11_seatsAll_44_13 {X : Xt} (C : Cx X cn_11 prog_13_method_99_code 8 none 2 0 0)   (x2 : Int32) (x3 : Int32) (x4 : Int32) (x5 : Int32) (x6 : Int32) (x7 : Int32) (h : Hp) (q : (Int32 × Int32) ⊕ Int32) (hrun : b_X11_seatsAll_44_13  x2 x3 x4 x5 x6 x7 h = some q) (Ks : ∀ s, q = .inl s → kp_X11_seatsAll_44_13  x2 x3 x4 x5 h X s) (Ke : ∀ e, q = .inr e → ke_X11_seatsAll_44_13  x2 x3 x4 x5 h X e) : kp_X11_seatsAll_44_13  x2 x3 x4 x5 h X (x6, x7) := by
  show G X h 0 0 44 [(0, .ref 81), (2, .int x2), (3, .int x3), (4, .int x4), (5, .int x5), (6, .int x6), (7, .int x7)] []
  unfold b_X11_seatsAll_44_13 at hrun
  refine g_iload C (dat dt_X11_seatsAll 30 rfl) 3 rfl ?_
  refine g_iload C (dat dt_X11_seatsAll 31 rfl) 6 rfl ?_
  obtain ⟨v5, q6, hrun⟩ := bd hrun
  refine g_cSi [.int x4, .int x7] C (dat dt_X11_seatsAll 32 rfl) ml_11_403 (w_X11_isIn x4 x7 h v5  q6) rfl rfl cat0 (by decide) c00 ?_
  refine g_if_ne 59 C (dat dt_X11_seatsAll 33 rfl) (by decide) (fun c7 => ?_) (fun c7 => ?_)
  · rw [if_pos (b2i_nz c7)] at hrun
    exact wj_X11_seatsAll_59_44 C    x2 x3 x4 x5 x6 x7 h _ hrun Ks Ke
  · rw [if_neg (b2i_z c7)] at hrun
    refine g_iload C (dat dt_X11_seatsAll 34 rfl) 5 rfl ?_
    refine g_if_le 85 C (dat dt_X11_seatsAll 35 rfl) (by decide) (fun c11 => ?_) (fun c11 => ?_)
    · rw [if_pos c11] at hrun
      refine g_sub [0, 1, 2, 3, 4, 6] (lv' := [(0, .ref 81), (2, .int x2), (3, .int x3), (4, .int x4), (5, .int x5), (7, .int x7)]) rfl ?_
      cases hrun
      exact Ke ( x7) rfl
    · rw [if_neg c11] at hrun
      exact wj_X11_seatsAll_59_44 C    x2 x3 x4 x5 x6 x7 h _ hrun Ks Ke
def b_X11_seatsAll_13   (x2 : Int32) (x3 : Int32) (x4 : Int32) (x5 : Int32) (h : Hp) : Option ((Int32 × Int32 × Int32 × Int32 × Hp) ⊕ Hp) :=
  if (fI h 81 35) ≤ x5 then
  some (.inr ( h))
  else
  if ((fI h 81 35) - x5) = 0 then none else
  if (x3 / ((fI h 81 35) - x5)) = 0 then none else
  if (x3 / ((fI h 81 35) - x5)) = 0 then none else
  (lp (fun s => b_X11_seatsAll_44_13  (x2 - x2 / (x3 / ((fI h 81 35) - x5)) * (x3 / ((fI h 81 35) - x5))) (x3 / ((fI h 81 35) - x5)) x4 x5 s.1 s.2 h) FU ((x2 / (x3 / ((fI h 81 35) - x5))), (0 : Int32))).bind fun e12 =>
  (inb x5 6).bind fun j14 =>
  (inb e12 6).bind fun j16 =>
  (inb ((18 : Int32) + (aI h 97 j14)) 5662).bind fun j18 =>
  some (.inl ((x2 - x2 / (x3 / ((fI h 81 35) - x5)) * (x3 / ((fI h 81 35) - x5))), (x3 / ((fI h 81 35) - x5)), (x4 ||| ((1 : Int32) <<< (e12 &&& 31))), (x5 + (1 : Int32)), (sA h 83 j18 (aI h 98 j16))))
set_option maxRecDepth 20000 in
theorem wb_X11_seatsAll_13 {X : Xt} (C : Cx X cn_11 prog_13_method_99_code 8 none 2 0 0)    (x2 : Int32) (x3 : Int32) (x4 : Int32) (x5 : Int32) (h : Hp) (q : (Int32 × Int32 × Int32 × Int32 × Hp) ⊕ Hp) (hrun : b_X11_seatsAll_13   x2 x3 x4 x5 h = some q) (Ks : ∀ s, q = .inl s → kp_X11_seatsAll_13   X s) (Ke : ∀ e, q = .inr e → ke_X11_seatsAll_13   X e) : kp_X11_seatsAll_13   X (x2, x3, x4, x5, h) := by
  show G X h 0 0 13 [(0, .ref 81), (2, .int x2), (3, .int x3), (4, .int x4), (5, .int x5)] []
  unfold b_X11_seatsAll_13 at hrun
  refine g_iload C (dat dt_X11_seatsAll 9 rfl) 4 rfl ?_
  refine g_aload_n C (dat dt_X11_seatsAll 10 rfl) 0 rfl ?_
  refine g_getI C (dat dt_X11_seatsAll 11 rfl) fl_11_397 kd_81 rfl ltk_81 ?_
  refine g_ic_ge 122 C (dat dt_X11_seatsAll 12 rfl) (by decide) (fun c1 => ?_) (fun c1 => ?_)
  · rw [if_pos c1] at hrun
    refine g_sub [] (lv' := []) rfl ?_
    cases hrun
    exact Ke ( h) rfl
  · rw [if_neg c1] at hrun
    refine g_iload_n C (dat dt_X11_seatsAll 13 rfl) 2 rfl ?_
    refine g_aload_n C (dat dt_X11_seatsAll 14 rfl) 0 rfl ?_
    refine g_getI C (dat dt_X11_seatsAll 15 rfl) fl_11_397 kd_81 rfl ltk_81 ?_
    refine g_iload C (dat dt_X11_seatsAll 16 rfl) 4 rfl ?_
    refine g_isub C (dat dt_X11_seatsAll 17 rfl) ?_
    by_cases c2 : ((fI h 81 35) - x5) = 0
    · rw [if_pos c2] at hrun
      cases hrun
    · rw [if_neg c2] at hrun
      refine g_idiv C (dat dt_X11_seatsAll 18 rfl) c2 ?_
      refine g_istore_n (lv' := [(0, .ref 81), (2, .int x2), (3, .int (x3 / ((fI h 81 35) - x5))), (4, .int x4), (5, .int x5)]) C (dat dt_X11_seatsAll 19 rfl) (by decide) rfl ?_
      refine g_iload_n C (dat dt_X11_seatsAll 20 rfl) 1 rfl ?_
      refine g_iload_n C (dat dt_X11_seatsAll 21 rfl) 2 rfl ?_
      by_cases c3 : (x3 / ((fI h 81 35) - x5)) = 0
      · rw [if_pos c3] at hrun
        cases hrun
      · rw [if_neg c3] at hrun
        refine g_idiv C (dat dt_X11_seatsAll 22 rfl) c3 ?_
        refine g_istore (lv' := [(0, .ref 81), (2, .int x2), (3, .int (x3 / ((fI h 81 35) - x5))), (4, .int x4), (5, .int x5), (6, .int (x2 / (x3 / ((fI h 81 35) - x5))))]) C (dat dt_X11_seatsAll 23 rfl) (by decide) rfl ?_
        refine g_iload_n C (dat dt_X11_seatsAll 24 rfl) 1 rfl ?_
        refine g_iload_n C (dat dt_X11_seatsAll 25 rfl) 2 rfl ?_
        by_cases c4 : (x3 / ((fI h 81 35) - x5)) = 0
        · rw [if_pos c4] at hrun
          cases hrun
        · rw [if_neg c4] at hrun
          refine g_irem C (dat dt_X11_seatsAll 26 rfl) c4 ?_
          refine g_istore_n (lv' := [(0, .ref 81), (2, .int (x2 - x2 / (x3 / ((fI h 81 35) - x5)) * (x3 / ((fI h 81 35) - x5)))), (3, .int (x3 / ((fI h 81 35) - x5))), (4, .int x4), (5, .int x5), (6, .int (x2 / (x3 / ((fI h 81 35) - x5))))]) C (dat dt_X11_seatsAll 27 rfl) (by decide) rfl ?_
          refine g_iconst C (dat dt_X11_seatsAll 28 rfl) ic_0 ?_
          refine g_istore (lv' := [(0, .ref 81), (2, .int (x2 - x2 / (x3 / ((fI h 81 35) - x5)) * (x3 / ((fI h 81 35) - x5)))), (3, .int (x3 / ((fI h 81 35) - x5))), (4, .int x4), (5, .int x5), (6, .int (x2 / (x3 / ((fI h 81 35) - x5)))), (7, .int (0 : Int32))]) C (dat dt_X11_seatsAll 29 rfl) (by decide) rfl ?_
          obtain ⟨e12, q13, hrun⟩ := bd hrun
          refine lp_ind (P := fun s => kp_X11_seatsAll_44_13  (x2 - x2 / (x3 / ((fI h 81 35) - x5)) * (x3 / ((fI h 81 35) - x5))) (x3 / ((fI h 81 35) - x5)) x4 x5 h X s) (K := fun e => ke_X11_seatsAll_44_13  (x2 - x2 / (x3 / ((fI h 81 35) - x5)) * (x3 / ((fI h 81 35) - x5))) (x3 / ((fI h 81 35) - x5)) x4 x5 h X e) (fun s q hb Ks Ke => wb_X11_seatsAll_44_13 C   (x2 - x2 / (x3 / ((fI h 81 35) - x5)) * (x3 / ((fI h 81 35) - x5))) (x3 / ((fI h 81 35) - x5)) x4 x5 s.1 s.2 h q hb Ks Ke) FU ((x2 / (x3 / ((fI h 81 35) - x5))), (0 : Int32)) e12 q13 ?_
          show G X h 0 0 85 [(0, .ref 81), (2, .int (x2 - x2 / (x3 / ((fI h 81 35) - x5)) * (x3 / ((fI h 81 35) - x5)))), (3, .int (x3 / ((fI h 81 35) - x5))), (4, .int x4), (5, .int x5), (7, .int e12)] []
          refine g_iload C (dat dt_X11_seatsAll 48 rfl) 3 rfl ?_
          refine g_iconst C (dat dt_X11_seatsAll 49 rfl) ic_1 ?_
          refine g_iload C (dat dt_X11_seatsAll 50 rfl) 5 rfl ?_
          refine g_ishl C (dat dt_X11_seatsAll 51 rfl) ?_
          refine g_ior C (dat dt_X11_seatsAll 52 rfl) ?_
          refine g_istore (lv' := [(0, .ref 81), (2, .int (x2 - x2 / (x3 / ((fI h 81 35) - x5)) * (x3 / ((fI h 81 35) - x5)))), (3, .int (x3 / ((fI h 81 35) - x5))), (4, .int (x4 ||| ((1 : Int32) <<< (e12 &&& 31)))), (5, .int x5), (7, .int e12)]) C (dat dt_X11_seatsAll 53 rfl) (by decide) rfl ?_
          refine g_aload_n C (dat dt_X11_seatsAll 54 rfl) 0 rfl ?_
          refine g_getR C (dat dt_X11_seatsAll 55 rfl) fl_11_28 kd_81 rfl ltk_81 ?_
          refine g_bipush C (dat dt_X11_seatsAll 56 rfl) bp_18 ?_
          refine g_aload_n C (dat dt_X11_seatsAll 57 rfl) 0 rfl ?_
          refine g_getR C (dat dt_X11_seatsAll 58 rfl) fl_11_75 kd_81 rfl ltk_81 ?_
          refine g_iload C (dat dt_X11_seatsAll 59 rfl) 4 rfl ?_
          obtain ⟨j14, q15, hrun⟩ := bd hrun
          refine g_iald C (dat dt_X11_seatsAll 60 rfl) kd_97 ltk_97 q15 ?_
          refine g_iadd C (dat dt_X11_seatsAll 61 rfl) ?_
          refine g_aload_n C (dat dt_X11_seatsAll 62 rfl) 0 rfl ?_
          refine g_getR C (dat dt_X11_seatsAll 63 rfl) fl_11_78 kd_81 rfl ltk_81 ?_
          refine g_iload C (dat dt_X11_seatsAll 64 rfl) 5 rfl ?_
          obtain ⟨j16, q17, hrun⟩ := bd hrun
          refine g_iald C (dat dt_X11_seatsAll 65 rfl) kd_98 ltk_98 q17 ?_
          obtain ⟨j18, q19, hrun⟩ := bd hrun
          refine g_iast (j := j18) C (dat dt_X11_seatsAll 66 rfl) kd_83 ltk_83 q19  ?_
          refine g_iinc (v := (x5 + (1 : Int32))) (lv' := [(0, .ref 81), (2, .int (x2 - x2 / (x3 / ((fI h 81 35) - x5)) * (x3 / ((fI h 81 35) - x5)))), (3, .int (x3 / ((fI h 81 35) - x5))), (4, .int (x4 ||| ((1 : Int32) <<< (e12 &&& 31)))), (5, .int (x5 + (1 : Int32))), (7, .int e12)]) C (dat dt_X11_seatsAll 67 rfl) 4 rfl (congrArg (fun z => x5 + z) ic_1) (by decide) rfl ?_
          refine g_goto 13 C (dat dt_X11_seatsAll 68 rfl) (by decide) ?_
          refine g_sub [0, 1, 2, 3, 4] (lv' := [(0, .ref 81), (2, .int (x2 - x2 / (x3 / ((fI h 81 35) - x5)) * (x3 / ((fI h 81 35) - x5)))), (3, .int (x3 / ((fI h 81 35) - x5))), (4, .int (x4 ||| ((1 : Int32) <<< (e12 &&& 31)))), (5, .int (x5 + (1 : Int32)))]) rfl ?_
          cases hrun
          exact Ks ((x2 - x2 / (x3 / ((fI h 81 35) - x5)) * (x3 / ((fI h 81 35) - x5))), (x3 / ((fI h 81 35) - x5)), (x4 ||| ((1 : Int32) <<< (e12 &&& 31))), (x5 + (1 : Int32)), (sA h 83 j18 (aI h 98 j16))) rfl
def f_X11_seatsAll (x1 : Int32) (h : Hp) : Option (Unit × Hp) :=
  (lp (fun s => b_X11_seatsAll_13   s.1 s.2.1 s.2.2.1 s.2.2.2.1 s.2.2.2.2) FU (x1, (fI h 81 36), (0 : Int32), (0 : Int32), h)).bind fun e20 =>
  some ((), e20)
set_option maxRecDepth 20000 in
theorem w_X11_seatsAll (x1 : Int32) (h : Hp) (q : (Unit × Hp))  (hrun : f_X11_seatsAll x1 h = some q) : MetA ⟨"SteamNationsModel", "seatsAll", "(I)V"⟩ prog_13_method_99_code 8 none 2 0 0 [.ref 81, .int x1] h none q.2 := by
  refine metA_of (by decide) (Nat.le_of_ble_eq_true rfl) (fun X C K => ?_)
  have C : Cx X cn_11 prog_13_method_99_code 8 none 2 0 0 := C
  show G X h 0 0 0 [(0, .ref 81), (1, .int x1)] []
  unfold f_X11_seatsAll at hrun
  refine g_iload_n C (dat dt_X11_seatsAll 0 rfl) 1 rfl ?_
  refine g_istore_n (lv' := [(0, .ref 81), (1, .int x1), (2, .int x1)]) C (dat dt_X11_seatsAll 1 rfl) (by decide) rfl ?_
  refine g_aload_n C (dat dt_X11_seatsAll 2 rfl) 0 rfl ?_
  refine g_getI C (dat dt_X11_seatsAll 3 rfl) fl_11_400 kd_81 rfl ltk_81 ?_
  refine g_istore_n (lv' := [(0, .ref 81), (1, .int x1), (2, .int x1), (3, .int (fI h 81 36))]) C (dat dt_X11_seatsAll 4 rfl) (by decide) rfl ?_
  refine g_iconst C (dat dt_X11_seatsAll 5 rfl) ic_0 ?_
  refine g_istore (lv' := [(0, .ref 81), (1, .int x1), (2, .int x1), (3, .int (fI h 81 36)), (4, .int (0 : Int32))]) C (dat dt_X11_seatsAll 6 rfl) (by decide) rfl ?_
  refine g_iconst C (dat dt_X11_seatsAll 7 rfl) ic_0 ?_
  refine g_istore (lv' := [(0, .ref 81), (1, .int x1), (2, .int x1), (3, .int (fI h 81 36)), (4, .int (0 : Int32)), (5, .int (0 : Int32))]) C (dat dt_X11_seatsAll 8 rfl) (by decide) rfl ?_
  refine g_sub [0, 2, 3, 4, 5] (lv' := [(0, .ref 81), (2, .int x1), (3, .int (fI h 81 36)), (4, .int (0 : Int32)), (5, .int (0 : Int32))]) rfl ?_
  obtain ⟨e20, q21, hrun⟩ := bd hrun
  refine lp_ind (P := fun s => kp_X11_seatsAll_13   X s) (K := fun e => ke_X11_seatsAll_13   X e) (fun s q hb Ks Ke => wb_X11_seatsAll_13 C    s.1 s.2.1 s.2.2.1 s.2.2.2.1 s.2.2.2.2 q hb Ks Ke) FU (x1, (fI h 81 36), (0 : Int32), (0 : Int32), h) e20 q21 ?_
  show G X e20 0 0 122 [] []
  cases hrun
  exact g_vret C K (dat dt_X11_seatsAll 69 rfl)
/-! SteamNationsModel.greater(II)I -/
def dl_X11_greater : List (Nat × Instr × Nat) := [(0, .iload_n 0, 1), (1, .iload_n 1, 1), (2, .if_icmp .le 7, 3), (5, .iload_n 0, 1), (6, .goto 4, 3), (9, .iload_n 1, 1), (10, .ireturn, 1)]
set_option maxRecDepth 20000 in
theorem dt_X11_greater : ∀ q ∈ dl_X11_greater, decode prog_13_method_3_code q.1 = .ok q.2 := by decide +kernel
def f_X11_greater (x0 : Int32) (x1 : Int32) : Option Int32 :=
  if x0 ≤ x1 then
  some x1
  else
  some x0
set_option maxRecDepth 20000 in
theorem w_X11_greater (x0 : Int32) (x1 : Int32) (h : Hp) (q : Int32)  (hrun : f_X11_greater x0 x1 = some q) : MetA ⟨"SteamNationsModel", "greater", "(II)I"⟩ prog_13_method_3_code 2 (some .int) 1 0 0 [.int x0, .int x1] h (some (.int q)) h := by
  refine metA_of (by decide) (Nat.le_of_ble_eq_true rfl) (fun X C K => ?_)
  have C : Cx X cn_11 prog_13_method_3_code 2 (some .int) 1 0 0 := C
  show G X h 0 0 0 [(0, .int x0), (1, .int x1)] []
  unfold f_X11_greater at hrun
  refine g_iload_n C (dat dt_X11_greater 0 rfl) 0 rfl ?_
  refine g_iload_n C (dat dt_X11_greater 1 rfl) 1 rfl ?_
  refine g_ic_le 9 C (dat dt_X11_greater 2 rfl) (by decide) (fun c1 => ?_) (fun c1 => ?_)
  · rw [if_pos c1] at hrun
    refine g_iload_n C (dat dt_X11_greater 5 rfl) 1 rfl ?_
    cases hrun
    exact g_iret C K (dat dt_X11_greater 6 rfl)
  · rw [if_neg c1] at hrun
    refine g_iload_n C (dat dt_X11_greater 3 rfl) 0 rfl ?_
    refine g_goto 10 C (dat dt_X11_greater 4 rfl) (by decide) ?_
    cases hrun
    exact g_iret C K (dat dt_X11_greater 6 rfl)
/-! SteamNationsModel.swapsTwo(II)V -/
def dl_X11_swapsTwo : List (Nat × Instr × Nat) := [(0, .aload_n 0, 1), (1, .iload_n 1, 1), (2, .invokevirtual 150, 3), (5, .istore_n 3, 1), (6, .aload_n 0, 1), (7, .getfield 28, 3), (10, .bipush 18, 2), (12, .iload_n 1, 1), (13, .iadd, 1), (14, .aload_n 0, 1), (15, .iload_n 2, 1), (16, .invokevirtual 150, 3), (19, .iastore, 1), (20, .aload_n 0, 1), (21, .getfield 28, 3), (24, .bipush 18, 2), (26, .iload_n 2, 1), (27, .iadd, 1), (28, .iload_n 3, 1), (29, .iastore, 1), (30, .return_, 1)]
set_option maxRecDepth 20000 in
theorem dt_X11_swapsTwo : ∀ q ∈ dl_X11_swapsTwo, decode prog_13_method_103_code q.1 = .ok q.2 := by decide +kernel
def f_X11_swapsTwo (x1 : Int32) (x2 : Int32) (h : Hp) : Option (Unit × Hp) :=
  (f_X11_seatOf x1 h).bind fun v1 =>
  (f_X11_seatOf x2 h).bind fun v3 =>
  (inb ((18 : Int32) + x1) 5662).bind fun j5 =>
  (inb ((18 : Int32) + x2) 5662).bind fun j7 =>
  some ((), (sA (sA h 83 j5 v3) 83 j7 v1))
set_option maxRecDepth 20000 in
theorem w_X11_swapsTwo (x1 : Int32) (x2 : Int32) (h : Hp) (q : (Unit × Hp))  (hrun : f_X11_swapsTwo x1 x2 h = some q) : MetA ⟨"SteamNationsModel", "swapsTwo", "(II)V"⟩ prog_13_method_103_code 4 none 2 0 0 [.ref 81, .int x1, .int x2] h none q.2 := by
  refine metA_of (by decide) (Nat.le_of_ble_eq_true rfl) (fun X C K => ?_)
  have C : Cx X cn_11 prog_13_method_103_code 4 none 2 0 0 := C
  show G X h 0 0 0 [(0, .ref 81), (1, .int x1), (2, .int x2)] []
  unfold f_X11_swapsTwo at hrun
  refine g_aload_n C (dat dt_X11_swapsTwo 0 rfl) 0 rfl ?_
  refine g_iload_n C (dat dt_X11_swapsTwo 1 rfl) 1 rfl ?_
  obtain ⟨v1, q2, hrun⟩ := bd hrun
  refine g_cVi [.int x1] C (dat dt_X11_swapsTwo 2 rfl) ml_11_150 (w_X11_seatOf x1 h v1  q2) kd_81 ltk_81 rfl rfl cat0 (by decide) c00 ?_
  refine g_istore_n (lv' := [(0, .ref 81), (1, .int x1), (2, .int x2), (3, .int v1)]) C (dat dt_X11_swapsTwo 3 rfl) (by decide) rfl ?_
  refine g_aload_n C (dat dt_X11_swapsTwo 4 rfl) 0 rfl ?_
  refine g_getR C (dat dt_X11_swapsTwo 5 rfl) fl_11_28 kd_81 rfl ltk_81 ?_
  refine g_bipush C (dat dt_X11_swapsTwo 6 rfl) bp_18 ?_
  refine g_iload_n C (dat dt_X11_swapsTwo 7 rfl) 1 rfl ?_
  refine g_iadd C (dat dt_X11_swapsTwo 8 rfl) ?_
  refine g_aload_n C (dat dt_X11_swapsTwo 9 rfl) 0 rfl ?_
  refine g_iload_n C (dat dt_X11_swapsTwo 10 rfl) 2 rfl ?_
  obtain ⟨v3, q4, hrun⟩ := bd hrun
  refine g_cVi [.int x2] C (dat dt_X11_swapsTwo 11 rfl) ml_11_150 (w_X11_seatOf x2 h v3  q4) kd_81 ltk_81 rfl rfl (Nat.le_of_ble_eq_true rfl) (by decide) c00 ?_
  obtain ⟨j5, q6, hrun⟩ := bd hrun
  refine g_iast (j := j5) C (dat dt_X11_swapsTwo 12 rfl) kd_83 ltk_83 q6  ?_
  refine g_aload_n C (dat dt_X11_swapsTwo 13 rfl) 0 rfl ?_
  refine g_getR C (dat dt_X11_swapsTwo 14 rfl) fl_11_28 kd_81 rfl ltk_81 ?_
  refine g_bipush C (dat dt_X11_swapsTwo 15 rfl) bp_18 ?_
  refine g_iload_n C (dat dt_X11_swapsTwo 16 rfl) 2 rfl ?_
  refine g_iadd C (dat dt_X11_swapsTwo 17 rfl) ?_
  refine g_iload_n C (dat dt_X11_swapsTwo 18 rfl) 3 rfl ?_
  obtain ⟨j7, q8, hrun⟩ := bd hrun
  refine g_iast (j := j7) C (dat dt_X11_swapsTwo 19 rfl) kd_83 ltk_83 q8  ?_
  cases hrun
  exact g_vret C K (dat dt_X11_swapsTwo 20 rfl)
/-! SteamNationsModel.seatingNow()I -/
def dl_X11_seatingNow : List (Nat × Instr × Nat) := [(0, .iconst 0, 1), (1, .istore_n 1, 1), (2, .iconst 0, 1), (3, .istore_n 2, 1), (4, .iload_n 2, 1), (5, .aload_n 0, 1), (6, .getfield 397, 3), (9, .if_icmp .ge 74, 3), (12, .iconst 0, 1), (13, .istore_n 3, 1), (14, .iload_n 2, 1), (15, .iconst 1, 1), (16, .iadd, 1), (17, .istore 4, 2), (19, .iload 4, 2), (21, .aload_n 0, 1), (22, .getfield 397, 3), (25, .if_icmp .ge 41, 3), (28, .iload_n 3, 1), (29, .aload_n 0, 1), (30, .aload_n 0, 1), (31, .getfield 75, 3), (34, .iload 4, 2), (36, .iaload, 1), (37, .invokevirtual 150, 3), (40, .aload_n 0, 1), (41, .aload_n 0, 1), (42, .getfield 75, 3), (45, .iload_n 2, 1), (46, .iaload, 1), (47, .invokevirtual 150, 3), (50, .if_icmp .ge 7, 3), (53, .iconst 1, 1), (54, .goto 4, 3), (57, .iconst 0, 1), (58, .iadd, 1), (59, .istore_n 3, 1), (60, .iinc 4 1, 3), (63, .goto (-44), 3), (66, .iload_n 1, 1), (67, .aload_n 0, 1), (68, .getfield 397, 3), (71, .iload_n 2, 1), (72, .isub, 1), (73, .imul, 1), (74, .iload_n 3, 1), (75, .iadd, 1), (76, .istore_n 1, 1), (77, .iinc 2 1, 3), (80, .goto (-76), 3), (83, .iload_n 1, 1), (84, .ireturn, 1)]
set_option maxRecDepth 20000 in
theorem dt_X11_seatingNow : ∀ q ∈ dl_X11_seatingNow, decode prog_13_method_100_code q.1 = .ok q.2 := by decide +kernel
def kp_X11_seatingNow_4   (h : Hp) (X : Xt) (s : (Int32 × Int32)) : Prop := G X h 0 0 4 [(0, .ref 81), (1, .int s.1), (2, .int s.2)] []
def ke_X11_seatingNow_4   (h : Hp) (X : Xt) (e : Int32) : Prop := G X h 0 0 83 [(1, .int e)] []
def kp_X11_seatingNow_19_4  (x1 : Int32) (x2 : Int32) (h : Hp) (X : Xt) (s : (Int32 × Int32)) : Prop := G X h 0 0 19 [(0, .ref 81), (1, .int x1), (2, .int x2), (3, .int s.1), (4, .int s.2)] []
def ke_X11_seatingNow_19_4  (x1 : Int32) (x2 : Int32) (h : Hp) (X : Xt) (e : Int32) : Prop := G X h 0 0 66 [(0, .ref 81), (1, .int x1), (2, .int x2), (3, .int e)] []
def j_X11_seatingNow_58_19  (x1 : Int32) (x2 : Int32) (x4 : Int32) (s0 : Int32) (s1 : Int32) (h : Hp) : Option ((Int32 × Int32) ⊕ Int32) :=
  some (.inl ((s0 + s1), (x4 + (1 : Int32))))
set_option maxRecDepth 20000 in
theorem wj_X11_seatingNow_58_19 {X : Xt} (C : Cx X cn_11 prog_13_method_100_code 5 (some .int) 2 0 0)    (x1 : Int32) (x2 : Int32) (x4 : Int32) (s0 : Int32) (s1 : Int32) (h : Hp) (q : (Int32 × Int32) ⊕ Int32) (hrun : j_X11_seatingNow_58_19  x1 x2 x4 s0 s1 h = some q) (Ks : ∀ s, q = .inl s → kp_X11_seatingNow_19_4  x1 x2 h X s) (Ke : ∀ e, q = .inr e → ke_X11_seatingNow_19_4  x1 x2 h X e) : G X h 0 0 58 [(0, .ref 81), (1, .int x1), (2, .int x2), (4, .int x4)] [.int s1, .int s0] := by
  unfold j_X11_seatingNow_58_19 at hrun
  refine g_iadd C (dat dt_X11_seatingNow 35 rfl) ?_
  refine g_istore_n (lv' := [(0, .ref 81), (1, .int x1), (2, .int x2), (3, .int (s0 + s1)), (4, .int x4)]) C (dat dt_X11_seatingNow 36 rfl) (by decide) rfl ?_
  refine g_iinc (v := (x4 + (1 : Int32))) (lv' := [(0, .ref 81), (1, .int x1), (2, .int x2), (3, .int (s0 + s1)), (4, .int (x4 + (1 : Int32)))]) C (dat dt_X11_seatingNow 37 rfl) 4 rfl (congrArg (fun z => x4 + z) ic_1) (by decide) rfl ?_
  refine g_goto 19 C (dat dt_X11_seatingNow 38 rfl) (by decide) ?_
  cases hrun
  exact Ks ((s0 + s1), (x4 + (1 : Int32))) rfl
def b_X11_seatingNow_19_4  (x1 : Int32) (x2 : Int32) (x3 : Int32) (x4 : Int32) (h : Hp) : Option ((Int32 × Int32) ⊕ Int32) :=
  if (fI h 81 35) ≤ x4 then
  some (.inr ( x3))
  else
  (inb x4 6).bind fun j3 =>
  (f_X11_seatOf (aI h 97 j3) h).bind fun v5 =>
  (inb x2 6).bind fun j7 =>
  (f_X11_seatOf (aI h 97 j7) h).bind fun v9 =>
  if v9 ≤ v5 then
  j_X11_seatingNow_58_19  x1 x2 x4 x3 (0 : Int32) h
  else
  j_X11_seatingNow_58_19  x1 x2 x4 x3 (1 : Int32) h
set_option maxRecDepth 20000 in
theorem wb_X11_seatingNow_19_4 {X : Xt} (C : Cx X cn_11 prog_13_method_100_code 5 (some .int) 2 0 0)   (x1 : Int32) (x2 : Int32) (x3 : Int32) (x4 : Int32) (h : Hp) (q : (Int32 × Int32) ⊕ Int32) (hrun : b_X11_seatingNow_19_4  x1 x2 x3 x4 h = some q) (Ks : ∀ s, q = .inl s → kp_X11_seatingNow_19_4  x1 x2 h X s) (Ke : ∀ e, q = .inr e → ke_X11_seatingNow_19_4  x1 x2 h X e) : kp_X11_seatingNow_19_4  x1 x2 h X (x3, x4) := by
  show G X h 0 0 19 [(0, .ref 81), (1, .int x1), (2, .int x2), (3, .int x3), (4, .int x4)] []
  unfold b_X11_seatingNow_19_4 at hrun
  refine g_iload C (dat dt_X11_seatingNow 14 rfl) 4 rfl ?_
  refine g_aload_n C (dat dt_X11_seatingNow 15 rfl) 0 rfl ?_
  refine g_getI C (dat dt_X11_seatingNow 16 rfl) fl_11_397 kd_81 rfl ltk_81 ?_
  refine g_ic_ge 66 C (dat dt_X11_seatingNow 17 rfl) (by decide) (fun c2 => ?_) (fun c2 => ?_)
  · rw [if_pos c2] at hrun
    refine g_sub [0, 1, 2, 3] (lv' := [(0, .ref 81), (1, .int x1), (2, .int x2), (3, .int x3)]) rfl ?_
    cases hrun
    exact Ke ( x3) rfl
  · rw [if_neg c2] at hrun
    refine g_iload_n C (dat dt_X11_seatingNow 18 rfl) 3 rfl ?_
    refine g_aload_n C (dat dt_X11_seatingNow 19 rfl) 0 rfl ?_
    refine g_aload_n C (dat dt_X11_seatingNow 20 rfl) 0 rfl ?_
    refine g_getR C (dat dt_X11_seatingNow 21 rfl) fl_11_75 kd_81 rfl ltk_81 ?_
    refine g_iload C (dat dt_X11_seatingNow 22 rfl) 4 rfl ?_
    obtain ⟨j3, q4, hrun⟩ := bd hrun
    refine g_iald C (dat dt_X11_seatingNow 23 rfl) kd_97 ltk_97 q4 ?_
    obtain ⟨v5, q6, hrun⟩ := bd hrun
    refine g_cVi [.int (aI h 97 j3)] C (dat dt_X11_seatingNow 24 rfl) ml_11_150 (w_X11_seatOf (aI h 97 j3) h v5  q6) kd_81 ltk_81 rfl rfl (Nat.le_of_ble_eq_true rfl) (by decide) c00 ?_
    refine g_aload_n C (dat dt_X11_seatingNow 25 rfl) 0 rfl ?_
    refine g_aload_n C (dat dt_X11_seatingNow 26 rfl) 0 rfl ?_
    refine g_getR C (dat dt_X11_seatingNow 27 rfl) fl_11_75 kd_81 rfl ltk_81 ?_
    refine g_iload_n C (dat dt_X11_seatingNow 28 rfl) 2 rfl ?_
    obtain ⟨j7, q8, hrun⟩ := bd hrun
    refine g_iald C (dat dt_X11_seatingNow 29 rfl) kd_97 ltk_97 q8 ?_
    obtain ⟨v9, q10, hrun⟩ := bd hrun
    refine g_cVi [.int (aI h 97 j7)] C (dat dt_X11_seatingNow 30 rfl) ml_11_150 (w_X11_seatOf (aI h 97 j7) h v9  q10) kd_81 ltk_81 rfl rfl (Nat.le_of_ble_eq_true rfl) (by decide) c00 ?_
    refine g_ic_ge 57 C (dat dt_X11_seatingNow 31 rfl) (by decide) (fun c11 => ?_) (fun c11 => ?_)
    · rw [if_pos c11] at hrun
      refine g_iconst C (dat dt_X11_seatingNow 34 rfl) ic_0 ?_
      refine g_sub [0, 1, 2, 4] (lv' := [(0, .ref 81), (1, .int x1), (2, .int x2), (4, .int x4)]) rfl ?_
      exact wj_X11_seatingNow_58_19 C    x1 x2 x4 x3 (0 : Int32) h _ hrun Ks Ke
    · rw [if_neg c11] at hrun
      refine g_iconst C (dat dt_X11_seatingNow 32 rfl) ic_1 ?_
      refine g_goto 58 C (dat dt_X11_seatingNow 33 rfl) (by decide) ?_
      refine g_sub [0, 1, 2, 4] (lv' := [(0, .ref 81), (1, .int x1), (2, .int x2), (4, .int x4)]) rfl ?_
      exact wj_X11_seatingNow_58_19 C    x1 x2 x4 x3 (1 : Int32) h _ hrun Ks Ke
def b_X11_seatingNow_4   (x1 : Int32) (x2 : Int32) (h : Hp) : Option ((Int32 × Int32) ⊕ Int32) :=
  if (fI h 81 35) ≤ x2 then
  some (.inr ( x1))
  else
  (lp (fun s => b_X11_seatingNow_19_4  x1 x2 s.1 s.2 h) FU ((0 : Int32), (x2 + (1 : Int32)))).bind fun e12 =>
  some (.inl (((x1 * ((fI h 81 35) - x2)) + e12), (x2 + (1 : Int32))))
set_option maxRecDepth 20000 in
theorem wb_X11_seatingNow_4 {X : Xt} (C : Cx X cn_11 prog_13_method_100_code 5 (some .int) 2 0 0)    (x1 : Int32) (x2 : Int32) (h : Hp) (q : (Int32 × Int32) ⊕ Int32) (hrun : b_X11_seatingNow_4   x1 x2 h = some q) (Ks : ∀ s, q = .inl s → kp_X11_seatingNow_4   h X s) (Ke : ∀ e, q = .inr e → ke_X11_seatingNow_4   h X e) : kp_X11_seatingNow_4   h X (x1, x2) := by
  show G X h 0 0 4 [(0, .ref 81), (1, .int x1), (2, .int x2)] []
  unfold b_X11_seatingNow_4 at hrun
  refine g_iload_n C (dat dt_X11_seatingNow 4 rfl) 2 rfl ?_
  refine g_aload_n C (dat dt_X11_seatingNow 5 rfl) 0 rfl ?_
  refine g_getI C (dat dt_X11_seatingNow 6 rfl) fl_11_397 kd_81 rfl ltk_81 ?_
  refine g_ic_ge 83 C (dat dt_X11_seatingNow 7 rfl) (by decide) (fun c1 => ?_) (fun c1 => ?_)
  · rw [if_pos c1] at hrun
    refine g_sub [1] (lv' := [(1, .int x1)]) rfl ?_
    cases hrun
    exact Ke ( x1) rfl
  · rw [if_neg c1] at hrun
    refine g_iconst C (dat dt_X11_seatingNow 8 rfl) ic_0 ?_
    refine g_istore_n (lv' := [(0, .ref 81), (1, .int x1), (2, .int x2), (3, .int (0 : Int32))]) C (dat dt_X11_seatingNow 9 rfl) (by decide) rfl ?_
    refine g_iload_n C (dat dt_X11_seatingNow 10 rfl) 2 rfl ?_
    refine g_iconst C (dat dt_X11_seatingNow 11 rfl) ic_1 ?_
    refine g_iadd C (dat dt_X11_seatingNow 12 rfl) ?_
    refine g_istore (lv' := [(0, .ref 81), (1, .int x1), (2, .int x2), (3, .int (0 : Int32)), (4, .int (x2 + (1 : Int32)))]) C (dat dt_X11_seatingNow 13 rfl) (by decide) rfl ?_
    obtain ⟨e12, q13, hrun⟩ := bd hrun
    refine lp_ind (P := fun s => kp_X11_seatingNow_19_4  x1 x2 h X s) (K := fun e => ke_X11_seatingNow_19_4  x1 x2 h X e) (fun s q hb Ks Ke => wb_X11_seatingNow_19_4 C   x1 x2 s.1 s.2 h q hb Ks Ke) FU ((0 : Int32), (x2 + (1 : Int32))) e12 q13 ?_
    show G X h 0 0 66 [(0, .ref 81), (1, .int x1), (2, .int x2), (3, .int e12)] []
    refine g_iload_n C (dat dt_X11_seatingNow 39 rfl) 1 rfl ?_
    refine g_aload_n C (dat dt_X11_seatingNow 40 rfl) 0 rfl ?_
    refine g_getI C (dat dt_X11_seatingNow 41 rfl) fl_11_397 kd_81 rfl ltk_81 ?_
    refine g_iload_n C (dat dt_X11_seatingNow 42 rfl) 2 rfl ?_
    refine g_isub C (dat dt_X11_seatingNow 43 rfl) ?_
    refine g_imul C (dat dt_X11_seatingNow 44 rfl) ?_
    refine g_iload_n C (dat dt_X11_seatingNow 45 rfl) 3 rfl ?_
    refine g_iadd C (dat dt_X11_seatingNow 46 rfl) ?_
    refine g_istore_n (lv' := [(0, .ref 81), (1, .int ((x1 * ((fI h 81 35) - x2)) + e12)), (2, .int x2), (3, .int e12)]) C (dat dt_X11_seatingNow 47 rfl) (by decide) rfl ?_
    refine g_iinc (v := (x2 + (1 : Int32))) (lv' := [(0, .ref 81), (1, .int ((x1 * ((fI h 81 35) - x2)) + e12)), (2, .int (x2 + (1 : Int32))), (3, .int e12)]) C (dat dt_X11_seatingNow 48 rfl) 2 rfl (congrArg (fun z => x2 + z) ic_1) (by decide) rfl ?_
    refine g_goto 4 C (dat dt_X11_seatingNow 49 rfl) (by decide) ?_
    refine g_sub [0, 1, 2] (lv' := [(0, .ref 81), (1, .int ((x1 * ((fI h 81 35) - x2)) + e12)), (2, .int (x2 + (1 : Int32)))]) rfl ?_
    cases hrun
    exact Ks (((x1 * ((fI h 81 35) - x2)) + e12), (x2 + (1 : Int32))) rfl
def f_X11_seatingNow  (h : Hp) : Option Int32 :=
  (lp (fun s => b_X11_seatingNow_4   s.1 s.2 h) FU ((0 : Int32), (0 : Int32))).bind fun e14 =>
  some e14
set_option maxRecDepth 20000 in
theorem w_X11_seatingNow  (h : Hp) (q : Int32)  (hrun : f_X11_seatingNow  h = some q) : MetA ⟨"SteamNationsModel", "seatingNow", "()I"⟩ prog_13_method_100_code 5 (some .int) 2 0 0 [.ref 81] h (some (.int q)) h := by
  refine metA_of (by decide) (Nat.le_of_ble_eq_true rfl) (fun X C K => ?_)
  have C : Cx X cn_11 prog_13_method_100_code 5 (some .int) 2 0 0 := C
  show G X h 0 0 0 [(0, .ref 81)] []
  unfold f_X11_seatingNow at hrun
  refine g_iconst C (dat dt_X11_seatingNow 0 rfl) ic_0 ?_
  refine g_istore_n (lv' := [(0, .ref 81), (1, .int (0 : Int32))]) C (dat dt_X11_seatingNow 1 rfl) (by decide) rfl ?_
  refine g_iconst C (dat dt_X11_seatingNow 2 rfl) ic_0 ?_
  refine g_istore_n (lv' := [(0, .ref 81), (1, .int (0 : Int32)), (2, .int (0 : Int32))]) C (dat dt_X11_seatingNow 3 rfl) (by decide) rfl ?_
  obtain ⟨e14, q15, hrun⟩ := bd hrun
  refine lp_ind (P := fun s => kp_X11_seatingNow_4   h X s) (K := fun e => ke_X11_seatingNow_4   h X e) (fun s q hb Ks Ke => wb_X11_seatingNow_4 C    s.1 s.2 h q hb Ks Ke) FU ((0 : Int32), (0 : Int32)) e14 q15 ?_
  show G X h 0 0 83 [(1, .int e14)] []
  refine g_iload_n C (dat dt_X11_seatingNow 50 rfl) 0 rfl ?_
  cases hrun
  exact g_iret C K (dat dt_X11_seatingNow 51 rfl)
/-! SteamNationsModel.swapped(II)I -/
def dl_X11_swapped : List (Nat × Instr × Nat) := [(0, .aload_n 0, 1), (1, .getfield 75, 3), (4, .iload_n 1, 1), (5, .iaload, 1), (6, .istore_n 3, 1), (7, .aload_n 0, 1), (8, .getfield 75, 3), (11, .iload_n 2, 1), (12, .iaload, 1), (13, .istore 4, 2), (15, .aload_n 0, 1), (16, .iload_n 3, 1), (17, .invokevirtual 150, 3), (20, .aload_n 0, 1), (21, .iload 4, 2), (23, .invokevirtual 150, 3), (26, .invokestatic 169, 3), (29, .ifCond .ne 5, 3), (32, .iconst (-1), 1), (33, .ireturn, 1), (34, .aload_n 0, 1), (35, .iload_n 3, 1), (36, .iload 4, 2), (38, .invokevirtual 418, 3), (41, .aload_n 0, 1), (42, .invokevirtual 421, 3), (45, .istore 5, 2), (47, .aload_n 0, 1), (48, .iload_n 3, 1), (49, .iload 4, 2), (51, .invokevirtual 418, 3), (54, .iload 5, 2), (56, .ireturn, 1)]
set_option maxRecDepth 20000 in
theorem dt_X11_swapped : ∀ q ∈ dl_X11_swapped, decode prog_13_method_104_code q.1 = .ok q.2 := by decide +kernel
def f_X11_swapped (x1 : Int32) (x2 : Int32) (h : Hp) : Option (Int32 × Hp) :=
  (inb x1 6).bind fun j1 =>
  (inb x2 6).bind fun j3 =>
  (f_X11_seatOf (aI h 97 j1) h).bind fun v5 =>
  (f_X11_seatOf (aI h 97 j3) h).bind fun v7 =>
  (f_X11_areBeside v5 v7).bind fun v9 =>
  if v9 = true then
  (f_X11_swapsTwo (aI h 97 j1) (aI h 97 j3) h).bind fun v12 =>
  (f_X11_seatingNow  v12.2).bind fun v14 =>
  (f_X11_swapsTwo (aI h 97 j1) (aI h 97 j3) v12.2).bind fun v16 =>
  some (v14, v16.2)
  else
  some ((-1 : Int32), h)
set_option maxRecDepth 20000 in
theorem w_X11_swapped (x1 : Int32) (x2 : Int32) (h : Hp) (q : (Int32 × Hp))  (hrun : f_X11_swapped x1 x2 h = some q) : MetA ⟨"SteamNationsModel", "swapped", "(II)I"⟩ prog_13_method_104_code 6 (some .int) 3 0 0 [.ref 81, .int x1, .int x2] h (some (.int q.1)) q.2 := by
  refine metA_of (by decide) (Nat.le_of_ble_eq_true rfl) (fun X C K => ?_)
  have C : Cx X cn_11 prog_13_method_104_code 6 (some .int) 3 0 0 := C
  show G X h 0 0 0 [(0, .ref 81), (1, .int x1), (2, .int x2)] []
  unfold f_X11_swapped at hrun
  refine g_aload_n C (dat dt_X11_swapped 0 rfl) 0 rfl ?_
  refine g_getR C (dat dt_X11_swapped 1 rfl) fl_11_75 kd_81 rfl ltk_81 ?_
  refine g_iload_n C (dat dt_X11_swapped 2 rfl) 1 rfl ?_
  obtain ⟨j1, q2, hrun⟩ := bd hrun
  refine g_iald C (dat dt_X11_swapped 3 rfl) kd_97 ltk_97 q2 ?_
  refine g_istore_n (lv' := [(0, .ref 81), (1, .int x1), (2, .int x2), (3, .int (aI h 97 j1))]) C (dat dt_X11_swapped 4 rfl) (by decide) rfl ?_
  refine g_aload_n C (dat dt_X11_swapped 5 rfl) 0 rfl ?_
  refine g_getR C (dat dt_X11_swapped 6 rfl) fl_11_75 kd_81 rfl ltk_81 ?_
  refine g_iload_n C (dat dt_X11_swapped 7 rfl) 2 rfl ?_
  obtain ⟨j3, q4, hrun⟩ := bd hrun
  refine g_iald C (dat dt_X11_swapped 8 rfl) kd_97 ltk_97 q4 ?_
  refine g_istore (lv' := [(0, .ref 81), (1, .int x1), (2, .int x2), (3, .int (aI h 97 j1)), (4, .int (aI h 97 j3))]) C (dat dt_X11_swapped 9 rfl) (by decide) rfl ?_
  refine g_aload_n C (dat dt_X11_swapped 10 rfl) 0 rfl ?_
  refine g_iload_n C (dat dt_X11_swapped 11 rfl) 3 rfl ?_
  obtain ⟨v5, q6, hrun⟩ := bd hrun
  refine g_cVi [.int (aI h 97 j1)] C (dat dt_X11_swapped 12 rfl) ml_11_150 (w_X11_seatOf (aI h 97 j1) h v5  q6) kd_81 ltk_81 rfl rfl cat0 (by decide) c00 ?_
  refine g_aload_n C (dat dt_X11_swapped 13 rfl) 0 rfl ?_
  refine g_iload C (dat dt_X11_swapped 14 rfl) 4 rfl ?_
  obtain ⟨v7, q8, hrun⟩ := bd hrun
  refine g_cVi [.int (aI h 97 j3)] C (dat dt_X11_swapped 15 rfl) ml_11_150 (w_X11_seatOf (aI h 97 j3) h v7  q8) kd_81 ltk_81 rfl rfl (Nat.le_of_ble_eq_true rfl) (by decide) c00 ?_
  obtain ⟨v9, q10, hrun⟩ := bd hrun
  refine g_cSi [.int v5, .int v7] C (dat dt_X11_swapped 16 rfl) ml_11_169 (w_X11_areBeside v5 v7 h v9  q10) rfl rfl cat0 (by decide) c00 ?_
  refine g_if_ne 34 C (dat dt_X11_swapped 17 rfl) (by decide) (fun c11 => ?_) (fun c11 => ?_)
  · rw [if_pos (b2i_nz c11)] at hrun
    refine g_aload_n C (dat dt_X11_swapped 20 rfl) 0 rfl ?_
    refine g_iload_n C (dat dt_X11_swapped 21 rfl) 3 rfl ?_
    refine g_iload C (dat dt_X11_swapped 22 rfl) 4 rfl ?_
    obtain ⟨v12, q13, hrun⟩ := bd hrun
    refine g_cVv [.int (aI h 97 j1), .int (aI h 97 j3)] C (dat dt_X11_swapped 23 rfl) ml_11_418 (w_X11_swapsTwo (aI h 97 j1) (aI h 97 j3) h v12  q13) kd_81 ltk_81 rfl rfl cat0 (by decide) c00 ?_
    refine g_aload_n C (dat dt_X11_swapped 24 rfl) 0 rfl ?_
    obtain ⟨v14, q15, hrun⟩ := bd hrun
    refine g_cVi [] C (dat dt_X11_swapped 25 rfl) ml_11_421 (w_X11_seatingNow  v12.2 v14  q15) kd_81 ltk_81 rfl rfl cat0 (by decide) c00 ?_
    refine g_istore (lv' := [(0, .ref 81), (1, .int x1), (2, .int x2), (3, .int (aI h 97 j1)), (4, .int (aI h 97 j3)), (5, .int v14)]) C (dat dt_X11_swapped 26 rfl) (by decide) rfl ?_
    refine g_aload_n C (dat dt_X11_swapped 27 rfl) 0 rfl ?_
    refine g_iload_n C (dat dt_X11_swapped 28 rfl) 3 rfl ?_
    refine g_iload C (dat dt_X11_swapped 29 rfl) 4 rfl ?_
    obtain ⟨v16, q17, hrun⟩ := bd hrun
    refine g_cVv [.int (aI h 97 j1), .int (aI h 97 j3)] C (dat dt_X11_swapped 30 rfl) ml_11_418 (w_X11_swapsTwo (aI h 97 j1) (aI h 97 j3) v12.2 v16  q17) kd_81 ltk_81 rfl rfl cat0 (by decide) c00 ?_
    refine g_iload C (dat dt_X11_swapped 31 rfl) 5 rfl ?_
    cases hrun
    exact g_iret C K (dat dt_X11_swapped 32 rfl)
  · rw [if_neg (b2i_z c11)] at hrun
    refine g_iconst C (dat dt_X11_swapped 18 rfl) ic_m1 ?_
    cases hrun
    exact g_iret C K (dat dt_X11_swapped 19 rfl)
/-! SteamNationsModel.laysSwaps(I)V -/
def dl_X11_laysSwaps : List (Nat × Instr × Nat) := [(0, .iconst 0, 1), (1, .istore_n 2, 1), (2, .iconst 0, 1), (3, .istore_n 3, 1), (4, .iload_n 3, 1), (5, .aload_n 0, 1), (6, .getfield 400, 3), (9, .if_icmp .ge 53, 3), (12, .aload_n 0, 1), (13, .getfield 84, 3), (16, .iload_n 3, 1), (17, .aload_n 0, 1), (18, .getfield 81, 3), (21, .iload_n 3, 1), (22, .iaload, 1), (23, .iload_n 1, 1), (24, .if_icmp .ne 7, 3), (27, .iconst 0, 1), (28, .goto 5, 3), (31, .ldc 200, 2), (33, .iastore, 1), (34, .aload_n 0, 1), (35, .getfield 84, 3), (38, .iload_n 3, 1), (39, .iaload, 1), (40, .ifCond .le 6, 3), (43, .goto 13, 3), (46, .aload_n 0, 1), (47, .getfield 87, 3), (50, .iload_n 2, 1), (51, .iload_n 3, 1), (52, .iastore, 1), (53, .iinc 2 1, 3), (56, .iinc 3 1, 3), (59, .goto (-55), 3), (62, .iconst 0, 1), (63, .istore_n 3, 1), (64, .iload_n 3, 1), (65, .iload_n 2, 1), (66, .if_icmp .ge 120, 3), (69, .aload_n 0, 1), (70, .aload_n 0, 1), (71, .getfield 87, 3), (74, .iload_n 3, 1), (75, .iaload, 1), (76, .invokevirtual 409, 3), (79, .iconst 0, 1), (80, .istore 4, 2), (82, .iload 4, 2), (84, .aload_n 0, 1), (85, .getfield 397, 3), (88, .if_icmp .ge 92, 3), (91, .iload 4, 2), (93, .iconst 1, 1), (94, .iadd, 1), (95, .istore 5, 2), (97, .iload 5, 2), (99, .aload_n 0, 1), (100, .getfield 397, 3), (103, .if_icmp .ge 71, 3), (106, .aload_n 0, 1), (107, .iload 4, 2), (109, .iload 5, 2), (111, .invokevirtual 424, 3), (114, .istore 6, 2), (116, .iload 6, 2), (118, .iconst (-1), 1), (119, .if_icmp .eq 49, 3), (122, .aload_n 0, 1), (123, .getfield 84, 3), (126, .iload 6, 2), (128, .iaload, 1), (129, .ldc 200, 2), (131, .if_icmp .ge 6, 3), (134, .goto 34, 3), (137, .aload_n 0, 1), (138, .getfield 84, 3), (141, .iload 6, 2), (143, .aload_n 0, 1), (144, .getfield 84, 3), (147, .aload_n 0, 1), (148, .getfield 87, 3), (151, .iload_n 3, 1), (152, .iaload, 1), (153, .iaload, 1), (154, .iconst 1, 1), (155, .iadd, 1), (156, .iastore, 1), (157, .aload_n 0, 1), (158, .getfield 87, 3), (161, .iload_n 2, 1), (162, .iload 6, 2), (164, .iastore, 1), (165, .iinc 2 1, 3), (168, .iinc 5 1, 3), (171, .goto (-74), 3), (174, .iinc 4 1, 3), (177, .goto (-95), 3), (180, .iinc 3 1, 3), (183, .goto (-119), 3), (186, .aload_n 0, 1), (187, .iconst 0, 1), (188, .invokevirtual 391, 3), (191, .return_, 1)]
set_option maxRecDepth 20000 in
theorem dt_X11_laysSwaps : ∀ q ∈ dl_X11_laysSwaps, decode prog_13_method_105_code q.1 = .ok q.2 := by decide +kernel
def kp_X11_laysSwaps_4  (x1 : Int32) (X : Xt) (s : (Int32 × Int32 × Hp)) : Prop := G X s.2.2 0 0 4 [(0, .ref 81), (1, .int x1), (2, .int s.1), (3, .int s.2.1)] []
def ke_X11_laysSwaps_4  (x1 : Int32) (X : Xt) (e : (Int32 × Hp)) : Prop := G X e.2 0 0 62 [(0, .ref 81), (2, .int e.1)] []
def j_X11_laysSwaps_33_4  (x1 : Int32) (x2 : Int32) (x3 : Int32) (s1 : Int32) (s2 : Int32) (h : Hp) : Option ((Int32 × Int32 × Hp) ⊕ (Int32 × Hp)) :=
  (inb s1 720).bind fun j5 =>
  (inb x3 720).bind fun j7 =>
  if (aI (sA h 100 j5 s2) 100 j7) ≤ 0 then
  (inb x2 720).bind fun j10 =>
  some (.inl ((x2 + (1 : Int32)), (x3 + (1 : Int32)), (sA (sA h 100 j5 s2) 101 j10 x3)))
  else
  some (.inl (x2, (x3 + (1 : Int32)), (sA h 100 j5 s2)))
set_option maxRecDepth 20000 in
theorem wj_X11_laysSwaps_33_4 {X : Xt} (C : Cx X cn_11 prog_13_method_105_code 7 none 4 0 0)    (x1 : Int32) (x2 : Int32) (x3 : Int32) (s1 : Int32) (s2 : Int32) (h : Hp) (q : (Int32 × Int32 × Hp) ⊕ (Int32 × Hp)) (hrun : j_X11_laysSwaps_33_4  x1 x2 x3 s1 s2 h = some q) (Ks : ∀ s, q = .inl s → kp_X11_laysSwaps_4  x1 X s) (Ke : ∀ e, q = .inr e → ke_X11_laysSwaps_4  x1 X e) : G X h 0 0 33 [(0, .ref 81), (1, .int x1), (2, .int x2), (3, .int x3)] [.int s2, .int s1, .ref 100] := by
  unfold j_X11_laysSwaps_33_4 at hrun
  obtain ⟨j5, q6, hrun⟩ := bd hrun
  refine g_iast (j := j5) C (dat dt_X11_laysSwaps 20 rfl) kd_100 ltk_100 q6  ?_
  refine g_aload_n C (dat dt_X11_laysSwaps 21 rfl) 0 rfl ?_
  refine g_getR C (dat dt_X11_laysSwaps 22 rfl) fl_11_84 kd_81 rfl ltk_81 ?_
  refine g_iload_n C (dat dt_X11_laysSwaps 23 rfl) 3 rfl ?_
  obtain ⟨j7, q8, hrun⟩ := bd hrun
  refine g_iald C (dat dt_X11_laysSwaps 24 rfl) kd_100 ltk_100 q8 ?_
  refine g_if_le 46 C (dat dt_X11_laysSwaps 25 rfl) (by decide) (fun c9 => ?_) (fun c9 => ?_)
  · rw [if_pos c9] at hrun
    refine g_aload_n C (dat dt_X11_laysSwaps 27 rfl) 0 rfl ?_
    refine g_getR C (dat dt_X11_laysSwaps 28 rfl) fl_11_87 kd_81 rfl ltk_81 ?_
    refine g_iload_n C (dat dt_X11_laysSwaps 29 rfl) 2 rfl ?_
    refine g_iload_n C (dat dt_X11_laysSwaps 30 rfl) 3 rfl ?_
    obtain ⟨j10, q11, hrun⟩ := bd hrun
    refine g_iast (j := j10) C (dat dt_X11_laysSwaps 31 rfl) kd_101 ltk_101 q11  ?_
    refine g_iinc (v := (x2 + (1 : Int32))) (lv' := [(0, .ref 81), (1, .int x1), (2, .int (x2 + (1 : Int32))), (3, .int x3)]) C (dat dt_X11_laysSwaps 32 rfl) 2 rfl (congrArg (fun z => x2 + z) ic_1) (by decide) rfl ?_
    refine g_iinc (v := (x3 + (1 : Int32))) (lv' := [(0, .ref 81), (1, .int x1), (2, .int (x2 + (1 : Int32))), (3, .int (x3 + (1 : Int32)))]) C (dat dt_X11_laysSwaps 33 rfl) 3 rfl (congrArg (fun z => x3 + z) ic_1) (by decide) rfl ?_
    refine g_goto 4 C (dat dt_X11_laysSwaps 34 rfl) (by decide) ?_
    cases hrun
    exact Ks ((x2 + (1 : Int32)), (x3 + (1 : Int32)), (sA (sA h 100 j5 s2) 101 j10 x3)) rfl
  · rw [if_neg c9] at hrun
    refine g_goto 56 C (dat dt_X11_laysSwaps 26 rfl) (by decide) ?_
    refine g_iinc (v := (x3 + (1 : Int32))) (lv' := [(0, .ref 81), (1, .int x1), (2, .int x2), (3, .int (x3 + (1 : Int32)))]) C (dat dt_X11_laysSwaps 33 rfl) 3 rfl (congrArg (fun z => x3 + z) ic_1) (by decide) rfl ?_
    refine g_goto 4 C (dat dt_X11_laysSwaps 34 rfl) (by decide) ?_
    cases hrun
    exact Ks (x2, (x3 + (1 : Int32)), (sA h 100 j5 s2)) rfl
def b_X11_laysSwaps_4  (x1 : Int32) (x2 : Int32) (x3 : Int32) (h : Hp) : Option ((Int32 × Int32 × Hp) ⊕ (Int32 × Hp)) :=
  if (fI h 81 36) ≤ x3 then
  some (.inr ( (x2, h)))
  else
  (inb x3 720).bind fun j2 =>
  if (aI h 99 j2) = x1 then
  j_X11_laysSwaps_33_4  x1 x2 x3 x3 (0 : Int32) h
  else
  j_X11_laysSwaps_33_4  x1 x2 x3 x3 (1000000 : Int32) h
set_option maxRecDepth 20000 in
theorem wb_X11_laysSwaps_4 {X : Xt} (C : Cx X cn_11 prog_13_method_105_code 7 none 4 0 0)   (x1 : Int32) (x2 : Int32) (x3 : Int32) (h : Hp) (q : (Int32 × Int32 × Hp) ⊕ (Int32 × Hp)) (hrun : b_X11_laysSwaps_4  x1 x2 x3 h = some q) (Ks : ∀ s, q = .inl s → kp_X11_laysSwaps_4  x1 X s) (Ke : ∀ e, q = .inr e → ke_X11_laysSwaps_4  x1 X e) : kp_X11_laysSwaps_4  x1 X (x2, x3, h) := by
  show G X h 0 0 4 [(0, .ref 81), (1, .int x1), (2, .int x2), (3, .int x3)] []
  unfold b_X11_laysSwaps_4 at hrun
  refine g_iload_n C (dat dt_X11_laysSwaps 4 rfl) 3 rfl ?_
  refine g_aload_n C (dat dt_X11_laysSwaps 5 rfl) 0 rfl ?_
  refine g_getI C (dat dt_X11_laysSwaps 6 rfl) fl_11_400 kd_81 rfl ltk_81 ?_
  refine g_ic_ge 62 C (dat dt_X11_laysSwaps 7 rfl) (by decide) (fun c1 => ?_) (fun c1 => ?_)
  · rw [if_pos c1] at hrun
    refine g_sub [0, 2] (lv' := [(0, .ref 81), (2, .int x2)]) rfl ?_
    cases hrun
    exact Ke ( (x2, h)) rfl
  · rw [if_neg c1] at hrun
    refine g_aload_n C (dat dt_X11_laysSwaps 8 rfl) 0 rfl ?_
    refine g_getR C (dat dt_X11_laysSwaps 9 rfl) fl_11_84 kd_81 rfl ltk_81 ?_
    refine g_iload_n C (dat dt_X11_laysSwaps 10 rfl) 3 rfl ?_
    refine g_aload_n C (dat dt_X11_laysSwaps 11 rfl) 0 rfl ?_
    refine g_getR C (dat dt_X11_laysSwaps 12 rfl) fl_11_81 kd_81 rfl ltk_81 ?_
    refine g_iload_n C (dat dt_X11_laysSwaps 13 rfl) 3 rfl ?_
    obtain ⟨j2, q3, hrun⟩ := bd hrun
    refine g_iald C (dat dt_X11_laysSwaps 14 rfl) kd_99 ltk_99 q3 ?_
    refine g_iload_n C (dat dt_X11_laysSwaps 15 rfl) 1 rfl ?_
    refine g_ic_ne 31 C (dat dt_X11_laysSwaps 16 rfl) (by decide) (fun c4 => ?_) (fun c4 => ?_)
    · rw [if_neg c4] at hrun
      refine g_ldc C (dat dt_X11_laysSwaps 19 rfl) kc_11_200 ?_
      exact wj_X11_laysSwaps_33_4 C    x1 x2 x3 x3 (1000000 : Int32) h _ hrun Ks Ke
    · rw [if_pos c4] at hrun
      refine g_iconst C (dat dt_X11_laysSwaps 17 rfl) ic_0 ?_
      refine g_goto 33 C (dat dt_X11_laysSwaps 18 rfl) (by decide) ?_
      exact wj_X11_laysSwaps_33_4 C    x1 x2 x3 x3 (0 : Int32) h _ hrun Ks Ke
def kp_X11_laysSwaps_64   (X : Xt) (s : (Int32 × Int32 × Hp)) : Prop := G X s.2.2 0 0 64 [(0, .ref 81), (2, .int s.1), (3, .int s.2.1)] []
def ke_X11_laysSwaps_64   (X : Xt) (e : Hp) : Prop := G X e 0 0 186 [(0, .ref 81)] []
def kp_X11_laysSwaps_82_64  (x3 : Int32) (X : Xt) (s : (Int32 × Int32 × Hp)) : Prop := G X s.2.2 0 0 82 [(0, .ref 81), (2, .int s.1), (3, .int x3), (4, .int s.2.1)] []
def ke_X11_laysSwaps_82_64  (x3 : Int32) (X : Xt) (e : (Int32 × Hp)) : Prop := G X e.2 0 0 180 [(0, .ref 81), (2, .int e.1), (3, .int x3)] []
def kp_X11_laysSwaps_97_82  (x3 : Int32) (x4 : Int32) (X : Xt) (s : (Int32 × Int32 × Hp)) : Prop := G X s.2.2 0 0 97 [(0, .ref 81), (2, .int s.1), (3, .int x3), (4, .int x4), (5, .int s.2.1)] []
def ke_X11_laysSwaps_97_82  (x3 : Int32) (x4 : Int32) (X : Xt) (e : (Int32 × Hp)) : Prop := G X e.2 0 0 174 [(0, .ref 81), (2, .int e.1), (3, .int x3), (4, .int x4)] []
def b_X11_laysSwaps_97_82  (x3 : Int32) (x4 : Int32) (x2 : Int32) (x5 : Int32) (h : Hp) : Option ((Int32 × Int32 × Hp) ⊕ (Int32 × Hp)) :=
  if (fI h 81 35) ≤ x5 then
  some (.inr ( (x2, h)))
  else
  (f_X11_swapped x4 x5 h).bind fun v21 =>
  if v21.1 = (-1 : Int32) then
  some (.inl (x2, (x5 + (1 : Int32)), v21.2))
  else
  (inb v21.1 720).bind fun j24 =>
  if (1000000 : Int32) ≤ (aI v21.2 100 j24) then
  (inb x3 720).bind fun j27 =>
  (inb (aI v21.2 101 j27) 720).bind fun j29 =>
  (inb v21.1 720).bind fun j31 =>
  (inb x2 720).bind fun j33 =>
  some (.inl ((x2 + (1 : Int32)), (x5 + (1 : Int32)), (sA (sA v21.2 100 j31 ((aI v21.2 100 j29) + (1 : Int32))) 101 j33 v21.1)))
  else
  some (.inl (x2, (x5 + (1 : Int32)), v21.2))
set_option maxRecDepth 20000 in
theorem wb_X11_laysSwaps_97_82 {X : Xt} (C : Cx X cn_11 prog_13_method_105_code 7 none 4 0 0)   (x3 : Int32) (x4 : Int32) (x2 : Int32) (x5 : Int32) (h : Hp) (q : (Int32 × Int32 × Hp) ⊕ (Int32 × Hp)) (hrun : b_X11_laysSwaps_97_82  x3 x4 x2 x5 h = some q) (Ks : ∀ s, q = .inl s → kp_X11_laysSwaps_97_82  x3 x4 X s) (Ke : ∀ e, q = .inr e → ke_X11_laysSwaps_97_82  x3 x4 X e) : kp_X11_laysSwaps_97_82  x3 x4 X (x2, x5, h) := by
  show G X h 0 0 97 [(0, .ref 81), (2, .int x2), (3, .int x3), (4, .int x4), (5, .int x5)] []
  unfold b_X11_laysSwaps_97_82 at hrun
  refine g_iload C (dat dt_X11_laysSwaps 56 rfl) 4 rfl ?_
  refine g_aload_n C (dat dt_X11_laysSwaps 57 rfl) 0 rfl ?_
  refine g_getI C (dat dt_X11_laysSwaps 58 rfl) fl_11_397 kd_81 rfl ltk_81 ?_
  refine g_ic_ge 174 C (dat dt_X11_laysSwaps 59 rfl) (by decide) (fun c20 => ?_) (fun c20 => ?_)
  · rw [if_pos c20] at hrun
    refine g_sub [0, 1, 2, 3] (lv' := [(0, .ref 81), (2, .int x2), (3, .int x3), (4, .int x4)]) rfl ?_
    cases hrun
    exact Ke ( (x2, h)) rfl
  · rw [if_neg c20] at hrun
    refine g_aload_n C (dat dt_X11_laysSwaps 60 rfl) 0 rfl ?_
    refine g_iload C (dat dt_X11_laysSwaps 61 rfl) 3 rfl ?_
    refine g_iload C (dat dt_X11_laysSwaps 62 rfl) 4 rfl ?_
    obtain ⟨v21, q22, hrun⟩ := bd hrun
    refine g_cVi [.int x4, .int x5] C (dat dt_X11_laysSwaps 63 rfl) ml_11_424 (w_X11_swapped x4 x5 h v21  q22) kd_81 ltk_81 rfl rfl cat0 (by decide) c00 ?_
    refine g_istore (lv' := [(0, .ref 81), (2, .int x2), (3, .int x3), (4, .int x4), (5, .int x5), (6, .int v21.1)]) C (dat dt_X11_laysSwaps 64 rfl) (by decide) rfl ?_
    refine g_iload C (dat dt_X11_laysSwaps 65 rfl) 5 rfl ?_
    refine g_iconst C (dat dt_X11_laysSwaps 66 rfl) ic_m1 ?_
    refine g_ic_eq 168 C (dat dt_X11_laysSwaps 67 rfl) (by decide) (fun c23 => ?_) (fun c23 => ?_)
    · rw [if_pos c23] at hrun
      refine g_iinc (v := (x5 + (1 : Int32))) (lv' := [(0, .ref 81), (2, .int x2), (3, .int x3), (4, .int x4), (5, .int (x5 + (1 : Int32))), (6, .int v21.1)]) C (dat dt_X11_laysSwaps 94 rfl) 4 rfl (congrArg (fun z => x5 + z) ic_1) (by decide) rfl ?_
      refine g_goto 97 C (dat dt_X11_laysSwaps 95 rfl) (by decide) ?_
      refine g_sub [0, 1, 2, 3, 4] (lv' := [(0, .ref 81), (2, .int x2), (3, .int x3), (4, .int x4), (5, .int (x5 + (1 : Int32)))]) rfl ?_
      cases hrun
      exact Ks (x2, (x5 + (1 : Int32)), v21.2) rfl
    · rw [if_neg c23] at hrun
      refine g_aload_n C (dat dt_X11_laysSwaps 68 rfl) 0 rfl ?_
      refine g_getR C (dat dt_X11_laysSwaps 69 rfl) fl_11_84 kd_81 rfl ltk_81 ?_
      refine g_iload C (dat dt_X11_laysSwaps 70 rfl) 5 rfl ?_
      obtain ⟨j24, q25, hrun⟩ := bd hrun
      refine g_iald C (dat dt_X11_laysSwaps 71 rfl) kd_100 ltk_100 q25 ?_
      refine g_ldc C (dat dt_X11_laysSwaps 72 rfl) kc_11_200 ?_
      refine g_ic_ge 137 C (dat dt_X11_laysSwaps 73 rfl) (by decide) (fun c26 => ?_) (fun c26 => ?_)
      · rw [if_pos c26] at hrun
        refine g_aload_n C (dat dt_X11_laysSwaps 75 rfl) 0 rfl ?_
        refine g_getR C (dat dt_X11_laysSwaps 76 rfl) fl_11_84 kd_81 rfl ltk_81 ?_
        refine g_iload C (dat dt_X11_laysSwaps 77 rfl) 5 rfl ?_
        refine g_aload_n C (dat dt_X11_laysSwaps 78 rfl) 0 rfl ?_
        refine g_getR C (dat dt_X11_laysSwaps 79 rfl) fl_11_84 kd_81 rfl ltk_81 ?_
        refine g_aload_n C (dat dt_X11_laysSwaps 80 rfl) 0 rfl ?_
        refine g_getR C (dat dt_X11_laysSwaps 81 rfl) fl_11_87 kd_81 rfl ltk_81 ?_
        refine g_iload_n C (dat dt_X11_laysSwaps 82 rfl) 2 rfl ?_
        obtain ⟨j27, q28, hrun⟩ := bd hrun
        refine g_iald C (dat dt_X11_laysSwaps 83 rfl) kd_101 ltk_101 q28 ?_
        obtain ⟨j29, q30, hrun⟩ := bd hrun
        refine g_iald C (dat dt_X11_laysSwaps 84 rfl) kd_100 ltk_100 q30 ?_
        refine g_iconst C (dat dt_X11_laysSwaps 85 rfl) ic_1 ?_
        refine g_iadd C (dat dt_X11_laysSwaps 86 rfl) ?_
        obtain ⟨j31, q32, hrun⟩ := bd hrun
        refine g_iast (j := j31) C (dat dt_X11_laysSwaps 87 rfl) kd_100 ltk_100 q32  ?_
        refine g_aload_n C (dat dt_X11_laysSwaps 88 rfl) 0 rfl ?_
        refine g_getR C (dat dt_X11_laysSwaps 89 rfl) fl_11_87 kd_81 rfl ltk_81 ?_
        refine g_iload_n C (dat dt_X11_laysSwaps 90 rfl) 1 rfl ?_
        refine g_iload C (dat dt_X11_laysSwaps 91 rfl) 5 rfl ?_
        obtain ⟨j33, q34, hrun⟩ := bd hrun
        refine g_iast (j := j33) C (dat dt_X11_laysSwaps 92 rfl) kd_101 ltk_101 q34  ?_
        refine g_iinc (v := (x2 + (1 : Int32))) (lv' := [(0, .ref 81), (2, .int (x2 + (1 : Int32))), (3, .int x3), (4, .int x4), (5, .int x5), (6, .int v21.1)]) C (dat dt_X11_laysSwaps 93 rfl) 1 rfl (congrArg (fun z => x2 + z) ic_1) (by decide) rfl ?_
        refine g_iinc (v := (x5 + (1 : Int32))) (lv' := [(0, .ref 81), (2, .int (x2 + (1 : Int32))), (3, .int x3), (4, .int x4), (5, .int (x5 + (1 : Int32))), (6, .int v21.1)]) C (dat dt_X11_laysSwaps 94 rfl) 4 rfl (congrArg (fun z => x5 + z) ic_1) (by decide) rfl ?_
        refine g_goto 97 C (dat dt_X11_laysSwaps 95 rfl) (by decide) ?_
        refine g_sub [0, 1, 2, 3, 4] (lv' := [(0, .ref 81), (2, .int (x2 + (1 : Int32))), (3, .int x3), (4, .int x4), (5, .int (x5 + (1 : Int32)))]) rfl ?_
        cases hrun
        exact Ks ((x2 + (1 : Int32)), (x5 + (1 : Int32)), (sA (sA v21.2 100 j31 ((aI v21.2 100 j29) + (1 : Int32))) 101 j33 v21.1)) rfl
      · rw [if_neg c26] at hrun
        refine g_goto 168 C (dat dt_X11_laysSwaps 74 rfl) (by decide) ?_
        refine g_iinc (v := (x5 + (1 : Int32))) (lv' := [(0, .ref 81), (2, .int x2), (3, .int x3), (4, .int x4), (5, .int (x5 + (1 : Int32))), (6, .int v21.1)]) C (dat dt_X11_laysSwaps 94 rfl) 4 rfl (congrArg (fun z => x5 + z) ic_1) (by decide) rfl ?_
        refine g_goto 97 C (dat dt_X11_laysSwaps 95 rfl) (by decide) ?_
        refine g_sub [0, 1, 2, 3, 4] (lv' := [(0, .ref 81), (2, .int x2), (3, .int x3), (4, .int x4), (5, .int (x5 + (1 : Int32)))]) rfl ?_
        cases hrun
        exact Ks (x2, (x5 + (1 : Int32)), v21.2) rfl
def b_X11_laysSwaps_82_64  (x3 : Int32) (x2 : Int32) (x4 : Int32) (h : Hp) : Option ((Int32 × Int32 × Hp) ⊕ (Int32 × Hp)) :=
  if (fI h 81 35) ≤ x4 then
  some (.inr ( (x2, h)))
  else
  (lp (fun s => b_X11_laysSwaps_97_82  x3 x4 s.1 s.2.1 s.2.2) FU (x2, (x4 + (1 : Int32)), h)).bind fun e35 =>
  some (.inl (e35.1, (x4 + (1 : Int32)), e35.2))
set_option maxRecDepth 20000 in
theorem wb_X11_laysSwaps_82_64 {X : Xt} (C : Cx X cn_11 prog_13_method_105_code 7 none 4 0 0)   (x3 : Int32) (x2 : Int32) (x4 : Int32) (h : Hp) (q : (Int32 × Int32 × Hp) ⊕ (Int32 × Hp)) (hrun : b_X11_laysSwaps_82_64  x3 x2 x4 h = some q) (Ks : ∀ s, q = .inl s → kp_X11_laysSwaps_82_64  x3 X s) (Ke : ∀ e, q = .inr e → ke_X11_laysSwaps_82_64  x3 X e) : kp_X11_laysSwaps_82_64  x3 X (x2, x4, h) := by
  show G X h 0 0 82 [(0, .ref 81), (2, .int x2), (3, .int x3), (4, .int x4)] []
  unfold b_X11_laysSwaps_82_64 at hrun
  refine g_iload C (dat dt_X11_laysSwaps 48 rfl) 3 rfl ?_
  refine g_aload_n C (dat dt_X11_laysSwaps 49 rfl) 0 rfl ?_
  refine g_getI C (dat dt_X11_laysSwaps 50 rfl) fl_11_397 kd_81 rfl ltk_81 ?_
  refine g_ic_ge 180 C (dat dt_X11_laysSwaps 51 rfl) (by decide) (fun c19 => ?_) (fun c19 => ?_)
  · rw [if_pos c19] at hrun
    refine g_sub [0, 1, 2] (lv' := [(0, .ref 81), (2, .int x2), (3, .int x3)]) rfl ?_
    cases hrun
    exact Ke ( (x2, h)) rfl
  · rw [if_neg c19] at hrun
    refine g_iload C (dat dt_X11_laysSwaps 52 rfl) 3 rfl ?_
    refine g_iconst C (dat dt_X11_laysSwaps 53 rfl) ic_1 ?_
    refine g_iadd C (dat dt_X11_laysSwaps 54 rfl) ?_
    refine g_istore (lv' := [(0, .ref 81), (2, .int x2), (3, .int x3), (4, .int x4), (5, .int (x4 + (1 : Int32)))]) C (dat dt_X11_laysSwaps 55 rfl) (by decide) rfl ?_
    obtain ⟨e35, q36, hrun⟩ := bd hrun
    refine lp_ind (P := fun s => kp_X11_laysSwaps_97_82  x3 x4 X s) (K := fun e => ke_X11_laysSwaps_97_82  x3 x4 X e) (fun s q hb Ks Ke => wb_X11_laysSwaps_97_82 C   x3 x4 s.1 s.2.1 s.2.2 q hb Ks Ke) FU (x2, (x4 + (1 : Int32)), h) e35 q36 ?_
    show G X e35.2 0 0 174 [(0, .ref 81), (2, .int e35.1), (3, .int x3), (4, .int x4)] []
    refine g_iinc (v := (x4 + (1 : Int32))) (lv' := [(0, .ref 81), (2, .int e35.1), (3, .int x3), (4, .int (x4 + (1 : Int32)))]) C (dat dt_X11_laysSwaps 96 rfl) 3 rfl (congrArg (fun z => x4 + z) ic_1) (by decide) rfl ?_
    refine g_goto 82 C (dat dt_X11_laysSwaps 97 rfl) (by decide) ?_
    cases hrun
    exact Ks (e35.1, (x4 + (1 : Int32)), e35.2) rfl
def b_X11_laysSwaps_64   (x2 : Int32) (x3 : Int32) (h : Hp) : Option ((Int32 × Int32 × Hp) ⊕ Hp) :=
  if x2 ≤ x3 then
  some (.inr ( h))
  else
  (inb x3 720).bind fun j15 =>
  (f_X11_seatsAll (aI h 101 j15) h).bind fun v17 =>
  (lp (fun s => b_X11_laysSwaps_82_64  x3 s.1 s.2.1 s.2.2) FU (x2, (0 : Int32), v17.2)).bind fun e37 =>
  some (.inl (e37.1, (x3 + (1 : Int32)), e37.2))
set_option maxRecDepth 20000 in
theorem wb_X11_laysSwaps_64 {X : Xt} (C : Cx X cn_11 prog_13_method_105_code 7 none 4 0 0)    (x2 : Int32) (x3 : Int32) (h : Hp) (q : (Int32 × Int32 × Hp) ⊕ Hp) (hrun : b_X11_laysSwaps_64   x2 x3 h = some q) (Ks : ∀ s, q = .inl s → kp_X11_laysSwaps_64   X s) (Ke : ∀ e, q = .inr e → ke_X11_laysSwaps_64   X e) : kp_X11_laysSwaps_64   X (x2, x3, h) := by
  show G X h 0 0 64 [(0, .ref 81), (2, .int x2), (3, .int x3)] []
  unfold b_X11_laysSwaps_64 at hrun
  refine g_iload_n C (dat dt_X11_laysSwaps 37 rfl) 2 rfl ?_
  refine g_iload_n C (dat dt_X11_laysSwaps 38 rfl) 1 rfl ?_
  refine g_ic_ge 186 C (dat dt_X11_laysSwaps 39 rfl) (by decide) (fun c14 => ?_) (fun c14 => ?_)
  · rw [if_pos c14] at hrun
    refine g_sub [0] (lv' := [(0, .ref 81)]) rfl ?_
    cases hrun
    exact Ke ( h) rfl
  · rw [if_neg c14] at hrun
    refine g_aload_n C (dat dt_X11_laysSwaps 40 rfl) 0 rfl ?_
    refine g_aload_n C (dat dt_X11_laysSwaps 41 rfl) 0 rfl ?_
    refine g_getR C (dat dt_X11_laysSwaps 42 rfl) fl_11_87 kd_81 rfl ltk_81 ?_
    refine g_iload_n C (dat dt_X11_laysSwaps 43 rfl) 2 rfl ?_
    obtain ⟨j15, q16, hrun⟩ := bd hrun
    refine g_iald C (dat dt_X11_laysSwaps 44 rfl) kd_101 ltk_101 q16 ?_
    obtain ⟨v17, q18, hrun⟩ := bd hrun
    refine g_cVv [.int (aI h 101 j15)] C (dat dt_X11_laysSwaps 45 rfl) ml_11_409 (w_X11_seatsAll (aI h 101 j15) h v17  q18) kd_81 ltk_81 rfl rfl cat0 (by decide) c00 ?_
    refine g_iconst C (dat dt_X11_laysSwaps 46 rfl) ic_0 ?_
    refine g_istore (lv' := [(0, .ref 81), (2, .int x2), (3, .int x3), (4, .int (0 : Int32))]) C (dat dt_X11_laysSwaps 47 rfl) (by decide) rfl ?_
    obtain ⟨e37, q38, hrun⟩ := bd hrun
    refine lp_ind (P := fun s => kp_X11_laysSwaps_82_64  x3 X s) (K := fun e => ke_X11_laysSwaps_82_64  x3 X e) (fun s q hb Ks Ke => wb_X11_laysSwaps_82_64 C   x3 s.1 s.2.1 s.2.2 q hb Ks Ke) FU (x2, (0 : Int32), v17.2) e37 q38 ?_
    show G X e37.2 0 0 180 [(0, .ref 81), (2, .int e37.1), (3, .int x3)] []
    refine g_iinc (v := (x3 + (1 : Int32))) (lv' := [(0, .ref 81), (2, .int e37.1), (3, .int (x3 + (1 : Int32)))]) C (dat dt_X11_laysSwaps 98 rfl) 2 rfl (congrArg (fun z => x3 + z) ic_1) (by decide) rfl ?_
    refine g_goto 64 C (dat dt_X11_laysSwaps 99 rfl) (by decide) ?_
    cases hrun
    exact Ks (e37.1, (x3 + (1 : Int32)), e37.2) rfl
def f_X11_laysSwaps (x1 : Int32) (h : Hp) : Option (Unit × Hp) :=
  (lp (fun s => b_X11_laysSwaps_4  x1 s.1 s.2.1 s.2.2) FU ((0 : Int32), (0 : Int32), h)).bind fun e12 =>
  (lp (fun s => b_X11_laysSwaps_64   s.1 s.2.1 s.2.2) FU (e12.1, (0 : Int32), e12.2)).bind fun e39 =>
  (f_X11_takesBack (0 : Int32) e39).bind fun v41 =>
  some ((), v41.2)
set_option maxRecDepth 20000 in
theorem w_X11_laysSwaps (x1 : Int32) (h : Hp) (q : (Unit × Hp))  (hrun : f_X11_laysSwaps x1 h = some q) : MetA ⟨"SteamNationsModel", "laysSwaps", "(I)V"⟩ prog_13_method_105_code 7 none 4 0 0 [.ref 81, .int x1] h none q.2 := by
  refine metA_of (by decide) (Nat.le_of_ble_eq_true rfl) (fun X C K => ?_)
  have C : Cx X cn_11 prog_13_method_105_code 7 none 4 0 0 := C
  show G X h 0 0 0 [(0, .ref 81), (1, .int x1)] []
  unfold f_X11_laysSwaps at hrun
  refine g_iconst C (dat dt_X11_laysSwaps 0 rfl) ic_0 ?_
  refine g_istore_n (lv' := [(0, .ref 81), (1, .int x1), (2, .int (0 : Int32))]) C (dat dt_X11_laysSwaps 1 rfl) (by decide) rfl ?_
  refine g_iconst C (dat dt_X11_laysSwaps 2 rfl) ic_0 ?_
  refine g_istore_n (lv' := [(0, .ref 81), (1, .int x1), (2, .int (0 : Int32)), (3, .int (0 : Int32))]) C (dat dt_X11_laysSwaps 3 rfl) (by decide) rfl ?_
  obtain ⟨e12, q13, hrun⟩ := bd hrun
  refine lp_ind (P := fun s => kp_X11_laysSwaps_4  x1 X s) (K := fun e => ke_X11_laysSwaps_4  x1 X e) (fun s q hb Ks Ke => wb_X11_laysSwaps_4 C   x1 s.1 s.2.1 s.2.2 q hb Ks Ke) FU ((0 : Int32), (0 : Int32), h) e12 q13 ?_
  show G X e12.2 0 0 62 [(0, .ref 81), (2, .int e12.1)] []
  refine g_iconst C (dat dt_X11_laysSwaps 35 rfl) ic_0 ?_
  refine g_istore_n (lv' := [(0, .ref 81), (2, .int e12.1), (3, .int (0 : Int32))]) C (dat dt_X11_laysSwaps 36 rfl) (by decide) rfl ?_
  obtain ⟨e39, q40, hrun⟩ := bd hrun
  refine lp_ind (P := fun s => kp_X11_laysSwaps_64   X s) (K := fun e => ke_X11_laysSwaps_64   X e) (fun s q hb Ks Ke => wb_X11_laysSwaps_64 C    s.1 s.2.1 s.2.2 q hb Ks Ke) FU (e12.1, (0 : Int32), e12.2) e39 q40 ?_
  show G X e39 0 0 186 [(0, .ref 81)] []
  refine g_aload_n C (dat dt_X11_laysSwaps 100 rfl) 0 rfl ?_
  refine g_iconst C (dat dt_X11_laysSwaps 101 rfl) ic_0 ?_
  obtain ⟨v41, q42, hrun⟩ := bd hrun
  refine g_cVv [.int (0 : Int32)] C (dat dt_X11_laysSwaps 102 rfl) ml_11_391 (w_X11_takesBack (0 : Int32) e39 v41  q42) kd_81 ltk_81 rfl rfl cat0 (by decide) c00 ?_
  cases hrun
  exact g_vret C K (dat dt_X11_laysSwaps 103 rfl)
/-! SteamNationsModel.firstTwo(I)I -/
def dl_X11_firstTwo : List (Nat × Instr × Nat) := [(0, .iconst 0, 1), (1, .istore_n 2, 1), (2, .iload_n 2, 1), (3, .aload_n 0, 1), (4, .getfield 397, 3), (7, .if_icmp .ge 71, 3), (10, .iload_n 2, 1), (11, .iconst 1, 1), (12, .iadd, 1), (13, .istore_n 3, 1), (14, .iload_n 3, 1), (15, .aload_n 0, 1), (16, .getfield 397, 3), (19, .if_icmp .ge 53, 3), (22, .aload_n 0, 1), (23, .iload_n 2, 1), (24, .iload_n 3, 1), (25, .invokevirtual 424, 3), (28, .istore 4, 2), (30, .iload 4, 2), (32, .iconst (-1), 1), (33, .if_icmp .eq 33, 3), (36, .aload_n 0, 1), (37, .getfield 84, 3), (40, .iload 4, 2), (42, .iaload, 1), (43, .iload_n 1, 1), (44, .iconst 1, 1), (45, .isub, 1), (46, .if_icmp .ne 20, 3), (49, .bipush 10, 2), (51, .aload_n 0, 1), (52, .getfield 75, 3), (55, .iload_n 2, 1), (56, .iaload, 1), (57, .imul, 1), (58, .aload_n 0, 1), (59, .getfield 75, 3), (62, .iload_n 3, 1), (63, .iaload, 1), (64, .iadd, 1), (65, .ireturn, 1), (66, .iinc 3 1, 3), (69, .goto (-55), 3), (72, .iinc 2 1, 3), (75, .goto (-73), 3), (78, .iconst (-1), 1), (79, .ireturn, 1)]
set_option maxRecDepth 20000 in
theorem dt_X11_firstTwo : ∀ q ∈ dl_X11_firstTwo, decode prog_13_method_106_code q.1 = .ok q.2 := by decide +kernel
def kp_X11_firstTwo_2  (x1 : Int32) (X : Xt) (s : (Int32 × Hp)) : Prop := G X s.2 0 0 2 [(0, .ref 81), (1, .int x1), (2, .int s.1)] []
def ke_X11_firstTwo_2  (x1 : Int32) (X : Xt) (e : (Hp ⊕ (Int32 × Int32 × Hp))) : Prop := match e with
  | .inl e => G X e 0 0 78 [] []
  | .inr (e) => G X e.2.2 0 0 49 [(0, .ref 81), (2, .int e.1), (3, .int e.2.1)] []
def kp_X11_firstTwo_14_2  (x1 : Int32) (x2 : Int32) (X : Xt) (s : (Int32 × Hp)) : Prop := G X s.2 0 0 14 [(0, .ref 81), (1, .int x1), (2, .int x2), (3, .int s.1)] []
def ke_X11_firstTwo_14_2  (x1 : Int32) (x2 : Int32) (X : Xt) (e : (Hp ⊕ (Int32 × Hp))) : Prop := match e with
  | .inl e => G X e 0 0 72 [(0, .ref 81), (1, .int x1), (2, .int x2)] []
  | .inr (e) => G X e.2 0 0 49 [(0, .ref 81), (2, .int x2), (3, .int e.1)] []
def b_X11_firstTwo_14_2  (x1 : Int32) (x2 : Int32) (x3 : Int32) (h : Hp) : Option ((Int32 × Hp) ⊕ (Hp ⊕ (Int32 × Hp))) :=
  if (fI h 81 35) ≤ x3 then
  some (.inr (.inl h))
  else
  (f_X11_swapped x2 x3 h).bind fun v3 =>
  if v3.1 = (-1 : Int32) then
  some (.inl ((x3 + (1 : Int32)), v3.2))
  else
  (inb v3.1 720).bind fun j6 =>
  if (aI v3.2 100 j6) = (x1 - (1 : Int32)) then
  some (.inr (.inr <| id (x3, v3.2)))
  else
  some (.inl ((x3 + (1 : Int32)), v3.2))
set_option maxRecDepth 20000 in
theorem wb_X11_firstTwo_14_2 {X : Xt} (C : Cx X cn_11 prog_13_method_106_code 5 (some .int) 4 0 0)   (x1 : Int32) (x2 : Int32) (x3 : Int32) (h : Hp) (q : (Int32 × Hp) ⊕ (Hp ⊕ (Int32 × Hp))) (hrun : b_X11_firstTwo_14_2  x1 x2 x3 h = some q) (Ks : ∀ s, q = .inl s → kp_X11_firstTwo_14_2  x1 x2 X s) (Ke : ∀ e, q = .inr e → ke_X11_firstTwo_14_2  x1 x2 X e) : kp_X11_firstTwo_14_2  x1 x2 X (x3, h) := by
  show G X h 0 0 14 [(0, .ref 81), (1, .int x1), (2, .int x2), (3, .int x3)] []
  unfold b_X11_firstTwo_14_2 at hrun
  refine g_iload_n C (dat dt_X11_firstTwo 10 rfl) 3 rfl ?_
  refine g_aload_n C (dat dt_X11_firstTwo 11 rfl) 0 rfl ?_
  refine g_getI C (dat dt_X11_firstTwo 12 rfl) fl_11_397 kd_81 rfl ltk_81 ?_
  refine g_ic_ge 72 C (dat dt_X11_firstTwo 13 rfl) (by decide) (fun c2 => ?_) (fun c2 => ?_)
  · rw [if_pos c2] at hrun
    refine g_sub [0, 1, 2] (lv' := [(0, .ref 81), (1, .int x1), (2, .int x2)]) rfl ?_
    cases hrun
    exact Ke (.inl h) rfl
  · rw [if_neg c2] at hrun
    refine g_aload_n C (dat dt_X11_firstTwo 14 rfl) 0 rfl ?_
    refine g_iload_n C (dat dt_X11_firstTwo 15 rfl) 2 rfl ?_
    refine g_iload_n C (dat dt_X11_firstTwo 16 rfl) 3 rfl ?_
    obtain ⟨v3, q4, hrun⟩ := bd hrun
    refine g_cVi [.int x2, .int x3] C (dat dt_X11_firstTwo 17 rfl) ml_11_424 (w_X11_swapped x2 x3 h v3  q4) kd_81 ltk_81 rfl rfl cat0 (by decide) c00 ?_
    refine g_istore (lv' := [(0, .ref 81), (1, .int x1), (2, .int x2), (3, .int x3), (4, .int v3.1)]) C (dat dt_X11_firstTwo 18 rfl) (by decide) rfl ?_
    refine g_iload C (dat dt_X11_firstTwo 19 rfl) 4 rfl ?_
    refine g_iconst C (dat dt_X11_firstTwo 20 rfl) ic_m1 ?_
    refine g_ic_eq 66 C (dat dt_X11_firstTwo 21 rfl) (by decide) (fun c5 => ?_) (fun c5 => ?_)
    · rw [if_pos c5] at hrun
      refine g_iinc (v := (x3 + (1 : Int32))) (lv' := [(0, .ref 81), (1, .int x1), (2, .int x2), (3, .int (x3 + (1 : Int32))), (4, .int v3.1)]) C (dat dt_X11_firstTwo 42 rfl) 3 rfl (congrArg (fun z => x3 + z) ic_1) (by decide) rfl ?_
      refine g_goto 14 C (dat dt_X11_firstTwo 43 rfl) (by decide) ?_
      refine g_sub [0, 1, 2, 3] (lv' := [(0, .ref 81), (1, .int x1), (2, .int x2), (3, .int (x3 + (1 : Int32)))]) rfl ?_
      cases hrun
      exact Ks ((x3 + (1 : Int32)), v3.2) rfl
    · rw [if_neg c5] at hrun
      refine g_aload_n C (dat dt_X11_firstTwo 22 rfl) 0 rfl ?_
      refine g_getR C (dat dt_X11_firstTwo 23 rfl) fl_11_84 kd_81 rfl ltk_81 ?_
      refine g_iload C (dat dt_X11_firstTwo 24 rfl) 4 rfl ?_
      obtain ⟨j6, q7, hrun⟩ := bd hrun
      refine g_iald C (dat dt_X11_firstTwo 25 rfl) kd_100 ltk_100 q7 ?_
      refine g_iload_n C (dat dt_X11_firstTwo 26 rfl) 1 rfl ?_
      refine g_iconst C (dat dt_X11_firstTwo 27 rfl) ic_1 ?_
      refine g_isub C (dat dt_X11_firstTwo 28 rfl) ?_
      refine g_ic_ne 66 C (dat dt_X11_firstTwo 29 rfl) (by decide) (fun c8 => ?_) (fun c8 => ?_)
      · rw [if_neg c8] at hrun
        refine g_iinc (v := (x3 + (1 : Int32))) (lv' := [(0, .ref 81), (1, .int x1), (2, .int x2), (3, .int (x3 + (1 : Int32))), (4, .int v3.1)]) C (dat dt_X11_firstTwo 42 rfl) 3 rfl (congrArg (fun z => x3 + z) ic_1) (by decide) rfl ?_
        refine g_goto 14 C (dat dt_X11_firstTwo 43 rfl) (by decide) ?_
        refine g_sub [0, 1, 2, 3] (lv' := [(0, .ref 81), (1, .int x1), (2, .int x2), (3, .int (x3 + (1 : Int32)))]) rfl ?_
        cases hrun
        exact Ks ((x3 + (1 : Int32)), v3.2) rfl
      · rw [if_pos c8] at hrun
        refine g_sub [0, 2, 3] (lv' := [(0, .ref 81), (2, .int x2), (3, .int x3)]) rfl ?_
        cases hrun
        exact Ke (.inr <| id (x3, v3.2)) rfl
def b_X11_firstTwo_2  (x1 : Int32) (x2 : Int32) (h : Hp) : Option ((Int32 × Hp) ⊕ (Hp ⊕ (Int32 × Int32 × Hp))) :=
  if (fI h 81 35) ≤ x2 then
  some (.inr (.inl h))
  else
  (lp (fun s => b_X11_firstTwo_14_2  x1 x2 s.1 s.2) FU ((x2 + (1 : Int32)), h)).bind fun e9 =>
  sc e9 (fun e11 =>
  some (.inl ((x2 + (1 : Int32)), e11))) (fun e12 =>
  some (.inr (.inr <| id (x2, e12.1, e12.2))))
set_option maxRecDepth 20000 in
theorem wb_X11_firstTwo_2 {X : Xt} (C : Cx X cn_11 prog_13_method_106_code 5 (some .int) 4 0 0)   (x1 : Int32) (x2 : Int32) (h : Hp) (q : (Int32 × Hp) ⊕ (Hp ⊕ (Int32 × Int32 × Hp))) (hrun : b_X11_firstTwo_2  x1 x2 h = some q) (Ks : ∀ s, q = .inl s → kp_X11_firstTwo_2  x1 X s) (Ke : ∀ e, q = .inr e → ke_X11_firstTwo_2  x1 X e) : kp_X11_firstTwo_2  x1 X (x2, h) := by
  show G X h 0 0 2 [(0, .ref 81), (1, .int x1), (2, .int x2)] []
  unfold b_X11_firstTwo_2 at hrun
  refine g_iload_n C (dat dt_X11_firstTwo 2 rfl) 2 rfl ?_
  refine g_aload_n C (dat dt_X11_firstTwo 3 rfl) 0 rfl ?_
  refine g_getI C (dat dt_X11_firstTwo 4 rfl) fl_11_397 kd_81 rfl ltk_81 ?_
  refine g_ic_ge 78 C (dat dt_X11_firstTwo 5 rfl) (by decide) (fun c1 => ?_) (fun c1 => ?_)
  · rw [if_pos c1] at hrun
    refine g_sub [] (lv' := []) rfl ?_
    cases hrun
    exact Ke (.inl h) rfl
  · rw [if_neg c1] at hrun
    refine g_iload_n C (dat dt_X11_firstTwo 6 rfl) 2 rfl ?_
    refine g_iconst C (dat dt_X11_firstTwo 7 rfl) ic_1 ?_
    refine g_iadd C (dat dt_X11_firstTwo 8 rfl) ?_
    refine g_istore_n (lv' := [(0, .ref 81), (1, .int x1), (2, .int x2), (3, .int (x2 + (1 : Int32)))]) C (dat dt_X11_firstTwo 9 rfl) (by decide) rfl ?_
    obtain ⟨e9, q10, hrun⟩ := bd hrun
    refine lp_ind (P := fun s => kp_X11_firstTwo_14_2  x1 x2 X s) (K := fun e => ke_X11_firstTwo_14_2  x1 x2 X e) (fun s q hb Ks Ke => wb_X11_firstTwo_14_2 C   x1 x2 s.1 s.2 q hb Ks Ke) FU ((x2 + (1 : Int32)), h) e9 q10 ?_
    rcases e9 with e11 | e12
    · rw [sc_l] at hrun
      show G X e11 0 0 72 [(0, .ref 81), (1, .int x1), (2, .int x2)] []
      refine g_iinc (v := (x2 + (1 : Int32))) (lv' := [(0, .ref 81), (1, .int x1), (2, .int (x2 + (1 : Int32)))]) C (dat dt_X11_firstTwo 44 rfl) 2 rfl (congrArg (fun z => x2 + z) ic_1) (by decide) rfl ?_
      refine g_goto 2 C (dat dt_X11_firstTwo 45 rfl) (by decide) ?_
      cases hrun
      exact Ks ((x2 + (1 : Int32)), e11) rfl
    · rw [sc_r] at hrun
      show G X e12.2 0 0 49 [(0, .ref 81), (2, .int x2), (3, .int e12.1)] []
      cases hrun
      exact Ke (.inr <| id (x2, e12.1, e12.2)) rfl
def f_X11_firstTwo (x1 : Int32) (h : Hp) : Option (Int32 × Hp) :=
  (lp (fun s => b_X11_firstTwo_2  x1 s.1 s.2) FU ((0 : Int32), h)).bind fun e13 =>
  sc e13 (fun e15 =>
  some ((-1 : Int32), e15)) (fun e16 =>
  (inb e16.1 6).bind fun j17 =>
  (inb e16.2.1 6).bind fun j19 =>
  some ((((10 : Int32) * (aI e16.2.2 97 j17)) + (aI e16.2.2 97 j19)), e16.2.2))
set_option maxRecDepth 20000 in
theorem w_X11_firstTwo (x1 : Int32) (h : Hp) (q : (Int32 × Hp))  (hrun : f_X11_firstTwo x1 h = some q) : MetA ⟨"SteamNationsModel", "firstTwo", "(I)I"⟩ prog_13_method_106_code 5 (some .int) 4 0 0 [.ref 81, .int x1] h (some (.int q.1)) q.2 := by
  refine metA_of (by decide) (Nat.le_of_ble_eq_true rfl) (fun X C K => ?_)
  have C : Cx X cn_11 prog_13_method_106_code 5 (some .int) 4 0 0 := C
  show G X h 0 0 0 [(0, .ref 81), (1, .int x1)] []
  unfold f_X11_firstTwo at hrun
  refine g_iconst C (dat dt_X11_firstTwo 0 rfl) ic_0 ?_
  refine g_istore_n (lv' := [(0, .ref 81), (1, .int x1), (2, .int (0 : Int32))]) C (dat dt_X11_firstTwo 1 rfl) (by decide) rfl ?_
  obtain ⟨e13, q14, hrun⟩ := bd hrun
  refine lp_ind (P := fun s => kp_X11_firstTwo_2  x1 X s) (K := fun e => ke_X11_firstTwo_2  x1 X e) (fun s q hb Ks Ke => wb_X11_firstTwo_2 C   x1 s.1 s.2 q hb Ks Ke) FU ((0 : Int32), h) e13 q14 ?_
  rcases e13 with e15 | e16
  · rw [sc_l] at hrun
    show G X e15 0 0 78 [] []
    refine g_iconst C (dat dt_X11_firstTwo 46 rfl) ic_m1 ?_
    cases hrun
    exact g_iret C K (dat dt_X11_firstTwo 47 rfl)
  · rw [sc_r] at hrun
    show G X e16.2.2 0 0 49 [(0, .ref 81), (2, .int e16.1), (3, .int e16.2.1)] []
    refine g_bipush C (dat dt_X11_firstTwo 30 rfl) bp_10 ?_
    refine g_aload_n C (dat dt_X11_firstTwo 31 rfl) 0 rfl ?_
    refine g_getR C (dat dt_X11_firstTwo 32 rfl) fl_11_75 kd_81 rfl ltk_81 ?_
    refine g_iload_n C (dat dt_X11_firstTwo 33 rfl) 1 rfl ?_
    obtain ⟨j17, q18, hrun⟩ := bd hrun
    refine g_iald C (dat dt_X11_firstTwo 34 rfl) kd_97 ltk_97 q18 ?_
    refine g_imul C (dat dt_X11_firstTwo 35 rfl) ?_
    refine g_aload_n C (dat dt_X11_firstTwo 36 rfl) 0 rfl ?_
    refine g_getR C (dat dt_X11_firstTwo 37 rfl) fl_11_75 kd_81 rfl ltk_81 ?_
    refine g_iload_n C (dat dt_X11_firstTwo 38 rfl) 2 rfl ?_
    obtain ⟨j19, q20, hrun⟩ := bd hrun
    refine g_iald C (dat dt_X11_firstTwo 39 rfl) kd_97 ltk_97 q20 ?_
    refine g_iadd C (dat dt_X11_firstTwo 40 rfl) ?_
    cases hrun
    exact g_iret C K (dat dt_X11_firstTwo 41 rfl)
/-! SteamNationsModel.seen(III)I -/
def dl_X11_seen : List (Nat × Instr × Nat) := [(0, .iload_n 2, 1), (1, .iconst 0, 1), (2, .bipush 9, 2), (4, .invokestatic 18, 3), (7, .ifCond .eq 10, 3), (10, .iload_n 3, 1), (11, .invokestatic 135, 3), (14, .ifCond .ne 9, 3), (17, .aload_n 0, 1), (18, .iconst (-1), 1), (19, .invokevirtual 121, 3), (22, .ireturn, 1), (23, .aload_n 0, 1), (24, .iload_n 1, 1), (25, .invokevirtual 147, 3), (28, .ifCond .ne 10, 3), (31, .aload_n 0, 1), (32, .bipush (-2), 2), (34, .invokevirtual 121, 3), (37, .ireturn, 1), (38, .bipush 31, 2), (40, .iconst 3, 1), (41, .aload_n 0, 1), (42, .getfield 28, 3), (45, .bipush 52, 2), (47, .iaload, 1), (48, .imul, 1), (49, .iadd, 1), (50, .istore 4, 2), (52, .aload_n 0, 1), (53, .getfield 28, 3), (56, .bipush 52, 2), (58, .iaload, 1), (59, .bipush 6, 2), (61, .if_icmp .ne 10, 3), (64, .aload_n 0, 1), (65, .bipush (-5), 2), (67, .invokevirtual 121, 3), (70, .ireturn, 1), (71, .aload_n 0, 1), (72, .getfield 28, 3), (75, .iload 4, 2), (77, .iload_n 1, 1), (78, .iastore, 1), (79, .aload_n 0, 1), (80, .getfield 28, 3), (83, .iload 4, 2), (85, .iconst 1, 1), (86, .iadd, 1), (87, .iload_n 2, 1), (88, .iastore, 1), (89, .aload_n 0, 1), (90, .getfield 28, 3), (93, .iload 4, 2), (95, .iconst 2, 1), (96, .iadd, 1), (97, .iload_n 3, 1), (98, .iastore, 1), (99, .aload_n 0, 1), (100, .getfield 28, 3), (103, .bipush 52, 2), (105, .dup2, 1), (106, .iaload, 1), (107, .iconst 1, 1), (108, .iadd, 1), (109, .iastore, 1), (110, .aload_n 0, 1), (111, .aload_n 0, 1), (112, .getfield 28, 3), (115, .bipush 52, 2), (117, .iaload, 1), (118, .invokevirtual 14, 3), (121, .ireturn, 1)]
set_option maxRecDepth 20000 in
theorem dt_X11_seen : ∀ q ∈ dl_X11_seen, decode prog_13_method_108_code q.1 = .ok q.2 := by decide +kernel
def j_X11_seen_17   (h : Hp) : Option (Int32 × Hp) :=
  (f_X11_refuses (-1 : Int32) h).bind fun v4 =>
  some (v4.1, v4.2)
set_option maxRecDepth 20000 in
theorem wj_X11_seen_17 {X : Xt} (C : Cx X cn_11 prog_13_method_108_code 5 (some .int) 3 0 0)     (h : Hp) (q : (Int32 × Hp)) (hrun : j_X11_seen_17   h = some q) (K : EndQ X 0 0 (some (.int q.1)) q.2) : G X h 0 0 17 [(0, .ref 81)] [] := by
  unfold j_X11_seen_17 at hrun
  refine g_aload_n C (dat dt_X11_seen 8 rfl) 0 rfl ?_
  refine g_iconst C (dat dt_X11_seen 9 rfl) ic_m1 ?_
  obtain ⟨v4, q5, hrun⟩ := bd hrun
  refine g_cVi [.int (-1 : Int32)] C (dat dt_X11_seen 10 rfl) ml_11_121 (w_X11_refuses (-1 : Int32) h v4  q5) kd_81 ltk_81 rfl rfl cat0 (by decide) c00 ?_
  cases hrun
  exact g_iret C K (dat dt_X11_seen 11 rfl)
def f_X11_seen (x1 : Int32) (x2 : Int32) (x3 : Int32) (h : Hp) : Option (Int32 × Hp) :=
  (f_X11_lies x2 (0 : Int32) (9 : Int32)).bind fun v1 =>
  if v1 = true then
  (f_X11_isNation x3).bind fun v6 =>
  if v6 = true then
  (f_X11_isSitter x1 h).bind fun v9 =>
  if v9 = true then
  if (aI h 83 52) = (6 : Int32) then
  (f_X11_refuses (-5 : Int32) h).bind fun v23 =>
  some (v23.1, v23.2)
  else
  (inb ((31 : Int32) + ((3 : Int32) * (aI h 83 52))) 5662).bind fun j13 =>
  (inb (((31 : Int32) + ((3 : Int32) * (aI h 83 52))) + (1 : Int32)) 5662).bind fun j15 =>
  (inb (((31 : Int32) + ((3 : Int32) * (aI h 83 52))) + (2 : Int32)) 5662).bind fun j17 =>
  (f_X11_good (aI (sA (sA (sA (sA h 83 j13 x1) 83 j15 x2) 83 j17 x3) 83 52 ((aI (sA (sA (sA h 83 j13 x1) 83 j15 x2) 83 j17 x3) 83 52) + (1 : Int32))) 83 52) (sA (sA (sA (sA h 83 j13 x1) 83 j15 x2) 83 j17 x3) 83 52 ((aI (sA (sA (sA h 83 j13 x1) 83 j15 x2) 83 j17 x3) 83 52) + (1 : Int32)))).bind fun v21 =>
  some (v21.1, v21.2)
  else
  (f_X11_refuses (-2 : Int32) h).bind fun v25 =>
  some (v25.1, v25.2)
  else
  j_X11_seen_17   h
  else
  j_X11_seen_17   h
set_option maxRecDepth 20000 in
theorem w_X11_seen (x1 : Int32) (x2 : Int32) (x3 : Int32) (h : Hp) (q : (Int32 × Hp))  (hrun : f_X11_seen x1 x2 x3 h = some q) : MetA ⟨"SteamNationsModel", "seen", "(III)I"⟩ prog_13_method_108_code 5 (some .int) 3 0 0 [.ref 81, .int x1, .int x2, .int x3] h (some (.int q.1)) q.2 := by
  refine metA_of (by decide) (Nat.le_of_ble_eq_true rfl) (fun X C K => ?_)
  have C : Cx X cn_11 prog_13_method_108_code 5 (some .int) 3 0 0 := C
  show G X h 0 0 0 [(0, .ref 81), (1, .int x1), (2, .int x2), (3, .int x3)] []
  unfold f_X11_seen at hrun
  refine g_iload_n C (dat dt_X11_seen 0 rfl) 2 rfl ?_
  refine g_iconst C (dat dt_X11_seen 1 rfl) ic_0 ?_
  refine g_bipush C (dat dt_X11_seen 2 rfl) bp_9 ?_
  obtain ⟨v1, q2, hrun⟩ := bd hrun
  refine g_cSi [.int x2, .int (0 : Int32), .int (9 : Int32)] C (dat dt_X11_seen 3 rfl) ml_11_18 (w_X11_lies x2 (0 : Int32) (9 : Int32) h v1  q2) rfl rfl cat0 (by decide) c00 ?_
  refine g_if_eq 17 C (dat dt_X11_seen 4 rfl) (by decide) (fun c3 => ?_) (fun c3 => ?_)
  · rw [if_neg (b2i_z c3)] at hrun
    refine g_sub [0] (lv' := [(0, .ref 81)]) rfl ?_
    exact wj_X11_seen_17 C     h _ hrun K
  · rw [if_pos (b2i_nz c3)] at hrun
    refine g_iload_n C (dat dt_X11_seen 5 rfl) 3 rfl ?_
    obtain ⟨v6, q7, hrun⟩ := bd hrun
    refine g_cSi [.int x3] C (dat dt_X11_seen 6 rfl) ml_11_135 (w_X11_isNation x3 h v6  q7) rfl rfl cat0 (by decide) c00 ?_
    refine g_if_ne 23 C (dat dt_X11_seen 7 rfl) (by decide) (fun c8 => ?_) (fun c8 => ?_)
    · rw [if_pos (b2i_nz c8)] at hrun
      refine g_aload_n C (dat dt_X11_seen 12 rfl) 0 rfl ?_
      refine g_iload_n C (dat dt_X11_seen 13 rfl) 1 rfl ?_
      obtain ⟨v9, q10, hrun⟩ := bd hrun
      refine g_cVi [.int x1] C (dat dt_X11_seen 14 rfl) ml_11_147 (w_X11_isSitter x1 h v9  q10) kd_81 ltk_81 rfl rfl cat0 (by decide) c00 ?_
      refine g_if_ne 38 C (dat dt_X11_seen 15 rfl) (by decide) (fun c11 => ?_) (fun c11 => ?_)
      · rw [if_pos (b2i_nz c11)] at hrun
        refine g_bipush C (dat dt_X11_seen 20 rfl) bp_31 ?_
        refine g_iconst C (dat dt_X11_seen 21 rfl) ic_3 ?_
        refine g_aload_n C (dat dt_X11_seen 22 rfl) 0 rfl ?_
        refine g_getR C (dat dt_X11_seen 23 rfl) fl_11_28 kd_81 rfl ltk_81 ?_
        refine g_bipush C (dat dt_X11_seen 24 rfl) bp_52 ?_
        refine g_iald (j := 52) C (dat dt_X11_seen 25 rfl) kd_83 ltk_83 (show inb (52 : Int32) 5662 = some 52 by decide) ?_
        refine g_imul C (dat dt_X11_seen 26 rfl) ?_
        refine g_iadd C (dat dt_X11_seen 27 rfl) ?_
        refine g_istore (lv' := [(0, .ref 81), (1, .int x1), (2, .int x2), (3, .int x3), (4, .int ((31 : Int32) + ((3 : Int32) * (aI h 83 52))))]) C (dat dt_X11_seen 28 rfl) (by decide) rfl ?_
        refine g_aload_n C (dat dt_X11_seen 29 rfl) 0 rfl ?_
        refine g_getR C (dat dt_X11_seen 30 rfl) fl_11_28 kd_81 rfl ltk_81 ?_
        refine g_bipush C (dat dt_X11_seen 31 rfl) bp_52 ?_
        refine g_iald (j := 52) C (dat dt_X11_seen 32 rfl) kd_83 ltk_83 (show inb (52 : Int32) 5662 = some 52 by decide) ?_
        refine g_bipush C (dat dt_X11_seen 33 rfl) bp_6 ?_
        refine g_ic_ne 71 C (dat dt_X11_seen 34 rfl) (by decide) (fun c12 => ?_) (fun c12 => ?_)
        · rw [if_neg c12] at hrun
          refine g_aload_n C (dat dt_X11_seen 39 rfl) 0 rfl ?_
          refine g_getR C (dat dt_X11_seen 40 rfl) fl_11_28 kd_81 rfl ltk_81 ?_
          refine g_iload C (dat dt_X11_seen 41 rfl) 4 rfl ?_
          refine g_iload_n C (dat dt_X11_seen 42 rfl) 1 rfl ?_
          obtain ⟨j13, q14, hrun⟩ := bd hrun
          refine g_iast (j := j13) C (dat dt_X11_seen 43 rfl) kd_83 ltk_83 q14  ?_
          refine g_aload_n C (dat dt_X11_seen 44 rfl) 0 rfl ?_
          refine g_getR C (dat dt_X11_seen 45 rfl) fl_11_28 kd_81 rfl ltk_81 ?_
          refine g_iload C (dat dt_X11_seen 46 rfl) 4 rfl ?_
          refine g_iconst C (dat dt_X11_seen 47 rfl) ic_1 ?_
          refine g_iadd C (dat dt_X11_seen 48 rfl) ?_
          refine g_iload_n C (dat dt_X11_seen 49 rfl) 2 rfl ?_
          obtain ⟨j15, q16, hrun⟩ := bd hrun
          refine g_iast (j := j15) C (dat dt_X11_seen 50 rfl) kd_83 ltk_83 q16  ?_
          refine g_aload_n C (dat dt_X11_seen 51 rfl) 0 rfl ?_
          refine g_getR C (dat dt_X11_seen 52 rfl) fl_11_28 kd_81 rfl ltk_81 ?_
          refine g_iload C (dat dt_X11_seen 53 rfl) 4 rfl ?_
          refine g_iconst C (dat dt_X11_seen 54 rfl) ic_2 ?_
          refine g_iadd C (dat dt_X11_seen 55 rfl) ?_
          refine g_iload_n C (dat dt_X11_seen 56 rfl) 3 rfl ?_
          obtain ⟨j17, q18, hrun⟩ := bd hrun
          refine g_iast (j := j17) C (dat dt_X11_seen 57 rfl) kd_83 ltk_83 q18  ?_
          refine g_aload_n C (dat dt_X11_seen 58 rfl) 0 rfl ?_
          refine g_getR C (dat dt_X11_seen 59 rfl) fl_11_28 kd_81 rfl ltk_81 ?_
          refine g_bipush C (dat dt_X11_seen 60 rfl) bp_52 ?_
          refine g_dup2 C (dat dt_X11_seen 61 rfl) rfl rfl ?_
          refine g_iald (j := 52) C (dat dt_X11_seen 62 rfl) kd_83 ltk_83 (show inb (52 : Int32) 5662 = some 52 by decide) ?_
          refine g_iconst C (dat dt_X11_seen 63 rfl) ic_1 ?_
          refine g_iadd C (dat dt_X11_seen 64 rfl) ?_
          refine g_iast (j := 52) C (dat dt_X11_seen 65 rfl) kd_83 ltk_83 (show inb (52 : Int32) 5662 = some 52 by decide)  ?_
          refine g_aload_n C (dat dt_X11_seen 66 rfl) 0 rfl ?_
          refine g_aload_n C (dat dt_X11_seen 67 rfl) 0 rfl ?_
          refine g_getR C (dat dt_X11_seen 68 rfl) fl_11_28 kd_81 rfl ltk_81 ?_
          refine g_bipush C (dat dt_X11_seen 69 rfl) bp_52 ?_
          refine g_iald (j := 52) C (dat dt_X11_seen 70 rfl) kd_83 ltk_83 (show inb (52 : Int32) 5662 = some 52 by decide) ?_
          obtain ⟨v21, q22, hrun⟩ := bd hrun
          refine g_cVi [.int (aI (sA (sA (sA (sA h 83 j13 x1) 83 j15 x2) 83 j17 x3) 83 52 ((aI (sA (sA (sA h 83 j13 x1) 83 j15 x2) 83 j17 x3) 83 52) + (1 : Int32))) 83 52)] C (dat dt_X11_seen 71 rfl) ml_11_14 (w_X11_good (aI (sA (sA (sA (sA h 83 j13 x1) 83 j15 x2) 83 j17 x3) 83 52 ((aI (sA (sA (sA h 83 j13 x1) 83 j15 x2) 83 j17 x3) 83 52) + (1 : Int32))) 83 52) (sA (sA (sA (sA h 83 j13 x1) 83 j15 x2) 83 j17 x3) 83 52 ((aI (sA (sA (sA h 83 j13 x1) 83 j15 x2) 83 j17 x3) 83 52) + (1 : Int32))) v21  q22) kd_81 ltk_81 rfl rfl cat0 (by decide) c00 ?_
          cases hrun
          exact g_iret C K (dat dt_X11_seen 72 rfl)
        · rw [if_pos c12] at hrun
          refine g_aload_n C (dat dt_X11_seen 35 rfl) 0 rfl ?_
          refine g_bipush C (dat dt_X11_seen 36 rfl) bp_m5 ?_
          obtain ⟨v23, q24, hrun⟩ := bd hrun
          refine g_cVi [.int (-5 : Int32)] C (dat dt_X11_seen 37 rfl) ml_11_121 (w_X11_refuses (-5 : Int32) h v23  q24) kd_81 ltk_81 rfl rfl cat0 (by decide) c00 ?_
          cases hrun
          exact g_iret C K (dat dt_X11_seen 38 rfl)
      · rw [if_neg (b2i_z c11)] at hrun
        refine g_aload_n C (dat dt_X11_seen 16 rfl) 0 rfl ?_
        refine g_bipush C (dat dt_X11_seen 17 rfl) bp_m2 ?_
        obtain ⟨v25, q26, hrun⟩ := bd hrun
        refine g_cVi [.int (-2 : Int32)] C (dat dt_X11_seen 18 rfl) ml_11_121 (w_X11_refuses (-2 : Int32) h v25  q26) kd_81 ltk_81 rfl rfl cat0 (by decide) c00 ?_
        cases hrun
        exact g_iret C K (dat dt_X11_seen 19 rfl)
    · rw [if_neg (b2i_z c8)] at hrun
      refine g_sub [0] (lv' := [(0, .ref 81)]) rfl ?_
      exact wj_X11_seen_17 C     h _ hrun K
/-! SteamNationsModel.forget()I -/
def dl_X11_forget : List (Nat × Instr × Nat) := [(0, .aload_n 0, 1), (1, .getfield 28, 3), (4, .bipush 52, 2), (6, .iaload, 1), (7, .istore_n 1, 1), (8, .aload_n 0, 1), (9, .getfield 28, 3), (12, .bipush 52, 2), (14, .iconst 0, 1), (15, .iastore, 1), (16, .iload_n 1, 1), (17, .ireturn, 1)]
set_option maxRecDepth 20000 in
theorem dt_X11_forget : ∀ q ∈ dl_X11_forget, decode prog_13_method_109_code q.1 = .ok q.2 := by decide +kernel
def f_X11_forget  (h : Hp) : Option (Int32 × Hp) :=
  some ((aI h 83 52), (sA h 83 52 (0 : Int32)))
set_option maxRecDepth 20000 in
theorem w_X11_forget  (h : Hp) (q : (Int32 × Hp))  (hrun : f_X11_forget  h = some q) : MetA ⟨"SteamNationsModel", "forget", "()I"⟩ prog_13_method_109_code 2 (some .int) 1 0 0 [.ref 81] h (some (.int q.1)) q.2 := by
  refine metA_of (by decide) (Nat.le_of_ble_eq_true rfl) (fun X C K => ?_)
  have C : Cx X cn_11 prog_13_method_109_code 2 (some .int) 1 0 0 := C
  show G X h 0 0 0 [(0, .ref 81)] []
  unfold f_X11_forget at hrun
  refine g_aload_n C (dat dt_X11_forget 0 rfl) 0 rfl ?_
  refine g_getR C (dat dt_X11_forget 1 rfl) fl_11_28 kd_81 rfl ltk_81 ?_
  refine g_bipush C (dat dt_X11_forget 2 rfl) bp_52 ?_
  refine g_iald (j := 52) C (dat dt_X11_forget 3 rfl) kd_83 ltk_83 (show inb (52 : Int32) 5662 = some 52 by decide) ?_
  refine g_istore_n (lv' := [(0, .ref 81), (1, .int (aI h 83 52))]) C (dat dt_X11_forget 4 rfl) (by decide) rfl ?_
  refine g_aload_n C (dat dt_X11_forget 5 rfl) 0 rfl ?_
  refine g_getR C (dat dt_X11_forget 6 rfl) fl_11_28 kd_81 rfl ltk_81 ?_
  refine g_bipush C (dat dt_X11_forget 7 rfl) bp_52 ?_
  refine g_iconst C (dat dt_X11_forget 8 rfl) ic_0 ?_
  refine g_iast (j := 52) C (dat dt_X11_forget 9 rfl) kd_83 ltk_83 (show inb (52 : Int32) 5662 = some 52 by decide)  ?_
  refine g_iload_n C (dat dt_X11_forget 10 rfl) 1 rfl ?_
  cases hrun
  exact g_iret C K (dat dt_X11_forget 11 rfl)
/-! SteamNationsModel.isSoAt(I)Z -/
def dl_X11_isSoAt : List (Nat × Instr × Nat) := [(0, .iconst 1, 1), (1, .istore_n 2, 1), (2, .iconst 0, 1), (3, .istore_n 3, 1), (4, .iload_n 3, 1), (5, .aload_n 0, 1), (6, .getfield 28, 3), (9, .bipush 52, 2), (11, .iaload, 1), (12, .if_icmp .ge 67, 3), (15, .iload_n 2, 1), (16, .ifCond .eq 55, 3), (19, .aload_n 0, 1), (20, .getfield 28, 3), (23, .bipush 31, 2), (25, .iconst 3, 1), (26, .iload_n 3, 1), (27, .imul, 1), (28, .iadd, 1), (29, .iconst 1, 1), (30, .iadd, 1), (31, .iaload, 1), (32, .iload_n 1, 1), (33, .if_icmp .ne 34, 3), (36, .aload_n 0, 1), (37, .aload_n 0, 1), (38, .getfield 28, 3), (41, .bipush 31, 2), (43, .iconst 3, 1), (44, .iload_n 3, 1), (45, .imul, 1), (46, .iadd, 1), (47, .iaload, 1), (48, .invokevirtual 153, 3), (51, .aload_n 0, 1), (52, .getfield 28, 3), (55, .bipush 31, 2), (57, .iconst 3, 1), (58, .iload_n 3, 1), (59, .imul, 1), (60, .iadd, 1), (61, .iconst 2, 1), (62, .iadd, 1), (63, .iaload, 1), (64, .if_icmp .ne 7, 3), (67, .iconst 1, 1), (68, .goto 4, 3), (71, .iconst 0, 1), (72, .istore_n 2, 1), (73, .iinc 3 1, 3), (76, .goto (-72), 3), (79, .iload_n 2, 1), (80, .ireturn, 1)]
set_option maxRecDepth 20000 in
theorem dt_X11_isSoAt : ∀ q ∈ dl_X11_isSoAt, decode prog_13_method_110_code q.1 = .ok q.2 := by decide +kernel
def kp_X11_isSoAt_4  (x1 : Int32) (h : Hp) (X : Xt) (s : (Int32 × Int32)) : Prop := G X h 0 0 4 [(0, .ref 81), (1, .int x1), (2, .int s.1), (3, .int s.2)] []
def ke_X11_isSoAt_4  (x1 : Int32) (h : Hp) (X : Xt) (e : Int32) : Prop := G X h 0 0 79 [(2, .int e)] []
def j_X11_isSoAt_72_4  (x1 : Int32) (x3 : Int32) (s0 : Int32) (h : Hp) : Option ((Int32 × Int32) ⊕ Int32) :=
  some (.inl (s0, (x3 + (1 : Int32))))
set_option maxRecDepth 20000 in
theorem wj_X11_isSoAt_72_4 {X : Xt} (C : Cx X cn_11 prog_13_method_110_code 4 (some .boolean) 3 0 0)    (x1 : Int32) (x3 : Int32) (s0 : Int32) (h : Hp) (q : (Int32 × Int32) ⊕ Int32) (hrun : j_X11_isSoAt_72_4  x1 x3 s0 h = some q) (Ks : ∀ s, q = .inl s → kp_X11_isSoAt_4  x1 h X s) (Ke : ∀ e, q = .inr e → ke_X11_isSoAt_4  x1 h X e) : G X h 0 0 72 [(0, .ref 81), (1, .int x1), (3, .int x3)] [.int s0] := by
  unfold j_X11_isSoAt_72_4 at hrun
  refine g_istore_n (lv' := [(0, .ref 81), (1, .int x1), (2, .int s0), (3, .int x3)]) C (dat dt_X11_isSoAt 48 rfl) (by decide) rfl ?_
  refine g_iinc (v := (x3 + (1 : Int32))) (lv' := [(0, .ref 81), (1, .int x1), (2, .int s0), (3, .int (x3 + (1 : Int32)))]) C (dat dt_X11_isSoAt 49 rfl) 3 rfl (congrArg (fun z => x3 + z) ic_1) (by decide) rfl ?_
  refine g_goto 4 C (dat dt_X11_isSoAt 50 rfl) (by decide) ?_
  cases hrun
  exact Ks (s0, (x3 + (1 : Int32))) rfl
def j_X11_isSoAt_71_4  (x1 : Int32) (x3 : Int32) (h : Hp) : Option ((Int32 × Int32) ⊕ Int32) :=
  j_X11_isSoAt_72_4  x1 x3 (0 : Int32) h
set_option maxRecDepth 20000 in
theorem wj_X11_isSoAt_71_4 {X : Xt} (C : Cx X cn_11 prog_13_method_110_code 4 (some .boolean) 3 0 0)    (x1 : Int32) (x3 : Int32) (h : Hp) (q : (Int32 × Int32) ⊕ Int32) (hrun : j_X11_isSoAt_71_4  x1 x3 h = some q) (Ks : ∀ s, q = .inl s → kp_X11_isSoAt_4  x1 h X s) (Ke : ∀ e, q = .inr e → ke_X11_isSoAt_4  x1 h X e) : G X h 0 0 71 [(0, .ref 81), (1, .int x1), (3, .int x3)] [] := by
  unfold j_X11_isSoAt_71_4 at hrun
  refine g_iconst C (dat dt_X11_isSoAt 47 rfl) ic_0 ?_
  exact wj_X11_isSoAt_72_4 C    x1 x3 (0 : Int32) h _ hrun Ks Ke
def b_X11_isSoAt_4  (x1 : Int32) (x2 : Int32) (x3 : Int32) (h : Hp) : Option ((Int32 × Int32) ⊕ Int32) :=
  if (aI h 83 52) ≤ x3 then
  some (.inr ( x2))
  else
  if x2 = 0 then
  j_X11_isSoAt_71_4  x1 x3 h
  else
  (inb (((31 : Int32) + ((3 : Int32) * x3)) + (1 : Int32)) 5662).bind fun j3 =>
  if (aI h 83 j3) = x1 then
  (inb ((31 : Int32) + ((3 : Int32) * x3)) 5662).bind fun j6 =>
  (f_X11_nationOf (aI h 83 j6) h).bind fun v8 =>
  (inb (((31 : Int32) + ((3 : Int32) * x3)) + (2 : Int32)) 5662).bind fun j10 =>
  if v8 = (aI h 83 j10) then
  j_X11_isSoAt_72_4  x1 x3 (1 : Int32) h
  else
  j_X11_isSoAt_71_4  x1 x3 h
  else
  j_X11_isSoAt_72_4  x1 x3 (1 : Int32) h
set_option maxRecDepth 20000 in
theorem wb_X11_isSoAt_4 {X : Xt} (C : Cx X cn_11 prog_13_method_110_code 4 (some .boolean) 3 0 0)   (x1 : Int32) (x2 : Int32) (x3 : Int32) (h : Hp) (q : (Int32 × Int32) ⊕ Int32) (hrun : b_X11_isSoAt_4  x1 x2 x3 h = some q) (Ks : ∀ s, q = .inl s → kp_X11_isSoAt_4  x1 h X s) (Ke : ∀ e, q = .inr e → ke_X11_isSoAt_4  x1 h X e) : kp_X11_isSoAt_4  x1 h X (x2, x3) := by
  show G X h 0 0 4 [(0, .ref 81), (1, .int x1), (2, .int x2), (3, .int x3)] []
  unfold b_X11_isSoAt_4 at hrun
  refine g_iload_n C (dat dt_X11_isSoAt 4 rfl) 3 rfl ?_
  refine g_aload_n C (dat dt_X11_isSoAt 5 rfl) 0 rfl ?_
  refine g_getR C (dat dt_X11_isSoAt 6 rfl) fl_11_28 kd_81 rfl ltk_81 ?_
  refine g_bipush C (dat dt_X11_isSoAt 7 rfl) bp_52 ?_
  refine g_iald (j := 52) C (dat dt_X11_isSoAt 8 rfl) kd_83 ltk_83 (show inb (52 : Int32) 5662 = some 52 by decide) ?_
  refine g_ic_ge 79 C (dat dt_X11_isSoAt 9 rfl) (by decide) (fun c1 => ?_) (fun c1 => ?_)
  · rw [if_pos c1] at hrun
    refine g_sub [2] (lv' := [(2, .int x2)]) rfl ?_
    cases hrun
    exact Ke ( x2) rfl
  · rw [if_neg c1] at hrun
    refine g_iload_n C (dat dt_X11_isSoAt 10 rfl) 2 rfl ?_
    refine g_if_eq 71 C (dat dt_X11_isSoAt 11 rfl) (by decide) (fun c2 => ?_) (fun c2 => ?_)
    · rw [if_pos c2] at hrun
      refine g_sub [0, 1, 3] (lv' := [(0, .ref 81), (1, .int x1), (3, .int x3)]) rfl ?_
      exact wj_X11_isSoAt_71_4 C    x1 x3 h _ hrun Ks Ke
    · rw [if_neg c2] at hrun
      refine g_aload_n C (dat dt_X11_isSoAt 12 rfl) 0 rfl ?_
      refine g_getR C (dat dt_X11_isSoAt 13 rfl) fl_11_28 kd_81 rfl ltk_81 ?_
      refine g_bipush C (dat dt_X11_isSoAt 14 rfl) bp_31 ?_
      refine g_iconst C (dat dt_X11_isSoAt 15 rfl) ic_3 ?_
      refine g_iload_n C (dat dt_X11_isSoAt 16 rfl) 3 rfl ?_
      refine g_imul C (dat dt_X11_isSoAt 17 rfl) ?_
      refine g_iadd C (dat dt_X11_isSoAt 18 rfl) ?_
      refine g_iconst C (dat dt_X11_isSoAt 19 rfl) ic_1 ?_
      refine g_iadd C (dat dt_X11_isSoAt 20 rfl) ?_
      obtain ⟨j3, q4, hrun⟩ := bd hrun
      refine g_iald C (dat dt_X11_isSoAt 21 rfl) kd_83 ltk_83 q4 ?_
      refine g_iload_n C (dat dt_X11_isSoAt 22 rfl) 1 rfl ?_
      refine g_ic_ne 67 C (dat dt_X11_isSoAt 23 rfl) (by decide) (fun c5 => ?_) (fun c5 => ?_)
      · rw [if_neg c5] at hrun
        refine g_iconst C (dat dt_X11_isSoAt 45 rfl) ic_1 ?_
        refine g_goto 72 C (dat dt_X11_isSoAt 46 rfl) (by decide) ?_
        refine g_sub [0, 1, 3] (lv' := [(0, .ref 81), (1, .int x1), (3, .int x3)]) rfl ?_
        exact wj_X11_isSoAt_72_4 C    x1 x3 (1 : Int32) h _ hrun Ks Ke
      · rw [if_pos c5] at hrun
        refine g_aload_n C (dat dt_X11_isSoAt 24 rfl) 0 rfl ?_
        refine g_aload_n C (dat dt_X11_isSoAt 25 rfl) 0 rfl ?_
        refine g_getR C (dat dt_X11_isSoAt 26 rfl) fl_11_28 kd_81 rfl ltk_81 ?_
        refine g_bipush C (dat dt_X11_isSoAt 27 rfl) bp_31 ?_
        refine g_iconst C (dat dt_X11_isSoAt 28 rfl) ic_3 ?_
        refine g_iload_n C (dat dt_X11_isSoAt 29 rfl) 3 rfl ?_
        refine g_imul C (dat dt_X11_isSoAt 30 rfl) ?_
        refine g_iadd C (dat dt_X11_isSoAt 31 rfl) ?_
        obtain ⟨j6, q7, hrun⟩ := bd hrun
        refine g_iald C (dat dt_X11_isSoAt 32 rfl) kd_83 ltk_83 q7 ?_
        obtain ⟨v8, q9, hrun⟩ := bd hrun
        refine g_cVi [.int (aI h 83 j6)] C (dat dt_X11_isSoAt 33 rfl) ml_11_153 (w_X11_nationOf (aI h 83 j6) h v8  q9) kd_81 ltk_81 rfl rfl cat0 (by decide) c00 ?_
        refine g_aload_n C (dat dt_X11_isSoAt 34 rfl) 0 rfl ?_
        refine g_getR C (dat dt_X11_isSoAt 35 rfl) fl_11_28 kd_81 rfl ltk_81 ?_
        refine g_bipush C (dat dt_X11_isSoAt 36 rfl) bp_31 ?_
        refine g_iconst C (dat dt_X11_isSoAt 37 rfl) ic_3 ?_
        refine g_iload_n C (dat dt_X11_isSoAt 38 rfl) 3 rfl ?_
        refine g_imul C (dat dt_X11_isSoAt 39 rfl) ?_
        refine g_iadd C (dat dt_X11_isSoAt 40 rfl) ?_
        refine g_iconst C (dat dt_X11_isSoAt 41 rfl) ic_2 ?_
        refine g_iadd C (dat dt_X11_isSoAt 42 rfl) ?_
        obtain ⟨j10, q11, hrun⟩ := bd hrun
        refine g_iald C (dat dt_X11_isSoAt 43 rfl) kd_83 ltk_83 q11 ?_
        refine g_ic_ne 71 C (dat dt_X11_isSoAt 44 rfl) (by decide) (fun c12 => ?_) (fun c12 => ?_)
        · rw [if_neg c12] at hrun
          refine g_sub [0, 1, 3] (lv' := [(0, .ref 81), (1, .int x1), (3, .int x3)]) rfl ?_
          exact wj_X11_isSoAt_71_4 C    x1 x3 h _ hrun Ks Ke
        · rw [if_pos c12] at hrun
          refine g_iconst C (dat dt_X11_isSoAt 45 rfl) ic_1 ?_
          refine g_goto 72 C (dat dt_X11_isSoAt 46 rfl) (by decide) ?_
          refine g_sub [0, 1, 3] (lv' := [(0, .ref 81), (1, .int x1), (3, .int x3)]) rfl ?_
          exact wj_X11_isSoAt_72_4 C    x1 x3 (1 : Int32) h _ hrun Ks Ke
def f_X11_isSoAt (x1 : Int32) (h : Hp) : Option Bool :=
  (lp (fun s => b_X11_isSoAt_4  x1 s.1 s.2 h) FU ((1 : Int32), (0 : Int32))).bind fun e13 =>
  (i2b e13).bind fun b15 => some b15
set_option maxRecDepth 20000 in
theorem w_X11_isSoAt (x1 : Int32) (h : Hp) (q : Bool)  (hrun : f_X11_isSoAt x1 h = some q) : MetA ⟨"SteamNationsModel", "isSoAt", "(I)Z"⟩ prog_13_method_110_code 4 (some .boolean) 3 0 0 [.ref 81, .int x1] h (some (.int (b2i q))) h := by
  refine metA_of (by decide) (Nat.le_of_ble_eq_true rfl) (fun X C K => ?_)
  have C : Cx X cn_11 prog_13_method_110_code 4 (some .boolean) 3 0 0 := C
  show G X h 0 0 0 [(0, .ref 81), (1, .int x1)] []
  unfold f_X11_isSoAt at hrun
  refine g_iconst C (dat dt_X11_isSoAt 0 rfl) ic_1 ?_
  refine g_istore_n (lv' := [(0, .ref 81), (1, .int x1), (2, .int (1 : Int32))]) C (dat dt_X11_isSoAt 1 rfl) (by decide) rfl ?_
  refine g_iconst C (dat dt_X11_isSoAt 2 rfl) ic_0 ?_
  refine g_istore_n (lv' := [(0, .ref 81), (1, .int x1), (2, .int (1 : Int32)), (3, .int (0 : Int32))]) C (dat dt_X11_isSoAt 3 rfl) (by decide) rfl ?_
  obtain ⟨e13, q14, hrun⟩ := bd hrun
  refine lp_ind (P := fun s => kp_X11_isSoAt_4  x1 h X s) (K := fun e => ke_X11_isSoAt_4  x1 h X e) (fun s q hb Ks Ke => wb_X11_isSoAt_4 C   x1 s.1 s.2 h q hb Ks Ke) FU ((1 : Int32), (0 : Int32)) e13 q14 ?_
  show G X h 0 0 79 [(2, .int e13)] []
  refine g_iload_n C (dat dt_X11_isSoAt 51 rfl) 0 rfl ?_
  obtain ⟨b15, q16, hrun⟩ := bd hrun
  cases hrun
  exact g_zret C K (i2b_eq q16) (dat dt_X11_isSoAt 52 rfl)
/-! SteamNationsModel.mostAlike(I)I -/
def dl_X11_mostAlike : List (Nat × Instr × Nat) := [(0, .iconst 0, 1), (1, .istore_n 2, 1), (2, .iload_n 2, 1), (3, .iconst 3, 1), (4, .if_icmp .ge 16, 3), (7, .aload_n 0, 1), (8, .getfield 96, 3), (11, .iload_n 2, 1), (12, .iconst 0, 1), (13, .iastore, 1), (14, .iinc 2 1, 3), (17, .goto (-15), 3), (20, .iconst 0, 1), (21, .istore_n 2, 1), (22, .iload_n 2, 1), (23, .aload_n 0, 1), (24, .getfield 400, 3), (27, .if_icmp .ge 42, 3), (30, .aload_n 0, 1), (31, .getfield 96, 3), (34, .aload_n 0, 1), (35, .getfield 93, 3), (38, .bipush 6, 2), (40, .iload_n 2, 1), (41, .imul, 1), (42, .iload_n 1, 1), (43, .iadd, 1), (44, .iaload, 1), (45, .dup2, 1), (46, .iaload, 1), (47, .aload_n 0, 1), (48, .getfield 90, 3), (51, .iload_n 2, 1), (52, .baload, 1), (53, .ifCond .eq 7, 3), (56, .iconst 1, 1), (57, .goto 4, 3), (60, .iconst 0, 1), (61, .iadd, 1), (62, .iastore, 1), (63, .iinc 2 1, 3), (66, .goto (-44), 3), (69, .aload_n 0, 1), (70, .getfield 96, 3), (73, .iconst 0, 1), (74, .iaload, 1), (75, .aload_n 0, 1), (76, .getfield 96, 3), (79, .iconst 1, 1), (80, .iaload, 1), (81, .aload_n 0, 1), (82, .getfield 96, 3), (85, .iconst 2, 1), (86, .iaload, 1), (87, .invokestatic 412, 3), (90, .invokestatic 412, 3), (93, .ireturn, 1)]
set_option maxRecDepth 20000 in
theorem dt_X11_mostAlike : ∀ q ∈ dl_X11_mostAlike, decode prog_13_method_113_code q.1 = .ok q.2 := by decide +kernel
def kp_X11_mostAlike_2  (x1 : Int32) (X : Xt) (s : (Int32 × Hp)) : Prop := G X s.2 0 0 2 [(0, .ref 81), (1, .int x1), (2, .int s.1)] []
def ke_X11_mostAlike_2  (x1 : Int32) (X : Xt) (e : Hp) : Prop := G X e 0 0 20 [(0, .ref 81), (1, .int x1)] []
def b_X11_mostAlike_2  (x1 : Int32) (x2 : Int32) (h : Hp) : Option ((Int32 × Hp) ⊕ Hp) :=
  if (3 : Int32) ≤ x2 then
  some (.inr ( h))
  else
  (inb x2 3).bind fun j2 =>
  some (.inl ((x2 + (1 : Int32)), (sA h 104 j2 (0 : Int32))))
set_option maxRecDepth 20000 in
theorem wb_X11_mostAlike_2 {X : Xt} (C : Cx X cn_11 prog_13_method_113_code 3 (some .int) 2 0 0)   (x1 : Int32) (x2 : Int32) (h : Hp) (q : (Int32 × Hp) ⊕ Hp) (hrun : b_X11_mostAlike_2  x1 x2 h = some q) (Ks : ∀ s, q = .inl s → kp_X11_mostAlike_2  x1 X s) (Ke : ∀ e, q = .inr e → ke_X11_mostAlike_2  x1 X e) : kp_X11_mostAlike_2  x1 X (x2, h) := by
  show G X h 0 0 2 [(0, .ref 81), (1, .int x1), (2, .int x2)] []
  unfold b_X11_mostAlike_2 at hrun
  refine g_iload_n C (dat dt_X11_mostAlike 2 rfl) 2 rfl ?_
  refine g_iconst C (dat dt_X11_mostAlike 3 rfl) ic_3 ?_
  refine g_ic_ge 20 C (dat dt_X11_mostAlike 4 rfl) (by decide) (fun c1 => ?_) (fun c1 => ?_)
  · rw [if_pos c1] at hrun
    refine g_sub [0, 1] (lv' := [(0, .ref 81), (1, .int x1)]) rfl ?_
    cases hrun
    exact Ke ( h) rfl
  · rw [if_neg c1] at hrun
    refine g_aload_n C (dat dt_X11_mostAlike 5 rfl) 0 rfl ?_
    refine g_getR C (dat dt_X11_mostAlike 6 rfl) fl_11_96 kd_81 rfl ltk_81 ?_
    refine g_iload_n C (dat dt_X11_mostAlike 7 rfl) 2 rfl ?_
    refine g_iconst C (dat dt_X11_mostAlike 8 rfl) ic_0 ?_
    obtain ⟨j2, q3, hrun⟩ := bd hrun
    refine g_iast (j := j2) C (dat dt_X11_mostAlike 9 rfl) kd_104 ltk_104 q3  ?_
    refine g_iinc (v := (x2 + (1 : Int32))) (lv' := [(0, .ref 81), (1, .int x1), (2, .int (x2 + (1 : Int32)))]) C (dat dt_X11_mostAlike 10 rfl) 2 rfl (congrArg (fun z => x2 + z) ic_1) (by decide) rfl ?_
    refine g_goto 2 C (dat dt_X11_mostAlike 11 rfl) (by decide) ?_
    cases hrun
    exact Ks ((x2 + (1 : Int32)), (sA h 104 j2 (0 : Int32))) rfl
def kp_X11_mostAlike_22  (x1 : Int32) (X : Xt) (s : (Int32 × Hp)) : Prop := G X s.2 0 0 22 [(0, .ref 81), (1, .int x1), (2, .int s.1)] []
def ke_X11_mostAlike_22  (x1 : Int32) (X : Xt) (e : Hp) : Prop := G X e 0 0 69 [(0, .ref 81)] []
def j_X11_mostAlike_61_22  (x1 : Int32) (x2 : Int32) (s1 : Int32) (s2 : Int32) (s3 : Int32) (h : Hp) : Option ((Int32 × Hp) ⊕ Hp) :=
  (inb s1 3).bind fun j14 =>
  some (.inl ((x2 + (1 : Int32)), (sA h 104 j14 (s2 + s3))))
set_option maxRecDepth 20000 in
theorem wj_X11_mostAlike_61_22 {X : Xt} (C : Cx X cn_11 prog_13_method_113_code 3 (some .int) 2 0 0)    (x1 : Int32) (x2 : Int32) (s1 : Int32) (s2 : Int32) (s3 : Int32) (h : Hp) (q : (Int32 × Hp) ⊕ Hp) (hrun : j_X11_mostAlike_61_22  x1 x2 s1 s2 s3 h = some q) (Ks : ∀ s, q = .inl s → kp_X11_mostAlike_22  x1 X s) (Ke : ∀ e, q = .inr e → ke_X11_mostAlike_22  x1 X e) : G X h 0 0 61 [(0, .ref 81), (1, .int x1), (2, .int x2)] [.int s3, .int s2, .int s1, .ref 104] := by
  unfold j_X11_mostAlike_61_22 at hrun
  refine g_iadd C (dat dt_X11_mostAlike 38 rfl) ?_
  obtain ⟨j14, q15, hrun⟩ := bd hrun
  refine g_iast (j := j14) C (dat dt_X11_mostAlike 39 rfl) kd_104 ltk_104 q15  ?_
  refine g_iinc (v := (x2 + (1 : Int32))) (lv' := [(0, .ref 81), (1, .int x1), (2, .int (x2 + (1 : Int32)))]) C (dat dt_X11_mostAlike 40 rfl) 2 rfl (congrArg (fun z => x2 + z) ic_1) (by decide) rfl ?_
  refine g_goto 22 C (dat dt_X11_mostAlike 41 rfl) (by decide) ?_
  cases hrun
  exact Ks ((x2 + (1 : Int32)), (sA h 104 j14 (s2 + s3))) rfl
def b_X11_mostAlike_22  (x1 : Int32) (x2 : Int32) (h : Hp) : Option ((Int32 × Hp) ⊕ Hp) :=
  if (fI h 81 36) ≤ x2 then
  some (.inr ( h))
  else
  (inb (((6 : Int32) * x2) + x1) 4320).bind fun j7 =>
  (inb (aI h 103 j7) 3).bind fun j9 =>
  (inb x2 720).bind fun j11 =>
  if (aI h 102 j11) = 0 then
  j_X11_mostAlike_61_22  x1 x2 (aI h 103 j7) (aI h 104 j9) (0 : Int32) h
  else
  j_X11_mostAlike_61_22  x1 x2 (aI h 103 j7) (aI h 104 j9) (1 : Int32) h
set_option maxRecDepth 20000 in
theorem wb_X11_mostAlike_22 {X : Xt} (C : Cx X cn_11 prog_13_method_113_code 3 (some .int) 2 0 0)   (x1 : Int32) (x2 : Int32) (h : Hp) (q : (Int32 × Hp) ⊕ Hp) (hrun : b_X11_mostAlike_22  x1 x2 h = some q) (Ks : ∀ s, q = .inl s → kp_X11_mostAlike_22  x1 X s) (Ke : ∀ e, q = .inr e → ke_X11_mostAlike_22  x1 X e) : kp_X11_mostAlike_22  x1 X (x2, h) := by
  show G X h 0 0 22 [(0, .ref 81), (1, .int x1), (2, .int x2)] []
  unfold b_X11_mostAlike_22 at hrun
  refine g_iload_n C (dat dt_X11_mostAlike 14 rfl) 2 rfl ?_
  refine g_aload_n C (dat dt_X11_mostAlike 15 rfl) 0 rfl ?_
  refine g_getI C (dat dt_X11_mostAlike 16 rfl) fl_11_400 kd_81 rfl ltk_81 ?_
  refine g_ic_ge 69 C (dat dt_X11_mostAlike 17 rfl) (by decide) (fun c6 => ?_) (fun c6 => ?_)
  · rw [if_pos c6] at hrun
    refine g_sub [0] (lv' := [(0, .ref 81)]) rfl ?_
    cases hrun
    exact Ke ( h) rfl
  · rw [if_neg c6] at hrun
    refine g_aload_n C (dat dt_X11_mostAlike 18 rfl) 0 rfl ?_
    refine g_getR C (dat dt_X11_mostAlike 19 rfl) fl_11_96 kd_81 rfl ltk_81 ?_
    refine g_aload_n C (dat dt_X11_mostAlike 20 rfl) 0 rfl ?_
    refine g_getR C (dat dt_X11_mostAlike 21 rfl) fl_11_93 kd_81 rfl ltk_81 ?_
    refine g_bipush C (dat dt_X11_mostAlike 22 rfl) bp_6 ?_
    refine g_iload_n C (dat dt_X11_mostAlike 23 rfl) 2 rfl ?_
    refine g_imul C (dat dt_X11_mostAlike 24 rfl) ?_
    refine g_iload_n C (dat dt_X11_mostAlike 25 rfl) 1 rfl ?_
    refine g_iadd C (dat dt_X11_mostAlike 26 rfl) ?_
    obtain ⟨j7, q8, hrun⟩ := bd hrun
    refine g_iald C (dat dt_X11_mostAlike 27 rfl) kd_103 ltk_103 q8 ?_
    refine g_dup2 C (dat dt_X11_mostAlike 28 rfl) rfl rfl ?_
    obtain ⟨j9, q10, hrun⟩ := bd hrun
    refine g_iald C (dat dt_X11_mostAlike 29 rfl) kd_104 ltk_104 q10 ?_
    refine g_aload_n C (dat dt_X11_mostAlike 30 rfl) 0 rfl ?_
    refine g_getR C (dat dt_X11_mostAlike 31 rfl) fl_11_90 kd_81 rfl ltk_81 ?_
    refine g_iload_n C (dat dt_X11_mostAlike 32 rfl) 2 rfl ?_
    obtain ⟨j11, q12, hrun⟩ := bd hrun
    refine g_zald C (dat dt_X11_mostAlike 33 rfl) kd_102 ltk_102 q12 ?_
    refine g_if_eq 60 C (dat dt_X11_mostAlike 34 rfl) (by decide) (fun c13 => ?_) (fun c13 => ?_)
    · rw [if_pos c13] at hrun
      refine g_iconst C (dat dt_X11_mostAlike 37 rfl) ic_0 ?_
      exact wj_X11_mostAlike_61_22 C    x1 x2 (aI h 103 j7) (aI h 104 j9) (0 : Int32) h _ hrun Ks Ke
    · rw [if_neg c13] at hrun
      refine g_iconst C (dat dt_X11_mostAlike 35 rfl) ic_1 ?_
      refine g_goto 61 C (dat dt_X11_mostAlike 36 rfl) (by decide) ?_
      exact wj_X11_mostAlike_61_22 C    x1 x2 (aI h 103 j7) (aI h 104 j9) (1 : Int32) h _ hrun Ks Ke
def f_X11_mostAlike (x1 : Int32) (h : Hp) : Option (Int32 × Hp) :=
  (lp (fun s => b_X11_mostAlike_2  x1 s.1 s.2) FU ((0 : Int32), h)).bind fun e4 =>
  (lp (fun s => b_X11_mostAlike_22  x1 s.1 s.2) FU ((0 : Int32), e4)).bind fun e16 =>
  (f_X11_greater (aI e16 104 1) (aI e16 104 2)).bind fun v18 =>
  (f_X11_greater (aI e16 104 0) v18).bind fun v20 =>
  some (v20, e16)
set_option maxRecDepth 20000 in
theorem w_X11_mostAlike (x1 : Int32) (h : Hp) (q : (Int32 × Hp))  (hrun : f_X11_mostAlike x1 h = some q) : MetA ⟨"SteamNationsModel", "mostAlike", "(I)I"⟩ prog_13_method_113_code 3 (some .int) 2 0 0 [.ref 81, .int x1] h (some (.int q.1)) q.2 := by
  refine metA_of (by decide) (Nat.le_of_ble_eq_true rfl) (fun X C K => ?_)
  have C : Cx X cn_11 prog_13_method_113_code 3 (some .int) 2 0 0 := C
  show G X h 0 0 0 [(0, .ref 81), (1, .int x1)] []
  unfold f_X11_mostAlike at hrun
  refine g_iconst C (dat dt_X11_mostAlike 0 rfl) ic_0 ?_
  refine g_istore_n (lv' := [(0, .ref 81), (1, .int x1), (2, .int (0 : Int32))]) C (dat dt_X11_mostAlike 1 rfl) (by decide) rfl ?_
  obtain ⟨e4, q5, hrun⟩ := bd hrun
  refine lp_ind (P := fun s => kp_X11_mostAlike_2  x1 X s) (K := fun e => ke_X11_mostAlike_2  x1 X e) (fun s q hb Ks Ke => wb_X11_mostAlike_2 C   x1 s.1 s.2 q hb Ks Ke) FU ((0 : Int32), h) e4 q5 ?_
  show G X e4 0 0 20 [(0, .ref 81), (1, .int x1)] []
  refine g_iconst C (dat dt_X11_mostAlike 12 rfl) ic_0 ?_
  refine g_istore_n (lv' := [(0, .ref 81), (1, .int x1), (2, .int (0 : Int32))]) C (dat dt_X11_mostAlike 13 rfl) (by decide) rfl ?_
  obtain ⟨e16, q17, hrun⟩ := bd hrun
  refine lp_ind (P := fun s => kp_X11_mostAlike_22  x1 X s) (K := fun e => ke_X11_mostAlike_22  x1 X e) (fun s q hb Ks Ke => wb_X11_mostAlike_22 C   x1 s.1 s.2 q hb Ks Ke) FU ((0 : Int32), e4) e16 q17 ?_
  show G X e16 0 0 69 [(0, .ref 81)] []
  refine g_aload_n C (dat dt_X11_mostAlike 42 rfl) 0 rfl ?_
  refine g_getR C (dat dt_X11_mostAlike 43 rfl) fl_11_96 kd_81 rfl ltk_81 ?_
  refine g_iconst C (dat dt_X11_mostAlike 44 rfl) ic_0 ?_
  refine g_iald (j := 0) C (dat dt_X11_mostAlike 45 rfl) kd_104 ltk_104 (show inb (0 : Int32) 3 = some 0 by decide) ?_
  refine g_aload_n C (dat dt_X11_mostAlike 46 rfl) 0 rfl ?_
  refine g_getR C (dat dt_X11_mostAlike 47 rfl) fl_11_96 kd_81 rfl ltk_81 ?_
  refine g_iconst C (dat dt_X11_mostAlike 48 rfl) ic_1 ?_
  refine g_iald (j := 1) C (dat dt_X11_mostAlike 49 rfl) kd_104 ltk_104 (show inb (1 : Int32) 3 = some 1 by decide) ?_
  refine g_aload_n C (dat dt_X11_mostAlike 50 rfl) 0 rfl ?_
  refine g_getR C (dat dt_X11_mostAlike 51 rfl) fl_11_96 kd_81 rfl ltk_81 ?_
  refine g_iconst C (dat dt_X11_mostAlike 52 rfl) ic_2 ?_
  refine g_iald (j := 2) C (dat dt_X11_mostAlike 53 rfl) kd_104 ltk_104 (show inb (2 : Int32) 3 = some 2 by decide) ?_
  obtain ⟨v18, q19, hrun⟩ := bd hrun
  refine g_cSi [.int (aI e16 104 1), .int (aI e16 104 2)] C (dat dt_X11_mostAlike 54 rfl) ml_11_412 (w_X11_greater (aI e16 104 1) (aI e16 104 2) e16 v18  q19) rfl rfl (Nat.le_of_ble_eq_true rfl) (by decide) c00 ?_
  obtain ⟨v20, q21, hrun⟩ := bd hrun
  refine g_cSi [.int (aI e16 104 0), .int v18] C (dat dt_X11_mostAlike 55 rfl) ml_11_412 (w_X11_greater (aI e16 104 0) v18 e16 v20  q21) rfl rfl cat0 (by decide) c00 ?_
  cases hrun
  exact g_iret C K (dat dt_X11_mostAlike 56 rfl)
/-! SteamNationsModel.ones(I)I -/
def dl_X11_ones : List (Nat × Instr × Nat) := [(0, .iconst 0, 1), (1, .istore_n 1, 1), (2, .iconst 0, 1), (3, .istore_n 2, 1), (4, .iload_n 2, 1), (5, .bipush 6, 2), (7, .if_icmp .ge 17, 3), (10, .iload_n 1, 1), (11, .iload_n 0, 1), (12, .iload_n 2, 1), (13, .ishr, 1), (14, .iconst 1, 1), (15, .iand, 1), (16, .iadd, 1), (17, .istore_n 1, 1), (18, .iinc 2 1, 3), (21, .goto (-17), 3), (24, .iload_n 1, 1), (25, .ireturn, 1)]
set_option maxRecDepth 20000 in
theorem dt_X11_ones : ∀ q ∈ dl_X11_ones, decode prog_13_method_8_code q.1 = .ok q.2 := by decide +kernel
def kp_X11_ones_4  (x0 : Int32) (h : Hp) (X : Xt) (s : (Int32 × Int32)) : Prop := G X h 0 0 4 [(0, .int x0), (1, .int s.1), (2, .int s.2)] []
def ke_X11_ones_4  (x0 : Int32) (h : Hp) (X : Xt) (e : Int32) : Prop := G X h 0 0 24 [(1, .int e)] []
def b_X11_ones_4  (x0 : Int32) (x1 : Int32) (x2 : Int32) : Option ((Int32 × Int32) ⊕ Int32) :=
  if (6 : Int32) ≤ x2 then
  some (.inr ( x1))
  else
  some (.inl ((x1 + ((x0 >>> (x2 &&& 31)) &&& (1 : Int32))), (x2 + (1 : Int32))))
set_option maxRecDepth 20000 in
theorem wb_X11_ones_4 {X : Xt} (C : Cx X cn_11 prog_13_method_8_code 3 (some .int) 1 0 0)   (x0 : Int32) (x1 : Int32) (x2 : Int32) (h : Hp) (q : (Int32 × Int32) ⊕ Int32) (hrun : b_X11_ones_4  x0 x1 x2 = some q) (Ks : ∀ s, q = .inl s → kp_X11_ones_4  x0 h X s) (Ke : ∀ e, q = .inr e → ke_X11_ones_4  x0 h X e) : kp_X11_ones_4  x0 h X (x1, x2) := by
  show G X h 0 0 4 [(0, .int x0), (1, .int x1), (2, .int x2)] []
  unfold b_X11_ones_4 at hrun
  refine g_iload_n C (dat dt_X11_ones 4 rfl) 2 rfl ?_
  refine g_bipush C (dat dt_X11_ones 5 rfl) bp_6 ?_
  refine g_ic_ge 24 C (dat dt_X11_ones 6 rfl) (by decide) (fun c1 => ?_) (fun c1 => ?_)
  · rw [if_pos c1] at hrun
    refine g_sub [1] (lv' := [(1, .int x1)]) rfl ?_
    cases hrun
    exact Ke ( x1) rfl
  · rw [if_neg c1] at hrun
    refine g_iload_n C (dat dt_X11_ones 7 rfl) 1 rfl ?_
    refine g_iload_n C (dat dt_X11_ones 8 rfl) 0 rfl ?_
    refine g_iload_n C (dat dt_X11_ones 9 rfl) 2 rfl ?_
    refine g_ishr C (dat dt_X11_ones 10 rfl) ?_
    refine g_iconst C (dat dt_X11_ones 11 rfl) ic_1 ?_
    refine g_iand C (dat dt_X11_ones 12 rfl) ?_
    refine g_iadd C (dat dt_X11_ones 13 rfl) ?_
    refine g_istore_n (lv' := [(0, .int x0), (1, .int (x1 + ((x0 >>> (x2 &&& 31)) &&& (1 : Int32)))), (2, .int x2)]) C (dat dt_X11_ones 14 rfl) (by decide) rfl ?_
    refine g_iinc (v := (x2 + (1 : Int32))) (lv' := [(0, .int x0), (1, .int (x1 + ((x0 >>> (x2 &&& 31)) &&& (1 : Int32)))), (2, .int (x2 + (1 : Int32)))]) C (dat dt_X11_ones 15 rfl) 2 rfl (congrArg (fun z => x2 + z) ic_1) (by decide) rfl ?_
    refine g_goto 4 C (dat dt_X11_ones 16 rfl) (by decide) ?_
    cases hrun
    exact Ks ((x1 + ((x0 >>> (x2 &&& 31)) &&& (1 : Int32))), (x2 + (1 : Int32))) rfl
def f_X11_ones (x0 : Int32) : Option Int32 :=
  (lp (fun s => b_X11_ones_4  x0 s.1 s.2) FU ((0 : Int32), (0 : Int32))).bind fun e2 =>
  some e2
set_option maxRecDepth 20000 in
theorem w_X11_ones (x0 : Int32) (h : Hp) (q : Int32)  (hrun : f_X11_ones x0 = some q) : MetA ⟨"SteamNationsModel", "ones", "(I)I"⟩ prog_13_method_8_code 3 (some .int) 1 0 0 [.int x0] h (some (.int q)) h := by
  refine metA_of (by decide) (Nat.le_of_ble_eq_true rfl) (fun X C K => ?_)
  have C : Cx X cn_11 prog_13_method_8_code 3 (some .int) 1 0 0 := C
  show G X h 0 0 0 [(0, .int x0)] []
  unfold f_X11_ones at hrun
  refine g_iconst C (dat dt_X11_ones 0 rfl) ic_0 ?_
  refine g_istore_n (lv' := [(0, .int x0), (1, .int (0 : Int32))]) C (dat dt_X11_ones 1 rfl) (by decide) rfl ?_
  refine g_iconst C (dat dt_X11_ones 2 rfl) ic_0 ?_
  refine g_istore_n (lv' := [(0, .int x0), (1, .int (0 : Int32)), (2, .int (0 : Int32))]) C (dat dt_X11_ones 3 rfl) (by decide) rfl ?_
  obtain ⟨e2, q3, hrun⟩ := bd hrun
  refine lp_ind (P := fun s => kp_X11_ones_4  x0 h X s) (K := fun e => ke_X11_ones_4  x0 h X e) (fun s q hb Ks Ke => wb_X11_ones_4 C   x0 s.1 s.2 h q hb Ks Ke) FU ((0 : Int32), (0 : Int32)) e2 q3 ?_
  show G X h 0 0 24 [(1, .int e2)] []
  refine g_iload_n C (dat dt_X11_ones 17 rfl) 0 rfl ?_
  cases hrun
  exact g_iret C K (dat dt_X11_ones 18 rfl)
/-! SteamNationsModel.common(II)I -/
def dl_X11_common : List (Nat × Instr × Nat) := [(0, .iconst 0, 1), (1, .istore_n 3, 1), (2, .iconst 0, 1), (3, .istore 4, 2), (5, .iload 4, 2), (7, .iconst 3, 1), (8, .if_icmp .ge 29, 3), (11, .iload_n 3, 1), (12, .aload_n 0, 1), (13, .iload_n 1, 1), (14, .iload 4, 2), (16, .invokevirtual 131, 3), (19, .aload_n 0, 1), (20, .iload_n 2, 1), (21, .iload 4, 2), (23, .invokevirtual 131, 3), (26, .invokestatic 358, 3), (29, .iadd, 1), (30, .istore_n 3, 1), (31, .iinc 4 1, 3), (34, .goto (-29), 3), (37, .iload_n 3, 1), (38, .ireturn, 1)]
set_option maxRecDepth 20000 in
theorem dt_X11_common : ∀ q ∈ dl_X11_common, decode prog_13_method_115_code q.1 = .ok q.2 := by decide +kernel
def kp_X11_common_5  (x1 : Int32) (x2 : Int32) (h : Hp) (X : Xt) (s : (Int32 × Int32)) : Prop := G X h 0 0 5 [(0, .ref 81), (1, .int x1), (2, .int x2), (3, .int s.1), (4, .int s.2)] []
def ke_X11_common_5  (x1 : Int32) (x2 : Int32) (h : Hp) (X : Xt) (e : Int32) : Prop := G X h 0 0 37 [(3, .int e)] []
def b_X11_common_5  (x1 : Int32) (x2 : Int32) (x3 : Int32) (x4 : Int32) (h : Hp) : Option ((Int32 × Int32) ⊕ Int32) :=
  if (3 : Int32) ≤ x4 then
  some (.inr ( x3))
  else
  (f_X11_partsOf x1 x4 h).bind fun v2 =>
  (f_X11_partsOf x2 x4 h).bind fun v4 =>
  (f_X11_lesser v2 v4).bind fun v6 =>
  some (.inl ((x3 + v6), (x4 + (1 : Int32))))
set_option maxRecDepth 20000 in
theorem wb_X11_common_5 {X : Xt} (C : Cx X cn_11 prog_13_method_115_code 5 (some .int) 2 0 0)   (x1 : Int32) (x2 : Int32) (x3 : Int32) (x4 : Int32) (h : Hp) (q : (Int32 × Int32) ⊕ Int32) (hrun : b_X11_common_5  x1 x2 x3 x4 h = some q) (Ks : ∀ s, q = .inl s → kp_X11_common_5  x1 x2 h X s) (Ke : ∀ e, q = .inr e → ke_X11_common_5  x1 x2 h X e) : kp_X11_common_5  x1 x2 h X (x3, x4) := by
  show G X h 0 0 5 [(0, .ref 81), (1, .int x1), (2, .int x2), (3, .int x3), (4, .int x4)] []
  unfold b_X11_common_5 at hrun
  refine g_iload C (dat dt_X11_common 4 rfl) 4 rfl ?_
  refine g_iconst C (dat dt_X11_common 5 rfl) ic_3 ?_
  refine g_ic_ge 37 C (dat dt_X11_common 6 rfl) (by decide) (fun c1 => ?_) (fun c1 => ?_)
  · rw [if_pos c1] at hrun
    refine g_sub [3] (lv' := [(3, .int x3)]) rfl ?_
    cases hrun
    exact Ke ( x3) rfl
  · rw [if_neg c1] at hrun
    refine g_iload_n C (dat dt_X11_common 7 rfl) 3 rfl ?_
    refine g_aload_n C (dat dt_X11_common 8 rfl) 0 rfl ?_
    refine g_iload_n C (dat dt_X11_common 9 rfl) 1 rfl ?_
    refine g_iload C (dat dt_X11_common 10 rfl) 4 rfl ?_
    obtain ⟨v2, q3, hrun⟩ := bd hrun
    refine g_cVi [.int x1, .int x4] C (dat dt_X11_common 11 rfl) ml_11_131 (w_X11_partsOf x1 x4 h v2  q3) kd_81 ltk_81 rfl rfl (Nat.le_of_ble_eq_true rfl) (by decide) c00 ?_
    refine g_aload_n C (dat dt_X11_common 12 rfl) 0 rfl ?_
    refine g_iload_n C (dat dt_X11_common 13 rfl) 2 rfl ?_
    refine g_iload C (dat dt_X11_common 14 rfl) 4 rfl ?_
    obtain ⟨v4, q5, hrun⟩ := bd hrun
    refine g_cVi [.int x2, .int x4] C (dat dt_X11_common 15 rfl) ml_11_131 (w_X11_partsOf x2 x4 h v4  q5) kd_81 ltk_81 rfl rfl (Nat.le_of_ble_eq_true rfl) (by decide) c00 ?_
    obtain ⟨v6, q7, hrun⟩ := bd hrun
    refine g_cSi [.int v2, .int v4] C (dat dt_X11_common 16 rfl) ml_11_358 (w_X11_lesser v2 v4 h v6  q7) rfl rfl (Nat.le_of_ble_eq_true rfl) (by decide) c00 ?_
    refine g_iadd C (dat dt_X11_common 17 rfl) ?_
    refine g_istore_n (lv' := [(0, .ref 81), (1, .int x1), (2, .int x2), (3, .int (x3 + v6)), (4, .int x4)]) C (dat dt_X11_common 18 rfl) (by decide) rfl ?_
    refine g_iinc (v := (x4 + (1 : Int32))) (lv' := [(0, .ref 81), (1, .int x1), (2, .int x2), (3, .int (x3 + v6)), (4, .int (x4 + (1 : Int32)))]) C (dat dt_X11_common 19 rfl) 4 rfl (congrArg (fun z => x4 + z) ic_1) (by decide) rfl ?_
    refine g_goto 5 C (dat dt_X11_common 20 rfl) (by decide) ?_
    cases hrun
    exact Ks ((x3 + v6), (x4 + (1 : Int32))) rfl
def f_X11_common (x1 : Int32) (x2 : Int32) (h : Hp) : Option Int32 :=
  (lp (fun s => b_X11_common_5  x1 x2 s.1 s.2 h) FU ((0 : Int32), (0 : Int32))).bind fun e8 =>
  some e8
set_option maxRecDepth 20000 in
theorem w_X11_common (x1 : Int32) (x2 : Int32) (h : Hp) (q : Int32)  (hrun : f_X11_common x1 x2 h = some q) : MetA ⟨"SteamNationsModel", "common", "(II)I"⟩ prog_13_method_115_code 5 (some .int) 2 0 0 [.ref 81, .int x1, .int x2] h (some (.int q)) h := by
  refine metA_of (by decide) (Nat.le_of_ble_eq_true rfl) (fun X C K => ?_)
  have C : Cx X cn_11 prog_13_method_115_code 5 (some .int) 2 0 0 := C
  show G X h 0 0 0 [(0, .ref 81), (1, .int x1), (2, .int x2)] []
  unfold f_X11_common at hrun
  refine g_iconst C (dat dt_X11_common 0 rfl) ic_0 ?_
  refine g_istore_n (lv' := [(0, .ref 81), (1, .int x1), (2, .int x2), (3, .int (0 : Int32))]) C (dat dt_X11_common 1 rfl) (by decide) rfl ?_
  refine g_iconst C (dat dt_X11_common 2 rfl) ic_0 ?_
  refine g_istore (lv' := [(0, .ref 81), (1, .int x1), (2, .int x2), (3, .int (0 : Int32)), (4, .int (0 : Int32))]) C (dat dt_X11_common 3 rfl) (by decide) rfl ?_
  obtain ⟨e8, q9, hrun⟩ := bd hrun
  refine lp_ind (P := fun s => kp_X11_common_5  x1 x2 h X s) (K := fun e => ke_X11_common_5  x1 x2 h X e) (fun s q hb Ks Ke => wb_X11_common_5 C   x1 x2 s.1 s.2 h q hb Ks Ke) FU ((0 : Int32), (0 : Int32)) e8 q9 ?_
  show G X h 0 0 37 [(3, .int e8)] []
  refine g_iload_n C (dat dt_X11_common 21 rfl) 0 rfl ?_
  cases hrun
  exact g_iret C K (dat dt_X11_common 22 rfl)
/-! SteamNationsModel.isTreaty(II)Z -/
def dl_X11_isTreaty : List (Nat × Instr × Nat) := [(0, .iconst 1, 1), (1, .istore_n 3, 1), (2, .iconst 0, 1), (3, .istore 4, 2), (5, .iload 4, 2), (7, .aload_n 0, 1), (8, .invokevirtual 127, 3), (11, .if_icmp .ge 70, 3), (14, .iload 4, 2), (16, .iconst 1, 1), (17, .iadd, 1), (18, .istore 5, 2), (20, .iload 5, 2), (22, .aload_n 0, 1), (23, .invokevirtual 127, 3), (26, .if_icmp .ge 49, 3), (29, .iload_n 3, 1), (30, .ifCond .eq 37, 3), (33, .iload_n 1, 1), (34, .iload 4, 2), (36, .invokestatic 403, 3), (39, .ifCond .eq 24, 3), (42, .iload_n 1, 1), (43, .iload 5, 2), (45, .invokestatic 403, 3), (48, .ifCond .eq 15, 3), (51, .aload_n 0, 1), (52, .iload 4, 2), (54, .iload 5, 2), (56, .invokevirtual 442, 3), (59, .iload_n 2, 1), (60, .if_icmp .lt 7, 3), (63, .iconst 1, 1), (64, .goto 4, 3), (67, .iconst 0, 1), (68, .istore_n 3, 1), (69, .iinc 5 1, 3), (72, .goto (-52), 3), (75, .iinc 4 1, 3), (78, .goto (-73), 3), (81, .iload_n 3, 1), (82, .ireturn, 1)]
set_option maxRecDepth 20000 in
theorem dt_X11_isTreaty : ∀ q ∈ dl_X11_isTreaty, decode prog_13_method_116_code q.1 = .ok q.2 := by decide +kernel
def kp_X11_isTreaty_5  (x1 : Int32) (x2 : Int32) (h : Hp) (X : Xt) (s : (Int32 × Int32)) : Prop := G X h 0 0 5 [(0, .ref 81), (1, .int x1), (2, .int x2), (3, .int s.1), (4, .int s.2)] []
def ke_X11_isTreaty_5  (x1 : Int32) (x2 : Int32) (h : Hp) (X : Xt) (e : Int32) : Prop := G X h 0 0 81 [(3, .int e)] []
def kp_X11_isTreaty_20_5  (x1 : Int32) (x2 : Int32) (x4 : Int32) (h : Hp) (X : Xt) (s : (Int32 × Int32)) : Prop := G X h 0 0 20 [(0, .ref 81), (1, .int x1), (2, .int x2), (3, .int s.1), (4, .int x4), (5, .int s.2)] []
def ke_X11_isTreaty_20_5  (x1 : Int32) (x2 : Int32) (x4 : Int32) (h : Hp) (X : Xt) (e : Int32) : Prop := G X h 0 0 75 [(0, .ref 81), (1, .int x1), (2, .int x2), (3, .int e), (4, .int x4)] []
def j_X11_isTreaty_68_20  (x1 : Int32) (x2 : Int32) (x4 : Int32) (x5 : Int32) (s0 : Int32) (h : Hp) : Option ((Int32 × Int32) ⊕ Int32) :=
  some (.inl (s0, (x5 + (1 : Int32))))
set_option maxRecDepth 20000 in
theorem wj_X11_isTreaty_68_20 {X : Xt} (C : Cx X cn_11 prog_13_method_116_code 6 (some .boolean) 3 0 0)    (x1 : Int32) (x2 : Int32) (x4 : Int32) (x5 : Int32) (s0 : Int32) (h : Hp) (q : (Int32 × Int32) ⊕ Int32) (hrun : j_X11_isTreaty_68_20  x1 x2 x4 x5 s0 h = some q) (Ks : ∀ s, q = .inl s → kp_X11_isTreaty_20_5  x1 x2 x4 h X s) (Ke : ∀ e, q = .inr e → ke_X11_isTreaty_20_5  x1 x2 x4 h X e) : G X h 0 0 68 [(0, .ref 81), (1, .int x1), (2, .int x2), (4, .int x4), (5, .int x5)] [.int s0] := by
  unfold j_X11_isTreaty_68_20 at hrun
  refine g_istore_n (lv' := [(0, .ref 81), (1, .int x1), (2, .int x2), (3, .int s0), (4, .int x4), (5, .int x5)]) C (dat dt_X11_isTreaty 35 rfl) (by decide) rfl ?_
  refine g_iinc (v := (x5 + (1 : Int32))) (lv' := [(0, .ref 81), (1, .int x1), (2, .int x2), (3, .int s0), (4, .int x4), (5, .int (x5 + (1 : Int32)))]) C (dat dt_X11_isTreaty 36 rfl) 5 rfl (congrArg (fun z => x5 + z) ic_1) (by decide) rfl ?_
  refine g_goto 20 C (dat dt_X11_isTreaty 37 rfl) (by decide) ?_
  cases hrun
  exact Ks (s0, (x5 + (1 : Int32))) rfl
def j_X11_isTreaty_67_20  (x1 : Int32) (x2 : Int32) (x4 : Int32) (x5 : Int32) (h : Hp) : Option ((Int32 × Int32) ⊕ Int32) :=
  j_X11_isTreaty_68_20  x1 x2 x4 x5 (0 : Int32) h
set_option maxRecDepth 20000 in
theorem wj_X11_isTreaty_67_20 {X : Xt} (C : Cx X cn_11 prog_13_method_116_code 6 (some .boolean) 3 0 0)    (x1 : Int32) (x2 : Int32) (x4 : Int32) (x5 : Int32) (h : Hp) (q : (Int32 × Int32) ⊕ Int32) (hrun : j_X11_isTreaty_67_20  x1 x2 x4 x5 h = some q) (Ks : ∀ s, q = .inl s → kp_X11_isTreaty_20_5  x1 x2 x4 h X s) (Ke : ∀ e, q = .inr e → ke_X11_isTreaty_20_5  x1 x2 x4 h X e) : G X h 0 0 67 [(0, .ref 81), (1, .int x1), (2, .int x2), (4, .int x4), (5, .int x5)] [] := by
  unfold j_X11_isTreaty_67_20 at hrun
  refine g_iconst C (dat dt_X11_isTreaty 34 rfl) ic_0 ?_
  exact wj_X11_isTreaty_68_20 C    x1 x2 x4 x5 (0 : Int32) h _ hrun Ks Ke
def b_X11_isTreaty_20_5  (x1 : Int32) (x2 : Int32) (x4 : Int32) (x3 : Int32) (x5 : Int32) (h : Hp) : Option ((Int32 × Int32) ⊕ Int32) :=
  (f_X11_many  h).bind fun v4 =>
  if v4 ≤ x5 then
  some (.inr ( x3))
  else
  if x3 = 0 then
  j_X11_isTreaty_67_20  x1 x2 x4 x5 h
  else
  (f_X11_isIn x1 x4).bind fun v8 =>
  if v8 = true then
  (f_X11_isIn x1 x5).bind fun v11 =>
  if v11 = true then
  (f_X11_common x4 x5 h).bind fun v14 =>
  if v14 < x2 then
  j_X11_isTreaty_67_20  x1 x2 x4 x5 h
  else
  j_X11_isTreaty_68_20  x1 x2 x4 x5 (1 : Int32) h
  else
  j_X11_isTreaty_68_20  x1 x2 x4 x5 (1 : Int32) h
  else
  j_X11_isTreaty_68_20  x1 x2 x4 x5 (1 : Int32) h
set_option maxRecDepth 20000 in
theorem wb_X11_isTreaty_20_5 {X : Xt} (C : Cx X cn_11 prog_13_method_116_code 6 (some .boolean) 3 0 0)   (x1 : Int32) (x2 : Int32) (x4 : Int32) (x3 : Int32) (x5 : Int32) (h : Hp) (q : (Int32 × Int32) ⊕ Int32) (hrun : b_X11_isTreaty_20_5  x1 x2 x4 x3 x5 h = some q) (Ks : ∀ s, q = .inl s → kp_X11_isTreaty_20_5  x1 x2 x4 h X s) (Ke : ∀ e, q = .inr e → ke_X11_isTreaty_20_5  x1 x2 x4 h X e) : kp_X11_isTreaty_20_5  x1 x2 x4 h X (x3, x5) := by
  show G X h 0 0 20 [(0, .ref 81), (1, .int x1), (2, .int x2), (3, .int x3), (4, .int x4), (5, .int x5)] []
  unfold b_X11_isTreaty_20_5 at hrun
  refine g_iload C (dat dt_X11_isTreaty 12 rfl) 5 rfl ?_
  refine g_aload_n C (dat dt_X11_isTreaty 13 rfl) 0 rfl ?_
  obtain ⟨v4, q5, hrun⟩ := bd hrun
  refine g_cVi [] C (dat dt_X11_isTreaty 14 rfl) ml_11_127 (w_X11_many  h v4  q5) kd_81 ltk_81 rfl rfl (Nat.le_of_ble_eq_true rfl) (by decide) c00 ?_
  refine g_ic_ge 75 C (dat dt_X11_isTreaty 15 rfl) (by decide) (fun c6 => ?_) (fun c6 => ?_)
  · rw [if_pos c6] at hrun
    refine g_sub [0, 1, 2, 3, 4] (lv' := [(0, .ref 81), (1, .int x1), (2, .int x2), (3, .int x3), (4, .int x4)]) rfl ?_
    cases hrun
    exact Ke ( x3) rfl
  · rw [if_neg c6] at hrun
    refine g_iload_n C (dat dt_X11_isTreaty 16 rfl) 3 rfl ?_
    refine g_if_eq 67 C (dat dt_X11_isTreaty 17 rfl) (by decide) (fun c7 => ?_) (fun c7 => ?_)
    · rw [if_pos c7] at hrun
      refine g_sub [0, 1, 2, 4, 5] (lv' := [(0, .ref 81), (1, .int x1), (2, .int x2), (4, .int x4), (5, .int x5)]) rfl ?_
      exact wj_X11_isTreaty_67_20 C    x1 x2 x4 x5 h _ hrun Ks Ke
    · rw [if_neg c7] at hrun
      refine g_iload_n C (dat dt_X11_isTreaty 18 rfl) 1 rfl ?_
      refine g_iload C (dat dt_X11_isTreaty 19 rfl) 4 rfl ?_
      obtain ⟨v8, q9, hrun⟩ := bd hrun
      refine g_cSi [.int x1, .int x4] C (dat dt_X11_isTreaty 20 rfl) ml_11_403 (w_X11_isIn x1 x4 h v8  q9) rfl rfl cat0 (by decide) c00 ?_
      refine g_if_eq 63 C (dat dt_X11_isTreaty 21 rfl) (by decide) (fun c10 => ?_) (fun c10 => ?_)
      · rw [if_neg (b2i_z c10)] at hrun
        refine g_iconst C (dat dt_X11_isTreaty 32 rfl) ic_1 ?_
        refine g_goto 68 C (dat dt_X11_isTreaty 33 rfl) (by decide) ?_
        refine g_sub [0, 1, 2, 4, 5] (lv' := [(0, .ref 81), (1, .int x1), (2, .int x2), (4, .int x4), (5, .int x5)]) rfl ?_
        exact wj_X11_isTreaty_68_20 C    x1 x2 x4 x5 (1 : Int32) h _ hrun Ks Ke
      · rw [if_pos (b2i_nz c10)] at hrun
        refine g_iload_n C (dat dt_X11_isTreaty 22 rfl) 1 rfl ?_
        refine g_iload C (dat dt_X11_isTreaty 23 rfl) 5 rfl ?_
        obtain ⟨v11, q12, hrun⟩ := bd hrun
        refine g_cSi [.int x1, .int x5] C (dat dt_X11_isTreaty 24 rfl) ml_11_403 (w_X11_isIn x1 x5 h v11  q12) rfl rfl cat0 (by decide) c00 ?_
        refine g_if_eq 63 C (dat dt_X11_isTreaty 25 rfl) (by decide) (fun c13 => ?_) (fun c13 => ?_)
        · rw [if_neg (b2i_z c13)] at hrun
          refine g_iconst C (dat dt_X11_isTreaty 32 rfl) ic_1 ?_
          refine g_goto 68 C (dat dt_X11_isTreaty 33 rfl) (by decide) ?_
          refine g_sub [0, 1, 2, 4, 5] (lv' := [(0, .ref 81), (1, .int x1), (2, .int x2), (4, .int x4), (5, .int x5)]) rfl ?_
          exact wj_X11_isTreaty_68_20 C    x1 x2 x4 x5 (1 : Int32) h _ hrun Ks Ke
        · rw [if_pos (b2i_nz c13)] at hrun
          refine g_aload_n C (dat dt_X11_isTreaty 26 rfl) 0 rfl ?_
          refine g_iload C (dat dt_X11_isTreaty 27 rfl) 4 rfl ?_
          refine g_iload C (dat dt_X11_isTreaty 28 rfl) 5 rfl ?_
          obtain ⟨v14, q15, hrun⟩ := bd hrun
          refine g_cVi [.int x4, .int x5] C (dat dt_X11_isTreaty 29 rfl) ml_11_442 (w_X11_common x4 x5 h v14  q15) kd_81 ltk_81 rfl rfl cat0 (by decide) c00 ?_
          refine g_iload_n C (dat dt_X11_isTreaty 30 rfl) 2 rfl ?_
          refine g_ic_lt 67 C (dat dt_X11_isTreaty 31 rfl) (by decide) (fun c16 => ?_) (fun c16 => ?_)
          · rw [if_pos c16] at hrun
            refine g_sub [0, 1, 2, 4, 5] (lv' := [(0, .ref 81), (1, .int x1), (2, .int x2), (4, .int x4), (5, .int x5)]) rfl ?_
            exact wj_X11_isTreaty_67_20 C    x1 x2 x4 x5 h _ hrun Ks Ke
          · rw [if_neg c16] at hrun
            refine g_iconst C (dat dt_X11_isTreaty 32 rfl) ic_1 ?_
            refine g_goto 68 C (dat dt_X11_isTreaty 33 rfl) (by decide) ?_
            refine g_sub [0, 1, 2, 4, 5] (lv' := [(0, .ref 81), (1, .int x1), (2, .int x2), (4, .int x4), (5, .int x5)]) rfl ?_
            exact wj_X11_isTreaty_68_20 C    x1 x2 x4 x5 (1 : Int32) h _ hrun Ks Ke
def b_X11_isTreaty_5  (x1 : Int32) (x2 : Int32) (x3 : Int32) (x4 : Int32) (h : Hp) : Option ((Int32 × Int32) ⊕ Int32) :=
  (f_X11_many  h).bind fun v1 =>
  if v1 ≤ x4 then
  some (.inr ( x3))
  else
  (lp (fun s => b_X11_isTreaty_20_5  x1 x2 x4 s.1 s.2 h) FU (x3, (x4 + (1 : Int32)))).bind fun e17 =>
  some (.inl (e17, (x4 + (1 : Int32))))
set_option maxRecDepth 20000 in
theorem wb_X11_isTreaty_5 {X : Xt} (C : Cx X cn_11 prog_13_method_116_code 6 (some .boolean) 3 0 0)   (x1 : Int32) (x2 : Int32) (x3 : Int32) (x4 : Int32) (h : Hp) (q : (Int32 × Int32) ⊕ Int32) (hrun : b_X11_isTreaty_5  x1 x2 x3 x4 h = some q) (Ks : ∀ s, q = .inl s → kp_X11_isTreaty_5  x1 x2 h X s) (Ke : ∀ e, q = .inr e → ke_X11_isTreaty_5  x1 x2 h X e) : kp_X11_isTreaty_5  x1 x2 h X (x3, x4) := by
  show G X h 0 0 5 [(0, .ref 81), (1, .int x1), (2, .int x2), (3, .int x3), (4, .int x4)] []
  unfold b_X11_isTreaty_5 at hrun
  refine g_iload C (dat dt_X11_isTreaty 4 rfl) 4 rfl ?_
  refine g_aload_n C (dat dt_X11_isTreaty 5 rfl) 0 rfl ?_
  obtain ⟨v1, q2, hrun⟩ := bd hrun
  refine g_cVi [] C (dat dt_X11_isTreaty 6 rfl) ml_11_127 (w_X11_many  h v1  q2) kd_81 ltk_81 rfl rfl (Nat.le_of_ble_eq_true rfl) (by decide) c00 ?_
  refine g_ic_ge 81 C (dat dt_X11_isTreaty 7 rfl) (by decide) (fun c3 => ?_) (fun c3 => ?_)
  · rw [if_pos c3] at hrun
    refine g_sub [3] (lv' := [(3, .int x3)]) rfl ?_
    cases hrun
    exact Ke ( x3) rfl
  · rw [if_neg c3] at hrun
    refine g_iload C (dat dt_X11_isTreaty 8 rfl) 4 rfl ?_
    refine g_iconst C (dat dt_X11_isTreaty 9 rfl) ic_1 ?_
    refine g_iadd C (dat dt_X11_isTreaty 10 rfl) ?_
    refine g_istore (lv' := [(0, .ref 81), (1, .int x1), (2, .int x2), (3, .int x3), (4, .int x4), (5, .int (x4 + (1 : Int32)))]) C (dat dt_X11_isTreaty 11 rfl) (by decide) rfl ?_
    obtain ⟨e17, q18, hrun⟩ := bd hrun
    refine lp_ind (P := fun s => kp_X11_isTreaty_20_5  x1 x2 x4 h X s) (K := fun e => ke_X11_isTreaty_20_5  x1 x2 x4 h X e) (fun s q hb Ks Ke => wb_X11_isTreaty_20_5 C   x1 x2 x4 s.1 s.2 h q hb Ks Ke) FU (x3, (x4 + (1 : Int32))) e17 q18 ?_
    show G X h 0 0 75 [(0, .ref 81), (1, .int x1), (2, .int x2), (3, .int e17), (4, .int x4)] []
    refine g_iinc (v := (x4 + (1 : Int32))) (lv' := [(0, .ref 81), (1, .int x1), (2, .int x2), (3, .int e17), (4, .int (x4 + (1 : Int32)))]) C (dat dt_X11_isTreaty 38 rfl) 4 rfl (congrArg (fun z => x4 + z) ic_1) (by decide) rfl ?_
    refine g_goto 5 C (dat dt_X11_isTreaty 39 rfl) (by decide) ?_
    cases hrun
    exact Ks (e17, (x4 + (1 : Int32))) rfl
def f_X11_isTreaty (x1 : Int32) (x2 : Int32) (h : Hp) : Option Bool :=
  (lp (fun s => b_X11_isTreaty_5  x1 x2 s.1 s.2 h) FU ((1 : Int32), (0 : Int32))).bind fun e19 =>
  (i2b e19).bind fun b21 => some b21
set_option maxRecDepth 20000 in
theorem w_X11_isTreaty (x1 : Int32) (x2 : Int32) (h : Hp) (q : Bool)  (hrun : f_X11_isTreaty x1 x2 h = some q) : MetA ⟨"SteamNationsModel", "isTreaty", "(II)Z"⟩ prog_13_method_116_code 6 (some .boolean) 3 0 0 [.ref 81, .int x1, .int x2] h (some (.int (b2i q))) h := by
  refine metA_of (by decide) (Nat.le_of_ble_eq_true rfl) (fun X C K => ?_)
  have C : Cx X cn_11 prog_13_method_116_code 6 (some .boolean) 3 0 0 := C
  show G X h 0 0 0 [(0, .ref 81), (1, .int x1), (2, .int x2)] []
  unfold f_X11_isTreaty at hrun
  refine g_iconst C (dat dt_X11_isTreaty 0 rfl) ic_1 ?_
  refine g_istore_n (lv' := [(0, .ref 81), (1, .int x1), (2, .int x2), (3, .int (1 : Int32))]) C (dat dt_X11_isTreaty 1 rfl) (by decide) rfl ?_
  refine g_iconst C (dat dt_X11_isTreaty 2 rfl) ic_0 ?_
  refine g_istore (lv' := [(0, .ref 81), (1, .int x1), (2, .int x2), (3, .int (1 : Int32)), (4, .int (0 : Int32))]) C (dat dt_X11_isTreaty 3 rfl) (by decide) rfl ?_
  obtain ⟨e19, q20, hrun⟩ := bd hrun
  refine lp_ind (P := fun s => kp_X11_isTreaty_5  x1 x2 h X s) (K := fun e => ke_X11_isTreaty_5  x1 x2 h X e) (fun s q hb Ks Ke => wb_X11_isTreaty_5 C   x1 x2 s.1 s.2 h q hb Ks Ke) FU ((1 : Int32), (0 : Int32)) e19 q20 ?_
  show G X h 0 0 81 [(3, .int e19)] []
  refine g_iload_n C (dat dt_X11_isTreaty 40 rfl) 0 rfl ?_
  obtain ⟨b21, q22, hrun⟩ := bd hrun
  cases hrun
  exact g_zret C K (i2b_eq q22) (dat dt_X11_isTreaty 41 rfl)
/-! SteamNationsModel.treaty(II)I -/
def dl_X11_treaty : List (Nat × Instr × Nat) := [(0, .iload_n 1, 1), (1, .iconst 1, 1), (2, .bipush 99, 2), (4, .invokestatic 18, 3), (7, .ifCond .eq 12, 3), (10, .iload_n 2, 1), (11, .iconst 0, 1), (12, .iconst 1, 1), (13, .invokestatic 18, 3), (16, .ifCond .ne 5, 3), (19, .iconst (-1), 1), (20, .ireturn, 1), (21, .iconst 0, 1), (22, .istore_n 3, 1), (23, .iconst 1, 1), (24, .istore 4, 2), (26, .iload 4, 2), (28, .iconst 1, 1), (29, .aload_n 0, 1), (30, .invokevirtual 127, 3), (33, .ishl, 1), (34, .if_icmp .ge 34, 3), (37, .iload 4, 2), (39, .invokestatic 445, 3), (42, .iload_n 3, 1), (43, .invokestatic 445, 3), (46, .if_icmp .le 16, 3), (49, .aload_n 0, 1), (50, .iload 4, 2), (52, .iload_n 1, 1), (53, .invokevirtual 448, 3), (56, .ifCond .eq 6, 3), (59, .iload 4, 2), (61, .istore_n 3, 1), (62, .iinc 4 1, 3), (65, .goto (-39), 3), (68, .iload_n 2, 1), (69, .ifCond .ne 10, 3), (72, .iload_n 3, 1), (73, .invokestatic 445, 3), (76, .goto 4, 3), (79, .iload_n 3, 1), (80, .ireturn, 1)]
set_option maxRecDepth 20000 in
theorem dt_X11_treaty : ∀ q ∈ dl_X11_treaty, decode prog_13_method_117_code q.1 = .ok q.2 := by decide +kernel
def kp_X11_treaty_26  (x1 : Int32) (x2 : Int32) (h : Hp) (X : Xt) (s : (Int32 × Int32)) : Prop := G X h 0 0 26 [(0, .ref 81), (1, .int x1), (2, .int x2), (3, .int s.1), (4, .int s.2)] []
def ke_X11_treaty_26  (x1 : Int32) (x2 : Int32) (h : Hp) (X : Xt) (e : Int32) : Prop := G X h 0 0 68 [(2, .int x2), (3, .int e)] []
def b_X11_treaty_26  (x1 : Int32) (x2 : Int32) (x3 : Int32) (x4 : Int32) (h : Hp) : Option ((Int32 × Int32) ⊕ Int32) :=
  (f_X11_many  h).bind fun v7 =>
  if ((1 : Int32) <<< (v7 &&& 31)) ≤ x4 then
  some (.inr ( x3))
  else
  (f_X11_ones x4).bind fun v10 =>
  (f_X11_ones x3).bind fun v12 =>
  if v10 ≤ v12 then
  some (.inl (x3, (x4 + (1 : Int32))))
  else
  (f_X11_isTreaty x4 x1 h).bind fun v15 =>
  if v15 = true then
  some (.inl (x4, (x4 + (1 : Int32))))
  else
  some (.inl (x3, (x4 + (1 : Int32))))
set_option maxRecDepth 20000 in
theorem wb_X11_treaty_26 {X : Xt} (C : Cx X cn_11 prog_13_method_117_code 5 (some .int) 4 0 0)   (x1 : Int32) (x2 : Int32) (x3 : Int32) (x4 : Int32) (h : Hp) (q : (Int32 × Int32) ⊕ Int32) (hrun : b_X11_treaty_26  x1 x2 x3 x4 h = some q) (Ks : ∀ s, q = .inl s → kp_X11_treaty_26  x1 x2 h X s) (Ke : ∀ e, q = .inr e → ke_X11_treaty_26  x1 x2 h X e) : kp_X11_treaty_26  x1 x2 h X (x3, x4) := by
  show G X h 0 0 26 [(0, .ref 81), (1, .int x1), (2, .int x2), (3, .int x3), (4, .int x4)] []
  unfold b_X11_treaty_26 at hrun
  refine g_iload C (dat dt_X11_treaty 16 rfl) 4 rfl ?_
  refine g_iconst C (dat dt_X11_treaty 17 rfl) ic_1 ?_
  refine g_aload_n C (dat dt_X11_treaty 18 rfl) 0 rfl ?_
  obtain ⟨v7, q8, hrun⟩ := bd hrun
  refine g_cVi [] C (dat dt_X11_treaty 19 rfl) ml_11_127 (w_X11_many  h v7  q8) kd_81 ltk_81 rfl rfl (Nat.le_of_ble_eq_true rfl) (by decide) c00 ?_
  refine g_ishl C (dat dt_X11_treaty 20 rfl) ?_
  refine g_ic_ge 68 C (dat dt_X11_treaty 21 rfl) (by decide) (fun c9 => ?_) (fun c9 => ?_)
  · rw [if_pos c9] at hrun
    refine g_sub [2, 3] (lv' := [(2, .int x2), (3, .int x3)]) rfl ?_
    cases hrun
    exact Ke ( x3) rfl
  · rw [if_neg c9] at hrun
    refine g_iload C (dat dt_X11_treaty 22 rfl) 4 rfl ?_
    obtain ⟨v10, q11, hrun⟩ := bd hrun
    refine g_cSi [.int x4] C (dat dt_X11_treaty 23 rfl) ml_11_445 (w_X11_ones x4 h v10  q11) rfl rfl cat0 (by decide) c00 ?_
    refine g_iload_n C (dat dt_X11_treaty 24 rfl) 3 rfl ?_
    obtain ⟨v12, q13, hrun⟩ := bd hrun
    refine g_cSi [.int x3] C (dat dt_X11_treaty 25 rfl) ml_11_445 (w_X11_ones x3 h v12  q13) rfl rfl (Nat.le_of_ble_eq_true rfl) (by decide) c00 ?_
    refine g_ic_le 62 C (dat dt_X11_treaty 26 rfl) (by decide) (fun c14 => ?_) (fun c14 => ?_)
    · rw [if_pos c14] at hrun
      refine g_iinc (v := (x4 + (1 : Int32))) (lv' := [(0, .ref 81), (1, .int x1), (2, .int x2), (3, .int x3), (4, .int (x4 + (1 : Int32)))]) C (dat dt_X11_treaty 34 rfl) 4 rfl (congrArg (fun z => x4 + z) ic_1) (by decide) rfl ?_
      refine g_goto 26 C (dat dt_X11_treaty 35 rfl) (by decide) ?_
      cases hrun
      exact Ks (x3, (x4 + (1 : Int32))) rfl
    · rw [if_neg c14] at hrun
      refine g_aload_n C (dat dt_X11_treaty 27 rfl) 0 rfl ?_
      refine g_iload C (dat dt_X11_treaty 28 rfl) 4 rfl ?_
      refine g_iload_n C (dat dt_X11_treaty 29 rfl) 1 rfl ?_
      obtain ⟨v15, q16, hrun⟩ := bd hrun
      refine g_cVi [.int x4, .int x1] C (dat dt_X11_treaty 30 rfl) ml_11_448 (w_X11_isTreaty x4 x1 h v15  q16) kd_81 ltk_81 rfl rfl cat0 (by decide) c00 ?_
      refine g_if_eq 62 C (dat dt_X11_treaty 31 rfl) (by decide) (fun c17 => ?_) (fun c17 => ?_)
      · rw [if_neg (b2i_z c17)] at hrun
        refine g_iinc (v := (x4 + (1 : Int32))) (lv' := [(0, .ref 81), (1, .int x1), (2, .int x2), (3, .int x3), (4, .int (x4 + (1 : Int32)))]) C (dat dt_X11_treaty 34 rfl) 4 rfl (congrArg (fun z => x4 + z) ic_1) (by decide) rfl ?_
        refine g_goto 26 C (dat dt_X11_treaty 35 rfl) (by decide) ?_
        cases hrun
        exact Ks (x3, (x4 + (1 : Int32))) rfl
      · rw [if_pos (b2i_nz c17)] at hrun
        refine g_iload C (dat dt_X11_treaty 32 rfl) 4 rfl ?_
        refine g_istore_n (lv' := [(0, .ref 81), (1, .int x1), (2, .int x2), (3, .int x4), (4, .int x4)]) C (dat dt_X11_treaty 33 rfl) (by decide) rfl ?_
        refine g_iinc (v := (x4 + (1 : Int32))) (lv' := [(0, .ref 81), (1, .int x1), (2, .int x2), (3, .int x4), (4, .int (x4 + (1 : Int32)))]) C (dat dt_X11_treaty 34 rfl) 4 rfl (congrArg (fun z => x4 + z) ic_1) (by decide) rfl ?_
        refine g_goto 26 C (dat dt_X11_treaty 35 rfl) (by decide) ?_
        cases hrun
        exact Ks (x4, (x4 + (1 : Int32))) rfl
def f_X11_treaty (x1 : Int32) (x2 : Int32) (h : Hp) : Option Int32 :=
  (f_X11_lies x1 (1 : Int32) (99 : Int32)).bind fun v1 =>
  if v1 = true then
  (f_X11_lies x2 (0 : Int32) (1 : Int32)).bind fun v4 =>
  if v4 = true then
  (lp (fun s => b_X11_treaty_26  x1 x2 s.1 s.2 h) FU ((0 : Int32), (1 : Int32))).bind fun e18 =>
  if x2 = 0 then
  (f_X11_ones e18).bind fun v21 =>
  some v21
  else
  some e18
  else
  some (-1 : Int32)
  else
  some (-1 : Int32)
set_option maxRecDepth 20000 in
theorem w_X11_treaty (x1 : Int32) (x2 : Int32) (h : Hp) (q : Int32)  (hrun : f_X11_treaty x1 x2 h = some q) : MetA ⟨"SteamNationsModel", "treaty", "(II)I"⟩ prog_13_method_117_code 5 (some .int) 4 0 0 [.ref 81, .int x1, .int x2] h (some (.int q)) h := by
  refine metA_of (by decide) (Nat.le_of_ble_eq_true rfl) (fun X C K => ?_)
  have C : Cx X cn_11 prog_13_method_117_code 5 (some .int) 4 0 0 := C
  show G X h 0 0 0 [(0, .ref 81), (1, .int x1), (2, .int x2)] []
  unfold f_X11_treaty at hrun
  refine g_iload_n C (dat dt_X11_treaty 0 rfl) 1 rfl ?_
  refine g_iconst C (dat dt_X11_treaty 1 rfl) ic_1 ?_
  refine g_bipush C (dat dt_X11_treaty 2 rfl) bp_99 ?_
  obtain ⟨v1, q2, hrun⟩ := bd hrun
  refine g_cSi [.int x1, .int (1 : Int32), .int (99 : Int32)] C (dat dt_X11_treaty 3 rfl) ml_11_18 (w_X11_lies x1 (1 : Int32) (99 : Int32) h v1  q2) rfl rfl cat0 (by decide) c00 ?_
  refine g_if_eq 19 C (dat dt_X11_treaty 4 rfl) (by decide) (fun c3 => ?_) (fun c3 => ?_)
  · rw [if_neg (b2i_z c3)] at hrun
    refine g_iconst C (dat dt_X11_treaty 10 rfl) ic_m1 ?_
    cases hrun
    exact g_iret C K (dat dt_X11_treaty 11 rfl)
  · rw [if_pos (b2i_nz c3)] at hrun
    refine g_iload_n C (dat dt_X11_treaty 5 rfl) 2 rfl ?_
    refine g_iconst C (dat dt_X11_treaty 6 rfl) ic_0 ?_
    refine g_iconst C (dat dt_X11_treaty 7 rfl) ic_1 ?_
    obtain ⟨v4, q5, hrun⟩ := bd hrun
    refine g_cSi [.int x2, .int (0 : Int32), .int (1 : Int32)] C (dat dt_X11_treaty 8 rfl) ml_11_18 (w_X11_lies x2 (0 : Int32) (1 : Int32) h v4  q5) rfl rfl cat0 (by decide) c00 ?_
    refine g_if_ne 21 C (dat dt_X11_treaty 9 rfl) (by decide) (fun c6 => ?_) (fun c6 => ?_)
    · rw [if_pos (b2i_nz c6)] at hrun
      refine g_iconst C (dat dt_X11_treaty 12 rfl) ic_0 ?_
      refine g_istore_n (lv' := [(0, .ref 81), (1, .int x1), (2, .int x2), (3, .int (0 : Int32))]) C (dat dt_X11_treaty 13 rfl) (by decide) rfl ?_
      refine g_iconst C (dat dt_X11_treaty 14 rfl) ic_1 ?_
      refine g_istore (lv' := [(0, .ref 81), (1, .int x1), (2, .int x2), (3, .int (0 : Int32)), (4, .int (1 : Int32))]) C (dat dt_X11_treaty 15 rfl) (by decide) rfl ?_
      obtain ⟨e18, q19, hrun⟩ := bd hrun
      refine lp_ind (P := fun s => kp_X11_treaty_26  x1 x2 h X s) (K := fun e => ke_X11_treaty_26  x1 x2 h X e) (fun s q hb Ks Ke => wb_X11_treaty_26 C   x1 x2 s.1 s.2 h q hb Ks Ke) FU ((0 : Int32), (1 : Int32)) e18 q19 ?_
      show G X h 0 0 68 [(2, .int x2), (3, .int e18)] []
      refine g_iload_n C (dat dt_X11_treaty 36 rfl) 0 rfl ?_
      refine g_if_ne 79 C (dat dt_X11_treaty 37 rfl) (by decide) (fun c20 => ?_) (fun c20 => ?_)
      · rw [if_neg c20] at hrun
        refine g_iload_n C (dat dt_X11_treaty 41 rfl) 1 rfl ?_
        cases hrun
        exact g_iret C K (dat dt_X11_treaty 42 rfl)
      · rw [if_pos c20] at hrun
        refine g_iload_n C (dat dt_X11_treaty 38 rfl) 1 rfl ?_
        obtain ⟨v21, q22, hrun⟩ := bd hrun
        refine g_cSi [.int e18] C (dat dt_X11_treaty 39 rfl) ml_11_445 (w_X11_ones e18 h v21  q22) rfl rfl cat0 (by decide) c00 ?_
        refine g_goto 80 C (dat dt_X11_treaty 40 rfl) (by decide) ?_
        cases hrun
        exact g_iret C K (dat dt_X11_treaty 42 rfl)
    · rw [if_neg (b2i_z c6)] at hrun
      refine g_iconst C (dat dt_X11_treaty 10 rfl) ic_m1 ?_
      cases hrun
      exact g_iret C K (dat dt_X11_treaty 11 rfl)
/-! SteamNationsModel.drops()V -/
def dl_X11_drops : List (Nat × Instr × Nat) := [(0, .iconst 0, 1), (1, .istore_n 1, 1), (2, .iload_n 1, 1), (3, .aload_n 0, 1), (4, .invokevirtual 127, 3), (7, .if_icmp .ge 36, 3), (10, .aload_n 0, 1), (11, .getfield 102, 3), (14, .iload_n 1, 1), (15, .aload_n 0, 1), (16, .iload_n 1, 1), (17, .invokevirtual 156, 3), (20, .ifCond .eq 15, 3), (23, .aload_n 0, 1), (24, .getfield 99, 3), (27, .iload_n 1, 1), (28, .iaload, 1), (29, .bipush 10, 2), (31, .idiv, 1), (32, .goto 4, 3), (35, .iconst 0, 1), (36, .iastore, 1), (37, .iinc 1 1, 3), (40, .goto (-38), 3), (43, .iconst 0, 1), (44, .istore_n 1, 1), (45, .iload_n 1, 1), (46, .aload_n 0, 1), (47, .invokevirtual 127, 3), (50, .if_icmp .ge 90, 3), (53, .iconst 0, 1), (54, .istore_n 2, 1), (55, .iload_n 2, 1), (56, .aload_n 0, 1), (57, .invokevirtual 127, 3), (60, .if_icmp .ge 74, 3), (63, .aload_n 0, 1), (64, .iload_n 1, 1), (65, .invokevirtual 156, 3), (68, .ifCond .eq 60, 3), (71, .aload_n 0, 1), (72, .iload_n 2, 1), (73, .invokevirtual 156, 3), (76, .ifCond .eq 52, 3), (79, .aload_n 0, 1), (80, .iload_n 1, 1), (81, .invokevirtual 150, 3), (84, .aload_n 0, 1), (85, .iload_n 2, 1), (86, .invokevirtual 150, 3), (89, .invokestatic 169, 3), (92, .ifCond .ne 6, 3), (95, .goto 33, 3), (98, .aload_n 0, 1), (99, .getfield 99, 3), (102, .iload_n 1, 1), (103, .dup2, 1), (104, .iaload, 1), (105, .aload_n 0, 1), (106, .getfield 102, 3), (109, .iload_n 1, 1), (110, .iaload, 1), (111, .isub, 1), (112, .iastore, 1), (113, .aload_n 0, 1), (114, .getfield 99, 3), (117, .iload_n 2, 1), (118, .dup2, 1), (119, .iaload, 1), (120, .aload_n 0, 1), (121, .getfield 102, 3), (124, .iload_n 1, 1), (125, .iaload, 1), (126, .iadd, 1), (127, .iastore, 1), (128, .iinc 2 1, 3), (131, .goto (-76), 3), (134, .iinc 1 1, 3), (137, .goto (-92), 3), (140, .return_, 1)]
set_option maxRecDepth 20000 in
theorem dt_X11_drops : ∀ q ∈ dl_X11_drops, decode prog_13_method_118_code q.1 = .ok q.2 := by decide +kernel
def kp_X11_drops_2   (X : Xt) (s : (Int32 × Hp)) : Prop := G X s.2 0 0 2 [(0, .ref 81), (1, .int s.1)] []
def ke_X11_drops_2   (X : Xt) (e : Hp) : Prop := G X e 0 0 43 [(0, .ref 81)] []
def j_X11_drops_36_2  (x1 : Int32) (s1 : Int32) (s2 : Int32) (h : Hp) : Option ((Int32 × Hp) ⊕ Hp) :=
  (inb s1 6).bind fun j7 =>
  some (.inl ((x1 + (1 : Int32)), (sA h 106 j7 s2)))
set_option maxRecDepth 20000 in
theorem wj_X11_drops_36_2 {X : Xt} (C : Cx X cn_11 prog_13_method_118_code 3 none 2 0 0)    (x1 : Int32) (s1 : Int32) (s2 : Int32) (h : Hp) (q : (Int32 × Hp) ⊕ Hp) (hrun : j_X11_drops_36_2  x1 s1 s2 h = some q) (Ks : ∀ s, q = .inl s → kp_X11_drops_2   X s) (Ke : ∀ e, q = .inr e → ke_X11_drops_2   X e) : G X h 0 0 36 [(0, .ref 81), (1, .int x1)] [.int s2, .int s1, .ref 106] := by
  unfold j_X11_drops_36_2 at hrun
  obtain ⟨j7, q8, hrun⟩ := bd hrun
  refine g_iast (j := j7) C (dat dt_X11_drops 21 rfl) kd_106 ltk_106 q8  ?_
  refine g_iinc (v := (x1 + (1 : Int32))) (lv' := [(0, .ref 81), (1, .int (x1 + (1 : Int32)))]) C (dat dt_X11_drops 22 rfl) 1 rfl (congrArg (fun z => x1 + z) ic_1) (by decide) rfl ?_
  refine g_goto 2 C (dat dt_X11_drops 23 rfl) (by decide) ?_
  cases hrun
  exact Ks ((x1 + (1 : Int32)), (sA h 106 j7 s2)) rfl
def b_X11_drops_2   (x1 : Int32) (h : Hp) : Option ((Int32 × Hp) ⊕ Hp) :=
  (f_X11_many  h).bind fun v1 =>
  if v1 ≤ x1 then
  some (.inr ( h))
  else
  (f_X11_isInside x1 h).bind fun v4 =>
  if v4 = true then
  (inb x1 6).bind fun j9 =>
  j_X11_drops_36_2  x1 x1 ((aI h 105 j9) / (10 : Int32)) h
  else
  j_X11_drops_36_2  x1 x1 (0 : Int32) h
set_option maxRecDepth 20000 in
theorem wb_X11_drops_2 {X : Xt} (C : Cx X cn_11 prog_13_method_118_code 3 none 2 0 0)    (x1 : Int32) (h : Hp) (q : (Int32 × Hp) ⊕ Hp) (hrun : b_X11_drops_2   x1 h = some q) (Ks : ∀ s, q = .inl s → kp_X11_drops_2   X s) (Ke : ∀ e, q = .inr e → ke_X11_drops_2   X e) : kp_X11_drops_2   X (x1, h) := by
  show G X h 0 0 2 [(0, .ref 81), (1, .int x1)] []
  unfold b_X11_drops_2 at hrun
  refine g_iload_n C (dat dt_X11_drops 2 rfl) 1 rfl ?_
  refine g_aload_n C (dat dt_X11_drops 3 rfl) 0 rfl ?_
  obtain ⟨v1, q2, hrun⟩ := bd hrun
  refine g_cVi [] C (dat dt_X11_drops 4 rfl) ml_11_127 (w_X11_many  h v1  q2) kd_81 ltk_81 rfl rfl (Nat.le_of_ble_eq_true rfl) (by decide) c00 ?_
  refine g_ic_ge 43 C (dat dt_X11_drops 5 rfl) (by decide) (fun c3 => ?_) (fun c3 => ?_)
  · rw [if_pos c3] at hrun
    refine g_sub [0] (lv' := [(0, .ref 81)]) rfl ?_
    cases hrun
    exact Ke ( h) rfl
  · rw [if_neg c3] at hrun
    refine g_aload_n C (dat dt_X11_drops 6 rfl) 0 rfl ?_
    refine g_getR C (dat dt_X11_drops 7 rfl) fl_11_102 kd_81 rfl ltk_81 ?_
    refine g_iload_n C (dat dt_X11_drops 8 rfl) 1 rfl ?_
    refine g_aload_n C (dat dt_X11_drops 9 rfl) 0 rfl ?_
    refine g_iload_n C (dat dt_X11_drops 10 rfl) 1 rfl ?_
    obtain ⟨v4, q5, hrun⟩ := bd hrun
    refine g_cVi [.int x1] C (dat dt_X11_drops 11 rfl) ml_11_156 (w_X11_isInside x1 h v4  q5) kd_81 ltk_81 rfl rfl (Nat.le_of_ble_eq_true rfl) (by decide) c00 ?_
    refine g_if_eq 35 C (dat dt_X11_drops 12 rfl) (by decide) (fun c6 => ?_) (fun c6 => ?_)
    · rw [if_neg (b2i_z c6)] at hrun
      refine g_iconst C (dat dt_X11_drops 20 rfl) ic_0 ?_
      exact wj_X11_drops_36_2 C    x1 x1 (0 : Int32) h _ hrun Ks Ke
    · rw [if_pos (b2i_nz c6)] at hrun
      refine g_aload_n C (dat dt_X11_drops 13 rfl) 0 rfl ?_
      refine g_getR C (dat dt_X11_drops 14 rfl) fl_11_99 kd_81 rfl ltk_81 ?_
      refine g_iload_n C (dat dt_X11_drops 15 rfl) 1 rfl ?_
      obtain ⟨j9, q10, hrun⟩ := bd hrun
      refine g_iald C (dat dt_X11_drops 16 rfl) kd_105 ltk_105 q10 ?_
      refine g_bipush C (dat dt_X11_drops 17 rfl) bp_10 ?_
      refine g_idiv C (dat dt_X11_drops 18 rfl) (by decide) ?_
      refine g_goto 36 C (dat dt_X11_drops 19 rfl) (by decide) ?_
      exact wj_X11_drops_36_2 C    x1 x1 ((aI h 105 j9) / (10 : Int32)) h _ hrun Ks Ke
def kp_X11_drops_45   (X : Xt) (s : (Int32 × Hp)) : Prop := G X s.2 0 0 45 [(0, .ref 81), (1, .int s.1)] []
def ke_X11_drops_45   (X : Xt) (e : Hp) : Prop := G X e 0 0 140 [] []
def kp_X11_drops_55_45  (x1 : Int32) (X : Xt) (s : (Int32 × Hp)) : Prop := G X s.2 0 0 55 [(0, .ref 81), (1, .int x1), (2, .int s.1)] []
def ke_X11_drops_55_45  (x1 : Int32) (X : Xt) (e : Hp) : Prop := G X e 0 0 134 [(0, .ref 81), (1, .int x1)] []
def b_X11_drops_55_45  (x1 : Int32) (x2 : Int32) (h : Hp) : Option ((Int32 × Hp) ⊕ Hp) :=
  (f_X11_many  h).bind fun v16 =>
  if v16 ≤ x2 then
  some (.inr ( h))
  else
  (f_X11_isInside x1 h).bind fun v19 =>
  if v19 = true then
  (f_X11_isInside x2 h).bind fun v22 =>
  if v22 = true then
  (f_X11_seatOf x1 h).bind fun v25 =>
  (f_X11_seatOf x2 h).bind fun v27 =>
  (f_X11_areBeside v25 v27).bind fun v29 =>
  if v29 = true then
  (inb x1 6).bind fun j32 =>
  (inb x1 6).bind fun j34 =>
  (inb x1 6).bind fun j36 =>
  (inb x2 6).bind fun j38 =>
  (inb x1 6).bind fun j40 =>
  (inb x2 6).bind fun j42 =>
  some (.inl ((x2 + (1 : Int32)), (sA (sA h 105 j36 ((aI h 105 j32) - (aI h 106 j34))) 105 j42 ((aI (sA h 105 j36 ((aI h 105 j32) - (aI h 106 j34))) 105 j38) + (aI (sA h 105 j36 ((aI h 105 j32) - (aI h 106 j34))) 106 j40)))))
  else
  some (.inl ((x2 + (1 : Int32)), h))
  else
  some (.inl ((x2 + (1 : Int32)), h))
  else
  some (.inl ((x2 + (1 : Int32)), h))
set_option maxRecDepth 20000 in
theorem wb_X11_drops_55_45 {X : Xt} (C : Cx X cn_11 prog_13_method_118_code 3 none 2 0 0)   (x1 : Int32) (x2 : Int32) (h : Hp) (q : (Int32 × Hp) ⊕ Hp) (hrun : b_X11_drops_55_45  x1 x2 h = some q) (Ks : ∀ s, q = .inl s → kp_X11_drops_55_45  x1 X s) (Ke : ∀ e, q = .inr e → ke_X11_drops_55_45  x1 X e) : kp_X11_drops_55_45  x1 X (x2, h) := by
  show G X h 0 0 55 [(0, .ref 81), (1, .int x1), (2, .int x2)] []
  unfold b_X11_drops_55_45 at hrun
  refine g_iload_n C (dat dt_X11_drops 32 rfl) 2 rfl ?_
  refine g_aload_n C (dat dt_X11_drops 33 rfl) 0 rfl ?_
  obtain ⟨v16, q17, hrun⟩ := bd hrun
  refine g_cVi [] C (dat dt_X11_drops 34 rfl) ml_11_127 (w_X11_many  h v16  q17) kd_81 ltk_81 rfl rfl (Nat.le_of_ble_eq_true rfl) (by decide) c00 ?_
  refine g_ic_ge 134 C (dat dt_X11_drops 35 rfl) (by decide) (fun c18 => ?_) (fun c18 => ?_)
  · rw [if_pos c18] at hrun
    refine g_sub [0, 1] (lv' := [(0, .ref 81), (1, .int x1)]) rfl ?_
    cases hrun
    exact Ke ( h) rfl
  · rw [if_neg c18] at hrun
    refine g_aload_n C (dat dt_X11_drops 36 rfl) 0 rfl ?_
    refine g_iload_n C (dat dt_X11_drops 37 rfl) 1 rfl ?_
    obtain ⟨v19, q20, hrun⟩ := bd hrun
    refine g_cVi [.int x1] C (dat dt_X11_drops 38 rfl) ml_11_156 (w_X11_isInside x1 h v19  q20) kd_81 ltk_81 rfl rfl cat0 (by decide) c00 ?_
    refine g_if_eq 128 C (dat dt_X11_drops 39 rfl) (by decide) (fun c21 => ?_) (fun c21 => ?_)
    · rw [if_neg (b2i_z c21)] at hrun
      refine g_iinc (v := (x2 + (1 : Int32))) (lv' := [(0, .ref 81), (1, .int x1), (2, .int (x2 + (1 : Int32)))]) C (dat dt_X11_drops 75 rfl) 2 rfl (congrArg (fun z => x2 + z) ic_1) (by decide) rfl ?_
      refine g_goto 55 C (dat dt_X11_drops 76 rfl) (by decide) ?_
      cases hrun
      exact Ks ((x2 + (1 : Int32)), h) rfl
    · rw [if_pos (b2i_nz c21)] at hrun
      refine g_aload_n C (dat dt_X11_drops 40 rfl) 0 rfl ?_
      refine g_iload_n C (dat dt_X11_drops 41 rfl) 2 rfl ?_
      obtain ⟨v22, q23, hrun⟩ := bd hrun
      refine g_cVi [.int x2] C (dat dt_X11_drops 42 rfl) ml_11_156 (w_X11_isInside x2 h v22  q23) kd_81 ltk_81 rfl rfl cat0 (by decide) c00 ?_
      refine g_if_eq 128 C (dat dt_X11_drops 43 rfl) (by decide) (fun c24 => ?_) (fun c24 => ?_)
      · rw [if_neg (b2i_z c24)] at hrun
        refine g_iinc (v := (x2 + (1 : Int32))) (lv' := [(0, .ref 81), (1, .int x1), (2, .int (x2 + (1 : Int32)))]) C (dat dt_X11_drops 75 rfl) 2 rfl (congrArg (fun z => x2 + z) ic_1) (by decide) rfl ?_
        refine g_goto 55 C (dat dt_X11_drops 76 rfl) (by decide) ?_
        cases hrun
        exact Ks ((x2 + (1 : Int32)), h) rfl
      · rw [if_pos (b2i_nz c24)] at hrun
        refine g_aload_n C (dat dt_X11_drops 44 rfl) 0 rfl ?_
        refine g_iload_n C (dat dt_X11_drops 45 rfl) 1 rfl ?_
        obtain ⟨v25, q26, hrun⟩ := bd hrun
        refine g_cVi [.int x1] C (dat dt_X11_drops 46 rfl) ml_11_150 (w_X11_seatOf x1 h v25  q26) kd_81 ltk_81 rfl rfl cat0 (by decide) c00 ?_
        refine g_aload_n C (dat dt_X11_drops 47 rfl) 0 rfl ?_
        refine g_iload_n C (dat dt_X11_drops 48 rfl) 2 rfl ?_
        obtain ⟨v27, q28, hrun⟩ := bd hrun
        refine g_cVi [.int x2] C (dat dt_X11_drops 49 rfl) ml_11_150 (w_X11_seatOf x2 h v27  q28) kd_81 ltk_81 rfl rfl (Nat.le_of_ble_eq_true rfl) (by decide) c00 ?_
        obtain ⟨v29, q30, hrun⟩ := bd hrun
        refine g_cSi [.int v25, .int v27] C (dat dt_X11_drops 50 rfl) ml_11_169 (w_X11_areBeside v25 v27 h v29  q30) rfl rfl cat0 (by decide) c00 ?_
        refine g_if_ne 98 C (dat dt_X11_drops 51 rfl) (by decide) (fun c31 => ?_) (fun c31 => ?_)
        · rw [if_pos (b2i_nz c31)] at hrun
          refine g_aload_n C (dat dt_X11_drops 53 rfl) 0 rfl ?_
          refine g_getR C (dat dt_X11_drops 54 rfl) fl_11_99 kd_81 rfl ltk_81 ?_
          refine g_iload_n C (dat dt_X11_drops 55 rfl) 1 rfl ?_
          refine g_dup2 C (dat dt_X11_drops 56 rfl) rfl rfl ?_
          obtain ⟨j32, q33, hrun⟩ := bd hrun
          refine g_iald C (dat dt_X11_drops 57 rfl) kd_105 ltk_105 q33 ?_
          refine g_aload_n C (dat dt_X11_drops 58 rfl) 0 rfl ?_
          refine g_getR C (dat dt_X11_drops 59 rfl) fl_11_102 kd_81 rfl ltk_81 ?_
          refine g_iload_n C (dat dt_X11_drops 60 rfl) 1 rfl ?_
          obtain ⟨j34, q35, hrun⟩ := bd hrun
          refine g_iald C (dat dt_X11_drops 61 rfl) kd_106 ltk_106 q35 ?_
          refine g_isub C (dat dt_X11_drops 62 rfl) ?_
          obtain ⟨j36, q37, hrun⟩ := bd hrun
          refine g_iast (j := j36) C (dat dt_X11_drops 63 rfl) kd_105 ltk_105 q37  ?_
          refine g_aload_n C (dat dt_X11_drops 64 rfl) 0 rfl ?_
          refine g_getR C (dat dt_X11_drops 65 rfl) fl_11_99 kd_81 rfl ltk_81 ?_
          refine g_iload_n C (dat dt_X11_drops 66 rfl) 2 rfl ?_
          refine g_dup2 C (dat dt_X11_drops 67 rfl) rfl rfl ?_
          obtain ⟨j38, q39, hrun⟩ := bd hrun
          refine g_iald C (dat dt_X11_drops 68 rfl) kd_105 ltk_105 q39 ?_
          refine g_aload_n C (dat dt_X11_drops 69 rfl) 0 rfl ?_
          refine g_getR C (dat dt_X11_drops 70 rfl) fl_11_102 kd_81 rfl ltk_81 ?_
          refine g_iload_n C (dat dt_X11_drops 71 rfl) 1 rfl ?_
          obtain ⟨j40, q41, hrun⟩ := bd hrun
          refine g_iald C (dat dt_X11_drops 72 rfl) kd_106 ltk_106 q41 ?_
          refine g_iadd C (dat dt_X11_drops 73 rfl) ?_
          obtain ⟨j42, q43, hrun⟩ := bd hrun
          refine g_iast (j := j42) C (dat dt_X11_drops 74 rfl) kd_105 ltk_105 q43  ?_
          refine g_iinc (v := (x2 + (1 : Int32))) (lv' := [(0, .ref 81), (1, .int x1), (2, .int (x2 + (1 : Int32)))]) C (dat dt_X11_drops 75 rfl) 2 rfl (congrArg (fun z => x2 + z) ic_1) (by decide) rfl ?_
          refine g_goto 55 C (dat dt_X11_drops 76 rfl) (by decide) ?_
          cases hrun
          exact Ks ((x2 + (1 : Int32)), (sA (sA h 105 j36 ((aI h 105 j32) - (aI h 106 j34))) 105 j42 ((aI (sA h 105 j36 ((aI h 105 j32) - (aI h 106 j34))) 105 j38) + (aI (sA h 105 j36 ((aI h 105 j32) - (aI h 106 j34))) 106 j40)))) rfl
        · rw [if_neg (b2i_z c31)] at hrun
          refine g_goto 128 C (dat dt_X11_drops 52 rfl) (by decide) ?_
          refine g_iinc (v := (x2 + (1 : Int32))) (lv' := [(0, .ref 81), (1, .int x1), (2, .int (x2 + (1 : Int32)))]) C (dat dt_X11_drops 75 rfl) 2 rfl (congrArg (fun z => x2 + z) ic_1) (by decide) rfl ?_
          refine g_goto 55 C (dat dt_X11_drops 76 rfl) (by decide) ?_
          cases hrun
          exact Ks ((x2 + (1 : Int32)), h) rfl
def b_X11_drops_45   (x1 : Int32) (h : Hp) : Option ((Int32 × Hp) ⊕ Hp) :=
  (f_X11_many  h).bind fun v13 =>
  if v13 ≤ x1 then
  some (.inr ( h))
  else
  (lp (fun s => b_X11_drops_55_45  x1 s.1 s.2) FU ((0 : Int32), h)).bind fun e44 =>
  some (.inl ((x1 + (1 : Int32)), e44))
set_option maxRecDepth 20000 in
theorem wb_X11_drops_45 {X : Xt} (C : Cx X cn_11 prog_13_method_118_code 3 none 2 0 0)    (x1 : Int32) (h : Hp) (q : (Int32 × Hp) ⊕ Hp) (hrun : b_X11_drops_45   x1 h = some q) (Ks : ∀ s, q = .inl s → kp_X11_drops_45   X s) (Ke : ∀ e, q = .inr e → ke_X11_drops_45   X e) : kp_X11_drops_45   X (x1, h) := by
  show G X h 0 0 45 [(0, .ref 81), (1, .int x1)] []
  unfold b_X11_drops_45 at hrun
  refine g_iload_n C (dat dt_X11_drops 26 rfl) 1 rfl ?_
  refine g_aload_n C (dat dt_X11_drops 27 rfl) 0 rfl ?_
  obtain ⟨v13, q14, hrun⟩ := bd hrun
  refine g_cVi [] C (dat dt_X11_drops 28 rfl) ml_11_127 (w_X11_many  h v13  q14) kd_81 ltk_81 rfl rfl (Nat.le_of_ble_eq_true rfl) (by decide) c00 ?_
  refine g_ic_ge 140 C (dat dt_X11_drops 29 rfl) (by decide) (fun c15 => ?_) (fun c15 => ?_)
  · rw [if_pos c15] at hrun
    refine g_sub [] (lv' := []) rfl ?_
    cases hrun
    exact Ke ( h) rfl
  · rw [if_neg c15] at hrun
    refine g_iconst C (dat dt_X11_drops 30 rfl) ic_0 ?_
    refine g_istore_n (lv' := [(0, .ref 81), (1, .int x1), (2, .int (0 : Int32))]) C (dat dt_X11_drops 31 rfl) (by decide) rfl ?_
    obtain ⟨e44, q45, hrun⟩ := bd hrun
    refine lp_ind (P := fun s => kp_X11_drops_55_45  x1 X s) (K := fun e => ke_X11_drops_55_45  x1 X e) (fun s q hb Ks Ke => wb_X11_drops_55_45 C   x1 s.1 s.2 q hb Ks Ke) FU ((0 : Int32), h) e44 q45 ?_
    show G X e44 0 0 134 [(0, .ref 81), (1, .int x1)] []
    refine g_iinc (v := (x1 + (1 : Int32))) (lv' := [(0, .ref 81), (1, .int (x1 + (1 : Int32)))]) C (dat dt_X11_drops 77 rfl) 1 rfl (congrArg (fun z => x1 + z) ic_1) (by decide) rfl ?_
    refine g_goto 45 C (dat dt_X11_drops 78 rfl) (by decide) ?_
    cases hrun
    exact Ks ((x1 + (1 : Int32)), e44) rfl
def f_X11_drops  (h : Hp) : Option (Unit × Hp) :=
  (lp (fun s => b_X11_drops_2   s.1 s.2) FU ((0 : Int32), h)).bind fun e11 =>
  (lp (fun s => b_X11_drops_45   s.1 s.2) FU ((0 : Int32), e11)).bind fun e46 =>
  some ((), e46)
set_option maxRecDepth 20000 in
theorem w_X11_drops  (h : Hp) (q : (Unit × Hp))  (hrun : f_X11_drops  h = some q) : MetA ⟨"SteamNationsModel", "drops", "()V"⟩ prog_13_method_118_code 3 none 2 0 0 [.ref 81] h none q.2 := by
  refine metA_of (by decide) (Nat.le_of_ble_eq_true rfl) (fun X C K => ?_)
  have C : Cx X cn_11 prog_13_method_118_code 3 none 2 0 0 := C
  show G X h 0 0 0 [(0, .ref 81)] []
  unfold f_X11_drops at hrun
  refine g_iconst C (dat dt_X11_drops 0 rfl) ic_0 ?_
  refine g_istore_n (lv' := [(0, .ref 81), (1, .int (0 : Int32))]) C (dat dt_X11_drops 1 rfl) (by decide) rfl ?_
  obtain ⟨e11, q12, hrun⟩ := bd hrun
  refine lp_ind (P := fun s => kp_X11_drops_2   X s) (K := fun e => ke_X11_drops_2   X e) (fun s q hb Ks Ke => wb_X11_drops_2 C    s.1 s.2 q hb Ks Ke) FU ((0 : Int32), h) e11 q12 ?_
  show G X e11 0 0 43 [(0, .ref 81)] []
  refine g_iconst C (dat dt_X11_drops 24 rfl) ic_0 ?_
  refine g_istore_n (lv' := [(0, .ref 81), (1, .int (0 : Int32))]) C (dat dt_X11_drops 25 rfl) (by decide) rfl ?_
  obtain ⟨e46, q47, hrun⟩ := bd hrun
  refine lp_ind (P := fun s => kp_X11_drops_45   X s) (K := fun e => ke_X11_drops_45   X e) (fun s q hb Ks Ke => wb_X11_drops_45 C    s.1 s.2 q hb Ks Ke) FU ((0 : Int32), e11) e46 q47 ?_
  show G X e46 0 0 140 [] []
  cases hrun
  exact g_vret C K (dat dt_X11_drops 79 rfl)
/-! SteamNationsModel.drop(III)I -/
def dl_X11_drop : List (Nat × Instr × Nat) := [(0, .aload_n 0, 1), (1, .iload_n 1, 1), (2, .invokevirtual 147, 3), (5, .ifCond .eq 37, 3), (8, .aload_n 0, 1), (9, .iload_n 3, 1), (10, .invokevirtual 147, 3), (13, .ifCond .eq 29, 3), (16, .aload_n 0, 1), (17, .iload_n 1, 1), (18, .invokevirtual 156, 3), (21, .ifCond .eq 21, 3), (24, .aload_n 0, 1), (25, .iload_n 3, 1), (26, .invokevirtual 156, 3), (29, .ifCond .eq 13, 3), (32, .iload_n 2, 1), (33, .iconst 0, 1), (34, .bipush 60, 2), (36, .invokestatic 18, 3), (39, .ifCond .ne 5, 3), (42, .iconst (-1), 1), (43, .ireturn, 1), (44, .iconst 0, 1), (45, .istore 4, 2), (47, .iload 4, 2), (49, .bipush 6, 2), (51, .if_icmp .ge 28, 3), (54, .aload_n 0, 1), (55, .getfield 99, 3), (58, .iload 4, 2), (60, .iload 4, 2), (62, .iload_n 1, 1), (63, .if_icmp .ne 8, 3), (66, .ldc 200, 2), (68, .goto 4, 3), (71, .iconst 0, 1), (72, .iastore, 1), (73, .iinc 4 1, 3), (76, .goto (-29), 3), (79, .iconst 0, 1), (80, .istore 4, 2), (82, .iload 4, 2), (84, .iload_n 2, 1), (85, .if_icmp .ge 13, 3), (88, .aload_n 0, 1), (89, .invokevirtual 451, 3), (92, .iinc 4 1, 3), (95, .goto (-13), 3), (98, .aload_n 0, 1), (99, .getfield 99, 3), (102, .iload_n 3, 1), (103, .iaload, 1), (104, .ireturn, 1)]
set_option maxRecDepth 20000 in
theorem dt_X11_drop : ∀ q ∈ dl_X11_drop, decode prog_13_method_119_code q.1 = .ok q.2 := by decide +kernel
def kp_X11_drop_47  (x1 : Int32) (x2 : Int32) (x3 : Int32) (X : Xt) (s : (Int32 × Hp)) : Prop := G X s.2 0 0 47 [(0, .ref 81), (1, .int x1), (2, .int x2), (3, .int x3), (4, .int s.1)] []
def ke_X11_drop_47  (x1 : Int32) (x2 : Int32) (x3 : Int32) (X : Xt) (e : Hp) : Prop := G X e 0 0 79 [(0, .ref 81), (2, .int x2), (3, .int x3)] []
def j_X11_drop_72_47  (x1 : Int32) (x2 : Int32) (x3 : Int32) (x4 : Int32) (s1 : Int32) (s2 : Int32) (h : Hp) : Option ((Int32 × Hp) ⊕ Hp) :=
  (inb s1 6).bind fun j18 =>
  some (.inl ((x4 + (1 : Int32)), (sA h 105 j18 s2)))
set_option maxRecDepth 20000 in
theorem wj_X11_drop_72_47 {X : Xt} (C : Cx X cn_11 prog_13_method_119_code 5 (some .int) 3 0 0)    (x1 : Int32) (x2 : Int32) (x3 : Int32) (x4 : Int32) (s1 : Int32) (s2 : Int32) (h : Hp) (q : (Int32 × Hp) ⊕ Hp) (hrun : j_X11_drop_72_47  x1 x2 x3 x4 s1 s2 h = some q) (Ks : ∀ s, q = .inl s → kp_X11_drop_47  x1 x2 x3 X s) (Ke : ∀ e, q = .inr e → ke_X11_drop_47  x1 x2 x3 X e) : G X h 0 0 72 [(0, .ref 81), (1, .int x1), (2, .int x2), (3, .int x3), (4, .int x4)] [.int s2, .int s1, .ref 105] := by
  unfold j_X11_drop_72_47 at hrun
  obtain ⟨j18, q19, hrun⟩ := bd hrun
  refine g_iast (j := j18) C (dat dt_X11_drop 37 rfl) kd_105 ltk_105 q19  ?_
  refine g_iinc (v := (x4 + (1 : Int32))) (lv' := [(0, .ref 81), (1, .int x1), (2, .int x2), (3, .int x3), (4, .int (x4 + (1 : Int32)))]) C (dat dt_X11_drop 38 rfl) 4 rfl (congrArg (fun z => x4 + z) ic_1) (by decide) rfl ?_
  refine g_goto 47 C (dat dt_X11_drop 39 rfl) (by decide) ?_
  cases hrun
  exact Ks ((x4 + (1 : Int32)), (sA h 105 j18 s2)) rfl
def b_X11_drop_47  (x1 : Int32) (x2 : Int32) (x3 : Int32) (x4 : Int32) (h : Hp) : Option ((Int32 × Hp) ⊕ Hp) :=
  if (6 : Int32) ≤ x4 then
  some (.inr ( h))
  else
  if x4 = x1 then
  j_X11_drop_72_47  x1 x2 x3 x4 x4 (1000000 : Int32) h
  else
  j_X11_drop_72_47  x1 x2 x3 x4 x4 (0 : Int32) h
set_option maxRecDepth 20000 in
theorem wb_X11_drop_47 {X : Xt} (C : Cx X cn_11 prog_13_method_119_code 5 (some .int) 3 0 0)   (x1 : Int32) (x2 : Int32) (x3 : Int32) (x4 : Int32) (h : Hp) (q : (Int32 × Hp) ⊕ Hp) (hrun : b_X11_drop_47  x1 x2 x3 x4 h = some q) (Ks : ∀ s, q = .inl s → kp_X11_drop_47  x1 x2 x3 X s) (Ke : ∀ e, q = .inr e → ke_X11_drop_47  x1 x2 x3 X e) : kp_X11_drop_47  x1 x2 x3 X (x4, h) := by
  show G X h 0 0 47 [(0, .ref 81), (1, .int x1), (2, .int x2), (3, .int x3), (4, .int x4)] []
  unfold b_X11_drop_47 at hrun
  refine g_iload C (dat dt_X11_drop 25 rfl) 4 rfl ?_
  refine g_bipush C (dat dt_X11_drop 26 rfl) bp_6 ?_
  refine g_ic_ge 79 C (dat dt_X11_drop 27 rfl) (by decide) (fun c16 => ?_) (fun c16 => ?_)
  · rw [if_pos c16] at hrun
    refine g_sub [0, 2, 3] (lv' := [(0, .ref 81), (2, .int x2), (3, .int x3)]) rfl ?_
    cases hrun
    exact Ke ( h) rfl
  · rw [if_neg c16] at hrun
    refine g_aload_n C (dat dt_X11_drop 28 rfl) 0 rfl ?_
    refine g_getR C (dat dt_X11_drop 29 rfl) fl_11_99 kd_81 rfl ltk_81 ?_
    refine g_iload C (dat dt_X11_drop 30 rfl) 4 rfl ?_
    refine g_iload C (dat dt_X11_drop 31 rfl) 4 rfl ?_
    refine g_iload_n C (dat dt_X11_drop 32 rfl) 1 rfl ?_
    refine g_ic_ne 71 C (dat dt_X11_drop 33 rfl) (by decide) (fun c17 => ?_) (fun c17 => ?_)
    · rw [if_neg c17] at hrun
      refine g_iconst C (dat dt_X11_drop 36 rfl) ic_0 ?_
      exact wj_X11_drop_72_47 C    x1 x2 x3 x4 x4 (0 : Int32) h _ hrun Ks Ke
    · rw [if_pos c17] at hrun
      refine g_ldc C (dat dt_X11_drop 34 rfl) kc_11_200 ?_
      refine g_goto 72 C (dat dt_X11_drop 35 rfl) (by decide) ?_
      exact wj_X11_drop_72_47 C    x1 x2 x3 x4 x4 (1000000 : Int32) h _ hrun Ks Ke
def kp_X11_drop_82  (x2 : Int32) (x3 : Int32) (X : Xt) (s : (Int32 × Hp)) : Prop := G X s.2 0 0 82 [(0, .ref 81), (2, .int x2), (3, .int x3), (4, .int s.1)] []
def ke_X11_drop_82  (x2 : Int32) (x3 : Int32) (X : Xt) (e : Hp) : Prop := G X e 0 0 98 [(0, .ref 81), (3, .int x3)] []
def b_X11_drop_82  (x2 : Int32) (x3 : Int32) (x4 : Int32) (h : Hp) : Option ((Int32 × Hp) ⊕ Hp) :=
  if x2 ≤ x4 then
  some (.inr ( h))
  else
  (f_X11_drops  h).bind fun v23 =>
  some (.inl ((x4 + (1 : Int32)), v23.2))
set_option maxRecDepth 20000 in
theorem wb_X11_drop_82 {X : Xt} (C : Cx X cn_11 prog_13_method_119_code 5 (some .int) 3 0 0)   (x2 : Int32) (x3 : Int32) (x4 : Int32) (h : Hp) (q : (Int32 × Hp) ⊕ Hp) (hrun : b_X11_drop_82  x2 x3 x4 h = some q) (Ks : ∀ s, q = .inl s → kp_X11_drop_82  x2 x3 X s) (Ke : ∀ e, q = .inr e → ke_X11_drop_82  x2 x3 X e) : kp_X11_drop_82  x2 x3 X (x4, h) := by
  show G X h 0 0 82 [(0, .ref 81), (2, .int x2), (3, .int x3), (4, .int x4)] []
  unfold b_X11_drop_82 at hrun
  refine g_iload C (dat dt_X11_drop 42 rfl) 3 rfl ?_
  refine g_iload_n C (dat dt_X11_drop 43 rfl) 1 rfl ?_
  refine g_ic_ge 98 C (dat dt_X11_drop 44 rfl) (by decide) (fun c22 => ?_) (fun c22 => ?_)
  · rw [if_pos c22] at hrun
    refine g_sub [0, 2] (lv' := [(0, .ref 81), (3, .int x3)]) rfl ?_
    cases hrun
    exact Ke ( h) rfl
  · rw [if_neg c22] at hrun
    refine g_aload_n C (dat dt_X11_drop 45 rfl) 0 rfl ?_
    obtain ⟨v23, q24, hrun⟩ := bd hrun
    refine g_cVv [] C (dat dt_X11_drop 46 rfl) ml_11_451 (w_X11_drops  h v23  q24) kd_81 ltk_81 rfl rfl cat0 (by decide) c00 ?_
    refine g_iinc (v := (x4 + (1 : Int32))) (lv' := [(0, .ref 81), (2, .int x2), (3, .int x3), (4, .int (x4 + (1 : Int32)))]) C (dat dt_X11_drop 47 rfl) 3 rfl (congrArg (fun z => x4 + z) ic_1) (by decide) rfl ?_
    refine g_goto 82 C (dat dt_X11_drop 48 rfl) (by decide) ?_
    cases hrun
    exact Ks ((x4 + (1 : Int32)), v23.2) rfl
def f_X11_drop (x1 : Int32) (x2 : Int32) (x3 : Int32) (h : Hp) : Option (Int32 × Hp) :=
  (f_X11_isSitter x1 h).bind fun v1 =>
  if v1 = true then
  (f_X11_isSitter x3 h).bind fun v4 =>
  if v4 = true then
  (f_X11_isInside x1 h).bind fun v7 =>
  if v7 = true then
  (f_X11_isInside x3 h).bind fun v10 =>
  if v10 = true then
  (f_X11_lies x2 (0 : Int32) (60 : Int32)).bind fun v13 =>
  if v13 = true then
  (lp (fun s => b_X11_drop_47  x1 x2 x3 s.1 s.2) FU ((0 : Int32), h)).bind fun e20 =>
  (lp (fun s => b_X11_drop_82  x2 x3 s.1 s.2) FU ((0 : Int32), e20)).bind fun e25 =>
  (inb x3 6).bind fun j27 =>
  some ((aI e25 105 j27), e25)
  else
  some ((-1 : Int32), h)
  else
  some ((-1 : Int32), h)
  else
  some ((-1 : Int32), h)
  else
  some ((-1 : Int32), h)
  else
  some ((-1 : Int32), h)
set_option maxRecDepth 20000 in
theorem w_X11_drop (x1 : Int32) (x2 : Int32) (x3 : Int32) (h : Hp) (q : (Int32 × Hp))  (hrun : f_X11_drop x1 x2 x3 h = some q) : MetA ⟨"SteamNationsModel", "drop", "(III)I"⟩ prog_13_method_119_code 5 (some .int) 3 0 0 [.ref 81, .int x1, .int x2, .int x3] h (some (.int q.1)) q.2 := by
  refine metA_of (by decide) (Nat.le_of_ble_eq_true rfl) (fun X C K => ?_)
  have C : Cx X cn_11 prog_13_method_119_code 5 (some .int) 3 0 0 := C
  show G X h 0 0 0 [(0, .ref 81), (1, .int x1), (2, .int x2), (3, .int x3)] []
  unfold f_X11_drop at hrun
  refine g_aload_n C (dat dt_X11_drop 0 rfl) 0 rfl ?_
  refine g_iload_n C (dat dt_X11_drop 1 rfl) 1 rfl ?_
  obtain ⟨v1, q2, hrun⟩ := bd hrun
  refine g_cVi [.int x1] C (dat dt_X11_drop 2 rfl) ml_11_147 (w_X11_isSitter x1 h v1  q2) kd_81 ltk_81 rfl rfl cat0 (by decide) c00 ?_
  refine g_if_eq 42 C (dat dt_X11_drop 3 rfl) (by decide) (fun c3 => ?_) (fun c3 => ?_)
  · rw [if_neg (b2i_z c3)] at hrun
    refine g_iconst C (dat dt_X11_drop 21 rfl) ic_m1 ?_
    cases hrun
    exact g_iret C K (dat dt_X11_drop 22 rfl)
  · rw [if_pos (b2i_nz c3)] at hrun
    refine g_aload_n C (dat dt_X11_drop 4 rfl) 0 rfl ?_
    refine g_iload_n C (dat dt_X11_drop 5 rfl) 3 rfl ?_
    obtain ⟨v4, q5, hrun⟩ := bd hrun
    refine g_cVi [.int x3] C (dat dt_X11_drop 6 rfl) ml_11_147 (w_X11_isSitter x3 h v4  q5) kd_81 ltk_81 rfl rfl cat0 (by decide) c00 ?_
    refine g_if_eq 42 C (dat dt_X11_drop 7 rfl) (by decide) (fun c6 => ?_) (fun c6 => ?_)
    · rw [if_neg (b2i_z c6)] at hrun
      refine g_iconst C (dat dt_X11_drop 21 rfl) ic_m1 ?_
      cases hrun
      exact g_iret C K (dat dt_X11_drop 22 rfl)
    · rw [if_pos (b2i_nz c6)] at hrun
      refine g_aload_n C (dat dt_X11_drop 8 rfl) 0 rfl ?_
      refine g_iload_n C (dat dt_X11_drop 9 rfl) 1 rfl ?_
      obtain ⟨v7, q8, hrun⟩ := bd hrun
      refine g_cVi [.int x1] C (dat dt_X11_drop 10 rfl) ml_11_156 (w_X11_isInside x1 h v7  q8) kd_81 ltk_81 rfl rfl cat0 (by decide) c00 ?_
      refine g_if_eq 42 C (dat dt_X11_drop 11 rfl) (by decide) (fun c9 => ?_) (fun c9 => ?_)
      · rw [if_neg (b2i_z c9)] at hrun
        refine g_iconst C (dat dt_X11_drop 21 rfl) ic_m1 ?_
        cases hrun
        exact g_iret C K (dat dt_X11_drop 22 rfl)
      · rw [if_pos (b2i_nz c9)] at hrun
        refine g_aload_n C (dat dt_X11_drop 12 rfl) 0 rfl ?_
        refine g_iload_n C (dat dt_X11_drop 13 rfl) 3 rfl ?_
        obtain ⟨v10, q11, hrun⟩ := bd hrun
        refine g_cVi [.int x3] C (dat dt_X11_drop 14 rfl) ml_11_156 (w_X11_isInside x3 h v10  q11) kd_81 ltk_81 rfl rfl cat0 (by decide) c00 ?_
        refine g_if_eq 42 C (dat dt_X11_drop 15 rfl) (by decide) (fun c12 => ?_) (fun c12 => ?_)
        · rw [if_neg (b2i_z c12)] at hrun
          refine g_iconst C (dat dt_X11_drop 21 rfl) ic_m1 ?_
          cases hrun
          exact g_iret C K (dat dt_X11_drop 22 rfl)
        · rw [if_pos (b2i_nz c12)] at hrun
          refine g_iload_n C (dat dt_X11_drop 16 rfl) 2 rfl ?_
          refine g_iconst C (dat dt_X11_drop 17 rfl) ic_0 ?_
          refine g_bipush C (dat dt_X11_drop 18 rfl) bp_60 ?_
          obtain ⟨v13, q14, hrun⟩ := bd hrun
          refine g_cSi [.int x2, .int (0 : Int32), .int (60 : Int32)] C (dat dt_X11_drop 19 rfl) ml_11_18 (w_X11_lies x2 (0 : Int32) (60 : Int32) h v13  q14) rfl rfl cat0 (by decide) c00 ?_
          refine g_if_ne 44 C (dat dt_X11_drop 20 rfl) (by decide) (fun c15 => ?_) (fun c15 => ?_)
          · rw [if_pos (b2i_nz c15)] at hrun
            refine g_iconst C (dat dt_X11_drop 23 rfl) ic_0 ?_
            refine g_istore (lv' := [(0, .ref 81), (1, .int x1), (2, .int x2), (3, .int x3), (4, .int (0 : Int32))]) C (dat dt_X11_drop 24 rfl) (by decide) rfl ?_
            obtain ⟨e20, q21, hrun⟩ := bd hrun
            refine lp_ind (P := fun s => kp_X11_drop_47  x1 x2 x3 X s) (K := fun e => ke_X11_drop_47  x1 x2 x3 X e) (fun s q hb Ks Ke => wb_X11_drop_47 C   x1 x2 x3 s.1 s.2 q hb Ks Ke) FU ((0 : Int32), h) e20 q21 ?_
            show G X e20 0 0 79 [(0, .ref 81), (2, .int x2), (3, .int x3)] []
            refine g_iconst C (dat dt_X11_drop 40 rfl) ic_0 ?_
            refine g_istore (lv' := [(0, .ref 81), (2, .int x2), (3, .int x3), (4, .int (0 : Int32))]) C (dat dt_X11_drop 41 rfl) (by decide) rfl ?_
            obtain ⟨e25, q26, hrun⟩ := bd hrun
            refine lp_ind (P := fun s => kp_X11_drop_82  x2 x3 X s) (K := fun e => ke_X11_drop_82  x2 x3 X e) (fun s q hb Ks Ke => wb_X11_drop_82 C   x2 x3 s.1 s.2 q hb Ks Ke) FU ((0 : Int32), e20) e25 q26 ?_
            show G X e25 0 0 98 [(0, .ref 81), (3, .int x3)] []
            refine g_aload_n C (dat dt_X11_drop 49 rfl) 0 rfl ?_
            refine g_getR C (dat dt_X11_drop 50 rfl) fl_11_99 kd_81 rfl ltk_81 ?_
            refine g_iload_n C (dat dt_X11_drop 51 rfl) 1 rfl ?_
            obtain ⟨j27, q28, hrun⟩ := bd hrun
            refine g_iald C (dat dt_X11_drop 52 rfl) kd_105 ltk_105 q28 ?_
            cases hrun
            exact g_iret C K (dat dt_X11_drop 53 rfl)
          · rw [if_neg (b2i_z c15)] at hrun
            refine g_iconst C (dat dt_X11_drop 21 rfl) ic_m1 ?_
            cases hrun
            exact g_iret C K (dat dt_X11_drop 22 rfl)
/-! SteamNationsModel.few(II)J -/
def dl_X11_few : List (Nat × Instr × Nat) := [(0, .iload_n 1, 1), (1, .iconst 1, 1), (2, .bipush 20, 2), (4, .invokestatic 18, 3), (7, .ifCond .eq 13, 3), (10, .iload_n 2, 1), (11, .iconst 0, 1), (12, .bipush 99, 2), (14, .invokestatic 18, 3), (17, .ifCond .ne 7, 3), (20, .ldc2_w 354, 3), (23, .lreturn, 1), (24, .iconst 0, 1), (25, .istore_n 3, 1), (26, .iload_n 3, 1), (27, .bipush 20, 2), (29, .if_icmp .gt 26, 3), (32, .aload_n 0, 1), (33, .getfield 105, 3), (36, .iload_n 3, 1), (37, .iload_n 3, 1), (38, .ifCond .ne 9, 3), (41, .ldc2_w 454, 3), (44, .goto 4, 3), (47, .lconst 0, 1), (48, .lastore, 1), (49, .iinc 3 1, 3), (52, .goto (-26), 3), (55, .iconst 0, 1), (56, .istore_n 3, 1), (57, .iload_n 3, 1), (58, .iload_n 2, 1), (59, .if_icmp .ge 87, 3), (62, .iload_n 1, 1), (63, .iconst 1, 1), (64, .isub, 1), (65, .istore 4, 2), (67, .iload 4, 2), (69, .ifCond .lt 71, 3), (72, .aload_n 0, 1), (73, .getfield 105, 3), (76, .iload 4, 2), (78, .iconst 1, 1), (79, .iadd, 1), (80, .dup2, 1), (81, .laload, 1), (82, .aload_n 0, 1), (83, .getfield 105, 3), (86, .iload 4, 2), (88, .laload, 1), (89, .aload_n 0, 1), (90, .getfield 28, 3), (93, .bipush 49, 2), (95, .iaload, 1), (96, .i2l, 1), (97, .lmul, 1), (98, .ldc2_w 456, 3), (101, .ldiv, 1), (102, .ladd, 1), (103, .lastore, 1), (104, .aload_n 0, 1), (105, .getfield 105, 3), (108, .iload 4, 2), (110, .aload_n 0, 1), (111, .getfield 105, 3), (114, .iload 4, 2), (116, .laload, 1), (117, .bipush 10, 2), (119, .aload_n 0, 1), (120, .getfield 28, 3), (123, .bipush 49, 2), (125, .iaload, 1), (126, .isub, 1), (127, .i2l, 1), (128, .lmul, 1), (129, .ldc2_w 456, 3), (132, .ldiv, 1), (133, .lastore, 1), (134, .iinc 4 (-1), 3), (137, .goto (-70), 3), (140, .iinc 3 1, 3), (143, .goto (-86), 3), (146, .lconst 0, 1), (147, .lstore_n 3, 1), (148, .iconst 0, 1), (149, .istore 5, 2), (151, .iload 5, 2), (153, .iload_n 1, 1), (154, .if_icmp .ge 19, 3), (157, .lload_n 3, 1), (158, .aload_n 0, 1), (159, .getfield 105, 3), (162, .iload 5, 2), (164, .laload, 1), (165, .ladd, 1), (166, .lstore_n 3, 1), (167, .iinc 5 1, 3), (170, .goto (-19), 3), (173, .lload_n 3, 1), (174, .lreturn, 1)]
set_option maxRecDepth 20000 in
theorem dt_X11_few : ∀ q ∈ dl_X11_few, decode prog_13_method_120_code q.1 = .ok q.2 := by decide +kernel
def kp_X11_few_26  (x1 : Int32) (x2 : Int32) (X : Xt) (s : (Int32 × Hp)) : Prop := G X s.2 0 0 26 [(0, .ref 81), (1, .int x1), (2, .int x2), (3, .int s.1)] []
def ke_X11_few_26  (x1 : Int32) (x2 : Int32) (X : Xt) (e : Hp) : Prop := G X e 0 0 55 [(0, .ref 81), (1, .int x1), (2, .int x2)] []
def j_X11_few_48_26  (x1 : Int32) (x2 : Int32) (x3 : Int32) (s1 : Int32) (s2 : Int64) (h : Hp) : Option ((Int32 × Hp) ⊕ Hp) :=
  (inb s1 21).bind fun j9 =>
  some (.inl ((x3 + (1 : Int32)), (sL h 107 j9 s2)))
set_option maxRecDepth 20000 in
theorem wj_X11_few_48_26 {X : Xt} (C : Cx X cn_11 prog_13_method_120_code 6 (some .long) 2 0 0)    (x1 : Int32) (x2 : Int32) (x3 : Int32) (s1 : Int32) (s2 : Int64) (h : Hp) (q : (Int32 × Hp) ⊕ Hp) (hrun : j_X11_few_48_26  x1 x2 x3 s1 s2 h = some q) (Ks : ∀ s, q = .inl s → kp_X11_few_26  x1 x2 X s) (Ke : ∀ e, q = .inr e → ke_X11_few_26  x1 x2 X e) : G X h 0 0 48 [(0, .ref 81), (1, .int x1), (2, .int x2), (3, .int x3)] [.long s2, .int s1, .ref 107] := by
  unfold j_X11_few_48_26 at hrun
  obtain ⟨j9, q10, hrun⟩ := bd hrun
  refine g_last (j := j9) C (dat dt_X11_few 25 rfl) kd_107 ltk_107 q10  ?_
  refine g_iinc (v := (x3 + (1 : Int32))) (lv' := [(0, .ref 81), (1, .int x1), (2, .int x2), (3, .int (x3 + (1 : Int32)))]) C (dat dt_X11_few 26 rfl) 3 rfl (congrArg (fun z => x3 + z) ic_1) (by decide) rfl ?_
  refine g_goto 26 C (dat dt_X11_few 27 rfl) (by decide) ?_
  cases hrun
  exact Ks ((x3 + (1 : Int32)), (sL h 107 j9 s2)) rfl
def b_X11_few_26  (x1 : Int32) (x2 : Int32) (x3 : Int32) (h : Hp) : Option ((Int32 × Hp) ⊕ Hp) :=
  if (20 : Int32) < x3 then
  some (.inr ( h))
  else
  if x3 = 0 then
  j_X11_few_48_26  x1 x2 x3 x3 (1000000000000 : Int64) h
  else
  j_X11_few_48_26  x1 x2 x3 x3 (0 : Int64) h
set_option maxRecDepth 20000 in
theorem wb_X11_few_26 {X : Xt} (C : Cx X cn_11 prog_13_method_120_code 6 (some .long) 2 0 0)   (x1 : Int32) (x2 : Int32) (x3 : Int32) (h : Hp) (q : (Int32 × Hp) ⊕ Hp) (hrun : b_X11_few_26  x1 x2 x3 h = some q) (Ks : ∀ s, q = .inl s → kp_X11_few_26  x1 x2 X s) (Ke : ∀ e, q = .inr e → ke_X11_few_26  x1 x2 X e) : kp_X11_few_26  x1 x2 X (x3, h) := by
  show G X h 0 0 26 [(0, .ref 81), (1, .int x1), (2, .int x2), (3, .int x3)] []
  unfold b_X11_few_26 at hrun
  refine g_iload_n C (dat dt_X11_few 14 rfl) 3 rfl ?_
  refine g_bipush C (dat dt_X11_few 15 rfl) bp_20 ?_
  refine g_ic_gt 55 C (dat dt_X11_few 16 rfl) (by decide) (fun c7 => ?_) (fun c7 => ?_)
  · rw [if_pos c7] at hrun
    refine g_sub [0, 1, 2] (lv' := [(0, .ref 81), (1, .int x1), (2, .int x2)]) rfl ?_
    cases hrun
    exact Ke ( h) rfl
  · rw [if_neg c7] at hrun
    refine g_aload_n C (dat dt_X11_few 17 rfl) 0 rfl ?_
    refine g_getR C (dat dt_X11_few 18 rfl) fl_11_105 kd_81 rfl ltk_81 ?_
    refine g_iload_n C (dat dt_X11_few 19 rfl) 3 rfl ?_
    refine g_iload_n C (dat dt_X11_few 20 rfl) 3 rfl ?_
    refine g_if_ne 47 C (dat dt_X11_few 21 rfl) (by decide) (fun c8 => ?_) (fun c8 => ?_)
    · rw [if_neg c8] at hrun
      refine g_lconst (v := 0) C (dat dt_X11_few 24 rfl) rfl ?_
      exact wj_X11_few_48_26 C    x1 x2 x3 x3 (0 : Int64) h _ hrun Ks Ke
    · rw [if_pos c8] at hrun
      refine g_ldc2 C (dat dt_X11_few 22 rfl) kc_11_454 ?_
      refine g_goto 48 C (dat dt_X11_few 23 rfl) (by decide) ?_
      exact wj_X11_few_48_26 C    x1 x2 x3 x3 (1000000000000 : Int64) h _ hrun Ks Ke
def kp_X11_few_57  (x1 : Int32) (x2 : Int32) (X : Xt) (s : (Int32 × Hp)) : Prop := G X s.2 0 0 57 [(0, .ref 81), (1, .int x1), (2, .int x2), (3, .int s.1)] []
def ke_X11_few_57  (x1 : Int32) (x2 : Int32) (X : Xt) (e : Hp) : Prop := G X e 0 0 146 [(0, .ref 81), (1, .int x1)] []
def kp_X11_few_67_57  (x1 : Int32) (x2 : Int32) (x3 : Int32) (X : Xt) (s : (Int32 × Hp)) : Prop := G X s.2 0 0 67 [(0, .ref 81), (1, .int x1), (2, .int x2), (3, .int x3), (4, .int s.1)] []
def ke_X11_few_67_57  (x1 : Int32) (x2 : Int32) (x3 : Int32) (X : Xt) (e : Hp) : Prop := G X e 0 0 140 [(0, .ref 81), (1, .int x1), (2, .int x2), (3, .int x3)] []
def b_X11_few_67_57  (x1 : Int32) (x2 : Int32) (x3 : Int32) (x4 : Int32) (h : Hp) : Option ((Int32 × Hp) ⊕ Hp) :=
  if x4 < 0 then
  some (.inr ( h))
  else
  (inb (x4 + (1 : Int32)) 21).bind fun j15 =>
  (inb x4 21).bind fun j17 =>
  (inb (x4 + (1 : Int32)) 21).bind fun j19 =>
  (inb x4 21).bind fun j21 =>
  (inb x4 21).bind fun j23 =>
  some (.inl ((x4 + (-1 : Int32)), (sL (sL h 107 j19 ((aL h 107 j15) + (((aL h 107 j17) * (aI h 83 49).toInt64) / (10 : Int64)))) 107 j23 (((aL (sL h 107 j19 ((aL h 107 j15) + (((aL h 107 j17) * (aI h 83 49).toInt64) / (10 : Int64)))) 107 j21) * ((10 : Int32) - (aI (sL h 107 j19 ((aL h 107 j15) + (((aL h 107 j17) * (aI h 83 49).toInt64) / (10 : Int64)))) 83 49)).toInt64) / (10 : Int64)))))
set_option maxRecDepth 20000 in
theorem wb_X11_few_67_57 {X : Xt} (C : Cx X cn_11 prog_13_method_120_code 6 (some .long) 2 0 0)   (x1 : Int32) (x2 : Int32) (x3 : Int32) (x4 : Int32) (h : Hp) (q : (Int32 × Hp) ⊕ Hp) (hrun : b_X11_few_67_57  x1 x2 x3 x4 h = some q) (Ks : ∀ s, q = .inl s → kp_X11_few_67_57  x1 x2 x3 X s) (Ke : ∀ e, q = .inr e → ke_X11_few_67_57  x1 x2 x3 X e) : kp_X11_few_67_57  x1 x2 x3 X (x4, h) := by
  show G X h 0 0 67 [(0, .ref 81), (1, .int x1), (2, .int x2), (3, .int x3), (4, .int x4)] []
  unfold b_X11_few_67_57 at hrun
  refine g_iload C (dat dt_X11_few 37 rfl) 4 rfl ?_
  refine g_if_lt 140 C (dat dt_X11_few 38 rfl) (by decide) (fun c14 => ?_) (fun c14 => ?_)
  · rw [if_pos c14] at hrun
    refine g_sub [0, 1, 2, 3] (lv' := [(0, .ref 81), (1, .int x1), (2, .int x2), (3, .int x3)]) rfl ?_
    cases hrun
    exact Ke ( h) rfl
  · rw [if_neg c14] at hrun
    refine g_aload_n C (dat dt_X11_few 39 rfl) 0 rfl ?_
    refine g_getR C (dat dt_X11_few 40 rfl) fl_11_105 kd_81 rfl ltk_81 ?_
    refine g_iload C (dat dt_X11_few 41 rfl) 4 rfl ?_
    refine g_iconst C (dat dt_X11_few 42 rfl) ic_1 ?_
    refine g_iadd C (dat dt_X11_few 43 rfl) ?_
    refine g_dup2 C (dat dt_X11_few 44 rfl) rfl rfl ?_
    obtain ⟨j15, q16, hrun⟩ := bd hrun
    refine g_lald C (dat dt_X11_few 45 rfl) kd_107 ltk_107 q16 ?_
    refine g_aload_n C (dat dt_X11_few 46 rfl) 0 rfl ?_
    refine g_getR C (dat dt_X11_few 47 rfl) fl_11_105 kd_81 rfl ltk_81 ?_
    refine g_iload C (dat dt_X11_few 48 rfl) 4 rfl ?_
    obtain ⟨j17, q18, hrun⟩ := bd hrun
    refine g_lald C (dat dt_X11_few 49 rfl) kd_107 ltk_107 q18 ?_
    refine g_aload_n C (dat dt_X11_few 50 rfl) 0 rfl ?_
    refine g_getR C (dat dt_X11_few 51 rfl) fl_11_28 kd_81 rfl ltk_81 ?_
    refine g_bipush C (dat dt_X11_few 52 rfl) bp_49 ?_
    refine g_iald (j := 49) C (dat dt_X11_few 53 rfl) kd_83 ltk_83 (show inb (49 : Int32) 5662 = some 49 by decide) ?_
    refine g_i2l C (dat dt_X11_few 54 rfl) ?_
    refine g_lmul C (dat dt_X11_few 55 rfl) ?_
    refine g_ldc2 C (dat dt_X11_few 56 rfl) kc_11_456 ?_
    refine g_ldiv C (dat dt_X11_few 57 rfl) (by decide) ?_
    refine g_ladd C (dat dt_X11_few 58 rfl) ?_
    obtain ⟨j19, q20, hrun⟩ := bd hrun
    refine g_last (j := j19) C (dat dt_X11_few 59 rfl) kd_107 ltk_107 q20  ?_
    refine g_aload_n C (dat dt_X11_few 60 rfl) 0 rfl ?_
    refine g_getR C (dat dt_X11_few 61 rfl) fl_11_105 kd_81 rfl ltk_81 ?_
    refine g_iload C (dat dt_X11_few 62 rfl) 4 rfl ?_
    refine g_aload_n C (dat dt_X11_few 63 rfl) 0 rfl ?_
    refine g_getR C (dat dt_X11_few 64 rfl) fl_11_105 kd_81 rfl ltk_81 ?_
    refine g_iload C (dat dt_X11_few 65 rfl) 4 rfl ?_
    obtain ⟨j21, q22, hrun⟩ := bd hrun
    refine g_lald C (dat dt_X11_few 66 rfl) kd_107 ltk_107 q22 ?_
    refine g_bipush C (dat dt_X11_few 67 rfl) bp_10 ?_
    refine g_aload_n C (dat dt_X11_few 68 rfl) 0 rfl ?_
    refine g_getR C (dat dt_X11_few 69 rfl) fl_11_28 kd_81 rfl ltk_81 ?_
    refine g_bipush C (dat dt_X11_few 70 rfl) bp_49 ?_
    refine g_iald (j := 49) C (dat dt_X11_few 71 rfl) kd_83 ltk_83 (show inb (49 : Int32) 5662 = some 49 by decide) ?_
    refine g_isub C (dat dt_X11_few 72 rfl) ?_
    refine g_i2l C (dat dt_X11_few 73 rfl) ?_
    refine g_lmul C (dat dt_X11_few 74 rfl) ?_
    refine g_ldc2 C (dat dt_X11_few 75 rfl) kc_11_456 ?_
    refine g_ldiv C (dat dt_X11_few 76 rfl) (by decide) ?_
    obtain ⟨j23, q24, hrun⟩ := bd hrun
    refine g_last (j := j23) C (dat dt_X11_few 77 rfl) kd_107 ltk_107 q24  ?_
    refine g_iinc (v := (x4 + (-1 : Int32))) (lv' := [(0, .ref 81), (1, .int x1), (2, .int x2), (3, .int x3), (4, .int (x4 + (-1 : Int32)))]) C (dat dt_X11_few 78 rfl) 4 rfl (congrArg (fun z => x4 + z) ic_m1) (by decide) rfl ?_
    refine g_goto 67 C (dat dt_X11_few 79 rfl) (by decide) ?_
    cases hrun
    exact Ks ((x4 + (-1 : Int32)), (sL (sL h 107 j19 ((aL h 107 j15) + (((aL h 107 j17) * (aI h 83 49).toInt64) / (10 : Int64)))) 107 j23 (((aL (sL h 107 j19 ((aL h 107 j15) + (((aL h 107 j17) * (aI h 83 49).toInt64) / (10 : Int64)))) 107 j21) * ((10 : Int32) - (aI (sL h 107 j19 ((aL h 107 j15) + (((aL h 107 j17) * (aI h 83 49).toInt64) / (10 : Int64)))) 83 49)).toInt64) / (10 : Int64)))) rfl
def b_X11_few_57  (x1 : Int32) (x2 : Int32) (x3 : Int32) (h : Hp) : Option ((Int32 × Hp) ⊕ Hp) :=
  if x2 ≤ x3 then
  some (.inr ( h))
  else
  (lp (fun s => b_X11_few_67_57  x1 x2 x3 s.1 s.2) FU ((x1 - (1 : Int32)), h)).bind fun e25 =>
  some (.inl ((x3 + (1 : Int32)), e25))
set_option maxRecDepth 20000 in
theorem wb_X11_few_57 {X : Xt} (C : Cx X cn_11 prog_13_method_120_code 6 (some .long) 2 0 0)   (x1 : Int32) (x2 : Int32) (x3 : Int32) (h : Hp) (q : (Int32 × Hp) ⊕ Hp) (hrun : b_X11_few_57  x1 x2 x3 h = some q) (Ks : ∀ s, q = .inl s → kp_X11_few_57  x1 x2 X s) (Ke : ∀ e, q = .inr e → ke_X11_few_57  x1 x2 X e) : kp_X11_few_57  x1 x2 X (x3, h) := by
  show G X h 0 0 57 [(0, .ref 81), (1, .int x1), (2, .int x2), (3, .int x3)] []
  unfold b_X11_few_57 at hrun
  refine g_iload_n C (dat dt_X11_few 30 rfl) 3 rfl ?_
  refine g_iload_n C (dat dt_X11_few 31 rfl) 2 rfl ?_
  refine g_ic_ge 146 C (dat dt_X11_few 32 rfl) (by decide) (fun c13 => ?_) (fun c13 => ?_)
  · rw [if_pos c13] at hrun
    refine g_sub [0, 1] (lv' := [(0, .ref 81), (1, .int x1)]) rfl ?_
    cases hrun
    exact Ke ( h) rfl
  · rw [if_neg c13] at hrun
    refine g_iload_n C (dat dt_X11_few 33 rfl) 1 rfl ?_
    refine g_iconst C (dat dt_X11_few 34 rfl) ic_1 ?_
    refine g_isub C (dat dt_X11_few 35 rfl) ?_
    refine g_istore (lv' := [(0, .ref 81), (1, .int x1), (2, .int x2), (3, .int x3), (4, .int (x1 - (1 : Int32)))]) C (dat dt_X11_few 36 rfl) (by decide) rfl ?_
    obtain ⟨e25, q26, hrun⟩ := bd hrun
    refine lp_ind (P := fun s => kp_X11_few_67_57  x1 x2 x3 X s) (K := fun e => ke_X11_few_67_57  x1 x2 x3 X e) (fun s q hb Ks Ke => wb_X11_few_67_57 C   x1 x2 x3 s.1 s.2 q hb Ks Ke) FU ((x1 - (1 : Int32)), h) e25 q26 ?_
    show G X e25 0 0 140 [(0, .ref 81), (1, .int x1), (2, .int x2), (3, .int x3)] []
    refine g_iinc (v := (x3 + (1 : Int32))) (lv' := [(0, .ref 81), (1, .int x1), (2, .int x2), (3, .int (x3 + (1 : Int32)))]) C (dat dt_X11_few 80 rfl) 3 rfl (congrArg (fun z => x3 + z) ic_1) (by decide) rfl ?_
    refine g_goto 57 C (dat dt_X11_few 81 rfl) (by decide) ?_
    cases hrun
    exact Ks ((x3 + (1 : Int32)), e25) rfl
def kp_X11_few_151  (x1 : Int32) (h : Hp) (X : Xt) (s : (Int64 × Int32)) : Prop := G X h 0 0 151 [(0, .ref 81), (1, .int x1), (3, .long s.1), (5, .int s.2)] []
def ke_X11_few_151  (x1 : Int32) (h : Hp) (X : Xt) (e : Int64) : Prop := G X h 0 0 173 [(3, .long e)] []
def b_X11_few_151  (x1 : Int32) (x3 : Int64) (x5 : Int32) (h : Hp) : Option ((Int64 × Int32) ⊕ Int64) :=
  if x1 ≤ x5 then
  some (.inr ( x3))
  else
  (inb x5 21).bind fun j30 =>
  some (.inl ((x3 + (aL h 107 j30)), (x5 + (1 : Int32))))
set_option maxRecDepth 20000 in
theorem wb_X11_few_151 {X : Xt} (C : Cx X cn_11 prog_13_method_120_code 6 (some .long) 2 0 0)   (x1 : Int32) (x3 : Int64) (x5 : Int32) (h : Hp) (q : (Int64 × Int32) ⊕ Int64) (hrun : b_X11_few_151  x1 x3 x5 h = some q) (Ks : ∀ s, q = .inl s → kp_X11_few_151  x1 h X s) (Ke : ∀ e, q = .inr e → ke_X11_few_151  x1 h X e) : kp_X11_few_151  x1 h X (x3, x5) := by
  show G X h 0 0 151 [(0, .ref 81), (1, .int x1), (3, .long x3), (5, .int x5)] []
  unfold b_X11_few_151 at hrun
  refine g_iload C (dat dt_X11_few 86 rfl) 3 rfl ?_
  refine g_iload_n C (dat dt_X11_few 87 rfl) 1 rfl ?_
  refine g_ic_ge 173 C (dat dt_X11_few 88 rfl) (by decide) (fun c29 => ?_) (fun c29 => ?_)
  · rw [if_pos c29] at hrun
    refine g_sub [2] (lv' := [(3, .long x3)]) rfl ?_
    cases hrun
    exact Ke ( x3) rfl
  · rw [if_neg c29] at hrun
    refine g_lload_n C (dat dt_X11_few 89 rfl) 2 rfl ?_
    refine g_aload_n C (dat dt_X11_few 90 rfl) 0 rfl ?_
    refine g_getR C (dat dt_X11_few 91 rfl) fl_11_105 kd_81 rfl ltk_81 ?_
    refine g_iload C (dat dt_X11_few 92 rfl) 3 rfl ?_
    obtain ⟨j30, q31, hrun⟩ := bd hrun
    refine g_lald C (dat dt_X11_few 93 rfl) kd_107 ltk_107 q31 ?_
    refine g_ladd C (dat dt_X11_few 94 rfl) ?_
    refine g_lstore_n (lv' := [(0, .ref 81), (1, .int x1), (3, .long (x3 + (aL h 107 j30))), (5, .int x5)]) C (dat dt_X11_few 95 rfl) (by decide) rfl ?_
    refine g_iinc (v := (x5 + (1 : Int32))) (lv' := [(0, .ref 81), (1, .int x1), (3, .long (x3 + (aL h 107 j30))), (5, .int (x5 + (1 : Int32)))]) C (dat dt_X11_few 96 rfl) 3 rfl (congrArg (fun z => x5 + z) ic_1) (by decide) rfl ?_
    refine g_goto 151 C (dat dt_X11_few 97 rfl) (by decide) ?_
    cases hrun
    exact Ks ((x3 + (aL h 107 j30)), (x5 + (1 : Int32))) rfl
def f_X11_few (x1 : Int32) (x2 : Int32) (h : Hp) : Option (Int64 × Hp) :=
  (f_X11_lies x1 (1 : Int32) (20 : Int32)).bind fun v1 =>
  if v1 = true then
  (f_X11_lies x2 (0 : Int32) (99 : Int32)).bind fun v4 =>
  if v4 = true then
  (lp (fun s => b_X11_few_26  x1 x2 s.1 s.2) FU ((0 : Int32), h)).bind fun e11 =>
  (lp (fun s => b_X11_few_57  x1 x2 s.1 s.2) FU ((0 : Int32), e11)).bind fun e27 =>
  (lp (fun s => b_X11_few_151  x1 s.1 s.2 e27) FU ((0 : Int64), (0 : Int32))).bind fun e32 =>
  some (e32, e27)
  else
  some ((-1 : Int64), h)
  else
  some ((-1 : Int64), h)
set_option maxRecDepth 20000 in
theorem w_X11_few (x1 : Int32) (x2 : Int32) (h : Hp) (q : (Int64 × Hp))  (hrun : f_X11_few x1 x2 h = some q) : MetA ⟨"SteamNationsModel", "few", "(II)J"⟩ prog_13_method_120_code 6 (some .long) 2 0 0 [.ref 81, .int x1, .int x2] h (some (.long q.1)) q.2 := by
  refine metA_of (by decide) (Nat.le_of_ble_eq_true rfl) (fun X C K => ?_)
  have C : Cx X cn_11 prog_13_method_120_code 6 (some .long) 2 0 0 := C
  show G X h 0 0 0 [(0, .ref 81), (1, .int x1), (2, .int x2)] []
  unfold f_X11_few at hrun
  refine g_iload_n C (dat dt_X11_few 0 rfl) 1 rfl ?_
  refine g_iconst C (dat dt_X11_few 1 rfl) ic_1 ?_
  refine g_bipush C (dat dt_X11_few 2 rfl) bp_20 ?_
  obtain ⟨v1, q2, hrun⟩ := bd hrun
  refine g_cSi [.int x1, .int (1 : Int32), .int (20 : Int32)] C (dat dt_X11_few 3 rfl) ml_11_18 (w_X11_lies x1 (1 : Int32) (20 : Int32) h v1  q2) rfl rfl cat0 (by decide) c00 ?_
  refine g_if_eq 20 C (dat dt_X11_few 4 rfl) (by decide) (fun c3 => ?_) (fun c3 => ?_)
  · rw [if_neg (b2i_z c3)] at hrun
    refine g_ldc2 C (dat dt_X11_few 10 rfl) kc_11_354 ?_
    cases hrun
    exact g_lret C K (dat dt_X11_few 11 rfl)
  · rw [if_pos (b2i_nz c3)] at hrun
    refine g_iload_n C (dat dt_X11_few 5 rfl) 2 rfl ?_
    refine g_iconst C (dat dt_X11_few 6 rfl) ic_0 ?_
    refine g_bipush C (dat dt_X11_few 7 rfl) bp_99 ?_
    obtain ⟨v4, q5, hrun⟩ := bd hrun
    refine g_cSi [.int x2, .int (0 : Int32), .int (99 : Int32)] C (dat dt_X11_few 8 rfl) ml_11_18 (w_X11_lies x2 (0 : Int32) (99 : Int32) h v4  q5) rfl rfl cat0 (by decide) c00 ?_
    refine g_if_ne 24 C (dat dt_X11_few 9 rfl) (by decide) (fun c6 => ?_) (fun c6 => ?_)
    · rw [if_pos (b2i_nz c6)] at hrun
      refine g_iconst C (dat dt_X11_few 12 rfl) ic_0 ?_
      refine g_istore_n (lv' := [(0, .ref 81), (1, .int x1), (2, .int x2), (3, .int (0 : Int32))]) C (dat dt_X11_few 13 rfl) (by decide) rfl ?_
      obtain ⟨e11, q12, hrun⟩ := bd hrun
      refine lp_ind (P := fun s => kp_X11_few_26  x1 x2 X s) (K := fun e => ke_X11_few_26  x1 x2 X e) (fun s q hb Ks Ke => wb_X11_few_26 C   x1 x2 s.1 s.2 q hb Ks Ke) FU ((0 : Int32), h) e11 q12 ?_
      show G X e11 0 0 55 [(0, .ref 81), (1, .int x1), (2, .int x2)] []
      refine g_iconst C (dat dt_X11_few 28 rfl) ic_0 ?_
      refine g_istore_n (lv' := [(0, .ref 81), (1, .int x1), (2, .int x2), (3, .int (0 : Int32))]) C (dat dt_X11_few 29 rfl) (by decide) rfl ?_
      obtain ⟨e27, q28, hrun⟩ := bd hrun
      refine lp_ind (P := fun s => kp_X11_few_57  x1 x2 X s) (K := fun e => ke_X11_few_57  x1 x2 X e) (fun s q hb Ks Ke => wb_X11_few_57 C   x1 x2 s.1 s.2 q hb Ks Ke) FU ((0 : Int32), e11) e27 q28 ?_
      show G X e27 0 0 146 [(0, .ref 81), (1, .int x1)] []
      refine g_lconst (v := 0) C (dat dt_X11_few 82 rfl) rfl ?_
      refine g_lstore_n (lv' := [(0, .ref 81), (1, .int x1), (3, .long (0 : Int64))]) C (dat dt_X11_few 83 rfl) (by decide) rfl ?_
      refine g_iconst C (dat dt_X11_few 84 rfl) ic_0 ?_
      refine g_istore (lv' := [(0, .ref 81), (1, .int x1), (3, .long (0 : Int64)), (5, .int (0 : Int32))]) C (dat dt_X11_few 85 rfl) (by decide) rfl ?_
      obtain ⟨e32, q33, hrun⟩ := bd hrun
      refine lp_ind (P := fun s => kp_X11_few_151  x1 e27 X s) (K := fun e => ke_X11_few_151  x1 e27 X e) (fun s q hb Ks Ke => wb_X11_few_151 C   x1 s.1 s.2 e27 q hb Ks Ke) FU ((0 : Int64), (0 : Int32)) e32 q33 ?_
      show G X e27 0 0 173 [(3, .long e32)] []
      refine g_lload_n C (dat dt_X11_few 98 rfl) 0 rfl ?_
      cases hrun
      exact g_lret C K (dat dt_X11_few 99 rfl)
    · rw [if_neg (b2i_z c6)] at hrun
      refine g_ldc2 C (dat dt_X11_few 10 rfl) kc_11_354 ?_
      cases hrun
      exact g_lret C K (dat dt_X11_few 11 rfl)
/-! SteamNationsModel.draws(I)I -/
def dl_X11_draws : List (Nat × Instr × Nat) := [(0, .aload_n 0, 1), (1, .ldc2_w 489, 3), (4, .aload_n 0, 1), (5, .getfield 491, 3), (8, .i2l, 1), (9, .lmul, 1), (10, .ldc2_w 494, 3), (13, .ladd, 1), (14, .ldc2_w 496, 3), (17, .lrem, 1), (18, .l2i, 1), (19, .putfield 491, 3), (22, .aload_n 0, 1), (23, .getfield 491, 3), (26, .iload_n 1, 1), (27, .irem, 1), (28, .ireturn, 1)]
set_option maxRecDepth 20000 in
theorem dt_X11_draws : ∀ q ∈ dl_X11_draws, decode prog_13_method_128_code q.1 = .ok q.2 := by decide +kernel
def f_X11_draws (x1 : Int32) (h : Hp) : Option (Int32 × Hp) :=
  if x1 = 0 then none else
  some (((fI (sF h 81 55 ((((1103 : Int64) * (fI h 81 55).toInt64) + (12345 : Int64)) - (((1103 : Int64) * (fI h 81 55).toInt64) + (12345 : Int64)) / (1000003 : Int64) * (1000003 : Int64)).toInt32) 81 55) - (fI (sF h 81 55 ((((1103 : Int64) * (fI h 81 55).toInt64) + (12345 : Int64)) - (((1103 : Int64) * (fI h 81 55).toInt64) + (12345 : Int64)) / (1000003 : Int64) * (1000003 : Int64)).toInt32) 81 55) / x1 * x1), (sF h 81 55 ((((1103 : Int64) * (fI h 81 55).toInt64) + (12345 : Int64)) - (((1103 : Int64) * (fI h 81 55).toInt64) + (12345 : Int64)) / (1000003 : Int64) * (1000003 : Int64)).toInt32))
set_option maxRecDepth 20000 in
theorem w_X11_draws (x1 : Int32) (h : Hp) (q : (Int32 × Hp))  (hrun : f_X11_draws x1 h = some q) : MetA ⟨"SteamNationsModel", "draws", "(I)I"⟩ prog_13_method_128_code 2 (some .int) 1 0 0 [.ref 81, .int x1] h (some (.int q.1)) q.2 := by
  refine metA_of (by decide) (Nat.le_of_ble_eq_true rfl) (fun X C K => ?_)
  have C : Cx X cn_11 prog_13_method_128_code 2 (some .int) 1 0 0 := C
  show G X h 0 0 0 [(0, .ref 81), (1, .int x1)] []
  unfold f_X11_draws at hrun
  refine g_aload_n C (dat dt_X11_draws 0 rfl) 0 rfl ?_
  refine g_ldc2 C (dat dt_X11_draws 1 rfl) kc_11_489 ?_
  refine g_aload_n C (dat dt_X11_draws 2 rfl) 0 rfl ?_
  refine g_getI C (dat dt_X11_draws 3 rfl) fl_11_491 kd_81 rfl ltk_81 ?_
  refine g_i2l C (dat dt_X11_draws 4 rfl) ?_
  refine g_lmul C (dat dt_X11_draws 5 rfl) ?_
  refine g_ldc2 C (dat dt_X11_draws 6 rfl) kc_11_494 ?_
  refine g_ladd C (dat dt_X11_draws 7 rfl) ?_
  refine g_ldc2 C (dat dt_X11_draws 8 rfl) kc_11_496 ?_
  refine g_lrem C (dat dt_X11_draws 9 rfl) (by decide) ?_
  refine g_l2i C (dat dt_X11_draws 10 rfl) ?_
  refine g_putI C (dat dt_X11_draws 11 rfl) fl_11_491 rfl rfl kd_81 rfl ltk_81 ?_
  refine g_aload_n C (dat dt_X11_draws 12 rfl) 0 rfl ?_
  refine g_getI C (dat dt_X11_draws 13 rfl) fl_11_491 kd_81 rfl ltk_81 ?_
  refine g_iload_n C (dat dt_X11_draws 14 rfl) 1 rfl ?_
  by_cases c1 : x1 = 0
  · rw [if_pos c1] at hrun
    cases hrun
  · rw [if_neg c1] at hrun
    refine g_irem C (dat dt_X11_draws 15 rfl) c1 ?_
    cases hrun
    exact g_iret C K (dat dt_X11_draws 16 rfl)
/-! SteamNationsModel.drawn(II)I -/
def dl_X11_drawn : List (Nat × Instr × Nat) := [(0, .iload_n 1, 1), (1, .iconst 0, 1), (2, .aload_n 0, 1), (3, .getfield 118, 3), (6, .iconst 1, 1), (7, .isub, 1), (8, .invokestatic 18, 3), (11, .ifCond .eq 12, 3), (14, .iload_n 2, 1), (15, .iconst 0, 1), (16, .iconst 3, 1), (17, .invokestatic 18, 3), (20, .ifCond .ne 5, 3), (23, .iconst (-1), 1), (24, .ireturn, 1), (25, .iload_n 2, 1), (26, .iconst 3, 1), (27, .if_icmp .ne 15, 3), (30, .aload_n 0, 1), (31, .getfield 115, 3), (34, .bipush 18, 2), (36, .iload_n 1, 1), (37, .iadd, 1), (38, .iaload, 1), (39, .goto 15, 3), (42, .aload_n 0, 1), (43, .getfield 115, 3), (46, .iconst 0, 1), (47, .iconst 3, 1), (48, .iload_n 1, 1), (49, .imul, 1), (50, .iadd, 1), (51, .iload_n 2, 1), (52, .iadd, 1), (53, .iaload, 1), (54, .ireturn, 1)]
set_option maxRecDepth 20000 in
theorem dt_X11_drawn : ∀ q ∈ dl_X11_drawn, decode prog_13_method_131_code q.1 = .ok q.2 := by decide +kernel
def f_X11_drawn (x1 : Int32) (x2 : Int32) (h : Hp) : Option Int32 :=
  (f_X11_lies x1 (0 : Int32) ((fI h 81 54) - (1 : Int32))).bind fun v1 =>
  if v1 = true then
  (f_X11_lies x2 (0 : Int32) (3 : Int32)).bind fun v4 =>
  if v4 = true then
  if x2 = (3 : Int32) then
  (inb ((18 : Int32) + x1) 25).bind fun j10 =>
  some (aI h 109 j10)
  else
  (inb (((0 : Int32) + ((3 : Int32) * x1)) + x2) 25).bind fun j8 =>
  some (aI h 109 j8)
  else
  some (-1 : Int32)
  else
  some (-1 : Int32)
set_option maxRecDepth 20000 in
theorem w_X11_drawn (x1 : Int32) (x2 : Int32) (h : Hp) (q : Int32)  (hrun : f_X11_drawn x1 x2 h = some q) : MetA ⟨"SteamNationsModel", "drawn", "(II)I"⟩ prog_13_method_131_code 3 (some .int) 2 0 0 [.ref 81, .int x1, .int x2] h (some (.int q)) h := by
  refine metA_of (by decide) (Nat.le_of_ble_eq_true rfl) (fun X C K => ?_)
  have C : Cx X cn_11 prog_13_method_131_code 3 (some .int) 2 0 0 := C
  show G X h 0 0 0 [(0, .ref 81), (1, .int x1), (2, .int x2)] []
  unfold f_X11_drawn at hrun
  refine g_iload_n C (dat dt_X11_drawn 0 rfl) 1 rfl ?_
  refine g_iconst C (dat dt_X11_drawn 1 rfl) ic_0 ?_
  refine g_aload_n C (dat dt_X11_drawn 2 rfl) 0 rfl ?_
  refine g_getI C (dat dt_X11_drawn 3 rfl) fl_11_118 kd_81 rfl ltk_81 ?_
  refine g_iconst C (dat dt_X11_drawn 4 rfl) ic_1 ?_
  refine g_isub C (dat dt_X11_drawn 5 rfl) ?_
  obtain ⟨v1, q2, hrun⟩ := bd hrun
  refine g_cSi [.int x1, .int (0 : Int32), .int ((fI h 81 54) - (1 : Int32))] C (dat dt_X11_drawn 6 rfl) ml_11_18 (w_X11_lies x1 (0 : Int32) ((fI h 81 54) - (1 : Int32)) h v1  q2) rfl rfl cat0 (by decide) c00 ?_
  refine g_if_eq 23 C (dat dt_X11_drawn 7 rfl) (by decide) (fun c3 => ?_) (fun c3 => ?_)
  · rw [if_neg (b2i_z c3)] at hrun
    refine g_iconst C (dat dt_X11_drawn 13 rfl) ic_m1 ?_
    cases hrun
    exact g_iret C K (dat dt_X11_drawn 14 rfl)
  · rw [if_pos (b2i_nz c3)] at hrun
    refine g_iload_n C (dat dt_X11_drawn 8 rfl) 2 rfl ?_
    refine g_iconst C (dat dt_X11_drawn 9 rfl) ic_0 ?_
    refine g_iconst C (dat dt_X11_drawn 10 rfl) ic_3 ?_
    obtain ⟨v4, q5, hrun⟩ := bd hrun
    refine g_cSi [.int x2, .int (0 : Int32), .int (3 : Int32)] C (dat dt_X11_drawn 11 rfl) ml_11_18 (w_X11_lies x2 (0 : Int32) (3 : Int32) h v4  q5) rfl rfl cat0 (by decide) c00 ?_
    refine g_if_ne 25 C (dat dt_X11_drawn 12 rfl) (by decide) (fun c6 => ?_) (fun c6 => ?_)
    · rw [if_pos (b2i_nz c6)] at hrun
      refine g_iload_n C (dat dt_X11_drawn 15 rfl) 2 rfl ?_
      refine g_iconst C (dat dt_X11_drawn 16 rfl) ic_3 ?_
      refine g_ic_ne 42 C (dat dt_X11_drawn 17 rfl) (by decide) (fun c7 => ?_) (fun c7 => ?_)
      · rw [if_neg c7] at hrun
        refine g_aload_n C (dat dt_X11_drawn 25 rfl) 0 rfl ?_
        refine g_getR C (dat dt_X11_drawn 26 rfl) fl_11_115 kd_81 rfl ltk_81 ?_
        refine g_iconst C (dat dt_X11_drawn 27 rfl) ic_0 ?_
        refine g_iconst C (dat dt_X11_drawn 28 rfl) ic_3 ?_
        refine g_iload_n C (dat dt_X11_drawn 29 rfl) 1 rfl ?_
        refine g_imul C (dat dt_X11_drawn 30 rfl) ?_
        refine g_iadd C (dat dt_X11_drawn 31 rfl) ?_
        refine g_iload_n C (dat dt_X11_drawn 32 rfl) 2 rfl ?_
        refine g_iadd C (dat dt_X11_drawn 33 rfl) ?_
        obtain ⟨j8, q9, hrun⟩ := bd hrun
        refine g_iald C (dat dt_X11_drawn 34 rfl) kd_109 ltk_109 q9 ?_
        cases hrun
        exact g_iret C K (dat dt_X11_drawn 35 rfl)
      · rw [if_pos c7] at hrun
        refine g_aload_n C (dat dt_X11_drawn 18 rfl) 0 rfl ?_
        refine g_getR C (dat dt_X11_drawn 19 rfl) fl_11_115 kd_81 rfl ltk_81 ?_
        refine g_bipush C (dat dt_X11_drawn 20 rfl) bp_18 ?_
        refine g_iload_n C (dat dt_X11_drawn 21 rfl) 1 rfl ?_
        refine g_iadd C (dat dt_X11_drawn 22 rfl) ?_
        obtain ⟨j10, q11, hrun⟩ := bd hrun
        refine g_iald C (dat dt_X11_drawn 23 rfl) kd_109 ltk_109 q11 ?_
        refine g_goto 54 C (dat dt_X11_drawn 24 rfl) (by decide) ?_
        cases hrun
        exact g_iret C K (dat dt_X11_drawn 35 rfl)
    · rw [if_neg (b2i_z c6)] at hrun
      refine g_iconst C (dat dt_X11_drawn 13 rfl) ic_m1 ?_
      cases hrun
      exact g_iret C K (dat dt_X11_drawn 14 rfl)
/-! SteamNationsModel.image(I)I -/
def dl_X11_image : List (Nat × Instr × Nat) := [(0, .iload_n 1, 1), (1, .iconst 0, 1), (2, .iconst 1, 1), (3, .invokestatic 18, 3), (6, .ifCond .ne 9, 3), (9, .aload_n 0, 1), (10, .iconst (-1), 1), (11, .invokevirtual 121, 3), (14, .ireturn, 1), (15, .iconst 0, 1), (16, .istore_n 2, 1), (17, .iload_n 2, 1), (18, .sipush 5662, 3), (21, .if_icmp .ge 27, 3), (24, .aload_n 0, 1), (25, .getfield 31, 3), (28, .sipush 5662, 3), (31, .iload_n 1, 1), (32, .imul, 1), (33, .iload_n 2, 1), (34, .iadd, 1), (35, .aload_n 0, 1), (36, .getfield 28, 3), (39, .iload_n 2, 1), (40, .iaload, 1), (41, .iastore, 1), (42, .iinc 2 1, 3), (45, .goto (-28), 3), (48, .aload_n 0, 1), (49, .getfield 34, 3), (52, .iload_n 1, 1), (53, .iconst 1, 1), (54, .bastore, 1), (55, .aload_n 0, 1), (56, .iconst 0, 1), (57, .invokevirtual 14, 3), (60, .ireturn, 1)]
set_option maxRecDepth 20000 in
theorem dt_X11_image : ∀ q ∈ dl_X11_image, decode prog_13_method_15_code q.1 = .ok q.2 := by decide +kernel
def kp_X11_image_17  (x1 : Int32) (X : Xt) (s : (Int32 × Hp)) : Prop := G X s.2 0 0 17 [(0, .ref 81), (1, .int x1), (2, .int s.1)] []
def ke_X11_image_17  (x1 : Int32) (X : Xt) (e : Hp) : Prop := G X e 0 0 48 [(0, .ref 81), (1, .int x1)] []
def b_X11_image_17  (x1 : Int32) (x2 : Int32) (h : Hp) : Option ((Int32 × Hp) ⊕ Hp) :=
  if (5662 : Int32) ≤ x2 then
  some (.inr ( h))
  else
  (inb x2 5662).bind fun j5 =>
  (inb (((5662 : Int32) * x1) + x2) 11324).bind fun j7 =>
  some (.inl ((x2 + (1 : Int32)), (sA h 84 j7 (aI h 83 j5))))
set_option maxRecDepth 20000 in
theorem wb_X11_image_17 {X : Xt} (C : Cx X cn_11 prog_13_method_15_code 3 (some .int) 2 0 0)   (x1 : Int32) (x2 : Int32) (h : Hp) (q : (Int32 × Hp) ⊕ Hp) (hrun : b_X11_image_17  x1 x2 h = some q) (Ks : ∀ s, q = .inl s → kp_X11_image_17  x1 X s) (Ke : ∀ e, q = .inr e → ke_X11_image_17  x1 X e) : kp_X11_image_17  x1 X (x2, h) := by
  show G X h 0 0 17 [(0, .ref 81), (1, .int x1), (2, .int x2)] []
  unfold b_X11_image_17 at hrun
  refine g_iload_n C (dat dt_X11_image 11 rfl) 2 rfl ?_
  refine g_sipush C (dat dt_X11_image 12 rfl) sp_5662 ?_
  refine g_ic_ge 48 C (dat dt_X11_image 13 rfl) (by decide) (fun c4 => ?_) (fun c4 => ?_)
  · rw [if_pos c4] at hrun
    refine g_sub [0, 1] (lv' := [(0, .ref 81), (1, .int x1)]) rfl ?_
    cases hrun
    exact Ke ( h) rfl
  · rw [if_neg c4] at hrun
    refine g_aload_n C (dat dt_X11_image 14 rfl) 0 rfl ?_
    refine g_getR C (dat dt_X11_image 15 rfl) fl_11_31 kd_81 rfl ltk_81 ?_
    refine g_sipush C (dat dt_X11_image 16 rfl) sp_5662 ?_
    refine g_iload_n C (dat dt_X11_image 17 rfl) 1 rfl ?_
    refine g_imul C (dat dt_X11_image 18 rfl) ?_
    refine g_iload_n C (dat dt_X11_image 19 rfl) 2 rfl ?_
    refine g_iadd C (dat dt_X11_image 20 rfl) ?_
    refine g_aload_n C (dat dt_X11_image 21 rfl) 0 rfl ?_
    refine g_getR C (dat dt_X11_image 22 rfl) fl_11_28 kd_81 rfl ltk_81 ?_
    refine g_iload_n C (dat dt_X11_image 23 rfl) 2 rfl ?_
    obtain ⟨j5, q6, hrun⟩ := bd hrun
    refine g_iald C (dat dt_X11_image 24 rfl) kd_83 ltk_83 q6 ?_
    obtain ⟨j7, q8, hrun⟩ := bd hrun
    refine g_iast (j := j7) C (dat dt_X11_image 25 rfl) kd_84 ltk_84 q8  ?_
    refine g_iinc (v := (x2 + (1 : Int32))) (lv' := [(0, .ref 81), (1, .int x1), (2, .int (x2 + (1 : Int32)))]) C (dat dt_X11_image 26 rfl) 2 rfl (congrArg (fun z => x2 + z) ic_1) (by decide) rfl ?_
    refine g_goto 17 C (dat dt_X11_image 27 rfl) (by decide) ?_
    cases hrun
    exact Ks ((x2 + (1 : Int32)), (sA h 84 j7 (aI h 83 j5))) rfl
def f_X11_image (x1 : Int32) (h : Hp) : Option (Int32 × Hp) :=
  (f_X11_lies x1 (0 : Int32) (1 : Int32)).bind fun v1 =>
  if v1 = true then
  (lp (fun s => b_X11_image_17  x1 s.1 s.2) FU ((0 : Int32), h)).bind fun e9 =>
  (inb x1 2).bind fun j11 =>
  (f_X11_good (0 : Int32) (sA e9 85 j11 (b2i true))).bind fun v13 =>
  some (v13.1, v13.2)
  else
  (f_X11_refuses (-1 : Int32) h).bind fun v15 =>
  some (v15.1, v15.2)
set_option maxRecDepth 20000 in
theorem w_X11_image (x1 : Int32) (h : Hp) (q : (Int32 × Hp))  (hrun : f_X11_image x1 h = some q) : MetA ⟨"SteamNationsModel", "image", "(I)I"⟩ prog_13_method_15_code 3 (some .int) 2 0 0 [.ref 81, .int x1] h (some (.int q.1)) q.2 := by
  refine metA_of (by decide) (Nat.le_of_ble_eq_true rfl) (fun X C K => ?_)
  have C : Cx X cn_11 prog_13_method_15_code 3 (some .int) 2 0 0 := C
  show G X h 0 0 0 [(0, .ref 81), (1, .int x1)] []
  unfold f_X11_image at hrun
  refine g_iload_n C (dat dt_X11_image 0 rfl) 1 rfl ?_
  refine g_iconst C (dat dt_X11_image 1 rfl) ic_0 ?_
  refine g_iconst C (dat dt_X11_image 2 rfl) ic_1 ?_
  obtain ⟨v1, q2, hrun⟩ := bd hrun
  refine g_cSi [.int x1, .int (0 : Int32), .int (1 : Int32)] C (dat dt_X11_image 3 rfl) ml_11_18 (w_X11_lies x1 (0 : Int32) (1 : Int32) h v1  q2) rfl rfl cat0 (by decide) c00 ?_
  refine g_if_ne 15 C (dat dt_X11_image 4 rfl) (by decide) (fun c3 => ?_) (fun c3 => ?_)
  · rw [if_pos (b2i_nz c3)] at hrun
    refine g_iconst C (dat dt_X11_image 9 rfl) ic_0 ?_
    refine g_istore_n (lv' := [(0, .ref 81), (1, .int x1), (2, .int (0 : Int32))]) C (dat dt_X11_image 10 rfl) (by decide) rfl ?_
    obtain ⟨e9, q10, hrun⟩ := bd hrun
    refine lp_ind (P := fun s => kp_X11_image_17  x1 X s) (K := fun e => ke_X11_image_17  x1 X e) (fun s q hb Ks Ke => wb_X11_image_17 C   x1 s.1 s.2 q hb Ks Ke) FU ((0 : Int32), h) e9 q10 ?_
    show G X e9 0 0 48 [(0, .ref 81), (1, .int x1)] []
    refine g_aload_n C (dat dt_X11_image 28 rfl) 0 rfl ?_
    refine g_getR C (dat dt_X11_image 29 rfl) fl_11_34 kd_81 rfl ltk_81 ?_
    refine g_iload_n C (dat dt_X11_image 30 rfl) 1 rfl ?_
    refine g_iconst C (dat dt_X11_image 31 rfl) ic_1 ?_
    obtain ⟨j11, q12, hrun⟩ := bd hrun
    refine g_zast (b := true) (j := j11) C (dat dt_X11_image 32 rfl) kd_85 ltk_85 q12 rfl ?_
    refine g_aload_n C (dat dt_X11_image 33 rfl) 0 rfl ?_
    refine g_iconst C (dat dt_X11_image 34 rfl) ic_0 ?_
    obtain ⟨v13, q14, hrun⟩ := bd hrun
    refine g_cVi [.int (0 : Int32)] C (dat dt_X11_image 35 rfl) ml_11_14 (w_X11_good (0 : Int32) (sA e9 85 j11 (b2i true)) v13  q14) kd_81 ltk_81 rfl rfl cat0 (by decide) c00 ?_
    cases hrun
    exact g_iret C K (dat dt_X11_image 36 rfl)
  · rw [if_neg (b2i_z c3)] at hrun
    refine g_aload_n C (dat dt_X11_image 5 rfl) 0 rfl ?_
    refine g_iconst C (dat dt_X11_image 6 rfl) ic_m1 ?_
    obtain ⟨v15, q16, hrun⟩ := bd hrun
    refine g_cVi [.int (-1 : Int32)] C (dat dt_X11_image 7 rfl) ml_11_121 (w_X11_refuses (-1 : Int32) h v15  q16) kd_81 ltk_81 rfl rfl cat0 (by decide) c00 ?_
    cases hrun
    exact g_iret C K (dat dt_X11_image 8 rfl)
/-! SteamNationsModel.back(I)I -/
def dl_X11_back : List (Nat × Instr × Nat) := [(0, .iload_n 1, 1), (1, .iconst 0, 1), (2, .iconst 1, 1), (3, .invokestatic 18, 3), (6, .ifCond .ne 9, 3), (9, .aload_n 0, 1), (10, .iconst (-1), 1), (11, .invokevirtual 121, 3), (14, .ireturn, 1), (15, .aload_n 0, 1), (16, .getfield 34, 3), (19, .iload_n 1, 1), (20, .baload, 1), (21, .ifCond .ne 10, 3), (24, .aload_n 0, 1), (25, .bipush (-2), 2), (27, .invokevirtual 121, 3), (30, .ireturn, 1), (31, .iconst 0, 1), (32, .istore_n 2, 1), (33, .iload_n 2, 1), (34, .sipush 5662, 3), (37, .if_icmp .ge 27, 3), (40, .aload_n 0, 1), (41, .getfield 28, 3), (44, .iload_n 2, 1), (45, .aload_n 0, 1), (46, .getfield 31, 3), (49, .sipush 5662, 3), (52, .iload_n 1, 1), (53, .imul, 1), (54, .iload_n 2, 1), (55, .iadd, 1), (56, .iaload, 1), (57, .iastore, 1), (58, .iinc 2 1, 3), (61, .goto (-28), 3), (64, .aload_n 0, 1), (65, .iconst 0, 1), (66, .invokevirtual 124, 3), (69, .ireturn, 1)]
set_option maxRecDepth 20000 in
theorem dt_X11_back : ∀ q ∈ dl_X11_back, decode prog_13_method_16_code q.1 = .ok q.2 := by decide +kernel
def kp_X11_back_33  (x1 : Int32) (X : Xt) (s : (Int32 × Hp)) : Prop := G X s.2 0 0 33 [(0, .ref 81), (1, .int x1), (2, .int s.1)] []
def ke_X11_back_33  (x1 : Int32) (X : Xt) (e : Hp) : Prop := G X e 0 0 64 [(0, .ref 81)] []
def b_X11_back_33  (x1 : Int32) (x2 : Int32) (h : Hp) : Option ((Int32 × Hp) ⊕ Hp) :=
  if (5662 : Int32) ≤ x2 then
  some (.inr ( h))
  else
  (inb (((5662 : Int32) * x1) + x2) 11324).bind fun j8 =>
  (inb x2 5662).bind fun j10 =>
  some (.inl ((x2 + (1 : Int32)), (sA h 83 j10 (aI h 84 j8))))
set_option maxRecDepth 20000 in
theorem wb_X11_back_33 {X : Xt} (C : Cx X cn_11 prog_13_method_16_code 3 (some .int) 3 0 0)   (x1 : Int32) (x2 : Int32) (h : Hp) (q : (Int32 × Hp) ⊕ Hp) (hrun : b_X11_back_33  x1 x2 h = some q) (Ks : ∀ s, q = .inl s → kp_X11_back_33  x1 X s) (Ke : ∀ e, q = .inr e → ke_X11_back_33  x1 X e) : kp_X11_back_33  x1 X (x2, h) := by
  show G X h 0 0 33 [(0, .ref 81), (1, .int x1), (2, .int x2)] []
  unfold b_X11_back_33 at hrun
  refine g_iload_n C (dat dt_X11_back 20 rfl) 2 rfl ?_
  refine g_sipush C (dat dt_X11_back 21 rfl) sp_5662 ?_
  refine g_ic_ge 64 C (dat dt_X11_back 22 rfl) (by decide) (fun c7 => ?_) (fun c7 => ?_)
  · rw [if_pos c7] at hrun
    refine g_sub [0] (lv' := [(0, .ref 81)]) rfl ?_
    cases hrun
    exact Ke ( h) rfl
  · rw [if_neg c7] at hrun
    refine g_aload_n C (dat dt_X11_back 23 rfl) 0 rfl ?_
    refine g_getR C (dat dt_X11_back 24 rfl) fl_11_28 kd_81 rfl ltk_81 ?_
    refine g_iload_n C (dat dt_X11_back 25 rfl) 2 rfl ?_
    refine g_aload_n C (dat dt_X11_back 26 rfl) 0 rfl ?_
    refine g_getR C (dat dt_X11_back 27 rfl) fl_11_31 kd_81 rfl ltk_81 ?_
    refine g_sipush C (dat dt_X11_back 28 rfl) sp_5662 ?_
    refine g_iload_n C (dat dt_X11_back 29 rfl) 1 rfl ?_
    refine g_imul C (dat dt_X11_back 30 rfl) ?_
    refine g_iload_n C (dat dt_X11_back 31 rfl) 2 rfl ?_
    refine g_iadd C (dat dt_X11_back 32 rfl) ?_
    obtain ⟨j8, q9, hrun⟩ := bd hrun
    refine g_iald C (dat dt_X11_back 33 rfl) kd_84 ltk_84 q9 ?_
    obtain ⟨j10, q11, hrun⟩ := bd hrun
    refine g_iast (j := j10) C (dat dt_X11_back 34 rfl) kd_83 ltk_83 q11  ?_
    refine g_iinc (v := (x2 + (1 : Int32))) (lv' := [(0, .ref 81), (1, .int x1), (2, .int (x2 + (1 : Int32)))]) C (dat dt_X11_back 35 rfl) 2 rfl (congrArg (fun z => x2 + z) ic_1) (by decide) rfl ?_
    refine g_goto 33 C (dat dt_X11_back 36 rfl) (by decide) ?_
    cases hrun
    exact Ks ((x2 + (1 : Int32)), (sA h 83 j10 (aI h 84 j8))) rfl
def f_X11_back (x1 : Int32) (h : Hp) : Option (Int32 × Hp) :=
  (f_X11_lies x1 (0 : Int32) (1 : Int32)).bind fun v1 =>
  if v1 = true then
  (inb x1 2).bind fun j4 =>
  if (aI h 85 j4) = 0 then
  (f_X11_refuses (-2 : Int32) h).bind fun v16 =>
  some (v16.1, v16.2)
  else
  (lp (fun s => b_X11_back_33  x1 s.1 s.2) FU ((0 : Int32), h)).bind fun e12 =>
  (f_X11_settled (0 : Int32) e12).bind fun v14 =>
  some (v14.1, v14.2)
  else
  (f_X11_refuses (-1 : Int32) h).bind fun v18 =>
  some (v18.1, v18.2)
set_option maxRecDepth 20000 in
theorem w_X11_back (x1 : Int32) (h : Hp) (q : (Int32 × Hp))  (hrun : f_X11_back x1 h = some q) : MetA ⟨"SteamNationsModel", "back", "(I)I"⟩ prog_13_method_16_code 3 (some .int) 3 0 0 [.ref 81, .int x1] h (some (.int q.1)) q.2 := by
  refine metA_of (by decide) (Nat.le_of_ble_eq_true rfl) (fun X C K => ?_)
  have C : Cx X cn_11 prog_13_method_16_code 3 (some .int) 3 0 0 := C
  show G X h 0 0 0 [(0, .ref 81), (1, .int x1)] []
  unfold f_X11_back at hrun
  refine g_iload_n C (dat dt_X11_back 0 rfl) 1 rfl ?_
  refine g_iconst C (dat dt_X11_back 1 rfl) ic_0 ?_
  refine g_iconst C (dat dt_X11_back 2 rfl) ic_1 ?_
  obtain ⟨v1, q2, hrun⟩ := bd hrun
  refine g_cSi [.int x1, .int (0 : Int32), .int (1 : Int32)] C (dat dt_X11_back 3 rfl) ml_11_18 (w_X11_lies x1 (0 : Int32) (1 : Int32) h v1  q2) rfl rfl cat0 (by decide) c00 ?_
  refine g_if_ne 15 C (dat dt_X11_back 4 rfl) (by decide) (fun c3 => ?_) (fun c3 => ?_)
  · rw [if_pos (b2i_nz c3)] at hrun
    refine g_aload_n C (dat dt_X11_back 9 rfl) 0 rfl ?_
    refine g_getR C (dat dt_X11_back 10 rfl) fl_11_34 kd_81 rfl ltk_81 ?_
    refine g_iload_n C (dat dt_X11_back 11 rfl) 1 rfl ?_
    obtain ⟨j4, q5, hrun⟩ := bd hrun
    refine g_zald C (dat dt_X11_back 12 rfl) kd_85 ltk_85 q5 ?_
    refine g_if_ne 31 C (dat dt_X11_back 13 rfl) (by decide) (fun c6 => ?_) (fun c6 => ?_)
    · rw [if_neg c6] at hrun
      refine g_iconst C (dat dt_X11_back 18 rfl) ic_0 ?_
      refine g_istore_n (lv' := [(0, .ref 81), (1, .int x1), (2, .int (0 : Int32))]) C (dat dt_X11_back 19 rfl) (by decide) rfl ?_
      obtain ⟨e12, q13, hrun⟩ := bd hrun
      refine lp_ind (P := fun s => kp_X11_back_33  x1 X s) (K := fun e => ke_X11_back_33  x1 X e) (fun s q hb Ks Ke => wb_X11_back_33 C   x1 s.1 s.2 q hb Ks Ke) FU ((0 : Int32), h) e12 q13 ?_
      show G X e12 0 0 64 [(0, .ref 81)] []
      refine g_aload_n C (dat dt_X11_back 37 rfl) 0 rfl ?_
      refine g_iconst C (dat dt_X11_back 38 rfl) ic_0 ?_
      obtain ⟨v14, q15, hrun⟩ := bd hrun
      refine g_cVi [.int (0 : Int32)] C (dat dt_X11_back 39 rfl) ml_11_124 (w_X11_settled (0 : Int32) e12 v14  q15) kd_81 ltk_81 rfl rfl cat0 (by decide) c00 ?_
      cases hrun
      exact g_iret C K (dat dt_X11_back 40 rfl)
    · rw [if_pos c6] at hrun
      refine g_aload_n C (dat dt_X11_back 14 rfl) 0 rfl ?_
      refine g_bipush C (dat dt_X11_back 15 rfl) bp_m2 ?_
      obtain ⟨v16, q17, hrun⟩ := bd hrun
      refine g_cVi [.int (-2 : Int32)] C (dat dt_X11_back 16 rfl) ml_11_121 (w_X11_refuses (-2 : Int32) h v16  q17) kd_81 ltk_81 rfl rfl cat0 (by decide) c00 ?_
      cases hrun
      exact g_iret C K (dat dt_X11_back 17 rfl)
  · rw [if_neg (b2i_z c3)] at hrun
    refine g_aload_n C (dat dt_X11_back 5 rfl) 0 rfl ?_
    refine g_iconst C (dat dt_X11_back 6 rfl) ic_m1 ?_
    obtain ⟨v18, q19, hrun⟩ := bd hrun
    refine g_cVi [.int (-1 : Int32)] C (dat dt_X11_back 7 rfl) ml_11_121 (w_X11_refuses (-1 : Int32) h v18  q19) kd_81 ltk_81 rfl rfl cat0 (by decide) c00 ?_
    cases hrun
    exact g_iret C K (dat dt_X11_back 8 rfl)
/-! SteamNationsModel.allOf(I)I -/
def dl_X11_allOf : List (Nat × Instr × Nat) := [(0, .iconst 0, 1), (1, .istore_n 2, 1), (2, .iconst 0, 1), (3, .istore_n 3, 1), (4, .iload_n 3, 1), (5, .aload_n 0, 1), (6, .invokevirtual 127, 3), (9, .if_icmp .ge 18, 3), (12, .iload_n 2, 1), (13, .aload_n 0, 1), (14, .iload_n 3, 1), (15, .iload_n 1, 1), (16, .invokevirtual 131, 3), (19, .iadd, 1), (20, .istore_n 2, 1), (21, .iinc 3 1, 3), (24, .goto (-20), 3), (27, .iload_n 2, 1), (28, .ireturn, 1)]
set_option maxRecDepth 20000 in
theorem dt_X11_allOf : ∀ q ∈ dl_X11_allOf, decode prog_13_method_132_code q.1 = .ok q.2 := by decide +kernel
def kp_X11_allOf_4  (x1 : Int32) (h : Hp) (X : Xt) (s : (Int32 × Int32)) : Prop := G X h 0 0 4 [(0, .ref 81), (1, .int x1), (2, .int s.1), (3, .int s.2)] []
def ke_X11_allOf_4  (x1 : Int32) (h : Hp) (X : Xt) (e : Int32) : Prop := G X h 0 0 27 [(2, .int e)] []
def b_X11_allOf_4  (x1 : Int32) (x2 : Int32) (x3 : Int32) (h : Hp) : Option ((Int32 × Int32) ⊕ Int32) :=
  (f_X11_many  h).bind fun v1 =>
  if v1 ≤ x3 then
  some (.inr ( x2))
  else
  (f_X11_partsOf x3 x1 h).bind fun v4 =>
  some (.inl ((x2 + v4), (x3 + (1 : Int32))))
set_option maxRecDepth 20000 in
theorem wb_X11_allOf_4 {X : Xt} (C : Cx X cn_11 prog_13_method_132_code 4 (some .int) 2 0 0)   (x1 : Int32) (x2 : Int32) (x3 : Int32) (h : Hp) (q : (Int32 × Int32) ⊕ Int32) (hrun : b_X11_allOf_4  x1 x2 x3 h = some q) (Ks : ∀ s, q = .inl s → kp_X11_allOf_4  x1 h X s) (Ke : ∀ e, q = .inr e → ke_X11_allOf_4  x1 h X e) : kp_X11_allOf_4  x1 h X (x2, x3) := by
  show G X h 0 0 4 [(0, .ref 81), (1, .int x1), (2, .int x2), (3, .int x3)] []
  unfold b_X11_allOf_4 at hrun
  refine g_iload_n C (dat dt_X11_allOf 4 rfl) 3 rfl ?_
  refine g_aload_n C (dat dt_X11_allOf 5 rfl) 0 rfl ?_
  obtain ⟨v1, q2, hrun⟩ := bd hrun
  refine g_cVi [] C (dat dt_X11_allOf 6 rfl) ml_11_127 (w_X11_many  h v1  q2) kd_81 ltk_81 rfl rfl (Nat.le_of_ble_eq_true rfl) (by decide) c00 ?_
  refine g_ic_ge 27 C (dat dt_X11_allOf 7 rfl) (by decide) (fun c3 => ?_) (fun c3 => ?_)
  · rw [if_pos c3] at hrun
    refine g_sub [2] (lv' := [(2, .int x2)]) rfl ?_
    cases hrun
    exact Ke ( x2) rfl
  · rw [if_neg c3] at hrun
    refine g_iload_n C (dat dt_X11_allOf 8 rfl) 2 rfl ?_
    refine g_aload_n C (dat dt_X11_allOf 9 rfl) 0 rfl ?_
    refine g_iload_n C (dat dt_X11_allOf 10 rfl) 3 rfl ?_
    refine g_iload_n C (dat dt_X11_allOf 11 rfl) 1 rfl ?_
    obtain ⟨v4, q5, hrun⟩ := bd hrun
    refine g_cVi [.int x3, .int x1] C (dat dt_X11_allOf 12 rfl) ml_11_131 (w_X11_partsOf x3 x1 h v4  q5) kd_81 ltk_81 rfl rfl (Nat.le_of_ble_eq_true rfl) (by decide) c00 ?_
    refine g_iadd C (dat dt_X11_allOf 13 rfl) ?_
    refine g_istore_n (lv' := [(0, .ref 81), (1, .int x1), (2, .int (x2 + v4)), (3, .int x3)]) C (dat dt_X11_allOf 14 rfl) (by decide) rfl ?_
    refine g_iinc (v := (x3 + (1 : Int32))) (lv' := [(0, .ref 81), (1, .int x1), (2, .int (x2 + v4)), (3, .int (x3 + (1 : Int32)))]) C (dat dt_X11_allOf 15 rfl) 3 rfl (congrArg (fun z => x3 + z) ic_1) (by decide) rfl ?_
    refine g_goto 4 C (dat dt_X11_allOf 16 rfl) (by decide) ?_
    cases hrun
    exact Ks ((x2 + v4), (x3 + (1 : Int32))) rfl
def f_X11_allOf (x1 : Int32) (h : Hp) : Option Int32 :=
  (lp (fun s => b_X11_allOf_4  x1 s.1 s.2 h) FU ((0 : Int32), (0 : Int32))).bind fun e6 =>
  some e6
set_option maxRecDepth 20000 in
theorem w_X11_allOf (x1 : Int32) (h : Hp) (q : Int32)  (hrun : f_X11_allOf x1 h = some q) : MetA ⟨"SteamNationsModel", "allOf", "(I)I"⟩ prog_13_method_132_code 4 (some .int) 2 0 0 [.ref 81, .int x1] h (some (.int q)) h := by
  refine metA_of (by decide) (Nat.le_of_ble_eq_true rfl) (fun X C K => ?_)
  have C : Cx X cn_11 prog_13_method_132_code 4 (some .int) 2 0 0 := C
  show G X h 0 0 0 [(0, .ref 81), (1, .int x1)] []
  unfold f_X11_allOf at hrun
  refine g_iconst C (dat dt_X11_allOf 0 rfl) ic_0 ?_
  refine g_istore_n (lv' := [(0, .ref 81), (1, .int x1), (2, .int (0 : Int32))]) C (dat dt_X11_allOf 1 rfl) (by decide) rfl ?_
  refine g_iconst C (dat dt_X11_allOf 2 rfl) ic_0 ?_
  refine g_istore_n (lv' := [(0, .ref 81), (1, .int x1), (2, .int (0 : Int32)), (3, .int (0 : Int32))]) C (dat dt_X11_allOf 3 rfl) (by decide) rfl ?_
  obtain ⟨e6, q7, hrun⟩ := bd hrun
  refine lp_ind (P := fun s => kp_X11_allOf_4  x1 h X s) (K := fun e => ke_X11_allOf_4  x1 h X e) (fun s q hb Ks Ke => wb_X11_allOf_4 C   x1 s.1 s.2 h q hb Ks Ke) FU ((0 : Int32), (0 : Int32)) e6 q7 ?_
  show G X h 0 0 27 [(2, .int e6)] []
  refine g_iload_n C (dat dt_X11_allOf 17 rfl) 0 rfl ?_
  cases hrun
  exact g_iret C K (dat dt_X11_allOf 18 rfl)
/-! SteamNationsModel.count(I)I -/
def dl_X11_count : List (Nat × Instr × Nat) := [(0, .iload_n 1, 1), (1, .tableswitch 177 0 17 #[87, 92, 97, 105, 113, 118, 123, 123, 123, 132, 139, 147, 155, 155, 155, 168, 168, 168], 87), (88, .aload_n 0, 1), (89, .invokevirtual 127, 3), (92, .ireturn, 1), (93, .aload_n 0, 1), (94, .invokevirtual 333, 3), (97, .ireturn, 1), (98, .aload_n 0, 1), (99, .getfield 28, 3), (102, .bipush 52, 2), (104, .iaload, 1), (105, .ireturn, 1), (106, .aload_n 0, 1), (107, .getfield 28, 3), (110, .bipush 53, 2), (112, .iaload, 1), (113, .ireturn, 1), (114, .aload_n 0, 1), (115, .getfield 11, 3), (118, .ireturn, 1), (119, .aload_n 0, 1), (120, .getfield 182, 3), (123, .ireturn, 1), (124, .aload_n 0, 1), (125, .getfield 7, 3), (128, .iload_n 1, 1), (129, .iconst 5, 1), (130, .isub, 1), (131, .iaload, 1), (132, .ireturn, 1), (133, .aload_n 0, 1), (134, .getfield 7, 3), (137, .iconst 5, 1), (138, .iaload, 1), (139, .ireturn, 1), (140, .aload_n 0, 1), (141, .getfield 7, 3), (144, .bipush 6, 2), (146, .iaload, 1), (147, .ireturn, 1), (148, .aload_n 0, 1), (149, .getfield 28, 3), (152, .bipush 54, 2), (154, .iaload, 1), (155, .ireturn, 1), (156, .aload_n 0, 1), (157, .getfield 28, 3), (160, .iload_n 1, 1), (161, .bipush 12, 2), (163, .isub, 1), (164, .invokestatic 179, 3), (167, .iaload, 1), (168, .ireturn, 1), (169, .aload_n 0, 1), (170, .iload_n 1, 1), (171, .bipush 15, 2), (173, .isub, 1), (174, .invokevirtual 504, 3), (177, .ireturn, 1), (178, .iconst (-1), 1), (179, .ireturn, 1)]
set_option maxRecDepth 20000 in
theorem dt_X11_count : ∀ q ∈ dl_X11_count, decode prog_13_method_133_code q.1 = .ok q.2 := by decide +kernel
def j_X11_count_124  (x1 : Int32) (h : Hp) : Option Int32 :=
  (inb (x1 - (5 : Int32)) 7).bind fun j8 =>
  some (aI h 82 j8)
set_option maxRecDepth 20000 in
theorem wj_X11_count_124 {X : Xt} (C : Cx X cn_11 prog_13_method_133_code 2 (some .int) 3 0 0)    (x1 : Int32) (h : Hp) (q : Int32) (hrun : j_X11_count_124  x1 h = some q) (K : EndQ X 0 0 (some (.int q)) h) : G X h 0 0 124 [(0, .ref 81), (1, .int x1)] [] := by
  unfold j_X11_count_124 at hrun
  refine g_aload_n C (dat dt_X11_count 24 rfl) 0 rfl ?_
  refine g_getR C (dat dt_X11_count 25 rfl) fl_11_7 kd_81 rfl ltk_81 ?_
  refine g_iload_n C (dat dt_X11_count 26 rfl) 1 rfl ?_
  refine g_iconst C (dat dt_X11_count 27 rfl) ic_5 ?_
  refine g_isub C (dat dt_X11_count 28 rfl) ?_
  obtain ⟨j8, q9, hrun⟩ := bd hrun
  refine g_iald C (dat dt_X11_count 29 rfl) kd_82 ltk_82 q9 ?_
  cases hrun
  exact g_iret C K (dat dt_X11_count 30 rfl)
def j_X11_count_156  (x1 : Int32) (h : Hp) : Option Int32 :=
  (f_X11_termAt (x1 - (12 : Int32))).bind fun v10 =>
  (inb v10 5662).bind fun j12 =>
  some (aI h 83 j12)
set_option maxRecDepth 20000 in
theorem wj_X11_count_156 {X : Xt} (C : Cx X cn_11 prog_13_method_133_code 2 (some .int) 3 0 0)    (x1 : Int32) (h : Hp) (q : Int32) (hrun : j_X11_count_156  x1 h = some q) (K : EndQ X 0 0 (some (.int q)) h) : G X h 0 0 156 [(0, .ref 81), (1, .int x1)] [] := by
  unfold j_X11_count_156 at hrun
  refine g_aload_n C (dat dt_X11_count 46 rfl) 0 rfl ?_
  refine g_getR C (dat dt_X11_count 47 rfl) fl_11_28 kd_81 rfl ltk_81 ?_
  refine g_iload_n C (dat dt_X11_count 48 rfl) 1 rfl ?_
  refine g_bipush C (dat dt_X11_count 49 rfl) bp_12 ?_
  refine g_isub C (dat dt_X11_count 50 rfl) ?_
  obtain ⟨v10, q11, hrun⟩ := bd hrun
  refine g_cSi [.int (x1 - (12 : Int32))] C (dat dt_X11_count 51 rfl) ml_11_179 (w_X11_termAt (x1 - (12 : Int32)) h v10  q11) rfl rfl (Nat.le_of_ble_eq_true rfl) (by decide) c00 ?_
  obtain ⟨j12, q13, hrun⟩ := bd hrun
  refine g_iald C (dat dt_X11_count 52 rfl) kd_83 ltk_83 q13 ?_
  cases hrun
  exact g_iret C K (dat dt_X11_count 53 rfl)
def j_X11_count_169  (x1 : Int32) (h : Hp) : Option Int32 :=
  (f_X11_allOf (x1 - (15 : Int32)) h).bind fun v14 =>
  some v14
set_option maxRecDepth 20000 in
theorem wj_X11_count_169 {X : Xt} (C : Cx X cn_11 prog_13_method_133_code 2 (some .int) 3 0 0)    (x1 : Int32) (h : Hp) (q : Int32) (hrun : j_X11_count_169  x1 h = some q) (K : EndQ X 0 0 (some (.int q)) h) : G X h 0 0 169 [(0, .ref 81), (1, .int x1)] [] := by
  unfold j_X11_count_169 at hrun
  refine g_aload_n C (dat dt_X11_count 54 rfl) 0 rfl ?_
  refine g_iload_n C (dat dt_X11_count 55 rfl) 1 rfl ?_
  refine g_bipush C (dat dt_X11_count 56 rfl) bp_15 ?_
  refine g_isub C (dat dt_X11_count 57 rfl) ?_
  obtain ⟨v14, q15, hrun⟩ := bd hrun
  refine g_cVi [.int (x1 - (15 : Int32))] C (dat dt_X11_count 58 rfl) ml_11_504 (w_X11_allOf (x1 - (15 : Int32)) h v14  q15) kd_81 ltk_81 rfl rfl cat0 (by decide) c00 ?_
  cases hrun
  exact g_iret C K (dat dt_X11_count 59 rfl)
def f_X11_count (x1 : Int32) (h : Hp) : Option Int32 :=
  if x1.toInt < (0 : Int) ∨ (17 : Int) < x1.toInt then
  some (-1 : Int32)
  else if (x1.toInt - (0 : Int)).toNat = 0 then
  (f_X11_many  h).bind fun v4 =>
  some v4
  else if (x1.toInt - (0 : Int)).toNat = 1 then
  (f_X11_insideMany  h).bind fun v6 =>
  some v6
  else if (x1.toInt - (0 : Int)).toNat = 2 then
  some (aI h 83 52)
  else if (x1.toInt - (0 : Int)).toNat = 3 then
  some (aI h 83 53)
  else if (x1.toInt - (0 : Int)).toNat = 4 then
  some (fI h 81 32)
  else if (x1.toInt - (0 : Int)).toNat = 5 then
  some (fI h 81 13)
  else if (x1.toInt - (0 : Int)).toNat = 6 then
  j_X11_count_124  x1 h
  else if (x1.toInt - (0 : Int)).toNat = 7 then
  j_X11_count_124  x1 h
  else if (x1.toInt - (0 : Int)).toNat = 8 then
  j_X11_count_124  x1 h
  else if (x1.toInt - (0 : Int)).toNat = 9 then
  some (aI h 82 5)
  else if (x1.toInt - (0 : Int)).toNat = 10 then
  some (aI h 82 6)
  else if (x1.toInt - (0 : Int)).toNat = 11 then
  some (aI h 83 54)
  else if (x1.toInt - (0 : Int)).toNat = 12 then
  j_X11_count_156  x1 h
  else if (x1.toInt - (0 : Int)).toNat = 13 then
  j_X11_count_156  x1 h
  else if (x1.toInt - (0 : Int)).toNat = 14 then
  j_X11_count_156  x1 h
  else if (x1.toInt - (0 : Int)).toNat = 15 then
  j_X11_count_169  x1 h
  else if (x1.toInt - (0 : Int)).toNat = 16 then
  j_X11_count_169  x1 h
  else if (x1.toInt - (0 : Int)).toNat = 17 then
  j_X11_count_169  x1 h
  else none
set_option maxRecDepth 20000 in
theorem w_X11_count (x1 : Int32) (h : Hp) (q : Int32)  (hrun : f_X11_count x1 h = some q) : MetA ⟨"SteamNationsModel", "count", "(I)I"⟩ prog_13_method_133_code 2 (some .int) 3 0 0 [.ref 81, .int x1] h (some (.int q)) h := by
  refine metA_of (by decide) (Nat.le_of_ble_eq_true rfl) (fun X C K => ?_)
  have C : Cx X cn_11 prog_13_method_133_code 2 (some .int) 3 0 0 := C
  show G X h 0 0 0 [(0, .ref 81), (1, .int x1)] []
  unfold f_X11_count at hrun
  refine g_iload_n C (dat dt_X11_count 0 rfl) 1 rfl ?_
  by_cases c1 : x1.toInt < (0 : Int) ∨ (17 : Int) < x1.toInt
  · rw [if_pos c1] at hrun
    refine g_tabO 178 C (dat dt_X11_count 1 rfl) c1 (by decide) ?_
    refine g_iconst C (dat dt_X11_count 60 rfl) ic_m1 ?_
    cases hrun
    exact g_iret C K (dat dt_X11_count 61 rfl)
  · rw [if_neg c1] at hrun
    by_cases c33 : (x1.toInt - (0 : Int)).toNat = 0
    · rw [if_pos c33] at hrun
      refine g_tabI 88 C (dat dt_X11_count 1 rfl) c1 c33.symm rfl (by decide) ?_
      refine g_aload_n C (dat dt_X11_count 2 rfl) 0 rfl ?_
      obtain ⟨v4, q5, hrun⟩ := bd hrun
      refine g_cVi [] C (dat dt_X11_count 3 rfl) ml_11_127 (w_X11_many  h v4  q5) kd_81 ltk_81 rfl rfl cat0 (by decide) c00 ?_
      cases hrun
      exact g_iret C K (dat dt_X11_count 4 rfl)
    · rw [if_neg c33] at hrun
      by_cases c32 : (x1.toInt - (0 : Int)).toNat = 1
      · rw [if_pos c32] at hrun
        refine g_tabI 93 C (dat dt_X11_count 1 rfl) c1 c32.symm rfl (by decide) ?_
        refine g_aload_n C (dat dt_X11_count 5 rfl) 0 rfl ?_
        obtain ⟨v6, q7, hrun⟩ := bd hrun
        refine g_cVi [] C (dat dt_X11_count 6 rfl) ml_11_333 (w_X11_insideMany  h v6  q7) kd_81 ltk_81 rfl rfl cat0 (by decide) c00 ?_
        cases hrun
        exact g_iret C K (dat dt_X11_count 7 rfl)
      · rw [if_neg c32] at hrun
        by_cases c31 : (x1.toInt - (0 : Int)).toNat = 2
        · rw [if_pos c31] at hrun
          refine g_tabI 98 C (dat dt_X11_count 1 rfl) c1 c31.symm rfl (by decide) ?_
          refine g_aload_n C (dat dt_X11_count 8 rfl) 0 rfl ?_
          refine g_getR C (dat dt_X11_count 9 rfl) fl_11_28 kd_81 rfl ltk_81 ?_
          refine g_bipush C (dat dt_X11_count 10 rfl) bp_52 ?_
          refine g_iald (j := 52) C (dat dt_X11_count 11 rfl) kd_83 ltk_83 (show inb (52 : Int32) 5662 = some 52 by decide) ?_
          cases hrun
          exact g_iret C K (dat dt_X11_count 12 rfl)
        · rw [if_neg c31] at hrun
          by_cases c30 : (x1.toInt - (0 : Int)).toNat = 3
          · rw [if_pos c30] at hrun
            refine g_tabI 106 C (dat dt_X11_count 1 rfl) c1 c30.symm rfl (by decide) ?_
            refine g_aload_n C (dat dt_X11_count 13 rfl) 0 rfl ?_
            refine g_getR C (dat dt_X11_count 14 rfl) fl_11_28 kd_81 rfl ltk_81 ?_
            refine g_bipush C (dat dt_X11_count 15 rfl) bp_53 ?_
            refine g_iald (j := 53) C (dat dt_X11_count 16 rfl) kd_83 ltk_83 (show inb (53 : Int32) 5662 = some 53 by decide) ?_
            cases hrun
            exact g_iret C K (dat dt_X11_count 17 rfl)
          · rw [if_neg c30] at hrun
            by_cases c29 : (x1.toInt - (0 : Int)).toNat = 4
            · rw [if_pos c29] at hrun
              refine g_tabI 114 C (dat dt_X11_count 1 rfl) c1 c29.symm rfl (by decide) ?_
              refine g_aload_n C (dat dt_X11_count 18 rfl) 0 rfl ?_
              refine g_getI C (dat dt_X11_count 19 rfl) fl_11_11 kd_81 rfl ltk_81 ?_
              cases hrun
              exact g_iret C K (dat dt_X11_count 20 rfl)
            · rw [if_neg c29] at hrun
              by_cases c28 : (x1.toInt - (0 : Int)).toNat = 5
              · rw [if_pos c28] at hrun
                refine g_tabI 119 C (dat dt_X11_count 1 rfl) c1 c28.symm rfl (by decide) ?_
                refine g_aload_n C (dat dt_X11_count 21 rfl) 0 rfl ?_
                refine g_getI C (dat dt_X11_count 22 rfl) fl_11_182 kd_81 rfl ltk_81 ?_
                cases hrun
                exact g_iret C K (dat dt_X11_count 23 rfl)
              · rw [if_neg c28] at hrun
                by_cases c27 : (x1.toInt - (0 : Int)).toNat = 6
                · rw [if_pos c27] at hrun
                  refine g_tabI 124 C (dat dt_X11_count 1 rfl) c1 c27.symm rfl (by decide) ?_
                  exact wj_X11_count_124 C    x1 h _ hrun K
                · rw [if_neg c27] at hrun
                  by_cases c26 : (x1.toInt - (0 : Int)).toNat = 7
                  · rw [if_pos c26] at hrun
                    refine g_tabI 124 C (dat dt_X11_count 1 rfl) c1 c26.symm rfl (by decide) ?_
                    exact wj_X11_count_124 C    x1 h _ hrun K
                  · rw [if_neg c26] at hrun
                    by_cases c25 : (x1.toInt - (0 : Int)).toNat = 8
                    · rw [if_pos c25] at hrun
                      refine g_tabI 124 C (dat dt_X11_count 1 rfl) c1 c25.symm rfl (by decide) ?_
                      exact wj_X11_count_124 C    x1 h _ hrun K
                    · rw [if_neg c25] at hrun
                      by_cases c24 : (x1.toInt - (0 : Int)).toNat = 9
                      · rw [if_pos c24] at hrun
                        refine g_tabI 133 C (dat dt_X11_count 1 rfl) c1 c24.symm rfl (by decide) ?_
                        refine g_aload_n C (dat dt_X11_count 31 rfl) 0 rfl ?_
                        refine g_getR C (dat dt_X11_count 32 rfl) fl_11_7 kd_81 rfl ltk_81 ?_
                        refine g_iconst C (dat dt_X11_count 33 rfl) ic_5 ?_
                        refine g_iald (j := 5) C (dat dt_X11_count 34 rfl) kd_82 ltk_82 (show inb (5 : Int32) 7 = some 5 by decide) ?_
                        cases hrun
                        exact g_iret C K (dat dt_X11_count 35 rfl)
                      · rw [if_neg c24] at hrun
                        by_cases c23 : (x1.toInt - (0 : Int)).toNat = 10
                        · rw [if_pos c23] at hrun
                          refine g_tabI 140 C (dat dt_X11_count 1 rfl) c1 c23.symm rfl (by decide) ?_
                          refine g_aload_n C (dat dt_X11_count 36 rfl) 0 rfl ?_
                          refine g_getR C (dat dt_X11_count 37 rfl) fl_11_7 kd_81 rfl ltk_81 ?_
                          refine g_bipush C (dat dt_X11_count 38 rfl) bp_6 ?_
                          refine g_iald (j := 6) C (dat dt_X11_count 39 rfl) kd_82 ltk_82 (show inb (6 : Int32) 7 = some 6 by decide) ?_
                          cases hrun
                          exact g_iret C K (dat dt_X11_count 40 rfl)
                        · rw [if_neg c23] at hrun
                          by_cases c22 : (x1.toInt - (0 : Int)).toNat = 11
                          · rw [if_pos c22] at hrun
                            refine g_tabI 148 C (dat dt_X11_count 1 rfl) c1 c22.symm rfl (by decide) ?_
                            refine g_aload_n C (dat dt_X11_count 41 rfl) 0 rfl ?_
                            refine g_getR C (dat dt_X11_count 42 rfl) fl_11_28 kd_81 rfl ltk_81 ?_
                            refine g_bipush C (dat dt_X11_count 43 rfl) bp_54 ?_
                            refine g_iald (j := 54) C (dat dt_X11_count 44 rfl) kd_83 ltk_83 (show inb (54 : Int32) 5662 = some 54 by decide) ?_
                            cases hrun
                            exact g_iret C K (dat dt_X11_count 45 rfl)
                          · rw [if_neg c22] at hrun
                            by_cases c21 : (x1.toInt - (0 : Int)).toNat = 12
                            · rw [if_pos c21] at hrun
                              refine g_tabI 156 C (dat dt_X11_count 1 rfl) c1 c21.symm rfl (by decide) ?_
                              exact wj_X11_count_156 C    x1 h _ hrun K
                            · rw [if_neg c21] at hrun
                              by_cases c20 : (x1.toInt - (0 : Int)).toNat = 13
                              · rw [if_pos c20] at hrun
                                refine g_tabI 156 C (dat dt_X11_count 1 rfl) c1 c20.symm rfl (by decide) ?_
                                exact wj_X11_count_156 C    x1 h _ hrun K
                              · rw [if_neg c20] at hrun
                                by_cases c19 : (x1.toInt - (0 : Int)).toNat = 14
                                · rw [if_pos c19] at hrun
                                  refine g_tabI 156 C (dat dt_X11_count 1 rfl) c1 c19.symm rfl (by decide) ?_
                                  exact wj_X11_count_156 C    x1 h _ hrun K
                                · rw [if_neg c19] at hrun
                                  by_cases c18 : (x1.toInt - (0 : Int)).toNat = 15
                                  · rw [if_pos c18] at hrun
                                    refine g_tabI 169 C (dat dt_X11_count 1 rfl) c1 c18.symm rfl (by decide) ?_
                                    exact wj_X11_count_169 C    x1 h _ hrun K
                                  · rw [if_neg c18] at hrun
                                    by_cases c17 : (x1.toInt - (0 : Int)).toNat = 16
                                    · rw [if_pos c17] at hrun
                                      refine g_tabI 169 C (dat dt_X11_count 1 rfl) c1 c17.symm rfl (by decide) ?_
                                      exact wj_X11_count_169 C    x1 h _ hrun K
                                    · rw [if_neg c17] at hrun
                                      by_cases c16 : (x1.toInt - (0 : Int)).toNat = 17
                                      · rw [if_pos c16] at hrun
                                        refine g_tabI 169 C (dat dt_X11_count 1 rfl) c1 c16.symm rfl (by decide) ?_
                                        exact wj_X11_count_169 C    x1 h _ hrun K
                                      · rw [if_neg c16] at hrun
                                        cases hrun
/-! SteamNationsModel.status()I -/
def dl_X11_status : List (Nat × Instr × Nat) := [(0, .aload_n 0, 1), (1, .getfield 3, 3), (4, .ireturn, 1)]
set_option maxRecDepth 20000 in
theorem dt_X11_status : ∀ q ∈ dl_X11_status, decode prog_13_method_134_code q.1 = .ok q.2 := by decide +kernel
def f_X11_status  (h : Hp) : Option Int32 :=
  some (fI h 81 0)
set_option maxRecDepth 20000 in
theorem w_X11_status  (h : Hp) (q : Int32)  (hrun : f_X11_status  h = some q) : MetA ⟨"SteamNationsModel", "status", "()I"⟩ prog_13_method_134_code 1 (some .int) 1 0 0 [.ref 81] h (some (.int q)) h := by
  refine metA_of (by decide) (Nat.le_of_ble_eq_true rfl) (fun X C K => ?_)
  have C : Cx X cn_11 prog_13_method_134_code 1 (some .int) 1 0 0 := C
  show G X h 0 0 0 [(0, .ref 81)] []
  unfold f_X11_status at hrun
  refine g_aload_n C (dat dt_X11_status 0 rfl) 0 rfl ?_
  refine g_getI C (dat dt_X11_status 1 rfl) fl_11_3 kd_81 rfl ltk_81 ?_
  cases hrun
  exact g_iret C K (dat dt_X11_status 2 rfl)
