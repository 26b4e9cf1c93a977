/-! SteamNations$Reader.isLetter(I)Z -/
def dl_X5_isLetter : List (Nat × Instr × Nat) := [(0, .iload_n 0, 1), (1, .bipush 97, 2), (3, .if_icmp .lt 13, 3), (6, .iload_n 0, 1), (7, .bipush 122, 2), (9, .if_icmp .gt 7, 3), (12, .iconst 1, 1), (13, .goto 4, 3), (16, .iconst 0, 1), (17, .ireturn, 1)]
set_option maxRecDepth 20000 in
theorem dt_X5_isLetter : ∀ q ∈ dl_X5_isLetter, decode prog_7_method_4_code q.1 = .ok q.2 := by decide +kernel
def f_X5_isLetter (x0 : Int32) : Option Bool :=
  if x0 < (97 : Int32) then
  some false
  else
  if (122 : Int32) < x0 then
  some false
  else
  some true
set_option maxRecDepth 20000 in
theorem w_X5_isLetter (x0 : Int32) (h : Hp) (q : Bool)  (hrun : f_X5_isLetter x0 = some q) : MetA ⟨"SteamNations$Reader", "isLetter", "(I)Z"⟩ prog_7_method_4_code 1 (some .boolean) 1 0 0 [.int x0] h (some (.int (b2i q))) h := by
  refine metA_of (by decide) (Nat.le_of_ble_eq_true rfl) (fun X C K => ?_)
  have C : Cx X cn_5 prog_7_method_4_code 1 (some .boolean) 1 0 0 := C
  show G X h 0 0 0 [(0, .int x0)] []
  unfold f_X5_isLetter at hrun
  refine g_iload_n C (dat dt_X5_isLetter 0 rfl) 0 rfl ?_
  refine g_bipush C (dat dt_X5_isLetter 1 rfl) bp_97 ?_
  refine g_ic_lt 16 C (dat dt_X5_isLetter 2 rfl) (by decide) (fun c1 => ?_) (fun c1 => ?_)
  · rw [if_pos c1] at hrun
    refine g_iconst C (dat dt_X5_isLetter 8 rfl) ic_0 ?_
    cases hrun
    exact g_zret C K (show (0 : Int32) = b2i false by decide) (dat dt_X5_isLetter 9 rfl)
  · rw [if_neg c1] at hrun
    refine g_iload_n C (dat dt_X5_isLetter 3 rfl) 0 rfl ?_
    refine g_bipush C (dat dt_X5_isLetter 4 rfl) bp_122 ?_
    refine g_ic_gt 16 C (dat dt_X5_isLetter 5 rfl) (by decide) (fun c2 => ?_) (fun c2 => ?_)
    · rw [if_pos c2] at hrun
      refine g_iconst C (dat dt_X5_isLetter 8 rfl) ic_0 ?_
      cases hrun
      exact g_zret C K (show (0 : Int32) = b2i false by decide) (dat dt_X5_isLetter 9 rfl)
    · rw [if_neg c2] at hrun
      refine g_iconst C (dat dt_X5_isLetter 6 rfl) ic_1 ?_
      refine g_goto 17 C (dat dt_X5_isLetter 7 rfl) (by decide) ?_
      cases hrun
      exact g_zret C K (show (1 : Int32) = b2i true by decide) (dat dt_X5_isLetter 9 rfl)
/-! SteamNations$Reader.isDigit(I)Z -/
def dl_X5_isDigit : List (Nat × Instr × Nat) := [(0, .iload_n 0, 1), (1, .bipush 48, 2), (3, .if_icmp .lt 13, 3), (6, .iload_n 0, 1), (7, .bipush 57, 2), (9, .if_icmp .gt 7, 3), (12, .iconst 1, 1), (13, .goto 4, 3), (16, .iconst 0, 1), (17, .ireturn, 1)]
set_option maxRecDepth 20000 in
theorem dt_X5_isDigit : ∀ q ∈ dl_X5_isDigit, decode prog_7_method_5_code q.1 = .ok q.2 := by decide +kernel
def f_X5_isDigit (x0 : Int32) : Option Bool :=
  if x0 < (48 : Int32) then
  some false
  else
  if (57 : Int32) < x0 then
  some false
  else
  some true
set_option maxRecDepth 20000 in
theorem w_X5_isDigit (x0 : Int32) (h : Hp) (q : Bool)  (hrun : f_X5_isDigit x0 = some q) : MetA ⟨"SteamNations$Reader", "isDigit", "(I)Z"⟩ prog_7_method_5_code 1 (some .boolean) 1 0 0 [.int x0] h (some (.int (b2i q))) h := by
  refine metA_of (by decide) (Nat.le_of_ble_eq_true rfl) (fun X C K => ?_)
  have C : Cx X cn_5 prog_7_method_5_code 1 (some .boolean) 1 0 0 := C
  show G X h 0 0 0 [(0, .int x0)] []
  unfold f_X5_isDigit at hrun
  refine g_iload_n C (dat dt_X5_isDigit 0 rfl) 0 rfl ?_
  refine g_bipush C (dat dt_X5_isDigit 1 rfl) bp_48 ?_
  refine g_ic_lt 16 C (dat dt_X5_isDigit 2 rfl) (by decide) (fun c1 => ?_) (fun c1 => ?_)
  · rw [if_pos c1] at hrun
    refine g_iconst C (dat dt_X5_isDigit 8 rfl) ic_0 ?_
    cases hrun
    exact g_zret C K (show (0 : Int32) = b2i false by decide) (dat dt_X5_isDigit 9 rfl)
  · rw [if_neg c1] at hrun
    refine g_iload_n C (dat dt_X5_isDigit 3 rfl) 0 rfl ?_
    refine g_bipush C (dat dt_X5_isDigit 4 rfl) bp_57 ?_
    refine g_ic_gt 16 C (dat dt_X5_isDigit 5 rfl) (by decide) (fun c2 => ?_) (fun c2 => ?_)
    · rw [if_pos c2] at hrun
      refine g_iconst C (dat dt_X5_isDigit 8 rfl) ic_0 ?_
      cases hrun
      exact g_zret C K (show (0 : Int32) = b2i false by decide) (dat dt_X5_isDigit 9 rfl)
    · rw [if_neg c2] at hrun
      refine g_iconst C (dat dt_X5_isDigit 6 rfl) ic_1 ?_
      refine g_goto 17 C (dat dt_X5_isDigit 7 rfl) (by decide) ?_
      cases hrun
      exact g_zret C K (show (1 : Int32) = b2i true by decide) (dat dt_X5_isDigit 9 rfl)
/-! SteamNations$Reader.valueOf([III)I -/
def dl_X5_valueOf : List (Nat × Instr × Nat) := [(0, .iconst 0, 1), (1, .istore_n 3, 1), (2, .iload_n 1, 1), (3, .istore 4, 2), (5, .iload 4, 2), (7, .iload_n 2, 1), (8, .if_icmp .ge 28, 3), (11, .iload_n 3, 1), (12, .bipush 10, 2), (14, .imul, 1), (15, .aload_n 0, 1), (16, .iload 4, 2), (18, .iaload, 1), (19, .iadd, 1), (20, .bipush 48, 2), (22, .isub, 1), (23, .sipush 1001, 3), (26, .invokestatic 45, 3), (29, .istore_n 3, 1), (30, .iinc 4 1, 3), (33, .goto (-28), 3), (36, .iload_n 3, 1), (37, .ireturn, 1)]
set_option maxRecDepth 20000 in
theorem dt_X5_valueOf : ∀ q ∈ dl_X5_valueOf, decode prog_7_method_7_code q.1 = .ok q.2 := by decide +kernel
def kp_X5_valueOf_5  (x2 : Int32) (h : Hp) (X : Xt) (s : (Int32 × Int32)) : Prop := G X h 0 0 5 [(0, .ref 3), (2, .int x2), (3, .int s.1), (4, .int s.2)] []
def ke_X5_valueOf_5  (x2 : Int32) (h : Hp) (X : Xt) (e : Int32) : Prop := G X h 0 0 36 [(3, .int e)] []
def b_X5_valueOf_5  (x2 : Int32) (x3 : Int32) (x4 : Int32) (h : Hp) : Option ((Int32 × Int32) ⊕ Int32) :=
  if x2 ≤ x4 then
  some (.inr ( x3))
  else
  (inb x4 400).bind fun j2 =>
  (f_J9_min_7cf53 (((x3 * (10 : Int32)) + (aI h 3 j2)) - (48 : Int32)) (1001 : Int32)).bind fun v4 =>
  some (.inl (v4, (x4 + (1 : Int32))))
set_option maxRecDepth 20000 in
theorem wb_X5_valueOf_5 {X : Xt} (C : Cx X cn_5 prog_7_method_7_code 5 (some .int) 2 0 0)   (x2 : Int32) (x3 : Int32) (x4 : Int32) (h : Hp) (q : (Int32 × Int32) ⊕ Int32) (hrun : b_X5_valueOf_5  x2 x3 x4 h = some q) (Ks : ∀ s, q = .inl s → kp_X5_valueOf_5  x2 h X s) (Ke : ∀ e, q = .inr e → ke_X5_valueOf_5  x2 h X e) : kp_X5_valueOf_5  x2 h X (x3, x4) := by
  show G X h 0 0 5 [(0, .ref 3), (2, .int x2), (3, .int x3), (4, .int x4)] []
  unfold b_X5_valueOf_5 at hrun
  refine g_iload C (dat dt_X5_valueOf 4 rfl) 3 rfl ?_
  refine g_iload_n C (dat dt_X5_valueOf 5 rfl) 1 rfl ?_
  refine g_ic_ge 36 C (dat dt_X5_valueOf 6 rfl) (by decide) (fun c1 => ?_) (fun c1 => ?_)
  · rw [if_pos c1] at hrun
    refine g_sub [2] (lv' := [(3, .int x3)]) rfl ?_
    cases hrun
    exact Ke ( x3) rfl
  · rw [if_neg c1] at hrun
    refine g_iload_n C (dat dt_X5_valueOf 7 rfl) 2 rfl ?_
    refine g_bipush C (dat dt_X5_valueOf 8 rfl) bp_10 ?_
    refine g_imul C (dat dt_X5_valueOf 9 rfl) ?_
    refine g_aload_n C (dat dt_X5_valueOf 10 rfl) 0 rfl ?_
    refine g_iload C (dat dt_X5_valueOf 11 rfl) 3 rfl ?_
    obtain ⟨j2, q3, hrun⟩ := bd hrun
    refine g_iald C (dat dt_X5_valueOf 12 rfl) kd_3 ltk_3 q3 ?_
    refine g_iadd C (dat dt_X5_valueOf 13 rfl) ?_
    refine g_bipush C (dat dt_X5_valueOf 14 rfl) bp_48 ?_
    refine g_isub C (dat dt_X5_valueOf 15 rfl) ?_
    refine g_sipush C (dat dt_X5_valueOf 16 rfl) sp_1001 ?_
    obtain ⟨v4, q5, hrun⟩ := bd hrun
    refine g_cSi [.int (((x3 * (10 : Int32)) + (aI h 3 j2)) - (48 : Int32)), .int (1001 : Int32)] C (dat dt_X5_valueOf 17 rfl) ml_5_45 (w_J9_min_7cf53 (((x3 * (10 : Int32)) + (aI h 3 j2)) - (48 : Int32)) (1001 : Int32) h v4  q5) rfl rfl cat0 (by decide) c00 ?_
    refine g_istore_n (lv' := [(0, .ref 3), (2, .int x2), (3, .int v4), (4, .int x4)]) C (dat dt_X5_valueOf 18 rfl) (by decide) rfl ?_
    refine g_iinc (v := (x4 + (1 : Int32))) (lv' := [(0, .ref 3), (2, .int x2), (3, .int v4), (4, .int (x4 + (1 : Int32)))]) C (dat dt_X5_valueOf 19 rfl) 3 rfl (congrArg (fun z => x4 + z) ic_1) (by decide) rfl ?_
    refine g_goto 5 C (dat dt_X5_valueOf 20 rfl) (by decide) ?_
    cases hrun
    exact Ks (v4, (x4 + (1 : Int32))) rfl
def f_X5_valueOf (x1 : Int32) (x2 : Int32) (h : Hp) : Option Int32 :=
  (lp (fun s => b_X5_valueOf_5  x2 s.1 s.2 h) FU ((0 : Int32), x1)).bind fun e6 =>
  some e6
set_option maxRecDepth 20000 in
theorem w_X5_valueOf (x1 : Int32) (x2 : Int32) (h : Hp) (q : Int32)  (hrun : f_X5_valueOf x1 x2 h = some q) : MetA ⟨"SteamNations$Reader", "valueOf", "([III)I"⟩ prog_7_method_7_code 5 (some .int) 2 0 0 [.ref 3, .int x1, .int x2] h (some (.int q)) h := by
  refine metA_of (by decide) (Nat.le_of_ble_eq_true rfl) (fun X C K => ?_)
  have C : Cx X cn_5 prog_7_method_7_code 5 (some .int) 2 0 0 := C
  show G X h 0 0 0 [(0, .ref 3), (1, .int x1), (2, .int x2)] []
  unfold f_X5_valueOf at hrun
  refine g_iconst C (dat dt_X5_valueOf 0 rfl) ic_0 ?_
  refine g_istore_n (lv' := [(0, .ref 3), (1, .int x1), (2, .int x2), (3, .int (0 : Int32))]) C (dat dt_X5_valueOf 1 rfl) (by decide) rfl ?_
  refine g_iload_n C (dat dt_X5_valueOf 2 rfl) 1 rfl ?_
  refine g_istore (lv' := [(0, .ref 3), (1, .int x1), (2, .int x2), (3, .int (0 : Int32)), (4, .int x1)]) C (dat dt_X5_valueOf 3 rfl) (by decide) rfl ?_
  refine g_sub [0, 2, 3, 4] (lv' := [(0, .ref 3), (2, .int x2), (3, .int (0 : Int32)), (4, .int x1)]) rfl ?_
  obtain ⟨e6, q7, hrun⟩ := bd hrun
  refine lp_ind (P := fun s => kp_X5_valueOf_5  x2 h X s) (K := fun e => ke_X5_valueOf_5  x2 h X e) (fun s q hb Ks Ke => wb_X5_valueOf_5 C   x2 s.1 s.2 h q hb Ks Ke) FU ((0 : Int32), x1) e6 q7 ?_
  show G X h 0 0 36 [(3, .int e6)] []
  refine g_iload_n C (dat dt_X5_valueOf 21 rfl) 0 rfl ?_
  cases hrun
  exact g_iret C K (dat dt_X5_valueOf 22 rfl)
/-! SteamNations$Reader.goOn()V -/
def dl_X5_goOn : List (Nat × Instr × Nat) := [(0, .aload_n 0, 1), (1, .dup, 1), (2, .getfield 55, 3), (5, .iconst 1, 1), (6, .iadd, 1), (7, .putfield 55, 3), (10, .aload_n 0, 1), (11, .aload_n 0, 1), (12, .getfield 55, 3), (15, .ifCond .lt 27, 3), (18, .aload_n 0, 1), (19, .getfield 55, 3), (22, .aload_n 0, 1), (23, .getfield 11, 3), (26, .arraylength, 1), (27, .if_icmp .ge 15, 3), (30, .aload_n 0, 1), (31, .getfield 11, 3), (34, .aload_n 0, 1), (35, .getfield 55, 3), (38, .iaload, 1), (39, .goto 5, 3), (42, .bipush 29, 2), (44, .putfield 71, 3), (47, .return_, 1)]
set_option maxRecDepth 20000 in
theorem dt_X5_goOn : ∀ q ∈ dl_X5_goOn, decode prog_7_method_26_code q.1 = .ok q.2 := by decide +kernel
def f_X5_goOn  (h : Hp) : Option (Unit × Hp) :=
  if (fI (sF h 4 6 ((fI h 4 6) + (1 : Int32))) 4 6) < 0 then
  some ((), (sF (sF h 4 6 ((fI h 4 6) + (1 : Int32))) 4 7 (29 : Int32)))
  else
  if (401 : Int32) ≤ (fI (sF h 4 6 ((fI h 4 6) + (1 : Int32))) 4 6) then
  some ((), (sF (sF h 4 6 ((fI h 4 6) + (1 : Int32))) 4 7 (29 : Int32)))
  else
  (inb (fI (sF h 4 6 ((fI h 4 6) + (1 : Int32))) 4 6) 401).bind fun j3 =>
  some ((), (sF (sF h 4 6 ((fI h 4 6) + (1 : Int32))) 4 7 (aI (sF h 4 6 ((fI h 4 6) + (1 : Int32))) 5 j3)))
set_option maxRecDepth 20000 in
theorem w_X5_goOn  (h : Hp) (q : (Unit × Hp))  (hrun : f_X5_goOn  h = some q) : MetA ⟨"SteamNations$Reader", "goOn", "()V"⟩ prog_7_method_26_code 1 none 1 0 0 [.ref 4] h none q.2 := by
  refine metA_of (by decide) (Nat.le_of_ble_eq_true rfl) (fun X C K => ?_)
  have C : Cx X cn_5 prog_7_method_26_code 1 none 1 0 0 := C
  show G X h 0 0 0 [(0, .ref 4)] []
  unfold f_X5_goOn at hrun
  refine g_aload_n C (dat dt_X5_goOn 0 rfl) 0 rfl ?_
  refine g_dup C (dat dt_X5_goOn 1 rfl) rfl ?_
  refine g_getI C (dat dt_X5_goOn 2 rfl) fl_5_55 kd_4 rfl ltk_4 ?_
  refine g_iconst C (dat dt_X5_goOn 3 rfl) ic_1 ?_
  refine g_iadd C (dat dt_X5_goOn 4 rfl) ?_
  refine g_putI C (dat dt_X5_goOn 5 rfl) fl_5_55 rfl rfl kd_4 rfl ltk_4 ?_
  refine g_aload_n C (dat dt_X5_goOn 6 rfl) 0 rfl ?_
  refine g_aload_n C (dat dt_X5_goOn 7 rfl) 0 rfl ?_
  refine g_getI C (dat dt_X5_goOn 8 rfl) fl_5_55 kd_4 rfl ltk_4 ?_
  refine g_if_lt 42 C (dat dt_X5_goOn 9 rfl) (by decide) (fun c1 => ?_) (fun c1 => ?_)
  · rw [if_pos c1] at hrun
    refine g_bipush C (dat dt_X5_goOn 22 rfl) bp_29 ?_
    refine g_putI C (dat dt_X5_goOn 23 rfl) fl_5_71 rfl rfl kd_4 rfl ltk_4 ?_
    cases hrun
    exact g_vret C K (dat dt_X5_goOn 24 rfl)
  · rw [if_neg c1] at hrun
    refine g_aload_n C (dat dt_X5_goOn 10 rfl) 0 rfl ?_
    refine g_getI C (dat dt_X5_goOn 11 rfl) fl_5_55 kd_4 rfl ltk_4 ?_
    refine g_aload_n C (dat dt_X5_goOn 12 rfl) 0 rfl ?_
    refine g_getR C (dat dt_X5_goOn 13 rfl) fl_5_11 kd_4 rfl ltk_4 ?_
    refine g_alen (v := (401 : Int32)) C (dat dt_X5_goOn 14 rfl) kd_5 (by decide) ltk_5 rfl ?_
    refine g_ic_ge 42 C (dat dt_X5_goOn 15 rfl) (by decide) (fun c2 => ?_) (fun c2 => ?_)
    · rw [if_pos c2] at hrun
      refine g_bipush C (dat dt_X5_goOn 22 rfl) bp_29 ?_
      refine g_putI C (dat dt_X5_goOn 23 rfl) fl_5_71 rfl rfl kd_4 rfl ltk_4 ?_
      cases hrun
      exact g_vret C K (dat dt_X5_goOn 24 rfl)
    · rw [if_neg c2] at hrun
      refine g_aload_n C (dat dt_X5_goOn 16 rfl) 0 rfl ?_
      refine g_getR C (dat dt_X5_goOn 17 rfl) fl_5_11 kd_4 rfl ltk_4 ?_
      refine g_aload_n C (dat dt_X5_goOn 18 rfl) 0 rfl ?_
      refine g_getI C (dat dt_X5_goOn 19 rfl) fl_5_55 kd_4 rfl ltk_4 ?_
      obtain ⟨j3, q4, hrun⟩ := bd hrun
      refine g_iald C (dat dt_X5_goOn 20 rfl) kd_5 ltk_5 q4 ?_
      refine g_goto 44 C (dat dt_X5_goOn 21 rfl) (by decide) ?_
      refine g_putI C (dat dt_X5_goOn 23 rfl) fl_5_71 rfl rfl kd_4 rfl ltk_4 ?_
      cases hrun
      exact g_vret C K (dat dt_X5_goOn 24 rfl)
/-! SteamNations$Reader.wrong()Z -/
def dl_X5_wrong : List (Nat × Instr × Nat) := [(0, .aload_n 0, 1), (1, .getfield 55, 3), (4, .ifCond .lt 28, 3), (7, .aload_n 0, 1), (8, .getfield 55, 3), (11, .aload_n 0, 1), (12, .getfield 15, 3), (15, .arraylength, 1), (16, .if_icmp .ge 16, 3), (19, .aload_n 0, 1), (20, .aload_n 0, 1), (21, .getfield 15, 3), (24, .aload_n 0, 1), (25, .getfield 55, 3), (28, .iaload, 1), (29, .putfield 31, 3), (32, .iconst 0, 1), (33, .ireturn, 1)]
set_option maxRecDepth 20000 in
theorem dt_X5_wrong : ∀ q ∈ dl_X5_wrong, decode prog_7_method_27_code q.1 = .ok q.2 := by decide +kernel
def f_X5_wrong  (h : Hp) : Option (Bool × Hp) :=
  if (fI h 4 6) < 0 then
  some (false, h)
  else
  if (401 : Int32) ≤ (fI h 4 6) then
  some (false, h)
  else
  (inb (fI h 4 6) 401).bind fun j3 =>
  some (false, (sF h 4 10 (aI h 6 j3)))
set_option maxRecDepth 20000 in
theorem w_X5_wrong  (h : Hp) (q : (Bool × Hp))  (hrun : f_X5_wrong  h = some q) : MetA ⟨"SteamNations$Reader", "wrong", "()Z"⟩ prog_7_method_27_code 1 (some .boolean) 1 0 0 [.ref 4] h (some (.int (b2i q.1))) q.2 := by
  refine metA_of (by decide) (Nat.le_of_ble_eq_true rfl) (fun X C K => ?_)
  have C : Cx X cn_5 prog_7_method_27_code 1 (some .boolean) 1 0 0 := C
  show G X h 0 0 0 [(0, .ref 4)] []
  unfold f_X5_wrong at hrun
  refine g_aload_n C (dat dt_X5_wrong 0 rfl) 0 rfl ?_
  refine g_getI C (dat dt_X5_wrong 1 rfl) fl_5_55 kd_4 rfl ltk_4 ?_
  refine g_if_lt 32 C (dat dt_X5_wrong 2 rfl) (by decide) (fun c1 => ?_) (fun c1 => ?_)
  · rw [if_pos c1] at hrun
    refine g_iconst C (dat dt_X5_wrong 16 rfl) ic_0 ?_
    cases hrun
    exact g_zret C K (show (0 : Int32) = b2i false by decide) (dat dt_X5_wrong 17 rfl)
  · rw [if_neg c1] at hrun
    refine g_aload_n C (dat dt_X5_wrong 3 rfl) 0 rfl ?_
    refine g_getI C (dat dt_X5_wrong 4 rfl) fl_5_55 kd_4 rfl ltk_4 ?_
    refine g_aload_n C (dat dt_X5_wrong 5 rfl) 0 rfl ?_
    refine g_getR C (dat dt_X5_wrong 6 rfl) fl_5_15 kd_4 rfl ltk_4 ?_
    refine g_alen (v := (401 : Int32)) C (dat dt_X5_wrong 7 rfl) kd_6 (by decide) ltk_6 rfl ?_
    refine g_ic_ge 32 C (dat dt_X5_wrong 8 rfl) (by decide) (fun c2 => ?_) (fun c2 => ?_)
    · rw [if_pos c2] at hrun
      refine g_iconst C (dat dt_X5_wrong 16 rfl) ic_0 ?_
      cases hrun
      exact g_zret C K (show (0 : Int32) = b2i false by decide) (dat dt_X5_wrong 17 rfl)
    · rw [if_neg c2] at hrun
      refine g_aload_n C (dat dt_X5_wrong 9 rfl) 0 rfl ?_
      refine g_aload_n C (dat dt_X5_wrong 10 rfl) 0 rfl ?_
      refine g_getR C (dat dt_X5_wrong 11 rfl) fl_5_15 kd_4 rfl ltk_4 ?_
      refine g_aload_n C (dat dt_X5_wrong 12 rfl) 0 rfl ?_
      refine g_getI C (dat dt_X5_wrong 13 rfl) fl_5_55 kd_4 rfl ltk_4 ?_
      obtain ⟨j3, q4, hrun⟩ := bd hrun
      refine g_iald C (dat dt_X5_wrong 14 rfl) kd_6 ltk_6 q4 ?_
      refine g_putI C (dat dt_X5_wrong 15 rfl) fl_5_31 rfl rfl kd_4 rfl ltk_4 ?_
      refine g_iconst C (dat dt_X5_wrong 16 rfl) ic_0 ?_
      cases hrun
      exact g_zret C K (show (0 : Int32) = b2i false by decide) (dat dt_X5_wrong 17 rfl)
/-! SteamNations$Reader.mark(III)V -/
def dl_X5_mark : List (Nat × Instr × Nat) := [(0, .iload_n 1, 1), (1, .bipush 6, 2), (3, .imul, 1), (4, .iload_n 2, 1), (5, .iadd, 1), (6, .istore 4, 2), (8, .iload 4, 2), (10, .ifCond .lt 21, 3), (13, .iload 4, 2), (15, .aload_n 0, 1), (16, .getfield 28, 3), (19, .arraylength, 1), (20, .if_icmp .ge 11, 3), (23, .aload_n 0, 1), (24, .getfield 28, 3), (27, .iload 4, 2), (29, .iload_n 3, 1), (30, .iastore, 1), (31, .return_, 1)]
set_option maxRecDepth 20000 in
theorem dt_X5_mark : ∀ q ∈ dl_X5_mark, decode prog_7_method_30_code q.1 = .ok q.2 := by decide +kernel
def f_X5_mark (x1 : Int32) (x2 : Int32) (x3 : Int32) (h : Hp) : Option (Unit × Hp) :=
  if ((x1 * (6 : Int32)) + x2) < 0 then
  some ((), h)
  else
  if (72 : Int32) ≤ ((x1 * (6 : Int32)) + x2) then
  some ((), h)
  else
  (inb ((x1 * (6 : Int32)) + x2) 72).bind fun j3 =>
  some ((), (sA h 9 j3 x3))
set_option maxRecDepth 20000 in
theorem w_X5_mark (x1 : Int32) (x2 : Int32) (x3 : Int32) (h : Hp) (q : (Unit × Hp))  (hrun : f_X5_mark x1 x2 x3 h = some q) : MetA ⟨"SteamNations$Reader", "mark", "(III)V"⟩ prog_7_method_30_code 5 none 1 0 0 [.ref 4, .int x1, .int x2, .int x3] h none q.2 := by
  refine metA_of (by decide) (Nat.le_of_ble_eq_true rfl) (fun X C K => ?_)
  have C : Cx X cn_5 prog_7_method_30_code 5 none 1 0 0 := C
  show G X h 0 0 0 [(0, .ref 4), (1, .int x1), (2, .int x2), (3, .int x3)] []
  unfold f_X5_mark at hrun
  refine g_iload_n C (dat dt_X5_mark 0 rfl) 1 rfl ?_
  refine g_bipush C (dat dt_X5_mark 1 rfl) bp_6 ?_
  refine g_imul C (dat dt_X5_mark 2 rfl) ?_
  refine g_iload_n C (dat dt_X5_mark 3 rfl) 2 rfl ?_
  refine g_iadd C (dat dt_X5_mark 4 rfl) ?_
  refine g_istore (lv' := [(0, .ref 4), (1, .int x1), (2, .int x2), (3, .int x3), (4, .int ((x1 * (6 : Int32)) + x2))]) C (dat dt_X5_mark 5 rfl) (by decide) rfl ?_
  refine g_iload C (dat dt_X5_mark 6 rfl) 4 rfl ?_
  refine g_if_lt 31 C (dat dt_X5_mark 7 rfl) (by decide) (fun c1 => ?_) (fun c1 => ?_)
  · rw [if_pos c1] at hrun
    cases hrun
    exact g_vret C K (dat dt_X5_mark 18 rfl)
  · rw [if_neg c1] at hrun
    refine g_iload C (dat dt_X5_mark 8 rfl) 4 rfl ?_
    refine g_aload_n C (dat dt_X5_mark 9 rfl) 0 rfl ?_
    refine g_getR C (dat dt_X5_mark 10 rfl) fl_5_28 kd_4 rfl ltk_4 ?_
    refine g_alen (v := (72 : Int32)) C (dat dt_X5_mark 11 rfl) kd_9 (by decide) ltk_9 rfl ?_
    refine g_ic_ge 31 C (dat dt_X5_mark 12 rfl) (by decide) (fun c2 => ?_) (fun c2 => ?_)
    · rw [if_pos c2] at hrun
      cases hrun
      exact g_vret C K (dat dt_X5_mark 18 rfl)
    · rw [if_neg c2] at hrun
      refine g_aload_n C (dat dt_X5_mark 13 rfl) 0 rfl ?_
      refine g_getR C (dat dt_X5_mark 14 rfl) fl_5_28 kd_4 rfl ltk_4 ?_
      refine g_iload C (dat dt_X5_mark 15 rfl) 4 rfl ?_
      refine g_iload_n C (dat dt_X5_mark 16 rfl) 3 rfl ?_
      obtain ⟨j3, q4, hrun⟩ := bd hrun
      refine g_iast (j := j3) C (dat dt_X5_mark 17 rfl) kd_9 ltk_9 q4  ?_
      cases hrun
      exact g_vret C K (dat dt_X5_mark 18 rfl)
/-! SteamNations$Reader.isSign(C)Z -/
def dl_X5_isSign : List (Nat × Instr × Nat) := [(0, .aload_n 0, 1), (1, .getfield 71, 3), (4, .bipush 100, 2), (6, .iload_n 1, 1), (7, .iadd, 1), (8, .if_icmp .ne 7, 3), (11, .iconst 1, 1), (12, .goto 4, 3), (15, .iconst 0, 1), (16, .ireturn, 1)]
set_option maxRecDepth 20000 in
theorem dt_X5_isSign : ∀ q ∈ dl_X5_isSign, decode prog_7_method_24_code q.1 = .ok q.2 := by decide +kernel
def f_X5_isSign (x1 : Int32) (h : Hp) : Option Bool :=
  if (fI h 4 7) = ((100 : Int32) + x1) then
  some true
  else
  some false
set_option maxRecDepth 20000 in
theorem w_X5_isSign (x1 : Int32) (h : Hp) (q : Bool)  (hrun : f_X5_isSign x1 h = some q) : MetA ⟨"SteamNations$Reader", "isSign", "(C)Z"⟩ prog_7_method_24_code 2 (some .boolean) 1 0 0 [.ref 4, .int x1] h (some (.int (b2i q))) h := by
  refine metA_of (by decide) (Nat.le_of_ble_eq_true rfl) (fun X C K => ?_)
  have C : Cx X cn_5 prog_7_method_24_code 2 (some .boolean) 1 0 0 := C
  show G X h 0 0 0 [(0, .ref 4), (1, .int x1)] []
  unfold f_X5_isSign at hrun
  refine g_aload_n C (dat dt_X5_isSign 0 rfl) 0 rfl ?_
  refine g_getI C (dat dt_X5_isSign 1 rfl) fl_5_71 kd_4 rfl ltk_4 ?_
  refine g_bipush C (dat dt_X5_isSign 2 rfl) bp_100 ?_
  refine g_iload_n C (dat dt_X5_isSign 3 rfl) 1 rfl ?_
  refine g_iadd C (dat dt_X5_isSign 4 rfl) ?_
  refine g_ic_ne 15 C (dat dt_X5_isSign 5 rfl) (by decide) (fun c1 => ?_) (fun c1 => ?_)
  · rw [if_neg c1] at hrun
    refine g_iconst C (dat dt_X5_isSign 8 rfl) ic_0 ?_
    cases hrun
    exact g_zret C K (show (0 : Int32) = b2i false by decide) (dat dt_X5_isSign 9 rfl)
  · rw [if_pos c1] at hrun
    refine g_iconst C (dat dt_X5_isSign 6 rfl) ic_1 ?_
    refine g_goto 16 C (dat dt_X5_isSign 7 rfl) (by decide) ?_
    cases hrun
    exact g_zret C K (show (1 : Int32) = b2i true by decide) (dat dt_X5_isSign 9 rfl)
/-! SteamNations$Reader.canOpen(I)Z -/
def dl_X5_canOpen : List (Nat × Instr × Nat) := [(0, .iload_n 1, 1), (1, .bipush 8, 2), (3, .if_icmp .lt 10, 3), (6, .aload_n 0, 1), (7, .invokevirtual 87, 3), (10, .ifCond .eq 7, 3), (13, .iconst 1, 1), (14, .goto 4, 3), (17, .iconst 0, 1), (18, .ireturn, 1)]
set_option maxRecDepth 20000 in
theorem dt_X5_canOpen : ∀ q ∈ dl_X5_canOpen, decode prog_7_method_21_code q.1 = .ok q.2 := by decide +kernel
def f_X5_canOpen (x1 : Int32) (h : Hp) : Option (Bool × Hp) :=
  if x1 < (8 : Int32) then
  some (true, h)
  else
  (f_X5_wrong  h).bind fun v2 =>
  if v2.1 = true then
  some (true, v2.2)
  else
  some (false, v2.2)
set_option maxRecDepth 20000 in
theorem w_X5_canOpen (x1 : Int32) (h : Hp) (q : (Bool × Hp))  (hrun : f_X5_canOpen x1 h = some q) : MetA ⟨"SteamNations$Reader", "canOpen", "(I)Z"⟩ prog_7_method_21_code 2 (some .boolean) 2 0 0 [.ref 4, .int x1] h (some (.int (b2i q.1))) q.2 := by
  refine metA_of (by decide) (Nat.le_of_ble_eq_true rfl) (fun X C K => ?_)
  have C : Cx X cn_5 prog_7_method_21_code 2 (some .boolean) 2 0 0 := C
  show G X h 0 0 0 [(0, .ref 4), (1, .int x1)] []
  unfold f_X5_canOpen at hrun
  refine g_iload_n C (dat dt_X5_canOpen 0 rfl) 1 rfl ?_
  refine g_bipush C (dat dt_X5_canOpen 1 rfl) bp_8 ?_
  refine g_ic_lt 13 C (dat dt_X5_canOpen 2 rfl) (by decide) (fun c1 => ?_) (fun c1 => ?_)
  · rw [if_pos c1] at hrun
    refine g_iconst C (dat dt_X5_canOpen 6 rfl) ic_1 ?_
    refine g_goto 18 C (dat dt_X5_canOpen 7 rfl) (by decide) ?_
    cases hrun
    exact g_zret C K (show (1 : Int32) = b2i true by decide) (dat dt_X5_canOpen 9 rfl)
  · rw [if_neg c1] at hrun
    refine g_aload_n C (dat dt_X5_canOpen 3 rfl) 0 rfl ?_
    obtain ⟨v2, q3, hrun⟩ := bd hrun
    refine g_cVi [] C (dat dt_X5_canOpen 4 rfl) ml_5_87 (w_X5_wrong  h v2  q3) kd_4 ltk_4 rfl rfl cat0 (by decide) c00 ?_
    refine g_if_eq 17 C (dat dt_X5_canOpen 5 rfl) (by decide) (fun c4 => ?_) (fun c4 => ?_)
    · rw [if_neg (b2i_z c4)] at hrun
      refine g_iconst C (dat dt_X5_canOpen 8 rfl) ic_0 ?_
      cases hrun
      exact g_zret C K (show (0 : Int32) = b2i false by decide) (dat dt_X5_canOpen 9 rfl)
    · rw [if_pos (b2i_nz c4)] at hrun
      refine g_iconst C (dat dt_X5_canOpen 6 rfl) ic_1 ?_
      refine g_goto 18 C (dat dt_X5_canOpen 7 rfl) (by decide) ?_
      cases hrun
      exact g_zret C K (show (1 : Int32) = b2i true by decide) (dat dt_X5_canOpen 9 rfl)
/-! SteamNations$Reader.takeSign(C)Z -/
def dl_X5_takeSign : List (Nat × Instr × Nat) := [(0, .aload_n 0, 1), (1, .getfield 71, 3), (4, .bipush 100, 2), (6, .iload_n 1, 1), (7, .iadd, 1), (8, .if_icmp .eq 8, 3), (11, .aload_n 0, 1), (12, .invokevirtual 87, 3), (15, .ireturn, 1), (16, .aload_n 0, 1), (17, .invokevirtual 58, 3), (20, .iconst 1, 1), (21, .ireturn, 1)]
set_option maxRecDepth 20000 in
theorem dt_X5_takeSign : ∀ q ∈ dl_X5_takeSign, decode prog_7_method_22_code q.1 = .ok q.2 := by decide +kernel
def f_X5_takeSign (x1 : Int32) (h : Hp) : Option (Bool × Hp) :=
  if (fI h 4 7) = ((100 : Int32) + x1) then
  (f_X5_goOn  h).bind fun v2 =>
  some (true, v2.2)
  else
  (f_X5_wrong  h).bind fun v4 =>
  some (v4.1, v4.2)
set_option maxRecDepth 20000 in
theorem w_X5_takeSign (x1 : Int32) (h : Hp) (q : (Bool × Hp))  (hrun : f_X5_takeSign x1 h = some q) : MetA ⟨"SteamNations$Reader", "takeSign", "(C)Z"⟩ prog_7_method_22_code 2 (some .boolean) 2 0 0 [.ref 4, .int x1] h (some (.int (b2i q.1))) q.2 := by
  refine metA_of (by decide) (Nat.le_of_ble_eq_true rfl) (fun X C K => ?_)
  have C : Cx X cn_5 prog_7_method_22_code 2 (some .boolean) 2 0 0 := C
  show G X h 0 0 0 [(0, .ref 4), (1, .int x1)] []
  unfold f_X5_takeSign at hrun
  refine g_aload_n C (dat dt_X5_takeSign 0 rfl) 0 rfl ?_
  refine g_getI C (dat dt_X5_takeSign 1 rfl) fl_5_71 kd_4 rfl ltk_4 ?_
  refine g_bipush C (dat dt_X5_takeSign 2 rfl) bp_100 ?_
  refine g_iload_n C (dat dt_X5_takeSign 3 rfl) 1 rfl ?_
  refine g_iadd C (dat dt_X5_takeSign 4 rfl) ?_
  refine g_ic_eq 16 C (dat dt_X5_takeSign 5 rfl) (by decide) (fun c1 => ?_) (fun c1 => ?_)
  · rw [if_pos c1] at hrun
    refine g_aload_n C (dat dt_X5_takeSign 9 rfl) 0 rfl ?_
    obtain ⟨v2, q3, hrun⟩ := bd hrun
    refine g_cVv [] C (dat dt_X5_takeSign 10 rfl) ml_5_58 (w_X5_goOn  h v2  q3) kd_4 ltk_4 rfl rfl cat0 (by decide) c00 ?_
    refine g_iconst C (dat dt_X5_takeSign 11 rfl) ic_1 ?_
    cases hrun
    exact g_zret C K (show (1 : Int32) = b2i true by decide) (dat dt_X5_takeSign 12 rfl)
  · rw [if_neg c1] at hrun
    refine g_aload_n C (dat dt_X5_takeSign 6 rfl) 0 rfl ?_
    obtain ⟨v4, q5, hrun⟩ := bd hrun
    refine g_cVi [] C (dat dt_X5_takeSign 7 rfl) ml_5_87 (w_X5_wrong  h v4  q5) kd_4 ltk_4 rfl rfl cat0 (by decide) c00 ?_
    cases hrun
    exact g_zret C K rfl (dat dt_X5_takeSign 8 rfl)
/-! SteamNations$Reader.numberHere()I -/
def dl_X5_numberHere : List (Nat × Instr × Nat) := [(0, .aload_n 0, 1), (1, .getfield 71, 3), (4, .bipush 28, 2), (6, .if_icmp .ne 34, 3), (9, .aload_n 0, 1), (10, .getfield 55, 3), (13, .ifCond .lt 27, 3), (16, .aload_n 0, 1), (17, .getfield 55, 3), (20, .aload_n 0, 1), (21, .getfield 18, 3), (24, .arraylength, 1), (25, .if_icmp .ge 15, 3), (28, .aload_n 0, 1), (29, .getfield 18, 3), (32, .aload_n 0, 1), (33, .getfield 55, 3), (36, .iaload, 1), (37, .goto 4, 3), (40, .iconst (-1), 1), (41, .ireturn, 1)]
set_option maxRecDepth 20000 in
theorem dt_X5_numberHere : ∀ q ∈ dl_X5_numberHere, decode prog_7_method_25_code q.1 = .ok q.2 := by decide +kernel
def f_X5_numberHere  (h : Hp) : Option Int32 :=
  if (fI h 4 7) = (28 : Int32) then
  if (fI h 4 6) < 0 then
  some (-1 : Int32)
  else
  if (401 : Int32) ≤ (fI h 4 6) then
  some (-1 : Int32)
  else
  (inb (fI h 4 6) 401).bind fun j4 =>
  some (aI h 7 j4)
  else
  some (-1 : Int32)
set_option maxRecDepth 20000 in
theorem w_X5_numberHere  (h : Hp) (q : Int32)  (hrun : f_X5_numberHere  h = some q) : MetA ⟨"SteamNations$Reader", "numberHere", "()I"⟩ prog_7_method_25_code 1 (some .int) 1 0 0 [.ref 4] h (some (.int q)) h := by
  refine metA_of (by decide) (Nat.le_of_ble_eq_true rfl) (fun X C K => ?_)
  have C : Cx X cn_5 prog_7_method_25_code 1 (some .int) 1 0 0 := C
  show G X h 0 0 0 [(0, .ref 4)] []
  unfold f_X5_numberHere at hrun
  refine g_aload_n C (dat dt_X5_numberHere 0 rfl) 0 rfl ?_
  refine g_getI C (dat dt_X5_numberHere 1 rfl) fl_5_71 kd_4 rfl ltk_4 ?_
  refine g_bipush C (dat dt_X5_numberHere 2 rfl) bp_28 ?_
  refine g_ic_ne 40 C (dat dt_X5_numberHere 3 rfl) (by decide) (fun c1 => ?_) (fun c1 => ?_)
  · rw [if_neg c1] at hrun
    refine g_iconst C (dat dt_X5_numberHere 19 rfl) ic_m1 ?_
    cases hrun
    exact g_iret C K (dat dt_X5_numberHere 20 rfl)
  · rw [if_pos c1] at hrun
    refine g_aload_n C (dat dt_X5_numberHere 4 rfl) 0 rfl ?_
    refine g_getI C (dat dt_X5_numberHere 5 rfl) fl_5_55 kd_4 rfl ltk_4 ?_
    refine g_if_lt 40 C (dat dt_X5_numberHere 6 rfl) (by decide) (fun c2 => ?_) (fun c2 => ?_)
    · rw [if_pos c2] at hrun
      refine g_iconst C (dat dt_X5_numberHere 19 rfl) ic_m1 ?_
      cases hrun
      exact g_iret C K (dat dt_X5_numberHere 20 rfl)
    · rw [if_neg c2] at hrun
      refine g_aload_n C (dat dt_X5_numberHere 7 rfl) 0 rfl ?_
      refine g_getI C (dat dt_X5_numberHere 8 rfl) fl_5_55 kd_4 rfl ltk_4 ?_
      refine g_aload_n C (dat dt_X5_numberHere 9 rfl) 0 rfl ?_
      refine g_getR C (dat dt_X5_numberHere 10 rfl) fl_5_18 kd_4 rfl ltk_4 ?_
      refine g_alen (v := (401 : Int32)) C (dat dt_X5_numberHere 11 rfl) kd_7 (by decide) ltk_7 rfl ?_
      refine g_ic_ge 40 C (dat dt_X5_numberHere 12 rfl) (by decide) (fun c3 => ?_) (fun c3 => ?_)
      · rw [if_pos c3] at hrun
        refine g_iconst C (dat dt_X5_numberHere 19 rfl) ic_m1 ?_
        cases hrun
        exact g_iret C K (dat dt_X5_numberHere 20 rfl)
      · rw [if_neg c3] at hrun
        refine g_aload_n C (dat dt_X5_numberHere 13 rfl) 0 rfl ?_
        refine g_getR C (dat dt_X5_numberHere 14 rfl) fl_5_18 kd_4 rfl ltk_4 ?_
        refine g_aload_n C (dat dt_X5_numberHere 15 rfl) 0 rfl ?_
        refine g_getI C (dat dt_X5_numberHere 16 rfl) fl_5_55 kd_4 rfl ltk_4 ?_
        obtain ⟨j4, q5, hrun⟩ := bd hrun
        refine g_iald C (dat dt_X5_numberHere 17 rfl) kd_7 ltk_7 q5 ?_
        refine g_goto 41 C (dat dt_X5_numberHere 18 rfl) (by decide) ?_
        cases hrun
        exact g_iret C K (dat dt_X5_numberHere 20 rfl)
/-! SteamNations$Reader.put(II)I -/
def dl_X5_put : List (Nat × Instr × Nat) := [(0, .aload_n 0, 1), (1, .getfield 39, 3), (4, .sipush 400, 3), (7, .if_icmp .ge 39, 3), (10, .aload_n 0, 1), (11, .getfield 23, 3), (14, .aload_n 0, 1), (15, .getfield 39, 3), (18, .iconst 2, 1), (19, .imul, 1), (20, .iload_n 1, 1), (21, .iastore, 1), (22, .aload_n 0, 1), (23, .getfield 23, 3), (26, .aload_n 0, 1), (27, .getfield 39, 3), (30, .iconst 2, 1), (31, .imul, 1), (32, .iconst 1, 1), (33, .iadd, 1), (34, .iload_n 2, 1), (35, .iastore, 1), (36, .aload_n 0, 1), (37, .dup, 1), (38, .getfield 39, 3), (41, .iconst 1, 1), (42, .iadd, 1), (43, .putfield 39, 3), (46, .aload_n 0, 1), (47, .getfield 39, 3), (50, .iconst 1, 1), (51, .isub, 1), (52, .ireturn, 1)]
set_option maxRecDepth 20000 in
theorem dt_X5_put : ∀ q ∈ dl_X5_put, decode prog_7_method_28_code q.1 = .ok q.2 := by decide +kernel
def f_X5_put (x1 : Int32) (x2 : Int32) (h : Hp) : Option (Int32 × Hp) :=
  if (400 : Int32) ≤ (fI h 4 8) then
  some (((fI h 4 8) - (1 : Int32)), h)
  else
  (inb ((fI h 4 8) * (2 : Int32)) 800).bind fun j2 =>
  (inb (((fI (sA h 8 j2 x1) 4 8) * (2 : Int32)) + (1 : Int32)) 800).bind fun j4 =>
  some (((fI (sF (sA (sA h 8 j2 x1) 8 j4 x2) 4 8 ((fI (sA (sA h 8 j2 x1) 8 j4 x2) 4 8) + (1 : Int32))) 4 8) - (1 : Int32)), (sF (sA (sA h 8 j2 x1) 8 j4 x2) 4 8 ((fI (sA (sA h 8 j2 x1) 8 j4 x2) 4 8) + (1 : Int32))))
set_option maxRecDepth 20000 in
theorem w_X5_put (x1 : Int32) (x2 : Int32) (h : Hp) (q : (Int32 × Hp))  (hrun : f_X5_put x1 x2 h = some q) : MetA ⟨"SteamNations$Reader", "put", "(II)I"⟩ prog_7_method_28_code 3 (some .int) 1 0 0 [.ref 4, .int x1, .int x2] h (some (.int q.1)) q.2 := by
  refine metA_of (by decide) (Nat.le_of_ble_eq_true rfl) (fun X C K => ?_)
  have C : Cx X cn_5 prog_7_method_28_code 3 (some .int) 1 0 0 := C
  show G X h 0 0 0 [(0, .ref 4), (1, .int x1), (2, .int x2)] []
  unfold f_X5_put at hrun
  refine g_aload_n C (dat dt_X5_put 0 rfl) 0 rfl ?_
  refine g_getI C (dat dt_X5_put 1 rfl) fl_5_39 kd_4 rfl ltk_4 ?_
  refine g_sipush C (dat dt_X5_put 2 rfl) sp_400 ?_
  refine g_ic_ge 46 C (dat dt_X5_put 3 rfl) (by decide) (fun c1 => ?_) (fun c1 => ?_)
  · rw [if_pos c1] at hrun
    refine g_aload_n C (dat dt_X5_put 28 rfl) 0 rfl ?_
    refine g_getI C (dat dt_X5_put 29 rfl) fl_5_39 kd_4 rfl ltk_4 ?_
    refine g_iconst C (dat dt_X5_put 30 rfl) ic_1 ?_
    refine g_isub C (dat dt_X5_put 31 rfl) ?_
    cases hrun
    exact g_iret C K (dat dt_X5_put 32 rfl)
  · rw [if_neg c1] at hrun
    refine g_aload_n C (dat dt_X5_put 4 rfl) 0 rfl ?_
    refine g_getR C (dat dt_X5_put 5 rfl) fl_5_23 kd_4 rfl ltk_4 ?_
    refine g_aload_n C (dat dt_X5_put 6 rfl) 0 rfl ?_
    refine g_getI C (dat dt_X5_put 7 rfl) fl_5_39 kd_4 rfl ltk_4 ?_
    refine g_iconst C (dat dt_X5_put 8 rfl) ic_2 ?_
    refine g_imul C (dat dt_X5_put 9 rfl) ?_
    refine g_iload_n C (dat dt_X5_put 10 rfl) 1 rfl ?_
    obtain ⟨j2, q3, hrun⟩ := bd hrun
    refine g_iast (j := j2) C (dat dt_X5_put 11 rfl) kd_8 ltk_8 q3  ?_
    refine g_aload_n C (dat dt_X5_put 12 rfl) 0 rfl ?_
    refine g_getR C (dat dt_X5_put 13 rfl) fl_5_23 kd_4 rfl ltk_4 ?_
    refine g_aload_n C (dat dt_X5_put 14 rfl) 0 rfl ?_
    refine g_getI C (dat dt_X5_put 15 rfl) fl_5_39 kd_4 rfl ltk_4 ?_
    refine g_iconst C (dat dt_X5_put 16 rfl) ic_2 ?_
    refine g_imul C (dat dt_X5_put 17 rfl) ?_
    refine g_iconst C (dat dt_X5_put 18 rfl) ic_1 ?_
    refine g_iadd C (dat dt_X5_put 19 rfl) ?_
    refine g_iload_n C (dat dt_X5_put 20 rfl) 2 rfl ?_
    obtain ⟨j4, q5, hrun⟩ := bd hrun
    refine g_iast (j := j4) C (dat dt_X5_put 21 rfl) kd_8 ltk_8 q5  ?_
    refine g_aload_n C (dat dt_X5_put 22 rfl) 0 rfl ?_
    refine g_dup C (dat dt_X5_put 23 rfl) rfl ?_
    refine g_getI C (dat dt_X5_put 24 rfl) fl_5_39 kd_4 rfl ltk_4 ?_
    refine g_iconst C (dat dt_X5_put 25 rfl) ic_1 ?_
    refine g_iadd C (dat dt_X5_put 26 rfl) ?_
    refine g_putI C (dat dt_X5_put 27 rfl) fl_5_39 rfl rfl kd_4 rfl ltk_4 ?_
    refine g_aload_n C (dat dt_X5_put 28 rfl) 0 rfl ?_
    refine g_getI C (dat dt_X5_put 29 rfl) fl_5_39 kd_4 rfl ltk_4 ?_
    refine g_iconst C (dat dt_X5_put 30 rfl) ic_1 ?_
    refine g_isub C (dat dt_X5_put 31 rfl) ?_
    cases hrun
    exact g_iret C K (dat dt_X5_put 32 rfl)
/-! SteamNations$Reader.readOrdersWord()Z -/
def dl_X5_readOrdersWord : List (Nat × Instr × Nat) := [(0, .aload_n 0, 1), (1, .getfield 71, 3), (4, .istore_n 1, 1), (5, .iload_n 1, 1), (6, .bipush 6, 2), (8, .if_icmp .eq 15, 3), (11, .iload_n 1, 1), (12, .bipush 8, 2), (14, .if_icmp .lt 13, 3), (17, .iload_n 1, 1), (18, .bipush 11, 2), (20, .if_icmp .gt 7, 3), (23, .iconst 1, 1), (24, .goto 4, 3), (27, .iconst 0, 1), (28, .istore_n 2, 1), (29, .iload_n 2, 1), (30, .ifCond .ne 19, 3), (33, .iload_n 1, 1), (34, .bipush 12, 2), (36, .if_icmp .eq 13, 3), (39, .iload_n 1, 1), (40, .iconst 4, 1), (41, .if_icmp .eq 8, 3), (44, .aload_n 0, 1), (45, .invokevirtual 87, 3), (48, .ireturn, 1), (49, .aload_n 0, 1), (50, .invokevirtual 58, 3), (53, .iload_n 2, 1), (54, .ifCond .eq 12, 3), (57, .aload_n 0, 1), (58, .iconst 1, 1), (59, .iload_n 1, 1), (60, .invokevirtual 138, 3), (63, .pop, 1), (64, .iconst 1, 1), (65, .ireturn, 1), (66, .aload_n 0, 1), (67, .invokevirtual 129, 3), (70, .istore_n 3, 1), (71, .iload_n 3, 1), (72, .ifCond .lt 9, 3), (75, .iload_n 3, 1), (76, .bipush 6, 2), (78, .if_icmp .lt 8, 3), (81, .aload_n 0, 1), (82, .invokevirtual 87, 3), (85, .ireturn, 1), (86, .aload_n 0, 1), (87, .iconst 1, 1), (88, .iload_n 3, 1), (89, .iload_n 1, 1), (90, .bipush 12, 2), (92, .if_icmp .ne 8, 3), (95, .bipush 12, 2), (97, .goto 5, 3), (100, .bipush 18, 2), (102, .iadd, 1), (103, .invokevirtual 138, 3), (106, .pop, 1), (107, .aload_n 0, 1), (108, .invokevirtual 58, 3), (111, .iconst 1, 1), (112, .ireturn, 1)]
set_option maxRecDepth 20000 in
theorem dt_X5_readOrdersWord : ∀ q ∈ dl_X5_readOrdersWord, decode prog_7_method_20_code q.1 = .ok q.2 := by decide +kernel
def j_X5_readOrdersWord_81   (h : Hp) : Option (Bool × Hp) :=
  (f_X5_wrong  h).bind fun v9 =>
  some (v9.1, v9.2)
set_option maxRecDepth 20000 in
theorem wj_X5_readOrdersWord_81 {X : Xt} (C : Cx X cn_5 prog_7_method_20_code 4 (some .boolean) 2 0 0)     (h : Hp) (q : (Bool × Hp)) (hrun : j_X5_readOrdersWord_81   h = some q) (K : EndQ X 0 0 (some (.int (b2i q.1))) q.2) : G X h 0 0 81 [(0, .ref 4)] [] := by
  unfold j_X5_readOrdersWord_81 at hrun
  refine g_aload_n C (dat dt_X5_readOrdersWord 46 rfl) 0 rfl ?_
  obtain ⟨v9, q10, hrun⟩ := bd hrun
  refine g_cVi [] C (dat dt_X5_readOrdersWord 47 rfl) ml_5_87 (w_X5_wrong  h v9  q10) kd_4 ltk_4 rfl rfl cat0 (by decide) c00 ?_
  cases hrun
  exact g_zret C K rfl (dat dt_X5_readOrdersWord 48 rfl)
def j_X5_readOrdersWord_102  (s1 : Int32) (s2 : Int32) (s3 : Int32) (h : Hp) : Option (Bool × Hp) :=
  (f_X5_put s1 (s2 + s3) h).bind fun v13 =>
  (f_X5_goOn  v13.2).bind fun v15 =>
  some (true, v15.2)
set_option maxRecDepth 20000 in
theorem wj_X5_readOrdersWord_102 {X : Xt} (C : Cx X cn_5 prog_7_method_20_code 4 (some .boolean) 2 0 0)    (s1 : Int32) (s2 : Int32) (s3 : Int32) (h : Hp) (q : (Bool × Hp)) (hrun : j_X5_readOrdersWord_102  s1 s2 s3 h = some q) (K : EndQ X 0 0 (some (.int (b2i q.1))) q.2) : G X h 0 0 102 [(0, .ref 4)] [.int s3, .int s2, .int s1, .ref 4] := by
  unfold j_X5_readOrdersWord_102 at hrun
  refine g_iadd C (dat dt_X5_readOrdersWord 58 rfl) ?_
  obtain ⟨v13, q14, hrun⟩ := bd hrun
  refine g_cVi [.int s1, .int (s2 + s3)] C (dat dt_X5_readOrdersWord 59 rfl) ml_5_138 (w_X5_put s1 (s2 + s3) h v13  q14) kd_4 ltk_4 rfl rfl cat0 (by decide) c00 ?_
  refine g_pop C (dat dt_X5_readOrdersWord 60 rfl) rfl ?_
  refine g_aload_n C (dat dt_X5_readOrdersWord 61 rfl) 0 rfl ?_
  obtain ⟨v15, q16, hrun⟩ := bd hrun
  refine g_cVv [] C (dat dt_X5_readOrdersWord 62 rfl) ml_5_58 (w_X5_goOn  v13.2 v15  q16) kd_4 ltk_4 rfl rfl cat0 (by decide) c00 ?_
  refine g_iconst C (dat dt_X5_readOrdersWord 63 rfl) ic_1 ?_
  cases hrun
  exact g_zret C K (show (1 : Int32) = b2i true by decide) (dat dt_X5_readOrdersWord 64 rfl)
def j_X5_readOrdersWord_49  (x1 : Int32) (x2 : Int32) (h : Hp) : Option (Bool × Hp) :=
  (f_X5_goOn  h).bind fun v3 =>
  if x2 = 0 then
  (f_X5_numberHere  v3.2).bind fun v6 =>
  if v6 < 0 then
  j_X5_readOrdersWord_81   v3.2
  else
  if v6 < (6 : Int32) then
  if x1 = (12 : Int32) then
  j_X5_readOrdersWord_102  (1 : Int32) v6 (12 : Int32) v3.2
  else
  j_X5_readOrdersWord_102  (1 : Int32) v6 (18 : Int32) v3.2
  else
  j_X5_readOrdersWord_81   v3.2
  else
  (f_X5_put (1 : Int32) x1 v3.2).bind fun v17 =>
  some (true, v17.2)
set_option maxRecDepth 20000 in
theorem wj_X5_readOrdersWord_49 {X : Xt} (C : Cx X cn_5 prog_7_method_20_code 4 (some .boolean) 2 0 0)    (x1 : Int32) (x2 : Int32) (h : Hp) (q : (Bool × Hp)) (hrun : j_X5_readOrdersWord_49  x1 x2 h = some q) (K : EndQ X 0 0 (some (.int (b2i q.1))) q.2) : G X h 0 0 49 [(0, .ref 4), (1, .int x1), (2, .int x2)] [] := by
  unfold j_X5_readOrdersWord_49 at hrun
  refine g_aload_n C (dat dt_X5_readOrdersWord 27 rfl) 0 rfl ?_
  obtain ⟨v3, q4, hrun⟩ := bd hrun
  refine g_cVv [] C (dat dt_X5_readOrdersWord 28 rfl) ml_5_58 (w_X5_goOn  h v3  q4) kd_4 ltk_4 rfl rfl cat0 (by decide) c00 ?_
  refine g_iload_n C (dat dt_X5_readOrdersWord 29 rfl) 2 rfl ?_
  refine g_if_eq 66 C (dat dt_X5_readOrdersWord 30 rfl) (by decide) (fun c5 => ?_) (fun c5 => ?_)
  · rw [if_pos c5] at hrun
    refine g_aload_n C (dat dt_X5_readOrdersWord 38 rfl) 0 rfl ?_
    obtain ⟨v6, q7, hrun⟩ := bd hrun
    refine g_cVi [] C (dat dt_X5_readOrdersWord 39 rfl) ml_5_129 (w_X5_numberHere  v3.2 v6  q7) kd_4 ltk_4 rfl rfl cat0 (by decide) c00 ?_
    refine g_istore_n (lv' := [(0, .ref 4), (1, .int x1), (2, .int x2), (3, .int v6)]) C (dat dt_X5_readOrdersWord 40 rfl) (by decide) rfl ?_
    refine g_iload_n C (dat dt_X5_readOrdersWord 41 rfl) 3 rfl ?_
    refine g_if_lt 81 C (dat dt_X5_readOrdersWord 42 rfl) (by decide) (fun c8 => ?_) (fun c8 => ?_)
    · rw [if_pos c8] at hrun
      refine g_sub [0] (lv' := [(0, .ref 4)]) rfl ?_
      exact wj_X5_readOrdersWord_81 C     v3.2 _ hrun K
    · rw [if_neg c8] at hrun
      refine g_iload_n C (dat dt_X5_readOrdersWord 43 rfl) 3 rfl ?_
      refine g_bipush C (dat dt_X5_readOrdersWord 44 rfl) bp_6 ?_
      refine g_ic_lt 86 C (dat dt_X5_readOrdersWord 45 rfl) (by decide) (fun c11 => ?_) (fun c11 => ?_)
      · rw [if_pos c11] at hrun
        refine g_aload_n C (dat dt_X5_readOrdersWord 49 rfl) 0 rfl ?_
        refine g_iconst C (dat dt_X5_readOrdersWord 50 rfl) ic_1 ?_
        refine g_iload_n C (dat dt_X5_readOrdersWord 51 rfl) 3 rfl ?_
        refine g_iload_n C (dat dt_X5_readOrdersWord 52 rfl) 1 rfl ?_
        refine g_bipush C (dat dt_X5_readOrdersWord 53 rfl) bp_12 ?_
        refine g_ic_ne 100 C (dat dt_X5_readOrdersWord 54 rfl) (by decide) (fun c12 => ?_) (fun c12 => ?_)
        · rw [if_neg c12] at hrun
          refine g_bipush C (dat dt_X5_readOrdersWord 57 rfl) bp_18 ?_
          refine g_sub [0] (lv' := [(0, .ref 4)]) rfl ?_
          exact wj_X5_readOrdersWord_102 C    (1 : Int32) v6 (18 : Int32) v3.2 _ hrun K
        · rw [if_pos c12] at hrun
          refine g_bipush C (dat dt_X5_readOrdersWord 55 rfl) bp_12 ?_
          refine g_goto 102 C (dat dt_X5_readOrdersWord 56 rfl) (by decide) ?_
          refine g_sub [0] (lv' := [(0, .ref 4)]) rfl ?_
          exact wj_X5_readOrdersWord_102 C    (1 : Int32) v6 (12 : Int32) v3.2 _ hrun K
      · rw [if_neg c11] at hrun
        refine g_sub [0] (lv' := [(0, .ref 4)]) rfl ?_
        exact wj_X5_readOrdersWord_81 C     v3.2 _ hrun K
  · rw [if_neg c5] at hrun
    refine g_aload_n C (dat dt_X5_readOrdersWord 31 rfl) 0 rfl ?_
    refine g_iconst C (dat dt_X5_readOrdersWord 32 rfl) ic_1 ?_
    refine g_iload_n C (dat dt_X5_readOrdersWord 33 rfl) 1 rfl ?_
    obtain ⟨v17, q18, hrun⟩ := bd hrun
    refine g_cVi [.int (1 : Int32), .int x1] C (dat dt_X5_readOrdersWord 34 rfl) ml_5_138 (w_X5_put (1 : Int32) x1 v3.2 v17  q18) kd_4 ltk_4 rfl rfl cat0 (by decide) c00 ?_
    refine g_pop C (dat dt_X5_readOrdersWord 35 rfl) rfl ?_
    refine g_iconst C (dat dt_X5_readOrdersWord 36 rfl) ic_1 ?_
    cases hrun
    exact g_zret C K (show (1 : Int32) = b2i true by decide) (dat dt_X5_readOrdersWord 37 rfl)
def j_X5_readOrdersWord_28  (x1 : Int32) (s0 : Int32) (h : Hp) : Option (Bool × Hp) :=
  if s0 = 0 then
  if x1 = (12 : Int32) then
  j_X5_readOrdersWord_49  x1 s0 h
  else
  if x1 = (4 : Int32) then
  j_X5_readOrdersWord_49  x1 s0 h
  else
  (f_X5_wrong  h).bind fun v21 =>
  some (v21.1, v21.2)
  else
  j_X5_readOrdersWord_49  x1 s0 h
set_option maxRecDepth 20000 in
theorem wj_X5_readOrdersWord_28 {X : Xt} (C : Cx X cn_5 prog_7_method_20_code 4 (some .boolean) 2 0 0)    (x1 : Int32) (s0 : Int32) (h : Hp) (q : (Bool × Hp)) (hrun : j_X5_readOrdersWord_28  x1 s0 h = some q) (K : EndQ X 0 0 (some (.int (b2i q.1))) q.2) : G X h 0 0 28 [(0, .ref 4), (1, .int x1)] [.int s0] := by
  unfold j_X5_readOrdersWord_28 at hrun
  refine g_istore_n (lv' := [(0, .ref 4), (1, .int x1), (2, .int s0)]) C (dat dt_X5_readOrdersWord 15 rfl) (by decide) rfl ?_
  refine g_iload_n C (dat dt_X5_readOrdersWord 16 rfl) 2 rfl ?_
  refine g_if_ne 49 C (dat dt_X5_readOrdersWord 17 rfl) (by decide) (fun c2 => ?_) (fun c2 => ?_)
  · rw [if_neg c2] at hrun
    exact wj_X5_readOrdersWord_49 C    x1 s0 h _ hrun K
  · rw [if_pos c2] at hrun
    refine g_iload_n C (dat dt_X5_readOrdersWord 18 rfl) 1 rfl ?_
    refine g_bipush C (dat dt_X5_readOrdersWord 19 rfl) bp_12 ?_
    refine g_ic_eq 49 C (dat dt_X5_readOrdersWord 20 rfl) (by decide) (fun c19 => ?_) (fun c19 => ?_)
    · rw [if_pos c19] at hrun
      exact wj_X5_readOrdersWord_49 C    x1 s0 h _ hrun K
    · rw [if_neg c19] at hrun
      refine g_iload_n C (dat dt_X5_readOrdersWord 21 rfl) 1 rfl ?_
      refine g_iconst C (dat dt_X5_readOrdersWord 22 rfl) ic_4 ?_
      refine g_ic_eq 49 C (dat dt_X5_readOrdersWord 23 rfl) (by decide) (fun c20 => ?_) (fun c20 => ?_)
      · rw [if_pos c20] at hrun
        exact wj_X5_readOrdersWord_49 C    x1 s0 h _ hrun K
      · rw [if_neg c20] at hrun
        refine g_aload_n C (dat dt_X5_readOrdersWord 24 rfl) 0 rfl ?_
        obtain ⟨v21, q22, hrun⟩ := bd hrun
        refine g_cVi [] C (dat dt_X5_readOrdersWord 25 rfl) ml_5_87 (w_X5_wrong  h v21  q22) kd_4 ltk_4 rfl rfl cat0 (by decide) c00 ?_
        cases hrun
        exact g_zret C K rfl (dat dt_X5_readOrdersWord 26 rfl)
def j_X5_readOrdersWord_27  (x1 : Int32) (h : Hp) : Option (Bool × Hp) :=
  j_X5_readOrdersWord_28  x1 (0 : Int32) h
set_option maxRecDepth 20000 in
theorem wj_X5_readOrdersWord_27 {X : Xt} (C : Cx X cn_5 prog_7_method_20_code 4 (some .boolean) 2 0 0)    (x1 : Int32) (h : Hp) (q : (Bool × Hp)) (hrun : j_X5_readOrdersWord_27  x1 h = some q) (K : EndQ X 0 0 (some (.int (b2i q.1))) q.2) : G X h 0 0 27 [(0, .ref 4), (1, .int x1)] [] := by
  unfold j_X5_readOrdersWord_27 at hrun
  refine g_iconst C (dat dt_X5_readOrdersWord 14 rfl) ic_0 ?_
  exact wj_X5_readOrdersWord_28 C    x1 (0 : Int32) h _ hrun K
def f_X5_readOrdersWord  (h : Hp) : Option (Bool × Hp) :=
  if (fI h 4 7) = (6 : Int32) then
  j_X5_readOrdersWord_28  (fI h 4 7) (1 : Int32) h
  else
  if (fI h 4 7) < (8 : Int32) then
  j_X5_readOrdersWord_27  (fI h 4 7) h
  else
  if (11 : Int32) < (fI h 4 7) then
  j_X5_readOrdersWord_27  (fI h 4 7) h
  else
  j_X5_readOrdersWord_28  (fI h 4 7) (1 : Int32) h
set_option maxRecDepth 20000 in
theorem w_X5_readOrdersWord  (h : Hp) (q : (Bool × Hp))  (hrun : f_X5_readOrdersWord  h = some q) : MetA ⟨"SteamNations$Reader", "readOrdersWord", "()Z"⟩ prog_7_method_20_code 4 (some .boolean) 2 0 0 [.ref 4] h (some (.int (b2i q.1))) q.2 := by
  refine metA_of (by decide) (Nat.le_of_ble_eq_true rfl) (fun X C K => ?_)
  have C : Cx X cn_5 prog_7_method_20_code 4 (some .boolean) 2 0 0 := C
  show G X h 0 0 0 [(0, .ref 4)] []
  unfold f_X5_readOrdersWord at hrun
  refine g_aload_n C (dat dt_X5_readOrdersWord 0 rfl) 0 rfl ?_
  refine g_getI C (dat dt_X5_readOrdersWord 1 rfl) fl_5_71 kd_4 rfl ltk_4 ?_
  refine g_istore_n (lv' := [(0, .ref 4), (1, .int (fI h 4 7))]) C (dat dt_X5_readOrdersWord 2 rfl) (by decide) rfl ?_
  refine g_iload_n C (dat dt_X5_readOrdersWord 3 rfl) 1 rfl ?_
  refine g_bipush C (dat dt_X5_readOrdersWord 4 rfl) bp_6 ?_
  refine g_ic_eq 23 C (dat dt_X5_readOrdersWord 5 rfl) (by decide) (fun c1 => ?_) (fun c1 => ?_)
  · rw [if_pos c1] at hrun
    refine g_iconst C (dat dt_X5_readOrdersWord 12 rfl) ic_1 ?_
    refine g_goto 28 C (dat dt_X5_readOrdersWord 13 rfl) (by decide) ?_
    exact wj_X5_readOrdersWord_28 C    (fI h 4 7) (1 : Int32) h _ hrun K
  · rw [if_neg c1] at hrun
    refine g_iload_n C (dat dt_X5_readOrdersWord 6 rfl) 1 rfl ?_
    refine g_bipush C (dat dt_X5_readOrdersWord 7 rfl) bp_8 ?_
    refine g_ic_lt 27 C (dat dt_X5_readOrdersWord 8 rfl) (by decide) (fun c23 => ?_) (fun c23 => ?_)
    · rw [if_pos c23] at hrun
      exact wj_X5_readOrdersWord_27 C    (fI h 4 7) h _ hrun K
    · rw [if_neg c23] at hrun
      refine g_iload_n C (dat dt_X5_readOrdersWord 9 rfl) 1 rfl ?_
      refine g_bipush C (dat dt_X5_readOrdersWord 10 rfl) bp_11 ?_
      refine g_ic_gt 27 C (dat dt_X5_readOrdersWord 11 rfl) (by decide) (fun c24 => ?_) (fun c24 => ?_)
      · rw [if_pos c24] at hrun
        exact wj_X5_readOrdersWord_27 C    (fI h 4 7) h _ hrun K
      · rw [if_neg c24] at hrun
        refine g_iconst C (dat dt_X5_readOrdersWord 12 rfl) ic_1 ?_
        refine g_goto 28 C (dat dt_X5_readOrdersWord 13 rfl) (by decide) ?_
        exact wj_X5_readOrdersWord_28 C    (fI h 4 7) (1 : Int32) h _ hrun K
/-! SteamNations$Reader.readLawWord()Z -/
def dl_X5_readLawWord : List (Nat × Instr × Nat) := [(0, .aload_n 0, 1), (1, .getfield 71, 3), (4, .bipush 7, 2), (6, .if_icmp .le 8, 3), (9, .aload_n 0, 1), (10, .invokevirtual 87, 3), (13, .ireturn, 1), (14, .aload_n 0, 1), (15, .iconst 1, 1), (16, .aload_n 0, 1), (17, .getfield 71, 3), (20, .invokevirtual 138, 3), (23, .pop, 1), (24, .aload_n 0, 1), (25, .invokevirtual 58, 3), (28, .iconst 1, 1), (29, .ireturn, 1)]
set_option maxRecDepth 20000 in
theorem dt_X5_readLawWord : ∀ q ∈ dl_X5_readLawWord, decode prog_7_method_19_code q.1 = .ok q.2 := by decide +kernel
def f_X5_readLawWord  (h : Hp) : Option (Bool × Hp) :=
  if (fI h 4 7) ≤ (7 : Int32) then
  (f_X5_put (1 : Int32) (fI h 4 7) h).bind fun v2 =>
  (f_X5_goOn  v2.2).bind fun v4 =>
  some (true, v4.2)
  else
  (f_X5_wrong  h).bind fun v6 =>
  some (v6.1, v6.2)
set_option maxRecDepth 20000 in
theorem w_X5_readLawWord  (h : Hp) (q : (Bool × Hp))  (hrun : f_X5_readLawWord  h = some q) : MetA ⟨"SteamNations$Reader", "readLawWord", "()Z"⟩ prog_7_method_19_code 1 (some .boolean) 2 0 0 [.ref 4] h (some (.int (b2i q.1))) q.2 := by
  refine metA_of (by decide) (Nat.le_of_ble_eq_true rfl) (fun X C K => ?_)
  have C : Cx X cn_5 prog_7_method_19_code 1 (some .boolean) 2 0 0 := C
  show G X h 0 0 0 [(0, .ref 4)] []
  unfold f_X5_readLawWord at hrun
  refine g_aload_n C (dat dt_X5_readLawWord 0 rfl) 0 rfl ?_
  refine g_getI C (dat dt_X5_readLawWord 1 rfl) fl_5_71 kd_4 rfl ltk_4 ?_
  refine g_bipush C (dat dt_X5_readLawWord 2 rfl) bp_7 ?_
  refine g_ic_le 14 C (dat dt_X5_readLawWord 3 rfl) (by decide) (fun c1 => ?_) (fun c1 => ?_)
  · rw [if_pos c1] at hrun
    refine g_aload_n C (dat dt_X5_readLawWord 7 rfl) 0 rfl ?_
    refine g_iconst C (dat dt_X5_readLawWord 8 rfl) ic_1 ?_
    refine g_aload_n C (dat dt_X5_readLawWord 9 rfl) 0 rfl ?_
    refine g_getI C (dat dt_X5_readLawWord 10 rfl) fl_5_71 kd_4 rfl ltk_4 ?_
    obtain ⟨v2, q3, hrun⟩ := bd hrun
    refine g_cVi [.int (1 : Int32), .int (fI h 4 7)] C (dat dt_X5_readLawWord 11 rfl) ml_5_138 (w_X5_put (1 : Int32) (fI h 4 7) h v2  q3) kd_4 ltk_4 rfl rfl cat0 (by decide) c00 ?_
    refine g_pop C (dat dt_X5_readLawWord 12 rfl) rfl ?_
    refine g_aload_n C (dat dt_X5_readLawWord 13 rfl) 0 rfl ?_
    obtain ⟨v4, q5, hrun⟩ := bd hrun
    refine g_cVv [] C (dat dt_X5_readLawWord 14 rfl) ml_5_58 (w_X5_goOn  v2.2 v4  q5) kd_4 ltk_4 rfl rfl cat0 (by decide) c00 ?_
    refine g_iconst C (dat dt_X5_readLawWord 15 rfl) ic_1 ?_
    cases hrun
    exact g_zret C K (show (1 : Int32) = b2i true by decide) (dat dt_X5_readLawWord 16 rfl)
  · rw [if_neg c1] at hrun
    refine g_aload_n C (dat dt_X5_readLawWord 4 rfl) 0 rfl ?_
    obtain ⟨v6, q7, hrun⟩ := bd hrun
    refine g_cVi [] C (dat dt_X5_readLawWord 5 rfl) ml_5_87 (w_X5_wrong  h v6  q7) kd_4 ltk_4 rfl rfl cat0 (by decide) c00 ?_
    cases hrun
    exact g_zret C K rfl (dat dt_X5_readLawWord 6 rfl)
/-! SteamNations$Reader.takeIf(I)Z -/
def dl_X5_takeIf : List (Nat × Instr × Nat) := [(0, .aload_n 0, 1), (1, .getfield 71, 3), (4, .iload_n 1, 1), (5, .if_icmp .eq 5, 3), (8, .iconst 0, 1), (9, .ireturn, 1), (10, .aload_n 0, 1), (11, .invokevirtual 58, 3), (14, .iconst 1, 1), (15, .ireturn, 1)]
set_option maxRecDepth 20000 in
theorem dt_X5_takeIf : ∀ q ∈ dl_X5_takeIf, decode prog_7_method_23_code q.1 = .ok q.2 := by decide +kernel
def f_X5_takeIf (x1 : Int32) (h : Hp) : Option (Bool × Hp) :=
  if (fI h 4 7) = x1 then
  (f_X5_goOn  h).bind fun v2 =>
  some (true, v2.2)
  else
  some (false, h)
set_option maxRecDepth 20000 in
theorem w_X5_takeIf (x1 : Int32) (h : Hp) (q : (Bool × Hp))  (hrun : f_X5_takeIf x1 h = some q) : MetA ⟨"SteamNations$Reader", "takeIf", "(I)Z"⟩ prog_7_method_23_code 2 (some .boolean) 2 0 0 [.ref 4, .int x1] h (some (.int (b2i q.1))) q.2 := by
  refine metA_of (by decide) (Nat.le_of_ble_eq_true rfl) (fun X C K => ?_)
  have C : Cx X cn_5 prog_7_method_23_code 2 (some .boolean) 2 0 0 := C
  show G X h 0 0 0 [(0, .ref 4), (1, .int x1)] []
  unfold f_X5_takeIf at hrun
  refine g_aload_n C (dat dt_X5_takeIf 0 rfl) 0 rfl ?_
  refine g_getI C (dat dt_X5_takeIf 1 rfl) fl_5_71 kd_4 rfl ltk_4 ?_
  refine g_iload_n C (dat dt_X5_takeIf 2 rfl) 1 rfl ?_
  refine g_ic_eq 10 C (dat dt_X5_takeIf 3 rfl) (by decide) (fun c1 => ?_) (fun c1 => ?_)
  · rw [if_pos c1] at hrun
    refine g_aload_n C (dat dt_X5_takeIf 6 rfl) 0 rfl ?_
    obtain ⟨v2, q3, hrun⟩ := bd hrun
    refine g_cVv [] C (dat dt_X5_takeIf 7 rfl) ml_5_58 (w_X5_goOn  h v2  q3) kd_4 ltk_4 rfl rfl cat0 (by decide) c00 ?_
    refine g_iconst C (dat dt_X5_takeIf 8 rfl) ic_1 ?_
    cases hrun
    exact g_zret C K (show (1 : Int32) = b2i true by decide) (dat dt_X5_takeIf 9 rfl)
  · rw [if_neg c1] at hrun
    refine g_iconst C (dat dt_X5_takeIf 4 rfl) ic_0 ?_
    cases hrun
    exact g_zret C K (show (0 : Int32) = b2i false by decide) (dat dt_X5_takeIf 5 rfl)
/-! SteamNations$Reader.readTimes(I)Z -/
def dl_X5_readTimes : List (Nat × Instr × Nat) := [(0, .aload_n 0, 1), (1, .iload_n 1, 1), (2, .iconst 1, 1), (3, .iconst 1, 1), (4, .invokevirtual 116, 3), (7, .aload_n 0, 1), (8, .bipush 22, 2), (10, .invokevirtual 123, 3), (13, .ifCond .ne 5, 3), (16, .iconst 1, 1), (17, .ireturn, 1), (18, .aload_n 0, 1), (19, .invokevirtual 129, 3), (22, .istore_n 2, 1), (23, .iload_n 2, 1), (24, .iconst 1, 1), (25, .if_icmp .lt 9, 3), (28, .iload_n 2, 1), (29, .bipush 20, 2), (31, .if_icmp .le 8, 3), (34, .aload_n 0, 1), (35, .invokevirtual 87, 3), (38, .ireturn, 1), (39, .aload_n 0, 1), (40, .invokevirtual 58, 3), (43, .aload_n 0, 1), (44, .iload_n 1, 1), (45, .iconst 1, 1), (46, .iload_n 2, 1), (47, .invokevirtual 116, 3), (50, .iconst 1, 1), (51, .ireturn, 1)]
set_option maxRecDepth 20000 in
theorem dt_X5_readTimes : ∀ q ∈ dl_X5_readTimes, decode prog_7_method_10_code q.1 = .ok q.2 := by decide +kernel
def j_X5_readTimes_34   (h : Hp) : Option (Bool × Hp) :=
  (f_X5_wrong  h).bind fun v9 =>
  some (v9.1, v9.2)
set_option maxRecDepth 20000 in
theorem wj_X5_readTimes_34 {X : Xt} (C : Cx X cn_5 prog_7_method_10_code 3 (some .boolean) 3 0 0)     (h : Hp) (q : (Bool × Hp)) (hrun : j_X5_readTimes_34   h = some q) (K : EndQ X 0 0 (some (.int (b2i q.1))) q.2) : G X h 0 0 34 [(0, .ref 4)] [] := by
  unfold j_X5_readTimes_34 at hrun
  refine g_aload_n C (dat dt_X5_readTimes 20 rfl) 0 rfl ?_
  obtain ⟨v9, q10, hrun⟩ := bd hrun
  refine g_cVi [] C (dat dt_X5_readTimes 21 rfl) ml_5_87 (w_X5_wrong  h v9  q10) kd_4 ltk_4 rfl rfl cat0 (by decide) c00 ?_
  cases hrun
  exact g_zret C K rfl (dat dt_X5_readTimes 22 rfl)
def f_X5_readTimes (x1 : Int32) (h : Hp) : Option (Bool × Hp) :=
  (f_X5_mark x1 (1 : Int32) (1 : Int32) h).bind fun v1 =>
  (f_X5_takeIf (22 : Int32) v1.2).bind fun v3 =>
  if v3.1 = true then
  (f_X5_numberHere  v3.2).bind fun v6 =>
  if v6 < (1 : Int32) then
  j_X5_readTimes_34   v3.2
  else
  if v6 ≤ (20 : Int32) then
  (f_X5_goOn  v3.2).bind fun v12 =>
  (f_X5_mark x1 (1 : Int32) v6 v12.2).bind fun v14 =>
  some (true, v14.2)
  else
  j_X5_readTimes_34   v3.2
  else
  some (true, v3.2)
set_option maxRecDepth 20000 in
theorem w_X5_readTimes (x1 : Int32) (h : Hp) (q : (Bool × Hp))  (hrun : f_X5_readTimes x1 h = some q) : MetA ⟨"SteamNations$Reader", "readTimes", "(I)Z"⟩ prog_7_method_10_code 3 (some .boolean) 3 0 0 [.ref 4, .int x1] h (some (.int (b2i q.1))) q.2 := by
  refine metA_of (by decide) (Nat.le_of_ble_eq_true rfl) (fun X C K => ?_)
  have C : Cx X cn_5 prog_7_method_10_code 3 (some .boolean) 3 0 0 := C
  show G X h 0 0 0 [(0, .ref 4), (1, .int x1)] []
  unfold f_X5_readTimes at hrun
  refine g_aload_n C (dat dt_X5_readTimes 0 rfl) 0 rfl ?_
  refine g_iload_n C (dat dt_X5_readTimes 1 rfl) 1 rfl ?_
  refine g_iconst C (dat dt_X5_readTimes 2 rfl) ic_1 ?_
  refine g_iconst C (dat dt_X5_readTimes 3 rfl) ic_1 ?_
  obtain ⟨v1, q2, hrun⟩ := bd hrun
  refine g_cVv [.int x1, .int (1 : Int32), .int (1 : Int32)] C (dat dt_X5_readTimes 4 rfl) ml_5_116 (w_X5_mark x1 (1 : Int32) (1 : Int32) h v1  q2) kd_4 ltk_4 rfl rfl cat0 (by decide) c00 ?_
  refine g_aload_n C (dat dt_X5_readTimes 5 rfl) 0 rfl ?_
  refine g_bipush C (dat dt_X5_readTimes 6 rfl) bp_22 ?_
  obtain ⟨v3, q4, hrun⟩ := bd hrun
  refine g_cVi [.int (22 : Int32)] C (dat dt_X5_readTimes 7 rfl) ml_5_123 (w_X5_takeIf (22 : Int32) v1.2 v3  q4) kd_4 ltk_4 rfl rfl cat0 (by decide) c00 ?_
  refine g_if_ne 18 C (dat dt_X5_readTimes 8 rfl) (by decide) (fun c5 => ?_) (fun c5 => ?_)
  · rw [if_pos (b2i_nz c5)] at hrun
    refine g_aload_n C (dat dt_X5_readTimes 11 rfl) 0 rfl ?_
    obtain ⟨v6, q7, hrun⟩ := bd hrun
    refine g_cVi [] C (dat dt_X5_readTimes 12 rfl) ml_5_129 (w_X5_numberHere  v3.2 v6  q7) kd_4 ltk_4 rfl rfl cat0 (by decide) c00 ?_
    refine g_istore_n (lv' := [(0, .ref 4), (1, .int x1), (2, .int v6)]) C (dat dt_X5_readTimes 13 rfl) (by decide) rfl ?_
    refine g_iload_n C (dat dt_X5_readTimes 14 rfl) 2 rfl ?_
    refine g_iconst C (dat dt_X5_readTimes 15 rfl) ic_1 ?_
    refine g_ic_lt 34 C (dat dt_X5_readTimes 16 rfl) (by decide) (fun c8 => ?_) (fun c8 => ?_)
    · rw [if_pos c8] at hrun
      refine g_sub [0] (lv' := [(0, .ref 4)]) rfl ?_
      exact wj_X5_readTimes_34 C     v3.2 _ hrun K
    · rw [if_neg c8] at hrun
      refine g_iload_n C (dat dt_X5_readTimes 17 rfl) 2 rfl ?_
      refine g_bipush C (dat dt_X5_readTimes 18 rfl) bp_20 ?_
      refine g_ic_le 39 C (dat dt_X5_readTimes 19 rfl) (by decide) (fun c11 => ?_) (fun c11 => ?_)
      · rw [if_pos c11] at hrun
        refine g_aload_n C (dat dt_X5_readTimes 23 rfl) 0 rfl ?_
        obtain ⟨v12, q13, hrun⟩ := bd hrun
        refine g_cVv [] C (dat dt_X5_readTimes 24 rfl) ml_5_58 (w_X5_goOn  v3.2 v12  q13) kd_4 ltk_4 rfl rfl cat0 (by decide) c00 ?_
        refine g_aload_n C (dat dt_X5_readTimes 25 rfl) 0 rfl ?_
        refine g_iload_n C (dat dt_X5_readTimes 26 rfl) 1 rfl ?_
        refine g_iconst C (dat dt_X5_readTimes 27 rfl) ic_1 ?_
        refine g_iload_n C (dat dt_X5_readTimes 28 rfl) 2 rfl ?_
        obtain ⟨v14, q15, hrun⟩ := bd hrun
        refine g_cVv [.int x1, .int (1 : Int32), .int v6] C (dat dt_X5_readTimes 29 rfl) ml_5_116 (w_X5_mark x1 (1 : Int32) v6 v12.2 v14  q15) kd_4 ltk_4 rfl rfl cat0 (by decide) c00 ?_
        refine g_iconst C (dat dt_X5_readTimes 30 rfl) ic_1 ?_
        cases hrun
        exact g_zret C K (show (1 : Int32) = b2i true by decide) (dat dt_X5_readTimes 31 rfl)
      · rw [if_neg c11] at hrun
        refine g_sub [0] (lv' := [(0, .ref 4)]) rfl ?_
        exact wj_X5_readTimes_34 C     v3.2 _ hrun K
  · rw [if_neg (b2i_z c5)] at hrun
    refine g_iconst C (dat dt_X5_readTimes 9 rfl) ic_1 ?_
    cases hrun
    exact g_zret C K (show (1 : Int32) = b2i true by decide) (dat dt_X5_readTimes 10 rfl)
/-! SteamNations$Reader.land(I)V -/
def dl_X5_land : List (Nat × Instr × Nat) := [(0, .iload_n 1, 1), (1, .ifCond .lt 24, 3), (4, .iload_n 1, 1), (5, .sipush 400, 3), (8, .if_icmp .ge 17, 3), (11, .aload_n 0, 1), (12, .getfield 23, 3), (15, .iload_n 1, 1), (16, .iconst 2, 1), (17, .imul, 1), (18, .iconst 1, 1), (19, .iadd, 1), (20, .aload_n 0, 1), (21, .getfield 39, 3), (24, .iastore, 1), (25, .return_, 1)]
set_option maxRecDepth 20000 in
theorem dt_X5_land : ∀ q ∈ dl_X5_land, decode prog_7_method_29_code q.1 = .ok q.2 := by decide +kernel
def f_X5_land (x1 : Int32) (h : Hp) : Option (Unit × Hp) :=
  if x1 < 0 then
  some ((), h)
  else
  if (400 : Int32) ≤ x1 then
  some ((), h)
  else
  (inb ((x1 * (2 : Int32)) + (1 : Int32)) 800).bind fun j3 =>
  some ((), (sA h 8 j3 (fI h 4 8)))
set_option maxRecDepth 20000 in
theorem w_X5_land (x1 : Int32) (h : Hp) (q : (Unit × Hp))  (hrun : f_X5_land x1 h = some q) : MetA ⟨"SteamNations$Reader", "land", "(I)V"⟩ prog_7_method_29_code 2 none 1 0 0 [.ref 4, .int x1] h none q.2 := by
  refine metA_of (by decide) (Nat.le_of_ble_eq_true rfl) (fun X C K => ?_)
  have C : Cx X cn_5 prog_7_method_29_code 2 none 1 0 0 := C
  show G X h 0 0 0 [(0, .ref 4), (1, .int x1)] []
  unfold f_X5_land at hrun
  refine g_iload_n C (dat dt_X5_land 0 rfl) 1 rfl ?_
  refine g_if_lt 25 C (dat dt_X5_land 1 rfl) (by decide) (fun c1 => ?_) (fun c1 => ?_)
  · rw [if_pos c1] at hrun
    cases hrun
    exact g_vret C K (dat dt_X5_land 15 rfl)
  · rw [if_neg c1] at hrun
    refine g_iload_n C (dat dt_X5_land 2 rfl) 1 rfl ?_
    refine g_sipush C (dat dt_X5_land 3 rfl) sp_400 ?_
    refine g_ic_ge 25 C (dat dt_X5_land 4 rfl) (by decide) (fun c2 => ?_) (fun c2 => ?_)
    · rw [if_pos c2] at hrun
      cases hrun
      exact g_vret C K (dat dt_X5_land 15 rfl)
    · rw [if_neg c2] at hrun
      refine g_aload_n C (dat dt_X5_land 5 rfl) 0 rfl ?_
      refine g_getR C (dat dt_X5_land 6 rfl) fl_5_23 kd_4 rfl ltk_4 ?_
      refine g_iload_n C (dat dt_X5_land 7 rfl) 1 rfl ?_
      refine g_iconst C (dat dt_X5_land 8 rfl) ic_2 ?_
      refine g_imul C (dat dt_X5_land 9 rfl) ?_
      refine g_iconst C (dat dt_X5_land 10 rfl) ic_1 ?_
      refine g_iadd C (dat dt_X5_land 11 rfl) ?_
      refine g_aload_n C (dat dt_X5_land 12 rfl) 0 rfl ?_
      refine g_getI C (dat dt_X5_land 13 rfl) fl_5_39 kd_4 rfl ltk_4 ?_
      obtain ⟨j3, q4, hrun⟩ := bd hrun
      refine g_iast (j := j3) C (dat dt_X5_land 14 rfl) kd_8 ltk_8 q4  ?_
      cases hrun
      exact g_vret C K (dat dt_X5_land 15 rfl)
