/-! SteamNations$Room.add(IIII)I -/
def dl_X6_add : List (Nat × Instr × Nat) := [(0, .aload_n 0, 1), (1, .getfield 33, 3), (4, .bipush 6, 2), (6, .if_icmp .lt 5, 3), (9, .iconst (-1), 1), (10, .ireturn, 1), (11, .aload_n 0, 1), (12, .getfield 33, 3), (15, .istore 5, 2), (17, .aload_n 0, 1), (18, .getfield 9, 3), (21, .iload 5, 2), (23, .iconst 3, 1), (24, .imul, 1), (25, .iload_n 1, 1), (26, .iastore, 1), (27, .aload_n 0, 1), (28, .getfield 9, 3), (31, .iload 5, 2), (33, .iconst 3, 1), (34, .imul, 1), (35, .iconst 1, 1), (36, .iadd, 1), (37, .iload_n 2, 1), (38, .iastore, 1), (39, .aload_n 0, 1), (40, .getfield 9, 3), (43, .iload 5, 2), (45, .iconst 3, 1), (46, .imul, 1), (47, .iconst 2, 1), (48, .iadd, 1), (49, .iload_n 3, 1), (50, .iastore, 1), (51, .aload_n 0, 1), (52, .getfield 15, 3), (55, .iload 5, 2), (57, .iload 4, 2), (59, .iastore, 1), (60, .aload_n 0, 1), (61, .getfield 18, 3), (64, .iload 5, 2), (66, .iconst (-1), 1), (67, .iastore, 1), (68, .aload_n 0, 1), (69, .dup, 1), (70, .getfield 33, 3), (73, .iconst 1, 1), (74, .iadd, 1), (75, .putfield 33, 3), (78, .iload 5, 2), (80, .ireturn, 1)]
set_option maxRecDepth 20000 in
theorem dt_X6_add : ∀ q ∈ dl_X6_add, decode prog_8_method_3_code q.1 = .ok q.2 := by decide +kernel
def f_X6_add (a0 : Nat) (x1 : Int32) (x2 : Int32) (x3 : Int32) (x4 : Int32) (h : Hp) : Option (Int32 × Hp) :=
  if (fI h a0 0) < (6 : Int32) then
  (inb ((fI h a0 0) * (3 : Int32)) 18).bind fun j2 =>
  (inb (((fI h a0 0) * (3 : Int32)) + (1 : Int32)) 18).bind fun j4 =>
  (inb (((fI h a0 0) * (3 : Int32)) + (2 : Int32)) 18).bind fun j6 =>
  (inb (fI h a0 0) 6).bind fun j8 =>
  (inb (fI h a0 0) 6).bind fun j10 =>
  some ((fI h a0 0), (sF (sA (sA (sA (sA (sA h (a0 + 1) j2 x1) (a0 + 1) j4 x2) (a0 + 1) j6 x3) (a0 + 2) j8 x4) (a0 + 3) j10 (-1 : Int32)) a0 0 ((fI (sA (sA (sA (sA (sA h (a0 + 1) j2 x1) (a0 + 1) j4 x2) (a0 + 1) j6 x3) (a0 + 2) j8 x4) (a0 + 3) j10 (-1 : Int32)) a0 0) + (1 : Int32))))
  else
  some ((-1 : Int32), h)
set_option maxRecDepth 20000 in
theorem w_X6_add (a0 : Nat) (x1 : Int32) (x2 : Int32) (x3 : Int32) (x4 : Int32) (h : Hp) (q : (Int32 × Hp)) (Ha0 : IsRoom a0) (hrun : f_X6_add a0 x1 x2 x3 x4 h = some q) : MetA ⟨"SteamNations$Room", "add", "(IIII)I"⟩ prog_8_method_3_code 6 (some .int) 1 0 0 [.ref a0, .int x1, .int x2, .int x3, .int x4] h (some (.int q.1)) q.2 := by
  refine metA_of (by decide) (Nat.le_of_ble_eq_true rfl) (fun X C K => ?_)
  have C : Cx X cn_6 prog_8_method_3_code 6 (some .int) 1 0 0 := C
  show G X h 0 0 0 [(0, .ref a0), (1, .int x1), (2, .int x2), (3, .int x3), (4, .int x4)] []
  unfold f_X6_add at hrun
  refine g_aload_n C (dat dt_X6_add 0 rfl) 0 rfl ?_
  refine g_getI C (dat dt_X6_add 1 rfl) fl_6_33 Ha0.1 rfl (rb0 Ha0) ?_
  refine g_bipush C (dat dt_X6_add 2 rfl) bp_6 ?_
  refine g_ic_lt 11 C (dat dt_X6_add 3 rfl) (by decide) (fun c1 => ?_) (fun c1 => ?_)
  · rw [if_pos c1] at hrun
    refine g_aload_n C (dat dt_X6_add 6 rfl) 0 rfl ?_
    refine g_getI C (dat dt_X6_add 7 rfl) fl_6_33 Ha0.1 rfl (rb0 Ha0) ?_
    refine g_istore (lv' := [(0, .ref a0), (1, .int x1), (2, .int x2), (3, .int x3), (4, .int x4), (5, .int (fI h a0 0))]) C (dat dt_X6_add 8 rfl) (by decide) rfl ?_
    refine g_aload_n C (dat dt_X6_add 9 rfl) 0 rfl ?_
    refine g_getR C (dat dt_X6_add 10 rfl) fl_6_9 Ha0.1 rfl (rb0 Ha0) ?_
    refine g_iload C (dat dt_X6_add 11 rfl) 5 rfl ?_
    refine g_iconst C (dat dt_X6_add 12 rfl) ic_3 ?_
    refine g_imul C (dat dt_X6_add 13 rfl) ?_
    refine g_iload_n C (dat dt_X6_add 14 rfl) 1 rfl ?_
    obtain ⟨j2, q3, hrun⟩ := bd hrun
    refine g_iast (j := j2) C (dat dt_X6_add 15 rfl) Ha0.2.1 (rb1 Ha0) q3  ?_
    refine g_aload_n C (dat dt_X6_add 16 rfl) 0 rfl ?_
    refine g_getR C (dat dt_X6_add 17 rfl) fl_6_9 Ha0.1 rfl (rb0 Ha0) ?_
    refine g_iload C (dat dt_X6_add 18 rfl) 5 rfl ?_
    refine g_iconst C (dat dt_X6_add 19 rfl) ic_3 ?_
    refine g_imul C (dat dt_X6_add 20 rfl) ?_
    refine g_iconst C (dat dt_X6_add 21 rfl) ic_1 ?_
    refine g_iadd C (dat dt_X6_add 22 rfl) ?_
    refine g_iload_n C (dat dt_X6_add 23 rfl) 2 rfl ?_
    obtain ⟨j4, q5, hrun⟩ := bd hrun
    refine g_iast (j := j4) C (dat dt_X6_add 24 rfl) Ha0.2.1 (rb1 Ha0) q5  ?_
    refine g_aload_n C (dat dt_X6_add 25 rfl) 0 rfl ?_
    refine g_getR C (dat dt_X6_add 26 rfl) fl_6_9 Ha0.1 rfl (rb0 Ha0) ?_
    refine g_iload C (dat dt_X6_add 27 rfl) 5 rfl ?_
    refine g_iconst C (dat dt_X6_add 28 rfl) ic_3 ?_
    refine g_imul C (dat dt_X6_add 29 rfl) ?_
    refine g_iconst C (dat dt_X6_add 30 rfl) ic_2 ?_
    refine g_iadd C (dat dt_X6_add 31 rfl) ?_
    refine g_iload_n C (dat dt_X6_add 32 rfl) 3 rfl ?_
    obtain ⟨j6, q7, hrun⟩ := bd hrun
    refine g_iast (j := j6) C (dat dt_X6_add 33 rfl) Ha0.2.1 (rb1 Ha0) q7  ?_
    refine g_aload_n C (dat dt_X6_add 34 rfl) 0 rfl ?_
    refine g_getR C (dat dt_X6_add 35 rfl) fl_6_15 Ha0.1 rfl (rb0 Ha0) ?_
    refine g_iload C (dat dt_X6_add 36 rfl) 5 rfl ?_
    refine g_iload C (dat dt_X6_add 37 rfl) 4 rfl ?_
    obtain ⟨j8, q9, hrun⟩ := bd hrun
    refine g_iast (j := j8) C (dat dt_X6_add 38 rfl) Ha0.2.2.1 (rb2 Ha0) q9  ?_
    refine g_aload_n C (dat dt_X6_add 39 rfl) 0 rfl ?_
    refine g_getR C (dat dt_X6_add 40 rfl) fl_6_18 Ha0.1 rfl (rb0 Ha0) ?_
    refine g_iload C (dat dt_X6_add 41 rfl) 5 rfl ?_
    refine g_iconst C (dat dt_X6_add 42 rfl) ic_m1 ?_
    obtain ⟨j10, q11, hrun⟩ := bd hrun
    refine g_iast (j := j10) C (dat dt_X6_add 43 rfl) Ha0.2.2.2.1 (rb3 Ha0) q11  ?_
    refine g_aload_n C (dat dt_X6_add 44 rfl) 0 rfl ?_
    refine g_dup C (dat dt_X6_add 45 rfl) rfl ?_
    refine g_getI C (dat dt_X6_add 46 rfl) fl_6_33 Ha0.1 rfl (rb0 Ha0) ?_
    refine g_iconst C (dat dt_X6_add 47 rfl) ic_1 ?_
    refine g_iadd C (dat dt_X6_add 48 rfl) ?_
    refine g_putI C (dat dt_X6_add 49 rfl) fl_6_33 rfl rfl Ha0.1 rfl (rb0 Ha0) ?_
    refine g_iload C (dat dt_X6_add 50 rfl) 5 rfl ?_
    cases hrun
    exact g_iret C K (dat dt_X6_add 51 rfl)
  · rw [if_neg c1] at hrun
    refine g_iconst C (dat dt_X6_add 4 rfl) ic_m1 ?_
    cases hrun
    exact g_iret C K (dat dt_X6_add 5 rfl)
/-! SteamNations$Room.has(I)Z -/
def dl_X6_has : List (Nat × Instr × Nat) := [(0, .iload_n 1, 1), (1, .ifCond .lt 15, 3), (4, .iload_n 1, 1), (5, .aload_n 0, 1), (6, .getfield 33, 3), (9, .if_icmp .ge 7, 3), (12, .iconst 1, 1), (13, .goto 4, 3), (16, .iconst 0, 1), (17, .ireturn, 1)]
set_option maxRecDepth 20000 in
theorem dt_X6_has : ∀ q ∈ dl_X6_has, decode prog_8_method_4_code q.1 = .ok q.2 := by decide +kernel
def f_X6_has (a0 : Nat) (x1 : Int32) (h : Hp) : Option Bool :=
  if x1 < 0 then
  some false
  else
  if (fI h a0 0) ≤ x1 then
  some false
  else
  some true
set_option maxRecDepth 20000 in
theorem w_X6_has (a0 : Nat) (x1 : Int32) (h : Hp) (q : Bool) (Ha0 : IsRoom a0) (hrun : f_X6_has a0 x1 h = some q) : MetA ⟨"SteamNations$Room", "has", "(I)Z"⟩ prog_8_method_4_code 2 (some .boolean) 1 0 0 [.ref a0, .int x1] h (some (.int (b2i q))) h := by
  refine metA_of (by decide) (Nat.le_of_ble_eq_true rfl) (fun X C K => ?_)
  have C : Cx X cn_6 prog_8_method_4_code 2 (some .boolean) 1 0 0 := C
  show G X h 0 0 0 [(0, .ref a0), (1, .int x1)] []
  unfold f_X6_has at hrun
  refine g_iload_n C (dat dt_X6_has 0 rfl) 1 rfl ?_
  refine g_if_lt 16 C (dat dt_X6_has 1 rfl) (by decide) (fun c1 => ?_) (fun c1 => ?_)
  · rw [if_pos c1] at hrun
    refine g_iconst C (dat dt_X6_has 8 rfl) ic_0 ?_
    cases hrun
    exact g_zret C K (show (0 : Int32) = b2i false by decide) (dat dt_X6_has 9 rfl)
  · rw [if_neg c1] at hrun
    refine g_iload_n C (dat dt_X6_has 2 rfl) 1 rfl ?_
    refine g_aload_n C (dat dt_X6_has 3 rfl) 0 rfl ?_
    refine g_getI C (dat dt_X6_has 4 rfl) fl_6_33 Ha0.1 rfl (rb0 Ha0) ?_
    refine g_ic_ge 16 C (dat dt_X6_has 5 rfl) (by decide) (fun c2 => ?_) (fun c2 => ?_)
    · rw [if_pos c2] at hrun
      refine g_iconst C (dat dt_X6_has 8 rfl) ic_0 ?_
      cases hrun
      exact g_zret C K (show (0 : Int32) = b2i false by decide) (dat dt_X6_has 9 rfl)
    · rw [if_neg c2] at hrun
      refine g_iconst C (dat dt_X6_has 6 rfl) ic_1 ?_
      refine g_goto 17 C (dat dt_X6_has 7 rfl) (by decide) ?_
      cases hrun
      exact g_zret C K (show (1 : Int32) = b2i true by decide) (dat dt_X6_has 9 rfl)
/-! SteamNations$Room.nationOf(I)I -/
def dl_X6_nationOf : List (Nat × Instr × Nat) := [(0, .iload_n 1, 1), (1, .ifCond .lt 11, 3), (4, .iload_n 1, 1), (5, .aload_n 0, 1), (6, .getfield 33, 3), (9, .if_icmp .lt 5, 3), (12, .iconst (-1), 1), (13, .ireturn, 1), (14, .iconst 0, 1), (15, .istore_n 2, 1), (16, .iconst 1, 1), (17, .istore_n 3, 1), (18, .iload_n 3, 1), (19, .iconst 3, 1), (20, .if_icmp .ge 34, 3), (23, .aload_n 0, 1), (24, .getfield 9, 3), (27, .iload_n 1, 1), (28, .iconst 3, 1), (29, .imul, 1), (30, .iload_n 3, 1), (31, .iadd, 1), (32, .iaload, 1), (33, .aload_n 0, 1), (34, .getfield 9, 3), (37, .iload_n 1, 1), (38, .iconst 3, 1), (39, .imul, 1), (40, .iload_n 2, 1), (41, .iadd, 1), (42, .iaload, 1), (43, .if_icmp .le 5, 3), (46, .iload_n 3, 1), (47, .istore_n 2, 1), (48, .iinc 3 1, 3), (51, .goto (-33), 3), (54, .iload_n 2, 1), (55, .ireturn, 1)]
set_option maxRecDepth 20000 in
theorem dt_X6_nationOf : ∀ q ∈ dl_X6_nationOf, decode prog_8_method_8_code q.1 = .ok q.2 := by decide +kernel
def kp_X6_nationOf_18 (a0 : Nat) (x1 : Int32) (h : Hp) (X : Xt) (s : (Int32 × Int32)) : Prop := G X h 0 0 18 [(0, .ref a0), (1, .int x1), (2, .int s.1), (3, .int s.2)] []
def ke_X6_nationOf_18 (a0 : Nat) (x1 : Int32) (h : Hp) (X : Xt) (e : Int32) : Prop := G X h 0 0 54 [(2, .int e)] []
def b_X6_nationOf_18 (a0 : Nat) (x1 : Int32) (x2 : Int32) (x3 : Int32) (h : Hp) : Option ((Int32 × Int32) ⊕ Int32) :=
  if (3 : Int32) ≤ x3 then
  some (.inr ( x2))
  else
  (inb ((x1 * (3 : Int32)) + x3) 18).bind fun j4 =>
  (inb ((x1 * (3 : Int32)) + x2) 18).bind fun j6 =>
  if (aI h (a0 + 1) j4) ≤ (aI h (a0 + 1) j6) then
  some (.inl (x2, (x3 + (1 : Int32))))
  else
  some (.inl (x3, (x3 + (1 : Int32))))
set_option maxRecDepth 20000 in
theorem wb_X6_nationOf_18 {X : Xt} (C : Cx X cn_6 prog_8_method_8_code 4 (some .int) 1 0 0) (a0 : Nat) (Ha0 : IsRoom a0) (x1 : Int32) (x2 : Int32) (x3 : Int32) (h : Hp) (q : (Int32 × Int32) ⊕ Int32) (hrun : b_X6_nationOf_18 a0 x1 x2 x3 h = some q) (Ks : ∀ s, q = .inl s → kp_X6_nationOf_18 a0 x1 h X s) (Ke : ∀ e, q = .inr e → ke_X6_nationOf_18 a0 x1 h X e) : kp_X6_nationOf_18 a0 x1 h X (x2, x3) := by
  show G X h 0 0 18 [(0, .ref a0), (1, .int x1), (2, .int x2), (3, .int x3)] []
  unfold b_X6_nationOf_18 at hrun
  refine g_iload_n C (dat dt_X6_nationOf 12 rfl) 3 rfl ?_
  refine g_iconst C (dat dt_X6_nationOf 13 rfl) ic_3 ?_
  refine g_ic_ge 54 C (dat dt_X6_nationOf 14 rfl) (by decide) (fun c3 => ?_) (fun c3 => ?_)
  · rw [if_pos c3] at hrun
    refine g_sub [2] (lv' := [(2, .int x2)]) rfl ?_
    cases hrun
    exact Ke ( x2) rfl
  · rw [if_neg c3] at hrun
    refine g_aload_n C (dat dt_X6_nationOf 15 rfl) 0 rfl ?_
    refine g_getR C (dat dt_X6_nationOf 16 rfl) fl_6_9 Ha0.1 rfl (rb0 Ha0) ?_
    refine g_iload_n C (dat dt_X6_nationOf 17 rfl) 1 rfl ?_
    refine g_iconst C (dat dt_X6_nationOf 18 rfl) ic_3 ?_
    refine g_imul C (dat dt_X6_nationOf 19 rfl) ?_
    refine g_iload_n C (dat dt_X6_nationOf 20 rfl) 3 rfl ?_
    refine g_iadd C (dat dt_X6_nationOf 21 rfl) ?_
    obtain ⟨j4, q5, hrun⟩ := bd hrun
    refine g_iald C (dat dt_X6_nationOf 22 rfl) Ha0.2.1 (rb1 Ha0) q5 ?_
    refine g_aload_n C (dat dt_X6_nationOf 23 rfl) 0 rfl ?_
    refine g_getR C (dat dt_X6_nationOf 24 rfl) fl_6_9 Ha0.1 rfl (rb0 Ha0) ?_
    refine g_iload_n C (dat dt_X6_nationOf 25 rfl) 1 rfl ?_
    refine g_iconst C (dat dt_X6_nationOf 26 rfl) ic_3 ?_
    refine g_imul C (dat dt_X6_nationOf 27 rfl) ?_
    refine g_iload_n C (dat dt_X6_nationOf 28 rfl) 2 rfl ?_
    refine g_iadd C (dat dt_X6_nationOf 29 rfl) ?_
    obtain ⟨j6, q7, hrun⟩ := bd hrun
    refine g_iald C (dat dt_X6_nationOf 30 rfl) Ha0.2.1 (rb1 Ha0) q7 ?_
    refine g_ic_le 48 C (dat dt_X6_nationOf 31 rfl) (by decide) (fun c8 => ?_) (fun c8 => ?_)
    · rw [if_pos c8] at hrun
      refine g_iinc (v := (x3 + (1 : Int32))) (lv' := [(0, .ref a0), (1, .int x1), (2, .int x2), (3, .int (x3 + (1 : Int32)))]) C (dat dt_X6_nationOf 34 rfl) 3 rfl (congrArg (fun z => x3 + z) ic_1) (by decide) rfl ?_
      refine g_goto 18 C (dat dt_X6_nationOf 35 rfl) (by decide) ?_
      cases hrun
      exact Ks (x2, (x3 + (1 : Int32))) rfl
    · rw [if_neg c8] at hrun
      refine g_iload_n C (dat dt_X6_nationOf 32 rfl) 3 rfl ?_
      refine g_istore_n (lv' := [(0, .ref a0), (1, .int x1), (2, .int x3), (3, .int x3)]) C (dat dt_X6_nationOf 33 rfl) (by decide) rfl ?_
      refine g_iinc (v := (x3 + (1 : Int32))) (lv' := [(0, .ref a0), (1, .int x1), (2, .int x3), (3, .int (x3 + (1 : Int32)))]) C (dat dt_X6_nationOf 34 rfl) 3 rfl (congrArg (fun z => x3 + z) ic_1) (by decide) rfl ?_
      refine g_goto 18 C (dat dt_X6_nationOf 35 rfl) (by decide) ?_
      cases hrun
      exact Ks (x3, (x3 + (1 : Int32))) rfl
def f_X6_nationOf (a0 : Nat) (x1 : Int32) (h : Hp) : Option Int32 :=
  if x1 < 0 then
  some (-1 : Int32)
  else
  if x1 < (fI h a0 0) then
  (lp (fun s => b_X6_nationOf_18 a0 x1 s.1 s.2 h) FU ((0 : Int32), (1 : Int32))).bind fun e9 =>
  some e9
  else
  some (-1 : Int32)
set_option maxRecDepth 20000 in
theorem w_X6_nationOf (a0 : Nat) (x1 : Int32) (h : Hp) (q : Int32) (Ha0 : IsRoom a0) (hrun : f_X6_nationOf a0 x1 h = some q) : MetA ⟨"SteamNations$Room", "nationOf", "(I)I"⟩ prog_8_method_8_code 4 (some .int) 1 0 0 [.ref a0, .int x1] h (some (.int q)) h := by
  refine metA_of (by decide) (Nat.le_of_ble_eq_true rfl) (fun X C K => ?_)
  have C : Cx X cn_6 prog_8_method_8_code 4 (some .int) 1 0 0 := C
  show G X h 0 0 0 [(0, .ref a0), (1, .int x1)] []
  unfold f_X6_nationOf at hrun
  refine g_iload_n C (dat dt_X6_nationOf 0 rfl) 1 rfl ?_
  refine g_if_lt 12 C (dat dt_X6_nationOf 1 rfl) (by decide) (fun c1 => ?_) (fun c1 => ?_)
  · rw [if_pos c1] at hrun
    refine g_iconst C (dat dt_X6_nationOf 6 rfl) ic_m1 ?_
    cases hrun
    exact g_iret C K (dat dt_X6_nationOf 7 rfl)
  · rw [if_neg c1] at hrun
    refine g_iload_n C (dat dt_X6_nationOf 2 rfl) 1 rfl ?_
    refine g_aload_n C (dat dt_X6_nationOf 3 rfl) 0 rfl ?_
    refine g_getI C (dat dt_X6_nationOf 4 rfl) fl_6_33 Ha0.1 rfl (rb0 Ha0) ?_
    refine g_ic_lt 14 C (dat dt_X6_nationOf 5 rfl) (by decide) (fun c2 => ?_) (fun c2 => ?_)
    · rw [if_pos c2] at hrun
      refine g_iconst C (dat dt_X6_nationOf 8 rfl) ic_0 ?_
      refine g_istore_n (lv' := [(0, .ref a0), (1, .int x1), (2, .int (0 : Int32))]) C (dat dt_X6_nationOf 9 rfl) (by decide) rfl ?_
      refine g_iconst C (dat dt_X6_nationOf 10 rfl) ic_1 ?_
      refine g_istore_n (lv' := [(0, .ref a0), (1, .int x1), (2, .int (0 : Int32)), (3, .int (1 : Int32))]) C (dat dt_X6_nationOf 11 rfl) (by decide) rfl ?_
      obtain ⟨e9, q10, hrun⟩ := bd hrun
      refine lp_ind (P := fun s => kp_X6_nationOf_18 a0 x1 h X s) (K := fun e => ke_X6_nationOf_18 a0 x1 h X e) (fun s q hb Ks Ke => wb_X6_nationOf_18 C a0 Ha0 x1 s.1 s.2 h q hb Ks Ke) FU ((0 : Int32), (1 : Int32)) e9 q10 ?_
      show G X h 0 0 54 [(2, .int e9)] []
      refine g_iload_n C (dat dt_X6_nationOf 36 rfl) 0 rfl ?_
      cases hrun
      exact g_iret C K (dat dt_X6_nationOf 37 rfl)
    · rw [if_neg c2] at hrun
      refine g_iconst C (dat dt_X6_nationOf 6 rfl) ic_m1 ?_
      cases hrun
      exact g_iret C K (dat dt_X6_nationOf 7 rfl)
/-! SteamNations$Room.isInside(I)Z -/
def dl_X6_isInside : List (Nat × Instr × Nat) := [(0, .aload_n 0, 1), (1, .iload_n 1, 1), (2, .invokevirtual 37, 3), (5, .ifCond .eq 17, 3), (8, .aload_n 0, 1), (9, .getfield 18, 3), (12, .iload_n 1, 1), (13, .iaload, 1), (14, .iconst (-1), 1), (15, .if_icmp .eq 7, 3), (18, .iconst 1, 1), (19, .goto 4, 3), (22, .iconst 0, 1), (23, .ireturn, 1)]
set_option maxRecDepth 20000 in
theorem dt_X6_isInside : ∀ q ∈ dl_X6_isInside, decode prog_8_method_5_code q.1 = .ok q.2 := by decide +kernel
def f_X6_isInside (a0 : Nat) (x1 : Int32) (h : Hp) : Option Bool :=
  (f_X6_has a0 x1 h).bind fun v1 =>
  if v1 = true then
  (inb x1 6).bind fun j4 =>
  if (aI h (a0 + 3) j4) = (-1 : Int32) then
  some false
  else
  some true
  else
  some false
set_option maxRecDepth 20000 in
theorem w_X6_isInside (a0 : Nat) (x1 : Int32) (h : Hp) (q : Bool) (Ha0 : IsRoom a0) (hrun : f_X6_isInside a0 x1 h = some q) : MetA ⟨"SteamNations$Room", "isInside", "(I)Z"⟩ prog_8_method_5_code 2 (some .boolean) 2 0 0 [.ref a0, .int x1] h (some (.int (b2i q))) h := by
  refine metA_of (by decide) (Nat.le_of_ble_eq_true rfl) (fun X C K => ?_)
  have C : Cx X cn_6 prog_8_method_5_code 2 (some .boolean) 2 0 0 := C
  show G X h 0 0 0 [(0, .ref a0), (1, .int x1)] []
  unfold f_X6_isInside at hrun
  refine g_aload_n C (dat dt_X6_isInside 0 rfl) 0 rfl ?_
  refine g_iload_n C (dat dt_X6_isInside 1 rfl) 1 rfl ?_
  obtain ⟨v1, q2, hrun⟩ := bd hrun
  refine g_cVi [.int x1] C (dat dt_X6_isInside 2 rfl) ml_6_37 (w_X6_has a0 x1 h v1 Ha0 q2) Ha0.1 (rb0 Ha0) rfl rfl cat0 (by decide) c00 ?_
  refine g_if_eq 22 C (dat dt_X6_isInside 3 rfl) (by decide) (fun c3 => ?_) (fun c3 => ?_)
  · rw [if_neg (b2i_z c3)] at hrun
    refine g_iconst C (dat dt_X6_isInside 12 rfl) ic_0 ?_
    cases hrun
    exact g_zret C K (show (0 : Int32) = b2i false by decide) (dat dt_X6_isInside 13 rfl)
  · rw [if_pos (b2i_nz c3)] at hrun
    refine g_aload_n C (dat dt_X6_isInside 4 rfl) 0 rfl ?_
    refine g_getR C (dat dt_X6_isInside 5 rfl) fl_6_18 Ha0.1 rfl (rb0 Ha0) ?_
    refine g_iload_n C (dat dt_X6_isInside 6 rfl) 1 rfl ?_
    obtain ⟨j4, q5, hrun⟩ := bd hrun
    refine g_iald C (dat dt_X6_isInside 7 rfl) Ha0.2.2.2.1 (rb3 Ha0) q5 ?_
    refine g_iconst C (dat dt_X6_isInside 8 rfl) ic_m1 ?_
    refine g_ic_eq 22 C (dat dt_X6_isInside 9 rfl) (by decide) (fun c6 => ?_) (fun c6 => ?_)
    · rw [if_pos c6] at hrun
      refine g_iconst C (dat dt_X6_isInside 12 rfl) ic_0 ?_
      cases hrun
      exact g_zret C K (show (0 : Int32) = b2i false by decide) (dat dt_X6_isInside 13 rfl)
    · rw [if_neg c6] at hrun
      refine g_iconst C (dat dt_X6_isInside 10 rfl) ic_1 ?_
      refine g_goto 23 C (dat dt_X6_isInside 11 rfl) (by decide) ?_
      cases hrun
      exact g_zret C K (show (1 : Int32) = b2i true by decide) (dat dt_X6_isInside 13 rfl)
/-! SteamNations$Room.whoAt(I)I -/
def dl_X6_whoAt : List (Nat × Instr × Nat) := [(0, .iconst 0, 1), (1, .istore_n 2, 1), (2, .iload_n 2, 1), (3, .aload_n 0, 1), (4, .getfield 33, 3), (7, .if_icmp .ge 26, 3), (10, .aload_n 0, 1), (11, .getfield 18, 3), (14, .iload_n 2, 1), (15, .iaload, 1), (16, .iload_n 1, 1), (17, .if_icmp .ne 10, 3), (20, .iload_n 1, 1), (21, .iconst (-1), 1), (22, .if_icmp .eq 5, 3), (25, .iload_n 2, 1), (26, .ireturn, 1), (27, .iinc 2 1, 3), (30, .goto (-28), 3), (33, .iconst (-1), 1), (34, .ireturn, 1)]
set_option maxRecDepth 20000 in
theorem dt_X6_whoAt : ∀ q ∈ dl_X6_whoAt, decode prog_8_method_6_code q.1 = .ok q.2 := by decide +kernel
def kp_X6_whoAt_2 (a0 : Nat) (x1 : Int32) (h : Hp) (X : Xt) (s : Int32) : Prop := G X h 0 0 2 [(0, .ref a0), (1, .int x1), (2, .int s)] []
def ke_X6_whoAt_2 (a0 : Nat) (x1 : Int32) (h : Hp) (X : Xt) (e : (Unit ⊕ Int32)) : Prop := match e with
  | .inl e => G X h 0 0 33 [] []
  | .inr (e) => G X h 0 0 25 [(2, .int e)] []
def b_X6_whoAt_2 (a0 : Nat) (x1 : Int32) (x2 : Int32) (h : Hp) : Option (Int32 ⊕ (Unit ⊕ Int32)) :=
  if (fI h a0 0) ≤ x2 then
  some (.inr (.inl ()))
  else
  (inb x2 6).bind fun j2 =>
  if (aI h (a0 + 3) j2) = x1 then
  if x1 = (-1 : Int32) then
  some (.inl (x2 + (1 : Int32)))
  else
  some (.inr (.inr <| id x2))
  else
  some (.inl (x2 + (1 : Int32)))
set_option maxRecDepth 20000 in
theorem wb_X6_whoAt_2 {X : Xt} (C : Cx X cn_6 prog_8_method_6_code 3 (some .int) 1 0 0) (a0 : Nat) (Ha0 : IsRoom a0) (x1 : Int32) (x2 : Int32) (h : Hp) (q : Int32 ⊕ (Unit ⊕ Int32)) (hrun : b_X6_whoAt_2 a0 x1 x2 h = some q) (Ks : ∀ s, q = .inl s → kp_X6_whoAt_2 a0 x1 h X s) (Ke : ∀ e, q = .inr e → ke_X6_whoAt_2 a0 x1 h X e) : kp_X6_whoAt_2 a0 x1 h X x2 := by
  show G X h 0 0 2 [(0, .ref a0), (1, .int x1), (2, .int x2)] []
  unfold b_X6_whoAt_2 at hrun
  refine g_iload_n C (dat dt_X6_whoAt 2 rfl) 2 rfl ?_
  refine g_aload_n C (dat dt_X6_whoAt 3 rfl) 0 rfl ?_
  refine g_getI C (dat dt_X6_whoAt 4 rfl) fl_6_33 Ha0.1 rfl (rb0 Ha0) ?_
  refine g_ic_ge 33 C (dat dt_X6_whoAt 5 rfl) (by decide) (fun c1 => ?_) (fun c1 => ?_)
  · rw [if_pos c1] at hrun
    refine g_sub [] (lv' := []) rfl ?_
    cases hrun
    exact Ke (.inl ()) rfl
  · rw [if_neg c1] at hrun
    refine g_aload_n C (dat dt_X6_whoAt 6 rfl) 0 rfl ?_
    refine g_getR C (dat dt_X6_whoAt 7 rfl) fl_6_18 Ha0.1 rfl (rb0 Ha0) ?_
    refine g_iload_n C (dat dt_X6_whoAt 8 rfl) 2 rfl ?_
    obtain ⟨j2, q3, hrun⟩ := bd hrun
    refine g_iald C (dat dt_X6_whoAt 9 rfl) Ha0.2.2.2.1 (rb3 Ha0) q3 ?_
    refine g_iload_n C (dat dt_X6_whoAt 10 rfl) 1 rfl ?_
    refine g_ic_ne 27 C (dat dt_X6_whoAt 11 rfl) (by decide) (fun c4 => ?_) (fun c4 => ?_)
    · rw [if_neg c4] at hrun
      refine g_iinc (v := (x2 + (1 : Int32))) (lv' := [(0, .ref a0), (1, .int x1), (2, .int (x2 + (1 : Int32)))]) C (dat dt_X6_whoAt 17 rfl) 2 rfl (congrArg (fun z => x2 + z) ic_1) (by decide) rfl ?_
      refine g_goto 2 C (dat dt_X6_whoAt 18 rfl) (by decide) ?_
      cases hrun
      exact Ks (x2 + (1 : Int32)) rfl
    · rw [if_pos c4] at hrun
      refine g_iload_n C (dat dt_X6_whoAt 12 rfl) 1 rfl ?_
      refine g_iconst C (dat dt_X6_whoAt 13 rfl) ic_m1 ?_
      refine g_ic_eq 27 C (dat dt_X6_whoAt 14 rfl) (by decide) (fun c5 => ?_) (fun c5 => ?_)
      · rw [if_pos c5] at hrun
        refine g_iinc (v := (x2 + (1 : Int32))) (lv' := [(0, .ref a0), (1, .int x1), (2, .int (x2 + (1 : Int32)))]) C (dat dt_X6_whoAt 17 rfl) 2 rfl (congrArg (fun z => x2 + z) ic_1) (by decide) rfl ?_
        refine g_goto 2 C (dat dt_X6_whoAt 18 rfl) (by decide) ?_
        cases hrun
        exact Ks (x2 + (1 : Int32)) rfl
      · rw [if_neg c5] at hrun
        refine g_sub [2] (lv' := [(2, .int x2)]) rfl ?_
        cases hrun
        exact Ke (.inr <| id x2) rfl
def f_X6_whoAt (a0 : Nat) (x1 : Int32) (h : Hp) : Option Int32 :=
  (lp (fun s => b_X6_whoAt_2 a0 x1 s h) FU (0 : Int32)).bind fun e6 =>
  sc e6 (fun e8 =>
  some (-1 : Int32)) (fun e9 =>
  some e9)
set_option maxRecDepth 20000 in
theorem w_X6_whoAt (a0 : Nat) (x1 : Int32) (h : Hp) (q : Int32) (Ha0 : IsRoom a0) (hrun : f_X6_whoAt a0 x1 h = some q) : MetA ⟨"SteamNations$Room", "whoAt", "(I)I"⟩ prog_8_method_6_code 3 (some .int) 1 0 0 [.ref a0, .int x1] h (some (.int q)) h := by
  refine metA_of (by decide) (Nat.le_of_ble_eq_true rfl) (fun X C K => ?_)
  have C : Cx X cn_6 prog_8_method_6_code 3 (some .int) 1 0 0 := C
  show G X h 0 0 0 [(0, .ref a0), (1, .int x1)] []
  unfold f_X6_whoAt at hrun
  refine g_iconst C (dat dt_X6_whoAt 0 rfl) ic_0 ?_
  refine g_istore_n (lv' := [(0, .ref a0), (1, .int x1), (2, .int (0 : Int32))]) C (dat dt_X6_whoAt 1 rfl) (by decide) rfl ?_
  obtain ⟨e6, q7, hrun⟩ := bd hrun
  refine lp_ind (P := fun s => kp_X6_whoAt_2 a0 x1 h X s) (K := fun e => ke_X6_whoAt_2 a0 x1 h X e) (fun s q hb Ks Ke => wb_X6_whoAt_2 C a0 Ha0 x1 s h q hb Ks Ke) FU (0 : Int32) e6 q7 ?_
  rcases e6 with e8 | e9
  · rw [sc_l] at hrun
    show G X h 0 0 33 [] []
    refine g_iconst C (dat dt_X6_whoAt 19 rfl) ic_m1 ?_
    cases hrun
    exact g_iret C K (dat dt_X6_whoAt 20 rfl)
  · rw [sc_r] at hrun
    show G X h 0 0 25 [(2, .int e9)] []
    refine g_iload_n C (dat dt_X6_whoAt 15 rfl) 0 rfl ?_
    cases hrun
    exact g_iret C K (dat dt_X6_whoAt 16 rfl)
/-! SteamNations$Room.copyFrom(LSteamNations$Room;)V -/
def dl_X6_copyFrom : List (Nat × Instr × Nat) := [(0, .aload_n 0, 1), (1, .aload_n 1, 1), (2, .getfield 33, 3), (5, .putfield 33, 3), (8, .aload_n 1, 1), (9, .getfield 9, 3), (12, .iconst 0, 1), (13, .aload_n 0, 1), (14, .getfield 9, 3), (17, .iconst 0, 1), (18, .aload_n 0, 1), (19, .getfield 9, 3), (22, .arraylength, 1), (23, .invokestatic 27, 3), (26, .aload_n 1, 1), (27, .getfield 15, 3), (30, .iconst 0, 1), (31, .aload_n 0, 1), (32, .getfield 15, 3), (35, .iconst 0, 1), (36, .aload_n 0, 1), (37, .getfield 15, 3), (40, .arraylength, 1), (41, .invokestatic 27, 3), (44, .aload_n 1, 1), (45, .getfield 18, 3), (48, .iconst 0, 1), (49, .aload_n 0, 1), (50, .getfield 18, 3), (53, .iconst 0, 1), (54, .aload_n 0, 1), (55, .getfield 18, 3), (58, .arraylength, 1), (59, .invokestatic 27, 3), (62, .aload_n 1, 1), (63, .getfield 24, 3), (66, .iconst 0, 1), (67, .aload_n 0, 1), (68, .getfield 24, 3), (71, .iconst 0, 1), (72, .aload_n 0, 1), (73, .getfield 24, 3), (76, .arraylength, 1), (77, .invokestatic 27, 3), (80, .return_, 1)]
set_option maxRecDepth 20000 in
theorem dt_X6_copyFrom : ∀ q ∈ dl_X6_copyFrom, decode prog_8_method_2_code q.1 = .ok q.2 := by decide +kernel
def f_X6_copyFrom (a0 : Nat) (a1 : Nat) (h : Hp) : Option (Unit × Hp) :=
  (icp (0 : Int32) (0 : Int32) (18 : Int32) 18 18).bind fun q1 =>
  (icp (0 : Int32) (0 : Int32) (6 : Int32) 6 6).bind fun q3 =>
  (icp (0 : Int32) (0 : Int32) (6 : Int32) 6 6).bind fun q5 =>
  (icp (0 : Int32) (0 : Int32) (3 : Int32) 3 3).bind fun q7 =>
  some ((), (cpA (cpA (cpA (cpA (sF h a0 0 (fI h a1 0)) (a1 + 1) q1.1 (a0 + 1) q1.2.1 q1.2.2) (a1 + 2) q3.1 (a0 + 2) q3.2.1 q3.2.2) (a1 + 3) q5.1 (a0 + 3) q5.2.1 q5.2.2) (a1 + 4) q7.1 (a0 + 4) q7.2.1 q7.2.2))
set_option maxRecDepth 20000 in
theorem w_X6_copyFrom (a0 : Nat) (a1 : Nat) (h : Hp) (q : (Unit × Hp)) (Ha0 : IsRoom a0) (Ha1 : IsRoom a1) (hrun : f_X6_copyFrom a0 a1 h = some q) : MetA ⟨"SteamNations$Room", "copyFrom", "(LSteamNations$Room;)V"⟩ prog_8_method_2_code 2 none 1 0 0 [.ref a0, .ref a1] h none q.2 := by
  refine metA_of (by decide) (Nat.le_of_ble_eq_true rfl) (fun X C K => ?_)
  have C : Cx X cn_6 prog_8_method_2_code 2 none 1 0 0 := C
  show G X h 0 0 0 [(0, .ref a0), (1, .ref a1)] []
  unfold f_X6_copyFrom at hrun
  refine g_aload_n C (dat dt_X6_copyFrom 0 rfl) 0 rfl ?_
  refine g_aload_n C (dat dt_X6_copyFrom 1 rfl) 1 rfl ?_
  refine g_getI C (dat dt_X6_copyFrom 2 rfl) fl_6_33 Ha1.1 rfl (rb0 Ha1) ?_
  refine g_putI C (dat dt_X6_copyFrom 3 rfl) fl_6_33 rfl rfl Ha0.1 rfl (rb0 Ha0) ?_
  refine g_aload_n C (dat dt_X6_copyFrom 4 rfl) 1 rfl ?_
  refine g_getR C (dat dt_X6_copyFrom 5 rfl) fl_6_9 Ha1.1 rfl (rb0 Ha1) ?_
  refine g_iconst C (dat dt_X6_copyFrom 6 rfl) ic_0 ?_
  refine g_aload_n C (dat dt_X6_copyFrom 7 rfl) 0 rfl ?_
  refine g_getR C (dat dt_X6_copyFrom 8 rfl) fl_6_9 Ha0.1 rfl (rb0 Ha0) ?_
  refine g_iconst C (dat dt_X6_copyFrom 9 rfl) ic_0 ?_
  refine g_aload_n C (dat dt_X6_copyFrom 10 rfl) 0 rfl ?_
  refine g_getR C (dat dt_X6_copyFrom 11 rfl) fl_6_9 Ha0.1 rfl (rb0 Ha0) ?_
  refine g_alen (v := (18 : Int32)) C (dat dt_X6_copyFrom 12 rfl) Ha0.2.1 (by decide) (rb1 Ha0) rfl ?_
  obtain ⟨q1, q2, hrun⟩ := bd hrun
  refine g_acopy C (dat dt_X6_copyFrom 13 rfl) al_6_27 Ha1.2.1 Ha0.2.1 (rb1 Ha1) (rb1 Ha0) q2 rfl (by decide) ?_
  refine g_aload_n C (dat dt_X6_copyFrom 14 rfl) 1 rfl ?_
  refine g_getR C (dat dt_X6_copyFrom 15 rfl) fl_6_15 Ha1.1 rfl (rb0 Ha1) ?_
  refine g_iconst C (dat dt_X6_copyFrom 16 rfl) ic_0 ?_
  refine g_aload_n C (dat dt_X6_copyFrom 17 rfl) 0 rfl ?_
  refine g_getR C (dat dt_X6_copyFrom 18 rfl) fl_6_15 Ha0.1 rfl (rb0 Ha0) ?_
  refine g_iconst C (dat dt_X6_copyFrom 19 rfl) ic_0 ?_
  refine g_aload_n C (dat dt_X6_copyFrom 20 rfl) 0 rfl ?_
  refine g_getR C (dat dt_X6_copyFrom 21 rfl) fl_6_15 Ha0.1 rfl (rb0 Ha0) ?_
  refine g_alen (v := (6 : Int32)) C (dat dt_X6_copyFrom 22 rfl) Ha0.2.2.1 (by decide) (rb2 Ha0) rfl ?_
  obtain ⟨q3, q4, hrun⟩ := bd hrun
  refine g_acopy C (dat dt_X6_copyFrom 23 rfl) al_6_27 Ha1.2.2.1 Ha0.2.2.1 (rb2 Ha1) (rb2 Ha0) q4 rfl (by decide) ?_
  refine g_aload_n C (dat dt_X6_copyFrom 24 rfl) 1 rfl ?_
  refine g_getR C (dat dt_X6_copyFrom 25 rfl) fl_6_18 Ha1.1 rfl (rb0 Ha1) ?_
  refine g_iconst C (dat dt_X6_copyFrom 26 rfl) ic_0 ?_
  refine g_aload_n C (dat dt_X6_copyFrom 27 rfl) 0 rfl ?_
  refine g_getR C (dat dt_X6_copyFrom 28 rfl) fl_6_18 Ha0.1 rfl (rb0 Ha0) ?_
  refine g_iconst C (dat dt_X6_copyFrom 29 rfl) ic_0 ?_
  refine g_aload_n C (dat dt_X6_copyFrom 30 rfl) 0 rfl ?_
  refine g_getR C (dat dt_X6_copyFrom 31 rfl) fl_6_18 Ha0.1 rfl (rb0 Ha0) ?_
  refine g_alen (v := (6 : Int32)) C (dat dt_X6_copyFrom 32 rfl) Ha0.2.2.2.1 (by decide) (rb3 Ha0) rfl ?_
  obtain ⟨q5, q6, hrun⟩ := bd hrun
  refine g_acopy C (dat dt_X6_copyFrom 33 rfl) al_6_27 Ha1.2.2.2.1 Ha0.2.2.2.1 (rb3 Ha1) (rb3 Ha0) q6 rfl (by decide) ?_
  refine g_aload_n C (dat dt_X6_copyFrom 34 rfl) 1 rfl ?_
  refine g_getR C (dat dt_X6_copyFrom 35 rfl) fl_6_24 Ha1.1 rfl (rb0 Ha1) ?_
  refine g_iconst C (dat dt_X6_copyFrom 36 rfl) ic_0 ?_
  refine g_aload_n C (dat dt_X6_copyFrom 37 rfl) 0 rfl ?_
  refine g_getR C (dat dt_X6_copyFrom 38 rfl) fl_6_24 Ha0.1 rfl (rb0 Ha0) ?_
  refine g_iconst C (dat dt_X6_copyFrom 39 rfl) ic_0 ?_
  refine g_aload_n C (dat dt_X6_copyFrom 40 rfl) 0 rfl ?_
  refine g_getR C (dat dt_X6_copyFrom 41 rfl) fl_6_24 Ha0.1 rfl (rb0 Ha0) ?_
  refine g_alen (v := (3 : Int32)) C (dat dt_X6_copyFrom 42 rfl) Ha0.2.2.2.2.1 (by decide) (rb4 Ha0) rfl ?_
  obtain ⟨q7, q8, hrun⟩ := bd hrun
  refine g_acopy C (dat dt_X6_copyFrom 43 rfl) al_6_27 Ha1.2.2.2.2.1 Ha0.2.2.2.2.1 (rb4 Ha1) (rb4 Ha0) q8 rfl (by decide) ?_
  cases hrun
  exact g_vret C K (dat dt_X6_copyFrom 44 rfl)
/-! SteamNations.oneIf(Z)I -/
def dl_X10_oneIf : List (Nat × Instr × Nat) := [(0, .iload_n 0, 1), (1, .ifCond .eq 7, 3), (4, .iconst 1, 1), (5, .goto 4, 3), (8, .iconst 0, 1), (9, .ireturn, 1)]
set_option maxRecDepth 20000 in
theorem dt_X10_oneIf : ∀ q ∈ dl_X10_oneIf, decode prog_1_method_54_code q.1 = .ok q.2 := by decide +kernel
def f_X10_oneIf (x0 : Int32) : Option Int32 :=
  if x0 = 0 then
  some (0 : Int32)
  else
  some (1 : Int32)
set_option maxRecDepth 20000 in
theorem w_X10_oneIf (x0 : Int32) (h : Hp) (q : Int32)  (hrun : f_X10_oneIf x0 = some q) : MetA ⟨"SteamNations", "oneIf", "(Z)I"⟩ prog_1_method_54_code 1 (some .int) 1 0 0 [.int x0] h (some (.int q)) h := by
  refine metA_of (by decide) (Nat.le_of_ble_eq_true rfl) (fun X C K => ?_)
  have C : Cx X cn_10 prog_1_method_54_code 1 (some .int) 1 0 0 := C
  show G X h 0 0 0 [(0, .int x0)] []
  unfold f_X10_oneIf at hrun
  refine g_iload_n C (dat dt_X10_oneIf 0 rfl) 0 rfl ?_
  refine g_if_eq 8 C (dat dt_X10_oneIf 1 rfl) (by decide) (fun c1 => ?_) (fun c1 => ?_)
  · rw [if_pos c1] at hrun
    refine g_iconst C (dat dt_X10_oneIf 4 rfl) ic_0 ?_
    cases hrun
    exact g_iret C K (dat dt_X10_oneIf 5 rfl)
  · rw [if_neg c1] at hrun
    refine g_iconst C (dat dt_X10_oneIf 2 rfl) ic_1 ?_
    refine g_goto 9 C (dat dt_X10_oneIf 3 rfl) (by decide) ?_
    cases hrun
    exact g_iret C K (dat dt_X10_oneIf 5 rfl)
/-! SteamNations$Room.countInside()I -/
def dl_X6_countInside : List (Nat × Instr × Nat) := [(0, .iconst 0, 1), (1, .istore_n 1, 1), (2, .iconst 0, 1), (3, .istore_n 2, 1), (4, .iload_n 2, 1), (5, .aload_n 0, 1), (6, .getfield 33, 3), (9, .if_icmp .ge 30, 3), (12, .iload_n 1, 1), (13, .aload_n 0, 1), (14, .getfield 18, 3), (17, .iload_n 2, 1), (18, .iaload, 1), (19, .iconst (-1), 1), (20, .if_icmp .eq 7, 3), (23, .iconst 1, 1), (24, .goto 4, 3), (27, .iconst 0, 1), (28, .invokestatic 41, 3), (31, .iadd, 1), (32, .istore_n 1, 1), (33, .iinc 2 1, 3), (36, .goto (-32), 3), (39, .iload_n 1, 1), (40, .ireturn, 1)]
set_option maxRecDepth 20000 in
theorem dt_X6_countInside : ∀ q ∈ dl_X6_countInside, decode prog_8_method_7_code q.1 = .ok q.2 := by decide +kernel
def kp_X6_countInside_4 (a0 : Nat)  (h : Hp) (X : Xt) (s : (Int32 × Int32)) : Prop := G X h 0 0 4 [(0, .ref a0), (1, .int s.1), (2, .int s.2)] []
def ke_X6_countInside_4 (a0 : Nat)  (h : Hp) (X : Xt) (e : Int32) : Prop := G X h 0 0 39 [(1, .int e)] []
def j_X6_countInside_28_4 (a0 : Nat) (x2 : Int32) (s0 : Int32) (s1 : Int32) (h : Hp) : Option ((Int32 × Int32) ⊕ Int32) :=
  (f_X10_oneIf s1).bind fun v5 =>
  some (.inl ((s0 + v5), (x2 + (1 : Int32))))
set_option maxRecDepth 20000 in
theorem wj_X6_countInside_28_4 {X : Xt} (C : Cx X cn_6 prog_8_method_7_code 3 (some .int) 2 0 0) (a0 : Nat) (Ha0 : IsRoom a0)  (x2 : Int32) (s0 : Int32) (s1 : Int32) (h : Hp) (q : (Int32 × Int32) ⊕ Int32) (hrun : j_X6_countInside_28_4 a0 x2 s0 s1 h = some q) (Ks : ∀ s, q = .inl s → kp_X6_countInside_4 a0  h X s) (Ke : ∀ e, q = .inr e → ke_X6_countInside_4 a0  h X e) : G X h 0 0 28 [(0, .ref a0), (2, .int x2)] [.int s1, .int s0] := by
  unfold j_X6_countInside_28_4 at hrun
  obtain ⟨v5, q6, hrun⟩ := bd hrun
  refine g_cNi [.int s1] C (dat dt_X6_countInside 18 rfl) ml_6_41 (w_X10_oneIf s1 h v5  q6) rfl rfl (Nat.le_of_ble_eq_true rfl) (by decide) c00 ?_
  refine g_iadd C (dat dt_X6_countInside 19 rfl) ?_
  refine g_istore_n (lv' := [(0, .ref a0), (1, .int (s0 + v5)), (2, .int x2)]) C (dat dt_X6_countInside 20 rfl) (by decide) rfl ?_
  refine g_iinc (v := (x2 + (1 : Int32))) (lv' := [(0, .ref a0), (1, .int (s0 + v5)), (2, .int (x2 + (1 : Int32)))]) C (dat dt_X6_countInside 21 rfl) 2 rfl (congrArg (fun z => x2 + z) ic_1) (by decide) rfl ?_
  refine g_goto 4 C (dat dt_X6_countInside 22 rfl) (by decide) ?_
  cases hrun
  exact Ks ((s0 + v5), (x2 + (1 : Int32))) rfl
def b_X6_countInside_4 (a0 : Nat)  (x1 : Int32) (x2 : Int32) (h : Hp) : Option ((Int32 × Int32) ⊕ Int32) :=
  if (fI h a0 0) ≤ x2 then
  some (.inr ( x1))
  else
  (inb x2 6).bind fun j2 =>
  if (aI h (a0 + 3) j2) = (-1 : Int32) then
  j_X6_countInside_28_4 a0 x2 x1 (0 : Int32) h
  else
  j_X6_countInside_28_4 a0 x2 x1 (1 : Int32) h
set_option maxRecDepth 20000 in
theorem wb_X6_countInside_4 {X : Xt} (C : Cx X cn_6 prog_8_method_7_code 3 (some .int) 2 0 0) (a0 : Nat) (Ha0 : IsRoom a0)  (x1 : Int32) (x2 : Int32) (h : Hp) (q : (Int32 × Int32) ⊕ Int32) (hrun : b_X6_countInside_4 a0  x1 x2 h = some q) (Ks : ∀ s, q = .inl s → kp_X6_countInside_4 a0  h X s) (Ke : ∀ e, q = .inr e → ke_X6_countInside_4 a0  h X e) : kp_X6_countInside_4 a0  h X (x1, x2) := by
  show G X h 0 0 4 [(0, .ref a0), (1, .int x1), (2, .int x2)] []
  unfold b_X6_countInside_4 at hrun
  refine g_iload_n C (dat dt_X6_countInside 4 rfl) 2 rfl ?_
  refine g_aload_n C (dat dt_X6_countInside 5 rfl) 0 rfl ?_
  refine g_getI C (dat dt_X6_countInside 6 rfl) fl_6_33 Ha0.1 rfl (rb0 Ha0) ?_
  refine g_ic_ge 39 C (dat dt_X6_countInside 7 rfl) (by decide) (fun c1 => ?_) (fun c1 => ?_)
  · rw [if_pos c1] at hrun
    refine g_sub [1] (lv' := [(1, .int x1)]) rfl ?_
    cases hrun
    exact Ke ( x1) rfl
  · rw [if_neg c1] at hrun
    refine g_iload_n C (dat dt_X6_countInside 8 rfl) 1 rfl ?_
    refine g_aload_n C (dat dt_X6_countInside 9 rfl) 0 rfl ?_
    refine g_getR C (dat dt_X6_countInside 10 rfl) fl_6_18 Ha0.1 rfl (rb0 Ha0) ?_
    refine g_iload_n C (dat dt_X6_countInside 11 rfl) 2 rfl ?_
    obtain ⟨j2, q3, hrun⟩ := bd hrun
    refine g_iald C (dat dt_X6_countInside 12 rfl) Ha0.2.2.2.1 (rb3 Ha0) q3 ?_
    refine g_iconst C (dat dt_X6_countInside 13 rfl) ic_m1 ?_
    refine g_ic_eq 27 C (dat dt_X6_countInside 14 rfl) (by decide) (fun c4 => ?_) (fun c4 => ?_)
    · rw [if_pos c4] at hrun
      refine g_iconst C (dat dt_X6_countInside 17 rfl) ic_0 ?_
      refine g_sub [0, 2] (lv' := [(0, .ref a0), (2, .int x2)]) rfl ?_
      exact wj_X6_countInside_28_4 C a0 Ha0  x2 x1 (0 : Int32) h _ hrun Ks Ke
    · rw [if_neg c4] at hrun
      refine g_iconst C (dat dt_X6_countInside 15 rfl) ic_1 ?_
      refine g_goto 28 C (dat dt_X6_countInside 16 rfl) (by decide) ?_
      refine g_sub [0, 2] (lv' := [(0, .ref a0), (2, .int x2)]) rfl ?_
      exact wj_X6_countInside_28_4 C a0 Ha0  x2 x1 (1 : Int32) h _ hrun Ks Ke
def f_X6_countInside (a0 : Nat) (h : Hp) : Option Int32 :=
  (lp (fun s => b_X6_countInside_4 a0  s.1 s.2 h) FU ((0 : Int32), (0 : Int32))).bind fun e7 =>
  some e7
set_option maxRecDepth 20000 in
theorem w_X6_countInside (a0 : Nat) (h : Hp) (q : Int32) (Ha0 : IsRoom a0) (hrun : f_X6_countInside a0 h = some q) : MetA ⟨"SteamNations$Room", "countInside", "()I"⟩ prog_8_method_7_code 3 (some .int) 2 0 0 [.ref a0] h (some (.int q)) h := by
  refine metA_of (by decide) (Nat.le_of_ble_eq_true rfl) (fun X C K => ?_)
  have C : Cx X cn_6 prog_8_method_7_code 3 (some .int) 2 0 0 := C
  show G X h 0 0 0 [(0, .ref a0)] []
  unfold f_X6_countInside at hrun
  refine g_iconst C (dat dt_X6_countInside 0 rfl) ic_0 ?_
  refine g_istore_n (lv' := [(0, .ref a0), (1, .int (0 : Int32))]) C (dat dt_X6_countInside 1 rfl) (by decide) rfl ?_
  refine g_iconst C (dat dt_X6_countInside 2 rfl) ic_0 ?_
  refine g_istore_n (lv' := [(0, .ref a0), (1, .int (0 : Int32)), (2, .int (0 : Int32))]) C (dat dt_X6_countInside 3 rfl) (by decide) rfl ?_
  obtain ⟨e7, q8, hrun⟩ := bd hrun
  refine lp_ind (P := fun s => kp_X6_countInside_4 a0  h X s) (K := fun e => ke_X6_countInside_4 a0  h X e) (fun s q hb Ks Ke => wb_X6_countInside_4 C a0 Ha0  s.1 s.2 h q hb Ks Ke) FU ((0 : Int32), (0 : Int32)) e7 q8 ?_
  show G X h 0 0 39 [(1, .int e7)] []
  refine g_iload_n C (dat dt_X6_countInside 23 rfl) 0 rfl ?_
  cases hrun
  exact g_iret C K (dat dt_X6_countInside 24 rfl)
/-! SteamNations$Room.contented()I -/
def dl_X6_contented : List (Nat × Instr × Nat) := [(0, .iconst 0, 1), (1, .istore_n 1, 1), (2, .iconst 0, 1), (3, .istore_n 2, 1), (4, .iload_n 2, 1), (5, .aload_n 0, 1), (6, .getfield 33, 3), (9, .if_icmp .ge 34, 3), (12, .iload_n 1, 1), (13, .aload_n 0, 1), (14, .iload_n 2, 1), (15, .invokevirtual 45, 3), (18, .aload_n 0, 1), (19, .getfield 15, 3), (22, .iload_n 2, 1), (23, .iaload, 1), (24, .if_icmp .ne 7, 3), (27, .iconst 1, 1), (28, .goto 4, 3), (31, .iconst 0, 1), (32, .invokestatic 41, 3), (35, .iadd, 1), (36, .istore_n 1, 1), (37, .iinc 2 1, 3), (40, .goto (-36), 3), (43, .iload_n 1, 1), (44, .ireturn, 1)]
set_option maxRecDepth 20000 in
theorem dt_X6_contented : ∀ q ∈ dl_X6_contented, decode prog_8_method_10_code q.1 = .ok q.2 := by decide +kernel
def kp_X6_contented_4 (a0 : Nat)  (h : Hp) (X : Xt) (s : (Int32 × Int32)) : Prop := G X h 0 0 4 [(0, .ref a0), (1, .int s.1), (2, .int s.2)] []
def ke_X6_contented_4 (a0 : Nat)  (h : Hp) (X : Xt) (e : Int32) : Prop := G X h 0 0 43 [(1, .int e)] []
def j_X6_contented_32_4 (a0 : Nat) (x2 : Int32) (s0 : Int32) (s1 : Int32) (h : Hp) : Option ((Int32 × Int32) ⊕ Int32) :=
  (f_X10_oneIf s1).bind fun v7 =>
  some (.inl ((s0 + v7), (x2 + (1 : Int32))))
set_option maxRecDepth 20000 in
theorem wj_X6_contented_32_4 {X : Xt} (C : Cx X cn_6 prog_8_method_10_code 3 (some .int) 2 0 0) (a0 : Nat) (Ha0 : IsRoom a0)  (x2 : Int32) (s0 : Int32) (s1 : Int32) (h : Hp) (q : (Int32 × Int32) ⊕ Int32) (hrun : j_X6_contented_32_4 a0 x2 s0 s1 h = some q) (Ks : ∀ s, q = .inl s → kp_X6_contented_4 a0  h X s) (Ke : ∀ e, q = .inr e → ke_X6_contented_4 a0  h X e) : G X h 0 0 32 [(0, .ref a0), (2, .int x2)] [.int s1, .int s0] := by
  unfold j_X6_contented_32_4 at hrun
  obtain ⟨v7, q8, hrun⟩ := bd hrun
  refine g_cNi [.int s1] C (dat dt_X6_contented 20 rfl) ml_6_41 (w_X10_oneIf s1 h v7  q8) rfl rfl (Nat.le_of_ble_eq_true rfl) (by decide) c00 ?_
  refine g_iadd C (dat dt_X6_contented 21 rfl) ?_
  refine g_istore_n (lv' := [(0, .ref a0), (1, .int (s0 + v7)), (2, .int x2)]) C (dat dt_X6_contented 22 rfl) (by decide) rfl ?_
  refine g_iinc (v := (x2 + (1 : Int32))) (lv' := [(0, .ref a0), (1, .int (s0 + v7)), (2, .int (x2 + (1 : Int32)))]) C (dat dt_X6_contented 23 rfl) 2 rfl (congrArg (fun z => x2 + z) ic_1) (by decide) rfl ?_
  refine g_goto 4 C (dat dt_X6_contented 24 rfl) (by decide) ?_
  cases hrun
  exact Ks ((s0 + v7), (x2 + (1 : Int32))) rfl
def b_X6_contented_4 (a0 : Nat)  (x1 : Int32) (x2 : Int32) (h : Hp) : Option ((Int32 × Int32) ⊕ Int32) :=
  if (fI h a0 0) ≤ x2 then
  some (.inr ( x1))
  else
  (f_X6_nationOf a0 x2 h).bind fun v2 =>
  (inb x2 6).bind fun j4 =>
  if v2 = (aI h (a0 + 2) j4) then
  j_X6_contented_32_4 a0 x2 x1 (1 : Int32) h
  else
  j_X6_contented_32_4 a0 x2 x1 (0 : Int32) h
set_option maxRecDepth 20000 in
theorem wb_X6_contented_4 {X : Xt} (C : Cx X cn_6 prog_8_method_10_code 3 (some .int) 2 0 0) (a0 : Nat) (Ha0 : IsRoom a0)  (x1 : Int32) (x2 : Int32) (h : Hp) (q : (Int32 × Int32) ⊕ Int32) (hrun : b_X6_contented_4 a0  x1 x2 h = some q) (Ks : ∀ s, q = .inl s → kp_X6_contented_4 a0  h X s) (Ke : ∀ e, q = .inr e → ke_X6_contented_4 a0  h X e) : kp_X6_contented_4 a0  h X (x1, x2) := by
  show G X h 0 0 4 [(0, .ref a0), (1, .int x1), (2, .int x2)] []
  unfold b_X6_contented_4 at hrun
  refine g_iload_n C (dat dt_X6_contented 4 rfl) 2 rfl ?_
  refine g_aload_n C (dat dt_X6_contented 5 rfl) 0 rfl ?_
  refine g_getI C (dat dt_X6_contented 6 rfl) fl_6_33 Ha0.1 rfl (rb0 Ha0) ?_
  refine g_ic_ge 43 C (dat dt_X6_contented 7 rfl) (by decide) (fun c1 => ?_) (fun c1 => ?_)
  · rw [if_pos c1] at hrun
    refine g_sub [1] (lv' := [(1, .int x1)]) rfl ?_
    cases hrun
    exact Ke ( x1) rfl
  · rw [if_neg c1] at hrun
    refine g_iload_n C (dat dt_X6_contented 8 rfl) 1 rfl ?_
    refine g_aload_n C (dat dt_X6_contented 9 rfl) 0 rfl ?_
    refine g_iload_n C (dat dt_X6_contented 10 rfl) 2 rfl ?_
    obtain ⟨v2, q3, hrun⟩ := bd hrun
    refine g_cVi [.int x2] C (dat dt_X6_contented 11 rfl) ml_6_45 (w_X6_nationOf a0 x2 h v2 Ha0 q3) Ha0.1 (rb0 Ha0) rfl rfl (Nat.le_of_ble_eq_true rfl) (by decide) c00 ?_
    refine g_aload_n C (dat dt_X6_contented 12 rfl) 0 rfl ?_
    refine g_getR C (dat dt_X6_contented 13 rfl) fl_6_15 Ha0.1 rfl (rb0 Ha0) ?_
    refine g_iload_n C (dat dt_X6_contented 14 rfl) 2 rfl ?_
    obtain ⟨j4, q5, hrun⟩ := bd hrun
    refine g_iald C (dat dt_X6_contented 15 rfl) Ha0.2.2.1 (rb2 Ha0) q5 ?_
    refine g_ic_ne 31 C (dat dt_X6_contented 16 rfl) (by decide) (fun c6 => ?_) (fun c6 => ?_)
    · rw [if_neg c6] at hrun
      refine g_iconst C (dat dt_X6_contented 19 rfl) ic_0 ?_
      refine g_sub [0, 2] (lv' := [(0, .ref a0), (2, .int x2)]) rfl ?_
      exact wj_X6_contented_32_4 C a0 Ha0  x2 x1 (0 : Int32) h _ hrun Ks Ke
    · rw [if_pos c6] at hrun
      refine g_iconst C (dat dt_X6_contented 17 rfl) ic_1 ?_
      refine g_goto 32 C (dat dt_X6_contented 18 rfl) (by decide) ?_
      refine g_sub [0, 2] (lv' := [(0, .ref a0), (2, .int x2)]) rfl ?_
      exact wj_X6_contented_32_4 C a0 Ha0  x2 x1 (1 : Int32) h _ hrun Ks Ke
def f_X6_contented (a0 : Nat) (h : Hp) : Option Int32 :=
  (lp (fun s => b_X6_contented_4 a0  s.1 s.2 h) FU ((0 : Int32), (0 : Int32))).bind fun e9 =>
  some e9
set_option maxRecDepth 20000 in
theorem w_X6_contented (a0 : Nat) (h : Hp) (q : Int32) (Ha0 : IsRoom a0) (hrun : f_X6_contented a0 h = some q) : MetA ⟨"SteamNations$Room", "contented", "()I"⟩ prog_8_method_10_code 3 (some .int) 2 0 0 [.ref a0] h (some (.int q)) h := by
  refine metA_of (by decide) (Nat.le_of_ble_eq_true rfl) (fun X C K => ?_)
  have C : Cx X cn_6 prog_8_method_10_code 3 (some .int) 2 0 0 := C
  show G X h 0 0 0 [(0, .ref a0)] []
  unfold f_X6_contented at hrun
  refine g_iconst C (dat dt_X6_contented 0 rfl) ic_0 ?_
  refine g_istore_n (lv' := [(0, .ref a0), (1, .int (0 : Int32))]) C (dat dt_X6_contented 1 rfl) (by decide) rfl ?_
  refine g_iconst C (dat dt_X6_contented 2 rfl) ic_0 ?_
  refine g_istore_n (lv' := [(0, .ref a0), (1, .int (0 : Int32)), (2, .int (0 : Int32))]) C (dat dt_X6_contented 3 rfl) (by decide) rfl ?_
  obtain ⟨e9, q10, hrun⟩ := bd hrun
  refine lp_ind (P := fun s => kp_X6_contented_4 a0  h X s) (K := fun e => ke_X6_contented_4 a0  h X e) (fun s q hb Ks Ke => wb_X6_contented_4 C a0 Ha0  s.1 s.2 h q hb Ks Ke) FU ((0 : Int32), (0 : Int32)) e9 q10 ?_
  show G X h 0 0 43 [(1, .int e9)] []
  refine g_iload_n C (dat dt_X6_contented 25 rfl) 0 rfl ?_
  cases hrun
  exact g_iret C K (dat dt_X6_contented 26 rfl)
/-! SteamNations$Room.muchOf(I)I -/
def dl_X6_muchOf : List (Nat × Instr × Nat) := [(0, .aload_n 0, 1), (1, .iload_n 1, 1), (2, .invokevirtual 37, 3), (5, .ifCond .eq 20, 3), (8, .aload_n 0, 1), (9, .getfield 9, 3), (12, .iload_n 1, 1), (13, .iconst 3, 1), (14, .imul, 1), (15, .aload_n 0, 1), (16, .iload_n 1, 1), (17, .invokevirtual 45, 3), (20, .iadd, 1), (21, .iaload, 1), (22, .goto 4, 3), (25, .iconst (-1), 1), (26, .ireturn, 1)]
set_option maxRecDepth 20000 in
theorem dt_X6_muchOf : ∀ q ∈ dl_X6_muchOf, decode prog_8_method_9_code q.1 = .ok q.2 := by decide +kernel
def f_X6_muchOf (a0 : Nat) (x1 : Int32) (h : Hp) : Option Int32 :=
  (f_X6_has a0 x1 h).bind fun v1 =>
  if v1 = true then
  (f_X6_nationOf a0 x1 h).bind fun v4 =>
  (inb ((x1 * (3 : Int32)) + v4) 18).bind fun j6 =>
  some (aI h (a0 + 1) j6)
  else
  some (-1 : Int32)
set_option maxRecDepth 20000 in
theorem w_X6_muchOf (a0 : Nat) (x1 : Int32) (h : Hp) (q : Int32) (Ha0 : IsRoom a0) (hrun : f_X6_muchOf a0 x1 h = some q) : MetA ⟨"SteamNations$Room", "muchOf", "(I)I"⟩ prog_8_method_9_code 2 (some .int) 2 0 0 [.ref a0, .int x1] h (some (.int q)) h := by
  refine metA_of (by decide) (Nat.le_of_ble_eq_true rfl) (fun X C K => ?_)
  have C : Cx X cn_6 prog_8_method_9_code 2 (some .int) 2 0 0 := C
  show G X h 0 0 0 [(0, .ref a0), (1, .int x1)] []
  unfold f_X6_muchOf at hrun
  refine g_aload_n C (dat dt_X6_muchOf 0 rfl) 0 rfl ?_
  refine g_iload_n C (dat dt_X6_muchOf 1 rfl) 1 rfl ?_
  obtain ⟨v1, q2, hrun⟩ := bd hrun
  refine g_cVi [.int x1] C (dat dt_X6_muchOf 2 rfl) ml_6_37 (w_X6_has a0 x1 h v1 Ha0 q2) Ha0.1 (rb0 Ha0) rfl rfl cat0 (by decide) c00 ?_
  refine g_if_eq 25 C (dat dt_X6_muchOf 3 rfl) (by decide) (fun c3 => ?_) (fun c3 => ?_)
  · rw [if_neg (b2i_z c3)] at hrun
    refine g_iconst C (dat dt_X6_muchOf 15 rfl) ic_m1 ?_
    cases hrun
    exact g_iret C K (dat dt_X6_muchOf 16 rfl)
  · rw [if_pos (b2i_nz c3)] at hrun
    refine g_aload_n C (dat dt_X6_muchOf 4 rfl) 0 rfl ?_
    refine g_getR C (dat dt_X6_muchOf 5 rfl) fl_6_9 Ha0.1 rfl (rb0 Ha0) ?_
    refine g_iload_n C (dat dt_X6_muchOf 6 rfl) 1 rfl ?_
    refine g_iconst C (dat dt_X6_muchOf 7 rfl) ic_3 ?_
    refine g_imul C (dat dt_X6_muchOf 8 rfl) ?_
    refine g_aload_n C (dat dt_X6_muchOf 9 rfl) 0 rfl ?_
    refine g_iload_n C (dat dt_X6_muchOf 10 rfl) 1 rfl ?_
    obtain ⟨v4, q5, hrun⟩ := bd hrun
    refine g_cVi [.int x1] C (dat dt_X6_muchOf 11 rfl) ml_6_45 (w_X6_nationOf a0 x1 h v4 Ha0 q5) Ha0.1 (rb0 Ha0) rfl rfl (Nat.le_of_ble_eq_true rfl) (by decide) c00 ?_
    refine g_iadd C (dat dt_X6_muchOf 12 rfl) ?_
    obtain ⟨j6, q7, hrun⟩ := bd hrun
    refine g_iald C (dat dt_X6_muchOf 13 rfl) Ha0.2.1 (rb1 Ha0) q7 ?_
    refine g_goto 26 C (dat dt_X6_muchOf 14 rfl) (by decide) ?_
    cases hrun
    exact g_iret C K (dat dt_X6_muchOf 16 rfl)
/-! SteamNations$Room.insideAreOne()Z -/
def dl_X6_insideAreOne : List (Nat × Instr × Nat) := [(0, .iconst (-1), 1), (1, .istore_n 1, 1), (2, .iconst 0, 1), (3, .istore_n 2, 1), (4, .iload_n 2, 1), (5, .aload_n 0, 1), (6, .getfield 33, 3), (9, .if_icmp .ge 44, 3), (12, .aload_n 0, 1), (13, .getfield 18, 3), (16, .iload_n 2, 1), (17, .iaload, 1), (18, .iconst (-1), 1), (19, .if_icmp .ne 6, 3), (22, .goto 25, 3), (25, .iload_n 1, 1), (26, .iconst (-1), 1), (27, .if_icmp .eq 14, 3), (30, .aload_n 0, 1), (31, .iload_n 2, 1), (32, .invokevirtual 45, 3), (35, .iload_n 1, 1), (36, .if_icmp .eq 5, 3), (39, .iconst 0, 1), (40, .ireturn, 1), (41, .aload_n 0, 1), (42, .iload_n 2, 1), (43, .invokevirtual 45, 3), (46, .istore_n 1, 1), (47, .iinc 2 1, 3), (50, .goto (-46), 3), (53, .iconst 1, 1), (54, .ireturn, 1)]
set_option maxRecDepth 20000 in
theorem dt_X6_insideAreOne : ∀ q ∈ dl_X6_insideAreOne, decode prog_8_method_12_code q.1 = .ok q.2 := by decide +kernel
def kp_X6_insideAreOne_4 (a0 : Nat)  (h : Hp) (X : Xt) (s : (Int32 × Int32)) : Prop := G X h 0 0 4 [(0, .ref a0), (1, .int s.1), (2, .int s.2)] []
def ke_X6_insideAreOne_4 (a0 : Nat)  (h : Hp) (X : Xt) (e : (Unit ⊕ Unit)) : Prop := match e with
  | .inl e => G X h 0 0 53 [] []
  | .inr (e) => G X h 0 0 39 [] []
def j_X6_insideAreOne_41_4 (a0 : Nat) (x2 : Int32) (h : Hp) : Option ((Int32 × Int32) ⊕ (Unit ⊕ Unit)) :=
  (f_X6_nationOf a0 x2 h).bind fun v6 =>
  some (.inl (v6, (x2 + (1 : Int32))))
set_option maxRecDepth 20000 in
theorem wj_X6_insideAreOne_41_4 {X : Xt} (C : Cx X cn_6 prog_8_method_12_code 3 (some .boolean) 2 0 0) (a0 : Nat) (Ha0 : IsRoom a0)  (x2 : Int32) (h : Hp) (q : (Int32 × Int32) ⊕ (Unit ⊕ Unit)) (hrun : j_X6_insideAreOne_41_4 a0 x2 h = some q) (Ks : ∀ s, q = .inl s → kp_X6_insideAreOne_4 a0  h X s) (Ke : ∀ e, q = .inr e → ke_X6_insideAreOne_4 a0  h X e) : G X h 0 0 41 [(0, .ref a0), (2, .int x2)] [] := by
  unfold j_X6_insideAreOne_41_4 at hrun
  refine g_aload_n C (dat dt_X6_insideAreOne 25 rfl) 0 rfl ?_
  refine g_iload_n C (dat dt_X6_insideAreOne 26 rfl) 1 rfl ?_
  obtain ⟨v6, q7, hrun⟩ := bd hrun
  refine g_cVi [.int x2] C (dat dt_X6_insideAreOne 27 rfl) ml_6_45 (w_X6_nationOf a0 x2 h v6 Ha0 q7) Ha0.1 (rb0 Ha0) rfl rfl cat0 (by decide) c00 ?_
  refine g_istore_n (lv' := [(0, .ref a0), (1, .int v6), (2, .int x2)]) C (dat dt_X6_insideAreOne 28 rfl) (by decide) rfl ?_
  refine g_iinc (v := (x2 + (1 : Int32))) (lv' := [(0, .ref a0), (1, .int v6), (2, .int (x2 + (1 : Int32)))]) C (dat dt_X6_insideAreOne 29 rfl) 2 rfl (congrArg (fun z => x2 + z) ic_1) (by decide) rfl ?_
  refine g_goto 4 C (dat dt_X6_insideAreOne 30 rfl) (by decide) ?_
  cases hrun
  exact Ks (v6, (x2 + (1 : Int32))) rfl
def b_X6_insideAreOne_4 (a0 : Nat)  (x1 : Int32) (x2 : Int32) (h : Hp) : Option ((Int32 × Int32) ⊕ (Unit ⊕ Unit)) :=
  if (fI h a0 0) ≤ x2 then
  some (.inr (.inl ()))
  else
  (inb x2 6).bind fun j2 =>
  if (aI h (a0 + 3) j2) = (-1 : Int32) then
  some (.inl (x1, (x2 + (1 : Int32))))
  else
  if x1 = (-1 : Int32) then
  j_X6_insideAreOne_41_4 a0 x2 h
  else
  (f_X6_nationOf a0 x2 h).bind fun v8 =>
  if v8 = x1 then
  j_X6_insideAreOne_41_4 a0 x2 h
  else
  some (.inr (.inr <| id ()))
set_option maxRecDepth 20000 in
theorem wb_X6_insideAreOne_4 {X : Xt} (C : Cx X cn_6 prog_8_method_12_code 3 (some .boolean) 2 0 0) (a0 : Nat) (Ha0 : IsRoom a0)  (x1 : Int32) (x2 : Int32) (h : Hp) (q : (Int32 × Int32) ⊕ (Unit ⊕ Unit)) (hrun : b_X6_insideAreOne_4 a0  x1 x2 h = some q) (Ks : ∀ s, q = .inl s → kp_X6_insideAreOne_4 a0  h X s) (Ke : ∀ e, q = .inr e → ke_X6_insideAreOne_4 a0  h X e) : kp_X6_insideAreOne_4 a0  h X (x1, x2) := by
  show G X h 0 0 4 [(0, .ref a0), (1, .int x1), (2, .int x2)] []
  unfold b_X6_insideAreOne_4 at hrun
  refine g_iload_n C (dat dt_X6_insideAreOne 4 rfl) 2 rfl ?_
  refine g_aload_n C (dat dt_X6_insideAreOne 5 rfl) 0 rfl ?_
  refine g_getI C (dat dt_X6_insideAreOne 6 rfl) fl_6_33 Ha0.1 rfl (rb0 Ha0) ?_
  refine g_ic_ge 53 C (dat dt_X6_insideAreOne 7 rfl) (by decide) (fun c1 => ?_) (fun c1 => ?_)
  · rw [if_pos c1] at hrun
    refine g_sub [] (lv' := []) rfl ?_
    cases hrun
    exact Ke (.inl ()) rfl
  · rw [if_neg c1] at hrun
    refine g_aload_n C (dat dt_X6_insideAreOne 8 rfl) 0 rfl ?_
    refine g_getR C (dat dt_X6_insideAreOne 9 rfl) fl_6_18 Ha0.1 rfl (rb0 Ha0) ?_
    refine g_iload_n C (dat dt_X6_insideAreOne 10 rfl) 2 rfl ?_
    obtain ⟨j2, q3, hrun⟩ := bd hrun
    refine g_iald C (dat dt_X6_insideAreOne 11 rfl) Ha0.2.2.2.1 (rb3 Ha0) q3 ?_
    refine g_iconst C (dat dt_X6_insideAreOne 12 rfl) ic_m1 ?_
    refine g_ic_ne 25 C (dat dt_X6_insideAreOne 13 rfl) (by decide) (fun c4 => ?_) (fun c4 => ?_)
    · rw [if_neg c4] at hrun
      refine g_iload_n C (dat dt_X6_insideAreOne 15 rfl) 1 rfl ?_
      refine g_iconst C (dat dt_X6_insideAreOne 16 rfl) ic_m1 ?_
      refine g_ic_eq 41 C (dat dt_X6_insideAreOne 17 rfl) (by decide) (fun c5 => ?_) (fun c5 => ?_)
      · rw [if_pos c5] at hrun
        refine g_sub [0, 2] (lv' := [(0, .ref a0), (2, .int x2)]) rfl ?_
        exact wj_X6_insideAreOne_41_4 C a0 Ha0  x2 h _ hrun Ks Ke
      · rw [if_neg c5] at hrun
        refine g_aload_n C (dat dt_X6_insideAreOne 18 rfl) 0 rfl ?_
        refine g_iload_n C (dat dt_X6_insideAreOne 19 rfl) 2 rfl ?_
        obtain ⟨v8, q9, hrun⟩ := bd hrun
        refine g_cVi [.int x2] C (dat dt_X6_insideAreOne 20 rfl) ml_6_45 (w_X6_nationOf a0 x2 h v8 Ha0 q9) Ha0.1 (rb0 Ha0) rfl rfl cat0 (by decide) c00 ?_
        refine g_iload_n C (dat dt_X6_insideAreOne 21 rfl) 1 rfl ?_
        refine g_ic_eq 41 C (dat dt_X6_insideAreOne 22 rfl) (by decide) (fun c10 => ?_) (fun c10 => ?_)
        · rw [if_pos c10] at hrun
          refine g_sub [0, 2] (lv' := [(0, .ref a0), (2, .int x2)]) rfl ?_
          exact wj_X6_insideAreOne_41_4 C a0 Ha0  x2 h _ hrun Ks Ke
        · rw [if_neg c10] at hrun
          refine g_sub [] (lv' := []) rfl ?_
          cases hrun
          exact Ke (.inr <| id ()) rfl
    · rw [if_pos c4] at hrun
      refine g_goto 47 C (dat dt_X6_insideAreOne 14 rfl) (by decide) ?_
      refine g_iinc (v := (x2 + (1 : Int32))) (lv' := [(0, .ref a0), (1, .int x1), (2, .int (x2 + (1 : Int32)))]) C (dat dt_X6_insideAreOne 29 rfl) 2 rfl (congrArg (fun z => x2 + z) ic_1) (by decide) rfl ?_
      refine g_goto 4 C (dat dt_X6_insideAreOne 30 rfl) (by decide) ?_
      cases hrun
      exact Ks (x1, (x2 + (1 : Int32))) rfl
def f_X6_insideAreOne (a0 : Nat) (h : Hp) : Option Bool :=
  (lp (fun s => b_X6_insideAreOne_4 a0  s.1 s.2 h) FU ((-1 : Int32), (0 : Int32))).bind fun e11 =>
  sc e11 (fun e13 =>
  some true) (fun e14 =>
  some false)
set_option maxRecDepth 20000 in
theorem w_X6_insideAreOne (a0 : Nat) (h : Hp) (q : Bool) (Ha0 : IsRoom a0) (hrun : f_X6_insideAreOne a0 h = some q) : MetA ⟨"SteamNations$Room", "insideAreOne", "()Z"⟩ prog_8_method_12_code 3 (some .boolean) 2 0 0 [.ref a0] h (some (.int (b2i q))) h := by
  refine metA_of (by decide) (Nat.le_of_ble_eq_true rfl) (fun X C K => ?_)
  have C : Cx X cn_6 prog_8_method_12_code 3 (some .boolean) 2 0 0 := C
  show G X h 0 0 0 [(0, .ref a0)] []
  unfold f_X6_insideAreOne at hrun
  refine g_iconst C (dat dt_X6_insideAreOne 0 rfl) ic_m1 ?_
  refine g_istore_n (lv' := [(0, .ref a0), (1, .int (-1 : Int32))]) C (dat dt_X6_insideAreOne 1 rfl) (by decide) rfl ?_
  refine g_iconst C (dat dt_X6_insideAreOne 2 rfl) ic_0 ?_
  refine g_istore_n (lv' := [(0, .ref a0), (1, .int (-1 : Int32)), (2, .int (0 : Int32))]) C (dat dt_X6_insideAreOne 3 rfl) (by decide) rfl ?_
  obtain ⟨e11, q12, hrun⟩ := bd hrun
  refine lp_ind (P := fun s => kp_X6_insideAreOne_4 a0  h X s) (K := fun e => ke_X6_insideAreOne_4 a0  h X e) (fun s q hb Ks Ke => wb_X6_insideAreOne_4 C a0 Ha0  s.1 s.2 h q hb Ks Ke) FU ((-1 : Int32), (0 : Int32)) e11 q12 ?_
  rcases e11 with e13 | e14
  · rw [sc_l] at hrun
    show G X h 0 0 53 [] []
    refine g_iconst C (dat dt_X6_insideAreOne 31 rfl) ic_1 ?_
    cases hrun
    exact g_zret C K (show (1 : Int32) = b2i true by decide) (dat dt_X6_insideAreOne 32 rfl)
  · rw [sc_r] at hrun
    show G X h 0 0 39 [] []
    refine g_iconst C (dat dt_X6_insideAreOne 23 rfl) ic_0 ?_
    cases hrun
    exact g_zret C K (show (0 : Int32) = b2i false by decide) (dat dt_X6_insideAreOne 24 rfl)
/-! java/lang/Math.min(II)I -/
def dl_J9_min_7cf53 : List (Nat × Instr × Nat) := [(0, .iload_n 0, 1), (1, .iload_n 1, 1), (2, .if_icmp .gt 7, 3), (5, .iload_n 0, 1), (6, .goto 4, 3), (9, .iload_n 1, 1), (10, .ireturn, 1)]
set_option maxRecDepth 20000 in
theorem dt_J9_min_7cf53 : ∀ q ∈ dl_J9_min_7cf53, decode prog_16_method_69_code q.1 = .ok q.2 := by decide +kernel
def f_J9_min_7cf53 (x0 : Int32) (x1 : Int32) : Option Int32 :=
  if x1 < x0 then
  some x1
  else
  some x0
set_option maxRecDepth 20000 in
theorem w_J9_min_7cf53 (x0 : Int32) (x1 : Int32) (h : Hp) (q : Int32)  (hrun : f_J9_min_7cf53 x0 x1 = some q) : MetA ⟨"java/lang/Math", "min", "(II)I"⟩ prog_16_method_69_code 2 (some .int) 1 0 0 [.int x0, .int x1] h (some (.int q)) h := by
  refine metA_ofJ (by decide +kernel) (Nat.le_of_ble_eq_true rfl) (fun X C K => ?_)
  have C : Cx X "java/lang/Math" prog_16_method_69_code 2 (some .int) 1 0 0 := C
  show G X h 0 0 0 [(0, .int x0), (1, .int x1)] []
  unfold f_J9_min_7cf53 at hrun
  refine g_iload_n C (dat dt_J9_min_7cf53 0 rfl) 0 rfl ?_
  refine g_iload_n C (dat dt_J9_min_7cf53 1 rfl) 1 rfl ?_
  refine g_ic_gt 9 C (dat dt_J9_min_7cf53 2 rfl) (by decide) (fun c1 => ?_) (fun c1 => ?_)
  · rw [if_pos c1] at hrun
    refine g_iload_n C (dat dt_J9_min_7cf53 5 rfl) 1 rfl ?_
    cases hrun
    exact g_iret C K (dat dt_J9_min_7cf53 6 rfl)
  · rw [if_neg c1] at hrun
    refine g_iload_n C (dat dt_J9_min_7cf53 3 rfl) 0 rfl ?_
    refine g_goto 10 C (dat dt_J9_min_7cf53 4 rfl) (by decide) ?_
    cases hrun
    exact g_iret C K (dat dt_J9_min_7cf53 6 rfl)
/-! SteamNations$Room.inCommon(II)I -/
def dl_X6_inCommon : List (Nat × Instr × Nat) := [(0, .iconst 0, 1), (1, .istore_n 3, 1), (2, .iconst 0, 1), (3, .istore 4, 2), (5, .iload 4, 2), (7, .iconst 3, 1), (8, .if_icmp .ge 37, 3), (11, .iload_n 3, 1), (12, .aload_n 0, 1), (13, .getfield 9, 3), (16, .iload_n 1, 1), (17, .iconst 3, 1), (18, .imul, 1), (19, .iload 4, 2), (21, .iadd, 1), (22, .iaload, 1), (23, .aload_n 0, 1), (24, .getfield 9, 3), (27, .iload_n 2, 1), (28, .iconst 3, 1), (29, .imul, 1), (30, .iload 4, 2), (32, .iadd, 1), (33, .iaload, 1), (34, .invokestatic 53, 3), (37, .iadd, 1), (38, .istore_n 3, 1), (39, .iinc 4 1, 3), (42, .goto (-37), 3), (45, .iload_n 3, 1), (46, .ireturn, 1)]
set_option maxRecDepth 20000 in
theorem dt_X6_inCommon : ∀ q ∈ dl_X6_inCommon, decode prog_8_method_14_code q.1 = .ok q.2 := by decide +kernel
def kp_X6_inCommon_5 (a0 : Nat) (x1 : Int32) (x2 : Int32) (h : Hp) (X : Xt) (s : (Int32 × Int32)) : Prop := G X h 0 0 5 [(0, .ref a0), (1, .int x1), (2, .int x2), (3, .int s.1), (4, .int s.2)] []
def ke_X6_inCommon_5 (a0 : Nat) (x1 : Int32) (x2 : Int32) (h : Hp) (X : Xt) (e : Int32) : Prop := G X h 0 0 45 [(3, .int e)] []
def b_X6_inCommon_5 (a0 : Nat) (x1 : Int32) (x2 : Int32) (x3 : Int32) (x4 : Int32) (h : Hp) : Option ((Int32 × Int32) ⊕ Int32) :=
  if (3 : Int32) ≤ x4 then
  some (.inr ( x3))
  else
  (inb ((x1 * (3 : Int32)) + x4) 18).bind fun j2 =>
  (inb ((x2 * (3 : Int32)) + x4) 18).bind fun j4 =>
  (f_J9_min_7cf53 (aI h (a0 + 1) j2) (aI h (a0 + 1) j4)).bind fun v6 =>
  some (.inl ((x3 + v6), (x4 + (1 : Int32))))
set_option maxRecDepth 20000 in
theorem wb_X6_inCommon_5 {X : Xt} (C : Cx X cn_6 prog_8_method_14_code 5 (some .int) 2 0 0) (a0 : Nat) (Ha0 : IsRoom a0) (x1 : Int32) (x2 : Int32) (x3 : Int32) (x4 : Int32) (h : Hp) (q : (Int32 × Int32) ⊕ Int32) (hrun : b_X6_inCommon_5 a0 x1 x2 x3 x4 h = some q) (Ks : ∀ s, q = .inl s → kp_X6_inCommon_5 a0 x1 x2 h X s) (Ke : ∀ e, q = .inr e → ke_X6_inCommon_5 a0 x1 x2 h X e) : kp_X6_inCommon_5 a0 x1 x2 h X (x3, x4) := by
  show G X h 0 0 5 [(0, .ref a0), (1, .int x1), (2, .int x2), (3, .int x3), (4, .int x4)] []
  unfold b_X6_inCommon_5 at hrun
  refine g_iload C (dat dt_X6_inCommon 4 rfl) 4 rfl ?_
  refine g_iconst C (dat dt_X6_inCommon 5 rfl) ic_3 ?_
  refine g_ic_ge 45 C (dat dt_X6_inCommon 6 rfl) (by decide) (fun c1 => ?_) (fun c1 => ?_)
  · rw [if_pos c1] at hrun
    refine g_sub [3] (lv' := [(3, .int x3)]) rfl ?_
    cases hrun
    exact Ke ( x3) rfl
  · rw [if_neg c1] at hrun
    refine g_iload_n C (dat dt_X6_inCommon 7 rfl) 3 rfl ?_
    refine g_aload_n C (dat dt_X6_inCommon 8 rfl) 0 rfl ?_
    refine g_getR C (dat dt_X6_inCommon 9 rfl) fl_6_9 Ha0.1 rfl (rb0 Ha0) ?_
    refine g_iload_n C (dat dt_X6_inCommon 10 rfl) 1 rfl ?_
    refine g_iconst C (dat dt_X6_inCommon 11 rfl) ic_3 ?_
    refine g_imul C (dat dt_X6_inCommon 12 rfl) ?_
    refine g_iload C (dat dt_X6_inCommon 13 rfl) 4 rfl ?_
    refine g_iadd C (dat dt_X6_inCommon 14 rfl) ?_
    obtain ⟨j2, q3, hrun⟩ := bd hrun
    refine g_iald C (dat dt_X6_inCommon 15 rfl) Ha0.2.1 (rb1 Ha0) q3 ?_
    refine g_aload_n C (dat dt_X6_inCommon 16 rfl) 0 rfl ?_
    refine g_getR C (dat dt_X6_inCommon 17 rfl) fl_6_9 Ha0.1 rfl (rb0 Ha0) ?_
    refine g_iload_n C (dat dt_X6_inCommon 18 rfl) 2 rfl ?_
    refine g_iconst C (dat dt_X6_inCommon 19 rfl) ic_3 ?_
    refine g_imul C (dat dt_X6_inCommon 20 rfl) ?_
    refine g_iload C (dat dt_X6_inCommon 21 rfl) 4 rfl ?_
    refine g_iadd C (dat dt_X6_inCommon 22 rfl) ?_
    obtain ⟨j4, q5, hrun⟩ := bd hrun
    refine g_iald C (dat dt_X6_inCommon 23 rfl) Ha0.2.1 (rb1 Ha0) q5 ?_
    obtain ⟨v6, q7, hrun⟩ := bd hrun
    refine g_cSi [.int (aI h (a0 + 1) j2), .int (aI h (a0 + 1) j4)] C (dat dt_X6_inCommon 24 rfl) ml_6_53 (w_J9_min_7cf53 (aI h (a0 + 1) j2) (aI h (a0 + 1) j4) h v6  q7) rfl rfl (Nat.le_of_ble_eq_true rfl) (by decide) c00 ?_
    refine g_iadd C (dat dt_X6_inCommon 25 rfl) ?_
    refine g_istore_n (lv' := [(0, .ref a0), (1, .int x1), (2, .int x2), (3, .int (x3 + v6)), (4, .int x4)]) C (dat dt_X6_inCommon 26 rfl) (by decide) rfl ?_
    refine g_iinc (v := (x4 + (1 : Int32))) (lv' := [(0, .ref a0), (1, .int x1), (2, .int x2), (3, .int (x3 + v6)), (4, .int (x4 + (1 : Int32)))]) C (dat dt_X6_inCommon 27 rfl) 4 rfl (congrArg (fun z => x4 + z) ic_1) (by decide) rfl ?_
    refine g_goto 5 C (dat dt_X6_inCommon 28 rfl) (by decide) ?_
    cases hrun
    exact Ks ((x3 + v6), (x4 + (1 : Int32))) rfl
def f_X6_inCommon (a0 : Nat) (x1 : Int32) (x2 : Int32) (h : Hp) : Option Int32 :=
  (lp (fun s => b_X6_inCommon_5 a0 x1 x2 s.1 s.2 h) FU ((0 : Int32), (0 : Int32))).bind fun e8 =>
  some e8
set_option maxRecDepth 20000 in
theorem w_X6_inCommon (a0 : Nat) (x1 : Int32) (x2 : Int32) (h : Hp) (q : Int32) (Ha0 : IsRoom a0) (hrun : f_X6_inCommon a0 x1 x2 h = some q) : MetA ⟨"SteamNations$Room", "inCommon", "(II)I"⟩ prog_8_method_14_code 5 (some .int) 2 0 0 [.ref a0, .int x1, .int x2] h (some (.int q)) h := by
  refine metA_of (by decide) (Nat.le_of_ble_eq_true rfl) (fun X C K => ?_)
  have C : Cx X cn_6 prog_8_method_14_code 5 (some .int) 2 0 0 := C
  show G X h 0 0 0 [(0, .ref a0), (1, .int x1), (2, .int x2)] []
  unfold f_X6_inCommon at hrun
  refine g_iconst C (dat dt_X6_inCommon 0 rfl) ic_0 ?_
  refine g_istore_n (lv' := [(0, .ref a0), (1, .int x1), (2, .int x2), (3, .int (0 : Int32))]) C (dat dt_X6_inCommon 1 rfl) (by decide) rfl ?_
  refine g_iconst C (dat dt_X6_inCommon 2 rfl) ic_0 ?_
  refine g_istore (lv' := [(0, .ref a0), (1, .int x1), (2, .int x2), (3, .int (0 : Int32)), (4, .int (0 : Int32))]) C (dat dt_X6_inCommon 3 rfl) (by decide) rfl ?_
  obtain ⟨e8, q9, hrun⟩ := bd hrun
  refine lp_ind (P := fun s => kp_X6_inCommon_5 a0 x1 x2 h X s) (K := fun e => ke_X6_inCommon_5 a0 x1 x2 h X e) (fun s q hb Ks Ke => wb_X6_inCommon_5 C a0 Ha0 x1 x2 s.1 s.2 h q hb Ks Ke) FU ((0 : Int32), (0 : Int32)) e8 q9 ?_
  show G X h 0 0 45 [(3, .int e8)] []
  refine g_iload_n C (dat dt_X6_inCommon 29 rfl) 0 rfl ?_
  cases hrun
  exact g_iret C K (dat dt_X6_inCommon 30 rfl)
/-! SteamNations$Room.isTreaty(II)Z -/
def dl_X6_isTreaty : List (Nat × Instr × Nat) := [(0, .iconst 0, 1), (1, .istore_n 3, 1), (2, .iload_n 3, 1), (3, .aload_n 0, 1), (4, .getfield 33, 3), (7, .if_icmp .ge 73, 3), (10, .iload_n 3, 1), (11, .iconst 1, 1), (12, .iadd, 1), (13, .istore 4, 2), (15, .iload 4, 2), (17, .aload_n 0, 1), (18, .getfield 33, 3), (21, .if_icmp .ge 53, 3), (24, .iload_n 1, 1), (25, .iload_n 3, 1), (26, .ishr, 1), (27, .iconst 1, 1), (28, .iand, 1), (29, .iconst 1, 1), (30, .if_icmp .ne 17, 3), (33, .iload_n 1, 1), (34, .iload 4, 2), (36, .ishr, 1), (37, .iconst 1, 1), (38, .iand, 1), (39, .iconst 1, 1), (40, .if_icmp .ne 7, 3), (43, .iconst 1, 1), (44, .goto 4, 3), (47, .iconst 0, 1), (48, .istore 5, 2), (50, .iload 5, 2), (52, .ifCond .eq 16, 3), (55, .aload_n 0, 1), (56, .iload_n 3, 1), (57, .iload 4, 2), (59, .invokevirtual 49, 3), (62, .iload_n 2, 1), (63, .if_icmp .ge 5, 3), (66, .iconst 0, 1), (67, .ireturn, 1), (68, .iinc 4 1, 3), (71, .goto (-56), 3), (74, .iinc 3 1, 3), (77, .goto (-75), 3), (80, .iconst 1, 1), (81, .ireturn, 1)]
set_option maxRecDepth 20000 in
theorem dt_X6_isTreaty : ∀ q ∈ dl_X6_isTreaty, decode prog_8_method_13_code q.1 = .ok q.2 := by decide +kernel
def kp_X6_isTreaty_2 (a0 : Nat) (x1 : Int32) (x2 : Int32) (h : Hp) (X : Xt) (s : Int32) : Prop := G X h 0 0 2 [(0, .ref a0), (1, .int x1), (2, .int x2), (3, .int s)] []
def ke_X6_isTreaty_2 (a0 : Nat) (x1 : Int32) (x2 : Int32) (h : Hp) (X : Xt) (e : (Unit ⊕ Unit)) : Prop := match e with
  | .inl e => G X h 0 0 80 [] []
  | .inr (e) => G X h 0 0 66 [] []
def kp_X6_isTreaty_15_2 (a0 : Nat) (x1 : Int32) (x2 : Int32) (x3 : Int32) (h : Hp) (X : Xt) (s : Int32) : Prop := G X h 0 0 15 [(0, .ref a0), (1, .int x1), (2, .int x2), (3, .int x3), (4, .int s)] []
def ke_X6_isTreaty_15_2 (a0 : Nat) (x1 : Int32) (x2 : Int32) (x3 : Int32) (h : Hp) (X : Xt) (e : (Unit ⊕ Unit)) : Prop := match e with
  | .inl e => G X h 0 0 74 [(0, .ref a0), (1, .int x1), (2, .int x2), (3, .int x3)] []
  | .inr (e) => G X h 0 0 66 [] []
def j_X6_isTreaty_48_15 (a0 : Nat) (x1 : Int32) (x2 : Int32) (x3 : Int32) (x4 : Int32) (s0 : Int32) (h : Hp) : Option (Int32 ⊕ (Unit ⊕ Unit)) :=
  if s0 = 0 then
  some (.inl (x4 + (1 : Int32)))
  else
  (f_X6_inCommon a0 x3 x4 h).bind fun v5 =>
  if x2 ≤ v5 then
  some (.inl (x4 + (1 : Int32)))
  else
  some (.inr (.inr <| id ()))
set_option maxRecDepth 20000 in
theorem wj_X6_isTreaty_48_15 {X : Xt} (C : Cx X cn_6 prog_8_method_13_code 6 (some .boolean) 3 0 0) (a0 : Nat) (Ha0 : IsRoom a0)  (x1 : Int32) (x2 : Int32) (x3 : Int32) (x4 : Int32) (s0 : Int32) (h : Hp) (q : Int32 ⊕ (Unit ⊕ Unit)) (hrun : j_X6_isTreaty_48_15 a0 x1 x2 x3 x4 s0 h = some q) (Ks : ∀ s, q = .inl s → kp_X6_isTreaty_15_2 a0 x1 x2 x3 h X s) (Ke : ∀ e, q = .inr e → ke_X6_isTreaty_15_2 a0 x1 x2 x3 h X e) : G X h 0 0 48 [(0, .ref a0), (1, .int x1), (2, .int x2), (3, .int x3), (4, .int x4)] [.int s0] := by
  unfold j_X6_isTreaty_48_15 at hrun
  refine g_istore (lv' := [(0, .ref a0), (1, .int x1), (2, .int x2), (3, .int x3), (4, .int x4), (5, .int s0)]) C (dat dt_X6_isTreaty 31 rfl) (by decide) rfl ?_
  refine g_iload C (dat dt_X6_isTreaty 32 rfl) 5 rfl ?_
  refine g_if_eq 68 C (dat dt_X6_isTreaty 33 rfl) (by decide) (fun c4 => ?_) (fun c4 => ?_)
  · rw [if_pos c4] at hrun
    refine g_iinc (v := (x4 + (1 : Int32))) (lv' := [(0, .ref a0), (1, .int x1), (2, .int x2), (3, .int x3), (4, .int (x4 + (1 : Int32))), (5, .int s0)]) C (dat dt_X6_isTreaty 42 rfl) 4 rfl (congrArg (fun z => x4 + z) ic_1) (by decide) rfl ?_
    refine g_goto 15 C (dat dt_X6_isTreaty 43 rfl) (by decide) ?_
    refine g_sub [0, 1, 2, 3, 4] (lv' := [(0, .ref a0), (1, .int x1), (2, .int x2), (3, .int x3), (4, .int (x4 + (1 : Int32)))]) rfl ?_
    cases hrun
    exact Ks (x4 + (1 : Int32)) rfl
  · rw [if_neg c4] at hrun
    refine g_aload_n C (dat dt_X6_isTreaty 34 rfl) 0 rfl ?_
    refine g_iload_n C (dat dt_X6_isTreaty 35 rfl) 3 rfl ?_
    refine g_iload C (dat dt_X6_isTreaty 36 rfl) 4 rfl ?_
    obtain ⟨v5, q6, hrun⟩ := bd hrun
    refine g_cVi [.int x3, .int x4] C (dat dt_X6_isTreaty 37 rfl) ml_6_49 (w_X6_inCommon a0 x3 x4 h v5 Ha0 q6) Ha0.1 (rb0 Ha0) rfl rfl cat0 (by decide) c00 ?_
    refine g_iload_n C (dat dt_X6_isTreaty 38 rfl) 2 rfl ?_
    refine g_ic_ge 68 C (dat dt_X6_isTreaty 39 rfl) (by decide) (fun c7 => ?_) (fun c7 => ?_)
    · rw [if_pos c7] at hrun
      refine g_iinc (v := (x4 + (1 : Int32))) (lv' := [(0, .ref a0), (1, .int x1), (2, .int x2), (3, .int x3), (4, .int (x4 + (1 : Int32))), (5, .int s0)]) C (dat dt_X6_isTreaty 42 rfl) 4 rfl (congrArg (fun z => x4 + z) ic_1) (by decide) rfl ?_
      refine g_goto 15 C (dat dt_X6_isTreaty 43 rfl) (by decide) ?_
      refine g_sub [0, 1, 2, 3, 4] (lv' := [(0, .ref a0), (1, .int x1), (2, .int x2), (3, .int x3), (4, .int (x4 + (1 : Int32)))]) rfl ?_
      cases hrun
      exact Ks (x4 + (1 : Int32)) rfl
    · rw [if_neg c7] at hrun
      refine g_sub [] (lv' := []) rfl ?_
      cases hrun
      exact Ke (.inr <| id ()) rfl
def j_X6_isTreaty_47_15 (a0 : Nat) (x1 : Int32) (x2 : Int32) (x3 : Int32) (x4 : Int32) (h : Hp) : Option (Int32 ⊕ (Unit ⊕ Unit)) :=
  j_X6_isTreaty_48_15 a0 x1 x2 x3 x4 (0 : Int32) h
set_option maxRecDepth 20000 in
theorem wj_X6_isTreaty_47_15 {X : Xt} (C : Cx X cn_6 prog_8_method_13_code 6 (some .boolean) 3 0 0) (a0 : Nat) (Ha0 : IsRoom a0)  (x1 : Int32) (x2 : Int32) (x3 : Int32) (x4 : Int32) (h : Hp) (q : Int32 ⊕ (Unit ⊕ Unit)) (hrun : j_X6_isTreaty_47_15 a0 x1 x2 x3 x4 h = some q) (Ks : ∀ s, q = .inl s → kp_X6_isTreaty_15_2 a0 x1 x2 x3 h X s) (Ke : ∀ e, q = .inr e → ke_X6_isTreaty_15_2 a0 x1 x2 x3 h X e) : G X h 0 0 47 [(0, .ref a0), (1, .int x1), (2, .int x2), (3, .int x3), (4, .int x4)] [] := by
  unfold j_X6_isTreaty_47_15 at hrun
  refine g_iconst C (dat dt_X6_isTreaty 30 rfl) ic_0 ?_
  exact wj_X6_isTreaty_48_15 C a0 Ha0  x1 x2 x3 x4 (0 : Int32) h _ hrun Ks Ke
def b_X6_isTreaty_15_2 (a0 : Nat) (x1 : Int32) (x2 : Int32) (x3 : Int32) (x4 : Int32) (h : Hp) : Option (Int32 ⊕ (Unit ⊕ Unit)) :=
  if (fI h a0 0) ≤ x4 then
  some (.inr (.inl ()))
  else
  if ((x1 >>> (x3 &&& 31)) &&& (1 : Int32)) = (1 : Int32) then
  if ((x1 >>> (x4 &&& 31)) &&& (1 : Int32)) = (1 : Int32) then
  j_X6_isTreaty_48_15 a0 x1 x2 x3 x4 (1 : Int32) h
  else
  j_X6_isTreaty_47_15 a0 x1 x2 x3 x4 h
  else
  j_X6_isTreaty_47_15 a0 x1 x2 x3 x4 h
set_option maxRecDepth 20000 in
theorem wb_X6_isTreaty_15_2 {X : Xt} (C : Cx X cn_6 prog_8_method_13_code 6 (some .boolean) 3 0 0) (a0 : Nat) (Ha0 : IsRoom a0) (x1 : Int32) (x2 : Int32) (x3 : Int32) (x4 : Int32) (h : Hp) (q : Int32 ⊕ (Unit ⊕ Unit)) (hrun : b_X6_isTreaty_15_2 a0 x1 x2 x3 x4 h = some q) (Ks : ∀ s, q = .inl s → kp_X6_isTreaty_15_2 a0 x1 x2 x3 h X s) (Ke : ∀ e, q = .inr e → ke_X6_isTreaty_15_2 a0 x1 x2 x3 h X e) : kp_X6_isTreaty_15_2 a0 x1 x2 x3 h X x4 := by
  show G X h 0 0 15 [(0, .ref a0), (1, .int x1), (2, .int x2), (3, .int x3), (4, .int x4)] []
  unfold b_X6_isTreaty_15_2 at hrun
  refine g_iload C (dat dt_X6_isTreaty 10 rfl) 4 rfl ?_
  refine g_aload_n C (dat dt_X6_isTreaty 11 rfl) 0 rfl ?_
  refine g_getI C (dat dt_X6_isTreaty 12 rfl) fl_6_33 Ha0.1 rfl (rb0 Ha0) ?_
  refine g_ic_ge 74 C (dat dt_X6_isTreaty 13 rfl) (by decide) (fun c2 => ?_) (fun c2 => ?_)
  · rw [if_pos c2] at hrun
    refine g_sub [0, 1, 2, 3] (lv' := [(0, .ref a0), (1, .int x1), (2, .int x2), (3, .int x3)]) rfl ?_
    cases hrun
    exact Ke (.inl ()) rfl
  · rw [if_neg c2] at hrun
    refine g_iload_n C (dat dt_X6_isTreaty 14 rfl) 1 rfl ?_
    refine g_iload_n C (dat dt_X6_isTreaty 15 rfl) 3 rfl ?_
    refine g_ishr C (dat dt_X6_isTreaty 16 rfl) ?_
    refine g_iconst C (dat dt_X6_isTreaty 17 rfl) ic_1 ?_
    refine g_iand C (dat dt_X6_isTreaty 18 rfl) ?_
    refine g_iconst C (dat dt_X6_isTreaty 19 rfl) ic_1 ?_
    refine g_ic_ne 47 C (dat dt_X6_isTreaty 20 rfl) (by decide) (fun c3 => ?_) (fun c3 => ?_)
    · rw [if_neg c3] at hrun
      exact wj_X6_isTreaty_47_15 C a0 Ha0  x1 x2 x3 x4 h _ hrun Ks Ke
    · rw [if_pos c3] at hrun
      refine g_iload_n C (dat dt_X6_isTreaty 21 rfl) 1 rfl ?_
      refine g_iload C (dat dt_X6_isTreaty 22 rfl) 4 rfl ?_
      refine g_ishr C (dat dt_X6_isTreaty 23 rfl) ?_
      refine g_iconst C (dat dt_X6_isTreaty 24 rfl) ic_1 ?_
      refine g_iand C (dat dt_X6_isTreaty 25 rfl) ?_
      refine g_iconst C (dat dt_X6_isTreaty 26 rfl) ic_1 ?_
      refine g_ic_ne 47 C (dat dt_X6_isTreaty 27 rfl) (by decide) (fun c8 => ?_) (fun c8 => ?_)
      · rw [if_neg c8] at hrun
        exact wj_X6_isTreaty_47_15 C a0 Ha0  x1 x2 x3 x4 h _ hrun Ks Ke
      · rw [if_pos c8] at hrun
        refine g_iconst C (dat dt_X6_isTreaty 28 rfl) ic_1 ?_
        refine g_goto 48 C (dat dt_X6_isTreaty 29 rfl) (by decide) ?_
        exact wj_X6_isTreaty_48_15 C a0 Ha0  x1 x2 x3 x4 (1 : Int32) h _ hrun Ks Ke
def b_X6_isTreaty_2 (a0 : Nat) (x1 : Int32) (x2 : Int32) (x3 : Int32) (h : Hp) : Option (Int32 ⊕ (Unit ⊕ Unit)) :=
  if (fI h a0 0) ≤ x3 then
  some (.inr (.inl ()))
  else
  (lp (fun s => b_X6_isTreaty_15_2 a0 x1 x2 x3 s h) FU (x3 + (1 : Int32))).bind fun e9 =>
  sc e9 (fun e11 =>
  some (.inl (x3 + (1 : Int32)))) (fun e12 =>
  some (.inr (.inr <| id ())))
set_option maxRecDepth 20000 in
theorem wb_X6_isTreaty_2 {X : Xt} (C : Cx X cn_6 prog_8_method_13_code 6 (some .boolean) 3 0 0) (a0 : Nat) (Ha0 : IsRoom a0) (x1 : Int32) (x2 : Int32) (x3 : Int32) (h : Hp) (q : Int32 ⊕ (Unit ⊕ Unit)) (hrun : b_X6_isTreaty_2 a0 x1 x2 x3 h = some q) (Ks : ∀ s, q = .inl s → kp_X6_isTreaty_2 a0 x1 x2 h X s) (Ke : ∀ e, q = .inr e → ke_X6_isTreaty_2 a0 x1 x2 h X e) : kp_X6_isTreaty_2 a0 x1 x2 h X x3 := by
  show G X h 0 0 2 [(0, .ref a0), (1, .int x1), (2, .int x2), (3, .int x3)] []
  unfold b_X6_isTreaty_2 at hrun
  refine g_iload_n C (dat dt_X6_isTreaty 2 rfl) 3 rfl ?_
  refine g_aload_n C (dat dt_X6_isTreaty 3 rfl) 0 rfl ?_
  refine g_getI C (dat dt_X6_isTreaty 4 rfl) fl_6_33 Ha0.1 rfl (rb0 Ha0) ?_
  refine g_ic_ge 80 C (dat dt_X6_isTreaty 5 rfl) (by decide) (fun c1 => ?_) (fun c1 => ?_)
  · rw [if_pos c1] at hrun
    refine g_sub [] (lv' := []) rfl ?_
    cases hrun
    exact Ke (.inl ()) rfl
  · rw [if_neg c1] at hrun
    refine g_iload_n C (dat dt_X6_isTreaty 6 rfl) 3 rfl ?_
    refine g_iconst C (dat dt_X6_isTreaty 7 rfl) ic_1 ?_
    refine g_iadd C (dat dt_X6_isTreaty 8 rfl) ?_
    refine g_istore (lv' := [(0, .ref a0), (1, .int x1), (2, .int x2), (3, .int x3), (4, .int (x3 + (1 : Int32)))]) C (dat dt_X6_isTreaty 9 rfl) (by decide) rfl ?_
    obtain ⟨e9, q10, hrun⟩ := bd hrun
    refine lp_ind (P := fun s => kp_X6_isTreaty_15_2 a0 x1 x2 x3 h X s) (K := fun e => ke_X6_isTreaty_15_2 a0 x1 x2 x3 h X e) (fun s q hb Ks Ke => wb_X6_isTreaty_15_2 C a0 Ha0 x1 x2 x3 s h q hb Ks Ke) FU (x3 + (1 : Int32)) e9 q10 ?_
    rcases e9 with e11 | e12
    · rw [sc_l] at hrun
      show G X h 0 0 74 [(0, .ref a0), (1, .int x1), (2, .int x2), (3, .int x3)] []
      refine g_iinc (v := (x3 + (1 : Int32))) (lv' := [(0, .ref a0), (1, .int x1), (2, .int x2), (3, .int (x3 + (1 : Int32)))]) C (dat dt_X6_isTreaty 44 rfl) 3 rfl (congrArg (fun z => x3 + z) ic_1) (by decide) rfl ?_
      refine g_goto 2 C (dat dt_X6_isTreaty 45 rfl) (by decide) ?_
      cases hrun
      exact Ks (x3 + (1 : Int32)) rfl
    · rw [sc_r] at hrun
      show G X h 0 0 66 [] []
      cases hrun
      exact Ke (.inr <| id ()) rfl
def f_X6_isTreaty (a0 : Nat) (x1 : Int32) (x2 : Int32) (h : Hp) : Option Bool :=
  (lp (fun s => b_X6_isTreaty_2 a0 x1 x2 s h) FU (0 : Int32)).bind fun e13 =>
  sc e13 (fun e15 =>
  some true) (fun e16 =>
  some false)
set_option maxRecDepth 20000 in
theorem w_X6_isTreaty (a0 : Nat) (x1 : Int32) (x2 : Int32) (h : Hp) (q : Bool) (Ha0 : IsRoom a0) (hrun : f_X6_isTreaty a0 x1 x2 h = some q) : MetA ⟨"SteamNations$Room", "isTreaty", "(II)Z"⟩ prog_8_method_13_code 6 (some .boolean) 3 0 0 [.ref a0, .int x1, .int x2] h (some (.int (b2i q))) h := by
  refine metA_of (by decide) (Nat.le_of_ble_eq_true rfl) (fun X C K => ?_)
  have C : Cx X cn_6 prog_8_method_13_code 6 (some .boolean) 3 0 0 := C
  show G X h 0 0 0 [(0, .ref a0), (1, .int x1), (2, .int x2)] []
  unfold f_X6_isTreaty at hrun
  refine g_iconst C (dat dt_X6_isTreaty 0 rfl) ic_0 ?_
  refine g_istore_n (lv' := [(0, .ref a0), (1, .int x1), (2, .int x2), (3, .int (0 : Int32))]) C (dat dt_X6_isTreaty 1 rfl) (by decide) rfl ?_
  obtain ⟨e13, q14, hrun⟩ := bd hrun
  refine lp_ind (P := fun s => kp_X6_isTreaty_2 a0 x1 x2 h X s) (K := fun e => ke_X6_isTreaty_2 a0 x1 x2 h X e) (fun s q hb Ks Ke => wb_X6_isTreaty_2 C a0 Ha0 x1 x2 s h q hb Ks Ke) FU (0 : Int32) e13 q14 ?_
  rcases e13 with e15 | e16
  · rw [sc_l] at hrun
    show G X h 0 0 80 [] []
    refine g_iconst C (dat dt_X6_isTreaty 46 rfl) ic_1 ?_
    cases hrun
    exact g_zret C K (show (1 : Int32) = b2i true by decide) (dat dt_X6_isTreaty 47 rfl)
  · rw [sc_r] at hrun
    show G X h 0 0 66 [] []
    refine g_iconst C (dat dt_X6_isTreaty 40 rfl) ic_0 ?_
    cases hrun
    exact g_zret C K (show (0 : Int32) = b2i false by decide) (dat dt_X6_isTreaty 41 rfl)
/-! SteamNations$Room.allPartsOf(I)I -/
def dl_X6_allPartsOf : List (Nat × Instr × Nat) := [(0, .iconst 0, 1), (1, .istore_n 2, 1), (2, .iconst 0, 1), (3, .istore_n 3, 1), (4, .iload_n 3, 1), (5, .aload_n 0, 1), (6, .getfield 33, 3), (9, .if_icmp .ge 22, 3), (12, .iload_n 2, 1), (13, .aload_n 0, 1), (14, .getfield 9, 3), (17, .iload_n 3, 1), (18, .iconst 3, 1), (19, .imul, 1), (20, .iload_n 1, 1), (21, .iadd, 1), (22, .iaload, 1), (23, .iadd, 1), (24, .istore_n 2, 1), (25, .iinc 3 1, 3), (28, .goto (-24), 3), (31, .iload_n 2, 1), (32, .ireturn, 1)]
set_option maxRecDepth 20000 in
theorem dt_X6_allPartsOf : ∀ q ∈ dl_X6_allPartsOf, decode prog_8_method_11_code q.1 = .ok q.2 := by decide +kernel
def kp_X6_allPartsOf_4 (a0 : Nat) (x1 : Int32) (h : Hp) (X : Xt) (s : (Int32 × Int32)) : Prop := G X h 0 0 4 [(0, .ref a0), (1, .int x1), (2, .int s.1), (3, .int s.2)] []
def ke_X6_allPartsOf_4 (a0 : Nat) (x1 : Int32) (h : Hp) (X : Xt) (e : Int32) : Prop := G X h 0 0 31 [(2, .int e)] []
def b_X6_allPartsOf_4 (a0 : Nat) (x1 : Int32) (x2 : Int32) (x3 : Int32) (h : Hp) : Option ((Int32 × Int32) ⊕ Int32) :=
  if (fI h a0 0) ≤ x3 then
  some (.inr ( x2))
  else
  (inb ((x3 * (3 : Int32)) + x1) 18).bind fun j2 =>
  some (.inl ((x2 + (aI h (a0 + 1) j2)), (x3 + (1 : Int32))))
set_option maxRecDepth 20000 in
theorem wb_X6_allPartsOf_4 {X : Xt} (C : Cx X cn_6 prog_8_method_11_code 4 (some .int) 1 0 0) (a0 : Nat) (Ha0 : IsRoom a0) (x1 : Int32) (x2 : Int32) (x3 : Int32) (h : Hp) (q : (Int32 × Int32) ⊕ Int32) (hrun : b_X6_allPartsOf_4 a0 x1 x2 x3 h = some q) (Ks : ∀ s, q = .inl s → kp_X6_allPartsOf_4 a0 x1 h X s) (Ke : ∀ e, q = .inr e → ke_X6_allPartsOf_4 a0 x1 h X e) : kp_X6_allPartsOf_4 a0 x1 h X (x2, x3) := by
  show G X h 0 0 4 [(0, .ref a0), (1, .int x1), (2, .int x2), (3, .int x3)] []
  unfold b_X6_allPartsOf_4 at hrun
  refine g_iload_n C (dat dt_X6_allPartsOf 4 rfl) 3 rfl ?_
  refine g_aload_n C (dat dt_X6_allPartsOf 5 rfl) 0 rfl ?_
  refine g_getI C (dat dt_X6_allPartsOf 6 rfl) fl_6_33 Ha0.1 rfl (rb0 Ha0) ?_
  refine g_ic_ge 31 C (dat dt_X6_allPartsOf 7 rfl) (by decide) (fun c1 => ?_) (fun c1 => ?_)
  · rw [if_pos c1] at hrun
    refine g_sub [2] (lv' := [(2, .int x2)]) rfl ?_
    cases hrun
    exact Ke ( x2) rfl
  · rw [if_neg c1] at hrun
    refine g_iload_n C (dat dt_X6_allPartsOf 8 rfl) 2 rfl ?_
    refine g_aload_n C (dat dt_X6_allPartsOf 9 rfl) 0 rfl ?_
    refine g_getR C (dat dt_X6_allPartsOf 10 rfl) fl_6_9 Ha0.1 rfl (rb0 Ha0) ?_
    refine g_iload_n C (dat dt_X6_allPartsOf 11 rfl) 3 rfl ?_
    refine g_iconst C (dat dt_X6_allPartsOf 12 rfl) ic_3 ?_
    refine g_imul C (dat dt_X6_allPartsOf 13 rfl) ?_
    refine g_iload_n C (dat dt_X6_allPartsOf 14 rfl) 1 rfl ?_
    refine g_iadd C (dat dt_X6_allPartsOf 15 rfl) ?_
    obtain ⟨j2, q3, hrun⟩ := bd hrun
    refine g_iald C (dat dt_X6_allPartsOf 16 rfl) Ha0.2.1 (rb1 Ha0) q3 ?_
    refine g_iadd C (dat dt_X6_allPartsOf 17 rfl) ?_
    refine g_istore_n (lv' := [(0, .ref a0), (1, .int x1), (2, .int (x2 + (aI h (a0 + 1) j2))), (3, .int x3)]) C (dat dt_X6_allPartsOf 18 rfl) (by decide) rfl ?_
    refine g_iinc (v := (x3 + (1 : Int32))) (lv' := [(0, .ref a0), (1, .int x1), (2, .int (x2 + (aI h (a0 + 1) j2))), (3, .int (x3 + (1 : Int32)))]) C (dat dt_X6_allPartsOf 19 rfl) 3 rfl (congrArg (fun z => x3 + z) ic_1) (by decide) rfl ?_
    refine g_goto 4 C (dat dt_X6_allPartsOf 20 rfl) (by decide) ?_
    cases hrun
    exact Ks ((x2 + (aI h (a0 + 1) j2)), (x3 + (1 : Int32))) rfl
def f_X6_allPartsOf (a0 : Nat) (x1 : Int32) (h : Hp) : Option Int32 :=
  (lp (fun s => b_X6_allPartsOf_4 a0 x1 s.1 s.2 h) FU ((0 : Int32), (0 : Int32))).bind fun e4 =>
  some e4
set_option maxRecDepth 20000 in
theorem w_X6_allPartsOf (a0 : Nat) (x1 : Int32) (h : Hp) (q : Int32) (Ha0 : IsRoom a0) (hrun : f_X6_allPartsOf a0 x1 h = some q) : MetA ⟨"SteamNations$Room", "allPartsOf", "(I)I"⟩ prog_8_method_11_code 4 (some .int) 1 0 0 [.ref a0, .int x1] h (some (.int q)) h := by
  refine metA_of (by decide) (Nat.le_of_ble_eq_true rfl) (fun X C K => ?_)
  have C : Cx X cn_6 prog_8_method_11_code 4 (some .int) 1 0 0 := C
  show G X h 0 0 0 [(0, .ref a0), (1, .int x1)] []
  unfold f_X6_allPartsOf at hrun
  refine g_iconst C (dat dt_X6_allPartsOf 0 rfl) ic_0 ?_
  refine g_istore_n (lv' := [(0, .ref a0), (1, .int x1), (2, .int (0 : Int32))]) C (dat dt_X6_allPartsOf 1 rfl) (by decide) rfl ?_
  refine g_iconst C (dat dt_X6_allPartsOf 2 rfl) ic_0 ?_
  refine g_istore_n (lv' := [(0, .ref a0), (1, .int x1), (2, .int (0 : Int32)), (3, .int (0 : Int32))]) C (dat dt_X6_allPartsOf 3 rfl) (by decide) rfl ?_
  obtain ⟨e4, q5, hrun⟩ := bd hrun
  refine lp_ind (P := fun s => kp_X6_allPartsOf_4 a0 x1 h X s) (K := fun e => ke_X6_allPartsOf_4 a0 x1 h X e) (fun s q hb Ks Ke => wb_X6_allPartsOf_4 C a0 Ha0 x1 s.1 s.2 h q hb Ks Ke) FU ((0 : Int32), (0 : Int32)) e4 q5 ?_
  show G X h 0 0 31 [(2, .int e4)] []
  refine g_iload_n C (dat dt_X6_allPartsOf 21 rfl) 0 rfl ?_
  cases hrun
  exact g_iret C K (dat dt_X6_allPartsOf 22 rfl)
