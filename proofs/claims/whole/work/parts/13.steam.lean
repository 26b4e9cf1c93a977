/-! SteamNations$Steam.sayWords(LSteamNations$Room;II)V -/
def dl_X8_sayWords : List (Nat × Instr × Nat) := [(0, .aload_n 1, 1), (1, .iload_n 2, 1), (2, .invokevirtual 48, 3), (5, .istore 4, 2), (7, .aload_n 0, 1), (8, .getfield 18, 3), (11, .getfield 99, 3), (14, .iconst 0, 1), (15, .iload_n 2, 1), (16, .iastore, 1), (17, .aload_n 0, 1), (18, .getfield 18, 3), (21, .getfield 99, 3), (24, .iconst 1, 1), (25, .iload_n 3, 1), (26, .iastore, 1), (27, .aload_n 0, 1), (28, .getfield 18, 3), (31, .getfield 99, 3), (34, .iconst 2, 1), (35, .aload_n 1, 1), (36, .getfield 76, 3), (39, .iload_n 2, 1), (40, .iaload, 1), (41, .iconst 3, 1), (42, .idiv, 1), (43, .iastore, 1), (44, .aload_n 0, 1), (45, .getfield 18, 3), (48, .getfield 99, 3), (51, .iconst 3, 1), (52, .iload 4, 2), (54, .iastore, 1), (55, .aload_n 0, 1), (56, .getfield 18, 3), (59, .getfield 99, 3), (62, .iconst 4, 1), (63, .aload_n 1, 1), (64, .getfield 83, 3), (67, .iload_n 2, 1), (68, .iconst 3, 1), (69, .imul, 1), (70, .iload 4, 2), (72, .iadd, 1), (73, .iaload, 1), (74, .iastore, 1), (75, .aload_n 0, 1), (76, .getfield 18, 3), (79, .getfield 99, 3), (82, .iconst 5, 1), (83, .aload_n 1, 1), (84, .getfield 102, 3), (87, .iload_n 2, 1), (88, .iaload, 1), (89, .iastore, 1), (90, .aload_n 0, 1), (91, .getfield 18, 3), (94, .getfield 99, 3), (97, .bipush 6, 2), (99, .aload_n 1, 1), (100, .getfield 93, 3), (103, .iconst 0, 1), (104, .iaload, 1), (105, .iastore, 1), (106, .aload_n 0, 1), (107, .getfield 18, 3), (110, .getfield 99, 3), (113, .bipush 7, 2), (115, .aload_n 1, 1), (116, .getfield 93, 3), (119, .iconst 2, 1), (120, .iaload, 1), (121, .iastore, 1), (122, .return_, 1)]
set_option maxRecDepth 20000 in
theorem dt_X8_sayWords : ∀ q ∈ dl_X8_sayWords, decode prog_10_method_7_code q.1 = .ok q.2 := by decide +kernel
def f_X8_sayWords (a1 : Nat) (x2 : Int32) (x3 : Int32) (h : Hp) : Option (Unit × Hp) :=
  (f_X6_nationOf a1 x2 h).bind fun v1 =>
  (inb x2 6).bind fun j7 =>
  (inb ((x2 * (3 : Int32)) + v1) 18).bind fun j13 =>
  (inb x2 6).bind fun j17 =>
  some ((), (sA (sA (sA (sA (sA (sA (sA (sA h 30 0 x2) 30 1 x3) 30 2 ((aI (sA (sA h 30 0 x2) 30 1 x3) (a1 + 3) j7) / (3 : Int32))) 30 3 v1) 30 4 (aI (sA (sA (sA (sA h 30 0 x2) 30 1 x3) 30 2 ((aI (sA (sA h 30 0 x2) 30 1 x3) (a1 + 3) j7) / (3 : Int32))) 30 3 v1) (a1 + 1) j13)) 30 5 (aI (sA (sA (sA (sA (sA h 30 0 x2) 30 1 x3) 30 2 ((aI (sA (sA h 30 0 x2) 30 1 x3) (a1 + 3) j7) / (3 : Int32))) 30 3 v1) 30 4 (aI (sA (sA (sA (sA h 30 0 x2) 30 1 x3) 30 2 ((aI (sA (sA h 30 0 x2) 30 1 x3) (a1 + 3) j7) / (3 : Int32))) 30 3 v1) (a1 + 1) j13)) (a1 + 2) j17)) 30 6 (aI (sA (sA (sA (sA (sA (sA h 30 0 x2) 30 1 x3) 30 2 ((aI (sA (sA h 30 0 x2) 30 1 x3) (a1 + 3) j7) / (3 : Int32))) 30 3 v1) 30 4 (aI (sA (sA (sA (sA h 30 0 x2) 30 1 x3) 30 2 ((aI (sA (sA h 30 0 x2) 30 1 x3) (a1 + 3) j7) / (3 : Int32))) 30 3 v1) (a1 + 1) j13)) 30 5 (aI (sA (sA (sA (sA (sA h 30 0 x2) 30 1 x3) 30 2 ((aI (sA (sA h 30 0 x2) 30 1 x3) (a1 + 3) j7) / (3 : Int32))) 30 3 v1) 30 4 (aI (sA (sA (sA (sA h 30 0 x2) 30 1 x3) 30 2 ((aI (sA (sA h 30 0 x2) 30 1 x3) (a1 + 3) j7) / (3 : Int32))) 30 3 v1) (a1 + 1) j13)) (a1 + 2) j17)) (a1 + 4) 0)) 30 7 (aI (sA (sA (sA (sA (sA (sA (sA h 30 0 x2) 30 1 x3) 30 2 ((aI (sA (sA h 30 0 x2) 30 1 x3) (a1 + 3) j7) / (3 : Int32))) 30 3 v1) 30 4 (aI (sA (sA (sA (sA h 30 0 x2) 30 1 x3) 30 2 ((aI (sA (sA h 30 0 x2) 30 1 x3) (a1 + 3) j7) / (3 : Int32))) 30 3 v1) (a1 + 1) j13)) 30 5 (aI (sA (sA (sA (sA (sA h 30 0 x2) 30 1 x3) 30 2 ((aI (sA (sA h 30 0 x2) 30 1 x3) (a1 + 3) j7) / (3 : Int32))) 30 3 v1) 30 4 (aI (sA (sA (sA (sA h 30 0 x2) 30 1 x3) 30 2 ((aI (sA (sA h 30 0 x2) 30 1 x3) (a1 + 3) j7) / (3 : Int32))) 30 3 v1) (a1 + 1) j13)) (a1 + 2) j17)) 30 6 (aI (sA (sA (sA (sA (sA (sA h 30 0 x2) 30 1 x3) 30 2 ((aI (sA (sA h 30 0 x2) 30 1 x3) (a1 + 3) j7) / (3 : Int32))) 30 3 v1) 30 4 (aI (sA (sA (sA (sA h 30 0 x2) 30 1 x3) 30 2 ((aI (sA (sA h 30 0 x2) 30 1 x3) (a1 + 3) j7) / (3 : Int32))) 30 3 v1) (a1 + 1) j13)) 30 5 (aI (sA (sA (sA (sA (sA h 30 0 x2) 30 1 x3) 30 2 ((aI (sA (sA h 30 0 x2) 30 1 x3) (a1 + 3) j7) / (3 : Int32))) 30 3 v1) 30 4 (aI (sA (sA (sA (sA h 30 0 x2) 30 1 x3) 30 2 ((aI (sA (sA h 30 0 x2) 30 1 x3) (a1 + 3) j7) / (3 : Int32))) 30 3 v1) (a1 + 1) j13)) (a1 + 2) j17)) (a1 + 4) 0)) (a1 + 4) 2)))
set_option maxRecDepth 20000 in
theorem w_X8_sayWords (a1 : Nat) (x2 : Int32) (x3 : Int32) (h : Hp) (q : (Unit × Hp)) (Ha1 : IsRoom a1) (hrun : f_X8_sayWords a1 x2 x3 h = some q) : MetA ⟨"SteamNations$Steam", "sayWords", "(LSteamNations$Room;II)V"⟩ prog_10_method_7_code 5 none 2 0 0 [.ref 56, .ref a1, .int x2, .int x3] h none q.2 := by
  refine metA_of (by decide) (Nat.le_of_ble_eq_true rfl) (fun X C K => ?_)
  have C : Cx X cn_8 prog_10_method_7_code 5 none 2 0 0 := C
  show G X h 0 0 0 [(0, .ref 56), (1, .ref a1), (2, .int x2), (3, .int x3)] []
  unfold f_X8_sayWords at hrun
  refine g_aload_n C (dat dt_X8_sayWords 0 rfl) 1 rfl ?_
  refine g_iload_n C (dat dt_X8_sayWords 1 rfl) 2 rfl ?_
  obtain ⟨v1, q2, hrun⟩ := bd hrun
  refine g_cVi [.int x2] C (dat dt_X8_sayWords 2 rfl) ml_8_48 (w_X6_nationOf a1 x2 h v1 Ha1 q2) Ha1.1 (rb0 Ha1) rfl rfl cat0 (by decide) c00 ?_
  refine g_istore (lv' := [(0, .ref 56), (1, .ref a1), (2, .int x2), (3, .int x3), (4, .int v1)]) C (dat dt_X8_sayWords 3 rfl) (by decide) rfl ?_
  refine g_aload_n C (dat dt_X8_sayWords 4 rfl) 0 rfl ?_
  refine g_getR C (dat dt_X8_sayWords 5 rfl) fl_8_18 kd_56 rfl ltk_56 ?_
  refine g_getR C (dat dt_X8_sayWords 6 rfl) fl_8_99 kd_29 rfl ltk_29 ?_
  refine g_iconst C (dat dt_X8_sayWords 7 rfl) ic_0 ?_
  refine g_iload_n C (dat dt_X8_sayWords 8 rfl) 2 rfl ?_
  refine g_iast (j := 0) C (dat dt_X8_sayWords 9 rfl) kd_30 ltk_30 (show inb (0 : Int32) 24 = some 0 by decide)  ?_
  refine g_aload_n C (dat dt_X8_sayWords 10 rfl) 0 rfl ?_
  refine g_getR C (dat dt_X8_sayWords 11 rfl) fl_8_18 kd_56 rfl ltk_56 ?_
  refine g_getR C (dat dt_X8_sayWords 12 rfl) fl_8_99 kd_29 rfl ltk_29 ?_
  refine g_iconst C (dat dt_X8_sayWords 13 rfl) ic_1 ?_
  refine g_iload_n C (dat dt_X8_sayWords 14 rfl) 3 rfl ?_
  refine g_iast (j := 1) C (dat dt_X8_sayWords 15 rfl) kd_30 ltk_30 (show inb (1 : Int32) 24 = some 1 by decide)  ?_
  refine g_aload_n C (dat dt_X8_sayWords 16 rfl) 0 rfl ?_
  refine g_getR C (dat dt_X8_sayWords 17 rfl) fl_8_18 kd_56 rfl ltk_56 ?_
  refine g_getR C (dat dt_X8_sayWords 18 rfl) fl_8_99 kd_29 rfl ltk_29 ?_
  refine g_iconst C (dat dt_X8_sayWords 19 rfl) ic_2 ?_
  refine g_aload_n C (dat dt_X8_sayWords 20 rfl) 1 rfl ?_
  refine g_getR C (dat dt_X8_sayWords 21 rfl) fl_8_76 Ha1.1 rfl (rb0 Ha1) ?_
  refine g_iload_n C (dat dt_X8_sayWords 22 rfl) 2 rfl ?_
  obtain ⟨j7, q8, hrun⟩ := bd hrun
  refine g_iald C (dat dt_X8_sayWords 23 rfl) Ha1.2.2.2.1 (rb3 Ha1) q8 ?_
  refine g_iconst C (dat dt_X8_sayWords 24 rfl) ic_3 ?_
  refine g_idiv C (dat dt_X8_sayWords 25 rfl) (by decide) ?_
  refine g_iast (j := 2) C (dat dt_X8_sayWords 26 rfl) kd_30 ltk_30 (show inb (2 : Int32) 24 = some 2 by decide)  ?_
  refine g_aload_n C (dat dt_X8_sayWords 27 rfl) 0 rfl ?_
  refine g_getR C (dat dt_X8_sayWords 28 rfl) fl_8_18 kd_56 rfl ltk_56 ?_
  refine g_getR C (dat dt_X8_sayWords 29 rfl) fl_8_99 kd_29 rfl ltk_29 ?_
  refine g_iconst C (dat dt_X8_sayWords 30 rfl) ic_3 ?_
  refine g_iload C (dat dt_X8_sayWords 31 rfl) 4 rfl ?_
  refine g_iast (j := 3) C (dat dt_X8_sayWords 32 rfl) kd_30 ltk_30 (show inb (3 : Int32) 24 = some 3 by decide)  ?_
  refine g_aload_n C (dat dt_X8_sayWords 33 rfl) 0 rfl ?_
  refine g_getR C (dat dt_X8_sayWords 34 rfl) fl_8_18 kd_56 rfl ltk_56 ?_
  refine g_getR C (dat dt_X8_sayWords 35 rfl) fl_8_99 kd_29 rfl ltk_29 ?_
  refine g_iconst C (dat dt_X8_sayWords 36 rfl) ic_4 ?_
  refine g_aload_n C (dat dt_X8_sayWords 37 rfl) 1 rfl ?_
  refine g_getR C (dat dt_X8_sayWords 38 rfl) fl_8_83 Ha1.1 rfl (rb0 Ha1) ?_
  refine g_iload_n C (dat dt_X8_sayWords 39 rfl) 2 rfl ?_
  refine g_iconst C (dat dt_X8_sayWords 40 rfl) ic_3 ?_
  refine g_imul C (dat dt_X8_sayWords 41 rfl) ?_
  refine g_iload C (dat dt_X8_sayWords 42 rfl) 4 rfl ?_
  refine g_iadd C (dat dt_X8_sayWords 43 rfl) ?_
  obtain ⟨j13, q14, hrun⟩ := bd hrun
  refine g_iald C (dat dt_X8_sayWords 44 rfl) Ha1.2.1 (rb1 Ha1) q14 ?_
  refine g_iast (j := 4) C (dat dt_X8_sayWords 45 rfl) kd_30 ltk_30 (show inb (4 : Int32) 24 = some 4 by decide)  ?_
  refine g_aload_n C (dat dt_X8_sayWords 46 rfl) 0 rfl ?_
  refine g_getR C (dat dt_X8_sayWords 47 rfl) fl_8_18 kd_56 rfl ltk_56 ?_
  refine g_getR C (dat dt_X8_sayWords 48 rfl) fl_8_99 kd_29 rfl ltk_29 ?_
  refine g_iconst C (dat dt_X8_sayWords 49 rfl) ic_5 ?_
  refine g_aload_n C (dat dt_X8_sayWords 50 rfl) 1 rfl ?_
  refine g_getR C (dat dt_X8_sayWords 51 rfl) fl_8_102 Ha1.1 rfl (rb0 Ha1) ?_
  refine g_iload_n C (dat dt_X8_sayWords 52 rfl) 2 rfl ?_
  obtain ⟨j17, q18, hrun⟩ := bd hrun
  refine g_iald C (dat dt_X8_sayWords 53 rfl) Ha1.2.2.1 (rb2 Ha1) q18 ?_
  refine g_iast (j := 5) C (dat dt_X8_sayWords 54 rfl) kd_30 ltk_30 (show inb (5 : Int32) 24 = some 5 by decide)  ?_
  refine g_aload_n C (dat dt_X8_sayWords 55 rfl) 0 rfl ?_
  refine g_getR C (dat dt_X8_sayWords 56 rfl) fl_8_18 kd_56 rfl ltk_56 ?_
  refine g_getR C (dat dt_X8_sayWords 57 rfl) fl_8_99 kd_29 rfl ltk_29 ?_
  refine g_bipush C (dat dt_X8_sayWords 58 rfl) bp_6 ?_
  refine g_aload_n C (dat dt_X8_sayWords 59 rfl) 1 rfl ?_
  refine g_getR C (dat dt_X8_sayWords 60 rfl) fl_8_93 Ha1.1 rfl (rb0 Ha1) ?_
  refine g_iconst C (dat dt_X8_sayWords 61 rfl) ic_0 ?_
  refine g_iald (j := 0) C (dat dt_X8_sayWords 62 rfl) Ha1.2.2.2.2.1 (rb4 Ha1) (show inb (0 : Int32) 3 = some 0 by decide) ?_
  refine g_iast (j := 6) C (dat dt_X8_sayWords 63 rfl) kd_30 ltk_30 (show inb (6 : Int32) 24 = some 6 by decide)  ?_
  refine g_aload_n C (dat dt_X8_sayWords 64 rfl) 0 rfl ?_
  refine g_getR C (dat dt_X8_sayWords 65 rfl) fl_8_18 kd_56 rfl ltk_56 ?_
  refine g_getR C (dat dt_X8_sayWords 66 rfl) fl_8_99 kd_29 rfl ltk_29 ?_
  refine g_bipush C (dat dt_X8_sayWords 67 rfl) bp_7 ?_
  refine g_aload_n C (dat dt_X8_sayWords 68 rfl) 1 rfl ?_
  refine g_getR C (dat dt_X8_sayWords 69 rfl) fl_8_93 Ha1.1 rfl (rb0 Ha1) ?_
  refine g_iconst C (dat dt_X8_sayWords 70 rfl) ic_2 ?_
  refine g_iald (j := 2) C (dat dt_X8_sayWords 71 rfl) Ha1.2.2.2.2.1 (rb4 Ha1) (show inb (2 : Int32) 3 = some 2 by decide) ?_
  refine g_iast (j := 7) C (dat dt_X8_sayWords 72 rfl) kd_30 ltk_30 (show inb (7 : Int32) 24 = some 7 by decide)  ?_
  cases hrun
  exact g_vret C K (dat dt_X8_sayWords 73 rfl)
/-! SteamNations$Machine.wordAt(I)I -/
def dl_X2_wordAt : List (Nat × Instr × Nat) := [(0, .iload_n 1, 1), (1, .ifCond .lt 21, 3), (4, .iload_n 1, 1), (5, .aload_n 0, 1), (6, .getfield 13, 3), (9, .arraylength, 1), (10, .if_icmp .ge 12, 3), (13, .aload_n 0, 1), (14, .getfield 13, 3), (17, .iload_n 1, 1), (18, .iaload, 1), (19, .goto 4, 3), (22, .iconst (-1), 1), (23, .ireturn, 1)]
set_option maxRecDepth 20000 in
theorem dt_X2_wordAt : ∀ q ∈ dl_X2_wordAt, decode prog_4_method_3_code q.1 = .ok q.2 := by decide +kernel
def f_X2_wordAt (x1 : Int32) (h : Hp) : Option Int32 :=
  if x1 < 0 then
  some (-1 : Int32)
  else
  if (24 : Int32) ≤ x1 then
  some (-1 : Int32)
  else
  (inb x1 24).bind fun j3 =>
  some (aI h 30 j3)
set_option maxRecDepth 20000 in
theorem w_X2_wordAt (x1 : Int32) (h : Hp) (q : Int32)  (hrun : f_X2_wordAt x1 h = some q) : MetA ⟨"SteamNations$Machine", "wordAt", "(I)I"⟩ prog_4_method_3_code 2 (some .int) 1 0 0 [.ref 29, .int x1] h (some (.int q)) h := by
  refine metA_of (by decide) (Nat.le_of_ble_eq_true rfl) (fun X C K => ?_)
  have C : Cx X cn_2 prog_4_method_3_code 2 (some .int) 1 0 0 := C
  show G X h 0 0 0 [(0, .ref 29), (1, .int x1)] []
  unfold f_X2_wordAt at hrun
  refine g_iload_n C (dat dt_X2_wordAt 0 rfl) 1 rfl ?_
  refine g_if_lt 22 C (dat dt_X2_wordAt 1 rfl) (by decide) (fun c1 => ?_) (fun c1 => ?_)
  · rw [if_pos c1] at hrun
    refine g_iconst C (dat dt_X2_wordAt 12 rfl) ic_m1 ?_
    cases hrun
    exact g_iret C K (dat dt_X2_wordAt 13 rfl)
  · rw [if_neg c1] at hrun
    refine g_iload_n C (dat dt_X2_wordAt 2 rfl) 1 rfl ?_
    refine g_aload_n C (dat dt_X2_wordAt 3 rfl) 0 rfl ?_
    refine g_getR C (dat dt_X2_wordAt 4 rfl) fl_2_13 kd_29 rfl ltk_29 ?_
    refine g_alen (v := (24 : Int32)) C (dat dt_X2_wordAt 5 rfl) kd_30 (by decide) ltk_30 rfl ?_
    refine g_ic_ge 22 C (dat dt_X2_wordAt 6 rfl) (by decide) (fun c2 => ?_) (fun c2 => ?_)
    · rw [if_pos c2] at hrun
      refine g_iconst C (dat dt_X2_wordAt 12 rfl) ic_m1 ?_
      cases hrun
      exact g_iret C K (dat dt_X2_wordAt 13 rfl)
    · rw [if_neg c2] at hrun
      refine g_aload_n C (dat dt_X2_wordAt 7 rfl) 0 rfl ?_
      refine g_getR C (dat dt_X2_wordAt 8 rfl) fl_2_13 kd_29 rfl ltk_29 ?_
      refine g_iload_n C (dat dt_X2_wordAt 9 rfl) 1 rfl ?_
      obtain ⟨j3, q4, hrun⟩ := bd hrun
      refine g_iald C (dat dt_X2_wordAt 10 rfl) kd_30 ltk_30 q4 ?_
      refine g_goto 23 C (dat dt_X2_wordAt 11 rfl) (by decide) ?_
      cases hrun
      exact g_iret C K (dat dt_X2_wordAt 13 rfl)
/-! SteamNations$Machine.join(III)I -/
def dl_X2_join : List (Nat × Instr × Nat) := [(0, .iload_n 2, 1), (1, .ifCond .ne 17, 3), (4, .iload_n 0, 1), (5, .iconst 5, 1), (6, .if_icmp .eq 9, 3), (9, .iload_n 0, 1), (10, .bipush 6, 2), (12, .if_icmp .ne 6, 3), (15, .ldc 39, 2), (17, .ireturn, 1), (18, .iload_n 1, 1), (19, .i2l, 1), (20, .lstore_n 3, 1), (21, .iload_n 0, 1), (22, .tableswitch 104 2 8 #[42, 50, 58, 66, 74, 82, 93], 42), (64, .lload_n 3, 1), (65, .iload_n 2, 1), (66, .i2l, 1), (67, .ladd, 1), (68, .lstore_n 3, 1), (69, .goto 68, 3), (72, .lload_n 3, 1), (73, .iload_n 2, 1), (74, .i2l, 1), (75, .lsub, 1), (76, .lstore_n 3, 1), (77, .goto 60, 3), (80, .lload_n 3, 1), (81, .iload_n 2, 1), (82, .i2l, 1), (83, .lmul, 1), (84, .lstore_n 3, 1), (85, .goto 52, 3), (88, .lload_n 3, 1), (89, .iload_n 2, 1), (90, .i2l, 1), (91, .ldiv, 1), (92, .lstore_n 3, 1), (93, .goto 44, 3), (96, .lload_n 3, 1), (97, .iload_n 2, 1), (98, .i2l, 1), (99, .lrem, 1), (100, .lstore_n 3, 1), (101, .goto 36, 3), (104, .iload_n 1, 1), (105, .iload_n 2, 1), (106, .if_icmp .ge 7, 3), (109, .iconst 1, 1), (110, .goto 4, 3), (113, .iconst 0, 1), (114, .ireturn, 1), (115, .iload_n 1, 1), (116, .iload_n 2, 1), (117, .if_icmp .le 7, 3), (120, .iconst 1, 1), (121, .goto 4, 3), (124, .iconst 0, 1), (125, .ireturn, 1), (126, .iload_n 1, 1), (127, .iload_n 2, 1), (128, .if_icmp .ne 7, 3), (131, .iconst 1, 1), (132, .goto 4, 3), (135, .iconst 0, 1), (136, .ireturn, 1), (137, .lload_n 3, 1), (138, .ldc2_w 48, 3), (141, .lcmp, 1), (142, .ifCond .gt 11, 3), (145, .lload_n 3, 1), (146, .ldc2_w 50, 3), (149, .lcmp, 1), (150, .ifCond .ge 8, 3), (153, .ldc 39, 2), (155, .goto 5, 3), (158, .lload_n 3, 1), (159, .l2i, 1), (160, .ireturn, 1)]
set_option maxRecDepth 20000 in
theorem dt_X2_join : ∀ q ∈ dl_X2_join, decode prog_4_method_4_code q.1 = .ok q.2 := by decide +kernel
def j_X2_join_137  (x3 : Int64) : Option Int32 :=
  if 0 < (lg_cmp x3 (1000000000 : Int64)) then
  some (-2147483648 : Int32)
  else
  if 0 ≤ (lg_cmp x3 (-1000000000 : Int64)) then
  some x3.toInt32
  else
  some (-2147483648 : Int32)
set_option maxRecDepth 20000 in
theorem wj_X2_join_137 {X : Xt} (C : Cx X cn_2 prog_4_method_4_code 5 (some .int) 1 0 0)    (x3 : Int64) (h : Hp) (q : Int32) (hrun : j_X2_join_137  x3 = some q) (K : EndQ X 0 0 (some (.int q)) h) : G X h 0 0 137 [(3, .long x3)] [] := by
  unfold j_X2_join_137 at hrun
  refine g_lload_n C (dat dt_X2_join 66 rfl) 0 rfl ?_
  refine g_ldc2 C (dat dt_X2_join 67 rfl) kc_2_48 ?_
  refine g_lcmp C (dat dt_X2_join 68 rfl) ?_
  refine g_if_gt 153 C (dat dt_X2_join 69 rfl) (by decide) (fun c6 => ?_) (fun c6 => ?_)
  · rw [if_pos c6] at hrun
    refine g_ldc C (dat dt_X2_join 74 rfl) kc_2_39 ?_
    refine g_goto 160 C (dat dt_X2_join 75 rfl) (by decide) ?_
    cases hrun
    exact g_iret C K (dat dt_X2_join 78 rfl)
  · rw [if_neg c6] at hrun
    refine g_lload_n C (dat dt_X2_join 70 rfl) 0 rfl ?_
    refine g_ldc2 C (dat dt_X2_join 71 rfl) kc_2_50 ?_
    refine g_lcmp C (dat dt_X2_join 72 rfl) ?_
    refine g_if_ge 158 C (dat dt_X2_join 73 rfl) (by decide) (fun c7 => ?_) (fun c7 => ?_)
    · rw [if_pos c7] at hrun
      refine g_lload_n C (dat dt_X2_join 76 rfl) 0 rfl ?_
      refine g_l2i C (dat dt_X2_join 77 rfl) ?_
      cases hrun
      exact g_iret C K (dat dt_X2_join 78 rfl)
    · rw [if_neg c7] at hrun
      refine g_ldc C (dat dt_X2_join 74 rfl) kc_2_39 ?_
      refine g_goto 160 C (dat dt_X2_join 75 rfl) (by decide) ?_
      cases hrun
      exact g_iret C K (dat dt_X2_join 78 rfl)
def j_X2_join_18  (x0 : Int32) (x1 : Int32) (x2 : Int32) : Option Int32 :=
  if x0.toInt < (2 : Int) ∨ (8 : Int) < x0.toInt then
  if x1 = x2 then
  some (1 : Int32)
  else
  some (0 : Int32)
  else if (x0.toInt - (2 : Int)).toNat = 0 then
  j_X2_join_137  ((x1).toInt64 + (x2).toInt64)
  else if (x0.toInt - (2 : Int)).toNat = 1 then
  j_X2_join_137  ((x1).toInt64 - (x2).toInt64)
  else if (x0.toInt - (2 : Int)).toNat = 2 then
  j_X2_join_137  ((x1).toInt64 * (x2).toInt64)
  else if (x0.toInt - (2 : Int)).toNat = 3 then
  if (x2).toInt64 = 0 then none else
  j_X2_join_137  ((x1).toInt64 / (x2).toInt64)
  else if (x0.toInt - (2 : Int)).toNat = 4 then
  if (x2).toInt64 = 0 then none else
  j_X2_join_137  ((x1).toInt64 - (x1).toInt64 / (x2).toInt64 * (x2).toInt64)
  else if (x0.toInt - (2 : Int)).toNat = 5 then
  if x2 ≤ x1 then
  some (0 : Int32)
  else
  some (1 : Int32)
  else if (x0.toInt - (2 : Int)).toNat = 6 then
  if x1 ≤ x2 then
  some (0 : Int32)
  else
  some (1 : Int32)
  else none
set_option maxRecDepth 20000 in
theorem wj_X2_join_18 {X : Xt} (C : Cx X cn_2 prog_4_method_4_code 5 (some .int) 1 0 0)    (x0 : Int32) (x1 : Int32) (x2 : Int32) (h : Hp) (q : Int32) (hrun : j_X2_join_18  x0 x1 x2 = some q) (K : EndQ X 0 0 (some (.int q)) h) : G X h 0 0 18 [(0, .int x0), (1, .int x1), (2, .int x2)] [] := by
  unfold j_X2_join_18 at hrun
  refine g_iload_n C (dat dt_X2_join 10 rfl) 1 rfl ?_
  refine g_i2l C (dat dt_X2_join 11 rfl) ?_
  refine g_lstore_n (lv' := [(0, .int x0), (1, .int x1), (2, .int x2), (3, .long (x1).toInt64)]) C (dat dt_X2_join 12 rfl) (by decide) rfl ?_
  refine g_iload_n C (dat dt_X2_join 13 rfl) 0 rfl ?_
  by_cases c2 : x0.toInt < (2 : Int) ∨ (8 : Int) < x0.toInt
  · rw [if_pos c2] at hrun
    refine g_tabO 126 C (dat dt_X2_join 14 rfl) c2 (by decide) ?_
    refine g_iload_n C (dat dt_X2_join 59 rfl) 1 rfl ?_
    refine g_iload_n C (dat dt_X2_join 60 rfl) 2 rfl ?_
    refine g_ic_ne 135 C (dat dt_X2_join 61 rfl) (by decide) (fun c5 => ?_) (fun c5 => ?_)
    · rw [if_neg c5] at hrun
      refine g_iconst C (dat dt_X2_join 64 rfl) ic_0 ?_
      cases hrun
      exact g_iret C K (dat dt_X2_join 65 rfl)
    · rw [if_pos c5] at hrun
      refine g_iconst C (dat dt_X2_join 62 rfl) ic_1 ?_
      refine g_goto 136 C (dat dt_X2_join 63 rfl) (by decide) ?_
      cases hrun
      exact g_iret C K (dat dt_X2_join 65 rfl)
  · rw [if_neg c2] at hrun
    by_cases c18 : (x0.toInt - (2 : Int)).toNat = 0
    · rw [if_pos c18] at hrun
      refine g_tabI 64 C (dat dt_X2_join 14 rfl) c2 c18.symm rfl (by decide) ?_
      refine g_lload_n C (dat dt_X2_join 15 rfl) 3 rfl ?_
      refine g_iload_n C (dat dt_X2_join 16 rfl) 2 rfl ?_
      refine g_i2l C (dat dt_X2_join 17 rfl) ?_
      refine g_ladd C (dat dt_X2_join 18 rfl) ?_
      refine g_lstore_n (lv' := [(0, .int x0), (1, .int x1), (2, .int x2), (3, .long ((x1).toInt64 + (x2).toInt64))]) C (dat dt_X2_join 19 rfl) (by decide) rfl ?_
      refine g_goto 137 C (dat dt_X2_join 20 rfl) (by decide) ?_
      refine g_sub [3] (lv' := [(3, .long ((x1).toInt64 + (x2).toInt64))]) rfl ?_
      exact wj_X2_join_137 C    ((x1).toInt64 + (x2).toInt64) h _ hrun K
    · rw [if_neg c18] at hrun
      by_cases c17 : (x0.toInt - (2 : Int)).toNat = 1
      · rw [if_pos c17] at hrun
        refine g_tabI 72 C (dat dt_X2_join 14 rfl) c2 c17.symm rfl (by decide) ?_
        refine g_lload_n C (dat dt_X2_join 21 rfl) 3 rfl ?_
        refine g_iload_n C (dat dt_X2_join 22 rfl) 2 rfl ?_
        refine g_i2l C (dat dt_X2_join 23 rfl) ?_
        refine g_lsub C (dat dt_X2_join 24 rfl) ?_
        refine g_lstore_n (lv' := [(0, .int x0), (1, .int x1), (2, .int x2), (3, .long ((x1).toInt64 - (x2).toInt64))]) C (dat dt_X2_join 25 rfl) (by decide) rfl ?_
        refine g_goto 137 C (dat dt_X2_join 26 rfl) (by decide) ?_
        refine g_sub [3] (lv' := [(3, .long ((x1).toInt64 - (x2).toInt64))]) rfl ?_
        exact wj_X2_join_137 C    ((x1).toInt64 - (x2).toInt64) h _ hrun K
      · rw [if_neg c17] at hrun
        by_cases c16 : (x0.toInt - (2 : Int)).toNat = 2
        · rw [if_pos c16] at hrun
          refine g_tabI 80 C (dat dt_X2_join 14 rfl) c2 c16.symm rfl (by decide) ?_
          refine g_lload_n C (dat dt_X2_join 27 rfl) 3 rfl ?_
          refine g_iload_n C (dat dt_X2_join 28 rfl) 2 rfl ?_
          refine g_i2l C (dat dt_X2_join 29 rfl) ?_
          refine g_lmul C (dat dt_X2_join 30 rfl) ?_
          refine g_lstore_n (lv' := [(0, .int x0), (1, .int x1), (2, .int x2), (3, .long ((x1).toInt64 * (x2).toInt64))]) C (dat dt_X2_join 31 rfl) (by decide) rfl ?_
          refine g_goto 137 C (dat dt_X2_join 32 rfl) (by decide) ?_
          refine g_sub [3] (lv' := [(3, .long ((x1).toInt64 * (x2).toInt64))]) rfl ?_
          exact wj_X2_join_137 C    ((x1).toInt64 * (x2).toInt64) h _ hrun K
        · rw [if_neg c16] at hrun
          by_cases c15 : (x0.toInt - (2 : Int)).toNat = 3
          · rw [if_pos c15] at hrun
            refine g_tabI 88 C (dat dt_X2_join 14 rfl) c2 c15.symm rfl (by decide) ?_
            refine g_lload_n C (dat dt_X2_join 33 rfl) 3 rfl ?_
            refine g_iload_n C (dat dt_X2_join 34 rfl) 2 rfl ?_
            refine g_i2l C (dat dt_X2_join 35 rfl) ?_
            by_cases c8 : (x2).toInt64 = 0
            · rw [if_pos c8] at hrun
              cases hrun
            · rw [if_neg c8] at hrun
              refine g_ldiv C (dat dt_X2_join 36 rfl) c8 ?_
              refine g_lstore_n (lv' := [(0, .int x0), (1, .int x1), (2, .int x2), (3, .long ((x1).toInt64 / (x2).toInt64))]) C (dat dt_X2_join 37 rfl) (by decide) rfl ?_
              refine g_goto 137 C (dat dt_X2_join 38 rfl) (by decide) ?_
              refine g_sub [3] (lv' := [(3, .long ((x1).toInt64 / (x2).toInt64))]) rfl ?_
              exact wj_X2_join_137 C    ((x1).toInt64 / (x2).toInt64) h _ hrun K
          · rw [if_neg c15] at hrun
            by_cases c14 : (x0.toInt - (2 : Int)).toNat = 4
            · rw [if_pos c14] at hrun
              refine g_tabI 96 C (dat dt_X2_join 14 rfl) c2 c14.symm rfl (by decide) ?_
              refine g_lload_n C (dat dt_X2_join 39 rfl) 3 rfl ?_
              refine g_iload_n C (dat dt_X2_join 40 rfl) 2 rfl ?_
              refine g_i2l C (dat dt_X2_join 41 rfl) ?_
              by_cases c9 : (x2).toInt64 = 0
              · rw [if_pos c9] at hrun
                cases hrun
              · rw [if_neg c9] at hrun
                refine g_lrem C (dat dt_X2_join 42 rfl) c9 ?_
                refine g_lstore_n (lv' := [(0, .int x0), (1, .int x1), (2, .int x2), (3, .long ((x1).toInt64 - (x1).toInt64 / (x2).toInt64 * (x2).toInt64))]) C (dat dt_X2_join 43 rfl) (by decide) rfl ?_
                refine g_goto 137 C (dat dt_X2_join 44 rfl) (by decide) ?_
                refine g_sub [3] (lv' := [(3, .long ((x1).toInt64 - (x1).toInt64 / (x2).toInt64 * (x2).toInt64))]) rfl ?_
                exact wj_X2_join_137 C    ((x1).toInt64 - (x1).toInt64 / (x2).toInt64 * (x2).toInt64) h _ hrun K
            · rw [if_neg c14] at hrun
              by_cases c13 : (x0.toInt - (2 : Int)).toNat = 5
              · rw [if_pos c13] at hrun
                refine g_tabI 104 C (dat dt_X2_join 14 rfl) c2 c13.symm rfl (by decide) ?_
                refine g_iload_n C (dat dt_X2_join 45 rfl) 1 rfl ?_
                refine g_iload_n C (dat dt_X2_join 46 rfl) 2 rfl ?_
                refine g_ic_ge 113 C (dat dt_X2_join 47 rfl) (by decide) (fun c10 => ?_) (fun c10 => ?_)
                · rw [if_pos c10] at hrun
                  refine g_iconst C (dat dt_X2_join 50 rfl) ic_0 ?_
                  cases hrun
                  exact g_iret C K (dat dt_X2_join 51 rfl)
                · rw [if_neg c10] at hrun
                  refine g_iconst C (dat dt_X2_join 48 rfl) ic_1 ?_
                  refine g_goto 114 C (dat dt_X2_join 49 rfl) (by decide) ?_
                  cases hrun
                  exact g_iret C K (dat dt_X2_join 51 rfl)
              · rw [if_neg c13] at hrun
                by_cases c12 : (x0.toInt - (2 : Int)).toNat = 6
                · rw [if_pos c12] at hrun
                  refine g_tabI 115 C (dat dt_X2_join 14 rfl) c2 c12.symm rfl (by decide) ?_
                  refine g_iload_n C (dat dt_X2_join 52 rfl) 1 rfl ?_
                  refine g_iload_n C (dat dt_X2_join 53 rfl) 2 rfl ?_
                  refine g_ic_le 124 C (dat dt_X2_join 54 rfl) (by decide) (fun c11 => ?_) (fun c11 => ?_)
                  · rw [if_pos c11] at hrun
                    refine g_iconst C (dat dt_X2_join 57 rfl) ic_0 ?_
                    cases hrun
                    exact g_iret C K (dat dt_X2_join 58 rfl)
                  · rw [if_neg c11] at hrun
                    refine g_iconst C (dat dt_X2_join 55 rfl) ic_1 ?_
                    refine g_goto 125 C (dat dt_X2_join 56 rfl) (by decide) ?_
                    cases hrun
                    exact g_iret C K (dat dt_X2_join 58 rfl)
                · rw [if_neg c12] at hrun
                  cases hrun
def f_X2_join (x0 : Int32) (x1 : Int32) (x2 : Int32) : Option Int32 :=
  if x2 = 0 then
  if x0 = (5 : Int32) then
  some (-2147483648 : Int32)
  else
  if x0 = (6 : Int32) then
  some (-2147483648 : Int32)
  else
  j_X2_join_18  x0 x1 x2
  else
  j_X2_join_18  x0 x1 x2
set_option maxRecDepth 20000 in
theorem w_X2_join (x0 : Int32) (x1 : Int32) (x2 : Int32) (h : Hp) (q : Int32)  (hrun : f_X2_join x0 x1 x2 = some q) : MetA ⟨"SteamNations$Machine", "join", "(III)I"⟩ prog_4_method_4_code 5 (some .int) 1 0 0 [.int x0, .int x1, .int x2] h (some (.int q)) h := by
  refine metA_of (by decide) (Nat.le_of_ble_eq_true rfl) (fun X C K => ?_)
  have C : Cx X cn_2 prog_4_method_4_code 5 (some .int) 1 0 0 := C
  show G X h 0 0 0 [(0, .int x0), (1, .int x1), (2, .int x2)] []
  unfold f_X2_join at hrun
  refine g_iload_n C (dat dt_X2_join 0 rfl) 2 rfl ?_
  refine g_if_ne 18 C (dat dt_X2_join 1 rfl) (by decide) (fun c1 => ?_) (fun c1 => ?_)
  · rw [if_neg c1] at hrun
    exact wj_X2_join_18 C    x0 x1 x2 h _ hrun K
  · rw [if_pos c1] at hrun
    refine g_iload_n C (dat dt_X2_join 2 rfl) 0 rfl ?_
    refine g_iconst C (dat dt_X2_join 3 rfl) ic_5 ?_
    refine g_ic_eq 15 C (dat dt_X2_join 4 rfl) (by decide) (fun c19 => ?_) (fun c19 => ?_)
    · rw [if_pos c19] at hrun
      refine g_ldc C (dat dt_X2_join 8 rfl) kc_2_39 ?_
      cases hrun
      exact g_iret C K (dat dt_X2_join 9 rfl)
    · rw [if_neg c19] at hrun
      refine g_iload_n C (dat dt_X2_join 5 rfl) 0 rfl ?_
      refine g_bipush C (dat dt_X2_join 6 rfl) bp_6 ?_
      refine g_ic_ne 18 C (dat dt_X2_join 7 rfl) (by decide) (fun c20 => ?_) (fun c20 => ?_)
      · rw [if_neg c20] at hrun
        exact wj_X2_join_18 C    x0 x1 x2 h _ hrun K
      · rw [if_pos c20] at hrun
        refine g_ldc C (dat dt_X2_join 8 rfl) kc_2_39 ?_
        cases hrun
        exact g_iret C K (dat dt_X2_join 9 rfl)
/-! SteamNations$Machine.workOut(LSteamNations$Text;II)I -/
def dl_X2_workOut : List (Nat × Instr × Nat) := [(0, .aload_n 1, 1), (1, .iload_n 2, 1), (2, .iload_n 3, 1), (3, .iconst 1, 1), (4, .iadd, 1), (5, .invokevirtual 22, 3), (8, .aload_n 1, 1), (9, .getfield 28, 3), (12, .arraylength, 1), (13, .iconst 2, 1), (14, .idiv, 1), (15, .invokestatic 31, 3), (18, .istore 4, 2), (20, .iconst 0, 1), (21, .istore 5, 2), (23, .aload_n 0, 1), (24, .getfield 19, 3), (27, .iconst 0, 1), (28, .iconst 1, 1), (29, .iastore, 1), (30, .iconst 0, 1), (31, .aload_n 1, 1), (32, .iload_n 2, 1), (33, .iload_n 3, 1), (34, .invokevirtual 22, 3), (37, .invokestatic 36, 3), (40, .istore 6, 2), (42, .iload 6, 2), (44, .iload 4, 2), (46, .if_icmp .ge 227, 3), (49, .aload_n 1, 1), (50, .getfield 28, 3), (53, .iload 6, 2), (55, .iconst 2, 1), (56, .imul, 1), (57, .iaload, 1), (58, .istore 7, 2), (60, .aload_n 1, 1), (61, .getfield 28, 3), (64, .iload 6, 2), (66, .iconst 2, 1), (67, .imul, 1), (68, .iconst 1, 1), (69, .iadd, 1), (70, .iaload, 1), (71, .istore 8, 2), (73, .iload 7, 2), (75, .iconst 1, 1), (76, .if_icmp .gt 45, 3), (79, .iload 5, 2), (81, .aload_n 0, 1), (82, .getfield 19, 3), (85, .arraylength, 1), (86, .if_icmp .lt 6, 3), (89, .ldc 39, 2), (91, .ireturn, 1), (92, .aload_n 0, 1), (93, .getfield 19, 3), (96, .iload 5, 2), (98, .iload 7, 2), (100, .ifCond .ne 8, 3), (103, .iload 8, 2), (105, .goto 9, 3), (108, .aload_n 0, 1), (109, .iload 8, 2), (111, .invokevirtual 40, 3), (114, .iastore, 1), (115, .iinc 5 1, 3), (118, .goto 149, 3), (121, .iload 7, 2), (123, .bipush 10, 2), (125, .if_icmp .ge 62, 3), (128, .iload 5, 2), (130, .iconst 2, 1), (131, .if_icmp .ge 6, 3), (134, .ldc 39, 2), (136, .ireturn, 1), (137, .iinc 5 (-1), 3), (140, .aload_n 0, 1), (141, .getfield 19, 3), (144, .iload 5, 2), (146, .iconst 1, 1), (147, .isub, 1), (148, .iload 7, 2), (150, .aload_n 0, 1), (151, .getfield 19, 3), (154, .iload 5, 2), (156, .iconst 1, 1), (157, .isub, 1), (158, .iaload, 1), (159, .aload_n 0, 1), (160, .getfield 19, 3), (163, .iload 5, 2), (165, .iaload, 1), (166, .invokestatic 44, 3), (169, .iastore, 1), (170, .aload_n 0, 1), (171, .getfield 19, 3), (174, .iload 5, 2), (176, .iconst 1, 1), (177, .isub, 1), (178, .iaload, 1), (179, .ldc 39, 2), (181, .if_icmp .ne 86, 3), (184, .ldc 39, 2), (186, .ireturn, 1), (187, .iload 5, 2), (189, .iconst 1, 1), (190, .if_icmp .ge 6, 3), (193, .ldc 39, 2), (195, .ireturn, 1), (196, .iload 7, 2), (198, .bipush 10, 2), (200, .if_icmp .ne 26, 3), (203, .aload_n 0, 1), (204, .getfield 19, 3), (207, .iload 5, 2), (209, .iconst 1, 1), (210, .isub, 1), (211, .iconst 1, 1), (212, .aload_n 0, 1), (213, .getfield 19, 3), (216, .iload 5, 2), (218, .iconst 1, 1), (219, .isub, 1), (220, .iaload, 1), (221, .isub, 1), (222, .iastore, 1), (223, .goto 44, 3), (226, .aload_n 0, 1), (227, .getfield 19, 3), (230, .iload 5, 2), (232, .iconst 1, 1), (233, .isub, 1), (234, .iaload, 1), (235, .iload 7, 2), (237, .bipush 12, 2), (239, .if_icmp .ne 7, 3), (242, .iconst 1, 1), (243, .goto 4, 3), (246, .iconst 0, 1), (247, .if_icmp .ne 17, 3), (250, .iload 6, 2), (252, .iload 8, 2), (254, .iconst 1, 1), (255, .isub, 1), (256, .invokestatic 36, 3), (259, .istore 6, 2), (261, .goto 6, 3), (264, .iinc 5 (-1), 3), (267, .iinc 6 1, 3), (270, .goto (-228), 3), (273, .aload_n 0, 1), (274, .getfield 19, 3), (277, .iconst 0, 1), (278, .iaload, 1), (279, .ireturn, 1)]
set_option maxRecDepth 20000 in
theorem dt_X2_workOut : ∀ q ∈ dl_X2_workOut, decode prog_4_method_2_code q.1 = .ok q.2 := by decide +kernel
def kp_X2_workOut_42 (a1 : Nat) (x4 : Int32) (X : Xt) (s : (Int32 × Int32 × Hp)) : Prop := G X s.2.2 0 0 42 [(0, .ref 29), (1, .ref a1), (4, .int x4), (5, .int s.1), (6, .int s.2.1)] []
def ke_X2_workOut_42 (a1 : Nat) (x4 : Int32) (X : Xt) (e : (Hp ⊕ Hp ⊕ Hp ⊕ Hp ⊕ Hp)) : Prop := match e with
  | .inl e => G X e 0 0 273 [(0, .ref 29)] []
  | .inr (.inl e) => G X e 0 0 193 [] []
  | .inr (.inr (.inl e)) => G X e 0 0 184 [] []
  | .inr (.inr (.inr (.inl e))) => G X e 0 0 134 [] []
  | .inr (.inr (.inr (.inr (e)))) => G X e 0 0 89 [] []
def j_X2_workOut_247_42 (a1 : Nat) (x4 : Int32) (x5 : Int32) (x6 : Int32) (x8 : Int32) (s0 : Int32) (s1 : Int32) (h : Hp) : Option ((Int32 × Int32 × Hp) ⊕ (Hp ⊕ Hp ⊕ Hp ⊕ Hp ⊕ Hp)) :=
  if s0 = s1 then
  (f_J9_max_7cf53 x6 (x8 - (1 : Int32))).bind fun v27 =>
  some (.inl (x5, (v27 + (1 : Int32)), h))
  else
  some (.inl ((x5 + (-1 : Int32)), (x6 + (1 : Int32)), h))
set_option maxRecDepth 20000 in
theorem wj_X2_workOut_247_42 {X : Xt} (C : Cx X cn_2 prog_4_method_2_code 9 (some .int) 2 0 0) (a1 : Nat)   (x4 : Int32) (x5 : Int32) (x6 : Int32) (x8 : Int32) (s0 : Int32) (s1 : Int32) (h : Hp) (q : (Int32 × Int32 × Hp) ⊕ (Hp ⊕ Hp ⊕ Hp ⊕ Hp ⊕ Hp)) (hrun : j_X2_workOut_247_42 a1 x4 x5 x6 x8 s0 s1 h = some q) (Ks : ∀ s, q = .inl s → kp_X2_workOut_42 a1 x4 X s) (Ke : ∀ e, q = .inr e → ke_X2_workOut_42 a1 x4 X e) : G X h 0 0 247 [(0, .ref 29), (1, .ref a1), (4, .int x4), (5, .int x5), (6, .int x6), (8, .int x8)] [.int s1, .int s0] := by
  unfold j_X2_workOut_247_42 at hrun
  refine g_ic_ne 264 C (dat dt_X2_workOut 141 rfl) (by decide) (fun c26 => ?_) (fun c26 => ?_)
  · rw [if_neg c26] at hrun
    refine g_iinc (v := (x5 + (-1 : Int32))) (lv' := [(0, .ref 29), (1, .ref a1), (4, .int x4), (5, .int (x5 + (-1 : Int32))), (6, .int x6), (8, .int x8)]) C (dat dt_X2_workOut 149 rfl) 3 rfl (congrArg (fun z => x5 + z) ic_m1) (by decide) rfl ?_
    refine g_iinc (v := (x6 + (1 : Int32))) (lv' := [(0, .ref 29), (1, .ref a1), (4, .int x4), (5, .int (x5 + (-1 : Int32))), (6, .int (x6 + (1 : Int32))), (8, .int x8)]) C (dat dt_X2_workOut 150 rfl) 4 rfl (congrArg (fun z => x6 + z) ic_1) (by decide) rfl ?_
    refine g_goto 42 C (dat dt_X2_workOut 151 rfl) (by decide) ?_
    refine g_sub [0, 1, 2, 3, 4] (lv' := [(0, .ref 29), (1, .ref a1), (4, .int x4), (5, .int (x5 + (-1 : Int32))), (6, .int (x6 + (1 : Int32)))]) rfl ?_
    cases hrun
    exact Ks ((x5 + (-1 : Int32)), (x6 + (1 : Int32)), h) rfl
  · rw [if_pos c26] at hrun
    refine g_iload C (dat dt_X2_workOut 142 rfl) 4 rfl ?_
    refine g_iload C (dat dt_X2_workOut 143 rfl) 5 rfl ?_
    refine g_iconst C (dat dt_X2_workOut 144 rfl) ic_1 ?_
    refine g_isub C (dat dt_X2_workOut 145 rfl) ?_
    obtain ⟨v27, q28, hrun⟩ := bd hrun
    refine g_cSi [.int x6, .int (x8 - (1 : Int32))] C (dat dt_X2_workOut 146 rfl) ml_2_36 (w_J9_max_7cf53 x6 (x8 - (1 : Int32)) h v27  q28) rfl rfl cat0 (by decide) c00 ?_
    refine g_istore (lv' := [(0, .ref 29), (1, .ref a1), (4, .int x4), (5, .int x5), (6, .int v27), (8, .int x8)]) C (dat dt_X2_workOut 147 rfl) (by decide) rfl ?_
    refine g_goto 267 C (dat dt_X2_workOut 148 rfl) (by decide) ?_
    refine g_iinc (v := (v27 + (1 : Int32))) (lv' := [(0, .ref 29), (1, .ref a1), (4, .int x4), (5, .int x5), (6, .int (v27 + (1 : Int32))), (8, .int x8)]) C (dat dt_X2_workOut 150 rfl) 4 rfl (congrArg (fun z => v27 + z) ic_1) (by decide) rfl ?_
    refine g_goto 42 C (dat dt_X2_workOut 151 rfl) (by decide) ?_
    refine g_sub [0, 1, 2, 3, 4] (lv' := [(0, .ref 29), (1, .ref a1), (4, .int x4), (5, .int x5), (6, .int (v27 + (1 : Int32)))]) rfl ?_
    cases hrun
    exact Ks (x5, (v27 + (1 : Int32)), h) rfl
def j_X2_workOut_114_42 (a1 : Nat) (x4 : Int32) (x5 : Int32) (x6 : Int32) (s1 : Int32) (s2 : Int32) (h : Hp) : Option ((Int32 × Int32 × Hp) ⊕ (Hp ⊕ Hp ⊕ Hp ⊕ Hp ⊕ Hp)) :=
  (inb s1 64).bind fun j49 =>
  some (.inl ((x5 + (1 : Int32)), (x6 + (1 : Int32)), (sA h 31 j49 s2)))
set_option maxRecDepth 20000 in
theorem wj_X2_workOut_114_42 {X : Xt} (C : Cx X cn_2 prog_4_method_2_code 9 (some .int) 2 0 0) (a1 : Nat)   (x4 : Int32) (x5 : Int32) (x6 : Int32) (s1 : Int32) (s2 : Int32) (h : Hp) (q : (Int32 × Int32 × Hp) ⊕ (Hp ⊕ Hp ⊕ Hp ⊕ Hp ⊕ Hp)) (hrun : j_X2_workOut_114_42 a1 x4 x5 x6 s1 s2 h = some q) (Ks : ∀ s, q = .inl s → kp_X2_workOut_42 a1 x4 X s) (Ke : ∀ e, q = .inr e → ke_X2_workOut_42 a1 x4 X e) : G X h 0 0 114 [(0, .ref 29), (1, .ref a1), (4, .int x4), (5, .int x5), (6, .int x6)] [.int s2, .int s1, .ref 31] := by
  unfold j_X2_workOut_114_42 at hrun
  obtain ⟨j49, q50, hrun⟩ := bd hrun
  refine g_iast (j := j49) C (dat dt_X2_workOut 66 rfl) kd_31 ltk_31 q50  ?_
  refine g_iinc (v := (x5 + (1 : Int32))) (lv' := [(0, .ref 29), (1, .ref a1), (4, .int x4), (5, .int (x5 + (1 : Int32))), (6, .int x6)]) C (dat dt_X2_workOut 67 rfl) 3 rfl (congrArg (fun z => x5 + z) ic_1) (by decide) rfl ?_
  refine g_goto 267 C (dat dt_X2_workOut 68 rfl) (by decide) ?_
  refine g_iinc (v := (x6 + (1 : Int32))) (lv' := [(0, .ref 29), (1, .ref a1), (4, .int x4), (5, .int (x5 + (1 : Int32))), (6, .int (x6 + (1 : Int32)))]) C (dat dt_X2_workOut 150 rfl) 4 rfl (congrArg (fun z => x6 + z) ic_1) (by decide) rfl ?_
  refine g_goto 42 C (dat dt_X2_workOut 151 rfl) (by decide) ?_
  cases hrun
  exact Ks ((x5 + (1 : Int32)), (x6 + (1 : Int32)), (sA h 31 j49 s2)) rfl
def b_X2_workOut_42 (a1 : Nat) (x4 : Int32) (x5 : Int32) (x6 : Int32) (h : Hp) : Option ((Int32 × Int32 × Hp) ⊕ (Hp ⊕ Hp ⊕ Hp ⊕ Hp ⊕ Hp)) :=
  if x4 ≤ x6 then
  some (.inr (.inl h))
  else
  if tg h a1 = true then
  (inb (x6 * (2 : Int32)) (ln h (a1 + 1))).bind fun j15 =>
  (inb ((x6 * (2 : Int32)) + (1 : Int32)) (ln h (a1 + 1))).bind fun j17 =>
  if (1 : Int32) < (aI h (a1 + 1) j15) then
  if (10 : Int32) ≤ (aI h (a1 + 1) j15) then
  if (1 : Int32) ≤ x5 then
  if (aI h (a1 + 1) j15) = (10 : Int32) then
  (inb (x5 - (1 : Int32)) 64).bind fun j29 =>
  (inb (x5 - (1 : Int32)) 64).bind fun j31 =>
  some (.inl (x5, (x6 + (1 : Int32)), (sA h 31 j31 ((1 : Int32) - (aI h 31 j29)))))
  else
  (inb (x5 - (1 : Int32)) 64).bind fun j23 =>
  if (aI h (a1 + 1) j15) = (12 : Int32) then
  j_X2_workOut_247_42 a1 x4 x5 x6 (aI h (a1 + 1) j17) (aI h 31 j23) (1 : Int32) h
  else
  j_X2_workOut_247_42 a1 x4 x5 x6 (aI h (a1 + 1) j17) (aI h 31 j23) (0 : Int32) h
  else
  some (.inr (.inr <| .inl h))
  else
  if (2 : Int32) ≤ x5 then
  (inb ((x5 + (-1 : Int32)) - (1 : Int32)) 64).bind fun j34 =>
  (inb (x5 + (-1 : Int32)) 64).bind fun j36 =>
  (f_X2_join (aI h (a1 + 1) j15) (aI h 31 j34) (aI h 31 j36)).bind fun v38 =>
  (inb ((x5 + (-1 : Int32)) - (1 : Int32)) 64).bind fun j40 =>
  (inb ((x5 + (-1 : Int32)) - (1 : Int32)) 64).bind fun j42 =>
  if (aI (sA h 31 j40 v38) 31 j42) = (-2147483648 : Int32) then
  some (.inr (.inr <| .inr <| .inl (sA h 31 j40 v38)))
  else
  some (.inl ((x5 + (-1 : Int32)), (x6 + (1 : Int32)), (sA h 31 j40 v38)))
  else
  some (.inr (.inr <| .inr <| .inr <| .inl h))
  else
  if x5 < (64 : Int32) then
  if (aI h (a1 + 1) j15) = 0 then
  j_X2_workOut_114_42 a1 x4 x5 x6 x5 (aI h (a1 + 1) j17) h
  else
  (f_X2_wordAt (aI h (a1 + 1) j17) h).bind fun v47 =>
  j_X2_workOut_114_42 a1 x4 x5 x6 x5 v47 h
  else
  some (.inr (.inr <| .inr <| .inr <| .inr <| id h))
  else none
set_option maxRecDepth 20000 in
theorem wb_X2_workOut_42 {X : Xt} (C : Cx X cn_2 prog_4_method_2_code 9 (some .int) 2 0 0) (a1 : Nat)  (x4 : Int32) (x5 : Int32) (x6 : Int32) (h : Hp) (q : (Int32 × Int32 × Hp) ⊕ (Hp ⊕ Hp ⊕ Hp ⊕ Hp ⊕ Hp)) (hrun : b_X2_workOut_42 a1 x4 x5 x6 h = some q) (Ks : ∀ s, q = .inl s → kp_X2_workOut_42 a1 x4 X s) (Ke : ∀ e, q = .inr e → ke_X2_workOut_42 a1 x4 X e) : kp_X2_workOut_42 a1 x4 X (x5, x6, h) := by
  show G X h 0 0 42 [(0, .ref 29), (1, .ref a1), (4, .int x4), (5, .int x5), (6, .int x6)] []
  unfold b_X2_workOut_42 at hrun
  refine g_iload C (dat dt_X2_workOut 27 rfl) 4 rfl ?_
  refine g_iload C (dat dt_X2_workOut 28 rfl) 2 rfl ?_
  refine g_ic_ge 273 C (dat dt_X2_workOut 29 rfl) (by decide) (fun c13 => ?_) (fun c13 => ?_)
  · rw [if_pos c13] at hrun
    refine g_sub [0] (lv' := [(0, .ref 29)]) rfl ?_
    cases hrun
    exact Ke (.inl h) rfl
  · rw [if_neg c13] at hrun
    refine g_aload_n C (dat dt_X2_workOut 30 rfl) 1 rfl ?_
    by_cases g14 : tg h a1 = true
    · rw [if_pos g14] at hrun
      refine g_getR C (dat dt_X2_workOut 31 rfl) fl_2_28 (tg_spec g14).1 rfl (tb0 g14) ?_
      refine g_iload C (dat dt_X2_workOut 32 rfl) 4 rfl ?_
      refine g_iconst C (dat dt_X2_workOut 33 rfl) ic_2 ?_
      refine g_imul C (dat dt_X2_workOut 34 rfl) ?_
      obtain ⟨j15, q16, hrun⟩ := bd hrun
      refine g_iald C (dat dt_X2_workOut 35 rfl) (tg_spec g14).2.1 (tb1 g14) q16 ?_
      refine g_istore (lv' := [(0, .ref 29), (1, .ref a1), (4, .int x4), (5, .int x5), (6, .int x6), (7, .int (aI h (a1 + 1) j15))]) C (dat dt_X2_workOut 36 rfl) (by decide) rfl ?_
      refine g_aload_n C (dat dt_X2_workOut 37 rfl) 1 rfl ?_
      refine g_getR C (dat dt_X2_workOut 38 rfl) fl_2_28 (tg_spec g14).1 rfl (tb0 g14) ?_
      refine g_iload C (dat dt_X2_workOut 39 rfl) 4 rfl ?_
      refine g_iconst C (dat dt_X2_workOut 40 rfl) ic_2 ?_
      refine g_imul C (dat dt_X2_workOut 41 rfl) ?_
      refine g_iconst C (dat dt_X2_workOut 42 rfl) ic_1 ?_
      refine g_iadd C (dat dt_X2_workOut 43 rfl) ?_
      obtain ⟨j17, q18, hrun⟩ := bd hrun
      refine g_iald C (dat dt_X2_workOut 44 rfl) (tg_spec g14).2.1 (tb1 g14) q18 ?_
      refine g_istore (lv' := [(0, .ref 29), (1, .ref a1), (4, .int x4), (5, .int x5), (6, .int x6), (7, .int (aI h (a1 + 1) j15)), (8, .int (aI h (a1 + 1) j17))]) C (dat dt_X2_workOut 45 rfl) (by decide) rfl ?_
      refine g_iload C (dat dt_X2_workOut 46 rfl) 5 rfl ?_
      refine g_iconst C (dat dt_X2_workOut 47 rfl) ic_1 ?_
      refine g_ic_gt 121 C (dat dt_X2_workOut 48 rfl) (by decide) (fun c19 => ?_) (fun c19 => ?_)
      · rw [if_pos c19] at hrun
        refine g_iload C (dat dt_X2_workOut 69 rfl) 5 rfl ?_
        refine g_bipush C (dat dt_X2_workOut 70 rfl) bp_10 ?_
        refine g_ic_ge 187 C (dat dt_X2_workOut 71 rfl) (by decide) (fun c20 => ?_) (fun c20 => ?_)
        · rw [if_pos c20] at hrun
          refine g_iload C (dat dt_X2_workOut 106 rfl) 3 rfl ?_
          refine g_iconst C (dat dt_X2_workOut 107 rfl) ic_1 ?_
          refine g_ic_ge 196 C (dat dt_X2_workOut 108 rfl) (by decide) (fun c21 => ?_) (fun c21 => ?_)
          · rw [if_pos c21] at hrun
            refine g_iload C (dat dt_X2_workOut 111 rfl) 5 rfl ?_
            refine g_bipush C (dat dt_X2_workOut 112 rfl) bp_10 ?_
            refine g_ic_ne 226 C (dat dt_X2_workOut 113 rfl) (by decide) (fun c22 => ?_) (fun c22 => ?_)
            · rw [if_neg c22] at hrun
              refine g_aload_n C (dat dt_X2_workOut 129 rfl) 0 rfl ?_
              refine g_getR C (dat dt_X2_workOut 130 rfl) fl_2_19 kd_29 rfl ltk_29 ?_
              refine g_iload C (dat dt_X2_workOut 131 rfl) 3 rfl ?_
              refine g_iconst C (dat dt_X2_workOut 132 rfl) ic_1 ?_
              refine g_isub C (dat dt_X2_workOut 133 rfl) ?_
              obtain ⟨j23, q24, hrun⟩ := bd hrun
              refine g_iald C (dat dt_X2_workOut 134 rfl) kd_31 ltk_31 q24 ?_
              refine g_iload C (dat dt_X2_workOut 135 rfl) 5 rfl ?_
              refine g_bipush C (dat dt_X2_workOut 136 rfl) bp_12 ?_
              refine g_ic_ne 246 C (dat dt_X2_workOut 137 rfl) (by decide) (fun c25 => ?_) (fun c25 => ?_)
              · rw [if_neg c25] at hrun
                refine g_iconst C (dat dt_X2_workOut 140 rfl) ic_0 ?_
                refine g_sub [0, 1, 2, 3, 4, 6] (lv' := [(0, .ref 29), (1, .ref a1), (4, .int x4), (5, .int x5), (6, .int x6), (8, .int (aI h (a1 + 1) j17))]) rfl ?_
                exact wj_X2_workOut_247_42 C a1   x4 x5 x6 (aI h (a1 + 1) j17) (aI h 31 j23) (0 : Int32) h _ hrun Ks Ke
              · rw [if_pos c25] at hrun
                refine g_iconst C (dat dt_X2_workOut 138 rfl) ic_1 ?_
                refine g_goto 247 C (dat dt_X2_workOut 139 rfl) (by decide) ?_
                refine g_sub [0, 1, 2, 3, 4, 6] (lv' := [(0, .ref 29), (1, .ref a1), (4, .int x4), (5, .int x5), (6, .int x6), (8, .int (aI h (a1 + 1) j17))]) rfl ?_
                exact wj_X2_workOut_247_42 C a1   x4 x5 x6 (aI h (a1 + 1) j17) (aI h 31 j23) (1 : Int32) h _ hrun Ks Ke
            · rw [if_pos c22] at hrun
              refine g_aload_n C (dat dt_X2_workOut 114 rfl) 0 rfl ?_
              refine g_getR C (dat dt_X2_workOut 115 rfl) fl_2_19 kd_29 rfl ltk_29 ?_
              refine g_iload C (dat dt_X2_workOut 116 rfl) 3 rfl ?_
              refine g_iconst C (dat dt_X2_workOut 117 rfl) ic_1 ?_
              refine g_isub C (dat dt_X2_workOut 118 rfl) ?_
              refine g_iconst C (dat dt_X2_workOut 119 rfl) ic_1 ?_
              refine g_aload_n C (dat dt_X2_workOut 120 rfl) 0 rfl ?_
              refine g_getR C (dat dt_X2_workOut 121 rfl) fl_2_19 kd_29 rfl ltk_29 ?_
              refine g_iload C (dat dt_X2_workOut 122 rfl) 3 rfl ?_
              refine g_iconst C (dat dt_X2_workOut 123 rfl) ic_1 ?_
              refine g_isub C (dat dt_X2_workOut 124 rfl) ?_
              obtain ⟨j29, q30, hrun⟩ := bd hrun
              refine g_iald C (dat dt_X2_workOut 125 rfl) kd_31 ltk_31 q30 ?_
              refine g_isub C (dat dt_X2_workOut 126 rfl) ?_
              obtain ⟨j31, q32, hrun⟩ := bd hrun
              refine g_iast (j := j31) C (dat dt_X2_workOut 127 rfl) kd_31 ltk_31 q32  ?_
              refine g_goto 267 C (dat dt_X2_workOut 128 rfl) (by decide) ?_
              refine g_iinc (v := (x6 + (1 : Int32))) (lv' := [(0, .ref 29), (1, .ref a1), (4, .int x4), (5, .int x5), (6, .int (x6 + (1 : Int32))), (7, .int (aI h (a1 + 1) j15)), (8, .int (aI h (a1 + 1) j17))]) C (dat dt_X2_workOut 150 rfl) 4 rfl (congrArg (fun z => x6 + z) ic_1) (by decide) rfl ?_
              refine g_goto 42 C (dat dt_X2_workOut 151 rfl) (by decide) ?_
              refine g_sub [0, 1, 2, 3, 4] (lv' := [(0, .ref 29), (1, .ref a1), (4, .int x4), (5, .int x5), (6, .int (x6 + (1 : Int32)))]) rfl ?_
              cases hrun
              exact Ks (x5, (x6 + (1 : Int32)), (sA h 31 j31 ((1 : Int32) - (aI h 31 j29)))) rfl
          · rw [if_neg c21] at hrun
            refine g_sub [] (lv' := []) rfl ?_
            cases hrun
            exact Ke (.inr <| .inl h) rfl
        · rw [if_neg c20] at hrun
          refine g_iload C (dat dt_X2_workOut 72 rfl) 3 rfl ?_
          refine g_iconst C (dat dt_X2_workOut 73 rfl) ic_2 ?_
          refine g_ic_ge 137 C (dat dt_X2_workOut 74 rfl) (by decide) (fun c33 => ?_) (fun c33 => ?_)
          · rw [if_pos c33] at hrun
            refine g_iinc (v := (x5 + (-1 : Int32))) (lv' := [(0, .ref 29), (1, .ref a1), (4, .int x4), (5, .int (x5 + (-1 : Int32))), (6, .int x6), (7, .int (aI h (a1 + 1) j15)), (8, .int (aI h (a1 + 1) j17))]) C (dat dt_X2_workOut 77 rfl) 3 rfl (congrArg (fun z => x5 + z) ic_m1) (by decide) rfl ?_
            refine g_aload_n C (dat dt_X2_workOut 78 rfl) 0 rfl ?_
            refine g_getR C (dat dt_X2_workOut 79 rfl) fl_2_19 kd_29 rfl ltk_29 ?_
            refine g_iload C (dat dt_X2_workOut 80 rfl) 3 rfl ?_
            refine g_iconst C (dat dt_X2_workOut 81 rfl) ic_1 ?_
            refine g_isub C (dat dt_X2_workOut 82 rfl) ?_
            refine g_iload C (dat dt_X2_workOut 83 rfl) 5 rfl ?_
            refine g_aload_n C (dat dt_X2_workOut 84 rfl) 0 rfl ?_
            refine g_getR C (dat dt_X2_workOut 85 rfl) fl_2_19 kd_29 rfl ltk_29 ?_
            refine g_iload C (dat dt_X2_workOut 86 rfl) 3 rfl ?_
            refine g_iconst C (dat dt_X2_workOut 87 rfl) ic_1 ?_
            refine g_isub C (dat dt_X2_workOut 88 rfl) ?_
            obtain ⟨j34, q35, hrun⟩ := bd hrun
            refine g_iald C (dat dt_X2_workOut 89 rfl) kd_31 ltk_31 q35 ?_
            refine g_aload_n C (dat dt_X2_workOut 90 rfl) 0 rfl ?_
            refine g_getR C (dat dt_X2_workOut 91 rfl) fl_2_19 kd_29 rfl ltk_29 ?_
            refine g_iload C (dat dt_X2_workOut 92 rfl) 3 rfl ?_
            obtain ⟨j36, q37, hrun⟩ := bd hrun
            refine g_iald C (dat dt_X2_workOut 93 rfl) kd_31 ltk_31 q37 ?_
            obtain ⟨v38, q39, hrun⟩ := bd hrun
            refine g_cSi [.int (aI h (a1 + 1) j15), .int (aI h 31 j34), .int (aI h 31 j36)] C (dat dt_X2_workOut 94 rfl) ml_2_44 (w_X2_join (aI h (a1 + 1) j15) (aI h 31 j34) (aI h 31 j36) h v38  q39) rfl rfl (Nat.le_of_ble_eq_true rfl) (by decide) c00 ?_
            obtain ⟨j40, q41, hrun⟩ := bd hrun
            refine g_iast (j := j40) C (dat dt_X2_workOut 95 rfl) kd_31 ltk_31 q41  ?_
            refine g_aload_n C (dat dt_X2_workOut 96 rfl) 0 rfl ?_
            refine g_getR C (dat dt_X2_workOut 97 rfl) fl_2_19 kd_29 rfl ltk_29 ?_
            refine g_iload C (dat dt_X2_workOut 98 rfl) 3 rfl ?_
            refine g_iconst C (dat dt_X2_workOut 99 rfl) ic_1 ?_
            refine g_isub C (dat dt_X2_workOut 100 rfl) ?_
            obtain ⟨j42, q43, hrun⟩ := bd hrun
            refine g_iald C (dat dt_X2_workOut 101 rfl) kd_31 ltk_31 q43 ?_
            refine g_ldc C (dat dt_X2_workOut 102 rfl) kc_2_39 ?_
            refine g_ic_ne 267 C (dat dt_X2_workOut 103 rfl) (by decide) (fun c44 => ?_) (fun c44 => ?_)
            · rw [if_neg c44] at hrun
              refine g_iinc (v := (x6 + (1 : Int32))) (lv' := [(0, .ref 29), (1, .ref a1), (4, .int x4), (5, .int (x5 + (-1 : Int32))), (6, .int (x6 + (1 : Int32))), (7, .int (aI h (a1 + 1) j15)), (8, .int (aI h (a1 + 1) j17))]) C (dat dt_X2_workOut 150 rfl) 4 rfl (congrArg (fun z => x6 + z) ic_1) (by decide) rfl ?_
              refine g_goto 42 C (dat dt_X2_workOut 151 rfl) (by decide) ?_
              refine g_sub [0, 1, 2, 3, 4] (lv' := [(0, .ref 29), (1, .ref a1), (4, .int x4), (5, .int (x5 + (-1 : Int32))), (6, .int (x6 + (1 : Int32)))]) rfl ?_
              cases hrun
              exact Ks ((x5 + (-1 : Int32)), (x6 + (1 : Int32)), (sA h 31 j40 v38)) rfl
            · rw [if_pos c44] at hrun
              refine g_sub [] (lv' := []) rfl ?_
              cases hrun
              exact Ke (.inr <| .inr <| .inl (sA h 31 j40 v38)) rfl
          · rw [if_neg c33] at hrun
            refine g_sub [] (lv' := []) rfl ?_
            cases hrun
            exact Ke (.inr <| .inr <| .inr <| .inl h) rfl
      · rw [if_neg c19] at hrun
        refine g_iload C (dat dt_X2_workOut 49 rfl) 3 rfl ?_
        refine g_aload_n C (dat dt_X2_workOut 50 rfl) 0 rfl ?_
        refine g_getR C (dat dt_X2_workOut 51 rfl) fl_2_19 kd_29 rfl ltk_29 ?_
        refine g_alen (v := (64 : Int32)) C (dat dt_X2_workOut 52 rfl) kd_31 (by decide) ltk_31 rfl ?_
        refine g_ic_lt 92 C (dat dt_X2_workOut 53 rfl) (by decide) (fun c45 => ?_) (fun c45 => ?_)
        · rw [if_pos c45] at hrun
          refine g_aload_n C (dat dt_X2_workOut 56 rfl) 0 rfl ?_
          refine g_getR C (dat dt_X2_workOut 57 rfl) fl_2_19 kd_29 rfl ltk_29 ?_
          refine g_iload C (dat dt_X2_workOut 58 rfl) 3 rfl ?_
          refine g_iload C (dat dt_X2_workOut 59 rfl) 5 rfl ?_
          refine g_if_ne 108 C (dat dt_X2_workOut 60 rfl) (by decide) (fun c46 => ?_) (fun c46 => ?_)
          · rw [if_neg c46] at hrun
            refine g_aload_n C (dat dt_X2_workOut 63 rfl) 0 rfl ?_
            refine g_iload C (dat dt_X2_workOut 64 rfl) 6 rfl ?_
            obtain ⟨v47, q48, hrun⟩ := bd hrun
            refine g_cVi [.int (aI h (a1 + 1) j17)] C (dat dt_X2_workOut 65 rfl) ml_2_40 (w_X2_wordAt (aI h (a1 + 1) j17) h v47  q48) kd_29 ltk_29 rfl rfl (Nat.le_of_ble_eq_true rfl) (by decide) c00 ?_
            refine g_sub [0, 1, 2, 3, 4] (lv' := [(0, .ref 29), (1, .ref a1), (4, .int x4), (5, .int x5), (6, .int x6)]) rfl ?_
            exact wj_X2_workOut_114_42 C a1   x4 x5 x6 x5 v47 h _ hrun Ks Ke
          · rw [if_pos c46] at hrun
            refine g_iload C (dat dt_X2_workOut 61 rfl) 6 rfl ?_
            refine g_goto 114 C (dat dt_X2_workOut 62 rfl) (by decide) ?_
            refine g_sub [0, 1, 2, 3, 4] (lv' := [(0, .ref 29), (1, .ref a1), (4, .int x4), (5, .int x5), (6, .int x6)]) rfl ?_
            exact wj_X2_workOut_114_42 C a1   x4 x5 x6 x5 (aI h (a1 + 1) j17) h _ hrun Ks Ke
        · rw [if_neg c45] at hrun
          refine g_sub [] (lv' := []) rfl ?_
          cases hrun
          exact Ke (.inr <| .inr <| .inr <| .inr <| id h) rfl
    · rw [if_neg g14] at hrun
      cases hrun
def f_X2_workOut (a1 : Nat) (x2 : Int32) (x3 : Int32) (h : Hp) : Option (Int32 × Hp) :=
  if tg h a1 = true then
  (f_X9_markOf a1 x2 (x3 + (1 : Int32)) h).bind fun v2 =>
  (f_J9_min_7cf53 v2 ((Int32.ofNat (ln h (a1 + 1))) / (2 : Int32))).bind fun v4 =>
  if tg (sA h 31 0 (1 : Int32)) a1 = true then
  (f_X9_markOf a1 x2 x3 (sA h 31 0 (1 : Int32))).bind fun v9 =>
  (f_J9_max_7cf53 (0 : Int32) v9).bind fun v11 =>
  (lp (fun s => b_X2_workOut_42 a1 v4 s.1 s.2.1 s.2.2) FU ((0 : Int32), v11, (sA h 31 0 (1 : Int32)))).bind fun e51 =>
  sc e51 (fun e53 =>
  some ((aI e53 31 0), e53)) (fun e54 =>
  sc e54 (fun e55 =>
  some ((-2147483648 : Int32), e55)) (fun e56 =>
  sc e56 (fun e57 =>
  some ((-2147483648 : Int32), e57)) (fun e58 =>
  sc e58 (fun e59 =>
  some ((-2147483648 : Int32), e59)) (fun e60 =>
  some ((-2147483648 : Int32), e60)))))
  else none
  else none
set_option maxRecDepth 20000 in
theorem w_X2_workOut (a1 : Nat) (x2 : Int32) (x3 : Int32) (h : Hp) (q : (Int32 × Hp))  (hrun : f_X2_workOut a1 x2 x3 h = some q) : MetA ⟨"SteamNations$Machine", "workOut", "(LSteamNations$Text;II)I"⟩ prog_4_method_2_code 9 (some .int) 2 0 0 [.ref 29, .ref a1, .int x2, .int x3] h (some (.int q.1)) q.2 := by
  refine metA_of (by decide) (Nat.le_of_ble_eq_true rfl) (fun X C K => ?_)
  have C : Cx X cn_2 prog_4_method_2_code 9 (some .int) 2 0 0 := C
  show G X h 0 0 0 [(0, .ref 29), (1, .ref a1), (2, .int x2), (3, .int x3)] []
  unfold f_X2_workOut at hrun
  refine g_aload_n C (dat dt_X2_workOut 0 rfl) 1 rfl ?_
  refine g_iload_n C (dat dt_X2_workOut 1 rfl) 2 rfl ?_
  refine g_iload_n C (dat dt_X2_workOut 2 rfl) 3 rfl ?_
  refine g_iconst C (dat dt_X2_workOut 3 rfl) ic_1 ?_
  refine g_iadd C (dat dt_X2_workOut 4 rfl) ?_
  by_cases g1 : tg h a1 = true
  · rw [if_pos g1] at hrun
    obtain ⟨v2, q3, hrun⟩ := bd hrun
    refine g_cVi [.int x2, .int (x3 + (1 : Int32))] C (dat dt_X2_workOut 5 rfl) ml_2_22 (w_X9_markOf a1 x2 (x3 + (1 : Int32)) h v2  q3) (tg_spec g1).1 (tb0 g1) rfl rfl cat0 (by decide) c00 ?_
    refine g_aload_n C (dat dt_X2_workOut 6 rfl) 1 rfl ?_
    refine g_getR C (dat dt_X2_workOut 7 rfl) fl_2_28 (tg_spec g1).1 rfl (tb0 g1) ?_
    refine g_alen (v := (Int32.ofNat (ln h (a1 + 1)))) C (dat dt_X2_workOut 8 rfl) (tg_spec g1).2.1 (by decide) (tb1 g1) rfl ?_
    refine g_iconst C (dat dt_X2_workOut 9 rfl) ic_2 ?_
    refine g_idiv C (dat dt_X2_workOut 10 rfl) (by decide) ?_
    obtain ⟨v4, q5, hrun⟩ := bd hrun
    refine g_cSi [.int v2, .int ((Int32.ofNat (ln h (a1 + 1))) / (2 : Int32))] C (dat dt_X2_workOut 11 rfl) ml_2_31 (w_J9_min_7cf53 v2 ((Int32.ofNat (ln h (a1 + 1))) / (2 : Int32)) h v4  q5) rfl rfl cat0 (by decide) c00 ?_
    refine g_istore (lv' := [(0, .ref 29), (1, .ref a1), (2, .int x2), (3, .int x3), (4, .int v4)]) C (dat dt_X2_workOut 12 rfl) (by decide) rfl ?_
    refine g_iconst C (dat dt_X2_workOut 13 rfl) ic_0 ?_
    refine g_istore (lv' := [(0, .ref 29), (1, .ref a1), (2, .int x2), (3, .int x3), (4, .int v4), (5, .int (0 : Int32))]) C (dat dt_X2_workOut 14 rfl) (by decide) rfl ?_
    refine g_aload_n C (dat dt_X2_workOut 15 rfl) 0 rfl ?_
    refine g_getR C (dat dt_X2_workOut 16 rfl) fl_2_19 kd_29 rfl ltk_29 ?_
    refine g_iconst C (dat dt_X2_workOut 17 rfl) ic_0 ?_
    refine g_iconst C (dat dt_X2_workOut 18 rfl) ic_1 ?_
    refine g_iast (j := 0) C (dat dt_X2_workOut 19 rfl) kd_31 ltk_31 (show inb (0 : Int32) 64 = some 0 by decide)  ?_
    refine g_iconst C (dat dt_X2_workOut 20 rfl) ic_0 ?_
    refine g_aload_n C (dat dt_X2_workOut 21 rfl) 1 rfl ?_
    refine g_iload_n C (dat dt_X2_workOut 22 rfl) 2 rfl ?_
    refine g_iload_n C (dat dt_X2_workOut 23 rfl) 3 rfl ?_
    by_cases g8 : tg (sA h 31 0 (1 : Int32)) a1 = true
    · rw [if_pos g8] at hrun
      obtain ⟨v9, q10, hrun⟩ := bd hrun
      refine g_cVi [.int x2, .int x3] C (dat dt_X2_workOut 24 rfl) ml_2_22 (w_X9_markOf a1 x2 x3 (sA h 31 0 (1 : Int32)) v9  q10) (tg_spec g8).1 (tb0 g8) rfl rfl (Nat.le_of_ble_eq_true rfl) (by decide) c00 ?_
      obtain ⟨v11, q12, hrun⟩ := bd hrun
      refine g_cSi [.int (0 : Int32), .int v9] C (dat dt_X2_workOut 25 rfl) ml_2_36 (w_J9_max_7cf53 (0 : Int32) v9 (sA h 31 0 (1 : Int32)) v11  q12) rfl rfl cat0 (by decide) c00 ?_
      refine g_istore (lv' := [(0, .ref 29), (1, .ref a1), (2, .int x2), (3, .int x3), (4, .int v4), (5, .int (0 : Int32)), (6, .int v11)]) C (dat dt_X2_workOut 26 rfl) (by decide) rfl ?_
      refine g_sub [0, 1, 4, 5, 6] (lv' := [(0, .ref 29), (1, .ref a1), (4, .int v4), (5, .int (0 : Int32)), (6, .int v11)]) rfl ?_
      obtain ⟨e51, q52, hrun⟩ := bd hrun
      refine lp_ind (P := fun s => kp_X2_workOut_42 a1 v4 X s) (K := fun e => ke_X2_workOut_42 a1 v4 X e) (fun s q hb Ks Ke => wb_X2_workOut_42 C a1  v4 s.1 s.2.1 s.2.2 q hb Ks Ke) FU ((0 : Int32), v11, (sA h 31 0 (1 : Int32))) e51 q52 ?_
      rcases e51 with e53 | e54
      · rw [sc_l] at hrun
        show G X e53 0 0 273 [(0, .ref 29)] []
        refine g_aload_n C (dat dt_X2_workOut 152 rfl) 0 rfl ?_
        refine g_getR C (dat dt_X2_workOut 153 rfl) fl_2_19 kd_29 rfl ltk_29 ?_
        refine g_iconst C (dat dt_X2_workOut 154 rfl) ic_0 ?_
        refine g_iald (j := 0) C (dat dt_X2_workOut 155 rfl) kd_31 ltk_31 (show inb (0 : Int32) 64 = some 0 by decide) ?_
        cases hrun
        exact g_iret C K (dat dt_X2_workOut 156 rfl)
      · rw [sc_r] at hrun
        rcases e54 with e55 | e56
        · rw [sc_l] at hrun
          show G X e55 0 0 193 [] []
          refine g_ldc C (dat dt_X2_workOut 109 rfl) kc_2_39 ?_
          cases hrun
          exact g_iret C K (dat dt_X2_workOut 110 rfl)
        · rw [sc_r] at hrun
          rcases e56 with e57 | e58
          · rw [sc_l] at hrun
            show G X e57 0 0 184 [] []
            refine g_ldc C (dat dt_X2_workOut 104 rfl) kc_2_39 ?_
            cases hrun
            exact g_iret C K (dat dt_X2_workOut 105 rfl)
          · rw [sc_r] at hrun
            rcases e58 with e59 | e60
            · rw [sc_l] at hrun
              show G X e59 0 0 134 [] []
              refine g_ldc C (dat dt_X2_workOut 75 rfl) kc_2_39 ?_
              cases hrun
              exact g_iret C K (dat dt_X2_workOut 76 rfl)
            · rw [sc_r] at hrun
              show G X e60 0 0 89 [] []
              refine g_ldc C (dat dt_X2_workOut 54 rfl) kc_2_39 ?_
              cases hrun
              exact g_iret C K (dat dt_X2_workOut 55 rfl)
    · rw [if_neg g8] at hrun
      cases hrun
  · rw [if_neg g1] at hrun
    cases hrun
/-! SteamNations$Steam.anyHolds(LSteamNations$Room;LSteamNations$Text;II)Z -/
def dl_X8_anyHolds : List (Nat × Instr × Nat) := [(0, .aload_n 2, 1), (1, .iload 4, 2), (3, .invokevirtual 22, 3), (6, .ifCond .ne 5, 3), (9, .iconst 0, 1), (10, .ireturn, 1), (11, .aload_n 0, 1), (12, .aload_n 1, 1), (13, .iload_n 3, 1), (14, .iconst (-1), 1), (15, .invokevirtual 28, 3), (18, .iconst 0, 1), (19, .istore 5, 2), (21, .iload 5, 2), (23, .aload_n 2, 1), (24, .getfield 32, 3), (27, .if_icmp .ge 38, 3), (30, .aload_n 2, 1), (31, .iload 5, 2), (33, .iconst 0, 1), (34, .invokevirtual 36, 3), (37, .iload 4, 2), (39, .if_icmp .ne 20, 3), (42, .aload_n 0, 1), (43, .getfield 18, 3), (46, .aload_n 2, 1), (47, .iload 5, 2), (49, .iconst 4, 1), (50, .invokevirtual 40, 3), (53, .iconst 1, 1), (54, .if_icmp .ne 5, 3), (57, .iconst 1, 1), (58, .ireturn, 1), (59, .iinc 5 1, 3), (62, .goto (-41), 3), (65, .iconst 0, 1), (66, .ireturn, 1)]
set_option maxRecDepth 20000 in
theorem dt_X8_anyHolds : ∀ q ∈ dl_X8_anyHolds, decode prog_10_method_2_code q.1 = .ok q.2 := by decide +kernel
def kp_X8_anyHolds_21 (a1 : Nat) (a2 : Nat) (x4 : Int32) (X : Xt) (s : (Int32 × Hp)) : Prop := G X s.2 0 0 21 [(0, .ref 56), (2, .ref a2), (4, .int x4), (5, .int s.1)] []
def ke_X8_anyHolds_21 (a1 : Nat) (a2 : Nat) (x4 : Int32) (X : Xt) (e : (Hp ⊕ Hp)) : Prop := match e with
  | .inl e => G X e 0 0 65 [] []
  | .inr (e) => G X e 0 0 57 [] []
def b_X8_anyHolds_21 (a1 : Nat) (a2 : Nat) (x4 : Int32) (x5 : Int32) (h : Hp) : Option ((Int32 × Hp) ⊕ (Hp ⊕ Hp)) :=
  if tg h a2 = true then
  if (fI h a2 2) ≤ x5 then
  some (.inr (.inl h))
  else
  (f_X9_markOf a2 x5 (0 : Int32) h).bind fun v9 =>
  if v9 = x4 then
  (f_X2_workOut a2 x5 (4 : Int32) h).bind fun v12 =>
  if v12.1 = (1 : Int32) then
  some (.inr (.inr <| id v12.2))
  else
  some (.inl ((x5 + (1 : Int32)), v12.2))
  else
  some (.inl ((x5 + (1 : Int32)), h))
  else none
set_option maxRecDepth 20000 in
theorem wb_X8_anyHolds_21 {X : Xt} (C : Cx X cn_8 prog_10_method_2_code 6 (some .boolean) 3 0 0) (a1 : Nat) (a2 : Nat) (Ha1 : IsRoom a1) (x4 : Int32) (x5 : Int32) (h : Hp) (q : (Int32 × Hp) ⊕ (Hp ⊕ Hp)) (hrun : b_X8_anyHolds_21 a1 a2 x4 x5 h = some q) (Ks : ∀ s, q = .inl s → kp_X8_anyHolds_21 a1 a2 x4 X s) (Ke : ∀ e, q = .inr e → ke_X8_anyHolds_21 a1 a2 x4 X e) : kp_X8_anyHolds_21 a1 a2 x4 X (x5, h) := by
  show G X h 0 0 21 [(0, .ref 56), (2, .ref a2), (4, .int x4), (5, .int x5)] []
  unfold b_X8_anyHolds_21 at hrun
  refine g_iload C (dat dt_X8_anyHolds 13 rfl) 3 rfl ?_
  refine g_aload_n C (dat dt_X8_anyHolds 14 rfl) 1 rfl ?_
  by_cases g7 : tg h a2 = true
  · rw [if_pos g7] at hrun
    refine g_getI C (dat dt_X8_anyHolds 15 rfl) fl_8_32 (tg_spec g7).1 rfl (tb0 g7) ?_
    refine g_ic_ge 65 C (dat dt_X8_anyHolds 16 rfl) (by decide) (fun c8 => ?_) (fun c8 => ?_)
    · rw [if_pos c8] at hrun
      refine g_sub [] (lv' := []) rfl ?_
      cases hrun
      exact Ke (.inl h) rfl
    · rw [if_neg c8] at hrun
      refine g_aload_n C (dat dt_X8_anyHolds 17 rfl) 1 rfl ?_
      refine g_iload C (dat dt_X8_anyHolds 18 rfl) 3 rfl ?_
      refine g_iconst C (dat dt_X8_anyHolds 19 rfl) ic_0 ?_
      obtain ⟨v9, q10, hrun⟩ := bd hrun
      refine g_cVi [.int x5, .int (0 : Int32)] C (dat dt_X8_anyHolds 20 rfl) ml_8_36 (w_X9_markOf a2 x5 (0 : Int32) h v9  q10) (tg_spec g7).1 (tb0 g7) rfl rfl cat0 (by decide) c00 ?_
      refine g_iload C (dat dt_X8_anyHolds 21 rfl) 2 rfl ?_
      refine g_ic_ne 59 C (dat dt_X8_anyHolds 22 rfl) (by decide) (fun c11 => ?_) (fun c11 => ?_)
      · rw [if_neg c11] at hrun
        refine g_iinc (v := (x5 + (1 : Int32))) (lv' := [(0, .ref 56), (2, .ref a2), (4, .int x4), (5, .int (x5 + (1 : Int32)))]) C (dat dt_X8_anyHolds 33 rfl) 3 rfl (congrArg (fun z => x5 + z) ic_1) (by decide) rfl ?_
        refine g_goto 21 C (dat dt_X8_anyHolds 34 rfl) (by decide) ?_
        cases hrun
        exact Ks ((x5 + (1 : Int32)), h) rfl
      · rw [if_pos c11] at hrun
        refine g_aload_n C (dat dt_X8_anyHolds 23 rfl) 0 rfl ?_
        refine g_getR C (dat dt_X8_anyHolds 24 rfl) fl_8_18 kd_56 rfl ltk_56 ?_
        refine g_aload_n C (dat dt_X8_anyHolds 25 rfl) 1 rfl ?_
        refine g_iload C (dat dt_X8_anyHolds 26 rfl) 3 rfl ?_
        refine g_iconst C (dat dt_X8_anyHolds 27 rfl) ic_4 ?_
        obtain ⟨v12, q13, hrun⟩ := bd hrun
        refine g_cVi [.ref a2, .int x5, .int (4 : Int32)] C (dat dt_X8_anyHolds 28 rfl) ml_8_40 (w_X2_workOut a2 x5 (4 : Int32) h v12  q13) kd_29 ltk_29 rfl rfl cat0 (by decide) c00 ?_
        refine g_iconst C (dat dt_X8_anyHolds 29 rfl) ic_1 ?_
        refine g_ic_ne 59 C (dat dt_X8_anyHolds 30 rfl) (by decide) (fun c14 => ?_) (fun c14 => ?_)
        · rw [if_neg c14] at hrun
          refine g_iinc (v := (x5 + (1 : Int32))) (lv' := [(0, .ref 56), (2, .ref a2), (4, .int x4), (5, .int (x5 + (1 : Int32)))]) C (dat dt_X8_anyHolds 33 rfl) 3 rfl (congrArg (fun z => x5 + z) ic_1) (by decide) rfl ?_
          refine g_goto 21 C (dat dt_X8_anyHolds 34 rfl) (by decide) ?_
          cases hrun
          exact Ks ((x5 + (1 : Int32)), v12.2) rfl
        · rw [if_pos c14] at hrun
          refine g_sub [] (lv' := []) rfl ?_
          cases hrun
          exact Ke (.inr <| id v12.2) rfl
  · rw [if_neg g7] at hrun
    cases hrun
def f_X8_anyHolds (a1 : Nat) (a2 : Nat) (x3 : Int32) (x4 : Int32) (h : Hp) : Option (Bool × Hp) :=
  if tg h a2 = true then
  (f_X9_hasKind a2 x4 h).bind fun v2 =>
  if v2 = true then
  (f_X8_sayWords a1 x3 (-1 : Int32) h).bind fun v5 =>
  (lp (fun s => b_X8_anyHolds_21 a1 a2 x4 s.1 s.2) FU ((0 : Int32), v5.2)).bind fun e15 =>
  sc e15 (fun e17 =>
  some (false, e17)) (fun e18 =>
  some (true, e18))
  else
  some (false, h)
  else none
set_option maxRecDepth 20000 in
theorem w_X8_anyHolds (a1 : Nat) (a2 : Nat) (x3 : Int32) (x4 : Int32) (h : Hp) (q : (Bool × Hp)) (Ha1 : IsRoom a1) (hrun : f_X8_anyHolds a1 a2 x3 x4 h = some q) : MetA ⟨"SteamNations$Steam", "anyHolds", "(LSteamNations$Room;LSteamNations$Text;II)Z"⟩ prog_10_method_2_code 6 (some .boolean) 3 0 0 [.ref 56, .ref a1, .ref a2, .int x3, .int x4] h (some (.int (b2i q.1))) q.2 := by
  refine metA_of (by decide) (Nat.le_of_ble_eq_true rfl) (fun X C K => ?_)
  have C : Cx X cn_8 prog_10_method_2_code 6 (some .boolean) 3 0 0 := C
  show G X h 0 0 0 [(0, .ref 56), (1, .ref a1), (2, .ref a2), (3, .int x3), (4, .int x4)] []
  unfold f_X8_anyHolds at hrun
  refine g_aload_n C (dat dt_X8_anyHolds 0 rfl) 2 rfl ?_
  refine g_iload C (dat dt_X8_anyHolds 1 rfl) 4 rfl ?_
  by_cases g1 : tg h a2 = true
  · rw [if_pos g1] at hrun
    obtain ⟨v2, q3, hrun⟩ := bd hrun
    refine g_cVi [.int x4] C (dat dt_X8_anyHolds 2 rfl) ml_8_22 (w_X9_hasKind a2 x4 h v2  q3) (tg_spec g1).1 (tb0 g1) rfl rfl cat0 (by decide) c00 ?_
    refine g_if_ne 11 C (dat dt_X8_anyHolds 3 rfl) (by decide) (fun c4 => ?_) (fun c4 => ?_)
    · rw [if_pos (b2i_nz c4)] at hrun
      refine g_aload_n C (dat dt_X8_anyHolds 6 rfl) 0 rfl ?_
      refine g_aload_n C (dat dt_X8_anyHolds 7 rfl) 1 rfl ?_
      refine g_iload_n C (dat dt_X8_anyHolds 8 rfl) 3 rfl ?_
      refine g_iconst C (dat dt_X8_anyHolds 9 rfl) ic_m1 ?_
      obtain ⟨v5, q6, hrun⟩ := bd hrun
      refine g_cVv [.ref a1, .int x3, .int (-1 : Int32)] C (dat dt_X8_anyHolds 10 rfl) ml_8_28 (w_X8_sayWords a1 x3 (-1 : Int32) h v5 Ha1 q6) kd_56 ltk_56 rfl rfl cat0 (by decide) c00 ?_
      refine g_iconst C (dat dt_X8_anyHolds 11 rfl) ic_0 ?_
      refine g_istore (lv' := [(0, .ref 56), (1, .ref a1), (2, .ref a2), (3, .int x3), (4, .int x4), (5, .int (0 : Int32))]) C (dat dt_X8_anyHolds 12 rfl) (by decide) rfl ?_
      refine g_sub [0, 2, 4, 5] (lv' := [(0, .ref 56), (2, .ref a2), (4, .int x4), (5, .int (0 : Int32))]) rfl ?_
      obtain ⟨e15, q16, hrun⟩ := bd hrun
      refine lp_ind (P := fun s => kp_X8_anyHolds_21 a1 a2 x4 X s) (K := fun e => ke_X8_anyHolds_21 a1 a2 x4 X e) (fun s q hb Ks Ke => wb_X8_anyHolds_21 C a1 a2 Ha1 x4 s.1 s.2 q hb Ks Ke) FU ((0 : Int32), v5.2) e15 q16 ?_
      rcases e15 with e17 | e18
      · rw [sc_l] at hrun
        show G X e17 0 0 65 [] []
        refine g_iconst C (dat dt_X8_anyHolds 35 rfl) ic_0 ?_
        cases hrun
        exact g_zret C K (show (0 : Int32) = b2i false by decide) (dat dt_X8_anyHolds 36 rfl)
      · rw [sc_r] at hrun
        show G X e18 0 0 57 [] []
        refine g_iconst C (dat dt_X8_anyHolds 31 rfl) ic_1 ?_
        cases hrun
        exact g_zret C K (show (1 : Int32) = b2i true by decide) (dat dt_X8_anyHolds 32 rfl)
    · rw [if_neg (b2i_z c4)] at hrun
      refine g_iconst C (dat dt_X8_anyHolds 4 rfl) ic_0 ?_
      cases hrun
      exact g_zret C K (show (0 : Int32) = b2i false by decide) (dat dt_X8_anyHolds 5 rfl)
  · rw [if_neg g1] at hrun
    cases hrun
/-! SteamNations$Steam.partsTold(LSteamNations$Room;LSteamNations$Text;II)I -/
def dl_X8_partsTold : List (Nat × Instr × Nat) := [(0, .aload_n 2, 1), (1, .bipush 13, 2), (3, .invokevirtual 22, 3), (6, .ifCond .ne 5, 3), (9, .iconst 1, 1), (10, .ireturn, 1), (11, .aload_n 0, 1), (12, .aload_n 1, 1), (13, .iload_n 3, 1), (14, .aload_n 1, 1), (15, .iload 4, 2), (17, .invokevirtual 48, 3), (20, .invokevirtual 28, 3), (23, .aload_n 2, 1), (24, .getfield 32, 3), (27, .iconst 1, 1), (28, .isub, 1), (29, .istore 5, 2), (31, .iload 5, 2), (33, .ifCond .lt 68, 3), (36, .aload_n 2, 1), (37, .iload 5, 2), (39, .iconst 0, 1), (40, .invokevirtual 36, 3), (43, .bipush 13, 2), (45, .if_icmp .ne 50, 3), (48, .aload_n 0, 1), (49, .getfield 18, 3), (52, .aload_n 2, 1), (53, .iload 5, 2), (55, .iconst 4, 1), (56, .invokevirtual 40, 3), (59, .iconst 1, 1), (60, .if_icmp .ne 35, 3), (63, .aload_n 0, 1), (64, .getfield 18, 3), (67, .aload_n 2, 1), (68, .iload 5, 2), (70, .iconst 2, 1), (71, .invokevirtual 40, 3), (74, .istore 6, 2), (76, .iload 6, 2), (78, .ldc 54, 2), (80, .if_icmp .eq 15, 3), (83, .iconst 0, 1), (84, .iload 6, 2), (86, .bipush 9, 2), (88, .invokestatic 55, 3), (91, .invokestatic 60, 3), (94, .ireturn, 1), (95, .iinc 5 (-1), 3), (98, .goto (-67), 3), (101, .iconst 1, 1), (102, .ireturn, 1)]
set_option maxRecDepth 20000 in
theorem dt_X8_partsTold : ∀ q ∈ dl_X8_partsTold, decode prog_10_method_3_code q.1 = .ok q.2 := by decide +kernel
def kp_X8_partsTold_31 (a1 : Nat) (a2 : Nat)  (X : Xt) (s : (Int32 × Hp)) : Prop := G X s.2 0 0 31 [(0, .ref 56), (2, .ref a2), (5, .int s.1)] []
def ke_X8_partsTold_31 (a1 : Nat) (a2 : Nat)  (X : Xt) (e : (Hp ⊕ (Int32 × Hp))) : Prop := match e with
  | .inl e => G X e 0 0 101 [] []
  | .inr (e) => G X e.2 0 0 83 [(6, .int e.1)] []
def b_X8_partsTold_31 (a1 : Nat) (a2 : Nat)  (x5 : Int32) (h : Hp) : Option ((Int32 × Hp) ⊕ (Hp ⊕ (Int32 × Hp))) :=
  if x5 < 0 then
  some (.inr (.inl h))
  else
  if tg h a2 = true then
  (f_X9_markOf a2 x5 (0 : Int32) h).bind fun v12 =>
  if v12 = (13 : Int32) then
  (f_X2_workOut a2 x5 (4 : Int32) h).bind fun v15 =>
  if v15.1 = (1 : Int32) then
  (f_X2_workOut a2 x5 (2 : Int32) v15.2).bind fun v18 =>
  if v18.1 = (-2147483648 : Int32) then
  some (.inl ((x5 + (-1 : Int32)), v18.2))
  else
  some (.inr (.inr <| id (v18.1, v18.2)))
  else
  some (.inl ((x5 + (-1 : Int32)), v15.2))
  else
  some (.inl ((x5 + (-1 : Int32)), h))
  else none
set_option maxRecDepth 20000 in
theorem wb_X8_partsTold_31 {X : Xt} (C : Cx X cn_8 prog_10_method_3_code 7 (some .int) 3 0 0) (a1 : Nat) (a2 : Nat) (Ha1 : IsRoom a1)  (x5 : Int32) (h : Hp) (q : (Int32 × Hp) ⊕ (Hp ⊕ (Int32 × Hp))) (hrun : b_X8_partsTold_31 a1 a2  x5 h = some q) (Ks : ∀ s, q = .inl s → kp_X8_partsTold_31 a1 a2  X s) (Ke : ∀ e, q = .inr e → ke_X8_partsTold_31 a1 a2  X e) : kp_X8_partsTold_31 a1 a2  X (x5, h) := by
  show G X h 0 0 31 [(0, .ref 56), (2, .ref a2), (5, .int x5)] []
  unfold b_X8_partsTold_31 at hrun
  refine g_iload C (dat dt_X8_partsTold 18 rfl) 2 rfl ?_
  refine g_if_lt 101 C (dat dt_X8_partsTold 19 rfl) (by decide) (fun c10 => ?_) (fun c10 => ?_)
  · rw [if_pos c10] at hrun
    refine g_sub [] (lv' := []) rfl ?_
    cases hrun
    exact Ke (.inl h) rfl
  · rw [if_neg c10] at hrun
    refine g_aload_n C (dat dt_X8_partsTold 20 rfl) 1 rfl ?_
    refine g_iload C (dat dt_X8_partsTold 21 rfl) 2 rfl ?_
    refine g_iconst C (dat dt_X8_partsTold 22 rfl) ic_0 ?_
    by_cases g11 : tg h a2 = true
    · rw [if_pos g11] at hrun
      obtain ⟨v12, q13, hrun⟩ := bd hrun
      refine g_cVi [.int x5, .int (0 : Int32)] C (dat dt_X8_partsTold 23 rfl) ml_8_36 (w_X9_markOf a2 x5 (0 : Int32) h v12  q13) (tg_spec g11).1 (tb0 g11) rfl rfl cat0 (by decide) c00 ?_
      refine g_bipush C (dat dt_X8_partsTold 24 rfl) bp_13 ?_
      refine g_ic_ne 95 C (dat dt_X8_partsTold 25 rfl) (by decide) (fun c14 => ?_) (fun c14 => ?_)
      · rw [if_neg c14] at hrun
        refine g_iinc (v := (x5 + (-1 : Int32))) (lv' := [(0, .ref 56), (2, .ref a2), (5, .int (x5 + (-1 : Int32)))]) C (dat dt_X8_partsTold 50 rfl) 2 rfl (congrArg (fun z => x5 + z) ic_m1) (by decide) rfl ?_
        refine g_goto 31 C (dat dt_X8_partsTold 51 rfl) (by decide) ?_
        cases hrun
        exact Ks ((x5 + (-1 : Int32)), h) rfl
      · rw [if_pos c14] at hrun
        refine g_aload_n C (dat dt_X8_partsTold 26 rfl) 0 rfl ?_
        refine g_getR C (dat dt_X8_partsTold 27 rfl) fl_8_18 kd_56 rfl ltk_56 ?_
        refine g_aload_n C (dat dt_X8_partsTold 28 rfl) 1 rfl ?_
        refine g_iload C (dat dt_X8_partsTold 29 rfl) 2 rfl ?_
        refine g_iconst C (dat dt_X8_partsTold 30 rfl) ic_4 ?_
        obtain ⟨v15, q16, hrun⟩ := bd hrun
        refine g_cVi [.ref a2, .int x5, .int (4 : Int32)] C (dat dt_X8_partsTold 31 rfl) ml_8_40 (w_X2_workOut a2 x5 (4 : Int32) h v15  q16) kd_29 ltk_29 rfl rfl cat0 (by decide) c00 ?_
        refine g_iconst C (dat dt_X8_partsTold 32 rfl) ic_1 ?_
        refine g_ic_ne 95 C (dat dt_X8_partsTold 33 rfl) (by decide) (fun c17 => ?_) (fun c17 => ?_)
        · rw [if_neg c17] at hrun
          refine g_iinc (v := (x5 + (-1 : Int32))) (lv' := [(0, .ref 56), (2, .ref a2), (5, .int (x5 + (-1 : Int32)))]) C (dat dt_X8_partsTold 50 rfl) 2 rfl (congrArg (fun z => x5 + z) ic_m1) (by decide) rfl ?_
          refine g_goto 31 C (dat dt_X8_partsTold 51 rfl) (by decide) ?_
          cases hrun
          exact Ks ((x5 + (-1 : Int32)), v15.2) rfl
        · rw [if_pos c17] at hrun
          refine g_aload_n C (dat dt_X8_partsTold 34 rfl) 0 rfl ?_
          refine g_getR C (dat dt_X8_partsTold 35 rfl) fl_8_18 kd_56 rfl ltk_56 ?_
          refine g_aload_n C (dat dt_X8_partsTold 36 rfl) 1 rfl ?_
          refine g_iload C (dat dt_X8_partsTold 37 rfl) 2 rfl ?_
          refine g_iconst C (dat dt_X8_partsTold 38 rfl) ic_2 ?_
          obtain ⟨v18, q19, hrun⟩ := bd hrun
          refine g_cVi [.ref a2, .int x5, .int (2 : Int32)] C (dat dt_X8_partsTold 39 rfl) ml_8_40 (w_X2_workOut a2 x5 (2 : Int32) v15.2 v18  q19) kd_29 ltk_29 rfl rfl cat0 (by decide) c00 ?_
          refine g_istore (lv' := [(0, .ref 56), (2, .ref a2), (5, .int x5), (6, .int v18.1)]) C (dat dt_X8_partsTold 40 rfl) (by decide) rfl ?_
          refine g_iload C (dat dt_X8_partsTold 41 rfl) 3 rfl ?_
          refine g_ldc C (dat dt_X8_partsTold 42 rfl) kc_8_54 ?_
          refine g_ic_eq 95 C (dat dt_X8_partsTold 43 rfl) (by decide) (fun c20 => ?_) (fun c20 => ?_)
          · rw [if_pos c20] at hrun
            refine g_iinc (v := (x5 + (-1 : Int32))) (lv' := [(0, .ref 56), (2, .ref a2), (5, .int (x5 + (-1 : Int32))), (6, .int v18.1)]) C (dat dt_X8_partsTold 50 rfl) 2 rfl (congrArg (fun z => x5 + z) ic_m1) (by decide) rfl ?_
            refine g_goto 31 C (dat dt_X8_partsTold 51 rfl) (by decide) ?_
            refine g_sub [0, 1, 2] (lv' := [(0, .ref 56), (2, .ref a2), (5, .int (x5 + (-1 : Int32)))]) rfl ?_
            cases hrun
            exact Ks ((x5 + (-1 : Int32)), v18.2) rfl
          · rw [if_neg c20] at hrun
            refine g_sub [3] (lv' := [(6, .int v18.1)]) rfl ?_
            cases hrun
            exact Ke (.inr <| id (v18.1, v18.2)) rfl
    · rw [if_neg g11] at hrun
      cases hrun
def f_X8_partsTold (a1 : Nat) (a2 : Nat) (x3 : Int32) (x4 : Int32) (h : Hp) : Option (Int32 × Hp) :=
  if tg h a2 = true then
  (f_X9_hasKind a2 (13 : Int32) h).bind fun v2 =>
  if v2 = true then
  (f_X6_nationOf a1 x4 h).bind fun v5 =>
  (f_X8_sayWords a1 x3 v5 h).bind fun v7 =>
  if tg v7.2 a2 = true then
  (lp (fun s => b_X8_partsTold_31 a1 a2  s.1 s.2) FU (((fI v7.2 a2 2) - (1 : Int32)), v7.2)).bind fun e21 =>
  sc e21 (fun e23 =>
  some ((1 : Int32), e23)) (fun e24 =>
  (f_J9_min_7cf53 e24.1 (9 : Int32)).bind fun v25 =>
  (f_J9_max_7cf53 (0 : Int32) v25).bind fun v27 =>
  some (v27, e24.2))
  else none
  else
  some ((1 : Int32), h)
  else none
set_option maxRecDepth 20000 in
theorem w_X8_partsTold (a1 : Nat) (a2 : Nat) (x3 : Int32) (x4 : Int32) (h : Hp) (q : (Int32 × Hp)) (Ha1 : IsRoom a1) (hrun : f_X8_partsTold a1 a2 x3 x4 h = some q) : MetA ⟨"SteamNations$Steam", "partsTold", "(LSteamNations$Room;LSteamNations$Text;II)I"⟩ prog_10_method_3_code 7 (some .int) 3 0 0 [.ref 56, .ref a1, .ref a2, .int x3, .int x4] h (some (.int q.1)) q.2 := by
  refine metA_of (by decide) (Nat.le_of_ble_eq_true rfl) (fun X C K => ?_)
  have C : Cx X cn_8 prog_10_method_3_code 7 (some .int) 3 0 0 := C
  show G X h 0 0 0 [(0, .ref 56), (1, .ref a1), (2, .ref a2), (3, .int x3), (4, .int x4)] []
  unfold f_X8_partsTold at hrun
  refine g_aload_n C (dat dt_X8_partsTold 0 rfl) 2 rfl ?_
  refine g_bipush C (dat dt_X8_partsTold 1 rfl) bp_13 ?_
  by_cases g1 : tg h a2 = true
  · rw [if_pos g1] at hrun
    obtain ⟨v2, q3, hrun⟩ := bd hrun
    refine g_cVi [.int (13 : Int32)] C (dat dt_X8_partsTold 2 rfl) ml_8_22 (w_X9_hasKind a2 (13 : Int32) h v2  q3) (tg_spec g1).1 (tb0 g1) rfl rfl cat0 (by decide) c00 ?_
    refine g_if_ne 11 C (dat dt_X8_partsTold 3 rfl) (by decide) (fun c4 => ?_) (fun c4 => ?_)
    · rw [if_pos (b2i_nz c4)] at hrun
      refine g_aload_n C (dat dt_X8_partsTold 6 rfl) 0 rfl ?_
      refine g_aload_n C (dat dt_X8_partsTold 7 rfl) 1 rfl ?_
      refine g_iload_n C (dat dt_X8_partsTold 8 rfl) 3 rfl ?_
      refine g_aload_n C (dat dt_X8_partsTold 9 rfl) 1 rfl ?_
      refine g_iload C (dat dt_X8_partsTold 10 rfl) 4 rfl ?_
      obtain ⟨v5, q6, hrun⟩ := bd hrun
      refine g_cVi [.int x4] C (dat dt_X8_partsTold 11 rfl) ml_8_48 (w_X6_nationOf a1 x4 h v5 Ha1 q6) Ha1.1 (rb0 Ha1) rfl rfl (Nat.le_of_ble_eq_true rfl) (by decide) c00 ?_
      obtain ⟨v7, q8, hrun⟩ := bd hrun
      refine g_cVv [.ref a1, .int x3, .int v5] C (dat dt_X8_partsTold 12 rfl) ml_8_28 (w_X8_sayWords a1 x3 v5 h v7 Ha1 q8) kd_56 ltk_56 rfl rfl cat0 (by decide) c00 ?_
      refine g_aload_n C (dat dt_X8_partsTold 13 rfl) 2 rfl ?_
      by_cases g9 : tg v7.2 a2 = true
      · rw [if_pos g9] at hrun
        refine g_getI C (dat dt_X8_partsTold 14 rfl) fl_8_32 (tg_spec g9).1 rfl (tb0 g9) ?_
        refine g_iconst C (dat dt_X8_partsTold 15 rfl) ic_1 ?_
        refine g_isub C (dat dt_X8_partsTold 16 rfl) ?_
        refine g_istore (lv' := [(0, .ref 56), (1, .ref a1), (2, .ref a2), (3, .int x3), (4, .int x4), (5, .int ((fI v7.2 a2 2) - (1 : Int32)))]) C (dat dt_X8_partsTold 17 rfl) (by decide) rfl ?_
        refine g_sub [0, 2, 5] (lv' := [(0, .ref 56), (2, .ref a2), (5, .int ((fI v7.2 a2 2) - (1 : Int32)))]) rfl ?_
        obtain ⟨e21, q22, hrun⟩ := bd hrun
        refine lp_ind (P := fun s => kp_X8_partsTold_31 a1 a2  X s) (K := fun e => ke_X8_partsTold_31 a1 a2  X e) (fun s q hb Ks Ke => wb_X8_partsTold_31 C a1 a2 Ha1  s.1 s.2 q hb Ks Ke) FU (((fI v7.2 a2 2) - (1 : Int32)), v7.2) e21 q22 ?_
        rcases e21 with e23 | e24
        · rw [sc_l] at hrun
          show G X e23 0 0 101 [] []
          refine g_iconst C (dat dt_X8_partsTold 52 rfl) ic_1 ?_
          cases hrun
          exact g_iret C K (dat dt_X8_partsTold 53 rfl)
        · rw [sc_r] at hrun
          show G X e24.2 0 0 83 [(6, .int e24.1)] []
          refine g_iconst C (dat dt_X8_partsTold 44 rfl) ic_0 ?_
          refine g_iload C (dat dt_X8_partsTold 45 rfl) 0 rfl ?_
          refine g_bipush C (dat dt_X8_partsTold 46 rfl) bp_9 ?_
          obtain ⟨v25, q26, hrun⟩ := bd hrun
          refine g_cSi [.int e24.1, .int (9 : Int32)] C (dat dt_X8_partsTold 47 rfl) ml_8_55 (w_J9_min_7cf53 e24.1 (9 : Int32) e24.2 v25  q26) rfl rfl (Nat.le_of_ble_eq_true rfl) (by decide) c00 ?_
          obtain ⟨v27, q28, hrun⟩ := bd hrun
          refine g_cSi [.int (0 : Int32), .int v25] C (dat dt_X8_partsTold 48 rfl) ml_8_60 (w_J9_max_7cf53 (0 : Int32) v25 e24.2 v27  q28) rfl rfl cat0 (by decide) c00 ?_
          cases hrun
          exact g_iret C K (dat dt_X8_partsTold 49 rfl)
      · rw [if_neg g9] at hrun
        cases hrun
    · rw [if_neg (b2i_z c4)] at hrun
      refine g_iconst C (dat dt_X8_partsTold 4 rfl) ic_1 ?_
      cases hrun
      exact g_iret C K (dat dt_X8_partsTold 5 rfl)
  · rw [if_neg g1] at hrun
    cases hrun
/-! SteamNations$Steam.seeWho(LSteamNations$Room;)V -/
def dl_X8_seeWho : List (Nat × Instr × Nat) := [(0, .aload_n 0, 1), (1, .getfield 15, 3), (4, .iconst (-1), 1), (5, .invokestatic 63, 3), (8, .iconst 0, 1), (9, .istore_n 2, 1), (10, .iload_n 2, 1), (11, .aload_n 1, 1), (12, .getfield 73, 3), (15, .if_icmp .ge 33, 3), (18, .aload_n 1, 1), (19, .getfield 76, 3), (22, .iload_n 2, 1), (23, .iaload, 1), (24, .istore_n 3, 1), (25, .iload_n 3, 1), (26, .ifCond .lt 16, 3), (29, .iload_n 3, 1), (30, .bipush 9, 2), (32, .if_icmp .ge 10, 3), (35, .aload_n 0, 1), (36, .getfield 15, 3), (39, .iload_n 3, 1), (40, .iload_n 2, 1), (41, .iastore, 1), (42, .iinc 2 1, 3), (45, .goto (-35), 3), (48, .return_, 1)]
set_option maxRecDepth 20000 in
theorem dt_X8_seeWho : ∀ q ∈ dl_X8_seeWho, decode prog_10_method_5_code q.1 = .ok q.2 := by decide +kernel
def kp_X8_seeWho_10 (a1 : Nat)  (X : Xt) (s : (Int32 × Hp)) : Prop := G X s.2 0 0 10 [(0, .ref 56), (1, .ref a1), (2, .int s.1)] []
def ke_X8_seeWho_10 (a1 : Nat)  (X : Xt) (e : Hp) : Prop := G X e 0 0 48 [] []
def b_X8_seeWho_10 (a1 : Nat)  (x2 : Int32) (h : Hp) : Option ((Int32 × Hp) ⊕ Hp) :=
  if (fI h a1 0) ≤ x2 then
  some (.inr ( h))
  else
  (inb x2 6).bind fun j4 =>
  if (aI h (a1 + 3) j4) < 0 then
  some (.inl ((x2 + (1 : Int32)), h))
  else
  if (9 : Int32) ≤ (aI h (a1 + 3) j4) then
  some (.inl ((x2 + (1 : Int32)), h))
  else
  (inb (aI h (a1 + 3) j4) 9).bind fun j8 =>
  some (.inl ((x2 + (1 : Int32)), (sA h 58 j8 x2)))
set_option maxRecDepth 20000 in
theorem wb_X8_seeWho_10 {X : Xt} (C : Cx X cn_8 prog_10_method_5_code 4 none 2 0 0) (a1 : Nat) (Ha1 : IsRoom a1)  (x2 : Int32) (h : Hp) (q : (Int32 × Hp) ⊕ Hp) (hrun : b_X8_seeWho_10 a1  x2 h = some q) (Ks : ∀ s, q = .inl s → kp_X8_seeWho_10 a1  X s) (Ke : ∀ e, q = .inr e → ke_X8_seeWho_10 a1  X e) : kp_X8_seeWho_10 a1  X (x2, h) := by
  show G X h 0 0 10 [(0, .ref 56), (1, .ref a1), (2, .int x2)] []
  unfold b_X8_seeWho_10 at hrun
  refine g_iload_n C (dat dt_X8_seeWho 6 rfl) 2 rfl ?_
  refine g_aload_n C (dat dt_X8_seeWho 7 rfl) 1 rfl ?_
  refine g_getI C (dat dt_X8_seeWho 8 rfl) fl_8_73 Ha1.1 rfl (rb0 Ha1) ?_
  refine g_ic_ge 48 C (dat dt_X8_seeWho 9 rfl) (by decide) (fun c3 => ?_) (fun c3 => ?_)
  · rw [if_pos c3] at hrun
    refine g_sub [] (lv' := []) rfl ?_
    cases hrun
    exact Ke ( h) rfl
  · rw [if_neg c3] at hrun
    refine g_aload_n C (dat dt_X8_seeWho 10 rfl) 1 rfl ?_
    refine g_getR C (dat dt_X8_seeWho 11 rfl) fl_8_76 Ha1.1 rfl (rb0 Ha1) ?_
    refine g_iload_n C (dat dt_X8_seeWho 12 rfl) 2 rfl ?_
    obtain ⟨j4, q5, hrun⟩ := bd hrun
    refine g_iald C (dat dt_X8_seeWho 13 rfl) Ha1.2.2.2.1 (rb3 Ha1) q5 ?_
    refine g_istore_n (lv' := [(0, .ref 56), (1, .ref a1), (2, .int x2), (3, .int (aI h (a1 + 3) j4))]) C (dat dt_X8_seeWho 14 rfl) (by decide) rfl ?_
    refine g_iload_n C (dat dt_X8_seeWho 15 rfl) 3 rfl ?_
    refine g_if_lt 42 C (dat dt_X8_seeWho 16 rfl) (by decide) (fun c6 => ?_) (fun c6 => ?_)
    · rw [if_pos c6] at hrun
      refine g_iinc (v := (x2 + (1 : Int32))) (lv' := [(0, .ref 56), (1, .ref a1), (2, .int (x2 + (1 : Int32))), (3, .int (aI h (a1 + 3) j4))]) C (dat dt_X8_seeWho 25 rfl) 2 rfl (congrArg (fun z => x2 + z) ic_1) (by decide) rfl ?_
      refine g_goto 10 C (dat dt_X8_seeWho 26 rfl) (by decide) ?_
      refine g_sub [0, 1, 2] (lv' := [(0, .ref 56), (1, .ref a1), (2, .int (x2 + (1 : Int32)))]) rfl ?_
      cases hrun
      exact Ks ((x2 + (1 : Int32)), h) rfl
    · rw [if_neg c6] at hrun
      refine g_iload_n C (dat dt_X8_seeWho 17 rfl) 3 rfl ?_
      refine g_bipush C (dat dt_X8_seeWho 18 rfl) bp_9 ?_
      refine g_ic_ge 42 C (dat dt_X8_seeWho 19 rfl) (by decide) (fun c7 => ?_) (fun c7 => ?_)
      · rw [if_pos c7] at hrun
        refine g_iinc (v := (x2 + (1 : Int32))) (lv' := [(0, .ref 56), (1, .ref a1), (2, .int (x2 + (1 : Int32))), (3, .int (aI h (a1 + 3) j4))]) C (dat dt_X8_seeWho 25 rfl) 2 rfl (congrArg (fun z => x2 + z) ic_1) (by decide) rfl ?_
        refine g_goto 10 C (dat dt_X8_seeWho 26 rfl) (by decide) ?_
        refine g_sub [0, 1, 2] (lv' := [(0, .ref 56), (1, .ref a1), (2, .int (x2 + (1 : Int32)))]) rfl ?_
        cases hrun
        exact Ks ((x2 + (1 : Int32)), h) rfl
      · rw [if_neg c7] at hrun
        refine g_aload_n C (dat dt_X8_seeWho 20 rfl) 0 rfl ?_
        refine g_getR C (dat dt_X8_seeWho 21 rfl) fl_8_15 kd_56 rfl ltk_56 ?_
        refine g_iload_n C (dat dt_X8_seeWho 22 rfl) 3 rfl ?_
        refine g_iload_n C (dat dt_X8_seeWho 23 rfl) 2 rfl ?_
        obtain ⟨j8, q9, hrun⟩ := bd hrun
        refine g_iast (j := j8) C (dat dt_X8_seeWho 24 rfl) kd_58 ltk_58 q9  ?_
        refine g_iinc (v := (x2 + (1 : Int32))) (lv' := [(0, .ref 56), (1, .ref a1), (2, .int (x2 + (1 : Int32))), (3, .int (aI h (a1 + 3) j4))]) C (dat dt_X8_seeWho 25 rfl) 2 rfl (congrArg (fun z => x2 + z) ic_1) (by decide) rfl ?_
        refine g_goto 10 C (dat dt_X8_seeWho 26 rfl) (by decide) ?_
        refine g_sub [0, 1, 2] (lv' := [(0, .ref 56), (1, .ref a1), (2, .int (x2 + (1 : Int32)))]) rfl ?_
        cases hrun
        exact Ks ((x2 + (1 : Int32)), (sA h 58 j8 x2)) rfl
def f_X8_seeWho (a1 : Nat) (h : Hp) : Option (Unit × Hp) :=
  (f_J7_fill_53178 58 9 (-1 : Int32) h).bind fun v1 =>
  (lp (fun s => b_X8_seeWho_10 a1  s.1 s.2) FU ((0 : Int32), v1.2)).bind fun e10 =>
  some ((), e10)
set_option maxRecDepth 20000 in
theorem w_X8_seeWho (a1 : Nat) (h : Hp) (q : (Unit × Hp)) (Ha1 : IsRoom a1) (hrun : f_X8_seeWho a1 h = some q) : MetA ⟨"SteamNations$Steam", "seeWho", "(LSteamNations$Room;)V"⟩ prog_10_method_5_code 4 none 2 0 0 [.ref 56, .ref a1] h none q.2 := by
  refine metA_of (by decide) (Nat.le_of_ble_eq_true rfl) (fun X C K => ?_)
  have C : Cx X cn_8 prog_10_method_5_code 4 none 2 0 0 := C
  show G X h 0 0 0 [(0, .ref 56), (1, .ref a1)] []
  unfold f_X8_seeWho at hrun
  refine g_aload_n C (dat dt_X8_seeWho 0 rfl) 0 rfl ?_
  refine g_getR C (dat dt_X8_seeWho 1 rfl) fl_8_15 kd_56 rfl ltk_56 ?_
  refine g_iconst C (dat dt_X8_seeWho 2 rfl) ic_m1 ?_
  obtain ⟨v1, q2, hrun⟩ := bd hrun
  refine g_cSv [.ref 58, .int (-1 : Int32)] C (dat dt_X8_seeWho 3 rfl) ml_8_63 (w_J7_fill_53178 58 9 (-1 : Int32) h v1 kd_58 (by decide) q2) rfl rfl cat0 (by decide) c00 ?_
  refine g_iconst C (dat dt_X8_seeWho 4 rfl) ic_0 ?_
  refine g_istore_n (lv' := [(0, .ref 56), (1, .ref a1), (2, .int (0 : Int32))]) C (dat dt_X8_seeWho 5 rfl) (by decide) rfl ?_
  obtain ⟨e10, q11, hrun⟩ := bd hrun
  refine lp_ind (P := fun s => kp_X8_seeWho_10 a1  X s) (K := fun e => ke_X8_seeWho_10 a1  X e) (fun s q hb Ks Ke => wb_X8_seeWho_10 C a1 Ha1  s.1 s.2 q hb Ks Ke) FU ((0 : Int32), v1.2) e10 q11 ?_
  show G X e10 0 0 48 [] []
  cases hrun
  exact g_vret C K (dat dt_X8_seeWho 27 rfl)
/-! SteamNations$Steam.whoBeside(II)I -/
def dl_X8_whoBeside : List (Nat × Instr × Nat) := [(0, .iload_n 1, 1), (1, .ifCond .lt 21, 3), (4, .iload_n 1, 1), (5, .bipush 9, 2), (7, .if_icmp .ge 15, 3), (10, .getstatic 96, 3), (13, .iload_n 1, 1), (14, .iconst 4, 1), (15, .imul, 1), (16, .iload_n 2, 1), (17, .iadd, 1), (18, .iaload, 1), (19, .goto 4, 3), (22, .iconst (-1), 1), (23, .istore_n 3, 1), (24, .iload_n 3, 1), (25, .iconst (-1), 1), (26, .if_icmp .ne 7, 3), (29, .iconst (-1), 1), (30, .goto 9, 3), (33, .aload_n 0, 1), (34, .getfield 15, 3), (37, .iload_n 3, 1), (38, .iaload, 1), (39, .ireturn, 1)]
set_option maxRecDepth 20000 in
theorem dt_X8_whoBeside : ∀ q ∈ dl_X8_whoBeside, decode prog_10_method_6_code q.1 = .ok q.2 := by decide +kernel
def j_X8_whoBeside_23  (s0 : Int32) (h : Hp) : Option Int32 :=
  if s0 = (-1 : Int32) then
  some (-1 : Int32)
  else
  (inb s0 9).bind fun j3 =>
  some (aI h 58 j3)
set_option maxRecDepth 20000 in
theorem wj_X8_whoBeside_23 {X : Xt} (C : Cx X cn_8 prog_10_method_6_code 4 (some .int) 1 0 0)    (s0 : Int32) (h : Hp) (q : Int32) (hrun : j_X8_whoBeside_23  s0 h = some q) (K : EndQ X 0 0 (some (.int q)) h) : G X h 0 0 23 [(0, .ref 56)] [.int s0] := by
  unfold j_X8_whoBeside_23 at hrun
  refine g_istore_n (lv' := [(0, .ref 56), (3, .int s0)]) C (dat dt_X8_whoBeside 14 rfl) (by decide) rfl ?_
  refine g_iload_n C (dat dt_X8_whoBeside 15 rfl) 1 rfl ?_
  refine g_iconst C (dat dt_X8_whoBeside 16 rfl) ic_m1 ?_
  refine g_ic_ne 33 C (dat dt_X8_whoBeside 17 rfl) (by decide) (fun c2 => ?_) (fun c2 => ?_)
  · rw [if_neg c2] at hrun
    refine g_aload_n C (dat dt_X8_whoBeside 20 rfl) 0 rfl ?_
    refine g_getR C (dat dt_X8_whoBeside 21 rfl) fl_8_15 kd_56 rfl ltk_56 ?_
    refine g_iload_n C (dat dt_X8_whoBeside 22 rfl) 1 rfl ?_
    obtain ⟨j3, q4, hrun⟩ := bd hrun
    refine g_iald C (dat dt_X8_whoBeside 23 rfl) kd_58 ltk_58 q4 ?_
    cases hrun
    exact g_iret C K (dat dt_X8_whoBeside 24 rfl)
  · rw [if_pos c2] at hrun
    refine g_iconst C (dat dt_X8_whoBeside 18 rfl) ic_m1 ?_
    refine g_goto 39 C (dat dt_X8_whoBeside 19 rfl) (by decide) ?_
    cases hrun
    exact g_iret C K (dat dt_X8_whoBeside 24 rfl)
def j_X8_whoBeside_22   (h : Hp) : Option Int32 :=
  j_X8_whoBeside_23  (-1 : Int32) h
set_option maxRecDepth 20000 in
theorem wj_X8_whoBeside_22 {X : Xt} (C : Cx X cn_8 prog_10_method_6_code 4 (some .int) 1 0 0)     (h : Hp) (q : Int32) (hrun : j_X8_whoBeside_22   h = some q) (K : EndQ X 0 0 (some (.int q)) h) : G X h 0 0 22 [(0, .ref 56)] [] := by
  unfold j_X8_whoBeside_22 at hrun
  refine g_iconst C (dat dt_X8_whoBeside 13 rfl) ic_m1 ?_
  exact wj_X8_whoBeside_23 C    (-1 : Int32) h _ hrun K
def f_X8_whoBeside (x1 : Int32) (x2 : Int32) (h : Hp) : Option Int32 :=
  if x1 < 0 then
  j_X8_whoBeside_22   h
  else
  if (9 : Int32) ≤ x1 then
  j_X8_whoBeside_22   h
  else
  (inb ((x1 * (4 : Int32)) + x2) 36).bind fun j6 =>
  j_X8_whoBeside_23  (bsT.getD j6 0) h
set_option maxRecDepth 20000 in
theorem w_X8_whoBeside (x1 : Int32) (x2 : Int32) (h : Hp) (q : Int32)  (hrun : f_X8_whoBeside x1 x2 h = some q) : MetA ⟨"SteamNations$Steam", "whoBeside", "(II)I"⟩ prog_10_method_6_code 4 (some .int) 1 0 0 [.ref 56, .int x1, .int x2] h (some (.int q)) h := by
  refine metA_of (by decide) (Nat.le_of_ble_eq_true rfl) (fun X C K => ?_)
  have C : Cx X cn_8 prog_10_method_6_code 4 (some .int) 1 0 0 := C
  show G X h 0 0 0 [(0, .ref 56), (1, .int x1), (2, .int x2)] []
  unfold f_X8_whoBeside at hrun
  refine g_iload_n C (dat dt_X8_whoBeside 0 rfl) 1 rfl ?_
  refine g_if_lt 22 C (dat dt_X8_whoBeside 1 rfl) (by decide) (fun c1 => ?_) (fun c1 => ?_)
  · rw [if_pos c1] at hrun
    refine g_sub [0] (lv' := [(0, .ref 56)]) rfl ?_
    exact wj_X8_whoBeside_22 C     h _ hrun K
  · rw [if_neg c1] at hrun
    refine g_iload_n C (dat dt_X8_whoBeside 2 rfl) 1 rfl ?_
    refine g_bipush C (dat dt_X8_whoBeside 3 rfl) bp_9 ?_
    refine g_ic_ge 22 C (dat dt_X8_whoBeside 4 rfl) (by decide) (fun c5 => ?_) (fun c5 => ?_)
    · rw [if_pos c5] at hrun
      refine g_sub [0] (lv' := [(0, .ref 56)]) rfl ?_
      exact wj_X8_whoBeside_22 C     h _ hrun K
    · rw [if_neg c5] at hrun
      refine g_gsB C (dat dt_X8_whoBeside 5 rfl) ?_
      refine g_iload_n C (dat dt_X8_whoBeside 6 rfl) 1 rfl ?_
      refine g_iconst C (dat dt_X8_whoBeside 7 rfl) ic_4 ?_
      refine g_imul C (dat dt_X8_whoBeside 8 rfl) ?_
      refine g_iload_n C (dat dt_X8_whoBeside 9 rfl) 2 rfl ?_
      refine g_iadd C (dat dt_X8_whoBeside 10 rfl) ?_
      obtain ⟨j6, q7, hrun⟩ := bd hrun
      refine g_tldB C (dat dt_X8_whoBeside 11 rfl) q7 ?_
      refine g_goto 23 C (dat dt_X8_whoBeside 12 rfl) (by decide) ?_
      refine g_sub [0] (lv' := [(0, .ref 56)]) rfl ?_
      exact wj_X8_whoBeside_23 C    (bsT.getD j6 0) h _ hrun K
/-! SteamNations$Steam.passMinute(LSteamNations$Room;LSteamNations$Text;)V -/
def dl_X8_passMinute : List (Nat × Instr × Nat) := [(0, .aload_n 0, 1), (1, .getfield 9, 3), (4, .iconst 0, 1), (5, .invokestatic 63, 3), (8, .aload_n 0, 1), (9, .aload_n 1, 1), (10, .invokevirtual 69, 3), (13, .iconst 0, 1), (14, .istore_n 3, 1), (15, .iload_n 3, 1), (16, .aload_n 1, 1), (17, .getfield 73, 3), (20, .if_icmp .ge 150, 3), (23, .aload_n 1, 1), (24, .getfield 76, 3), (27, .iload_n 3, 1), (28, .iaload, 1), (29, .iconst (-1), 1), (30, .if_icmp .eq 134, 3), (33, .aload_n 0, 1), (34, .aload_n 1, 1), (35, .aload_n 2, 1), (36, .iload_n 3, 1), (37, .bipush 14, 2), (39, .invokevirtual 79, 3), (42, .ifCond .eq 6, 3), (45, .goto 119, 3), (48, .aload_n 1, 1), (49, .iload_n 3, 1), (50, .invokevirtual 48, 3), (53, .istore 4, 2), (55, .aload_n 1, 1), (56, .getfield 83, 3), (59, .iload_n 3, 1), (60, .iconst 3, 1), (61, .imul, 1), (62, .iload 4, 2), (64, .iadd, 1), (65, .iaload, 1), (66, .istore 5, 2), (68, .iconst 0, 1), (69, .istore 6, 2), (71, .iload 6, 2), (73, .iconst 4, 1), (74, .if_icmp .ge 90, 3), (77, .iload 5, 2), (79, .ifCond .le 85, 3), (82, .aload_n 0, 1), (83, .aload_n 1, 1), (84, .getfield 76, 3), (87, .iload_n 3, 1), (88, .iaload, 1), (89, .iload 6, 2), (91, .invokevirtual 86, 3), (94, .istore 7, 2), (96, .iload 7, 2), (98, .iconst (-1), 1), (99, .if_icmp .eq 59, 3), (102, .iload 5, 2), (104, .aload_n 0, 1), (105, .aload_n 1, 1), (106, .aload_n 2, 1), (107, .iload_n 3, 1), (108, .iload 7, 2), (110, .invokevirtual 89, 3), (113, .invokestatic 55, 3), (116, .istore 8, 2), (118, .iload 5, 2), (120, .iload 8, 2), (122, .isub, 1), (123, .istore 5, 2), (125, .aload_n 0, 1), (126, .getfield 9, 3), (129, .iload_n 3, 1), (130, .iconst 3, 1), (131, .imul, 1), (132, .iload 4, 2), (134, .iadd, 1), (135, .dup2, 1), (136, .iaload, 1), (137, .iload 8, 2), (139, .isub, 1), (140, .iastore, 1), (141, .aload_n 0, 1), (142, .getfield 9, 3), (145, .iload 7, 2), (147, .iconst 3, 1), (148, .imul, 1), (149, .iload 4, 2), (151, .iadd, 1), (152, .dup2, 1), (153, .iaload, 1), (154, .iload 8, 2), (156, .iadd, 1), (157, .iastore, 1), (158, .iinc 6 1, 3), (161, .goto (-90), 3), (164, .iinc 3 1, 3), (167, .goto (-152), 3), (170, .iconst 0, 1), (171, .istore_n 3, 1), (172, .iload_n 3, 1), (173, .aload_n 0, 1), (174, .getfield 9, 3), (177, .arraylength, 1), (178, .if_icmp .ge 24, 3), (181, .aload_n 1, 1), (182, .getfield 83, 3), (185, .iload_n 3, 1), (186, .dup2, 1), (187, .iaload, 1), (188, .aload_n 0, 1), (189, .getfield 9, 3), (192, .iload_n 3, 1), (193, .iaload, 1), (194, .iadd, 1), (195, .iastore, 1), (196, .iinc 3 1, 3), (199, .goto (-27), 3), (202, .iconst 0, 1), (203, .istore_n 3, 1), (204, .iload_n 3, 1), (205, .aload_n 1, 1), (206, .getfield 73, 3), (209, .if_icmp .ge 38, 3), (212, .aload_n 1, 1), (213, .getfield 76, 3), (216, .iload_n 3, 1), (217, .iaload, 1), (218, .iconst (-1), 1), (219, .if_icmp .eq 22, 3), (222, .aload_n 0, 1), (223, .aload_n 1, 1), (224, .aload_n 2, 1), (225, .iload_n 3, 1), (226, .bipush 15, 2), (228, .invokevirtual 79, 3), (231, .ifCond .eq 10, 3), (234, .aload_n 1, 1), (235, .getfield 76, 3), (238, .iload_n 3, 1), (239, .iconst (-1), 1), (240, .iastore, 1), (241, .iinc 3 1, 3), (244, .goto (-40), 3), (247, .aload_n 1, 1), (248, .getfield 93, 3), (251, .iconst 0, 1), (252, .dup2, 1), (253, .iaload, 1), (254, .iconst 1, 1), (255, .iadd, 1), (256, .iastore, 1), (257, .return_, 1)]
set_option maxRecDepth 20000 in
theorem dt_X8_passMinute : ∀ q ∈ dl_X8_passMinute, decode prog_10_method_4_code q.1 = .ok q.2 := by decide +kernel
def kp_X8_passMinute_15 (a1 : Nat) (a2 : Nat)  (X : Xt) (s : (Int32 × Hp)) : Prop := G X s.2 0 0 15 [(0, .ref 56), (1, .ref a1), (2, .ref a2), (3, .int s.1)] []
def ke_X8_passMinute_15 (a1 : Nat) (a2 : Nat)  (X : Xt) (e : Hp) : Prop := G X e 0 0 170 [(0, .ref 56), (1, .ref a1), (2, .ref a2)] []
def kp_X8_passMinute_71_15 (a1 : Nat) (a2 : Nat) (x3 : Int32) (x4 : Int32) (X : Xt) (s : (Int32 × Int32 × Hp)) : Prop := G X s.2.2 0 0 71 [(0, .ref 56), (1, .ref a1), (2, .ref a2), (3, .int x3), (4, .int x4), (5, .int s.1), (6, .int s.2.1)] []
def ke_X8_passMinute_71_15 (a1 : Nat) (a2 : Nat) (x3 : Int32) (x4 : Int32) (X : Xt) (e : Hp) : Prop := G X e 0 0 164 [(0, .ref 56), (1, .ref a1), (2, .ref a2), (3, .int x3)] []
def b_X8_passMinute_71_15 (a1 : Nat) (a2 : Nat) (x3 : Int32) (x4 : Int32) (x5 : Int32) (x6 : Int32) (h : Hp) : Option ((Int32 × Int32 × Hp) ⊕ Hp) :=
  if (4 : Int32) ≤ x6 then
  some (.inr ( h))
  else
  if x5 ≤ 0 then
  some (.inr ( h))
  else
  (inb x3 6).bind fun j18 =>
  (f_X8_whoBeside (aI h (a1 + 3) j18) x6 h).bind fun v20 =>
  if v20 = (-1 : Int32) then
  some (.inl (x5, (x6 + (1 : Int32)), h))
  else
  (f_X8_partsTold a1 a2 x3 v20 h).bind fun v23 =>
  (f_J9_min_7cf53 x5 v23.1).bind fun v25 =>
  (inb ((x3 * (3 : Int32)) + x4) 18).bind fun j27 =>
  (inb ((x3 * (3 : Int32)) + x4) 18).bind fun j29 =>
  (inb ((v20 * (3 : Int32)) + x4) 18).bind fun j31 =>
  (inb ((v20 * (3 : Int32)) + x4) 18).bind fun j33 =>
  some (.inl ((x5 - v25), (x6 + (1 : Int32)), (sA (sA v23.2 57 j29 ((aI v23.2 57 j27) - v25)) 57 j33 ((aI (sA v23.2 57 j29 ((aI v23.2 57 j27) - v25)) 57 j31) + v25))))
set_option maxRecDepth 20000 in
theorem wb_X8_passMinute_71_15 {X : Xt} (C : Cx X cn_8 prog_10_method_4_code 9 none 4 0 0) (a1 : Nat) (a2 : Nat) (Ha1 : IsRoom a1) (x3 : Int32) (x4 : Int32) (x5 : Int32) (x6 : Int32) (h : Hp) (q : (Int32 × Int32 × Hp) ⊕ Hp) (hrun : b_X8_passMinute_71_15 a1 a2 x3 x4 x5 x6 h = some q) (Ks : ∀ s, q = .inl s → kp_X8_passMinute_71_15 a1 a2 x3 x4 X s) (Ke : ∀ e, q = .inr e → ke_X8_passMinute_71_15 a1 a2 x3 x4 X e) : kp_X8_passMinute_71_15 a1 a2 x3 x4 X (x5, x6, h) := by
  show G X h 0 0 71 [(0, .ref 56), (1, .ref a1), (2, .ref a2), (3, .int x3), (4, .int x4), (5, .int x5), (6, .int x6)] []
  unfold b_X8_passMinute_71_15 at hrun
  refine g_iload C (dat dt_X8_passMinute 42 rfl) 6 rfl ?_
  refine g_iconst C (dat dt_X8_passMinute 43 rfl) ic_4 ?_
  refine g_ic_ge 164 C (dat dt_X8_passMinute 44 rfl) (by decide) (fun c16 => ?_) (fun c16 => ?_)
  · rw [if_pos c16] at hrun
    refine g_sub [0, 1, 2, 3] (lv' := [(0, .ref 56), (1, .ref a1), (2, .ref a2), (3, .int x3)]) rfl ?_
    cases hrun
    exact Ke ( h) rfl
  · rw [if_neg c16] at hrun
    refine g_iload C (dat dt_X8_passMinute 45 rfl) 5 rfl ?_
    refine g_if_le 164 C (dat dt_X8_passMinute 46 rfl) (by decide) (fun c17 => ?_) (fun c17 => ?_)
    · rw [if_pos c17] at hrun
      refine g_sub [0, 1, 2, 3] (lv' := [(0, .ref 56), (1, .ref a1), (2, .ref a2), (3, .int x3)]) rfl ?_
      cases hrun
      exact Ke ( h) rfl
    · rw [if_neg c17] at hrun
      refine g_aload_n C (dat dt_X8_passMinute 47 rfl) 0 rfl ?_
      refine g_aload_n C (dat dt_X8_passMinute 48 rfl) 1 rfl ?_
      refine g_getR C (dat dt_X8_passMinute 49 rfl) fl_8_76 Ha1.1 rfl (rb0 Ha1) ?_
      refine g_iload_n C (dat dt_X8_passMinute 50 rfl) 3 rfl ?_
      obtain ⟨j18, q19, hrun⟩ := bd hrun
      refine g_iald C (dat dt_X8_passMinute 51 rfl) Ha1.2.2.2.1 (rb3 Ha1) q19 ?_
      refine g_iload C (dat dt_X8_passMinute 52 rfl) 6 rfl ?_
      obtain ⟨v20, q21, hrun⟩ := bd hrun
      refine g_cVi [.int (aI h (a1 + 3) j18), .int x6] C (dat dt_X8_passMinute 53 rfl) ml_8_86 (w_X8_whoBeside (aI h (a1 + 3) j18) x6 h v20  q21) kd_56 ltk_56 rfl rfl cat0 (by decide) c00 ?_
      refine g_istore (lv' := [(0, .ref 56), (1, .ref a1), (2, .ref a2), (3, .int x3), (4, .int x4), (5, .int x5), (6, .int x6), (7, .int v20)]) C (dat dt_X8_passMinute 54 rfl) (by decide) rfl ?_
      refine g_iload C (dat dt_X8_passMinute 55 rfl) 7 rfl ?_
      refine g_iconst C (dat dt_X8_passMinute 56 rfl) ic_m1 ?_
      refine g_ic_eq 158 C (dat dt_X8_passMinute 57 rfl) (by decide) (fun c22 => ?_) (fun c22 => ?_)
      · rw [if_pos c22] at hrun
        refine g_iinc (v := (x6 + (1 : Int32))) (lv' := [(0, .ref 56), (1, .ref a1), (2, .ref a2), (3, .int x3), (4, .int x4), (5, .int x5), (6, .int (x6 + (1 : Int32))), (7, .int v20)]) C (dat dt_X8_passMinute 95 rfl) 6 rfl (congrArg (fun z => x6 + z) ic_1) (by decide) rfl ?_
        refine g_goto 71 C (dat dt_X8_passMinute 96 rfl) (by decide) ?_
        refine g_sub [0, 1, 2, 3, 4, 5, 6] (lv' := [(0, .ref 56), (1, .ref a1), (2, .ref a2), (3, .int x3), (4, .int x4), (5, .int x5), (6, .int (x6 + (1 : Int32)))]) rfl ?_
        cases hrun
        exact Ks (x5, (x6 + (1 : Int32)), h) rfl
      · rw [if_neg c22] at hrun
        refine g_iload C (dat dt_X8_passMinute 58 rfl) 5 rfl ?_
        refine g_aload_n C (dat dt_X8_passMinute 59 rfl) 0 rfl ?_
        refine g_aload_n C (dat dt_X8_passMinute 60 rfl) 1 rfl ?_
        refine g_aload_n C (dat dt_X8_passMinute 61 rfl) 2 rfl ?_
        refine g_iload_n C (dat dt_X8_passMinute 62 rfl) 3 rfl ?_
        refine g_iload C (dat dt_X8_passMinute 63 rfl) 7 rfl ?_
        obtain ⟨v23, q24, hrun⟩ := bd hrun
        refine g_cVi [.ref a1, .ref a2, .int x3, .int v20] C (dat dt_X8_passMinute 64 rfl) ml_8_89 (w_X8_partsTold a1 a2 x3 v20 h v23 Ha1 q24) kd_56 ltk_56 rfl rfl (Nat.le_of_ble_eq_true rfl) (by decide) c00 ?_
        obtain ⟨v25, q26, hrun⟩ := bd hrun
        refine g_cSi [.int x5, .int v23.1] C (dat dt_X8_passMinute 65 rfl) ml_8_55 (w_J9_min_7cf53 x5 v23.1 v23.2 v25  q26) rfl rfl cat0 (by decide) c00 ?_
        refine g_istore (lv' := [(0, .ref 56), (1, .ref a1), (2, .ref a2), (3, .int x3), (4, .int x4), (5, .int x5), (6, .int x6), (7, .int v20), (8, .int v25)]) C (dat dt_X8_passMinute 66 rfl) (by decide) rfl ?_
        refine g_iload C (dat dt_X8_passMinute 67 rfl) 5 rfl ?_
        refine g_iload C (dat dt_X8_passMinute 68 rfl) 8 rfl ?_
        refine g_isub C (dat dt_X8_passMinute 69 rfl) ?_
        refine g_istore (lv' := [(0, .ref 56), (1, .ref a1), (2, .ref a2), (3, .int x3), (4, .int x4), (5, .int (x5 - v25)), (6, .int x6), (7, .int v20), (8, .int v25)]) C (dat dt_X8_passMinute 70 rfl) (by decide) rfl ?_
        refine g_aload_n C (dat dt_X8_passMinute 71 rfl) 0 rfl ?_
        refine g_getR C (dat dt_X8_passMinute 72 rfl) fl_8_9 kd_56 rfl ltk_56 ?_
        refine g_iload_n C (dat dt_X8_passMinute 73 rfl) 3 rfl ?_
        refine g_iconst C (dat dt_X8_passMinute 74 rfl) ic_3 ?_
        refine g_imul C (dat dt_X8_passMinute 75 rfl) ?_
        refine g_iload C (dat dt_X8_passMinute 76 rfl) 4 rfl ?_
        refine g_iadd C (dat dt_X8_passMinute 77 rfl) ?_
        refine g_dup2 C (dat dt_X8_passMinute 78 rfl) rfl rfl ?_
        obtain ⟨j27, q28, hrun⟩ := bd hrun
        refine g_iald C (dat dt_X8_passMinute 79 rfl) kd_57 ltk_57 q28 ?_
        refine g_iload C (dat dt_X8_passMinute 80 rfl) 8 rfl ?_
        refine g_isub C (dat dt_X8_passMinute 81 rfl) ?_
        obtain ⟨j29, q30, hrun⟩ := bd hrun
        refine g_iast (j := j29) C (dat dt_X8_passMinute 82 rfl) kd_57 ltk_57 q30  ?_
        refine g_aload_n C (dat dt_X8_passMinute 83 rfl) 0 rfl ?_
        refine g_getR C (dat dt_X8_passMinute 84 rfl) fl_8_9 kd_56 rfl ltk_56 ?_
        refine g_iload C (dat dt_X8_passMinute 85 rfl) 7 rfl ?_
        refine g_iconst C (dat dt_X8_passMinute 86 rfl) ic_3 ?_
        refine g_imul C (dat dt_X8_passMinute 87 rfl) ?_
        refine g_iload C (dat dt_X8_passMinute 88 rfl) 4 rfl ?_
        refine g_iadd C (dat dt_X8_passMinute 89 rfl) ?_
        refine g_dup2 C (dat dt_X8_passMinute 90 rfl) rfl rfl ?_
        obtain ⟨j31, q32, hrun⟩ := bd hrun
        refine g_iald C (dat dt_X8_passMinute 91 rfl) kd_57 ltk_57 q32 ?_
        refine g_iload C (dat dt_X8_passMinute 92 rfl) 8 rfl ?_
        refine g_iadd C (dat dt_X8_passMinute 93 rfl) ?_
        obtain ⟨j33, q34, hrun⟩ := bd hrun
        refine g_iast (j := j33) C (dat dt_X8_passMinute 94 rfl) kd_57 ltk_57 q34  ?_
        refine g_iinc (v := (x6 + (1 : Int32))) (lv' := [(0, .ref 56), (1, .ref a1), (2, .ref a2), (3, .int x3), (4, .int x4), (5, .int (x5 - v25)), (6, .int (x6 + (1 : Int32))), (7, .int v20), (8, .int v25)]) C (dat dt_X8_passMinute 95 rfl) 6 rfl (congrArg (fun z => x6 + z) ic_1) (by decide) rfl ?_
        refine g_goto 71 C (dat dt_X8_passMinute 96 rfl) (by decide) ?_
        refine g_sub [0, 1, 2, 3, 4, 5, 6] (lv' := [(0, .ref 56), (1, .ref a1), (2, .ref a2), (3, .int x3), (4, .int x4), (5, .int (x5 - v25)), (6, .int (x6 + (1 : Int32)))]) rfl ?_
        cases hrun
        exact Ks ((x5 - v25), (x6 + (1 : Int32)), (sA (sA v23.2 57 j29 ((aI v23.2 57 j27) - v25)) 57 j33 ((aI (sA v23.2 57 j29 ((aI v23.2 57 j27) - v25)) 57 j31) + v25))) rfl
def b_X8_passMinute_15 (a1 : Nat) (a2 : Nat)  (x3 : Int32) (h : Hp) : Option ((Int32 × Hp) ⊕ Hp) :=
  if (fI h a1 0) ≤ x3 then
  some (.inr ( h))
  else
  (inb x3 6).bind fun j6 =>
  if (aI h (a1 + 3) j6) = (-1 : Int32) then
  some (.inl ((x3 + (1 : Int32)), h))
  else
  (f_X8_anyHolds a1 a2 x3 (14 : Int32) h).bind fun v9 =>
  if v9.1 = true then
  some (.inl ((x3 + (1 : Int32)), v9.2))
  else
  (f_X6_nationOf a1 x3 v9.2).bind fun v12 =>
  (inb ((x3 * (3 : Int32)) + v12) 18).bind fun j14 =>
  (lp (fun s => b_X8_passMinute_71_15 a1 a2 x3 v12 s.1 s.2.1 s.2.2) FU ((aI v9.2 (a1 + 1) j14), (0 : Int32), v9.2)).bind fun e35 =>
  some (.inl ((x3 + (1 : Int32)), e35))
set_option maxRecDepth 20000 in
theorem wb_X8_passMinute_15 {X : Xt} (C : Cx X cn_8 prog_10_method_4_code 9 none 4 0 0) (a1 : Nat) (a2 : Nat) (Ha1 : IsRoom a1)  (x3 : Int32) (h : Hp) (q : (Int32 × Hp) ⊕ Hp) (hrun : b_X8_passMinute_15 a1 a2  x3 h = some q) (Ks : ∀ s, q = .inl s → kp_X8_passMinute_15 a1 a2  X s) (Ke : ∀ e, q = .inr e → ke_X8_passMinute_15 a1 a2  X e) : kp_X8_passMinute_15 a1 a2  X (x3, h) := by
  show G X h 0 0 15 [(0, .ref 56), (1, .ref a1), (2, .ref a2), (3, .int x3)] []
  unfold b_X8_passMinute_15 at hrun
  refine g_iload_n C (dat dt_X8_passMinute 9 rfl) 3 rfl ?_
  refine g_aload_n C (dat dt_X8_passMinute 10 rfl) 1 rfl ?_
  refine g_getI C (dat dt_X8_passMinute 11 rfl) fl_8_73 Ha1.1 rfl (rb0 Ha1) ?_
  refine g_ic_ge 170 C (dat dt_X8_passMinute 12 rfl) (by decide) (fun c5 => ?_) (fun c5 => ?_)
  · rw [if_pos c5] at hrun
    refine g_sub [0, 1, 2] (lv' := [(0, .ref 56), (1, .ref a1), (2, .ref a2)]) rfl ?_
    cases hrun
    exact Ke ( h) rfl
  · rw [if_neg c5] at hrun
    refine g_aload_n C (dat dt_X8_passMinute 13 rfl) 1 rfl ?_
    refine g_getR C (dat dt_X8_passMinute 14 rfl) fl_8_76 Ha1.1 rfl (rb0 Ha1) ?_
    refine g_iload_n C (dat dt_X8_passMinute 15 rfl) 3 rfl ?_
    obtain ⟨j6, q7, hrun⟩ := bd hrun
    refine g_iald C (dat dt_X8_passMinute 16 rfl) Ha1.2.2.2.1 (rb3 Ha1) q7 ?_
    refine g_iconst C (dat dt_X8_passMinute 17 rfl) ic_m1 ?_
    refine g_ic_eq 164 C (dat dt_X8_passMinute 18 rfl) (by decide) (fun c8 => ?_) (fun c8 => ?_)
    · rw [if_pos c8] at hrun
      refine g_iinc (v := (x3 + (1 : Int32))) (lv' := [(0, .ref 56), (1, .ref a1), (2, .ref a2), (3, .int (x3 + (1 : Int32)))]) C (dat dt_X8_passMinute 97 rfl) 3 rfl (congrArg (fun z => x3 + z) ic_1) (by decide) rfl ?_
      refine g_goto 15 C (dat dt_X8_passMinute 98 rfl) (by decide) ?_
      cases hrun
      exact Ks ((x3 + (1 : Int32)), h) rfl
    · rw [if_neg c8] at hrun
      refine g_aload_n C (dat dt_X8_passMinute 19 rfl) 0 rfl ?_
      refine g_aload_n C (dat dt_X8_passMinute 20 rfl) 1 rfl ?_
      refine g_aload_n C (dat dt_X8_passMinute 21 rfl) 2 rfl ?_
      refine g_iload_n C (dat dt_X8_passMinute 22 rfl) 3 rfl ?_
      refine g_bipush C (dat dt_X8_passMinute 23 rfl) bp_14 ?_
      obtain ⟨v9, q10, hrun⟩ := bd hrun
      refine g_cVi [.ref a1, .ref a2, .int x3, .int (14 : Int32)] C (dat dt_X8_passMinute 24 rfl) ml_8_79 (w_X8_anyHolds a1 a2 x3 (14 : Int32) h v9 Ha1 q10) kd_56 ltk_56 rfl rfl cat0 (by decide) c00 ?_
      refine g_if_eq 48 C (dat dt_X8_passMinute 25 rfl) (by decide) (fun c11 => ?_) (fun c11 => ?_)
      · rw [if_neg (b2i_z c11)] at hrun
        refine g_aload_n C (dat dt_X8_passMinute 27 rfl) 1 rfl ?_
        refine g_iload_n C (dat dt_X8_passMinute 28 rfl) 3 rfl ?_
        obtain ⟨v12, q13, hrun⟩ := bd hrun
        refine g_cVi [.int x3] C (dat dt_X8_passMinute 29 rfl) ml_8_48 (w_X6_nationOf a1 x3 v9.2 v12 Ha1 q13) Ha1.1 (rb0 Ha1) rfl rfl cat0 (by decide) c00 ?_
        refine g_istore (lv' := [(0, .ref 56), (1, .ref a1), (2, .ref a2), (3, .int x3), (4, .int v12)]) C (dat dt_X8_passMinute 30 rfl) (by decide) rfl ?_
        refine g_aload_n C (dat dt_X8_passMinute 31 rfl) 1 rfl ?_
        refine g_getR C (dat dt_X8_passMinute 32 rfl) fl_8_83 Ha1.1 rfl (rb0 Ha1) ?_
        refine g_iload_n C (dat dt_X8_passMinute 33 rfl) 3 rfl ?_
        refine g_iconst C (dat dt_X8_passMinute 34 rfl) ic_3 ?_
        refine g_imul C (dat dt_X8_passMinute 35 rfl) ?_
        refine g_iload C (dat dt_X8_passMinute 36 rfl) 4 rfl ?_
        refine g_iadd C (dat dt_X8_passMinute 37 rfl) ?_
        obtain ⟨j14, q15, hrun⟩ := bd hrun
        refine g_iald C (dat dt_X8_passMinute 38 rfl) Ha1.2.1 (rb1 Ha1) q15 ?_
        refine g_istore (lv' := [(0, .ref 56), (1, .ref a1), (2, .ref a2), (3, .int x3), (4, .int v12), (5, .int (aI v9.2 (a1 + 1) j14))]) C (dat dt_X8_passMinute 39 rfl) (by decide) rfl ?_
        refine g_iconst C (dat dt_X8_passMinute 40 rfl) ic_0 ?_
        refine g_istore (lv' := [(0, .ref 56), (1, .ref a1), (2, .ref a2), (3, .int x3), (4, .int v12), (5, .int (aI v9.2 (a1 + 1) j14)), (6, .int (0 : Int32))]) C (dat dt_X8_passMinute 41 rfl) (by decide) rfl ?_
        obtain ⟨e35, q36, hrun⟩ := bd hrun
        refine lp_ind (P := fun s => kp_X8_passMinute_71_15 a1 a2 x3 v12 X s) (K := fun e => ke_X8_passMinute_71_15 a1 a2 x3 v12 X e) (fun s q hb Ks Ke => wb_X8_passMinute_71_15 C a1 a2 Ha1 x3 v12 s.1 s.2.1 s.2.2 q hb Ks Ke) FU ((aI v9.2 (a1 + 1) j14), (0 : Int32), v9.2) e35 q36 ?_
        show G X e35 0 0 164 [(0, .ref 56), (1, .ref a1), (2, .ref a2), (3, .int x3)] []
        refine g_iinc (v := (x3 + (1 : Int32))) (lv' := [(0, .ref 56), (1, .ref a1), (2, .ref a2), (3, .int (x3 + (1 : Int32)))]) C (dat dt_X8_passMinute 97 rfl) 3 rfl (congrArg (fun z => x3 + z) ic_1) (by decide) rfl ?_
        refine g_goto 15 C (dat dt_X8_passMinute 98 rfl) (by decide) ?_
        cases hrun
        exact Ks ((x3 + (1 : Int32)), e35) rfl
      · rw [if_pos (b2i_nz c11)] at hrun
        refine g_goto 164 C (dat dt_X8_passMinute 26 rfl) (by decide) ?_
        refine g_iinc (v := (x3 + (1 : Int32))) (lv' := [(0, .ref 56), (1, .ref a1), (2, .ref a2), (3, .int (x3 + (1 : Int32)))]) C (dat dt_X8_passMinute 97 rfl) 3 rfl (congrArg (fun z => x3 + z) ic_1) (by decide) rfl ?_
        refine g_goto 15 C (dat dt_X8_passMinute 98 rfl) (by decide) ?_
        cases hrun
        exact Ks ((x3 + (1 : Int32)), v9.2) rfl
def kp_X8_passMinute_172 (a1 : Nat) (a2 : Nat)  (X : Xt) (s : (Int32 × Hp)) : Prop := G X s.2 0 0 172 [(0, .ref 56), (1, .ref a1), (2, .ref a2), (3, .int s.1)] []
def ke_X8_passMinute_172 (a1 : Nat) (a2 : Nat)  (X : Xt) (e : Hp) : Prop := G X e 0 0 202 [(0, .ref 56), (1, .ref a1), (2, .ref a2)] []
def b_X8_passMinute_172 (a1 : Nat) (a2 : Nat)  (x3 : Int32) (h : Hp) : Option ((Int32 × Hp) ⊕ Hp) :=
  if (18 : Int32) ≤ x3 then
  some (.inr ( h))
  else
  (inb x3 18).bind fun j40 =>
  (inb x3 18).bind fun j42 =>
  (inb x3 18).bind fun j44 =>
  some (.inl ((x3 + (1 : Int32)), (sA h (a1 + 1) j44 ((aI h (a1 + 1) j40) + (aI h 57 j42)))))
set_option maxRecDepth 20000 in
theorem wb_X8_passMinute_172 {X : Xt} (C : Cx X cn_8 prog_10_method_4_code 9 none 4 0 0) (a1 : Nat) (a2 : Nat) (Ha1 : IsRoom a1)  (x3 : Int32) (h : Hp) (q : (Int32 × Hp) ⊕ Hp) (hrun : b_X8_passMinute_172 a1 a2  x3 h = some q) (Ks : ∀ s, q = .inl s → kp_X8_passMinute_172 a1 a2  X s) (Ke : ∀ e, q = .inr e → ke_X8_passMinute_172 a1 a2  X e) : kp_X8_passMinute_172 a1 a2  X (x3, h) := by
  show G X h 0 0 172 [(0, .ref 56), (1, .ref a1), (2, .ref a2), (3, .int x3)] []
  unfold b_X8_passMinute_172 at hrun
  refine g_iload_n C (dat dt_X8_passMinute 101 rfl) 3 rfl ?_
  refine g_aload_n C (dat dt_X8_passMinute 102 rfl) 0 rfl ?_
  refine g_getR C (dat dt_X8_passMinute 103 rfl) fl_8_9 kd_56 rfl ltk_56 ?_
  refine g_alen (v := (18 : Int32)) C (dat dt_X8_passMinute 104 rfl) kd_57 (by decide) ltk_57 rfl ?_
  refine g_ic_ge 202 C (dat dt_X8_passMinute 105 rfl) (by decide) (fun c39 => ?_) (fun c39 => ?_)
  · rw [if_pos c39] at hrun
    refine g_sub [0, 1, 2] (lv' := [(0, .ref 56), (1, .ref a1), (2, .ref a2)]) rfl ?_
    cases hrun
    exact Ke ( h) rfl
  · rw [if_neg c39] at hrun
    refine g_aload_n C (dat dt_X8_passMinute 106 rfl) 1 rfl ?_
    refine g_getR C (dat dt_X8_passMinute 107 rfl) fl_8_83 Ha1.1 rfl (rb0 Ha1) ?_
    refine g_iload_n C (dat dt_X8_passMinute 108 rfl) 3 rfl ?_
    refine g_dup2 C (dat dt_X8_passMinute 109 rfl) rfl rfl ?_
    obtain ⟨j40, q41, hrun⟩ := bd hrun
    refine g_iald C (dat dt_X8_passMinute 110 rfl) Ha1.2.1 (rb1 Ha1) q41 ?_
    refine g_aload_n C (dat dt_X8_passMinute 111 rfl) 0 rfl ?_
    refine g_getR C (dat dt_X8_passMinute 112 rfl) fl_8_9 kd_56 rfl ltk_56 ?_
    refine g_iload_n C (dat dt_X8_passMinute 113 rfl) 3 rfl ?_
    obtain ⟨j42, q43, hrun⟩ := bd hrun
    refine g_iald C (dat dt_X8_passMinute 114 rfl) kd_57 ltk_57 q43 ?_
    refine g_iadd C (dat dt_X8_passMinute 115 rfl) ?_
    obtain ⟨j44, q45, hrun⟩ := bd hrun
    refine g_iast (j := j44) C (dat dt_X8_passMinute 116 rfl) Ha1.2.1 (rb1 Ha1) q45  ?_
    refine g_iinc (v := (x3 + (1 : Int32))) (lv' := [(0, .ref 56), (1, .ref a1), (2, .ref a2), (3, .int (x3 + (1 : Int32)))]) C (dat dt_X8_passMinute 117 rfl) 3 rfl (congrArg (fun z => x3 + z) ic_1) (by decide) rfl ?_
    refine g_goto 172 C (dat dt_X8_passMinute 118 rfl) (by decide) ?_
    cases hrun
    exact Ks ((x3 + (1 : Int32)), (sA h (a1 + 1) j44 ((aI h (a1 + 1) j40) + (aI h 57 j42)))) rfl
def kp_X8_passMinute_204 (a1 : Nat) (a2 : Nat)  (X : Xt) (s : (Int32 × Hp)) : Prop := G X s.2 0 0 204 [(0, .ref 56), (1, .ref a1), (2, .ref a2), (3, .int s.1)] []
def ke_X8_passMinute_204 (a1 : Nat) (a2 : Nat)  (X : Xt) (e : Hp) : Prop := G X e 0 0 247 [(1, .ref a1)] []
def b_X8_passMinute_204 (a1 : Nat) (a2 : Nat)  (x3 : Int32) (h : Hp) : Option ((Int32 × Hp) ⊕ Hp) :=
  if (fI h a1 0) ≤ x3 then
  some (.inr ( h))
  else
  (inb x3 6).bind fun j49 =>
  if (aI h (a1 + 3) j49) = (-1 : Int32) then
  some (.inl ((x3 + (1 : Int32)), h))
  else
  (f_X8_anyHolds a1 a2 x3 (15 : Int32) h).bind fun v52 =>
  if v52.1 = true then
  (inb x3 6).bind fun j55 =>
  some (.inl ((x3 + (1 : Int32)), (sA v52.2 (a1 + 3) j55 (-1 : Int32))))
  else
  some (.inl ((x3 + (1 : Int32)), v52.2))
set_option maxRecDepth 20000 in
theorem wb_X8_passMinute_204 {X : Xt} (C : Cx X cn_8 prog_10_method_4_code 9 none 4 0 0) (a1 : Nat) (a2 : Nat) (Ha1 : IsRoom a1)  (x3 : Int32) (h : Hp) (q : (Int32 × Hp) ⊕ Hp) (hrun : b_X8_passMinute_204 a1 a2  x3 h = some q) (Ks : ∀ s, q = .inl s → kp_X8_passMinute_204 a1 a2  X s) (Ke : ∀ e, q = .inr e → ke_X8_passMinute_204 a1 a2  X e) : kp_X8_passMinute_204 a1 a2  X (x3, h) := by
  show G X h 0 0 204 [(0, .ref 56), (1, .ref a1), (2, .ref a2), (3, .int x3)] []
  unfold b_X8_passMinute_204 at hrun
  refine g_iload_n C (dat dt_X8_passMinute 121 rfl) 3 rfl ?_
  refine g_aload_n C (dat dt_X8_passMinute 122 rfl) 1 rfl ?_
  refine g_getI C (dat dt_X8_passMinute 123 rfl) fl_8_73 Ha1.1 rfl (rb0 Ha1) ?_
  refine g_ic_ge 247 C (dat dt_X8_passMinute 124 rfl) (by decide) (fun c48 => ?_) (fun c48 => ?_)
  · rw [if_pos c48] at hrun
    refine g_sub [1] (lv' := [(1, .ref a1)]) rfl ?_
    cases hrun
    exact Ke ( h) rfl
  · rw [if_neg c48] at hrun
    refine g_aload_n C (dat dt_X8_passMinute 125 rfl) 1 rfl ?_
    refine g_getR C (dat dt_X8_passMinute 126 rfl) fl_8_76 Ha1.1 rfl (rb0 Ha1) ?_
    refine g_iload_n C (dat dt_X8_passMinute 127 rfl) 3 rfl ?_
    obtain ⟨j49, q50, hrun⟩ := bd hrun
    refine g_iald C (dat dt_X8_passMinute 128 rfl) Ha1.2.2.2.1 (rb3 Ha1) q50 ?_
    refine g_iconst C (dat dt_X8_passMinute 129 rfl) ic_m1 ?_
    refine g_ic_eq 241 C (dat dt_X8_passMinute 130 rfl) (by decide) (fun c51 => ?_) (fun c51 => ?_)
    · rw [if_pos c51] at hrun
      refine g_iinc (v := (x3 + (1 : Int32))) (lv' := [(0, .ref 56), (1, .ref a1), (2, .ref a2), (3, .int (x3 + (1 : Int32)))]) C (dat dt_X8_passMinute 143 rfl) 3 rfl (congrArg (fun z => x3 + z) ic_1) (by decide) rfl ?_
      refine g_goto 204 C (dat dt_X8_passMinute 144 rfl) (by decide) ?_
      cases hrun
      exact Ks ((x3 + (1 : Int32)), h) rfl
    · rw [if_neg c51] at hrun
      refine g_aload_n C (dat dt_X8_passMinute 131 rfl) 0 rfl ?_
      refine g_aload_n C (dat dt_X8_passMinute 132 rfl) 1 rfl ?_
      refine g_aload_n C (dat dt_X8_passMinute 133 rfl) 2 rfl ?_
      refine g_iload_n C (dat dt_X8_passMinute 134 rfl) 3 rfl ?_
      refine g_bipush C (dat dt_X8_passMinute 135 rfl) bp_15 ?_
      obtain ⟨v52, q53, hrun⟩ := bd hrun
      refine g_cVi [.ref a1, .ref a2, .int x3, .int (15 : Int32)] C (dat dt_X8_passMinute 136 rfl) ml_8_79 (w_X8_anyHolds a1 a2 x3 (15 : Int32) h v52 Ha1 q53) kd_56 ltk_56 rfl rfl cat0 (by decide) c00 ?_
      refine g_if_eq 241 C (dat dt_X8_passMinute 137 rfl) (by decide) (fun c54 => ?_) (fun c54 => ?_)
      · rw [if_neg (b2i_z c54)] at hrun
        refine g_iinc (v := (x3 + (1 : Int32))) (lv' := [(0, .ref 56), (1, .ref a1), (2, .ref a2), (3, .int (x3 + (1 : Int32)))]) C (dat dt_X8_passMinute 143 rfl) 3 rfl (congrArg (fun z => x3 + z) ic_1) (by decide) rfl ?_
        refine g_goto 204 C (dat dt_X8_passMinute 144 rfl) (by decide) ?_
        cases hrun
        exact Ks ((x3 + (1 : Int32)), v52.2) rfl
      · rw [if_pos (b2i_nz c54)] at hrun
        refine g_aload_n C (dat dt_X8_passMinute 138 rfl) 1 rfl ?_
        refine g_getR C (dat dt_X8_passMinute 139 rfl) fl_8_76 Ha1.1 rfl (rb0 Ha1) ?_
        refine g_iload_n C (dat dt_X8_passMinute 140 rfl) 3 rfl ?_
        refine g_iconst C (dat dt_X8_passMinute 141 rfl) ic_m1 ?_
        obtain ⟨j55, q56, hrun⟩ := bd hrun
        refine g_iast (j := j55) C (dat dt_X8_passMinute 142 rfl) Ha1.2.2.2.1 (rb3 Ha1) q56  ?_
        refine g_iinc (v := (x3 + (1 : Int32))) (lv' := [(0, .ref 56), (1, .ref a1), (2, .ref a2), (3, .int (x3 + (1 : Int32)))]) C (dat dt_X8_passMinute 143 rfl) 3 rfl (congrArg (fun z => x3 + z) ic_1) (by decide) rfl ?_
        refine g_goto 204 C (dat dt_X8_passMinute 144 rfl) (by decide) ?_
        cases hrun
        exact Ks ((x3 + (1 : Int32)), (sA v52.2 (a1 + 3) j55 (-1 : Int32))) rfl
def f_X8_passMinute (a1 : Nat) (a2 : Nat) (h : Hp) : Option (Unit × Hp) :=
  (f_J7_fill_53178 57 18 (0 : Int32) h).bind fun v1 =>
  (f_X8_seeWho a1 v1.2).bind fun v3 =>
  (lp (fun s => b_X8_passMinute_15 a1 a2  s.1 s.2) FU ((0 : Int32), v3.2)).bind fun e37 =>
  (lp (fun s => b_X8_passMinute_172 a1 a2  s.1 s.2) FU ((0 : Int32), e37)).bind fun e46 =>
  (lp (fun s => b_X8_passMinute_204 a1 a2  s.1 s.2) FU ((0 : Int32), e46)).bind fun e57 =>
  some ((), (sA e57 (a1 + 4) 0 ((aI e57 (a1 + 4) 0) + (1 : Int32))))
set_option maxRecDepth 20000 in
theorem w_X8_passMinute (a1 : Nat) (a2 : Nat) (h : Hp) (q : (Unit × Hp)) (Ha1 : IsRoom a1) (hrun : f_X8_passMinute a1 a2 h = some q) : MetA ⟨"SteamNations$Steam", "passMinute", "(LSteamNations$Room;LSteamNations$Text;)V"⟩ prog_10_method_4_code 9 none 4 0 0 [.ref 56, .ref a1, .ref a2] h none q.2 := by
  refine metA_of (by decide) (Nat.le_of_ble_eq_true rfl) (fun X C K => ?_)
  have C : Cx X cn_8 prog_10_method_4_code 9 none 4 0 0 := C
  show G X h 0 0 0 [(0, .ref 56), (1, .ref a1), (2, .ref a2)] []
  unfold f_X8_passMinute at hrun
  refine g_aload_n C (dat dt_X8_passMinute 0 rfl) 0 rfl ?_
  refine g_getR C (dat dt_X8_passMinute 1 rfl) fl_8_9 kd_56 rfl ltk_56 ?_
  refine g_iconst C (dat dt_X8_passMinute 2 rfl) ic_0 ?_
  obtain ⟨v1, q2, hrun⟩ := bd hrun
  refine g_cSv [.ref 57, .int (0 : Int32)] C (dat dt_X8_passMinute 3 rfl) ml_8_63 (w_J7_fill_53178 57 18 (0 : Int32) h v1 kd_57 (by decide) q2) rfl rfl cat0 (by decide) c00 ?_
  refine g_aload_n C (dat dt_X8_passMinute 4 rfl) 0 rfl ?_
  refine g_aload_n C (dat dt_X8_passMinute 5 rfl) 1 rfl ?_
  obtain ⟨v3, q4, hrun⟩ := bd hrun
  refine g_cVv [.ref a1] C (dat dt_X8_passMinute 6 rfl) ml_8_69 (w_X8_seeWho a1 v1.2 v3 Ha1 q4) kd_56 ltk_56 rfl rfl cat0 (by decide) c00 ?_
  refine g_iconst C (dat dt_X8_passMinute 7 rfl) ic_0 ?_
  refine g_istore_n (lv' := [(0, .ref 56), (1, .ref a1), (2, .ref a2), (3, .int (0 : Int32))]) C (dat dt_X8_passMinute 8 rfl) (by decide) rfl ?_
  obtain ⟨e37, q38, hrun⟩ := bd hrun
  refine lp_ind (P := fun s => kp_X8_passMinute_15 a1 a2  X s) (K := fun e => ke_X8_passMinute_15 a1 a2  X e) (fun s q hb Ks Ke => wb_X8_passMinute_15 C a1 a2 Ha1  s.1 s.2 q hb Ks Ke) FU ((0 : Int32), v3.2) e37 q38 ?_
  show G X e37 0 0 170 [(0, .ref 56), (1, .ref a1), (2, .ref a2)] []
  refine g_iconst C (dat dt_X8_passMinute 99 rfl) ic_0 ?_
  refine g_istore_n (lv' := [(0, .ref 56), (1, .ref a1), (2, .ref a2), (3, .int (0 : Int32))]) C (dat dt_X8_passMinute 100 rfl) (by decide) rfl ?_
  obtain ⟨e46, q47, hrun⟩ := bd hrun
  refine lp_ind (P := fun s => kp_X8_passMinute_172 a1 a2  X s) (K := fun e => ke_X8_passMinute_172 a1 a2  X e) (fun s q hb Ks Ke => wb_X8_passMinute_172 C a1 a2 Ha1  s.1 s.2 q hb Ks Ke) FU ((0 : Int32), e37) e46 q47 ?_
  show G X e46 0 0 202 [(0, .ref 56), (1, .ref a1), (2, .ref a2)] []
  refine g_iconst C (dat dt_X8_passMinute 119 rfl) ic_0 ?_
  refine g_istore_n (lv' := [(0, .ref 56), (1, .ref a1), (2, .ref a2), (3, .int (0 : Int32))]) C (dat dt_X8_passMinute 120 rfl) (by decide) rfl ?_
  obtain ⟨e57, q58, hrun⟩ := bd hrun
  refine lp_ind (P := fun s => kp_X8_passMinute_204 a1 a2  X s) (K := fun e => ke_X8_passMinute_204 a1 a2  X e) (fun s q hb Ks Ke => wb_X8_passMinute_204 C a1 a2 Ha1  s.1 s.2 q hb Ks Ke) FU ((0 : Int32), e46) e57 q58 ?_
  show G X e57 0 0 247 [(1, .ref a1)] []
  refine g_aload_n C (dat dt_X8_passMinute 145 rfl) 0 rfl ?_
  refine g_getR C (dat dt_X8_passMinute 146 rfl) fl_8_93 Ha1.1 rfl (rb0 Ha1) ?_
  refine g_iconst C (dat dt_X8_passMinute 147 rfl) ic_0 ?_
  refine g_dup2 C (dat dt_X8_passMinute 148 rfl) rfl rfl ?_
  refine g_iald (j := 0) C (dat dt_X8_passMinute 149 rfl) Ha1.2.2.2.2.1 (rb4 Ha1) (show inb (0 : Int32) 3 = some 0 by decide) ?_
  refine g_iconst C (dat dt_X8_passMinute 150 rfl) ic_1 ?_
  refine g_iadd C (dat dt_X8_passMinute 151 rfl) ?_
  refine g_iast (j := 0) C (dat dt_X8_passMinute 152 rfl) Ha1.2.2.2.2.1 (rb4 Ha1) (show inb (0 : Int32) 3 = some 0 by decide)  ?_
  cases hrun
  exact g_vret C K (dat dt_X8_passMinute 153 rfl)
