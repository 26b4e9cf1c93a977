/-! SteamNations$Errands.sayWords(LSteamNations$Room;)V -/
def dl_X0_sayWords : List (Nat × Instr × Nat) := [(0, .aload_n 0, 1), (1, .getfield 33, 3), (4, .getfield 101, 3), (7, .bipush 6, 2), (9, .aload_n 1, 1), (10, .getfield 107, 3), (13, .iconst 0, 1), (14, .iaload, 1), (15, .iastore, 1), (16, .aload_n 0, 1), (17, .getfield 33, 3), (20, .getfield 101, 3), (23, .bipush 8, 2), (25, .aload_n 0, 1), (26, .getfield 58, 3), (29, .iastore, 1), (30, .aload_n 0, 1), (31, .getfield 33, 3), (34, .getfield 101, 3), (37, .bipush 9, 2), (39, .aload_n 0, 1), (40, .getfield 61, 3), (43, .iastore, 1), (44, .aload_n 0, 1), (45, .getfield 33, 3), (48, .getfield 101, 3), (51, .bipush 10, 2), (53, .aload_n 1, 1), (54, .invokevirtual 110, 3), (57, .iastore, 1), (58, .aload_n 0, 1), (59, .getfield 33, 3), (62, .getfield 101, 3), (65, .bipush 11, 2), (67, .aload_n 1, 1), (68, .invokevirtual 113, 3), (71, .iastore, 1), (72, .iconst 0, 1), (73, .istore_n 2, 1), (74, .iload_n 2, 1), (75, .bipush 6, 2), (77, .if_icmp .ge 43, 3), (80, .aload_n 0, 1), (81, .getfield 33, 3), (84, .getfield 101, 3), (87, .bipush 12, 2), (89, .iload_n 2, 1), (90, .iadd, 1), (91, .aload_n 1, 1), (92, .iload_n 2, 1), (93, .invokevirtual 116, 3), (96, .iastore, 1), (97, .aload_n 0, 1), (98, .getfield 33, 3), (101, .getfield 101, 3), (104, .bipush 18, 2), (106, .iload_n 2, 1), (107, .iadd, 1), (108, .aload_n 1, 1), (109, .iload_n 2, 1), (110, .invokevirtual 119, 3), (113, .iastore, 1), (114, .iinc 2 1, 3), (117, .goto (-43), 3), (120, .return_, 1)]
set_option maxRecDepth 20000 in
theorem dt_X0_sayWords : ∀ q ∈ dl_X0_sayWords, decode prog_2_method_4_code q.1 = .ok q.2 := by decide +kernel
def kp_X0_sayWords_74 (a1 : Nat)  (X : Xt) (s : (Int32 × Hp)) : Prop := G X s.2 0 0 74 [(0, .ref 60), (1, .ref a1), (2, .int s.1)] []
def ke_X0_sayWords_74 (a1 : Nat)  (X : Xt) (e : Hp) : Prop := G X e 0 0 120 [] []
def b_X0_sayWords_74 (a1 : Nat)  (x2 : Int32) (h : Hp) : Option ((Int32 × Hp) ⊕ Hp) :=
  if (6 : Int32) ≤ x2 then
  some (.inr ( h))
  else
  (f_X6_nationOf a1 x2 h).bind fun v16 =>
  (inb ((12 : Int32) + x2) 24).bind fun j18 =>
  (f_X6_muchOf a1 x2 (sA h 30 j18 v16)).bind fun v20 =>
  (inb ((18 : Int32) + x2) 24).bind fun j22 =>
  some (.inl ((x2 + (1 : Int32)), (sA (sA h 30 j18 v16) 30 j22 v20)))
set_option maxRecDepth 20000 in
theorem wb_X0_sayWords_74 {X : Xt} (C : Cx X cn_0 prog_2_method_4_code 3 none 3 0 0) (a1 : Nat) (Ha1 : IsRoom a1)  (x2 : Int32) (h : Hp) (q : (Int32 × Hp) ⊕ Hp) (hrun : b_X0_sayWords_74 a1  x2 h = some q) (Ks : ∀ s, q = .inl s → kp_X0_sayWords_74 a1  X s) (Ke : ∀ e, q = .inr e → ke_X0_sayWords_74 a1  X e) : kp_X0_sayWords_74 a1  X (x2, h) := by
  show G X h 0 0 74 [(0, .ref 60), (1, .ref a1), (2, .int x2)] []
  unfold b_X0_sayWords_74 at hrun
  refine g_iload_n C (dat dt_X0_sayWords 39 rfl) 2 rfl ?_
  refine g_bipush C (dat dt_X0_sayWords 40 rfl) bp_6 ?_
  refine g_ic_ge 120 C (dat dt_X0_sayWords 41 rfl) (by decide) (fun c15 => ?_) (fun c15 => ?_)
  · rw [if_pos c15] at hrun
    refine g_sub [] (lv' := []) rfl ?_
    cases hrun
    exact Ke ( h) rfl
  · rw [if_neg c15] at hrun
    refine g_aload_n C (dat dt_X0_sayWords 42 rfl) 0 rfl ?_
    refine g_getR C (dat dt_X0_sayWords 43 rfl) fl_0_33 kd_60 rfl ltk_60 ?_
    refine g_getR C (dat dt_X0_sayWords 44 rfl) fl_0_101 kd_29 rfl ltk_29 ?_
    refine g_bipush C (dat dt_X0_sayWords 45 rfl) bp_12 ?_
    refine g_iload_n C (dat dt_X0_sayWords 46 rfl) 2 rfl ?_
    refine g_iadd C (dat dt_X0_sayWords 47 rfl) ?_
    refine g_aload_n C (dat dt_X0_sayWords 48 rfl) 1 rfl ?_
    refine g_iload_n C (dat dt_X0_sayWords 49 rfl) 2 rfl ?_
    obtain ⟨v16, q17, hrun⟩ := bd hrun
    refine g_cVi [.int x2] C (dat dt_X0_sayWords 50 rfl) ml_0_116 (w_X6_nationOf a1 x2 h v16 Ha1 q17) Ha1.1 (rb0 Ha1) rfl rfl (Nat.le_of_ble_eq_true rfl) (by decide) c00 ?_
    obtain ⟨j18, q19, hrun⟩ := bd hrun
    refine g_iast (j := j18) C (dat dt_X0_sayWords 51 rfl) kd_30 ltk_30 q19  ?_
    refine g_aload_n C (dat dt_X0_sayWords 52 rfl) 0 rfl ?_
    refine g_getR C (dat dt_X0_sayWords 53 rfl) fl_0_33 kd_60 rfl ltk_60 ?_
    refine g_getR C (dat dt_X0_sayWords 54 rfl) fl_0_101 kd_29 rfl ltk_29 ?_
    refine g_bipush C (dat dt_X0_sayWords 55 rfl) bp_18 ?_
    refine g_iload_n C (dat dt_X0_sayWords 56 rfl) 2 rfl ?_
    refine g_iadd C (dat dt_X0_sayWords 57 rfl) ?_
    refine g_aload_n C (dat dt_X0_sayWords 58 rfl) 1 rfl ?_
    refine g_iload_n C (dat dt_X0_sayWords 59 rfl) 2 rfl ?_
    obtain ⟨v20, q21, hrun⟩ := bd hrun
    refine g_cVi [.int x2] C (dat dt_X0_sayWords 60 rfl) ml_0_119 (w_X6_muchOf a1 x2 (sA h 30 j18 v16) v20 Ha1 q21) Ha1.1 (rb0 Ha1) rfl rfl (Nat.le_of_ble_eq_true rfl) (by decide) c00 ?_
    obtain ⟨j22, q23, hrun⟩ := bd hrun
    refine g_iast (j := j22) C (dat dt_X0_sayWords 61 rfl) kd_30 ltk_30 q23  ?_
    refine g_iinc (v := (x2 + (1 : Int32))) (lv' := [(0, .ref 60), (1, .ref a1), (2, .int (x2 + (1 : Int32)))]) C (dat dt_X0_sayWords 62 rfl) 2 rfl (congrArg (fun z => x2 + z) ic_1) (by decide) rfl ?_
    refine g_goto 74 C (dat dt_X0_sayWords 63 rfl) (by decide) ?_
    cases hrun
    exact Ks ((x2 + (1 : Int32)), (sA (sA h 30 j18 v16) 30 j22 v20)) rfl
def f_X0_sayWords (a1 : Nat) (h : Hp) : Option (Unit × Hp) :=
  (f_X6_countInside a1 (sA (sA (sA h 30 6 (aI h (a1 + 4) 0)) 30 8 (fI (sA h 30 6 (aI h (a1 + 4) 0)) 60 4)) 30 9 (fI (sA (sA h 30 6 (aI h (a1 + 4) 0)) 30 8 (fI (sA h 30 6 (aI h (a1 + 4) 0)) 60 4)) 60 5))).bind fun v7 =>
  (f_X6_contented a1 (sA (sA (sA (sA h 30 6 (aI h (a1 + 4) 0)) 30 8 (fI (sA h 30 6 (aI h (a1 + 4) 0)) 60 4)) 30 9 (fI (sA (sA h 30 6 (aI h (a1 + 4) 0)) 30 8 (fI (sA h 30 6 (aI h (a1 + 4) 0)) 60 4)) 60 5)) 30 10 v7)).bind fun v11 =>
  (lp (fun s => b_X0_sayWords_74 a1  s.1 s.2) FU ((0 : Int32), (sA (sA (sA (sA (sA h 30 6 (aI h (a1 + 4) 0)) 30 8 (fI (sA h 30 6 (aI h (a1 + 4) 0)) 60 4)) 30 9 (fI (sA (sA h 30 6 (aI h (a1 + 4) 0)) 30 8 (fI (sA h 30 6 (aI h (a1 + 4) 0)) 60 4)) 60 5)) 30 10 v7) 30 11 v11))).bind fun e24 =>
  some ((), e24)
set_option maxRecDepth 20000 in
theorem w_X0_sayWords (a1 : Nat) (h : Hp) (q : (Unit × Hp)) (Ha1 : IsRoom a1) (hrun : f_X0_sayWords a1 h = some q) : MetA ⟨"SteamNations$Errands", "sayWords", "(LSteamNations$Room;)V"⟩ prog_2_method_4_code 3 none 3 0 0 [.ref 60, .ref a1] h none q.2 := by
  refine metA_of (by decide) (Nat.le_of_ble_eq_true rfl) (fun X C K => ?_)
  have C : Cx X cn_0 prog_2_method_4_code 3 none 3 0 0 := C
  show G X h 0 0 0 [(0, .ref 60), (1, .ref a1)] []
  unfold f_X0_sayWords at hrun
  refine g_aload_n C (dat dt_X0_sayWords 0 rfl) 0 rfl ?_
  refine g_getR C (dat dt_X0_sayWords 1 rfl) fl_0_33 kd_60 rfl ltk_60 ?_
  refine g_getR C (dat dt_X0_sayWords 2 rfl) fl_0_101 kd_29 rfl ltk_29 ?_
  refine g_bipush C (dat dt_X0_sayWords 3 rfl) bp_6 ?_
  refine g_aload_n C (dat dt_X0_sayWords 4 rfl) 1 rfl ?_
  refine g_getR C (dat dt_X0_sayWords 5 rfl) fl_0_107 Ha1.1 rfl (rb0 Ha1) ?_
  refine g_iconst C (dat dt_X0_sayWords 6 rfl) ic_0 ?_
  refine g_iald (j := 0) C (dat dt_X0_sayWords 7 rfl) Ha1.2.2.2.2.1 (rb4 Ha1) (show inb (0 : Int32) 3 = some 0 by decide) ?_
  refine g_iast (j := 6) C (dat dt_X0_sayWords 8 rfl) kd_30 ltk_30 (show inb (6 : Int32) 24 = some 6 by decide)  ?_
  refine g_aload_n C (dat dt_X0_sayWords 9 rfl) 0 rfl ?_
  refine g_getR C (dat dt_X0_sayWords 10 rfl) fl_0_33 kd_60 rfl ltk_60 ?_
  refine g_getR C (dat dt_X0_sayWords 11 rfl) fl_0_101 kd_29 rfl ltk_29 ?_
  refine g_bipush C (dat dt_X0_sayWords 12 rfl) bp_8 ?_
  refine g_aload_n C (dat dt_X0_sayWords 13 rfl) 0 rfl ?_
  refine g_getI C (dat dt_X0_sayWords 14 rfl) fl_0_58 kd_60 rfl ltk_60 ?_
  refine g_iast (j := 8) C (dat dt_X0_sayWords 15 rfl) kd_30 ltk_30 (show inb (8 : Int32) 24 = some 8 by decide)  ?_
  refine g_aload_n C (dat dt_X0_sayWords 16 rfl) 0 rfl ?_
  refine g_getR C (dat dt_X0_sayWords 17 rfl) fl_0_33 kd_60 rfl ltk_60 ?_
  refine g_getR C (dat dt_X0_sayWords 18 rfl) fl_0_101 kd_29 rfl ltk_29 ?_
  refine g_bipush C (dat dt_X0_sayWords 19 rfl) bp_9 ?_
  refine g_aload_n C (dat dt_X0_sayWords 20 rfl) 0 rfl ?_
  refine g_getI C (dat dt_X0_sayWords 21 rfl) fl_0_61 kd_60 rfl ltk_60 ?_
  refine g_iast (j := 9) C (dat dt_X0_sayWords 22 rfl) kd_30 ltk_30 (show inb (9 : Int32) 24 = some 9 by decide)  ?_
  refine g_aload_n C (dat dt_X0_sayWords 23 rfl) 0 rfl ?_
  refine g_getR C (dat dt_X0_sayWords 24 rfl) fl_0_33 kd_60 rfl ltk_60 ?_
  refine g_getR C (dat dt_X0_sayWords 25 rfl) fl_0_101 kd_29 rfl ltk_29 ?_
  refine g_bipush C (dat dt_X0_sayWords 26 rfl) bp_10 ?_
  refine g_aload_n C (dat dt_X0_sayWords 27 rfl) 1 rfl ?_
  obtain ⟨v7, q8, hrun⟩ := bd hrun
  refine g_cVi [] C (dat dt_X0_sayWords 28 rfl) ml_0_110 (w_X6_countInside a1 (sA (sA (sA h 30 6 (aI h (a1 + 4) 0)) 30 8 (fI (sA h 30 6 (aI h (a1 + 4) 0)) 60 4)) 30 9 (fI (sA (sA h 30 6 (aI h (a1 + 4) 0)) 30 8 (fI (sA h 30 6 (aI h (a1 + 4) 0)) 60 4)) 60 5)) v7 Ha1 q8) Ha1.1 (rb0 Ha1) rfl rfl (Nat.le_of_ble_eq_true rfl) (by decide) c00 ?_
  refine g_iast (j := 10) C (dat dt_X0_sayWords 29 rfl) kd_30 ltk_30 (show inb (10 : Int32) 24 = some 10 by decide)  ?_
  refine g_aload_n C (dat dt_X0_sayWords 30 rfl) 0 rfl ?_
  refine g_getR C (dat dt_X0_sayWords 31 rfl) fl_0_33 kd_60 rfl ltk_60 ?_
  refine g_getR C (dat dt_X0_sayWords 32 rfl) fl_0_101 kd_29 rfl ltk_29 ?_
  refine g_bipush C (dat dt_X0_sayWords 33 rfl) bp_11 ?_
  refine g_aload_n C (dat dt_X0_sayWords 34 rfl) 1 rfl ?_
  obtain ⟨v11, q12, hrun⟩ := bd hrun
  refine g_cVi [] C (dat dt_X0_sayWords 35 rfl) ml_0_113 (w_X6_contented a1 (sA (sA (sA (sA h 30 6 (aI h (a1 + 4) 0)) 30 8 (fI (sA h 30 6 (aI h (a1 + 4) 0)) 60 4)) 30 9 (fI (sA (sA h 30 6 (aI h (a1 + 4) 0)) 30 8 (fI (sA h 30 6 (aI h (a1 + 4) 0)) 60 4)) 60 5)) 30 10 v7) v11 Ha1 q12) Ha1.1 (rb0 Ha1) rfl rfl (Nat.le_of_ble_eq_true rfl) (by decide) c00 ?_
  refine g_iast (j := 11) C (dat dt_X0_sayWords 36 rfl) kd_30 ltk_30 (show inb (11 : Int32) 24 = some 11 by decide)  ?_
  refine g_iconst C (dat dt_X0_sayWords 37 rfl) ic_0 ?_
  refine g_istore_n (lv' := [(0, .ref 60), (1, .ref a1), (2, .int (0 : Int32))]) C (dat dt_X0_sayWords 38 rfl) (by decide) rfl ?_
  obtain ⟨e24, q25, hrun⟩ := bd hrun
  refine lp_ind (P := fun s => kp_X0_sayWords_74 a1  X s) (K := fun e => ke_X0_sayWords_74 a1  X e) (fun s q hb Ks Ke => wb_X0_sayWords_74 C a1 Ha1  s.1 s.2 q hb Ks Ke) FU ((0 : Int32), (sA (sA (sA (sA (sA h 30 6 (aI h (a1 + 4) 0)) 30 8 (fI (sA h 30 6 (aI h (a1 + 4) 0)) 60 4)) 30 9 (fI (sA (sA h 30 6 (aI h (a1 + 4) 0)) 30 8 (fI (sA h 30 6 (aI h (a1 + 4) 0)) 60 4)) 60 5)) 30 10 v7) 30 11 v11)) e24 q25 ?_
  show G X e24 0 0 120 [] []
  cases hrun
  exact g_vret C K (dat dt_X0_sayWords 64 rfl)
/-! SteamNations$Moves.toSeat(II)I -/
def dl_X3_toSeat : List (Nat × Instr × Nat) := [(0, .aload_n 0, 1), (1, .getfield 9, 3), (4, .getfield 23, 3), (7, .astore_n 3, 1), (8, .iload_n 2, 1), (9, .ifCond .lt 9, 3), (12, .iload_n 2, 1), (13, .bipush 9, 2), (15, .if_icmp .lt 5, 3), (18, .iconst (-1), 1), (19, .ireturn, 1), (20, .aload_n 3, 1), (21, .iload_n 1, 1), (22, .invokevirtual 29, 3), (25, .ifCond .ne 6, 3), (28, .bipush (-2), 2), (30, .ireturn, 1), (31, .aload_n 3, 1), (32, .iload_n 2, 1), (33, .invokevirtual 35, 3), (36, .iconst (-1), 1), (37, .if_icmp .eq 6, 3), (40, .bipush (-3), 2), (42, .ireturn, 1), (43, .aload_n 0, 1), (44, .getfield 15, 3), (47, .iconst 0, 1), (48, .aload_n 3, 1), (49, .invokevirtual 39, 3), (52, .aload_n 3, 1), (53, .getfield 45, 3), (56, .iload_n 1, 1), (57, .iload_n 2, 1), (58, .iastore, 1), (59, .aload_n 3, 1), (60, .invokevirtual 49, 3), (63, .ireturn, 1)]
set_option maxRecDepth 20000 in
theorem dt_X3_toSeat : ∀ q ∈ dl_X3_toSeat, decode prog_5_method_2_code q.1 = .ok q.2 := by decide +kernel
def f_X3_toSeat (x1 : Int32) (x2 : Int32) (h : Hp) : Option (Int32 × Hp) :=
  if x2 < 0 then
  some ((-1 : Int32), h)
  else
  if x2 < (9 : Int32) then
  (f_X6_has 33 x1 h).bind fun v3 =>
  if v3 = true then
  (f_X6_whoAt 33 x2 h).bind fun v6 =>
  if v6 = (-1 : Int32) then
  (f_X4_keep 10 (0 : Int32) 33 h).bind fun v9 =>
  (inb x1 6).bind fun j11 =>
  (f_X6_countInside 33 (sA v9.2 36 j11 x2)).bind fun v13 =>
  some (v13, (sA v9.2 36 j11 x2))
  else
  some ((-3 : Int32), h)
  else
  some ((-2 : Int32), h)
  else
  some ((-1 : Int32), h)
set_option maxRecDepth 20000 in
theorem w_X3_toSeat (x1 : Int32) (x2 : Int32) (h : Hp) (q : (Int32 × Hp))  (hrun : f_X3_toSeat x1 x2 h = some q) : MetA ⟨"SteamNations$Moves", "toSeat", "(II)I"⟩ prog_5_method_2_code 4 (some .int) 3 0 0 [.ref 59, .int x1, .int x2] h (some (.int q.1)) q.2 := by
  refine metA_of (by decide) (Nat.le_of_ble_eq_true rfl) (fun X C K => ?_)
  have C : Cx X cn_3 prog_5_method_2_code 4 (some .int) 3 0 0 := C
  show G X h 0 0 0 [(0, .ref 59), (1, .int x1), (2, .int x2)] []
  unfold f_X3_toSeat at hrun
  refine g_aload_n C (dat dt_X3_toSeat 0 rfl) 0 rfl ?_
  refine g_getR C (dat dt_X3_toSeat 1 rfl) fl_3_9 kd_59 rfl ltk_59 ?_
  refine g_getR C (dat dt_X3_toSeat 2 rfl) fl_3_23 kd_32 rfl ltk_32 ?_
  refine g_astore_n (lv' := [(0, .ref 59), (1, .int x1), (2, .int x2), (3, .ref 33)]) C (dat dt_X3_toSeat 3 rfl) (by decide) rfl ?_
  refine g_iload_n C (dat dt_X3_toSeat 4 rfl) 2 rfl ?_
  refine g_if_lt 18 C (dat dt_X3_toSeat 5 rfl) (by decide) (fun c1 => ?_) (fun c1 => ?_)
  · rw [if_pos c1] at hrun
    refine g_iconst C (dat dt_X3_toSeat 9 rfl) ic_m1 ?_
    cases hrun
    exact g_iret C K (dat dt_X3_toSeat 10 rfl)
  · rw [if_neg c1] at hrun
    refine g_iload_n C (dat dt_X3_toSeat 6 rfl) 2 rfl ?_
    refine g_bipush C (dat dt_X3_toSeat 7 rfl) bp_9 ?_
    refine g_ic_lt 20 C (dat dt_X3_toSeat 8 rfl) (by decide) (fun c2 => ?_) (fun c2 => ?_)
    · rw [if_pos c2] at hrun
      refine g_aload_n C (dat dt_X3_toSeat 11 rfl) 3 rfl ?_
      refine g_iload_n C (dat dt_X3_toSeat 12 rfl) 1 rfl ?_
      obtain ⟨v3, q4, hrun⟩ := bd hrun
      refine g_cVi [.int x1] C (dat dt_X3_toSeat 13 rfl) ml_3_29 (w_X6_has 33 x1 h v3 room_33 q4) kd_33 ltk_33 rfl rfl cat0 (by decide) c00 ?_
      refine g_if_ne 31 C (dat dt_X3_toSeat 14 rfl) (by decide) (fun c5 => ?_) (fun c5 => ?_)
      · rw [if_pos (b2i_nz c5)] at hrun
        refine g_aload_n C (dat dt_X3_toSeat 17 rfl) 3 rfl ?_
        refine g_iload_n C (dat dt_X3_toSeat 18 rfl) 2 rfl ?_
        obtain ⟨v6, q7, hrun⟩ := bd hrun
        refine g_cVi [.int x2] C (dat dt_X3_toSeat 19 rfl) ml_3_35 (w_X6_whoAt 33 x2 h v6 room_33 q7) kd_33 ltk_33 rfl rfl cat0 (by decide) c00 ?_
        refine g_iconst C (dat dt_X3_toSeat 20 rfl) ic_m1 ?_
        refine g_ic_eq 43 C (dat dt_X3_toSeat 21 rfl) (by decide) (fun c8 => ?_) (fun c8 => ?_)
        · rw [if_pos c8] at hrun
          refine g_aload_n C (dat dt_X3_toSeat 24 rfl) 0 rfl ?_
          refine g_getR C (dat dt_X3_toSeat 25 rfl) fl_3_15 kd_59 rfl ltk_59 ?_
          refine g_iconst C (dat dt_X3_toSeat 26 rfl) ic_0 ?_
          refine g_aload_n C (dat dt_X3_toSeat 27 rfl) 3 rfl ?_
          obtain ⟨v9, q10, hrun⟩ := bd hrun
          refine g_cVv [.int (0 : Int32), .ref 33] C (dat dt_X3_toSeat 28 rfl) ml_3_39 (w_X4_keep 10 (0 : Int32) 33 h v9 past_10 room_33 q10) kd_10 ltk_10 rfl rfl cat0 (by decide) c00 ?_
          refine g_aload_n C (dat dt_X3_toSeat 29 rfl) 3 rfl ?_
          refine g_getR C (dat dt_X3_toSeat 30 rfl) fl_3_45 kd_33 rfl ltk_33 ?_
          refine g_iload_n C (dat dt_X3_toSeat 31 rfl) 1 rfl ?_
          refine g_iload_n C (dat dt_X3_toSeat 32 rfl) 2 rfl ?_
          obtain ⟨j11, q12, hrun⟩ := bd hrun
          refine g_iast (j := j11) C (dat dt_X3_toSeat 33 rfl) kd_36 ltk_36 q12  ?_
          refine g_aload_n C (dat dt_X3_toSeat 34 rfl) 3 rfl ?_
          obtain ⟨v13, q14, hrun⟩ := bd hrun
          refine g_cVi [] C (dat dt_X3_toSeat 35 rfl) ml_3_49 (w_X6_countInside 33 (sA v9.2 36 j11 x2) v13 room_33 q14) kd_33 ltk_33 rfl rfl cat0 (by decide) c00 ?_
          cases hrun
          exact g_iret C K (dat dt_X3_toSeat 36 rfl)
        · rw [if_neg c8] at hrun
          refine g_bipush C (dat dt_X3_toSeat 22 rfl) bp_m3 ?_
          cases hrun
          exact g_iret C K (dat dt_X3_toSeat 23 rfl)
      · rw [if_neg (b2i_z c5)] at hrun
        refine g_bipush C (dat dt_X3_toSeat 15 rfl) bp_m2 ?_
        cases hrun
        exact g_iret C K (dat dt_X3_toSeat 16 rfl)
    · rw [if_neg c2] at hrun
      refine g_iconst C (dat dt_X3_toSeat 9 rfl) ic_m1 ?_
      cases hrun
      exact g_iret C K (dat dt_X3_toSeat 10 rfl)
/-! SteamNations$Moves.toSendOut(I)I -/
def dl_X3_toSendOut : List (Nat × Instr × Nat) := [(0, .aload_n 0, 1), (1, .getfield 9, 3), (4, .getfield 23, 3), (7, .astore_n 2, 1), (8, .aload_n 2, 1), (9, .iload_n 1, 1), (10, .invokevirtual 29, 3), (13, .ifCond .ne 6, 3), (16, .bipush (-2), 2), (18, .ireturn, 1), (19, .aload_n 2, 1), (20, .iload_n 1, 1), (21, .invokevirtual 53, 3), (24, .ifCond .ne 6, 3), (27, .bipush (-3), 2), (29, .ireturn, 1), (30, .aload_n 0, 1), (31, .getfield 15, 3), (34, .iconst 1, 1), (35, .aload_n 2, 1), (36, .invokevirtual 39, 3), (39, .aload_n 2, 1), (40, .getfield 45, 3), (43, .iload_n 1, 1), (44, .iaload, 1), (45, .istore_n 3, 1), (46, .aload_n 2, 1), (47, .getfield 45, 3), (50, .iload_n 1, 1), (51, .iconst (-1), 1), (52, .iastore, 1), (53, .iload_n 3, 1), (54, .ireturn, 1)]
set_option maxRecDepth 20000 in
theorem dt_X3_toSendOut : ∀ q ∈ dl_X3_toSendOut, decode prog_5_method_3_code q.1 = .ok q.2 := by decide +kernel
def f_X3_toSendOut (x1 : Int32) (h : Hp) : Option (Int32 × Hp) :=
  (f_X6_has 33 x1 h).bind fun v1 =>
  if v1 = true then
  (f_X6_isInside 33 x1 h).bind fun v4 =>
  if v4 = true then
  (f_X4_keep 10 (1 : Int32) 33 h).bind fun v7 =>
  (inb x1 6).bind fun j9 =>
  (inb x1 6).bind fun j11 =>
  some ((aI v7.2 36 j9), (sA v7.2 36 j11 (-1 : Int32)))
  else
  some ((-3 : Int32), h)
  else
  some ((-2 : Int32), h)
set_option maxRecDepth 20000 in
theorem w_X3_toSendOut (x1 : Int32) (h : Hp) (q : (Int32 × Hp))  (hrun : f_X3_toSendOut x1 h = some q) : MetA ⟨"SteamNations$Moves", "toSendOut", "(I)I"⟩ prog_5_method_3_code 4 (some .int) 3 0 0 [.ref 59, .int x1] h (some (.int q.1)) q.2 := by
  refine metA_of (by decide) (Nat.le_of_ble_eq_true rfl) (fun X C K => ?_)
  have C : Cx X cn_3 prog_5_method_3_code 4 (some .int) 3 0 0 := C
  show G X h 0 0 0 [(0, .ref 59), (1, .int x1)] []
  unfold f_X3_toSendOut at hrun
  refine g_aload_n C (dat dt_X3_toSendOut 0 rfl) 0 rfl ?_
  refine g_getR C (dat dt_X3_toSendOut 1 rfl) fl_3_9 kd_59 rfl ltk_59 ?_
  refine g_getR C (dat dt_X3_toSendOut 2 rfl) fl_3_23 kd_32 rfl ltk_32 ?_
  refine g_astore_n (lv' := [(0, .ref 59), (1, .int x1), (2, .ref 33)]) C (dat dt_X3_toSendOut 3 rfl) (by decide) rfl ?_
  refine g_aload_n C (dat dt_X3_toSendOut 4 rfl) 2 rfl ?_
  refine g_iload_n C (dat dt_X3_toSendOut 5 rfl) 1 rfl ?_
  obtain ⟨v1, q2, hrun⟩ := bd hrun
  refine g_cVi [.int x1] C (dat dt_X3_toSendOut 6 rfl) ml_3_29 (w_X6_has 33 x1 h v1 room_33 q2) kd_33 ltk_33 rfl rfl cat0 (by decide) c00 ?_
  refine g_if_ne 19 C (dat dt_X3_toSendOut 7 rfl) (by decide) (fun c3 => ?_) (fun c3 => ?_)
  · rw [if_pos (b2i_nz c3)] at hrun
    refine g_aload_n C (dat dt_X3_toSendOut 10 rfl) 2 rfl ?_
    refine g_iload_n C (dat dt_X3_toSendOut 11 rfl) 1 rfl ?_
    obtain ⟨v4, q5, hrun⟩ := bd hrun
    refine g_cVi [.int x1] C (dat dt_X3_toSendOut 12 rfl) ml_3_53 (w_X6_isInside 33 x1 h v4 room_33 q5) kd_33 ltk_33 rfl rfl cat0 (by decide) c00 ?_
    refine g_if_ne 30 C (dat dt_X3_toSendOut 13 rfl) (by decide) (fun c6 => ?_) (fun c6 => ?_)
    · rw [if_pos (b2i_nz c6)] at hrun
      refine g_aload_n C (dat dt_X3_toSendOut 16 rfl) 0 rfl ?_
      refine g_getR C (dat dt_X3_toSendOut 17 rfl) fl_3_15 kd_59 rfl ltk_59 ?_
      refine g_iconst C (dat dt_X3_toSendOut 18 rfl) ic_1 ?_
      refine g_aload_n C (dat dt_X3_toSendOut 19 rfl) 2 rfl ?_
      obtain ⟨v7, q8, hrun⟩ := bd hrun
      refine g_cVv [.int (1 : Int32), .ref 33] C (dat dt_X3_toSendOut 20 rfl) ml_3_39 (w_X4_keep 10 (1 : Int32) 33 h v7 past_10 room_33 q8) kd_10 ltk_10 rfl rfl cat0 (by decide) c00 ?_
      refine g_aload_n C (dat dt_X3_toSendOut 21 rfl) 2 rfl ?_
      refine g_getR C (dat dt_X3_toSendOut 22 rfl) fl_3_45 kd_33 rfl ltk_33 ?_
      refine g_iload_n C (dat dt_X3_toSendOut 23 rfl) 1 rfl ?_
      obtain ⟨j9, q10, hrun⟩ := bd hrun
      refine g_iald C (dat dt_X3_toSendOut 24 rfl) kd_36 ltk_36 q10 ?_
      refine g_istore_n (lv' := [(0, .ref 59), (1, .int x1), (2, .ref 33), (3, .int (aI v7.2 36 j9))]) C (dat dt_X3_toSendOut 25 rfl) (by decide) rfl ?_
      refine g_aload_n C (dat dt_X3_toSendOut 26 rfl) 2 rfl ?_
      refine g_getR C (dat dt_X3_toSendOut 27 rfl) fl_3_45 kd_33 rfl ltk_33 ?_
      refine g_iload_n C (dat dt_X3_toSendOut 28 rfl) 1 rfl ?_
      refine g_iconst C (dat dt_X3_toSendOut 29 rfl) ic_m1 ?_
      obtain ⟨j11, q12, hrun⟩ := bd hrun
      refine g_iast (j := j11) C (dat dt_X3_toSendOut 30 rfl) kd_36 ltk_36 q12  ?_
      refine g_iload_n C (dat dt_X3_toSendOut 31 rfl) 3 rfl ?_
      cases hrun
      exact g_iret C K (dat dt_X3_toSendOut 32 rfl)
    · rw [if_neg (b2i_z c6)] at hrun
      refine g_bipush C (dat dt_X3_toSendOut 14 rfl) bp_m3 ?_
      cases hrun
      exact g_iret C K (dat dt_X3_toSendOut 15 rfl)
  · rw [if_neg (b2i_z c3)] at hrun
    refine g_bipush C (dat dt_X3_toSendOut 8 rfl) bp_m2 ?_
    cases hrun
    exact g_iret C K (dat dt_X3_toSendOut 9 rfl)
/-! SteamNations$Moves.toExchange(II)I -/
def dl_X3_toExchange : List (Nat × Instr × Nat) := [(0, .aload_n 0, 1), (1, .getfield 9, 3), (4, .getfield 23, 3), (7, .astore_n 3, 1), (8, .iload_n 1, 1), (9, .iload_n 2, 1), (10, .if_icmp .ne 5, 3), (13, .iconst (-1), 1), (14, .ireturn, 1), (15, .aload_n 3, 1), (16, .iload_n 1, 1), (17, .invokevirtual 29, 3), (20, .ifCond .eq 11, 3), (23, .aload_n 3, 1), (24, .iload_n 2, 1), (25, .invokevirtual 29, 3), (28, .ifCond .ne 6, 3), (31, .bipush (-2), 2), (33, .ireturn, 1), (34, .aload_n 3, 1), (35, .iload_n 1, 1), (36, .invokevirtual 53, 3), (39, .ifCond .eq 11, 3), (42, .aload_n 3, 1), (43, .iload_n 2, 1), (44, .invokevirtual 53, 3), (47, .ifCond .ne 6, 3), (50, .bipush (-3), 2), (52, .ireturn, 1), (53, .aload_n 0, 1), (54, .getfield 15, 3), (57, .iconst 2, 1), (58, .aload_n 3, 1), (59, .invokevirtual 39, 3), (62, .aload_n 3, 1), (63, .getfield 45, 3), (66, .iload_n 1, 1), (67, .iaload, 1), (68, .istore 4, 2), (70, .aload_n 3, 1), (71, .getfield 45, 3), (74, .iload_n 1, 1), (75, .aload_n 3, 1), (76, .getfield 45, 3), (79, .iload_n 2, 1), (80, .iaload, 1), (81, .iastore, 1), (82, .aload_n 3, 1), (83, .getfield 45, 3), (86, .iload_n 2, 1), (87, .iload 4, 2), (89, .iastore, 1), (90, .aload_n 3, 1), (91, .getfield 45, 3), (94, .iload_n 1, 1), (95, .iaload, 1), (96, .ireturn, 1)]
set_option maxRecDepth 20000 in
theorem dt_X3_toExchange : ∀ q ∈ dl_X3_toExchange, decode prog_5_method_4_code q.1 = .ok q.2 := by decide +kernel
def f_X3_toExchange (x1 : Int32) (x2 : Int32) (h : Hp) : Option (Int32 × Hp) :=
  if x1 = x2 then
  some ((-1 : Int32), h)
  else
  (f_X6_has 33 x1 h).bind fun v2 =>
  if v2 = true then
  (f_X6_has 33 x2 h).bind fun v5 =>
  if v5 = true then
  (f_X6_isInside 33 x1 h).bind fun v8 =>
  if v8 = true then
  (f_X6_isInside 33 x2 h).bind fun v11 =>
  if v11 = true then
  (f_X4_keep 10 (2 : Int32) 33 h).bind fun v14 =>
  (inb x1 6).bind fun j16 =>
  (inb x2 6).bind fun j18 =>
  (inb x1 6).bind fun j20 =>
  (inb x2 6).bind fun j22 =>
  (inb x1 6).bind fun j24 =>
  some ((aI (sA (sA v14.2 36 j20 (aI v14.2 36 j18)) 36 j22 (aI v14.2 36 j16)) 36 j24), (sA (sA v14.2 36 j20 (aI v14.2 36 j18)) 36 j22 (aI v14.2 36 j16)))
  else
  some ((-3 : Int32), h)
  else
  some ((-3 : Int32), h)
  else
  some ((-2 : Int32), h)
  else
  some ((-2 : Int32), h)
set_option maxRecDepth 20000 in
theorem w_X3_toExchange (x1 : Int32) (x2 : Int32) (h : Hp) (q : (Int32 × Hp))  (hrun : f_X3_toExchange x1 x2 h = some q) : MetA ⟨"SteamNations$Moves", "toExchange", "(II)I"⟩ prog_5_method_4_code 5 (some .int) 3 0 0 [.ref 59, .int x1, .int x2] h (some (.int q.1)) q.2 := by
  refine metA_of (by decide) (Nat.le_of_ble_eq_true rfl) (fun X C K => ?_)
  have C : Cx X cn_3 prog_5_method_4_code 5 (some .int) 3 0 0 := C
  show G X h 0 0 0 [(0, .ref 59), (1, .int x1), (2, .int x2)] []
  unfold f_X3_toExchange at hrun
  refine g_aload_n C (dat dt_X3_toExchange 0 rfl) 0 rfl ?_
  refine g_getR C (dat dt_X3_toExchange 1 rfl) fl_3_9 kd_59 rfl ltk_59 ?_
  refine g_getR C (dat dt_X3_toExchange 2 rfl) fl_3_23 kd_32 rfl ltk_32 ?_
  refine g_astore_n (lv' := [(0, .ref 59), (1, .int x1), (2, .int x2), (3, .ref 33)]) C (dat dt_X3_toExchange 3 rfl) (by decide) rfl ?_
  refine g_iload_n C (dat dt_X3_toExchange 4 rfl) 1 rfl ?_
  refine g_iload_n C (dat dt_X3_toExchange 5 rfl) 2 rfl ?_
  refine g_ic_ne 15 C (dat dt_X3_toExchange 6 rfl) (by decide) (fun c1 => ?_) (fun c1 => ?_)
  · rw [if_neg c1] at hrun
    refine g_aload_n C (dat dt_X3_toExchange 9 rfl) 3 rfl ?_
    refine g_iload_n C (dat dt_X3_toExchange 10 rfl) 1 rfl ?_
    obtain ⟨v2, q3, hrun⟩ := bd hrun
    refine g_cVi [.int x1] C (dat dt_X3_toExchange 11 rfl) ml_3_29 (w_X6_has 33 x1 h v2 room_33 q3) kd_33 ltk_33 rfl rfl cat0 (by decide) c00 ?_
    refine g_if_eq 31 C (dat dt_X3_toExchange 12 rfl) (by decide) (fun c4 => ?_) (fun c4 => ?_)
    · rw [if_neg (b2i_z c4)] at hrun
      refine g_bipush C (dat dt_X3_toExchange 17 rfl) bp_m2 ?_
      cases hrun
      exact g_iret C K (dat dt_X3_toExchange 18 rfl)
    · rw [if_pos (b2i_nz c4)] at hrun
      refine g_aload_n C (dat dt_X3_toExchange 13 rfl) 3 rfl ?_
      refine g_iload_n C (dat dt_X3_toExchange 14 rfl) 2 rfl ?_
      obtain ⟨v5, q6, hrun⟩ := bd hrun
      refine g_cVi [.int x2] C (dat dt_X3_toExchange 15 rfl) ml_3_29 (w_X6_has 33 x2 h v5 room_33 q6) kd_33 ltk_33 rfl rfl cat0 (by decide) c00 ?_
      refine g_if_ne 34 C (dat dt_X3_toExchange 16 rfl) (by decide) (fun c7 => ?_) (fun c7 => ?_)
      · rw [if_pos (b2i_nz c7)] at hrun
        refine g_aload_n C (dat dt_X3_toExchange 19 rfl) 3 rfl ?_
        refine g_iload_n C (dat dt_X3_toExchange 20 rfl) 1 rfl ?_
        obtain ⟨v8, q9, hrun⟩ := bd hrun
        refine g_cVi [.int x1] C (dat dt_X3_toExchange 21 rfl) ml_3_53 (w_X6_isInside 33 x1 h v8 room_33 q9) kd_33 ltk_33 rfl rfl cat0 (by decide) c00 ?_
        refine g_if_eq 50 C (dat dt_X3_toExchange 22 rfl) (by decide) (fun c10 => ?_) (fun c10 => ?_)
        · rw [if_neg (b2i_z c10)] at hrun
          refine g_bipush C (dat dt_X3_toExchange 27 rfl) bp_m3 ?_
          cases hrun
          exact g_iret C K (dat dt_X3_toExchange 28 rfl)
        · rw [if_pos (b2i_nz c10)] at hrun
          refine g_aload_n C (dat dt_X3_toExchange 23 rfl) 3 rfl ?_
          refine g_iload_n C (dat dt_X3_toExchange 24 rfl) 2 rfl ?_
          obtain ⟨v11, q12, hrun⟩ := bd hrun
          refine g_cVi [.int x2] C (dat dt_X3_toExchange 25 rfl) ml_3_53 (w_X6_isInside 33 x2 h v11 room_33 q12) kd_33 ltk_33 rfl rfl cat0 (by decide) c00 ?_
          refine g_if_ne 53 C (dat dt_X3_toExchange 26 rfl) (by decide) (fun c13 => ?_) (fun c13 => ?_)
          · rw [if_pos (b2i_nz c13)] at hrun
            refine g_aload_n C (dat dt_X3_toExchange 29 rfl) 0 rfl ?_
            refine g_getR C (dat dt_X3_toExchange 30 rfl) fl_3_15 kd_59 rfl ltk_59 ?_
            refine g_iconst C (dat dt_X3_toExchange 31 rfl) ic_2 ?_
            refine g_aload_n C (dat dt_X3_toExchange 32 rfl) 3 rfl ?_
            obtain ⟨v14, q15, hrun⟩ := bd hrun
            refine g_cVv [.int (2 : Int32), .ref 33] C (dat dt_X3_toExchange 33 rfl) ml_3_39 (w_X4_keep 10 (2 : Int32) 33 h v14 past_10 room_33 q15) kd_10 ltk_10 rfl rfl cat0 (by decide) c00 ?_
            refine g_aload_n C (dat dt_X3_toExchange 34 rfl) 3 rfl ?_
            refine g_getR C (dat dt_X3_toExchange 35 rfl) fl_3_45 kd_33 rfl ltk_33 ?_
            refine g_iload_n C (dat dt_X3_toExchange 36 rfl) 1 rfl ?_
            obtain ⟨j16, q17, hrun⟩ := bd hrun
            refine g_iald C (dat dt_X3_toExchange 37 rfl) kd_36 ltk_36 q17 ?_
            refine g_istore (lv' := [(0, .ref 59), (1, .int x1), (2, .int x2), (3, .ref 33), (4, .int (aI v14.2 36 j16))]) C (dat dt_X3_toExchange 38 rfl) (by decide) rfl ?_
            refine g_aload_n C (dat dt_X3_toExchange 39 rfl) 3 rfl ?_
            refine g_getR C (dat dt_X3_toExchange 40 rfl) fl_3_45 kd_33 rfl ltk_33 ?_
            refine g_iload_n C (dat dt_X3_toExchange 41 rfl) 1 rfl ?_
            refine g_aload_n C (dat dt_X3_toExchange 42 rfl) 3 rfl ?_
            refine g_getR C (dat dt_X3_toExchange 43 rfl) fl_3_45 kd_33 rfl ltk_33 ?_
            refine g_iload_n C (dat dt_X3_toExchange 44 rfl) 2 rfl ?_
            obtain ⟨j18, q19, hrun⟩ := bd hrun
            refine g_iald C (dat dt_X3_toExchange 45 rfl) kd_36 ltk_36 q19 ?_
            obtain ⟨j20, q21, hrun⟩ := bd hrun
            refine g_iast (j := j20) C (dat dt_X3_toExchange 46 rfl) kd_36 ltk_36 q21  ?_
            refine g_aload_n C (dat dt_X3_toExchange 47 rfl) 3 rfl ?_
            refine g_getR C (dat dt_X3_toExchange 48 rfl) fl_3_45 kd_33 rfl ltk_33 ?_
            refine g_iload_n C (dat dt_X3_toExchange 49 rfl) 2 rfl ?_
            refine g_iload C (dat dt_X3_toExchange 50 rfl) 4 rfl ?_
            obtain ⟨j22, q23, hrun⟩ := bd hrun
            refine g_iast (j := j22) C (dat dt_X3_toExchange 51 rfl) kd_36 ltk_36 q23  ?_
            refine g_aload_n C (dat dt_X3_toExchange 52 rfl) 3 rfl ?_
            refine g_getR C (dat dt_X3_toExchange 53 rfl) fl_3_45 kd_33 rfl ltk_33 ?_
            refine g_iload_n C (dat dt_X3_toExchange 54 rfl) 1 rfl ?_
            obtain ⟨j24, q25, hrun⟩ := bd hrun
            refine g_iald C (dat dt_X3_toExchange 55 rfl) kd_36 ltk_36 q25 ?_
            cases hrun
            exact g_iret C K (dat dt_X3_toExchange 56 rfl)
          · rw [if_neg (b2i_z c13)] at hrun
            refine g_bipush C (dat dt_X3_toExchange 27 rfl) bp_m3 ?_
            cases hrun
            exact g_iret C K (dat dt_X3_toExchange 28 rfl)
      · rw [if_neg (b2i_z c7)] at hrun
        refine g_bipush C (dat dt_X3_toExchange 17 rfl) bp_m2 ?_
        cases hrun
        exact g_iret C K (dat dt_X3_toExchange 18 rfl)
  · rw [if_pos c1] at hrun
    refine g_iconst C (dat dt_X3_toExchange 7 rfl) ic_m1 ?_
    cases hrun
    exact g_iret C K (dat dt_X3_toExchange 8 rfl)
/-! SteamNations$Moves.toPassMinute()I -/
def dl_X3_toPassMinute : List (Nat × Instr × Nat) := [(0, .aload_n 0, 1), (1, .getfield 9, 3), (4, .getfield 23, 3), (7, .astore_n 1, 1), (8, .aload_n 1, 1), (9, .getfield 56, 3), (12, .iconst 0, 1), (13, .iaload, 1), (14, .sipush 999, 3), (17, .if_icmp .lt 6, 3), (20, .bipush (-3), 2), (22, .ireturn, 1), (23, .aload_n 0, 1), (24, .getfield 15, 3), (27, .iconst 3, 1), (28, .aload_n 1, 1), (29, .invokevirtual 39, 3), (32, .aload_n 0, 1), (33, .getfield 19, 3), (36, .aload_n 1, 1), (37, .aload_n 0, 1), (38, .getfield 9, 3), (41, .invokevirtual 59, 3), (44, .invokevirtual 63, 3), (47, .aload_n 1, 1), (48, .getfield 56, 3), (51, .iconst 0, 1), (52, .iaload, 1), (53, .ireturn, 1)]
set_option maxRecDepth 20000 in
theorem dt_X3_toPassMinute : ∀ q ∈ dl_X3_toPassMinute, decode prog_5_method_5_code q.1 = .ok q.2 := by decide +kernel
def f_X3_toPassMinute  (h : Hp) : Option (Int32 × Hp) :=
  if (aI h 37 0) < (999 : Int32) then
  (f_X4_keep 10 (3 : Int32) 33 h).bind fun v2 =>
  (f_X1_inForce 32 v2.2).bind fun v4 =>
  (f_X8_passMinute 33 v4 v2.2).bind fun v6 =>
  some ((aI v6.2 37 0), v6.2)
  else
  some ((-3 : Int32), h)
set_option maxRecDepth 20000 in
theorem w_X3_toPassMinute  (h : Hp) (q : (Int32 × Hp))  (hrun : f_X3_toPassMinute  h = some q) : MetA ⟨"SteamNations$Moves", "toPassMinute", "()I"⟩ prog_5_method_5_code 2 (some .int) 5 0 0 [.ref 59] h (some (.int q.1)) q.2 := by
  refine metA_of (by decide) (Nat.le_of_ble_eq_true rfl) (fun X C K => ?_)
  have C : Cx X cn_3 prog_5_method_5_code 2 (some .int) 5 0 0 := C
  show G X h 0 0 0 [(0, .ref 59)] []
  unfold f_X3_toPassMinute at hrun
  refine g_aload_n C (dat dt_X3_toPassMinute 0 rfl) 0 rfl ?_
  refine g_getR C (dat dt_X3_toPassMinute 1 rfl) fl_3_9 kd_59 rfl ltk_59 ?_
  refine g_getR C (dat dt_X3_toPassMinute 2 rfl) fl_3_23 kd_32 rfl ltk_32 ?_
  refine g_astore_n (lv' := [(0, .ref 59), (1, .ref 33)]) C (dat dt_X3_toPassMinute 3 rfl) (by decide) rfl ?_
  refine g_aload_n C (dat dt_X3_toPassMinute 4 rfl) 1 rfl ?_
  refine g_getR C (dat dt_X3_toPassMinute 5 rfl) fl_3_56 kd_33 rfl ltk_33 ?_
  refine g_iconst C (dat dt_X3_toPassMinute 6 rfl) ic_0 ?_
  refine g_iald (j := 0) C (dat dt_X3_toPassMinute 7 rfl) kd_37 ltk_37 (show inb (0 : Int32) 3 = some 0 by decide) ?_
  refine g_sipush C (dat dt_X3_toPassMinute 8 rfl) sp_999 ?_
  refine g_ic_lt 23 C (dat dt_X3_toPassMinute 9 rfl) (by decide) (fun c1 => ?_) (fun c1 => ?_)
  · rw [if_pos c1] at hrun
    refine g_aload_n C (dat dt_X3_toPassMinute 12 rfl) 0 rfl ?_
    refine g_getR C (dat dt_X3_toPassMinute 13 rfl) fl_3_15 kd_59 rfl ltk_59 ?_
    refine g_iconst C (dat dt_X3_toPassMinute 14 rfl) ic_3 ?_
    refine g_aload_n C (dat dt_X3_toPassMinute 15 rfl) 1 rfl ?_
    obtain ⟨v2, q3, hrun⟩ := bd hrun
    refine g_cVv [.int (3 : Int32), .ref 33] C (dat dt_X3_toPassMinute 16 rfl) ml_3_39 (w_X4_keep 10 (3 : Int32) 33 h v2 past_10 room_33 q3) kd_10 ltk_10 rfl rfl cat0 (by decide) c00 ?_
    refine g_aload_n C (dat dt_X3_toPassMinute 17 rfl) 0 rfl ?_
    refine g_getR C (dat dt_X3_toPassMinute 18 rfl) fl_3_19 kd_59 rfl ltk_59 ?_
    refine g_aload_n C (dat dt_X3_toPassMinute 19 rfl) 1 rfl ?_
    refine g_aload_n C (dat dt_X3_toPassMinute 20 rfl) 0 rfl ?_
    refine g_getR C (dat dt_X3_toPassMinute 21 rfl) fl_3_9 kd_59 rfl ltk_59 ?_
    obtain ⟨v4, q5, hrun⟩ := bd hrun
    refine g_cVr [] C (dat dt_X3_toPassMinute 22 rfl) ml_3_59 (w_X1_inForce 32 v2.2 v4 house_32 q5) kd_32 ltk_32 rfl rfl (Nat.le_of_ble_eq_true rfl) (by decide) c00 ?_
    obtain ⟨v6, q7, hrun⟩ := bd hrun
    refine g_cVv [.ref 33, .ref v4] C (dat dt_X3_toPassMinute 23 rfl) ml_3_63 (w_X8_passMinute 33 v4 v2.2 v6 room_33 q7) kd_56 ltk_56 rfl rfl cat0 (by decide) c00 ?_
    refine g_aload_n C (dat dt_X3_toPassMinute 24 rfl) 1 rfl ?_
    refine g_getR C (dat dt_X3_toPassMinute 25 rfl) fl_3_56 kd_33 rfl ltk_33 ?_
    refine g_iconst C (dat dt_X3_toPassMinute 26 rfl) ic_0 ?_
    refine g_iald (j := 0) C (dat dt_X3_toPassMinute 27 rfl) kd_37 ltk_37 (show inb (0 : Int32) 3 = some 0 by decide) ?_
    cases hrun
    exact g_iret C K (dat dt_X3_toPassMinute 28 rfl)
  · rw [if_neg c1] at hrun
    refine g_bipush C (dat dt_X3_toPassMinute 10 rfl) bp_m3 ?_
    cases hrun
    exact g_iret C K (dat dt_X3_toPassMinute 11 rfl)
/-! SteamNations$Errands.canMove(LSteamNations$Text;I)Z -/
def dl_X0_canMove : List (Nat × Instr × Nat) := [(0, .aload_n 0, 1), (1, .getfield 33, 3), (4, .aload_n 1, 1), (5, .iload_n 2, 1), (6, .iconst 2, 1), (7, .invokevirtual 76, 3), (10, .istore_n 3, 1), (11, .aload_n 0, 1), (12, .getfield 33, 3), (15, .aload_n 1, 1), (16, .iload_n 2, 1), (17, .iconst 3, 1), (18, .invokevirtual 76, 3), (21, .istore 4, 2), (23, .iload_n 3, 1), (24, .ldc 86, 2), (26, .if_icmp .eq 10, 3), (29, .iload 4, 2), (31, .ldc 86, 2), (33, .if_icmp .ne 5, 3), (36, .iconst 0, 1), (37, .ireturn, 1), (38, .aload_n 1, 1), (39, .iload_n 2, 1), (40, .iconst 0, 1), (41, .invokevirtual 69, 3), (44, .tableswitch 77 16 18 #[28, 43, 62], 28), (72, .aload_n 0, 1), (73, .getfield 29, 3), (76, .iload_n 3, 1), (77, .iload 4, 2), (79, .invokevirtual 87, 3), (82, .istore 5, 2), (84, .goto 46, 3), (87, .aload_n 0, 1), (88, .getfield 29, 3), (91, .iload_n 3, 1), (92, .invokevirtual 90, 3), (95, .istore 5, 2), (97, .aload_n 0, 1), (98, .iload 5, 2), (100, .putfield 61, 3), (103, .goto 27, 3), (106, .aload_n 0, 1), (107, .getfield 29, 3), (110, .iload_n 3, 1), (111, .iload 4, 2), (113, .invokevirtual 94, 3), (116, .istore 5, 2), (118, .goto 12, 3), (121, .aload_n 0, 1), (122, .getfield 29, 3), (125, .invokevirtual 97, 3), (128, .istore 5, 2), (130, .aload_n 0, 1), (131, .dup, 1), (132, .getfield 58, 3), (135, .iconst 1, 1), (136, .iadd, 1), (137, .putfield 58, 3), (140, .iload 5, 2), (142, .ifCond .lt 7, 3), (145, .iconst 1, 1), (146, .goto 4, 3), (149, .iconst 0, 1), (150, .ireturn, 1)]
set_option maxRecDepth 20000 in
theorem dt_X0_canMove : ∀ q ∈ dl_X0_canMove, decode prog_2_method_3_code q.1 = .ok q.2 := by decide +kernel
def j_X0_canMove_130 (a1 : Nat) (x5 : Int32) (h : Hp) : Option (Bool × Hp) :=
  if x5 < 0 then
  some (false, (sF h 60 4 ((fI h 60 4) + (1 : Int32))))
  else
  some (true, (sF h 60 4 ((fI h 60 4) + (1 : Int32))))
set_option maxRecDepth 20000 in
theorem wj_X0_canMove_130 {X : Xt} (C : Cx X cn_0 prog_2_method_3_code 6 (some .boolean) 6 0 0) (a1 : Nat)   (x5 : Int32) (h : Hp) (q : (Bool × Hp)) (hrun : j_X0_canMove_130 a1 x5 h = some q) (K : EndQ X 0 0 (some (.int (b2i q.1))) q.2) : G X h 0 0 130 [(0, .ref 60), (5, .int x5)] [] := by
  unfold j_X0_canMove_130 at hrun
  refine g_aload_n C (dat dt_X0_canMove 54 rfl) 0 rfl ?_
  refine g_dup C (dat dt_X0_canMove 55 rfl) rfl ?_
  refine g_getI C (dat dt_X0_canMove 56 rfl) fl_0_58 kd_60 rfl ltk_60 ?_
  refine g_iconst C (dat dt_X0_canMove 57 rfl) ic_1 ?_
  refine g_iadd C (dat dt_X0_canMove 58 rfl) ?_
  refine g_putI C (dat dt_X0_canMove 59 rfl) fl_0_58 rfl rfl kd_60 rfl ltk_60 ?_
  refine g_iload C (dat dt_X0_canMove 60 rfl) 1 rfl ?_
  refine g_if_lt 149 C (dat dt_X0_canMove 61 rfl) (by decide) (fun c15 => ?_) (fun c15 => ?_)
  · rw [if_pos c15] at hrun
    refine g_iconst C (dat dt_X0_canMove 64 rfl) ic_0 ?_
    cases hrun
    exact g_zret C K (show (0 : Int32) = b2i false by decide) (dat dt_X0_canMove 65 rfl)
  · rw [if_neg c15] at hrun
    refine g_iconst C (dat dt_X0_canMove 62 rfl) ic_1 ?_
    refine g_goto 150 C (dat dt_X0_canMove 63 rfl) (by decide) ?_
    cases hrun
    exact g_zret C K (show (1 : Int32) = b2i true by decide) (dat dt_X0_canMove 65 rfl)
def f_X0_canMove (a1 : Nat) (x2 : Int32) (h : Hp) : Option (Bool × Hp) :=
  (f_X2_workOut a1 x2 (2 : Int32) h).bind fun v1 =>
  (f_X2_workOut a1 x2 (3 : Int32) v1.2).bind fun v3 =>
  if v1.1 = (-2147483648 : Int32) then
  some (false, v3.2)
  else
  if v3.1 = (-2147483648 : Int32) then
  some (false, v3.2)
  else
  if tg v3.2 a1 = true then
  (f_X9_markOf a1 x2 (0 : Int32) v3.2).bind fun v8 =>
  if v8.toInt < (16 : Int) ∨ (18 : Int) < v8.toInt then
  (f_X3_toPassMinute  v3.2).bind fun v13 =>
  j_X0_canMove_130 a1 v13.1 v13.2
  else if (v8.toInt - (16 : Int)).toNat = 0 then
  (f_X3_toSeat v1.1 v3.1 v3.2).bind fun v16 =>
  j_X0_canMove_130 a1 v16.1 v16.2
  else if (v8.toInt - (16 : Int)).toNat = 1 then
  (f_X3_toSendOut v1.1 v3.2).bind fun v18 =>
  j_X0_canMove_130 a1 v18.1 (sF v18.2 60 5 v18.1)
  else if (v8.toInt - (16 : Int)).toNat = 2 then
  (f_X3_toExchange v1.1 v3.1 v3.2).bind fun v20 =>
  j_X0_canMove_130 a1 v20.1 v20.2
  else none
  else none
set_option maxRecDepth 20000 in
theorem w_X0_canMove (a1 : Nat) (x2 : Int32) (h : Hp) (q : (Bool × Hp))  (hrun : f_X0_canMove a1 x2 h = some q) : MetA ⟨"SteamNations$Errands", "canMove", "(LSteamNations$Text;I)Z"⟩ prog_2_method_3_code 6 (some .boolean) 6 0 0 [.ref 60, .ref a1, .int x2] h (some (.int (b2i q.1))) q.2 := by
  refine metA_of (by decide) (Nat.le_of_ble_eq_true rfl) (fun X C K => ?_)
  have C : Cx X cn_0 prog_2_method_3_code 6 (some .boolean) 6 0 0 := C
  show G X h 0 0 0 [(0, .ref 60), (1, .ref a1), (2, .int x2)] []
  unfold f_X0_canMove at hrun
  refine g_aload_n C (dat dt_X0_canMove 0 rfl) 0 rfl ?_
  refine g_getR C (dat dt_X0_canMove 1 rfl) fl_0_33 kd_60 rfl ltk_60 ?_
  refine g_aload_n C (dat dt_X0_canMove 2 rfl) 1 rfl ?_
  refine g_iload_n C (dat dt_X0_canMove 3 rfl) 2 rfl ?_
  refine g_iconst C (dat dt_X0_canMove 4 rfl) ic_2 ?_
  obtain ⟨v1, q2, hrun⟩ := bd hrun
  refine g_cVi [.ref a1, .int x2, .int (2 : Int32)] C (dat dt_X0_canMove 5 rfl) ml_0_76 (w_X2_workOut a1 x2 (2 : Int32) h v1  q2) kd_29 ltk_29 rfl rfl cat0 (by decide) c00 ?_
  refine g_istore_n (lv' := [(0, .ref 60), (1, .ref a1), (2, .int x2), (3, .int v1.1)]) C (dat dt_X0_canMove 6 rfl) (by decide) rfl ?_
  refine g_aload_n C (dat dt_X0_canMove 7 rfl) 0 rfl ?_
  refine g_getR C (dat dt_X0_canMove 8 rfl) fl_0_33 kd_60 rfl ltk_60 ?_
  refine g_aload_n C (dat dt_X0_canMove 9 rfl) 1 rfl ?_
  refine g_iload_n C (dat dt_X0_canMove 10 rfl) 2 rfl ?_
  refine g_iconst C (dat dt_X0_canMove 11 rfl) ic_3 ?_
  obtain ⟨v3, q4, hrun⟩ := bd hrun
  refine g_cVi [.ref a1, .int x2, .int (3 : Int32)] C (dat dt_X0_canMove 12 rfl) ml_0_76 (w_X2_workOut a1 x2 (3 : Int32) v1.2 v3  q4) kd_29 ltk_29 rfl rfl cat0 (by decide) c00 ?_
  refine g_istore (lv' := [(0, .ref 60), (1, .ref a1), (2, .int x2), (3, .int v1.1), (4, .int v3.1)]) C (dat dt_X0_canMove 13 rfl) (by decide) rfl ?_
  refine g_iload_n C (dat dt_X0_canMove 14 rfl) 3 rfl ?_
  refine g_ldc C (dat dt_X0_canMove 15 rfl) kc_0_86 ?_
  refine g_ic_eq 36 C (dat dt_X0_canMove 16 rfl) (by decide) (fun c5 => ?_) (fun c5 => ?_)
  · rw [if_pos c5] at hrun
    refine g_iconst C (dat dt_X0_canMove 20 rfl) ic_0 ?_
    cases hrun
    exact g_zret C K (show (0 : Int32) = b2i false by decide) (dat dt_X0_canMove 21 rfl)
  · rw [if_neg c5] at hrun
    refine g_iload C (dat dt_X0_canMove 17 rfl) 4 rfl ?_
    refine g_ldc C (dat dt_X0_canMove 18 rfl) kc_0_86 ?_
    refine g_ic_ne 38 C (dat dt_X0_canMove 19 rfl) (by decide) (fun c6 => ?_) (fun c6 => ?_)
    · rw [if_neg c6] at hrun
      refine g_aload_n C (dat dt_X0_canMove 22 rfl) 1 rfl ?_
      refine g_iload_n C (dat dt_X0_canMove 23 rfl) 2 rfl ?_
      refine g_iconst C (dat dt_X0_canMove 24 rfl) ic_0 ?_
      by_cases g7 : tg v3.2 a1 = true
      · rw [if_pos g7] at hrun
        obtain ⟨v8, q9, hrun⟩ := bd hrun
        refine g_cVi [.int x2, .int (0 : Int32)] C (dat dt_X0_canMove 25 rfl) ml_0_69 (w_X9_markOf a1 x2 (0 : Int32) v3.2 v8  q9) (tg_spec g7).1 (tb0 g7) rfl rfl cat0 (by decide) c00 ?_
        by_cases c10 : v8.toInt < (16 : Int) ∨ (18 : Int) < v8.toInt
        · rw [if_pos c10] at hrun
          refine g_tabO 121 C (dat dt_X0_canMove 26 rfl) c10 (by decide) ?_
          refine g_aload_n C (dat dt_X0_canMove 50 rfl) 0 rfl ?_
          refine g_getR C (dat dt_X0_canMove 51 rfl) fl_0_29 kd_60 rfl ltk_60 ?_
          obtain ⟨v13, q14, hrun⟩ := bd hrun
          refine g_cVi [] C (dat dt_X0_canMove 52 rfl) ml_0_97 (w_X3_toPassMinute  v3.2 v13  q14) kd_59 ltk_59 rfl rfl cat0 (by decide) c00 ?_
          refine g_istore (lv' := [(0, .ref 60), (1, .ref a1), (2, .int x2), (3, .int v1.1), (4, .int v3.1), (5, .int v13.1)]) C (dat dt_X0_canMove 53 rfl) (by decide) rfl ?_
          refine g_sub [0, 5] (lv' := [(0, .ref 60), (5, .int v13.1)]) rfl ?_
          exact wj_X0_canMove_130 C a1   v13.1 v13.2 _ hrun K
        · rw [if_neg c10] at hrun
          by_cases c24 : (v8.toInt - (16 : Int)).toNat = 0
          · rw [if_pos c24] at hrun
            refine g_tabI 72 C (dat dt_X0_canMove 26 rfl) c10 c24.symm rfl (by decide) ?_
            refine g_aload_n C (dat dt_X0_canMove 27 rfl) 0 rfl ?_
            refine g_getR C (dat dt_X0_canMove 28 rfl) fl_0_29 kd_60 rfl ltk_60 ?_
            refine g_iload_n C (dat dt_X0_canMove 29 rfl) 3 rfl ?_
            refine g_iload C (dat dt_X0_canMove 30 rfl) 4 rfl ?_
            obtain ⟨v16, q17, hrun⟩ := bd hrun
            refine g_cVi [.int v1.1, .int v3.1] C (dat dt_X0_canMove 31 rfl) ml_0_87 (w_X3_toSeat v1.1 v3.1 v3.2 v16  q17) kd_59 ltk_59 rfl rfl cat0 (by decide) c00 ?_
            refine g_istore (lv' := [(0, .ref 60), (1, .ref a1), (2, .int x2), (3, .int v1.1), (4, .int v3.1), (5, .int v16.1)]) C (dat dt_X0_canMove 32 rfl) (by decide) rfl ?_
            refine g_goto 130 C (dat dt_X0_canMove 33 rfl) (by decide) ?_
            refine g_sub [0, 5] (lv' := [(0, .ref 60), (5, .int v16.1)]) rfl ?_
            exact wj_X0_canMove_130 C a1   v16.1 v16.2 _ hrun K
          · rw [if_neg c24] at hrun
            by_cases c23 : (v8.toInt - (16 : Int)).toNat = 1
            · rw [if_pos c23] at hrun
              refine g_tabI 87 C (dat dt_X0_canMove 26 rfl) c10 c23.symm rfl (by decide) ?_
              refine g_aload_n C (dat dt_X0_canMove 34 rfl) 0 rfl ?_
              refine g_getR C (dat dt_X0_canMove 35 rfl) fl_0_29 kd_60 rfl ltk_60 ?_
              refine g_iload_n C (dat dt_X0_canMove 36 rfl) 3 rfl ?_
              obtain ⟨v18, q19, hrun⟩ := bd hrun
              refine g_cVi [.int v1.1] C (dat dt_X0_canMove 37 rfl) ml_0_90 (w_X3_toSendOut v1.1 v3.2 v18  q19) kd_59 ltk_59 rfl rfl cat0 (by decide) c00 ?_
              refine g_istore (lv' := [(0, .ref 60), (1, .ref a1), (2, .int x2), (3, .int v1.1), (4, .int v3.1), (5, .int v18.1)]) C (dat dt_X0_canMove 38 rfl) (by decide) rfl ?_
              refine g_aload_n C (dat dt_X0_canMove 39 rfl) 0 rfl ?_
              refine g_iload C (dat dt_X0_canMove 40 rfl) 5 rfl ?_
              refine g_putI C (dat dt_X0_canMove 41 rfl) fl_0_61 rfl rfl kd_60 rfl ltk_60 ?_
              refine g_goto 130 C (dat dt_X0_canMove 42 rfl) (by decide) ?_
              refine g_sub [0, 5] (lv' := [(0, .ref 60), (5, .int v18.1)]) rfl ?_
              exact wj_X0_canMove_130 C a1   v18.1 (sF v18.2 60 5 v18.1) _ hrun K
            · rw [if_neg c23] at hrun
              by_cases c22 : (v8.toInt - (16 : Int)).toNat = 2
              · rw [if_pos c22] at hrun
                refine g_tabI 106 C (dat dt_X0_canMove 26 rfl) c10 c22.symm rfl (by decide) ?_
                refine g_aload_n C (dat dt_X0_canMove 43 rfl) 0 rfl ?_
                refine g_getR C (dat dt_X0_canMove 44 rfl) fl_0_29 kd_60 rfl ltk_60 ?_
                refine g_iload_n C (dat dt_X0_canMove 45 rfl) 3 rfl ?_
                refine g_iload C (dat dt_X0_canMove 46 rfl) 4 rfl ?_
                obtain ⟨v20, q21, hrun⟩ := bd hrun
                refine g_cVi [.int v1.1, .int v3.1] C (dat dt_X0_canMove 47 rfl) ml_0_94 (w_X3_toExchange v1.1 v3.1 v3.2 v20  q21) kd_59 ltk_59 rfl rfl cat0 (by decide) c00 ?_
                refine g_istore (lv' := [(0, .ref 60), (1, .ref a1), (2, .int x2), (3, .int v1.1), (4, .int v3.1), (5, .int v20.1)]) C (dat dt_X0_canMove 48 rfl) (by decide) rfl ?_
                refine g_goto 130 C (dat dt_X0_canMove 49 rfl) (by decide) ?_
                refine g_sub [0, 5] (lv' := [(0, .ref 60), (5, .int v20.1)]) rfl ?_
                exact wj_X0_canMove_130 C a1   v20.1 v20.2 _ hrun K
              · rw [if_neg c22] at hrun
                cases hrun
      · rw [if_neg g7] at hrun
        cases hrun
    · rw [if_pos c6] at hrun
      refine g_iconst C (dat dt_X0_canMove 20 rfl) ic_0 ?_
      cases hrun
      exact g_zret C K (show (0 : Int32) = b2i false by decide) (dat dt_X0_canMove 21 rfl)
/-! SteamNations$Errands.run(LSteamNations$Text;)I -/
def dl_X0_run : List (Nat × Instr × Nat) := [(0, .aload_n 0, 1), (1, .getfield 12, 3), (4, .aload_n 0, 1), (5, .getfield 29, 3), (8, .getfield 37, 3), (11, .getfield 43, 3), (14, .invokevirtual 48, 3), (17, .aload_n 0, 1), (18, .getfield 21, 3), (21, .aload_n 0, 1), (22, .getfield 29, 3), (25, .getfield 52, 3), (28, .invokevirtual 55, 3), (31, .aload_n 0, 1), (32, .iconst 0, 1), (33, .putfield 58, 3), (36, .aload_n 0, 1), (37, .iconst (-1), 1), (38, .putfield 61, 3), (41, .iconst 0, 1), (42, .istore_n 2, 1), (43, .iload_n 2, 1), (44, .aload_n 1, 1), (45, .getfield 64, 3), (48, .if_icmp .ge 103, 3), (51, .iconst 0, 1), (52, .istore_n 3, 1), (53, .iload_n 3, 1), (54, .aload_n 1, 1), (55, .iload_n 2, 1), (56, .iconst 1, 1), (57, .invokevirtual 69, 3), (60, .if_icmp .ge 85, 3), (63, .aload_n 0, 1), (64, .aload_n 0, 1), (65, .getfield 29, 3), (68, .getfield 37, 3), (71, .getfield 43, 3), (74, .invokevirtual 73, 3), (77, .aload_n 0, 1), (78, .getfield 33, 3), (81, .aload_n 1, 1), (82, .iload_n 2, 1), (83, .iconst 4, 1), (84, .invokevirtual 76, 3), (87, .iconst 1, 1), (88, .if_icmp .ne 51, 3), (91, .aload_n 0, 1), (92, .aload_n 1, 1), (93, .iload_n 2, 1), (94, .invokevirtual 82, 3), (97, .ifCond .ne 42, 3), (100, .aload_n 0, 1), (101, .iload_n 2, 1), (102, .putfield 25, 3), (105, .aload_n 0, 1), (106, .getfield 29, 3), (109, .getfield 37, 3), (112, .getfield 43, 3), (115, .aload_n 0, 1), (116, .getfield 12, 3), (119, .invokevirtual 48, 3), (122, .aload_n 0, 1), (123, .getfield 29, 3), (126, .getfield 52, 3), (129, .aload_n 0, 1), (130, .getfield 21, 3), (133, .invokevirtual 55, 3), (136, .bipush (-3), 2), (138, .ireturn, 1), (139, .iinc 3 1, 3), (142, .goto (-89), 3), (145, .iinc 2 1, 3), (148, .goto (-105), 3), (151, .aload_n 0, 1), (152, .getfield 58, 3), (155, .ireturn, 1)]
set_option maxRecDepth 20000 in
theorem dt_X0_run : ∀ q ∈ dl_X0_run, decode prog_2_method_2_code q.1 = .ok q.2 := by decide +kernel
def kp_X0_run_43 (a1 : Nat)  (X : Xt) (s : (Int32 × Hp)) : Prop := G X s.2 0 0 43 [(0, .ref 60), (1, .ref a1), (2, .int s.1)] []
def ke_X0_run_43 (a1 : Nat)  (X : Xt) (e : (Hp ⊕ (Int32 × Hp))) : Prop := match e with
  | .inl e => G X e 0 0 151 [(0, .ref 60)] []
  | .inr (e) => G X e.2 0 0 100 [(0, .ref 60), (2, .int e.1)] []
def kp_X0_run_53_43 (a1 : Nat) (x2 : Int32) (X : Xt) (s : (Int32 × Hp)) : Prop := G X s.2 0 0 53 [(0, .ref 60), (1, .ref a1), (2, .int x2), (3, .int s.1)] []
def ke_X0_run_53_43 (a1 : Nat) (x2 : Int32) (X : Xt) (e : (Hp ⊕ Hp)) : Prop := match e with
  | .inl e => G X e 0 0 145 [(0, .ref 60), (1, .ref a1), (2, .int x2)] []
  | .inr (e) => G X e 0 0 100 [(0, .ref 60), (2, .int x2)] []
def b_X0_run_53_43 (a1 : Nat) (x2 : Int32) (x3 : Int32) (h : Hp) : Option ((Int32 × Hp) ⊕ (Hp ⊕ Hp)) :=
  if tg h a1 = true then
  (f_X9_markOf a1 x2 (1 : Int32) h).bind fun v8 =>
  if v8 ≤ x3 then
  some (.inr (.inl h))
  else
  (f_X0_sayWords 33 h).bind fun v11 =>
  (f_X2_workOut a1 x2 (4 : Int32) v11.2).bind fun v13 =>
  if v13.1 = (1 : Int32) then
  (f_X0_canMove a1 x2 v13.2).bind fun v16 =>
  if v16.1 = true then
  some (.inl ((x3 + (1 : Int32)), v16.2))
  else
  some (.inr (.inr <| id v16.2))
  else
  some (.inl ((x3 + (1 : Int32)), v13.2))
  else none
set_option maxRecDepth 20000 in
theorem wb_X0_run_53_43 {X : Xt} (C : Cx X cn_0 prog_2_method_2_code 4 (some .int) 7 0 0) (a1 : Nat)  (x2 : Int32) (x3 : Int32) (h : Hp) (q : (Int32 × Hp) ⊕ (Hp ⊕ Hp)) (hrun : b_X0_run_53_43 a1 x2 x3 h = some q) (Ks : ∀ s, q = .inl s → kp_X0_run_53_43 a1 x2 X s) (Ke : ∀ e, q = .inr e → ke_X0_run_53_43 a1 x2 X e) : kp_X0_run_53_43 a1 x2 X (x3, h) := by
  show G X h 0 0 53 [(0, .ref 60), (1, .ref a1), (2, .int x2), (3, .int x3)] []
  unfold b_X0_run_53_43 at hrun
  refine g_iload_n C (dat dt_X0_run 27 rfl) 3 rfl ?_
  refine g_aload_n C (dat dt_X0_run 28 rfl) 1 rfl ?_
  refine g_iload_n C (dat dt_X0_run 29 rfl) 2 rfl ?_
  refine g_iconst C (dat dt_X0_run 30 rfl) ic_1 ?_
  by_cases g7 : tg h a1 = true
  · rw [if_pos g7] at hrun
    obtain ⟨v8, q9, hrun⟩ := bd hrun
    refine g_cVi [.int x2, .int (1 : Int32)] C (dat dt_X0_run 31 rfl) ml_0_69 (w_X9_markOf a1 x2 (1 : Int32) h v8  q9) (tg_spec g7).1 (tb0 g7) rfl rfl (Nat.le_of_ble_eq_true rfl) (by decide) c00 ?_
    refine g_ic_ge 145 C (dat dt_X0_run 32 rfl) (by decide) (fun c10 => ?_) (fun c10 => ?_)
    · rw [if_pos c10] at hrun
      refine g_sub [0, 1, 2] (lv' := [(0, .ref 60), (1, .ref a1), (2, .int x2)]) rfl ?_
      cases hrun
      exact Ke (.inl h) rfl
    · rw [if_neg c10] at hrun
      refine g_aload_n C (dat dt_X0_run 33 rfl) 0 rfl ?_
      refine g_aload_n C (dat dt_X0_run 34 rfl) 0 rfl ?_
      refine g_getR C (dat dt_X0_run 35 rfl) fl_0_29 kd_60 rfl ltk_60 ?_
      refine g_getR C (dat dt_X0_run 36 rfl) fl_0_37 kd_59 rfl ltk_59 ?_
      refine g_getR C (dat dt_X0_run 37 rfl) fl_0_43 kd_32 rfl ltk_32 ?_
      obtain ⟨v11, q12, hrun⟩ := bd hrun
      refine g_cVv [.ref 33] C (dat dt_X0_run 38 rfl) ml_0_73 (w_X0_sayWords 33 h v11 room_33 q12) kd_60 ltk_60 rfl rfl cat0 (by decide) c00 ?_
      refine g_aload_n C (dat dt_X0_run 39 rfl) 0 rfl ?_
      refine g_getR C (dat dt_X0_run 40 rfl) fl_0_33 kd_60 rfl ltk_60 ?_
      refine g_aload_n C (dat dt_X0_run 41 rfl) 1 rfl ?_
      refine g_iload_n C (dat dt_X0_run 42 rfl) 2 rfl ?_
      refine g_iconst C (dat dt_X0_run 43 rfl) ic_4 ?_
      obtain ⟨v13, q14, hrun⟩ := bd hrun
      refine g_cVi [.ref a1, .int x2, .int (4 : Int32)] C (dat dt_X0_run 44 rfl) ml_0_76 (w_X2_workOut a1 x2 (4 : Int32) v11.2 v13  q14) kd_29 ltk_29 rfl rfl cat0 (by decide) c00 ?_
      refine g_iconst C (dat dt_X0_run 45 rfl) ic_1 ?_
      refine g_ic_ne 139 C (dat dt_X0_run 46 rfl) (by decide) (fun c15 => ?_) (fun c15 => ?_)
      · rw [if_neg c15] at hrun
        refine g_iinc (v := (x3 + (1 : Int32))) (lv' := [(0, .ref 60), (1, .ref a1), (2, .int x2), (3, .int (x3 + (1 : Int32)))]) C (dat dt_X0_run 70 rfl) 3 rfl (congrArg (fun z => x3 + z) ic_1) (by decide) rfl ?_
        refine g_goto 53 C (dat dt_X0_run 71 rfl) (by decide) ?_
        cases hrun
        exact Ks ((x3 + (1 : Int32)), v13.2) rfl
      · rw [if_pos c15] at hrun
        refine g_aload_n C (dat dt_X0_run 47 rfl) 0 rfl ?_
        refine g_aload_n C (dat dt_X0_run 48 rfl) 1 rfl ?_
        refine g_iload_n C (dat dt_X0_run 49 rfl) 2 rfl ?_
        obtain ⟨v16, q17, hrun⟩ := bd hrun
        refine g_cVi [.ref a1, .int x2] C (dat dt_X0_run 50 rfl) ml_0_82 (w_X0_canMove a1 x2 v13.2 v16  q17) kd_60 ltk_60 rfl rfl cat0 (by decide) c00 ?_
        refine g_if_ne 139 C (dat dt_X0_run 51 rfl) (by decide) (fun c18 => ?_) (fun c18 => ?_)
        · rw [if_pos (b2i_nz c18)] at hrun
          refine g_iinc (v := (x3 + (1 : Int32))) (lv' := [(0, .ref 60), (1, .ref a1), (2, .int x2), (3, .int (x3 + (1 : Int32)))]) C (dat dt_X0_run 70 rfl) 3 rfl (congrArg (fun z => x3 + z) ic_1) (by decide) rfl ?_
          refine g_goto 53 C (dat dt_X0_run 71 rfl) (by decide) ?_
          cases hrun
          exact Ks ((x3 + (1 : Int32)), v16.2) rfl
        · rw [if_neg (b2i_z c18)] at hrun
          refine g_sub [0, 2] (lv' := [(0, .ref 60), (2, .int x2)]) rfl ?_
          cases hrun
          exact Ke (.inr <| id v16.2) rfl
  · rw [if_neg g7] at hrun
    cases hrun
def b_X0_run_43 (a1 : Nat)  (x2 : Int32) (h : Hp) : Option ((Int32 × Hp) ⊕ (Hp ⊕ (Int32 × Hp))) :=
  if tg h a1 = true then
  if (fI h a1 2) ≤ x2 then
  some (.inr (.inl h))
  else
  (lp (fun s => b_X0_run_53_43 a1 x2 s.1 s.2) FU ((0 : Int32), h)).bind fun e19 =>
  sc e19 (fun e21 =>
  some (.inl ((x2 + (1 : Int32)), e21))) (fun e22 =>
  some (.inr (.inr <| id (x2, e22))))
  else none
set_option maxRecDepth 20000 in
theorem wb_X0_run_43 {X : Xt} (C : Cx X cn_0 prog_2_method_2_code 4 (some .int) 7 0 0) (a1 : Nat)   (x2 : Int32) (h : Hp) (q : (Int32 × Hp) ⊕ (Hp ⊕ (Int32 × Hp))) (hrun : b_X0_run_43 a1  x2 h = some q) (Ks : ∀ s, q = .inl s → kp_X0_run_43 a1  X s) (Ke : ∀ e, q = .inr e → ke_X0_run_43 a1  X e) : kp_X0_run_43 a1  X (x2, h) := by
  show G X h 0 0 43 [(0, .ref 60), (1, .ref a1), (2, .int x2)] []
  unfold b_X0_run_43 at hrun
  refine g_iload_n C (dat dt_X0_run 21 rfl) 2 rfl ?_
  refine g_aload_n C (dat dt_X0_run 22 rfl) 1 rfl ?_
  by_cases g5 : tg h a1 = true
  · rw [if_pos g5] at hrun
    refine g_getI C (dat dt_X0_run 23 rfl) fl_0_64 (tg_spec g5).1 rfl (tb0 g5) ?_
    refine g_ic_ge 151 C (dat dt_X0_run 24 rfl) (by decide) (fun c6 => ?_) (fun c6 => ?_)
    · rw [if_pos c6] at hrun
      refine g_sub [0] (lv' := [(0, .ref 60)]) rfl ?_
      cases hrun
      exact Ke (.inl h) rfl
    · rw [if_neg c6] at hrun
      refine g_iconst C (dat dt_X0_run 25 rfl) ic_0 ?_
      refine g_istore_n (lv' := [(0, .ref 60), (1, .ref a1), (2, .int x2), (3, .int (0 : Int32))]) C (dat dt_X0_run 26 rfl) (by decide) rfl ?_
      obtain ⟨e19, q20, hrun⟩ := bd hrun
      refine lp_ind (P := fun s => kp_X0_run_53_43 a1 x2 X s) (K := fun e => ke_X0_run_53_43 a1 x2 X e) (fun s q hb Ks Ke => wb_X0_run_53_43 C a1  x2 s.1 s.2 q hb Ks Ke) FU ((0 : Int32), h) e19 q20 ?_
      rcases e19 with e21 | e22
      · rw [sc_l] at hrun
        show G X e21 0 0 145 [(0, .ref 60), (1, .ref a1), (2, .int x2)] []
        refine g_iinc (v := (x2 + (1 : Int32))) (lv' := [(0, .ref 60), (1, .ref a1), (2, .int (x2 + (1 : Int32)))]) C (dat dt_X0_run 72 rfl) 2 rfl (congrArg (fun z => x2 + z) ic_1) (by decide) rfl ?_
        refine g_goto 43 C (dat dt_X0_run 73 rfl) (by decide) ?_
        cases hrun
        exact Ks ((x2 + (1 : Int32)), e21) rfl
      · rw [sc_r] at hrun
        show G X e22 0 0 100 [(0, .ref 60), (2, .int x2)] []
        cases hrun
        exact Ke (.inr <| id (x2, e22)) rfl
  · rw [if_neg g5] at hrun
    cases hrun
def f_X0_run (a1 : Nat) (h : Hp) : Option (Int32 × Hp) :=
  (f_X6_copyFrom 61 33 h).bind fun v1 =>
  (f_X4_copyFrom 66 10 v1.2).bind fun v3 =>
  (lp (fun s => b_X0_run_43 a1  s.1 s.2) FU ((0 : Int32), (sF (sF v3.2 60 4 (0 : Int32)) 60 5 (-1 : Int32)))).bind fun e23 =>
  sc e23 (fun e25 =>
  some ((fI e25 60 4), e25)) (fun e26 =>
  (f_X6_copyFrom 33 61 (sF e26.2 60 6 e26.1)).bind fun v27 =>
  (f_X4_copyFrom 10 66 v27.2).bind fun v29 =>
  some ((-3 : Int32), v29.2))
set_option maxRecDepth 20000 in
theorem w_X0_run (a1 : Nat) (h : Hp) (q : (Int32 × Hp))  (hrun : f_X0_run a1 h = some q) : MetA ⟨"SteamNations$Errands", "run", "(LSteamNations$Text;)I"⟩ prog_2_method_2_code 4 (some .int) 7 0 0 [.ref 60, .ref a1] h (some (.int q.1)) q.2 := by
  refine metA_of (by decide) (Nat.le_of_ble_eq_true rfl) (fun X C K => ?_)
  have C : Cx X cn_0 prog_2_method_2_code 4 (some .int) 7 0 0 := C
  show G X h 0 0 0 [(0, .ref 60), (1, .ref a1)] []
  unfold f_X0_run at hrun
  refine g_aload_n C (dat dt_X0_run 0 rfl) 0 rfl ?_
  refine g_getR C (dat dt_X0_run 1 rfl) fl_0_12 kd_60 rfl ltk_60 ?_
  refine g_aload_n C (dat dt_X0_run 2 rfl) 0 rfl ?_
  refine g_getR C (dat dt_X0_run 3 rfl) fl_0_29 kd_60 rfl ltk_60 ?_
  refine g_getR C (dat dt_X0_run 4 rfl) fl_0_37 kd_59 rfl ltk_59 ?_
  refine g_getR C (dat dt_X0_run 5 rfl) fl_0_43 kd_32 rfl ltk_32 ?_
  obtain ⟨v1, q2, hrun⟩ := bd hrun
  refine g_cVv [.ref 33] C (dat dt_X0_run 6 rfl) ml_0_48 (w_X6_copyFrom 61 33 h v1 room_61 room_33 q2) kd_61 ltk_61 rfl rfl cat0 (by decide) c00 ?_
  refine g_aload_n C (dat dt_X0_run 7 rfl) 0 rfl ?_
  refine g_getR C (dat dt_X0_run 8 rfl) fl_0_21 kd_60 rfl ltk_60 ?_
  refine g_aload_n C (dat dt_X0_run 9 rfl) 0 rfl ?_
  refine g_getR C (dat dt_X0_run 10 rfl) fl_0_29 kd_60 rfl ltk_60 ?_
  refine g_getR C (dat dt_X0_run 11 rfl) fl_0_52 kd_59 rfl ltk_59 ?_
  obtain ⟨v3, q4, hrun⟩ := bd hrun
  refine g_cVv [.ref 10] C (dat dt_X0_run 12 rfl) ml_0_55 (w_X4_copyFrom 66 10 v1.2 v3 past_66 past_10 q4) kd_66 ltk_66 rfl rfl cat0 (by decide) c00 ?_
  refine g_aload_n C (dat dt_X0_run 13 rfl) 0 rfl ?_
  refine g_iconst C (dat dt_X0_run 14 rfl) ic_0 ?_
  refine g_putI C (dat dt_X0_run 15 rfl) fl_0_58 rfl rfl kd_60 rfl ltk_60 ?_
  refine g_aload_n C (dat dt_X0_run 16 rfl) 0 rfl ?_
  refine g_iconst C (dat dt_X0_run 17 rfl) ic_m1 ?_
  refine g_putI C (dat dt_X0_run 18 rfl) fl_0_61 rfl rfl kd_60 rfl ltk_60 ?_
  refine g_iconst C (dat dt_X0_run 19 rfl) ic_0 ?_
  refine g_istore_n (lv' := [(0, .ref 60), (1, .ref a1), (2, .int (0 : Int32))]) C (dat dt_X0_run 20 rfl) (by decide) rfl ?_
  obtain ⟨e23, q24, hrun⟩ := bd hrun
  refine lp_ind (P := fun s => kp_X0_run_43 a1  X s) (K := fun e => ke_X0_run_43 a1  X e) (fun s q hb Ks Ke => wb_X0_run_43 C a1   s.1 s.2 q hb Ks Ke) FU ((0 : Int32), (sF (sF v3.2 60 4 (0 : Int32)) 60 5 (-1 : Int32))) e23 q24 ?_
  rcases e23 with e25 | e26
  · rw [sc_l] at hrun
    show G X e25 0 0 151 [(0, .ref 60)] []
    refine g_aload_n C (dat dt_X0_run 74 rfl) 0 rfl ?_
    refine g_getI C (dat dt_X0_run 75 rfl) fl_0_58 kd_60 rfl ltk_60 ?_
    cases hrun
    exact g_iret C K (dat dt_X0_run 76 rfl)
  · rw [sc_r] at hrun
    show G X e26.2 0 0 100 [(0, .ref 60), (2, .int e26.1)] []
    refine g_aload_n C (dat dt_X0_run 52 rfl) 0 rfl ?_
    refine g_iload_n C (dat dt_X0_run 53 rfl) 1 rfl ?_
    refine g_putI C (dat dt_X0_run 54 rfl) fl_0_25 rfl rfl kd_60 rfl ltk_60 ?_
    refine g_aload_n C (dat dt_X0_run 55 rfl) 0 rfl ?_
    refine g_getR C (dat dt_X0_run 56 rfl) fl_0_29 kd_60 rfl ltk_60 ?_
    refine g_getR C (dat dt_X0_run 57 rfl) fl_0_37 kd_59 rfl ltk_59 ?_
    refine g_getR C (dat dt_X0_run 58 rfl) fl_0_43 kd_32 rfl ltk_32 ?_
    refine g_aload_n C (dat dt_X0_run 59 rfl) 0 rfl ?_
    refine g_getR C (dat dt_X0_run 60 rfl) fl_0_12 kd_60 rfl ltk_60 ?_
    obtain ⟨v27, q28, hrun⟩ := bd hrun
    refine g_cVv [.ref 61] C (dat dt_X0_run 61 rfl) ml_0_48 (w_X6_copyFrom 33 61 (sF e26.2 60 6 e26.1) v27 room_33 room_61 q28) kd_33 ltk_33 rfl rfl cat0 (by decide) c00 ?_
    refine g_aload_n C (dat dt_X0_run 62 rfl) 0 rfl ?_
    refine g_getR C (dat dt_X0_run 63 rfl) fl_0_29 kd_60 rfl ltk_60 ?_
    refine g_getR C (dat dt_X0_run 64 rfl) fl_0_52 kd_59 rfl ltk_59 ?_
    refine g_aload_n C (dat dt_X0_run 65 rfl) 0 rfl ?_
    refine g_getR C (dat dt_X0_run 66 rfl) fl_0_21 kd_60 rfl ltk_60 ?_
    obtain ⟨v29, q30, hrun⟩ := bd hrun
    refine g_cVv [.ref 66] C (dat dt_X0_run 67 rfl) ml_0_55 (w_X4_copyFrom 10 66 v27.2 v29 past_10 past_66 q30) kd_10 ltk_10 rfl rfl cat0 (by decide) c00 ?_
    refine g_bipush C (dat dt_X0_run 68 rfl) bp_m3 ?_
    cases hrun
    exact g_iret C K (dat dt_X0_run 69 rfl)
