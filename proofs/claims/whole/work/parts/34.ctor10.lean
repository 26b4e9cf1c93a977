set_option maxRecDepth 20000 in
def dl_X10_init : List (Nat × Instr × Nat) := [(0, .aload_n 0, 1), (1, .invokespecial 1, 3), (4, .aload_n 0, 1), (5, .iconst 2, 1), (6, .anewarray 9, 3), (9, .putfield 11, 3), (12, .aload_n 0, 1), (13, .iconst 2, 1), (14, .newarray .boolean, 2), (16, .putfield 15, 3), (19, .aload_n 0, 1), (20, .sipush 400, 3), (23, .newarray .int, 2), (25, .putfield 19, 3), (28, .aload_n 0, 1), (29, .new 23, 3), (32, .dup, 1), (33, .invokespecial 25, 3), (36, .putfield 26, 3), (39, .aload_n 0, 1), (40, .new 30, 3), (43, .dup, 1), (44, .invokespecial 32, 3), (47, .putfield 33, 3), (50, .aload_n 0, 1), (51, .new 37, 3), (54, .dup, 1), (55, .invokespecial 39, 3), (58, .putfield 40, 3), (61, .aload_n 0, 1), (62, .new 37, 3), (65, .dup, 1), (66, .invokespecial 39, 3), (69, .putfield 44, 3), (72, .aload_n 0, 1), (73, .bipush 9, 2), (75, .newarray .int, 2), (77, .putfield 47, 3), (80, .aload_n 0, 1), (81, .bipush 9, 2), (83, .newarray .int, 2), (85, .putfield 50, 3), (88, .aload_n 0, 1), (89, .bipush 20, 2), (91, .newarray .long, 2), (93, .putfield 53, 3), (96, .aload_n 0, 1), (97, .bipush 7, 2), (99, .newarray .int, 2), (101, .putfield 57, 3), (104, .aload_n 0, 1), (105, .iconst (-1), 1), (106, .putfield 60, 3), (109, .new 64, 3), (112, .dup, 1), (113, .iconst 0, 1), (114, .newarray .int, 2), (116, .iconst 0, 1), (117, .newarray .int, 2), (119, .iconst 0, 1), (120, .invokespecial 66, 3), (123, .astore_n 1, 1), (124, .new 69, 3), (127, .dup, 1), (128, .invokespecial 71, 3), (131, .astore_n 2, 1), (132, .aload_n 0, 1), (133, .new 9, 3), (136, .dup, 1), (137, .aload_n 1, 1), (138, .invokespecial 72, 3), (141, .putfield 75, 3), (144, .iconst 0, 1), (145, .istore_n 3, 1), (146, .iload_n 3, 1), (147, .iconst 2, 1), (148, .if_icmp .ge 23, 3), (151, .aload_n 0, 1), (152, .getfield 11, 3), (155, .iload_n 3, 1), (156, .new 9, 3), (159, .dup, 1), (160, .aload_n 1, 1), (161, .invokespecial 72, 3), (164, .aastore, 1), (165, .iinc 3 1, 3), (168, .goto (-22), 3), (171, .aload_n 0, 1), (172, .new 79, 3), (175, .dup, 1), (176, .aload_n 2, 1), (177, .invokespecial 81, 3), (180, .putfield 84, 3), (183, .aload_n 0, 1), (184, .new 88, 3), (187, .dup, 1), (188, .aload_n 0, 1), (189, .getfield 75, 3), (192, .aload_n 0, 1), (193, .getfield 33, 3), (196, .aload_n 0, 1), (197, .getfield 84, 3), (200, .invokespecial 90, 3), (203, .putfield 93, 3), (206, .aload_n 0, 1), (207, .new 97, 3), (210, .dup, 1), (211, .aload_n 0, 1), (212, .getfield 93, 3), (215, .aload_n 2, 1), (216, .invokespecial 99, 3), (219, .putfield 102, 3), (222, .aload_n 0, 1), (223, .new 106, 3), (226, .dup, 1), (227, .aload_n 0, 1), (228, .getfield 84, 3), (231, .invokespecial 108, 3), (234, .putfield 111, 3), (237, .return_, 1)]
set_option maxRecDepth 20000 in
theorem dt_X10_init : ∀ q ∈ dl_X10_init, decode prog_1_method_1_code q.1 = .ok q.2 := by decide +kernel
set_option maxRecDepth 20000 in
def i_X10 (a0 : Nat) (cs : List CC) : Option (List CC) :=
  (nwA 5 2 cs).bind fun c1 =>
  (pF 10 1 (.ref (cs.length)) a0 c1).bind fun c3 =>
  (nwA 2 2 c3).bind fun c5 =>
  (pF 10 2 (.ref (c3.length)) a0 c5).bind fun c7 =>
  (nwA 0 400 c7).bind fun c9 =>
  (pF 10 3 (.ref (c7.length)) a0 c9).bind fun c11 =>
  (nwO 5 c11).bind fun c13 =>
  (c13[(c11.length)]?).bind fun g17 =>
  (i_X5 (c11.length) c13).bind fun c15 =>
  (pF 10 4 (.ref (c11.length)) a0 c15).bind fun c19 =>
  (nwO 4 c19).bind fun c21 =>
  (c21[(c19.length)]?).bind fun g25 =>
  (i_X4 (c19.length) c21).bind fun c23 =>
  (pF 10 6 (.ref (c19.length)) a0 c23).bind fun c27 =>
  (nwO 6 c27).bind fun c29 =>
  (c29[(c27.length)]?).bind fun g33 =>
  (i_X6 (c27.length) c29).bind fun c31 =>
  (pF 10 10 (.ref (c27.length)) a0 c31).bind fun c35 =>
  (nwO 6 c35).bind fun c37 =>
  (c37[(c35.length)]?).bind fun g41 =>
  (i_X6 (c35.length) c37).bind fun c39 =>
  (pF 10 11 (.ref (c35.length)) a0 c39).bind fun c43 =>
  (nwA 0 9 c43).bind fun c45 =>
  (pF 10 12 (.ref (c43.length)) a0 c45).bind fun c47 =>
  (nwA 0 9 c47).bind fun c49 =>
  (pF 10 13 (.ref (c47.length)) a0 c49).bind fun c51 =>
  (nwA 3 20 c51).bind fun c53 =>
  (pF 10 14 (.ref (c51.length)) a0 c53).bind fun c55 =>
  (nwA 0 7 c55).bind fun c57 =>
  (pF 10 15 (.ref (c55.length)) a0 c57).bind fun c59 =>
  (pF 10 17 (.int (-1 : Int32)) a0 c59).bind fun c61 =>
  (nwO 9 c61).bind fun c63 =>
  (nwA 0 0 c63).bind fun c65 =>
  (nwA 0 0 c65).bind fun c67 =>
  (c67[(c61.length)]?).bind fun g71 =>
  (i_X9 (c61.length) (c63.length) (c65.length) (0 : Int32) c67).bind fun c69 =>
  (nwO 2 c69).bind fun c73 =>
  (c73[(c69.length)]?).bind fun g77 =>
  (i_X2 (c69.length) c73).bind fun c75 =>
  (nwO 1 c75).bind fun c79 =>
  (c79[(c75.length)]?).bind fun g83 =>
  (i_X1 (c75.length) (c61.length) c79).bind fun c81 =>
  (pF 10 0 (.ref (c75.length)) a0 c81).bind fun c85 =>
  (gR 10 1 a0 c85).bind fun b87 =>
  (nwO 1 c85).bind fun c89 =>
  (c89[(c85.length)]?).bind fun g93 =>
  (i_X1 (c85.length) (c61.length) c89).bind fun c91 =>
  (sAR b87 0 (c85.length) c91).bind fun c95 =>
  (gR 10 1 a0 c95).bind fun b97 =>
  (nwO 1 c95).bind fun c99 =>
  (c99[(c95.length)]?).bind fun g103 =>
  (i_X1 (c95.length) (c61.length) c99).bind fun c101 =>
  (sAR b97 1 (c95.length) c101).bind fun c105 =>
  (nwO 8 c105).bind fun c107 =>
  (c107[(c105.length)]?).bind fun g111 =>
  (i_X8 (c105.length) (c69.length) c107).bind fun c109 =>
  (pF 10 5 (.ref (c105.length)) a0 c109).bind fun c113 =>
  (nwO 3 c113).bind fun c115 =>
  (gR 10 0 a0 c115).bind fun b117 =>
  (gR 10 6 a0 c115).bind fun b119 =>
  (gR 10 5 a0 c115).bind fun b121 =>
  (c115[(c113.length)]?).bind fun g125 =>
  (i_X3 (c113.length) b117 b119 b121 c115).bind fun c123 =>
  (pF 10 7 (.ref (c113.length)) a0 c123).bind fun c127 =>
  (nwO 0 c127).bind fun c129 =>
  (gR 10 7 a0 c129).bind fun b131 =>
  (c129[(c127.length)]?).bind fun g135 =>
  (i_X0 (c127.length) b131 (c69.length) c129).bind fun c133 =>
  (pF 10 8 (.ref (c127.length)) a0 c133).bind fun c137 =>
  (nwO 7 c137).bind fun c139 =>
  (gR 10 5 a0 c139).bind fun b141 =>
  (c139[(c137.length)]?).bind fun g145 =>
  (i_X7 (c137.length) b141 c139).bind fun c143 =>
  (pF 10 9 (.ref (c137.length)) a0 c143).bind fun c147 =>
  some c147
set_option maxRecDepth 20000 in
set_option maxHeartbeats 4000000 in
theorem wi_X10 (a0 : Nat) (cs q : List CC) (hrun : i_X10 a0 cs = some q) : MetC ⟨"SteamNations", "<init>", "()V"⟩ prog_1_method_1_code 4 none 3 80 13253 [.ref a0] cs none q := by
  refine metC_of (by decide +kernel) (Nat.le_of_ble_eq_true rfl) (fun X C Hi K => ?_)
  have C : Cx X cn_10 prog_1_method_1_code 4 none 3 80 13253 := C
  have Hi := Hi rfl
  show Gc X cs 0 0 0 [(0, .ref a0)] []
  unfold i_X10 at hrun
  refine gc_aload_n C (dat dt_X10_init 0 rfl) 0 rfl ?_
  refine gc_objInit C (dat dt_X10_init 1 rfl) ol_10 oi_1 oi_2 (by decide) ?_
  refine gc_aload_n C (dat dt_X10_init 2 rfl) 0 rfl ?_
  refine gc_iconst C (dat dt_X10_init 3 rfl) ic_2 ?_
  obtain ⟨c1, e2, hrun⟩ := bd hrun
  refine gc_anewa (t := 5) (N := 2) C (dat dt_X10_init 4 rfl) (Or.inr ⟨rfl, rfl⟩) cl_10_9 (by decide) (by decide) (by decide) e2 ⟨by decide, by decide⟩ ?_
  obtain ⟨c3, e4, hrun⟩ := bd hrun
  refine gc_putF C Hi (dat dt_X10_init 5 rfl) ff_10_11 (fun E => ⟨rfl, rfl⟩) e4 ?_
  refine gc_aload_n C (dat dt_X10_init 6 rfl) 0 rfl ?_
  refine gc_iconst C (dat dt_X10_init 7 rfl) ic_2 ?_
  obtain ⟨c5, e6, hrun⟩ := bd hrun
  refine gc_newa (t := 2) (N := 2) C (dat dt_X10_init 8 rfl) rfl rfl ac_boolean (by decide) (by decide) (by decide) e6 ⟨by decide, by decide⟩ ?_
  obtain ⟨c7, e8, hrun⟩ := bd hrun
  refine gc_putF C Hi (dat dt_X10_init 9 rfl) ff_10_15 (fun E => ⟨rfl, rfl⟩) e8 ?_
  refine gc_aload_n C (dat dt_X10_init 10 rfl) 0 rfl ?_
  refine gc_sipush C (dat dt_X10_init 11 rfl) sp_400 ?_
  obtain ⟨c9, e10, hrun⟩ := bd hrun
  refine gc_newa (t := 0) (N := 400) C (dat dt_X10_init 12 rfl) rfl rfl ac_int (by decide) (by decide) (by decide) e10 ⟨by decide, by decide⟩ ?_
  obtain ⟨c11, e12, hrun⟩ := bd hrun
  refine gc_putF C Hi (dat dt_X10_init 13 rfl) ff_10_19 (fun E => ⟨rfl, rfl⟩) e12 ?_
  refine gc_aload_n C (dat dt_X10_init 14 rfl) 0 rfl ?_
  obtain ⟨c13, e14, hrun⟩ := bd hrun
  refine gc_new C (dat dt_X10_init 15 rfl) no_10_23 e14 ⟨by decide, by decide⟩ ?_
  refine gc_dup C (dat dt_X10_init 16 rfl) rfl ?_
  obtain ⟨g17, e18, hrun⟩ := bd hrun
  obtain ⟨c15, e16, hrun⟩ := bd hrun
  refine gc_callI (As := []) (rest := [.ref (c11.length), .ref a0]) C (dat dt_X10_init 17 rfl) il_10_25 (wi_X5 (c11.length) c13 c15 e16) e18 rfl rfl (Nat.le_of_ble_eq_true rfl) (by decide) ⟨by decide, by decide⟩ ?_
  obtain ⟨c19, e20, hrun⟩ := bd hrun
  refine gc_putF C Hi (dat dt_X10_init 18 rfl) ff_10_26 (fun E => ⟨rfl, rfl⟩) e20 ?_
  refine gc_aload_n C (dat dt_X10_init 19 rfl) 0 rfl ?_
  obtain ⟨c21, e22, hrun⟩ := bd hrun
  refine gc_new C (dat dt_X10_init 20 rfl) no_10_30 e22 ⟨by decide, by decide⟩ ?_
  refine gc_dup C (dat dt_X10_init 21 rfl) rfl ?_
  obtain ⟨g25, e26, hrun⟩ := bd hrun
  obtain ⟨c23, e24, hrun⟩ := bd hrun
  refine gc_callI (As := []) (rest := [.ref (c19.length), .ref a0]) C (dat dt_X10_init 22 rfl) il_10_32 (wi_X4 (c19.length) c21 c23 e24) e26 rfl rfl (Nat.le_of_ble_eq_true rfl) (by decide) ⟨by decide, by decide⟩ ?_
  obtain ⟨c27, e28, hrun⟩ := bd hrun
  refine gc_putF C Hi (dat dt_X10_init 23 rfl) ff_10_33 (fun E => ⟨rfl, rfl⟩) e28 ?_
  refine gc_aload_n C (dat dt_X10_init 24 rfl) 0 rfl ?_
  obtain ⟨c29, e30, hrun⟩ := bd hrun
  refine gc_new C (dat dt_X10_init 25 rfl) no_10_37 e30 ⟨by decide, by decide⟩ ?_
  refine gc_dup C (dat dt_X10_init 26 rfl) rfl ?_
  obtain ⟨g33, e34, hrun⟩ := bd hrun
  obtain ⟨c31, e32, hrun⟩ := bd hrun
  refine gc_callI (As := []) (rest := [.ref (c27.length), .ref a0]) C (dat dt_X10_init 27 rfl) il_10_39 (wi_X6 (c27.length) c29 c31 e32) e34 rfl rfl (Nat.le_of_ble_eq_true rfl) (by decide) ⟨by decide, by decide⟩ ?_
  obtain ⟨c35, e36, hrun⟩ := bd hrun
  refine gc_putF C Hi (dat dt_X10_init 28 rfl) ff_10_40 (fun E => ⟨rfl, rfl⟩) e36 ?_
  refine gc_aload_n C (dat dt_X10_init 29 rfl) 0 rfl ?_
  obtain ⟨c37, e38, hrun⟩ := bd hrun
  refine gc_new C (dat dt_X10_init 30 rfl) no_10_37 e38 ⟨by decide, by decide⟩ ?_
  refine gc_dup C (dat dt_X10_init 31 rfl) rfl ?_
  obtain ⟨g41, e42, hrun⟩ := bd hrun
  obtain ⟨c39, e40, hrun⟩ := bd hrun
  refine gc_callI (As := []) (rest := [.ref (c35.length), .ref a0]) C (dat dt_X10_init 32 rfl) il_10_39 (wi_X6 (c35.length) c37 c39 e40) e42 rfl rfl (Nat.le_of_ble_eq_true rfl) (by decide) ⟨by decide, by decide⟩ ?_
  obtain ⟨c43, e44, hrun⟩ := bd hrun
  refine gc_putF C Hi (dat dt_X10_init 33 rfl) ff_10_44 (fun E => ⟨rfl, rfl⟩) e44 ?_
  refine gc_aload_n C (dat dt_X10_init 34 rfl) 0 rfl ?_
  refine gc_bipush C (dat dt_X10_init 35 rfl) bp_9 ?_
  obtain ⟨c45, e46, hrun⟩ := bd hrun
  refine gc_newa (t := 0) (N := 9) C (dat dt_X10_init 36 rfl) rfl rfl ac_int (by decide) (by decide) (by decide) e46 ⟨by decide, by decide⟩ ?_
  obtain ⟨c47, e48, hrun⟩ := bd hrun
  refine gc_putF C Hi (dat dt_X10_init 37 rfl) ff_10_47 (fun E => ⟨rfl, rfl⟩) e48 ?_
  refine gc_aload_n C (dat dt_X10_init 38 rfl) 0 rfl ?_
  refine gc_bipush C (dat dt_X10_init 39 rfl) bp_9 ?_
  obtain ⟨c49, e50, hrun⟩ := bd hrun
  refine gc_newa (t := 0) (N := 9) C (dat dt_X10_init 40 rfl) rfl rfl ac_int (by decide) (by decide) (by decide) e50 ⟨by decide, by decide⟩ ?_
  obtain ⟨c51, e52, hrun⟩ := bd hrun
  refine gc_putF C Hi (dat dt_X10_init 41 rfl) ff_10_50 (fun E => ⟨rfl, rfl⟩) e52 ?_
  refine gc_aload_n C (dat dt_X10_init 42 rfl) 0 rfl ?_
  refine gc_bipush C (dat dt_X10_init 43 rfl) bp_20 ?_
  obtain ⟨c53, e54, hrun⟩ := bd hrun
  refine gc_newa (t := 3) (N := 20) C (dat dt_X10_init 44 rfl) rfl rfl ac_long (by decide) (by decide) (by decide) e54 ⟨by decide, by decide⟩ ?_
  obtain ⟨c55, e56, hrun⟩ := bd hrun
  refine gc_putF C Hi (dat dt_X10_init 45 rfl) ff_10_53 (fun E => ⟨rfl, rfl⟩) e56 ?_
  refine gc_aload_n C (dat dt_X10_init 46 rfl) 0 rfl ?_
  refine gc_bipush C (dat dt_X10_init 47 rfl) bp_7 ?_
  obtain ⟨c57, e58, hrun⟩ := bd hrun
  refine gc_newa (t := 0) (N := 7) C (dat dt_X10_init 48 rfl) rfl rfl ac_int (by decide) (by decide) (by decide) e58 ⟨by decide, by decide⟩ ?_
  obtain ⟨c59, e60, hrun⟩ := bd hrun
  refine gc_putF C Hi (dat dt_X10_init 49 rfl) ff_10_57 (fun E => ⟨rfl, rfl⟩) e60 ?_
  refine gc_aload_n C (dat dt_X10_init 50 rfl) 0 rfl ?_
  refine gc_iconst C (dat dt_X10_init 51 rfl) ic_m1 ?_
  obtain ⟨c61, e62, hrun⟩ := bd hrun
  refine gc_putI C (dat dt_X10_init 52 rfl) fl_10_60 (fun E => ⟨rfl, rfl⟩) e62 ?_
  obtain ⟨c63, e64, hrun⟩ := bd hrun
  refine gc_new C (dat dt_X10_init 53 rfl) no_10_64 e64 ⟨by decide, by decide⟩ ?_
  refine gc_dup C (dat dt_X10_init 54 rfl) rfl ?_
  refine gc_iconst C (dat dt_X10_init 55 rfl) ic_0 ?_
  obtain ⟨c65, e66, hrun⟩ := bd hrun
  refine gc_newa (t := 0) (N := 0) C (dat dt_X10_init 56 rfl) rfl rfl ac_int (by decide) (by decide) (by decide) e66 ⟨by decide, by decide⟩ ?_
  refine gc_iconst C (dat dt_X10_init 57 rfl) ic_0 ?_
  obtain ⟨c67, e68, hrun⟩ := bd hrun
  refine gc_newa (t := 0) (N := 0) C (dat dt_X10_init 58 rfl) rfl rfl ac_int (by decide) (by decide) (by decide) e68 ⟨by decide, by decide⟩ ?_
  refine gc_iconst C (dat dt_X10_init 59 rfl) ic_0 ?_
  obtain ⟨g71, e72, hrun⟩ := bd hrun
  obtain ⟨c69, e70, hrun⟩ := bd hrun
  refine gc_callI (As := [.ref (c63.length), .ref (c65.length), .int (0 : Int32)]) (rest := [.ref (c61.length)]) C (dat dt_X10_init 60 rfl) il_10_66 (wi_X9 (c61.length) (c63.length) (c65.length) (0 : Int32) c67 c69 e70) e72 rfl rfl (Nat.le_of_ble_eq_true rfl) (by decide) ⟨by decide, by decide⟩ ?_
  refine gc_astore_n (lv' := [(0, .ref a0), (1, .ref (c61.length))]) C (dat dt_X10_init 61 rfl) (by decide) rfl ?_
  obtain ⟨c73, e74, hrun⟩ := bd hrun
  refine gc_new C (dat dt_X10_init 62 rfl) no_10_69 e74 ⟨by decide, by decide⟩ ?_
  refine gc_dup C (dat dt_X10_init 63 rfl) rfl ?_
  obtain ⟨g77, e78, hrun⟩ := bd hrun
  obtain ⟨c75, e76, hrun⟩ := bd hrun
  refine gc_callI (As := []) (rest := [.ref (c69.length)]) C (dat dt_X10_init 64 rfl) il_10_71 (wi_X2 (c69.length) c73 c75 e76) e78 rfl rfl (Nat.le_of_ble_eq_true rfl) (by decide) ⟨by decide, by decide⟩ ?_
  refine gc_astore_n (lv' := [(0, .ref a0), (1, .ref (c61.length)), (2, .ref (c69.length))]) C (dat dt_X10_init 65 rfl) (by decide) rfl ?_
  refine gc_aload_n C (dat dt_X10_init 66 rfl) 0 rfl ?_
  obtain ⟨c79, e80, hrun⟩ := bd hrun
  refine gc_new C (dat dt_X10_init 67 rfl) no_10_9 e80 ⟨by decide, by decide⟩ ?_
  refine gc_dup C (dat dt_X10_init 68 rfl) rfl ?_
  refine gc_aload_n C (dat dt_X10_init 69 rfl) 1 rfl ?_
  obtain ⟨g83, e84, hrun⟩ := bd hrun
  obtain ⟨c81, e82, hrun⟩ := bd hrun
  refine gc_callI (As := [.ref (c61.length)]) (rest := [.ref (c75.length), .ref a0]) C (dat dt_X10_init 70 rfl) il_10_72 (wi_X1 (c75.length) (c61.length) c79 c81 e82) e84 rfl rfl (Nat.le_of_ble_eq_true rfl) (by decide) ⟨by decide, by decide⟩ ?_
  obtain ⟨c85, e86, hrun⟩ := bd hrun
  refine gc_putF C Hi (dat dt_X10_init 71 rfl) ff_10_75 (fun E => ⟨rfl, rfl⟩) e86 ?_
  refine gc_iconst C (dat dt_X10_init 72 rfl) ic_0 ?_
  refine gc_istore_n (lv' := [(0, .ref a0), (1, .ref (c61.length)), (2, .ref (c69.length)), (3, .int (0 : Int32))]) C (dat dt_X10_init 73 rfl) (by decide) rfl ?_
  refine gc_iload_n C (dat dt_X10_init 74 rfl) 3 rfl ?_
  refine gc_iconst C (dat dt_X10_init 75 rfl) ic_2 ?_
  refine gc_ic_ge 171 C (dat dt_X10_init 76 rfl) (by decide) (fun c => absurd c (by decide)) (fun _ => ?_)
  refine gc_aload_n C (dat dt_X10_init 77 rfl) 0 rfl ?_
  obtain ⟨b87, e88, hrun⟩ := bd hrun
  refine gc_getR C (dat dt_X10_init 78 rfl) fl_10_11 e88 ?_
  refine gc_iload_n C (dat dt_X10_init 79 rfl) 3 rfl ?_
  obtain ⟨c89, e90, hrun⟩ := bd hrun
  refine gc_new C (dat dt_X10_init 80 rfl) no_10_9 e90 ⟨by decide, by decide⟩ ?_
  refine gc_dup C (dat dt_X10_init 81 rfl) rfl ?_
  refine gc_aload_n C (dat dt_X10_init 82 rfl) 1 rfl ?_
  obtain ⟨g93, e94, hrun⟩ := bd hrun
  obtain ⟨c91, e92, hrun⟩ := bd hrun
  refine gc_callI (As := [.ref (c61.length)]) (rest := [.ref (c85.length), .int (0 : Int32), .ref b87]) C (dat dt_X10_init 83 rfl) il_10_72 (wi_X1 (c85.length) (c61.length) c89 c91 e92) e94 rfl rfl (Nat.le_of_ble_eq_true rfl) (by decide) ⟨by decide, by decide⟩ ?_
  obtain ⟨c95, e96, hrun⟩ := bd hrun
  refine gc_aast (j := 0) C (dat dt_X10_init 84 rfl) (by decide) (by decide) e96 ?_
  refine gc_iinc (v := 1) (lv' := [(0, .ref a0), (1, .ref (c61.length)), (2, .ref (c69.length)), (3, .int (1 : Int32))]) C (dat dt_X10_init 85 rfl) 3 rfl (by decide) (by decide) rfl ?_
  refine gc_goto 146 C (dat dt_X10_init 86 rfl) (by decide) ?_
  refine gc_iload_n C (dat dt_X10_init 74 rfl) 3 rfl ?_
  refine gc_iconst C (dat dt_X10_init 75 rfl) ic_2 ?_
  refine gc_ic_ge 171 C (dat dt_X10_init 76 rfl) (by decide) (fun c => absurd c (by decide)) (fun _ => ?_)
  refine gc_aload_n C (dat dt_X10_init 77 rfl) 0 rfl ?_
  obtain ⟨b97, e98, hrun⟩ := bd hrun
  refine gc_getR C (dat dt_X10_init 78 rfl) fl_10_11 e98 ?_
  refine gc_iload_n C (dat dt_X10_init 79 rfl) 3 rfl ?_
  obtain ⟨c99, e100, hrun⟩ := bd hrun
  refine gc_new C (dat dt_X10_init 80 rfl) no_10_9 e100 ⟨by decide, by decide⟩ ?_
  refine gc_dup C (dat dt_X10_init 81 rfl) rfl ?_
  refine gc_aload_n C (dat dt_X10_init 82 rfl) 1 rfl ?_
  obtain ⟨g103, e104, hrun⟩ := bd hrun
  obtain ⟨c101, e102, hrun⟩ := bd hrun
  refine gc_callI (As := [.ref (c61.length)]) (rest := [.ref (c95.length), .int (1 : Int32), .ref b97]) C (dat dt_X10_init 83 rfl) il_10_72 (wi_X1 (c95.length) (c61.length) c99 c101 e102) e104 rfl rfl (Nat.le_of_ble_eq_true rfl) (by decide) ⟨by decide, by decide⟩ ?_
  obtain ⟨c105, e106, hrun⟩ := bd hrun
  refine gc_aast (j := 1) C (dat dt_X10_init 84 rfl) (by decide) (by decide) e106 ?_
  refine gc_iinc (v := 2) (lv' := [(0, .ref a0), (1, .ref (c61.length)), (2, .ref (c69.length)), (3, .int (2 : Int32))]) C (dat dt_X10_init 85 rfl) 3 rfl (by decide) (by decide) rfl ?_
  refine gc_goto 146 C (dat dt_X10_init 86 rfl) (by decide) ?_
  refine gc_iload_n C (dat dt_X10_init 74 rfl) 3 rfl ?_
  refine gc_iconst C (dat dt_X10_init 75 rfl) ic_2 ?_
  refine gc_ic_ge 171 C (dat dt_X10_init 76 rfl) (by decide) (fun _ => ?_) (fun c => absurd (by decide) c)
  refine gc_aload_n C (dat dt_X10_init 87 rfl) 0 rfl ?_
  obtain ⟨c107, e108, hrun⟩ := bd hrun
  refine gc_new C (dat dt_X10_init 88 rfl) no_10_79 e108 ⟨by decide, by decide⟩ ?_
  refine gc_dup C (dat dt_X10_init 89 rfl) rfl ?_
  refine gc_aload_n C (dat dt_X10_init 90 rfl) 2 rfl ?_
  obtain ⟨g111, e112, hrun⟩ := bd hrun
  obtain ⟨c109, e110, hrun⟩ := bd hrun
  refine gc_callI (As := [.ref (c69.length)]) (rest := [.ref (c105.length), .ref a0]) C (dat dt_X10_init 91 rfl) il_10_81 (wi_X8 (c105.length) (c69.length) c107 c109 e110) e112 rfl rfl (Nat.le_of_ble_eq_true rfl) (by decide) ⟨by decide, by decide⟩ ?_
  obtain ⟨c113, e114, hrun⟩ := bd hrun
  refine gc_putF C Hi (dat dt_X10_init 92 rfl) ff_10_84 (fun E => ⟨rfl, rfl⟩) e114 ?_
  refine gc_aload_n C (dat dt_X10_init 93 rfl) 0 rfl ?_
  obtain ⟨c115, e116, hrun⟩ := bd hrun
  refine gc_new C (dat dt_X10_init 94 rfl) no_10_88 e116 ⟨by decide, by decide⟩ ?_
  refine gc_dup C (dat dt_X10_init 95 rfl) rfl ?_
  refine gc_aload_n C (dat dt_X10_init 96 rfl) 0 rfl ?_
  obtain ⟨b117, e118, hrun⟩ := bd hrun
  refine gc_getR C (dat dt_X10_init 97 rfl) fl_10_75 e118 ?_
  refine gc_aload_n C (dat dt_X10_init 98 rfl) 0 rfl ?_
  obtain ⟨b119, e120, hrun⟩ := bd hrun
  refine gc_getR C (dat dt_X10_init 99 rfl) fl_10_33 e120 ?_
  refine gc_aload_n C (dat dt_X10_init 100 rfl) 0 rfl ?_
  obtain ⟨b121, e122, hrun⟩ := bd hrun
  refine gc_getR C (dat dt_X10_init 101 rfl) fl_10_84 e122 ?_
  obtain ⟨g125, e126, hrun⟩ := bd hrun
  obtain ⟨c123, e124, hrun⟩ := bd hrun
  refine gc_callI (As := [.ref b117, .ref b119, .ref b121]) (rest := [.ref (c113.length), .ref a0]) C (dat dt_X10_init 102 rfl) il_10_90 (wi_X3 (c113.length) b117 b119 b121 c115 c123 e124) e126 rfl rfl (Nat.le_of_ble_eq_true rfl) (by decide) ⟨by decide, by decide⟩ ?_
  obtain ⟨c127, e128, hrun⟩ := bd hrun
  refine gc_putF C Hi (dat dt_X10_init 103 rfl) ff_10_93 (fun E => ⟨rfl, rfl⟩) e128 ?_
  refine gc_aload_n C (dat dt_X10_init 104 rfl) 0 rfl ?_
  obtain ⟨c129, e130, hrun⟩ := bd hrun
  refine gc_new C (dat dt_X10_init 105 rfl) no_10_97 e130 ⟨by decide, by decide⟩ ?_
  refine gc_dup C (dat dt_X10_init 106 rfl) rfl ?_
  refine gc_aload_n C (dat dt_X10_init 107 rfl) 0 rfl ?_
  obtain ⟨b131, e132, hrun⟩ := bd hrun
  refine gc_getR C (dat dt_X10_init 108 rfl) fl_10_93 e132 ?_
  refine gc_aload_n C (dat dt_X10_init 109 rfl) 2 rfl ?_
  obtain ⟨g135, e136, hrun⟩ := bd hrun
  obtain ⟨c133, e134, hrun⟩ := bd hrun
  refine gc_callI (As := [.ref b131, .ref (c69.length)]) (rest := [.ref (c127.length), .ref a0]) C (dat dt_X10_init 110 rfl) il_10_99 (wi_X0 (c127.length) b131 (c69.length) c129 c133 e134) e136 rfl rfl (Nat.le_of_ble_eq_true rfl) (by decide) ⟨by decide, by decide⟩ ?_
  obtain ⟨c137, e138, hrun⟩ := bd hrun
  refine gc_putF C Hi (dat dt_X10_init 111 rfl) ff_10_102 (fun E => ⟨rfl, rfl⟩) e138 ?_
  refine gc_aload_n C (dat dt_X10_init 112 rfl) 0 rfl ?_
  obtain ⟨c139, e140, hrun⟩ := bd hrun
  refine gc_new C (dat dt_X10_init 113 rfl) no_10_106 e140 ⟨by decide, by decide⟩ ?_
  refine gc_dup C (dat dt_X10_init 114 rfl) rfl ?_
  refine gc_aload_n C (dat dt_X10_init 115 rfl) 0 rfl ?_
  obtain ⟨b141, e142, hrun⟩ := bd hrun
  refine gc_getR C (dat dt_X10_init 116 rfl) fl_10_84 e142 ?_
  obtain ⟨g145, e146, hrun⟩ := bd hrun
  obtain ⟨c143, e144, hrun⟩ := bd hrun
  refine gc_callI (As := [.ref b141]) (rest := [.ref (c137.length), .ref a0]) C (dat dt_X10_init 117 rfl) il_10_108 (wi_X7 (c137.length) b141 c139 c143 e144) e146 rfl rfl (Nat.le_of_ble_eq_true rfl) (by decide) ⟨by decide, by decide⟩ ?_
  obtain ⟨c147, e148, hrun⟩ := bd hrun
  refine gc_putF C Hi (dat dt_X10_init 118 rfl) ff_10_111 (fun E => ⟨rfl, rfl⟩) e148 ?_
  cases hrun
  exact gc_vret C K (dat dt_X10_init 119 rfl)
