set_option maxRecDepth 20000 in
def dl_X4_init : List (Nat × Instr × Nat) := [(0, .aload_n 0, 1), (1, .invokespecial 5, 3), (4, .aload_n 0, 1), (5, .sipush 416, 3), (8, .newarray .int, 2), (10, .putfield 11, 3), (13, .return_, 1)]
set_option maxRecDepth 20000 in
theorem dt_X4_init : ∀ q ∈ dl_X4_init, decode prog_6_method_1_code q.1 = .ok q.2 := by decide +kernel
set_option maxRecDepth 20000 in
def i_X4 (a0 : Nat) (cs : List CC) : Option (List CC) :=
  (nwA 0 416 cs).bind fun c1 =>
  (pF 4 0 (.ref (cs.length)) a0 c1).bind fun c3 =>
  some c3
set_option maxRecDepth 20000 in
set_option maxHeartbeats 4000000 in
theorem wi_X4 (a0 : Nat) (cs q : List CC) (hrun : i_X4 a0 cs = some q) : MetC ⟨"SteamNations$Past", "<init>", "()V"⟩ prog_6_method_1_code 1 none 1 1 416 [.ref a0] cs none q := by
  refine metC_of (by decide +kernel) (Nat.le_of_ble_eq_true rfl) (fun X C Hi K => ?_)
  have C : Cx X cn_4 prog_6_method_1_code 1 none 1 1 416 := C
  have Hi := Hi rfl
  show Gc X cs 0 0 0 [(0, .ref a0)] []
  unfold i_X4 at hrun
  refine gc_aload_n C (dat dt_X4_init 0 rfl) 0 rfl ?_
  refine gc_objInit C (dat dt_X4_init 1 rfl) ol_4 oi_1 oi_2 (by decide) ?_
  refine gc_aload_n C (dat dt_X4_init 2 rfl) 0 rfl ?_
  refine gc_sipush C (dat dt_X4_init 3 rfl) sp_416 ?_
  obtain ⟨c1, e2, hrun⟩ := bd hrun
  refine gc_newa (t := 0) (N := 416) C (dat dt_X4_init 4 rfl) rfl rfl ac_int (by decide) (by decide) (by decide) e2 ⟨by decide, by decide⟩ ?_
  obtain ⟨c3, e4, hrun⟩ := bd hrun
  refine gc_putF C Hi (dat dt_X4_init 5 rfl) ff_4_11 (fun E => ⟨rfl, rfl⟩) e4 ?_
  cases hrun
  exact gc_vret C K (dat dt_X4_init 6 rfl)
set_option maxRecDepth 20000 in
def dl_X6_init : List (Nat × Instr × Nat) := [(0, .aload_n 0, 1), (1, .invokespecial 3, 3), (4, .aload_n 0, 1), (5, .bipush 18, 2), (7, .newarray .int, 2), (9, .putfield 9, 3), (12, .aload_n 0, 1), (13, .bipush 6, 2), (15, .newarray .int, 2), (17, .putfield 15, 3), (20, .aload_n 0, 1), (21, .bipush 6, 2), (23, .newarray .int, 2), (25, .putfield 18, 3), (28, .aload_n 0, 1), (29, .getstatic 21, 3), (32, .arraylength, 1), (33, .newarray .int, 2), (35, .putfield 24, 3), (38, .getstatic 21, 3), (41, .iconst 0, 1), (42, .aload_n 0, 1), (43, .getfield 24, 3), (46, .iconst 0, 1), (47, .aload_n 0, 1), (48, .getfield 24, 3), (51, .arraylength, 1), (52, .invokestatic 27, 3), (55, .return_, 1)]
set_option maxRecDepth 20000 in
theorem dt_X6_init : ∀ q ∈ dl_X6_init, decode prog_8_method_1_code q.1 = .ok q.2 := by decide +kernel
set_option maxRecDepth 20000 in
def i_X6 (a0 : Nat) (cs : List CC) : Option (List CC) :=
  (nwA 0 18 cs).bind fun c1 =>
  (pF 6 1 (.ref (cs.length)) a0 c1).bind fun c3 =>
  (nwA 0 6 c3).bind fun c5 =>
  (pF 6 2 (.ref (c3.length)) a0 c5).bind fun c7 =>
  (nwA 0 6 c7).bind fun c9 =>
  (pF 6 3 (.ref (c7.length)) a0 c9).bind fun c11 =>
  (nwA 0 3 c11).bind fun c13 =>
  (pF 6 4 (.ref (c11.length)) a0 c13).bind fun c15 =>
  (gR 6 4 a0 c15).bind fun b17 =>
  (gR 6 4 a0 c15).bind fun b19 =>
  (arI 0 b19 c15).bind fun q21 => if q21.1 = 3 then
  (cpF b17 c15).bind fun c24 =>
  some c24
  else none
set_option maxRecDepth 20000 in
set_option maxHeartbeats 4000000 in
theorem wi_X6 (a0 : Nat) (cs q : List CC) (hrun : i_X6 a0 cs = some q) : MetC ⟨"SteamNations$Room", "<init>", "()V"⟩ prog_8_method_1_code 1 none 1 4 33 [.ref a0] cs none q := by
  refine metC_of (by decide +kernel) (Nat.le_of_ble_eq_true rfl) (fun X C Hi K => ?_)
  have C : Cx X cn_6 prog_8_method_1_code 1 none 1 4 33 := C
  have Hi := Hi rfl
  show Gc X cs 0 0 0 [(0, .ref a0)] []
  unfold i_X6 at hrun
  refine gc_aload_n C (dat dt_X6_init 0 rfl) 0 rfl ?_
  refine gc_objInit C (dat dt_X6_init 1 rfl) ol_6 oi_1 oi_2 (by decide) ?_
  refine gc_aload_n C (dat dt_X6_init 2 rfl) 0 rfl ?_
  refine gc_bipush C (dat dt_X6_init 3 rfl) bp_18 ?_
  obtain ⟨c1, e2, hrun⟩ := bd hrun
  refine gc_newa (t := 0) (N := 18) C (dat dt_X6_init 4 rfl) rfl rfl ac_int (by decide) (by decide) (by decide) e2 ⟨by decide, by decide⟩ ?_
  obtain ⟨c3, e4, hrun⟩ := bd hrun
  refine gc_putF C Hi (dat dt_X6_init 5 rfl) ff_6_9 (fun E => ⟨rfl, rfl⟩) e4 ?_
  refine gc_aload_n C (dat dt_X6_init 6 rfl) 0 rfl ?_
  refine gc_bipush C (dat dt_X6_init 7 rfl) bp_6 ?_
  obtain ⟨c5, e6, hrun⟩ := bd hrun
  refine gc_newa (t := 0) (N := 6) C (dat dt_X6_init 8 rfl) rfl rfl ac_int (by decide) (by decide) (by decide) e6 ⟨by decide, by decide⟩ ?_
  obtain ⟨c7, e8, hrun⟩ := bd hrun
  refine gc_putF C Hi (dat dt_X6_init 9 rfl) ff_6_15 (fun E => ⟨rfl, rfl⟩) e8 ?_
  refine gc_aload_n C (dat dt_X6_init 10 rfl) 0 rfl ?_
  refine gc_bipush C (dat dt_X6_init 11 rfl) bp_6 ?_
  obtain ⟨c9, e10, hrun⟩ := bd hrun
  refine gc_newa (t := 0) (N := 6) C (dat dt_X6_init 12 rfl) rfl rfl ac_int (by decide) (by decide) (by decide) e10 ⟨by decide, by decide⟩ ?_
  obtain ⟨c11, e12, hrun⟩ := bd hrun
  refine gc_putF C Hi (dat dt_X6_init 13 rfl) ff_6_18 (fun E => ⟨rfl, rfl⟩) e12 ?_
  refine gc_aload_n C (dat dt_X6_init 14 rfl) 0 rfl ?_
  refine gc_gsF C (dat dt_X6_init 15 rfl) ?_
  refine gc_tlenF C (dat dt_X6_init 16 rfl) ?_
  obtain ⟨c13, e14, hrun⟩ := bd hrun
  refine gc_newa (t := 0) (N := 3) C (dat dt_X6_init 17 rfl) rfl rfl ac_int (by decide) (by decide) (by decide) e14 ⟨by decide, by decide⟩ ?_
  obtain ⟨c15, e16, hrun⟩ := bd hrun
  refine gc_putF C Hi (dat dt_X6_init 18 rfl) ff_6_24 (fun E => ⟨rfl, rfl⟩) e16 ?_
  refine gc_gsF C (dat dt_X6_init 19 rfl) ?_
  refine gc_iconst C (dat dt_X6_init 20 rfl) ic_0 ?_
  refine gc_aload_n C (dat dt_X6_init 21 rfl) 0 rfl ?_
  obtain ⟨b17, e18, hrun⟩ := bd hrun
  refine gc_getR C (dat dt_X6_init 22 rfl) fl_6_24 e18 ?_
  refine gc_iconst C (dat dt_X6_init 23 rfl) ic_0 ?_
  refine gc_aload_n C (dat dt_X6_init 24 rfl) 0 rfl ?_
  obtain ⟨b19, e20, hrun⟩ := bd hrun
  refine gc_getR C (dat dt_X6_init 25 rfl) fl_6_24 e20 ?_
  obtain ⟨⟨q21n, q21f⟩, e22, hrun⟩ := bd hrun
  have h23 : q21n = 3 := by
    by_cases hh : q21n = 3
    · exact hh
    · rw [if_neg hh] at hrun
      cases hrun
  rw [if_pos h23] at hrun
  subst h23
  refine gc_alen (t := 0) C (dat dt_X6_init 26 rfl) (by decide) e22 (v := 3) rfl ?_
  obtain ⟨c24, e25, hrun⟩ := bd hrun
  refine gc_acopyF C (dat dt_X6_init 27 rfl) al_6_27 e25 (by decide) ?_
  cases hrun
  exact gc_vret C K (dat dt_X6_init 28 rfl)
set_option maxRecDepth 20000 in
def dl_X5_init : List (Nat × Instr × Nat) := [(0, .aload_n 0, 1), (1, .invokespecial 5, 3), (4, .aload_n 0, 1), (5, .sipush 401, 3), (8, .newarray .int, 2), (10, .putfield 11, 3), (13, .aload_n 0, 1), (14, .sipush 401, 3), (17, .newarray .int, 2), (19, .putfield 15, 3), (22, .aload_n 0, 1), (23, .sipush 401, 3), (26, .newarray .int, 2), (28, .putfield 18, 3), (31, .aload_n 0, 1), (32, .sipush 800, 3), (35, .newarray .int, 2), (37, .putfield 23, 3), (40, .aload_n 0, 1), (41, .bipush 72, 2), (43, .newarray .int, 2), (45, .putfield 28, 3), (48, .aload_n 0, 1), (49, .iconst (-1), 1), (50, .putfield 31, 3), (53, .return_, 1)]
set_option maxRecDepth 20000 in
theorem dt_X5_init : ∀ q ∈ dl_X5_init, decode prog_7_method_1_code q.1 = .ok q.2 := by decide +kernel
set_option maxRecDepth 20000 in
def i_X5 (a0 : Nat) (cs : List CC) : Option (List CC) :=
  (nwA 0 401 cs).bind fun c1 =>
  (pF 5 0 (.ref (cs.length)) a0 c1).bind fun c3 =>
  (nwA 0 401 c3).bind fun c5 =>
  (pF 5 1 (.ref (c3.length)) a0 c5).bind fun c7 =>
  (nwA 0 401 c7).bind fun c9 =>
  (pF 5 2 (.ref (c7.length)) a0 c9).bind fun c11 =>
  (nwA 0 800 c11).bind fun c13 =>
  (pF 5 3 (.ref (c11.length)) a0 c13).bind fun c15 =>
  (nwA 0 72 c15).bind fun c17 =>
  (pF 5 4 (.ref (c15.length)) a0 c17).bind fun c19 =>
  (pF 5 10 (.int (-1 : Int32)) a0 c19).bind fun c21 =>
  some c21
set_option maxRecDepth 20000 in
set_option maxHeartbeats 4000000 in
theorem wi_X5 (a0 : Nat) (cs q : List CC) (hrun : i_X5 a0 cs = some q) : MetC ⟨"SteamNations$Reader", "<init>", "()V"⟩ prog_7_method_1_code 1 none 1 5 2075 [.ref a0] cs none q := by
  refine metC_of (by decide +kernel) (Nat.le_of_ble_eq_true rfl) (fun X C Hi K => ?_)
  have C : Cx X cn_5 prog_7_method_1_code 1 none 1 5 2075 := C
  have Hi := Hi rfl
  show Gc X cs 0 0 0 [(0, .ref a0)] []
  unfold i_X5 at hrun
  refine gc_aload_n C (dat dt_X5_init 0 rfl) 0 rfl ?_
  refine gc_objInit C (dat dt_X5_init 1 rfl) ol_5 oi_1 oi_2 (by decide) ?_
  refine gc_aload_n C (dat dt_X5_init 2 rfl) 0 rfl ?_
  refine gc_sipush C (dat dt_X5_init 3 rfl) sp_401 ?_
  obtain ⟨c1, e2, hrun⟩ := bd hrun
  refine gc_newa (t := 0) (N := 401) C (dat dt_X5_init 4 rfl) rfl rfl ac_int (by decide) (by decide) (by decide) e2 ⟨by decide, by decide⟩ ?_
  obtain ⟨c3, e4, hrun⟩ := bd hrun
  refine gc_putF C Hi (dat dt_X5_init 5 rfl) ff_5_11 (fun E => ⟨rfl, rfl⟩) e4 ?_
  refine gc_aload_n C (dat dt_X5_init 6 rfl) 0 rfl ?_
  refine gc_sipush C (dat dt_X5_init 7 rfl) sp_401 ?_
  obtain ⟨c5, e6, hrun⟩ := bd hrun
  refine gc_newa (t := 0) (N := 401) C (dat dt_X5_init 8 rfl) rfl rfl ac_int (by decide) (by decide) (by decide) e6 ⟨by decide, by decide⟩ ?_
  obtain ⟨c7, e8, hrun⟩ := bd hrun
  refine gc_putF C Hi (dat dt_X5_init 9 rfl) ff_5_15 (fun E => ⟨rfl, rfl⟩) e8 ?_
  refine gc_aload_n C (dat dt_X5_init 10 rfl) 0 rfl ?_
  refine gc_sipush C (dat dt_X5_init 11 rfl) sp_401 ?_
  obtain ⟨c9, e10, hrun⟩ := bd hrun
  refine gc_newa (t := 0) (N := 401) C (dat dt_X5_init 12 rfl) rfl rfl ac_int (by decide) (by decide) (by decide) e10 ⟨by decide, by decide⟩ ?_
  obtain ⟨c11, e12, hrun⟩ := bd hrun
  refine gc_putF C Hi (dat dt_X5_init 13 rfl) ff_5_18 (fun E => ⟨rfl, rfl⟩) e12 ?_
  refine gc_aload_n C (dat dt_X5_init 14 rfl) 0 rfl ?_
  refine gc_sipush C (dat dt_X5_init 15 rfl) sp_800 ?_
  obtain ⟨c13, e14, hrun⟩ := bd hrun
  refine gc_newa (t := 0) (N := 800) C (dat dt_X5_init 16 rfl) rfl rfl ac_int (by decide) (by decide) (by decide) e14 ⟨by decide, by decide⟩ ?_
  obtain ⟨c15, e16, hrun⟩ := bd hrun
  refine gc_putF C Hi (dat dt_X5_init 17 rfl) ff_5_23 (fun E => ⟨rfl, rfl⟩) e16 ?_
  refine gc_aload_n C (dat dt_X5_init 18 rfl) 0 rfl ?_
  refine gc_bipush C (dat dt_X5_init 19 rfl) bp_72 ?_
  obtain ⟨c17, e18, hrun⟩ := bd hrun
  refine gc_newa (t := 0) (N := 72) C (dat dt_X5_init 20 rfl) rfl rfl ac_int (by decide) (by decide) (by decide) e18 ⟨by decide, by decide⟩ ?_
  obtain ⟨c19, e20, hrun⟩ := bd hrun
  refine gc_putF C Hi (dat dt_X5_init 21 rfl) ff_5_28 (fun E => ⟨rfl, rfl⟩) e20 ?_
  refine gc_aload_n C (dat dt_X5_init 22 rfl) 0 rfl ?_
  refine gc_iconst C (dat dt_X5_init 23 rfl) ic_m1 ?_
  obtain ⟨c21, e22, hrun⟩ := bd hrun
  refine gc_putI C (dat dt_X5_init 24 rfl) fl_5_31 (fun E => ⟨rfl, rfl⟩) e22 ?_
  cases hrun
  exact gc_vret C K (dat dt_X5_init 25 rfl)
set_option maxRecDepth 20000 in
def dl_X2_init : List (Nat × Instr × Nat) := [(0, .aload_n 0, 1), (1, .invokespecial 5, 3), (4, .aload_n 0, 1), (5, .bipush 24, 2), (7, .newarray .int, 2), (9, .putfield 13, 3), (12, .aload_n 0, 1), (13, .bipush 64, 2), (15, .newarray .int, 2), (17, .putfield 19, 3), (20, .return_, 1)]
set_option maxRecDepth 20000 in
theorem dt_X2_init : ∀ q ∈ dl_X2_init, decode prog_4_method_1_code q.1 = .ok q.2 := by decide +kernel
set_option maxRecDepth 20000 in
def i_X2 (a0 : Nat) (cs : List CC) : Option (List CC) :=
  (nwA 0 24 cs).bind fun c1 =>
  (pF 2 0 (.ref (cs.length)) a0 c1).bind fun c3 =>
  (nwA 0 64 c3).bind fun c5 =>
  (pF 2 1 (.ref (c3.length)) a0 c5).bind fun c7 =>
  some c7
set_option maxRecDepth 20000 in
set_option maxHeartbeats 4000000 in
theorem wi_X2 (a0 : Nat) (cs q : List CC) (hrun : i_X2 a0 cs = some q) : MetC ⟨"SteamNations$Machine", "<init>", "()V"⟩ prog_4_method_1_code 1 none 1 2 88 [.ref a0] cs none q := by
  refine metC_of (by decide +kernel) (Nat.le_of_ble_eq_true rfl) (fun X C Hi K => ?_)
  have C : Cx X cn_2 prog_4_method_1_code 1 none 1 2 88 := C
  have Hi := Hi rfl
  show Gc X cs 0 0 0 [(0, .ref a0)] []
  unfold i_X2 at hrun
  refine gc_aload_n C (dat dt_X2_init 0 rfl) 0 rfl ?_
  refine gc_objInit C (dat dt_X2_init 1 rfl) ol_2 oi_1 oi_2 (by decide) ?_
  refine gc_aload_n C (dat dt_X2_init 2 rfl) 0 rfl ?_
  refine gc_bipush C (dat dt_X2_init 3 rfl) bp_24 ?_
  obtain ⟨c1, e2, hrun⟩ := bd hrun
  refine gc_newa (t := 0) (N := 24) C (dat dt_X2_init 4 rfl) rfl rfl ac_int (by decide) (by decide) (by decide) e2 ⟨by decide, by decide⟩ ?_
  obtain ⟨c3, e4, hrun⟩ := bd hrun
  refine gc_putF C Hi (dat dt_X2_init 5 rfl) ff_2_13 (fun E => ⟨rfl, rfl⟩) e4 ?_
  refine gc_aload_n C (dat dt_X2_init 6 rfl) 0 rfl ?_
  refine gc_bipush C (dat dt_X2_init 7 rfl) bp_64 ?_
  obtain ⟨c5, e6, hrun⟩ := bd hrun
  refine gc_newa (t := 0) (N := 64) C (dat dt_X2_init 8 rfl) rfl rfl ac_int (by decide) (by decide) (by decide) e6 ⟨by decide, by decide⟩ ?_
  obtain ⟨c7, e8, hrun⟩ := bd hrun
  refine gc_putF C Hi (dat dt_X2_init 9 rfl) ff_2_19 (fun E => ⟨rfl, rfl⟩) e8 ?_
  cases hrun
  exact gc_vret C K (dat dt_X2_init 10 rfl)
set_option maxRecDepth 20000 in
def dl_X1_init : List (Nat × Instr × Nat) := [(0, .aload_n 0, 1), (1, .invokespecial 3, 3), (4, .aload_n 0, 1), (5, .new 9, 3), (8, .dup, 1), (9, .invokespecial 11, 3), (12, .putfield 12, 3), (15, .aload_n 0, 1), (16, .bipush 6, 2), (18, .anewarray 18, 3), (21, .putfield 20, 3), (24, .aload_n 0, 1), (25, .iconst (-1), 1), (26, .putfield 24, 3), (29, .aload_n 0, 1), (30, .bipush 18, 2), (32, .newarray .int, 2), (34, .putfield 28, 3), (37, .aload_n 0, 1), (38, .aload_n 1, 1), (39, .putfield 32, 3), (42, .return_, 1)]
set_option maxRecDepth 20000 in
theorem dt_X1_init : ∀ q ∈ dl_X1_init, decode prog_3_method_1_code q.1 = .ok q.2 := by decide +kernel
set_option maxRecDepth 20000 in
def i_X1 (a0 : Nat) (a1 : Nat) (cs : List CC) : Option (List CC) :=
  (nwO 6 cs).bind fun c1 =>
  (c1[(cs.length)]?).bind fun g5 =>
  (i_X6 (cs.length) c1).bind fun c3 =>
  (pF 1 0 (.ref (cs.length)) a0 c3).bind fun c7 =>
  (nwA 4 6 c7).bind fun c9 =>
  (pF 1 2 (.ref (c7.length)) a0 c9).bind fun c11 =>
  (pF 1 4 (.int (-1 : Int32)) a0 c11).bind fun c13 =>
  (nwA 0 18 c13).bind fun c15 =>
  (pF 1 5 (.ref (c13.length)) a0 c15).bind fun c17 =>
  (pF 1 1 (.ref a1) a0 c17).bind fun c19 =>
  some c19
set_option maxRecDepth 20000 in
set_option maxHeartbeats 4000000 in
theorem wi_X1 (a0 : Nat) (a1 : Nat) (cs q : List CC) (hrun : i_X1 a0 a1 cs = some q) : MetC ⟨"SteamNations$House", "<init>", "(LSteamNations$Text;)V"⟩ prog_3_method_1_code 2 none 2 7 62 [.ref a0, .ref a1] cs none q := by
  refine metC_of (by decide +kernel) (Nat.le_of_ble_eq_true rfl) (fun X C Hi K => ?_)
  have C : Cx X cn_1 prog_3_method_1_code 2 none 2 7 62 := C
  have Hi := Hi rfl
  show Gc X cs 0 0 0 [(0, .ref a0), (1, .ref a1)] []
  unfold i_X1 at hrun
  refine gc_aload_n C (dat dt_X1_init 0 rfl) 0 rfl ?_
  refine gc_objInit C (dat dt_X1_init 1 rfl) ol_1 oi_1 oi_2 (by decide) ?_
  refine gc_aload_n C (dat dt_X1_init 2 rfl) 0 rfl ?_
  obtain ⟨c1, e2, hrun⟩ := bd hrun
  refine gc_new C (dat dt_X1_init 3 rfl) no_1_9 e2 ⟨by decide, by decide⟩ ?_
  refine gc_dup C (dat dt_X1_init 4 rfl) rfl ?_
  obtain ⟨g5, e6, hrun⟩ := bd hrun
  obtain ⟨c3, e4, hrun⟩ := bd hrun
  refine gc_callI (As := []) (rest := [.ref (cs.length), .ref a0]) C (dat dt_X1_init 5 rfl) il_1_11 (wi_X6 (cs.length) c1 c3 e4) e6 rfl rfl (Nat.le_of_ble_eq_true rfl) (by decide) ⟨by decide, by decide⟩ ?_
  obtain ⟨c7, e8, hrun⟩ := bd hrun
  refine gc_putF C Hi (dat dt_X1_init 6 rfl) ff_1_12 (fun E => ⟨rfl, rfl⟩) e8 ?_
  refine gc_aload_n C (dat dt_X1_init 7 rfl) 0 rfl ?_
  refine gc_bipush C (dat dt_X1_init 8 rfl) bp_6 ?_
  obtain ⟨c9, e10, hrun⟩ := bd hrun
  refine gc_anewa (t := 4) (N := 6) C (dat dt_X1_init 9 rfl) (Or.inl ⟨rfl, rfl⟩) cl_1_18 (by decide) (by decide) (by decide) e10 ⟨by decide, by decide⟩ ?_
  obtain ⟨c11, e12, hrun⟩ := bd hrun
  refine gc_putF C Hi (dat dt_X1_init 10 rfl) ff_1_20 (fun E => ⟨rfl, rfl⟩) e12 ?_
  refine gc_aload_n C (dat dt_X1_init 11 rfl) 0 rfl ?_
  refine gc_iconst C (dat dt_X1_init 12 rfl) ic_m1 ?_
  obtain ⟨c13, e14, hrun⟩ := bd hrun
  refine gc_putI C (dat dt_X1_init 13 rfl) fl_1_24 (fun E => ⟨rfl, rfl⟩) e14 ?_
  refine gc_aload_n C (dat dt_X1_init 14 rfl) 0 rfl ?_
  refine gc_bipush C (dat dt_X1_init 15 rfl) bp_18 ?_
  obtain ⟨c15, e16, hrun⟩ := bd hrun
  refine gc_newa (t := 0) (N := 18) C (dat dt_X1_init 16 rfl) rfl rfl ac_int (by decide) (by decide) (by decide) e16 ⟨by decide, by decide⟩ ?_
  obtain ⟨c17, e18, hrun⟩ := bd hrun
  refine gc_putF C Hi (dat dt_X1_init 17 rfl) ff_1_28 (fun E => ⟨rfl, rfl⟩) e18 ?_
  refine gc_aload_n C (dat dt_X1_init 18 rfl) 0 rfl ?_
  refine gc_aload_n C (dat dt_X1_init 19 rfl) 1 rfl ?_
  obtain ⟨c19, e20, hrun⟩ := bd hrun
  refine gc_putF C Hi (dat dt_X1_init 20 rfl) ff_1_32 (fun E => ⟨rfl, rfl⟩) e20 ?_
  cases hrun
  exact gc_vret C K (dat dt_X1_init 21 rfl)
set_option maxRecDepth 20000 in
def dl_X8_init : List (Nat × Instr × Nat) := [(0, .aload_n 0, 1), (1, .invokespecial 3, 3), (4, .aload_n 0, 1), (5, .bipush 18, 2), (7, .newarray .int, 2), (9, .putfield 9, 3), (12, .aload_n 0, 1), (13, .bipush 9, 2), (15, .newarray .int, 2), (17, .putfield 15, 3), (20, .aload_n 0, 1), (21, .aload_n 1, 1), (22, .putfield 18, 3), (25, .return_, 1)]
set_option maxRecDepth 20000 in
theorem dt_X8_init : ∀ q ∈ dl_X8_init, decode prog_10_method_1_code q.1 = .ok q.2 := by decide +kernel
set_option maxRecDepth 20000 in
def i_X8 (a0 : Nat) (a1 : Nat) (cs : List CC) : Option (List CC) :=
  (nwA 0 18 cs).bind fun c1 =>
  (pF 8 1 (.ref (cs.length)) a0 c1).bind fun c3 =>
  (nwA 0 9 c3).bind fun c5 =>
  (pF 8 2 (.ref (c3.length)) a0 c5).bind fun c7 =>
  (pF 8 0 (.ref a1) a0 c7).bind fun c9 =>
  some c9
set_option maxRecDepth 20000 in
set_option maxHeartbeats 4000000 in
theorem wi_X8 (a0 : Nat) (a1 : Nat) (cs q : List CC) (hrun : i_X8 a0 a1 cs = some q) : MetC ⟨"SteamNations$Steam", "<init>", "(LSteamNations$Machine;)V"⟩ prog_10_method_1_code 2 none 1 2 27 [.ref a0, .ref a1] cs none q := by
  refine metC_of (by decide +kernel) (Nat.le_of_ble_eq_true rfl) (fun X C Hi K => ?_)
  have C : Cx X cn_8 prog_10_method_1_code 2 none 1 2 27 := C
  have Hi := Hi rfl
  show Gc X cs 0 0 0 [(0, .ref a0), (1, .ref a1)] []
  unfold i_X8 at hrun
  refine gc_aload_n C (dat dt_X8_init 0 rfl) 0 rfl ?_
  refine gc_objInit C (dat dt_X8_init 1 rfl) ol_8 oi_1 oi_2 (by decide) ?_
  refine gc_aload_n C (dat dt_X8_init 2 rfl) 0 rfl ?_
  refine gc_bipush C (dat dt_X8_init 3 rfl) bp_18 ?_
  obtain ⟨c1, e2, hrun⟩ := bd hrun
  refine gc_newa (t := 0) (N := 18) C (dat dt_X8_init 4 rfl) rfl rfl ac_int (by decide) (by decide) (by decide) e2 ⟨by decide, by decide⟩ ?_
  obtain ⟨c3, e4, hrun⟩ := bd hrun
  refine gc_putF C Hi (dat dt_X8_init 5 rfl) ff_8_9 (fun E => ⟨rfl, rfl⟩) e4 ?_
  refine gc_aload_n C (dat dt_X8_init 6 rfl) 0 rfl ?_
  refine gc_bipush C (dat dt_X8_init 7 rfl) bp_9 ?_
  obtain ⟨c5, e6, hrun⟩ := bd hrun
  refine gc_newa (t := 0) (N := 9) C (dat dt_X8_init 8 rfl) rfl rfl ac_int (by decide) (by decide) (by decide) e6 ⟨by decide, by decide⟩ ?_
  obtain ⟨c7, e8, hrun⟩ := bd hrun
  refine gc_putF C Hi (dat dt_X8_init 9 rfl) ff_8_15 (fun E => ⟨rfl, rfl⟩) e8 ?_
  refine gc_aload_n C (dat dt_X8_init 10 rfl) 0 rfl ?_
  refine gc_aload_n C (dat dt_X8_init 11 rfl) 1 rfl ?_
  obtain ⟨c9, e10, hrun⟩ := bd hrun
  refine gc_putF C Hi (dat dt_X8_init 12 rfl) ff_8_18 (fun E => ⟨rfl, rfl⟩) e10 ?_
  cases hrun
  exact gc_vret C K (dat dt_X8_init 13 rfl)
set_option maxRecDepth 20000 in
def dl_X3_init : List (Nat × Instr × Nat) := [(0, .aload_n 0, 1), (1, .invokespecial 3, 3), (4, .aload_n 0, 1), (5, .aload_n 1, 1), (6, .putfield 9, 3), (9, .aload_n 0, 1), (10, .aload_n 2, 1), (11, .putfield 15, 3), (14, .aload_n 0, 1), (15, .aload_n 3, 1), (16, .putfield 19, 3), (19, .return_, 1)]
set_option maxRecDepth 20000 in
theorem dt_X3_init : ∀ q ∈ dl_X3_init, decode prog_5_method_1_code q.1 = .ok q.2 := by decide +kernel
set_option maxRecDepth 20000 in
def i_X3 (a0 : Nat) (a1 : Nat) (a2 : Nat) (a3 : Nat) (cs : List CC) : Option (List CC) :=
  (pF 3 0 (.ref a1) a0 cs).bind fun c1 =>
  (pF 3 1 (.ref a2) a0 c1).bind fun c3 =>
  (pF 3 2 (.ref a3) a0 c3).bind fun c5 =>
  some c5
set_option maxRecDepth 20000 in
set_option maxHeartbeats 4000000 in
theorem wi_X3 (a0 : Nat) (a1 : Nat) (a2 : Nat) (a3 : Nat) (cs q : List CC) (hrun : i_X3 a0 a1 a2 a3 cs = some q) : MetC ⟨"SteamNations$Moves", "<init>", "(LSteamNations$House;LSteamNations$Past;LSteamNations$Steam;)V"⟩ prog_5_method_1_code 4 none 1 0 0 [.ref a0, .ref a1, .ref a2, .ref a3] cs none q := by
  refine metC_of (by decide +kernel) (Nat.le_of_ble_eq_true rfl) (fun X C Hi K => ?_)
  have C : Cx X cn_3 prog_5_method_1_code 4 none 1 0 0 := C
  have Hi := Hi rfl
  show Gc X cs 0 0 0 [(0, .ref a0), (1, .ref a1), (2, .ref a2), (3, .ref a3)] []
  unfold i_X3 at hrun
  refine gc_aload_n C (dat dt_X3_init 0 rfl) 0 rfl ?_
  refine gc_objInit C (dat dt_X3_init 1 rfl) ol_3 oi_1 oi_2 (by decide) ?_
  refine gc_aload_n C (dat dt_X3_init 2 rfl) 0 rfl ?_
  refine gc_aload_n C (dat dt_X3_init 3 rfl) 1 rfl ?_
  obtain ⟨c1, e2, hrun⟩ := bd hrun
  refine gc_putF C Hi (dat dt_X3_init 4 rfl) ff_3_9 (fun E => ⟨rfl, rfl⟩) e2 ?_
  refine gc_aload_n C (dat dt_X3_init 5 rfl) 0 rfl ?_
  refine gc_aload_n C (dat dt_X3_init 6 rfl) 2 rfl ?_
  obtain ⟨c3, e4, hrun⟩ := bd hrun
  refine gc_putF C Hi (dat dt_X3_init 7 rfl) ff_3_15 (fun E => ⟨rfl, rfl⟩) e4 ?_
  refine gc_aload_n C (dat dt_X3_init 8 rfl) 0 rfl ?_
  refine gc_aload_n C (dat dt_X3_init 9 rfl) 3 rfl ?_
  obtain ⟨c5, e6, hrun⟩ := bd hrun
  refine gc_putF C Hi (dat dt_X3_init 10 rfl) ff_3_19 (fun E => ⟨rfl, rfl⟩) e6 ?_
  cases hrun
  exact gc_vret C K (dat dt_X3_init 11 rfl)
set_option maxRecDepth 20000 in
def dl_X0_init : List (Nat × Instr × Nat) := [(0, .aload_n 0, 1), (1, .invokespecial 3, 3), (4, .aload_n 0, 1), (5, .new 9, 3), (8, .dup, 1), (9, .invokespecial 11, 3), (12, .putfield 12, 3), (15, .aload_n 0, 1), (16, .new 18, 3), (19, .dup, 1), (20, .invokespecial 20, 3), (23, .putfield 21, 3), (26, .aload_n 0, 1), (27, .iconst (-1), 1), (28, .putfield 25, 3), (31, .aload_n 0, 1), (32, .aload_n 1, 1), (33, .putfield 29, 3), (36, .aload_n 0, 1), (37, .aload_n 2, 1), (38, .putfield 33, 3), (41, .return_, 1)]
set_option maxRecDepth 20000 in
theorem dt_X0_init : ∀ q ∈ dl_X0_init, decode prog_2_method_1_code q.1 = .ok q.2 := by decide +kernel
set_option maxRecDepth 20000 in
def i_X0 (a0 : Nat) (a1 : Nat) (a2 : Nat) (cs : List CC) : Option (List CC) :=
  (nwO 6 cs).bind fun c1 =>
  (c1[(cs.length)]?).bind fun g5 =>
  (i_X6 (cs.length) c1).bind fun c3 =>
  (pF 0 2 (.ref (cs.length)) a0 c3).bind fun c7 =>
  (nwO 4 c7).bind fun c9 =>
  (c9[(c7.length)]?).bind fun g13 =>
  (i_X4 (c7.length) c9).bind fun c11 =>
  (pF 0 3 (.ref (c7.length)) a0 c11).bind fun c15 =>
  (pF 0 6 (.int (-1 : Int32)) a0 c15).bind fun c17 =>
  (pF 0 0 (.ref a1) a0 c17).bind fun c19 =>
  (pF 0 1 (.ref a2) a0 c19).bind fun c21 =>
  some c21
set_option maxRecDepth 20000 in
set_option maxHeartbeats 4000000 in
theorem wi_X0 (a0 : Nat) (a1 : Nat) (a2 : Nat) (cs q : List CC) (hrun : i_X0 a0 a1 a2 cs = some q) : MetC ⟨"SteamNations$Errands", "<init>", "(LSteamNations$Moves;LSteamNations$Machine;)V"⟩ prog_2_method_1_code 3 none 2 7 457 [.ref a0, .ref a1, .ref a2] cs none q := by
  refine metC_of (by decide +kernel) (Nat.le_of_ble_eq_true rfl) (fun X C Hi K => ?_)
  have C : Cx X cn_0 prog_2_method_1_code 3 none 2 7 457 := C
  have Hi := Hi rfl
  show Gc X cs 0 0 0 [(0, .ref a0), (1, .ref a1), (2, .ref a2)] []
  unfold i_X0 at hrun
  refine gc_aload_n C (dat dt_X0_init 0 rfl) 0 rfl ?_
  refine gc_objInit C (dat dt_X0_init 1 rfl) ol_0 oi_1 oi_2 (by decide) ?_
  refine gc_aload_n C (dat dt_X0_init 2 rfl) 0 rfl ?_
  obtain ⟨c1, e2, hrun⟩ := bd hrun
  refine gc_new C (dat dt_X0_init 3 rfl) no_0_9 e2 ⟨by decide, by decide⟩ ?_
  refine gc_dup C (dat dt_X0_init 4 rfl) rfl ?_
  obtain ⟨g5, e6, hrun⟩ := bd hrun
  obtain ⟨c3, e4, hrun⟩ := bd hrun
  refine gc_callI (As := []) (rest := [.ref (cs.length), .ref a0]) C (dat dt_X0_init 5 rfl) il_0_11 (wi_X6 (cs.length) c1 c3 e4) e6 rfl rfl (Nat.le_of_ble_eq_true rfl) (by decide) ⟨by decide, by decide⟩ ?_
  obtain ⟨c7, e8, hrun⟩ := bd hrun
  refine gc_putF C Hi (dat dt_X0_init 6 rfl) ff_0_12 (fun E => ⟨rfl, rfl⟩) e8 ?_
  refine gc_aload_n C (dat dt_X0_init 7 rfl) 0 rfl ?_
  obtain ⟨c9, e10, hrun⟩ := bd hrun
  refine gc_new C (dat dt_X0_init 8 rfl) no_0_18 e10 ⟨by decide, by decide⟩ ?_
  refine gc_dup C (dat dt_X0_init 9 rfl) rfl ?_
  obtain ⟨g13, e14, hrun⟩ := bd hrun
  obtain ⟨c11, e12, hrun⟩ := bd hrun
  refine gc_callI (As := []) (rest := [.ref (c7.length), .ref a0]) C (dat dt_X0_init 10 rfl) il_0_20 (wi_X4 (c7.length) c9 c11 e12) e14 rfl rfl (Nat.le_of_ble_eq_true rfl) (by decide) ⟨by decide, by decide⟩ ?_
  obtain ⟨c15, e16, hrun⟩ := bd hrun
  refine gc_putF C Hi (dat dt_X0_init 11 rfl) ff_0_21 (fun E => ⟨rfl, rfl⟩) e16 ?_
  refine gc_aload_n C (dat dt_X0_init 12 rfl) 0 rfl ?_
  refine gc_iconst C (dat dt_X0_init 13 rfl) ic_m1 ?_
  obtain ⟨c17, e18, hrun⟩ := bd hrun
  refine gc_putI C (dat dt_X0_init 14 rfl) fl_0_25 (fun E => ⟨rfl, rfl⟩) e18 ?_
  refine gc_aload_n C (dat dt_X0_init 15 rfl) 0 rfl ?_
  refine gc_aload_n C (dat dt_X0_init 16 rfl) 1 rfl ?_
  obtain ⟨c19, e20, hrun⟩ := bd hrun
  refine gc_putF C Hi (dat dt_X0_init 17 rfl) ff_0_29 (fun E => ⟨rfl, rfl⟩) e20 ?_
  refine gc_aload_n C (dat dt_X0_init 18 rfl) 0 rfl ?_
  refine gc_aload_n C (dat dt_X0_init 19 rfl) 2 rfl ?_
  obtain ⟨c21, e22, hrun⟩ := bd hrun
  refine gc_putF C Hi (dat dt_X0_init 20 rfl) ff_0_33 (fun E => ⟨rfl, rfl⟩) e22 ?_
  cases hrun
  exact gc_vret C K (dat dt_X0_init 21 rfl)
set_option maxRecDepth 20000 in
def dl_X7_init : List (Nat × Instr × Nat) := [(0, .aload_n 0, 1), (1, .invokespecial 3, 3), (4, .aload_n 0, 1), (5, .new 9, 3), (8, .dup, 1), (9, .invokespecial 11, 3), (12, .putfield 12, 3), (15, .aload_n 0, 1), (16, .sipush 720, 3), (19, .newarray .int, 2), (21, .putfield 18, 3), (24, .aload_n 0, 1), (25, .sipush 7200, 3), (28, .newarray .int, 2), (30, .putfield 22, 3), (33, .aload_n 0, 1), (34, .sipush 720, 3), (37, .newarray .int, 2), (39, .putfield 25, 3), (42, .aload_n 0, 1), (43, .sipush 720, 3), (46, .newarray .int, 2), (48, .putfield 28, 3), (51, .aload_n 0, 1), (52, .bipush 6, 2), (54, .newarray .int, 2), (56, .putfield 31, 3), (59, .aload_n 0, 1), (60, .bipush 6, 2), (62, .newarray .int, 2), (64, .putfield 34, 3), (67, .aload_n 0, 1), (68, .iconst 3, 1), (69, .newarray .int, 2), (71, .putfield 37, 3), (74, .aload_n 0, 1), (75, .iconst (-1), 1), (76, .putfield 40, 3), (79, .aload_n 0, 1), (80, .aload_n 1, 1), (81, .putfield 44, 3), (84, .return_, 1)]
set_option maxRecDepth 20000 in
theorem dt_X7_init : ∀ q ∈ dl_X7_init, decode prog_9_method_1_code q.1 = .ok q.2 := by decide +kernel
set_option maxRecDepth 20000 in
def i_X7 (a0 : Nat) (a1 : Nat) (cs : List CC) : Option (List CC) :=
  (nwO 6 cs).bind fun c1 =>
  (c1[(cs.length)]?).bind fun g5 =>
  (i_X6 (cs.length) c1).bind fun c3 =>
  (pF 7 1 (.ref (cs.length)) a0 c3).bind fun c7 =>
  (nwA 0 720 c7).bind fun c9 =>
  (pF 7 2 (.ref (c7.length)) a0 c9).bind fun c11 =>
  (nwA 0 7200 c11).bind fun c13 =>
  (pF 7 3 (.ref (c11.length)) a0 c13).bind fun c15 =>
  (nwA 0 720 c15).bind fun c17 =>
  (pF 7 4 (.ref (c15.length)) a0 c17).bind fun c19 =>
  (nwA 0 720 c19).bind fun c21 =>
  (pF 7 5 (.ref (c19.length)) a0 c21).bind fun c23 =>
  (nwA 0 6 c23).bind fun c25 =>
  (pF 7 6 (.ref (c23.length)) a0 c25).bind fun c27 =>
  (nwA 0 6 c27).bind fun c29 =>
  (pF 7 7 (.ref (c27.length)) a0 c29).bind fun c31 =>
  (nwA 0 3 c31).bind fun c33 =>
  (pF 7 8 (.ref (c31.length)) a0 c33).bind fun c35 =>
  (pF 7 11 (.int (-1 : Int32)) a0 c35).bind fun c37 =>
  (pF 7 0 (.ref a1) a0 c37).bind fun c39 =>
  some c39
set_option maxRecDepth 20000 in
set_option maxHeartbeats 4000000 in
theorem wi_X7 (a0 : Nat) (a1 : Nat) (cs q : List CC) (hrun : i_X7 a0 a1 cs = some q) : MetC ⟨"SteamNations$Seatings", "<init>", "(LSteamNations$Steam;)V"⟩ prog_9_method_1_code 2 none 2 12 9413 [.ref a0, .ref a1] cs none q := by
  refine metC_of (by decide +kernel) (Nat.le_of_ble_eq_true rfl) (fun X C Hi K => ?_)
  have C : Cx X cn_7 prog_9_method_1_code 2 none 2 12 9413 := C
  have Hi := Hi rfl
  show Gc X cs 0 0 0 [(0, .ref a0), (1, .ref a1)] []
  unfold i_X7 at hrun
  refine gc_aload_n C (dat dt_X7_init 0 rfl) 0 rfl ?_
  refine gc_objInit C (dat dt_X7_init 1 rfl) ol_7 oi_1 oi_2 (by decide) ?_
  refine gc_aload_n C (dat dt_X7_init 2 rfl) 0 rfl ?_
  obtain ⟨c1, e2, hrun⟩ := bd hrun
  refine gc_new C (dat dt_X7_init 3 rfl) no_7_9 e2 ⟨by decide, by decide⟩ ?_
  refine gc_dup C (dat dt_X7_init 4 rfl) rfl ?_
  obtain ⟨g5, e6, hrun⟩ := bd hrun
  obtain ⟨c3, e4, hrun⟩ := bd hrun
  refine gc_callI (As := []) (rest := [.ref (cs.length), .ref a0]) C (dat dt_X7_init 5 rfl) il_7_11 (wi_X6 (cs.length) c1 c3 e4) e6 rfl rfl (Nat.le_of_ble_eq_true rfl) (by decide) ⟨by decide, by decide⟩ ?_
  obtain ⟨c7, e8, hrun⟩ := bd hrun
  refine gc_putF C Hi (dat dt_X7_init 6 rfl) ff_7_12 (fun E => ⟨rfl, rfl⟩) e8 ?_
  refine gc_aload_n C (dat dt_X7_init 7 rfl) 0 rfl ?_
  refine gc_sipush C (dat dt_X7_init 8 rfl) sp_720 ?_
  obtain ⟨c9, e10, hrun⟩ := bd hrun
  refine gc_newa (t := 0) (N := 720) C (dat dt_X7_init 9 rfl) rfl rfl ac_int (by decide) (by decide) (by decide) e10 ⟨by decide, by decide⟩ ?_
  obtain ⟨c11, e12, hrun⟩ := bd hrun
  refine gc_putF C Hi (dat dt_X7_init 10 rfl) ff_7_18 (fun E => ⟨rfl, rfl⟩) e12 ?_
  refine gc_aload_n C (dat dt_X7_init 11 rfl) 0 rfl ?_
  refine gc_sipush C (dat dt_X7_init 12 rfl) sp_7200 ?_
  obtain ⟨c13, e14, hrun⟩ := bd hrun
  refine gc_newa (t := 0) (N := 7200) C (dat dt_X7_init 13 rfl) rfl rfl ac_int (by decide) (by decide) (by decide) e14 ⟨by decide, by decide⟩ ?_
  obtain ⟨c15, e16, hrun⟩ := bd hrun
  refine gc_putF C Hi (dat dt_X7_init 14 rfl) ff_7_22 (fun E => ⟨rfl, rfl⟩) e16 ?_
  refine gc_aload_n C (dat dt_X7_init 15 rfl) 0 rfl ?_
  refine gc_sipush C (dat dt_X7_init 16 rfl) sp_720 ?_
  obtain ⟨c17, e18, hrun⟩ := bd hrun
  refine gc_newa (t := 0) (N := 720) C (dat dt_X7_init 17 rfl) rfl rfl ac_int (by decide) (by decide) (by decide) e18 ⟨by decide, by decide⟩ ?_
  obtain ⟨c19, e20, hrun⟩ := bd hrun
  refine gc_putF C Hi (dat dt_X7_init 18 rfl) ff_7_25 (fun E => ⟨rfl, rfl⟩) e20 ?_
  refine gc_aload_n C (dat dt_X7_init 19 rfl) 0 rfl ?_
  refine gc_sipush C (dat dt_X7_init 20 rfl) sp_720 ?_
  obtain ⟨c21, e22, hrun⟩ := bd hrun
  refine gc_newa (t := 0) (N := 720) C (dat dt_X7_init 21 rfl) rfl rfl ac_int (by decide) (by decide) (by decide) e22 ⟨by decide, by decide⟩ ?_
  obtain ⟨c23, e24, hrun⟩ := bd hrun
  refine gc_putF C Hi (dat dt_X7_init 22 rfl) ff_7_28 (fun E => ⟨rfl, rfl⟩) e24 ?_
  refine gc_aload_n C (dat dt_X7_init 23 rfl) 0 rfl ?_
  refine gc_bipush C (dat dt_X7_init 24 rfl) bp_6 ?_
  obtain ⟨c25, e26, hrun⟩ := bd hrun
  refine gc_newa (t := 0) (N := 6) C (dat dt_X7_init 25 rfl) rfl rfl ac_int (by decide) (by decide) (by decide) e26 ⟨by decide, by decide⟩ ?_
  obtain ⟨c27, e28, hrun⟩ := bd hrun
  refine gc_putF C Hi (dat dt_X7_init 26 rfl) ff_7_31 (fun E => ⟨rfl, rfl⟩) e28 ?_
  refine gc_aload_n C (dat dt_X7_init 27 rfl) 0 rfl ?_
  refine gc_bipush C (dat dt_X7_init 28 rfl) bp_6 ?_
  obtain ⟨c29, e30, hrun⟩ := bd hrun
  refine gc_newa (t := 0) (N := 6) C (dat dt_X7_init 29 rfl) rfl rfl ac_int (by decide) (by decide) (by decide) e30 ⟨by decide, by decide⟩ ?_
  obtain ⟨c31, e32, hrun⟩ := bd hrun
  refine gc_putF C Hi (dat dt_X7_init 30 rfl) ff_7_34 (fun E => ⟨rfl, rfl⟩) e32 ?_
  refine gc_aload_n C (dat dt_X7_init 31 rfl) 0 rfl ?_
  refine gc_iconst C (dat dt_X7_init 32 rfl) ic_3 ?_
  obtain ⟨c33, e34, hrun⟩ := bd hrun
  refine gc_newa (t := 0) (N := 3) C (dat dt_X7_init 33 rfl) rfl rfl ac_int (by decide) (by decide) (by decide) e34 ⟨by decide, by decide⟩ ?_
  obtain ⟨c35, e36, hrun⟩ := bd hrun
  refine gc_putF C Hi (dat dt_X7_init 34 rfl) ff_7_37 (fun E => ⟨rfl, rfl⟩) e36 ?_
  refine gc_aload_n C (dat dt_X7_init 35 rfl) 0 rfl ?_
  refine gc_iconst C (dat dt_X7_init 36 rfl) ic_m1 ?_
  obtain ⟨c37, e38, hrun⟩ := bd hrun
  refine gc_putI C (dat dt_X7_init 37 rfl) fl_7_40 (fun E => ⟨rfl, rfl⟩) e38 ?_
  refine gc_aload_n C (dat dt_X7_init 38 rfl) 0 rfl ?_
  refine gc_aload_n C (dat dt_X7_init 39 rfl) 1 rfl ?_
  obtain ⟨c39, e40, hrun⟩ := bd hrun
  refine gc_putF C Hi (dat dt_X7_init 40 rfl) ff_7_44 (fun E => ⟨rfl, rfl⟩) e40 ?_
  cases hrun
  exact gc_vret C K (dat dt_X7_init 41 rfl)
