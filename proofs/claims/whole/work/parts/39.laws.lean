/-! SteamNations.law()I -/
def dl_X10_law : List (Nat × Instr × Nat) := [(0, .aload_n 0, 1), (1, .invokevirtual 200, 3), (4, .istore_n 1, 1), (5, .aload_n 0, 1), (6, .getfield 75, 3), (9, .getfield 204, 3), (12, .bipush 6, 2), (14, .if_icmp .lt 10, 3), (17, .aload_n 0, 1), (18, .bipush (-5), 2), (20, .invokevirtual 119, 3), (23, .ireturn, 1), (24, .aload_n 0, 1), (25, .getfield 26, 3), (28, .aload_n 0, 1), (29, .getfield 19, 3), (32, .iload_n 1, 1), (33, .iconst 0, 1), (34, .invokevirtual 207, 3), (37, .astore_n 2, 1), (38, .aload_n 0, 1), (39, .aload_n 0, 1), (40, .getfield 26, 3), (43, .getfield 211, 3), (46, .putfield 60, 3), (49, .aload_n 2, 1), (50, .ifnonnull 10, 3), (53, .aload_n 0, 1), (54, .bipush (-6), 2), (56, .invokevirtual 119, 3), (59, .ireturn, 1), (60, .aload_n 0, 1), (61, .aload_n 0, 1), (62, .getfield 75, 3), (65, .aload_n 2, 1), (66, .invokevirtual 214, 3), (69, .invokevirtual 119, 3), (72, .ireturn, 1)]
set_option maxRecDepth 20000 in
theorem dt_X10_law : ∀ q ∈ dl_X10_law, decode prog_1_method_11_code q.1 = .ok q.2 := by decide +kernel
def f_X10_law  (h : Hp) : Option (Int32 × Hp) :=
  (f_X10_takeTape  h).bind fun v1 =>
  if (fI v1.2 32 3) < (6 : Int32) then
  (f_X5_read v1.1 (0 : Int32) v1.2).bind fun v4 =>
  oc v4.1 (
  (f_X10_answer (-6 : Int32) (sF v4.2 0 17 (fI v4.2 4 10))).bind fun v7 =>
  some (v7.1, v7.2)) (fun t6 =>
  (f_X1_addLaw 32 t6 (sF v4.2 0 17 (fI v4.2 4 10))).bind fun v9 =>
  (f_X10_answer v9.1 v9.2).bind fun v11 =>
  some (v11.1, v11.2))
  else
  (f_X10_answer (-5 : Int32) v1.2).bind fun v14 =>
  some (v14.1, v14.2)
set_option maxRecDepth 20000 in
theorem w_X10_law  (h : Hp) (q : (Int32 × Hp))  (hrun : f_X10_law  h = some q) : MetA ⟨"SteamNations", "law", "()I"⟩ prog_1_method_11_code 3 (some .int) 73 3 1604 [.ref 0] h (some (.int q.1)) q.2 := by
  refine metA_of (by decide) (Nat.le_of_ble_eq_true rfl) (fun X C K => ?_)
  have C : Cx X cn_10 prog_1_method_11_code 3 (some .int) 73 3 1604 := C
  show G X h 0 0 0 [(0, .ref 0)] []
  unfold f_X10_law at hrun
  refine g_aload_n C (dat dt_X10_law 0 rfl) 0 rfl ?_
  obtain ⟨v1, q2, hrun⟩ := bd hrun
  refine g_cVi [] C (dat dt_X10_law 1 rfl) ml_10_200 (w_X10_takeTape  h v1  q2) kd_0 ltk_0 rfl rfl cat0 (by decide) c00 ?_
  refine g_istore_n (lv' := [(0, .ref 0), (1, .int v1.1)]) C (dat dt_X10_law 2 rfl) (by decide) rfl ?_
  refine g_aload_n C (dat dt_X10_law 3 rfl) 0 rfl ?_
  refine g_getR C (dat dt_X10_law 4 rfl) fl_10_75 kd_0 rfl ltk_0 ?_
  refine g_getI C (dat dt_X10_law 5 rfl) fl_10_204 kd_32 rfl ltk_32 ?_
  refine g_bipush C (dat dt_X10_law 6 rfl) bp_6 ?_
  refine g_ic_lt 24 C (dat dt_X10_law 7 rfl) (by decide) (fun c3 => ?_) (fun c3 => ?_)
  · rw [if_pos c3] at hrun
    refine g_aload_n C (dat dt_X10_law 12 rfl) 0 rfl ?_
    refine g_getR C (dat dt_X10_law 13 rfl) fl_10_26 kd_0 rfl ltk_0 ?_
    refine g_aload_n C (dat dt_X10_law 14 rfl) 0 rfl ?_
    refine g_getR C (dat dt_X10_law 15 rfl) fl_10_19 kd_0 rfl ltk_0 ?_
    refine g_iload_n C (dat dt_X10_law 16 rfl) 1 rfl ?_
    refine g_iconst C (dat dt_X10_law 17 rfl) ic_0 ?_
    obtain ⟨v4, q5, hrun⟩ := bd hrun
    refine g_callV (As := [.ref 3, .int v1.1, .int (0 : Int32)]) (rest := []) C (dat dt_X10_law 18 rfl) ml_10_207 (w_X5_read v1.1 (0 : Int32) v1.2 v4 q5) kd_4 ltk_4 rfl rfl cat0 (by decide) ⟨by decide, by decide⟩ ?_
    cases q13 : v4.1 with
    | none =>
      rw [q13, oc_n] at hrun
      show G X v4.2 3 1604 37 [(0, .ref 0), (1, .int v1.1)] [.null]
      refine g_astore_nN (lv' := [(0, .ref 0), (1, .int v1.1), (2, .null)]) C (dat dt_X10_law 19 rfl) (by decide) rfl ?_
      refine g_aload_n C (dat dt_X10_law 20 rfl) 0 rfl ?_
      refine g_aload_n C (dat dt_X10_law 21 rfl) 0 rfl ?_
      refine g_getR C (dat dt_X10_law 22 rfl) fl_10_26 kd_0 rfl ltk_0 ?_
      refine g_getI C (dat dt_X10_law 23 rfl) fl_10_211 kd_4 rfl ltk_4 ?_
      refine g_putI C (dat dt_X10_law 24 rfl) fl_10_60 rfl rfl kd_0 rfl ltk_0 ?_
      refine g_aload_nN C (dat dt_X10_law 25 rfl) 2 rfl ?_
      refine g_ifnonnullN C (dat dt_X10_law 26 rfl) ?_
      refine g_aload_n C (dat dt_X10_law 27 rfl) 0 rfl ?_
      refine g_bipush C (dat dt_X10_law 28 rfl) bp_m6 ?_
      obtain ⟨v7, q8, hrun⟩ := bd hrun
      refine g_cVi [.int (-6 : Int32)] C (dat dt_X10_law 29 rfl) ml_10_119 (w_X10_answer (-6 : Int32) (sF v4.2 0 17 (fI v4.2 4 10)) v7  q8) kd_0 ltk_0 rfl rfl cat0 (by decide) ⟨by decide, by decide⟩ ?_
      refine g_widen (k' := 3) (n' := 1604) (by decide) (by decide) ?_
      cases hrun
      exact g_iret C K (dat dt_X10_law 30 rfl)
    | some t6 =>
      rw [q13, oc_s] at hrun
      show G X v4.2 3 1604 37 [(0, .ref 0), (1, .int v1.1)] [.ref t6]
      refine g_astore_n (lv' := [(0, .ref 0), (1, .int v1.1), (2, .ref t6)]) C (dat dt_X10_law 19 rfl) (by decide) rfl ?_
      refine g_aload_n C (dat dt_X10_law 20 rfl) 0 rfl ?_
      refine g_aload_n C (dat dt_X10_law 21 rfl) 0 rfl ?_
      refine g_getR C (dat dt_X10_law 22 rfl) fl_10_26 kd_0 rfl ltk_0 ?_
      refine g_getI C (dat dt_X10_law 23 rfl) fl_10_211 kd_4 rfl ltk_4 ?_
      refine g_putI C (dat dt_X10_law 24 rfl) fl_10_60 rfl rfl kd_0 rfl ltk_0 ?_
      refine g_aload_n C (dat dt_X10_law 25 rfl) 2 rfl ?_
      refine g_ifnonnull 60 C (dat dt_X10_law 26 rfl) (by decide) ?_
      refine g_aload_n C (dat dt_X10_law 31 rfl) 0 rfl ?_
      refine g_aload_n C (dat dt_X10_law 32 rfl) 0 rfl ?_
      refine g_getR C (dat dt_X10_law 33 rfl) fl_10_75 kd_0 rfl ltk_0 ?_
      refine g_aload_n C (dat dt_X10_law 34 rfl) 2 rfl ?_
      obtain ⟨v9, q10, hrun⟩ := bd hrun
      refine g_cVi [.ref t6] C (dat dt_X10_law 35 rfl) ml_10_214 (w_X1_addLaw 32 t6 (sF v4.2 0 17 (fI v4.2 4 10)) v9 house_32 q10) kd_32 ltk_32 rfl rfl (Nat.le_of_ble_eq_true rfl) (by decide) ⟨by decide, by decide⟩ ?_
      obtain ⟨v11, q12, hrun⟩ := bd hrun
      refine g_cVi [.int v9.1] C (dat dt_X10_law 36 rfl) ml_10_119 (w_X10_answer v9.1 v9.2 v11  q12) kd_0 ltk_0 rfl rfl cat0 (by decide) ⟨by decide, by decide⟩ ?_
      refine g_widen (k' := 3) (n' := 1604) (by decide) (by decide) ?_
      cases hrun
      exact g_iret C K (dat dt_X10_law 37 rfl)
  · rw [if_neg c3] at hrun
    refine g_aload_n C (dat dt_X10_law 8 rfl) 0 rfl ?_
    refine g_bipush C (dat dt_X10_law 9 rfl) bp_m5 ?_
    obtain ⟨v14, q15, hrun⟩ := bd hrun
    refine g_cVi [.int (-5 : Int32)] C (dat dt_X10_law 10 rfl) ml_10_119 (w_X10_answer (-5 : Int32) v1.2 v14  q15) kd_0 ltk_0 rfl rfl cat0 (by decide) c00 ?_
    refine g_widen (k' := 3) (n' := 1604) (by decide) (by decide) ?_
    cases hrun
    exact g_iret C K (dat dt_X10_law 11 rfl)
/-! SteamNations.orders()I -/
def dl_X10_orders : List (Nat × Instr × Nat) := [(0, .aload_n 0, 1), (1, .getfield 26, 3), (4, .aload_n 0, 1), (5, .getfield 19, 3), (8, .aload_n 0, 1), (9, .invokevirtual 200, 3), (12, .iconst 1, 1), (13, .invokevirtual 207, 3), (16, .astore_n 1, 1), (17, .aload_n 0, 1), (18, .aload_n 0, 1), (19, .getfield 26, 3), (22, .getfield 211, 3), (25, .putfield 60, 3), (28, .aload_n 0, 1), (29, .getfield 102, 3), (32, .iconst (-1), 1), (33, .putfield 218, 3), (36, .aload_n 1, 1), (37, .ifnonnull 10, 3), (40, .aload_n 0, 1), (41, .bipush (-6), 2), (43, .invokevirtual 119, 3), (46, .ireturn, 1), (47, .aload_n 0, 1), (48, .aload_n 0, 1), (49, .getfield 102, 3), (52, .aload_n 1, 1), (53, .invokevirtual 221, 3), (56, .invokevirtual 136, 3), (59, .ireturn, 1)]
set_option maxRecDepth 20000 in
theorem dt_X10_orders : ∀ q ∈ dl_X10_orders, decode prog_1_method_12_code q.1 = .ok q.2 := by decide +kernel
def f_X10_orders  (h : Hp) : Option (Int32 × Hp) :=
  (f_X10_takeTape  h).bind fun v1 =>
  (f_X5_read v1.1 (1 : Int32) v1.2).bind fun v3 =>
  oc v3.1 (
  (f_X10_answer (-6 : Int32) (sF (sF v3.2 0 17 (fI v3.2 4 10)) 60 6 (-1 : Int32))).bind fun v6 =>
  some (v6.1, v6.2)) (fun t5 =>
  (f_X0_run t5 (sF (sF v3.2 0 17 (fI v3.2 4 10)) 60 6 (-1 : Int32))).bind fun v8 =>
  (f_X10_answerChanged v8.1 v8.2).bind fun v10 =>
  some (v10.1, v10.2))
set_option maxRecDepth 20000 in
theorem w_X10_orders  (h : Hp) (q : (Int32 × Hp))  (hrun : f_X10_orders  h = some q) : MetA ⟨"SteamNations", "orders", "()I"⟩ prog_1_method_12_code 2 (some .int) 73 3 1604 [.ref 0] h (some (.int q.1)) q.2 := by
  refine metA_of (by decide) (Nat.le_of_ble_eq_true rfl) (fun X C K => ?_)
  have C : Cx X cn_10 prog_1_method_12_code 2 (some .int) 73 3 1604 := C
  show G X h 0 0 0 [(0, .ref 0)] []
  unfold f_X10_orders at hrun
  refine g_aload_n C (dat dt_X10_orders 0 rfl) 0 rfl ?_
  refine g_getR C (dat dt_X10_orders 1 rfl) fl_10_26 kd_0 rfl ltk_0 ?_
  refine g_aload_n C (dat dt_X10_orders 2 rfl) 0 rfl ?_
  refine g_getR C (dat dt_X10_orders 3 rfl) fl_10_19 kd_0 rfl ltk_0 ?_
  refine g_aload_n C (dat dt_X10_orders 4 rfl) 0 rfl ?_
  obtain ⟨v1, q2, hrun⟩ := bd hrun
  refine g_cVi [] C (dat dt_X10_orders 5 rfl) ml_10_200 (w_X10_takeTape  h v1  q2) kd_0 ltk_0 rfl rfl (Nat.le_of_ble_eq_true rfl) (by decide) c00 ?_
  refine g_iconst C (dat dt_X10_orders 6 rfl) ic_1 ?_
  obtain ⟨v3, q4, hrun⟩ := bd hrun
  refine g_callV (As := [.ref 3, .int v1.1, .int (1 : Int32)]) (rest := []) C (dat dt_X10_orders 7 rfl) ml_10_207 (w_X5_read v1.1 (1 : Int32) v1.2 v3 q4) kd_4 ltk_4 rfl rfl cat0 (by decide) ⟨by decide, by decide⟩ ?_
  cases q12 : v3.1 with
  | none =>
    rw [q12, oc_n] at hrun
    show G X v3.2 3 1604 16 [(0, .ref 0)] [.null]
    refine g_astore_nN (lv' := [(0, .ref 0), (1, .null)]) C (dat dt_X10_orders 8 rfl) (by decide) rfl ?_
    refine g_aload_n C (dat dt_X10_orders 9 rfl) 0 rfl ?_
    refine g_aload_n C (dat dt_X10_orders 10 rfl) 0 rfl ?_
    refine g_getR C (dat dt_X10_orders 11 rfl) fl_10_26 kd_0 rfl ltk_0 ?_
    refine g_getI C (dat dt_X10_orders 12 rfl) fl_10_211 kd_4 rfl ltk_4 ?_
    refine g_putI C (dat dt_X10_orders 13 rfl) fl_10_60 rfl rfl kd_0 rfl ltk_0 ?_
    refine g_aload_n C (dat dt_X10_orders 14 rfl) 0 rfl ?_
    refine g_getR C (dat dt_X10_orders 15 rfl) fl_10_102 kd_0 rfl ltk_0 ?_
    refine g_iconst C (dat dt_X10_orders 16 rfl) ic_m1 ?_
    refine g_putI C (dat dt_X10_orders 17 rfl) fl_10_218 rfl rfl kd_60 rfl ltk_60 ?_
    refine g_aload_nN C (dat dt_X10_orders 18 rfl) 1 rfl ?_
    refine g_ifnonnullN C (dat dt_X10_orders 19 rfl) ?_
    refine g_aload_n C (dat dt_X10_orders 20 rfl) 0 rfl ?_
    refine g_bipush C (dat dt_X10_orders 21 rfl) bp_m6 ?_
    obtain ⟨v6, q7, hrun⟩ := bd hrun
    refine g_cVi [.int (-6 : Int32)] C (dat dt_X10_orders 22 rfl) ml_10_119 (w_X10_answer (-6 : Int32) (sF (sF v3.2 0 17 (fI v3.2 4 10)) 60 6 (-1 : Int32)) v6  q7) kd_0 ltk_0 rfl rfl cat0 (by decide) ⟨by decide, by decide⟩ ?_
    refine g_widen (k' := 3) (n' := 1604) (by decide) (by decide) ?_
    cases hrun
    exact g_iret C K (dat dt_X10_orders 23 rfl)
  | some t5 =>
    rw [q12, oc_s] at hrun
    show G X v3.2 3 1604 16 [(0, .ref 0)] [.ref t5]
    refine g_astore_n (lv' := [(0, .ref 0), (1, .ref t5)]) C (dat dt_X10_orders 8 rfl) (by decide) rfl ?_
    refine g_aload_n C (dat dt_X10_orders 9 rfl) 0 rfl ?_
    refine g_aload_n C (dat dt_X10_orders 10 rfl) 0 rfl ?_
    refine g_getR C (dat dt_X10_orders 11 rfl) fl_10_26 kd_0 rfl ltk_0 ?_
    refine g_getI C (dat dt_X10_orders 12 rfl) fl_10_211 kd_4 rfl ltk_4 ?_
    refine g_putI C (dat dt_X10_orders 13 rfl) fl_10_60 rfl rfl kd_0 rfl ltk_0 ?_
    refine g_aload_n C (dat dt_X10_orders 14 rfl) 0 rfl ?_
    refine g_getR C (dat dt_X10_orders 15 rfl) fl_10_102 kd_0 rfl ltk_0 ?_
    refine g_iconst C (dat dt_X10_orders 16 rfl) ic_m1 ?_
    refine g_putI C (dat dt_X10_orders 17 rfl) fl_10_218 rfl rfl kd_60 rfl ltk_60 ?_
    refine g_aload_n C (dat dt_X10_orders 18 rfl) 1 rfl ?_
    refine g_ifnonnull 47 C (dat dt_X10_orders 19 rfl) (by decide) ?_
    refine g_aload_n C (dat dt_X10_orders 24 rfl) 0 rfl ?_
    refine g_aload_n C (dat dt_X10_orders 25 rfl) 0 rfl ?_
    refine g_getR C (dat dt_X10_orders 26 rfl) fl_10_102 kd_0 rfl ltk_0 ?_
    refine g_aload_n C (dat dt_X10_orders 27 rfl) 1 rfl ?_
    obtain ⟨v8, q9, hrun⟩ := bd hrun
    refine g_cVi [.ref t5] C (dat dt_X10_orders 28 rfl) ml_10_221 (w_X0_run t5 (sF (sF v3.2 0 17 (fI v3.2 4 10)) 60 6 (-1 : Int32)) v8  q9) kd_60 ltk_60 rfl rfl (Nat.le_of_ble_eq_true rfl) (by decide) ⟨by decide, by decide⟩ ?_
    obtain ⟨v10, q11, hrun⟩ := bd hrun
    refine g_cVi [.int v8.1] C (dat dt_X10_orders 29 rfl) ml_10_136 (w_X10_answerChanged v8.1 v8.2 v10  q11) kd_0 ltk_0 rfl rfl cat0 (by decide) ⟨by decide, by decide⟩ ?_
    refine g_widen (k' := 3) (n' := 1604) (by decide) (by decide) ?_
    cases hrun
    exact g_iret C K (dat dt_X10_orders 30 rfl)
