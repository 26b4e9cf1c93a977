/-! java/lang/Integer.bitCount(I)I -/
def dl_J6_bitCount_0f7a4 : List (Nat × Instr × Nat) := [(0, .iload_n 0, 1), (1, .iload_n 0, 1), (2, .iconst 1, 1), (3, .iushr, 1), (4, .ldc_w 265, 3), (7, .iand, 1), (8, .isub, 1), (9, .istore_n 0, 1), (10, .iload_n 0, 1), (11, .ldc_w 266, 3), (14, .iand, 1), (15, .iload_n 0, 1), (16, .iconst 2, 1), (17, .iushr, 1), (18, .ldc_w 266, 3), (21, .iand, 1), (22, .iadd, 1), (23, .istore_n 0, 1), (24, .iload_n 0, 1), (25, .iload_n 0, 1), (26, .iconst 4, 1), (27, .iushr, 1), (28, .iadd, 1), (29, .ldc_w 267, 3), (32, .iand, 1), (33, .istore_n 0, 1), (34, .iload_n 0, 1), (35, .iload_n 0, 1), (36, .bipush 8, 2), (38, .iushr, 1), (39, .iadd, 1), (40, .istore_n 0, 1), (41, .iload_n 0, 1), (42, .iload_n 0, 1), (43, .bipush 16, 2), (45, .iushr, 1), (46, .iadd, 1), (47, .istore_n 0, 1), (48, .iload_n 0, 1), (49, .bipush 63, 2), (51, .iand, 1), (52, .ireturn, 1)]
set_option maxRecDepth 20000 in
theorem dt_J6_bitCount_0f7a4 : ∀ q ∈ dl_J6_bitCount_0f7a4, decode prog_15_method_49_code q.1 = .ok q.2 := by decide +kernel
def f_J6_bitCount_0f7a4 (x0 : Int32) : Option Int32 :=
  some ((((((((x0 - ((((x0).toUInt32 >>> (((1 : Int32)).toUInt32 &&& Int32.toUInt32 31)).toInt32) &&& (1431655765 : Int32))) &&& (858993459 : Int32)) + (((((x0 - ((((x0).toUInt32 >>> (((1 : Int32)).toUInt32 &&& Int32.toUInt32 31)).toInt32) &&& (1431655765 : Int32)))).toUInt32 >>> (((2 : Int32)).toUInt32 &&& Int32.toUInt32 31)).toInt32) &&& (858993459 : Int32))) + ((((((x0 - ((((x0).toUInt32 >>> (((1 : Int32)).toUInt32 &&& Int32.toUInt32 31)).toInt32) &&& (1431655765 : Int32))) &&& (858993459 : Int32)) + (((((x0 - ((((x0).toUInt32 >>> (((1 : Int32)).toUInt32 &&& Int32.toUInt32 31)).toInt32) &&& (1431655765 : Int32)))).toUInt32 >>> (((2 : Int32)).toUInt32 &&& Int32.toUInt32 31)).toInt32) &&& (858993459 : Int32)))).toUInt32 >>> (((4 : Int32)).toUInt32 &&& Int32.toUInt32 31)).toInt32)) &&& (252645135 : Int32)) + ((((((((x0 - ((((x0).toUInt32 >>> (((1 : Int32)).toUInt32 &&& Int32.toUInt32 31)).toInt32) &&& (1431655765 : Int32))) &&& (858993459 : Int32)) + (((((x0 - ((((x0).toUInt32 >>> (((1 : Int32)).toUInt32 &&& Int32.toUInt32 31)).toInt32) &&& (1431655765 : Int32)))).toUInt32 >>> (((2 : Int32)).toUInt32 &&& Int32.toUInt32 31)).toInt32) &&& (858993459 : Int32))) + ((((((x0 - ((((x0).toUInt32 >>> (((1 : Int32)).toUInt32 &&& Int32.toUInt32 31)).toInt32) &&& (1431655765 : Int32))) &&& (858993459 : Int32)) + (((((x0 - ((((x0).toUInt32 >>> (((1 : Int32)).toUInt32 &&& Int32.toUInt32 31)).toInt32) &&& (1431655765 : Int32)))).toUInt32 >>> (((2 : Int32)).toUInt32 &&& Int32.toUInt32 31)).toInt32) &&& (858993459 : Int32)))).toUInt32 >>> (((4 : Int32)).toUInt32 &&& Int32.toUInt32 31)).toInt32)) &&& (252645135 : Int32))).toUInt32 >>> (((8 : Int32)).toUInt32 &&& Int32.toUInt32 31)).toInt32)) + (((((((((x0 - ((((x0).toUInt32 >>> (((1 : Int32)).toUInt32 &&& Int32.toUInt32 31)).toInt32) &&& (1431655765 : Int32))) &&& (858993459 : Int32)) + (((((x0 - ((((x0).toUInt32 >>> (((1 : Int32)).toUInt32 &&& Int32.toUInt32 31)).toInt32) &&& (1431655765 : Int32)))).toUInt32 >>> (((2 : Int32)).toUInt32 &&& Int32.toUInt32 31)).toInt32) &&& (858993459 : Int32))) + ((((((x0 - ((((x0).toUInt32 >>> (((1 : Int32)).toUInt32 &&& Int32.toUInt32 31)).toInt32) &&& (1431655765 : Int32))) &&& (858993459 : Int32)) + (((((x0 - ((((x0).toUInt32 >>> (((1 : Int32)).toUInt32 &&& Int32.toUInt32 31)).toInt32) &&& (1431655765 : Int32)))).toUInt32 >>> (((2 : Int32)).toUInt32 &&& Int32.toUInt32 31)).toInt32) &&& (858993459 : Int32)))).toUInt32 >>> (((4 : Int32)).toUInt32 &&& Int32.toUInt32 31)).toInt32)) &&& (252645135 : Int32)) + ((((((((x0 - ((((x0).toUInt32 >>> (((1 : Int32)).toUInt32 &&& Int32.toUInt32 31)).toInt32) &&& (1431655765 : Int32))) &&& (858993459 : Int32)) + (((((x0 - ((((x0).toUInt32 >>> (((1 : Int32)).toUInt32 &&& Int32.toUInt32 31)).toInt32) &&& (1431655765 : Int32)))).toUInt32 >>> (((2 : Int32)).toUInt32 &&& Int32.toUInt32 31)).toInt32) &&& (858993459 : Int32))) + ((((((x0 - ((((x0).toUInt32 >>> (((1 : Int32)).toUInt32 &&& Int32.toUInt32 31)).toInt32) &&& (1431655765 : Int32))) &&& (858993459 : Int32)) + (((((x0 - ((((x0).toUInt32 >>> (((1 : Int32)).toUInt32 &&& Int32.toUInt32 31)).toInt32) &&& (1431655765 : Int32)))).toUInt32 >>> (((2 : Int32)).toUInt32 &&& Int32.toUInt32 31)).toInt32) &&& (858993459 : Int32)))).toUInt32 >>> (((4 : Int32)).toUInt32 &&& Int32.toUInt32 31)).toInt32)) &&& (252645135 : Int32))).toUInt32 >>> (((8 : Int32)).toUInt32 &&& Int32.toUInt32 31)).toInt32))).toUInt32 >>> (((16 : Int32)).toUInt32 &&& Int32.toUInt32 31)).toInt32)) &&& (63 : Int32))
set_option maxRecDepth 20000 in
theorem w_J6_bitCount_0f7a4 (x0 : Int32) (h : Hp) (q : Int32)  (hrun : f_J6_bitCount_0f7a4 x0 = some q) : MetA ⟨"java/lang/Integer", "bitCount", "(I)I"⟩ prog_15_method_49_code 1 (some .int) 1 0 0 [.int x0] h (some (.int q)) h := by
  refine metA_ofJ (by decide +kernel) (Nat.le_of_ble_eq_true rfl) (fun X C K => ?_)
  have C : Cx X "java/lang/Integer" prog_15_method_49_code 1 (some .int) 1 0 0 := C
  show G X h 0 0 0 [(0, .int x0)] []
  unfold f_J6_bitCount_0f7a4 at hrun
  refine g_iload_n C (dat dt_J6_bitCount_0f7a4 0 rfl) 0 rfl ?_
  refine g_iload_n C (dat dt_J6_bitCount_0f7a4 1 rfl) 0 rfl ?_
  refine g_iconst C (dat dt_J6_bitCount_0f7a4 2 rfl) ic_1 ?_
  refine g_iushr C (dat dt_J6_bitCount_0f7a4 3 rfl) ?_
  refine g_ldcw C (dat dt_J6_bitCount_0f7a4 4 rfl) kc_J_265 ?_
  refine g_iand C (dat dt_J6_bitCount_0f7a4 5 rfl) ?_
  refine g_isub C (dat dt_J6_bitCount_0f7a4 6 rfl) ?_
  refine g_istore_n (lv' := [(0, .int (x0 - ((((x0).toUInt32 >>> (((1 : Int32)).toUInt32 &&& Int32.toUInt32 31)).toInt32) &&& (1431655765 : Int32))))]) C (dat dt_J6_bitCount_0f7a4 7 rfl) (by decide) rfl ?_
  refine g_iload_n C (dat dt_J6_bitCount_0f7a4 8 rfl) 0 rfl ?_
  refine g_ldcw C (dat dt_J6_bitCount_0f7a4 9 rfl) kc_J_266 ?_
  refine g_iand C (dat dt_J6_bitCount_0f7a4 10 rfl) ?_
  refine g_iload_n C (dat dt_J6_bitCount_0f7a4 11 rfl) 0 rfl ?_
  refine g_iconst C (dat dt_J6_bitCount_0f7a4 12 rfl) ic_2 ?_
  refine g_iushr C (dat dt_J6_bitCount_0f7a4 13 rfl) ?_
  refine g_ldcw C (dat dt_J6_bitCount_0f7a4 14 rfl) kc_J_266 ?_
  refine g_iand C (dat dt_J6_bitCount_0f7a4 15 rfl) ?_
  refine g_iadd C (dat dt_J6_bitCount_0f7a4 16 rfl) ?_
  refine g_istore_n (lv' := [(0, .int (((x0 - ((((x0).toUInt32 >>> (((1 : Int32)).toUInt32 &&& Int32.toUInt32 31)).toInt32) &&& (1431655765 : Int32))) &&& (858993459 : Int32)) + (((((x0 - ((((x0).toUInt32 >>> (((1 : Int32)).toUInt32 &&& Int32.toUInt32 31)).toInt32) &&& (1431655765 : Int32)))).toUInt32 >>> (((2 : Int32)).toUInt32 &&& Int32.toUInt32 31)).toInt32) &&& (858993459 : Int32))))]) C (dat dt_J6_bitCount_0f7a4 17 rfl) (by decide) rfl ?_
  refine g_iload_n C (dat dt_J6_bitCount_0f7a4 18 rfl) 0 rfl ?_
  refine g_iload_n C (dat dt_J6_bitCount_0f7a4 19 rfl) 0 rfl ?_
  refine g_iconst C (dat dt_J6_bitCount_0f7a4 20 rfl) ic_4 ?_
  refine g_iushr C (dat dt_J6_bitCount_0f7a4 21 rfl) ?_
  refine g_iadd C (dat dt_J6_bitCount_0f7a4 22 rfl) ?_
  refine g_ldcw C (dat dt_J6_bitCount_0f7a4 23 rfl) kc_J_267 ?_
  refine g_iand C (dat dt_J6_bitCount_0f7a4 24 rfl) ?_
  refine g_istore_n (lv' := [(0, .int (((((x0 - ((((x0).toUInt32 >>> (((1 : Int32)).toUInt32 &&& Int32.toUInt32 31)).toInt32) &&& (1431655765 : Int32))) &&& (858993459 : Int32)) + (((((x0 - ((((x0).toUInt32 >>> (((1 : Int32)).toUInt32 &&& Int32.toUInt32 31)).toInt32) &&& (1431655765 : Int32)))).toUInt32 >>> (((2 : Int32)).toUInt32 &&& Int32.toUInt32 31)).toInt32) &&& (858993459 : Int32))) + ((((((x0 - ((((x0).toUInt32 >>> (((1 : Int32)).toUInt32 &&& Int32.toUInt32 31)).toInt32) &&& (1431655765 : Int32))) &&& (858993459 : Int32)) + (((((x0 - ((((x0).toUInt32 >>> (((1 : Int32)).toUInt32 &&& Int32.toUInt32 31)).toInt32) &&& (1431655765 : Int32)))).toUInt32 >>> (((2 : Int32)).toUInt32 &&& Int32.toUInt32 31)).toInt32) &&& (858993459 : Int32)))).toUInt32 >>> (((4 : Int32)).toUInt32 &&& Int32.toUInt32 31)).toInt32)) &&& (252645135 : Int32)))]) C (dat dt_J6_bitCount_0f7a4 25 rfl) (by decide) rfl ?_
  refine g_iload_n C (dat dt_J6_bitCount_0f7a4 26 rfl) 0 rfl ?_
  refine g_iload_n C (dat dt_J6_bitCount_0f7a4 27 rfl) 0 rfl ?_
  refine g_bipush C (dat dt_J6_bitCount_0f7a4 28 rfl) bp_8 ?_
  refine g_iushr C (dat dt_J6_bitCount_0f7a4 29 rfl) ?_
  refine g_iadd C (dat dt_J6_bitCount_0f7a4 30 rfl) ?_
  refine g_istore_n (lv' := [(0, .int ((((((x0 - ((((x0).toUInt32 >>> (((1 : Int32)).toUInt32 &&& Int32.toUInt32 31)).toInt32) &&& (1431655765 : Int32))) &&& (858993459 : Int32)) + (((((x0 - ((((x0).toUInt32 >>> (((1 : Int32)).toUInt32 &&& Int32.toUInt32 31)).toInt32) &&& (1431655765 : Int32)))).toUInt32 >>> (((2 : Int32)).toUInt32 &&& Int32.toUInt32 31)).toInt32) &&& (858993459 : Int32))) + ((((((x0 - ((((x0).toUInt32 >>> (((1 : Int32)).toUInt32 &&& Int32.toUInt32 31)).toInt32) &&& (1431655765 : Int32))) &&& (858993459 : Int32)) + (((((x0 - ((((x0).toUInt32 >>> (((1 : Int32)).toUInt32 &&& Int32.toUInt32 31)).toInt32) &&& (1431655765 : Int32)))).toUInt32 >>> (((2 : Int32)).toUInt32 &&& Int32.toUInt32 31)).toInt32) &&& (858993459 : Int32)))).toUInt32 >>> (((4 : Int32)).toUInt32 &&& Int32.toUInt32 31)).toInt32)) &&& (252645135 : Int32)) + ((((((((x0 - ((((x0).toUInt32 >>> (((1 : Int32)).toUInt32 &&& Int32.toUInt32 31)).toInt32) &&& (1431655765 : Int32))) &&& (858993459 : Int32)) + (((((x0 - ((((x0).toUInt32 >>> (((1 : Int32)).toUInt32 &&& Int32.toUInt32 31)).toInt32) &&& (1431655765 : Int32)))).toUInt32 >>> (((2 : Int32)).toUInt32 &&& Int32.toUInt32 31)).toInt32) &&& (858993459 : Int32))) + ((((((x0 - ((((x0).toUInt32 >>> (((1 : Int32)).toUInt32 &&& Int32.toUInt32 31)).toInt32) &&& (1431655765 : Int32))) &&& (858993459 : Int32)) + (((((x0 - ((((x0).toUInt32 >>> (((1 : Int32)).toUInt32 &&& Int32.toUInt32 31)).toInt32) &&& (1431655765 : Int32)))).toUInt32 >>> (((2 : Int32)).toUInt32 &&& Int32.toUInt32 31)).toInt32) &&& (858993459 : Int32)))).toUInt32 >>> (((4 : Int32)).toUInt32 &&& Int32.toUInt32 31)).toInt32)) &&& (252645135 : Int32))).toUInt32 >>> (((8 : Int32)).toUInt32 &&& Int32.toUInt32 31)).toInt32)))]) C (dat dt_J6_bitCount_0f7a4 31 rfl) (by decide) rfl ?_
  refine g_iload_n C (dat dt_J6_bitCount_0f7a4 32 rfl) 0 rfl ?_
  refine g_iload_n C (dat dt_J6_bitCount_0f7a4 33 rfl) 0 rfl ?_
  refine g_bipush C (dat dt_J6_bitCount_0f7a4 34 rfl) bp_16 ?_
  refine g_iushr C (dat dt_J6_bitCount_0f7a4 35 rfl) ?_
  refine g_iadd C (dat dt_J6_bitCount_0f7a4 36 rfl) ?_
  refine g_istore_n (lv' := [(0, .int (((((((x0 - ((((x0).toUInt32 >>> (((1 : Int32)).toUInt32 &&& Int32.toUInt32 31)).toInt32) &&& (1431655765 : Int32))) &&& (858993459 : Int32)) + (((((x0 - ((((x0).toUInt32 >>> (((1 : Int32)).toUInt32 &&& Int32.toUInt32 31)).toInt32) &&& (1431655765 : Int32)))).toUInt32 >>> (((2 : Int32)).toUInt32 &&& Int32.toUInt32 31)).toInt32) &&& (858993459 : Int32))) + ((((((x0 - ((((x0).toUInt32 >>> (((1 : Int32)).toUInt32 &&& Int32.toUInt32 31)).toInt32) &&& (1431655765 : Int32))) &&& (858993459 : Int32)) + (((((x0 - ((((x0).toUInt32 >>> (((1 : Int32)).toUInt32 &&& Int32.toUInt32 31)).toInt32) &&& (1431655765 : Int32)))).toUInt32 >>> (((2 : Int32)).toUInt32 &&& Int32.toUInt32 31)).toInt32) &&& (858993459 : Int32)))).toUInt32 >>> (((4 : Int32)).toUInt32 &&& Int32.toUInt32 31)).toInt32)) &&& (252645135 : Int32)) + ((((((((x0 - ((((x0).toUInt32 >>> (((1 : Int32)).toUInt32 &&& Int32.toUInt32 31)).toInt32) &&& (1431655765 : Int32))) &&& (858993459 : Int32)) + (((((x0 - ((((x0).toUInt32 >>> (((1 : Int32)).toUInt32 &&& Int32.toUInt32 31)).toInt32) &&& (1431655765 : Int32)))).toUInt32 >>> (((2 : Int32)).toUInt32 &&& Int32.toUInt32 31)).toInt32) &&& (858993459 : Int32))) + ((((((x0 - ((((x0).toUInt32 >>> (((1 : Int32)).toUInt32 &&& Int32.toUInt32 31)).toInt32) &&& (1431655765 : Int32))) &&& (858993459 : Int32)) + (((((x0 - ((((x0).toUInt32 >>> (((1 : Int32)).toUInt32 &&& Int32.toUInt32 31)).toInt32) &&& (1431655765 : Int32)))).toUInt32 >>> (((2 : Int32)).toUInt32 &&& Int32.toUInt32 31)).toInt32) &&& (858993459 : Int32)))).toUInt32 >>> (((4 : Int32)).toUInt32 &&& Int32.toUInt32 31)).toInt32)) &&& (252645135 : Int32))).toUInt32 >>> (((8 : Int32)).toUInt32 &&& Int32.toUInt32 31)).toInt32)) + (((((((((x0 - ((((x0).toUInt32 >>> (((1 : Int32)).toUInt32 &&& Int32.toUInt32 31)).toInt32) &&& (1431655765 : Int32))) &&& (858993459 : Int32)) + (((((x0 - ((((x0).toUInt32 >>> (((1 : Int32)).toUInt32 &&& Int32.toUInt32 31)).toInt32) &&& (1431655765 : Int32)))).toUInt32 >>> (((2 : Int32)).toUInt32 &&& Int32.toUInt32 31)).toInt32) &&& (858993459 : Int32))) + ((((((x0 - ((((x0).toUInt32 >>> (((1 : Int32)).toUInt32 &&& Int32.toUInt32 31)).toInt32) &&& (1431655765 : Int32))) &&& (858993459 : Int32)) + (((((x0 - ((((x0).toUInt32 >>> (((1 : Int32)).toUInt32 &&& Int32.toUInt32 31)).toInt32) &&& (1431655765 : Int32)))).toUInt32 >>> (((2 : Int32)).toUInt32 &&& Int32.toUInt32 31)).toInt32) &&& (858993459 : Int32)))).toUInt32 >>> (((4 : Int32)).toUInt32 &&& Int32.toUInt32 31)).toInt32)) &&& (252645135 : Int32)) + ((((((((x0 - ((((x0).toUInt32 >>> (((1 : Int32)).toUInt32 &&& Int32.toUInt32 31)).toInt32) &&& (1431655765 : Int32))) &&& (858993459 : Int32)) + (((((x0 - ((((x0).toUInt32 >>> (((1 : Int32)).toUInt32 &&& Int32.toUInt32 31)).toInt32) &&& (1431655765 : Int32)))).toUInt32 >>> (((2 : Int32)).toUInt32 &&& Int32.toUInt32 31)).toInt32) &&& (858993459 : Int32))) + ((((((x0 - ((((x0).toUInt32 >>> (((1 : Int32)).toUInt32 &&& Int32.toUInt32 31)).toInt32) &&& (1431655765 : Int32))) &&& (858993459 : Int32)) + (((((x0 - ((((x0).toUInt32 >>> (((1 : Int32)).toUInt32 &&& Int32.toUInt32 31)).toInt32) &&& (1431655765 : Int32)))).toUInt32 >>> (((2 : Int32)).toUInt32 &&& Int32.toUInt32 31)).toInt32) &&& (858993459 : Int32)))).toUInt32 >>> (((4 : Int32)).toUInt32 &&& Int32.toUInt32 31)).toInt32)) &&& (252645135 : Int32))).toUInt32 >>> (((8 : Int32)).toUInt32 &&& Int32.toUInt32 31)).toInt32))).toUInt32 >>> (((16 : Int32)).toUInt32 &&& Int32.toUInt32 31)).toInt32)))]) C (dat dt_J6_bitCount_0f7a4 37 rfl) (by decide) rfl ?_
  refine g_iload_n C (dat dt_J6_bitCount_0f7a4 38 rfl) 0 rfl ?_
  refine g_bipush C (dat dt_J6_bitCount_0f7a4 39 rfl) bp_63 ?_
  refine g_iand C (dat dt_J6_bitCount_0f7a4 40 rfl) ?_
  cases hrun
  exact g_iret C K (dat dt_J6_bitCount_0f7a4 41 rfl)
/-! java/util/Arrays.fill([II)V -/
def dl_J7_fill_53178 : List (Nat × Instr × Nat) := [(0, .iconst 0, 1), (1, .istore_n 2, 1), (2, .aload_n 0, 1), (3, .arraylength, 1), (4, .istore_n 3, 1), (5, .iload_n 2, 1), (6, .iload_n 3, 1), (7, .if_icmp .ge 13, 3), (10, .aload_n 0, 1), (11, .iload_n 2, 1), (12, .iload_n 1, 1), (13, .iastore, 1), (14, .iinc 2 1, 3), (17, .goto (-12), 3), (20, .return_, 1)]
set_option maxRecDepth 20000 in
theorem dt_J7_fill_53178 : ∀ q ∈ dl_J7_fill_53178, decode prog_21_method_103_code q.1 = .ok q.2 := by decide +kernel
def kp_J7_fill_53178_5 (a0 : Nat) (n0 : Nat) (x1 : Int32) (x3 : Int32) (X : Xt) (s : (Int32 × Hp)) : Prop := G X s.2 0 0 5 [(0, .ref a0), (1, .int x1), (2, .int s.1), (3, .int x3)] []
def ke_J7_fill_53178_5 (a0 : Nat) (n0 : Nat) (x1 : Int32) (x3 : Int32) (X : Xt) (e : Hp) : Prop := G X e 0 0 20 [] []
def b_J7_fill_53178_5 (a0 : Nat) (n0 : Nat) (x1 : Int32) (x3 : Int32) (x2 : Int32) (h : Hp) : Option ((Int32 × Hp) ⊕ Hp) :=
  if x3 ≤ x2 then
  some (.inr ( h))
  else
  (inb x2 n0).bind fun j2 =>
  some (.inl ((x2 + (1 : Int32)), (sA h a0 j2 x1)))
set_option maxRecDepth 20000 in
theorem wb_J7_fill_53178_5 {X : Xt} (C : Cx X "java/util/Arrays" prog_21_method_103_code 4 none 1 0 0) (a0 : Nat) (n0 : Nat) (Ka0 : kd a0 = .inr (0, some n0)) (Ba0 : a0 < 110) (x1 : Int32) (x3 : Int32) (x2 : Int32) (h : Hp) (q : (Int32 × Hp) ⊕ Hp) (hrun : b_J7_fill_53178_5 a0 n0 x1 x3 x2 h = some q) (Ks : ∀ s, q = .inl s → kp_J7_fill_53178_5 a0 n0 x1 x3 X s) (Ke : ∀ e, q = .inr e → ke_J7_fill_53178_5 a0 n0 x1 x3 X e) : kp_J7_fill_53178_5 a0 n0 x1 x3 X (x2, h) := by
  show G X h 0 0 5 [(0, .ref a0), (1, .int x1), (2, .int x2), (3, .int x3)] []
  unfold b_J7_fill_53178_5 at hrun
  refine g_iload_n C (dat dt_J7_fill_53178 5 rfl) 2 rfl ?_
  refine g_iload_n C (dat dt_J7_fill_53178 6 rfl) 3 rfl ?_
  refine g_ic_ge 20 C (dat dt_J7_fill_53178 7 rfl) (by decide) (fun c1 => ?_) (fun c1 => ?_)
  · rw [if_pos c1] at hrun
    refine g_sub [] (lv' := []) rfl ?_
    cases hrun
    exact Ke ( h) rfl
  · rw [if_neg c1] at hrun
    refine g_aload_n C (dat dt_J7_fill_53178 8 rfl) 0 rfl ?_
    refine g_iload_n C (dat dt_J7_fill_53178 9 rfl) 2 rfl ?_
    refine g_iload_n C (dat dt_J7_fill_53178 10 rfl) 1 rfl ?_
    obtain ⟨j2, q3, hrun⟩ := bd hrun
    refine g_iast (j := j2) C (dat dt_J7_fill_53178 11 rfl) Ka0 (Or.inl Ba0) q3  ?_
    refine g_iinc (v := (x2 + (1 : Int32))) (lv' := [(0, .ref a0), (1, .int x1), (2, .int (x2 + (1 : Int32))), (3, .int x3)]) C (dat dt_J7_fill_53178 12 rfl) 2 rfl (congrArg (fun z => x2 + z) ic_1) (by decide) rfl ?_
    refine g_goto 5 C (dat dt_J7_fill_53178 13 rfl) (by decide) ?_
    cases hrun
    exact Ks ((x2 + (1 : Int32)), (sA h a0 j2 x1)) rfl
def f_J7_fill_53178 (a0 : Nat) (n0 : Nat) (x1 : Int32) (h : Hp) : Option (Unit × Hp) :=
  (lp (fun s => b_J7_fill_53178_5 a0 n0 x1 (Int32.ofNat n0) s.1 s.2) FU ((0 : Int32), h)).bind fun e4 =>
  some ((), e4)
set_option maxRecDepth 20000 in
theorem w_J7_fill_53178 (a0 : Nat) (n0 : Nat) (x1 : Int32) (h : Hp) (q : (Unit × Hp)) (Ka0 : kd a0 = .inr (0, some n0)) (Ba0 : a0 < 110) (hrun : f_J7_fill_53178 a0 n0 x1 h = some q) : MetA ⟨"java/util/Arrays", "fill", "([II)V"⟩ prog_21_method_103_code 4 none 1 0 0 [.ref a0, .int x1] h none q.2 := by
  refine metA_ofJ (by decide +kernel) (Nat.le_of_ble_eq_true rfl) (fun X C K => ?_)
  have C : Cx X "java/util/Arrays" prog_21_method_103_code 4 none 1 0 0 := C
  show G X h 0 0 0 [(0, .ref a0), (1, .int x1)] []
  unfold f_J7_fill_53178 at hrun
  refine g_iconst C (dat dt_J7_fill_53178 0 rfl) ic_0 ?_
  refine g_istore_n (lv' := [(0, .ref a0), (1, .int x1), (2, .int (0 : Int32))]) C (dat dt_J7_fill_53178 1 rfl) (by decide) rfl ?_
  refine g_aload_n C (dat dt_J7_fill_53178 2 rfl) 0 rfl ?_
  refine g_alen (v := (Int32.ofNat n0)) C (dat dt_J7_fill_53178 3 rfl) Ka0 (by decide) (Or.inl Ba0) rfl ?_
  refine g_istore_n (lv' := [(0, .ref a0), (1, .int x1), (2, .int (0 : Int32)), (3, .int (Int32.ofNat n0))]) C (dat dt_J7_fill_53178 4 rfl) (by decide) rfl ?_
  obtain ⟨e4, q5, hrun⟩ := bd hrun
  refine lp_ind (P := fun s => kp_J7_fill_53178_5 a0 n0 x1 (Int32.ofNat n0) X s) (K := fun e => ke_J7_fill_53178_5 a0 n0 x1 (Int32.ofNat n0) X e) (fun s q hb Ks Ke => wb_J7_fill_53178_5 C a0 n0 Ka0 Ba0 x1 (Int32.ofNat n0) s.1 s.2 q hb Ks Ke) FU ((0 : Int32), h) e4 q5 ?_
  show G X e4 0 0 20 [] []
  cases hrun
  exact g_vret C K (dat dt_J7_fill_53178 14 rfl)
/-! java/util/Arrays.fill([JJ)V -/
def dl_J7_fill_d0a16 : List (Nat × Instr × Nat) := [(0, .iconst 0, 1), (1, .istore_n 3, 1), (2, .aload_n 0, 1), (3, .arraylength, 1), (4, .istore 4, 2), (6, .iload_n 3, 1), (7, .iload 4, 2), (9, .if_icmp .ge 13, 3), (12, .aload_n 0, 1), (13, .iload_n 3, 1), (14, .lload_n 1, 1), (15, .lastore, 1), (16, .iinc 3 1, 3), (19, .goto (-13), 3), (22, .return_, 1)]
set_option maxRecDepth 20000 in
theorem dt_J7_fill_d0a16 : ∀ q ∈ dl_J7_fill_d0a16, decode prog_21_method_101_code q.1 = .ok q.2 := by decide +kernel
def kp_J7_fill_d0a16_6 (a0 : Nat) (n0 : Nat) (x1 : Int64) (x4 : Int32) (X : Xt) (s : (Int32 × Hp)) : Prop := G X s.2 0 0 6 [(0, .ref a0), (1, .long x1), (3, .int s.1), (4, .int x4)] []
def ke_J7_fill_d0a16_6 (a0 : Nat) (n0 : Nat) (x1 : Int64) (x4 : Int32) (X : Xt) (e : Hp) : Prop := G X e 0 0 22 [] []
def b_J7_fill_d0a16_6 (a0 : Nat) (n0 : Nat) (x1 : Int64) (x4 : Int32) (x3 : Int32) (h : Hp) : Option ((Int32 × Hp) ⊕ Hp) :=
  if x4 ≤ x3 then
  some (.inr ( h))
  else
  (inb x3 n0).bind fun j2 =>
  some (.inl ((x3 + (1 : Int32)), (sL h a0 j2 x1)))
set_option maxRecDepth 20000 in
theorem wb_J7_fill_d0a16_6 {X : Xt} (C : Cx X "java/util/Arrays" prog_21_method_101_code 5 none 1 0 0) (a0 : Nat) (n0 : Nat) (Ka0 : kd a0 = .inr (3, some n0)) (Ba0 : a0 < 110) (x1 : Int64) (x4 : Int32) (x3 : Int32) (h : Hp) (q : (Int32 × Hp) ⊕ Hp) (hrun : b_J7_fill_d0a16_6 a0 n0 x1 x4 x3 h = some q) (Ks : ∀ s, q = .inl s → kp_J7_fill_d0a16_6 a0 n0 x1 x4 X s) (Ke : ∀ e, q = .inr e → ke_J7_fill_d0a16_6 a0 n0 x1 x4 X e) : kp_J7_fill_d0a16_6 a0 n0 x1 x4 X (x3, h) := by
  show G X h 0 0 6 [(0, .ref a0), (1, .long x1), (3, .int x3), (4, .int x4)] []
  unfold b_J7_fill_d0a16_6 at hrun
  refine g_iload_n C (dat dt_J7_fill_d0a16 5 rfl) 2 rfl ?_
  refine g_iload C (dat dt_J7_fill_d0a16 6 rfl) 3 rfl ?_
  refine g_ic_ge 22 C (dat dt_J7_fill_d0a16 7 rfl) (by decide) (fun c1 => ?_) (fun c1 => ?_)
  · rw [if_pos c1] at hrun
    refine g_sub [] (lv' := []) rfl ?_
    cases hrun
    exact Ke ( h) rfl
  · rw [if_neg c1] at hrun
    refine g_aload_n C (dat dt_J7_fill_d0a16 8 rfl) 0 rfl ?_
    refine g_iload_n C (dat dt_J7_fill_d0a16 9 rfl) 2 rfl ?_
    refine g_lload_n C (dat dt_J7_fill_d0a16 10 rfl) 1 rfl ?_
    obtain ⟨j2, q3, hrun⟩ := bd hrun
    refine g_last (j := j2) C (dat dt_J7_fill_d0a16 11 rfl) Ka0 (Or.inl Ba0) q3  ?_
    refine g_iinc (v := (x3 + (1 : Int32))) (lv' := [(0, .ref a0), (1, .long x1), (3, .int (x3 + (1 : Int32))), (4, .int x4)]) C (dat dt_J7_fill_d0a16 12 rfl) 2 rfl (congrArg (fun z => x3 + z) ic_1) (by decide) rfl ?_
    refine g_goto 6 C (dat dt_J7_fill_d0a16 13 rfl) (by decide) ?_
    cases hrun
    exact Ks ((x3 + (1 : Int32)), (sL h a0 j2 x1)) rfl
def f_J7_fill_d0a16 (a0 : Nat) (n0 : Nat) (x1 : Int64) (h : Hp) : Option (Unit × Hp) :=
  (lp (fun s => b_J7_fill_d0a16_6 a0 n0 x1 (Int32.ofNat n0) s.1 s.2) FU ((0 : Int32), h)).bind fun e4 =>
  some ((), e4)
set_option maxRecDepth 20000 in
theorem w_J7_fill_d0a16 (a0 : Nat) (n0 : Nat) (x1 : Int64) (h : Hp) (q : (Unit × Hp)) (Ka0 : kd a0 = .inr (3, some n0)) (Ba0 : a0 < 110) (hrun : f_J7_fill_d0a16 a0 n0 x1 h = some q) : MetA ⟨"java/util/Arrays", "fill", "([JJ)V"⟩ prog_21_method_101_code 5 none 1 0 0 [.ref a0, .long x1] h none q.2 := by
  refine metA_ofJ (by decide +kernel) (Nat.le_of_ble_eq_true rfl) (fun X C K => ?_)
  have C : Cx X "java/util/Arrays" prog_21_method_101_code 5 none 1 0 0 := C
  show G X h 0 0 0 [(0, .ref a0), (1, .long x1)] []
  unfold f_J7_fill_d0a16 at hrun
  refine g_iconst C (dat dt_J7_fill_d0a16 0 rfl) ic_0 ?_
  refine g_istore_n (lv' := [(0, .ref a0), (1, .long x1), (3, .int (0 : Int32))]) C (dat dt_J7_fill_d0a16 1 rfl) (by decide) rfl ?_
  refine g_aload_n C (dat dt_J7_fill_d0a16 2 rfl) 0 rfl ?_
  refine g_alen (v := (Int32.ofNat n0)) C (dat dt_J7_fill_d0a16 3 rfl) Ka0 (by decide) (Or.inl Ba0) rfl ?_
  refine g_istore (lv' := [(0, .ref a0), (1, .long x1), (3, .int (0 : Int32)), (4, .int (Int32.ofNat n0))]) C (dat dt_J7_fill_d0a16 4 rfl) (by decide) rfl ?_
  obtain ⟨e4, q5, hrun⟩ := bd hrun
  refine lp_ind (P := fun s => kp_J7_fill_d0a16_6 a0 n0 x1 (Int32.ofNat n0) X s) (K := fun e => ke_J7_fill_d0a16_6 a0 n0 x1 (Int32.ofNat n0) X e) (fun s q hb Ks Ke => wb_J7_fill_d0a16_6 C a0 n0 Ka0 Ba0 x1 (Int32.ofNat n0) s.1 s.2 q hb Ks Ke) FU ((0 : Int32), h) e4 q5 ?_
  show G X e4 0 0 22 [] []
  cases hrun
  exact g_vret C K (dat dt_J7_fill_d0a16 14 rfl)
/-! java/lang/Math.abs(I)I -/
def dl_J9_abs_0f7a4 : List (Nat × Instr × Nat) := [(0, .iload_n 0, 1), (1, .ifCond .ge 8, 3), (4, .iload_n 0, 1), (5, .ineg, 1), (6, .goto 4, 3), (9, .iload_n 0, 1), (10, .ireturn, 1)]
set_option maxRecDepth 20000 in
theorem dt_J9_abs_0f7a4 : ∀ q ∈ dl_J9_abs_0f7a4, decode prog_16_method_59_code q.1 = .ok q.2 := by decide +kernel
def f_J9_abs_0f7a4 (x0 : Int32) : Option Int32 :=
  if 0 ≤ x0 then
  some x0
  else
  some (-x0)
set_option maxRecDepth 20000 in
theorem w_J9_abs_0f7a4 (x0 : Int32) (h : Hp) (q : Int32)  (hrun : f_J9_abs_0f7a4 x0 = some q) : MetA ⟨"java/lang/Math", "abs", "(I)I"⟩ prog_16_method_59_code 1 (some .int) 1 0 0 [.int x0] h (some (.int q)) h := by
  refine metA_ofJ (by decide +kernel) (Nat.le_of_ble_eq_true rfl) (fun X C K => ?_)
  have C : Cx X "java/lang/Math" prog_16_method_59_code 1 (some .int) 1 0 0 := C
  show G X h 0 0 0 [(0, .int x0)] []
  unfold f_J9_abs_0f7a4 at hrun
  refine g_iload_n C (dat dt_J9_abs_0f7a4 0 rfl) 0 rfl ?_
  refine g_if_ge 9 C (dat dt_J9_abs_0f7a4 1 rfl) (by decide) (fun c1 => ?_) (fun c1 => ?_)
  · rw [if_pos c1] at hrun
    refine g_iload_n C (dat dt_J9_abs_0f7a4 5 rfl) 0 rfl ?_
    cases hrun
    exact g_iret C K (dat dt_J9_abs_0f7a4 6 rfl)
  · rw [if_neg c1] at hrun
    refine g_iload_n C (dat dt_J9_abs_0f7a4 2 rfl) 0 rfl ?_
    refine g_ineg C (dat dt_J9_abs_0f7a4 3 rfl) ?_
    refine g_goto 10 C (dat dt_J9_abs_0f7a4 4 rfl) (by decide) ?_
    cases hrun
    exact g_iret C K (dat dt_J9_abs_0f7a4 6 rfl)
/-! java/lang/Math.max(II)I -/
def dl_J9_max_7cf53 : List (Nat × Instr × Nat) := [(0, .iload_n 0, 1), (1, .iload_n 1, 1), (2, .if_icmp .lt 7, 3), (5, .iload_n 0, 1), (6, .goto 4, 3), (9, .iload_n 1, 1), (10, .ireturn, 1)]
set_option maxRecDepth 20000 in
theorem dt_J9_max_7cf53 : ∀ q ∈ dl_J9_max_7cf53, decode prog_16_method_65_code q.1 = .ok q.2 := by decide +kernel
def f_J9_max_7cf53 (x0 : Int32) (x1 : Int32) : Option Int32 :=
  if x0 < x1 then
  some x1
  else
  some x0
set_option maxRecDepth 20000 in
theorem w_J9_max_7cf53 (x0 : Int32) (x1 : Int32) (h : Hp) (q : Int32)  (hrun : f_J9_max_7cf53 x0 x1 = some q) : MetA ⟨"java/lang/Math", "max", "(II)I"⟩ prog_16_method_65_code 2 (some .int) 1 0 0 [.int x0, .int x1] h (some (.int q)) h := by
  refine metA_ofJ (by decide +kernel) (Nat.le_of_ble_eq_true rfl) (fun X C K => ?_)
  have C : Cx X "java/lang/Math" prog_16_method_65_code 2 (some .int) 1 0 0 := C
  show G X h 0 0 0 [(0, .int x0), (1, .int x1)] []
  unfold f_J9_max_7cf53 at hrun
  refine g_iload_n C (dat dt_J9_max_7cf53 0 rfl) 0 rfl ?_
  refine g_iload_n C (dat dt_J9_max_7cf53 1 rfl) 1 rfl ?_
  refine g_ic_lt 9 C (dat dt_J9_max_7cf53 2 rfl) (by decide) (fun c1 => ?_) (fun c1 => ?_)
  · rw [if_pos c1] at hrun
    refine g_iload_n C (dat dt_J9_max_7cf53 5 rfl) 1 rfl ?_
    cases hrun
    exact g_iret C K (dat dt_J9_max_7cf53 6 rfl)
  · rw [if_neg c1] at hrun
    refine g_iload_n C (dat dt_J9_max_7cf53 3 rfl) 0 rfl ?_
    refine g_goto 10 C (dat dt_J9_max_7cf53 4 rfl) (by decide) ?_
    cases hrun
    exact g_iret C K (dat dt_J9_max_7cf53 6 rfl)
/-! SteamNations$Past.clear()V -/
def dl_X4_clear : List (Nat × Instr × Nat) := [(0, .aload_n 0, 1), (1, .iconst 0, 1), (2, .putfield 15, 3), (5, .return_, 1)]
set_option maxRecDepth 20000 in
theorem dt_X4_clear : ∀ q ∈ dl_X4_clear, decode prog_6_method_2_code q.1 = .ok q.2 := by decide +kernel
def f_X4_clear (a0 : Nat) (h : Hp) : Option (Unit × Hp) :=
  some ((), (sF h a0 2 (0 : Int32)))
set_option maxRecDepth 20000 in
theorem w_X4_clear (a0 : Nat) (h : Hp) (q : (Unit × Hp)) (Ha0 : IsPast a0) (hrun : f_X4_clear a0 h = some q) : MetA ⟨"SteamNations$Past", "clear", "()V"⟩ prog_6_method_2_code 1 none 1 0 0 [.ref a0] h none q.2 := by
  refine metA_of (by decide) (Nat.le_of_ble_eq_true rfl) (fun X C K => ?_)
  have C : Cx X cn_4 prog_6_method_2_code 1 none 1 0 0 := C
  show G X h 0 0 0 [(0, .ref a0)] []
  unfold f_X4_clear at hrun
  refine g_aload_n C (dat dt_X4_clear 0 rfl) 0 rfl ?_
  refine g_iconst C (dat dt_X4_clear 1 rfl) ic_0 ?_
  refine g_putI C (dat dt_X4_clear 2 rfl) fl_4_15 rfl rfl Ha0.1 rfl (pb0 Ha0) ?_
  cases hrun
  exact g_vret C K (dat dt_X4_clear 3 rfl)
/-! SteamNations$House.hasLaw(I)Z -/
def dl_X1_hasLaw : List (Nat × Instr × Nat) := [(0, .iload_n 1, 1), (1, .ifCond .lt 21, 3), (4, .iload_n 1, 1), (5, .aload_n 0, 1), (6, .getfield 40, 3), (9, .if_icmp .ge 13, 3), (12, .iload_n 1, 1), (13, .bipush 6, 2), (15, .if_icmp .ge 7, 3), (18, .iconst 1, 1), (19, .goto 4, 3), (22, .iconst 0, 1), (23, .ireturn, 1)]
set_option maxRecDepth 20000 in
theorem dt_X1_hasLaw : ∀ q ∈ dl_X1_hasLaw, decode prog_3_method_3_code q.1 = .ok q.2 := by decide +kernel
def f_X1_hasLaw (a0 : Nat) (x1 : Int32) (h : Hp) : Option Bool :=
  if x1 < 0 then
  some false
  else
  if (fI h a0 3) ≤ x1 then
  some false
  else
  if (6 : Int32) ≤ x1 then
  some false
  else
  some true
set_option maxRecDepth 20000 in
theorem w_X1_hasLaw (a0 : Nat) (x1 : Int32) (h : Hp) (q : Bool) (Ha0 : IsHouse a0) (hrun : f_X1_hasLaw a0 x1 h = some q) : MetA ⟨"SteamNations$House", "hasLaw", "(I)Z"⟩ prog_3_method_3_code 2 (some .boolean) 1 0 0 [.ref a0, .int x1] h (some (.int (b2i q))) h := by
  refine metA_of (by decide) (Nat.le_of_ble_eq_true rfl) (fun X C K => ?_)
  have C : Cx X cn_1 prog_3_method_3_code 2 (some .boolean) 1 0 0 := C
  show G X h 0 0 0 [(0, .ref a0), (1, .int x1)] []
  unfold f_X1_hasLaw at hrun
  refine g_iload_n C (dat dt_X1_hasLaw 0 rfl) 1 rfl ?_
  refine g_if_lt 22 C (dat dt_X1_hasLaw 1 rfl) (by decide) (fun c1 => ?_) (fun c1 => ?_)
  · rw [if_pos c1] at hrun
    refine g_iconst C (dat dt_X1_hasLaw 11 rfl) ic_0 ?_
    cases hrun
    exact g_zret C K (show (0 : Int32) = b2i false by decide) (dat dt_X1_hasLaw 12 rfl)
  · rw [if_neg c1] at hrun
    refine g_iload_n C (dat dt_X1_hasLaw 2 rfl) 1 rfl ?_
    refine g_aload_n C (dat dt_X1_hasLaw 3 rfl) 0 rfl ?_
    refine g_getI C (dat dt_X1_hasLaw 4 rfl) fl_1_40 Ha0.1 rfl (hb0 Ha0) ?_
    refine g_ic_ge 22 C (dat dt_X1_hasLaw 5 rfl) (by decide) (fun c2 => ?_) (fun c2 => ?_)
    · rw [if_pos c2] at hrun
      refine g_iconst C (dat dt_X1_hasLaw 11 rfl) ic_0 ?_
      cases hrun
      exact g_zret C K (show (0 : Int32) = b2i false by decide) (dat dt_X1_hasLaw 12 rfl)
    · rw [if_neg c2] at hrun
      refine g_iload_n C (dat dt_X1_hasLaw 6 rfl) 1 rfl ?_
      refine g_bipush C (dat dt_X1_hasLaw 7 rfl) bp_6 ?_
      refine g_ic_ge 22 C (dat dt_X1_hasLaw 8 rfl) (by decide) (fun c3 => ?_) (fun c3 => ?_)
      · rw [if_pos c3] at hrun
        refine g_iconst C (dat dt_X1_hasLaw 11 rfl) ic_0 ?_
        cases hrun
        exact g_zret C K (show (0 : Int32) = b2i false by decide) (dat dt_X1_hasLaw 12 rfl)
      · rw [if_neg c3] at hrun
        refine g_iconst C (dat dt_X1_hasLaw 9 rfl) ic_1 ?_
        refine g_goto 23 C (dat dt_X1_hasLaw 10 rfl) (by decide) ?_
        cases hrun
        exact g_zret C K (show (1 : Int32) = b2i true by decide) (dat dt_X1_hasLaw 12 rfl)
/-! SteamNations$House.lawAt(I)LSteamNations$Text; -/
def dl_X1_lawAt : List (Nat × Instr × Nat) := [(0, .aload_n 0, 1), (1, .iload_n 1, 1), (2, .invokevirtual 52, 3), (5, .ifCond .eq 21, 3), (8, .aload_n 0, 1), (9, .getfield 20, 3), (12, .iload_n 1, 1), (13, .aaload, 1), (14, .ifnull 12, 3), (17, .aload_n 0, 1), (18, .getfield 20, 3), (21, .iload_n 1, 1), (22, .aaload, 1), (23, .goto 7, 3), (26, .aload_n 0, 1), (27, .getfield 32, 3), (30, .areturn, 1)]
set_option maxRecDepth 20000 in
theorem dt_X1_lawAt : ∀ q ∈ dl_X1_lawAt, decode prog_3_method_4_code q.1 = .ok q.2 := by decide +kernel
def f_X1_lawAt (a0 : Nat) (x1 : Int32) (h : Hp) : Option Nat :=
  (f_X1_hasLaw a0 x1 h).bind fun v1 =>
  if v1 = true then
  (inb x1 6).bind fun j4 =>
  oc (aO h (a0 + 6) j4) (
  some 26) (fun v6 =>
  (inb x1 6).bind fun j8 =>
  oc (aO h (a0 + 6) j8) (
  none) (fun v10 =>
  some v10))
  else
  some 26
set_option maxRecDepth 20000 in
theorem w_X1_lawAt (a0 : Nat) (x1 : Int32) (h : Hp) (q : Nat) (Ha0 : IsHouse a0) (hrun : f_X1_lawAt a0 x1 h = some q) : MetA ⟨"SteamNations$House", "lawAt", "(I)LSteamNations$Text;"⟩ prog_3_method_4_code 2 (some (.object "SteamNations$Text")) 2 0 0 [.ref a0, .int x1] h (some (.ref q)) h := by
  refine metA_of (by decide) (Nat.le_of_ble_eq_true rfl) (fun X C K => ?_)
  have C : Cx X cn_1 prog_3_method_4_code 2 (some (.object "SteamNations$Text")) 2 0 0 := C
  show G X h 0 0 0 [(0, .ref a0), (1, .int x1)] []
  unfold f_X1_lawAt at hrun
  refine g_aload_n C (dat dt_X1_lawAt 0 rfl) 0 rfl ?_
  refine g_iload_n C (dat dt_X1_lawAt 1 rfl) 1 rfl ?_
  obtain ⟨v1, q2, hrun⟩ := bd hrun
  refine g_cVi [.int x1] C (dat dt_X1_lawAt 2 rfl) ml_1_52 (w_X1_hasLaw a0 x1 h v1 Ha0 q2) Ha0.1 (hb0 Ha0) rfl rfl cat0 (by decide) c00 ?_
  refine g_if_eq 26 C (dat dt_X1_lawAt 3 rfl) (by decide) (fun c3 => ?_) (fun c3 => ?_)
  · rw [if_neg (b2i_z c3)] at hrun
    refine g_aload_n C (dat dt_X1_lawAt 14 rfl) 0 rfl ?_
    refine g_getR C (dat dt_X1_lawAt 15 rfl) fl_1_32 Ha0.1 rfl (hb0 Ha0) ?_
    cases hrun
    exact g_aret C K (dat dt_X1_lawAt 16 rfl)
  · rw [if_pos (b2i_nz c3)] at hrun
    refine g_aload_n C (dat dt_X1_lawAt 4 rfl) 0 rfl ?_
    refine g_getR C (dat dt_X1_lawAt 5 rfl) fl_1_20 Ha0.1 rfl (hb0 Ha0) ?_
    refine g_iload_n C (dat dt_X1_lawAt 6 rfl) 1 rfl ?_
    obtain ⟨j4, q5, hrun⟩ := bd hrun
    refine g_aald C (dat dt_X1_lawAt 7 rfl) Ha0.2.2.1 (Or.inl rfl) (hb6 Ha0) q5 (fun o7 => ?_) (fun v6 o7 => ?_)
    · rw [o7, oc_n] at hrun
      refine g_ifnullN 26 C (dat dt_X1_lawAt 8 rfl) (by decide) ?_
      refine g_aload_n C (dat dt_X1_lawAt 14 rfl) 0 rfl ?_
      refine g_getR C (dat dt_X1_lawAt 15 rfl) fl_1_32 Ha0.1 rfl (hb0 Ha0) ?_
      cases hrun
      exact g_aret C K (dat dt_X1_lawAt 16 rfl)
    · rw [o7, oc_s] at hrun
      refine g_ifnull C (dat dt_X1_lawAt 8 rfl) ?_
      refine g_aload_n C (dat dt_X1_lawAt 9 rfl) 0 rfl ?_
      refine g_getR C (dat dt_X1_lawAt 10 rfl) fl_1_20 Ha0.1 rfl (hb0 Ha0) ?_
      refine g_iload_n C (dat dt_X1_lawAt 11 rfl) 1 rfl ?_
      obtain ⟨j8, q9, hrun⟩ := bd hrun
      refine g_aald C (dat dt_X1_lawAt 12 rfl) Ha0.2.2.1 (Or.inl rfl) (hb6 Ha0) q9 (fun o11 => ?_) (fun v10 o11 => ?_)
      · rw [o11, oc_n] at hrun
        refine g_goto 30 C (dat dt_X1_lawAt 13 rfl) (by decide) ?_
        cases hrun
      · rw [o11, oc_s] at hrun
        refine g_goto 30 C (dat dt_X1_lawAt 13 rfl) (by decide) ?_
        cases hrun
        exact g_aret C K (dat dt_X1_lawAt 16 rfl)
/-! SteamNations$House.inForce()LSteamNations$Text; -/
def dl_X1_inForce : List (Nat × Instr × Nat) := [(0, .aload_n 0, 1), (1, .aload_n 0, 1), (2, .getfield 24, 3), (5, .invokevirtual 56, 3), (8, .areturn, 1)]
set_option maxRecDepth 20000 in
theorem dt_X1_inForce : ∀ q ∈ dl_X1_inForce, decode prog_3_method_5_code q.1 = .ok q.2 := by decide +kernel
def f_X1_inForce (a0 : Nat) (h : Hp) : Option Nat :=
  (f_X1_lawAt a0 (fI h a0 4) h).bind fun v1 =>
  some v1
set_option maxRecDepth 20000 in
theorem w_X1_inForce (a0 : Nat) (h : Hp) (q : Nat) (Ha0 : IsHouse a0) (hrun : f_X1_inForce a0 h = some q) : MetA ⟨"SteamNations$House", "inForce", "()LSteamNations$Text;"⟩ prog_3_method_5_code 1 (some (.object "SteamNations$Text")) 3 0 0 [.ref a0] h (some (.ref q)) h := by
  refine metA_of (by decide) (Nat.le_of_ble_eq_true rfl) (fun X C K => ?_)
  have C : Cx X cn_1 prog_3_method_5_code 1 (some (.object "SteamNations$Text")) 3 0 0 := C
  show G X h 0 0 0 [(0, .ref a0)] []
  unfold f_X1_inForce at hrun
  refine g_aload_n C (dat dt_X1_inForce 0 rfl) 0 rfl ?_
  refine g_aload_n C (dat dt_X1_inForce 1 rfl) 0 rfl ?_
  refine g_getI C (dat dt_X1_inForce 2 rfl) fl_1_24 Ha0.1 rfl (hb0 Ha0) ?_
  obtain ⟨v1, q2, hrun⟩ := bd hrun
  refine g_cVr [.int (fI h a0 4)] C (dat dt_X1_inForce 3 rfl) ml_1_56 (w_X1_lawAt a0 (fI h a0 4) h v1 Ha0 q2) Ha0.1 (hb0 Ha0) rfl rfl cat0 (by decide) c00 ?_
  cases hrun
  exact g_aret C K (dat dt_X1_inForce 4 rfl)
/-! SteamNations$Text.hasKind(I)Z -/
def dl_X9_hasKind : List (Nat × Instr × Nat) := [(0, .aload_n 0, 1), (1, .getfield 22, 3), (4, .iload_n 1, 1), (5, .ishr, 1), (6, .iconst 1, 1), (7, .iand, 1), (8, .iconst 1, 1), (9, .if_icmp .ne 7, 3), (12, .iconst 1, 1), (13, .goto 4, 3), (16, .iconst 0, 1), (17, .ireturn, 1)]
set_option maxRecDepth 20000 in
theorem dt_X9_hasKind : ∀ q ∈ dl_X9_hasKind, decode prog_11_method_2_code q.1 = .ok q.2 := by decide +kernel
def f_X9_hasKind (a0 : Nat) (x1 : Int32) (h : Hp) : Option Bool :=
  if tg h a0 = true then
  if (((fI h a0 3) >>> (x1 &&& 31)) &&& (1 : Int32)) = (1 : Int32) then
  some true
  else
  some false
  else none
set_option maxRecDepth 20000 in
theorem w_X9_hasKind (a0 : Nat) (x1 : Int32) (h : Hp) (q : Bool)  (hrun : f_X9_hasKind a0 x1 h = some q) : MetA ⟨"SteamNations$Text", "hasKind", "(I)Z"⟩ prog_11_method_2_code 2 (some .boolean) 1 0 0 [.ref a0, .int x1] h (some (.int (b2i q))) h := by
  refine metA_of (by decide) (Nat.le_of_ble_eq_true rfl) (fun X C K => ?_)
  have C : Cx X cn_9 prog_11_method_2_code 2 (some .boolean) 1 0 0 := C
  show G X h 0 0 0 [(0, .ref a0), (1, .int x1)] []
  unfold f_X9_hasKind at hrun
  refine g_aload_n C (dat dt_X9_hasKind 0 rfl) 0 rfl ?_
  by_cases g1 : tg h a0 = true
  · rw [if_pos g1] at hrun
    refine g_getI C (dat dt_X9_hasKind 1 rfl) fl_9_22 (tg_spec g1).1 rfl (tb0 g1) ?_
    refine g_iload_n C (dat dt_X9_hasKind 2 rfl) 1 rfl ?_
    refine g_ishr C (dat dt_X9_hasKind 3 rfl) ?_
    refine g_iconst C (dat dt_X9_hasKind 4 rfl) ic_1 ?_
    refine g_iand C (dat dt_X9_hasKind 5 rfl) ?_
    refine g_iconst C (dat dt_X9_hasKind 6 rfl) ic_1 ?_
    refine g_ic_ne 16 C (dat dt_X9_hasKind 7 rfl) (by decide) (fun c2 => ?_) (fun c2 => ?_)
    · rw [if_neg c2] at hrun
      refine g_iconst C (dat dt_X9_hasKind 10 rfl) ic_0 ?_
      cases hrun
      exact g_zret C K (show (0 : Int32) = b2i false by decide) (dat dt_X9_hasKind 11 rfl)
    · rw [if_pos c2] at hrun
      refine g_iconst C (dat dt_X9_hasKind 8 rfl) ic_1 ?_
      refine g_goto 17 C (dat dt_X9_hasKind 9 rfl) (by decide) ?_
      cases hrun
      exact g_zret C K (show (1 : Int32) = b2i true by decide) (dat dt_X9_hasKind 11 rfl)
  · rw [if_neg g1] at hrun
    cases hrun
/-! SteamNations$Text.markOf(II)I -/
def dl_X9_markOf : List (Nat × Instr × Nat) := [(0, .iload_n 1, 1), (1, .bipush 6, 2), (3, .imul, 1), (4, .iload_n 2, 1), (5, .iadd, 1), (6, .istore_n 3, 1), (7, .iload_n 3, 1), (8, .ifCond .lt 21, 3), (11, .iload_n 3, 1), (12, .aload_n 0, 1), (13, .getfield 15, 3), (16, .arraylength, 1), (17, .if_icmp .ge 12, 3), (20, .aload_n 0, 1), (21, .getfield 15, 3), (24, .iload_n 3, 1), (25, .iaload, 1), (26, .goto 4, 3), (29, .iconst (-1), 1), (30, .ireturn, 1)]
set_option maxRecDepth 20000 in
theorem dt_X9_markOf : ∀ q ∈ dl_X9_markOf, decode prog_11_method_3_code q.1 = .ok q.2 := by decide +kernel
def f_X9_markOf (a0 : Nat) (x1 : Int32) (x2 : Int32) (h : Hp) : Option Int32 :=
  if ((x1 * (6 : Int32)) + x2) < 0 then
  some (-1 : Int32)
  else
  if tg h a0 = true then
  if (Int32.ofNat (ln h (a0 + 2))) ≤ ((x1 * (6 : Int32)) + x2) then
  some (-1 : Int32)
  else
  (inb ((x1 * (6 : Int32)) + x2) (ln h (a0 + 2))).bind fun j4 =>
  some (aI h (a0 + 2) j4)
  else none
set_option maxRecDepth 20000 in
theorem w_X9_markOf (a0 : Nat) (x1 : Int32) (x2 : Int32) (h : Hp) (q : Int32)  (hrun : f_X9_markOf a0 x1 x2 h = some q) : MetA ⟨"SteamNations$Text", "markOf", "(II)I"⟩ prog_11_method_3_code 4 (some .int) 1 0 0 [.ref a0, .int x1, .int x2] h (some (.int q)) h := by
  refine metA_of (by decide) (Nat.le_of_ble_eq_true rfl) (fun X C K => ?_)
  have C : Cx X cn_9 prog_11_method_3_code 4 (some .int) 1 0 0 := C
  show G X h 0 0 0 [(0, .ref a0), (1, .int x1), (2, .int x2)] []
  unfold f_X9_markOf at hrun
  refine g_iload_n C (dat dt_X9_markOf 0 rfl) 1 rfl ?_
  refine g_bipush C (dat dt_X9_markOf 1 rfl) bp_6 ?_
  refine g_imul C (dat dt_X9_markOf 2 rfl) ?_
  refine g_iload_n C (dat dt_X9_markOf 3 rfl) 2 rfl ?_
  refine g_iadd C (dat dt_X9_markOf 4 rfl) ?_
  refine g_istore_n (lv' := [(0, .ref a0), (1, .int x1), (2, .int x2), (3, .int ((x1 * (6 : Int32)) + x2))]) C (dat dt_X9_markOf 5 rfl) (by decide) rfl ?_
  refine g_iload_n C (dat dt_X9_markOf 6 rfl) 3 rfl ?_
  refine g_if_lt 29 C (dat dt_X9_markOf 7 rfl) (by decide) (fun c1 => ?_) (fun c1 => ?_)
  · rw [if_pos c1] at hrun
    refine g_iconst C (dat dt_X9_markOf 18 rfl) ic_m1 ?_
    cases hrun
    exact g_iret C K (dat dt_X9_markOf 19 rfl)
  · rw [if_neg c1] at hrun
    refine g_iload_n C (dat dt_X9_markOf 8 rfl) 3 rfl ?_
    refine g_aload_n C (dat dt_X9_markOf 9 rfl) 0 rfl ?_
    by_cases g2 : tg h a0 = true
    · rw [if_pos g2] at hrun
      refine g_getR C (dat dt_X9_markOf 10 rfl) fl_9_15 (tg_spec g2).1 rfl (tb0 g2) ?_
      refine g_alen (v := (Int32.ofNat (ln h (a0 + 2)))) C (dat dt_X9_markOf 11 rfl) (tg_spec g2).2.2.1 (by decide) (tb2 g2) rfl ?_
      refine g_ic_ge 29 C (dat dt_X9_markOf 12 rfl) (by decide) (fun c3 => ?_) (fun c3 => ?_)
      · rw [if_pos c3] at hrun
        refine g_iconst C (dat dt_X9_markOf 18 rfl) ic_m1 ?_
        cases hrun
        exact g_iret C K (dat dt_X9_markOf 19 rfl)
      · rw [if_neg c3] at hrun
        refine g_aload_n C (dat dt_X9_markOf 13 rfl) 0 rfl ?_
        refine g_getR C (dat dt_X9_markOf 14 rfl) fl_9_15 (tg_spec g2).1 rfl (tb0 g2) ?_
        refine g_iload_n C (dat dt_X9_markOf 15 rfl) 3 rfl ?_
        obtain ⟨j4, q5, hrun⟩ := bd hrun
        refine g_iald C (dat dt_X9_markOf 16 rfl) (tg_spec g2).2.2.1 (tb2 g2) q5 ?_
        refine g_goto 30 C (dat dt_X9_markOf 17 rfl) (by decide) ?_
        cases hrun
        exact g_iret C K (dat dt_X9_markOf 19 rfl)
    · rw [if_neg g2] at hrun
      cases hrun
/-! SteamNations$House.addLaw(LSteamNations$Text;)I -/
def dl_X1_addLaw : List (Nat × Instr × Nat) := [(0, .aload_n 0, 1), (1, .getfield 40, 3), (4, .bipush 6, 2), (6, .if_icmp .lt 6, 3), (9, .bipush (-5), 2), (11, .ireturn, 1), (12, .aload_n 0, 1), (13, .getfield 20, 3), (16, .aload_n 0, 1), (17, .getfield 40, 3), (20, .aload_n 1, 1), (21, .aastore, 1), (22, .aload_n 0, 1), (23, .dup, 1), (24, .getfield 40, 3), (27, .iconst 1, 1), (28, .iadd, 1), (29, .putfield 40, 3), (32, .aload_n 0, 1), (33, .getfield 40, 3), (36, .iconst 1, 1), (37, .isub, 1), (38, .ireturn, 1)]
set_option maxRecDepth 20000 in
theorem dt_X1_addLaw : ∀ q ∈ dl_X1_addLaw, decode prog_3_method_6_code q.1 = .ok q.2 := by decide +kernel
def f_X1_addLaw (a0 : Nat) (a1 : Nat) (h : Hp) : Option (Int32 × Hp) :=
  if (fI h a0 3) < (6 : Int32) then
  if tg h a1 = true then
  (inb (fI h a0 3) 6).bind fun j2 =>
  some (((fI (sF (sO h (a0 + 6) j2 (some a1)) a0 3 ((fI (sO h (a0 + 6) j2 (some a1)) a0 3) + (1 : Int32))) a0 3) - (1 : Int32)), (sF (sO h (a0 + 6) j2 (some a1)) a0 3 ((fI (sO h (a0 + 6) j2 (some a1)) a0 3) + (1 : Int32))))
  else none
  else
  some ((-5 : Int32), h)
set_option maxRecDepth 20000 in
theorem w_X1_addLaw (a0 : Nat) (a1 : Nat) (h : Hp) (q : (Int32 × Hp)) (Ha0 : IsHouse a0) (hrun : f_X1_addLaw a0 a1 h = some q) : MetA ⟨"SteamNations$House", "addLaw", "(LSteamNations$Text;)I"⟩ prog_3_method_6_code 2 (some .int) 1 0 0 [.ref a0, .ref a1] h (some (.int q.1)) q.2 := by
  refine metA_of (by decide) (Nat.le_of_ble_eq_true rfl) (fun X C K => ?_)
  have C : Cx X cn_1 prog_3_method_6_code 2 (some .int) 1 0 0 := C
  show G X h 0 0 0 [(0, .ref a0), (1, .ref a1)] []
  unfold f_X1_addLaw at hrun
  refine g_aload_n C (dat dt_X1_addLaw 0 rfl) 0 rfl ?_
  refine g_getI C (dat dt_X1_addLaw 1 rfl) fl_1_40 Ha0.1 rfl (hb0 Ha0) ?_
  refine g_bipush C (dat dt_X1_addLaw 2 rfl) bp_6 ?_
  refine g_ic_lt 12 C (dat dt_X1_addLaw 3 rfl) (by decide) (fun c1 => ?_) (fun c1 => ?_)
  · rw [if_pos c1] at hrun
    refine g_aload_n C (dat dt_X1_addLaw 6 rfl) 0 rfl ?_
    refine g_getR C (dat dt_X1_addLaw 7 rfl) fl_1_20 Ha0.1 rfl (hb0 Ha0) ?_
    refine g_aload_n C (dat dt_X1_addLaw 8 rfl) 0 rfl ?_
    refine g_getI C (dat dt_X1_addLaw 9 rfl) fl_1_40 Ha0.1 rfl (hb0 Ha0) ?_
    refine g_aload_n C (dat dt_X1_addLaw 10 rfl) 1 rfl ?_
    by_cases g4 : tg h a1 = true
    · rw [if_pos g4] at hrun
      obtain ⟨j2, q3, hrun⟩ := bd hrun
      refine g_aastT C (dat dt_X1_addLaw 11 rfl) Ha0.2.2.1 (hb6 Ha0) q3 (tg_spec g4).1 (tb0 g4) ?_
      refine g_aload_n C (dat dt_X1_addLaw 12 rfl) 0 rfl ?_
      refine g_dup C (dat dt_X1_addLaw 13 rfl) rfl ?_
      refine g_getI C (dat dt_X1_addLaw 14 rfl) fl_1_40 Ha0.1 rfl (hb0 Ha0) ?_
      refine g_iconst C (dat dt_X1_addLaw 15 rfl) ic_1 ?_
      refine g_iadd C (dat dt_X1_addLaw 16 rfl) ?_
      refine g_putI C (dat dt_X1_addLaw 17 rfl) fl_1_40 rfl rfl Ha0.1 rfl (hb0 Ha0) ?_
      refine g_aload_n C (dat dt_X1_addLaw 18 rfl) 0 rfl ?_
      refine g_getI C (dat dt_X1_addLaw 19 rfl) fl_1_40 Ha0.1 rfl (hb0 Ha0) ?_
      refine g_iconst C (dat dt_X1_addLaw 20 rfl) ic_1 ?_
      refine g_isub C (dat dt_X1_addLaw 21 rfl) ?_
      cases hrun
      exact g_iret C K (dat dt_X1_addLaw 22 rfl)
    · rw [if_neg g4] at hrun
      cases hrun
  · rw [if_neg c1] at hrun
    refine g_bipush C (dat dt_X1_addLaw 4 rfl) bp_m5 ?_
    cases hrun
    exact g_iret C K (dat dt_X1_addLaw 5 rfl)
/-! SteamNations$Past.copyFrom(LSteamNations$Past;)V -/
def dl_X4_copyFrom : List (Nat × Instr × Nat) := [(0, .aload_n 1, 1), (1, .getfield 11, 3), (4, .iconst 0, 1), (5, .aload_n 0, 1), (6, .getfield 11, 3), (9, .iconst 0, 1), (10, .aload_n 0, 1), (11, .getfield 11, 3), (14, .arraylength, 1), (15, .invokestatic 19, 3), (18, .aload_n 0, 1), (19, .aload_n 1, 1), (20, .getfield 25, 3), (23, .putfield 25, 3), (26, .aload_n 0, 1), (27, .aload_n 1, 1), (28, .getfield 15, 3), (31, .putfield 15, 3), (34, .return_, 1)]
set_option maxRecDepth 20000 in
theorem dt_X4_copyFrom : ∀ q ∈ dl_X4_copyFrom, decode prog_6_method_3_code q.1 = .ok q.2 := by decide +kernel
def f_X4_copyFrom (a0 : Nat) (a1 : Nat) (h : Hp) : Option (Unit × Hp) :=
  (icp (0 : Int32) (0 : Int32) (416 : Int32) 416 416).bind fun q1 =>
  some ((), (sF (sF (cpA h (a1 + 1) q1.1 (a0 + 1) q1.2.1 q1.2.2) a0 1 (fI (cpA h (a1 + 1) q1.1 (a0 + 1) q1.2.1 q1.2.2) a1 1)) a0 2 (fI (sF (cpA h (a1 + 1) q1.1 (a0 + 1) q1.2.1 q1.2.2) a0 1 (fI (cpA h (a1 + 1) q1.1 (a0 + 1) q1.2.1 q1.2.2) a1 1)) a1 2)))
set_option maxRecDepth 20000 in
theorem w_X4_copyFrom (a0 : Nat) (a1 : Nat) (h : Hp) (q : (Unit × Hp)) (Ha0 : IsPast a0) (Ha1 : IsPast a1) (hrun : f_X4_copyFrom a0 a1 h = some q) : MetA ⟨"SteamNations$Past", "copyFrom", "(LSteamNations$Past;)V"⟩ prog_6_method_3_code 2 none 1 0 0 [.ref a0, .ref a1] h none q.2 := by
  refine metA_of (by decide) (Nat.le_of_ble_eq_true rfl) (fun X C K => ?_)
  have C : Cx X cn_4 prog_6_method_3_code 2 none 1 0 0 := C
  show G X h 0 0 0 [(0, .ref a0), (1, .ref a1)] []
  unfold f_X4_copyFrom at hrun
  refine g_aload_n C (dat dt_X4_copyFrom 0 rfl) 1 rfl ?_
  refine g_getR C (dat dt_X4_copyFrom 1 rfl) fl_4_11 Ha1.1 rfl (pb0 Ha1) ?_
  refine g_iconst C (dat dt_X4_copyFrom 2 rfl) ic_0 ?_
  refine g_aload_n C (dat dt_X4_copyFrom 3 rfl) 0 rfl ?_
  refine g_getR C (dat dt_X4_copyFrom 4 rfl) fl_4_11 Ha0.1 rfl (pb0 Ha0) ?_
  refine g_iconst C (dat dt_X4_copyFrom 5 rfl) ic_0 ?_
  refine g_aload_n C (dat dt_X4_copyFrom 6 rfl) 0 rfl ?_
  refine g_getR C (dat dt_X4_copyFrom 7 rfl) fl_4_11 Ha0.1 rfl (pb0 Ha0) ?_
  refine g_alen (v := (416 : Int32)) C (dat dt_X4_copyFrom 8 rfl) Ha0.2.1 (by decide) (pb1 Ha0) rfl ?_
  obtain ⟨q1, q2, hrun⟩ := bd hrun
  refine g_acopy C (dat dt_X4_copyFrom 9 rfl) al_4_19 Ha1.2.1 Ha0.2.1 (pb1 Ha1) (pb1 Ha0) q2 rfl (by decide) ?_
  refine g_aload_n C (dat dt_X4_copyFrom 10 rfl) 0 rfl ?_
  refine g_aload_n C (dat dt_X4_copyFrom 11 rfl) 1 rfl ?_
  refine g_getI C (dat dt_X4_copyFrom 12 rfl) fl_4_25 Ha1.1 rfl (pb0 Ha1) ?_
  refine g_putI C (dat dt_X4_copyFrom 13 rfl) fl_4_25 rfl rfl Ha0.1 rfl (pb0 Ha0) ?_
  refine g_aload_n C (dat dt_X4_copyFrom 14 rfl) 0 rfl ?_
  refine g_aload_n C (dat dt_X4_copyFrom 15 rfl) 1 rfl ?_
  refine g_getI C (dat dt_X4_copyFrom 16 rfl) fl_4_15 Ha1.1 rfl (pb0 Ha1) ?_
  refine g_putI C (dat dt_X4_copyFrom 17 rfl) fl_4_15 rfl rfl Ha0.1 rfl (pb0 Ha0) ?_
  cases hrun
  exact g_vret C K (dat dt_X4_copyFrom 18 rfl)
/-! SteamNations$Past.keep(ILSteamNations$Room;)V -/
def dl_X4_keep : List (Nat × Instr × Nat) := [(0, .aload_n 0, 1), (1, .getfield 25, 3), (4, .bipush 26, 2), (6, .imul, 1), (7, .istore_n 3, 1), (8, .aload_n 0, 1), (9, .getfield 11, 3), (12, .iload_n 3, 1), (13, .iload_n 1, 1), (14, .iastore, 1), (15, .aload_n 0, 1), (16, .getfield 11, 3), (19, .iload_n 3, 1), (20, .iconst 1, 1), (21, .iadd, 1), (22, .aload_n 2, 1), (23, .getfield 28, 3), (26, .iconst 0, 1), (27, .iaload, 1), (28, .iastore, 1), (29, .aload_n 2, 1), (30, .getfield 33, 3), (33, .iconst 0, 1), (34, .aload_n 0, 1), (35, .getfield 11, 3), (38, .iload_n 3, 1), (39, .iconst 2, 1), (40, .iadd, 1), (41, .aload_n 2, 1), (42, .getfield 33, 3), (45, .arraylength, 1), (46, .invokestatic 19, 3), (49, .aload_n 2, 1), (50, .getfield 36, 3), (53, .iconst 0, 1), (54, .aload_n 0, 1), (55, .getfield 11, 3), (58, .iload_n 3, 1), (59, .bipush 8, 2), (61, .iadd, 1), (62, .aload_n 2, 1), (63, .getfield 36, 3), (66, .arraylength, 1), (67, .invokestatic 19, 3), (70, .aload_n 0, 1), (71, .aload_n 0, 1), (72, .getfield 25, 3), (75, .iconst 1, 1), (76, .iadd, 1), (77, .bipush 16, 2), (79, .irem, 1), (80, .putfield 25, 3), (83, .aload_n 0, 1), (84, .aload_n 0, 1), (85, .getfield 15, 3), (88, .iconst 1, 1), (89, .iadd, 1), (90, .bipush 16, 2), (92, .invokestatic 39, 3), (95, .putfield 15, 3), (98, .return_, 1)]
set_option maxRecDepth 20000 in
theorem dt_X4_keep : ∀ q ∈ dl_X4_keep, decode prog_6_method_4_code q.1 = .ok q.2 := by decide +kernel
def f_X4_keep (a0 : Nat) (x1 : Int32) (a2 : Nat) (h : Hp) : Option (Unit × Hp) :=
  (inb ((fI h a0 1) * (26 : Int32)) 416).bind fun j1 =>
  (inb (((fI h a0 1) * (26 : Int32)) + (1 : Int32)) 416).bind fun j3 =>
  (icp (0 : Int32) (((fI h a0 1) * (26 : Int32)) + (2 : Int32)) (6 : Int32) 6 416).bind fun q5 =>
  (icp (0 : Int32) (((fI h a0 1) * (26 : Int32)) + (8 : Int32)) (18 : Int32) 18 416).bind fun q7 =>
  (f_J9_min_7cf53 ((fI (sF (cpA (cpA (sA (sA h (a0 + 1) j1 x1) (a0 + 1) j3 (aI (sA h (a0 + 1) j1 x1) (a2 + 4) 0)) (a2 + 3) q5.1 (a0 + 1) q5.2.1 q5.2.2) (a2 + 1) q7.1 (a0 + 1) q7.2.1 q7.2.2) a0 1 (((fI (cpA (cpA (sA (sA h (a0 + 1) j1 x1) (a0 + 1) j3 (aI (sA h (a0 + 1) j1 x1) (a2 + 4) 0)) (a2 + 3) q5.1 (a0 + 1) q5.2.1 q5.2.2) (a2 + 1) q7.1 (a0 + 1) q7.2.1 q7.2.2) a0 1) + (1 : Int32)) - ((fI (cpA (cpA (sA (sA h (a0 + 1) j1 x1) (a0 + 1) j3 (aI (sA h (a0 + 1) j1 x1) (a2 + 4) 0)) (a2 + 3) q5.1 (a0 + 1) q5.2.1 q5.2.2) (a2 + 1) q7.1 (a0 + 1) q7.2.1 q7.2.2) a0 1) + (1 : Int32)) / (16 : Int32) * (16 : Int32))) a0 2) + (1 : Int32)) (16 : Int32)).bind fun v9 =>
  some ((), (sF (sF (cpA (cpA (sA (sA h (a0 + 1) j1 x1) (a0 + 1) j3 (aI (sA h (a0 + 1) j1 x1) (a2 + 4) 0)) (a2 + 3) q5.1 (a0 + 1) q5.2.1 q5.2.2) (a2 + 1) q7.1 (a0 + 1) q7.2.1 q7.2.2) a0 1 (((fI (cpA (cpA (sA (sA h (a0 + 1) j1 x1) (a0 + 1) j3 (aI (sA h (a0 + 1) j1 x1) (a2 + 4) 0)) (a2 + 3) q5.1 (a0 + 1) q5.2.1 q5.2.2) (a2 + 1) q7.1 (a0 + 1) q7.2.1 q7.2.2) a0 1) + (1 : Int32)) - ((fI (cpA (cpA (sA (sA h (a0 + 1) j1 x1) (a0 + 1) j3 (aI (sA h (a0 + 1) j1 x1) (a2 + 4) 0)) (a2 + 3) q5.1 (a0 + 1) q5.2.1 q5.2.2) (a2 + 1) q7.1 (a0 + 1) q7.2.1 q7.2.2) a0 1) + (1 : Int32)) / (16 : Int32) * (16 : Int32))) a0 2 v9))
set_option maxRecDepth 20000 in
theorem w_X4_keep (a0 : Nat) (x1 : Int32) (a2 : Nat) (h : Hp) (q : (Unit × Hp)) (Ha0 : IsPast a0) (Ha2 : IsRoom a2) (hrun : f_X4_keep a0 x1 a2 h = some q) : MetA ⟨"SteamNations$Past", "keep", "(ILSteamNations$Room;)V"⟩ prog_6_method_4_code 4 none 2 0 0 [.ref a0, .int x1, .ref a2] h none q.2 := by
  refine metA_of (by decide) (Nat.le_of_ble_eq_true rfl) (fun X C K => ?_)
  have C : Cx X cn_4 prog_6_method_4_code 4 none 2 0 0 := C
  show G X h 0 0 0 [(0, .ref a0), (1, .int x1), (2, .ref a2)] []
  unfold f_X4_keep at hrun
  refine g_aload_n C (dat dt_X4_keep 0 rfl) 0 rfl ?_
  refine g_getI C (dat dt_X4_keep 1 rfl) fl_4_25 Ha0.1 rfl (pb0 Ha0) ?_
  refine g_bipush C (dat dt_X4_keep 2 rfl) bp_26 ?_
  refine g_imul C (dat dt_X4_keep 3 rfl) ?_
  refine g_istore_n (lv' := [(0, .ref a0), (1, .int x1), (2, .ref a2), (3, .int ((fI h a0 1) * (26 : Int32)))]) C (dat dt_X4_keep 4 rfl) (by decide) rfl ?_
  refine g_aload_n C (dat dt_X4_keep 5 rfl) 0 rfl ?_
  refine g_getR C (dat dt_X4_keep 6 rfl) fl_4_11 Ha0.1 rfl (pb0 Ha0) ?_
  refine g_iload_n C (dat dt_X4_keep 7 rfl) 3 rfl ?_
  refine g_iload_n C (dat dt_X4_keep 8 rfl) 1 rfl ?_
  obtain ⟨j1, q2, hrun⟩ := bd hrun
  refine g_iast (j := j1) C (dat dt_X4_keep 9 rfl) Ha0.2.1 (pb1 Ha0) q2  ?_
  refine g_aload_n C (dat dt_X4_keep 10 rfl) 0 rfl ?_
  refine g_getR C (dat dt_X4_keep 11 rfl) fl_4_11 Ha0.1 rfl (pb0 Ha0) ?_
  refine g_iload_n C (dat dt_X4_keep 12 rfl) 3 rfl ?_
  refine g_iconst C (dat dt_X4_keep 13 rfl) ic_1 ?_
  refine g_iadd C (dat dt_X4_keep 14 rfl) ?_
  refine g_aload_n C (dat dt_X4_keep 15 rfl) 2 rfl ?_
  refine g_getR C (dat dt_X4_keep 16 rfl) fl_4_28 Ha2.1 rfl (rb0 Ha2) ?_
  refine g_iconst C (dat dt_X4_keep 17 rfl) ic_0 ?_
  refine g_iald (j := 0) C (dat dt_X4_keep 18 rfl) Ha2.2.2.2.2.1 (rb4 Ha2) (show inb (0 : Int32) 3 = some 0 by decide) ?_
  obtain ⟨j3, q4, hrun⟩ := bd hrun
  refine g_iast (j := j3) C (dat dt_X4_keep 19 rfl) Ha0.2.1 (pb1 Ha0) q4  ?_
  refine g_aload_n C (dat dt_X4_keep 20 rfl) 2 rfl ?_
  refine g_getR C (dat dt_X4_keep 21 rfl) fl_4_33 Ha2.1 rfl (rb0 Ha2) ?_
  refine g_iconst C (dat dt_X4_keep 22 rfl) ic_0 ?_
  refine g_aload_n C (dat dt_X4_keep 23 rfl) 0 rfl ?_
  refine g_getR C (dat dt_X4_keep 24 rfl) fl_4_11 Ha0.1 rfl (pb0 Ha0) ?_
  refine g_iload_n C (dat dt_X4_keep 25 rfl) 3 rfl ?_
  refine g_iconst C (dat dt_X4_keep 26 rfl) ic_2 ?_
  refine g_iadd C (dat dt_X4_keep 27 rfl) ?_
  refine g_aload_n C (dat dt_X4_keep 28 rfl) 2 rfl ?_
  refine g_getR C (dat dt_X4_keep 29 rfl) fl_4_33 Ha2.1 rfl (rb0 Ha2) ?_
  refine g_alen (v := (6 : Int32)) C (dat dt_X4_keep 30 rfl) Ha2.2.2.2.1 (by decide) (rb3 Ha2) rfl ?_
  obtain ⟨q5, q6, hrun⟩ := bd hrun
  refine g_acopy C (dat dt_X4_keep 31 rfl) al_4_19 Ha2.2.2.2.1 Ha0.2.1 (rb3 Ha2) (pb1 Ha0) q6 rfl (by decide) ?_
  refine g_aload_n C (dat dt_X4_keep 32 rfl) 2 rfl ?_
  refine g_getR C (dat dt_X4_keep 33 rfl) fl_4_36 Ha2.1 rfl (rb0 Ha2) ?_
  refine g_iconst C (dat dt_X4_keep 34 rfl) ic_0 ?_
  refine g_aload_n C (dat dt_X4_keep 35 rfl) 0 rfl ?_
  refine g_getR C (dat dt_X4_keep 36 rfl) fl_4_11 Ha0.1 rfl (pb0 Ha0) ?_
  refine g_iload_n C (dat dt_X4_keep 37 rfl) 3 rfl ?_
  refine g_bipush C (dat dt_X4_keep 38 rfl) bp_8 ?_
  refine g_iadd C (dat dt_X4_keep 39 rfl) ?_
  refine g_aload_n C (dat dt_X4_keep 40 rfl) 2 rfl ?_
  refine g_getR C (dat dt_X4_keep 41 rfl) fl_4_36 Ha2.1 rfl (rb0 Ha2) ?_
  refine g_alen (v := (18 : Int32)) C (dat dt_X4_keep 42 rfl) Ha2.2.1 (by decide) (rb1 Ha2) rfl ?_
  obtain ⟨q7, q8, hrun⟩ := bd hrun
  refine g_acopy C (dat dt_X4_keep 43 rfl) al_4_19 Ha2.2.1 Ha0.2.1 (rb1 Ha2) (pb1 Ha0) q8 rfl (by decide) ?_
  refine g_aload_n C (dat dt_X4_keep 44 rfl) 0 rfl ?_
  refine g_aload_n C (dat dt_X4_keep 45 rfl) 0 rfl ?_
  refine g_getI C (dat dt_X4_keep 46 rfl) fl_4_25 Ha0.1 rfl (pb0 Ha0) ?_
  refine g_iconst C (dat dt_X4_keep 47 rfl) ic_1 ?_
  refine g_iadd C (dat dt_X4_keep 48 rfl) ?_
  refine g_bipush C (dat dt_X4_keep 49 rfl) bp_16 ?_
  refine g_irem C (dat dt_X4_keep 50 rfl) (by decide) ?_
  refine g_putI C (dat dt_X4_keep 51 rfl) fl_4_25 rfl rfl Ha0.1 rfl (pb0 Ha0) ?_
  refine g_aload_n C (dat dt_X4_keep 52 rfl) 0 rfl ?_
  refine g_aload_n C (dat dt_X4_keep 53 rfl) 0 rfl ?_
  refine g_getI C (dat dt_X4_keep 54 rfl) fl_4_15 Ha0.1 rfl (pb0 Ha0) ?_
  refine g_iconst C (dat dt_X4_keep 55 rfl) ic_1 ?_
  refine g_iadd C (dat dt_X4_keep 56 rfl) ?_
  refine g_bipush C (dat dt_X4_keep 57 rfl) bp_16 ?_
  obtain ⟨v9, q10, hrun⟩ := bd hrun
  refine g_cSi [.int ((fI (sF (cpA (cpA (sA (sA h (a0 + 1) j1 x1) (a0 + 1) j3 (aI (sA h (a0 + 1) j1 x1) (a2 + 4) 0)) (a2 + 3) q5.1 (a0 + 1) q5.2.1 q5.2.2) (a2 + 1) q7.1 (a0 + 1) q7.2.1 q7.2.2) a0 1 (((fI (cpA (cpA (sA (sA h (a0 + 1) j1 x1) (a0 + 1) j3 (aI (sA h (a0 + 1) j1 x1) (a2 + 4) 0)) (a2 + 3) q5.1 (a0 + 1) q5.2.1 q5.2.2) (a2 + 1) q7.1 (a0 + 1) q7.2.1 q7.2.2) a0 1) + (1 : Int32)) - ((fI (cpA (cpA (sA (sA h (a0 + 1) j1 x1) (a0 + 1) j3 (aI (sA h (a0 + 1) j1 x1) (a2 + 4) 0)) (a2 + 3) q5.1 (a0 + 1) q5.2.1 q5.2.2) (a2 + 1) q7.1 (a0 + 1) q7.2.1 q7.2.2) a0 1) + (1 : Int32)) / (16 : Int32) * (16 : Int32))) a0 2) + (1 : Int32)), .int (16 : Int32)] C (dat dt_X4_keep 58 rfl) ml_4_39 (w_J9_min_7cf53 ((fI (sF (cpA (cpA (sA (sA h (a0 + 1) j1 x1) (a0 + 1) j3 (aI (sA h (a0 + 1) j1 x1) (a2 + 4) 0)) (a2 + 3) q5.1 (a0 + 1) q5.2.1 q5.2.2) (a2 + 1) q7.1 (a0 + 1) q7.2.1 q7.2.2) a0 1 (((fI (cpA (cpA (sA (sA h (a0 + 1) j1 x1) (a0 + 1) j3 (aI (sA h (a0 + 1) j1 x1) (a2 + 4) 0)) (a2 + 3) q5.1 (a0 + 1) q5.2.1 q5.2.2) (a2 + 1) q7.1 (a0 + 1) q7.2.1 q7.2.2) a0 1) + (1 : Int32)) - ((fI (cpA (cpA (sA (sA h (a0 + 1) j1 x1) (a0 + 1) j3 (aI (sA h (a0 + 1) j1 x1) (a2 + 4) 0)) (a2 + 3) q5.1 (a0 + 1) q5.2.1 q5.2.2) (a2 + 1) q7.1 (a0 + 1) q7.2.1 q7.2.2) a0 1) + (1 : Int32)) / (16 : Int32) * (16 : Int32))) a0 2) + (1 : Int32)) (16 : Int32) (sF (cpA (cpA (sA (sA h (a0 + 1) j1 x1) (a0 + 1) j3 (aI (sA h (a0 + 1) j1 x1) (a2 + 4) 0)) (a2 + 3) q5.1 (a0 + 1) q5.2.1 q5.2.2) (a2 + 1) q7.1 (a0 + 1) q7.2.1 q7.2.2) a0 1 (((fI (cpA (cpA (sA (sA h (a0 + 1) j1 x1) (a0 + 1) j3 (aI (sA h (a0 + 1) j1 x1) (a2 + 4) 0)) (a2 + 3) q5.1 (a0 + 1) q5.2.1 q5.2.2) (a2 + 1) q7.1 (a0 + 1) q7.2.1 q7.2.2) a0 1) + (1 : Int32)) - ((fI (cpA (cpA (sA (sA h (a0 + 1) j1 x1) (a0 + 1) j3 (aI (sA h (a0 + 1) j1 x1) (a2 + 4) 0)) (a2 + 3) q5.1 (a0 + 1) q5.2.1 q5.2.2) (a2 + 1) q7.1 (a0 + 1) q7.2.1 q7.2.2) a0 1) + (1 : Int32)) / (16 : Int32) * (16 : Int32))) v9  q10) rfl rfl (Nat.le_of_ble_eq_true rfl) (by decide) c00 ?_
  refine g_putI C (dat dt_X4_keep 59 rfl) fl_4_15 rfl rfl Ha0.1 rfl (pb0 Ha0) ?_
  cases hrun
  exact g_vret C K (dat dt_X4_keep 60 rfl)
/-! SteamNations$Past.bringBack(LSteamNations$Room;)I -/
def dl_X4_bringBack : List (Nat × Instr × Nat) := [(0, .aload_n 0, 1), (1, .getfield 15, 3), (4, .ifCond .ne 6, 3), (7, .bipush (-3), 2), (9, .ireturn, 1), (10, .aload_n 0, 1), (11, .dup, 1), (12, .getfield 15, 3), (15, .iconst 1, 1), (16, .isub, 1), (17, .putfield 15, 3), (20, .aload_n 0, 1), (21, .aload_n 0, 1), (22, .getfield 25, 3), (25, .bipush 16, 2), (27, .iadd, 1), (28, .iconst 1, 1), (29, .isub, 1), (30, .bipush 16, 2), (32, .irem, 1), (33, .putfield 25, 3), (36, .aload_n 0, 1), (37, .getfield 25, 3), (40, .bipush 26, 2), (42, .imul, 1), (43, .istore_n 2, 1), (44, .aload_n 1, 1), (45, .getfield 28, 3), (48, .iconst 0, 1), (49, .aload_n 0, 1), (50, .getfield 11, 3), (53, .iload_n 2, 1), (54, .iconst 1, 1), (55, .iadd, 1), (56, .iaload, 1), (57, .iastore, 1), (58, .aload_n 0, 1), (59, .getfield 11, 3), (62, .iload_n 2, 1), (63, .iconst 2, 1), (64, .iadd, 1), (65, .aload_n 1, 1), (66, .getfield 33, 3), (69, .iconst 0, 1), (70, .aload_n 1, 1), (71, .getfield 33, 3), (74, .arraylength, 1), (75, .invokestatic 19, 3), (78, .aload_n 0, 1), (79, .getfield 11, 3), (82, .iload_n 2, 1), (83, .bipush 8, 2), (85, .iadd, 1), (86, .aload_n 1, 1), (87, .getfield 36, 3), (90, .iconst 0, 1), (91, .aload_n 1, 1), (92, .getfield 36, 3), (95, .arraylength, 1), (96, .invokestatic 19, 3), (99, .aload_n 0, 1), (100, .getfield 11, 3), (103, .iload_n 2, 1), (104, .iaload, 1), (105, .ireturn, 1)]
set_option maxRecDepth 20000 in
theorem dt_X4_bringBack : ∀ q ∈ dl_X4_bringBack, decode prog_6_method_5_code q.1 = .ok q.2 := by decide +kernel
def f_X4_bringBack (a0 : Nat) (a1 : Nat) (h : Hp) : Option (Int32 × Hp) :=
  if (fI h a0 2) = 0 then
  some ((-3 : Int32), h)
  else
  (inb (((fI (sF (sF h a0 2 ((fI h a0 2) - (1 : Int32))) a0 1 ((((fI (sF h a0 2 ((fI h a0 2) - (1 : Int32))) a0 1) + (16 : Int32)) - (1 : Int32)) - (((fI (sF h a0 2 ((fI h a0 2) - (1 : Int32))) a0 1) + (16 : Int32)) - (1 : Int32)) / (16 : Int32) * (16 : Int32))) a0 1) * (26 : Int32)) + (1 : Int32)) 416).bind fun j2 =>
  (icp (((fI (sF (sF h a0 2 ((fI h a0 2) - (1 : Int32))) a0 1 ((((fI (sF h a0 2 ((fI h a0 2) - (1 : Int32))) a0 1) + (16 : Int32)) - (1 : Int32)) - (((fI (sF h a0 2 ((fI h a0 2) - (1 : Int32))) a0 1) + (16 : Int32)) - (1 : Int32)) / (16 : Int32) * (16 : Int32))) a0 1) * (26 : Int32)) + (2 : Int32)) (0 : Int32) (6 : Int32) 416 6).bind fun q6 =>
  (icp (((fI (sF (sF h a0 2 ((fI h a0 2) - (1 : Int32))) a0 1 ((((fI (sF h a0 2 ((fI h a0 2) - (1 : Int32))) a0 1) + (16 : Int32)) - (1 : Int32)) - (((fI (sF h a0 2 ((fI h a0 2) - (1 : Int32))) a0 1) + (16 : Int32)) - (1 : Int32)) / (16 : Int32) * (16 : Int32))) a0 1) * (26 : Int32)) + (8 : Int32)) (0 : Int32) (18 : Int32) 416 18).bind fun q8 =>
  (inb ((fI (sF (sF h a0 2 ((fI h a0 2) - (1 : Int32))) a0 1 ((((fI (sF h a0 2 ((fI h a0 2) - (1 : Int32))) a0 1) + (16 : Int32)) - (1 : Int32)) - (((fI (sF h a0 2 ((fI h a0 2) - (1 : Int32))) a0 1) + (16 : Int32)) - (1 : Int32)) / (16 : Int32) * (16 : Int32))) a0 1) * (26 : Int32)) 416).bind fun j10 =>
  some ((aI (cpA (cpA (sA (sF (sF h a0 2 ((fI h a0 2) - (1 : Int32))) a0 1 ((((fI (sF h a0 2 ((fI h a0 2) - (1 : Int32))) a0 1) + (16 : Int32)) - (1 : Int32)) - (((fI (sF h a0 2 ((fI h a0 2) - (1 : Int32))) a0 1) + (16 : Int32)) - (1 : Int32)) / (16 : Int32) * (16 : Int32))) (a1 + 4) 0 (aI (sF (sF h a0 2 ((fI h a0 2) - (1 : Int32))) a0 1 ((((fI (sF h a0 2 ((fI h a0 2) - (1 : Int32))) a0 1) + (16 : Int32)) - (1 : Int32)) - (((fI (sF h a0 2 ((fI h a0 2) - (1 : Int32))) a0 1) + (16 : Int32)) - (1 : Int32)) / (16 : Int32) * (16 : Int32))) (a0 + 1) j2)) (a0 + 1) q6.1 (a1 + 3) q6.2.1 q6.2.2) (a0 + 1) q8.1 (a1 + 1) q8.2.1 q8.2.2) (a0 + 1) j10), (cpA (cpA (sA (sF (sF h a0 2 ((fI h a0 2) - (1 : Int32))) a0 1 ((((fI (sF h a0 2 ((fI h a0 2) - (1 : Int32))) a0 1) + (16 : Int32)) - (1 : Int32)) - (((fI (sF h a0 2 ((fI h a0 2) - (1 : Int32))) a0 1) + (16 : Int32)) - (1 : Int32)) / (16 : Int32) * (16 : Int32))) (a1 + 4) 0 (aI (sF (sF h a0 2 ((fI h a0 2) - (1 : Int32))) a0 1 ((((fI (sF h a0 2 ((fI h a0 2) - (1 : Int32))) a0 1) + (16 : Int32)) - (1 : Int32)) - (((fI (sF h a0 2 ((fI h a0 2) - (1 : Int32))) a0 1) + (16 : Int32)) - (1 : Int32)) / (16 : Int32) * (16 : Int32))) (a0 + 1) j2)) (a0 + 1) q6.1 (a1 + 3) q6.2.1 q6.2.2) (a0 + 1) q8.1 (a1 + 1) q8.2.1 q8.2.2))
set_option maxRecDepth 20000 in
theorem w_X4_bringBack (a0 : Nat) (a1 : Nat) (h : Hp) (q : (Int32 × Hp)) (Ha0 : IsPast a0) (Ha1 : IsRoom a1) (hrun : f_X4_bringBack a0 a1 h = some q) : MetA ⟨"SteamNations$Past", "bringBack", "(LSteamNations$Room;)I"⟩ prog_6_method_5_code 3 (some .int) 1 0 0 [.ref a0, .ref a1] h (some (.int q.1)) q.2 := by
  refine metA_of (by decide) (Nat.le_of_ble_eq_true rfl) (fun X C K => ?_)
  have C : Cx X cn_4 prog_6_method_5_code 3 (some .int) 1 0 0 := C
  show G X h 0 0 0 [(0, .ref a0), (1, .ref a1)] []
  unfold f_X4_bringBack at hrun
  refine g_aload_n C (dat dt_X4_bringBack 0 rfl) 0 rfl ?_
  refine g_getI C (dat dt_X4_bringBack 1 rfl) fl_4_15 Ha0.1 rfl (pb0 Ha0) ?_
  refine g_if_ne 10 C (dat dt_X4_bringBack 2 rfl) (by decide) (fun c1 => ?_) (fun c1 => ?_)
  · rw [if_neg c1] at hrun
    refine g_aload_n C (dat dt_X4_bringBack 5 rfl) 0 rfl ?_
    refine g_dup C (dat dt_X4_bringBack 6 rfl) rfl ?_
    refine g_getI C (dat dt_X4_bringBack 7 rfl) fl_4_15 Ha0.1 rfl (pb0 Ha0) ?_
    refine g_iconst C (dat dt_X4_bringBack 8 rfl) ic_1 ?_
    refine g_isub C (dat dt_X4_bringBack 9 rfl) ?_
    refine g_putI C (dat dt_X4_bringBack 10 rfl) fl_4_15 rfl rfl Ha0.1 rfl (pb0 Ha0) ?_
    refine g_aload_n C (dat dt_X4_bringBack 11 rfl) 0 rfl ?_
    refine g_aload_n C (dat dt_X4_bringBack 12 rfl) 0 rfl ?_
    refine g_getI C (dat dt_X4_bringBack 13 rfl) fl_4_25 Ha0.1 rfl (pb0 Ha0) ?_
    refine g_bipush C (dat dt_X4_bringBack 14 rfl) bp_16 ?_
    refine g_iadd C (dat dt_X4_bringBack 15 rfl) ?_
    refine g_iconst C (dat dt_X4_bringBack 16 rfl) ic_1 ?_
    refine g_isub C (dat dt_X4_bringBack 17 rfl) ?_
    refine g_bipush C (dat dt_X4_bringBack 18 rfl) bp_16 ?_
    refine g_irem C (dat dt_X4_bringBack 19 rfl) (by decide) ?_
    refine g_putI C (dat dt_X4_bringBack 20 rfl) fl_4_25 rfl rfl Ha0.1 rfl (pb0 Ha0) ?_
    refine g_aload_n C (dat dt_X4_bringBack 21 rfl) 0 rfl ?_
    refine g_getI C (dat dt_X4_bringBack 22 rfl) fl_4_25 Ha0.1 rfl (pb0 Ha0) ?_
    refine g_bipush C (dat dt_X4_bringBack 23 rfl) bp_26 ?_
    refine g_imul C (dat dt_X4_bringBack 24 rfl) ?_
    refine g_istore_n (lv' := [(0, .ref a0), (1, .ref a1), (2, .int ((fI (sF (sF h a0 2 ((fI h a0 2) - (1 : Int32))) a0 1 ((((fI (sF h a0 2 ((fI h a0 2) - (1 : Int32))) a0 1) + (16 : Int32)) - (1 : Int32)) - (((fI (sF h a0 2 ((fI h a0 2) - (1 : Int32))) a0 1) + (16 : Int32)) - (1 : Int32)) / (16 : Int32) * (16 : Int32))) a0 1) * (26 : Int32)))]) C (dat dt_X4_bringBack 25 rfl) (by decide) rfl ?_
    refine g_aload_n C (dat dt_X4_bringBack 26 rfl) 1 rfl ?_
    refine g_getR C (dat dt_X4_bringBack 27 rfl) fl_4_28 Ha1.1 rfl (rb0 Ha1) ?_
    refine g_iconst C (dat dt_X4_bringBack 28 rfl) ic_0 ?_
    refine g_aload_n C (dat dt_X4_bringBack 29 rfl) 0 rfl ?_
    refine g_getR C (dat dt_X4_bringBack 30 rfl) fl_4_11 Ha0.1 rfl (pb0 Ha0) ?_
    refine g_iload_n C (dat dt_X4_bringBack 31 rfl) 2 rfl ?_
    refine g_iconst C (dat dt_X4_bringBack 32 rfl) ic_1 ?_
    refine g_iadd C (dat dt_X4_bringBack 33 rfl) ?_
    obtain ⟨j2, q3, hrun⟩ := bd hrun
    refine g_iald C (dat dt_X4_bringBack 34 rfl) Ha0.2.1 (pb1 Ha0) q3 ?_
    refine g_iast (j := 0) C (dat dt_X4_bringBack 35 rfl) Ha1.2.2.2.2.1 (rb4 Ha1) (show inb (0 : Int32) 3 = some 0 by decide)  ?_
    refine g_aload_n C (dat dt_X4_bringBack 36 rfl) 0 rfl ?_
    refine g_getR C (dat dt_X4_bringBack 37 rfl) fl_4_11 Ha0.1 rfl (pb0 Ha0) ?_
    refine g_iload_n C (dat dt_X4_bringBack 38 rfl) 2 rfl ?_
    refine g_iconst C (dat dt_X4_bringBack 39 rfl) ic_2 ?_
    refine g_iadd C (dat dt_X4_bringBack 40 rfl) ?_
    refine g_aload_n C (dat dt_X4_bringBack 41 rfl) 1 rfl ?_
    refine g_getR C (dat dt_X4_bringBack 42 rfl) fl_4_33 Ha1.1 rfl (rb0 Ha1) ?_
    refine g_iconst C (dat dt_X4_bringBack 43 rfl) ic_0 ?_
    refine g_aload_n C (dat dt_X4_bringBack 44 rfl) 1 rfl ?_
    refine g_getR C (dat dt_X4_bringBack 45 rfl) fl_4_33 Ha1.1 rfl (rb0 Ha1) ?_
    refine g_alen (v := (6 : Int32)) C (dat dt_X4_bringBack 46 rfl) Ha1.2.2.2.1 (by decide) (rb3 Ha1) rfl ?_
    obtain ⟨q6, q7, hrun⟩ := bd hrun
    refine g_acopy C (dat dt_X4_bringBack 47 rfl) al_4_19 Ha0.2.1 Ha1.2.2.2.1 (pb1 Ha0) (rb3 Ha1) q7 rfl (by decide) ?_
    refine g_aload_n C (dat dt_X4_bringBack 48 rfl) 0 rfl ?_
    refine g_getR C (dat dt_X4_bringBack 49 rfl) fl_4_11 Ha0.1 rfl (pb0 Ha0) ?_
    refine g_iload_n C (dat dt_X4_bringBack 50 rfl) 2 rfl ?_
    refine g_bipush C (dat dt_X4_bringBack 51 rfl) bp_8 ?_
    refine g_iadd C (dat dt_X4_bringBack 52 rfl) ?_
    refine g_aload_n C (dat dt_X4_bringBack 53 rfl) 1 rfl ?_
    refine g_getR C (dat dt_X4_bringBack 54 rfl) fl_4_36 Ha1.1 rfl (rb0 Ha1) ?_
    refine g_iconst C (dat dt_X4_bringBack 55 rfl) ic_0 ?_
    refine g_aload_n C (dat dt_X4_bringBack 56 rfl) 1 rfl ?_
    refine g_getR C (dat dt_X4_bringBack 57 rfl) fl_4_36 Ha1.1 rfl (rb0 Ha1) ?_
    refine g_alen (v := (18 : Int32)) C (dat dt_X4_bringBack 58 rfl) Ha1.2.1 (by decide) (rb1 Ha1) rfl ?_
    obtain ⟨q8, q9, hrun⟩ := bd hrun
    refine g_acopy C (dat dt_X4_bringBack 59 rfl) al_4_19 Ha0.2.1 Ha1.2.1 (pb1 Ha0) (rb1 Ha1) q9 rfl (by decide) ?_
    refine g_aload_n C (dat dt_X4_bringBack 60 rfl) 0 rfl ?_
    refine g_getR C (dat dt_X4_bringBack 61 rfl) fl_4_11 Ha0.1 rfl (pb0 Ha0) ?_
    refine g_iload_n C (dat dt_X4_bringBack 62 rfl) 2 rfl ?_
    obtain ⟨j10, q11, hrun⟩ := bd hrun
    refine g_iald C (dat dt_X4_bringBack 63 rfl) Ha0.2.1 (pb1 Ha0) q11 ?_
    cases hrun
    exact g_iret C K (dat dt_X4_bringBack 64 rfl)
  · rw [if_pos c1] at hrun
    refine g_bipush C (dat dt_X4_bringBack 3 rfl) bp_m3 ?_
    cases hrun
    exact g_iret C K (dat dt_X4_bringBack 4 rfl)
/-! SteamNations$House.addSight(III)I -/
def dl_X1_addSight : List (Nat × Instr × Nat) := [(0, .aload_n 0, 1), (1, .getfield 49, 3), (4, .bipush 6, 2), (6, .if_icmp .lt 6, 3), (9, .bipush (-5), 2), (11, .ireturn, 1), (12, .aload_n 0, 1), (13, .getfield 28, 3), (16, .aload_n 0, 1), (17, .getfield 49, 3), (20, .iconst 3, 1), (21, .imul, 1), (22, .iload_n 1, 1), (23, .iastore, 1), (24, .aload_n 0, 1), (25, .getfield 28, 3), (28, .aload_n 0, 1), (29, .getfield 49, 3), (32, .iconst 3, 1), (33, .imul, 1), (34, .iconst 1, 1), (35, .iadd, 1), (36, .iload_n 2, 1), (37, .iastore, 1), (38, .aload_n 0, 1), (39, .getfield 28, 3), (42, .aload_n 0, 1), (43, .getfield 49, 3), (46, .iconst 3, 1), (47, .imul, 1), (48, .iconst 2, 1), (49, .iadd, 1), (50, .iload_n 3, 1), (51, .iastore, 1), (52, .aload_n 0, 1), (53, .dup, 1), (54, .getfield 49, 3), (57, .iconst 1, 1), (58, .iadd, 1), (59, .putfield 49, 3), (62, .aload_n 0, 1), (63, .getfield 49, 3), (66, .ireturn, 1)]
set_option maxRecDepth 20000 in
theorem dt_X1_addSight : ∀ q ∈ dl_X1_addSight, decode prog_3_method_7_code q.1 = .ok q.2 := by decide +kernel
def f_X1_addSight (a0 : Nat) (x1 : Int32) (x2 : Int32) (x3 : Int32) (h : Hp) : Option (Int32 × Hp) :=
  if (fI h a0 6) < (6 : Int32) then
  (inb ((fI h a0 6) * (3 : Int32)) 18).bind fun j2 =>
  (inb (((fI (sA h (a0 + 7) j2 x1) a0 6) * (3 : Int32)) + (1 : Int32)) 18).bind fun j4 =>
  (inb (((fI (sA (sA h (a0 + 7) j2 x1) (a0 + 7) j4 x2) a0 6) * (3 : Int32)) + (2 : Int32)) 18).bind fun j6 =>
  some ((fI (sF (sA (sA (sA h (a0 + 7) j2 x1) (a0 + 7) j4 x2) (a0 + 7) j6 x3) a0 6 ((fI (sA (sA (sA h (a0 + 7) j2 x1) (a0 + 7) j4 x2) (a0 + 7) j6 x3) a0 6) + (1 : Int32))) a0 6), (sF (sA (sA (sA h (a0 + 7) j2 x1) (a0 + 7) j4 x2) (a0 + 7) j6 x3) a0 6 ((fI (sA (sA (sA h (a0 + 7) j2 x1) (a0 + 7) j4 x2) (a0 + 7) j6 x3) a0 6) + (1 : Int32))))
  else
  some ((-5 : Int32), h)
set_option maxRecDepth 20000 in
theorem w_X1_addSight (a0 : Nat) (x1 : Int32) (x2 : Int32) (x3 : Int32) (h : Hp) (q : (Int32 × Hp)) (Ha0 : IsHouse a0) (hrun : f_X1_addSight a0 x1 x2 x3 h = some q) : MetA ⟨"SteamNations$House", "addSight", "(III)I"⟩ prog_3_method_7_code 4 (some .int) 1 0 0 [.ref a0, .int x1, .int x2, .int x3] h (some (.int q.1)) q.2 := by
  refine metA_of (by decide) (Nat.le_of_ble_eq_true rfl) (fun X C K => ?_)
  have C : Cx X cn_1 prog_3_method_7_code 4 (some .int) 1 0 0 := C
  show G X h 0 0 0 [(0, .ref a0), (1, .int x1), (2, .int x2), (3, .int x3)] []
  unfold f_X1_addSight at hrun
  refine g_aload_n C (dat dt_X1_addSight 0 rfl) 0 rfl ?_
  refine g_getI C (dat dt_X1_addSight 1 rfl) fl_1_49 Ha0.1 rfl (hb0 Ha0) ?_
  refine g_bipush C (dat dt_X1_addSight 2 rfl) bp_6 ?_
  refine g_ic_lt 12 C (dat dt_X1_addSight 3 rfl) (by decide) (fun c1 => ?_) (fun c1 => ?_)
  · rw [if_pos c1] at hrun
    refine g_aload_n C (dat dt_X1_addSight 6 rfl) 0 rfl ?_
    refine g_getR C (dat dt_X1_addSight 7 rfl) fl_1_28 Ha0.1 rfl (hb0 Ha0) ?_
    refine g_aload_n C (dat dt_X1_addSight 8 rfl) 0 rfl ?_
    refine g_getI C (dat dt_X1_addSight 9 rfl) fl_1_49 Ha0.1 rfl (hb0 Ha0) ?_
    refine g_iconst C (dat dt_X1_addSight 10 rfl) ic_3 ?_
    refine g_imul C (dat dt_X1_addSight 11 rfl) ?_
    refine g_iload_n C (dat dt_X1_addSight 12 rfl) 1 rfl ?_
    obtain ⟨j2, q3, hrun⟩ := bd hrun
    refine g_iast (j := j2) C (dat dt_X1_addSight 13 rfl) Ha0.2.2.2.1 (hb7 Ha0) q3  ?_
    refine g_aload_n C (dat dt_X1_addSight 14 rfl) 0 rfl ?_
    refine g_getR C (dat dt_X1_addSight 15 rfl) fl_1_28 Ha0.1 rfl (hb0 Ha0) ?_
    refine g_aload_n C (dat dt_X1_addSight 16 rfl) 0 rfl ?_
    refine g_getI C (dat dt_X1_addSight 17 rfl) fl_1_49 Ha0.1 rfl (hb0 Ha0) ?_
    refine g_iconst C (dat dt_X1_addSight 18 rfl) ic_3 ?_
    refine g_imul C (dat dt_X1_addSight 19 rfl) ?_
    refine g_iconst C (dat dt_X1_addSight 20 rfl) ic_1 ?_
    refine g_iadd C (dat dt_X1_addSight 21 rfl) ?_
    refine g_iload_n C (dat dt_X1_addSight 22 rfl) 2 rfl ?_
    obtain ⟨j4, q5, hrun⟩ := bd hrun
    refine g_iast (j := j4) C (dat dt_X1_addSight 23 rfl) Ha0.2.2.2.1 (hb7 Ha0) q5  ?_
    refine g_aload_n C (dat dt_X1_addSight 24 rfl) 0 rfl ?_
    refine g_getR C (dat dt_X1_addSight 25 rfl) fl_1_28 Ha0.1 rfl (hb0 Ha0) ?_
    refine g_aload_n C (dat dt_X1_addSight 26 rfl) 0 rfl ?_
    refine g_getI C (dat dt_X1_addSight 27 rfl) fl_1_49 Ha0.1 rfl (hb0 Ha0) ?_
    refine g_iconst C (dat dt_X1_addSight 28 rfl) ic_3 ?_
    refine g_imul C (dat dt_X1_addSight 29 rfl) ?_
    refine g_iconst C (dat dt_X1_addSight 30 rfl) ic_2 ?_
    refine g_iadd C (dat dt_X1_addSight 31 rfl) ?_
    refine g_iload_n C (dat dt_X1_addSight 32 rfl) 3 rfl ?_
    obtain ⟨j6, q7, hrun⟩ := bd hrun
    refine g_iast (j := j6) C (dat dt_X1_addSight 33 rfl) Ha0.2.2.2.1 (hb7 Ha0) q7  ?_
    refine g_aload_n C (dat dt_X1_addSight 34 rfl) 0 rfl ?_
    refine g_dup C (dat dt_X1_addSight 35 rfl) rfl ?_
    refine g_getI C (dat dt_X1_addSight 36 rfl) fl_1_49 Ha0.1 rfl (hb0 Ha0) ?_
    refine g_iconst C (dat dt_X1_addSight 37 rfl) ic_1 ?_
    refine g_iadd C (dat dt_X1_addSight 38 rfl) ?_
    refine g_putI C (dat dt_X1_addSight 39 rfl) fl_1_49 rfl rfl Ha0.1 rfl (hb0 Ha0) ?_
    refine g_aload_n C (dat dt_X1_addSight 40 rfl) 0 rfl ?_
    refine g_getI C (dat dt_X1_addSight 41 rfl) fl_1_49 Ha0.1 rfl (hb0 Ha0) ?_
    cases hrun
    exact g_iret C K (dat dt_X1_addSight 42 rfl)
  · rw [if_neg c1] at hrun
    refine g_bipush C (dat dt_X1_addSight 4 rfl) bp_m5 ?_
    cases hrun
    exact g_iret C K (dat dt_X1_addSight 5 rfl)
/-! SteamNations$House.sightMinutes(I)I -/
def dl_X1_sightMinutes : List (Nat × Instr × Nat) := [(0, .aload_n 0, 1), (1, .getfield 28, 3), (4, .iload_n 1, 1), (5, .iconst 3, 1), (6, .imul, 1), (7, .iconst 1, 1), (8, .iadd, 1), (9, .iaload, 1), (10, .ireturn, 1)]
set_option maxRecDepth 20000 in
theorem dt_X1_sightMinutes : ∀ q ∈ dl_X1_sightMinutes, decode prog_3_method_9_code q.1 = .ok q.2 := by decide +kernel
def f_X1_sightMinutes (a0 : Nat) (x1 : Int32) (h : Hp) : Option Int32 :=
  (inb ((x1 * (3 : Int32)) + (1 : Int32)) 18).bind fun j1 =>
  some (aI h (a0 + 7) j1)
set_option maxRecDepth 20000 in
theorem w_X1_sightMinutes (a0 : Nat) (x1 : Int32) (h : Hp) (q : Int32) (Ha0 : IsHouse a0) (hrun : f_X1_sightMinutes a0 x1 h = some q) : MetA ⟨"SteamNations$House", "sightMinutes", "(I)I"⟩ prog_3_method_9_code 2 (some .int) 1 0 0 [.ref a0, .int x1] h (some (.int q)) h := by
  refine metA_of (by decide) (Nat.le_of_ble_eq_true rfl) (fun X C K => ?_)
  have C : Cx X cn_1 prog_3_method_9_code 2 (some .int) 1 0 0 := C
  show G X h 0 0 0 [(0, .ref a0), (1, .int x1)] []
  unfold f_X1_sightMinutes at hrun
  refine g_aload_n C (dat dt_X1_sightMinutes 0 rfl) 0 rfl ?_
  refine g_getR C (dat dt_X1_sightMinutes 1 rfl) fl_1_28 Ha0.1 rfl (hb0 Ha0) ?_
  refine g_iload_n C (dat dt_X1_sightMinutes 2 rfl) 1 rfl ?_
  refine g_iconst C (dat dt_X1_sightMinutes 3 rfl) ic_3 ?_
  refine g_imul C (dat dt_X1_sightMinutes 4 rfl) ?_
  refine g_iconst C (dat dt_X1_sightMinutes 5 rfl) ic_1 ?_
  refine g_iadd C (dat dt_X1_sightMinutes 6 rfl) ?_
  obtain ⟨j1, q2, hrun⟩ := bd hrun
  refine g_iald C (dat dt_X1_sightMinutes 7 rfl) Ha0.2.2.2.1 (hb7 Ha0) q2 ?_
  cases hrun
  exact g_iret C K (dat dt_X1_sightMinutes 8 rfl)
/-! SteamNations$House.latestSight()I -/
def dl_X1_latestSight : List (Nat × Instr × Nat) := [(0, .iconst 0, 1), (1, .istore_n 1, 1), (2, .iconst 0, 1), (3, .istore_n 2, 1), (4, .iload_n 2, 1), (5, .aload_n 0, 1), (6, .getfield 49, 3), (9, .if_icmp .ge 19, 3), (12, .iload_n 1, 1), (13, .aload_n 0, 1), (14, .iload_n 2, 1), (15, .invokevirtual 60, 3), (18, .invokestatic 64, 3), (21, .istore_n 1, 1), (22, .iinc 2 1, 3), (25, .goto (-21), 3), (28, .iload_n 1, 1), (29, .ireturn, 1)]
set_option maxRecDepth 20000 in
theorem dt_X1_latestSight : ∀ q ∈ dl_X1_latestSight, decode prog_3_method_11_code q.1 = .ok q.2 := by decide +kernel
def kp_X1_latestSight_4 (a0 : Nat)  (h : Hp) (X : Xt) (s : (Int32 × Int32)) : Prop := G X h 0 0 4 [(0, .ref a0), (1, .int s.1), (2, .int s.2)] []
def ke_X1_latestSight_4 (a0 : Nat)  (h : Hp) (X : Xt) (e : Int32) : Prop := G X h 0 0 28 [(1, .int e)] []
def b_X1_latestSight_4 (a0 : Nat)  (x1 : Int32) (x2 : Int32) (h : Hp) : Option ((Int32 × Int32) ⊕ Int32) :=
  if (fI h a0 6) ≤ x2 then
  some (.inr ( x1))
  else
  (f_X1_sightMinutes a0 x2 h).bind fun v2 =>
  (f_J9_max_7cf53 x1 v2).bind fun v4 =>
  some (.inl (v4, (x2 + (1 : Int32))))
set_option maxRecDepth 20000 in
theorem wb_X1_latestSight_4 {X : Xt} (C : Cx X cn_1 prog_3_method_11_code 3 (some .int) 2 0 0) (a0 : Nat) (Ha0 : IsHouse a0)  (x1 : Int32) (x2 : Int32) (h : Hp) (q : (Int32 × Int32) ⊕ Int32) (hrun : b_X1_latestSight_4 a0  x1 x2 h = some q) (Ks : ∀ s, q = .inl s → kp_X1_latestSight_4 a0  h X s) (Ke : ∀ e, q = .inr e → ke_X1_latestSight_4 a0  h X e) : kp_X1_latestSight_4 a0  h X (x1, x2) := by
  show G X h 0 0 4 [(0, .ref a0), (1, .int x1), (2, .int x2)] []
  unfold b_X1_latestSight_4 at hrun
  refine g_iload_n C (dat dt_X1_latestSight 4 rfl) 2 rfl ?_
  refine g_aload_n C (dat dt_X1_latestSight 5 rfl) 0 rfl ?_
  refine g_getI C (dat dt_X1_latestSight 6 rfl) fl_1_49 Ha0.1 rfl (hb0 Ha0) ?_
  refine g_ic_ge 28 C (dat dt_X1_latestSight 7 rfl) (by decide) (fun c1 => ?_) (fun c1 => ?_)
  · rw [if_pos c1] at hrun
    refine g_sub [1] (lv' := [(1, .int x1)]) rfl ?_
    cases hrun
    exact Ke ( x1) rfl
  · rw [if_neg c1] at hrun
    refine g_iload_n C (dat dt_X1_latestSight 8 rfl) 1 rfl ?_
    refine g_aload_n C (dat dt_X1_latestSight 9 rfl) 0 rfl ?_
    refine g_iload_n C (dat dt_X1_latestSight 10 rfl) 2 rfl ?_
    obtain ⟨v2, q3, hrun⟩ := bd hrun
    refine g_cVi [.int x2] C (dat dt_X1_latestSight 11 rfl) ml_1_60 (w_X1_sightMinutes a0 x2 h v2 Ha0 q3) Ha0.1 (hb0 Ha0) rfl rfl (Nat.le_of_ble_eq_true rfl) (by decide) c00 ?_
    obtain ⟨v4, q5, hrun⟩ := bd hrun
    refine g_cSi [.int x1, .int v2] C (dat dt_X1_latestSight 12 rfl) ml_1_64 (w_J9_max_7cf53 x1 v2 h v4  q5) rfl rfl cat0 (by decide) c00 ?_
    refine g_istore_n (lv' := [(0, .ref a0), (1, .int v4), (2, .int x2)]) C (dat dt_X1_latestSight 13 rfl) (by decide) rfl ?_
    refine g_iinc (v := (x2 + (1 : Int32))) (lv' := [(0, .ref a0), (1, .int v4), (2, .int (x2 + (1 : Int32)))]) C (dat dt_X1_latestSight 14 rfl) 2 rfl (congrArg (fun z => x2 + z) ic_1) (by decide) rfl ?_
    refine g_goto 4 C (dat dt_X1_latestSight 15 rfl) (by decide) ?_
    cases hrun
    exact Ks (v4, (x2 + (1 : Int32))) rfl
def f_X1_latestSight (a0 : Nat) (h : Hp) : Option Int32 :=
  (lp (fun s => b_X1_latestSight_4 a0  s.1 s.2 h) FU ((0 : Int32), (0 : Int32))).bind fun e6 =>
  some e6
set_option maxRecDepth 20000 in
theorem w_X1_latestSight (a0 : Nat) (h : Hp) (q : Int32) (Ha0 : IsHouse a0) (hrun : f_X1_latestSight a0 h = some q) : MetA ⟨"SteamNations$House", "latestSight", "()I"⟩ prog_3_method_11_code 3 (some .int) 2 0 0 [.ref a0] h (some (.int q)) h := by
  refine metA_of (by decide) (Nat.le_of_ble_eq_true rfl) (fun X C K => ?_)
  have C : Cx X cn_1 prog_3_method_11_code 3 (some .int) 2 0 0 := C
  show G X h 0 0 0 [(0, .ref a0)] []
  unfold f_X1_latestSight at hrun
  refine g_iconst C (dat dt_X1_latestSight 0 rfl) ic_0 ?_
  refine g_istore_n (lv' := [(0, .ref a0), (1, .int (0 : Int32))]) C (dat dt_X1_latestSight 1 rfl) (by decide) rfl ?_
  refine g_iconst C (dat dt_X1_latestSight 2 rfl) ic_0 ?_
  refine g_istore_n (lv' := [(0, .ref a0), (1, .int (0 : Int32)), (2, .int (0 : Int32))]) C (dat dt_X1_latestSight 3 rfl) (by decide) rfl ?_
  obtain ⟨e6, q7, hrun⟩ := bd hrun
  refine lp_ind (P := fun s => kp_X1_latestSight_4 a0  h X s) (K := fun e => ke_X1_latestSight_4 a0  h X e) (fun s q hb Ks Ke => wb_X1_latestSight_4 C a0 Ha0  s.1 s.2 h q hb Ks Ke) FU ((0 : Int32), (0 : Int32)) e6 q7 ?_
  show G X h 0 0 28 [(1, .int e6)] []
  refine g_iload_n C (dat dt_X1_latestSight 16 rfl) 0 rfl ?_
  cases hrun
  exact g_iret C K (dat dt_X1_latestSight 17 rfl)
/-! SteamNations$House.sightSitter(I)I -/
def dl_X1_sightSitter : List (Nat × Instr × Nat) := [(0, .aload_n 0, 1), (1, .getfield 28, 3), (4, .iload_n 1, 1), (5, .iconst 3, 1), (6, .imul, 1), (7, .iaload, 1), (8, .ireturn, 1)]
set_option maxRecDepth 20000 in
theorem dt_X1_sightSitter : ∀ q ∈ dl_X1_sightSitter, decode prog_3_method_8_code q.1 = .ok q.2 := by decide +kernel
def f_X1_sightSitter (a0 : Nat) (x1 : Int32) (h : Hp) : Option Int32 :=
  (inb (x1 * (3 : Int32)) 18).bind fun j1 =>
  some (aI h (a0 + 7) j1)
set_option maxRecDepth 20000 in
theorem w_X1_sightSitter (a0 : Nat) (x1 : Int32) (h : Hp) (q : Int32) (Ha0 : IsHouse a0) (hrun : f_X1_sightSitter a0 x1 h = some q) : MetA ⟨"SteamNations$House", "sightSitter", "(I)I"⟩ prog_3_method_8_code 2 (some .int) 1 0 0 [.ref a0, .int x1] h (some (.int q)) h := by
  refine metA_of (by decide) (Nat.le_of_ble_eq_true rfl) (fun X C K => ?_)
  have C : Cx X cn_1 prog_3_method_8_code 2 (some .int) 1 0 0 := C
  show G X h 0 0 0 [(0, .ref a0), (1, .int x1)] []
  unfold f_X1_sightSitter at hrun
  refine g_aload_n C (dat dt_X1_sightSitter 0 rfl) 0 rfl ?_
  refine g_getR C (dat dt_X1_sightSitter 1 rfl) fl_1_28 Ha0.1 rfl (hb0 Ha0) ?_
  refine g_iload_n C (dat dt_X1_sightSitter 2 rfl) 1 rfl ?_
  refine g_iconst C (dat dt_X1_sightSitter 3 rfl) ic_3 ?_
  refine g_imul C (dat dt_X1_sightSitter 4 rfl) ?_
  obtain ⟨j1, q2, hrun⟩ := bd hrun
  refine g_iald C (dat dt_X1_sightSitter 5 rfl) Ha0.2.2.2.1 (hb7 Ha0) q2 ?_
  cases hrun
  exact g_iret C K (dat dt_X1_sightSitter 6 rfl)
/-! SteamNations$House.sightNation(I)I -/
def dl_X1_sightNation : List (Nat × Instr × Nat) := [(0, .aload_n 0, 1), (1, .getfield 28, 3), (4, .iload_n 1, 1), (5, .iconst 3, 1), (6, .imul, 1), (7, .iconst 2, 1), (8, .iadd, 1), (9, .iaload, 1), (10, .ireturn, 1)]
set_option maxRecDepth 20000 in
theorem dt_X1_sightNation : ∀ q ∈ dl_X1_sightNation, decode prog_3_method_10_code q.1 = .ok q.2 := by decide +kernel
def f_X1_sightNation (a0 : Nat) (x1 : Int32) (h : Hp) : Option Int32 :=
  (inb ((x1 * (3 : Int32)) + (2 : Int32)) 18).bind fun j1 =>
  some (aI h (a0 + 7) j1)
set_option maxRecDepth 20000 in
theorem w_X1_sightNation (a0 : Nat) (x1 : Int32) (h : Hp) (q : Int32) (Ha0 : IsHouse a0) (hrun : f_X1_sightNation a0 x1 h = some q) : MetA ⟨"SteamNations$House", "sightNation", "(I)I"⟩ prog_3_method_10_code 2 (some .int) 1 0 0 [.ref a0, .int x1] h (some (.int q)) h := by
  refine metA_of (by decide) (Nat.le_of_ble_eq_true rfl) (fun X C K => ?_)
  have C : Cx X cn_1 prog_3_method_10_code 2 (some .int) 1 0 0 := C
  show G X h 0 0 0 [(0, .ref a0), (1, .int x1)] []
  unfold f_X1_sightNation at hrun
  refine g_aload_n C (dat dt_X1_sightNation 0 rfl) 0 rfl ?_
  refine g_getR C (dat dt_X1_sightNation 1 rfl) fl_1_28 Ha0.1 rfl (hb0 Ha0) ?_
  refine g_iload_n C (dat dt_X1_sightNation 2 rfl) 1 rfl ?_
  refine g_iconst C (dat dt_X1_sightNation 3 rfl) ic_3 ?_
  refine g_imul C (dat dt_X1_sightNation 4 rfl) ?_
  refine g_iconst C (dat dt_X1_sightNation 5 rfl) ic_2 ?_
  refine g_iadd C (dat dt_X1_sightNation 6 rfl) ?_
  obtain ⟨j1, q2, hrun⟩ := bd hrun
  refine g_iald C (dat dt_X1_sightNation 7 rfl) Ha0.2.2.2.1 (hb7 Ha0) q2 ?_
  cases hrun
  exact g_iret C K (dat dt_X1_sightNation 8 rfl)
/-! SteamNations$House.copyFrom(LSteamNations$House;)V -/
def dl_X1_copyFrom : List (Nat × Instr × Nat) := [(0, .aload_n 0, 1), (1, .getfield 12, 3), (4, .aload_n 1, 1), (5, .getfield 12, 3), (8, .invokevirtual 36, 3), (11, .iconst 0, 1), (12, .istore_n 2, 1), (13, .iload_n 2, 1), (14, .bipush 6, 2), (16, .if_icmp .ge 21, 3), (19, .aload_n 0, 1), (20, .getfield 20, 3), (23, .iload_n 2, 1), (24, .aload_n 1, 1), (25, .getfield 20, 3), (28, .iload_n 2, 1), (29, .aaload, 1), (30, .aastore, 1), (31, .iinc 2 1, 3), (34, .goto (-21), 3), (37, .aload_n 0, 1), (38, .aload_n 1, 1), (39, .getfield 40, 3), (42, .putfield 40, 3), (45, .aload_n 0, 1), (46, .aload_n 1, 1), (47, .getfield 24, 3), (50, .putfield 24, 3), (53, .aload_n 1, 1), (54, .getfield 28, 3), (57, .iconst 0, 1), (58, .aload_n 0, 1), (59, .getfield 28, 3), (62, .iconst 0, 1), (63, .aload_n 0, 1), (64, .getfield 28, 3), (67, .arraylength, 1), (68, .invokestatic 43, 3), (71, .aload_n 0, 1), (72, .aload_n 1, 1), (73, .getfield 49, 3), (76, .putfield 49, 3), (79, .return_, 1)]
set_option maxRecDepth 20000 in
theorem dt_X1_copyFrom : ∀ q ∈ dl_X1_copyFrom, decode prog_3_method_2_code q.1 = .ok q.2 := by decide +kernel
def kp_X1_copyFrom_13 (a0 : Nat) (a1 : Nat)  (X : Xt) (s : (Int32 × Hp)) : Prop := G X s.2 0 0 13 [(0, .ref a0), (1, .ref a1), (2, .int s.1)] []
def ke_X1_copyFrom_13 (a0 : Nat) (a1 : Nat)  (X : Xt) (e : Hp) : Prop := G X e 0 0 37 [(0, .ref a0), (1, .ref a1)] []
def b_X1_copyFrom_13 (a0 : Nat) (a1 : Nat)  (x2 : Int32) (h : Hp) : Option ((Int32 × Hp) ⊕ Hp) :=
  if (6 : Int32) ≤ x2 then
  some (.inr ( h))
  else
  (inb x2 6).bind fun j4 =>
  oc (aO h (a1 + 6) j4) (
  (inb x2 6).bind fun j8 =>
  some (.inl ((x2 + (1 : Int32)), (sO h (a0 + 6) j8 none)))) (fun v6 =>
  if tg h v6 = true then
  (inb x2 6).bind fun j10 =>
  some (.inl ((x2 + (1 : Int32)), (sO h (a0 + 6) j10 (some v6))))
  else none)
set_option maxRecDepth 20000 in
theorem wb_X1_copyFrom_13 {X : Xt} (C : Cx X cn_1 prog_3_method_2_code 3 none 2 0 0) (a0 : Nat) (a1 : Nat) (Ha0 : IsHouse a0) (Ha1 : IsHouse a1)  (x2 : Int32) (h : Hp) (q : (Int32 × Hp) ⊕ Hp) (hrun : b_X1_copyFrom_13 a0 a1  x2 h = some q) (Ks : ∀ s, q = .inl s → kp_X1_copyFrom_13 a0 a1  X s) (Ke : ∀ e, q = .inr e → ke_X1_copyFrom_13 a0 a1  X e) : kp_X1_copyFrom_13 a0 a1  X (x2, h) := by
  show G X h 0 0 13 [(0, .ref a0), (1, .ref a1), (2, .int x2)] []
  unfold b_X1_copyFrom_13 at hrun
  refine g_iload_n C (dat dt_X1_copyFrom 7 rfl) 2 rfl ?_
  refine g_bipush C (dat dt_X1_copyFrom 8 rfl) bp_6 ?_
  refine g_ic_ge 37 C (dat dt_X1_copyFrom 9 rfl) (by decide) (fun c3 => ?_) (fun c3 => ?_)
  · rw [if_pos c3] at hrun
    refine g_sub [0, 1] (lv' := [(0, .ref a0), (1, .ref a1)]) rfl ?_
    cases hrun
    exact Ke ( h) rfl
  · rw [if_neg c3] at hrun
    refine g_aload_n C (dat dt_X1_copyFrom 10 rfl) 0 rfl ?_
    refine g_getR C (dat dt_X1_copyFrom 11 rfl) fl_1_20 Ha0.1 rfl (hb0 Ha0) ?_
    refine g_iload_n C (dat dt_X1_copyFrom 12 rfl) 2 rfl ?_
    refine g_aload_n C (dat dt_X1_copyFrom 13 rfl) 1 rfl ?_
    refine g_getR C (dat dt_X1_copyFrom 14 rfl) fl_1_20 Ha1.1 rfl (hb0 Ha1) ?_
    refine g_iload_n C (dat dt_X1_copyFrom 15 rfl) 2 rfl ?_
    obtain ⟨j4, q5, hrun⟩ := bd hrun
    refine g_aald C (dat dt_X1_copyFrom 16 rfl) Ha1.2.2.1 (Or.inl rfl) (hb6 Ha1) q5 (fun o7 => ?_) (fun v6 o7 => ?_)
    · rw [o7, oc_n] at hrun
      obtain ⟨j8, q9, hrun⟩ := bd hrun
      refine g_aastN C (dat dt_X1_copyFrom 17 rfl) Ha0.2.2.1 (hb6 Ha0) q9 ?_
      refine g_iinc (v := (x2 + (1 : Int32))) (lv' := [(0, .ref a0), (1, .ref a1), (2, .int (x2 + (1 : Int32)))]) C (dat dt_X1_copyFrom 18 rfl) 2 rfl (congrArg (fun z => x2 + z) ic_1) (by decide) rfl ?_
      refine g_goto 13 C (dat dt_X1_copyFrom 19 rfl) (by decide) ?_
      cases hrun
      exact Ks ((x2 + (1 : Int32)), (sO h (a0 + 6) j8 none)) rfl
    · rw [o7, oc_s] at hrun
      by_cases g12 : tg h v6 = true
      · rw [if_pos g12] at hrun
        obtain ⟨j10, q11, hrun⟩ := bd hrun
        refine g_aastT C (dat dt_X1_copyFrom 17 rfl) Ha0.2.2.1 (hb6 Ha0) q11 (tg_spec g12).1 (tb0 g12) ?_
        refine g_iinc (v := (x2 + (1 : Int32))) (lv' := [(0, .ref a0), (1, .ref a1), (2, .int (x2 + (1 : Int32)))]) C (dat dt_X1_copyFrom 18 rfl) 2 rfl (congrArg (fun z => x2 + z) ic_1) (by decide) rfl ?_
        refine g_goto 13 C (dat dt_X1_copyFrom 19 rfl) (by decide) ?_
        cases hrun
        exact Ks ((x2 + (1 : Int32)), (sO h (a0 + 6) j10 (some v6))) rfl
      · rw [if_neg g12] at hrun
        cases hrun
def f_X1_copyFrom (a0 : Nat) (a1 : Nat) (h : Hp) : Option (Unit × Hp) :=
  (f_X6_copyFrom (a0 + 1) (a1 + 1) h).bind fun v1 =>
  (lp (fun s => b_X1_copyFrom_13 a0 a1  s.1 s.2) FU ((0 : Int32), v1.2)).bind fun e13 =>
  (icp (0 : Int32) (0 : Int32) (18 : Int32) 18 18).bind fun q15 =>
  some ((), (sF (cpA (sF (sF e13 a0 3 (fI e13 a1 3)) a0 4 (fI (sF e13 a0 3 (fI e13 a1 3)) a1 4)) (a1 + 7) q15.1 (a0 + 7) q15.2.1 q15.2.2) a0 6 (fI (cpA (sF (sF e13 a0 3 (fI e13 a1 3)) a0 4 (fI (sF e13 a0 3 (fI e13 a1 3)) a1 4)) (a1 + 7) q15.1 (a0 + 7) q15.2.1 q15.2.2) a1 6)))
set_option maxRecDepth 20000 in
theorem w_X1_copyFrom (a0 : Nat) (a1 : Nat) (h : Hp) (q : (Unit × Hp)) (Ha0 : IsHouse a0) (Ha1 : IsHouse a1) (hrun : f_X1_copyFrom a0 a1 h = some q) : MetA ⟨"SteamNations$House", "copyFrom", "(LSteamNations$House;)V"⟩ prog_3_method_2_code 3 none 2 0 0 [.ref a0, .ref a1] h none q.2 := by
  refine metA_of (by decide) (Nat.le_of_ble_eq_true rfl) (fun X C K => ?_)
  have C : Cx X cn_1 prog_3_method_2_code 3 none 2 0 0 := C
  show G X h 0 0 0 [(0, .ref a0), (1, .ref a1)] []
  unfold f_X1_copyFrom at hrun
  refine g_aload_n C (dat dt_X1_copyFrom 0 rfl) 0 rfl ?_
  refine g_getR C (dat dt_X1_copyFrom 1 rfl) fl_1_12 Ha0.1 rfl (hb0 Ha0) ?_
  refine g_aload_n C (dat dt_X1_copyFrom 2 rfl) 1 rfl ?_
  refine g_getR C (dat dt_X1_copyFrom 3 rfl) fl_1_12 Ha1.1 rfl (hb0 Ha1) ?_
  obtain ⟨v1, q2, hrun⟩ := bd hrun
  refine g_cVv [.ref (a1 + 1)] C (dat dt_X1_copyFrom 4 rfl) ml_1_36 (w_X6_copyFrom (a0 + 1) (a1 + 1) h v1 Ha0.2.1 Ha1.2.1 q2) Ha0.2.1.1 (rb0 Ha0.2.1) rfl rfl cat0 (by decide) c00 ?_
  refine g_iconst C (dat dt_X1_copyFrom 5 rfl) ic_0 ?_
  refine g_istore_n (lv' := [(0, .ref a0), (1, .ref a1), (2, .int (0 : Int32))]) C (dat dt_X1_copyFrom 6 rfl) (by decide) rfl ?_
  obtain ⟨e13, q14, hrun⟩ := bd hrun
  refine lp_ind (P := fun s => kp_X1_copyFrom_13 a0 a1  X s) (K := fun e => ke_X1_copyFrom_13 a0 a1  X e) (fun s q hb Ks Ke => wb_X1_copyFrom_13 C a0 a1 Ha0 Ha1  s.1 s.2 q hb Ks Ke) FU ((0 : Int32), v1.2) e13 q14 ?_
  show G X e13 0 0 37 [(0, .ref a0), (1, .ref a1)] []
  refine g_aload_n C (dat dt_X1_copyFrom 20 rfl) 0 rfl ?_
  refine g_aload_n C (dat dt_X1_copyFrom 21 rfl) 1 rfl ?_
  refine g_getI C (dat dt_X1_copyFrom 22 rfl) fl_1_40 Ha1.1 rfl (hb0 Ha1) ?_
  refine g_putI C (dat dt_X1_copyFrom 23 rfl) fl_1_40 rfl rfl Ha0.1 rfl (hb0 Ha0) ?_
  refine g_aload_n C (dat dt_X1_copyFrom 24 rfl) 0 rfl ?_
  refine g_aload_n C (dat dt_X1_copyFrom 25 rfl) 1 rfl ?_
  refine g_getI C (dat dt_X1_copyFrom 26 rfl) fl_1_24 Ha1.1 rfl (hb0 Ha1) ?_
  refine g_putI C (dat dt_X1_copyFrom 27 rfl) fl_1_24 rfl rfl Ha0.1 rfl (hb0 Ha0) ?_
  refine g_aload_n C (dat dt_X1_copyFrom 28 rfl) 1 rfl ?_
  refine g_getR C (dat dt_X1_copyFrom 29 rfl) fl_1_28 Ha1.1 rfl (hb0 Ha1) ?_
  refine g_iconst C (dat dt_X1_copyFrom 30 rfl) ic_0 ?_
  refine g_aload_n C (dat dt_X1_copyFrom 31 rfl) 0 rfl ?_
  refine g_getR C (dat dt_X1_copyFrom 32 rfl) fl_1_28 Ha0.1 rfl (hb0 Ha0) ?_
  refine g_iconst C (dat dt_X1_copyFrom 33 rfl) ic_0 ?_
  refine g_aload_n C (dat dt_X1_copyFrom 34 rfl) 0 rfl ?_
  refine g_getR C (dat dt_X1_copyFrom 35 rfl) fl_1_28 Ha0.1 rfl (hb0 Ha0) ?_
  refine g_alen (v := (18 : Int32)) C (dat dt_X1_copyFrom 36 rfl) Ha0.2.2.2.1 (by decide) (hb7 Ha0) rfl ?_
  obtain ⟨q15, q16, hrun⟩ := bd hrun
  refine g_acopy C (dat dt_X1_copyFrom 37 rfl) al_1_43 Ha1.2.2.2.1 Ha0.2.2.2.1 (hb7 Ha1) (hb7 Ha0) q16 rfl (by decide) ?_
  refine g_aload_n C (dat dt_X1_copyFrom 38 rfl) 0 rfl ?_
  refine g_aload_n C (dat dt_X1_copyFrom 39 rfl) 1 rfl ?_
  refine g_getI C (dat dt_X1_copyFrom 40 rfl) fl_1_49 Ha1.1 rfl (hb0 Ha1) ?_
  refine g_putI C (dat dt_X1_copyFrom 41 rfl) fl_1_49 rfl rfl Ha0.1 rfl (hb0 Ha0) ?_
  cases hrun
  exact g_vret C K (dat dt_X1_copyFrom 42 rfl)
