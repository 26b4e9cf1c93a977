/-! SteamNations$Seatings.makeStale()V -/
def dl_X7_makeStale : List (Nat × Instr × Nat) := [(0, .aload_n 0, 1), (1, .iconst (-1), 1), (2, .putfield 40, 3), (5, .return_, 1)]
set_option maxRecDepth 20000 in
theorem dt_X7_makeStale : ∀ q ∈ dl_X7_makeStale, decode prog_9_method_2_code q.1 = .ok q.2 := by decide +kernel
def f_X7_makeStale  (h : Hp) : Option (Unit × Hp) :=
  some ((), (sF h 68 11 (-1 : Int32)))
set_option maxRecDepth 20000 in
theorem w_X7_makeStale  (h : Hp) (q : (Unit × Hp))  (hrun : f_X7_makeStale  h = some q) : MetA ⟨"SteamNations$Seatings", "makeStale", "()V"⟩ prog_9_method_2_code 1 none 1 0 0 [.ref 68] h none q.2 := by
  refine metA_of (by decide) (Nat.le_of_ble_eq_true rfl) (fun X C K => ?_)
  have C : Cx X cn_7 prog_9_method_2_code 1 none 1 0 0 := C
  show G X h 0 0 0 [(0, .ref 68)] []
  unfold f_X7_makeStale at hrun
  refine g_aload_n C (dat dt_X7_makeStale 0 rfl) 0 rfl ?_
  refine g_iconst C (dat dt_X7_makeStale 1 rfl) ic_m1 ?_
  refine g_putI C (dat dt_X7_makeStale 2 rfl) fl_7_40 rfl rfl kd_68 rfl ltk_68 ?_
  cases hrun
  exact g_vret C K (dat dt_X7_makeStale 3 rfl)
/-! SteamNations$Seatings.listInside(LSteamNations$Room;)V -/
def dl_X7_listInside : List (Nat × Instr × Nat) := [(0, .aload_n 0, 1), (1, .iconst 0, 1), (2, .putfield 104, 3), (5, .iconst 0, 1), (6, .istore_n 2, 1), (7, .iload_n 2, 1), (8, .aload_n 1, 1), (9, .getfield 71, 3), (12, .if_icmp .ge 37, 3), (15, .aload_n 1, 1), (16, .iload_n 2, 1), (17, .invokevirtual 143, 3), (20, .ifCond .eq 23, 3), (23, .aload_n 0, 1), (24, .getfield 31, 3), (27, .aload_n 0, 1), (28, .getfield 104, 3), (31, .iload_n 2, 1), (32, .iastore, 1), (33, .aload_n 0, 1), (34, .dup, 1), (35, .getfield 104, 3), (38, .iconst 1, 1), (39, .iadd, 1), (40, .putfield 104, 3), (43, .iinc 2 1, 3), (46, .goto (-39), 3), (49, .iconst 0, 1), (50, .istore_n 2, 1), (51, .iconst 0, 1), (52, .istore_n 3, 1), (53, .iload_n 3, 1), (54, .bipush 9, 2), (56, .if_icmp .ge 36, 3), (59, .aload_n 1, 1), (60, .iload_n 3, 1), (61, .invokevirtual 146, 3), (64, .iconst (-1), 1), (65, .if_icmp .eq 21, 3), (68, .iload_n 2, 1), (69, .aload_n 0, 1), (70, .getfield 104, 3), (73, .if_icmp .ge 13, 3), (76, .aload_n 0, 1), (77, .getfield 34, 3), (80, .iload_n 2, 1), (81, .iload_n 3, 1), (82, .iastore, 1), (83, .iinc 2 1, 3), (86, .iinc 3 1, 3), (89, .goto (-36), 3), (92, .return_, 1)]
set_option maxRecDepth 20000 in
theorem dt_X7_listInside : ∀ q ∈ dl_X7_listInside, decode prog_9_method_14_code q.1 = .ok q.2 := by decide +kernel
def kp_X7_listInside_7 (a1 : Nat)  (X : Xt) (s : (Int32 × Hp)) : Prop := G X s.2 0 0 7 [(0, .ref 68), (1, .ref a1), (2, .int s.1)] []
def ke_X7_listInside_7 (a1 : Nat)  (X : Xt) (e : Hp) : Prop := G X e 0 0 49 [(0, .ref 68), (1, .ref a1)] []
def b_X7_listInside_7 (a1 : Nat)  (x2 : Int32) (h : Hp) : Option ((Int32 × Hp) ⊕ Hp) :=
  if (fI h a1 0) ≤ x2 then
  some (.inr ( h))
  else
  (f_X6_isInside a1 x2 h).bind fun v2 =>
  if v2 = true then
  (inb (fI h 68 9) 6).bind fun j5 =>
  some (.inl ((x2 + (1 : Int32)), (sF (sA h 78 j5 x2) 68 9 ((fI (sA h 78 j5 x2) 68 9) + (1 : Int32)))))
  else
  some (.inl ((x2 + (1 : Int32)), h))
set_option maxRecDepth 20000 in
theorem wb_X7_listInside_7 {X : Xt} (C : Cx X cn_7 prog_9_method_14_code 4 none 3 0 0) (a1 : Nat) (Ha1 : IsRoom a1)  (x2 : Int32) (h : Hp) (q : (Int32 × Hp) ⊕ Hp) (hrun : b_X7_listInside_7 a1  x2 h = some q) (Ks : ∀ s, q = .inl s → kp_X7_listInside_7 a1  X s) (Ke : ∀ e, q = .inr e → ke_X7_listInside_7 a1  X e) : kp_X7_listInside_7 a1  X (x2, h) := by
  show G X h 0 0 7 [(0, .ref 68), (1, .ref a1), (2, .int x2)] []
  unfold b_X7_listInside_7 at hrun
  refine g_iload_n C (dat dt_X7_listInside 5 rfl) 2 rfl ?_
  refine g_aload_n C (dat dt_X7_listInside 6 rfl) 1 rfl ?_
  refine g_getI C (dat dt_X7_listInside 7 rfl) fl_7_71 Ha1.1 rfl (rb0 Ha1) ?_
  refine g_ic_ge 49 C (dat dt_X7_listInside 8 rfl) (by decide) (fun c1 => ?_) (fun c1 => ?_)
  · rw [if_pos c1] at hrun
    refine g_sub [0, 1] (lv' := [(0, .ref 68), (1, .ref a1)]) rfl ?_
    cases hrun
    exact Ke ( h) rfl
  · rw [if_neg c1] at hrun
    refine g_aload_n C (dat dt_X7_listInside 9 rfl) 1 rfl ?_
    refine g_iload_n C (dat dt_X7_listInside 10 rfl) 2 rfl ?_
    obtain ⟨v2, q3, hrun⟩ := bd hrun
    refine g_cVi [.int x2] C (dat dt_X7_listInside 11 rfl) ml_7_143 (w_X6_isInside a1 x2 h v2 Ha1 q3) Ha1.1 (rb0 Ha1) rfl rfl cat0 (by decide) c00 ?_
    refine g_if_eq 43 C (dat dt_X7_listInside 12 rfl) (by decide) (fun c4 => ?_) (fun c4 => ?_)
    · rw [if_neg (b2i_z c4)] at hrun
      refine g_iinc (v := (x2 + (1 : Int32))) (lv' := [(0, .ref 68), (1, .ref a1), (2, .int (x2 + (1 : Int32)))]) C (dat dt_X7_listInside 25 rfl) 2 rfl (congrArg (fun z => x2 + z) ic_1) (by decide) rfl ?_
      refine g_goto 7 C (dat dt_X7_listInside 26 rfl) (by decide) ?_
      cases hrun
      exact Ks ((x2 + (1 : Int32)), h) rfl
    · rw [if_pos (b2i_nz c4)] at hrun
      refine g_aload_n C (dat dt_X7_listInside 13 rfl) 0 rfl ?_
      refine g_getR C (dat dt_X7_listInside 14 rfl) fl_7_31 kd_68 rfl ltk_68 ?_
      refine g_aload_n C (dat dt_X7_listInside 15 rfl) 0 rfl ?_
      refine g_getI C (dat dt_X7_listInside 16 rfl) fl_7_104 kd_68 rfl ltk_68 ?_
      refine g_iload_n C (dat dt_X7_listInside 17 rfl) 2 rfl ?_
      obtain ⟨j5, q6, hrun⟩ := bd hrun
      refine g_iast (j := j5) C (dat dt_X7_listInside 18 rfl) kd_78 ltk_78 q6  ?_
      refine g_aload_n C (dat dt_X7_listInside 19 rfl) 0 rfl ?_
      refine g_dup C (dat dt_X7_listInside 20 rfl) rfl ?_
      refine g_getI C (dat dt_X7_listInside 21 rfl) fl_7_104 kd_68 rfl ltk_68 ?_
      refine g_iconst C (dat dt_X7_listInside 22 rfl) ic_1 ?_
      refine g_iadd C (dat dt_X7_listInside 23 rfl) ?_
      refine g_putI C (dat dt_X7_listInside 24 rfl) fl_7_104 rfl rfl kd_68 rfl ltk_68 ?_
      refine g_iinc (v := (x2 + (1 : Int32))) (lv' := [(0, .ref 68), (1, .ref a1), (2, .int (x2 + (1 : Int32)))]) C (dat dt_X7_listInside 25 rfl) 2 rfl (congrArg (fun z => x2 + z) ic_1) (by decide) rfl ?_
      refine g_goto 7 C (dat dt_X7_listInside 26 rfl) (by decide) ?_
      cases hrun
      exact Ks ((x2 + (1 : Int32)), (sF (sA h 78 j5 x2) 68 9 ((fI (sA h 78 j5 x2) 68 9) + (1 : Int32)))) rfl
def kp_X7_listInside_53 (a1 : Nat)  (X : Xt) (s : (Int32 × Int32 × Hp)) : Prop := G X s.2.2 0 0 53 [(0, .ref 68), (1, .ref a1), (2, .int s.1), (3, .int s.2.1)] []
def ke_X7_listInside_53 (a1 : Nat)  (X : Xt) (e : Hp) : Prop := G X e 0 0 92 [] []
def b_X7_listInside_53 (a1 : Nat)  (x2 : Int32) (x3 : Int32) (h : Hp) : Option ((Int32 × Int32 × Hp) ⊕ Hp) :=
  if (9 : Int32) ≤ x3 then
  some (.inr ( h))
  else
  (f_X6_whoAt a1 x3 h).bind fun v10 =>
  if v10 = (-1 : Int32) then
  some (.inl (x2, (x3 + (1 : Int32)), h))
  else
  if (fI h 68 9) ≤ x2 then
  some (.inl (x2, (x3 + (1 : Int32)), h))
  else
  (inb x2 6).bind fun j14 =>
  some (.inl ((x2 + (1 : Int32)), (x3 + (1 : Int32)), (sA h 79 j14 x3)))
set_option maxRecDepth 20000 in
theorem wb_X7_listInside_53 {X : Xt} (C : Cx X cn_7 prog_9_method_14_code 4 none 3 0 0) (a1 : Nat) (Ha1 : IsRoom a1)  (x2 : Int32) (x3 : Int32) (h : Hp) (q : (Int32 × Int32 × Hp) ⊕ Hp) (hrun : b_X7_listInside_53 a1  x2 x3 h = some q) (Ks : ∀ s, q = .inl s → kp_X7_listInside_53 a1  X s) (Ke : ∀ e, q = .inr e → ke_X7_listInside_53 a1  X e) : kp_X7_listInside_53 a1  X (x2, x3, h) := by
  show G X h 0 0 53 [(0, .ref 68), (1, .ref a1), (2, .int x2), (3, .int x3)] []
  unfold b_X7_listInside_53 at hrun
  refine g_iload_n C (dat dt_X7_listInside 31 rfl) 3 rfl ?_
  refine g_bipush C (dat dt_X7_listInside 32 rfl) bp_9 ?_
  refine g_ic_ge 92 C (dat dt_X7_listInside 33 rfl) (by decide) (fun c9 => ?_) (fun c9 => ?_)
  · rw [if_pos c9] at hrun
    refine g_sub [] (lv' := []) rfl ?_
    cases hrun
    exact Ke ( h) rfl
  · rw [if_neg c9] at hrun
    refine g_aload_n C (dat dt_X7_listInside 34 rfl) 1 rfl ?_
    refine g_iload_n C (dat dt_X7_listInside 35 rfl) 3 rfl ?_
    obtain ⟨v10, q11, hrun⟩ := bd hrun
    refine g_cVi [.int x3] C (dat dt_X7_listInside 36 rfl) ml_7_146 (w_X6_whoAt a1 x3 h v10 Ha1 q11) Ha1.1 (rb0 Ha1) rfl rfl cat0 (by decide) c00 ?_
    refine g_iconst C (dat dt_X7_listInside 37 rfl) ic_m1 ?_
    refine g_ic_eq 86 C (dat dt_X7_listInside 38 rfl) (by decide) (fun c12 => ?_) (fun c12 => ?_)
    · rw [if_pos c12] at hrun
      refine g_iinc (v := (x3 + (1 : Int32))) (lv' := [(0, .ref 68), (1, .ref a1), (2, .int x2), (3, .int (x3 + (1 : Int32)))]) C (dat dt_X7_listInside 49 rfl) 3 rfl (congrArg (fun z => x3 + z) ic_1) (by decide) rfl ?_
      refine g_goto 53 C (dat dt_X7_listInside 50 rfl) (by decide) ?_
      cases hrun
      exact Ks (x2, (x3 + (1 : Int32)), h) rfl
    · rw [if_neg c12] at hrun
      refine g_iload_n C (dat dt_X7_listInside 39 rfl) 2 rfl ?_
      refine g_aload_n C (dat dt_X7_listInside 40 rfl) 0 rfl ?_
      refine g_getI C (dat dt_X7_listInside 41 rfl) fl_7_104 kd_68 rfl ltk_68 ?_
      refine g_ic_ge 86 C (dat dt_X7_listInside 42 rfl) (by decide) (fun c13 => ?_) (fun c13 => ?_)
      · rw [if_pos c13] at hrun
        refine g_iinc (v := (x3 + (1 : Int32))) (lv' := [(0, .ref 68), (1, .ref a1), (2, .int x2), (3, .int (x3 + (1 : Int32)))]) C (dat dt_X7_listInside 49 rfl) 3 rfl (congrArg (fun z => x3 + z) ic_1) (by decide) rfl ?_
        refine g_goto 53 C (dat dt_X7_listInside 50 rfl) (by decide) ?_
        cases hrun
        exact Ks (x2, (x3 + (1 : Int32)), h) rfl
      · rw [if_neg c13] at hrun
        refine g_aload_n C (dat dt_X7_listInside 43 rfl) 0 rfl ?_
        refine g_getR C (dat dt_X7_listInside 44 rfl) fl_7_34 kd_68 rfl ltk_68 ?_
        refine g_iload_n C (dat dt_X7_listInside 45 rfl) 2 rfl ?_
        refine g_iload_n C (dat dt_X7_listInside 46 rfl) 3 rfl ?_
        obtain ⟨j14, q15, hrun⟩ := bd hrun
        refine g_iast (j := j14) C (dat dt_X7_listInside 47 rfl) kd_79 ltk_79 q15  ?_
        refine g_iinc (v := (x2 + (1 : Int32))) (lv' := [(0, .ref 68), (1, .ref a1), (2, .int (x2 + (1 : Int32))), (3, .int x3)]) C (dat dt_X7_listInside 48 rfl) 2 rfl (congrArg (fun z => x2 + z) ic_1) (by decide) rfl ?_
        refine g_iinc (v := (x3 + (1 : Int32))) (lv' := [(0, .ref 68), (1, .ref a1), (2, .int (x2 + (1 : Int32))), (3, .int (x3 + (1 : Int32)))]) C (dat dt_X7_listInside 49 rfl) 3 rfl (congrArg (fun z => x3 + z) ic_1) (by decide) rfl ?_
        refine g_goto 53 C (dat dt_X7_listInside 50 rfl) (by decide) ?_
        cases hrun
        exact Ks ((x2 + (1 : Int32)), (x3 + (1 : Int32)), (sA h 79 j14 x3)) rfl
def f_X7_listInside (a1 : Nat) (h : Hp) : Option (Unit × Hp) :=
  (lp (fun s => b_X7_listInside_7 a1  s.1 s.2) FU ((0 : Int32), (sF h 68 9 (0 : Int32)))).bind fun e7 =>
  (lp (fun s => b_X7_listInside_53 a1  s.1 s.2.1 s.2.2) FU ((0 : Int32), (0 : Int32), e7)).bind fun e16 =>
  some ((), e16)
set_option maxRecDepth 20000 in
theorem w_X7_listInside (a1 : Nat) (h : Hp) (q : (Unit × Hp)) (Ha1 : IsRoom a1) (hrun : f_X7_listInside a1 h = some q) : MetA ⟨"SteamNations$Seatings", "listInside", "(LSteamNations$Room;)V"⟩ prog_9_method_14_code 4 none 3 0 0 [.ref 68, .ref a1] h none q.2 := by
  refine metA_of (by decide) (Nat.le_of_ble_eq_true rfl) (fun X C K => ?_)
  have C : Cx X cn_7 prog_9_method_14_code 4 none 3 0 0 := C
  show G X h 0 0 0 [(0, .ref 68), (1, .ref a1)] []
  unfold f_X7_listInside at hrun
  refine g_aload_n C (dat dt_X7_listInside 0 rfl) 0 rfl ?_
  refine g_iconst C (dat dt_X7_listInside 1 rfl) ic_0 ?_
  refine g_putI C (dat dt_X7_listInside 2 rfl) fl_7_104 rfl rfl kd_68 rfl ltk_68 ?_
  refine g_iconst C (dat dt_X7_listInside 3 rfl) ic_0 ?_
  refine g_istore_n (lv' := [(0, .ref 68), (1, .ref a1), (2, .int (0 : Int32))]) C (dat dt_X7_listInside 4 rfl) (by decide) rfl ?_
  obtain ⟨e7, q8, hrun⟩ := bd hrun
  refine lp_ind (P := fun s => kp_X7_listInside_7 a1  X s) (K := fun e => ke_X7_listInside_7 a1  X e) (fun s q hb Ks Ke => wb_X7_listInside_7 C a1 Ha1  s.1 s.2 q hb Ks Ke) FU ((0 : Int32), (sF h 68 9 (0 : Int32))) e7 q8 ?_
  show G X e7 0 0 49 [(0, .ref 68), (1, .ref a1)] []
  refine g_iconst C (dat dt_X7_listInside 27 rfl) ic_0 ?_
  refine g_istore_n (lv' := [(0, .ref 68), (1, .ref a1), (2, .int (0 : Int32))]) C (dat dt_X7_listInside 28 rfl) (by decide) rfl ?_
  refine g_iconst C (dat dt_X7_listInside 29 rfl) ic_0 ?_
  refine g_istore_n (lv' := [(0, .ref 68), (1, .ref a1), (2, .int (0 : Int32)), (3, .int (0 : Int32))]) C (dat dt_X7_listInside 30 rfl) (by decide) rfl ?_
  obtain ⟨e16, q17, hrun⟩ := bd hrun
  refine lp_ind (P := fun s => kp_X7_listInside_53 a1  X s) (K := fun e => ke_X7_listInside_53 a1  X e) (fun s q hb Ks Ke => wb_X7_listInside_53 C a1 Ha1  s.1 s.2.1 s.2.2 q hb Ks Ke) FU ((0 : Int32), (0 : Int32), e7) e16 q17 ?_
  show G X e16 0 0 92 [] []
  cases hrun
  exact g_vret C K (dat dt_X7_listInside 51 rfl)
/-! SteamNations$Seatings.rowOf(LSteamNations$Room;)I -/
def dl_X7_rowOf : List (Nat × Instr × Nat) := [(0, .iconst 0, 1), (1, .istore_n 1, 1), (2, .iconst 0, 1), (3, .istore_n 2, 1), (4, .iload_n 2, 1), (5, .bipush 6, 2), (7, .if_icmp .ge 35, 3), (10, .iload_n 1, 1), (11, .aload_n 0, 1), (12, .iload_n 2, 1), (13, .invokevirtual 143, 3), (16, .ifCond .eq 12, 3), (19, .aload_n 0, 1), (20, .getfield 152, 3), (23, .iload_n 2, 1), (24, .iaload, 1), (25, .goto 5, 3), (28, .bipush 15, 2), (30, .iconst 4, 1), (31, .iload_n 2, 1), (32, .imul, 1), (33, .ishl, 1), (34, .ior, 1), (35, .istore_n 1, 1), (36, .iinc 2 1, 3), (39, .goto (-35), 3), (42, .iload_n 1, 1), (43, .ireturn, 1)]
set_option maxRecDepth 20000 in
theorem dt_X7_rowOf : ∀ q ∈ dl_X7_rowOf, decode prog_9_method_23_code q.1 = .ok q.2 := by decide +kernel
def kp_X7_rowOf_4 (a0 : Nat)  (h : Hp) (X : Xt) (s : (Int32 × Int32)) : Prop := G X h 0 0 4 [(0, .ref a0), (1, .int s.1), (2, .int s.2)] []
def ke_X7_rowOf_4 (a0 : Nat)  (h : Hp) (X : Xt) (e : Int32) : Prop := G X h 0 0 42 [(1, .int e)] []
def j_X7_rowOf_30_4 (a0 : Nat) (x2 : Int32) (s0 : Int32) (s1 : Int32) (h : Hp) : Option ((Int32 × Int32) ⊕ Int32) :=
  some (.inl ((s0 ||| (s1 <<< (((4 : Int32) * x2) &&& 31))), (x2 + (1 : Int32))))
set_option maxRecDepth 20000 in
theorem wj_X7_rowOf_30_4 {X : Xt} (C : Cx X cn_7 prog_9_method_23_code 3 (some .int) 3 0 0) (a0 : Nat) (Ha0 : IsRoom a0)  (x2 : Int32) (s0 : Int32) (s1 : Int32) (h : Hp) (q : (Int32 × Int32) ⊕ Int32) (hrun : j_X7_rowOf_30_4 a0 x2 s0 s1 h = some q) (Ks : ∀ s, q = .inl s → kp_X7_rowOf_4 a0  h X s) (Ke : ∀ e, q = .inr e → ke_X7_rowOf_4 a0  h X e) : G X h 0 0 30 [(0, .ref a0), (2, .int x2)] [.int s1, .int s0] := by
  unfold j_X7_rowOf_30_4 at hrun
  refine g_iconst C (dat dt_X7_rowOf 18 rfl) ic_4 ?_
  refine g_iload_n C (dat dt_X7_rowOf 19 rfl) 1 rfl ?_
  refine g_imul C (dat dt_X7_rowOf 20 rfl) ?_
  refine g_ishl C (dat dt_X7_rowOf 21 rfl) ?_
  refine g_ior C (dat dt_X7_rowOf 22 rfl) ?_
  refine g_istore_n (lv' := [(0, .ref a0), (1, .int (s0 ||| (s1 <<< (((4 : Int32) * x2) &&& 31)))), (2, .int x2)]) C (dat dt_X7_rowOf 23 rfl) (by decide) rfl ?_
  refine g_iinc (v := (x2 + (1 : Int32))) (lv' := [(0, .ref a0), (1, .int (s0 ||| (s1 <<< (((4 : Int32) * x2) &&& 31)))), (2, .int (x2 + (1 : Int32)))]) C (dat dt_X7_rowOf 24 rfl) 2 rfl (congrArg (fun z => x2 + z) ic_1) (by decide) rfl ?_
  refine g_goto 4 C (dat dt_X7_rowOf 25 rfl) (by decide) ?_
  cases hrun
  exact Ks ((s0 ||| (s1 <<< (((4 : Int32) * x2) &&& 31))), (x2 + (1 : Int32))) rfl
def b_X7_rowOf_4 (a0 : Nat)  (x1 : Int32) (x2 : Int32) (h : Hp) : Option ((Int32 × Int32) ⊕ Int32) :=
  if (6 : Int32) ≤ x2 then
  some (.inr ( x1))
  else
  (f_X6_isInside a0 x2 h).bind fun v2 =>
  if v2 = true then
  (inb x2 6).bind fun j5 =>
  j_X7_rowOf_30_4 a0 x2 x1 (aI h (a0 + 3) j5) h
  else
  j_X7_rowOf_30_4 a0 x2 x1 (15 : Int32) h
set_option maxRecDepth 20000 in
theorem wb_X7_rowOf_4 {X : Xt} (C : Cx X cn_7 prog_9_method_23_code 3 (some .int) 3 0 0) (a0 : Nat) (Ha0 : IsRoom a0)  (x1 : Int32) (x2 : Int32) (h : Hp) (q : (Int32 × Int32) ⊕ Int32) (hrun : b_X7_rowOf_4 a0  x1 x2 h = some q) (Ks : ∀ s, q = .inl s → kp_X7_rowOf_4 a0  h X s) (Ke : ∀ e, q = .inr e → ke_X7_rowOf_4 a0  h X e) : kp_X7_rowOf_4 a0  h X (x1, x2) := by
  show G X h 0 0 4 [(0, .ref a0), (1, .int x1), (2, .int x2)] []
  unfold b_X7_rowOf_4 at hrun
  refine g_iload_n C (dat dt_X7_rowOf 4 rfl) 2 rfl ?_
  refine g_bipush C (dat dt_X7_rowOf 5 rfl) bp_6 ?_
  refine g_ic_ge 42 C (dat dt_X7_rowOf 6 rfl) (by decide) (fun c1 => ?_) (fun c1 => ?_)
  · rw [if_pos c1] at hrun
    refine g_sub [1] (lv' := [(1, .int x1)]) rfl ?_
    cases hrun
    exact Ke ( x1) rfl
  · rw [if_neg c1] at hrun
    refine g_iload_n C (dat dt_X7_rowOf 7 rfl) 1 rfl ?_
    refine g_aload_n C (dat dt_X7_rowOf 8 rfl) 0 rfl ?_
    refine g_iload_n C (dat dt_X7_rowOf 9 rfl) 2 rfl ?_
    obtain ⟨v2, q3, hrun⟩ := bd hrun
    refine g_cVi [.int x2] C (dat dt_X7_rowOf 10 rfl) ml_7_143 (w_X6_isInside a0 x2 h v2 Ha0 q3) Ha0.1 (rb0 Ha0) rfl rfl (Nat.le_of_ble_eq_true rfl) (by decide) c00 ?_
    refine g_if_eq 28 C (dat dt_X7_rowOf 11 rfl) (by decide) (fun c4 => ?_) (fun c4 => ?_)
    · rw [if_neg (b2i_z c4)] at hrun
      refine g_bipush C (dat dt_X7_rowOf 17 rfl) bp_15 ?_
      refine g_sub [0, 2] (lv' := [(0, .ref a0), (2, .int x2)]) rfl ?_
      exact wj_X7_rowOf_30_4 C a0 Ha0  x2 x1 (15 : Int32) h _ hrun Ks Ke
    · rw [if_pos (b2i_nz c4)] at hrun
      refine g_aload_n C (dat dt_X7_rowOf 12 rfl) 0 rfl ?_
      refine g_getR C (dat dt_X7_rowOf 13 rfl) fl_7_152 Ha0.1 rfl (rb0 Ha0) ?_
      refine g_iload_n C (dat dt_X7_rowOf 14 rfl) 2 rfl ?_
      obtain ⟨j5, q6, hrun⟩ := bd hrun
      refine g_iald C (dat dt_X7_rowOf 15 rfl) Ha0.2.2.2.1 (rb3 Ha0) q6 ?_
      refine g_goto 30 C (dat dt_X7_rowOf 16 rfl) (by decide) ?_
      refine g_sub [0, 2] (lv' := [(0, .ref a0), (2, .int x2)]) rfl ?_
      exact wj_X7_rowOf_30_4 C a0 Ha0  x2 x1 (aI h (a0 + 3) j5) h _ hrun Ks Ke
def f_X7_rowOf (a0 : Nat) (h : Hp) : Option Int32 :=
  (lp (fun s => b_X7_rowOf_4 a0  s.1 s.2 h) FU ((0 : Int32), (0 : Int32))).bind fun e7 =>
  some e7
set_option maxRecDepth 20000 in
theorem w_X7_rowOf (a0 : Nat) (h : Hp) (q : Int32) (Ha0 : IsRoom a0) (hrun : f_X7_rowOf a0 h = some q) : MetA ⟨"SteamNations$Seatings", "rowOf", "(LSteamNations$Room;)I"⟩ prog_9_method_23_code 3 (some .int) 3 0 0 [.ref a0] h (some (.int q)) h := by
  refine metA_of (by decide) (Nat.le_of_ble_eq_true rfl) (fun X C K => ?_)
  have C : Cx X cn_7 prog_9_method_23_code 3 (some .int) 3 0 0 := C
  show G X h 0 0 0 [(0, .ref a0)] []
  unfold f_X7_rowOf at hrun
  refine g_iconst C (dat dt_X7_rowOf 0 rfl) ic_0 ?_
  refine g_istore_n (lv' := [(0, .ref a0), (1, .int (0 : Int32))]) C (dat dt_X7_rowOf 1 rfl) (by decide) rfl ?_
  refine g_iconst C (dat dt_X7_rowOf 2 rfl) ic_0 ?_
  refine g_istore_n (lv' := [(0, .ref a0), (1, .int (0 : Int32)), (2, .int (0 : Int32))]) C (dat dt_X7_rowOf 3 rfl) (by decide) rfl ?_
  obtain ⟨e7, q8, hrun⟩ := bd hrun
  refine lp_ind (P := fun s => kp_X7_rowOf_4 a0  h X s) (K := fun e => ke_X7_rowOf_4 a0  h X e) (fun s q hb Ks Ke => wb_X7_rowOf_4 C a0 Ha0  s.1 s.2 h q hb Ks Ke) FU ((0 : Int32), (0 : Int32)) e7 q8 ?_
  show G X h 0 0 42 [(1, .int e7)] []
  refine g_iload_n C (dat dt_X7_rowOf 26 rfl) 0 rfl ?_
  cases hrun
  exact g_iret C K (dat dt_X7_rowOf 27 rfl)
/-! SteamNations$Seatings.playSeating(LSteamNations$Room;LSteamNations$Text;II)V -/
def dl_X7_playSeating : List (Nat × Instr × Nat) := [(0, .aload_n 0, 1), (1, .getfield 12, 3), (4, .aload_n 1, 1), (5, .invokevirtual 149, 3), (8, .iconst 0, 1), (9, .istore 5, 2), (11, .iload 5, 2), (13, .aload_n 0, 1), (14, .getfield 104, 3), (17, .if_icmp .ge 31, 3), (20, .aload_n 0, 1), (21, .getfield 12, 3), (24, .getfield 152, 3), (27, .aload_n 0, 1), (28, .getfield 31, 3), (31, .iload 5, 2), (33, .iaload, 1), (34, .aload_n 0, 1), (35, .getfield 34, 3), (38, .iload 5, 2), (40, .iaload, 1), (41, .iastore, 1), (42, .iinc 5 1, 3), (45, .goto (-34), 3), (48, .aload_n 0, 1), (49, .getfield 18, 3), (52, .iload_n 3, 1), (53, .aload_n 0, 1), (54, .getfield 12, 3), (57, .invokestatic 96, 3), (60, .iastore, 1), (61, .iconst 0, 1), (62, .istore 5, 2), (64, .iload 5, 2), (66, .iload 4, 2), (68, .if_icmp .gt 83, 3), (71, .iload 5, 2), (73, .ifCond .le 15, 3), (76, .aload_n 0, 1), (77, .getfield 44, 3), (80, .aload_n 0, 1), (81, .getfield 12, 3), (84, .aload_n 2, 1), (85, .invokevirtual 155, 3), (88, .iconst 0, 1), (89, .istore 6, 2), (91, .iconst 0, 1), (92, .istore 7, 2), (94, .iload 7, 2), (96, .aload_n 0, 1), (97, .getfield 12, 3), (100, .getfield 71, 3), (103, .if_icmp .ge 28, 3), (106, .iload 6, 2), (108, .aload_n 0, 1), (109, .getfield 12, 3), (112, .iload 7, 2), (114, .invokevirtual 161, 3), (117, .iconst 2, 1), (118, .iload 7, 2), (120, .imul, 1), (121, .ishl, 1), (122, .ior, 1), (123, .istore 6, 2), (125, .iinc 7 1, 3), (128, .goto (-34), 3), (131, .aload_n 0, 1), (132, .getfield 22, 3), (135, .iload_n 3, 1), (136, .bipush 10, 2), (138, .imul, 1), (139, .iload 5, 2), (141, .iadd, 1), (142, .iload 6, 2), (144, .iastore, 1), (145, .iinc 5 1, 3), (148, .goto (-84), 3), (151, .return_, 1)]
set_option maxRecDepth 20000 in
theorem dt_X7_playSeating : ∀ q ∈ dl_X7_playSeating, decode prog_9_method_15_code q.1 = .ok q.2 := by decide +kernel
def kp_X7_playSeating_11 (a1 : Nat) (a2 : Nat) (x3 : Int32) (x4 : Int32) (X : Xt) (s : (Int32 × Hp)) : Prop := G X s.2 0 0 11 [(0, .ref 68), (2, .ref a2), (3, .int x3), (4, .int x4), (5, .int s.1)] []
def ke_X7_playSeating_11 (a1 : Nat) (a2 : Nat) (x3 : Int32) (x4 : Int32) (X : Xt) (e : Hp) : Prop := G X e 0 0 48 [(0, .ref 68), (2, .ref a2), (3, .int x3), (4, .int x4)] []
def b_X7_playSeating_11 (a1 : Nat) (a2 : Nat) (x3 : Int32) (x4 : Int32) (x5 : Int32) (h : Hp) : Option ((Int32 × Hp) ⊕ Hp) :=
  if (fI h 68 9) ≤ x5 then
  some (.inr ( h))
  else
  (inb x5 6).bind fun j4 =>
  (inb x5 6).bind fun j6 =>
  (inb (aI h 78 j4) 6).bind fun j8 =>
  some (.inl ((x5 + (1 : Int32)), (sA h 72 j8 (aI h 79 j6))))
set_option maxRecDepth 20000 in
theorem wb_X7_playSeating_11 {X : Xt} (C : Cx X cn_7 prog_9_method_15_code 8 none 5 0 0) (a1 : Nat) (a2 : Nat) (Ha1 : IsRoom a1) (x3 : Int32) (x4 : Int32) (x5 : Int32) (h : Hp) (q : (Int32 × Hp) ⊕ Hp) (hrun : b_X7_playSeating_11 a1 a2 x3 x4 x5 h = some q) (Ks : ∀ s, q = .inl s → kp_X7_playSeating_11 a1 a2 x3 x4 X s) (Ke : ∀ e, q = .inr e → ke_X7_playSeating_11 a1 a2 x3 x4 X e) : kp_X7_playSeating_11 a1 a2 x3 x4 X (x5, h) := by
  show G X h 0 0 11 [(0, .ref 68), (2, .ref a2), (3, .int x3), (4, .int x4), (5, .int x5)] []
  unfold b_X7_playSeating_11 at hrun
  refine g_iload C (dat dt_X7_playSeating 6 rfl) 4 rfl ?_
  refine g_aload_n C (dat dt_X7_playSeating 7 rfl) 0 rfl ?_
  refine g_getI C (dat dt_X7_playSeating 8 rfl) fl_7_104 kd_68 rfl ltk_68 ?_
  refine g_ic_ge 48 C (dat dt_X7_playSeating 9 rfl) (by decide) (fun c3 => ?_) (fun c3 => ?_)
  · rw [if_pos c3] at hrun
    refine g_sub [0, 1, 2, 3] (lv' := [(0, .ref 68), (2, .ref a2), (3, .int x3), (4, .int x4)]) rfl ?_
    cases hrun
    exact Ke ( h) rfl
  · rw [if_neg c3] at hrun
    refine g_aload_n C (dat dt_X7_playSeating 10 rfl) 0 rfl ?_
    refine g_getR C (dat dt_X7_playSeating 11 rfl) fl_7_12 kd_68 rfl ltk_68 ?_
    refine g_getR C (dat dt_X7_playSeating 12 rfl) fl_7_152 kd_69 rfl ltk_69 ?_
    refine g_aload_n C (dat dt_X7_playSeating 13 rfl) 0 rfl ?_
    refine g_getR C (dat dt_X7_playSeating 14 rfl) fl_7_31 kd_68 rfl ltk_68 ?_
    refine g_iload C (dat dt_X7_playSeating 15 rfl) 4 rfl ?_
    obtain ⟨j4, q5, hrun⟩ := bd hrun
    refine g_iald C (dat dt_X7_playSeating 16 rfl) kd_78 ltk_78 q5 ?_
    refine g_aload_n C (dat dt_X7_playSeating 17 rfl) 0 rfl ?_
    refine g_getR C (dat dt_X7_playSeating 18 rfl) fl_7_34 kd_68 rfl ltk_68 ?_
    refine g_iload C (dat dt_X7_playSeating 19 rfl) 4 rfl ?_
    obtain ⟨j6, q7, hrun⟩ := bd hrun
    refine g_iald C (dat dt_X7_playSeating 20 rfl) kd_79 ltk_79 q7 ?_
    obtain ⟨j8, q9, hrun⟩ := bd hrun
    refine g_iast (j := j8) C (dat dt_X7_playSeating 21 rfl) kd_72 ltk_72 q9  ?_
    refine g_iinc (v := (x5 + (1 : Int32))) (lv' := [(0, .ref 68), (2, .ref a2), (3, .int x3), (4, .int x4), (5, .int (x5 + (1 : Int32)))]) C (dat dt_X7_playSeating 22 rfl) 4 rfl (congrArg (fun z => x5 + z) ic_1) (by decide) rfl ?_
    refine g_goto 11 C (dat dt_X7_playSeating 23 rfl) (by decide) ?_
    cases hrun
    exact Ks ((x5 + (1 : Int32)), (sA h 72 j8 (aI h 79 j6))) rfl
def kp_X7_playSeating_64 (a1 : Nat) (a2 : Nat) (x3 : Int32) (x4 : Int32) (X : Xt) (s : (Int32 × Hp)) : Prop := G X s.2 0 0 64 [(0, .ref 68), (2, .ref a2), (3, .int x3), (4, .int x4), (5, .int s.1)] []
def ke_X7_playSeating_64 (a1 : Nat) (a2 : Nat) (x3 : Int32) (x4 : Int32) (X : Xt) (e : Hp) : Prop := G X e 0 0 151 [] []
def kp_X7_playSeating_94_64 (a1 : Nat) (a2 : Nat) (x3 : Int32) (x4 : Int32) (x5 : Int32) (h : Hp) (X : Xt) (s : (Int32 × Int32)) : Prop := G X h 0 0 94 [(0, .ref 68), (2, .ref a2), (3, .int x3), (4, .int x4), (5, .int x5), (6, .int s.1), (7, .int s.2)] []
def ke_X7_playSeating_94_64 (a1 : Nat) (a2 : Nat) (x3 : Int32) (x4 : Int32) (x5 : Int32) (h : Hp) (X : Xt) (e : Int32) : Prop := G X h 0 0 131 [(0, .ref 68), (2, .ref a2), (3, .int x3), (4, .int x4), (5, .int x5), (6, .int e)] []
def b_X7_playSeating_94_64 (a1 : Nat) (a2 : Nat) (x3 : Int32) (x4 : Int32) (x5 : Int32) (x6 : Int32) (x7 : Int32) (h : Hp) : Option ((Int32 × Int32) ⊕ Int32) :=
  if (fI h 69 0) ≤ x7 then
  some (.inr ( x6))
  else
  (f_X6_nationOf 69 x7 h).bind fun v19 =>
  some (.inl ((x6 ||| (v19 <<< (((2 : Int32) * x7) &&& 31))), (x7 + (1 : Int32))))
set_option maxRecDepth 20000 in
theorem wb_X7_playSeating_94_64 {X : Xt} (C : Cx X cn_7 prog_9_method_15_code 8 none 5 0 0) (a1 : Nat) (a2 : Nat) (Ha1 : IsRoom a1) (x3 : Int32) (x4 : Int32) (x5 : Int32) (x6 : Int32) (x7 : Int32) (h : Hp) (q : (Int32 × Int32) ⊕ Int32) (hrun : b_X7_playSeating_94_64 a1 a2 x3 x4 x5 x6 x7 h = some q) (Ks : ∀ s, q = .inl s → kp_X7_playSeating_94_64 a1 a2 x3 x4 x5 h X s) (Ke : ∀ e, q = .inr e → ke_X7_playSeating_94_64 a1 a2 x3 x4 x5 h X e) : kp_X7_playSeating_94_64 a1 a2 x3 x4 x5 h X (x6, x7) := by
  show G X h 0 0 94 [(0, .ref 68), (2, .ref a2), (3, .int x3), (4, .int x4), (5, .int x5), (6, .int x6), (7, .int x7)] []
  unfold b_X7_playSeating_94_64 at hrun
  refine g_iload C (dat dt_X7_playSeating 48 rfl) 6 rfl ?_
  refine g_aload_n C (dat dt_X7_playSeating 49 rfl) 0 rfl ?_
  refine g_getR C (dat dt_X7_playSeating 50 rfl) fl_7_12 kd_68 rfl ltk_68 ?_
  refine g_getI C (dat dt_X7_playSeating 51 rfl) fl_7_71 kd_69 rfl ltk_69 ?_
  refine g_ic_ge 131 C (dat dt_X7_playSeating 52 rfl) (by decide) (fun c18 => ?_) (fun c18 => ?_)
  · rw [if_pos c18] at hrun
    refine g_sub [0, 1, 2, 3, 4, 5] (lv' := [(0, .ref 68), (2, .ref a2), (3, .int x3), (4, .int x4), (5, .int x5), (6, .int x6)]) rfl ?_
    cases hrun
    exact Ke ( x6) rfl
  · rw [if_neg c18] at hrun
    refine g_iload C (dat dt_X7_playSeating 53 rfl) 5 rfl ?_
    refine g_aload_n C (dat dt_X7_playSeating 54 rfl) 0 rfl ?_
    refine g_getR C (dat dt_X7_playSeating 55 rfl) fl_7_12 kd_68 rfl ltk_68 ?_
    refine g_iload C (dat dt_X7_playSeating 56 rfl) 6 rfl ?_
    obtain ⟨v19, q20, hrun⟩ := bd hrun
    refine g_cVi [.int x7] C (dat dt_X7_playSeating 57 rfl) ml_7_161 (w_X6_nationOf 69 x7 h v19 room_69 q20) kd_69 ltk_69 rfl rfl (Nat.le_of_ble_eq_true rfl) (by decide) c00 ?_
    refine g_iconst C (dat dt_X7_playSeating 58 rfl) ic_2 ?_
    refine g_iload C (dat dt_X7_playSeating 59 rfl) 6 rfl ?_
    refine g_imul C (dat dt_X7_playSeating 60 rfl) ?_
    refine g_ishl C (dat dt_X7_playSeating 61 rfl) ?_
    refine g_ior C (dat dt_X7_playSeating 62 rfl) ?_
    refine g_istore (lv' := [(0, .ref 68), (2, .ref a2), (3, .int x3), (4, .int x4), (5, .int x5), (6, .int (x6 ||| (v19 <<< (((2 : Int32) * x7) &&& 31)))), (7, .int x7)]) C (dat dt_X7_playSeating 63 rfl) (by decide) rfl ?_
    refine g_iinc (v := (x7 + (1 : Int32))) (lv' := [(0, .ref 68), (2, .ref a2), (3, .int x3), (4, .int x4), (5, .int x5), (6, .int (x6 ||| (v19 <<< (((2 : Int32) * x7) &&& 31)))), (7, .int (x7 + (1 : Int32)))]) C (dat dt_X7_playSeating 64 rfl) 6 rfl (congrArg (fun z => x7 + z) ic_1) (by decide) rfl ?_
    refine g_goto 94 C (dat dt_X7_playSeating 65 rfl) (by decide) ?_
    cases hrun
    exact Ks ((x6 ||| (v19 <<< (((2 : Int32) * x7) &&& 31))), (x7 + (1 : Int32))) rfl
def j_X7_playSeating_88_64 (a1 : Nat) (a2 : Nat) (x3 : Int32) (x4 : Int32) (x5 : Int32) (h : Hp) : Option ((Int32 × Hp) ⊕ Hp) :=
  (lp (fun s => b_X7_playSeating_94_64 a1 a2 x3 x4 x5 s.1 s.2 h) FU ((0 : Int32), (0 : Int32))).bind fun e21 =>
  (inb ((x3 * (10 : Int32)) + x5) 7200).bind fun j23 =>
  some (.inl ((x5 + (1 : Int32)), (sA h 75 j23 e21)))
set_option maxRecDepth 20000 in
theorem wj_X7_playSeating_88_64 {X : Xt} (C : Cx X cn_7 prog_9_method_15_code 8 none 5 0 0) (a1 : Nat) (a2 : Nat) (Ha1 : IsRoom a1)  (x3 : Int32) (x4 : Int32) (x5 : Int32) (h : Hp) (q : (Int32 × Hp) ⊕ Hp) (hrun : j_X7_playSeating_88_64 a1 a2 x3 x4 x5 h = some q) (Ks : ∀ s, q = .inl s → kp_X7_playSeating_64 a1 a2 x3 x4 X s) (Ke : ∀ e, q = .inr e → ke_X7_playSeating_64 a1 a2 x3 x4 X e) : G X h 0 0 88 [(0, .ref 68), (2, .ref a2), (3, .int x3), (4, .int x4), (5, .int x5)] [] := by
  unfold j_X7_playSeating_88_64 at hrun
  refine g_iconst C (dat dt_X7_playSeating 44 rfl) ic_0 ?_
  refine g_istore (lv' := [(0, .ref 68), (2, .ref a2), (3, .int x3), (4, .int x4), (5, .int x5), (6, .int (0 : Int32))]) C (dat dt_X7_playSeating 45 rfl) (by decide) rfl ?_
  refine g_iconst C (dat dt_X7_playSeating 46 rfl) ic_0 ?_
  refine g_istore (lv' := [(0, .ref 68), (2, .ref a2), (3, .int x3), (4, .int x4), (5, .int x5), (6, .int (0 : Int32)), (7, .int (0 : Int32))]) C (dat dt_X7_playSeating 47 rfl) (by decide) rfl ?_
  obtain ⟨e21, q22, hrun⟩ := bd hrun
  refine lp_ind (P := fun s => kp_X7_playSeating_94_64 a1 a2 x3 x4 x5 h X s) (K := fun e => ke_X7_playSeating_94_64 a1 a2 x3 x4 x5 h X e) (fun s q hb Ks Ke => wb_X7_playSeating_94_64 C a1 a2 Ha1 x3 x4 x5 s.1 s.2 h q hb Ks Ke) FU ((0 : Int32), (0 : Int32)) e21 q22 ?_
  show G X h 0 0 131 [(0, .ref 68), (2, .ref a2), (3, .int x3), (4, .int x4), (5, .int x5), (6, .int e21)] []
  refine g_aload_n C (dat dt_X7_playSeating 66 rfl) 0 rfl ?_
  refine g_getR C (dat dt_X7_playSeating 67 rfl) fl_7_22 kd_68 rfl ltk_68 ?_
  refine g_iload_n C (dat dt_X7_playSeating 68 rfl) 2 rfl ?_
  refine g_bipush C (dat dt_X7_playSeating 69 rfl) bp_10 ?_
  refine g_imul C (dat dt_X7_playSeating 70 rfl) ?_
  refine g_iload C (dat dt_X7_playSeating 71 rfl) 4 rfl ?_
  refine g_iadd C (dat dt_X7_playSeating 72 rfl) ?_
  refine g_iload C (dat dt_X7_playSeating 73 rfl) 5 rfl ?_
  obtain ⟨j23, q24, hrun⟩ := bd hrun
  refine g_iast (j := j23) C (dat dt_X7_playSeating 74 rfl) kd_75 ltk_75 q24  ?_
  refine g_iinc (v := (x5 + (1 : Int32))) (lv' := [(0, .ref 68), (2, .ref a2), (3, .int x3), (4, .int x4), (5, .int (x5 + (1 : Int32))), (6, .int e21)]) C (dat dt_X7_playSeating 75 rfl) 4 rfl (congrArg (fun z => x5 + z) ic_1) (by decide) rfl ?_
  refine g_goto 64 C (dat dt_X7_playSeating 76 rfl) (by decide) ?_
  refine g_sub [0, 1, 2, 3, 4] (lv' := [(0, .ref 68), (2, .ref a2), (3, .int x3), (4, .int x4), (5, .int (x5 + (1 : Int32)))]) rfl ?_
  cases hrun
  exact Ks ((x5 + (1 : Int32)), (sA h 75 j23 e21)) rfl
def b_X7_playSeating_64 (a1 : Nat) (a2 : Nat) (x3 : Int32) (x4 : Int32) (x5 : Int32) (h : Hp) : Option ((Int32 × Hp) ⊕ Hp) :=
  if x4 < x5 then
  some (.inr ( h))
  else
  if x5 ≤ 0 then
  j_X7_playSeating_88_64 a1 a2 x3 x4 x5 h
  else
  (f_X8_passMinute 69 a2 h).bind fun v25 =>
  j_X7_playSeating_88_64 a1 a2 x3 x4 x5 v25.2
set_option maxRecDepth 20000 in
theorem wb_X7_playSeating_64 {X : Xt} (C : Cx X cn_7 prog_9_method_15_code 8 none 5 0 0) (a1 : Nat) (a2 : Nat) (Ha1 : IsRoom a1) (x3 : Int32) (x4 : Int32) (x5 : Int32) (h : Hp) (q : (Int32 × Hp) ⊕ Hp) (hrun : b_X7_playSeating_64 a1 a2 x3 x4 x5 h = some q) (Ks : ∀ s, q = .inl s → kp_X7_playSeating_64 a1 a2 x3 x4 X s) (Ke : ∀ e, q = .inr e → ke_X7_playSeating_64 a1 a2 x3 x4 X e) : kp_X7_playSeating_64 a1 a2 x3 x4 X (x5, h) := by
  show G X h 0 0 64 [(0, .ref 68), (2, .ref a2), (3, .int x3), (4, .int x4), (5, .int x5)] []
  unfold b_X7_playSeating_64 at hrun
  refine g_iload C (dat dt_X7_playSeating 33 rfl) 4 rfl ?_
  refine g_iload C (dat dt_X7_playSeating 34 rfl) 3 rfl ?_
  refine g_ic_gt 151 C (dat dt_X7_playSeating 35 rfl) (by decide) (fun c16 => ?_) (fun c16 => ?_)
  · rw [if_pos c16] at hrun
    refine g_sub [] (lv' := []) rfl ?_
    cases hrun
    exact Ke ( h) rfl
  · rw [if_neg c16] at hrun
    refine g_iload C (dat dt_X7_playSeating 36 rfl) 4 rfl ?_
    refine g_if_le 88 C (dat dt_X7_playSeating 37 rfl) (by decide) (fun c17 => ?_) (fun c17 => ?_)
    · rw [if_pos c17] at hrun
      exact wj_X7_playSeating_88_64 C a1 a2 Ha1  x3 x4 x5 h _ hrun Ks Ke
    · rw [if_neg c17] at hrun
      refine g_aload_n C (dat dt_X7_playSeating 38 rfl) 0 rfl ?_
      refine g_getR C (dat dt_X7_playSeating 39 rfl) fl_7_44 kd_68 rfl ltk_68 ?_
      refine g_aload_n C (dat dt_X7_playSeating 40 rfl) 0 rfl ?_
      refine g_getR C (dat dt_X7_playSeating 41 rfl) fl_7_12 kd_68 rfl ltk_68 ?_
      refine g_aload_n C (dat dt_X7_playSeating 42 rfl) 1 rfl ?_
      obtain ⟨v25, q26, hrun⟩ := bd hrun
      refine g_cVv [.ref 69, .ref a2] C (dat dt_X7_playSeating 43 rfl) ml_7_155 (w_X8_passMinute 69 a2 h v25 room_69 q26) kd_56 ltk_56 rfl rfl cat0 (by decide) c00 ?_
      exact wj_X7_playSeating_88_64 C a1 a2 Ha1  x3 x4 x5 v25.2 _ hrun Ks Ke
def f_X7_playSeating (a1 : Nat) (a2 : Nat) (x3 : Int32) (x4 : Int32) (h : Hp) : Option (Unit × Hp) :=
  (f_X6_copyFrom 69 a1 h).bind fun v1 =>
  (lp (fun s => b_X7_playSeating_11 a1 a2 x3 x4 s.1 s.2) FU ((0 : Int32), v1.2)).bind fun e10 =>
  (f_X7_rowOf 69 e10).bind fun v12 =>
  (inb x3 720).bind fun j14 =>
  (lp (fun s => b_X7_playSeating_64 a1 a2 x3 x4 s.1 s.2) FU ((0 : Int32), (sA e10 74 j14 v12))).bind fun e27 =>
  some ((), e27)
set_option maxRecDepth 20000 in
theorem w_X7_playSeating (a1 : Nat) (a2 : Nat) (x3 : Int32) (x4 : Int32) (h : Hp) (q : (Unit × Hp)) (Ha1 : IsRoom a1) (hrun : f_X7_playSeating a1 a2 x3 x4 h = some q) : MetA ⟨"SteamNations$Seatings", "playSeating", "(LSteamNations$Room;LSteamNations$Text;II)V"⟩ prog_9_method_15_code 8 none 5 0 0 [.ref 68, .ref a1, .ref a2, .int x3, .int x4] h none q.2 := by
  refine metA_of (by decide) (Nat.le_of_ble_eq_true rfl) (fun X C K => ?_)
  have C : Cx X cn_7 prog_9_method_15_code 8 none 5 0 0 := C
  show G X h 0 0 0 [(0, .ref 68), (1, .ref a1), (2, .ref a2), (3, .int x3), (4, .int x4)] []
  unfold f_X7_playSeating at hrun
  refine g_aload_n C (dat dt_X7_playSeating 0 rfl) 0 rfl ?_
  refine g_getR C (dat dt_X7_playSeating 1 rfl) fl_7_12 kd_68 rfl ltk_68 ?_
  refine g_aload_n C (dat dt_X7_playSeating 2 rfl) 1 rfl ?_
  obtain ⟨v1, q2, hrun⟩ := bd hrun
  refine g_cVv [.ref a1] C (dat dt_X7_playSeating 3 rfl) ml_7_149 (w_X6_copyFrom 69 a1 h v1 room_69 Ha1 q2) kd_69 ltk_69 rfl rfl cat0 (by decide) c00 ?_
  refine g_iconst C (dat dt_X7_playSeating 4 rfl) ic_0 ?_
  refine g_istore (lv' := [(0, .ref 68), (1, .ref a1), (2, .ref a2), (3, .int x3), (4, .int x4), (5, .int (0 : Int32))]) C (dat dt_X7_playSeating 5 rfl) (by decide) rfl ?_
  refine g_sub [0, 2, 3, 4, 5] (lv' := [(0, .ref 68), (2, .ref a2), (3, .int x3), (4, .int x4), (5, .int (0 : Int32))]) rfl ?_
  obtain ⟨e10, q11, hrun⟩ := bd hrun
  refine lp_ind (P := fun s => kp_X7_playSeating_11 a1 a2 x3 x4 X s) (K := fun e => ke_X7_playSeating_11 a1 a2 x3 x4 X e) (fun s q hb Ks Ke => wb_X7_playSeating_11 C a1 a2 Ha1 x3 x4 s.1 s.2 q hb Ks Ke) FU ((0 : Int32), v1.2) e10 q11 ?_
  show G X e10 0 0 48 [(0, .ref 68), (2, .ref a2), (3, .int x3), (4, .int x4)] []
  refine g_aload_n C (dat dt_X7_playSeating 24 rfl) 0 rfl ?_
  refine g_getR C (dat dt_X7_playSeating 25 rfl) fl_7_18 kd_68 rfl ltk_68 ?_
  refine g_iload_n C (dat dt_X7_playSeating 26 rfl) 2 rfl ?_
  refine g_aload_n C (dat dt_X7_playSeating 27 rfl) 0 rfl ?_
  refine g_getR C (dat dt_X7_playSeating 28 rfl) fl_7_12 kd_68 rfl ltk_68 ?_
  obtain ⟨v12, q13, hrun⟩ := bd hrun
  refine g_cSi [.ref 69] C (dat dt_X7_playSeating 29 rfl) ml_7_96 (w_X7_rowOf 69 e10 v12 room_69 q13) rfl rfl (Nat.le_of_ble_eq_true rfl) (by decide) c00 ?_
  obtain ⟨j14, q15, hrun⟩ := bd hrun
  refine g_iast (j := j14) C (dat dt_X7_playSeating 30 rfl) kd_74 ltk_74 q15  ?_
  refine g_iconst C (dat dt_X7_playSeating 31 rfl) ic_0 ?_
  refine g_istore (lv' := [(0, .ref 68), (2, .ref a2), (3, .int x3), (4, .int x4), (5, .int (0 : Int32))]) C (dat dt_X7_playSeating 32 rfl) (by decide) rfl ?_
  obtain ⟨e27, q28, hrun⟩ := bd hrun
  refine lp_ind (P := fun s => kp_X7_playSeating_64 a1 a2 x3 x4 X s) (K := fun e => ke_X7_playSeating_64 a1 a2 x3 x4 X e) (fun s q hb Ks Ke => wb_X7_playSeating_64 C a1 a2 Ha1 x3 x4 s.1 s.2 q hb Ks Ke) FU ((0 : Int32), (sA e10 74 j14 v12)) e27 q28 ?_
  show G X e27 0 0 151 [] []
  cases hrun
  exact g_vret C K (dat dt_X7_playSeating 77 rfl)
/-! SteamNations$Seatings.exchangePlaces(II)V -/
def dl_X7_exchangePlaces : List (Nat × Instr × Nat) := [(0, .aload_n 0, 1), (1, .getfield 34, 3), (4, .iload_n 1, 1), (5, .iaload, 1), (6, .istore_n 3, 1), (7, .aload_n 0, 1), (8, .getfield 34, 3), (11, .iload_n 1, 1), (12, .aload_n 0, 1), (13, .getfield 34, 3), (16, .iload_n 2, 1), (17, .iaload, 1), (18, .iastore, 1), (19, .aload_n 0, 1), (20, .getfield 34, 3), (23, .iload_n 2, 1), (24, .iload_n 3, 1), (25, .iastore, 1), (26, .return_, 1)]
set_option maxRecDepth 20000 in
theorem dt_X7_exchangePlaces : ∀ q ∈ dl_X7_exchangePlaces, decode prog_9_method_17_code q.1 = .ok q.2 := by decide +kernel
def f_X7_exchangePlaces (x1 : Int32) (x2 : Int32) (h : Hp) : Option (Unit × Hp) :=
  (inb x1 6).bind fun j1 =>
  (inb x2 6).bind fun j3 =>
  (inb x1 6).bind fun j5 =>
  (inb x2 6).bind fun j7 =>
  some ((), (sA (sA h 79 j5 (aI h 79 j3)) 79 j7 (aI h 79 j1)))
set_option maxRecDepth 20000 in
theorem w_X7_exchangePlaces (x1 : Int32) (x2 : Int32) (h : Hp) (q : (Unit × Hp))  (hrun : f_X7_exchangePlaces x1 x2 h = some q) : MetA ⟨"SteamNations$Seatings", "exchangePlaces", "(II)V"⟩ prog_9_method_17_code 4 none 1 0 0 [.ref 68, .int x1, .int x2] h none q.2 := by
  refine metA_of (by decide) (Nat.le_of_ble_eq_true rfl) (fun X C K => ?_)
  have C : Cx X cn_7 prog_9_method_17_code 4 none 1 0 0 := C
  show G X h 0 0 0 [(0, .ref 68), (1, .int x1), (2, .int x2)] []
  unfold f_X7_exchangePlaces at hrun
  refine g_aload_n C (dat dt_X7_exchangePlaces 0 rfl) 0 rfl ?_
  refine g_getR C (dat dt_X7_exchangePlaces 1 rfl) fl_7_34 kd_68 rfl ltk_68 ?_
  refine g_iload_n C (dat dt_X7_exchangePlaces 2 rfl) 1 rfl ?_
  obtain ⟨j1, q2, hrun⟩ := bd hrun
  refine g_iald C (dat dt_X7_exchangePlaces 3 rfl) kd_79 ltk_79 q2 ?_
  refine g_istore_n (lv' := [(0, .ref 68), (1, .int x1), (2, .int x2), (3, .int (aI h 79 j1))]) C (dat dt_X7_exchangePlaces 4 rfl) (by decide) rfl ?_
  refine g_aload_n C (dat dt_X7_exchangePlaces 5 rfl) 0 rfl ?_
  refine g_getR C (dat dt_X7_exchangePlaces 6 rfl) fl_7_34 kd_68 rfl ltk_68 ?_
  refine g_iload_n C (dat dt_X7_exchangePlaces 7 rfl) 1 rfl ?_
  refine g_aload_n C (dat dt_X7_exchangePlaces 8 rfl) 0 rfl ?_
  refine g_getR C (dat dt_X7_exchangePlaces 9 rfl) fl_7_34 kd_68 rfl ltk_68 ?_
  refine g_iload_n C (dat dt_X7_exchangePlaces 10 rfl) 2 rfl ?_
  obtain ⟨j3, q4, hrun⟩ := bd hrun
  refine g_iald C (dat dt_X7_exchangePlaces 11 rfl) kd_79 ltk_79 q4 ?_
  obtain ⟨j5, q6, hrun⟩ := bd hrun
  refine g_iast (j := j5) C (dat dt_X7_exchangePlaces 12 rfl) kd_79 ltk_79 q6  ?_
  refine g_aload_n C (dat dt_X7_exchangePlaces 13 rfl) 0 rfl ?_
  refine g_getR C (dat dt_X7_exchangePlaces 14 rfl) fl_7_34 kd_68 rfl ltk_68 ?_
  refine g_iload_n C (dat dt_X7_exchangePlaces 15 rfl) 2 rfl ?_
  refine g_iload_n C (dat dt_X7_exchangePlaces 16 rfl) 3 rfl ?_
  obtain ⟨j7, q8, hrun⟩ := bd hrun
  refine g_iast (j := j7) C (dat dt_X7_exchangePlaces 17 rfl) kd_79 ltk_79 q8  ?_
  cases hrun
  exact g_vret C K (dat dt_X7_exchangePlaces 18 rfl)
/-! SteamNations$Seatings.toNextOrder()Z -/
def dl_X7_toNextOrder : List (Nat × Instr × Nat) := [(0, .aload_n 0, 1), (1, .getfield 104, 3), (4, .iconst 2, 1), (5, .isub, 1), (6, .istore_n 1, 1), (7, .iload_n 1, 1), (8, .ifCond .lt 26, 3), (11, .aload_n 0, 1), (12, .getfield 34, 3), (15, .iload_n 1, 1), (16, .iaload, 1), (17, .aload_n 0, 1), (18, .getfield 34, 3), (21, .iload_n 1, 1), (22, .iconst 1, 1), (23, .iadd, 1), (24, .iaload, 1), (25, .if_icmp .le 9, 3), (28, .iinc 1 (-1), 3), (31, .goto (-24), 3), (34, .iload_n 1, 1), (35, .ifCond .ge 5, 3), (38, .iconst 0, 1), (39, .ireturn, 1), (40, .aload_n 0, 1), (41, .getfield 104, 3), (44, .iconst 1, 1), (45, .isub, 1), (46, .istore_n 2, 1), (47, .iload_n 2, 1), (48, .iload_n 1, 1), (49, .if_icmp .le 24, 3), (52, .aload_n 0, 1), (53, .getfield 34, 3), (56, .iload_n 2, 1), (57, .iaload, 1), (58, .aload_n 0, 1), (59, .getfield 34, 3), (62, .iload_n 1, 1), (63, .iaload, 1), (64, .if_icmp .ge 9, 3), (67, .iinc 2 (-1), 3), (70, .goto (-23), 3), (73, .aload_n 0, 1), (74, .iload_n 1, 1), (75, .iload_n 2, 1), (76, .invokevirtual 164, 3), (79, .iload_n 1, 1), (80, .iconst 1, 1), (81, .iadd, 1), (82, .istore_n 3, 1), (83, .aload_n 0, 1), (84, .getfield 104, 3), (87, .iconst 1, 1), (88, .isub, 1), (89, .istore 4, 2), (91, .iload_n 3, 1), (92, .iload 4, 2), (94, .if_icmp .ge 19, 3), (97, .aload_n 0, 1), (98, .iload_n 3, 1), (99, .iload 4, 2), (101, .invokevirtual 164, 3), (104, .iinc 3 1, 3), (107, .iinc 4 (-1), 3), (110, .goto (-19), 3), (113, .iconst 1, 1), (114, .ireturn, 1)]
set_option maxRecDepth 20000 in
theorem dt_X7_toNextOrder : ∀ q ∈ dl_X7_toNextOrder, decode prog_9_method_16_code q.1 = .ok q.2 := by decide +kernel
def kp_X7_toNextOrder_7   (h : Hp) (X : Xt) (s : Int32) : Prop := G X h 0 0 7 [(0, .ref 68), (1, .int s)] []
def ke_X7_toNextOrder_7   (h : Hp) (X : Xt) (e : Int32) : Prop := G X h 0 0 34 [(0, .ref 68), (1, .int e)] []
def b_X7_toNextOrder_7   (x1 : Int32) (h : Hp) : Option (Int32 ⊕ Int32) :=
  if x1 < 0 then
  some (.inr ( x1))
  else
  (inb x1 6).bind fun j2 =>
  (inb (x1 + (1 : Int32)) 6).bind fun j4 =>
  if (aI h 79 j2) ≤ (aI h 79 j4) then
  some (.inr ( x1))
  else
  some (.inl (x1 + (-1 : Int32)))
set_option maxRecDepth 20000 in
theorem wb_X7_toNextOrder_7 {X : Xt} (C : Cx X cn_7 prog_9_method_16_code 5 (some .boolean) 2 0 0)    (x1 : Int32) (h : Hp) (q : Int32 ⊕ Int32) (hrun : b_X7_toNextOrder_7   x1 h = some q) (Ks : ∀ s, q = .inl s → kp_X7_toNextOrder_7   h X s) (Ke : ∀ e, q = .inr e → ke_X7_toNextOrder_7   h X e) : kp_X7_toNextOrder_7   h X x1 := by
  show G X h 0 0 7 [(0, .ref 68), (1, .int x1)] []
  unfold b_X7_toNextOrder_7 at hrun
  refine g_iload_n C (dat dt_X7_toNextOrder 5 rfl) 1 rfl ?_
  refine g_if_lt 34 C (dat dt_X7_toNextOrder 6 rfl) (by decide) (fun c1 => ?_) (fun c1 => ?_)
  · rw [if_pos c1] at hrun
    cases hrun
    exact Ke ( x1) rfl
  · rw [if_neg c1] at hrun
    refine g_aload_n C (dat dt_X7_toNextOrder 7 rfl) 0 rfl ?_
    refine g_getR C (dat dt_X7_toNextOrder 8 rfl) fl_7_34 kd_68 rfl ltk_68 ?_
    refine g_iload_n C (dat dt_X7_toNextOrder 9 rfl) 1 rfl ?_
    obtain ⟨j2, q3, hrun⟩ := bd hrun
    refine g_iald C (dat dt_X7_toNextOrder 10 rfl) kd_79 ltk_79 q3 ?_
    refine g_aload_n C (dat dt_X7_toNextOrder 11 rfl) 0 rfl ?_
    refine g_getR C (dat dt_X7_toNextOrder 12 rfl) fl_7_34 kd_68 rfl ltk_68 ?_
    refine g_iload_n C (dat dt_X7_toNextOrder 13 rfl) 1 rfl ?_
    refine g_iconst C (dat dt_X7_toNextOrder 14 rfl) ic_1 ?_
    refine g_iadd C (dat dt_X7_toNextOrder 15 rfl) ?_
    obtain ⟨j4, q5, hrun⟩ := bd hrun
    refine g_iald C (dat dt_X7_toNextOrder 16 rfl) kd_79 ltk_79 q5 ?_
    refine g_ic_le 34 C (dat dt_X7_toNextOrder 17 rfl) (by decide) (fun c6 => ?_) (fun c6 => ?_)
    · rw [if_pos c6] at hrun
      cases hrun
      exact Ke ( x1) rfl
    · rw [if_neg c6] at hrun
      refine g_iinc (v := (x1 + (-1 : Int32))) (lv' := [(0, .ref 68), (1, .int (x1 + (-1 : Int32)))]) C (dat dt_X7_toNextOrder 18 rfl) 1 rfl (congrArg (fun z => x1 + z) ic_m1) (by decide) rfl ?_
      refine g_goto 7 C (dat dt_X7_toNextOrder 19 rfl) (by decide) ?_
      cases hrun
      exact Ks (x1 + (-1 : Int32)) rfl
def kp_X7_toNextOrder_47  (x1 : Int32) (h : Hp) (X : Xt) (s : Int32) : Prop := G X h 0 0 47 [(0, .ref 68), (1, .int x1), (2, .int s)] []
def ke_X7_toNextOrder_47  (x1 : Int32) (h : Hp) (X : Xt) (e : Int32) : Prop := G X h 0 0 73 [(0, .ref 68), (1, .int x1), (2, .int e)] []
def b_X7_toNextOrder_47  (x1 : Int32) (x2 : Int32) (h : Hp) : Option (Int32 ⊕ Int32) :=
  if x2 ≤ x1 then
  some (.inr ( x2))
  else
  (inb x2 6).bind fun j11 =>
  (inb x1 6).bind fun j13 =>
  if (aI h 79 j13) ≤ (aI h 79 j11) then
  some (.inr ( x2))
  else
  some (.inl (x2 + (-1 : Int32)))
set_option maxRecDepth 20000 in
theorem wb_X7_toNextOrder_47 {X : Xt} (C : Cx X cn_7 prog_9_method_16_code 5 (some .boolean) 2 0 0)   (x1 : Int32) (x2 : Int32) (h : Hp) (q : Int32 ⊕ Int32) (hrun : b_X7_toNextOrder_47  x1 x2 h = some q) (Ks : ∀ s, q = .inl s → kp_X7_toNextOrder_47  x1 h X s) (Ke : ∀ e, q = .inr e → ke_X7_toNextOrder_47  x1 h X e) : kp_X7_toNextOrder_47  x1 h X x2 := by
  show G X h 0 0 47 [(0, .ref 68), (1, .int x1), (2, .int x2)] []
  unfold b_X7_toNextOrder_47 at hrun
  refine g_iload_n C (dat dt_X7_toNextOrder 29 rfl) 2 rfl ?_
  refine g_iload_n C (dat dt_X7_toNextOrder 30 rfl) 1 rfl ?_
  refine g_ic_le 73 C (dat dt_X7_toNextOrder 31 rfl) (by decide) (fun c10 => ?_) (fun c10 => ?_)
  · rw [if_pos c10] at hrun
    cases hrun
    exact Ke ( x2) rfl
  · rw [if_neg c10] at hrun
    refine g_aload_n C (dat dt_X7_toNextOrder 32 rfl) 0 rfl ?_
    refine g_getR C (dat dt_X7_toNextOrder 33 rfl) fl_7_34 kd_68 rfl ltk_68 ?_
    refine g_iload_n C (dat dt_X7_toNextOrder 34 rfl) 2 rfl ?_
    obtain ⟨j11, q12, hrun⟩ := bd hrun
    refine g_iald C (dat dt_X7_toNextOrder 35 rfl) kd_79 ltk_79 q12 ?_
    refine g_aload_n C (dat dt_X7_toNextOrder 36 rfl) 0 rfl ?_
    refine g_getR C (dat dt_X7_toNextOrder 37 rfl) fl_7_34 kd_68 rfl ltk_68 ?_
    refine g_iload_n C (dat dt_X7_toNextOrder 38 rfl) 1 rfl ?_
    obtain ⟨j13, q14, hrun⟩ := bd hrun
    refine g_iald C (dat dt_X7_toNextOrder 39 rfl) kd_79 ltk_79 q14 ?_
    refine g_ic_ge 73 C (dat dt_X7_toNextOrder 40 rfl) (by decide) (fun c15 => ?_) (fun c15 => ?_)
    · rw [if_pos c15] at hrun
      cases hrun
      exact Ke ( x2) rfl
    · rw [if_neg c15] at hrun
      refine g_iinc (v := (x2 + (-1 : Int32))) (lv' := [(0, .ref 68), (1, .int x1), (2, .int (x2 + (-1 : Int32)))]) C (dat dt_X7_toNextOrder 41 rfl) 2 rfl (congrArg (fun z => x2 + z) ic_m1) (by decide) rfl ?_
      refine g_goto 47 C (dat dt_X7_toNextOrder 42 rfl) (by decide) ?_
      cases hrun
      exact Ks (x2 + (-1 : Int32)) rfl
def kp_X7_toNextOrder_91   (X : Xt) (s : (Int32 × Int32 × Hp)) : Prop := G X s.2.2 0 0 91 [(0, .ref 68), (3, .int s.1), (4, .int s.2.1)] []
def ke_X7_toNextOrder_91   (X : Xt) (e : Hp) : Prop := G X e 0 0 113 [] []
def b_X7_toNextOrder_91   (x3 : Int32) (x4 : Int32) (h : Hp) : Option ((Int32 × Int32 × Hp) ⊕ Hp) :=
  if x4 ≤ x3 then
  some (.inr ( h))
  else
  (f_X7_exchangePlaces x3 x4 h).bind fun v21 =>
  some (.inl ((x3 + (1 : Int32)), (x4 + (-1 : Int32)), v21.2))
set_option maxRecDepth 20000 in
theorem wb_X7_toNextOrder_91 {X : Xt} (C : Cx X cn_7 prog_9_method_16_code 5 (some .boolean) 2 0 0)    (x3 : Int32) (x4 : Int32) (h : Hp) (q : (Int32 × Int32 × Hp) ⊕ Hp) (hrun : b_X7_toNextOrder_91   x3 x4 h = some q) (Ks : ∀ s, q = .inl s → kp_X7_toNextOrder_91   X s) (Ke : ∀ e, q = .inr e → ke_X7_toNextOrder_91   X e) : kp_X7_toNextOrder_91   X (x3, x4, h) := by
  show G X h 0 0 91 [(0, .ref 68), (3, .int x3), (4, .int x4)] []
  unfold b_X7_toNextOrder_91 at hrun
  refine g_iload_n C (dat dt_X7_toNextOrder 56 rfl) 1 rfl ?_
  refine g_iload C (dat dt_X7_toNextOrder 57 rfl) 2 rfl ?_
  refine g_ic_ge 113 C (dat dt_X7_toNextOrder 58 rfl) (by decide) (fun c20 => ?_) (fun c20 => ?_)
  · rw [if_pos c20] at hrun
    refine g_sub [] (lv' := []) rfl ?_
    cases hrun
    exact Ke ( h) rfl
  · rw [if_neg c20] at hrun
    refine g_aload_n C (dat dt_X7_toNextOrder 59 rfl) 0 rfl ?_
    refine g_iload_n C (dat dt_X7_toNextOrder 60 rfl) 1 rfl ?_
    refine g_iload C (dat dt_X7_toNextOrder 61 rfl) 2 rfl ?_
    obtain ⟨v21, q22, hrun⟩ := bd hrun
    refine g_cVv [.int x3, .int x4] C (dat dt_X7_toNextOrder 62 rfl) ml_7_164 (w_X7_exchangePlaces x3 x4 h v21  q22) kd_68 ltk_68 rfl rfl cat0 (by decide) c00 ?_
    refine g_iinc (v := (x3 + (1 : Int32))) (lv' := [(0, .ref 68), (3, .int (x3 + (1 : Int32))), (4, .int x4)]) C (dat dt_X7_toNextOrder 63 rfl) 1 rfl (congrArg (fun z => x3 + z) ic_1) (by decide) rfl ?_
    refine g_iinc (v := (x4 + (-1 : Int32))) (lv' := [(0, .ref 68), (3, .int (x3 + (1 : Int32))), (4, .int (x4 + (-1 : Int32)))]) C (dat dt_X7_toNextOrder 64 rfl) 2 rfl (congrArg (fun z => x4 + z) ic_m1) (by decide) rfl ?_
    refine g_goto 91 C (dat dt_X7_toNextOrder 65 rfl) (by decide) ?_
    cases hrun
    exact Ks ((x3 + (1 : Int32)), (x4 + (-1 : Int32)), v21.2) rfl
def j_X7_toNextOrder_73  (x1 : Int32) (x2 : Int32) (h : Hp) : Option (Bool × Hp) :=
  (f_X7_exchangePlaces x1 x2 h).bind fun v18 =>
  (lp (fun s => b_X7_toNextOrder_91   s.1 s.2.1 s.2.2) FU ((x1 + (1 : Int32)), ((fI v18.2 68 9) - (1 : Int32)), v18.2)).bind fun e23 =>
  some (true, e23)
set_option maxRecDepth 20000 in
theorem wj_X7_toNextOrder_73 {X : Xt} (C : Cx X cn_7 prog_9_method_16_code 5 (some .boolean) 2 0 0)    (x1 : Int32) (x2 : Int32) (h : Hp) (q : (Bool × Hp)) (hrun : j_X7_toNextOrder_73  x1 x2 h = some q) (K : EndQ X 0 0 (some (.int (b2i q.1))) q.2) : G X h 0 0 73 [(0, .ref 68), (1, .int x1), (2, .int x2)] [] := by
  unfold j_X7_toNextOrder_73 at hrun
  refine g_aload_n C (dat dt_X7_toNextOrder 43 rfl) 0 rfl ?_
  refine g_iload_n C (dat dt_X7_toNextOrder 44 rfl) 1 rfl ?_
  refine g_iload_n C (dat dt_X7_toNextOrder 45 rfl) 2 rfl ?_
  obtain ⟨v18, q19, hrun⟩ := bd hrun
  refine g_cVv [.int x1, .int x2] C (dat dt_X7_toNextOrder 46 rfl) ml_7_164 (w_X7_exchangePlaces x1 x2 h v18  q19) kd_68 ltk_68 rfl rfl cat0 (by decide) c00 ?_
  refine g_iload_n C (dat dt_X7_toNextOrder 47 rfl) 1 rfl ?_
  refine g_iconst C (dat dt_X7_toNextOrder 48 rfl) ic_1 ?_
  refine g_iadd C (dat dt_X7_toNextOrder 49 rfl) ?_
  refine g_istore_n (lv' := [(0, .ref 68), (1, .int x1), (2, .int x2), (3, .int (x1 + (1 : Int32)))]) C (dat dt_X7_toNextOrder 50 rfl) (by decide) rfl ?_
  refine g_aload_n C (dat dt_X7_toNextOrder 51 rfl) 0 rfl ?_
  refine g_getI C (dat dt_X7_toNextOrder 52 rfl) fl_7_104 kd_68 rfl ltk_68 ?_
  refine g_iconst C (dat dt_X7_toNextOrder 53 rfl) ic_1 ?_
  refine g_isub C (dat dt_X7_toNextOrder 54 rfl) ?_
  refine g_istore (lv' := [(0, .ref 68), (1, .int x1), (2, .int x2), (3, .int (x1 + (1 : Int32))), (4, .int ((fI v18.2 68 9) - (1 : Int32)))]) C (dat dt_X7_toNextOrder 55 rfl) (by decide) rfl ?_
  refine g_sub [0, 3, 4] (lv' := [(0, .ref 68), (3, .int (x1 + (1 : Int32))), (4, .int ((fI v18.2 68 9) - (1 : Int32)))]) rfl ?_
  obtain ⟨e23, q24, hrun⟩ := bd hrun
  refine lp_ind (P := fun s => kp_X7_toNextOrder_91   X s) (K := fun e => ke_X7_toNextOrder_91   X e) (fun s q hb Ks Ke => wb_X7_toNextOrder_91 C    s.1 s.2.1 s.2.2 q hb Ks Ke) FU ((x1 + (1 : Int32)), ((fI v18.2 68 9) - (1 : Int32)), v18.2) e23 q24 ?_
  show G X e23 0 0 113 [] []
  refine g_iconst C (dat dt_X7_toNextOrder 66 rfl) ic_1 ?_
  cases hrun
  exact g_zret C K (show (1 : Int32) = b2i true by decide) (dat dt_X7_toNextOrder 67 rfl)
def j_X7_toNextOrder_34  (x1 : Int32) (h : Hp) : Option (Bool × Hp) :=
  if 0 ≤ x1 then
  (lp (fun s => b_X7_toNextOrder_47  x1 s h) FU ((fI h 68 9) - (1 : Int32))).bind fun e16 =>
  j_X7_toNextOrder_73  x1 e16 h
  else
  some (false, h)
set_option maxRecDepth 20000 in
theorem wj_X7_toNextOrder_34 {X : Xt} (C : Cx X cn_7 prog_9_method_16_code 5 (some .boolean) 2 0 0)    (x1 : Int32) (h : Hp) (q : (Bool × Hp)) (hrun : j_X7_toNextOrder_34  x1 h = some q) (K : EndQ X 0 0 (some (.int (b2i q.1))) q.2) : G X h 0 0 34 [(0, .ref 68), (1, .int x1)] [] := by
  unfold j_X7_toNextOrder_34 at hrun
  refine g_iload_n C (dat dt_X7_toNextOrder 20 rfl) 1 rfl ?_
  refine g_if_ge 40 C (dat dt_X7_toNextOrder 21 rfl) (by decide) (fun c9 => ?_) (fun c9 => ?_)
  · rw [if_pos c9] at hrun
    refine g_aload_n C (dat dt_X7_toNextOrder 24 rfl) 0 rfl ?_
    refine g_getI C (dat dt_X7_toNextOrder 25 rfl) fl_7_104 kd_68 rfl ltk_68 ?_
    refine g_iconst C (dat dt_X7_toNextOrder 26 rfl) ic_1 ?_
    refine g_isub C (dat dt_X7_toNextOrder 27 rfl) ?_
    refine g_istore_n (lv' := [(0, .ref 68), (1, .int x1), (2, .int ((fI h 68 9) - (1 : Int32)))]) C (dat dt_X7_toNextOrder 28 rfl) (by decide) rfl ?_
    obtain ⟨e16, q17, hrun⟩ := bd hrun
    refine lp_ind (P := fun s => kp_X7_toNextOrder_47  x1 h X s) (K := fun e => ke_X7_toNextOrder_47  x1 h X e) (fun s q hb Ks Ke => wb_X7_toNextOrder_47 C   x1 s h q hb Ks Ke) FU ((fI h 68 9) - (1 : Int32)) e16 q17 ?_
    show G X h 0 0 73 [(0, .ref 68), (1, .int x1), (2, .int e16)] []
    exact wj_X7_toNextOrder_73 C    x1 e16 h _ hrun K
  · rw [if_neg c9] at hrun
    refine g_iconst C (dat dt_X7_toNextOrder 22 rfl) ic_0 ?_
    cases hrun
    exact g_zret C K (show (0 : Int32) = b2i false by decide) (dat dt_X7_toNextOrder 23 rfl)
def f_X7_toNextOrder  (h : Hp) : Option (Bool × Hp) :=
  (lp (fun s => b_X7_toNextOrder_7   s h) FU ((fI h 68 9) - (2 : Int32))).bind fun e7 =>
  j_X7_toNextOrder_34  e7 h
set_option maxRecDepth 20000 in
theorem w_X7_toNextOrder  (h : Hp) (q : (Bool × Hp))  (hrun : f_X7_toNextOrder  h = some q) : MetA ⟨"SteamNations$Seatings", "toNextOrder", "()Z"⟩ prog_9_method_16_code 5 (some .boolean) 2 0 0 [.ref 68] h (some (.int (b2i q.1))) q.2 := by
  refine metA_of (by decide) (Nat.le_of_ble_eq_true rfl) (fun X C K => ?_)
  have C : Cx X cn_7 prog_9_method_16_code 5 (some .boolean) 2 0 0 := C
  show G X h 0 0 0 [(0, .ref 68)] []
  unfold f_X7_toNextOrder at hrun
  refine g_aload_n C (dat dt_X7_toNextOrder 0 rfl) 0 rfl ?_
  refine g_getI C (dat dt_X7_toNextOrder 1 rfl) fl_7_104 kd_68 rfl ltk_68 ?_
  refine g_iconst C (dat dt_X7_toNextOrder 2 rfl) ic_2 ?_
  refine g_isub C (dat dt_X7_toNextOrder 3 rfl) ?_
  refine g_istore_n (lv' := [(0, .ref 68), (1, .int ((fI h 68 9) - (2 : Int32)))]) C (dat dt_X7_toNextOrder 4 rfl) (by decide) rfl ?_
  obtain ⟨e7, q8, hrun⟩ := bd hrun
  refine lp_ind (P := fun s => kp_X7_toNextOrder_7   h X s) (K := fun e => ke_X7_toNextOrder_7   h X e) (fun s q hb Ks Ke => wb_X7_toNextOrder_7 C    s h q hb Ks Ke) FU ((fI h 68 9) - (2 : Int32)) e7 q8 ?_
  show G X h 0 0 34 [(0, .ref 68), (1, .int e7)] []
  exact wj_X7_toNextOrder_34 C    e7 h _ hrun K
/-! SteamNations$Seatings.lookAhead(LSteamNations$Room;LSteamNations$Text;I)V -/
def dl_X7_lookAhead : List (Nat × Instr × Nat) := [(0, .iload_n 3, 1), (1, .aload_n 0, 1), (2, .getfield 40, 3), (5, .if_icmp .le 9, 3), (8, .iload_n 3, 1), (9, .bipush 9, 2), (11, .if_icmp .le 4, 3), (14, .return_, 1), (15, .aload_n 0, 1), (16, .iload_n 3, 1), (17, .putfield 40, 3), (20, .aload_n 0, 1), (21, .iconst 0, 1), (22, .putfield 48, 3), (25, .aload_n 0, 1), (26, .aload_n 1, 1), (27, .invokevirtual 51, 3), (30, .iconst 1, 1), (31, .istore 4, 2), (33, .iconst 0, 1), (34, .istore 5, 2), (36, .iload 5, 2), (38, .sipush 720, 3), (41, .if_icmp .ge 39, 3), (44, .iload 4, 2), (46, .ifCond .eq 34, 3), (49, .aload_n 0, 1), (50, .aload_n 1, 1), (51, .aload_n 2, 1), (52, .iload 5, 2), (54, .iload_n 3, 1), (55, .invokevirtual 55, 3), (58, .aload_n 0, 1), (59, .dup, 1), (60, .getfield 48, 3), (63, .iconst 1, 1), (64, .iadd, 1), (65, .putfield 48, 3), (68, .aload_n 0, 1), (69, .invokevirtual 59, 3), (72, .istore 4, 2), (74, .iinc 5 1, 3), (77, .goto (-41), 3), (80, .return_, 1)]
set_option maxRecDepth 20000 in
theorem dt_X7_lookAhead : ∀ q ∈ dl_X7_lookAhead, decode prog_9_method_3_code q.1 = .ok q.2 := by decide +kernel
def kp_X7_lookAhead_36 (a1 : Nat) (a2 : Nat) (x3 : Int32) (X : Xt) (s : (Int32 × Int32 × Hp)) : Prop := G X s.2.2 0 0 36 [(0, .ref 68), (1, .ref a1), (2, .ref a2), (3, .int x3), (4, .int s.1), (5, .int s.2.1)] []
def ke_X7_lookAhead_36 (a1 : Nat) (a2 : Nat) (x3 : Int32) (X : Xt) (e : Hp) : Prop := G X e 0 0 80 [] []
def b_X7_lookAhead_36 (a1 : Nat) (a2 : Nat) (x3 : Int32) (x4 : Int32) (x5 : Int32) (h : Hp) : Option ((Int32 × Int32 × Hp) ⊕ Hp) :=
  if (720 : Int32) ≤ x5 then
  some (.inr ( h))
  else
  if x4 = 0 then
  some (.inr ( h))
  else
  (f_X7_playSeating a1 a2 x5 x3 h).bind fun v7 =>
  (f_X7_toNextOrder  (sF v7.2 68 10 ((fI v7.2 68 10) + (1 : Int32)))).bind fun v9 =>
  some (.inl ((b2i v9.1), (x5 + (1 : Int32)), v9.2))
set_option maxRecDepth 20000 in
theorem wb_X7_lookAhead_36 {X : Xt} (C : Cx X cn_7 prog_9_method_3_code 6 none 6 0 0) (a1 : Nat) (a2 : Nat) (Ha1 : IsRoom a1) (x3 : Int32) (x4 : Int32) (x5 : Int32) (h : Hp) (q : (Int32 × Int32 × Hp) ⊕ Hp) (hrun : b_X7_lookAhead_36 a1 a2 x3 x4 x5 h = some q) (Ks : ∀ s, q = .inl s → kp_X7_lookAhead_36 a1 a2 x3 X s) (Ke : ∀ e, q = .inr e → ke_X7_lookAhead_36 a1 a2 x3 X e) : kp_X7_lookAhead_36 a1 a2 x3 X (x4, x5, h) := by
  show G X h 0 0 36 [(0, .ref 68), (1, .ref a1), (2, .ref a2), (3, .int x3), (4, .int x4), (5, .int x5)] []
  unfold b_X7_lookAhead_36 at hrun
  refine g_iload C (dat dt_X7_lookAhead 21 rfl) 5 rfl ?_
  refine g_sipush C (dat dt_X7_lookAhead 22 rfl) sp_720 ?_
  refine g_ic_ge 80 C (dat dt_X7_lookAhead 23 rfl) (by decide) (fun c5 => ?_) (fun c5 => ?_)
  · rw [if_pos c5] at hrun
    refine g_sub [] (lv' := []) rfl ?_
    cases hrun
    exact Ke ( h) rfl
  · rw [if_neg c5] at hrun
    refine g_iload C (dat dt_X7_lookAhead 24 rfl) 4 rfl ?_
    refine g_if_eq 80 C (dat dt_X7_lookAhead 25 rfl) (by decide) (fun c6 => ?_) (fun c6 => ?_)
    · rw [if_pos c6] at hrun
      refine g_sub [] (lv' := []) rfl ?_
      cases hrun
      exact Ke ( h) rfl
    · rw [if_neg c6] at hrun
      refine g_aload_n C (dat dt_X7_lookAhead 26 rfl) 0 rfl ?_
      refine g_aload_n C (dat dt_X7_lookAhead 27 rfl) 1 rfl ?_
      refine g_aload_n C (dat dt_X7_lookAhead 28 rfl) 2 rfl ?_
      refine g_iload C (dat dt_X7_lookAhead 29 rfl) 5 rfl ?_
      refine g_iload_n C (dat dt_X7_lookAhead 30 rfl) 3 rfl ?_
      obtain ⟨v7, q8, hrun⟩ := bd hrun
      refine g_cVv [.ref a1, .ref a2, .int x5, .int x3] C (dat dt_X7_lookAhead 31 rfl) ml_7_55 (w_X7_playSeating a1 a2 x5 x3 h v7 Ha1 q8) kd_68 ltk_68 rfl rfl cat0 (by decide) c00 ?_
      refine g_aload_n C (dat dt_X7_lookAhead 32 rfl) 0 rfl ?_
      refine g_dup C (dat dt_X7_lookAhead 33 rfl) rfl ?_
      refine g_getI C (dat dt_X7_lookAhead 34 rfl) fl_7_48 kd_68 rfl ltk_68 ?_
      refine g_iconst C (dat dt_X7_lookAhead 35 rfl) ic_1 ?_
      refine g_iadd C (dat dt_X7_lookAhead 36 rfl) ?_
      refine g_putI C (dat dt_X7_lookAhead 37 rfl) fl_7_48 rfl rfl kd_68 rfl ltk_68 ?_
      refine g_aload_n C (dat dt_X7_lookAhead 38 rfl) 0 rfl ?_
      obtain ⟨v9, q10, hrun⟩ := bd hrun
      refine g_cVi [] C (dat dt_X7_lookAhead 39 rfl) ml_7_59 (w_X7_toNextOrder  (sF v7.2 68 10 ((fI v7.2 68 10) + (1 : Int32))) v9  q10) kd_68 ltk_68 rfl rfl cat0 (by decide) c00 ?_
      refine g_istore (lv' := [(0, .ref 68), (1, .ref a1), (2, .ref a2), (3, .int x3), (4, .int (b2i v9.1)), (5, .int x5)]) C (dat dt_X7_lookAhead 40 rfl) (by decide) rfl ?_
      refine g_iinc (v := (x5 + (1 : Int32))) (lv' := [(0, .ref 68), (1, .ref a1), (2, .ref a2), (3, .int x3), (4, .int (b2i v9.1)), (5, .int (x5 + (1 : Int32)))]) C (dat dt_X7_lookAhead 41 rfl) 5 rfl (congrArg (fun z => x5 + z) ic_1) (by decide) rfl ?_
      refine g_goto 36 C (dat dt_X7_lookAhead 42 rfl) (by decide) ?_
      cases hrun
      exact Ks ((b2i v9.1), (x5 + (1 : Int32)), v9.2) rfl
def f_X7_lookAhead (a1 : Nat) (a2 : Nat) (x3 : Int32) (h : Hp) : Option (Unit × Hp) :=
  if x3 ≤ (fI h 68 11) then
  some ((), h)
  else
  if x3 ≤ (9 : Int32) then
  (f_X7_listInside a1 (sF (sF h 68 11 x3) 68 10 (0 : Int32))).bind fun v3 =>
  (lp (fun s => b_X7_lookAhead_36 a1 a2 x3 s.1 s.2.1 s.2.2) FU ((1 : Int32), (0 : Int32), v3.2)).bind fun e11 =>
  some ((), e11)
  else
  some ((), h)
set_option maxRecDepth 20000 in
theorem w_X7_lookAhead (a1 : Nat) (a2 : Nat) (x3 : Int32) (h : Hp) (q : (Unit × Hp)) (Ha1 : IsRoom a1) (hrun : f_X7_lookAhead a1 a2 x3 h = some q) : MetA ⟨"SteamNations$Seatings", "lookAhead", "(LSteamNations$Room;LSteamNations$Text;I)V"⟩ prog_9_method_3_code 6 none 6 0 0 [.ref 68, .ref a1, .ref a2, .int x3] h none q.2 := by
  refine metA_of (by decide) (Nat.le_of_ble_eq_true rfl) (fun X C K => ?_)
  have C : Cx X cn_7 prog_9_method_3_code 6 none 6 0 0 := C
  show G X h 0 0 0 [(0, .ref 68), (1, .ref a1), (2, .ref a2), (3, .int x3)] []
  unfold f_X7_lookAhead at hrun
  refine g_iload_n C (dat dt_X7_lookAhead 0 rfl) 3 rfl ?_
  refine g_aload_n C (dat dt_X7_lookAhead 1 rfl) 0 rfl ?_
  refine g_getI C (dat dt_X7_lookAhead 2 rfl) fl_7_40 kd_68 rfl ltk_68 ?_
  refine g_ic_le 14 C (dat dt_X7_lookAhead 3 rfl) (by decide) (fun c1 => ?_) (fun c1 => ?_)
  · rw [if_pos c1] at hrun
    cases hrun
    exact g_vret C K (dat dt_X7_lookAhead 7 rfl)
  · rw [if_neg c1] at hrun
    refine g_iload_n C (dat dt_X7_lookAhead 4 rfl) 3 rfl ?_
    refine g_bipush C (dat dt_X7_lookAhead 5 rfl) bp_9 ?_
    refine g_ic_le 15 C (dat dt_X7_lookAhead 6 rfl) (by decide) (fun c2 => ?_) (fun c2 => ?_)
    · rw [if_pos c2] at hrun
      refine g_aload_n C (dat dt_X7_lookAhead 8 rfl) 0 rfl ?_
      refine g_iload_n C (dat dt_X7_lookAhead 9 rfl) 3 rfl ?_
      refine g_putI C (dat dt_X7_lookAhead 10 rfl) fl_7_40 rfl rfl kd_68 rfl ltk_68 ?_
      refine g_aload_n C (dat dt_X7_lookAhead 11 rfl) 0 rfl ?_
      refine g_iconst C (dat dt_X7_lookAhead 12 rfl) ic_0 ?_
      refine g_putI C (dat dt_X7_lookAhead 13 rfl) fl_7_48 rfl rfl kd_68 rfl ltk_68 ?_
      refine g_aload_n C (dat dt_X7_lookAhead 14 rfl) 0 rfl ?_
      refine g_aload_n C (dat dt_X7_lookAhead 15 rfl) 1 rfl ?_
      obtain ⟨v3, q4, hrun⟩ := bd hrun
      refine g_cVv [.ref a1] C (dat dt_X7_lookAhead 16 rfl) ml_7_51 (w_X7_listInside a1 (sF (sF h 68 11 x3) 68 10 (0 : Int32)) v3 Ha1 q4) kd_68 ltk_68 rfl rfl cat0 (by decide) c00 ?_
      refine g_iconst C (dat dt_X7_lookAhead 17 rfl) ic_1 ?_
      refine g_istore (lv' := [(0, .ref 68), (1, .ref a1), (2, .ref a2), (3, .int x3), (4, .int (1 : Int32))]) C (dat dt_X7_lookAhead 18 rfl) (by decide) rfl ?_
      refine g_iconst C (dat dt_X7_lookAhead 19 rfl) ic_0 ?_
      refine g_istore (lv' := [(0, .ref 68), (1, .ref a1), (2, .ref a2), (3, .int x3), (4, .int (1 : Int32)), (5, .int (0 : Int32))]) C (dat dt_X7_lookAhead 20 rfl) (by decide) rfl ?_
      obtain ⟨e11, q12, hrun⟩ := bd hrun
      refine lp_ind (P := fun s => kp_X7_lookAhead_36 a1 a2 x3 X s) (K := fun e => ke_X7_lookAhead_36 a1 a2 x3 X e) (fun s q hb Ks Ke => wb_X7_lookAhead_36 C a1 a2 Ha1 x3 s.1 s.2.1 s.2.2 q hb Ks Ke) FU ((1 : Int32), (0 : Int32), v3.2) e11 q12 ?_
      show G X e11 0 0 80 [] []
      cases hrun
      exact g_vret C K (dat dt_X7_lookAhead 43 rfl)
    · rw [if_neg c2] at hrun
      cases hrun
      exact g_vret C K (dat dt_X7_lookAhead 7 rfl)
/-! SteamNations$Seatings.nationIn(III)I -/
def dl_X7_nationIn : List (Nat × Instr × Nat) := [(0, .iload_n 1, 1), (1, .bipush 10, 2), (3, .imul, 1), (4, .iload_n 2, 1), (5, .iadd, 1), (6, .istore 4, 2), (8, .iload 4, 2), (10, .ifCond .lt 29, 3), (13, .iload 4, 2), (15, .aload_n 0, 1), (16, .getfield 22, 3), (19, .arraylength, 1), (20, .if_icmp .ge 19, 3), (23, .aload_n 0, 1), (24, .getfield 22, 3), (27, .iload 4, 2), (29, .iaload, 1), (30, .iconst 2, 1), (31, .iload_n 3, 1), (32, .imul, 1), (33, .ishr, 1), (34, .iconst 3, 1), (35, .iand, 1), (36, .goto 4, 3), (39, .iconst (-1), 1), (40, .ireturn, 1)]
set_option maxRecDepth 20000 in
theorem dt_X7_nationIn : ∀ q ∈ dl_X7_nationIn, decode prog_9_method_25_code q.1 = .ok q.2 := by decide +kernel
def f_X7_nationIn (x1 : Int32) (x2 : Int32) (x3 : Int32) (h : Hp) : Option Int32 :=
  if ((x1 * (10 : Int32)) + x2) < 0 then
  some (-1 : Int32)
  else
  if (7200 : Int32) ≤ ((x1 * (10 : Int32)) + x2) then
  some (-1 : Int32)
  else
  (inb ((x1 * (10 : Int32)) + x2) 7200).bind fun j3 =>
  some (((aI h 75 j3) >>> (((2 : Int32) * x3) &&& 31)) &&& (3 : Int32))
set_option maxRecDepth 20000 in
theorem w_X7_nationIn (x1 : Int32) (x2 : Int32) (x3 : Int32) (h : Hp) (q : Int32)  (hrun : f_X7_nationIn x1 x2 x3 h = some q) : MetA ⟨"SteamNations$Seatings", "nationIn", "(III)I"⟩ prog_9_method_25_code 5 (some .int) 1 0 0 [.ref 68, .int x1, .int x2, .int x3] h (some (.int q)) h := by
  refine metA_of (by decide) (Nat.le_of_ble_eq_true rfl) (fun X C K => ?_)
  have C : Cx X cn_7 prog_9_method_25_code 5 (some .int) 1 0 0 := C
  show G X h 0 0 0 [(0, .ref 68), (1, .int x1), (2, .int x2), (3, .int x3)] []
  unfold f_X7_nationIn at hrun
  refine g_iload_n C (dat dt_X7_nationIn 0 rfl) 1 rfl ?_
  refine g_bipush C (dat dt_X7_nationIn 1 rfl) bp_10 ?_
  refine g_imul C (dat dt_X7_nationIn 2 rfl) ?_
  refine g_iload_n C (dat dt_X7_nationIn 3 rfl) 2 rfl ?_
  refine g_iadd C (dat dt_X7_nationIn 4 rfl) ?_
  refine g_istore (lv' := [(0, .ref 68), (1, .int x1), (2, .int x2), (3, .int x3), (4, .int ((x1 * (10 : Int32)) + x2))]) C (dat dt_X7_nationIn 5 rfl) (by decide) rfl ?_
  refine g_iload C (dat dt_X7_nationIn 6 rfl) 4 rfl ?_
  refine g_if_lt 39 C (dat dt_X7_nationIn 7 rfl) (by decide) (fun c1 => ?_) (fun c1 => ?_)
  · rw [if_pos c1] at hrun
    refine g_iconst C (dat dt_X7_nationIn 24 rfl) ic_m1 ?_
    cases hrun
    exact g_iret C K (dat dt_X7_nationIn 25 rfl)
  · rw [if_neg c1] at hrun
    refine g_iload C (dat dt_X7_nationIn 8 rfl) 4 rfl ?_
    refine g_aload_n C (dat dt_X7_nationIn 9 rfl) 0 rfl ?_
    refine g_getR C (dat dt_X7_nationIn 10 rfl) fl_7_22 kd_68 rfl ltk_68 ?_
    refine g_alen (v := (7200 : Int32)) C (dat dt_X7_nationIn 11 rfl) kd_75 (by decide) ltk_75 rfl ?_
    refine g_ic_ge 39 C (dat dt_X7_nationIn 12 rfl) (by decide) (fun c2 => ?_) (fun c2 => ?_)
    · rw [if_pos c2] at hrun
      refine g_iconst C (dat dt_X7_nationIn 24 rfl) ic_m1 ?_
      cases hrun
      exact g_iret C K (dat dt_X7_nationIn 25 rfl)
    · rw [if_neg c2] at hrun
      refine g_aload_n C (dat dt_X7_nationIn 13 rfl) 0 rfl ?_
      refine g_getR C (dat dt_X7_nationIn 14 rfl) fl_7_22 kd_68 rfl ltk_68 ?_
      refine g_iload C (dat dt_X7_nationIn 15 rfl) 4 rfl ?_
      obtain ⟨j3, q4, hrun⟩ := bd hrun
      refine g_iald C (dat dt_X7_nationIn 16 rfl) kd_75 ltk_75 q4 ?_
      refine g_iconst C (dat dt_X7_nationIn 17 rfl) ic_2 ?_
      refine g_iload_n C (dat dt_X7_nationIn 18 rfl) 3 rfl ?_
      refine g_imul C (dat dt_X7_nationIn 19 rfl) ?_
      refine g_ishr C (dat dt_X7_nationIn 20 rfl) ?_
      refine g_iconst C (dat dt_X7_nationIn 21 rfl) ic_3 ?_
      refine g_iand C (dat dt_X7_nationIn 22 rfl) ?_
      refine g_goto 40 C (dat dt_X7_nationIn 23 rfl) (by decide) ?_
      cases hrun
      exact g_iret C K (dat dt_X7_nationIn 25 rfl)
/-! SteamNations$Seatings.contentedIn(LSteamNations$Room;II)I -/
def dl_X7_contentedIn : List (Nat × Instr × Nat) := [(0, .iconst 0, 1), (1, .istore 4, 2), (3, .iconst 0, 1), (4, .istore 5, 2), (6, .iload 5, 2), (8, .aload_n 1, 1), (9, .getfield 71, 3), (12, .if_icmp .ge 40, 3), (15, .iload 4, 2), (17, .aload_n 0, 1), (18, .iload_n 2, 1), (19, .iload_n 3, 1), (20, .iload 5, 2), (22, .invokevirtual 74, 3), (25, .aload_n 1, 1), (26, .getfield 78, 3), (29, .iload 5, 2), (31, .iaload, 1), (32, .if_icmp .ne 7, 3), (35, .iconst 1, 1), (36, .goto 4, 3), (39, .iconst 0, 1), (40, .invokestatic 81, 3), (43, .iadd, 1), (44, .istore 4, 2), (46, .iinc 5 1, 3), (49, .goto (-43), 3), (52, .iload 4, 2), (54, .ireturn, 1)]
set_option maxRecDepth 20000 in
theorem dt_X7_contentedIn : ∀ q ∈ dl_X7_contentedIn, decode prog_9_method_5_code q.1 = .ok q.2 := by decide +kernel
def kp_X7_contentedIn_6 (a1 : Nat) (x2 : Int32) (x3 : Int32) (h : Hp) (X : Xt) (s : (Int32 × Int32)) : Prop := G X h 0 0 6 [(0, .ref 68), (1, .ref a1), (2, .int x2), (3, .int x3), (4, .int s.1), (5, .int s.2)] []
def ke_X7_contentedIn_6 (a1 : Nat) (x2 : Int32) (x3 : Int32) (h : Hp) (X : Xt) (e : Int32) : Prop := G X h 0 0 52 [(4, .int e)] []
def j_X7_contentedIn_40_6 (a1 : Nat) (x2 : Int32) (x3 : Int32) (x5 : Int32) (s0 : Int32) (s1 : Int32) (h : Hp) : Option ((Int32 × Int32) ⊕ Int32) :=
  (f_X10_oneIf s1).bind fun v7 =>
  some (.inl ((s0 + v7), (x5 + (1 : Int32))))
set_option maxRecDepth 20000 in
theorem wj_X7_contentedIn_40_6 {X : Xt} (C : Cx X cn_7 prog_9_method_5_code 6 (some .int) 2 0 0) (a1 : Nat) (Ha1 : IsRoom a1)  (x2 : Int32) (x3 : Int32) (x5 : Int32) (s0 : Int32) (s1 : Int32) (h : Hp) (q : (Int32 × Int32) ⊕ Int32) (hrun : j_X7_contentedIn_40_6 a1 x2 x3 x5 s0 s1 h = some q) (Ks : ∀ s, q = .inl s → kp_X7_contentedIn_6 a1 x2 x3 h X s) (Ke : ∀ e, q = .inr e → ke_X7_contentedIn_6 a1 x2 x3 h X e) : G X h 0 0 40 [(0, .ref 68), (1, .ref a1), (2, .int x2), (3, .int x3), (5, .int x5)] [.int s1, .int s0] := by
  unfold j_X7_contentedIn_40_6 at hrun
  obtain ⟨v7, q8, hrun⟩ := bd hrun
  refine g_cNi [.int s1] C (dat dt_X7_contentedIn 22 rfl) ml_7_81 (w_X10_oneIf s1 h v7  q8) rfl rfl (Nat.le_of_ble_eq_true rfl) (by decide) c00 ?_
  refine g_iadd C (dat dt_X7_contentedIn 23 rfl) ?_
  refine g_istore (lv' := [(0, .ref 68), (1, .ref a1), (2, .int x2), (3, .int x3), (4, .int (s0 + v7)), (5, .int x5)]) C (dat dt_X7_contentedIn 24 rfl) (by decide) rfl ?_
  refine g_iinc (v := (x5 + (1 : Int32))) (lv' := [(0, .ref 68), (1, .ref a1), (2, .int x2), (3, .int x3), (4, .int (s0 + v7)), (5, .int (x5 + (1 : Int32)))]) C (dat dt_X7_contentedIn 25 rfl) 5 rfl (congrArg (fun z => x5 + z) ic_1) (by decide) rfl ?_
  refine g_goto 6 C (dat dt_X7_contentedIn 26 rfl) (by decide) ?_
  cases hrun
  exact Ks ((s0 + v7), (x5 + (1 : Int32))) rfl
def b_X7_contentedIn_6 (a1 : Nat) (x2 : Int32) (x3 : Int32) (x4 : Int32) (x5 : Int32) (h : Hp) : Option ((Int32 × Int32) ⊕ Int32) :=
  if (fI h a1 0) ≤ x5 then
  some (.inr ( x4))
  else
  (f_X7_nationIn x2 x3 x5 h).bind fun v2 =>
  (inb x5 6).bind fun j4 =>
  if v2 = (aI h (a1 + 2) j4) then
  j_X7_contentedIn_40_6 a1 x2 x3 x5 x4 (1 : Int32) h
  else
  j_X7_contentedIn_40_6 a1 x2 x3 x5 x4 (0 : Int32) h
set_option maxRecDepth 20000 in
theorem wb_X7_contentedIn_6 {X : Xt} (C : Cx X cn_7 prog_9_method_5_code 6 (some .int) 2 0 0) (a1 : Nat) (Ha1 : IsRoom a1) (x2 : Int32) (x3 : Int32) (x4 : Int32) (x5 : Int32) (h : Hp) (q : (Int32 × Int32) ⊕ Int32) (hrun : b_X7_contentedIn_6 a1 x2 x3 x4 x5 h = some q) (Ks : ∀ s, q = .inl s → kp_X7_contentedIn_6 a1 x2 x3 h X s) (Ke : ∀ e, q = .inr e → ke_X7_contentedIn_6 a1 x2 x3 h X e) : kp_X7_contentedIn_6 a1 x2 x3 h X (x4, x5) := by
  show G X h 0 0 6 [(0, .ref 68), (1, .ref a1), (2, .int x2), (3, .int x3), (4, .int x4), (5, .int x5)] []
  unfold b_X7_contentedIn_6 at hrun
  refine g_iload C (dat dt_X7_contentedIn 4 rfl) 5 rfl ?_
  refine g_aload_n C (dat dt_X7_contentedIn 5 rfl) 1 rfl ?_
  refine g_getI C (dat dt_X7_contentedIn 6 rfl) fl_7_71 Ha1.1 rfl (rb0 Ha1) ?_
  refine g_ic_ge 52 C (dat dt_X7_contentedIn 7 rfl) (by decide) (fun c1 => ?_) (fun c1 => ?_)
  · rw [if_pos c1] at hrun
    refine g_sub [4] (lv' := [(4, .int x4)]) rfl ?_
    cases hrun
    exact Ke ( x4) rfl
  · rw [if_neg c1] at hrun
    refine g_iload C (dat dt_X7_contentedIn 8 rfl) 4 rfl ?_
    refine g_aload_n C (dat dt_X7_contentedIn 9 rfl) 0 rfl ?_
    refine g_iload_n C (dat dt_X7_contentedIn 10 rfl) 2 rfl ?_
    refine g_iload_n C (dat dt_X7_contentedIn 11 rfl) 3 rfl ?_
    refine g_iload C (dat dt_X7_contentedIn 12 rfl) 5 rfl ?_
    obtain ⟨v2, q3, hrun⟩ := bd hrun
    refine g_cVi [.int x2, .int x3, .int x5] C (dat dt_X7_contentedIn 13 rfl) ml_7_74 (w_X7_nationIn x2 x3 x5 h v2  q3) kd_68 ltk_68 rfl rfl (Nat.le_of_ble_eq_true rfl) (by decide) c00 ?_
    refine g_aload_n C (dat dt_X7_contentedIn 14 rfl) 1 rfl ?_
    refine g_getR C (dat dt_X7_contentedIn 15 rfl) fl_7_78 Ha1.1 rfl (rb0 Ha1) ?_
    refine g_iload C (dat dt_X7_contentedIn 16 rfl) 5 rfl ?_
    obtain ⟨j4, q5, hrun⟩ := bd hrun
    refine g_iald C (dat dt_X7_contentedIn 17 rfl) Ha1.2.2.1 (rb2 Ha1) q5 ?_
    refine g_ic_ne 39 C (dat dt_X7_contentedIn 18 rfl) (by decide) (fun c6 => ?_) (fun c6 => ?_)
    · rw [if_neg c6] at hrun
      refine g_iconst C (dat dt_X7_contentedIn 21 rfl) ic_0 ?_
      refine g_sub [0, 1, 2, 3, 5] (lv' := [(0, .ref 68), (1, .ref a1), (2, .int x2), (3, .int x3), (5, .int x5)]) rfl ?_
      exact wj_X7_contentedIn_40_6 C a1 Ha1  x2 x3 x5 x4 (0 : Int32) h _ hrun Ks Ke
    · rw [if_pos c6] at hrun
      refine g_iconst C (dat dt_X7_contentedIn 19 rfl) ic_1 ?_
      refine g_goto 40 C (dat dt_X7_contentedIn 20 rfl) (by decide) ?_
      refine g_sub [0, 1, 2, 3, 5] (lv' := [(0, .ref 68), (1, .ref a1), (2, .int x2), (3, .int x3), (5, .int x5)]) rfl ?_
      exact wj_X7_contentedIn_40_6 C a1 Ha1  x2 x3 x5 x4 (1 : Int32) h _ hrun Ks Ke
def f_X7_contentedIn (a1 : Nat) (x2 : Int32) (x3 : Int32) (h : Hp) : Option Int32 :=
  (lp (fun s => b_X7_contentedIn_6 a1 x2 x3 s.1 s.2 h) FU ((0 : Int32), (0 : Int32))).bind fun e9 =>
  some e9
set_option maxRecDepth 20000 in
theorem w_X7_contentedIn (a1 : Nat) (x2 : Int32) (x3 : Int32) (h : Hp) (q : Int32) (Ha1 : IsRoom a1) (hrun : f_X7_contentedIn a1 x2 x3 h = some q) : MetA ⟨"SteamNations$Seatings", "contentedIn", "(LSteamNations$Room;II)I"⟩ prog_9_method_5_code 6 (some .int) 2 0 0 [.ref 68, .ref a1, .int x2, .int x3] h (some (.int q)) h := by
  refine metA_of (by decide) (Nat.le_of_ble_eq_true rfl) (fun X C K => ?_)
  have C : Cx X cn_7 prog_9_method_5_code 6 (some .int) 2 0 0 := C
  show G X h 0 0 0 [(0, .ref 68), (1, .ref a1), (2, .int x2), (3, .int x3)] []
  unfold f_X7_contentedIn at hrun
  refine g_iconst C (dat dt_X7_contentedIn 0 rfl) ic_0 ?_
  refine g_istore (lv' := [(0, .ref 68), (1, .ref a1), (2, .int x2), (3, .int x3), (4, .int (0 : Int32))]) C (dat dt_X7_contentedIn 1 rfl) (by decide) rfl ?_
  refine g_iconst C (dat dt_X7_contentedIn 2 rfl) ic_0 ?_
  refine g_istore (lv' := [(0, .ref 68), (1, .ref a1), (2, .int x2), (3, .int x3), (4, .int (0 : Int32)), (5, .int (0 : Int32))]) C (dat dt_X7_contentedIn 3 rfl) (by decide) rfl ?_
  obtain ⟨e9, q10, hrun⟩ := bd hrun
  refine lp_ind (P := fun s => kp_X7_contentedIn_6 a1 x2 x3 h X s) (K := fun e => ke_X7_contentedIn_6 a1 x2 x3 h X e) (fun s q hb Ks Ke => wb_X7_contentedIn_6 C a1 Ha1 x2 x3 s.1 s.2 h q hb Ks Ke) FU ((0 : Int32), (0 : Int32)) e9 q10 ?_
  show G X h 0 0 52 [(4, .int e9)] []
  refine g_iload C (dat dt_X7_contentedIn 27 rfl) 0 rfl ?_
  cases hrun
  exact g_iret C K (dat dt_X7_contentedIn 28 rfl)
/-! SteamNations$Seatings.bestAt(LSteamNations$Room;I)I -/
def dl_X7_bestAt : List (Nat × Instr × Nat) := [(0, .iconst 0, 1), (1, .istore_n 3, 1), (2, .iconst (-1), 1), (3, .istore 4, 2), (5, .iconst 0, 1), (6, .istore 5, 2), (8, .iload 5, 2), (10, .aload_n 0, 1), (11, .getfield 48, 3), (14, .if_icmp .ge 33, 3), (17, .aload_n 0, 1), (18, .aload_n 1, 1), (19, .iload 5, 2), (21, .iload_n 2, 1), (22, .invokevirtual 85, 3), (25, .istore 6, 2), (27, .iload 6, 2), (29, .iload 4, 2), (31, .if_icmp .le 10, 3), (34, .iload 5, 2), (36, .istore_n 3, 1), (37, .iload 6, 2), (39, .istore 4, 2), (41, .iinc 5 1, 3), (44, .goto (-36), 3), (47, .iload_n 3, 1), (48, .ireturn, 1)]
set_option maxRecDepth 20000 in
theorem dt_X7_bestAt : ∀ q ∈ dl_X7_bestAt, decode prog_9_method_6_code q.1 = .ok q.2 := by decide +kernel
def kp_X7_bestAt_8 (a1 : Nat) (x2 : Int32) (h : Hp) (X : Xt) (s : (Int32 × Int32 × Int32)) : Prop := G X h 0 0 8 [(0, .ref 68), (1, .ref a1), (2, .int x2), (3, .int s.1), (4, .int s.2.1), (5, .int s.2.2)] []
def ke_X7_bestAt_8 (a1 : Nat) (x2 : Int32) (h : Hp) (X : Xt) (e : Int32) : Prop := G X h 0 0 47 [(3, .int e)] []
def b_X7_bestAt_8 (a1 : Nat) (x2 : Int32) (x3 : Int32) (x4 : Int32) (x5 : Int32) (h : Hp) : Option ((Int32 × Int32 × Int32) ⊕ Int32) :=
  if (fI h 68 10) ≤ x5 then
  some (.inr ( x3))
  else
  (f_X7_contentedIn a1 x5 x2 h).bind fun v2 =>
  if v2 ≤ x4 then
  some (.inl (x3, x4, (x5 + (1 : Int32))))
  else
  some (.inl (x5, v2, (x5 + (1 : Int32))))
set_option maxRecDepth 20000 in
theorem wb_X7_bestAt_8 {X : Xt} (C : Cx X cn_7 prog_9_method_6_code 7 (some .int) 3 0 0) (a1 : Nat) (Ha1 : IsRoom a1) (x2 : Int32) (x3 : Int32) (x4 : Int32) (x5 : Int32) (h : Hp) (q : (Int32 × Int32 × Int32) ⊕ Int32) (hrun : b_X7_bestAt_8 a1 x2 x3 x4 x5 h = some q) (Ks : ∀ s, q = .inl s → kp_X7_bestAt_8 a1 x2 h X s) (Ke : ∀ e, q = .inr e → ke_X7_bestAt_8 a1 x2 h X e) : kp_X7_bestAt_8 a1 x2 h X (x3, x4, x5) := by
  show G X h 0 0 8 [(0, .ref 68), (1, .ref a1), (2, .int x2), (3, .int x3), (4, .int x4), (5, .int x5)] []
  unfold b_X7_bestAt_8 at hrun
  refine g_iload C (dat dt_X7_bestAt 6 rfl) 5 rfl ?_
  refine g_aload_n C (dat dt_X7_bestAt 7 rfl) 0 rfl ?_
  refine g_getI C (dat dt_X7_bestAt 8 rfl) fl_7_48 kd_68 rfl ltk_68 ?_
  refine g_ic_ge 47 C (dat dt_X7_bestAt 9 rfl) (by decide) (fun c1 => ?_) (fun c1 => ?_)
  · rw [if_pos c1] at hrun
    refine g_sub [3] (lv' := [(3, .int x3)]) rfl ?_
    cases hrun
    exact Ke ( x3) rfl
  · rw [if_neg c1] at hrun
    refine g_aload_n C (dat dt_X7_bestAt 10 rfl) 0 rfl ?_
    refine g_aload_n C (dat dt_X7_bestAt 11 rfl) 1 rfl ?_
    refine g_iload C (dat dt_X7_bestAt 12 rfl) 5 rfl ?_
    refine g_iload_n C (dat dt_X7_bestAt 13 rfl) 2 rfl ?_
    obtain ⟨v2, q3, hrun⟩ := bd hrun
    refine g_cVi [.ref a1, .int x5, .int x2] C (dat dt_X7_bestAt 14 rfl) ml_7_85 (w_X7_contentedIn a1 x5 x2 h v2 Ha1 q3) kd_68 ltk_68 rfl rfl cat0 (by decide) c00 ?_
    refine g_istore (lv' := [(0, .ref 68), (1, .ref a1), (2, .int x2), (3, .int x3), (4, .int x4), (5, .int x5), (6, .int v2)]) C (dat dt_X7_bestAt 15 rfl) (by decide) rfl ?_
    refine g_iload C (dat dt_X7_bestAt 16 rfl) 6 rfl ?_
    refine g_iload C (dat dt_X7_bestAt 17 rfl) 4 rfl ?_
    refine g_ic_le 41 C (dat dt_X7_bestAt 18 rfl) (by decide) (fun c4 => ?_) (fun c4 => ?_)
    · rw [if_pos c4] at hrun
      refine g_iinc (v := (x5 + (1 : Int32))) (lv' := [(0, .ref 68), (1, .ref a1), (2, .int x2), (3, .int x3), (4, .int x4), (5, .int (x5 + (1 : Int32))), (6, .int v2)]) C (dat dt_X7_bestAt 23 rfl) 5 rfl (congrArg (fun z => x5 + z) ic_1) (by decide) rfl ?_
      refine g_goto 8 C (dat dt_X7_bestAt 24 rfl) (by decide) ?_
      refine g_sub [0, 1, 2, 3, 4, 5] (lv' := [(0, .ref 68), (1, .ref a1), (2, .int x2), (3, .int x3), (4, .int x4), (5, .int (x5 + (1 : Int32)))]) rfl ?_
      cases hrun
      exact Ks (x3, x4, (x5 + (1 : Int32))) rfl
    · rw [if_neg c4] at hrun
      refine g_iload C (dat dt_X7_bestAt 19 rfl) 5 rfl ?_
      refine g_istore_n (lv' := [(0, .ref 68), (1, .ref a1), (2, .int x2), (3, .int x5), (4, .int x4), (5, .int x5), (6, .int v2)]) C (dat dt_X7_bestAt 20 rfl) (by decide) rfl ?_
      refine g_iload C (dat dt_X7_bestAt 21 rfl) 6 rfl ?_
      refine g_istore (lv' := [(0, .ref 68), (1, .ref a1), (2, .int x2), (3, .int x5), (4, .int v2), (5, .int x5), (6, .int v2)]) C (dat dt_X7_bestAt 22 rfl) (by decide) rfl ?_
      refine g_iinc (v := (x5 + (1 : Int32))) (lv' := [(0, .ref 68), (1, .ref a1), (2, .int x2), (3, .int x5), (4, .int v2), (5, .int (x5 + (1 : Int32))), (6, .int v2)]) C (dat dt_X7_bestAt 23 rfl) 5 rfl (congrArg (fun z => x5 + z) ic_1) (by decide) rfl ?_
      refine g_goto 8 C (dat dt_X7_bestAt 24 rfl) (by decide) ?_
      refine g_sub [0, 1, 2, 3, 4, 5] (lv' := [(0, .ref 68), (1, .ref a1), (2, .int x2), (3, .int x5), (4, .int v2), (5, .int (x5 + (1 : Int32)))]) rfl ?_
      cases hrun
      exact Ks (x5, v2, (x5 + (1 : Int32))) rfl
def f_X7_bestAt (a1 : Nat) (x2 : Int32) (h : Hp) : Option Int32 :=
  (lp (fun s => b_X7_bestAt_8 a1 x2 s.1 s.2.1 s.2.2 h) FU ((0 : Int32), (-1 : Int32), (0 : Int32))).bind fun e5 =>
  some e5
set_option maxRecDepth 20000 in
theorem w_X7_bestAt (a1 : Nat) (x2 : Int32) (h : Hp) (q : Int32) (Ha1 : IsRoom a1) (hrun : f_X7_bestAt a1 x2 h = some q) : MetA ⟨"SteamNations$Seatings", "bestAt", "(LSteamNations$Room;I)I"⟩ prog_9_method_6_code 7 (some .int) 3 0 0 [.ref 68, .ref a1, .int x2] h (some (.int q)) h := by
  refine metA_of (by decide) (Nat.le_of_ble_eq_true rfl) (fun X C K => ?_)
  have C : Cx X cn_7 prog_9_method_6_code 7 (some .int) 3 0 0 := C
  show G X h 0 0 0 [(0, .ref 68), (1, .ref a1), (2, .int x2)] []
  unfold f_X7_bestAt at hrun
  refine g_iconst C (dat dt_X7_bestAt 0 rfl) ic_0 ?_
  refine g_istore_n (lv' := [(0, .ref 68), (1, .ref a1), (2, .int x2), (3, .int (0 : Int32))]) C (dat dt_X7_bestAt 1 rfl) (by decide) rfl ?_
  refine g_iconst C (dat dt_X7_bestAt 2 rfl) ic_m1 ?_
  refine g_istore (lv' := [(0, .ref 68), (1, .ref a1), (2, .int x2), (3, .int (0 : Int32)), (4, .int (-1 : Int32))]) C (dat dt_X7_bestAt 3 rfl) (by decide) rfl ?_
  refine g_iconst C (dat dt_X7_bestAt 4 rfl) ic_0 ?_
  refine g_istore (lv' := [(0, .ref 68), (1, .ref a1), (2, .int x2), (3, .int (0 : Int32)), (4, .int (-1 : Int32)), (5, .int (0 : Int32))]) C (dat dt_X7_bestAt 5 rfl) (by decide) rfl ?_
  obtain ⟨e5, q6, hrun⟩ := bd hrun
  refine lp_ind (P := fun s => kp_X7_bestAt_8 a1 x2 h X s) (K := fun e => ke_X7_bestAt_8 a1 x2 h X e) (fun s q hb Ks Ke => wb_X7_bestAt_8 C a1 Ha1 x2 s.1 s.2.1 s.2.2 h q hb Ks Ke) FU ((0 : Int32), (-1 : Int32), (0 : Int32)) e5 q6 ?_
  show G X h 0 0 47 [(3, .int e5)] []
  refine g_iload_n C (dat dt_X7_bestAt 25 rfl) 0 rfl ?_
  cases hrun
  exact g_iret C K (dat dt_X7_bestAt 26 rfl)
/-! SteamNations$Seatings.isSeating(I)Z -/
def dl_X7_isSeating : List (Nat × Instr × Nat) := [(0, .iload_n 1, 1), (1, .ifCond .lt 15, 3), (4, .iload_n 1, 1), (5, .aload_n 0, 1), (6, .getfield 48, 3), (9, .if_icmp .ge 7, 3), (12, .iconst 1, 1), (13, .goto 4, 3), (16, .iconst 0, 1), (17, .ireturn, 1)]
set_option maxRecDepth 20000 in
theorem dt_X7_isSeating : ∀ q ∈ dl_X7_isSeating, decode prog_9_method_26_code q.1 = .ok q.2 := by decide +kernel
def f_X7_isSeating (x1 : Int32) (h : Hp) : Option Bool :=
  if x1 < 0 then
  some false
  else
  if (fI h 68 10) ≤ x1 then
  some false
  else
  some true
set_option maxRecDepth 20000 in
theorem w_X7_isSeating (x1 : Int32) (h : Hp) (q : Bool)  (hrun : f_X7_isSeating x1 h = some q) : MetA ⟨"SteamNations$Seatings", "isSeating", "(I)Z"⟩ prog_9_method_26_code 2 (some .boolean) 1 0 0 [.ref 68, .int x1] h (some (.int (b2i q))) h := by
  refine metA_of (by decide) (Nat.le_of_ble_eq_true rfl) (fun X C K => ?_)
  have C : Cx X cn_7 prog_9_method_26_code 2 (some .boolean) 1 0 0 := C
  show G X h 0 0 0 [(0, .ref 68), (1, .int x1)] []
  unfold f_X7_isSeating at hrun
  refine g_iload_n C (dat dt_X7_isSeating 0 rfl) 1 rfl ?_
  refine g_if_lt 16 C (dat dt_X7_isSeating 1 rfl) (by decide) (fun c1 => ?_) (fun c1 => ?_)
  · rw [if_pos c1] at hrun
    refine g_iconst C (dat dt_X7_isSeating 8 rfl) ic_0 ?_
    cases hrun
    exact g_zret C K (show (0 : Int32) = b2i false by decide) (dat dt_X7_isSeating 9 rfl)
  · rw [if_neg c1] at hrun
    refine g_iload_n C (dat dt_X7_isSeating 2 rfl) 1 rfl ?_
    refine g_aload_n C (dat dt_X7_isSeating 3 rfl) 0 rfl ?_
    refine g_getI C (dat dt_X7_isSeating 4 rfl) fl_7_48 kd_68 rfl ltk_68 ?_
    refine g_ic_ge 16 C (dat dt_X7_isSeating 5 rfl) (by decide) (fun c2 => ?_) (fun c2 => ?_)
    · rw [if_pos c2] at hrun
      refine g_iconst C (dat dt_X7_isSeating 8 rfl) ic_0 ?_
      cases hrun
      exact g_zret C K (show (0 : Int32) = b2i false by decide) (dat dt_X7_isSeating 9 rfl)
    · rw [if_neg c2] at hrun
      refine g_iconst C (dat dt_X7_isSeating 6 rfl) ic_1 ?_
      refine g_goto 17 C (dat dt_X7_isSeating 7 rfl) (by decide) ?_
      cases hrun
      exact g_zret C K (show (1 : Int32) = b2i true by decide) (dat dt_X7_isSeating 9 rfl)
/-! SteamNations$Seatings.seatOfRow(II)I -/
def dl_X7_seatOfRow : List (Nat × Instr × Nat) := [(0, .iload_n 0, 1), (1, .iconst 4, 1), (2, .iload_n 1, 1), (3, .imul, 1), (4, .ishr, 1), (5, .bipush 15, 2), (7, .iand, 1), (8, .istore_n 2, 1), (9, .iload_n 2, 1), (10, .bipush 15, 2), (12, .if_icmp .ne 7, 3), (15, .iconst (-1), 1), (16, .goto 4, 3), (19, .iload_n 2, 1), (20, .ireturn, 1)]
set_option maxRecDepth 20000 in
theorem dt_X7_seatOfRow : ∀ q ∈ dl_X7_seatOfRow, decode prog_9_method_24_code q.1 = .ok q.2 := by decide +kernel
def f_X7_seatOfRow (x0 : Int32) (x1 : Int32) : Option Int32 :=
  if ((x0 >>> (((4 : Int32) * x1) &&& 31)) &&& (15 : Int32)) = (15 : Int32) then
  some (-1 : Int32)
  else
  some ((x0 >>> (((4 : Int32) * x1) &&& 31)) &&& (15 : Int32))
set_option maxRecDepth 20000 in
theorem w_X7_seatOfRow (x0 : Int32) (x1 : Int32) (h : Hp) (q : Int32)  (hrun : f_X7_seatOfRow x0 x1 = some q) : MetA ⟨"SteamNations$Seatings", "seatOfRow", "(II)I"⟩ prog_9_method_24_code 3 (some .int) 1 0 0 [.int x0, .int x1] h (some (.int q)) h := by
  refine metA_of (by decide) (Nat.le_of_ble_eq_true rfl) (fun X C K => ?_)
  have C : Cx X cn_7 prog_9_method_24_code 3 (some .int) 1 0 0 := C
  show G X h 0 0 0 [(0, .int x0), (1, .int x1)] []
  unfold f_X7_seatOfRow at hrun
  refine g_iload_n C (dat dt_X7_seatOfRow 0 rfl) 0 rfl ?_
  refine g_iconst C (dat dt_X7_seatOfRow 1 rfl) ic_4 ?_
  refine g_iload_n C (dat dt_X7_seatOfRow 2 rfl) 1 rfl ?_
  refine g_imul C (dat dt_X7_seatOfRow 3 rfl) ?_
  refine g_ishr C (dat dt_X7_seatOfRow 4 rfl) ?_
  refine g_bipush C (dat dt_X7_seatOfRow 5 rfl) bp_15 ?_
  refine g_iand C (dat dt_X7_seatOfRow 6 rfl) ?_
  refine g_istore_n (lv' := [(0, .int x0), (1, .int x1), (2, .int ((x0 >>> (((4 : Int32) * x1) &&& 31)) &&& (15 : Int32)))]) C (dat dt_X7_seatOfRow 7 rfl) (by decide) rfl ?_
  refine g_iload_n C (dat dt_X7_seatOfRow 8 rfl) 2 rfl ?_
  refine g_bipush C (dat dt_X7_seatOfRow 9 rfl) bp_15 ?_
  refine g_ic_ne 19 C (dat dt_X7_seatOfRow 10 rfl) (by decide) (fun c1 => ?_) (fun c1 => ?_)
  · rw [if_neg c1] at hrun
    refine g_iload_n C (dat dt_X7_seatOfRow 13 rfl) 2 rfl ?_
    cases hrun
    exact g_iret C K (dat dt_X7_seatOfRow 14 rfl)
  · rw [if_pos c1] at hrun
    refine g_iconst C (dat dt_X7_seatOfRow 11 rfl) ic_m1 ?_
    refine g_goto 20 C (dat dt_X7_seatOfRow 12 rfl) (by decide) ?_
    cases hrun
    exact g_iret C K (dat dt_X7_seatOfRow 14 rfl)
/-! SteamNations$Seatings.seatIn(II)I -/
def dl_X7_seatIn : List (Nat × Instr × Nat) := [(0, .aload_n 0, 1), (1, .iload_n 1, 1), (2, .invokevirtual 63, 3), (5, .ifCond .eq 16, 3), (8, .aload_n 0, 1), (9, .getfield 18, 3), (12, .iload_n 1, 1), (13, .iaload, 1), (14, .iload_n 2, 1), (15, .invokestatic 67, 3), (18, .goto 4, 3), (21, .iconst (-1), 1), (22, .ireturn, 1)]
set_option maxRecDepth 20000 in
theorem dt_X7_seatIn : ∀ q ∈ dl_X7_seatIn, decode prog_9_method_4_code q.1 = .ok q.2 := by decide +kernel
def f_X7_seatIn (x1 : Int32) (x2 : Int32) (h : Hp) : Option Int32 :=
  (f_X7_isSeating x1 h).bind fun v1 =>
  if v1 = true then
  (inb x1 720).bind fun j4 =>
  (f_X7_seatOfRow (aI h 74 j4) x2).bind fun v6 =>
  some v6
  else
  some (-1 : Int32)
set_option maxRecDepth 20000 in
theorem w_X7_seatIn (x1 : Int32) (x2 : Int32) (h : Hp) (q : Int32)  (hrun : f_X7_seatIn x1 x2 h = some q) : MetA ⟨"SteamNations$Seatings", "seatIn", "(II)I"⟩ prog_9_method_4_code 3 (some .int) 2 0 0 [.ref 68, .int x1, .int x2] h (some (.int q)) h := by
  refine metA_of (by decide) (Nat.le_of_ble_eq_true rfl) (fun X C K => ?_)
  have C : Cx X cn_7 prog_9_method_4_code 3 (some .int) 2 0 0 := C
  show G X h 0 0 0 [(0, .ref 68), (1, .int x1), (2, .int x2)] []
  unfold f_X7_seatIn at hrun
  refine g_aload_n C (dat dt_X7_seatIn 0 rfl) 0 rfl ?_
  refine g_iload_n C (dat dt_X7_seatIn 1 rfl) 1 rfl ?_
  obtain ⟨v1, q2, hrun⟩ := bd hrun
  refine g_cVi [.int x1] C (dat dt_X7_seatIn 2 rfl) ml_7_63 (w_X7_isSeating x1 h v1  q2) kd_68 ltk_68 rfl rfl cat0 (by decide) c00 ?_
  refine g_if_eq 21 C (dat dt_X7_seatIn 3 rfl) (by decide) (fun c3 => ?_) (fun c3 => ?_)
  · rw [if_neg (b2i_z c3)] at hrun
    refine g_iconst C (dat dt_X7_seatIn 11 rfl) ic_m1 ?_
    cases hrun
    exact g_iret C K (dat dt_X7_seatIn 12 rfl)
  · rw [if_pos (b2i_nz c3)] at hrun
    refine g_aload_n C (dat dt_X7_seatIn 4 rfl) 0 rfl ?_
    refine g_getR C (dat dt_X7_seatIn 5 rfl) fl_7_18 kd_68 rfl ltk_68 ?_
    refine g_iload_n C (dat dt_X7_seatIn 6 rfl) 1 rfl ?_
    obtain ⟨j4, q5, hrun⟩ := bd hrun
    refine g_iald C (dat dt_X7_seatIn 7 rfl) kd_74 ltk_74 q5 ?_
    refine g_iload_n C (dat dt_X7_seatIn 8 rfl) 2 rfl ?_
    obtain ⟨v6, q7, hrun⟩ := bd hrun
    refine g_cSi [.int (aI h 74 j4), .int x2] C (dat dt_X7_seatIn 9 rfl) ml_7_67 (w_X7_seatOfRow (aI h 74 j4) x2 h v6  q7) rfl rfl cat0 (by decide) c00 ?_
    refine g_goto 22 C (dat dt_X7_seatIn 10 rfl) (by decide) ?_
    cases hrun
    exact g_iret C K (dat dt_X7_seatIn 12 rfl)
/-! SteamNations.areBeside(II)Z -/
def dl_X10_areBeside : List (Nat × Instr × Nat) := [(0, .iload_n 0, 1), (1, .iconst 3, 1), (2, .idiv, 1), (3, .iload_n 1, 1), (4, .iconst 3, 1), (5, .idiv, 1), (6, .isub, 1), (7, .invokestatic 390, 3), (10, .istore_n 2, 1), (11, .iload_n 0, 1), (12, .iconst 3, 1), (13, .irem, 1), (14, .iload_n 1, 1), (15, .iconst 3, 1), (16, .irem, 1), (17, .isub, 1), (18, .invokestatic 390, 3), (21, .istore_n 3, 1), (22, .iload_n 2, 1), (23, .iload_n 3, 1), (24, .iadd, 1), (25, .iconst 1, 1), (26, .if_icmp .ne 7, 3), (29, .iconst 1, 1), (30, .goto 4, 3), (33, .iconst 0, 1), (34, .ireturn, 1)]
set_option maxRecDepth 20000 in
theorem dt_X10_areBeside : ∀ q ∈ dl_X10_areBeside, decode prog_1_method_53_code q.1 = .ok q.2 := by decide +kernel
def f_X10_areBeside (x0 : Int32) (x1 : Int32) : Option Bool :=
  (f_J9_abs_0f7a4 ((x0 / (3 : Int32)) - (x1 / (3 : Int32)))).bind fun v1 =>
  (f_J9_abs_0f7a4 ((x0 - x0 / (3 : Int32) * (3 : Int32)) - (x1 - x1 / (3 : Int32) * (3 : Int32)))).bind fun v3 =>
  if (v1 + v3) = (1 : Int32) then
  some true
  else
  some false
set_option maxRecDepth 20000 in
theorem w_X10_areBeside (x0 : Int32) (x1 : Int32) (h : Hp) (q : Bool)  (hrun : f_X10_areBeside x0 x1 = some q) : MetA ⟨"SteamNations", "areBeside", "(II)Z"⟩ prog_1_method_53_code 4 (some .boolean) 2 0 0 [.int x0, .int x1] h (some (.int (b2i q))) h := by
  refine metA_of (by decide) (Nat.le_of_ble_eq_true rfl) (fun X C K => ?_)
  have C : Cx X cn_10 prog_1_method_53_code 4 (some .boolean) 2 0 0 := C
  show G X h 0 0 0 [(0, .int x0), (1, .int x1)] []
  unfold f_X10_areBeside at hrun
  refine g_iload_n C (dat dt_X10_areBeside 0 rfl) 0 rfl ?_
  refine g_iconst C (dat dt_X10_areBeside 1 rfl) ic_3 ?_
  refine g_idiv C (dat dt_X10_areBeside 2 rfl) (by decide) ?_
  refine g_iload_n C (dat dt_X10_areBeside 3 rfl) 1 rfl ?_
  refine g_iconst C (dat dt_X10_areBeside 4 rfl) ic_3 ?_
  refine g_idiv C (dat dt_X10_areBeside 5 rfl) (by decide) ?_
  refine g_isub C (dat dt_X10_areBeside 6 rfl) ?_
  obtain ⟨v1, q2, hrun⟩ := bd hrun
  refine g_cSi [.int ((x0 / (3 : Int32)) - (x1 / (3 : Int32)))] C (dat dt_X10_areBeside 7 rfl) ml_10_390 (w_J9_abs_0f7a4 ((x0 / (3 : Int32)) - (x1 / (3 : Int32))) h v1  q2) rfl rfl cat0 (by decide) c00 ?_
  refine g_istore_n (lv' := [(0, .int x0), (1, .int x1), (2, .int v1)]) C (dat dt_X10_areBeside 8 rfl) (by decide) rfl ?_
  refine g_iload_n C (dat dt_X10_areBeside 9 rfl) 0 rfl ?_
  refine g_iconst C (dat dt_X10_areBeside 10 rfl) ic_3 ?_
  refine g_irem C (dat dt_X10_areBeside 11 rfl) (by decide) ?_
  refine g_iload_n C (dat dt_X10_areBeside 12 rfl) 1 rfl ?_
  refine g_iconst C (dat dt_X10_areBeside 13 rfl) ic_3 ?_
  refine g_irem C (dat dt_X10_areBeside 14 rfl) (by decide) ?_
  refine g_isub C (dat dt_X10_areBeside 15 rfl) ?_
  obtain ⟨v3, q4, hrun⟩ := bd hrun
  refine g_cSi [.int ((x0 - x0 / (3 : Int32) * (3 : Int32)) - (x1 - x1 / (3 : Int32) * (3 : Int32)))] C (dat dt_X10_areBeside 16 rfl) ml_10_390 (w_J9_abs_0f7a4 ((x0 - x0 / (3 : Int32) * (3 : Int32)) - (x1 - x1 / (3 : Int32) * (3 : Int32))) h v3  q4) rfl rfl cat0 (by decide) c00 ?_
  refine g_istore_n (lv' := [(0, .int x0), (1, .int x1), (2, .int v1), (3, .int v3)]) C (dat dt_X10_areBeside 17 rfl) (by decide) rfl ?_
  refine g_iload_n C (dat dt_X10_areBeside 18 rfl) 2 rfl ?_
  refine g_iload_n C (dat dt_X10_areBeside 19 rfl) 3 rfl ?_
  refine g_iadd C (dat dt_X10_areBeside 20 rfl) ?_
  refine g_iconst C (dat dt_X10_areBeside 21 rfl) ic_1 ?_
  refine g_ic_ne 33 C (dat dt_X10_areBeside 22 rfl) (by decide) (fun c5 => ?_) (fun c5 => ?_)
  · rw [if_neg c5] at hrun
    refine g_iconst C (dat dt_X10_areBeside 25 rfl) ic_0 ?_
    cases hrun
    exact g_zret C K (show (0 : Int32) = b2i false by decide) (dat dt_X10_areBeside 26 rfl)
  · rw [if_pos c5] at hrun
    refine g_iconst C (dat dt_X10_areBeside 23 rfl) ic_1 ?_
    refine g_goto 34 C (dat dt_X10_areBeside 24 rfl) (by decide) ?_
    cases hrun
    exact g_zret C K (show (1 : Int32) = b2i true by decide) (dat dt_X10_areBeside 26 rfl)
/-! SteamNations$Seatings.canExchange(III)Z -/
def dl_X7_canExchange : List (Nat × Instr × Nat) := [(0, .iload_n 1, 1), (1, .iload_n 2, 1), (2, .invokestatic 67, 3), (5, .iload_n 1, 1), (6, .iload_n 3, 1), (7, .invokestatic 67, 3), (10, .invokestatic 171, 3), (13, .ireturn, 1)]
set_option maxRecDepth 20000 in
theorem dt_X7_canExchange : ∀ q ∈ dl_X7_canExchange, decode prog_9_method_19_code q.1 = .ok q.2 := by decide +kernel
def f_X7_canExchange (x1 : Int32) (x2 : Int32) (x3 : Int32) : Option Bool :=
  (f_X7_seatOfRow x1 x2).bind fun v1 =>
  (f_X7_seatOfRow x1 x3).bind fun v3 =>
  (f_X10_areBeside v1 v3).bind fun v5 =>
  some v5
set_option maxRecDepth 20000 in
theorem w_X7_canExchange (x1 : Int32) (x2 : Int32) (x3 : Int32) (h : Hp) (q : Bool)  (hrun : f_X7_canExchange x1 x2 x3 = some q) : MetA ⟨"SteamNations$Seatings", "canExchange", "(III)Z"⟩ prog_9_method_19_code 4 (some .boolean) 3 0 0 [.ref 68, .int x1, .int x2, .int x3] h (some (.int (b2i q))) h := by
  refine metA_of (by decide) (Nat.le_of_ble_eq_true rfl) (fun X C K => ?_)
  have C : Cx X cn_7 prog_9_method_19_code 4 (some .boolean) 3 0 0 := C
  show G X h 0 0 0 [(0, .ref 68), (1, .int x1), (2, .int x2), (3, .int x3)] []
  unfold f_X7_canExchange at hrun
  refine g_iload_n C (dat dt_X7_canExchange 0 rfl) 1 rfl ?_
  refine g_iload_n C (dat dt_X7_canExchange 1 rfl) 2 rfl ?_
  obtain ⟨v1, q2, hrun⟩ := bd hrun
  refine g_cSi [.int x1, .int x2] C (dat dt_X7_canExchange 2 rfl) ml_7_67 (w_X7_seatOfRow x1 x2 h v1  q2) rfl rfl cat0 (by decide) c00 ?_
  refine g_iload_n C (dat dt_X7_canExchange 3 rfl) 1 rfl ?_
  refine g_iload_n C (dat dt_X7_canExchange 4 rfl) 3 rfl ?_
  obtain ⟨v3, q4, hrun⟩ := bd hrun
  refine g_cSi [.int x1, .int x3] C (dat dt_X7_canExchange 5 rfl) ml_7_67 (w_X7_seatOfRow x1 x3 h v3  q4) rfl rfl (Nat.le_of_ble_eq_true rfl) (by decide) c00 ?_
  obtain ⟨v5, q6, hrun⟩ := bd hrun
  refine g_cNi [.int v1, .int v3] C (dat dt_X7_canExchange 6 rfl) ml_7_171 (w_X10_areBeside v1 v3 h v5  q6) rfl rfl cat0 (by decide) c00 ?_
  cases hrun
  exact g_zret C K rfl (dat dt_X7_canExchange 7 rfl)
/-! SteamNations$Seatings.exchanged(III)I -/
def dl_X7_exchanged : List (Nat × Instr × Nat) := [(0, .iload_n 0, 1), (1, .iconst 4, 1), (2, .iload_n 1, 1), (3, .imul, 1), (4, .ishr, 1), (5, .iload_n 0, 1), (6, .iconst 4, 1), (7, .iload_n 2, 1), (8, .imul, 1), (9, .ishr, 1), (10, .ixor, 1), (11, .bipush 15, 2), (13, .iand, 1), (14, .istore_n 3, 1), (15, .iload_n 0, 1), (16, .iload_n 3, 1), (17, .iconst 4, 1), (18, .iload_n 1, 1), (19, .imul, 1), (20, .ishl, 1), (21, .ixor, 1), (22, .iload_n 3, 1), (23, .iconst 4, 1), (24, .iload_n 2, 1), (25, .imul, 1), (26, .ishl, 1), (27, .ixor, 1), (28, .ireturn, 1)]
set_option maxRecDepth 20000 in
theorem dt_X7_exchanged : ∀ q ∈ dl_X7_exchanged, decode prog_9_method_20_code q.1 = .ok q.2 := by decide +kernel
def f_X7_exchanged (x0 : Int32) (x1 : Int32) (x2 : Int32) : Option Int32 :=
  some ((x0 ^^^ ((((x0 >>> (((4 : Int32) * x1) &&& 31)) ^^^ (x0 >>> (((4 : Int32) * x2) &&& 31))) &&& (15 : Int32)) <<< (((4 : Int32) * x1) &&& 31))) ^^^ ((((x0 >>> (((4 : Int32) * x1) &&& 31)) ^^^ (x0 >>> (((4 : Int32) * x2) &&& 31))) &&& (15 : Int32)) <<< (((4 : Int32) * x2) &&& 31)))
set_option maxRecDepth 20000 in
theorem w_X7_exchanged (x0 : Int32) (x1 : Int32) (x2 : Int32) (h : Hp) (q : Int32)  (hrun : f_X7_exchanged x0 x1 x2 = some q) : MetA ⟨"SteamNations$Seatings", "exchanged", "(III)I"⟩ prog_9_method_20_code 4 (some .int) 1 0 0 [.int x0, .int x1, .int x2] h (some (.int q)) h := by
  refine metA_of (by decide) (Nat.le_of_ble_eq_true rfl) (fun X C K => ?_)
  have C : Cx X cn_7 prog_9_method_20_code 4 (some .int) 1 0 0 := C
  show G X h 0 0 0 [(0, .int x0), (1, .int x1), (2, .int x2)] []
  unfold f_X7_exchanged at hrun
  refine g_iload_n C (dat dt_X7_exchanged 0 rfl) 0 rfl ?_
  refine g_iconst C (dat dt_X7_exchanged 1 rfl) ic_4 ?_
  refine g_iload_n C (dat dt_X7_exchanged 2 rfl) 1 rfl ?_
  refine g_imul C (dat dt_X7_exchanged 3 rfl) ?_
  refine g_ishr C (dat dt_X7_exchanged 4 rfl) ?_
  refine g_iload_n C (dat dt_X7_exchanged 5 rfl) 0 rfl ?_
  refine g_iconst C (dat dt_X7_exchanged 6 rfl) ic_4 ?_
  refine g_iload_n C (dat dt_X7_exchanged 7 rfl) 2 rfl ?_
  refine g_imul C (dat dt_X7_exchanged 8 rfl) ?_
  refine g_ishr C (dat dt_X7_exchanged 9 rfl) ?_
  refine g_ixor C (dat dt_X7_exchanged 10 rfl) ?_
  refine g_bipush C (dat dt_X7_exchanged 11 rfl) bp_15 ?_
  refine g_iand C (dat dt_X7_exchanged 12 rfl) ?_
  refine g_istore_n (lv' := [(0, .int x0), (1, .int x1), (2, .int x2), (3, .int (((x0 >>> (((4 : Int32) * x1) &&& 31)) ^^^ (x0 >>> (((4 : Int32) * x2) &&& 31))) &&& (15 : Int32)))]) C (dat dt_X7_exchanged 13 rfl) (by decide) rfl ?_
  refine g_iload_n C (dat dt_X7_exchanged 14 rfl) 0 rfl ?_
  refine g_iload_n C (dat dt_X7_exchanged 15 rfl) 3 rfl ?_
  refine g_iconst C (dat dt_X7_exchanged 16 rfl) ic_4 ?_
  refine g_iload_n C (dat dt_X7_exchanged 17 rfl) 1 rfl ?_
  refine g_imul C (dat dt_X7_exchanged 18 rfl) ?_
  refine g_ishl C (dat dt_X7_exchanged 19 rfl) ?_
  refine g_ixor C (dat dt_X7_exchanged 20 rfl) ?_
  refine g_iload_n C (dat dt_X7_exchanged 21 rfl) 3 rfl ?_
  refine g_iconst C (dat dt_X7_exchanged 22 rfl) ic_4 ?_
  refine g_iload_n C (dat dt_X7_exchanged 23 rfl) 2 rfl ?_
  refine g_imul C (dat dt_X7_exchanged 24 rfl) ?_
  refine g_ishl C (dat dt_X7_exchanged 25 rfl) ?_
  refine g_ixor C (dat dt_X7_exchanged 26 rfl) ?_
  cases hrun
  exact g_iret C K (dat dt_X7_exchanged 27 rfl)
/-! SteamNations$Seatings.rankOf(I)I -/
def dl_X7_rankOf : List (Nat × Instr × Nat) := [(0, .iconst 0, 1), (1, .istore_n 2, 1), (2, .iconst 0, 1), (3, .istore_n 3, 1), (4, .iload_n 3, 1), (5, .aload_n 0, 1), (6, .getfield 104, 3), (9, .if_icmp .ge 81, 3), (12, .iconst 0, 1), (13, .istore 4, 2), (15, .iload_n 3, 1), (16, .iconst 1, 1), (17, .iadd, 1), (18, .istore 5, 2), (20, .iload 5, 2), (22, .aload_n 0, 1), (23, .getfield 104, 3), (26, .if_icmp .ge 46, 3), (29, .iload 4, 2), (31, .iload_n 1, 1), (32, .aload_n 0, 1), (33, .getfield 31, 3), (36, .iload 5, 2), (38, .iaload, 1), (39, .invokestatic 67, 3), (42, .iload_n 1, 1), (43, .aload_n 0, 1), (44, .getfield 31, 3), (47, .iload_n 3, 1), (48, .iaload, 1), (49, .invokestatic 67, 3), (52, .if_icmp .ge 7, 3), (55, .iconst 1, 1), (56, .goto 4, 3), (59, .iconst 0, 1), (60, .invokestatic 81, 3), (63, .iadd, 1), (64, .istore 4, 2), (66, .iinc 5 1, 3), (69, .goto (-49), 3), (72, .iload_n 2, 1), (73, .aload_n 0, 1), (74, .getfield 104, 3), (77, .iload_n 3, 1), (78, .isub, 1), (79, .imul, 1), (80, .iload 4, 2), (82, .iadd, 1), (83, .istore_n 2, 1), (84, .iinc 3 1, 3), (87, .goto (-83), 3), (90, .iload_n 2, 1), (91, .ireturn, 1)]
set_option maxRecDepth 20000 in
theorem dt_X7_rankOf : ∀ q ∈ dl_X7_rankOf, decode prog_9_method_22_code q.1 = .ok q.2 := by decide +kernel
def kp_X7_rankOf_4  (x1 : Int32) (h : Hp) (X : Xt) (s : (Int32 × Int32)) : Prop := G X h 0 0 4 [(0, .ref 68), (1, .int x1), (2, .int s.1), (3, .int s.2)] []
def ke_X7_rankOf_4  (x1 : Int32) (h : Hp) (X : Xt) (e : Int32) : Prop := G X h 0 0 90 [(2, .int e)] []
def kp_X7_rankOf_20_4  (x1 : Int32) (x2 : Int32) (x3 : Int32) (h : Hp) (X : Xt) (s : (Int32 × Int32)) : Prop := G X h 0 0 20 [(0, .ref 68), (1, .int x1), (2, .int x2), (3, .int x3), (4, .int s.1), (5, .int s.2)] []
def ke_X7_rankOf_20_4  (x1 : Int32) (x2 : Int32) (x3 : Int32) (h : Hp) (X : Xt) (e : Int32) : Prop := G X h 0 0 72 [(0, .ref 68), (1, .int x1), (2, .int x2), (3, .int x3), (4, .int e)] []
def j_X7_rankOf_60_20  (x1 : Int32) (x2 : Int32) (x3 : Int32) (x5 : Int32) (s0 : Int32) (s1 : Int32) (h : Hp) : Option ((Int32 × Int32) ⊕ Int32) :=
  (f_X10_oneIf s1).bind fun v12 =>
  some (.inl ((s0 + v12), (x5 + (1 : Int32))))
set_option maxRecDepth 20000 in
theorem wj_X7_rankOf_60_20 {X : Xt} (C : Cx X cn_7 prog_9_method_22_code 6 (some .int) 2 0 0)    (x1 : Int32) (x2 : Int32) (x3 : Int32) (x5 : Int32) (s0 : Int32) (s1 : Int32) (h : Hp) (q : (Int32 × Int32) ⊕ Int32) (hrun : j_X7_rankOf_60_20  x1 x2 x3 x5 s0 s1 h = some q) (Ks : ∀ s, q = .inl s → kp_X7_rankOf_20_4  x1 x2 x3 h X s) (Ke : ∀ e, q = .inr e → ke_X7_rankOf_20_4  x1 x2 x3 h X e) : G X h 0 0 60 [(0, .ref 68), (1, .int x1), (2, .int x2), (3, .int x3), (5, .int x5)] [.int s1, .int s0] := by
  unfold j_X7_rankOf_60_20 at hrun
  obtain ⟨v12, q13, hrun⟩ := bd hrun
  refine g_cNi [.int s1] C (dat dt_X7_rankOf 35 rfl) ml_7_81 (w_X10_oneIf s1 h v12  q13) rfl rfl (Nat.le_of_ble_eq_true rfl) (by decide) c00 ?_
  refine g_iadd C (dat dt_X7_rankOf 36 rfl) ?_
  refine g_istore (lv' := [(0, .ref 68), (1, .int x1), (2, .int x2), (3, .int x3), (4, .int (s0 + v12)), (5, .int x5)]) C (dat dt_X7_rankOf 37 rfl) (by decide) rfl ?_
  refine g_iinc (v := (x5 + (1 : Int32))) (lv' := [(0, .ref 68), (1, .int x1), (2, .int x2), (3, .int x3), (4, .int (s0 + v12)), (5, .int (x5 + (1 : Int32)))]) C (dat dt_X7_rankOf 38 rfl) 5 rfl (congrArg (fun z => x5 + z) ic_1) (by decide) rfl ?_
  refine g_goto 20 C (dat dt_X7_rankOf 39 rfl) (by decide) ?_
  cases hrun
  exact Ks ((s0 + v12), (x5 + (1 : Int32))) rfl
def b_X7_rankOf_20_4  (x1 : Int32) (x2 : Int32) (x3 : Int32) (x4 : Int32) (x5 : Int32) (h : Hp) : Option ((Int32 × Int32) ⊕ Int32) :=
  if (fI h 68 9) ≤ x5 then
  some (.inr ( x4))
  else
  (inb x5 6).bind fun j3 =>
  (f_X7_seatOfRow x1 (aI h 78 j3)).bind fun v5 =>
  (inb x3 6).bind fun j7 =>
  (f_X7_seatOfRow x1 (aI h 78 j7)).bind fun v9 =>
  if v9 ≤ v5 then
  j_X7_rankOf_60_20  x1 x2 x3 x5 x4 (0 : Int32) h
  else
  j_X7_rankOf_60_20  x1 x2 x3 x5 x4 (1 : Int32) h
set_option maxRecDepth 20000 in
theorem wb_X7_rankOf_20_4 {X : Xt} (C : Cx X cn_7 prog_9_method_22_code 6 (some .int) 2 0 0)   (x1 : Int32) (x2 : Int32) (x3 : Int32) (x4 : Int32) (x5 : Int32) (h : Hp) (q : (Int32 × Int32) ⊕ Int32) (hrun : b_X7_rankOf_20_4  x1 x2 x3 x4 x5 h = some q) (Ks : ∀ s, q = .inl s → kp_X7_rankOf_20_4  x1 x2 x3 h X s) (Ke : ∀ e, q = .inr e → ke_X7_rankOf_20_4  x1 x2 x3 h X e) : kp_X7_rankOf_20_4  x1 x2 x3 h X (x4, x5) := by
  show G X h 0 0 20 [(0, .ref 68), (1, .int x1), (2, .int x2), (3, .int x3), (4, .int x4), (5, .int x5)] []
  unfold b_X7_rankOf_20_4 at hrun
  refine g_iload C (dat dt_X7_rankOf 14 rfl) 5 rfl ?_
  refine g_aload_n C (dat dt_X7_rankOf 15 rfl) 0 rfl ?_
  refine g_getI C (dat dt_X7_rankOf 16 rfl) fl_7_104 kd_68 rfl ltk_68 ?_
  refine g_ic_ge 72 C (dat dt_X7_rankOf 17 rfl) (by decide) (fun c2 => ?_) (fun c2 => ?_)
  · rw [if_pos c2] at hrun
    refine g_sub [0, 1, 2, 3, 4] (lv' := [(0, .ref 68), (1, .int x1), (2, .int x2), (3, .int x3), (4, .int x4)]) rfl ?_
    cases hrun
    exact Ke ( x4) rfl
  · rw [if_neg c2] at hrun
    refine g_iload C (dat dt_X7_rankOf 18 rfl) 4 rfl ?_
    refine g_iload_n C (dat dt_X7_rankOf 19 rfl) 1 rfl ?_
    refine g_aload_n C (dat dt_X7_rankOf 20 rfl) 0 rfl ?_
    refine g_getR C (dat dt_X7_rankOf 21 rfl) fl_7_31 kd_68 rfl ltk_68 ?_
    refine g_iload C (dat dt_X7_rankOf 22 rfl) 5 rfl ?_
    obtain ⟨j3, q4, hrun⟩ := bd hrun
    refine g_iald C (dat dt_X7_rankOf 23 rfl) kd_78 ltk_78 q4 ?_
    obtain ⟨v5, q6, hrun⟩ := bd hrun
    refine g_cSi [.int x1, .int (aI h 78 j3)] C (dat dt_X7_rankOf 24 rfl) ml_7_67 (w_X7_seatOfRow x1 (aI h 78 j3) h v5  q6) rfl rfl (Nat.le_of_ble_eq_true rfl) (by decide) c00 ?_
    refine g_iload_n C (dat dt_X7_rankOf 25 rfl) 1 rfl ?_
    refine g_aload_n C (dat dt_X7_rankOf 26 rfl) 0 rfl ?_
    refine g_getR C (dat dt_X7_rankOf 27 rfl) fl_7_31 kd_68 rfl ltk_68 ?_
    refine g_iload_n C (dat dt_X7_rankOf 28 rfl) 3 rfl ?_
    obtain ⟨j7, q8, hrun⟩ := bd hrun
    refine g_iald C (dat dt_X7_rankOf 29 rfl) kd_78 ltk_78 q8 ?_
    obtain ⟨v9, q10, hrun⟩ := bd hrun
    refine g_cSi [.int x1, .int (aI h 78 j7)] C (dat dt_X7_rankOf 30 rfl) ml_7_67 (w_X7_seatOfRow x1 (aI h 78 j7) h v9  q10) rfl rfl (Nat.le_of_ble_eq_true rfl) (by decide) c00 ?_
    refine g_ic_ge 59 C (dat dt_X7_rankOf 31 rfl) (by decide) (fun c11 => ?_) (fun c11 => ?_)
    · rw [if_pos c11] at hrun
      refine g_iconst C (dat dt_X7_rankOf 34 rfl) ic_0 ?_
      refine g_sub [0, 1, 2, 3, 5] (lv' := [(0, .ref 68), (1, .int x1), (2, .int x2), (3, .int x3), (5, .int x5)]) rfl ?_
      exact wj_X7_rankOf_60_20 C    x1 x2 x3 x5 x4 (0 : Int32) h _ hrun Ks Ke
    · rw [if_neg c11] at hrun
      refine g_iconst C (dat dt_X7_rankOf 32 rfl) ic_1 ?_
      refine g_goto 60 C (dat dt_X7_rankOf 33 rfl) (by decide) ?_
      refine g_sub [0, 1, 2, 3, 5] (lv' := [(0, .ref 68), (1, .int x1), (2, .int x2), (3, .int x3), (5, .int x5)]) rfl ?_
      exact wj_X7_rankOf_60_20 C    x1 x2 x3 x5 x4 (1 : Int32) h _ hrun Ks Ke
def b_X7_rankOf_4  (x1 : Int32) (x2 : Int32) (x3 : Int32) (h : Hp) : Option ((Int32 × Int32) ⊕ Int32) :=
  if (fI h 68 9) ≤ x3 then
  some (.inr ( x2))
  else
  (lp (fun s => b_X7_rankOf_20_4  x1 x2 x3 s.1 s.2 h) FU ((0 : Int32), (x3 + (1 : Int32)))).bind fun e14 =>
  some (.inl (((x2 * ((fI h 68 9) - x3)) + e14), (x3 + (1 : Int32))))
set_option maxRecDepth 20000 in
theorem wb_X7_rankOf_4 {X : Xt} (C : Cx X cn_7 prog_9_method_22_code 6 (some .int) 2 0 0)   (x1 : Int32) (x2 : Int32) (x3 : Int32) (h : Hp) (q : (Int32 × Int32) ⊕ Int32) (hrun : b_X7_rankOf_4  x1 x2 x3 h = some q) (Ks : ∀ s, q = .inl s → kp_X7_rankOf_4  x1 h X s) (Ke : ∀ e, q = .inr e → ke_X7_rankOf_4  x1 h X e) : kp_X7_rankOf_4  x1 h X (x2, x3) := by
  show G X h 0 0 4 [(0, .ref 68), (1, .int x1), (2, .int x2), (3, .int x3)] []
  unfold b_X7_rankOf_4 at hrun
  refine g_iload_n C (dat dt_X7_rankOf 4 rfl) 3 rfl ?_
  refine g_aload_n C (dat dt_X7_rankOf 5 rfl) 0 rfl ?_
  refine g_getI C (dat dt_X7_rankOf 6 rfl) fl_7_104 kd_68 rfl ltk_68 ?_
  refine g_ic_ge 90 C (dat dt_X7_rankOf 7 rfl) (by decide) (fun c1 => ?_) (fun c1 => ?_)
  · rw [if_pos c1] at hrun
    refine g_sub [2] (lv' := [(2, .int x2)]) rfl ?_
    cases hrun
    exact Ke ( x2) rfl
  · rw [if_neg c1] at hrun
    refine g_iconst C (dat dt_X7_rankOf 8 rfl) ic_0 ?_
    refine g_istore (lv' := [(0, .ref 68), (1, .int x1), (2, .int x2), (3, .int x3), (4, .int (0 : Int32))]) C (dat dt_X7_rankOf 9 rfl) (by decide) rfl ?_
    refine g_iload_n C (dat dt_X7_rankOf 10 rfl) 3 rfl ?_
    refine g_iconst C (dat dt_X7_rankOf 11 rfl) ic_1 ?_
    refine g_iadd C (dat dt_X7_rankOf 12 rfl) ?_
    refine g_istore (lv' := [(0, .ref 68), (1, .int x1), (2, .int x2), (3, .int x3), (4, .int (0 : Int32)), (5, .int (x3 + (1 : Int32)))]) C (dat dt_X7_rankOf 13 rfl) (by decide) rfl ?_
    obtain ⟨e14, q15, hrun⟩ := bd hrun
    refine lp_ind (P := fun s => kp_X7_rankOf_20_4  x1 x2 x3 h X s) (K := fun e => ke_X7_rankOf_20_4  x1 x2 x3 h X e) (fun s q hb Ks Ke => wb_X7_rankOf_20_4 C   x1 x2 x3 s.1 s.2 h q hb Ks Ke) FU ((0 : Int32), (x3 + (1 : Int32))) e14 q15 ?_
    show G X h 0 0 72 [(0, .ref 68), (1, .int x1), (2, .int x2), (3, .int x3), (4, .int e14)] []
    refine g_iload_n C (dat dt_X7_rankOf 40 rfl) 2 rfl ?_
    refine g_aload_n C (dat dt_X7_rankOf 41 rfl) 0 rfl ?_
    refine g_getI C (dat dt_X7_rankOf 42 rfl) fl_7_104 kd_68 rfl ltk_68 ?_
    refine g_iload_n C (dat dt_X7_rankOf 43 rfl) 3 rfl ?_
    refine g_isub C (dat dt_X7_rankOf 44 rfl) ?_
    refine g_imul C (dat dt_X7_rankOf 45 rfl) ?_
    refine g_iload C (dat dt_X7_rankOf 46 rfl) 4 rfl ?_
    refine g_iadd C (dat dt_X7_rankOf 47 rfl) ?_
    refine g_istore_n (lv' := [(0, .ref 68), (1, .int x1), (2, .int ((x2 * ((fI h 68 9) - x3)) + e14)), (3, .int x3), (4, .int e14)]) C (dat dt_X7_rankOf 48 rfl) (by decide) rfl ?_
    refine g_iinc (v := (x3 + (1 : Int32))) (lv' := [(0, .ref 68), (1, .int x1), (2, .int ((x2 * ((fI h 68 9) - x3)) + e14)), (3, .int (x3 + (1 : Int32))), (4, .int e14)]) C (dat dt_X7_rankOf 49 rfl) 3 rfl (congrArg (fun z => x3 + z) ic_1) (by decide) rfl ?_
    refine g_goto 4 C (dat dt_X7_rankOf 50 rfl) (by decide) ?_
    refine g_sub [0, 1, 2, 3] (lv' := [(0, .ref 68), (1, .int x1), (2, .int ((x2 * ((fI h 68 9) - x3)) + e14)), (3, .int (x3 + (1 : Int32)))]) rfl ?_
    cases hrun
    exact Ks (((x2 * ((fI h 68 9) - x3)) + e14), (x3 + (1 : Int32))) rfl
def f_X7_rankOf (x1 : Int32) (h : Hp) : Option Int32 :=
  (lp (fun s => b_X7_rankOf_4  x1 s.1 s.2 h) FU ((0 : Int32), (0 : Int32))).bind fun e16 =>
  some e16
set_option maxRecDepth 20000 in
theorem w_X7_rankOf (x1 : Int32) (h : Hp) (q : Int32)  (hrun : f_X7_rankOf x1 h = some q) : MetA ⟨"SteamNations$Seatings", "rankOf", "(I)I"⟩ prog_9_method_22_code 6 (some .int) 2 0 0 [.ref 68, .int x1] h (some (.int q)) h := by
  refine metA_of (by decide) (Nat.le_of_ble_eq_true rfl) (fun X C K => ?_)
  have C : Cx X cn_7 prog_9_method_22_code 6 (some .int) 2 0 0 := C
  show G X h 0 0 0 [(0, .ref 68), (1, .int x1)] []
  unfold f_X7_rankOf at hrun
  refine g_iconst C (dat dt_X7_rankOf 0 rfl) ic_0 ?_
  refine g_istore_n (lv' := [(0, .ref 68), (1, .int x1), (2, .int (0 : Int32))]) C (dat dt_X7_rankOf 1 rfl) (by decide) rfl ?_
  refine g_iconst C (dat dt_X7_rankOf 2 rfl) ic_0 ?_
  refine g_istore_n (lv' := [(0, .ref 68), (1, .int x1), (2, .int (0 : Int32)), (3, .int (0 : Int32))]) C (dat dt_X7_rankOf 3 rfl) (by decide) rfl ?_
  obtain ⟨e16, q17, hrun⟩ := bd hrun
  refine lp_ind (P := fun s => kp_X7_rankOf_4  x1 h X s) (K := fun e => ke_X7_rankOf_4  x1 h X e) (fun s q hb Ks Ke => wb_X7_rankOf_4 C   x1 s.1 s.2 h q hb Ks Ke) FU ((0 : Int32), (0 : Int32)) e16 q17 ?_
  show G X h 0 0 90 [(2, .int e16)] []
  refine g_iload_n C (dat dt_X7_rankOf 51 rfl) 0 rfl ?_
  cases hrun
  exact g_iret C K (dat dt_X7_rankOf 52 rfl)
/-! SteamNations$Seatings.reachFrom(II)I -/
def dl_X7_reachFrom : List (Nat × Instr × Nat) := [(0, .iload_n 2, 1), (1, .istore_n 3, 1), (2, .iconst 0, 1), (3, .istore 4, 2), (5, .iload 4, 2), (7, .aload_n 0, 1), (8, .getfield 104, 3), (11, .if_icmp .ge 139, 3), (14, .iload 4, 2), (16, .iconst 1, 1), (17, .iadd, 1), (18, .istore 5, 2), (20, .iload 5, 2), (22, .aload_n 0, 1), (23, .getfield 104, 3), (26, .if_icmp .ge 118, 3), (29, .aload_n 0, 1), (30, .aload_n 0, 1), (31, .getfield 18, 3), (34, .iload_n 1, 1), (35, .iaload, 1), (36, .aload_n 0, 1), (37, .getfield 31, 3), (40, .iload 4, 2), (42, .iaload, 1), (43, .aload_n 0, 1), (44, .getfield 31, 3), (47, .iload 5, 2), (49, .iaload, 1), (50, .invokevirtual 107, 3), (53, .ifCond .eq 85, 3), (56, .aload_n 0, 1), (57, .aload_n 0, 1), (58, .getfield 18, 3), (61, .iload_n 1, 1), (62, .iaload, 1), (63, .aload_n 0, 1), (64, .getfield 31, 3), (67, .iload 4, 2), (69, .iaload, 1), (70, .aload_n 0, 1), (71, .getfield 31, 3), (74, .iload 5, 2), (76, .iaload, 1), (77, .invokestatic 111, 3), (80, .invokevirtual 168, 3), (83, .istore 6, 2), (85, .aload_n 0, 1), (86, .iload 6, 2), (88, .invokevirtual 63, 3), (91, .ifCond .eq 47, 3), (94, .aload_n 0, 1), (95, .getfield 25, 3), (98, .iload 6, 2), (100, .iaload, 1), (101, .iconst (-1), 1), (102, .if_icmp .ne 36, 3), (105, .iload_n 3, 1), (106, .sipush 720, 3), (109, .if_icmp .ge 29, 3), (112, .aload_n 0, 1), (113, .getfield 25, 3), (116, .iload 6, 2), (118, .aload_n 0, 1), (119, .getfield 25, 3), (122, .iload_n 1, 1), (123, .iaload, 1), (124, .iconst 1, 1), (125, .iadd, 1), (126, .iastore, 1), (127, .aload_n 0, 1), (128, .getfield 28, 3), (131, .iload_n 3, 1), (132, .iload 6, 2), (134, .iastore, 1), (135, .iinc 3 1, 3), (138, .iinc 5 1, 3), (141, .goto (-121), 3), (144, .iinc 4 1, 3), (147, .goto (-142), 3), (150, .iload_n 3, 1), (151, .ireturn, 1)]
set_option maxRecDepth 20000 in
theorem dt_X7_reachFrom : ∀ q ∈ dl_X7_reachFrom, decode prog_9_method_18_code q.1 = .ok q.2 := by decide +kernel
def kp_X7_reachFrom_5  (x1 : Int32) (X : Xt) (s : (Int32 × Int32 × Hp)) : Prop := G X s.2.2 0 0 5 [(0, .ref 68), (1, .int x1), (3, .int s.1), (4, .int s.2.1)] []
def ke_X7_reachFrom_5  (x1 : Int32) (X : Xt) (e : (Int32 × Hp)) : Prop := G X e.2 0 0 150 [(3, .int e.1)] []
def kp_X7_reachFrom_20_5  (x1 : Int32) (x4 : Int32) (X : Xt) (s : (Int32 × Int32 × Hp)) : Prop := G X s.2.2 0 0 20 [(0, .ref 68), (1, .int x1), (3, .int s.1), (4, .int x4), (5, .int s.2.1)] []
def ke_X7_reachFrom_20_5  (x1 : Int32) (x4 : Int32) (X : Xt) (e : (Int32 × Hp)) : Prop := G X e.2 0 0 144 [(0, .ref 68), (1, .int x1), (3, .int e.1), (4, .int x4)] []
def b_X7_reachFrom_20_5  (x1 : Int32) (x4 : Int32) (x3 : Int32) (x5 : Int32) (h : Hp) : Option ((Int32 × Int32 × Hp) ⊕ (Int32 × Hp)) :=
  if (fI h 68 9) ≤ x5 then
  some (.inr ( (x3, h)))
  else
  (inb x1 720).bind fun j3 =>
  (inb x4 6).bind fun j5 =>
  (inb x5 6).bind fun j7 =>
  (f_X7_canExchange (aI h 74 j3) (aI h 78 j5) (aI h 78 j7)).bind fun v9 =>
  if v9 = true then
  (inb x1 720).bind fun j12 =>
  (inb x4 6).bind fun j14 =>
  (inb x5 6).bind fun j16 =>
  (f_X7_exchanged (aI h 74 j12) (aI h 78 j14) (aI h 78 j16)).bind fun v18 =>
  (f_X7_rankOf v18 h).bind fun v20 =>
  (f_X7_isSeating v20 h).bind fun v22 =>
  if v22 = true then
  (inb v20 720).bind fun j25 =>
  if (aI h 76 j25) = (-1 : Int32) then
  if (720 : Int32) ≤ x3 then
  some (.inl (x3, (x5 + (1 : Int32)), h))
  else
  (inb x1 720).bind fun j29 =>
  (inb v20 720).bind fun j31 =>
  (inb x3 720).bind fun j33 =>
  some (.inl ((x3 + (1 : Int32)), (x5 + (1 : Int32)), (sA (sA h 76 j31 ((aI h 76 j29) + (1 : Int32))) 77 j33 v20)))
  else
  some (.inl (x3, (x5 + (1 : Int32)), h))
  else
  some (.inl (x3, (x5 + (1 : Int32)), h))
  else
  some (.inl (x3, (x5 + (1 : Int32)), h))
set_option maxRecDepth 20000 in
theorem wb_X7_reachFrom_20_5 {X : Xt} (C : Cx X cn_7 prog_9_method_18_code 7 (some .int) 4 0 0)   (x1 : Int32) (x4 : Int32) (x3 : Int32) (x5 : Int32) (h : Hp) (q : (Int32 × Int32 × Hp) ⊕ (Int32 × Hp)) (hrun : b_X7_reachFrom_20_5  x1 x4 x3 x5 h = some q) (Ks : ∀ s, q = .inl s → kp_X7_reachFrom_20_5  x1 x4 X s) (Ke : ∀ e, q = .inr e → ke_X7_reachFrom_20_5  x1 x4 X e) : kp_X7_reachFrom_20_5  x1 x4 X (x3, x5, h) := by
  show G X h 0 0 20 [(0, .ref 68), (1, .int x1), (3, .int x3), (4, .int x4), (5, .int x5)] []
  unfold b_X7_reachFrom_20_5 at hrun
  refine g_iload C (dat dt_X7_reachFrom 12 rfl) 4 rfl ?_
  refine g_aload_n C (dat dt_X7_reachFrom 13 rfl) 0 rfl ?_
  refine g_getI C (dat dt_X7_reachFrom 14 rfl) fl_7_104 kd_68 rfl ltk_68 ?_
  refine g_ic_ge 144 C (dat dt_X7_reachFrom 15 rfl) (by decide) (fun c2 => ?_) (fun c2 => ?_)
  · rw [if_pos c2] at hrun
    refine g_sub [0, 1, 2, 3] (lv' := [(0, .ref 68), (1, .int x1), (3, .int x3), (4, .int x4)]) rfl ?_
    cases hrun
    exact Ke ( (x3, h)) rfl
  · rw [if_neg c2] at hrun
    refine g_aload_n C (dat dt_X7_reachFrom 16 rfl) 0 rfl ?_
    refine g_aload_n C (dat dt_X7_reachFrom 17 rfl) 0 rfl ?_
    refine g_getR C (dat dt_X7_reachFrom 18 rfl) fl_7_18 kd_68 rfl ltk_68 ?_
    refine g_iload_n C (dat dt_X7_reachFrom 19 rfl) 1 rfl ?_
    obtain ⟨j3, q4, hrun⟩ := bd hrun
    refine g_iald C (dat dt_X7_reachFrom 20 rfl) kd_74 ltk_74 q4 ?_
    refine g_aload_n C (dat dt_X7_reachFrom 21 rfl) 0 rfl ?_
    refine g_getR C (dat dt_X7_reachFrom 22 rfl) fl_7_31 kd_68 rfl ltk_68 ?_
    refine g_iload C (dat dt_X7_reachFrom 23 rfl) 3 rfl ?_
    obtain ⟨j5, q6, hrun⟩ := bd hrun
    refine g_iald C (dat dt_X7_reachFrom 24 rfl) kd_78 ltk_78 q6 ?_
    refine g_aload_n C (dat dt_X7_reachFrom 25 rfl) 0 rfl ?_
    refine g_getR C (dat dt_X7_reachFrom 26 rfl) fl_7_31 kd_68 rfl ltk_68 ?_
    refine g_iload C (dat dt_X7_reachFrom 27 rfl) 4 rfl ?_
    obtain ⟨j7, q8, hrun⟩ := bd hrun
    refine g_iald C (dat dt_X7_reachFrom 28 rfl) kd_78 ltk_78 q8 ?_
    obtain ⟨v9, q10, hrun⟩ := bd hrun
    refine g_cVi [.int (aI h 74 j3), .int (aI h 78 j5), .int (aI h 78 j7)] C (dat dt_X7_reachFrom 29 rfl) ml_7_107 (w_X7_canExchange (aI h 74 j3) (aI h 78 j5) (aI h 78 j7) h v9  q10) kd_68 ltk_68 rfl rfl cat0 (by decide) c00 ?_
    refine g_if_eq 138 C (dat dt_X7_reachFrom 30 rfl) (by decide) (fun c11 => ?_) (fun c11 => ?_)
    · rw [if_neg (b2i_z c11)] at hrun
      refine g_iinc (v := (x5 + (1 : Int32))) (lv' := [(0, .ref 68), (1, .int x1), (3, .int x3), (4, .int x4), (5, .int (x5 + (1 : Int32)))]) C (dat dt_X7_reachFrom 76 rfl) 4 rfl (congrArg (fun z => x5 + z) ic_1) (by decide) rfl ?_
      refine g_goto 20 C (dat dt_X7_reachFrom 77 rfl) (by decide) ?_
      cases hrun
      exact Ks (x3, (x5 + (1 : Int32)), h) rfl
    · rw [if_pos (b2i_nz c11)] at hrun
      refine g_aload_n C (dat dt_X7_reachFrom 31 rfl) 0 rfl ?_
      refine g_aload_n C (dat dt_X7_reachFrom 32 rfl) 0 rfl ?_
      refine g_getR C (dat dt_X7_reachFrom 33 rfl) fl_7_18 kd_68 rfl ltk_68 ?_
      refine g_iload_n C (dat dt_X7_reachFrom 34 rfl) 1 rfl ?_
      obtain ⟨j12, q13, hrun⟩ := bd hrun
      refine g_iald C (dat dt_X7_reachFrom 35 rfl) kd_74 ltk_74 q13 ?_
      refine g_aload_n C (dat dt_X7_reachFrom 36 rfl) 0 rfl ?_
      refine g_getR C (dat dt_X7_reachFrom 37 rfl) fl_7_31 kd_68 rfl ltk_68 ?_
      refine g_iload C (dat dt_X7_reachFrom 38 rfl) 3 rfl ?_
      obtain ⟨j14, q15, hrun⟩ := bd hrun
      refine g_iald C (dat dt_X7_reachFrom 39 rfl) kd_78 ltk_78 q15 ?_
      refine g_aload_n C (dat dt_X7_reachFrom 40 rfl) 0 rfl ?_
      refine g_getR C (dat dt_X7_reachFrom 41 rfl) fl_7_31 kd_68 rfl ltk_68 ?_
      refine g_iload C (dat dt_X7_reachFrom 42 rfl) 4 rfl ?_
      obtain ⟨j16, q17, hrun⟩ := bd hrun
      refine g_iald C (dat dt_X7_reachFrom 43 rfl) kd_78 ltk_78 q17 ?_
      obtain ⟨v18, q19, hrun⟩ := bd hrun
      refine g_cSi [.int (aI h 74 j12), .int (aI h 78 j14), .int (aI h 78 j16)] C (dat dt_X7_reachFrom 44 rfl) ml_7_111 (w_X7_exchanged (aI h 74 j12) (aI h 78 j14) (aI h 78 j16) h v18  q19) rfl rfl (Nat.le_of_ble_eq_true rfl) (by decide) c00 ?_
      obtain ⟨v20, q21, hrun⟩ := bd hrun
      refine g_cVi [.int v18] C (dat dt_X7_reachFrom 45 rfl) ml_7_168 (w_X7_rankOf v18 h v20  q21) kd_68 ltk_68 rfl rfl cat0 (by decide) c00 ?_
      refine g_istore (lv' := [(0, .ref 68), (1, .int x1), (3, .int x3), (4, .int x4), (5, .int x5), (6, .int v20)]) C (dat dt_X7_reachFrom 46 rfl) (by decide) rfl ?_
      refine g_aload_n C (dat dt_X7_reachFrom 47 rfl) 0 rfl ?_
      refine g_iload C (dat dt_X7_reachFrom 48 rfl) 5 rfl ?_
      obtain ⟨v22, q23, hrun⟩ := bd hrun
      refine g_cVi [.int v20] C (dat dt_X7_reachFrom 49 rfl) ml_7_63 (w_X7_isSeating v20 h v22  q23) kd_68 ltk_68 rfl rfl cat0 (by decide) c00 ?_
      refine g_if_eq 138 C (dat dt_X7_reachFrom 50 rfl) (by decide) (fun c24 => ?_) (fun c24 => ?_)
      · rw [if_neg (b2i_z c24)] at hrun
        refine g_iinc (v := (x5 + (1 : Int32))) (lv' := [(0, .ref 68), (1, .int x1), (3, .int x3), (4, .int x4), (5, .int (x5 + (1 : Int32))), (6, .int v20)]) C (dat dt_X7_reachFrom 76 rfl) 4 rfl (congrArg (fun z => x5 + z) ic_1) (by decide) rfl ?_
        refine g_goto 20 C (dat dt_X7_reachFrom 77 rfl) (by decide) ?_
        refine g_sub [0, 1, 2, 3, 4] (lv' := [(0, .ref 68), (1, .int x1), (3, .int x3), (4, .int x4), (5, .int (x5 + (1 : Int32)))]) rfl ?_
        cases hrun
        exact Ks (x3, (x5 + (1 : Int32)), h) rfl
      · rw [if_pos (b2i_nz c24)] at hrun
        refine g_aload_n C (dat dt_X7_reachFrom 51 rfl) 0 rfl ?_
        refine g_getR C (dat dt_X7_reachFrom 52 rfl) fl_7_25 kd_68 rfl ltk_68 ?_
        refine g_iload C (dat dt_X7_reachFrom 53 rfl) 5 rfl ?_
        obtain ⟨j25, q26, hrun⟩ := bd hrun
        refine g_iald C (dat dt_X7_reachFrom 54 rfl) kd_76 ltk_76 q26 ?_
        refine g_iconst C (dat dt_X7_reachFrom 55 rfl) ic_m1 ?_
        refine g_ic_ne 138 C (dat dt_X7_reachFrom 56 rfl) (by decide) (fun c27 => ?_) (fun c27 => ?_)
        · rw [if_neg c27] at hrun
          refine g_iinc (v := (x5 + (1 : Int32))) (lv' := [(0, .ref 68), (1, .int x1), (3, .int x3), (4, .int x4), (5, .int (x5 + (1 : Int32))), (6, .int v20)]) C (dat dt_X7_reachFrom 76 rfl) 4 rfl (congrArg (fun z => x5 + z) ic_1) (by decide) rfl ?_
          refine g_goto 20 C (dat dt_X7_reachFrom 77 rfl) (by decide) ?_
          refine g_sub [0, 1, 2, 3, 4] (lv' := [(0, .ref 68), (1, .int x1), (3, .int x3), (4, .int x4), (5, .int (x5 + (1 : Int32)))]) rfl ?_
          cases hrun
          exact Ks (x3, (x5 + (1 : Int32)), h) rfl
        · rw [if_pos c27] at hrun
          refine g_iload_n C (dat dt_X7_reachFrom 57 rfl) 2 rfl ?_
          refine g_sipush C (dat dt_X7_reachFrom 58 rfl) sp_720 ?_
          refine g_ic_ge 138 C (dat dt_X7_reachFrom 59 rfl) (by decide) (fun c28 => ?_) (fun c28 => ?_)
          · rw [if_pos c28] at hrun
            refine g_iinc (v := (x5 + (1 : Int32))) (lv' := [(0, .ref 68), (1, .int x1), (3, .int x3), (4, .int x4), (5, .int (x5 + (1 : Int32))), (6, .int v20)]) C (dat dt_X7_reachFrom 76 rfl) 4 rfl (congrArg (fun z => x5 + z) ic_1) (by decide) rfl ?_
            refine g_goto 20 C (dat dt_X7_reachFrom 77 rfl) (by decide) ?_
            refine g_sub [0, 1, 2, 3, 4] (lv' := [(0, .ref 68), (1, .int x1), (3, .int x3), (4, .int x4), (5, .int (x5 + (1 : Int32)))]) rfl ?_
            cases hrun
            exact Ks (x3, (x5 + (1 : Int32)), h) rfl
          · rw [if_neg c28] at hrun
            refine g_aload_n C (dat dt_X7_reachFrom 60 rfl) 0 rfl ?_
            refine g_getR C (dat dt_X7_reachFrom 61 rfl) fl_7_25 kd_68 rfl ltk_68 ?_
            refine g_iload C (dat dt_X7_reachFrom 62 rfl) 5 rfl ?_
            refine g_aload_n C (dat dt_X7_reachFrom 63 rfl) 0 rfl ?_
            refine g_getR C (dat dt_X7_reachFrom 64 rfl) fl_7_25 kd_68 rfl ltk_68 ?_
            refine g_iload_n C (dat dt_X7_reachFrom 65 rfl) 1 rfl ?_
            obtain ⟨j29, q30, hrun⟩ := bd hrun
            refine g_iald C (dat dt_X7_reachFrom 66 rfl) kd_76 ltk_76 q30 ?_
            refine g_iconst C (dat dt_X7_reachFrom 67 rfl) ic_1 ?_
            refine g_iadd C (dat dt_X7_reachFrom 68 rfl) ?_
            obtain ⟨j31, q32, hrun⟩ := bd hrun
            refine g_iast (j := j31) C (dat dt_X7_reachFrom 69 rfl) kd_76 ltk_76 q32  ?_
            refine g_aload_n C (dat dt_X7_reachFrom 70 rfl) 0 rfl ?_
            refine g_getR C (dat dt_X7_reachFrom 71 rfl) fl_7_28 kd_68 rfl ltk_68 ?_
            refine g_iload_n C (dat dt_X7_reachFrom 72 rfl) 2 rfl ?_
            refine g_iload C (dat dt_X7_reachFrom 73 rfl) 5 rfl ?_
            obtain ⟨j33, q34, hrun⟩ := bd hrun
            refine g_iast (j := j33) C (dat dt_X7_reachFrom 74 rfl) kd_77 ltk_77 q34  ?_
            refine g_iinc (v := (x3 + (1 : Int32))) (lv' := [(0, .ref 68), (1, .int x1), (3, .int (x3 + (1 : Int32))), (4, .int x4), (5, .int x5), (6, .int v20)]) C (dat dt_X7_reachFrom 75 rfl) 2 rfl (congrArg (fun z => x3 + z) ic_1) (by decide) rfl ?_
            refine g_iinc (v := (x5 + (1 : Int32))) (lv' := [(0, .ref 68), (1, .int x1), (3, .int (x3 + (1 : Int32))), (4, .int x4), (5, .int (x5 + (1 : Int32))), (6, .int v20)]) C (dat dt_X7_reachFrom 76 rfl) 4 rfl (congrArg (fun z => x5 + z) ic_1) (by decide) rfl ?_
            refine g_goto 20 C (dat dt_X7_reachFrom 77 rfl) (by decide) ?_
            refine g_sub [0, 1, 2, 3, 4] (lv' := [(0, .ref 68), (1, .int x1), (3, .int (x3 + (1 : Int32))), (4, .int x4), (5, .int (x5 + (1 : Int32)))]) rfl ?_
            cases hrun
            exact Ks ((x3 + (1 : Int32)), (x5 + (1 : Int32)), (sA (sA h 76 j31 ((aI h 76 j29) + (1 : Int32))) 77 j33 v20)) rfl
def b_X7_reachFrom_5  (x1 : Int32) (x3 : Int32) (x4 : Int32) (h : Hp) : Option ((Int32 × Int32 × Hp) ⊕ (Int32 × Hp)) :=
  if (fI h 68 9) ≤ x4 then
  some (.inr ( (x3, h)))
  else
  (lp (fun s => b_X7_reachFrom_20_5  x1 x4 s.1 s.2.1 s.2.2) FU (x3, (x4 + (1 : Int32)), h)).bind fun e35 =>
  some (.inl (e35.1, (x4 + (1 : Int32)), e35.2))
set_option maxRecDepth 20000 in
theorem wb_X7_reachFrom_5 {X : Xt} (C : Cx X cn_7 prog_9_method_18_code 7 (some .int) 4 0 0)   (x1 : Int32) (x3 : Int32) (x4 : Int32) (h : Hp) (q : (Int32 × Int32 × Hp) ⊕ (Int32 × Hp)) (hrun : b_X7_reachFrom_5  x1 x3 x4 h = some q) (Ks : ∀ s, q = .inl s → kp_X7_reachFrom_5  x1 X s) (Ke : ∀ e, q = .inr e → ke_X7_reachFrom_5  x1 X e) : kp_X7_reachFrom_5  x1 X (x3, x4, h) := by
  show G X h 0 0 5 [(0, .ref 68), (1, .int x1), (3, .int x3), (4, .int x4)] []
  unfold b_X7_reachFrom_5 at hrun
  refine g_iload C (dat dt_X7_reachFrom 4 rfl) 3 rfl ?_
  refine g_aload_n C (dat dt_X7_reachFrom 5 rfl) 0 rfl ?_
  refine g_getI C (dat dt_X7_reachFrom 6 rfl) fl_7_104 kd_68 rfl ltk_68 ?_
  refine g_ic_ge 150 C (dat dt_X7_reachFrom 7 rfl) (by decide) (fun c1 => ?_) (fun c1 => ?_)
  · rw [if_pos c1] at hrun
    refine g_sub [2] (lv' := [(3, .int x3)]) rfl ?_
    cases hrun
    exact Ke ( (x3, h)) rfl
  · rw [if_neg c1] at hrun
    refine g_iload C (dat dt_X7_reachFrom 8 rfl) 3 rfl ?_
    refine g_iconst C (dat dt_X7_reachFrom 9 rfl) ic_1 ?_
    refine g_iadd C (dat dt_X7_reachFrom 10 rfl) ?_
    refine g_istore (lv' := [(0, .ref 68), (1, .int x1), (3, .int x3), (4, .int x4), (5, .int (x4 + (1 : Int32)))]) C (dat dt_X7_reachFrom 11 rfl) (by decide) rfl ?_
    obtain ⟨e35, q36, hrun⟩ := bd hrun
    refine lp_ind (P := fun s => kp_X7_reachFrom_20_5  x1 x4 X s) (K := fun e => ke_X7_reachFrom_20_5  x1 x4 X e) (fun s q hb Ks Ke => wb_X7_reachFrom_20_5 C   x1 x4 s.1 s.2.1 s.2.2 q hb Ks Ke) FU (x3, (x4 + (1 : Int32)), h) e35 q36 ?_
    show G X e35.2 0 0 144 [(0, .ref 68), (1, .int x1), (3, .int e35.1), (4, .int x4)] []
    refine g_iinc (v := (x4 + (1 : Int32))) (lv' := [(0, .ref 68), (1, .int x1), (3, .int e35.1), (4, .int (x4 + (1 : Int32)))]) C (dat dt_X7_reachFrom 78 rfl) 3 rfl (congrArg (fun z => x4 + z) ic_1) (by decide) rfl ?_
    refine g_goto 5 C (dat dt_X7_reachFrom 79 rfl) (by decide) ?_
    cases hrun
    exact Ks (e35.1, (x4 + (1 : Int32)), e35.2) rfl
def f_X7_reachFrom (x1 : Int32) (x2 : Int32) (h : Hp) : Option (Int32 × Hp) :=
  (lp (fun s => b_X7_reachFrom_5  x1 s.1 s.2.1 s.2.2) FU (x2, (0 : Int32), h)).bind fun e37 =>
  some (e37.1, e37.2)
set_option maxRecDepth 20000 in
theorem w_X7_reachFrom (x1 : Int32) (x2 : Int32) (h : Hp) (q : (Int32 × Hp))  (hrun : f_X7_reachFrom x1 x2 h = some q) : MetA ⟨"SteamNations$Seatings", "reachFrom", "(II)I"⟩ prog_9_method_18_code 7 (some .int) 4 0 0 [.ref 68, .int x1, .int x2] h (some (.int q.1)) q.2 := by
  refine metA_of (by decide) (Nat.le_of_ble_eq_true rfl) (fun X C K => ?_)
  have C : Cx X cn_7 prog_9_method_18_code 7 (some .int) 4 0 0 := C
  show G X h 0 0 0 [(0, .ref 68), (1, .int x1), (2, .int x2)] []
  unfold f_X7_reachFrom at hrun
  refine g_iload_n C (dat dt_X7_reachFrom 0 rfl) 2 rfl ?_
  refine g_istore_n (lv' := [(0, .ref 68), (1, .int x1), (2, .int x2), (3, .int x2)]) C (dat dt_X7_reachFrom 1 rfl) (by decide) rfl ?_
  refine g_iconst C (dat dt_X7_reachFrom 2 rfl) ic_0 ?_
  refine g_istore (lv' := [(0, .ref 68), (1, .int x1), (2, .int x2), (3, .int x2), (4, .int (0 : Int32))]) C (dat dt_X7_reachFrom 3 rfl) (by decide) rfl ?_
  refine g_sub [0, 1, 3, 4] (lv' := [(0, .ref 68), (1, .int x1), (3, .int x2), (4, .int (0 : Int32))]) rfl ?_
  obtain ⟨e37, q38, hrun⟩ := bd hrun
  refine lp_ind (P := fun s => kp_X7_reachFrom_5  x1 X s) (K := fun e => ke_X7_reachFrom_5  x1 X e) (fun s q hb Ks Ke => wb_X7_reachFrom_5 C   x1 s.1 s.2.1 s.2.2 q hb Ks Ke) FU (x2, (0 : Int32), h) e37 q38 ?_
  show G X e37.2 0 0 150 [(3, .int e37.1)] []
  refine g_iload_n C (dat dt_X7_reachFrom 80 rfl) 0 rfl ?_
  cases hrun
  exact g_iret C K (dat dt_X7_reachFrom 81 rfl)
/-! SteamNations$Seatings.measure(LSteamNations$Room;I)V -/
def dl_X7_measure : List (Nat × Instr × Nat) := [(0, .aload_n 0, 1), (1, .aload_n 1, 1), (2, .aload_n 0, 1), (3, .aload_n 1, 1), (4, .iload_n 2, 1), (5, .invokevirtual 89, 3), (8, .iload_n 2, 1), (9, .invokevirtual 85, 3), (12, .istore_n 3, 1), (13, .iconst 0, 1), (14, .istore 4, 2), (16, .iconst 0, 1), (17, .istore 5, 2), (19, .iload 5, 2), (21, .aload_n 0, 1), (22, .getfield 48, 3), (25, .if_icmp .ge 49, 3), (28, .aload_n 0, 1), (29, .getfield 25, 3), (32, .iload 5, 2), (34, .iconst (-1), 1), (35, .iastore, 1), (36, .aload_n 0, 1), (37, .aload_n 1, 1), (38, .iload 5, 2), (40, .iload_n 2, 1), (41, .invokevirtual 85, 3), (44, .iload_n 3, 1), (45, .if_icmp .ne 23, 3), (48, .aload_n 0, 1), (49, .getfield 25, 3), (52, .iload 5, 2), (54, .iconst 0, 1), (55, .iastore, 1), (56, .aload_n 0, 1), (57, .getfield 28, 3), (60, .iload 4, 2), (62, .iload 5, 2), (64, .iastore, 1), (65, .iinc 4 1, 3), (68, .iinc 5 1, 3), (71, .goto (-52), 3), (74, .iconst 0, 1), (75, .istore 5, 2), (77, .iload 5, 2), (79, .iload 4, 2), (81, .if_icmp .ge 32, 3), (84, .iload 5, 2), (86, .sipush 720, 3), (89, .if_icmp .ge 24, 3), (92, .aload_n 0, 1), (93, .aload_n 0, 1), (94, .getfield 28, 3), (97, .iload 5, 2), (99, .iaload, 1), (100, .iload 4, 2), (102, .invokevirtual 93, 3), (105, .istore 4, 2), (107, .iinc 5 1, 3), (110, .goto (-33), 3), (113, .return_, 1)]
set_option maxRecDepth 20000 in
theorem dt_X7_measure : ∀ q ∈ dl_X7_measure, decode prog_9_method_7_code q.1 = .ok q.2 := by decide +kernel
def kp_X7_measure_19 (a1 : Nat) (x2 : Int32) (x3 : Int32) (X : Xt) (s : (Int32 × Int32 × Hp)) : Prop := G X s.2.2 0 0 19 [(0, .ref 68), (1, .ref a1), (2, .int x2), (3, .int x3), (4, .int s.1), (5, .int s.2.1)] []
def ke_X7_measure_19 (a1 : Nat) (x2 : Int32) (x3 : Int32) (X : Xt) (e : (Int32 × Hp)) : Prop := G X e.2 0 0 74 [(0, .ref 68), (4, .int e.1)] []
def b_X7_measure_19 (a1 : Nat) (x2 : Int32) (x3 : Int32) (x4 : Int32) (x5 : Int32) (h : Hp) : Option ((Int32 × Int32 × Hp) ⊕ (Int32 × Hp)) :=
  if (fI h 68 10) ≤ x5 then
  some (.inr ( (x4, h)))
  else
  (inb x5 720).bind fun j6 =>
  (f_X7_contentedIn a1 x5 x2 (sA h 76 j6 (-1 : Int32))).bind fun v8 =>
  if v8 = x3 then
  (inb x5 720).bind fun j11 =>
  (inb x4 720).bind fun j13 =>
  some (.inl ((x4 + (1 : Int32)), (x5 + (1 : Int32)), (sA (sA (sA h 76 j6 (-1 : Int32)) 76 j11 (0 : Int32)) 77 j13 x5)))
  else
  some (.inl (x4, (x5 + (1 : Int32)), (sA h 76 j6 (-1 : Int32))))
set_option maxRecDepth 20000 in
theorem wb_X7_measure_19 {X : Xt} (C : Cx X cn_7 prog_9_method_7_code 6 none 5 0 0) (a1 : Nat) (Ha1 : IsRoom a1) (x2 : Int32) (x3 : Int32) (x4 : Int32) (x5 : Int32) (h : Hp) (q : (Int32 × Int32 × Hp) ⊕ (Int32 × Hp)) (hrun : b_X7_measure_19 a1 x2 x3 x4 x5 h = some q) (Ks : ∀ s, q = .inl s → kp_X7_measure_19 a1 x2 x3 X s) (Ke : ∀ e, q = .inr e → ke_X7_measure_19 a1 x2 x3 X e) : kp_X7_measure_19 a1 x2 x3 X (x4, x5, h) := by
  show G X h 0 0 19 [(0, .ref 68), (1, .ref a1), (2, .int x2), (3, .int x3), (4, .int x4), (5, .int x5)] []
  unfold b_X7_measure_19 at hrun
  refine g_iload C (dat dt_X7_measure 13 rfl) 5 rfl ?_
  refine g_aload_n C (dat dt_X7_measure 14 rfl) 0 rfl ?_
  refine g_getI C (dat dt_X7_measure 15 rfl) fl_7_48 kd_68 rfl ltk_68 ?_
  refine g_ic_ge 74 C (dat dt_X7_measure 16 rfl) (by decide) (fun c5 => ?_) (fun c5 => ?_)
  · rw [if_pos c5] at hrun
    refine g_sub [0, 4] (lv' := [(0, .ref 68), (4, .int x4)]) rfl ?_
    cases hrun
    exact Ke ( (x4, h)) rfl
  · rw [if_neg c5] at hrun
    refine g_aload_n C (dat dt_X7_measure 17 rfl) 0 rfl ?_
    refine g_getR C (dat dt_X7_measure 18 rfl) fl_7_25 kd_68 rfl ltk_68 ?_
    refine g_iload C (dat dt_X7_measure 19 rfl) 5 rfl ?_
    refine g_iconst C (dat dt_X7_measure 20 rfl) ic_m1 ?_
    obtain ⟨j6, q7, hrun⟩ := bd hrun
    refine g_iast (j := j6) C (dat dt_X7_measure 21 rfl) kd_76 ltk_76 q7  ?_
    refine g_aload_n C (dat dt_X7_measure 22 rfl) 0 rfl ?_
    refine g_aload_n C (dat dt_X7_measure 23 rfl) 1 rfl ?_
    refine g_iload C (dat dt_X7_measure 24 rfl) 5 rfl ?_
    refine g_iload_n C (dat dt_X7_measure 25 rfl) 2 rfl ?_
    obtain ⟨v8, q9, hrun⟩ := bd hrun
    refine g_cVi [.ref a1, .int x5, .int x2] C (dat dt_X7_measure 26 rfl) ml_7_85 (w_X7_contentedIn a1 x5 x2 (sA h 76 j6 (-1 : Int32)) v8 Ha1 q9) kd_68 ltk_68 rfl rfl cat0 (by decide) c00 ?_
    refine g_iload_n C (dat dt_X7_measure 27 rfl) 3 rfl ?_
    refine g_ic_ne 68 C (dat dt_X7_measure 28 rfl) (by decide) (fun c10 => ?_) (fun c10 => ?_)
    · rw [if_neg c10] at hrun
      refine g_iinc (v := (x5 + (1 : Int32))) (lv' := [(0, .ref 68), (1, .ref a1), (2, .int x2), (3, .int x3), (4, .int x4), (5, .int (x5 + (1 : Int32)))]) C (dat dt_X7_measure 40 rfl) 5 rfl (congrArg (fun z => x5 + z) ic_1) (by decide) rfl ?_
      refine g_goto 19 C (dat dt_X7_measure 41 rfl) (by decide) ?_
      cases hrun
      exact Ks (x4, (x5 + (1 : Int32)), (sA h 76 j6 (-1 : Int32))) rfl
    · rw [if_pos c10] at hrun
      refine g_aload_n C (dat dt_X7_measure 29 rfl) 0 rfl ?_
      refine g_getR C (dat dt_X7_measure 30 rfl) fl_7_25 kd_68 rfl ltk_68 ?_
      refine g_iload C (dat dt_X7_measure 31 rfl) 5 rfl ?_
      refine g_iconst C (dat dt_X7_measure 32 rfl) ic_0 ?_
      obtain ⟨j11, q12, hrun⟩ := bd hrun
      refine g_iast (j := j11) C (dat dt_X7_measure 33 rfl) kd_76 ltk_76 q12  ?_
      refine g_aload_n C (dat dt_X7_measure 34 rfl) 0 rfl ?_
      refine g_getR C (dat dt_X7_measure 35 rfl) fl_7_28 kd_68 rfl ltk_68 ?_
      refine g_iload C (dat dt_X7_measure 36 rfl) 4 rfl ?_
      refine g_iload C (dat dt_X7_measure 37 rfl) 5 rfl ?_
      obtain ⟨j13, q14, hrun⟩ := bd hrun
      refine g_iast (j := j13) C (dat dt_X7_measure 38 rfl) kd_77 ltk_77 q14  ?_
      refine g_iinc (v := (x4 + (1 : Int32))) (lv' := [(0, .ref 68), (1, .ref a1), (2, .int x2), (3, .int x3), (4, .int (x4 + (1 : Int32))), (5, .int x5)]) C (dat dt_X7_measure 39 rfl) 4 rfl (congrArg (fun z => x4 + z) ic_1) (by decide) rfl ?_
      refine g_iinc (v := (x5 + (1 : Int32))) (lv' := [(0, .ref 68), (1, .ref a1), (2, .int x2), (3, .int x3), (4, .int (x4 + (1 : Int32))), (5, .int (x5 + (1 : Int32)))]) C (dat dt_X7_measure 40 rfl) 5 rfl (congrArg (fun z => x5 + z) ic_1) (by decide) rfl ?_
      refine g_goto 19 C (dat dt_X7_measure 41 rfl) (by decide) ?_
      cases hrun
      exact Ks ((x4 + (1 : Int32)), (x5 + (1 : Int32)), (sA (sA (sA h 76 j6 (-1 : Int32)) 76 j11 (0 : Int32)) 77 j13 x5)) rfl
def kp_X7_measure_77 (a1 : Nat)  (X : Xt) (s : (Int32 × Int32 × Hp)) : Prop := G X s.2.2 0 0 77 [(0, .ref 68), (4, .int s.1), (5, .int s.2.1)] []
def ke_X7_measure_77 (a1 : Nat)  (X : Xt) (e : Hp) : Prop := G X e 0 0 113 [] []
def b_X7_measure_77 (a1 : Nat)  (x4 : Int32) (x5 : Int32) (h : Hp) : Option ((Int32 × Int32 × Hp) ⊕ Hp) :=
  if x4 ≤ x5 then
  some (.inr ( h))
  else
  if (720 : Int32) ≤ x5 then
  some (.inr ( h))
  else
  (inb x5 720).bind fun j19 =>
  (f_X7_reachFrom (aI h 77 j19) x4 h).bind fun v21 =>
  some (.inl (v21.1, (x5 + (1 : Int32)), v21.2))
set_option maxRecDepth 20000 in
theorem wb_X7_measure_77 {X : Xt} (C : Cx X cn_7 prog_9_method_7_code 6 none 5 0 0) (a1 : Nat) (Ha1 : IsRoom a1)  (x4 : Int32) (x5 : Int32) (h : Hp) (q : (Int32 × Int32 × Hp) ⊕ Hp) (hrun : b_X7_measure_77 a1  x4 x5 h = some q) (Ks : ∀ s, q = .inl s → kp_X7_measure_77 a1  X s) (Ke : ∀ e, q = .inr e → ke_X7_measure_77 a1  X e) : kp_X7_measure_77 a1  X (x4, x5, h) := by
  show G X h 0 0 77 [(0, .ref 68), (4, .int x4), (5, .int x5)] []
  unfold b_X7_measure_77 at hrun
  refine g_iload C (dat dt_X7_measure 44 rfl) 2 rfl ?_
  refine g_iload C (dat dt_X7_measure 45 rfl) 1 rfl ?_
  refine g_ic_ge 113 C (dat dt_X7_measure 46 rfl) (by decide) (fun c17 => ?_) (fun c17 => ?_)
  · rw [if_pos c17] at hrun
    refine g_sub [] (lv' := []) rfl ?_
    cases hrun
    exact Ke ( h) rfl
  · rw [if_neg c17] at hrun
    refine g_iload C (dat dt_X7_measure 47 rfl) 2 rfl ?_
    refine g_sipush C (dat dt_X7_measure 48 rfl) sp_720 ?_
    refine g_ic_ge 113 C (dat dt_X7_measure 49 rfl) (by decide) (fun c18 => ?_) (fun c18 => ?_)
    · rw [if_pos c18] at hrun
      refine g_sub [] (lv' := []) rfl ?_
      cases hrun
      exact Ke ( h) rfl
    · rw [if_neg c18] at hrun
      refine g_aload_n C (dat dt_X7_measure 50 rfl) 0 rfl ?_
      refine g_aload_n C (dat dt_X7_measure 51 rfl) 0 rfl ?_
      refine g_getR C (dat dt_X7_measure 52 rfl) fl_7_28 kd_68 rfl ltk_68 ?_
      refine g_iload C (dat dt_X7_measure 53 rfl) 2 rfl ?_
      obtain ⟨j19, q20, hrun⟩ := bd hrun
      refine g_iald C (dat dt_X7_measure 54 rfl) kd_77 ltk_77 q20 ?_
      refine g_iload C (dat dt_X7_measure 55 rfl) 1 rfl ?_
      obtain ⟨v21, q22, hrun⟩ := bd hrun
      refine g_cVi [.int (aI h 77 j19), .int x4] C (dat dt_X7_measure 56 rfl) ml_7_93 (w_X7_reachFrom (aI h 77 j19) x4 h v21  q22) kd_68 ltk_68 rfl rfl cat0 (by decide) c00 ?_
      refine g_istore (lv' := [(0, .ref 68), (4, .int v21.1), (5, .int x5)]) C (dat dt_X7_measure 57 rfl) (by decide) rfl ?_
      refine g_iinc (v := (x5 + (1 : Int32))) (lv' := [(0, .ref 68), (4, .int v21.1), (5, .int (x5 + (1 : Int32)))]) C (dat dt_X7_measure 58 rfl) 2 rfl (congrArg (fun z => x5 + z) ic_1) (by decide) rfl ?_
      refine g_goto 77 C (dat dt_X7_measure 59 rfl) (by decide) ?_
      cases hrun
      exact Ks (v21.1, (x5 + (1 : Int32)), v21.2) rfl
def f_X7_measure (a1 : Nat) (x2 : Int32) (h : Hp) : Option (Unit × Hp) :=
  (f_X7_bestAt a1 x2 h).bind fun v1 =>
  (f_X7_contentedIn a1 v1 x2 h).bind fun v3 =>
  (lp (fun s => b_X7_measure_19 a1 x2 v3 s.1 s.2.1 s.2.2) FU ((0 : Int32), (0 : Int32), h)).bind fun e15 =>
  (lp (fun s => b_X7_measure_77 a1  s.1 s.2.1 s.2.2) FU (e15.1, (0 : Int32), e15.2)).bind fun e23 =>
  some ((), e23)
set_option maxRecDepth 20000 in
theorem w_X7_measure (a1 : Nat) (x2 : Int32) (h : Hp) (q : (Unit × Hp)) (Ha1 : IsRoom a1) (hrun : f_X7_measure a1 x2 h = some q) : MetA ⟨"SteamNations$Seatings", "measure", "(LSteamNations$Room;I)V"⟩ prog_9_method_7_code 6 none 5 0 0 [.ref 68, .ref a1, .int x2] h none q.2 := by
  refine metA_of (by decide) (Nat.le_of_ble_eq_true rfl) (fun X C K => ?_)
  have C : Cx X cn_7 prog_9_method_7_code 6 none 5 0 0 := C
  show G X h 0 0 0 [(0, .ref 68), (1, .ref a1), (2, .int x2)] []
  unfold f_X7_measure at hrun
  refine g_aload_n C (dat dt_X7_measure 0 rfl) 0 rfl ?_
  refine g_aload_n C (dat dt_X7_measure 1 rfl) 1 rfl ?_
  refine g_aload_n C (dat dt_X7_measure 2 rfl) 0 rfl ?_
  refine g_aload_n C (dat dt_X7_measure 3 rfl) 1 rfl ?_
  refine g_iload_n C (dat dt_X7_measure 4 rfl) 2 rfl ?_
  obtain ⟨v1, q2, hrun⟩ := bd hrun
  refine g_cVi [.ref a1, .int x2] C (dat dt_X7_measure 5 rfl) ml_7_89 (w_X7_bestAt a1 x2 h v1 Ha1 q2) kd_68 ltk_68 rfl rfl (Nat.le_of_ble_eq_true rfl) (by decide) c00 ?_
  refine g_iload_n C (dat dt_X7_measure 6 rfl) 2 rfl ?_
  obtain ⟨v3, q4, hrun⟩ := bd hrun
  refine g_cVi [.ref a1, .int v1, .int x2] C (dat dt_X7_measure 7 rfl) ml_7_85 (w_X7_contentedIn a1 v1 x2 h v3 Ha1 q4) kd_68 ltk_68 rfl rfl cat0 (by decide) c00 ?_
  refine g_istore_n (lv' := [(0, .ref 68), (1, .ref a1), (2, .int x2), (3, .int v3)]) C (dat dt_X7_measure 8 rfl) (by decide) rfl ?_
  refine g_iconst C (dat dt_X7_measure 9 rfl) ic_0 ?_
  refine g_istore (lv' := [(0, .ref 68), (1, .ref a1), (2, .int x2), (3, .int v3), (4, .int (0 : Int32))]) C (dat dt_X7_measure 10 rfl) (by decide) rfl ?_
  refine g_iconst C (dat dt_X7_measure 11 rfl) ic_0 ?_
  refine g_istore (lv' := [(0, .ref 68), (1, .ref a1), (2, .int x2), (3, .int v3), (4, .int (0 : Int32)), (5, .int (0 : Int32))]) C (dat dt_X7_measure 12 rfl) (by decide) rfl ?_
  obtain ⟨e15, q16, hrun⟩ := bd hrun
  refine lp_ind (P := fun s => kp_X7_measure_19 a1 x2 v3 X s) (K := fun e => ke_X7_measure_19 a1 x2 v3 X e) (fun s q hb Ks Ke => wb_X7_measure_19 C a1 Ha1 x2 v3 s.1 s.2.1 s.2.2 q hb Ks Ke) FU ((0 : Int32), (0 : Int32), h) e15 q16 ?_
  show G X e15.2 0 0 74 [(0, .ref 68), (4, .int e15.1)] []
  refine g_iconst C (dat dt_X7_measure 42 rfl) ic_0 ?_
  refine g_istore (lv' := [(0, .ref 68), (4, .int e15.1), (5, .int (0 : Int32))]) C (dat dt_X7_measure 43 rfl) (by decide) rfl ?_
  obtain ⟨e23, q24, hrun⟩ := bd hrun
  refine lp_ind (P := fun s => kp_X7_measure_77 a1  X s) (K := fun e => ke_X7_measure_77 a1  X e) (fun s q hb Ks Ke => wb_X7_measure_77 C a1 Ha1  s.1 s.2.1 s.2.2 q hb Ks Ke) FU (e15.1, (0 : Int32), e15.2) e23 q24 ?_
  show G X e23 0 0 113 [] []
  cases hrun
  exact g_vret C K (dat dt_X7_measure 60 rfl)
/-! SteamNations$Seatings.farOf(I)I -/
def dl_X7_farOf : List (Nat × Instr × Nat) := [(0, .aload_n 0, 1), (1, .iload_n 1, 1), (2, .invokevirtual 168, 3), (5, .istore_n 2, 1), (6, .aload_n 0, 1), (7, .iload_n 2, 1), (8, .invokevirtual 63, 3), (11, .ifCond .eq 12, 3), (14, .aload_n 0, 1), (15, .getfield 25, 3), (18, .iload_n 2, 1), (19, .iaload, 1), (20, .goto 4, 3), (23, .iconst (-1), 1), (24, .ireturn, 1)]
set_option maxRecDepth 20000 in
theorem dt_X7_farOf : ∀ q ∈ dl_X7_farOf, decode prog_9_method_21_code q.1 = .ok q.2 := by decide +kernel
def f_X7_farOf (x1 : Int32) (h : Hp) : Option Int32 :=
  (f_X7_rankOf x1 h).bind fun v1 =>
  (f_X7_isSeating v1 h).bind fun v3 =>
  if v3 = true then
  (inb v1 720).bind fun j6 =>
  some (aI h 76 j6)
  else
  some (-1 : Int32)
set_option maxRecDepth 20000 in
theorem w_X7_farOf (x1 : Int32) (h : Hp) (q : Int32)  (hrun : f_X7_farOf x1 h = some q) : MetA ⟨"SteamNations$Seatings", "farOf", "(I)I"⟩ prog_9_method_21_code 3 (some .int) 3 0 0 [.ref 68, .int x1] h (some (.int q)) h := by
  refine metA_of (by decide) (Nat.le_of_ble_eq_true rfl) (fun X C K => ?_)
  have C : Cx X cn_7 prog_9_method_21_code 3 (some .int) 3 0 0 := C
  show G X h 0 0 0 [(0, .ref 68), (1, .int x1)] []
  unfold f_X7_farOf at hrun
  refine g_aload_n C (dat dt_X7_farOf 0 rfl) 0 rfl ?_
  refine g_iload_n C (dat dt_X7_farOf 1 rfl) 1 rfl ?_
  obtain ⟨v1, q2, hrun⟩ := bd hrun
  refine g_cVi [.int x1] C (dat dt_X7_farOf 2 rfl) ml_7_168 (w_X7_rankOf x1 h v1  q2) kd_68 ltk_68 rfl rfl cat0 (by decide) c00 ?_
  refine g_istore_n (lv' := [(0, .ref 68), (1, .int x1), (2, .int v1)]) C (dat dt_X7_farOf 3 rfl) (by decide) rfl ?_
  refine g_aload_n C (dat dt_X7_farOf 4 rfl) 0 rfl ?_
  refine g_iload_n C (dat dt_X7_farOf 5 rfl) 2 rfl ?_
  obtain ⟨v3, q4, hrun⟩ := bd hrun
  refine g_cVi [.int v1] C (dat dt_X7_farOf 6 rfl) ml_7_63 (w_X7_isSeating v1 h v3  q4) kd_68 ltk_68 rfl rfl cat0 (by decide) c00 ?_
  refine g_if_eq 23 C (dat dt_X7_farOf 7 rfl) (by decide) (fun c5 => ?_) (fun c5 => ?_)
  · rw [if_neg (b2i_z c5)] at hrun
    refine g_iconst C (dat dt_X7_farOf 13 rfl) ic_m1 ?_
    cases hrun
    exact g_iret C K (dat dt_X7_farOf 14 rfl)
  · rw [if_pos (b2i_nz c5)] at hrun
    refine g_aload_n C (dat dt_X7_farOf 8 rfl) 0 rfl ?_
    refine g_getR C (dat dt_X7_farOf 9 rfl) fl_7_25 kd_68 rfl ltk_68 ?_
    refine g_iload_n C (dat dt_X7_farOf 10 rfl) 2 rfl ?_
    obtain ⟨j6, q7, hrun⟩ := bd hrun
    refine g_iald C (dat dt_X7_farOf 11 rfl) kd_76 ltk_76 q7 ?_
    refine g_goto 24 C (dat dt_X7_farOf 12 rfl) (by decide) ?_
    cases hrun
    exact g_iret C K (dat dt_X7_farOf 14 rfl)
/-! SteamNations$Seatings.fewestExchanges(LSteamNations$Room;)I -/
def dl_X7_fewestExchanges : List (Nat × Instr × Nat) := [(0, .aload_n 0, 1), (1, .aload_n 1, 1), (2, .invokestatic 96, 3), (5, .invokevirtual 100, 3), (8, .ireturn, 1)]
set_option maxRecDepth 20000 in
theorem dt_X7_fewestExchanges : ∀ q ∈ dl_X7_fewestExchanges, decode prog_9_method_8_code q.1 = .ok q.2 := by decide +kernel
def f_X7_fewestExchanges (a1 : Nat) (h : Hp) : Option Int32 :=
  (f_X7_rowOf a1 h).bind fun v1 =>
  (f_X7_farOf v1 h).bind fun v3 =>
  some v3
set_option maxRecDepth 20000 in
theorem w_X7_fewestExchanges (a1 : Nat) (h : Hp) (q : Int32) (Ha1 : IsRoom a1) (hrun : f_X7_fewestExchanges a1 h = some q) : MetA ⟨"SteamNations$Seatings", "fewestExchanges", "(LSteamNations$Room;)I"⟩ prog_9_method_8_code 2 (some .int) 4 0 0 [.ref 68, .ref a1] h (some (.int q)) h := by
  refine metA_of (by decide) (Nat.le_of_ble_eq_true rfl) (fun X C K => ?_)
  have C : Cx X cn_7 prog_9_method_8_code 2 (some .int) 4 0 0 := C
  show G X h 0 0 0 [(0, .ref 68), (1, .ref a1)] []
  unfold f_X7_fewestExchanges at hrun
  refine g_aload_n C (dat dt_X7_fewestExchanges 0 rfl) 0 rfl ?_
  refine g_aload_n C (dat dt_X7_fewestExchanges 1 rfl) 1 rfl ?_
  obtain ⟨v1, q2, hrun⟩ := bd hrun
  refine g_cSi [.ref a1] C (dat dt_X7_fewestExchanges 2 rfl) ml_7_96 (w_X7_rowOf a1 h v1 Ha1 q2) rfl rfl (Nat.le_of_ble_eq_true rfl) (by decide) c00 ?_
  obtain ⟨v3, q4, hrun⟩ := bd hrun
  refine g_cVi [.int v1] C (dat dt_X7_fewestExchanges 3 rfl) ml_7_100 (w_X7_farOf v1 h v3  q4) kd_68 ltk_68 rfl rfl cat0 (by decide) c00 ?_
  cases hrun
  exact g_iret C K (dat dt_X7_fewestExchanges 4 rfl)
/-! SteamNations$Seatings.firstExchange(LSteamNations$Room;)I -/
def dl_X7_firstExchange : List (Nat × Instr × Nat) := [(0, .aload_n 1, 1), (1, .invokestatic 96, 3), (4, .istore_n 2, 1), (5, .aload_n 0, 1), (6, .iload_n 2, 1), (7, .invokevirtual 100, 3), (10, .istore_n 3, 1), (11, .iload_n 3, 1), (12, .iconst 1, 1), (13, .if_icmp .ge 5, 3), (16, .iconst (-1), 1), (17, .ireturn, 1), (18, .iconst 0, 1), (19, .istore 4, 2), (21, .iload 4, 2), (23, .aload_n 0, 1), (24, .getfield 104, 3), (27, .if_icmp .ge 87, 3), (30, .iload 4, 2), (32, .iconst 1, 1), (33, .iadd, 1), (34, .istore 5, 2), (36, .iload 5, 2), (38, .aload_n 0, 1), (39, .getfield 104, 3), (42, .if_icmp .ge 66, 3), (45, .aload_n 0, 1), (46, .getfield 31, 3), (49, .iload 4, 2), (51, .iaload, 1), (52, .istore 6, 2), (54, .aload_n 0, 1), (55, .getfield 31, 3), (58, .iload 5, 2), (60, .iaload, 1), (61, .istore 7, 2), (63, .aload_n 0, 1), (64, .iload_n 2, 1), (65, .iload 6, 2), (67, .iload 7, 2), (69, .invokevirtual 107, 3), (72, .ifCond .eq 30, 3), (75, .aload_n 0, 1), (76, .iload_n 2, 1), (77, .iload 6, 2), (79, .iload 7, 2), (81, .invokestatic 111, 3), (84, .invokevirtual 100, 3), (87, .iload_n 3, 1), (88, .iconst 1, 1), (89, .isub, 1), (90, .if_icmp .ne 12, 3), (93, .bipush 10, 2), (95, .iload 6, 2), (97, .imul, 1), (98, .iload 7, 2), (100, .iadd, 1), (101, .ireturn, 1), (102, .iinc 5 1, 3), (105, .goto (-69), 3), (108, .iinc 4 1, 3), (111, .goto (-90), 3), (114, .iconst (-1), 1), (115, .ireturn, 1)]
set_option maxRecDepth 20000 in
theorem dt_X7_firstExchange : ∀ q ∈ dl_X7_firstExchange, decode prog_9_method_9_code q.1 = .ok q.2 := by decide +kernel
def kp_X7_firstExchange_21 (a1 : Nat) (x2 : Int32) (x3 : Int32) (h : Hp) (X : Xt) (s : Int32) : Prop := G X h 0 0 21 [(0, .ref 68), (2, .int x2), (3, .int x3), (4, .int s)] []
def ke_X7_firstExchange_21 (a1 : Nat) (x2 : Int32) (x3 : Int32) (h : Hp) (X : Xt) (e : (Unit ⊕ (Int32 × Int32))) : Prop := match e with
  | .inl e => G X h 0 0 114 [] []
  | .inr (e) => G X h 0 0 93 [(6, .int e.1), (7, .int e.2)] []
def kp_X7_firstExchange_36_21 (a1 : Nat) (x2 : Int32) (x3 : Int32) (x4 : Int32) (h : Hp) (X : Xt) (s : Int32) : Prop := G X h 0 0 36 [(0, .ref 68), (2, .int x2), (3, .int x3), (4, .int x4), (5, .int s)] []
def ke_X7_firstExchange_36_21 (a1 : Nat) (x2 : Int32) (x3 : Int32) (x4 : Int32) (h : Hp) (X : Xt) (e : (Unit ⊕ (Int32 × Int32))) : Prop := match e with
  | .inl e => G X h 0 0 108 [(0, .ref 68), (2, .int x2), (3, .int x3), (4, .int x4)] []
  | .inr (e) => G X h 0 0 93 [(6, .int e.1), (7, .int e.2)] []
def b_X7_firstExchange_36_21 (a1 : Nat) (x2 : Int32) (x3 : Int32) (x4 : Int32) (x5 : Int32) (h : Hp) : Option (Int32 ⊕ (Unit ⊕ (Int32 × Int32))) :=
  if (fI h 68 9) ≤ x5 then
  some (.inr (.inl ()))
  else
  (inb x4 6).bind fun j8 =>
  (inb x5 6).bind fun j10 =>
  (f_X7_canExchange x2 (aI h 78 j8) (aI h 78 j10)).bind fun v12 =>
  if v12 = true then
  (f_X7_exchanged x2 (aI h 78 j8) (aI h 78 j10)).bind fun v15 =>
  (f_X7_farOf v15 h).bind fun v17 =>
  if v17 = (x3 - (1 : Int32)) then
  some (.inr (.inr <| id ((aI h 78 j8), (aI h 78 j10))))
  else
  some (.inl (x5 + (1 : Int32)))
  else
  some (.inl (x5 + (1 : Int32)))
set_option maxRecDepth 20000 in
theorem wb_X7_firstExchange_36_21 {X : Xt} (C : Cx X cn_7 prog_9_method_9_code 8 (some .int) 4 0 0) (a1 : Nat) (Ha1 : IsRoom a1) (x2 : Int32) (x3 : Int32) (x4 : Int32) (x5 : Int32) (h : Hp) (q : Int32 ⊕ (Unit ⊕ (Int32 × Int32))) (hrun : b_X7_firstExchange_36_21 a1 x2 x3 x4 x5 h = some q) (Ks : ∀ s, q = .inl s → kp_X7_firstExchange_36_21 a1 x2 x3 x4 h X s) (Ke : ∀ e, q = .inr e → ke_X7_firstExchange_36_21 a1 x2 x3 x4 h X e) : kp_X7_firstExchange_36_21 a1 x2 x3 x4 h X x5 := by
  show G X h 0 0 36 [(0, .ref 68), (2, .int x2), (3, .int x3), (4, .int x4), (5, .int x5)] []
  unfold b_X7_firstExchange_36_21 at hrun
  refine g_iload C (dat dt_X7_firstExchange 22 rfl) 4 rfl ?_
  refine g_aload_n C (dat dt_X7_firstExchange 23 rfl) 0 rfl ?_
  refine g_getI C (dat dt_X7_firstExchange 24 rfl) fl_7_104 kd_68 rfl ltk_68 ?_
  refine g_ic_ge 108 C (dat dt_X7_firstExchange 25 rfl) (by decide) (fun c7 => ?_) (fun c7 => ?_)
  · rw [if_pos c7] at hrun
    refine g_sub [0, 1, 2, 3] (lv' := [(0, .ref 68), (2, .int x2), (3, .int x3), (4, .int x4)]) rfl ?_
    cases hrun
    exact Ke (.inl ()) rfl
  · rw [if_neg c7] at hrun
    refine g_aload_n C (dat dt_X7_firstExchange 26 rfl) 0 rfl ?_
    refine g_getR C (dat dt_X7_firstExchange 27 rfl) fl_7_31 kd_68 rfl ltk_68 ?_
    refine g_iload C (dat dt_X7_firstExchange 28 rfl) 3 rfl ?_
    obtain ⟨j8, q9, hrun⟩ := bd hrun
    refine g_iald C (dat dt_X7_firstExchange 29 rfl) kd_78 ltk_78 q9 ?_
    refine g_istore (lv' := [(0, .ref 68), (2, .int x2), (3, .int x3), (4, .int x4), (5, .int x5), (6, .int (aI h 78 j8))]) C (dat dt_X7_firstExchange 30 rfl) (by decide) rfl ?_
    refine g_aload_n C (dat dt_X7_firstExchange 31 rfl) 0 rfl ?_
    refine g_getR C (dat dt_X7_firstExchange 32 rfl) fl_7_31 kd_68 rfl ltk_68 ?_
    refine g_iload C (dat dt_X7_firstExchange 33 rfl) 4 rfl ?_
    obtain ⟨j10, q11, hrun⟩ := bd hrun
    refine g_iald C (dat dt_X7_firstExchange 34 rfl) kd_78 ltk_78 q11 ?_
    refine g_istore (lv' := [(0, .ref 68), (2, .int x2), (3, .int x3), (4, .int x4), (5, .int x5), (6, .int (aI h 78 j8)), (7, .int (aI h 78 j10))]) C (dat dt_X7_firstExchange 35 rfl) (by decide) rfl ?_
    refine g_aload_n C (dat dt_X7_firstExchange 36 rfl) 0 rfl ?_
    refine g_iload_n C (dat dt_X7_firstExchange 37 rfl) 1 rfl ?_
    refine g_iload C (dat dt_X7_firstExchange 38 rfl) 5 rfl ?_
    refine g_iload C (dat dt_X7_firstExchange 39 rfl) 6 rfl ?_
    obtain ⟨v12, q13, hrun⟩ := bd hrun
    refine g_cVi [.int x2, .int (aI h 78 j8), .int (aI h 78 j10)] C (dat dt_X7_firstExchange 40 rfl) ml_7_107 (w_X7_canExchange x2 (aI h 78 j8) (aI h 78 j10) h v12  q13) kd_68 ltk_68 rfl rfl cat0 (by decide) c00 ?_
    refine g_if_eq 102 C (dat dt_X7_firstExchange 41 rfl) (by decide) (fun c14 => ?_) (fun c14 => ?_)
    · rw [if_neg (b2i_z c14)] at hrun
      refine g_iinc (v := (x5 + (1 : Int32))) (lv' := [(0, .ref 68), (2, .int x2), (3, .int x3), (4, .int x4), (5, .int (x5 + (1 : Int32))), (6, .int (aI h 78 j8)), (7, .int (aI h 78 j10))]) C (dat dt_X7_firstExchange 58 rfl) 4 rfl (congrArg (fun z => x5 + z) ic_1) (by decide) rfl ?_
      refine g_goto 36 C (dat dt_X7_firstExchange 59 rfl) (by decide) ?_
      refine g_sub [0, 1, 2, 3, 4] (lv' := [(0, .ref 68), (2, .int x2), (3, .int x3), (4, .int x4), (5, .int (x5 + (1 : Int32)))]) rfl ?_
      cases hrun
      exact Ks (x5 + (1 : Int32)) rfl
    · rw [if_pos (b2i_nz c14)] at hrun
      refine g_aload_n C (dat dt_X7_firstExchange 42 rfl) 0 rfl ?_
      refine g_iload_n C (dat dt_X7_firstExchange 43 rfl) 1 rfl ?_
      refine g_iload C (dat dt_X7_firstExchange 44 rfl) 5 rfl ?_
      refine g_iload C (dat dt_X7_firstExchange 45 rfl) 6 rfl ?_
      obtain ⟨v15, q16, hrun⟩ := bd hrun
      refine g_cSi [.int x2, .int (aI h 78 j8), .int (aI h 78 j10)] C (dat dt_X7_firstExchange 46 rfl) ml_7_111 (w_X7_exchanged x2 (aI h 78 j8) (aI h 78 j10) h v15  q16) rfl rfl (Nat.le_of_ble_eq_true rfl) (by decide) c00 ?_
      obtain ⟨v17, q18, hrun⟩ := bd hrun
      refine g_cVi [.int v15] C (dat dt_X7_firstExchange 47 rfl) ml_7_100 (w_X7_farOf v15 h v17  q18) kd_68 ltk_68 rfl rfl cat0 (by decide) c00 ?_
      refine g_iload_n C (dat dt_X7_firstExchange 48 rfl) 2 rfl ?_
      refine g_iconst C (dat dt_X7_firstExchange 49 rfl) ic_1 ?_
      refine g_isub C (dat dt_X7_firstExchange 50 rfl) ?_
      refine g_ic_ne 102 C (dat dt_X7_firstExchange 51 rfl) (by decide) (fun c19 => ?_) (fun c19 => ?_)
      · rw [if_neg c19] at hrun
        refine g_iinc (v := (x5 + (1 : Int32))) (lv' := [(0, .ref 68), (2, .int x2), (3, .int x3), (4, .int x4), (5, .int (x5 + (1 : Int32))), (6, .int (aI h 78 j8)), (7, .int (aI h 78 j10))]) C (dat dt_X7_firstExchange 58 rfl) 4 rfl (congrArg (fun z => x5 + z) ic_1) (by decide) rfl ?_
        refine g_goto 36 C (dat dt_X7_firstExchange 59 rfl) (by decide) ?_
        refine g_sub [0, 1, 2, 3, 4] (lv' := [(0, .ref 68), (2, .int x2), (3, .int x3), (4, .int x4), (5, .int (x5 + (1 : Int32)))]) rfl ?_
        cases hrun
        exact Ks (x5 + (1 : Int32)) rfl
      · rw [if_pos c19] at hrun
        refine g_sub [5, 6] (lv' := [(6, .int (aI h 78 j8)), (7, .int (aI h 78 j10))]) rfl ?_
        cases hrun
        exact Ke (.inr <| id ((aI h 78 j8), (aI h 78 j10))) rfl
def b_X7_firstExchange_21 (a1 : Nat) (x2 : Int32) (x3 : Int32) (x4 : Int32) (h : Hp) : Option (Int32 ⊕ (Unit ⊕ (Int32 × Int32))) :=
  if (fI h 68 9) ≤ x4 then
  some (.inr (.inl ()))
  else
  (lp (fun s => b_X7_firstExchange_36_21 a1 x2 x3 x4 s h) FU (x4 + (1 : Int32))).bind fun e20 =>
  sc e20 (fun e22 =>
  some (.inl (x4 + (1 : Int32)))) (fun e23 =>
  some (.inr (.inr <| id (e23.1, e23.2))))
set_option maxRecDepth 20000 in
theorem wb_X7_firstExchange_21 {X : Xt} (C : Cx X cn_7 prog_9_method_9_code 8 (some .int) 4 0 0) (a1 : Nat) (Ha1 : IsRoom a1) (x2 : Int32) (x3 : Int32) (x4 : Int32) (h : Hp) (q : Int32 ⊕ (Unit ⊕ (Int32 × Int32))) (hrun : b_X7_firstExchange_21 a1 x2 x3 x4 h = some q) (Ks : ∀ s, q = .inl s → kp_X7_firstExchange_21 a1 x2 x3 h X s) (Ke : ∀ e, q = .inr e → ke_X7_firstExchange_21 a1 x2 x3 h X e) : kp_X7_firstExchange_21 a1 x2 x3 h X x4 := by
  show G X h 0 0 21 [(0, .ref 68), (2, .int x2), (3, .int x3), (4, .int x4)] []
  unfold b_X7_firstExchange_21 at hrun
  refine g_iload C (dat dt_X7_firstExchange 14 rfl) 3 rfl ?_
  refine g_aload_n C (dat dt_X7_firstExchange 15 rfl) 0 rfl ?_
  refine g_getI C (dat dt_X7_firstExchange 16 rfl) fl_7_104 kd_68 rfl ltk_68 ?_
  refine g_ic_ge 114 C (dat dt_X7_firstExchange 17 rfl) (by decide) (fun c6 => ?_) (fun c6 => ?_)
  · rw [if_pos c6] at hrun
    refine g_sub [] (lv' := []) rfl ?_
    cases hrun
    exact Ke (.inl ()) rfl
  · rw [if_neg c6] at hrun
    refine g_iload C (dat dt_X7_firstExchange 18 rfl) 3 rfl ?_
    refine g_iconst C (dat dt_X7_firstExchange 19 rfl) ic_1 ?_
    refine g_iadd C (dat dt_X7_firstExchange 20 rfl) ?_
    refine g_istore (lv' := [(0, .ref 68), (2, .int x2), (3, .int x3), (4, .int x4), (5, .int (x4 + (1 : Int32)))]) C (dat dt_X7_firstExchange 21 rfl) (by decide) rfl ?_
    obtain ⟨e20, q21, hrun⟩ := bd hrun
    refine lp_ind (P := fun s => kp_X7_firstExchange_36_21 a1 x2 x3 x4 h X s) (K := fun e => ke_X7_firstExchange_36_21 a1 x2 x3 x4 h X e) (fun s q hb Ks Ke => wb_X7_firstExchange_36_21 C a1 Ha1 x2 x3 x4 s h q hb Ks Ke) FU (x4 + (1 : Int32)) e20 q21 ?_
    rcases e20 with e22 | e23
    · rw [sc_l] at hrun
      show G X h 0 0 108 [(0, .ref 68), (2, .int x2), (3, .int x3), (4, .int x4)] []
      refine g_iinc (v := (x4 + (1 : Int32))) (lv' := [(0, .ref 68), (2, .int x2), (3, .int x3), (4, .int (x4 + (1 : Int32)))]) C (dat dt_X7_firstExchange 60 rfl) 3 rfl (congrArg (fun z => x4 + z) ic_1) (by decide) rfl ?_
      refine g_goto 21 C (dat dt_X7_firstExchange 61 rfl) (by decide) ?_
      cases hrun
      exact Ks (x4 + (1 : Int32)) rfl
    · rw [sc_r] at hrun
      show G X h 0 0 93 [(6, .int e23.1), (7, .int e23.2)] []
      cases hrun
      exact Ke (.inr <| id (e23.1, e23.2)) rfl
def f_X7_firstExchange (a1 : Nat) (h : Hp) : Option Int32 :=
  (f_X7_rowOf a1 h).bind fun v1 =>
  (f_X7_farOf v1 h).bind fun v3 =>
  if (1 : Int32) ≤ v3 then
  (lp (fun s => b_X7_firstExchange_21 a1 v1 v3 s h) FU (0 : Int32)).bind fun e24 =>
  sc e24 (fun e26 =>
  some (-1 : Int32)) (fun e27 =>
  some (((10 : Int32) * e27.1) + e27.2))
  else
  some (-1 : Int32)
set_option maxRecDepth 20000 in
theorem w_X7_firstExchange (a1 : Nat) (h : Hp) (q : Int32) (Ha1 : IsRoom a1) (hrun : f_X7_firstExchange a1 h = some q) : MetA ⟨"SteamNations$Seatings", "firstExchange", "(LSteamNations$Room;)I"⟩ prog_9_method_9_code 8 (some .int) 4 0 0 [.ref 68, .ref a1] h (some (.int q)) h := by
  refine metA_of (by decide) (Nat.le_of_ble_eq_true rfl) (fun X C K => ?_)
  have C : Cx X cn_7 prog_9_method_9_code 8 (some .int) 4 0 0 := C
  show G X h 0 0 0 [(0, .ref 68), (1, .ref a1)] []
  unfold f_X7_firstExchange at hrun
  refine g_aload_n C (dat dt_X7_firstExchange 0 rfl) 1 rfl ?_
  obtain ⟨v1, q2, hrun⟩ := bd hrun
  refine g_cSi [.ref a1] C (dat dt_X7_firstExchange 1 rfl) ml_7_96 (w_X7_rowOf a1 h v1 Ha1 q2) rfl rfl cat0 (by decide) c00 ?_
  refine g_istore_n (lv' := [(0, .ref 68), (1, .ref a1), (2, .int v1)]) C (dat dt_X7_firstExchange 2 rfl) (by decide) rfl ?_
  refine g_aload_n C (dat dt_X7_firstExchange 3 rfl) 0 rfl ?_
  refine g_iload_n C (dat dt_X7_firstExchange 4 rfl) 2 rfl ?_
  obtain ⟨v3, q4, hrun⟩ := bd hrun
  refine g_cVi [.int v1] C (dat dt_X7_firstExchange 5 rfl) ml_7_100 (w_X7_farOf v1 h v3  q4) kd_68 ltk_68 rfl rfl cat0 (by decide) c00 ?_
  refine g_istore_n (lv' := [(0, .ref 68), (1, .ref a1), (2, .int v1), (3, .int v3)]) C (dat dt_X7_firstExchange 6 rfl) (by decide) rfl ?_
  refine g_iload_n C (dat dt_X7_firstExchange 7 rfl) 3 rfl ?_
  refine g_iconst C (dat dt_X7_firstExchange 8 rfl) ic_1 ?_
  refine g_ic_ge 18 C (dat dt_X7_firstExchange 9 rfl) (by decide) (fun c5 => ?_) (fun c5 => ?_)
  · rw [if_pos c5] at hrun
    refine g_iconst C (dat dt_X7_firstExchange 12 rfl) ic_0 ?_
    refine g_istore (lv' := [(0, .ref 68), (1, .ref a1), (2, .int v1), (3, .int v3), (4, .int (0 : Int32))]) C (dat dt_X7_firstExchange 13 rfl) (by decide) rfl ?_
    refine g_sub [0, 2, 3, 4] (lv' := [(0, .ref 68), (2, .int v1), (3, .int v3), (4, .int (0 : Int32))]) rfl ?_
    obtain ⟨e24, q25, hrun⟩ := bd hrun
    refine lp_ind (P := fun s => kp_X7_firstExchange_21 a1 v1 v3 h X s) (K := fun e => ke_X7_firstExchange_21 a1 v1 v3 h X e) (fun s q hb Ks Ke => wb_X7_firstExchange_21 C a1 Ha1 v1 v3 s h q hb Ks Ke) FU (0 : Int32) e24 q25 ?_
    rcases e24 with e26 | e27
    · rw [sc_l] at hrun
      show G X h 0 0 114 [] []
      refine g_iconst C (dat dt_X7_firstExchange 62 rfl) ic_m1 ?_
      cases hrun
      exact g_iret C K (dat dt_X7_firstExchange 63 rfl)
    · rw [sc_r] at hrun
      show G X h 0 0 93 [(6, .int e27.1), (7, .int e27.2)] []
      refine g_bipush C (dat dt_X7_firstExchange 52 rfl) bp_10 ?_
      refine g_iload C (dat dt_X7_firstExchange 53 rfl) 0 rfl ?_
      refine g_imul C (dat dt_X7_firstExchange 54 rfl) ?_
      refine g_iload C (dat dt_X7_firstExchange 55 rfl) 1 rfl ?_
      refine g_iadd C (dat dt_X7_firstExchange 56 rfl) ?_
      cases hrun
      exact g_iret C K (dat dt_X7_firstExchange 57 rfl)
  · rw [if_neg c5] at hrun
    refine g_iconst C (dat dt_X7_firstExchange 10 rfl) ic_m1 ?_
    cases hrun
    exact g_iret C K (dat dt_X7_firstExchange 11 rfl)
/-! SteamNations$Seatings.fits(LSteamNations$House;I)Z -/
def dl_X7_fits : List (Nat × Instr × Nat) := [(0, .iconst 0, 1), (1, .istore_n 3, 1), (2, .iload_n 3, 1), (3, .aload_n 1, 1), (4, .getfield 129, 3), (7, .if_icmp .ge 34, 3), (10, .aload_n 0, 1), (11, .iload_n 2, 1), (12, .aload_n 1, 1), (13, .iload_n 3, 1), (14, .invokevirtual 134, 3), (17, .aload_n 1, 1), (18, .iload_n 3, 1), (19, .invokevirtual 137, 3), (22, .invokevirtual 74, 3), (25, .aload_n 1, 1), (26, .iload_n 3, 1), (27, .invokevirtual 140, 3), (30, .if_icmp .eq 5, 3), (33, .iconst 0, 1), (34, .ireturn, 1), (35, .iinc 3 1, 3), (38, .goto (-36), 3), (41, .iconst 1, 1), (42, .ireturn, 1)]
set_option maxRecDepth 20000 in
theorem dt_X7_fits : ∀ q ∈ dl_X7_fits, decode prog_9_method_13_code q.1 = .ok q.2 := by decide +kernel
def kp_X7_fits_2 (a1 : Nat) (x2 : Int32) (h : Hp) (X : Xt) (s : Int32) : Prop := G X h 0 0 2 [(0, .ref 68), (1, .ref a1), (2, .int x2), (3, .int s)] []
def ke_X7_fits_2 (a1 : Nat) (x2 : Int32) (h : Hp) (X : Xt) (e : (Unit ⊕ Unit)) : Prop := match e with
  | .inl e => G X h 0 0 41 [] []
  | .inr (e) => G X h 0 0 33 [] []
def b_X7_fits_2 (a1 : Nat) (x2 : Int32) (x3 : Int32) (h : Hp) : Option (Int32 ⊕ (Unit ⊕ Unit)) :=
  if (fI h a1 6) ≤ x3 then
  some (.inr (.inl ()))
  else
  (f_X1_sightMinutes a1 x3 h).bind fun v2 =>
  (f_X1_sightSitter a1 x3 h).bind fun v4 =>
  (f_X7_nationIn x2 v2 v4 h).bind fun v6 =>
  (f_X1_sightNation a1 x3 h).bind fun v8 =>
  if v6 = v8 then
  some (.inl (x3 + (1 : Int32)))
  else
  some (.inr (.inr <| id ()))
set_option maxRecDepth 20000 in
theorem wb_X7_fits_2 {X : Xt} (C : Cx X cn_7 prog_9_method_13_code 4 (some .boolean) 2 0 0) (a1 : Nat) (Ha1 : IsHouse a1) (x2 : Int32) (x3 : Int32) (h : Hp) (q : Int32 ⊕ (Unit ⊕ Unit)) (hrun : b_X7_fits_2 a1 x2 x3 h = some q) (Ks : ∀ s, q = .inl s → kp_X7_fits_2 a1 x2 h X s) (Ke : ∀ e, q = .inr e → ke_X7_fits_2 a1 x2 h X e) : kp_X7_fits_2 a1 x2 h X x3 := by
  show G X h 0 0 2 [(0, .ref 68), (1, .ref a1), (2, .int x2), (3, .int x3)] []
  unfold b_X7_fits_2 at hrun
  refine g_iload_n C (dat dt_X7_fits 2 rfl) 3 rfl ?_
  refine g_aload_n C (dat dt_X7_fits 3 rfl) 1 rfl ?_
  refine g_getI C (dat dt_X7_fits 4 rfl) fl_7_129 Ha1.1 rfl (hb0 Ha1) ?_
  refine g_ic_ge 41 C (dat dt_X7_fits 5 rfl) (by decide) (fun c1 => ?_) (fun c1 => ?_)
  · rw [if_pos c1] at hrun
    refine g_sub [] (lv' := []) rfl ?_
    cases hrun
    exact Ke (.inl ()) rfl
  · rw [if_neg c1] at hrun
    refine g_aload_n C (dat dt_X7_fits 6 rfl) 0 rfl ?_
    refine g_iload_n C (dat dt_X7_fits 7 rfl) 2 rfl ?_
    refine g_aload_n C (dat dt_X7_fits 8 rfl) 1 rfl ?_
    refine g_iload_n C (dat dt_X7_fits 9 rfl) 3 rfl ?_
    obtain ⟨v2, q3, hrun⟩ := bd hrun
    refine g_cVi [.int x3] C (dat dt_X7_fits 10 rfl) ml_7_134 (w_X1_sightMinutes a1 x3 h v2 Ha1 q3) Ha1.1 (hb0 Ha1) rfl rfl (Nat.le_of_ble_eq_true rfl) (by decide) c00 ?_
    refine g_aload_n C (dat dt_X7_fits 11 rfl) 1 rfl ?_
    refine g_iload_n C (dat dt_X7_fits 12 rfl) 3 rfl ?_
    obtain ⟨v4, q5, hrun⟩ := bd hrun
    refine g_cVi [.int x3] C (dat dt_X7_fits 13 rfl) ml_7_137 (w_X1_sightSitter a1 x3 h v4 Ha1 q5) Ha1.1 (hb0 Ha1) rfl rfl (Nat.le_of_ble_eq_true rfl) (by decide) c00 ?_
    obtain ⟨v6, q7, hrun⟩ := bd hrun
    refine g_cVi [.int x2, .int v2, .int v4] C (dat dt_X7_fits 14 rfl) ml_7_74 (w_X7_nationIn x2 v2 v4 h v6  q7) kd_68 ltk_68 rfl rfl cat0 (by decide) c00 ?_
    refine g_aload_n C (dat dt_X7_fits 15 rfl) 1 rfl ?_
    refine g_iload_n C (dat dt_X7_fits 16 rfl) 3 rfl ?_
    obtain ⟨v8, q9, hrun⟩ := bd hrun
    refine g_cVi [.int x3] C (dat dt_X7_fits 17 rfl) ml_7_140 (w_X1_sightNation a1 x3 h v8 Ha1 q9) Ha1.1 (hb0 Ha1) rfl rfl (Nat.le_of_ble_eq_true rfl) (by decide) c00 ?_
    refine g_ic_eq 35 C (dat dt_X7_fits 18 rfl) (by decide) (fun c10 => ?_) (fun c10 => ?_)
    · rw [if_pos c10] at hrun
      refine g_iinc (v := (x3 + (1 : Int32))) (lv' := [(0, .ref 68), (1, .ref a1), (2, .int x2), (3, .int (x3 + (1 : Int32)))]) C (dat dt_X7_fits 21 rfl) 3 rfl (congrArg (fun z => x3 + z) ic_1) (by decide) rfl ?_
      refine g_goto 2 C (dat dt_X7_fits 22 rfl) (by decide) ?_
      cases hrun
      exact Ks (x3 + (1 : Int32)) rfl
    · rw [if_neg c10] at hrun
      refine g_sub [] (lv' := []) rfl ?_
      cases hrun
      exact Ke (.inr <| id ()) rfl
def f_X7_fits (a1 : Nat) (x2 : Int32) (h : Hp) : Option Bool :=
  (lp (fun s => b_X7_fits_2 a1 x2 s h) FU (0 : Int32)).bind fun e11 =>
  sc e11 (fun e13 =>
  some true) (fun e14 =>
  some false)
set_option maxRecDepth 20000 in
theorem w_X7_fits (a1 : Nat) (x2 : Int32) (h : Hp) (q : Bool) (Ha1 : IsHouse a1) (hrun : f_X7_fits a1 x2 h = some q) : MetA ⟨"SteamNations$Seatings", "fits", "(LSteamNations$House;I)Z"⟩ prog_9_method_13_code 4 (some .boolean) 2 0 0 [.ref 68, .ref a1, .int x2] h (some (.int (b2i q))) h := by
  refine metA_of (by decide) (Nat.le_of_ble_eq_true rfl) (fun X C K => ?_)
  have C : Cx X cn_7 prog_9_method_13_code 4 (some .boolean) 2 0 0 := C
  show G X h 0 0 0 [(0, .ref 68), (1, .ref a1), (2, .int x2)] []
  unfold f_X7_fits at hrun
  refine g_iconst C (dat dt_X7_fits 0 rfl) ic_0 ?_
  refine g_istore_n (lv' := [(0, .ref 68), (1, .ref a1), (2, .int x2), (3, .int (0 : Int32))]) C (dat dt_X7_fits 1 rfl) (by decide) rfl ?_
  obtain ⟨e11, q12, hrun⟩ := bd hrun
  refine lp_ind (P := fun s => kp_X7_fits_2 a1 x2 h X s) (K := fun e => ke_X7_fits_2 a1 x2 h X e) (fun s q hb Ks Ke => wb_X7_fits_2 C a1 Ha1 x2 s h q hb Ks Ke) FU (0 : Int32) e11 q12 ?_
  rcases e11 with e13 | e14
  · rw [sc_l] at hrun
    show G X h 0 0 41 [] []
    refine g_iconst C (dat dt_X7_fits 23 rfl) ic_1 ?_
    cases hrun
    exact g_zret C K (show (1 : Int32) = b2i true by decide) (dat dt_X7_fits 24 rfl)
  · rw [sc_r] at hrun
    show G X h 0 0 33 [] []
    refine g_iconst C (dat dt_X7_fits 19 rfl) ic_0 ?_
    cases hrun
    exact g_zret C K (show (0 : Int32) = b2i false by decide) (dat dt_X7_fits 20 rfl)
/-! SteamNations$Seatings.countSat(LSteamNations$House;)I -/
def dl_X7_countSat : List (Nat × Instr × Nat) := [(0, .iconst 0, 1), (1, .istore_n 2, 1), (2, .iconst 0, 1), (3, .istore_n 3, 1), (4, .iload_n 3, 1), (5, .aload_n 0, 1), (6, .getfield 48, 3), (9, .if_icmp .ge 21, 3), (12, .iload_n 2, 1), (13, .aload_n 0, 1), (14, .aload_n 1, 1), (15, .iload_n 3, 1), (16, .invokevirtual 114, 3), (19, .invokestatic 81, 3), (22, .iadd, 1), (23, .istore_n 2, 1), (24, .iinc 3 1, 3), (27, .goto (-23), 3), (30, .iload_n 2, 1), (31, .ireturn, 1)]
set_option maxRecDepth 20000 in
theorem dt_X7_countSat : ∀ q ∈ dl_X7_countSat, decode prog_9_method_10_code q.1 = .ok q.2 := by decide +kernel
def kp_X7_countSat_4 (a1 : Nat)  (h : Hp) (X : Xt) (s : (Int32 × Int32)) : Prop := G X h 0 0 4 [(0, .ref 68), (1, .ref a1), (2, .int s.1), (3, .int s.2)] []
def ke_X7_countSat_4 (a1 : Nat)  (h : Hp) (X : Xt) (e : Int32) : Prop := G X h 0 0 30 [(2, .int e)] []
def b_X7_countSat_4 (a1 : Nat)  (x2 : Int32) (x3 : Int32) (h : Hp) : Option ((Int32 × Int32) ⊕ Int32) :=
  if (fI h 68 10) ≤ x3 then
  some (.inr ( x2))
  else
  (f_X7_fits a1 x3 h).bind fun v2 =>
  (f_X10_oneIf (b2i v2)).bind fun v4 =>
  some (.inl ((x2 + v4), (x3 + (1 : Int32))))
set_option maxRecDepth 20000 in
theorem wb_X7_countSat_4 {X : Xt} (C : Cx X cn_7 prog_9_method_10_code 4 (some .int) 3 0 0) (a1 : Nat) (Ha1 : IsHouse a1)  (x2 : Int32) (x3 : Int32) (h : Hp) (q : (Int32 × Int32) ⊕ Int32) (hrun : b_X7_countSat_4 a1  x2 x3 h = some q) (Ks : ∀ s, q = .inl s → kp_X7_countSat_4 a1  h X s) (Ke : ∀ e, q = .inr e → ke_X7_countSat_4 a1  h X e) : kp_X7_countSat_4 a1  h X (x2, x3) := by
  show G X h 0 0 4 [(0, .ref 68), (1, .ref a1), (2, .int x2), (3, .int x3)] []
  unfold b_X7_countSat_4 at hrun
  refine g_iload_n C (dat dt_X7_countSat 4 rfl) 3 rfl ?_
  refine g_aload_n C (dat dt_X7_countSat 5 rfl) 0 rfl ?_
  refine g_getI C (dat dt_X7_countSat 6 rfl) fl_7_48 kd_68 rfl ltk_68 ?_
  refine g_ic_ge 30 C (dat dt_X7_countSat 7 rfl) (by decide) (fun c1 => ?_) (fun c1 => ?_)
  · rw [if_pos c1] at hrun
    refine g_sub [2] (lv' := [(2, .int x2)]) rfl ?_
    cases hrun
    exact Ke ( x2) rfl
  · rw [if_neg c1] at hrun
    refine g_iload_n C (dat dt_X7_countSat 8 rfl) 2 rfl ?_
    refine g_aload_n C (dat dt_X7_countSat 9 rfl) 0 rfl ?_
    refine g_aload_n C (dat dt_X7_countSat 10 rfl) 1 rfl ?_
    refine g_iload_n C (dat dt_X7_countSat 11 rfl) 3 rfl ?_
    obtain ⟨v2, q3, hrun⟩ := bd hrun
    refine g_cVi [.ref a1, .int x3] C (dat dt_X7_countSat 12 rfl) ml_7_114 (w_X7_fits a1 x3 h v2 Ha1 q3) kd_68 ltk_68 rfl rfl (Nat.le_of_ble_eq_true rfl) (by decide) c00 ?_
    obtain ⟨v4, q5, hrun⟩ := bd hrun
    refine g_cNi [.int (b2i v2)] C (dat dt_X7_countSat 13 rfl) ml_7_81 (w_X10_oneIf (b2i v2) h v4  q5) rfl rfl (Nat.le_of_ble_eq_true rfl) (by decide) c00 ?_
    refine g_iadd C (dat dt_X7_countSat 14 rfl) ?_
    refine g_istore_n (lv' := [(0, .ref 68), (1, .ref a1), (2, .int (x2 + v4)), (3, .int x3)]) C (dat dt_X7_countSat 15 rfl) (by decide) rfl ?_
    refine g_iinc (v := (x3 + (1 : Int32))) (lv' := [(0, .ref 68), (1, .ref a1), (2, .int (x2 + v4)), (3, .int (x3 + (1 : Int32)))]) C (dat dt_X7_countSat 16 rfl) 3 rfl (congrArg (fun z => x3 + z) ic_1) (by decide) rfl ?_
    refine g_goto 4 C (dat dt_X7_countSat 17 rfl) (by decide) ?_
    cases hrun
    exact Ks ((x2 + v4), (x3 + (1 : Int32))) rfl
def f_X7_countSat (a1 : Nat) (h : Hp) : Option Int32 :=
  (lp (fun s => b_X7_countSat_4 a1  s.1 s.2 h) FU ((0 : Int32), (0 : Int32))).bind fun e6 =>
  some e6
set_option maxRecDepth 20000 in
theorem w_X7_countSat (a1 : Nat) (h : Hp) (q : Int32) (Ha1 : IsHouse a1) (hrun : f_X7_countSat a1 h = some q) : MetA ⟨"SteamNations$Seatings", "countSat", "(LSteamNations$House;)I"⟩ prog_9_method_10_code 4 (some .int) 3 0 0 [.ref 68, .ref a1] h (some (.int q)) h := by
  refine metA_of (by decide) (Nat.le_of_ble_eq_true rfl) (fun X C K => ?_)
  have C : Cx X cn_7 prog_9_method_10_code 4 (some .int) 3 0 0 := C
  show G X h 0 0 0 [(0, .ref 68), (1, .ref a1)] []
  unfold f_X7_countSat at hrun
  refine g_iconst C (dat dt_X7_countSat 0 rfl) ic_0 ?_
  refine g_istore_n (lv' := [(0, .ref 68), (1, .ref a1), (2, .int (0 : Int32))]) C (dat dt_X7_countSat 1 rfl) (by decide) rfl ?_
  refine g_iconst C (dat dt_X7_countSat 2 rfl) ic_0 ?_
  refine g_istore_n (lv' := [(0, .ref 68), (1, .ref a1), (2, .int (0 : Int32)), (3, .int (0 : Int32))]) C (dat dt_X7_countSat 3 rfl) (by decide) rfl ?_
  obtain ⟨e6, q7, hrun⟩ := bd hrun
  refine lp_ind (P := fun s => kp_X7_countSat_4 a1  h X s) (K := fun e => ke_X7_countSat_4 a1  h X e) (fun s q hb Ks Ke => wb_X7_countSat_4 C a1 Ha1  s.1 s.2 h q hb Ks Ke) FU ((0 : Int32), (0 : Int32)) e6 q7 ?_
  show G X h 0 0 30 [(2, .int e6)] []
  refine g_iload_n C (dat dt_X7_countSat 18 rfl) 0 rfl ?_
  cases hrun
  exact g_iret C K (dat dt_X7_countSat 19 rfl)
/-! SteamNations$Seatings.findSat(LSteamNations$House;I)I -/
def dl_X7_findSat : List (Nat × Instr × Nat) := [(0, .iconst 0, 1), (1, .istore_n 3, 1), (2, .iconst 0, 1), (3, .istore 4, 2), (5, .iload 4, 2), (7, .aload_n 0, 1), (8, .getfield 48, 3), (11, .if_icmp .ge 30, 3), (14, .aload_n 0, 1), (15, .aload_n 1, 1), (16, .iload 4, 2), (18, .invokevirtual 114, 3), (21, .ifCond .eq 14, 3), (24, .iload_n 3, 1), (25, .iload_n 2, 1), (26, .if_icmp .ne 6, 3), (29, .iload 4, 2), (31, .ireturn, 1), (32, .iinc 3 1, 3), (35, .iinc 4 1, 3), (38, .goto (-33), 3), (41, .iconst (-1), 1), (42, .ireturn, 1)]
set_option maxRecDepth 20000 in
theorem dt_X7_findSat : ∀ q ∈ dl_X7_findSat, decode prog_9_method_11_code q.1 = .ok q.2 := by decide +kernel
def kp_X7_findSat_5 (a1 : Nat) (x2 : Int32) (h : Hp) (X : Xt) (s : (Int32 × Int32)) : Prop := G X h 0 0 5 [(0, .ref 68), (1, .ref a1), (2, .int x2), (3, .int s.1), (4, .int s.2)] []
def ke_X7_findSat_5 (a1 : Nat) (x2 : Int32) (h : Hp) (X : Xt) (e : (Unit ⊕ Int32)) : Prop := match e with
  | .inl e => G X h 0 0 41 [] []
  | .inr (e) => G X h 0 0 29 [(4, .int e)] []
def b_X7_findSat_5 (a1 : Nat) (x2 : Int32) (x3 : Int32) (x4 : Int32) (h : Hp) : Option ((Int32 × Int32) ⊕ (Unit ⊕ Int32)) :=
  if (fI h 68 10) ≤ x4 then
  some (.inr (.inl ()))
  else
  (f_X7_fits a1 x4 h).bind fun v2 =>
  if v2 = true then
  if x3 = x2 then
  some (.inr (.inr <| id x4))
  else
  some (.inl ((x3 + (1 : Int32)), (x4 + (1 : Int32))))
  else
  some (.inl (x3, (x4 + (1 : Int32))))
set_option maxRecDepth 20000 in
theorem wb_X7_findSat_5 {X : Xt} (C : Cx X cn_7 prog_9_method_11_code 5 (some .int) 3 0 0) (a1 : Nat) (Ha1 : IsHouse a1) (x2 : Int32) (x3 : Int32) (x4 : Int32) (h : Hp) (q : (Int32 × Int32) ⊕ (Unit ⊕ Int32)) (hrun : b_X7_findSat_5 a1 x2 x3 x4 h = some q) (Ks : ∀ s, q = .inl s → kp_X7_findSat_5 a1 x2 h X s) (Ke : ∀ e, q = .inr e → ke_X7_findSat_5 a1 x2 h X e) : kp_X7_findSat_5 a1 x2 h X (x3, x4) := by
  show G X h 0 0 5 [(0, .ref 68), (1, .ref a1), (2, .int x2), (3, .int x3), (4, .int x4)] []
  unfold b_X7_findSat_5 at hrun
  refine g_iload C (dat dt_X7_findSat 4 rfl) 4 rfl ?_
  refine g_aload_n C (dat dt_X7_findSat 5 rfl) 0 rfl ?_
  refine g_getI C (dat dt_X7_findSat 6 rfl) fl_7_48 kd_68 rfl ltk_68 ?_
  refine g_ic_ge 41 C (dat dt_X7_findSat 7 rfl) (by decide) (fun c1 => ?_) (fun c1 => ?_)
  · rw [if_pos c1] at hrun
    refine g_sub [] (lv' := []) rfl ?_
    cases hrun
    exact Ke (.inl ()) rfl
  · rw [if_neg c1] at hrun
    refine g_aload_n C (dat dt_X7_findSat 8 rfl) 0 rfl ?_
    refine g_aload_n C (dat dt_X7_findSat 9 rfl) 1 rfl ?_
    refine g_iload C (dat dt_X7_findSat 10 rfl) 4 rfl ?_
    obtain ⟨v2, q3, hrun⟩ := bd hrun
    refine g_cVi [.ref a1, .int x4] C (dat dt_X7_findSat 11 rfl) ml_7_114 (w_X7_fits a1 x4 h v2 Ha1 q3) kd_68 ltk_68 rfl rfl cat0 (by decide) c00 ?_
    refine g_if_eq 35 C (dat dt_X7_findSat 12 rfl) (by decide) (fun c4 => ?_) (fun c4 => ?_)
    · rw [if_neg (b2i_z c4)] at hrun
      refine g_iinc (v := (x4 + (1 : Int32))) (lv' := [(0, .ref 68), (1, .ref a1), (2, .int x2), (3, .int x3), (4, .int (x4 + (1 : Int32)))]) C (dat dt_X7_findSat 19 rfl) 4 rfl (congrArg (fun z => x4 + z) ic_1) (by decide) rfl ?_
      refine g_goto 5 C (dat dt_X7_findSat 20 rfl) (by decide) ?_
      cases hrun
      exact Ks (x3, (x4 + (1 : Int32))) rfl
    · rw [if_pos (b2i_nz c4)] at hrun
      refine g_iload_n C (dat dt_X7_findSat 13 rfl) 3 rfl ?_
      refine g_iload_n C (dat dt_X7_findSat 14 rfl) 2 rfl ?_
      refine g_ic_ne 32 C (dat dt_X7_findSat 15 rfl) (by decide) (fun c5 => ?_) (fun c5 => ?_)
      · rw [if_neg c5] at hrun
        refine g_iinc (v := (x3 + (1 : Int32))) (lv' := [(0, .ref 68), (1, .ref a1), (2, .int x2), (3, .int (x3 + (1 : Int32))), (4, .int x4)]) C (dat dt_X7_findSat 18 rfl) 3 rfl (congrArg (fun z => x3 + z) ic_1) (by decide) rfl ?_
        refine g_iinc (v := (x4 + (1 : Int32))) (lv' := [(0, .ref 68), (1, .ref a1), (2, .int x2), (3, .int (x3 + (1 : Int32))), (4, .int (x4 + (1 : Int32)))]) C (dat dt_X7_findSat 19 rfl) 4 rfl (congrArg (fun z => x4 + z) ic_1) (by decide) rfl ?_
        refine g_goto 5 C (dat dt_X7_findSat 20 rfl) (by decide) ?_
        cases hrun
        exact Ks ((x3 + (1 : Int32)), (x4 + (1 : Int32))) rfl
      · rw [if_pos c5] at hrun
        refine g_sub [4] (lv' := [(4, .int x4)]) rfl ?_
        cases hrun
        exact Ke (.inr <| id x4) rfl
def f_X7_findSat (a1 : Nat) (x2 : Int32) (h : Hp) : Option Int32 :=
  (lp (fun s => b_X7_findSat_5 a1 x2 s.1 s.2 h) FU ((0 : Int32), (0 : Int32))).bind fun e6 =>
  sc e6 (fun e8 =>
  some (-1 : Int32)) (fun e9 =>
  some e9)
set_option maxRecDepth 20000 in
theorem w_X7_findSat (a1 : Nat) (x2 : Int32) (h : Hp) (q : Int32) (Ha1 : IsHouse a1) (hrun : f_X7_findSat a1 x2 h = some q) : MetA ⟨"SteamNations$Seatings", "findSat", "(LSteamNations$House;I)I"⟩ prog_9_method_11_code 5 (some .int) 3 0 0 [.ref 68, .ref a1, .int x2] h (some (.int q)) h := by
  refine metA_of (by decide) (Nat.le_of_ble_eq_true rfl) (fun X C K => ?_)
  have C : Cx X cn_7 prog_9_method_11_code 5 (some .int) 3 0 0 := C
  show G X h 0 0 0 [(0, .ref 68), (1, .ref a1), (2, .int x2)] []
  unfold f_X7_findSat at hrun
  refine g_iconst C (dat dt_X7_findSat 0 rfl) ic_0 ?_
  refine g_istore_n (lv' := [(0, .ref 68), (1, .ref a1), (2, .int x2), (3, .int (0 : Int32))]) C (dat dt_X7_findSat 1 rfl) (by decide) rfl ?_
  refine g_iconst C (dat dt_X7_findSat 2 rfl) ic_0 ?_
  refine g_istore (lv' := [(0, .ref 68), (1, .ref a1), (2, .int x2), (3, .int (0 : Int32)), (4, .int (0 : Int32))]) C (dat dt_X7_findSat 3 rfl) (by decide) rfl ?_
  obtain ⟨e6, q7, hrun⟩ := bd hrun
  refine lp_ind (P := fun s => kp_X7_findSat_5 a1 x2 h X s) (K := fun e => ke_X7_findSat_5 a1 x2 h X e) (fun s q hb Ks Ke => wb_X7_findSat_5 C a1 Ha1 x2 s.1 s.2 h q hb Ks Ke) FU ((0 : Int32), (0 : Int32)) e6 q7 ?_
  rcases e6 with e8 | e9
  · rw [sc_l] at hrun
    show G X h 0 0 41 [] []
    refine g_iconst C (dat dt_X7_findSat 21 rfl) ic_m1 ?_
    cases hrun
    exact g_iret C K (dat dt_X7_findSat 22 rfl)
  · rw [sc_r] at hrun
    show G X h 0 0 29 [(4, .int e9)] []
    refine g_iload C (dat dt_X7_findSat 16 rfl) 0 rfl ?_
    cases hrun
    exact g_iret C K (dat dt_X7_findSat 17 rfl)
/-! SteamNations$Seatings.mostAlike(LSteamNations$House;II)I -/
def dl_X7_mostAlike : List (Nat × Instr × Nat) := [(0, .aload_n 0, 1), (1, .getfield 37, 3), (4, .iconst 0, 1), (5, .invokestatic 118, 3), (8, .iconst 0, 1), (9, .istore 4, 2), (11, .iload 4, 2), (13, .aload_n 0, 1), (14, .getfield 48, 3), (17, .if_icmp .ge 51, 3), (20, .aload_n 0, 1), (21, .iload 4, 2), (23, .iload_n 3, 1), (24, .iload_n 2, 1), (25, .invokevirtual 74, 3), (28, .istore 5, 2), (30, .iload 5, 2), (32, .ifCond .lt 30, 3), (35, .iload 5, 2), (37, .iconst 3, 1), (38, .if_icmp .ge 24, 3), (41, .aload_n 0, 1), (42, .aload_n 1, 1), (43, .iload 4, 2), (45, .invokevirtual 114, 3), (48, .ifCond .eq 14, 3), (51, .aload_n 0, 1), (52, .getfield 37, 3), (55, .iload 5, 2), (57, .dup2, 1), (58, .iaload, 1), (59, .iconst 1, 1), (60, .iadd, 1), (61, .iastore, 1), (62, .iinc 4 1, 3), (65, .goto (-54), 3), (68, .aload_n 0, 1), (69, .getfield 37, 3), (72, .iconst 0, 1), (73, .iaload, 1), (74, .aload_n 0, 1), (75, .getfield 37, 3), (78, .iconst 1, 1), (79, .iaload, 1), (80, .aload_n 0, 1), (81, .getfield 37, 3), (84, .iconst 2, 1), (85, .iaload, 1), (86, .invokestatic 124, 3), (89, .invokestatic 124, 3), (92, .ireturn, 1)]
set_option maxRecDepth 20000 in
theorem dt_X7_mostAlike : ∀ q ∈ dl_X7_mostAlike, decode prog_9_method_12_code q.1 = .ok q.2 := by decide +kernel
def kp_X7_mostAlike_11 (a1 : Nat) (x2 : Int32) (x3 : Int32) (X : Xt) (s : (Int32 × Hp)) : Prop := G X s.2 0 0 11 [(0, .ref 68), (1, .ref a1), (2, .int x2), (3, .int x3), (4, .int s.1)] []
def ke_X7_mostAlike_11 (a1 : Nat) (x2 : Int32) (x3 : Int32) (X : Xt) (e : Hp) : Prop := G X e 0 0 68 [(0, .ref 68)] []
def b_X7_mostAlike_11 (a1 : Nat) (x2 : Int32) (x3 : Int32) (x4 : Int32) (h : Hp) : Option ((Int32 × Hp) ⊕ Hp) :=
  if (fI h 68 10) ≤ x4 then
  some (.inr ( h))
  else
  (f_X7_nationIn x4 x3 x2 h).bind fun v4 =>
  if v4 < 0 then
  some (.inl ((x4 + (1 : Int32)), h))
  else
  if (3 : Int32) ≤ v4 then
  some (.inl ((x4 + (1 : Int32)), h))
  else
  (f_X7_fits a1 x4 h).bind fun v8 =>
  if v8 = true then
  (inb v4 3).bind fun j11 =>
  (inb v4 3).bind fun j13 =>
  some (.inl ((x4 + (1 : Int32)), (sA h 80 j13 ((aI h 80 j11) + (1 : Int32)))))
  else
  some (.inl ((x4 + (1 : Int32)), h))
set_option maxRecDepth 20000 in
theorem wb_X7_mostAlike_11 {X : Xt} (C : Cx X cn_7 prog_9_method_12_code 6 (some .int) 3 0 0) (a1 : Nat) (Ha1 : IsHouse a1) (x2 : Int32) (x3 : Int32) (x4 : Int32) (h : Hp) (q : (Int32 × Hp) ⊕ Hp) (hrun : b_X7_mostAlike_11 a1 x2 x3 x4 h = some q) (Ks : ∀ s, q = .inl s → kp_X7_mostAlike_11 a1 x2 x3 X s) (Ke : ∀ e, q = .inr e → ke_X7_mostAlike_11 a1 x2 x3 X e) : kp_X7_mostAlike_11 a1 x2 x3 X (x4, h) := by
  show G X h 0 0 11 [(0, .ref 68), (1, .ref a1), (2, .int x2), (3, .int x3), (4, .int x4)] []
  unfold b_X7_mostAlike_11 at hrun
  refine g_iload C (dat dt_X7_mostAlike 6 rfl) 4 rfl ?_
  refine g_aload_n C (dat dt_X7_mostAlike 7 rfl) 0 rfl ?_
  refine g_getI C (dat dt_X7_mostAlike 8 rfl) fl_7_48 kd_68 rfl ltk_68 ?_
  refine g_ic_ge 68 C (dat dt_X7_mostAlike 9 rfl) (by decide) (fun c3 => ?_) (fun c3 => ?_)
  · rw [if_pos c3] at hrun
    refine g_sub [0] (lv' := [(0, .ref 68)]) rfl ?_
    cases hrun
    exact Ke ( h) rfl
  · rw [if_neg c3] at hrun
    refine g_aload_n C (dat dt_X7_mostAlike 10 rfl) 0 rfl ?_
    refine g_iload C (dat dt_X7_mostAlike 11 rfl) 4 rfl ?_
    refine g_iload_n C (dat dt_X7_mostAlike 12 rfl) 3 rfl ?_
    refine g_iload_n C (dat dt_X7_mostAlike 13 rfl) 2 rfl ?_
    obtain ⟨v4, q5, hrun⟩ := bd hrun
    refine g_cVi [.int x4, .int x3, .int x2] C (dat dt_X7_mostAlike 14 rfl) ml_7_74 (w_X7_nationIn x4 x3 x2 h v4  q5) kd_68 ltk_68 rfl rfl cat0 (by decide) c00 ?_
    refine g_istore (lv' := [(0, .ref 68), (1, .ref a1), (2, .int x2), (3, .int x3), (4, .int x4), (5, .int v4)]) C (dat dt_X7_mostAlike 15 rfl) (by decide) rfl ?_
    refine g_iload C (dat dt_X7_mostAlike 16 rfl) 5 rfl ?_
    refine g_if_lt 62 C (dat dt_X7_mostAlike 17 rfl) (by decide) (fun c6 => ?_) (fun c6 => ?_)
    · rw [if_pos c6] at hrun
      refine g_iinc (v := (x4 + (1 : Int32))) (lv' := [(0, .ref 68), (1, .ref a1), (2, .int x2), (3, .int x3), (4, .int (x4 + (1 : Int32))), (5, .int v4)]) C (dat dt_X7_mostAlike 34 rfl) 4 rfl (congrArg (fun z => x4 + z) ic_1) (by decide) rfl ?_
      refine g_goto 11 C (dat dt_X7_mostAlike 35 rfl) (by decide) ?_
      refine g_sub [0, 1, 2, 3, 4] (lv' := [(0, .ref 68), (1, .ref a1), (2, .int x2), (3, .int x3), (4, .int (x4 + (1 : Int32)))]) rfl ?_
      cases hrun
      exact Ks ((x4 + (1 : Int32)), h) rfl
    · rw [if_neg c6] at hrun
      refine g_iload C (dat dt_X7_mostAlike 18 rfl) 5 rfl ?_
      refine g_iconst C (dat dt_X7_mostAlike 19 rfl) ic_3 ?_
      refine g_ic_ge 62 C (dat dt_X7_mostAlike 20 rfl) (by decide) (fun c7 => ?_) (fun c7 => ?_)
      · rw [if_pos c7] at hrun
        refine g_iinc (v := (x4 + (1 : Int32))) (lv' := [(0, .ref 68), (1, .ref a1), (2, .int x2), (3, .int x3), (4, .int (x4 + (1 : Int32))), (5, .int v4)]) C (dat dt_X7_mostAlike 34 rfl) 4 rfl (congrArg (fun z => x4 + z) ic_1) (by decide) rfl ?_
        refine g_goto 11 C (dat dt_X7_mostAlike 35 rfl) (by decide) ?_
        refine g_sub [0, 1, 2, 3, 4] (lv' := [(0, .ref 68), (1, .ref a1), (2, .int x2), (3, .int x3), (4, .int (x4 + (1 : Int32)))]) rfl ?_
        cases hrun
        exact Ks ((x4 + (1 : Int32)), h) rfl
      · rw [if_neg c7] at hrun
        refine g_aload_n C (dat dt_X7_mostAlike 21 rfl) 0 rfl ?_
        refine g_aload_n C (dat dt_X7_mostAlike 22 rfl) 1 rfl ?_
        refine g_iload C (dat dt_X7_mostAlike 23 rfl) 4 rfl ?_
        obtain ⟨v8, q9, hrun⟩ := bd hrun
        refine g_cVi [.ref a1, .int x4] C (dat dt_X7_mostAlike 24 rfl) ml_7_114 (w_X7_fits a1 x4 h v8 Ha1 q9) kd_68 ltk_68 rfl rfl cat0 (by decide) c00 ?_
        refine g_if_eq 62 C (dat dt_X7_mostAlike 25 rfl) (by decide) (fun c10 => ?_) (fun c10 => ?_)
        · rw [if_neg (b2i_z c10)] at hrun
          refine g_iinc (v := (x4 + (1 : Int32))) (lv' := [(0, .ref 68), (1, .ref a1), (2, .int x2), (3, .int x3), (4, .int (x4 + (1 : Int32))), (5, .int v4)]) C (dat dt_X7_mostAlike 34 rfl) 4 rfl (congrArg (fun z => x4 + z) ic_1) (by decide) rfl ?_
          refine g_goto 11 C (dat dt_X7_mostAlike 35 rfl) (by decide) ?_
          refine g_sub [0, 1, 2, 3, 4] (lv' := [(0, .ref 68), (1, .ref a1), (2, .int x2), (3, .int x3), (4, .int (x4 + (1 : Int32)))]) rfl ?_
          cases hrun
          exact Ks ((x4 + (1 : Int32)), h) rfl
        · rw [if_pos (b2i_nz c10)] at hrun
          refine g_aload_n C (dat dt_X7_mostAlike 26 rfl) 0 rfl ?_
          refine g_getR C (dat dt_X7_mostAlike 27 rfl) fl_7_37 kd_68 rfl ltk_68 ?_
          refine g_iload C (dat dt_X7_mostAlike 28 rfl) 5 rfl ?_
          refine g_dup2 C (dat dt_X7_mostAlike 29 rfl) rfl rfl ?_
          obtain ⟨j11, q12, hrun⟩ := bd hrun
          refine g_iald C (dat dt_X7_mostAlike 30 rfl) kd_80 ltk_80 q12 ?_
          refine g_iconst C (dat dt_X7_mostAlike 31 rfl) ic_1 ?_
          refine g_iadd C (dat dt_X7_mostAlike 32 rfl) ?_
          obtain ⟨j13, q14, hrun⟩ := bd hrun
          refine g_iast (j := j13) C (dat dt_X7_mostAlike 33 rfl) kd_80 ltk_80 q14  ?_
          refine g_iinc (v := (x4 + (1 : Int32))) (lv' := [(0, .ref 68), (1, .ref a1), (2, .int x2), (3, .int x3), (4, .int (x4 + (1 : Int32))), (5, .int v4)]) C (dat dt_X7_mostAlike 34 rfl) 4 rfl (congrArg (fun z => x4 + z) ic_1) (by decide) rfl ?_
          refine g_goto 11 C (dat dt_X7_mostAlike 35 rfl) (by decide) ?_
          refine g_sub [0, 1, 2, 3, 4] (lv' := [(0, .ref 68), (1, .ref a1), (2, .int x2), (3, .int x3), (4, .int (x4 + (1 : Int32)))]) rfl ?_
          cases hrun
          exact Ks ((x4 + (1 : Int32)), (sA h 80 j13 ((aI h 80 j11) + (1 : Int32)))) rfl
def f_X7_mostAlike (a1 : Nat) (x2 : Int32) (x3 : Int32) (h : Hp) : Option (Int32 × Hp) :=
  (f_J7_fill_53178 80 3 (0 : Int32) h).bind fun v1 =>
  (lp (fun s => b_X7_mostAlike_11 a1 x2 x3 s.1 s.2) FU ((0 : Int32), v1.2)).bind fun e15 =>
  (f_J9_max_7cf53 (aI e15 80 1) (aI e15 80 2)).bind fun v17 =>
  (f_J9_max_7cf53 (aI e15 80 0) v17).bind fun v19 =>
  some (v19, e15)
set_option maxRecDepth 20000 in
theorem w_X7_mostAlike (a1 : Nat) (x2 : Int32) (x3 : Int32) (h : Hp) (q : (Int32 × Hp)) (Ha1 : IsHouse a1) (hrun : f_X7_mostAlike a1 x2 x3 h = some q) : MetA ⟨"SteamNations$Seatings", "mostAlike", "(LSteamNations$House;II)I"⟩ prog_9_method_12_code 6 (some .int) 3 0 0 [.ref 68, .ref a1, .int x2, .int x3] h (some (.int q.1)) q.2 := by
  refine metA_of (by decide) (Nat.le_of_ble_eq_true rfl) (fun X C K => ?_)
  have C : Cx X cn_7 prog_9_method_12_code 6 (some .int) 3 0 0 := C
  show G X h 0 0 0 [(0, .ref 68), (1, .ref a1), (2, .int x2), (3, .int x3)] []
  unfold f_X7_mostAlike at hrun
  refine g_aload_n C (dat dt_X7_mostAlike 0 rfl) 0 rfl ?_
  refine g_getR C (dat dt_X7_mostAlike 1 rfl) fl_7_37 kd_68 rfl ltk_68 ?_
  refine g_iconst C (dat dt_X7_mostAlike 2 rfl) ic_0 ?_
  obtain ⟨v1, q2, hrun⟩ := bd hrun
  refine g_cSv [.ref 80, .int (0 : Int32)] C (dat dt_X7_mostAlike 3 rfl) ml_7_118 (w_J7_fill_53178 80 3 (0 : Int32) h v1 kd_80 (by decide) q2) rfl rfl cat0 (by decide) c00 ?_
  refine g_iconst C (dat dt_X7_mostAlike 4 rfl) ic_0 ?_
  refine g_istore (lv' := [(0, .ref 68), (1, .ref a1), (2, .int x2), (3, .int x3), (4, .int (0 : Int32))]) C (dat dt_X7_mostAlike 5 rfl) (by decide) rfl ?_
  obtain ⟨e15, q16, hrun⟩ := bd hrun
  refine lp_ind (P := fun s => kp_X7_mostAlike_11 a1 x2 x3 X s) (K := fun e => ke_X7_mostAlike_11 a1 x2 x3 X e) (fun s q hb Ks Ke => wb_X7_mostAlike_11 C a1 Ha1 x2 x3 s.1 s.2 q hb Ks Ke) FU ((0 : Int32), v1.2) e15 q16 ?_
  show G X e15 0 0 68 [(0, .ref 68)] []
  refine g_aload_n C (dat dt_X7_mostAlike 36 rfl) 0 rfl ?_
  refine g_getR C (dat dt_X7_mostAlike 37 rfl) fl_7_37 kd_68 rfl ltk_68 ?_
  refine g_iconst C (dat dt_X7_mostAlike 38 rfl) ic_0 ?_
  refine g_iald (j := 0) C (dat dt_X7_mostAlike 39 rfl) kd_80 ltk_80 (show inb (0 : Int32) 3 = some 0 by decide) ?_
  refine g_aload_n C (dat dt_X7_mostAlike 40 rfl) 0 rfl ?_
  refine g_getR C (dat dt_X7_mostAlike 41 rfl) fl_7_37 kd_68 rfl ltk_68 ?_
  refine g_iconst C (dat dt_X7_mostAlike 42 rfl) ic_1 ?_
  refine g_iald (j := 1) C (dat dt_X7_mostAlike 43 rfl) kd_80 ltk_80 (show inb (1 : Int32) 3 = some 1 by decide) ?_
  refine g_aload_n C (dat dt_X7_mostAlike 44 rfl) 0 rfl ?_
  refine g_getR C (dat dt_X7_mostAlike 45 rfl) fl_7_37 kd_68 rfl ltk_68 ?_
  refine g_iconst C (dat dt_X7_mostAlike 46 rfl) ic_2 ?_
  refine g_iald (j := 2) C (dat dt_X7_mostAlike 47 rfl) kd_80 ltk_80 (show inb (2 : Int32) 3 = some 2 by decide) ?_
  obtain ⟨v17, q18, hrun⟩ := bd hrun
  refine g_cSi [.int (aI e15 80 1), .int (aI e15 80 2)] C (dat dt_X7_mostAlike 48 rfl) ml_7_124 (w_J9_max_7cf53 (aI e15 80 1) (aI e15 80 2) e15 v17  q18) rfl rfl (Nat.le_of_ble_eq_true rfl) (by decide) c00 ?_
  obtain ⟨v19, q20, hrun⟩ := bd hrun
  refine g_cSi [.int (aI e15 80 0), .int v17] C (dat dt_X7_mostAlike 49 rfl) ml_7_124 (w_J9_max_7cf53 (aI e15 80 0) v17 e15 v19  q20) rfl rfl cat0 (by decide) c00 ?_
  cases hrun
  exact g_iret C K (dat dt_X7_mostAlike 50 rfl)
