/-! SteamNationsModel.tells(III)I -/
def dl_X11_tells : List (Nat × Instr × Nat) := [(0, .aload_n 0, 1), (1, .getfield 28, 3), (4, .bipush 54, 2), (6, .iaload, 1), (7, .iconst (-1), 1), (8, .if_icmp .ne 5, 3), (11, .iconst (-1), 1), (12, .ireturn, 1), (13, .aload_n 0, 1), (14, .iload_n 2, 1), (15, .iload_n 3, 1), (16, .invokevirtual 351, 3), (19, .aload_n 0, 1), (20, .iconst 0, 1), (21, .putfield 321, 3), (24, .ldc2_w 354, 3), (27, .lstore 4, 2), (29, .aload_n 0, 1), (30, .sipush 400, 3), (33, .aload_n 0, 1), (34, .getfield 28, 3), (37, .bipush 54, 2), (39, .iaload, 1), (40, .imul, 1), (41, .putfield 291, 3), (44, .aload_n 0, 1), (45, .aload_n 0, 1), (46, .getfield 291, 3), (49, .aload_n 0, 1), (50, .getfield 28, 3), (53, .bipush 55, 2), (55, .aload_n 0, 1), (56, .getfield 28, 3), (59, .bipush 54, 2), (61, .iaload, 1), (62, .iadd, 1), (63, .iaload, 1), (64, .iadd, 1), (65, .putfield 288, 3), (68, .aload_n 0, 1), (69, .getfield 291, 3), (72, .aload_n 0, 1), (73, .getfield 288, 3), (76, .if_icmp .ge 145, 3), (79, .aload_n 0, 1), (80, .aload_n 0, 1), (81, .getfield 291, 3), (84, .invokevirtual 294, 3), (87, .istore 6, 2), (89, .aload_n 0, 1), (90, .iconst 0, 1), (91, .putfield 301, 3), (94, .aload_n 0, 1), (95, .dup, 1), (96, .getfield 291, 3), (99, .iconst 1, 1), (100, .iadd, 1), (101, .putfield 291, 3), (104, .iload 6, 2), (106, .iconst 1, 1), (107, .if_icmp .ne 11, 3), (110, .aload_n 0, 1), (111, .iconst 1, 1), (112, .invokevirtual 318, 3), (115, .goto 4, 3), (118, .lconst 1, 1), (119, .lstore 7, 2), (121, .aload_n 0, 1), (122, .getfield 301, 3), (125, .istore 9, 2), (127, .aload_n 0, 1), (128, .iconst 0, 1), (129, .putfield 301, 3), (132, .aload_n 0, 1), (133, .iconst 4, 1), (134, .invokevirtual 315, 3), (137, .ifCond .eq 11, 3), (140, .aload_n 0, 1), (141, .iconst 1, 1), (142, .invokevirtual 348, 3), (145, .ifCond .eq 7, 3), (148, .iconst 1, 1), (149, .goto 4, 3), (152, .iconst 0, 1), (153, .istore 10, 2), (155, .iload 6, 2), (157, .iload_n 1, 1), (158, .if_icmp .ne 50, 3), (161, .iload 10, 2), (163, .ifCond .eq 45, 3), (166, .aload_n 0, 1), (167, .getfield 301, 3), (170, .ifCond .ne 38, 3), (173, .iload 9, 2), (175, .ifCond .ne 33, 3), (178, .lload 7, 2), (180, .lconst 0, 1), (181, .lcmp, 1), (182, .ifCond .ge 7, 3), (185, .lconst 0, 1), (186, .goto 20, 3), (189, .lload 7, 2), (191, .ldc2_w 356, 3), (194, .lcmp, 1), (195, .ifCond .le 9, 3), (198, .ldc2_w 356, 3), (201, .goto 5, 3), (204, .lload 7, 2), (206, .lstore 4, 2), (208, .aload_n 0, 1), (209, .dup, 1), (210, .getfield 291, 3), (213, .iconst 1, 1), (214, .iadd, 1), (215, .putfield 291, 3), (218, .goto (-150), 3), (221, .lload 4, 2), (223, .l2i, 1), (224, .ireturn, 1)]
set_option maxRecDepth 20000 in
theorem dt_X11_tells : ∀ q ∈ dl_X11_tells, decode prog_13_method_76_code q.1 = .ok q.2 := by decide +kernel
def kp_X11_tells_68  (x1 : Int32) (X : Xt) (s : (Int64 × Hp)) : Prop := G X s.2 0 0 68 [(0, .ref 81), (1, .int x1), (4, .long s.1)] []
def ke_X11_tells_68  (x1 : Int32) (X : Xt) (e : (Int64 × Hp)) : Prop := G X e.2 0 0 221 [(4, .long e.1)] []
def j_X11_tells_208_68  (x1 : Int32) (x4 : Int64) (h : Hp) : Option ((Int64 × Hp) ⊕ (Int64 × Hp)) :=
  some (.inl (x4, (sF h 81 22 ((fI h 81 22) + (1 : Int32)))))
set_option maxRecDepth 20000 in
theorem wj_X11_tells_208_68 {X : Xt} (C : Cx X cn_11 prog_13_method_76_code 11 (some .int) 141 0 0)    (x1 : Int32) (x4 : Int64) (h : Hp) (q : (Int64 × Hp) ⊕ (Int64 × Hp)) (hrun : j_X11_tells_208_68  x1 x4 h = some q) (Ks : ∀ s, q = .inl s → kp_X11_tells_68  x1 X s) (Ke : ∀ e, q = .inr e → ke_X11_tells_68  x1 X e) : G X h 0 0 208 [(0, .ref 81), (1, .int x1), (4, .long x4)] [] := by
  unfold j_X11_tells_208_68 at hrun
  refine g_aload_n C (dat dt_X11_tells 109 rfl) 0 rfl ?_
  refine g_dup C (dat dt_X11_tells 110 rfl) rfl ?_
  refine g_getI C (dat dt_X11_tells 111 rfl) fl_11_291 kd_81 rfl ltk_81 ?_
  refine g_iconst C (dat dt_X11_tells 112 rfl) ic_1 ?_
  refine g_iadd C (dat dt_X11_tells 113 rfl) ?_
  refine g_putI C (dat dt_X11_tells 114 rfl) fl_11_291 rfl rfl kd_81 rfl ltk_81 ?_
  refine g_goto 68 C (dat dt_X11_tells 115 rfl) (by decide) ?_
  cases hrun
  exact Ks (x4, (sF h 81 22 ((fI h 81 22) + (1 : Int32)))) rfl
def j_X11_tells_206_68  (x1 : Int32) (s0 : Int64) (h : Hp) : Option ((Int64 × Hp) ⊕ (Int64 × Hp)) :=
  j_X11_tells_208_68  x1 s0 h
set_option maxRecDepth 20000 in
theorem wj_X11_tells_206_68 {X : Xt} (C : Cx X cn_11 prog_13_method_76_code 11 (some .int) 141 0 0)    (x1 : Int32) (s0 : Int64) (h : Hp) (q : (Int64 × Hp) ⊕ (Int64 × Hp)) (hrun : j_X11_tells_206_68  x1 s0 h = some q) (Ks : ∀ s, q = .inl s → kp_X11_tells_68  x1 X s) (Ke : ∀ e, q = .inr e → ke_X11_tells_68  x1 X e) : G X h 0 0 206 [(0, .ref 81), (1, .int x1)] [.long s0] := by
  unfold j_X11_tells_206_68 at hrun
  refine g_lstore (lv' := [(0, .ref 81), (1, .int x1), (4, .long s0)]) C (dat dt_X11_tells 108 rfl) (by decide) rfl ?_
  exact wj_X11_tells_208_68 C    x1 s0 h _ hrun Ks Ke
def j_X11_tells_153_68  (x1 : Int32) (x4 : Int64) (x6 : Int32) (x7 : Int64) (x9 : Int32) (s0 : Int32) (h : Hp) : Option ((Int64 × Hp) ⊕ (Int64 × Hp)) :=
  if x6 = x1 then
  if s0 = 0 then
  j_X11_tells_208_68  x1 x4 h
  else
  if (fI h 81 24) = 0 then
  if x9 = 0 then
  if 0 ≤ (lg_cmp x7 (0 : Int64)) then
  if (lg_cmp x7 (9 : Int64)) ≤ 0 then
  j_X11_tells_206_68  x1 x7 h
  else
  j_X11_tells_206_68  x1 (9 : Int64) h
  else
  j_X11_tells_206_68  x1 (0 : Int64) h
  else
  j_X11_tells_208_68  x1 x4 h
  else
  j_X11_tells_208_68  x1 x4 h
  else
  j_X11_tells_208_68  x1 x4 h
set_option maxRecDepth 20000 in
theorem wj_X11_tells_153_68 {X : Xt} (C : Cx X cn_11 prog_13_method_76_code 11 (some .int) 141 0 0)    (x1 : Int32) (x4 : Int64) (x6 : Int32) (x7 : Int64) (x9 : Int32) (s0 : Int32) (h : Hp) (q : (Int64 × Hp) ⊕ (Int64 × Hp)) (hrun : j_X11_tells_153_68  x1 x4 x6 x7 x9 s0 h = some q) (Ks : ∀ s, q = .inl s → kp_X11_tells_68  x1 X s) (Ke : ∀ e, q = .inr e → ke_X11_tells_68  x1 X e) : G X h 0 0 153 [(0, .ref 81), (1, .int x1), (4, .long x4), (6, .int x6), (7, .long x7), (9, .int x9)] [.int s0] := by
  unfold j_X11_tells_153_68 at hrun
  refine g_istore (lv' := [(0, .ref 81), (1, .int x1), (4, .long x4), (6, .int x6), (7, .long x7), (9, .int x9), (10, .int s0)]) C (dat dt_X11_tells 84 rfl) (by decide) rfl ?_
  refine g_iload C (dat dt_X11_tells 85 rfl) 3 rfl ?_
  refine g_iload_n C (dat dt_X11_tells 86 rfl) 1 rfl ?_
  refine g_ic_ne 208 C (dat dt_X11_tells 87 rfl) (by decide) (fun c13 => ?_) (fun c13 => ?_)
  · rw [if_neg c13] at hrun
    refine g_sub [0, 1, 2] (lv' := [(0, .ref 81), (1, .int x1), (4, .long x4)]) rfl ?_
    exact wj_X11_tells_208_68 C    x1 x4 h _ hrun Ks Ke
  · rw [if_pos c13] at hrun
    refine g_iload C (dat dt_X11_tells 88 rfl) 6 rfl ?_
    refine g_if_eq 208 C (dat dt_X11_tells 89 rfl) (by decide) (fun c14 => ?_) (fun c14 => ?_)
    · rw [if_pos c14] at hrun
      refine g_sub [0, 1, 2] (lv' := [(0, .ref 81), (1, .int x1), (4, .long x4)]) rfl ?_
      exact wj_X11_tells_208_68 C    x1 x4 h _ hrun Ks Ke
    · rw [if_neg c14] at hrun
      refine g_aload_n C (dat dt_X11_tells 90 rfl) 0 rfl ?_
      refine g_getI C (dat dt_X11_tells 91 rfl) fl_11_301 kd_81 rfl ltk_81 ?_
      refine g_if_ne 208 C (dat dt_X11_tells 92 rfl) (by decide) (fun c15 => ?_) (fun c15 => ?_)
      · rw [if_neg c15] at hrun
        refine g_sub [0, 1, 2] (lv' := [(0, .ref 81), (1, .int x1), (4, .long x4)]) rfl ?_
        exact wj_X11_tells_208_68 C    x1 x4 h _ hrun Ks Ke
      · rw [if_pos c15] at hrun
        refine g_iload C (dat dt_X11_tells 93 rfl) 5 rfl ?_
        refine g_if_ne 208 C (dat dt_X11_tells 94 rfl) (by decide) (fun c16 => ?_) (fun c16 => ?_)
        · rw [if_neg c16] at hrun
          refine g_sub [0, 1, 2] (lv' := [(0, .ref 81), (1, .int x1), (4, .long x4)]) rfl ?_
          exact wj_X11_tells_208_68 C    x1 x4 h _ hrun Ks Ke
        · rw [if_pos c16] at hrun
          refine g_lload C (dat dt_X11_tells 95 rfl) 4 rfl ?_
          refine g_lconst (v := 0) C (dat dt_X11_tells 96 rfl) rfl ?_
          refine g_lcmp C (dat dt_X11_tells 97 rfl) ?_
          refine g_if_ge 189 C (dat dt_X11_tells 98 rfl) (by decide) (fun c17 => ?_) (fun c17 => ?_)
          · rw [if_pos c17] at hrun
            refine g_lload C (dat dt_X11_tells 101 rfl) 4 rfl ?_
            refine g_ldc2 C (dat dt_X11_tells 102 rfl) kc_11_356 ?_
            refine g_lcmp C (dat dt_X11_tells 103 rfl) ?_
            refine g_if_le 204 C (dat dt_X11_tells 104 rfl) (by decide) (fun c18 => ?_) (fun c18 => ?_)
            · rw [if_pos c18] at hrun
              refine g_lload C (dat dt_X11_tells 107 rfl) 4 rfl ?_
              refine g_sub [0, 1] (lv' := [(0, .ref 81), (1, .int x1)]) rfl ?_
              exact wj_X11_tells_206_68 C    x1 x7 h _ hrun Ks Ke
            · rw [if_neg c18] at hrun
              refine g_ldc2 C (dat dt_X11_tells 105 rfl) kc_11_356 ?_
              refine g_goto 206 C (dat dt_X11_tells 106 rfl) (by decide) ?_
              refine g_sub [0, 1] (lv' := [(0, .ref 81), (1, .int x1)]) rfl ?_
              exact wj_X11_tells_206_68 C    x1 (9 : Int64) h _ hrun Ks Ke
          · rw [if_neg c17] at hrun
            refine g_lconst (v := 0) C (dat dt_X11_tells 99 rfl) rfl ?_
            refine g_goto 206 C (dat dt_X11_tells 100 rfl) (by decide) ?_
            refine g_sub [0, 1] (lv' := [(0, .ref 81), (1, .int x1)]) rfl ?_
            exact wj_X11_tells_206_68 C    x1 (0 : Int64) h _ hrun Ks Ke
def j_X11_tells_119_68  (x1 : Int32) (x4 : Int64) (x6 : Int32) (s0 : Int64) (h : Hp) : Option ((Int64 × Hp) ⊕ (Int64 × Hp)) :=
  (f_X11_passes0 (4 : Int32) (sF h 81 24 (b2i false))).bind fun v10 =>
  if v10.1 = true then
  (gr_D GD 0 (1 : Int32) v10.2).bind fun v19 =>
  if v19.1 = true then
  j_X11_tells_153_68  x1 x4 x6 s0 (fI h 81 24) (1 : Int32) v19.2
  else
  j_X11_tells_153_68  x1 x4 x6 s0 (fI h 81 24) (0 : Int32) v19.2
  else
  j_X11_tells_153_68  x1 x4 x6 s0 (fI h 81 24) (1 : Int32) v10.2
set_option maxRecDepth 20000 in
theorem wj_X11_tells_119_68 {X : Xt} (C : Cx X cn_11 prog_13_method_76_code 11 (some .int) 141 0 0)    (x1 : Int32) (x4 : Int64) (x6 : Int32) (s0 : Int64) (h : Hp) (q : (Int64 × Hp) ⊕ (Int64 × Hp)) (hrun : j_X11_tells_119_68  x1 x4 x6 s0 h = some q) (Ks : ∀ s, q = .inl s → kp_X11_tells_68  x1 X s) (Ke : ∀ e, q = .inr e → ke_X11_tells_68  x1 X e) : G X h 0 0 119 [(0, .ref 81), (1, .int x1), (4, .long x4), (6, .int x6)] [.long s0] := by
  unfold j_X11_tells_119_68 at hrun
  refine g_lstore (lv' := [(0, .ref 81), (1, .int x1), (4, .long x4), (6, .int x6), (7, .long s0)]) C (dat dt_X11_tells 66 rfl) (by decide) rfl ?_
  refine g_aload_n C (dat dt_X11_tells 67 rfl) 0 rfl ?_
  refine g_getI C (dat dt_X11_tells 68 rfl) fl_11_301 kd_81 rfl ltk_81 ?_
  refine g_istore (lv' := [(0, .ref 81), (1, .int x1), (4, .long x4), (6, .int x6), (7, .long s0), (9, .int (fI h 81 24))]) C (dat dt_X11_tells 69 rfl) (by decide) rfl ?_
  refine g_aload_n C (dat dt_X11_tells 70 rfl) 0 rfl ?_
  refine g_iconst C (dat dt_X11_tells 71 rfl) ic_0 ?_
  refine g_putZ (b := false) C (dat dt_X11_tells 72 rfl) fl_11_301 rfl kd_81 rfl ltk_81 ?_
  refine g_aload_n C (dat dt_X11_tells 73 rfl) 0 rfl ?_
  refine g_iconst C (dat dt_X11_tells 74 rfl) ic_4 ?_
  obtain ⟨v10, q11, hrun⟩ := bd hrun
  refine g_cVi [.int (4 : Int32)] C (dat dt_X11_tells 75 rfl) ml_11_315 (w_X11_passes0 (4 : Int32) (sF h 81 24 (b2i false)) v10  q11) kd_81 ltk_81 rfl rfl cat0 (by decide) c00 ?_
  refine g_if_eq 148 C (dat dt_X11_tells 76 rfl) (by decide) (fun c12 => ?_) (fun c12 => ?_)
  · rw [if_neg (b2i_z c12)] at hrun
    refine g_iconst C (dat dt_X11_tells 81 rfl) ic_1 ?_
    refine g_goto 153 C (dat dt_X11_tells 82 rfl) (by decide) ?_
    exact wj_X11_tells_153_68 C    x1 x4 x6 s0 (fI h 81 24) (1 : Int32) v10.2 _ hrun Ks Ke
  · rw [if_pos (b2i_nz c12)] at hrun
    refine g_aload_n C (dat dt_X11_tells 77 rfl) 0 rfl ?_
    refine g_iconst C (dat dt_X11_tells 78 rfl) ic_1 ?_
    obtain ⟨v19, q20, hrun⟩ := bd hrun
    refine g_cVi [.int (1 : Int32)] C (dat dt_X11_tells 79 rfl) ml_11_348 ((w_gr_D GD).1 _ _ _ q20) kd_81 ltk_81 rfl rfl cat0 (by decide) c00 ?_
    refine g_if_eq 152 C (dat dt_X11_tells 80 rfl) (by decide) (fun c21 => ?_) (fun c21 => ?_)
    · rw [if_neg (b2i_z c21)] at hrun
      refine g_iconst C (dat dt_X11_tells 83 rfl) ic_0 ?_
      exact wj_X11_tells_153_68 C    x1 x4 x6 s0 (fI h 81 24) (0 : Int32) v19.2 _ hrun Ks Ke
    · rw [if_pos (b2i_nz c21)] at hrun
      refine g_iconst C (dat dt_X11_tells 81 rfl) ic_1 ?_
      refine g_goto 153 C (dat dt_X11_tells 82 rfl) (by decide) ?_
      exact wj_X11_tells_153_68 C    x1 x4 x6 s0 (fI h 81 24) (1 : Int32) v19.2 _ hrun Ks Ke
def b_X11_tells_68  (x1 : Int32) (x4 : Int64) (h : Hp) : Option ((Int64 × Hp) ⊕ (Int64 × Hp)) :=
  if (fI h 81 23) ≤ (fI h 81 22) then
  some (.inr ( (x4, h)))
  else
  (f_X11_codeAt (fI h 81 22) h).bind fun v7 =>
  if v7 = (1 : Int32) then
  (gr_C GD 0 (1 : Int32) (sF (sF h 81 24 (b2i false)) 81 22 ((fI (sF h 81 24 (b2i false)) 81 22) + (1 : Int32)))).bind fun v22 =>
  j_X11_tells_119_68  x1 x4 v7 v22.1 v22.2
  else
  j_X11_tells_119_68  x1 x4 v7 (1 : Int64) (sF (sF h 81 24 (b2i false)) 81 22 ((fI (sF h 81 24 (b2i false)) 81 22) + (1 : Int32)))
set_option maxRecDepth 20000 in
theorem wb_X11_tells_68 {X : Xt} (C : Cx X cn_11 prog_13_method_76_code 11 (some .int) 141 0 0)   (x1 : Int32) (x4 : Int64) (h : Hp) (q : (Int64 × Hp) ⊕ (Int64 × Hp)) (hrun : b_X11_tells_68  x1 x4 h = some q) (Ks : ∀ s, q = .inl s → kp_X11_tells_68  x1 X s) (Ke : ∀ e, q = .inr e → ke_X11_tells_68  x1 X e) : kp_X11_tells_68  x1 X (x4, h) := by
  show G X h 0 0 68 [(0, .ref 81), (1, .int x1), (4, .long x4)] []
  unfold b_X11_tells_68 at hrun
  refine g_aload_n C (dat dt_X11_tells 39 rfl) 0 rfl ?_
  refine g_getI C (dat dt_X11_tells 40 rfl) fl_11_291 kd_81 rfl ltk_81 ?_
  refine g_aload_n C (dat dt_X11_tells 41 rfl) 0 rfl ?_
  refine g_getI C (dat dt_X11_tells 42 rfl) fl_11_288 kd_81 rfl ltk_81 ?_
  refine g_ic_ge 221 C (dat dt_X11_tells 43 rfl) (by decide) (fun c6 => ?_) (fun c6 => ?_)
  · rw [if_pos c6] at hrun
    refine g_sub [2] (lv' := [(4, .long x4)]) rfl ?_
    cases hrun
    exact Ke ( (x4, h)) rfl
  · rw [if_neg c6] at hrun
    refine g_aload_n C (dat dt_X11_tells 44 rfl) 0 rfl ?_
    refine g_aload_n C (dat dt_X11_tells 45 rfl) 0 rfl ?_
    refine g_getI C (dat dt_X11_tells 46 rfl) fl_11_291 kd_81 rfl ltk_81 ?_
    obtain ⟨v7, q8, hrun⟩ := bd hrun
    refine g_cVi [.int (fI h 81 22)] C (dat dt_X11_tells 47 rfl) ml_11_294 (w_X11_codeAt (fI h 81 22) h v7  q8) kd_81 ltk_81 rfl rfl cat0 (by decide) c00 ?_
    refine g_istore (lv' := [(0, .ref 81), (1, .int x1), (4, .long x4), (6, .int v7)]) C (dat dt_X11_tells 48 rfl) (by decide) rfl ?_
    refine g_aload_n C (dat dt_X11_tells 49 rfl) 0 rfl ?_
    refine g_iconst C (dat dt_X11_tells 50 rfl) ic_0 ?_
    refine g_putZ (b := false) C (dat dt_X11_tells 51 rfl) fl_11_301 rfl kd_81 rfl ltk_81 ?_
    refine g_aload_n C (dat dt_X11_tells 52 rfl) 0 rfl ?_
    refine g_dup C (dat dt_X11_tells 53 rfl) rfl ?_
    refine g_getI C (dat dt_X11_tells 54 rfl) fl_11_291 kd_81 rfl ltk_81 ?_
    refine g_iconst C (dat dt_X11_tells 55 rfl) ic_1 ?_
    refine g_iadd C (dat dt_X11_tells 56 rfl) ?_
    refine g_putI C (dat dt_X11_tells 57 rfl) fl_11_291 rfl rfl kd_81 rfl ltk_81 ?_
    refine g_iload C (dat dt_X11_tells 58 rfl) 3 rfl ?_
    refine g_iconst C (dat dt_X11_tells 59 rfl) ic_1 ?_
    refine g_ic_ne 118 C (dat dt_X11_tells 60 rfl) (by decide) (fun c9 => ?_) (fun c9 => ?_)
    · rw [if_neg c9] at hrun
      refine g_lconst (v := 1) C (dat dt_X11_tells 65 rfl) rfl ?_
      exact wj_X11_tells_119_68 C    x1 x4 v7 (1 : Int64) (sF (sF h 81 24 (b2i false)) 81 22 ((fI (sF h 81 24 (b2i false)) 81 22) + (1 : Int32))) _ hrun Ks Ke
    · rw [if_pos c9] at hrun
      refine g_aload_n C (dat dt_X11_tells 61 rfl) 0 rfl ?_
      refine g_iconst C (dat dt_X11_tells 62 rfl) ic_1 ?_
      obtain ⟨v22, q23, hrun⟩ := bd hrun
      refine g_cVl [.int (1 : Int32)] C (dat dt_X11_tells 63 rfl) ml_11_318 ((w_gr_C GD).1 _ _ _ q23) kd_81 ltk_81 rfl rfl cat0 (by decide) c00 ?_
      refine g_goto 119 C (dat dt_X11_tells 64 rfl) (by decide) ?_
      exact wj_X11_tells_119_68 C    x1 x4 v7 v22.1 v22.2 _ hrun Ks Ke
def f_X11_tells (x1 : Int32) (x2 : Int32) (x3 : Int32) (h : Hp) : Option (Int32 × Hp) :=
  if (aI h 83 54) = (-1 : Int32) then
  some ((-1 : Int32), h)
  else
  (f_X11_setsAsked x2 x3 h).bind fun v2 =>
  (inb ((55 : Int32) + (aI (sF (sF v2.2 81 25 (b2i false)) 81 22 ((400 : Int32) * (aI (sF v2.2 81 25 (b2i false)) 83 54))) 83 54)) 5662).bind fun j4 =>
  (lp (fun s => b_X11_tells_68  x1 s.1 s.2) FU ((-1 : Int64), (sF (sF (sF v2.2 81 25 (b2i false)) 81 22 ((400 : Int32) * (aI (sF v2.2 81 25 (b2i false)) 83 54))) 81 23 ((fI (sF (sF v2.2 81 25 (b2i false)) 81 22 ((400 : Int32) * (aI (sF v2.2 81 25 (b2i false)) 83 54))) 81 22) + (aI (sF (sF v2.2 81 25 (b2i false)) 81 22 ((400 : Int32) * (aI (sF v2.2 81 25 (b2i false)) 83 54))) 83 j4))))).bind fun e24 =>
  some (e24.1.toInt32, e24.2)
set_option maxRecDepth 20000 in
theorem w_X11_tells (x1 : Int32) (x2 : Int32) (x3 : Int32) (h : Hp) (q : (Int32 × Hp))  (hrun : f_X11_tells x1 x2 x3 h = some q) : MetA ⟨"SteamNationsModel", "tells", "(III)I"⟩ prog_13_method_76_code 11 (some .int) 141 0 0 [.ref 81, .int x1, .int x2, .int x3] h (some (.int q.1)) q.2 := by
  refine metA_of (by decide) (Nat.le_of_ble_eq_true rfl) (fun X C K => ?_)
  have C : Cx X cn_11 prog_13_method_76_code 11 (some .int) 141 0 0 := C
  show G X h 0 0 0 [(0, .ref 81), (1, .int x1), (2, .int x2), (3, .int x3)] []
  unfold f_X11_tells at hrun
  refine g_aload_n C (dat dt_X11_tells 0 rfl) 0 rfl ?_
  refine g_getR C (dat dt_X11_tells 1 rfl) fl_11_28 kd_81 rfl ltk_81 ?_
  refine g_bipush C (dat dt_X11_tells 2 rfl) bp_54 ?_
  refine g_iald (j := 54) C (dat dt_X11_tells 3 rfl) kd_83 ltk_83 (show inb (54 : Int32) 5662 = some 54 by decide) ?_
  refine g_iconst C (dat dt_X11_tells 4 rfl) ic_m1 ?_
  refine g_ic_ne 13 C (dat dt_X11_tells 5 rfl) (by decide) (fun c1 => ?_) (fun c1 => ?_)
  · rw [if_neg c1] at hrun
    refine g_aload_n C (dat dt_X11_tells 8 rfl) 0 rfl ?_
    refine g_iload_n C (dat dt_X11_tells 9 rfl) 2 rfl ?_
    refine g_iload_n C (dat dt_X11_tells 10 rfl) 3 rfl ?_
    obtain ⟨v2, q3, hrun⟩ := bd hrun
    refine g_cVv [.int x2, .int x3] C (dat dt_X11_tells 11 rfl) ml_11_351 (w_X11_setsAsked x2 x3 h v2  q3) kd_81 ltk_81 rfl rfl cat0 (by decide) c00 ?_
    refine g_aload_n C (dat dt_X11_tells 12 rfl) 0 rfl ?_
    refine g_iconst C (dat dt_X11_tells 13 rfl) ic_0 ?_
    refine g_putZ (b := false) C (dat dt_X11_tells 14 rfl) fl_11_321 rfl kd_81 rfl ltk_81 ?_
    refine g_ldc2 C (dat dt_X11_tells 15 rfl) kc_11_354 ?_
    refine g_lstore (lv' := [(0, .ref 81), (1, .int x1), (2, .int x2), (3, .int x3), (4, .long (-1 : Int64))]) C (dat dt_X11_tells 16 rfl) (by decide) rfl ?_
    refine g_aload_n C (dat dt_X11_tells 17 rfl) 0 rfl ?_
    refine g_sipush C (dat dt_X11_tells 18 rfl) sp_400 ?_
    refine g_aload_n C (dat dt_X11_tells 19 rfl) 0 rfl ?_
    refine g_getR C (dat dt_X11_tells 20 rfl) fl_11_28 kd_81 rfl ltk_81 ?_
    refine g_bipush C (dat dt_X11_tells 21 rfl) bp_54 ?_
    refine g_iald (j := 54) C (dat dt_X11_tells 22 rfl) kd_83 ltk_83 (show inb (54 : Int32) 5662 = some 54 by decide) ?_
    refine g_imul C (dat dt_X11_tells 23 rfl) ?_
    refine g_putI C (dat dt_X11_tells 24 rfl) fl_11_291 rfl rfl kd_81 rfl ltk_81 ?_
    refine g_aload_n C (dat dt_X11_tells 25 rfl) 0 rfl ?_
    refine g_aload_n C (dat dt_X11_tells 26 rfl) 0 rfl ?_
    refine g_getI C (dat dt_X11_tells 27 rfl) fl_11_291 kd_81 rfl ltk_81 ?_
    refine g_aload_n C (dat dt_X11_tells 28 rfl) 0 rfl ?_
    refine g_getR C (dat dt_X11_tells 29 rfl) fl_11_28 kd_81 rfl ltk_81 ?_
    refine g_bipush C (dat dt_X11_tells 30 rfl) bp_55 ?_
    refine g_aload_n C (dat dt_X11_tells 31 rfl) 0 rfl ?_
    refine g_getR C (dat dt_X11_tells 32 rfl) fl_11_28 kd_81 rfl ltk_81 ?_
    refine g_bipush C (dat dt_X11_tells 33 rfl) bp_54 ?_
    refine g_iald (j := 54) C (dat dt_X11_tells 34 rfl) kd_83 ltk_83 (show inb (54 : Int32) 5662 = some 54 by decide) ?_
    refine g_iadd C (dat dt_X11_tells 35 rfl) ?_
    obtain ⟨j4, q5, hrun⟩ := bd hrun
    refine g_iald C (dat dt_X11_tells 36 rfl) kd_83 ltk_83 q5 ?_
    refine g_iadd C (dat dt_X11_tells 37 rfl) ?_
    refine g_putI C (dat dt_X11_tells 38 rfl) fl_11_288 rfl rfl kd_81 rfl ltk_81 ?_
    refine g_sub [0, 1, 4] (lv' := [(0, .ref 81), (1, .int x1), (4, .long (-1 : Int64))]) rfl ?_
    obtain ⟨e24, q25, hrun⟩ := bd hrun
    refine lp_ind (P := fun s => kp_X11_tells_68  x1 X s) (K := fun e => ke_X11_tells_68  x1 X e) (fun s q hb Ks Ke => wb_X11_tells_68 C   x1 s.1 s.2 q hb Ks Ke) FU ((-1 : Int64), (sF (sF (sF v2.2 81 25 (b2i false)) 81 22 ((400 : Int32) * (aI (sF v2.2 81 25 (b2i false)) 83 54))) 81 23 ((fI (sF (sF v2.2 81 25 (b2i false)) 81 22 ((400 : Int32) * (aI (sF v2.2 81 25 (b2i false)) 83 54))) 81 22) + (aI (sF (sF v2.2 81 25 (b2i false)) 81 22 ((400 : Int32) * (aI (sF v2.2 81 25 (b2i false)) 83 54))) 83 j4)))) e24 q25 ?_
    show G X e24.2 0 0 221 [(4, .long e24.1)] []
    refine g_lload C (dat dt_X11_tells 116 rfl) 0 rfl ?_
    refine g_l2i C (dat dt_X11_tells 117 rfl) ?_
    cases hrun
    exact g_iret C K (dat dt_X11_tells 118 rfl)
  · rw [if_pos c1] at hrun
    refine g_iconst C (dat dt_X11_tells 6 rfl) ic_m1 ?_
    cases hrun
    exact g_iret C K (dat dt_X11_tells 7 rfl)
/-! SteamNationsModel.of(II)I -/
def dl_X11_of : List (Nat × Instr × Nat) := [(0, .aload_n 0, 1), (1, .iload_n 1, 1), (2, .invokevirtual 147, 3), (5, .ifCond .ne 5, 3), (8, .iconst (-1), 1), (9, .ireturn, 1), (10, .iload_n 2, 1), (11, .tableswitch 130 0 7 #[45, 45, 45, 52, 62, 68, 74, 102], 45), (56, .aload_n 0, 1), (57, .iload_n 1, 1), (58, .iload_n 2, 1), (59, .invokevirtual 131, 3), (62, .ireturn, 1), (63, .aload_n 0, 1), (64, .getfield 28, 3), (67, .bipush 25, 2), (69, .iload_n 1, 1), (70, .iadd, 1), (71, .iaload, 1), (72, .ireturn, 1), (73, .aload_n 0, 1), (74, .iload_n 1, 1), (75, .invokevirtual 150, 3), (78, .ireturn, 1), (79, .aload_n 0, 1), (80, .iload_n 1, 1), (81, .invokevirtual 153, 3), (84, .ireturn, 1), (85, .aload_n 0, 1), (86, .iload_n 1, 1), (87, .invokevirtual 156, 3), (90, .ifCond .ne 7, 3), (93, .iconst (-1), 1), (94, .goto 18, 3), (97, .aload_n 0, 1), (98, .iconst 2, 1), (99, .iload_n 1, 1), (100, .iconst (-1), 1), (101, .invokevirtual 159, 3), (104, .ifCond .le 7, 3), (107, .iconst 1, 1), (108, .goto 4, 3), (111, .iconst 0, 1), (112, .ireturn, 1), (113, .aload_n 0, 1), (114, .iload_n 1, 1), (115, .invokevirtual 156, 3), (118, .ifCond .ne 7, 3), (121, .iconst (-1), 1), (122, .goto 18, 3), (125, .aload_n 0, 1), (126, .iconst 3, 1), (127, .iload_n 1, 1), (128, .iconst (-1), 1), (129, .invokevirtual 159, 3), (132, .ifCond .le 7, 3), (135, .iconst 1, 1), (136, .goto 4, 3), (139, .iconst 0, 1), (140, .ireturn, 1), (141, .iconst (-1), 1), (142, .ireturn, 1)]
set_option maxRecDepth 20000 in
theorem dt_X11_of : ∀ q ∈ dl_X11_of, decode prog_13_method_27_code q.1 = .ok q.2 := by decide +kernel
def j_X11_of_56  (x1 : Int32) (x2 : Int32) (h : Hp) : Option (Int32 × Hp) :=
  (f_X11_partsOf x1 x2 h).bind fun v7 =>
  some (v7, h)
set_option maxRecDepth 20000 in
theorem wj_X11_of_56 {X : Xt} (C : Cx X cn_11 prog_13_method_27_code 3 (some .int) 142 0 0)    (x1 : Int32) (x2 : Int32) (h : Hp) (q : (Int32 × Hp)) (hrun : j_X11_of_56  x1 x2 h = some q) (K : EndQ X 0 0 (some (.int q.1)) q.2) : G X h 0 0 56 [(0, .ref 81), (1, .int x1), (2, .int x2)] [] := by
  unfold j_X11_of_56 at hrun
  refine g_aload_n C (dat dt_X11_of 8 rfl) 0 rfl ?_
  refine g_iload_n C (dat dt_X11_of 9 rfl) 1 rfl ?_
  refine g_iload_n C (dat dt_X11_of 10 rfl) 2 rfl ?_
  obtain ⟨v7, q8, hrun⟩ := bd hrun
  refine g_cVi [.int x1, .int x2] C (dat dt_X11_of 11 rfl) ml_11_131 (w_X11_partsOf x1 x2 h v7  q8) kd_81 ltk_81 rfl rfl cat0 (by decide) c00 ?_
  cases hrun
  exact g_iret C K (dat dt_X11_of 12 rfl)
def f_X11_of (x1 : Int32) (x2 : Int32) (h : Hp) : Option (Int32 × Hp) :=
  (f_X11_isSitter x1 h).bind fun v1 =>
  if v1 = true then
  if x2.toInt < (0 : Int) ∨ (7 : Int) < x2.toInt then
  some ((-1 : Int32), h)
  else if (x2.toInt - (0 : Int)).toNat = 0 then
  j_X11_of_56  x1 x2 h
  else if (x2.toInt - (0 : Int)).toNat = 1 then
  j_X11_of_56  x1 x2 h
  else if (x2.toInt - (0 : Int)).toNat = 2 then
  j_X11_of_56  x1 x2 h
  else if (x2.toInt - (0 : Int)).toNat = 3 then
  (inb ((25 : Int32) + x1) 5662).bind fun j9 =>
  some ((aI h 83 j9), h)
  else if (x2.toInt - (0 : Int)).toNat = 4 then
  (f_X11_seatOf x1 h).bind fun v11 =>
  some (v11, h)
  else if (x2.toInt - (0 : Int)).toNat = 5 then
  (f_X11_nationOf x1 h).bind fun v13 =>
  some (v13, h)
  else if (x2.toInt - (0 : Int)).toNat = 6 then
  (f_X11_isInside x1 h).bind fun v15 =>
  if v15 = true then
  (f_X11_tells (2 : Int32) x1 (-1 : Int32) h).bind fun v18 =>
  if v18.1 ≤ 0 then
  some ((0 : Int32), v18.2)
  else
  some ((1 : Int32), v18.2)
  else
  some ((-1 : Int32), h)
  else if (x2.toInt - (0 : Int)).toNat = 7 then
  (f_X11_isInside x1 h).bind fun v21 =>
  if v21 = true then
  (f_X11_tells (3 : Int32) x1 (-1 : Int32) h).bind fun v24 =>
  if v24.1 ≤ 0 then
  some ((0 : Int32), v24.2)
  else
  some ((1 : Int32), v24.2)
  else
  some ((-1 : Int32), h)
  else none
  else
  some ((-1 : Int32), h)
set_option maxRecDepth 20000 in
theorem w_X11_of (x1 : Int32) (x2 : Int32) (h : Hp) (q : (Int32 × Hp))  (hrun : f_X11_of x1 x2 h = some q) : MetA ⟨"SteamNationsModel", "of", "(II)I"⟩ prog_13_method_27_code 3 (some .int) 142 0 0 [.ref 81, .int x1, .int x2] h (some (.int q.1)) q.2 := by
  refine metA_of (by decide) (Nat.le_of_ble_eq_true rfl) (fun X C K => ?_)
  have C : Cx X cn_11 prog_13_method_27_code 3 (some .int) 142 0 0 := C
  show G X h 0 0 0 [(0, .ref 81), (1, .int x1), (2, .int x2)] []
  unfold f_X11_of at hrun
  refine g_aload_n C (dat dt_X11_of 0 rfl) 0 rfl ?_
  refine g_iload_n C (dat dt_X11_of 1 rfl) 1 rfl ?_
  obtain ⟨v1, q2, hrun⟩ := bd hrun
  refine g_cVi [.int x1] C (dat dt_X11_of 2 rfl) ml_11_147 (w_X11_isSitter x1 h v1  q2) kd_81 ltk_81 rfl rfl cat0 (by decide) c00 ?_
  refine g_if_ne 10 C (dat dt_X11_of 3 rfl) (by decide) (fun c3 => ?_) (fun c3 => ?_)
  · rw [if_pos (b2i_nz c3)] at hrun
    refine g_iload_n C (dat dt_X11_of 6 rfl) 2 rfl ?_
    by_cases c4 : x2.toInt < (0 : Int) ∨ (7 : Int) < x2.toInt
    · rw [if_pos c4] at hrun
      refine g_tabO 141 C (dat dt_X11_of 7 rfl) c4 (by decide) ?_
      refine g_iconst C (dat dt_X11_of 60 rfl) ic_m1 ?_
      cases hrun
      exact g_iret C K (dat dt_X11_of 61 rfl)
    · rw [if_neg c4] at hrun
      by_cases c34 : (x2.toInt - (0 : Int)).toNat = 0
      · rw [if_pos c34] at hrun
        refine g_tabI 56 C (dat dt_X11_of 7 rfl) c4 c34.symm rfl (by decide) ?_
        exact wj_X11_of_56 C    x1 x2 h _ hrun K
      · rw [if_neg c34] at hrun
        by_cases c33 : (x2.toInt - (0 : Int)).toNat = 1
        · rw [if_pos c33] at hrun
          refine g_tabI 56 C (dat dt_X11_of 7 rfl) c4 c33.symm rfl (by decide) ?_
          exact wj_X11_of_56 C    x1 x2 h _ hrun K
        · rw [if_neg c33] at hrun
          by_cases c32 : (x2.toInt - (0 : Int)).toNat = 2
          · rw [if_pos c32] at hrun
            refine g_tabI 56 C (dat dt_X11_of 7 rfl) c4 c32.symm rfl (by decide) ?_
            exact wj_X11_of_56 C    x1 x2 h _ hrun K
          · rw [if_neg c32] at hrun
            by_cases c31 : (x2.toInt - (0 : Int)).toNat = 3
            · rw [if_pos c31] at hrun
              refine g_tabI 63 C (dat dt_X11_of 7 rfl) c4 c31.symm rfl (by decide) ?_
              refine g_aload_n C (dat dt_X11_of 13 rfl) 0 rfl ?_
              refine g_getR C (dat dt_X11_of 14 rfl) fl_11_28 kd_81 rfl ltk_81 ?_
              refine g_bipush C (dat dt_X11_of 15 rfl) bp_25 ?_
              refine g_iload_n C (dat dt_X11_of 16 rfl) 1 rfl ?_
              refine g_iadd C (dat dt_X11_of 17 rfl) ?_
              obtain ⟨j9, q10, hrun⟩ := bd hrun
              refine g_iald C (dat dt_X11_of 18 rfl) kd_83 ltk_83 q10 ?_
              cases hrun
              exact g_iret C K (dat dt_X11_of 19 rfl)
            · rw [if_neg c31] at hrun
              by_cases c30 : (x2.toInt - (0 : Int)).toNat = 4
              · rw [if_pos c30] at hrun
                refine g_tabI 73 C (dat dt_X11_of 7 rfl) c4 c30.symm rfl (by decide) ?_
                refine g_aload_n C (dat dt_X11_of 20 rfl) 0 rfl ?_
                refine g_iload_n C (dat dt_X11_of 21 rfl) 1 rfl ?_
                obtain ⟨v11, q12, hrun⟩ := bd hrun
                refine g_cVi [.int x1] C (dat dt_X11_of 22 rfl) ml_11_150 (w_X11_seatOf x1 h v11  q12) kd_81 ltk_81 rfl rfl cat0 (by decide) c00 ?_
                cases hrun
                exact g_iret C K (dat dt_X11_of 23 rfl)
              · rw [if_neg c30] at hrun
                by_cases c29 : (x2.toInt - (0 : Int)).toNat = 5
                · rw [if_pos c29] at hrun
                  refine g_tabI 79 C (dat dt_X11_of 7 rfl) c4 c29.symm rfl (by decide) ?_
                  refine g_aload_n C (dat dt_X11_of 24 rfl) 0 rfl ?_
                  refine g_iload_n C (dat dt_X11_of 25 rfl) 1 rfl ?_
                  obtain ⟨v13, q14, hrun⟩ := bd hrun
                  refine g_cVi [.int x1] C (dat dt_X11_of 26 rfl) ml_11_153 (w_X11_nationOf x1 h v13  q14) kd_81 ltk_81 rfl rfl cat0 (by decide) c00 ?_
                  cases hrun
                  exact g_iret C K (dat dt_X11_of 27 rfl)
                · rw [if_neg c29] at hrun
                  by_cases c28 : (x2.toInt - (0 : Int)).toNat = 6
                  · rw [if_pos c28] at hrun
                    refine g_tabI 85 C (dat dt_X11_of 7 rfl) c4 c28.symm rfl (by decide) ?_
                    refine g_aload_n C (dat dt_X11_of 28 rfl) 0 rfl ?_
                    refine g_iload_n C (dat dt_X11_of 29 rfl) 1 rfl ?_
                    obtain ⟨v15, q16, hrun⟩ := bd hrun
                    refine g_cVi [.int x1] C (dat dt_X11_of 30 rfl) ml_11_156 (w_X11_isInside x1 h v15  q16) kd_81 ltk_81 rfl rfl cat0 (by decide) c00 ?_
                    refine g_if_ne 97 C (dat dt_X11_of 31 rfl) (by decide) (fun c17 => ?_) (fun c17 => ?_)
                    · rw [if_pos (b2i_nz c17)] at hrun
                      refine g_aload_n C (dat dt_X11_of 34 rfl) 0 rfl ?_
                      refine g_iconst C (dat dt_X11_of 35 rfl) ic_2 ?_
                      refine g_iload_n C (dat dt_X11_of 36 rfl) 1 rfl ?_
                      refine g_iconst C (dat dt_X11_of 37 rfl) ic_m1 ?_
                      obtain ⟨v18, q19, hrun⟩ := bd hrun
                      refine g_cVi [.int (2 : Int32), .int x1, .int (-1 : Int32)] C (dat dt_X11_of 38 rfl) ml_11_159 (w_X11_tells (2 : Int32) x1 (-1 : Int32) h v18  q19) kd_81 ltk_81 rfl rfl cat0 (by decide) c00 ?_
                      refine g_if_le 111 C (dat dt_X11_of 39 rfl) (by decide) (fun c20 => ?_) (fun c20 => ?_)
                      · rw [if_pos c20] at hrun
                        refine g_iconst C (dat dt_X11_of 42 rfl) ic_0 ?_
                        cases hrun
                        exact g_iret C K (dat dt_X11_of 43 rfl)
                      · rw [if_neg c20] at hrun
                        refine g_iconst C (dat dt_X11_of 40 rfl) ic_1 ?_
                        refine g_goto 112 C (dat dt_X11_of 41 rfl) (by decide) ?_
                        cases hrun
                        exact g_iret C K (dat dt_X11_of 43 rfl)
                    · rw [if_neg (b2i_z c17)] at hrun
                      refine g_iconst C (dat dt_X11_of 32 rfl) ic_m1 ?_
                      refine g_goto 112 C (dat dt_X11_of 33 rfl) (by decide) ?_
                      cases hrun
                      exact g_iret C K (dat dt_X11_of 43 rfl)
                  · rw [if_neg c28] at hrun
                    by_cases c27 : (x2.toInt - (0 : Int)).toNat = 7
                    · rw [if_pos c27] at hrun
                      refine g_tabI 113 C (dat dt_X11_of 7 rfl) c4 c27.symm rfl (by decide) ?_
                      refine g_aload_n C (dat dt_X11_of 44 rfl) 0 rfl ?_
                      refine g_iload_n C (dat dt_X11_of 45 rfl) 1 rfl ?_
                      obtain ⟨v21, q22, hrun⟩ := bd hrun
                      refine g_cVi [.int x1] C (dat dt_X11_of 46 rfl) ml_11_156 (w_X11_isInside x1 h v21  q22) kd_81 ltk_81 rfl rfl cat0 (by decide) c00 ?_
                      refine g_if_ne 125 C (dat dt_X11_of 47 rfl) (by decide) (fun c23 => ?_) (fun c23 => ?_)
                      · rw [if_pos (b2i_nz c23)] at hrun
                        refine g_aload_n C (dat dt_X11_of 50 rfl) 0 rfl ?_
                        refine g_iconst C (dat dt_X11_of 51 rfl) ic_3 ?_
                        refine g_iload_n C (dat dt_X11_of 52 rfl) 1 rfl ?_
                        refine g_iconst C (dat dt_X11_of 53 rfl) ic_m1 ?_
                        obtain ⟨v24, q25, hrun⟩ := bd hrun
                        refine g_cVi [.int (3 : Int32), .int x1, .int (-1 : Int32)] C (dat dt_X11_of 54 rfl) ml_11_159 (w_X11_tells (3 : Int32) x1 (-1 : Int32) h v24  q25) kd_81 ltk_81 rfl rfl cat0 (by decide) c00 ?_
                        refine g_if_le 139 C (dat dt_X11_of 55 rfl) (by decide) (fun c26 => ?_) (fun c26 => ?_)
                        · rw [if_pos c26] at hrun
                          refine g_iconst C (dat dt_X11_of 58 rfl) ic_0 ?_
                          cases hrun
                          exact g_iret C K (dat dt_X11_of 59 rfl)
                        · rw [if_neg c26] at hrun
                          refine g_iconst C (dat dt_X11_of 56 rfl) ic_1 ?_
                          refine g_goto 140 C (dat dt_X11_of 57 rfl) (by decide) ?_
                          cases hrun
                          exact g_iret C K (dat dt_X11_of 59 rfl)
                      · rw [if_neg (b2i_z c23)] at hrun
                        refine g_iconst C (dat dt_X11_of 48 rfl) ic_m1 ?_
                        refine g_goto 140 C (dat dt_X11_of 49 rfl) (by decide) ?_
                        cases hrun
                        exact g_iret C K (dat dt_X11_of 59 rfl)
                    · rw [if_neg c27] at hrun
                      cases hrun
  · rw [if_neg (b2i_z c3)] at hrun
    refine g_iconst C (dat dt_X11_of 4 rfl) ic_m1 ?_
    cases hrun
    exact g_iret C K (dat dt_X11_of 5 rfl)
/-! SteamNationsModel.givesTo(II)I -/
def dl_X11_givesTo : List (Nat × Instr × Nat) := [(0, .aload_n 0, 1), (1, .iconst 1, 1), (2, .iload_n 1, 1), (3, .iload_n 2, 1), (4, .invokevirtual 159, 3), (7, .istore_n 3, 1), (8, .iload_n 3, 1), (9, .iconst (-1), 1), (10, .if_icmp .ne 7, 3), (13, .iconst 1, 1), (14, .goto 4, 3), (17, .iload_n 3, 1), (18, .ireturn, 1)]
set_option maxRecDepth 20000 in
theorem dt_X11_givesTo : ∀ q ∈ dl_X11_givesTo, decode prog_13_method_77_code q.1 = .ok q.2 := by decide +kernel
def f_X11_givesTo (x1 : Int32) (x2 : Int32) (h : Hp) : Option (Int32 × Hp) :=
  (f_X11_tells (1 : Int32) x1 x2 h).bind fun v1 =>
  if v1.1 = (-1 : Int32) then
  some ((1 : Int32), v1.2)
  else
  some (v1.1, v1.2)
set_option maxRecDepth 20000 in
theorem w_X11_givesTo (x1 : Int32) (x2 : Int32) (h : Hp) (q : (Int32 × Hp))  (hrun : f_X11_givesTo x1 x2 h = some q) : MetA ⟨"SteamNationsModel", "givesTo", "(II)I"⟩ prog_13_method_77_code 4 (some .int) 142 0 0 [.ref 81, .int x1, .int x2] h (some (.int q.1)) q.2 := by
  refine metA_of (by decide) (Nat.le_of_ble_eq_true rfl) (fun X C K => ?_)
  have C : Cx X cn_11 prog_13_method_77_code 4 (some .int) 142 0 0 := C
  show G X h 0 0 0 [(0, .ref 81), (1, .int x1), (2, .int x2)] []
  unfold f_X11_givesTo at hrun
  refine g_aload_n C (dat dt_X11_givesTo 0 rfl) 0 rfl ?_
  refine g_iconst C (dat dt_X11_givesTo 1 rfl) ic_1 ?_
  refine g_iload_n C (dat dt_X11_givesTo 2 rfl) 1 rfl ?_
  refine g_iload_n C (dat dt_X11_givesTo 3 rfl) 2 rfl ?_
  obtain ⟨v1, q2, hrun⟩ := bd hrun
  refine g_cVi [.int (1 : Int32), .int x1, .int x2] C (dat dt_X11_givesTo 4 rfl) ml_11_159 (w_X11_tells (1 : Int32) x1 x2 h v1  q2) kd_81 ltk_81 rfl rfl cat0 (by decide) c00 ?_
  refine g_istore_n (lv' := [(0, .ref 81), (1, .int x1), (2, .int x2), (3, .int v1.1)]) C (dat dt_X11_givesTo 5 rfl) (by decide) rfl ?_
  refine g_iload_n C (dat dt_X11_givesTo 6 rfl) 3 rfl ?_
  refine g_iconst C (dat dt_X11_givesTo 7 rfl) ic_m1 ?_
  refine g_ic_ne 17 C (dat dt_X11_givesTo 8 rfl) (by decide) (fun c3 => ?_) (fun c3 => ?_)
  · rw [if_neg c3] at hrun
    refine g_iload_n C (dat dt_X11_givesTo 11 rfl) 3 rfl ?_
    cases hrun
    exact g_iret C K (dat dt_X11_givesTo 12 rfl)
  · rw [if_pos c3] at hrun
    refine g_iconst C (dat dt_X11_givesTo 9 rfl) ic_1 ?_
    refine g_goto 18 C (dat dt_X11_givesTo 10 rfl) (by decide) ?_
    cases hrun
    exact g_iret C K (dat dt_X11_givesTo 12 rfl)
/-! SteamNationsModel.asks(II)I -/
def dl_X11_asks : List (Nat × Instr × Nat) := [(0, .aload_n 0, 1), (1, .iload_n 1, 1), (2, .invokevirtual 147, 3), (5, .ifCond .eq 43, 3), (8, .aload_n 0, 1), (9, .iload_n 2, 1), (10, .invokevirtual 147, 3), (13, .ifCond .eq 35, 3), (16, .aload_n 0, 1), (17, .iload_n 1, 1), (18, .invokevirtual 156, 3), (21, .ifCond .eq 27, 3), (24, .aload_n 0, 1), (25, .iload_n 2, 1), (26, .invokevirtual 156, 3), (29, .ifCond .eq 19, 3), (32, .aload_n 0, 1), (33, .iload_n 1, 1), (34, .invokevirtual 150, 3), (37, .aload_n 0, 1), (38, .iload_n 2, 1), (39, .invokevirtual 150, 3), (42, .invokestatic 169, 3), (45, .ifCond .ne 5, 3), (48, .iconst (-1), 1), (49, .ireturn, 1), (50, .aload_n 0, 1), (51, .iload_n 1, 1), (52, .iload_n 2, 1), (53, .invokevirtual 173, 3), (56, .ireturn, 1)]
set_option maxRecDepth 20000 in
theorem dt_X11_asks : ∀ q ∈ dl_X11_asks, decode prog_13_method_29_code q.1 = .ok q.2 := by decide +kernel
def f_X11_asks (x1 : Int32) (x2 : Int32) (h : Hp) : Option (Int32 × Hp) :=
  (f_X11_isSitter x1 h).bind fun v1 =>
  if v1 = true then
  (f_X11_isSitter x2 h).bind fun v4 =>
  if v4 = true then
  (f_X11_isInside x1 h).bind fun v7 =>
  if v7 = true then
  (f_X11_isInside x2 h).bind fun v10 =>
  if v10 = true then
  (f_X11_seatOf x1 h).bind fun v13 =>
  (f_X11_seatOf x2 h).bind fun v15 =>
  (f_X11_areBeside v13 v15).bind fun v17 =>
  if v17 = true then
  (f_X11_givesTo x1 x2 h).bind fun v20 =>
  some (v20.1, v20.2)
  else
  some ((-1 : Int32), h)
  else
  some ((-1 : Int32), h)
  else
  some ((-1 : Int32), h)
  else
  some ((-1 : Int32), h)
  else
  some ((-1 : Int32), h)
set_option maxRecDepth 20000 in
theorem w_X11_asks (x1 : Int32) (x2 : Int32) (h : Hp) (q : (Int32 × Hp))  (hrun : f_X11_asks x1 x2 h = some q) : MetA ⟨"SteamNationsModel", "asks", "(II)I"⟩ prog_13_method_29_code 3 (some .int) 143 0 0 [.ref 81, .int x1, .int x2] h (some (.int q.1)) q.2 := by
  refine metA_of (by decide) (Nat.le_of_ble_eq_true rfl) (fun X C K => ?_)
  have C : Cx X cn_11 prog_13_method_29_code 3 (some .int) 143 0 0 := C
  show G X h 0 0 0 [(0, .ref 81), (1, .int x1), (2, .int x2)] []
  unfold f_X11_asks at hrun
  refine g_aload_n C (dat dt_X11_asks 0 rfl) 0 rfl ?_
  refine g_iload_n C (dat dt_X11_asks 1 rfl) 1 rfl ?_
  obtain ⟨v1, q2, hrun⟩ := bd hrun
  refine g_cVi [.int x1] C (dat dt_X11_asks 2 rfl) ml_11_147 (w_X11_isSitter x1 h v1  q2) kd_81 ltk_81 rfl rfl cat0 (by decide) c00 ?_
  refine g_if_eq 48 C (dat dt_X11_asks 3 rfl) (by decide) (fun c3 => ?_) (fun c3 => ?_)
  · rw [if_neg (b2i_z c3)] at hrun
    refine g_iconst C (dat dt_X11_asks 24 rfl) ic_m1 ?_
    cases hrun
    exact g_iret C K (dat dt_X11_asks 25 rfl)
  · rw [if_pos (b2i_nz c3)] at hrun
    refine g_aload_n C (dat dt_X11_asks 4 rfl) 0 rfl ?_
    refine g_iload_n C (dat dt_X11_asks 5 rfl) 2 rfl ?_
    obtain ⟨v4, q5, hrun⟩ := bd hrun
    refine g_cVi [.int x2] C (dat dt_X11_asks 6 rfl) ml_11_147 (w_X11_isSitter x2 h v4  q5) kd_81 ltk_81 rfl rfl cat0 (by decide) c00 ?_
    refine g_if_eq 48 C (dat dt_X11_asks 7 rfl) (by decide) (fun c6 => ?_) (fun c6 => ?_)
    · rw [if_neg (b2i_z c6)] at hrun
      refine g_iconst C (dat dt_X11_asks 24 rfl) ic_m1 ?_
      cases hrun
      exact g_iret C K (dat dt_X11_asks 25 rfl)
    · rw [if_pos (b2i_nz c6)] at hrun
      refine g_aload_n C (dat dt_X11_asks 8 rfl) 0 rfl ?_
      refine g_iload_n C (dat dt_X11_asks 9 rfl) 1 rfl ?_
      obtain ⟨v7, q8, hrun⟩ := bd hrun
      refine g_cVi [.int x1] C (dat dt_X11_asks 10 rfl) ml_11_156 (w_X11_isInside x1 h v7  q8) kd_81 ltk_81 rfl rfl cat0 (by decide) c00 ?_
      refine g_if_eq 48 C (dat dt_X11_asks 11 rfl) (by decide) (fun c9 => ?_) (fun c9 => ?_)
      · rw [if_neg (b2i_z c9)] at hrun
        refine g_iconst C (dat dt_X11_asks 24 rfl) ic_m1 ?_
        cases hrun
        exact g_iret C K (dat dt_X11_asks 25 rfl)
      · rw [if_pos (b2i_nz c9)] at hrun
        refine g_aload_n C (dat dt_X11_asks 12 rfl) 0 rfl ?_
        refine g_iload_n C (dat dt_X11_asks 13 rfl) 2 rfl ?_
        obtain ⟨v10, q11, hrun⟩ := bd hrun
        refine g_cVi [.int x2] C (dat dt_X11_asks 14 rfl) ml_11_156 (w_X11_isInside x2 h v10  q11) kd_81 ltk_81 rfl rfl cat0 (by decide) c00 ?_
        refine g_if_eq 48 C (dat dt_X11_asks 15 rfl) (by decide) (fun c12 => ?_) (fun c12 => ?_)
        · rw [if_neg (b2i_z c12)] at hrun
          refine g_iconst C (dat dt_X11_asks 24 rfl) ic_m1 ?_
          cases hrun
          exact g_iret C K (dat dt_X11_asks 25 rfl)
        · rw [if_pos (b2i_nz c12)] at hrun
          refine g_aload_n C (dat dt_X11_asks 16 rfl) 0 rfl ?_
          refine g_iload_n C (dat dt_X11_asks 17 rfl) 1 rfl ?_
          obtain ⟨v13, q14, hrun⟩ := bd hrun
          refine g_cVi [.int x1] C (dat dt_X11_asks 18 rfl) ml_11_150 (w_X11_seatOf x1 h v13  q14) kd_81 ltk_81 rfl rfl cat0 (by decide) c00 ?_
          refine g_aload_n C (dat dt_X11_asks 19 rfl) 0 rfl ?_
          refine g_iload_n C (dat dt_X11_asks 20 rfl) 2 rfl ?_
          obtain ⟨v15, q16, hrun⟩ := bd hrun
          refine g_cVi [.int x2] C (dat dt_X11_asks 21 rfl) ml_11_150 (w_X11_seatOf x2 h v15  q16) kd_81 ltk_81 rfl rfl (Nat.le_of_ble_eq_true rfl) (by decide) c00 ?_
          obtain ⟨v17, q18, hrun⟩ := bd hrun
          refine g_cSi [.int v13, .int v15] C (dat dt_X11_asks 22 rfl) ml_11_169 (w_X11_areBeside v13 v15 h v17  q18) rfl rfl cat0 (by decide) c00 ?_
          refine g_if_ne 50 C (dat dt_X11_asks 23 rfl) (by decide) (fun c19 => ?_) (fun c19 => ?_)
          · rw [if_pos (b2i_nz c19)] at hrun
            refine g_aload_n C (dat dt_X11_asks 26 rfl) 0 rfl ?_
            refine g_iload_n C (dat dt_X11_asks 27 rfl) 1 rfl ?_
            refine g_iload_n C (dat dt_X11_asks 28 rfl) 2 rfl ?_
            obtain ⟨v20, q21, hrun⟩ := bd hrun
            refine g_cVi [.int x1, .int x2] C (dat dt_X11_asks 29 rfl) ml_11_173 (w_X11_givesTo x1 x2 h v20  q21) kd_81 ltk_81 rfl rfl cat0 (by decide) c00 ?_
            cases hrun
            exact g_iret C K (dat dt_X11_asks 30 rfl)
          · rw [if_neg (b2i_z c19)] at hrun
            refine g_iconst C (dat dt_X11_asks 24 rfl) ic_m1 ?_
            cases hrun
            exact g_iret C K (dat dt_X11_asks 25 rfl)
/-! SteamNations$Reader.readOrder(I)Z -/
def dl_X5_readOrder : List (Nat × Instr × Nat) := [(0, .aload_n 0, 1), (1, .getfield 71, 3), (4, .istore_n 2, 1), (5, .iload_n 2, 1), (6, .bipush 16, 2), (8, .if_icmp .eq 26, 3), (11, .iload_n 2, 1), (12, .bipush 17, 2), (14, .if_icmp .eq 20, 3), (17, .iload_n 2, 1), (18, .bipush 18, 2), (20, .if_icmp .eq 14, 3), (23, .iload_n 2, 1), (24, .bipush 19, 2), (26, .if_icmp .eq 8, 3), (29, .aload_n 0, 1), (30, .invokevirtual 87, 3), (33, .ireturn, 1), (34, .aload_n 0, 1), (35, .invokevirtual 58, 3), (38, .aload_n 0, 1), (39, .iload_n 1, 1), (40, .iconst 0, 1), (41, .iload_n 2, 1), (42, .invokevirtual 116, 3), (45, .aload_n 0, 1), (46, .iload_n 1, 1), (47, .iconst 2, 1), (48, .aload_n 0, 1), (49, .getfield 39, 3), (52, .invokevirtual 116, 3), (55, .iload_n 2, 1), (56, .bipush 19, 2), (58, .if_icmp .eq 13, 3), (61, .aload_n 0, 1), (62, .iconst 0, 1), (63, .invokevirtual 120, 3), (66, .ifCond .ne 5, 3), (69, .iconst 0, 1), (70, .ireturn, 1), (71, .aload_n 0, 1), (72, .iload_n 1, 1), (73, .iconst 3, 1), (74, .aload_n 0, 1), (75, .getfield 39, 3), (78, .invokevirtual 116, 3), (81, .iload_n 2, 1), (82, .bipush 16, 2), (84, .if_icmp .eq 9, 3), (87, .iload_n 2, 1), (88, .bipush 18, 2), (90, .if_icmp .ne 38, 3), (93, .aload_n 0, 1), (94, .iload_n 2, 1), (95, .bipush 16, 2), (97, .if_icmp .ne 8, 3), (100, .bipush 20, 2), (102, .goto 5, 3), (105, .bipush 21, 2), (107, .invokevirtual 123, 3), (110, .ifCond .ne 8, 3), (113, .aload_n 0, 1), (114, .invokevirtual 87, 3), (117, .ireturn, 1), (118, .aload_n 0, 1), (119, .iconst 0, 1), (120, .invokevirtual 120, 3), (123, .ifCond .ne 5, 3), (126, .iconst 0, 1), (127, .ireturn, 1), (128, .aload_n 0, 1), (129, .iload_n 1, 1), (130, .invokevirtual 126, 3), (133, .ireturn, 1)]
set_option maxRecDepth 20000 in
theorem dt_X5_readOrder : ∀ q ∈ dl_X5_readOrder, decode prog_7_method_9_code q.1 = .ok q.2 := by decide +kernel
def j_X5_readOrder_128  (x1 : Int32) (h : Hp) : Option (Bool × Hp) :=
  (f_X5_readTimes x1 h).bind fun v19 =>
  some (v19.1, v19.2)
set_option maxRecDepth 20000 in
theorem wj_X5_readOrder_128 {X : Xt} (C : Cx X cn_5 prog_7_method_9_code 3 (some .boolean) 71 0 0)    (x1 : Int32) (h : Hp) (q : (Bool × Hp)) (hrun : j_X5_readOrder_128  x1 h = some q) (K : EndQ X 0 0 (some (.int (b2i q.1))) q.2) : G X h 0 0 128 [(0, .ref 4), (1, .int x1)] [] := by
  unfold j_X5_readOrder_128 at hrun
  refine g_aload_n C (dat dt_X5_readOrder 70 rfl) 0 rfl ?_
  refine g_iload_n C (dat dt_X5_readOrder 71 rfl) 1 rfl ?_
  obtain ⟨v19, q20, hrun⟩ := bd hrun
  refine g_cVi [.int x1] C (dat dt_X5_readOrder 72 rfl) ml_5_126 (w_X5_readTimes x1 h v19  q20) kd_4 ltk_4 rfl rfl cat0 (by decide) c00 ?_
  cases hrun
  exact g_zret C K rfl (dat dt_X5_readOrder 73 rfl)
def j_X5_readOrder_107  (x1 : Int32) (s1 : Int32) (h : Hp) : Option (Bool × Hp) :=
  (f_X5_takeIf s1 h).bind fun v13 =>
  if v13.1 = true then
  (gr_A GD 4 (0 : Int32) v13.2).bind fun v16 =>
  if v16.1 = true then
  j_X5_readOrder_128  x1 v16.2
  else
  some (false, v16.2)
  else
  (f_X5_wrong  v13.2).bind fun v21 =>
  some (v21.1, v21.2)
set_option maxRecDepth 20000 in
theorem wj_X5_readOrder_107 {X : Xt} (C : Cx X cn_5 prog_7_method_9_code 3 (some .boolean) 71 0 0)    (x1 : Int32) (s1 : Int32) (h : Hp) (q : (Bool × Hp)) (hrun : j_X5_readOrder_107  x1 s1 h = some q) (K : EndQ X 0 0 (some (.int (b2i q.1))) q.2) : G X h 0 0 107 [(0, .ref 4), (1, .int x1)] [.int s1, .ref 4] := by
  unfold j_X5_readOrder_107 at hrun
  obtain ⟨v13, q14, hrun⟩ := bd hrun
  refine g_cVi [.int s1] C (dat dt_X5_readOrder 59 rfl) ml_5_123 (w_X5_takeIf s1 h v13  q14) kd_4 ltk_4 rfl rfl cat0 (by decide) c00 ?_
  refine g_if_ne 118 C (dat dt_X5_readOrder 60 rfl) (by decide) (fun c15 => ?_) (fun c15 => ?_)
  · rw [if_pos (b2i_nz c15)] at hrun
    refine g_aload_n C (dat dt_X5_readOrder 64 rfl) 0 rfl ?_
    refine g_iconst C (dat dt_X5_readOrder 65 rfl) ic_0 ?_
    obtain ⟨v16, q17, hrun⟩ := bd hrun
    refine g_cVi [.int (0 : Int32)] C (dat dt_X5_readOrder 66 rfl) ml_5_120 ((w_gr_A GD).2.2.2.2.1 _ _ _ q17) kd_4 ltk_4 rfl rfl cat0 (by decide) c00 ?_
    refine g_if_ne 128 C (dat dt_X5_readOrder 67 rfl) (by decide) (fun c18 => ?_) (fun c18 => ?_)
    · rw [if_pos (b2i_nz c18)] at hrun
      exact wj_X5_readOrder_128 C    x1 v16.2 _ hrun K
    · rw [if_neg (b2i_z c18)] at hrun
      refine g_iconst C (dat dt_X5_readOrder 68 rfl) ic_0 ?_
      cases hrun
      exact g_zret C K (show (0 : Int32) = b2i false by decide) (dat dt_X5_readOrder 69 rfl)
  · rw [if_neg (b2i_z c15)] at hrun
    refine g_aload_n C (dat dt_X5_readOrder 61 rfl) 0 rfl ?_
    obtain ⟨v21, q22, hrun⟩ := bd hrun
    refine g_cVi [] C (dat dt_X5_readOrder 62 rfl) ml_5_87 (w_X5_wrong  v13.2 v21  q22) kd_4 ltk_4 rfl rfl cat0 (by decide) c00 ?_
    cases hrun
    exact g_zret C K rfl (dat dt_X5_readOrder 63 rfl)
def j_X5_readOrder_93  (x1 : Int32) (x2 : Int32) (h : Hp) : Option (Bool × Hp) :=
  if x2 = (16 : Int32) then
  j_X5_readOrder_107  x1 (20 : Int32) h
  else
  j_X5_readOrder_107  x1 (21 : Int32) h
set_option maxRecDepth 20000 in
theorem wj_X5_readOrder_93 {X : Xt} (C : Cx X cn_5 prog_7_method_9_code 3 (some .boolean) 71 0 0)    (x1 : Int32) (x2 : Int32) (h : Hp) (q : (Bool × Hp)) (hrun : j_X5_readOrder_93  x1 x2 h = some q) (K : EndQ X 0 0 (some (.int (b2i q.1))) q.2) : G X h 0 0 93 [(0, .ref 4), (1, .int x1), (2, .int x2)] [] := by
  unfold j_X5_readOrder_93 at hrun
  refine g_aload_n C (dat dt_X5_readOrder 52 rfl) 0 rfl ?_
  refine g_iload_n C (dat dt_X5_readOrder 53 rfl) 2 rfl ?_
  refine g_bipush C (dat dt_X5_readOrder 54 rfl) bp_16 ?_
  refine g_ic_ne 105 C (dat dt_X5_readOrder 55 rfl) (by decide) (fun c12 => ?_) (fun c12 => ?_)
  · rw [if_neg c12] at hrun
    refine g_bipush C (dat dt_X5_readOrder 58 rfl) bp_21 ?_
    refine g_sub [0, 1] (lv' := [(0, .ref 4), (1, .int x1)]) rfl ?_
    exact wj_X5_readOrder_107 C    x1 (21 : Int32) h _ hrun K
  · rw [if_pos c12] at hrun
    refine g_bipush C (dat dt_X5_readOrder 56 rfl) bp_20 ?_
    refine g_goto 107 C (dat dt_X5_readOrder 57 rfl) (by decide) ?_
    refine g_sub [0, 1] (lv' := [(0, .ref 4), (1, .int x1)]) rfl ?_
    exact wj_X5_readOrder_107 C    x1 (20 : Int32) h _ hrun K
def j_X5_readOrder_71  (x1 : Int32) (x2 : Int32) (h : Hp) : Option (Bool × Hp) :=
  (f_X5_mark x1 (3 : Int32) (fI h 4 8) h).bind fun v9 =>
  if x2 = (16 : Int32) then
  j_X5_readOrder_93  x1 x2 v9.2
  else
  if x2 = (18 : Int32) then
  j_X5_readOrder_93  x1 x2 v9.2
  else
  j_X5_readOrder_128  x1 v9.2
set_option maxRecDepth 20000 in
theorem wj_X5_readOrder_71 {X : Xt} (C : Cx X cn_5 prog_7_method_9_code 3 (some .boolean) 71 0 0)    (x1 : Int32) (x2 : Int32) (h : Hp) (q : (Bool × Hp)) (hrun : j_X5_readOrder_71  x1 x2 h = some q) (K : EndQ X 0 0 (some (.int (b2i q.1))) q.2) : G X h 0 0 71 [(0, .ref 4), (1, .int x1), (2, .int x2)] [] := by
  unfold j_X5_readOrder_71 at hrun
  refine g_aload_n C (dat dt_X5_readOrder 40 rfl) 0 rfl ?_
  refine g_iload_n C (dat dt_X5_readOrder 41 rfl) 1 rfl ?_
  refine g_iconst C (dat dt_X5_readOrder 42 rfl) ic_3 ?_
  refine g_aload_n C (dat dt_X5_readOrder 43 rfl) 0 rfl ?_
  refine g_getI C (dat dt_X5_readOrder 44 rfl) fl_5_39 kd_4 rfl ltk_4 ?_
  obtain ⟨v9, q10, hrun⟩ := bd hrun
  refine g_cVv [.int x1, .int (3 : Int32), .int (fI h 4 8)] C (dat dt_X5_readOrder 45 rfl) ml_5_116 (w_X5_mark x1 (3 : Int32) (fI h 4 8) h v9  q10) kd_4 ltk_4 rfl rfl cat0 (by decide) c00 ?_
  refine g_iload_n C (dat dt_X5_readOrder 46 rfl) 2 rfl ?_
  refine g_bipush C (dat dt_X5_readOrder 47 rfl) bp_16 ?_
  refine g_ic_eq 93 C (dat dt_X5_readOrder 48 rfl) (by decide) (fun c11 => ?_) (fun c11 => ?_)
  · rw [if_pos c11] at hrun
    exact wj_X5_readOrder_93 C    x1 x2 v9.2 _ hrun K
  · rw [if_neg c11] at hrun
    refine g_iload_n C (dat dt_X5_readOrder 49 rfl) 2 rfl ?_
    refine g_bipush C (dat dt_X5_readOrder 50 rfl) bp_18 ?_
    refine g_ic_ne 128 C (dat dt_X5_readOrder 51 rfl) (by decide) (fun c23 => ?_) (fun c23 => ?_)
    · rw [if_neg c23] at hrun
      refine g_sub [0, 1] (lv' := [(0, .ref 4), (1, .int x1)]) rfl ?_
      exact wj_X5_readOrder_128 C    x1 v9.2 _ hrun K
    · rw [if_pos c23] at hrun
      exact wj_X5_readOrder_93 C    x1 x2 v9.2 _ hrun K
def j_X5_readOrder_34  (x1 : Int32) (x2 : Int32) (h : Hp) : Option (Bool × Hp) :=
  (f_X5_goOn  h).bind fun v2 =>
  (f_X5_mark x1 (0 : Int32) x2 v2.2).bind fun v4 =>
  (f_X5_mark x1 (2 : Int32) (fI v4.2 4 8) v4.2).bind fun v6 =>
  if x2 = (19 : Int32) then
  j_X5_readOrder_71  x1 x2 v6.2
  else
  (gr_A GD 4 (0 : Int32) v6.2).bind fun v24 =>
  if v24.1 = true then
  j_X5_readOrder_71  x1 x2 v24.2
  else
  some (false, v24.2)
set_option maxRecDepth 20000 in
theorem wj_X5_readOrder_34 {X : Xt} (C : Cx X cn_5 prog_7_method_9_code 3 (some .boolean) 71 0 0)    (x1 : Int32) (x2 : Int32) (h : Hp) (q : (Bool × Hp)) (hrun : j_X5_readOrder_34  x1 x2 h = some q) (K : EndQ X 0 0 (some (.int (b2i q.1))) q.2) : G X h 0 0 34 [(0, .ref 4), (1, .int x1), (2, .int x2)] [] := by
  unfold j_X5_readOrder_34 at hrun
  refine g_aload_n C (dat dt_X5_readOrder 18 rfl) 0 rfl ?_
  obtain ⟨v2, q3, hrun⟩ := bd hrun
  refine g_cVv [] C (dat dt_X5_readOrder 19 rfl) ml_5_58 (w_X5_goOn  h v2  q3) kd_4 ltk_4 rfl rfl cat0 (by decide) c00 ?_
  refine g_aload_n C (dat dt_X5_readOrder 20 rfl) 0 rfl ?_
  refine g_iload_n C (dat dt_X5_readOrder 21 rfl) 1 rfl ?_
  refine g_iconst C (dat dt_X5_readOrder 22 rfl) ic_0 ?_
  refine g_iload_n C (dat dt_X5_readOrder 23 rfl) 2 rfl ?_
  obtain ⟨v4, q5, hrun⟩ := bd hrun
  refine g_cVv [.int x1, .int (0 : Int32), .int x2] C (dat dt_X5_readOrder 24 rfl) ml_5_116 (w_X5_mark x1 (0 : Int32) x2 v2.2 v4  q5) kd_4 ltk_4 rfl rfl cat0 (by decide) c00 ?_
  refine g_aload_n C (dat dt_X5_readOrder 25 rfl) 0 rfl ?_
  refine g_iload_n C (dat dt_X5_readOrder 26 rfl) 1 rfl ?_
  refine g_iconst C (dat dt_X5_readOrder 27 rfl) ic_2 ?_
  refine g_aload_n C (dat dt_X5_readOrder 28 rfl) 0 rfl ?_
  refine g_getI C (dat dt_X5_readOrder 29 rfl) fl_5_39 kd_4 rfl ltk_4 ?_
  obtain ⟨v6, q7, hrun⟩ := bd hrun
  refine g_cVv [.int x1, .int (2 : Int32), .int (fI v4.2 4 8)] C (dat dt_X5_readOrder 30 rfl) ml_5_116 (w_X5_mark x1 (2 : Int32) (fI v4.2 4 8) v4.2 v6  q7) kd_4 ltk_4 rfl rfl cat0 (by decide) c00 ?_
  refine g_iload_n C (dat dt_X5_readOrder 31 rfl) 2 rfl ?_
  refine g_bipush C (dat dt_X5_readOrder 32 rfl) bp_19 ?_
  refine g_ic_eq 71 C (dat dt_X5_readOrder 33 rfl) (by decide) (fun c8 => ?_) (fun c8 => ?_)
  · rw [if_pos c8] at hrun
    exact wj_X5_readOrder_71 C    x1 x2 v6.2 _ hrun K
  · rw [if_neg c8] at hrun
    refine g_aload_n C (dat dt_X5_readOrder 34 rfl) 0 rfl ?_
    refine g_iconst C (dat dt_X5_readOrder 35 rfl) ic_0 ?_
    obtain ⟨v24, q25, hrun⟩ := bd hrun
    refine g_cVi [.int (0 : Int32)] C (dat dt_X5_readOrder 36 rfl) ml_5_120 ((w_gr_A GD).2.2.2.2.1 _ _ _ q25) kd_4 ltk_4 rfl rfl cat0 (by decide) c00 ?_
    refine g_if_ne 71 C (dat dt_X5_readOrder 37 rfl) (by decide) (fun c26 => ?_) (fun c26 => ?_)
    · rw [if_pos (b2i_nz c26)] at hrun
      exact wj_X5_readOrder_71 C    x1 x2 v24.2 _ hrun K
    · rw [if_neg (b2i_z c26)] at hrun
      refine g_iconst C (dat dt_X5_readOrder 38 rfl) ic_0 ?_
      cases hrun
      exact g_zret C K (show (0 : Int32) = b2i false by decide) (dat dt_X5_readOrder 39 rfl)
def f_X5_readOrder (x1 : Int32) (h : Hp) : Option (Bool × Hp) :=
  if (fI h 4 7) = (16 : Int32) then
  j_X5_readOrder_34  x1 (fI h 4 7) h
  else
  if (fI h 4 7) = (17 : Int32) then
  j_X5_readOrder_34  x1 (fI h 4 7) h
  else
  if (fI h 4 7) = (18 : Int32) then
  j_X5_readOrder_34  x1 (fI h 4 7) h
  else
  if (fI h 4 7) = (19 : Int32) then
  j_X5_readOrder_34  x1 (fI h 4 7) h
  else
  (f_X5_wrong  h).bind fun v30 =>
  some (v30.1, v30.2)
set_option maxRecDepth 20000 in
theorem w_X5_readOrder (x1 : Int32) (h : Hp) (q : (Bool × Hp))  (hrun : f_X5_readOrder x1 h = some q) : MetA ⟨"SteamNations$Reader", "readOrder", "(I)Z"⟩ prog_7_method_9_code 3 (some .boolean) 71 0 0 [.ref 4, .int x1] h (some (.int (b2i q.1))) q.2 := by
  refine metA_of (by decide) (Nat.le_of_ble_eq_true rfl) (fun X C K => ?_)
  have C : Cx X cn_5 prog_7_method_9_code 3 (some .boolean) 71 0 0 := C
  show G X h 0 0 0 [(0, .ref 4), (1, .int x1)] []
  unfold f_X5_readOrder at hrun
  refine g_aload_n C (dat dt_X5_readOrder 0 rfl) 0 rfl ?_
  refine g_getI C (dat dt_X5_readOrder 1 rfl) fl_5_71 kd_4 rfl ltk_4 ?_
  refine g_istore_n (lv' := [(0, .ref 4), (1, .int x1), (2, .int (fI h 4 7))]) C (dat dt_X5_readOrder 2 rfl) (by decide) rfl ?_
  refine g_iload_n C (dat dt_X5_readOrder 3 rfl) 2 rfl ?_
  refine g_bipush C (dat dt_X5_readOrder 4 rfl) bp_16 ?_
  refine g_ic_eq 34 C (dat dt_X5_readOrder 5 rfl) (by decide) (fun c1 => ?_) (fun c1 => ?_)
  · rw [if_pos c1] at hrun
    exact wj_X5_readOrder_34 C    x1 (fI h 4 7) h _ hrun K
  · rw [if_neg c1] at hrun
    refine g_iload_n C (dat dt_X5_readOrder 6 rfl) 2 rfl ?_
    refine g_bipush C (dat dt_X5_readOrder 7 rfl) bp_17 ?_
    refine g_ic_eq 34 C (dat dt_X5_readOrder 8 rfl) (by decide) (fun c27 => ?_) (fun c27 => ?_)
    · rw [if_pos c27] at hrun
      exact wj_X5_readOrder_34 C    x1 (fI h 4 7) h _ hrun K
    · rw [if_neg c27] at hrun
      refine g_iload_n C (dat dt_X5_readOrder 9 rfl) 2 rfl ?_
      refine g_bipush C (dat dt_X5_readOrder 10 rfl) bp_18 ?_
      refine g_ic_eq 34 C (dat dt_X5_readOrder 11 rfl) (by decide) (fun c28 => ?_) (fun c28 => ?_)
      · rw [if_pos c28] at hrun
        exact wj_X5_readOrder_34 C    x1 (fI h 4 7) h _ hrun K
      · rw [if_neg c28] at hrun
        refine g_iload_n C (dat dt_X5_readOrder 12 rfl) 2 rfl ?_
        refine g_bipush C (dat dt_X5_readOrder 13 rfl) bp_19 ?_
        refine g_ic_eq 34 C (dat dt_X5_readOrder 14 rfl) (by decide) (fun c29 => ?_) (fun c29 => ?_)
        · rw [if_pos c29] at hrun
          exact wj_X5_readOrder_34 C    x1 (fI h 4 7) h _ hrun K
        · rw [if_neg c29] at hrun
          refine g_aload_n C (dat dt_X5_readOrder 15 rfl) 0 rfl ?_
          obtain ⟨v30, q31, hrun⟩ := bd hrun
          refine g_cVi [] C (dat dt_X5_readOrder 16 rfl) ml_5_87 (w_X5_wrong  h v30  q31) kd_4 ltk_4 rfl rfl cat0 (by decide) c00 ?_
          cases hrun
          exact g_zret C K rfl (dat dt_X5_readOrder 17 rfl)
/-! SteamNations$Reader.readRule(I)Z -/
def dl_X5_readRule : List (Nat × Instr × Nat) := [(0, .aload_n 0, 1), (1, .getfield 71, 3), (4, .istore_n 2, 1), (5, .iload_n 2, 1), (6, .bipush 13, 2), (8, .if_icmp .eq 20, 3), (11, .iload_n 2, 1), (12, .bipush 14, 2), (14, .if_icmp .eq 14, 3), (17, .iload_n 2, 1), (18, .bipush 15, 2), (20, .if_icmp .eq 8, 3), (23, .aload_n 0, 1), (24, .invokevirtual 87, 3), (27, .ireturn, 1), (28, .aload_n 0, 1), (29, .invokevirtual 58, 3), (32, .aload_n 0, 1), (33, .iload_n 1, 1), (34, .iconst 0, 1), (35, .iload_n 2, 1), (36, .invokevirtual 116, 3), (39, .aload_n 0, 1), (40, .iload_n 1, 1), (41, .iconst 1, 1), (42, .iconst 1, 1), (43, .invokevirtual 116, 3), (46, .aload_n 0, 1), (47, .iload_n 1, 1), (48, .iconst 2, 1), (49, .aload_n 0, 1), (50, .getfield 39, 3), (53, .invokevirtual 116, 3), (56, .iload_n 2, 1), (57, .bipush 13, 2), (59, .if_icmp .ne 11, 3), (62, .aload_n 0, 1), (63, .iconst 0, 1), (64, .invokevirtual 120, 3), (67, .ifCond .eq 7, 3), (70, .iconst 1, 1), (71, .goto 4, 3), (74, .iconst 0, 1), (75, .istore_n 3, 1), (76, .aload_n 0, 1), (77, .iload_n 1, 1), (78, .iconst 3, 1), (79, .aload_n 0, 1), (80, .getfield 39, 3), (83, .invokevirtual 116, 3), (86, .iload_n 3, 1), (87, .ireturn, 1)]
set_option maxRecDepth 20000 in
theorem dt_X5_readRule : ∀ q ∈ dl_X5_readRule, decode prog_7_method_8_code q.1 = .ok q.2 := by decide +kernel
def j_X5_readRule_75  (x1 : Int32) (s0 : Int32) (h : Hp) : Option (Bool × Hp) :=
  (f_X5_mark x1 (3 : Int32) (fI h 4 8) h).bind fun v11 =>
  (i2b s0).bind fun b13 => some (b13, v11.2)
set_option maxRecDepth 20000 in
theorem wj_X5_readRule_75 {X : Xt} (C : Cx X cn_5 prog_7_method_8_code 4 (some .boolean) 71 0 0)    (x1 : Int32) (s0 : Int32) (h : Hp) (q : (Bool × Hp)) (hrun : j_X5_readRule_75  x1 s0 h = some q) (K : EndQ X 0 0 (some (.int (b2i q.1))) q.2) : G X h 0 0 75 [(0, .ref 4), (1, .int x1)] [.int s0] := by
  unfold j_X5_readRule_75 at hrun
  refine g_istore_n (lv' := [(0, .ref 4), (1, .int x1), (3, .int s0)]) C (dat dt_X5_readRule 43 rfl) (by decide) rfl ?_
  refine g_aload_n C (dat dt_X5_readRule 44 rfl) 0 rfl ?_
  refine g_iload_n C (dat dt_X5_readRule 45 rfl) 1 rfl ?_
  refine g_iconst C (dat dt_X5_readRule 46 rfl) ic_3 ?_
  refine g_aload_n C (dat dt_X5_readRule 47 rfl) 0 rfl ?_
  refine g_getI C (dat dt_X5_readRule 48 rfl) fl_5_39 kd_4 rfl ltk_4 ?_
  obtain ⟨v11, q12, hrun⟩ := bd hrun
  refine g_cVv [.int x1, .int (3 : Int32), .int (fI h 4 8)] C (dat dt_X5_readRule 49 rfl) ml_5_116 (w_X5_mark x1 (3 : Int32) (fI h 4 8) h v11  q12) kd_4 ltk_4 rfl rfl cat0 (by decide) c00 ?_
  refine g_iload_n C (dat dt_X5_readRule 50 rfl) 2 rfl ?_
  obtain ⟨b13, q14, hrun⟩ := bd hrun
  cases hrun
  exact g_zret C K (i2b_eq q14) (dat dt_X5_readRule 51 rfl)
def j_X5_readRule_28  (x1 : Int32) (x2 : Int32) (h : Hp) : Option (Bool × Hp) :=
  (f_X5_goOn  h).bind fun v2 =>
  (f_X5_mark x1 (0 : Int32) x2 v2.2).bind fun v4 =>
  (f_X5_mark x1 (1 : Int32) (1 : Int32) v4.2).bind fun v6 =>
  (f_X5_mark x1 (2 : Int32) (fI v6.2 4 8) v6.2).bind fun v8 =>
  if x2 = (13 : Int32) then
  (gr_A GD 4 (0 : Int32) v8.2).bind fun v15 =>
  if v15.1 = true then
  j_X5_readRule_75  x1 (1 : Int32) v15.2
  else
  j_X5_readRule_75  x1 (0 : Int32) v15.2
  else
  j_X5_readRule_75  x1 (1 : Int32) v8.2
set_option maxRecDepth 20000 in
theorem wj_X5_readRule_28 {X : Xt} (C : Cx X cn_5 prog_7_method_8_code 4 (some .boolean) 71 0 0)    (x1 : Int32) (x2 : Int32) (h : Hp) (q : (Bool × Hp)) (hrun : j_X5_readRule_28  x1 x2 h = some q) (K : EndQ X 0 0 (some (.int (b2i q.1))) q.2) : G X h 0 0 28 [(0, .ref 4), (1, .int x1), (2, .int x2)] [] := by
  unfold j_X5_readRule_28 at hrun
  refine g_aload_n C (dat dt_X5_readRule 15 rfl) 0 rfl ?_
  obtain ⟨v2, q3, hrun⟩ := bd hrun
  refine g_cVv [] C (dat dt_X5_readRule 16 rfl) ml_5_58 (w_X5_goOn  h v2  q3) kd_4 ltk_4 rfl rfl cat0 (by decide) c00 ?_
  refine g_aload_n C (dat dt_X5_readRule 17 rfl) 0 rfl ?_
  refine g_iload_n C (dat dt_X5_readRule 18 rfl) 1 rfl ?_
  refine g_iconst C (dat dt_X5_readRule 19 rfl) ic_0 ?_
  refine g_iload_n C (dat dt_X5_readRule 20 rfl) 2 rfl ?_
  obtain ⟨v4, q5, hrun⟩ := bd hrun
  refine g_cVv [.int x1, .int (0 : Int32), .int x2] C (dat dt_X5_readRule 21 rfl) ml_5_116 (w_X5_mark x1 (0 : Int32) x2 v2.2 v4  q5) kd_4 ltk_4 rfl rfl cat0 (by decide) c00 ?_
  refine g_aload_n C (dat dt_X5_readRule 22 rfl) 0 rfl ?_
  refine g_iload_n C (dat dt_X5_readRule 23 rfl) 1 rfl ?_
  refine g_iconst C (dat dt_X5_readRule 24 rfl) ic_1 ?_
  refine g_iconst C (dat dt_X5_readRule 25 rfl) ic_1 ?_
  obtain ⟨v6, q7, hrun⟩ := bd hrun
  refine g_cVv [.int x1, .int (1 : Int32), .int (1 : Int32)] C (dat dt_X5_readRule 26 rfl) ml_5_116 (w_X5_mark x1 (1 : Int32) (1 : Int32) v4.2 v6  q7) kd_4 ltk_4 rfl rfl cat0 (by decide) c00 ?_
  refine g_aload_n C (dat dt_X5_readRule 27 rfl) 0 rfl ?_
  refine g_iload_n C (dat dt_X5_readRule 28 rfl) 1 rfl ?_
  refine g_iconst C (dat dt_X5_readRule 29 rfl) ic_2 ?_
  refine g_aload_n C (dat dt_X5_readRule 30 rfl) 0 rfl ?_
  refine g_getI C (dat dt_X5_readRule 31 rfl) fl_5_39 kd_4 rfl ltk_4 ?_
  obtain ⟨v8, q9, hrun⟩ := bd hrun
  refine g_cVv [.int x1, .int (2 : Int32), .int (fI v6.2 4 8)] C (dat dt_X5_readRule 32 rfl) ml_5_116 (w_X5_mark x1 (2 : Int32) (fI v6.2 4 8) v6.2 v8  q9) kd_4 ltk_4 rfl rfl cat0 (by decide) c00 ?_
  refine g_iload_n C (dat dt_X5_readRule 33 rfl) 2 rfl ?_
  refine g_bipush C (dat dt_X5_readRule 34 rfl) bp_13 ?_
  refine g_ic_ne 70 C (dat dt_X5_readRule 35 rfl) (by decide) (fun c10 => ?_) (fun c10 => ?_)
  · rw [if_neg c10] at hrun
    refine g_iconst C (dat dt_X5_readRule 40 rfl) ic_1 ?_
    refine g_goto 75 C (dat dt_X5_readRule 41 rfl) (by decide) ?_
    refine g_sub [0, 1] (lv' := [(0, .ref 4), (1, .int x1)]) rfl ?_
    exact wj_X5_readRule_75 C    x1 (1 : Int32) v8.2 _ hrun K
  · rw [if_pos c10] at hrun
    refine g_aload_n C (dat dt_X5_readRule 36 rfl) 0 rfl ?_
    refine g_iconst C (dat dt_X5_readRule 37 rfl) ic_0 ?_
    obtain ⟨v15, q16, hrun⟩ := bd hrun
    refine g_cVi [.int (0 : Int32)] C (dat dt_X5_readRule 38 rfl) ml_5_120 ((w_gr_A GD).2.2.2.2.1 _ _ _ q16) kd_4 ltk_4 rfl rfl cat0 (by decide) c00 ?_
    refine g_if_eq 74 C (dat dt_X5_readRule 39 rfl) (by decide) (fun c17 => ?_) (fun c17 => ?_)
    · rw [if_neg (b2i_z c17)] at hrun
      refine g_iconst C (dat dt_X5_readRule 42 rfl) ic_0 ?_
      refine g_sub [0, 1] (lv' := [(0, .ref 4), (1, .int x1)]) rfl ?_
      exact wj_X5_readRule_75 C    x1 (0 : Int32) v15.2 _ hrun K
    · rw [if_pos (b2i_nz c17)] at hrun
      refine g_iconst C (dat dt_X5_readRule 40 rfl) ic_1 ?_
      refine g_goto 75 C (dat dt_X5_readRule 41 rfl) (by decide) ?_
      refine g_sub [0, 1] (lv' := [(0, .ref 4), (1, .int x1)]) rfl ?_
      exact wj_X5_readRule_75 C    x1 (1 : Int32) v15.2 _ hrun K
def f_X5_readRule (x1 : Int32) (h : Hp) : Option (Bool × Hp) :=
  if (fI h 4 7) = (13 : Int32) then
  j_X5_readRule_28  x1 (fI h 4 7) h
  else
  if (fI h 4 7) = (14 : Int32) then
  j_X5_readRule_28  x1 (fI h 4 7) h
  else
  if (fI h 4 7) = (15 : Int32) then
  j_X5_readRule_28  x1 (fI h 4 7) h
  else
  (f_X5_wrong  h).bind fun v20 =>
  some (v20.1, v20.2)
set_option maxRecDepth 20000 in
theorem w_X5_readRule (x1 : Int32) (h : Hp) (q : (Bool × Hp))  (hrun : f_X5_readRule x1 h = some q) : MetA ⟨"SteamNations$Reader", "readRule", "(I)Z"⟩ prog_7_method_8_code 4 (some .boolean) 71 0 0 [.ref 4, .int x1] h (some (.int (b2i q.1))) q.2 := by
  refine metA_of (by decide) (Nat.le_of_ble_eq_true rfl) (fun X C K => ?_)
  have C : Cx X cn_5 prog_7_method_8_code 4 (some .boolean) 71 0 0 := C
  show G X h 0 0 0 [(0, .ref 4), (1, .int x1)] []
  unfold f_X5_readRule at hrun
  refine g_aload_n C (dat dt_X5_readRule 0 rfl) 0 rfl ?_
  refine g_getI C (dat dt_X5_readRule 1 rfl) fl_5_71 kd_4 rfl ltk_4 ?_
  refine g_istore_n (lv' := [(0, .ref 4), (1, .int x1), (2, .int (fI h 4 7))]) C (dat dt_X5_readRule 2 rfl) (by decide) rfl ?_
  refine g_iload_n C (dat dt_X5_readRule 3 rfl) 2 rfl ?_
  refine g_bipush C (dat dt_X5_readRule 4 rfl) bp_13 ?_
  refine g_ic_eq 28 C (dat dt_X5_readRule 5 rfl) (by decide) (fun c1 => ?_) (fun c1 => ?_)
  · rw [if_pos c1] at hrun
    exact wj_X5_readRule_28 C    x1 (fI h 4 7) h _ hrun K
  · rw [if_neg c1] at hrun
    refine g_iload_n C (dat dt_X5_readRule 6 rfl) 2 rfl ?_
    refine g_bipush C (dat dt_X5_readRule 7 rfl) bp_14 ?_
    refine g_ic_eq 28 C (dat dt_X5_readRule 8 rfl) (by decide) (fun c18 => ?_) (fun c18 => ?_)
    · rw [if_pos c18] at hrun
      exact wj_X5_readRule_28 C    x1 (fI h 4 7) h _ hrun K
    · rw [if_neg c18] at hrun
      refine g_iload_n C (dat dt_X5_readRule 9 rfl) 2 rfl ?_
      refine g_bipush C (dat dt_X5_readRule 10 rfl) bp_15 ?_
      refine g_ic_eq 28 C (dat dt_X5_readRule 11 rfl) (by decide) (fun c19 => ?_) (fun c19 => ?_)
      · rw [if_pos c19] at hrun
        exact wj_X5_readRule_28 C    x1 (fI h 4 7) h _ hrun K
      · rw [if_neg c19] at hrun
        refine g_aload_n C (dat dt_X5_readRule 12 rfl) 0 rfl ?_
        obtain ⟨v20, q21, hrun⟩ := bd hrun
        refine g_cVi [] C (dat dt_X5_readRule 13 rfl) ml_5_87 (w_X5_wrong  h v20  q21) kd_4 ltk_4 rfl rfl cat0 (by decide) c00 ?_
        cases hrun
        exact g_zret C K rfl (dat dt_X5_readRule 14 rfl)
/-! SteamNations$Reader.readIf(I)Z -/
def dl_X5_readIf : List (Nat × Instr × Nat) := [(0, .aload_n 0, 1), (1, .iload_n 1, 1), (2, .iconst 4, 1), (3, .aload_n 0, 1), (4, .getfield 39, 3), (7, .invokevirtual 116, 3), (10, .aload_n 0, 1), (11, .bipush 23, 2), (13, .invokevirtual 123, 3), (16, .ifCond .eq 11, 3), (19, .aload_n 0, 1), (20, .iconst 0, 1), (21, .invokevirtual 132, 3), (24, .ifCond .eq 7, 3), (27, .iconst 1, 1), (28, .goto 4, 3), (31, .iconst 0, 1), (32, .istore_n 2, 1), (33, .aload_n 0, 1), (34, .iload_n 1, 1), (35, .iconst 5, 1), (36, .aload_n 0, 1), (37, .getfield 39, 3), (40, .invokevirtual 116, 3), (43, .iload_n 2, 1), (44, .ireturn, 1)]
set_option maxRecDepth 20000 in
theorem dt_X5_readIf : ∀ q ∈ dl_X5_readIf, decode prog_7_method_11_code q.1 = .ok q.2 := by decide +kernel
def j_X5_readIf_32  (x1 : Int32) (s0 : Int32) (h : Hp) : Option (Bool × Hp) :=
  (f_X5_mark x1 (5 : Int32) (fI h 4 8) h).bind fun v6 =>
  (i2b s0).bind fun b8 => some (b8, v6.2)
set_option maxRecDepth 20000 in
theorem wj_X5_readIf_32 {X : Xt} (C : Cx X cn_5 prog_7_method_11_code 3 (some .boolean) 71 0 0)    (x1 : Int32) (s0 : Int32) (h : Hp) (q : (Bool × Hp)) (hrun : j_X5_readIf_32  x1 s0 h = some q) (K : EndQ X 0 0 (some (.int (b2i q.1))) q.2) : G X h 0 0 32 [(0, .ref 4), (1, .int x1)] [.int s0] := by
  unfold j_X5_readIf_32 at hrun
  refine g_istore_n (lv' := [(0, .ref 4), (1, .int x1), (2, .int s0)]) C (dat dt_X5_readIf 17 rfl) (by decide) rfl ?_
  refine g_aload_n C (dat dt_X5_readIf 18 rfl) 0 rfl ?_
  refine g_iload_n C (dat dt_X5_readIf 19 rfl) 1 rfl ?_
  refine g_iconst C (dat dt_X5_readIf 20 rfl) ic_5 ?_
  refine g_aload_n C (dat dt_X5_readIf 21 rfl) 0 rfl ?_
  refine g_getI C (dat dt_X5_readIf 22 rfl) fl_5_39 kd_4 rfl ltk_4 ?_
  obtain ⟨v6, q7, hrun⟩ := bd hrun
  refine g_cVv [.int x1, .int (5 : Int32), .int (fI h 4 8)] C (dat dt_X5_readIf 23 rfl) ml_5_116 (w_X5_mark x1 (5 : Int32) (fI h 4 8) h v6  q7) kd_4 ltk_4 rfl rfl cat0 (by decide) c00 ?_
  refine g_iload_n C (dat dt_X5_readIf 24 rfl) 2 rfl ?_
  obtain ⟨b8, q9, hrun⟩ := bd hrun
  cases hrun
  exact g_zret C K (i2b_eq q9) (dat dt_X5_readIf 25 rfl)
def f_X5_readIf (x1 : Int32) (h : Hp) : Option (Bool × Hp) :=
  (f_X5_mark x1 (4 : Int32) (fI h 4 8) h).bind fun v1 =>
  (f_X5_takeIf (23 : Int32) v1.2).bind fun v3 =>
  if v3.1 = true then
  (gr_A GD 0 (0 : Int32) v3.2).bind fun v10 =>
  if v10.1 = true then
  j_X5_readIf_32  x1 (1 : Int32) v10.2
  else
  j_X5_readIf_32  x1 (0 : Int32) v10.2
  else
  j_X5_readIf_32  x1 (1 : Int32) v3.2
set_option maxRecDepth 20000 in
theorem w_X5_readIf (x1 : Int32) (h : Hp) (q : (Bool × Hp))  (hrun : f_X5_readIf x1 h = some q) : MetA ⟨"SteamNations$Reader", "readIf", "(I)Z"⟩ prog_7_method_11_code 3 (some .boolean) 71 0 0 [.ref 4, .int x1] h (some (.int (b2i q.1))) q.2 := by
  refine metA_of (by decide) (Nat.le_of_ble_eq_true rfl) (fun X C K => ?_)
  have C : Cx X cn_5 prog_7_method_11_code 3 (some .boolean) 71 0 0 := C
  show G X h 0 0 0 [(0, .ref 4), (1, .int x1)] []
  unfold f_X5_readIf at hrun
  refine g_aload_n C (dat dt_X5_readIf 0 rfl) 0 rfl ?_
  refine g_iload_n C (dat dt_X5_readIf 1 rfl) 1 rfl ?_
  refine g_iconst C (dat dt_X5_readIf 2 rfl) ic_4 ?_
  refine g_aload_n C (dat dt_X5_readIf 3 rfl) 0 rfl ?_
  refine g_getI C (dat dt_X5_readIf 4 rfl) fl_5_39 kd_4 rfl ltk_4 ?_
  obtain ⟨v1, q2, hrun⟩ := bd hrun
  refine g_cVv [.int x1, .int (4 : Int32), .int (fI h 4 8)] C (dat dt_X5_readIf 5 rfl) ml_5_116 (w_X5_mark x1 (4 : Int32) (fI h 4 8) h v1  q2) kd_4 ltk_4 rfl rfl cat0 (by decide) c00 ?_
  refine g_aload_n C (dat dt_X5_readIf 6 rfl) 0 rfl ?_
  refine g_bipush C (dat dt_X5_readIf 7 rfl) bp_23 ?_
  obtain ⟨v3, q4, hrun⟩ := bd hrun
  refine g_cVi [.int (23 : Int32)] C (dat dt_X5_readIf 8 rfl) ml_5_123 (w_X5_takeIf (23 : Int32) v1.2 v3  q4) kd_4 ltk_4 rfl rfl cat0 (by decide) c00 ?_
  refine g_if_eq 27 C (dat dt_X5_readIf 9 rfl) (by decide) (fun c5 => ?_) (fun c5 => ?_)
  · rw [if_neg (b2i_z c5)] at hrun
    refine g_iconst C (dat dt_X5_readIf 14 rfl) ic_1 ?_
    refine g_goto 32 C (dat dt_X5_readIf 15 rfl) (by decide) ?_
    exact wj_X5_readIf_32 C    x1 (1 : Int32) v3.2 _ hrun K
  · rw [if_pos (b2i_nz c5)] at hrun
    refine g_aload_n C (dat dt_X5_readIf 10 rfl) 0 rfl ?_
    refine g_iconst C (dat dt_X5_readIf 11 rfl) ic_0 ?_
    obtain ⟨v10, q11, hrun⟩ := bd hrun
    refine g_cVi [.int (0 : Int32)] C (dat dt_X5_readIf 12 rfl) ml_5_132 ((w_gr_A GD).1 _ _ _ q11) kd_4 ltk_4 rfl rfl cat0 (by decide) c00 ?_
    refine g_if_eq 31 C (dat dt_X5_readIf 13 rfl) (by decide) (fun c12 => ?_) (fun c12 => ?_)
    · rw [if_neg (b2i_z c12)] at hrun
      refine g_iconst C (dat dt_X5_readIf 16 rfl) ic_0 ?_
      exact wj_X5_readIf_32 C    x1 (0 : Int32) v10.2 _ hrun K
    · rw [if_pos (b2i_nz c12)] at hrun
      refine g_iconst C (dat dt_X5_readIf 14 rfl) ic_1 ?_
      refine g_goto 32 C (dat dt_X5_readIf 15 rfl) (by decide) ?_
      exact wj_X5_readIf_32 C    x1 (1 : Int32) v10.2 _ hrun K
/-! SteamNationsModel.readOrder()V -/
def dl_X11_readOrder : List (Nat × Instr × Nat) := [(0, .aload_n 0, 1), (1, .bipush 21, 2), (3, .invokevirtual 211, 3), (6, .ifCond .eq 22, 3), (9, .aload_n 0, 1), (10, .iconst 0, 1), (11, .invokevirtual 220, 3), (14, .aload_n 0, 1), (15, .bipush 22, 2), (17, .invokevirtual 224, 3), (20, .aload_n 0, 1), (21, .iconst 0, 1), (22, .invokevirtual 220, 3), (25, .goto 54, 3), (28, .aload_n 0, 1), (29, .bipush 24, 2), (31, .invokevirtual 211, 3), (34, .ifCond .eq 22, 3), (37, .aload_n 0, 1), (38, .iconst 0, 1), (39, .invokevirtual 220, 3), (42, .aload_n 0, 1), (43, .bipush 25, 2), (45, .invokevirtual 224, 3), (48, .aload_n 0, 1), (49, .iconst 0, 1), (50, .invokevirtual 220, 3), (53, .goto 26, 3), (56, .aload_n 0, 1), (57, .bipush 23, 2), (59, .invokevirtual 211, 3), (62, .ifCond .eq 11, 3), (65, .aload_n 0, 1), (66, .iconst 0, 1), (67, .invokevirtual 220, 3), (70, .goto 9, 3), (73, .aload_n 0, 1), (74, .bipush 26, 2), (76, .invokevirtual 224, 3), (79, .aload_n 0, 1), (80, .bipush 27, 2), (82, .invokevirtual 211, 3), (85, .ifCond .eq 10, 3), (88, .aload_n 0, 1), (89, .iconst 1, 1), (90, .bipush 20, 2), (92, .invokevirtual 230, 3), (95, .aload_n 0, 1), (96, .iconst 4, 1), (97, .invokevirtual 211, 3), (100, .ifCond .eq 8, 3), (103, .aload_n 0, 1), (104, .iconst 0, 1), (105, .invokevirtual 227, 3), (108, .return_, 1)]
set_option maxRecDepth 20000 in
theorem dt_X11_readOrder : ∀ q ∈ dl_X11_readOrder, decode prog_13_method_49_code q.1 = .ok q.2 := by decide +kernel
def j_X11_readOrder_95   (h : Hp) : Option (Unit × Hp) :=
  (f_X11_takes0 (4 : Int32) h).bind fun v15 =>
  if v15.1 = true then
  (gr_B GD 0 (0 : Int32) v15.2).bind fun v18 =>
  some ((), v18.2)
  else
  some ((), v15.2)
set_option maxRecDepth 20000 in
theorem wj_X11_readOrder_95 {X : Xt} (C : Cx X cn_11 prog_13_method_49_code 1 none 71 0 0)     (h : Hp) (q : (Unit × Hp)) (hrun : j_X11_readOrder_95   h = some q) (K : EndQ X 0 0 none q.2) : G X h 0 0 95 [(0, .ref 81)] [] := by
  unfold j_X11_readOrder_95 at hrun
  refine g_aload_n C (dat dt_X11_readOrder 47 rfl) 0 rfl ?_
  refine g_iconst C (dat dt_X11_readOrder 48 rfl) ic_4 ?_
  obtain ⟨v15, q16, hrun⟩ := bd hrun
  refine g_cVi [.int (4 : Int32)] C (dat dt_X11_readOrder 49 rfl) ml_11_211 (w_X11_takes0 (4 : Int32) h v15  q16) kd_81 ltk_81 rfl rfl cat0 (by decide) c00 ?_
  refine g_if_eq 108 C (dat dt_X11_readOrder 50 rfl) (by decide) (fun c17 => ?_) (fun c17 => ?_)
  · rw [if_neg (b2i_z c17)] at hrun
    cases hrun
    exact g_vret C K (dat dt_X11_readOrder 54 rfl)
  · rw [if_pos (b2i_nz c17)] at hrun
    refine g_aload_n C (dat dt_X11_readOrder 51 rfl) 0 rfl ?_
    refine g_iconst C (dat dt_X11_readOrder 52 rfl) ic_0 ?_
    obtain ⟨v18, q19, hrun⟩ := bd hrun
    refine g_cVv [.int (0 : Int32)] C (dat dt_X11_readOrder 53 rfl) ml_11_227 ((w_gr_B GD).1 _ _ _ q19) kd_81 ltk_81 rfl rfl cat0 (by decide) c00 ?_
    cases hrun
    exact g_vret C K (dat dt_X11_readOrder 54 rfl)
def j_X11_readOrder_79   (h : Hp) : Option (Unit × Hp) :=
  (f_X11_takes0 (27 : Int32) h).bind fun v12 =>
  if v12.1 = true then
  (f_X11_mustNumber (1 : Int32) (20 : Int32) v12.2).bind fun v20 =>
  j_X11_readOrder_95   v20.2
  else
  j_X11_readOrder_95   v12.2
set_option maxRecDepth 20000 in
theorem wj_X11_readOrder_79 {X : Xt} (C : Cx X cn_11 prog_13_method_49_code 1 none 71 0 0)     (h : Hp) (q : (Unit × Hp)) (hrun : j_X11_readOrder_79   h = some q) (K : EndQ X 0 0 none q.2) : G X h 0 0 79 [(0, .ref 81)] [] := by
  unfold j_X11_readOrder_79 at hrun
  refine g_aload_n C (dat dt_X11_readOrder 39 rfl) 0 rfl ?_
  refine g_bipush C (dat dt_X11_readOrder 40 rfl) bp_27 ?_
  obtain ⟨v12, q13, hrun⟩ := bd hrun
  refine g_cVi [.int (27 : Int32)] C (dat dt_X11_readOrder 41 rfl) ml_11_211 (w_X11_takes0 (27 : Int32) h v12  q13) kd_81 ltk_81 rfl rfl cat0 (by decide) c00 ?_
  refine g_if_eq 95 C (dat dt_X11_readOrder 42 rfl) (by decide) (fun c14 => ?_) (fun c14 => ?_)
  · rw [if_neg (b2i_z c14)] at hrun
    exact wj_X11_readOrder_95 C     v12.2 _ hrun K
  · rw [if_pos (b2i_nz c14)] at hrun
    refine g_aload_n C (dat dt_X11_readOrder 43 rfl) 0 rfl ?_
    refine g_iconst C (dat dt_X11_readOrder 44 rfl) ic_1 ?_
    refine g_bipush C (dat dt_X11_readOrder 45 rfl) bp_20 ?_
    obtain ⟨v20, q21, hrun⟩ := bd hrun
    refine g_cVv [.int (1 : Int32), .int (20 : Int32)] C (dat dt_X11_readOrder 46 rfl) ml_11_230 (w_X11_mustNumber (1 : Int32) (20 : Int32) v12.2 v20  q21) kd_81 ltk_81 rfl rfl cat0 (by decide) c00 ?_
    exact wj_X11_readOrder_95 C     v20.2 _ hrun K
def f_X11_readOrder  (h : Hp) : Option (Unit × Hp) :=
  (f_X11_takes0 (21 : Int32) h).bind fun v1 =>
  if v1.1 = true then
  (gr_B GD 3 (0 : Int32) v1.2).bind fun v30 =>
  (f_X11_must (22 : Int32) v30.2).bind fun v32 =>
  (gr_B GD 3 (0 : Int32) v32.2).bind fun v34 =>
  j_X11_readOrder_79   v34.2
  else
  (f_X11_takes0 (24 : Int32) v1.2).bind fun v4 =>
  if v4.1 = true then
  (gr_B GD 3 (0 : Int32) v4.2).bind fun v24 =>
  (f_X11_must (25 : Int32) v24.2).bind fun v26 =>
  (gr_B GD 3 (0 : Int32) v26.2).bind fun v28 =>
  j_X11_readOrder_79   v28.2
  else
  (f_X11_takes0 (23 : Int32) v4.2).bind fun v7 =>
  if v7.1 = true then
  (gr_B GD 3 (0 : Int32) v7.2).bind fun v22 =>
  j_X11_readOrder_79   v22.2
  else
  (f_X11_must (26 : Int32) v7.2).bind fun v10 =>
  j_X11_readOrder_79   v10.2
set_option maxRecDepth 20000 in
theorem w_X11_readOrder  (h : Hp) (q : (Unit × Hp))  (hrun : f_X11_readOrder  h = some q) : MetA ⟨"SteamNationsModel", "readOrder", "()V"⟩ prog_13_method_49_code 1 none 71 0 0 [.ref 81] h none q.2 := by
  refine metA_of (by decide) (Nat.le_of_ble_eq_true rfl) (fun X C K => ?_)
  have C : Cx X cn_11 prog_13_method_49_code 1 none 71 0 0 := C
  show G X h 0 0 0 [(0, .ref 81)] []
  unfold f_X11_readOrder at hrun
  refine g_aload_n C (dat dt_X11_readOrder 0 rfl) 0 rfl ?_
  refine g_bipush C (dat dt_X11_readOrder 1 rfl) bp_21 ?_
  obtain ⟨v1, q2, hrun⟩ := bd hrun
  refine g_cVi [.int (21 : Int32)] C (dat dt_X11_readOrder 2 rfl) ml_11_211 (w_X11_takes0 (21 : Int32) h v1  q2) kd_81 ltk_81 rfl rfl cat0 (by decide) c00 ?_
  refine g_if_eq 28 C (dat dt_X11_readOrder 3 rfl) (by decide) (fun c3 => ?_) (fun c3 => ?_)
  · rw [if_neg (b2i_z c3)] at hrun
    refine g_aload_n C (dat dt_X11_readOrder 14 rfl) 0 rfl ?_
    refine g_bipush C (dat dt_X11_readOrder 15 rfl) bp_24 ?_
    obtain ⟨v4, q5, hrun⟩ := bd hrun
    refine g_cVi [.int (24 : Int32)] C (dat dt_X11_readOrder 16 rfl) ml_11_211 (w_X11_takes0 (24 : Int32) v1.2 v4  q5) kd_81 ltk_81 rfl rfl cat0 (by decide) c00 ?_
    refine g_if_eq 56 C (dat dt_X11_readOrder 17 rfl) (by decide) (fun c6 => ?_) (fun c6 => ?_)
    · rw [if_neg (b2i_z c6)] at hrun
      refine g_aload_n C (dat dt_X11_readOrder 28 rfl) 0 rfl ?_
      refine g_bipush C (dat dt_X11_readOrder 29 rfl) bp_23 ?_
      obtain ⟨v7, q8, hrun⟩ := bd hrun
      refine g_cVi [.int (23 : Int32)] C (dat dt_X11_readOrder 30 rfl) ml_11_211 (w_X11_takes0 (23 : Int32) v4.2 v7  q8) kd_81 ltk_81 rfl rfl cat0 (by decide) c00 ?_
      refine g_if_eq 73 C (dat dt_X11_readOrder 31 rfl) (by decide) (fun c9 => ?_) (fun c9 => ?_)
      · rw [if_neg (b2i_z c9)] at hrun
        refine g_aload_n C (dat dt_X11_readOrder 36 rfl) 0 rfl ?_
        refine g_bipush C (dat dt_X11_readOrder 37 rfl) bp_26 ?_
        obtain ⟨v10, q11, hrun⟩ := bd hrun
        refine g_cVv [.int (26 : Int32)] C (dat dt_X11_readOrder 38 rfl) ml_11_224 (w_X11_must (26 : Int32) v7.2 v10  q11) kd_81 ltk_81 rfl rfl cat0 (by decide) c00 ?_
        exact wj_X11_readOrder_79 C     v10.2 _ hrun K
      · rw [if_pos (b2i_nz c9)] at hrun
        refine g_aload_n C (dat dt_X11_readOrder 32 rfl) 0 rfl ?_
        refine g_iconst C (dat dt_X11_readOrder 33 rfl) ic_0 ?_
        obtain ⟨v22, q23, hrun⟩ := bd hrun
        refine g_cVv [.int (0 : Int32)] C (dat dt_X11_readOrder 34 rfl) ml_11_220 ((w_gr_B GD).2.2.2.1 _ _ _ q23) kd_81 ltk_81 rfl rfl cat0 (by decide) c00 ?_
        refine g_goto 79 C (dat dt_X11_readOrder 35 rfl) (by decide) ?_
        exact wj_X11_readOrder_79 C     v22.2 _ hrun K
    · rw [if_pos (b2i_nz c6)] at hrun
      refine g_aload_n C (dat dt_X11_readOrder 18 rfl) 0 rfl ?_
      refine g_iconst C (dat dt_X11_readOrder 19 rfl) ic_0 ?_
      obtain ⟨v24, q25, hrun⟩ := bd hrun
      refine g_cVv [.int (0 : Int32)] C (dat dt_X11_readOrder 20 rfl) ml_11_220 ((w_gr_B GD).2.2.2.1 _ _ _ q25) kd_81 ltk_81 rfl rfl cat0 (by decide) c00 ?_
      refine g_aload_n C (dat dt_X11_readOrder 21 rfl) 0 rfl ?_
      refine g_bipush C (dat dt_X11_readOrder 22 rfl) bp_25 ?_
      obtain ⟨v26, q27, hrun⟩ := bd hrun
      refine g_cVv [.int (25 : Int32)] C (dat dt_X11_readOrder 23 rfl) ml_11_224 (w_X11_must (25 : Int32) v24.2 v26  q27) kd_81 ltk_81 rfl rfl cat0 (by decide) c00 ?_
      refine g_aload_n C (dat dt_X11_readOrder 24 rfl) 0 rfl ?_
      refine g_iconst C (dat dt_X11_readOrder 25 rfl) ic_0 ?_
      obtain ⟨v28, q29, hrun⟩ := bd hrun
      refine g_cVv [.int (0 : Int32)] C (dat dt_X11_readOrder 26 rfl) ml_11_220 ((w_gr_B GD).2.2.2.1 _ _ _ q29) kd_81 ltk_81 rfl rfl cat0 (by decide) c00 ?_
      refine g_goto 79 C (dat dt_X11_readOrder 27 rfl) (by decide) ?_
      exact wj_X11_readOrder_79 C     v28.2 _ hrun K
  · rw [if_pos (b2i_nz c3)] at hrun
    refine g_aload_n C (dat dt_X11_readOrder 4 rfl) 0 rfl ?_
    refine g_iconst C (dat dt_X11_readOrder 5 rfl) ic_0 ?_
    obtain ⟨v30, q31, hrun⟩ := bd hrun
    refine g_cVv [.int (0 : Int32)] C (dat dt_X11_readOrder 6 rfl) ml_11_220 ((w_gr_B GD).2.2.2.1 _ _ _ q31) kd_81 ltk_81 rfl rfl cat0 (by decide) c00 ?_
    refine g_aload_n C (dat dt_X11_readOrder 7 rfl) 0 rfl ?_
    refine g_bipush C (dat dt_X11_readOrder 8 rfl) bp_22 ?_
    obtain ⟨v32, q33, hrun⟩ := bd hrun
    refine g_cVv [.int (22 : Int32)] C (dat dt_X11_readOrder 9 rfl) ml_11_224 (w_X11_must (22 : Int32) v30.2 v32  q33) kd_81 ltk_81 rfl rfl cat0 (by decide) c00 ?_
    refine g_aload_n C (dat dt_X11_readOrder 10 rfl) 0 rfl ?_
    refine g_iconst C (dat dt_X11_readOrder 11 rfl) ic_0 ?_
    obtain ⟨v34, q35, hrun⟩ := bd hrun
    refine g_cVv [.int (0 : Int32)] C (dat dt_X11_readOrder 12 rfl) ml_11_220 ((w_gr_B GD).2.2.2.1 _ _ _ q35) kd_81 ltk_81 rfl rfl cat0 (by decide) c00 ?_
    refine g_goto 79 C (dat dt_X11_readOrder 13 rfl) (by decide) ?_
    exact wj_X11_readOrder_79 C     v34.2 _ hrun K
/-! SteamNationsModel.readClause()V -/
def dl_X11_readClause : List (Nat × Instr × Nat) := [(0, .aload_n 0, 1), (1, .iconst 1, 1), (2, .invokevirtual 211, 3), (5, .ifCond .eq 11, 3), (8, .aload_n 0, 1), (9, .iconst 0, 1), (10, .invokevirtual 220, 3), (13, .goto 16, 3), (16, .aload_n 0, 1), (17, .iconst 2, 1), (18, .invokevirtual 211, 3), (21, .ifCond .ne 8, 3), (24, .aload_n 0, 1), (25, .iconst 3, 1), (26, .invokevirtual 224, 3), (29, .aload_n 0, 1), (30, .iconst 4, 1), (31, .invokevirtual 211, 3), (34, .ifCond .eq 8, 3), (37, .aload_n 0, 1), (38, .iconst 0, 1), (39, .invokevirtual 227, 3), (42, .return_, 1)]
set_option maxRecDepth 20000 in
theorem dt_X11_readClause : ∀ q ∈ dl_X11_readClause, decode prog_13_method_48_code q.1 = .ok q.2 := by decide +kernel
def j_X11_readClause_29   (h : Hp) : Option (Unit × Hp) :=
  (f_X11_takes0 (4 : Int32) h).bind fun v7 =>
  if v7.1 = true then
  (gr_B GD 0 (0 : Int32) v7.2).bind fun v10 =>
  some ((), v10.2)
  else
  some ((), v7.2)
set_option maxRecDepth 20000 in
theorem wj_X11_readClause_29 {X : Xt} (C : Cx X cn_11 prog_13_method_48_code 1 none 71 0 0)     (h : Hp) (q : (Unit × Hp)) (hrun : j_X11_readClause_29   h = some q) (K : EndQ X 0 0 none q.2) : G X h 0 0 29 [(0, .ref 81)] [] := by
  unfold j_X11_readClause_29 at hrun
  refine g_aload_n C (dat dt_X11_readClause 15 rfl) 0 rfl ?_
  refine g_iconst C (dat dt_X11_readClause 16 rfl) ic_4 ?_
  obtain ⟨v7, q8, hrun⟩ := bd hrun
  refine g_cVi [.int (4 : Int32)] C (dat dt_X11_readClause 17 rfl) ml_11_211 (w_X11_takes0 (4 : Int32) h v7  q8) kd_81 ltk_81 rfl rfl cat0 (by decide) c00 ?_
  refine g_if_eq 42 C (dat dt_X11_readClause 18 rfl) (by decide) (fun c9 => ?_) (fun c9 => ?_)
  · rw [if_neg (b2i_z c9)] at hrun
    cases hrun
    exact g_vret C K (dat dt_X11_readClause 22 rfl)
  · rw [if_pos (b2i_nz c9)] at hrun
    refine g_aload_n C (dat dt_X11_readClause 19 rfl) 0 rfl ?_
    refine g_iconst C (dat dt_X11_readClause 20 rfl) ic_0 ?_
    obtain ⟨v10, q11, hrun⟩ := bd hrun
    refine g_cVv [.int (0 : Int32)] C (dat dt_X11_readClause 21 rfl) ml_11_227 ((w_gr_B GD).1 _ _ _ q11) kd_81 ltk_81 rfl rfl cat0 (by decide) c00 ?_
    cases hrun
    exact g_vret C K (dat dt_X11_readClause 22 rfl)
def f_X11_readClause  (h : Hp) : Option (Unit × Hp) :=
  (f_X11_takes0 (1 : Int32) h).bind fun v1 =>
  if v1.1 = true then
  (gr_B GD 3 (0 : Int32) v1.2).bind fun v14 =>
  j_X11_readClause_29   v14.2
  else
  (f_X11_takes0 (2 : Int32) v1.2).bind fun v4 =>
  if v4.1 = true then
  j_X11_readClause_29   v4.2
  else
  (f_X11_must (3 : Int32) v4.2).bind fun v12 =>
  j_X11_readClause_29   v12.2
set_option maxRecDepth 20000 in
theorem w_X11_readClause  (h : Hp) (q : (Unit × Hp))  (hrun : f_X11_readClause  h = some q) : MetA ⟨"SteamNationsModel", "readClause", "()V"⟩ prog_13_method_48_code 1 none 71 0 0 [.ref 81] h none q.2 := by
  refine metA_of (by decide) (Nat.le_of_ble_eq_true rfl) (fun X C K => ?_)
  have C : Cx X cn_11 prog_13_method_48_code 1 none 71 0 0 := C
  show G X h 0 0 0 [(0, .ref 81)] []
  unfold f_X11_readClause at hrun
  refine g_aload_n C (dat dt_X11_readClause 0 rfl) 0 rfl ?_
  refine g_iconst C (dat dt_X11_readClause 1 rfl) ic_1 ?_
  obtain ⟨v1, q2, hrun⟩ := bd hrun
  refine g_cVi [.int (1 : Int32)] C (dat dt_X11_readClause 2 rfl) ml_11_211 (w_X11_takes0 (1 : Int32) h v1  q2) kd_81 ltk_81 rfl rfl cat0 (by decide) c00 ?_
  refine g_if_eq 16 C (dat dt_X11_readClause 3 rfl) (by decide) (fun c3 => ?_) (fun c3 => ?_)
  · rw [if_neg (b2i_z c3)] at hrun
    refine g_aload_n C (dat dt_X11_readClause 8 rfl) 0 rfl ?_
    refine g_iconst C (dat dt_X11_readClause 9 rfl) ic_2 ?_
    obtain ⟨v4, q5, hrun⟩ := bd hrun
    refine g_cVi [.int (2 : Int32)] C (dat dt_X11_readClause 10 rfl) ml_11_211 (w_X11_takes0 (2 : Int32) v1.2 v4  q5) kd_81 ltk_81 rfl rfl cat0 (by decide) c00 ?_
    refine g_if_ne 29 C (dat dt_X11_readClause 11 rfl) (by decide) (fun c6 => ?_) (fun c6 => ?_)
    · rw [if_pos (b2i_nz c6)] at hrun
      exact wj_X11_readClause_29 C     v4.2 _ hrun K
    · rw [if_neg (b2i_z c6)] at hrun
      refine g_aload_n C (dat dt_X11_readClause 12 rfl) 0 rfl ?_
      refine g_iconst C (dat dt_X11_readClause 13 rfl) ic_3 ?_
      obtain ⟨v12, q13, hrun⟩ := bd hrun
      refine g_cVv [.int (3 : Int32)] C (dat dt_X11_readClause 14 rfl) ml_11_224 (w_X11_must (3 : Int32) v4.2 v12  q13) kd_81 ltk_81 rfl rfl cat0 (by decide) c00 ?_
      exact wj_X11_readClause_29 C     v12.2 _ hrun K
  · rw [if_pos (b2i_nz c3)] at hrun
    refine g_aload_n C (dat dt_X11_readClause 4 rfl) 0 rfl ?_
    refine g_iconst C (dat dt_X11_readClause 5 rfl) ic_0 ?_
    obtain ⟨v14, q15, hrun⟩ := bd hrun
    refine g_cVv [.int (0 : Int32)] C (dat dt_X11_readClause 6 rfl) ml_11_220 ((w_gr_B GD).2.2.2.1 _ _ _ q15) kd_81 ltk_81 rfl rfl cat0 (by decide) c00 ?_
    refine g_goto 29 C (dat dt_X11_readClause 7 rfl) (by decide) ?_
    exact wj_X11_readClause_29 C     v14.2 _ hrun K
/-! SteamNationsModel.readOne()V -/
def dl_X11_readOne : List (Nat × Instr × Nat) := [(0, .aload_n 0, 1), (1, .getfield 234, 3), (4, .ifCond .eq 10, 3), (7, .aload_n 0, 1), (8, .invokevirtual 238, 3), (11, .goto 7, 3), (14, .aload_n 0, 1), (15, .invokevirtual 241, 3), (18, .return_, 1)]
set_option maxRecDepth 20000 in
theorem dt_X11_readOne : ∀ q ∈ dl_X11_readOne, decode prog_13_method_50_code q.1 = .ok q.2 := by decide +kernel
def f_X11_readOne  (h : Hp) : Option (Unit × Hp) :=
  if (fI h 81 10) = 0 then
  (f_X11_readClause  h).bind fun v2 =>
  some ((), v2.2)
  else
  (f_X11_readOrder  h).bind fun v4 =>
  some ((), v4.2)
set_option maxRecDepth 20000 in
theorem w_X11_readOne  (h : Hp) (q : (Unit × Hp))  (hrun : f_X11_readOne  h = some q) : MetA ⟨"SteamNationsModel", "readOne", "()V"⟩ prog_13_method_50_code 1 none 72 0 0 [.ref 81] h none q.2 := by
  refine metA_of (by decide) (Nat.le_of_ble_eq_true rfl) (fun X C K => ?_)
  have C : Cx X cn_11 prog_13_method_50_code 1 none 72 0 0 := C
  show G X h 0 0 0 [(0, .ref 81)] []
  unfold f_X11_readOne at hrun
  refine g_aload_n C (dat dt_X11_readOne 0 rfl) 0 rfl ?_
  refine g_getI C (dat dt_X11_readOne 1 rfl) fl_11_234 kd_81 rfl ltk_81 ?_
  refine g_if_eq 14 C (dat dt_X11_readOne 2 rfl) (by decide) (fun c1 => ?_) (fun c1 => ?_)
  · rw [if_pos c1] at hrun
    refine g_aload_n C (dat dt_X11_readOne 6 rfl) 0 rfl ?_
    obtain ⟨v2, q3, hrun⟩ := bd hrun
    refine g_cVv [] C (dat dt_X11_readOne 7 rfl) ml_11_241 (w_X11_readClause  h v2  q3) kd_81 ltk_81 rfl rfl cat0 (by decide) c00 ?_
    cases hrun
    exact g_vret C K (dat dt_X11_readOne 8 rfl)
  · rw [if_neg c1] at hrun
    refine g_aload_n C (dat dt_X11_readOne 3 rfl) 0 rfl ?_
    obtain ⟨v4, q5, hrun⟩ := bd hrun
    refine g_cVv [] C (dat dt_X11_readOne 4 rfl) ml_11_238 (w_X11_readOrder  h v4  q5) kd_81 ltk_81 rfl rfl cat0 (by decide) c00 ?_
    refine g_goto 18 C (dat dt_X11_readOne 5 rfl) (by decide) ?_
    cases hrun
    exact g_vret C K (dat dt_X11_readOne 8 rfl)
/-! SteamNationsModel.reads()Z -/
def dl_X11_reads : List (Nat × Instr × Nat) := [(0, .aload_n 0, 1), (1, .aload_n 0, 1), (2, .getfield 182, 3), (5, .invokevirtual 269, 3), (8, .aload_n 0, 1), (9, .iconst 0, 1), (10, .putfield 182, 3), (13, .aload_n 0, 1), (14, .iconst 0, 1), (15, .putfield 208, 3), (18, .aload_n 0, 1), (19, .iconst 0, 1), (20, .putfield 217, 3), (23, .aload_n 0, 1), (24, .iconst (-1), 1), (25, .putfield 201, 3), (28, .aload_n 0, 1), (29, .invokevirtual 272, 3), (32, .iconst 1, 1), (33, .istore_n 1, 1), (34, .aload_n 0, 1), (35, .bipush 59, 2), (37, .invokestatic 250, 3), (40, .invokevirtual 211, 3), (43, .ifCond .eq 30, 3), (46, .iload_n 1, 1), (47, .bipush 12, 2), (49, .if_icmp .ne 7, 3), (52, .aload_n 0, 1), (53, .invokevirtual 214, 3), (56, .aload_n 0, 1), (57, .invokevirtual 204, 3), (60, .ifCond .eq 7, 3), (63, .aload_n 0, 1), (64, .invokevirtual 272, 3), (67, .iinc 1 1, 3), (70, .goto (-36), 3), (73, .aload_n 0, 1), (74, .invokevirtual 204, 3), (77, .ifCond .eq 18, 3), (80, .aload_n 0, 1), (81, .getfield 208, 3), (84, .aload_n 0, 1), (85, .getfield 188, 3), (88, .if_icmp .ge 7, 3), (91, .aload_n 0, 1), (92, .invokevirtual 214, 3), (95, .aload_n 0, 1), (96, .aload_n 0, 1), (97, .getfield 201, 3), (100, .putfield 51, 3), (103, .aload_n 0, 1), (104, .invokevirtual 204, 3), (107, .ireturn, 1)]
set_option maxRecDepth 20000 in
theorem dt_X11_reads : ∀ q ∈ dl_X11_reads, decode prog_13_method_57_code q.1 = .ok q.2 := by decide +kernel
def kp_X11_reads_34   (X : Xt) (s : (Int32 × Hp)) : Prop := G X s.2 0 0 34 [(0, .ref 81), (1, .int s.1)] []
def ke_X11_reads_34   (X : Xt) (e : Hp) : Prop := G X e 0 0 73 [(0, .ref 81)] []
def j_X11_reads_56_34  (x1 : Int32) (h : Hp) : Option ((Int32 × Hp) ⊕ Hp) :=
  (f_X11_fine  h).bind fun v11 =>
  if v11 = true then
  (f_X11_readOne  h).bind fun v14 =>
  some (.inl ((x1 + (1 : Int32)), v14.2))
  else
  some (.inl ((x1 + (1 : Int32)), h))
set_option maxRecDepth 20000 in
theorem wj_X11_reads_56_34 {X : Xt} (C : Cx X cn_11 prog_13_method_57_code 2 (some .boolean) 73 0 0)    (x1 : Int32) (h : Hp) (q : (Int32 × Hp) ⊕ Hp) (hrun : j_X11_reads_56_34  x1 h = some q) (Ks : ∀ s, q = .inl s → kp_X11_reads_34   X s) (Ke : ∀ e, q = .inr e → ke_X11_reads_34   X e) : G X h 0 0 56 [(0, .ref 81), (1, .int x1)] [] := by
  unfold j_X11_reads_56_34 at hrun
  refine g_aload_n C (dat dt_X11_reads 30 rfl) 0 rfl ?_
  obtain ⟨v11, q12, hrun⟩ := bd hrun
  refine g_cVi [] C (dat dt_X11_reads 31 rfl) ml_11_204 (w_X11_fine  h v11  q12) kd_81 ltk_81 rfl rfl cat0 (by decide) c00 ?_
  refine g_if_eq 67 C (dat dt_X11_reads 32 rfl) (by decide) (fun c13 => ?_) (fun c13 => ?_)
  · rw [if_neg (b2i_z c13)] at hrun
    refine g_iinc (v := (x1 + (1 : Int32))) (lv' := [(0, .ref 81), (1, .int (x1 + (1 : Int32)))]) C (dat dt_X11_reads 35 rfl) 1 rfl (congrArg (fun z => x1 + z) ic_1) (by decide) rfl ?_
    refine g_goto 34 C (dat dt_X11_reads 36 rfl) (by decide) ?_
    cases hrun
    exact Ks ((x1 + (1 : Int32)), h) rfl
  · rw [if_pos (b2i_nz c13)] at hrun
    refine g_aload_n C (dat dt_X11_reads 33 rfl) 0 rfl ?_
    obtain ⟨v14, q15, hrun⟩ := bd hrun
    refine g_cVv [] C (dat dt_X11_reads 34 rfl) ml_11_272 (w_X11_readOne  h v14  q15) kd_81 ltk_81 rfl rfl cat0 (by decide) c00 ?_
    refine g_iinc (v := (x1 + (1 : Int32))) (lv' := [(0, .ref 81), (1, .int (x1 + (1 : Int32)))]) C (dat dt_X11_reads 35 rfl) 1 rfl (congrArg (fun z => x1 + z) ic_1) (by decide) rfl ?_
    refine g_goto 34 C (dat dt_X11_reads 36 rfl) (by decide) ?_
    cases hrun
    exact Ks ((x1 + (1 : Int32)), v14.2) rfl
def b_X11_reads_34   (x1 : Int32) (h : Hp) : Option ((Int32 × Hp) ⊕ Hp) :=
  (f_X11_sign (59 : Int32)).bind fun v5 =>
  (f_X11_takes0 v5 h).bind fun v7 =>
  if v7.1 = true then
  if x1 = (12 : Int32) then
  (f_X11_faults  v7.2).bind fun v16 =>
  j_X11_reads_56_34  x1 v16.2
  else
  j_X11_reads_56_34  x1 v7.2
  else
  some (.inr ( v7.2))
set_option maxRecDepth 20000 in
theorem wb_X11_reads_34 {X : Xt} (C : Cx X cn_11 prog_13_method_57_code 2 (some .boolean) 73 0 0)    (x1 : Int32) (h : Hp) (q : (Int32 × Hp) ⊕ Hp) (hrun : b_X11_reads_34   x1 h = some q) (Ks : ∀ s, q = .inl s → kp_X11_reads_34   X s) (Ke : ∀ e, q = .inr e → ke_X11_reads_34   X e) : kp_X11_reads_34   X (x1, h) := by
  show G X h 0 0 34 [(0, .ref 81), (1, .int x1)] []
  unfold b_X11_reads_34 at hrun
  refine g_aload_n C (dat dt_X11_reads 20 rfl) 0 rfl ?_
  refine g_bipush C (dat dt_X11_reads 21 rfl) bp_59 ?_
  obtain ⟨v5, q6, hrun⟩ := bd hrun
  refine g_cSi [.int (59 : Int32)] C (dat dt_X11_reads 22 rfl) ml_11_250 (w_X11_sign (59 : Int32) h v5  q6) rfl rfl (Nat.le_of_ble_eq_true rfl) (by decide) c00 ?_
  obtain ⟨v7, q8, hrun⟩ := bd hrun
  refine g_cVi [.int v5] C (dat dt_X11_reads 23 rfl) ml_11_211 (w_X11_takes0 v5 h v7  q8) kd_81 ltk_81 rfl rfl cat0 (by decide) c00 ?_
  refine g_if_eq 73 C (dat dt_X11_reads 24 rfl) (by decide) (fun c9 => ?_) (fun c9 => ?_)
  · rw [if_neg (b2i_z c9)] at hrun
    refine g_sub [0] (lv' := [(0, .ref 81)]) rfl ?_
    cases hrun
    exact Ke ( v7.2) rfl
  · rw [if_pos (b2i_nz c9)] at hrun
    refine g_iload_n C (dat dt_X11_reads 25 rfl) 1 rfl ?_
    refine g_bipush C (dat dt_X11_reads 26 rfl) bp_12 ?_
    refine g_ic_ne 56 C (dat dt_X11_reads 27 rfl) (by decide) (fun c10 => ?_) (fun c10 => ?_)
    · rw [if_neg c10] at hrun
      exact wj_X11_reads_56_34 C    x1 v7.2 _ hrun Ks Ke
    · rw [if_pos c10] at hrun
      refine g_aload_n C (dat dt_X11_reads 28 rfl) 0 rfl ?_
      obtain ⟨v16, q17, hrun⟩ := bd hrun
      refine g_cVv [] C (dat dt_X11_reads 29 rfl) ml_11_214 (w_X11_faults  v7.2 v16  q17) kd_81 ltk_81 rfl rfl cat0 (by decide) c00 ?_
      exact wj_X11_reads_56_34 C    x1 v16.2 _ hrun Ks Ke
def j_X11_reads_95   (h : Hp) : Option (Bool × Hp) :=
  (f_X11_fine  (sF h 81 14 (fI h 81 21))).bind fun v23 =>
  some (v23, (sF h 81 14 (fI h 81 21)))
set_option maxRecDepth 20000 in
theorem wj_X11_reads_95 {X : Xt} (C : Cx X cn_11 prog_13_method_57_code 2 (some .boolean) 73 0 0)     (h : Hp) (q : (Bool × Hp)) (hrun : j_X11_reads_95   h = some q) (K : EndQ X 0 0 (some (.int (b2i q.1))) q.2) : G X h 0 0 95 [(0, .ref 81)] [] := by
  unfold j_X11_reads_95 at hrun
  refine g_aload_n C (dat dt_X11_reads 47 rfl) 0 rfl ?_
  refine g_aload_n C (dat dt_X11_reads 48 rfl) 0 rfl ?_
  refine g_getI C (dat dt_X11_reads 49 rfl) fl_11_201 kd_81 rfl ltk_81 ?_
  refine g_putI C (dat dt_X11_reads 50 rfl) fl_11_51 rfl rfl kd_81 rfl ltk_81 ?_
  refine g_aload_n C (dat dt_X11_reads 51 rfl) 0 rfl ?_
  obtain ⟨v23, q24, hrun⟩ := bd hrun
  refine g_cVi [] C (dat dt_X11_reads 52 rfl) ml_11_204 (w_X11_fine  (sF h 81 14 (fI h 81 21)) v23  q24) kd_81 ltk_81 rfl rfl cat0 (by decide) c00 ?_
  cases hrun
  exact g_zret C K rfl (dat dt_X11_reads 53 rfl)
def f_X11_reads  (h : Hp) : Option (Bool × Hp) :=
  (f_X11_splits (fI h 81 13) h).bind fun v1 =>
  (f_X11_readOne  (sF (sF (sF (sF v1.2 81 13 (0 : Int32)) 81 19 (0 : Int32)) 81 20 (0 : Int32)) 81 21 (-1 : Int32))).bind fun v3 =>
  (lp (fun s => b_X11_reads_34   s.1 s.2) FU ((1 : Int32), v3.2)).bind fun e18 =>
  (f_X11_fine  e18).bind fun v20 =>
  if v20 = true then
  if (fI e18 81 18) ≤ (fI e18 81 19) then
  j_X11_reads_95   e18
  else
  (f_X11_faults  e18).bind fun v26 =>
  j_X11_reads_95   v26.2
  else
  j_X11_reads_95   e18
set_option maxRecDepth 20000 in
theorem w_X11_reads  (h : Hp) (q : (Bool × Hp))  (hrun : f_X11_reads  h = some q) : MetA ⟨"SteamNationsModel", "reads", "()Z"⟩ prog_13_method_57_code 2 (some .boolean) 73 0 0 [.ref 81] h (some (.int (b2i q.1))) q.2 := by
  refine metA_of (by decide) (Nat.le_of_ble_eq_true rfl) (fun X C K => ?_)
  have C : Cx X cn_11 prog_13_method_57_code 2 (some .boolean) 73 0 0 := C
  show G X h 0 0 0 [(0, .ref 81)] []
  unfold f_X11_reads at hrun
  refine g_aload_n C (dat dt_X11_reads 0 rfl) 0 rfl ?_
  refine g_aload_n C (dat dt_X11_reads 1 rfl) 0 rfl ?_
  refine g_getI C (dat dt_X11_reads 2 rfl) fl_11_182 kd_81 rfl ltk_81 ?_
  obtain ⟨v1, q2, hrun⟩ := bd hrun
  refine g_cVv [.int (fI h 81 13)] C (dat dt_X11_reads 3 rfl) ml_11_269 (w_X11_splits (fI h 81 13) h v1  q2) kd_81 ltk_81 rfl rfl cat0 (by decide) c00 ?_
  refine g_aload_n C (dat dt_X11_reads 4 rfl) 0 rfl ?_
  refine g_iconst C (dat dt_X11_reads 5 rfl) ic_0 ?_
  refine g_putI C (dat dt_X11_reads 6 rfl) fl_11_182 rfl rfl kd_81 rfl ltk_81 ?_
  refine g_aload_n C (dat dt_X11_reads 7 rfl) 0 rfl ?_
  refine g_iconst C (dat dt_X11_reads 8 rfl) ic_0 ?_
  refine g_putI C (dat dt_X11_reads 9 rfl) fl_11_208 rfl rfl kd_81 rfl ltk_81 ?_
  refine g_aload_n C (dat dt_X11_reads 10 rfl) 0 rfl ?_
  refine g_iconst C (dat dt_X11_reads 11 rfl) ic_0 ?_
  refine g_putI C (dat dt_X11_reads 12 rfl) fl_11_217 rfl rfl kd_81 rfl ltk_81 ?_
  refine g_aload_n C (dat dt_X11_reads 13 rfl) 0 rfl ?_
  refine g_iconst C (dat dt_X11_reads 14 rfl) ic_m1 ?_
  refine g_putI C (dat dt_X11_reads 15 rfl) fl_11_201 rfl rfl kd_81 rfl ltk_81 ?_
  refine g_aload_n C (dat dt_X11_reads 16 rfl) 0 rfl ?_
  obtain ⟨v3, q4, hrun⟩ := bd hrun
  refine g_cVv [] C (dat dt_X11_reads 17 rfl) ml_11_272 (w_X11_readOne  (sF (sF (sF (sF v1.2 81 13 (0 : Int32)) 81 19 (0 : Int32)) 81 20 (0 : Int32)) 81 21 (-1 : Int32)) v3  q4) kd_81 ltk_81 rfl rfl cat0 (by decide) c00 ?_
  refine g_iconst C (dat dt_X11_reads 18 rfl) ic_1 ?_
  refine g_istore_n (lv' := [(0, .ref 81), (1, .int (1 : Int32))]) C (dat dt_X11_reads 19 rfl) (by decide) rfl ?_
  obtain ⟨e18, q19, hrun⟩ := bd hrun
  refine lp_ind (P := fun s => kp_X11_reads_34   X s) (K := fun e => ke_X11_reads_34   X e) (fun s q hb Ks Ke => wb_X11_reads_34 C    s.1 s.2 q hb Ks Ke) FU ((1 : Int32), v3.2) e18 q19 ?_
  show G X e18 0 0 73 [(0, .ref 81)] []
  refine g_aload_n C (dat dt_X11_reads 37 rfl) 0 rfl ?_
  obtain ⟨v20, q21, hrun⟩ := bd hrun
  refine g_cVi [] C (dat dt_X11_reads 38 rfl) ml_11_204 (w_X11_fine  e18 v20  q21) kd_81 ltk_81 rfl rfl cat0 (by decide) c00 ?_
  refine g_if_eq 95 C (dat dt_X11_reads 39 rfl) (by decide) (fun c22 => ?_) (fun c22 => ?_)
  · rw [if_neg (b2i_z c22)] at hrun
    exact wj_X11_reads_95 C     e18 _ hrun K
  · rw [if_pos (b2i_nz c22)] at hrun
    refine g_aload_n C (dat dt_X11_reads 40 rfl) 0 rfl ?_
    refine g_getI C (dat dt_X11_reads 41 rfl) fl_11_208 kd_81 rfl ltk_81 ?_
    refine g_aload_n C (dat dt_X11_reads 42 rfl) 0 rfl ?_
    refine g_getI C (dat dt_X11_reads 43 rfl) fl_11_188 kd_81 rfl ltk_81 ?_
    refine g_ic_ge 95 C (dat dt_X11_reads 44 rfl) (by decide) (fun c25 => ?_) (fun c25 => ?_)
    · rw [if_pos c25] at hrun
      exact wj_X11_reads_95 C     e18 _ hrun K
    · rw [if_neg c25] at hrun
      refine g_aload_n C (dat dt_X11_reads 45 rfl) 0 rfl ?_
      obtain ⟨v26, q27, hrun⟩ := bd hrun
      refine g_cVv [] C (dat dt_X11_reads 46 rfl) ml_11_214 (w_X11_faults  e18 v26  q27) kd_81 ltk_81 rfl rfl cat0 (by decide) c00 ?_
      exact wj_X11_reads_95 C     v26.2 _ hrun K
/-! SteamNationsModel.readsAs(Z)Z -/
def dl_X11_readsAs : List (Nat × Instr × Nat) := [(0, .aload_n 0, 1), (1, .iload_n 1, 1), (2, .putfield 234, 3), (5, .aload_n 0, 1), (6, .iload_n 1, 1), (7, .ifCond .eq 8, 3), (10, .bipush 14, 2), (12, .goto 5, 3), (15, .bipush 8, 2), (17, .putfield 260, 3), (20, .aload_n 0, 1), (21, .iload_n 1, 1), (22, .ifCond .eq 8, 3), (25, .bipush 20, 2), (27, .goto 5, 3), (30, .bipush 15, 2), (32, .putfield 263, 3), (35, .aload_n 0, 1), (36, .invokevirtual 275, 3), (39, .ireturn, 1)]
set_option maxRecDepth 20000 in
theorem dt_X11_readsAs : ∀ q ∈ dl_X11_readsAs, decode prog_13_method_58_code q.1 = .ok q.2 := by decide +kernel
def j_X11_readsAs_32  (s1 : Int32) (h : Hp) : Option (Bool × Hp) :=
  (f_X11_reads  (sF h 81 9 s1)).bind fun v5 =>
  some (v5.1, v5.2)
set_option maxRecDepth 20000 in
theorem wj_X11_readsAs_32 {X : Xt} (C : Cx X cn_11 prog_13_method_58_code 2 (some .boolean) 74 0 0)    (s1 : Int32) (h : Hp) (q : (Bool × Hp)) (hrun : j_X11_readsAs_32  s1 h = some q) (K : EndQ X 0 0 (some (.int (b2i q.1))) q.2) : G X h 0 0 32 [(0, .ref 81)] [.int s1, .ref 81] := by
  unfold j_X11_readsAs_32 at hrun
  refine g_putI C (dat dt_X11_readsAs 16 rfl) fl_11_263 rfl rfl kd_81 rfl ltk_81 ?_
  refine g_aload_n C (dat dt_X11_readsAs 17 rfl) 0 rfl ?_
  obtain ⟨v5, q6, hrun⟩ := bd hrun
  refine g_cVi [] C (dat dt_X11_readsAs 18 rfl) ml_11_275 (w_X11_reads  (sF h 81 9 s1) v5  q6) kd_81 ltk_81 rfl rfl cat0 (by decide) c00 ?_
  cases hrun
  exact g_zret C K rfl (dat dt_X11_readsAs 19 rfl)
def j_X11_readsAs_17  (x1 : Int32) (s1 : Int32) (h : Hp) : Option (Bool × Hp) :=
  if x1 = 0 then
  j_X11_readsAs_32  (15 : Int32) (sF h 81 8 s1)
  else
  j_X11_readsAs_32  (20 : Int32) (sF h 81 8 s1)
set_option maxRecDepth 20000 in
theorem wj_X11_readsAs_17 {X : Xt} (C : Cx X cn_11 prog_13_method_58_code 2 (some .boolean) 74 0 0)    (x1 : Int32) (s1 : Int32) (h : Hp) (q : (Bool × Hp)) (hrun : j_X11_readsAs_17  x1 s1 h = some q) (K : EndQ X 0 0 (some (.int (b2i q.1))) q.2) : G X h 0 0 17 [(0, .ref 81), (1, .int x1)] [.int s1, .ref 81] := by
  unfold j_X11_readsAs_17 at hrun
  refine g_putI C (dat dt_X11_readsAs 9 rfl) fl_11_260 rfl rfl kd_81 rfl ltk_81 ?_
  refine g_aload_n C (dat dt_X11_readsAs 10 rfl) 0 rfl ?_
  refine g_iload_n C (dat dt_X11_readsAs 11 rfl) 1 rfl ?_
  refine g_if_eq 30 C (dat dt_X11_readsAs 12 rfl) (by decide) (fun c4 => ?_) (fun c4 => ?_)
  · rw [if_pos c4] at hrun
    refine g_bipush C (dat dt_X11_readsAs 15 rfl) bp_15 ?_
    refine g_sub [0] (lv' := [(0, .ref 81)]) rfl ?_
    exact wj_X11_readsAs_32 C    (15 : Int32) (sF h 81 8 s1) _ hrun K
  · rw [if_neg c4] at hrun
    refine g_bipush C (dat dt_X11_readsAs 13 rfl) bp_20 ?_
    refine g_goto 32 C (dat dt_X11_readsAs 14 rfl) (by decide) ?_
    refine g_sub [0] (lv' := [(0, .ref 81)]) rfl ?_
    exact wj_X11_readsAs_32 C    (20 : Int32) (sF h 81 8 s1) _ hrun K
def f_X11_readsAs (x1 : Int32) (h : Hp) : Option (Bool × Hp) :=
  (i2b x1).bind fun b1 =>
  if x1 = 0 then
  j_X11_readsAs_17  x1 (8 : Int32) (sF h 81 10 (b2i b1))
  else
  j_X11_readsAs_17  x1 (14 : Int32) (sF h 81 10 (b2i b1))
set_option maxRecDepth 20000 in
theorem w_X11_readsAs (x1 : Int32) (h : Hp) (q : (Bool × Hp))  (hrun : f_X11_readsAs x1 h = some q) : MetA ⟨"SteamNationsModel", "readsAs", "(Z)Z"⟩ prog_13_method_58_code 2 (some .boolean) 74 0 0 [.ref 81, .int x1] h (some (.int (b2i q.1))) q.2 := by
  refine metA_of (by decide) (Nat.le_of_ble_eq_true rfl) (fun X C K => ?_)
  have C : Cx X cn_11 prog_13_method_58_code 2 (some .boolean) 74 0 0 := C
  show G X h 0 0 0 [(0, .ref 81), (1, .int x1)] []
  unfold f_X11_readsAs at hrun
  refine g_aload_n C (dat dt_X11_readsAs 0 rfl) 0 rfl ?_
  refine g_iload_n C (dat dt_X11_readsAs 1 rfl) 1 rfl ?_
  obtain ⟨b1, q2, hrun⟩ := bd hrun
  refine g_putZ (b := b1) C (dat dt_X11_readsAs 2 rfl) fl_11_234 (i2b_eq q2) kd_81 rfl ltk_81 ?_
  refine g_aload_n C (dat dt_X11_readsAs 3 rfl) 0 rfl ?_
  refine g_iload_n C (dat dt_X11_readsAs 4 rfl) 1 rfl ?_
  refine g_if_eq 15 C (dat dt_X11_readsAs 5 rfl) (by decide) (fun c3 => ?_) (fun c3 => ?_)
  · rw [if_pos c3] at hrun
    refine g_bipush C (dat dt_X11_readsAs 8 rfl) bp_8 ?_
    exact wj_X11_readsAs_17 C    x1 (8 : Int32) (sF h 81 10 (b2i b1)) _ hrun K
  · rw [if_neg c3] at hrun
    refine g_bipush C (dat dt_X11_readsAs 6 rfl) bp_14 ?_
    refine g_goto 17 C (dat dt_X11_readsAs 7 rfl) (by decide) ?_
    exact wj_X11_readsAs_17 C    x1 (14 : Int32) (sF h 81 10 (b2i b1)) _ hrun K
/-! SteamNationsModel.law()I -/
def dl_X11_law : List (Nat × Instr × Nat) := [(0, .aload_n 0, 1), (1, .getfield 28, 3), (4, .bipush 53, 2), (6, .iaload, 1), (7, .bipush 6, 2), (9, .if_icmp .ne 15, 3), (12, .aload_n 0, 1), (13, .iconst 0, 1), (14, .putfield 182, 3), (17, .aload_n 0, 1), (18, .bipush (-5), 2), (20, .invokevirtual 121, 3), (23, .ireturn, 1), (24, .aload_n 0, 1), (25, .iconst 0, 1), (26, .invokevirtual 278, 3), (29, .ifCond .ne 10, 3), (32, .aload_n 0, 1), (33, .bipush (-6), 2), (35, .invokevirtual 121, 3), (38, .ireturn, 1), (39, .aload_n 0, 1), (40, .aload_n 0, 1), (41, .getfield 28, 3), (44, .bipush 53, 2), (46, .iaload, 1), (47, .invokevirtual 282, 3), (50, .aload_n 0, 1), (51, .getfield 28, 3), (54, .bipush 53, 2), (56, .dup2, 1), (57, .iaload, 1), (58, .iconst 1, 1), (59, .iadd, 1), (60, .iastore, 1), (61, .aload_n 0, 1), (62, .aload_n 0, 1), (63, .getfield 28, 3), (66, .bipush 53, 2), (68, .iaload, 1), (69, .iconst 1, 1), (70, .isub, 1), (71, .invokevirtual 14, 3), (74, .ireturn, 1)]
set_option maxRecDepth 20000 in
theorem dt_X11_law : ∀ q ∈ dl_X11_law, decode prog_13_method_60_code q.1 = .ok q.2 := by decide +kernel
def f_X11_law  (h : Hp) : Option (Int32 × Hp) :=
  if (aI h 83 53) = (6 : Int32) then
  (f_X11_refuses (-5 : Int32) (sF h 81 13 (0 : Int32))).bind fun v13 =>
  some (v13.1, v13.2)
  else
  (f_X11_readsAs (0 : Int32) h).bind fun v2 =>
  if v2.1 = true then
  (f_X11_lays (aI v2.2 83 53) v2.2).bind fun v5 =>
  (f_X11_good ((aI (sA v5.2 83 53 ((aI v5.2 83 53) + (1 : Int32))) 83 53) - (1 : Int32)) (sA v5.2 83 53 ((aI v5.2 83 53) + (1 : Int32)))).bind fun v9 =>
  some (v9.1, v9.2)
  else
  (f_X11_refuses (-6 : Int32) v2.2).bind fun v11 =>
  some (v11.1, v11.2)
set_option maxRecDepth 20000 in
theorem w_X11_law  (h : Hp) (q : (Int32 × Hp))  (hrun : f_X11_law  h = some q) : MetA ⟨"SteamNationsModel", "law", "()I"⟩ prog_13_method_60_code 1 (some .int) 75 0 0 [.ref 81] h (some (.int q.1)) q.2 := by
  refine metA_of (by decide) (Nat.le_of_ble_eq_true rfl) (fun X C K => ?_)
  have C : Cx X cn_11 prog_13_method_60_code 1 (some .int) 75 0 0 := C
  show G X h 0 0 0 [(0, .ref 81)] []
  unfold f_X11_law at hrun
  refine g_aload_n C (dat dt_X11_law 0 rfl) 0 rfl ?_
  refine g_getR C (dat dt_X11_law 1 rfl) fl_11_28 kd_81 rfl ltk_81 ?_
  refine g_bipush C (dat dt_X11_law 2 rfl) bp_53 ?_
  refine g_iald (j := 53) C (dat dt_X11_law 3 rfl) kd_83 ltk_83 (show inb (53 : Int32) 5662 = some 53 by decide) ?_
  refine g_bipush C (dat dt_X11_law 4 rfl) bp_6 ?_
  refine g_ic_ne 24 C (dat dt_X11_law 5 rfl) (by decide) (fun c1 => ?_) (fun c1 => ?_)
  · rw [if_neg c1] at hrun
    refine g_aload_n C (dat dt_X11_law 13 rfl) 0 rfl ?_
    refine g_iconst C (dat dt_X11_law 14 rfl) ic_0 ?_
    obtain ⟨v2, q3, hrun⟩ := bd hrun
    refine g_cVi [.int (0 : Int32)] C (dat dt_X11_law 15 rfl) ml_11_278 (w_X11_readsAs (0 : Int32) h v2  q3) kd_81 ltk_81 rfl rfl cat0 (by decide) c00 ?_
    refine g_if_ne 39 C (dat dt_X11_law 16 rfl) (by decide) (fun c4 => ?_) (fun c4 => ?_)
    · rw [if_pos (b2i_nz c4)] at hrun
      refine g_aload_n C (dat dt_X11_law 21 rfl) 0 rfl ?_
      refine g_aload_n C (dat dt_X11_law 22 rfl) 0 rfl ?_
      refine g_getR C (dat dt_X11_law 23 rfl) fl_11_28 kd_81 rfl ltk_81 ?_
      refine g_bipush C (dat dt_X11_law 24 rfl) bp_53 ?_
      refine g_iald (j := 53) C (dat dt_X11_law 25 rfl) kd_83 ltk_83 (show inb (53 : Int32) 5662 = some 53 by decide) ?_
      obtain ⟨v5, q6, hrun⟩ := bd hrun
      refine g_cVv [.int (aI v2.2 83 53)] C (dat dt_X11_law 26 rfl) ml_11_282 (w_X11_lays (aI v2.2 83 53) v2.2 v5  q6) kd_81 ltk_81 rfl rfl cat0 (by decide) c00 ?_
      refine g_aload_n C (dat dt_X11_law 27 rfl) 0 rfl ?_
      refine g_getR C (dat dt_X11_law 28 rfl) fl_11_28 kd_81 rfl ltk_81 ?_
      refine g_bipush C (dat dt_X11_law 29 rfl) bp_53 ?_
      refine g_dup2 C (dat dt_X11_law 30 rfl) rfl rfl ?_
      refine g_iald (j := 53) C (dat dt_X11_law 31 rfl) kd_83 ltk_83 (show inb (53 : Int32) 5662 = some 53 by decide) ?_
      refine g_iconst C (dat dt_X11_law 32 rfl) ic_1 ?_
      refine g_iadd C (dat dt_X11_law 33 rfl) ?_
      refine g_iast (j := 53) C (dat dt_X11_law 34 rfl) kd_83 ltk_83 (show inb (53 : Int32) 5662 = some 53 by decide)  ?_
      refine g_aload_n C (dat dt_X11_law 35 rfl) 0 rfl ?_
      refine g_aload_n C (dat dt_X11_law 36 rfl) 0 rfl ?_
      refine g_getR C (dat dt_X11_law 37 rfl) fl_11_28 kd_81 rfl ltk_81 ?_
      refine g_bipush C (dat dt_X11_law 38 rfl) bp_53 ?_
      refine g_iald (j := 53) C (dat dt_X11_law 39 rfl) kd_83 ltk_83 (show inb (53 : Int32) 5662 = some 53 by decide) ?_
      refine g_iconst C (dat dt_X11_law 40 rfl) ic_1 ?_
      refine g_isub C (dat dt_X11_law 41 rfl) ?_
      obtain ⟨v9, q10, hrun⟩ := bd hrun
      refine g_cVi [.int ((aI (sA v5.2 83 53 ((aI v5.2 83 53) + (1 : Int32))) 83 53) - (1 : Int32))] C (dat dt_X11_law 42 rfl) ml_11_14 (w_X11_good ((aI (sA v5.2 83 53 ((aI v5.2 83 53) + (1 : Int32))) 83 53) - (1 : Int32)) (sA v5.2 83 53 ((aI v5.2 83 53) + (1 : Int32))) v9  q10) kd_81 ltk_81 rfl rfl cat0 (by decide) c00 ?_
      cases hrun
      exact g_iret C K (dat dt_X11_law 43 rfl)
    · rw [if_neg (b2i_z c4)] at hrun
      refine g_aload_n C (dat dt_X11_law 17 rfl) 0 rfl ?_
      refine g_bipush C (dat dt_X11_law 18 rfl) bp_m6 ?_
      obtain ⟨v11, q12, hrun⟩ := bd hrun
      refine g_cVi [.int (-6 : Int32)] C (dat dt_X11_law 19 rfl) ml_11_121 (w_X11_refuses (-6 : Int32) v2.2 v11  q12) kd_81 ltk_81 rfl rfl cat0 (by decide) c00 ?_
      cases hrun
      exact g_iret C K (dat dt_X11_law 20 rfl)
  · rw [if_pos c1] at hrun
    refine g_aload_n C (dat dt_X11_law 6 rfl) 0 rfl ?_
    refine g_iconst C (dat dt_X11_law 7 rfl) ic_0 ?_
    refine g_putI C (dat dt_X11_law 8 rfl) fl_11_182 rfl rfl kd_81 rfl ltk_81 ?_
    refine g_aload_n C (dat dt_X11_law 9 rfl) 0 rfl ?_
    refine g_bipush C (dat dt_X11_law 10 rfl) bp_m5 ?_
    obtain ⟨v13, q14, hrun⟩ := bd hrun
    refine g_cVi [.int (-5 : Int32)] C (dat dt_X11_law 11 rfl) ml_11_121 (w_X11_refuses (-5 : Int32) (sF h 81 13 (0 : Int32)) v13  q14) kd_81 ltk_81 rfl rfl cat0 (by decide) c00 ?_
    cases hrun
    exact g_iret C K (dat dt_X11_law 12 rfl)
/-! SteamNationsModel.goesAlong(IZ)V -/
def dl_X11_goesAlong : List (Nat × Instr × Nat) := [(0, .aload_n 0, 1), (1, .iconst 1, 1), (2, .putfield 321, 3), (5, .aload_n 0, 1), (6, .iload_n 1, 1), (7, .putfield 288, 3), (10, .aload_n 0, 1), (11, .aload_n 0, 1), (12, .getfield 458, 3), (15, .putfield 291, 3), (18, .aload_n 0, 1), (19, .aload_n 0, 1), (20, .aload_n 0, 1), (21, .getfield 291, 3), (24, .invokevirtual 294, 3), (27, .putfield 464, 3), (30, .aload_n 0, 1), (31, .dup, 1), (32, .getfield 291, 3), (35, .iconst 1, 1), (36, .iadd, 1), (37, .putfield 291, 3), (40, .aload_n 0, 1), (41, .iconst 1, 1), (42, .putfield 467, 3), (45, .aload_n 0, 1), (46, .getfield 464, 3), (49, .bipush 26, 2), (51, .if_icmp .ne 7, 3), (54, .iconst 0, 1), (55, .goto 17, 3), (58, .aload_n 0, 1), (59, .getfield 464, 3), (62, .bipush 23, 2), (64, .if_icmp .ne 7, 3), (67, .iconst 1, 1), (68, .goto 4, 3), (71, .iconst 2, 1), (72, .istore_n 3, 1), (73, .iconst 0, 1), (74, .istore 4, 2), (76, .iload 4, 2), (78, .iload_n 3, 1), (79, .if_icmp .ge 64, 3), (82, .iload 4, 2), (84, .ifCond .le 13, 3), (87, .aload_n 0, 1), (88, .dup, 1), (89, .getfield 291, 3), (92, .iconst 1, 1), (93, .iadd, 1), (94, .putfield 291, 3), (97, .aload_n 0, 1), (98, .iconst 0, 1), (99, .putfield 301, 3), (102, .aload_n 0, 1), (103, .getfield 112, 3), (106, .iload 4, 2), (108, .aload_n 0, 1), (109, .iload_n 2, 1), (110, .invokevirtual 318, 3), (113, .lastore, 1), (114, .aload_n 0, 1), (115, .aload_n 0, 1), (116, .getfield 467, 3), (119, .ifCond .eq 14, 3), (122, .aload_n 0, 1), (123, .getfield 301, 3), (126, .ifCond .ne 7, 3), (129, .iconst 1, 1), (130, .goto 4, 3), (133, .iconst 0, 1), (134, .putfield 467, 3), (137, .iinc 4 1, 3), (140, .goto (-64), 3), (143, .aload_n 0, 1), (144, .iconst 1, 1), (145, .putfield 470, 3), (148, .aload_n 0, 1), (149, .bipush 27, 2), (151, .invokevirtual 315, 3), (154, .ifCond .eq 30, 3), (157, .aload_n 0, 1), (158, .aload_n 0, 1), (159, .getfield 28, 3), (162, .sipush 2862, 3), (165, .aload_n 0, 1), (166, .getfield 291, 3), (169, .iadd, 1), (170, .iaload, 1), (171, .putfield 470, 3), (174, .aload_n 0, 1), (175, .dup, 1), (176, .getfield 291, 3), (179, .iconst 1, 1), (180, .iadd, 1), (181, .putfield 291, 3), (184, .aload_n 0, 1), (185, .iconst 0, 1), (186, .putfield 301, 3), (189, .aload_n 0, 1), (190, .aload_n 0, 1), (191, .iconst 4, 1), (192, .invokevirtual 315, 3), (195, .ifCond .eq 11, 3), (198, .aload_n 0, 1), (199, .iload_n 2, 1), (200, .invokevirtual 348, 3), (203, .ifCond .eq 7, 3), (206, .iconst 1, 1), (207, .goto 4, 3), (210, .iconst 0, 1), (211, .putfield 473, 3), (214, .aload_n 0, 1), (215, .aload_n 0, 1), (216, .getfield 473, 3), (219, .ifCond .eq 14, 3), (222, .aload_n 0, 1), (223, .getfield 301, 3), (226, .ifCond .ne 7, 3), (229, .iconst 1, 1), (230, .goto 4, 3), (233, .iconst 0, 1), (234, .putfield 473, 3), (237, .aload_n 0, 1), (238, .dup, 1), (239, .getfield 291, 3), (242, .iconst 1, 1), (243, .iadd, 1), (244, .putfield 291, 3), (247, .return_, 1)]
set_option maxRecDepth 20000 in
theorem dt_X11_goesAlong : ∀ q ∈ dl_X11_goesAlong, decode prog_13_method_124_code q.1 = .ok q.2 := by decide +kernel
def kp_X11_goesAlong_76  (x2 : Int32) (x3 : Int32) (X : Xt) (s : (Int32 × Hp)) : Prop := G X s.2 0 0 76 [(0, .ref 81), (2, .int x2), (3, .int x3), (4, .int s.1)] []
def ke_X11_goesAlong_76  (x2 : Int32) (x3 : Int32) (X : Xt) (e : Hp) : Prop := G X e 0 0 143 [(0, .ref 81), (2, .int x2)] []
def j_X11_goesAlong_134_76  (x2 : Int32) (x3 : Int32) (x4 : Int32) (s1 : Int32) (h : Hp) : Option ((Int32 × Hp) ⊕ Hp) :=
  (i2b s1).bind fun b12 =>
  some (.inl ((x4 + (1 : Int32)), (sF h 81 50 (b2i b12))))
set_option maxRecDepth 20000 in
theorem wj_X11_goesAlong_134_76 {X : Xt} (C : Cx X cn_11 prog_13_method_124_code 5 none 141 0 0)    (x2 : Int32) (x3 : Int32) (x4 : Int32) (s1 : Int32) (h : Hp) (q : (Int32 × Hp) ⊕ Hp) (hrun : j_X11_goesAlong_134_76  x2 x3 x4 s1 h = some q) (Ks : ∀ s, q = .inl s → kp_X11_goesAlong_76  x2 x3 X s) (Ke : ∀ e, q = .inr e → ke_X11_goesAlong_76  x2 x3 X e) : G X h 0 0 134 [(0, .ref 81), (2, .int x2), (3, .int x3), (4, .int x4)] [.int s1, .ref 81] := by
  unfold j_X11_goesAlong_134_76 at hrun
  obtain ⟨b12, q13, hrun⟩ := bd hrun
  refine g_putZ (b := b12) C (dat dt_X11_goesAlong 72 rfl) fl_11_467 (i2b_eq q13) kd_81 rfl ltk_81 ?_
  refine g_iinc (v := (x4 + (1 : Int32))) (lv' := [(0, .ref 81), (2, .int x2), (3, .int x3), (4, .int (x4 + (1 : Int32)))]) C (dat dt_X11_goesAlong 73 rfl) 3 rfl (congrArg (fun z => x4 + z) ic_1) (by decide) rfl ?_
  refine g_goto 76 C (dat dt_X11_goesAlong 74 rfl) (by decide) ?_
  cases hrun
  exact Ks ((x4 + (1 : Int32)), (sF h 81 50 (b2i b12))) rfl
def j_X11_goesAlong_133_76  (x2 : Int32) (x3 : Int32) (x4 : Int32) (h : Hp) : Option ((Int32 × Hp) ⊕ Hp) :=
  j_X11_goesAlong_134_76  x2 x3 x4 (0 : Int32) h
set_option maxRecDepth 20000 in
theorem wj_X11_goesAlong_133_76 {X : Xt} (C : Cx X cn_11 prog_13_method_124_code 5 none 141 0 0)    (x2 : Int32) (x3 : Int32) (x4 : Int32) (h : Hp) (q : (Int32 × Hp) ⊕ Hp) (hrun : j_X11_goesAlong_133_76  x2 x3 x4 h = some q) (Ks : ∀ s, q = .inl s → kp_X11_goesAlong_76  x2 x3 X s) (Ke : ∀ e, q = .inr e → ke_X11_goesAlong_76  x2 x3 X e) : G X h 0 0 133 [(0, .ref 81), (2, .int x2), (3, .int x3), (4, .int x4)] [.ref 81] := by
  unfold j_X11_goesAlong_133_76 at hrun
  refine g_iconst C (dat dt_X11_goesAlong 71 rfl) ic_0 ?_
  exact wj_X11_goesAlong_134_76 C    x2 x3 x4 (0 : Int32) h _ hrun Ks Ke
def j_X11_goesAlong_97_76  (x2 : Int32) (x3 : Int32) (x4 : Int32) (h : Hp) : Option ((Int32 × Hp) ⊕ Hp) :=
  (gr_C GD 0 x2 (sF h 81 24 (b2i false))).bind fun v7 =>
  (inb x4 2).bind fun j9 =>
  if (fI (sL v7.2 108 j9 v7.1) 81 50) = 0 then
  j_X11_goesAlong_133_76  x2 x3 x4 (sL v7.2 108 j9 v7.1)
  else
  if (fI (sL v7.2 108 j9 v7.1) 81 24) = 0 then
  j_X11_goesAlong_134_76  x2 x3 x4 (1 : Int32) (sL v7.2 108 j9 v7.1)
  else
  j_X11_goesAlong_133_76  x2 x3 x4 (sL v7.2 108 j9 v7.1)
set_option maxRecDepth 20000 in
theorem wj_X11_goesAlong_97_76 {X : Xt} (C : Cx X cn_11 prog_13_method_124_code 5 none 141 0 0)    (x2 : Int32) (x3 : Int32) (x4 : Int32) (h : Hp) (q : (Int32 × Hp) ⊕ Hp) (hrun : j_X11_goesAlong_97_76  x2 x3 x4 h = some q) (Ks : ∀ s, q = .inl s → kp_X11_goesAlong_76  x2 x3 X s) (Ke : ∀ e, q = .inr e → ke_X11_goesAlong_76  x2 x3 X e) : G X h 0 0 97 [(0, .ref 81), (2, .int x2), (3, .int x3), (4, .int x4)] [] := by
  unfold j_X11_goesAlong_97_76 at hrun
  refine g_aload_n C (dat dt_X11_goesAlong 52 rfl) 0 rfl ?_
  refine g_iconst C (dat dt_X11_goesAlong 53 rfl) ic_0 ?_
  refine g_putZ (b := false) C (dat dt_X11_goesAlong 54 rfl) fl_11_301 rfl kd_81 rfl ltk_81 ?_
  refine g_aload_n C (dat dt_X11_goesAlong 55 rfl) 0 rfl ?_
  refine g_getR C (dat dt_X11_goesAlong 56 rfl) fl_11_112 kd_81 rfl ltk_81 ?_
  refine g_iload C (dat dt_X11_goesAlong 57 rfl) 3 rfl ?_
  refine g_aload_n C (dat dt_X11_goesAlong 58 rfl) 0 rfl ?_
  refine g_iload_n C (dat dt_X11_goesAlong 59 rfl) 1 rfl ?_
  obtain ⟨v7, q8, hrun⟩ := bd hrun
  refine g_cVl [.int x2] C (dat dt_X11_goesAlong 60 rfl) ml_11_318 ((w_gr_C GD).1 _ _ _ q8) kd_81 ltk_81 rfl rfl (Nat.le_of_ble_eq_true rfl) (by decide) c00 ?_
  obtain ⟨j9, q10, hrun⟩ := bd hrun
  refine g_last (j := j9) C (dat dt_X11_goesAlong 61 rfl) kd_108 ltk_108 q10  ?_
  refine g_aload_n C (dat dt_X11_goesAlong 62 rfl) 0 rfl ?_
  refine g_aload_n C (dat dt_X11_goesAlong 63 rfl) 0 rfl ?_
  refine g_getI C (dat dt_X11_goesAlong 64 rfl) fl_11_467 kd_81 rfl ltk_81 ?_
  refine g_if_eq 133 C (dat dt_X11_goesAlong 65 rfl) (by decide) (fun c11 => ?_) (fun c11 => ?_)
  · rw [if_pos c11] at hrun
    exact wj_X11_goesAlong_133_76 C    x2 x3 x4 (sL v7.2 108 j9 v7.1) _ hrun Ks Ke
  · rw [if_neg c11] at hrun
    refine g_aload_n C (dat dt_X11_goesAlong 66 rfl) 0 rfl ?_
    refine g_getI C (dat dt_X11_goesAlong 67 rfl) fl_11_301 kd_81 rfl ltk_81 ?_
    refine g_if_ne 133 C (dat dt_X11_goesAlong 68 rfl) (by decide) (fun c14 => ?_) (fun c14 => ?_)
    · rw [if_neg c14] at hrun
      exact wj_X11_goesAlong_133_76 C    x2 x3 x4 (sL v7.2 108 j9 v7.1) _ hrun Ks Ke
    · rw [if_pos c14] at hrun
      refine g_iconst C (dat dt_X11_goesAlong 69 rfl) ic_1 ?_
      refine g_goto 134 C (dat dt_X11_goesAlong 70 rfl) (by decide) ?_
      exact wj_X11_goesAlong_134_76 C    x2 x3 x4 (1 : Int32) (sL v7.2 108 j9 v7.1) _ hrun Ks Ke
def b_X11_goesAlong_76  (x2 : Int32) (x3 : Int32) (x4 : Int32) (h : Hp) : Option ((Int32 × Hp) ⊕ Hp) :=
  if x3 ≤ x4 then
  some (.inr ( h))
  else
  if x4 ≤ 0 then
  j_X11_goesAlong_97_76  x2 x3 x4 h
  else
  j_X11_goesAlong_97_76  x2 x3 x4 (sF h 81 22 ((fI h 81 22) + (1 : Int32)))
set_option maxRecDepth 20000 in
theorem wb_X11_goesAlong_76 {X : Xt} (C : Cx X cn_11 prog_13_method_124_code 5 none 141 0 0)   (x2 : Int32) (x3 : Int32) (x4 : Int32) (h : Hp) (q : (Int32 × Hp) ⊕ Hp) (hrun : b_X11_goesAlong_76  x2 x3 x4 h = some q) (Ks : ∀ s, q = .inl s → kp_X11_goesAlong_76  x2 x3 X s) (Ke : ∀ e, q = .inr e → ke_X11_goesAlong_76  x2 x3 X e) : kp_X11_goesAlong_76  x2 x3 X (x4, h) := by
  show G X h 0 0 76 [(0, .ref 81), (2, .int x2), (3, .int x3), (4, .int x4)] []
  unfold b_X11_goesAlong_76 at hrun
  refine g_iload C (dat dt_X11_goesAlong 41 rfl) 3 rfl ?_
  refine g_iload_n C (dat dt_X11_goesAlong 42 rfl) 2 rfl ?_
  refine g_ic_ge 143 C (dat dt_X11_goesAlong 43 rfl) (by decide) (fun c5 => ?_) (fun c5 => ?_)
  · rw [if_pos c5] at hrun
    refine g_sub [0, 1] (lv' := [(0, .ref 81), (2, .int x2)]) rfl ?_
    cases hrun
    exact Ke ( h) rfl
  · rw [if_neg c5] at hrun
    refine g_iload C (dat dt_X11_goesAlong 44 rfl) 3 rfl ?_
    refine g_if_le 97 C (dat dt_X11_goesAlong 45 rfl) (by decide) (fun c6 => ?_) (fun c6 => ?_)
    · rw [if_pos c6] at hrun
      exact wj_X11_goesAlong_97_76 C    x2 x3 x4 h _ hrun Ks Ke
    · rw [if_neg c6] at hrun
      refine g_aload_n C (dat dt_X11_goesAlong 46 rfl) 0 rfl ?_
      refine g_dup C (dat dt_X11_goesAlong 47 rfl) rfl ?_
      refine g_getI C (dat dt_X11_goesAlong 48 rfl) fl_11_291 kd_81 rfl ltk_81 ?_
      refine g_iconst C (dat dt_X11_goesAlong 49 rfl) ic_1 ?_
      refine g_iadd C (dat dt_X11_goesAlong 50 rfl) ?_
      refine g_putI C (dat dt_X11_goesAlong 51 rfl) fl_11_291 rfl rfl kd_81 rfl ltk_81 ?_
      exact wj_X11_goesAlong_97_76 C    x2 x3 x4 (sF h 81 22 ((fI h 81 22) + (1 : Int32))) _ hrun Ks Ke
def j_X11_goesAlong_234  (s1 : Int32) (h : Hp) : Option (Unit × Hp) :=
  (i2b s1).bind fun b26 =>
  some ((), (sF (sF h 81 51 (b2i b26)) 81 22 ((fI (sF h 81 51 (b2i b26)) 81 22) + (1 : Int32))))
set_option maxRecDepth 20000 in
theorem wj_X11_goesAlong_234 {X : Xt} (C : Cx X cn_11 prog_13_method_124_code 5 none 141 0 0)    (s1 : Int32) (h : Hp) (q : (Unit × Hp)) (hrun : j_X11_goesAlong_234  s1 h = some q) (K : EndQ X 0 0 none q.2) : G X h 0 0 234 [(0, .ref 81)] [.int s1, .ref 81] := by
  unfold j_X11_goesAlong_234 at hrun
  obtain ⟨b26, q27, hrun⟩ := bd hrun
  refine g_putZ (b := b26) C (dat dt_X11_goesAlong 123 rfl) fl_11_473 (i2b_eq q27) kd_81 rfl ltk_81 ?_
  refine g_aload_n C (dat dt_X11_goesAlong 124 rfl) 0 rfl ?_
  refine g_dup C (dat dt_X11_goesAlong 125 rfl) rfl ?_
  refine g_getI C (dat dt_X11_goesAlong 126 rfl) fl_11_291 kd_81 rfl ltk_81 ?_
  refine g_iconst C (dat dt_X11_goesAlong 127 rfl) ic_1 ?_
  refine g_iadd C (dat dt_X11_goesAlong 128 rfl) ?_
  refine g_putI C (dat dt_X11_goesAlong 129 rfl) fl_11_291 rfl rfl kd_81 rfl ltk_81 ?_
  cases hrun
  exact g_vret C K (dat dt_X11_goesAlong 130 rfl)
def j_X11_goesAlong_233   (h : Hp) : Option (Unit × Hp) :=
  j_X11_goesAlong_234  (0 : Int32) h
set_option maxRecDepth 20000 in
theorem wj_X11_goesAlong_233 {X : Xt} (C : Cx X cn_11 prog_13_method_124_code 5 none 141 0 0)     (h : Hp) (q : (Unit × Hp)) (hrun : j_X11_goesAlong_233   h = some q) (K : EndQ X 0 0 none q.2) : G X h 0 0 233 [(0, .ref 81)] [.ref 81] := by
  unfold j_X11_goesAlong_233 at hrun
  refine g_iconst C (dat dt_X11_goesAlong 122 rfl) ic_0 ?_
  exact wj_X11_goesAlong_234 C    (0 : Int32) h _ hrun K
def j_X11_goesAlong_211  (s1 : Int32) (h : Hp) : Option (Unit × Hp) :=
  (i2b s1).bind fun b23 =>
  if (fI (sF h 81 51 (b2i b23)) 81 51) = 0 then
  j_X11_goesAlong_233   (sF h 81 51 (b2i b23))
  else
  if (fI (sF h 81 51 (b2i b23)) 81 24) = 0 then
  j_X11_goesAlong_234  (1 : Int32) (sF h 81 51 (b2i b23))
  else
  j_X11_goesAlong_233   (sF h 81 51 (b2i b23))
set_option maxRecDepth 20000 in
theorem wj_X11_goesAlong_211 {X : Xt} (C : Cx X cn_11 prog_13_method_124_code 5 none 141 0 0)    (s1 : Int32) (h : Hp) (q : (Unit × Hp)) (hrun : j_X11_goesAlong_211  s1 h = some q) (K : EndQ X 0 0 none q.2) : G X h 0 0 211 [(0, .ref 81)] [.int s1, .ref 81] := by
  unfold j_X11_goesAlong_211 at hrun
  obtain ⟨b23, q24, hrun⟩ := bd hrun
  refine g_putZ (b := b23) C (dat dt_X11_goesAlong 112 rfl) fl_11_473 (i2b_eq q24) kd_81 rfl ltk_81 ?_
  refine g_aload_n C (dat dt_X11_goesAlong 113 rfl) 0 rfl ?_
  refine g_aload_n C (dat dt_X11_goesAlong 114 rfl) 0 rfl ?_
  refine g_getI C (dat dt_X11_goesAlong 115 rfl) fl_11_473 kd_81 rfl ltk_81 ?_
  refine g_if_eq 233 C (dat dt_X11_goesAlong 116 rfl) (by decide) (fun c25 => ?_) (fun c25 => ?_)
  · rw [if_pos c25] at hrun
    exact wj_X11_goesAlong_233 C     (sF h 81 51 (b2i b23)) _ hrun K
  · rw [if_neg c25] at hrun
    refine g_aload_n C (dat dt_X11_goesAlong 117 rfl) 0 rfl ?_
    refine g_getI C (dat dt_X11_goesAlong 118 rfl) fl_11_301 kd_81 rfl ltk_81 ?_
    refine g_if_ne 233 C (dat dt_X11_goesAlong 119 rfl) (by decide) (fun c28 => ?_) (fun c28 => ?_)
    · rw [if_neg c28] at hrun
      exact wj_X11_goesAlong_233 C     (sF h 81 51 (b2i b23)) _ hrun K
    · rw [if_pos c28] at hrun
      refine g_iconst C (dat dt_X11_goesAlong 120 rfl) ic_1 ?_
      refine g_goto 234 C (dat dt_X11_goesAlong 121 rfl) (by decide) ?_
      exact wj_X11_goesAlong_234 C    (1 : Int32) (sF h 81 51 (b2i b23)) _ hrun K
def j_X11_goesAlong_184  (x2 : Int32) (h : Hp) : Option (Unit × Hp) :=
  (f_X11_passes0 (4 : Int32) (sF h 81 24 (b2i false))).bind fun v20 =>
  if v20.1 = true then
  (gr_D GD 0 x2 v20.2).bind fun v29 =>
  if v29.1 = true then
  j_X11_goesAlong_211  (1 : Int32) v29.2
  else
  j_X11_goesAlong_211  (0 : Int32) v29.2
  else
  j_X11_goesAlong_211  (1 : Int32) v20.2
set_option maxRecDepth 20000 in
theorem wj_X11_goesAlong_184 {X : Xt} (C : Cx X cn_11 prog_13_method_124_code 5 none 141 0 0)    (x2 : Int32) (h : Hp) (q : (Unit × Hp)) (hrun : j_X11_goesAlong_184  x2 h = some q) (K : EndQ X 0 0 none q.2) : G X h 0 0 184 [(0, .ref 81), (2, .int x2)] [] := by
  unfold j_X11_goesAlong_184 at hrun
  refine g_aload_n C (dat dt_X11_goesAlong 97 rfl) 0 rfl ?_
  refine g_iconst C (dat dt_X11_goesAlong 98 rfl) ic_0 ?_
  refine g_putZ (b := false) C (dat dt_X11_goesAlong 99 rfl) fl_11_301 rfl kd_81 rfl ltk_81 ?_
  refine g_aload_n C (dat dt_X11_goesAlong 100 rfl) 0 rfl ?_
  refine g_aload_n C (dat dt_X11_goesAlong 101 rfl) 0 rfl ?_
  refine g_iconst C (dat dt_X11_goesAlong 102 rfl) ic_4 ?_
  obtain ⟨v20, q21, hrun⟩ := bd hrun
  refine g_cVi [.int (4 : Int32)] C (dat dt_X11_goesAlong 103 rfl) ml_11_315 (w_X11_passes0 (4 : Int32) (sF h 81 24 (b2i false)) v20  q21) kd_81 ltk_81 rfl rfl (Nat.le_of_ble_eq_true rfl) (by decide) c00 ?_
  refine g_if_eq 206 C (dat dt_X11_goesAlong 104 rfl) (by decide) (fun c22 => ?_) (fun c22 => ?_)
  · rw [if_neg (b2i_z c22)] at hrun
    refine g_iconst C (dat dt_X11_goesAlong 109 rfl) ic_1 ?_
    refine g_goto 211 C (dat dt_X11_goesAlong 110 rfl) (by decide) ?_
    refine g_sub [0] (lv' := [(0, .ref 81)]) rfl ?_
    exact wj_X11_goesAlong_211 C    (1 : Int32) v20.2 _ hrun K
  · rw [if_pos (b2i_nz c22)] at hrun
    refine g_aload_n C (dat dt_X11_goesAlong 105 rfl) 0 rfl ?_
    refine g_iload_n C (dat dt_X11_goesAlong 106 rfl) 1 rfl ?_
    obtain ⟨v29, q30, hrun⟩ := bd hrun
    refine g_cVi [.int x2] C (dat dt_X11_goesAlong 107 rfl) ml_11_348 ((w_gr_D GD).1 _ _ _ q30) kd_81 ltk_81 rfl rfl (Nat.le_of_ble_eq_true rfl) (by decide) c00 ?_
    refine g_if_eq 210 C (dat dt_X11_goesAlong 108 rfl) (by decide) (fun c31 => ?_) (fun c31 => ?_)
    · rw [if_neg (b2i_z c31)] at hrun
      refine g_iconst C (dat dt_X11_goesAlong 111 rfl) ic_0 ?_
      refine g_sub [0] (lv' := [(0, .ref 81)]) rfl ?_
      exact wj_X11_goesAlong_211 C    (0 : Int32) v29.2 _ hrun K
    · rw [if_pos (b2i_nz c31)] at hrun
      refine g_iconst C (dat dt_X11_goesAlong 109 rfl) ic_1 ?_
      refine g_goto 211 C (dat dt_X11_goesAlong 110 rfl) (by decide) ?_
      refine g_sub [0] (lv' := [(0, .ref 81)]) rfl ?_
      exact wj_X11_goesAlong_211 C    (1 : Int32) v29.2 _ hrun K
def j_X11_goesAlong_72  (x2 : Int32) (s0 : Int32) (h : Hp) : Option (Unit × Hp) :=
  (lp (fun s => b_X11_goesAlong_76  x2 s0 s.1 s.2) FU ((0 : Int32), h)).bind fun e15 =>
  (f_X11_passes0 (27 : Int32) (sF e15 81 48 (1 : Int32))).bind fun v17 =>
  if v17.1 = true then
  (inb ((2862 : Int32) + (fI v17.2 81 22)) 5662).bind fun j32 =>
  j_X11_goesAlong_184  x2 (sF (sF v17.2 81 48 (aI v17.2 83 j32)) 81 22 ((fI (sF v17.2 81 48 (aI v17.2 83 j32)) 81 22) + (1 : Int32)))
  else
  j_X11_goesAlong_184  x2 v17.2
set_option maxRecDepth 20000 in
theorem wj_X11_goesAlong_72 {X : Xt} (C : Cx X cn_11 prog_13_method_124_code 5 none 141 0 0)    (x2 : Int32) (s0 : Int32) (h : Hp) (q : (Unit × Hp)) (hrun : j_X11_goesAlong_72  x2 s0 h = some q) (K : EndQ X 0 0 none q.2) : G X h 0 0 72 [(0, .ref 81), (2, .int x2)] [.int s0] := by
  unfold j_X11_goesAlong_72 at hrun
  refine g_istore_n (lv' := [(0, .ref 81), (2, .int x2), (3, .int s0)]) C (dat dt_X11_goesAlong 38 rfl) (by decide) rfl ?_
  refine g_iconst C (dat dt_X11_goesAlong 39 rfl) ic_0 ?_
  refine g_istore (lv' := [(0, .ref 81), (2, .int x2), (3, .int s0), (4, .int (0 : Int32))]) C (dat dt_X11_goesAlong 40 rfl) (by decide) rfl ?_
  obtain ⟨e15, q16, hrun⟩ := bd hrun
  refine lp_ind (P := fun s => kp_X11_goesAlong_76  x2 s0 X s) (K := fun e => ke_X11_goesAlong_76  x2 s0 X e) (fun s q hb Ks Ke => wb_X11_goesAlong_76 C   x2 s0 s.1 s.2 q hb Ks Ke) FU ((0 : Int32), h) e15 q16 ?_
  show G X e15 0 0 143 [(0, .ref 81), (2, .int x2)] []
  refine g_aload_n C (dat dt_X11_goesAlong 75 rfl) 0 rfl ?_
  refine g_iconst C (dat dt_X11_goesAlong 76 rfl) ic_1 ?_
  refine g_putI C (dat dt_X11_goesAlong 77 rfl) fl_11_470 rfl rfl kd_81 rfl ltk_81 ?_
  refine g_aload_n C (dat dt_X11_goesAlong 78 rfl) 0 rfl ?_
  refine g_bipush C (dat dt_X11_goesAlong 79 rfl) bp_27 ?_
  obtain ⟨v17, q18, hrun⟩ := bd hrun
  refine g_cVi [.int (27 : Int32)] C (dat dt_X11_goesAlong 80 rfl) ml_11_315 (w_X11_passes0 (27 : Int32) (sF e15 81 48 (1 : Int32)) v17  q18) kd_81 ltk_81 rfl rfl cat0 (by decide) c00 ?_
  refine g_if_eq 184 C (dat dt_X11_goesAlong 81 rfl) (by decide) (fun c19 => ?_) (fun c19 => ?_)
  · rw [if_neg (b2i_z c19)] at hrun
    exact wj_X11_goesAlong_184 C    x2 v17.2 _ hrun K
  · rw [if_pos (b2i_nz c19)] at hrun
    refine g_aload_n C (dat dt_X11_goesAlong 82 rfl) 0 rfl ?_
    refine g_aload_n C (dat dt_X11_goesAlong 83 rfl) 0 rfl ?_
    refine g_getR C (dat dt_X11_goesAlong 84 rfl) fl_11_28 kd_81 rfl ltk_81 ?_
    refine g_sipush C (dat dt_X11_goesAlong 85 rfl) sp_2862 ?_
    refine g_aload_n C (dat dt_X11_goesAlong 86 rfl) 0 rfl ?_
    refine g_getI C (dat dt_X11_goesAlong 87 rfl) fl_11_291 kd_81 rfl ltk_81 ?_
    refine g_iadd C (dat dt_X11_goesAlong 88 rfl) ?_
    obtain ⟨j32, q33, hrun⟩ := bd hrun
    refine g_iald C (dat dt_X11_goesAlong 89 rfl) kd_83 ltk_83 q33 ?_
    refine g_putI C (dat dt_X11_goesAlong 90 rfl) fl_11_470 rfl rfl kd_81 rfl ltk_81 ?_
    refine g_aload_n C (dat dt_X11_goesAlong 91 rfl) 0 rfl ?_
    refine g_dup C (dat dt_X11_goesAlong 92 rfl) rfl ?_
    refine g_getI C (dat dt_X11_goesAlong 93 rfl) fl_11_291 kd_81 rfl ltk_81 ?_
    refine g_iconst C (dat dt_X11_goesAlong 94 rfl) ic_1 ?_
    refine g_iadd C (dat dt_X11_goesAlong 95 rfl) ?_
    refine g_putI C (dat dt_X11_goesAlong 96 rfl) fl_11_291 rfl rfl kd_81 rfl ltk_81 ?_
    exact wj_X11_goesAlong_184 C    x2 (sF (sF v17.2 81 48 (aI v17.2 83 j32)) 81 22 ((fI (sF v17.2 81 48 (aI v17.2 83 j32)) 81 22) + (1 : Int32))) _ hrun K
def f_X11_goesAlong (x1 : Int32) (x2 : Int32) (h : Hp) : Option (Unit × Hp) :=
  (f_X11_codeAt (fI (sF (sF (sF h 81 25 (b2i true)) 81 23 x1) 81 22 (fI (sF (sF h 81 25 (b2i true)) 81 23 x1) 81 47)) 81 22) (sF (sF (sF h 81 25 (b2i true)) 81 23 x1) 81 22 (fI (sF (sF h 81 25 (b2i true)) 81 23 x1) 81 47))).bind fun v1 =>
  if (fI (sF (sF (sF (sF (sF (sF h 81 25 (b2i true)) 81 23 x1) 81 22 (fI (sF (sF h 81 25 (b2i true)) 81 23 x1) 81 47)) 81 49 v1) 81 22 ((fI (sF (sF (sF (sF h 81 25 (b2i true)) 81 23 x1) 81 22 (fI (sF (sF h 81 25 (b2i true)) 81 23 x1) 81 47)) 81 49 v1) 81 22) + (1 : Int32))) 81 50 (b2i true)) 81 49) = (26 : Int32) then
  j_X11_goesAlong_72  x2 (0 : Int32) (sF (sF (sF (sF (sF (sF h 81 25 (b2i true)) 81 23 x1) 81 22 (fI (sF (sF h 81 25 (b2i true)) 81 23 x1) 81 47)) 81 49 v1) 81 22 ((fI (sF (sF (sF (sF h 81 25 (b2i true)) 81 23 x1) 81 22 (fI (sF (sF h 81 25 (b2i true)) 81 23 x1) 81 47)) 81 49 v1) 81 22) + (1 : Int32))) 81 50 (b2i true))
  else
  if (fI (sF (sF (sF (sF (sF (sF h 81 25 (b2i true)) 81 23 x1) 81 22 (fI (sF (sF h 81 25 (b2i true)) 81 23 x1) 81 47)) 81 49 v1) 81 22 ((fI (sF (sF (sF (sF h 81 25 (b2i true)) 81 23 x1) 81 22 (fI (sF (sF h 81 25 (b2i true)) 81 23 x1) 81 47)) 81 49 v1) 81 22) + (1 : Int32))) 81 50 (b2i true)) 81 49) = (23 : Int32) then
  j_X11_goesAlong_72  x2 (1 : Int32) (sF (sF (sF (sF (sF (sF h 81 25 (b2i true)) 81 23 x1) 81 22 (fI (sF (sF h 81 25 (b2i true)) 81 23 x1) 81 47)) 81 49 v1) 81 22 ((fI (sF (sF (sF (sF h 81 25 (b2i true)) 81 23 x1) 81 22 (fI (sF (sF h 81 25 (b2i true)) 81 23 x1) 81 47)) 81 49 v1) 81 22) + (1 : Int32))) 81 50 (b2i true))
  else
  j_X11_goesAlong_72  x2 (2 : Int32) (sF (sF (sF (sF (sF (sF h 81 25 (b2i true)) 81 23 x1) 81 22 (fI (sF (sF h 81 25 (b2i true)) 81 23 x1) 81 47)) 81 49 v1) 81 22 ((fI (sF (sF (sF (sF h 81 25 (b2i true)) 81 23 x1) 81 22 (fI (sF (sF h 81 25 (b2i true)) 81 23 x1) 81 47)) 81 49 v1) 81 22) + (1 : Int32))) 81 50 (b2i true))
set_option maxRecDepth 20000 in
theorem w_X11_goesAlong (x1 : Int32) (x2 : Int32) (h : Hp) (q : (Unit × Hp))  (hrun : f_X11_goesAlong x1 x2 h = some q) : MetA ⟨"SteamNationsModel", "goesAlong", "(IZ)V"⟩ prog_13_method_124_code 5 none 141 0 0 [.ref 81, .int x1, .int x2] h none q.2 := by
  refine metA_of (by decide) (Nat.le_of_ble_eq_true rfl) (fun X C K => ?_)
  have C : Cx X cn_11 prog_13_method_124_code 5 none 141 0 0 := C
  show G X h 0 0 0 [(0, .ref 81), (1, .int x1), (2, .int x2)] []
  unfold f_X11_goesAlong at hrun
  refine g_aload_n C (dat dt_X11_goesAlong 0 rfl) 0 rfl ?_
  refine g_iconst C (dat dt_X11_goesAlong 1 rfl) ic_1 ?_
  refine g_putZ (b := true) C (dat dt_X11_goesAlong 2 rfl) fl_11_321 rfl kd_81 rfl ltk_81 ?_
  refine g_aload_n C (dat dt_X11_goesAlong 3 rfl) 0 rfl ?_
  refine g_iload_n C (dat dt_X11_goesAlong 4 rfl) 1 rfl ?_
  refine g_putI C (dat dt_X11_goesAlong 5 rfl) fl_11_288 rfl rfl kd_81 rfl ltk_81 ?_
  refine g_aload_n C (dat dt_X11_goesAlong 6 rfl) 0 rfl ?_
  refine g_aload_n C (dat dt_X11_goesAlong 7 rfl) 0 rfl ?_
  refine g_getI C (dat dt_X11_goesAlong 8 rfl) fl_11_458 kd_81 rfl ltk_81 ?_
  refine g_putI C (dat dt_X11_goesAlong 9 rfl) fl_11_291 rfl rfl kd_81 rfl ltk_81 ?_
  refine g_aload_n C (dat dt_X11_goesAlong 10 rfl) 0 rfl ?_
  refine g_aload_n C (dat dt_X11_goesAlong 11 rfl) 0 rfl ?_
  refine g_aload_n C (dat dt_X11_goesAlong 12 rfl) 0 rfl ?_
  refine g_getI C (dat dt_X11_goesAlong 13 rfl) fl_11_291 kd_81 rfl ltk_81 ?_
  obtain ⟨v1, q2, hrun⟩ := bd hrun
  refine g_cVi [.int (fI (sF (sF (sF h 81 25 (b2i true)) 81 23 x1) 81 22 (fI (sF (sF h 81 25 (b2i true)) 81 23 x1) 81 47)) 81 22)] C (dat dt_X11_goesAlong 14 rfl) ml_11_294 (w_X11_codeAt (fI (sF (sF (sF h 81 25 (b2i true)) 81 23 x1) 81 22 (fI (sF (sF h 81 25 (b2i true)) 81 23 x1) 81 47)) 81 22) (sF (sF (sF h 81 25 (b2i true)) 81 23 x1) 81 22 (fI (sF (sF h 81 25 (b2i true)) 81 23 x1) 81 47)) v1  q2) kd_81 ltk_81 rfl rfl (Nat.le_of_ble_eq_true rfl) (by decide) c00 ?_
  refine g_putI C (dat dt_X11_goesAlong 15 rfl) fl_11_464 rfl rfl kd_81 rfl ltk_81 ?_
  refine g_aload_n C (dat dt_X11_goesAlong 16 rfl) 0 rfl ?_
  refine g_dup C (dat dt_X11_goesAlong 17 rfl) rfl ?_
  refine g_getI C (dat dt_X11_goesAlong 18 rfl) fl_11_291 kd_81 rfl ltk_81 ?_
  refine g_iconst C (dat dt_X11_goesAlong 19 rfl) ic_1 ?_
  refine g_iadd C (dat dt_X11_goesAlong 20 rfl) ?_
  refine g_putI C (dat dt_X11_goesAlong 21 rfl) fl_11_291 rfl rfl kd_81 rfl ltk_81 ?_
  refine g_aload_n C (dat dt_X11_goesAlong 22 rfl) 0 rfl ?_
  refine g_iconst C (dat dt_X11_goesAlong 23 rfl) ic_1 ?_
  refine g_putZ (b := true) C (dat dt_X11_goesAlong 24 rfl) fl_11_467 rfl kd_81 rfl ltk_81 ?_
  refine g_aload_n C (dat dt_X11_goesAlong 25 rfl) 0 rfl ?_
  refine g_getI C (dat dt_X11_goesAlong 26 rfl) fl_11_464 kd_81 rfl ltk_81 ?_
  refine g_bipush C (dat dt_X11_goesAlong 27 rfl) bp_26 ?_
  refine g_ic_ne 58 C (dat dt_X11_goesAlong 28 rfl) (by decide) (fun c3 => ?_) (fun c3 => ?_)
  · rw [if_neg c3] at hrun
    refine g_aload_n C (dat dt_X11_goesAlong 31 rfl) 0 rfl ?_
    refine g_getI C (dat dt_X11_goesAlong 32 rfl) fl_11_464 kd_81 rfl ltk_81 ?_
    refine g_bipush C (dat dt_X11_goesAlong 33 rfl) bp_23 ?_
    refine g_ic_ne 71 C (dat dt_X11_goesAlong 34 rfl) (by decide) (fun c4 => ?_) (fun c4 => ?_)
    · rw [if_neg c4] at hrun
      refine g_iconst C (dat dt_X11_goesAlong 37 rfl) ic_2 ?_
      refine g_sub [0, 2] (lv' := [(0, .ref 81), (2, .int x2)]) rfl ?_
      exact wj_X11_goesAlong_72 C    x2 (2 : Int32) (sF (sF (sF (sF (sF (sF h 81 25 (b2i true)) 81 23 x1) 81 22 (fI (sF (sF h 81 25 (b2i true)) 81 23 x1) 81 47)) 81 49 v1) 81 22 ((fI (sF (sF (sF (sF h 81 25 (b2i true)) 81 23 x1) 81 22 (fI (sF (sF h 81 25 (b2i true)) 81 23 x1) 81 47)) 81 49 v1) 81 22) + (1 : Int32))) 81 50 (b2i true)) _ hrun K
    · rw [if_pos c4] at hrun
      refine g_iconst C (dat dt_X11_goesAlong 35 rfl) ic_1 ?_
      refine g_goto 72 C (dat dt_X11_goesAlong 36 rfl) (by decide) ?_
      refine g_sub [0, 2] (lv' := [(0, .ref 81), (2, .int x2)]) rfl ?_
      exact wj_X11_goesAlong_72 C    x2 (1 : Int32) (sF (sF (sF (sF (sF (sF h 81 25 (b2i true)) 81 23 x1) 81 22 (fI (sF (sF h 81 25 (b2i true)) 81 23 x1) 81 47)) 81 49 v1) 81 22 ((fI (sF (sF (sF (sF h 81 25 (b2i true)) 81 23 x1) 81 22 (fI (sF (sF h 81 25 (b2i true)) 81 23 x1) 81 47)) 81 49 v1) 81 22) + (1 : Int32))) 81 50 (b2i true)) _ hrun K
  · rw [if_pos c3] at hrun
    refine g_iconst C (dat dt_X11_goesAlong 29 rfl) ic_0 ?_
    refine g_goto 72 C (dat dt_X11_goesAlong 30 rfl) (by decide) ?_
    refine g_sub [0, 2] (lv' := [(0, .ref 81), (2, .int x2)]) rfl ?_
    exact wj_X11_goesAlong_72 C    x2 (0 : Int32) (sF (sF (sF (sF (sF (sF h 81 25 (b2i true)) 81 23 x1) 81 22 (fI (sF (sF h 81 25 (b2i true)) 81 23 x1) 81 47)) 81 49 v1) 81 22 ((fI (sF (sF (sF (sF h 81 25 (b2i true)) 81 23 x1) 81 22 (fI (sF (sF h 81 25 (b2i true)) 81 23 x1) 81 47)) 81 49 v1) 81 22) + (1 : Int32))) 81 50 (b2i true)) _ hrun K
/-! SteamNationsModel.givesAll(I)V -/
def dl_X11_givesAll : List (Nat × Instr × Nat) := [(0, .aload_n 0, 1), (1, .iload_n 1, 1), (2, .invokevirtual 153, 3), (5, .istore_n 2, 1), (6, .aload_n 0, 1), (7, .iload_n 1, 1), (8, .iload_n 2, 1), (9, .invokevirtual 131, 3), (12, .istore_n 3, 1), (13, .iconst 0, 1), (14, .istore 4, 2), (16, .iload 4, 2), (18, .bipush 9, 2), (20, .if_icmp .ge 92, 3), (23, .aload_n 0, 1), (24, .iload_n 1, 1), (25, .invokevirtual 150, 3), (28, .iload 4, 2), (30, .invokestatic 169, 3), (33, .ifCond .eq 12, 3), (36, .aload_n 0, 1), (37, .iload 4, 2), (39, .invokevirtual 166, 3), (42, .goto 4, 3), (45, .iconst (-1), 1), (46, .istore 5, 2), (48, .iload 5, 2), (50, .iconst (-1), 1), (51, .if_icmp .ne 6, 3), (54, .goto 52, 3), (57, .iload_n 3, 1), (58, .aload_n 0, 1), (59, .iload_n 1, 1), (60, .iload 5, 2), (62, .invokevirtual 173, 3), (65, .invokestatic 358, 3), (68, .istore 6, 2), (70, .iload_n 3, 1), (71, .iload 6, 2), (73, .isub, 1), (74, .istore_n 3, 1), (75, .aload_n 0, 1), (76, .getfield 66, 3), (79, .iconst 3, 1), (80, .iload_n 1, 1), (81, .imul, 1), (82, .iload_n 2, 1), (83, .iadd, 1), (84, .dup2, 1), (85, .iaload, 1), (86, .iload 6, 2), (88, .isub, 1), (89, .iastore, 1), (90, .aload_n 0, 1), (91, .getfield 66, 3), (94, .iconst 3, 1), (95, .iload 5, 2), (97, .imul, 1), (98, .iload_n 2, 1), (99, .iadd, 1), (100, .dup2, 1), (101, .iaload, 1), (102, .iload 6, 2), (104, .iadd, 1), (105, .iastore, 1), (106, .iinc 4 1, 3), (109, .goto (-93), 3), (112, .return_, 1)]
set_option maxRecDepth 20000 in
theorem dt_X11_givesAll : ∀ q ∈ dl_X11_givesAll, decode prog_13_method_80_code q.1 = .ok q.2 := by decide +kernel
def kp_X11_givesAll_16  (x1 : Int32) (x2 : Int32) (X : Xt) (s : (Int32 × Int32 × Hp)) : Prop := G X s.2.2 0 0 16 [(0, .ref 81), (1, .int x1), (2, .int x2), (3, .int s.1), (4, .int s.2.1)] []
def ke_X11_givesAll_16  (x1 : Int32) (x2 : Int32) (X : Xt) (e : Hp) : Prop := G X e 0 0 112 [] []
def j_X11_givesAll_46_16  (x1 : Int32) (x2 : Int32) (x3 : Int32) (x4 : Int32) (s0 : Int32) (h : Hp) : Option ((Int32 × Int32 × Hp) ⊕ Hp) :=
  if s0 = (-1 : Int32) then
  some (.inl (x3, (x4 + (1 : Int32)), h))
  else
  (f_X11_givesTo x1 s0 h).bind fun v12 =>
  (f_X11_lesser x3 v12.1).bind fun v14 =>
  (inb (((3 : Int32) * x1) + x2) 18).bind fun j16 =>
  (inb (((3 : Int32) * x1) + x2) 18).bind fun j18 =>
  (inb (((3 : Int32) * s0) + x2) 18).bind fun j20 =>
  (inb (((3 : Int32) * s0) + x2) 18).bind fun j22 =>
  some (.inl ((x3 - v14), (x4 + (1 : Int32)), (sA (sA v12.2 94 j18 ((aI v12.2 94 j16) - v14)) 94 j22 ((aI (sA v12.2 94 j18 ((aI v12.2 94 j16) - v14)) 94 j20) + v14))))
set_option maxRecDepth 20000 in
theorem wj_X11_givesAll_46_16 {X : Xt} (C : Cx X cn_11 prog_13_method_80_code 7 none 143 0 0)    (x1 : Int32) (x2 : Int32) (x3 : Int32) (x4 : Int32) (s0 : Int32) (h : Hp) (q : (Int32 × Int32 × Hp) ⊕ Hp) (hrun : j_X11_givesAll_46_16  x1 x2 x3 x4 s0 h = some q) (Ks : ∀ s, q = .inl s → kp_X11_givesAll_16  x1 x2 X s) (Ke : ∀ e, q = .inr e → ke_X11_givesAll_16  x1 x2 X e) : G X h 0 0 46 [(0, .ref 81), (1, .int x1), (2, .int x2), (3, .int x3), (4, .int x4)] [.int s0] := by
  unfold j_X11_givesAll_46_16 at hrun
  refine g_istore (lv' := [(0, .ref 81), (1, .int x1), (2, .int x2), (3, .int x3), (4, .int x4), (5, .int s0)]) C (dat dt_X11_givesAll 25 rfl) (by decide) rfl ?_
  refine g_iload C (dat dt_X11_givesAll 26 rfl) 5 rfl ?_
  refine g_iconst C (dat dt_X11_givesAll 27 rfl) ic_m1 ?_
  refine g_ic_ne 57 C (dat dt_X11_givesAll 28 rfl) (by decide) (fun c11 => ?_) (fun c11 => ?_)
  · rw [if_neg c11] at hrun
    refine g_iload_n C (dat dt_X11_givesAll 30 rfl) 3 rfl ?_
    refine g_aload_n C (dat dt_X11_givesAll 31 rfl) 0 rfl ?_
    refine g_iload_n C (dat dt_X11_givesAll 32 rfl) 1 rfl ?_
    refine g_iload C (dat dt_X11_givesAll 33 rfl) 5 rfl ?_
    obtain ⟨v12, q13, hrun⟩ := bd hrun
    refine g_cVi [.int x1, .int s0] C (dat dt_X11_givesAll 34 rfl) ml_11_173 (w_X11_givesTo x1 s0 h v12  q13) kd_81 ltk_81 rfl rfl (Nat.le_of_ble_eq_true rfl) (by decide) c00 ?_
    obtain ⟨v14, q15, hrun⟩ := bd hrun
    refine g_cSi [.int x3, .int v12.1] C (dat dt_X11_givesAll 35 rfl) ml_11_358 (w_X11_lesser x3 v12.1 v12.2 v14  q15) rfl rfl cat0 (by decide) c00 ?_
    refine g_istore (lv' := [(0, .ref 81), (1, .int x1), (2, .int x2), (3, .int x3), (4, .int x4), (5, .int s0), (6, .int v14)]) C (dat dt_X11_givesAll 36 rfl) (by decide) rfl ?_
    refine g_iload_n C (dat dt_X11_givesAll 37 rfl) 3 rfl ?_
    refine g_iload C (dat dt_X11_givesAll 38 rfl) 6 rfl ?_
    refine g_isub C (dat dt_X11_givesAll 39 rfl) ?_
    refine g_istore_n (lv' := [(0, .ref 81), (1, .int x1), (2, .int x2), (3, .int (x3 - v14)), (4, .int x4), (5, .int s0), (6, .int v14)]) C (dat dt_X11_givesAll 40 rfl) (by decide) rfl ?_
    refine g_aload_n C (dat dt_X11_givesAll 41 rfl) 0 rfl ?_
    refine g_getR C (dat dt_X11_givesAll 42 rfl) fl_11_66 kd_81 rfl ltk_81 ?_
    refine g_iconst C (dat dt_X11_givesAll 43 rfl) ic_3 ?_
    refine g_iload_n C (dat dt_X11_givesAll 44 rfl) 1 rfl ?_
    refine g_imul C (dat dt_X11_givesAll 45 rfl) ?_
    refine g_iload_n C (dat dt_X11_givesAll 46 rfl) 2 rfl ?_
    refine g_iadd C (dat dt_X11_givesAll 47 rfl) ?_
    refine g_dup2 C (dat dt_X11_givesAll 48 rfl) rfl rfl ?_
    obtain ⟨j16, q17, hrun⟩ := bd hrun
    refine g_iald C (dat dt_X11_givesAll 49 rfl) kd_94 ltk_94 q17 ?_
    refine g_iload C (dat dt_X11_givesAll 50 rfl) 6 rfl ?_
    refine g_isub C (dat dt_X11_givesAll 51 rfl) ?_
    obtain ⟨j18, q19, hrun⟩ := bd hrun
    refine g_iast (j := j18) C (dat dt_X11_givesAll 52 rfl) kd_94 ltk_94 q19  ?_
    refine g_aload_n C (dat dt_X11_givesAll 53 rfl) 0 rfl ?_
    refine g_getR C (dat dt_X11_givesAll 54 rfl) fl_11_66 kd_81 rfl ltk_81 ?_
    refine g_iconst C (dat dt_X11_givesAll 55 rfl) ic_3 ?_
    refine g_iload C (dat dt_X11_givesAll 56 rfl) 5 rfl ?_
    refine g_imul C (dat dt_X11_givesAll 57 rfl) ?_
    refine g_iload_n C (dat dt_X11_givesAll 58 rfl) 2 rfl ?_
    refine g_iadd C (dat dt_X11_givesAll 59 rfl) ?_
    refine g_dup2 C (dat dt_X11_givesAll 60 rfl) rfl rfl ?_
    obtain ⟨j20, q21, hrun⟩ := bd hrun
    refine g_iald C (dat dt_X11_givesAll 61 rfl) kd_94 ltk_94 q21 ?_
    refine g_iload C (dat dt_X11_givesAll 62 rfl) 6 rfl ?_
    refine g_iadd C (dat dt_X11_givesAll 63 rfl) ?_
    obtain ⟨j22, q23, hrun⟩ := bd hrun
    refine g_iast (j := j22) C (dat dt_X11_givesAll 64 rfl) kd_94 ltk_94 q23  ?_
    refine g_iinc (v := (x4 + (1 : Int32))) (lv' := [(0, .ref 81), (1, .int x1), (2, .int x2), (3, .int (x3 - v14)), (4, .int (x4 + (1 : Int32))), (5, .int s0), (6, .int v14)]) C (dat dt_X11_givesAll 65 rfl) 4 rfl (congrArg (fun z => x4 + z) ic_1) (by decide) rfl ?_
    refine g_goto 16 C (dat dt_X11_givesAll 66 rfl) (by decide) ?_
    refine g_sub [0, 1, 2, 3, 4] (lv' := [(0, .ref 81), (1, .int x1), (2, .int x2), (3, .int (x3 - v14)), (4, .int (x4 + (1 : Int32)))]) rfl ?_
    cases hrun
    exact Ks ((x3 - v14), (x4 + (1 : Int32)), (sA (sA v12.2 94 j18 ((aI v12.2 94 j16) - v14)) 94 j22 ((aI (sA v12.2 94 j18 ((aI v12.2 94 j16) - v14)) 94 j20) + v14))) rfl
  · rw [if_pos c11] at hrun
    refine g_goto 106 C (dat dt_X11_givesAll 29 rfl) (by decide) ?_
    refine g_iinc (v := (x4 + (1 : Int32))) (lv' := [(0, .ref 81), (1, .int x1), (2, .int x2), (3, .int x3), (4, .int (x4 + (1 : Int32))), (5, .int s0)]) C (dat dt_X11_givesAll 65 rfl) 4 rfl (congrArg (fun z => x4 + z) ic_1) (by decide) rfl ?_
    refine g_goto 16 C (dat dt_X11_givesAll 66 rfl) (by decide) ?_
    refine g_sub [0, 1, 2, 3, 4] (lv' := [(0, .ref 81), (1, .int x1), (2, .int x2), (3, .int x3), (4, .int (x4 + (1 : Int32)))]) rfl ?_
    cases hrun
    exact Ks (x3, (x4 + (1 : Int32)), h) rfl
def b_X11_givesAll_16  (x1 : Int32) (x2 : Int32) (x3 : Int32) (x4 : Int32) (h : Hp) : Option ((Int32 × Int32 × Hp) ⊕ Hp) :=
  if (9 : Int32) ≤ x4 then
  some (.inr ( h))
  else
  (f_X11_seatOf x1 h).bind fun v6 =>
  (f_X11_areBeside v6 x4).bind fun v8 =>
  if v8 = true then
  (f_X11_onSeat x4 h).bind fun v24 =>
  j_X11_givesAll_46_16  x1 x2 x3 x4 v24 h
  else
  j_X11_givesAll_46_16  x1 x2 x3 x4 (-1 : Int32) h
set_option maxRecDepth 20000 in
theorem wb_X11_givesAll_16 {X : Xt} (C : Cx X cn_11 prog_13_method_80_code 7 none 143 0 0)   (x1 : Int32) (x2 : Int32) (x3 : Int32) (x4 : Int32) (h : Hp) (q : (Int32 × Int32 × Hp) ⊕ Hp) (hrun : b_X11_givesAll_16  x1 x2 x3 x4 h = some q) (Ks : ∀ s, q = .inl s → kp_X11_givesAll_16  x1 x2 X s) (Ke : ∀ e, q = .inr e → ke_X11_givesAll_16  x1 x2 X e) : kp_X11_givesAll_16  x1 x2 X (x3, x4, h) := by
  show G X h 0 0 16 [(0, .ref 81), (1, .int x1), (2, .int x2), (3, .int x3), (4, .int x4)] []
  unfold b_X11_givesAll_16 at hrun
  refine g_iload C (dat dt_X11_givesAll 11 rfl) 4 rfl ?_
  refine g_bipush C (dat dt_X11_givesAll 12 rfl) bp_9 ?_
  refine g_ic_ge 112 C (dat dt_X11_givesAll 13 rfl) (by decide) (fun c5 => ?_) (fun c5 => ?_)
  · rw [if_pos c5] at hrun
    refine g_sub [] (lv' := []) rfl ?_
    cases hrun
    exact Ke ( h) rfl
  · rw [if_neg c5] at hrun
    refine g_aload_n C (dat dt_X11_givesAll 14 rfl) 0 rfl ?_
    refine g_iload_n C (dat dt_X11_givesAll 15 rfl) 1 rfl ?_
    obtain ⟨v6, q7, hrun⟩ := bd hrun
    refine g_cVi [.int x1] C (dat dt_X11_givesAll 16 rfl) ml_11_150 (w_X11_seatOf x1 h v6  q7) kd_81 ltk_81 rfl rfl cat0 (by decide) c00 ?_
    refine g_iload C (dat dt_X11_givesAll 17 rfl) 4 rfl ?_
    obtain ⟨v8, q9, hrun⟩ := bd hrun
    refine g_cSi [.int v6, .int x4] C (dat dt_X11_givesAll 18 rfl) ml_11_169 (w_X11_areBeside v6 x4 h v8  q9) rfl rfl cat0 (by decide) c00 ?_
    refine g_if_eq 45 C (dat dt_X11_givesAll 19 rfl) (by decide) (fun c10 => ?_) (fun c10 => ?_)
    · rw [if_neg (b2i_z c10)] at hrun
      refine g_iconst C (dat dt_X11_givesAll 24 rfl) ic_m1 ?_
      exact wj_X11_givesAll_46_16 C    x1 x2 x3 x4 (-1 : Int32) h _ hrun Ks Ke
    · rw [if_pos (b2i_nz c10)] at hrun
      refine g_aload_n C (dat dt_X11_givesAll 20 rfl) 0 rfl ?_
      refine g_iload C (dat dt_X11_givesAll 21 rfl) 4 rfl ?_
      obtain ⟨v24, q25, hrun⟩ := bd hrun
      refine g_cVi [.int x4] C (dat dt_X11_givesAll 22 rfl) ml_11_166 (w_X11_onSeat x4 h v24  q25) kd_81 ltk_81 rfl rfl cat0 (by decide) c00 ?_
      refine g_goto 46 C (dat dt_X11_givesAll 23 rfl) (by decide) ?_
      exact wj_X11_givesAll_46_16 C    x1 x2 x3 x4 v24 h _ hrun Ks Ke
def f_X11_givesAll (x1 : Int32) (h : Hp) : Option (Unit × Hp) :=
  (f_X11_nationOf x1 h).bind fun v1 =>
  (f_X11_partsOf x1 v1 h).bind fun v3 =>
  (lp (fun s => b_X11_givesAll_16  x1 v1 s.1 s.2.1 s.2.2) FU (v3, (0 : Int32), h)).bind fun e26 =>
  some ((), e26)
set_option maxRecDepth 20000 in
theorem w_X11_givesAll (x1 : Int32) (h : Hp) (q : (Unit × Hp))  (hrun : f_X11_givesAll x1 h = some q) : MetA ⟨"SteamNationsModel", "givesAll", "(I)V"⟩ prog_13_method_80_code 7 none 143 0 0 [.ref 81, .int x1] h none q.2 := by
  refine metA_of (by decide) (Nat.le_of_ble_eq_true rfl) (fun X C K => ?_)
  have C : Cx X cn_11 prog_13_method_80_code 7 none 143 0 0 := C
  show G X h 0 0 0 [(0, .ref 81), (1, .int x1)] []
  unfold f_X11_givesAll at hrun
  refine g_aload_n C (dat dt_X11_givesAll 0 rfl) 0 rfl ?_
  refine g_iload_n C (dat dt_X11_givesAll 1 rfl) 1 rfl ?_
  obtain ⟨v1, q2, hrun⟩ := bd hrun
  refine g_cVi [.int x1] C (dat dt_X11_givesAll 2 rfl) ml_11_153 (w_X11_nationOf x1 h v1  q2) kd_81 ltk_81 rfl rfl cat0 (by decide) c00 ?_
  refine g_istore_n (lv' := [(0, .ref 81), (1, .int x1), (2, .int v1)]) C (dat dt_X11_givesAll 3 rfl) (by decide) rfl ?_
  refine g_aload_n C (dat dt_X11_givesAll 4 rfl) 0 rfl ?_
  refine g_iload_n C (dat dt_X11_givesAll 5 rfl) 1 rfl ?_
  refine g_iload_n C (dat dt_X11_givesAll 6 rfl) 2 rfl ?_
  obtain ⟨v3, q4, hrun⟩ := bd hrun
  refine g_cVi [.int x1, .int v1] C (dat dt_X11_givesAll 7 rfl) ml_11_131 (w_X11_partsOf x1 v1 h v3  q4) kd_81 ltk_81 rfl rfl cat0 (by decide) c00 ?_
  refine g_istore_n (lv' := [(0, .ref 81), (1, .int x1), (2, .int v1), (3, .int v3)]) C (dat dt_X11_givesAll 8 rfl) (by decide) rfl ?_
  refine g_iconst C (dat dt_X11_givesAll 9 rfl) ic_0 ?_
  refine g_istore (lv' := [(0, .ref 81), (1, .int x1), (2, .int v1), (3, .int v3), (4, .int (0 : Int32))]) C (dat dt_X11_givesAll 10 rfl) (by decide) rfl ?_
  obtain ⟨e26, q27, hrun⟩ := bd hrun
  refine lp_ind (P := fun s => kp_X11_givesAll_16  x1 v1 X s) (K := fun e => ke_X11_givesAll_16  x1 v1 X e) (fun s q hb Ks Ke => wb_X11_givesAll_16 C   x1 v1 s.1 s.2.1 s.2.2 q hb Ks Ke) FU (v3, (0 : Int32), h) e26 q27 ?_
  show G X e26 0 0 112 [] []
  cases hrun
  exact g_vret C K (dat dt_X11_givesAll 67 rfl)
/-! SteamNationsModel.minutePasses()V -/
def dl_X11_minutePasses : List (Nat × Instr × Nat) := [(0, .iconst 0, 1), (1, .istore_n 1, 1), (2, .iload_n 1, 1), (3, .bipush 18, 2), (5, .if_icmp .ge 16, 3), (8, .aload_n 0, 1), (9, .getfield 66, 3), (12, .iload_n 1, 1), (13, .iconst 0, 1), (14, .iastore, 1), (15, .iinc 1 1, 3), (18, .goto (-16), 3), (21, .iconst 0, 1), (22, .istore_n 1, 1), (23, .iload_n 1, 1), (24, .aload_n 0, 1), (25, .invokevirtual 127, 3), (28, .if_icmp .ge 33, 3), (31, .aload_n 0, 1), (32, .iload_n 1, 1), (33, .invokevirtual 156, 3), (36, .ifCond .eq 19, 3), (39, .aload_n 0, 1), (40, .iconst 2, 1), (41, .iload_n 1, 1), (42, .iconst (-1), 1), (43, .invokevirtual 159, 3), (46, .iconst 1, 1), (47, .if_icmp .ge 8, 3), (50, .aload_n 0, 1), (51, .iload_n 1, 1), (52, .invokevirtual 361, 3), (55, .iinc 1 1, 3), (58, .goto (-35), 3), (61, .iconst 0, 1), (62, .istore_n 1, 1), (63, .iload_n 1, 1), (64, .iconst 3, 1), (65, .aload_n 0, 1), (66, .invokevirtual 127, 3), (69, .imul, 1), (70, .if_icmp .ge 26, 3), (73, .aload_n 0, 1), (74, .getfield 28, 3), (77, .iconst 0, 1), (78, .iload_n 1, 1), (79, .iadd, 1), (80, .dup2, 1), (81, .iaload, 1), (82, .aload_n 0, 1), (83, .getfield 66, 3), (86, .iload_n 1, 1), (87, .iaload, 1), (88, .iadd, 1), (89, .iastore, 1), (90, .iinc 1 1, 3), (93, .goto (-30), 3), (96, .iconst 0, 1), (97, .istore_n 1, 1), (98, .iload_n 1, 1), (99, .aload_n 0, 1), (100, .invokevirtual 127, 3), (103, .if_icmp .ge 37, 3), (106, .aload_n 0, 1), (107, .iload_n 1, 1), (108, .invokevirtual 156, 3), (111, .ifCond .eq 23, 3), (114, .aload_n 0, 1), (115, .iconst 3, 1), (116, .iload_n 1, 1), (117, .iconst (-1), 1), (118, .invokevirtual 159, 3), (121, .ifCond .le 13, 3), (124, .aload_n 0, 1), (125, .getfield 28, 3), (128, .bipush 18, 2), (130, .iload_n 1, 1), (131, .iadd, 1), (132, .iconst (-1), 1), (133, .iastore, 1), (134, .iinc 1 1, 3), (137, .goto (-39), 3), (140, .aload_n 0, 1), (141, .getfield 28, 3), (144, .bipush 24, 2), (146, .dup2, 1), (147, .iaload, 1), (148, .iconst 1, 1), (149, .iadd, 1), (150, .iastore, 1), (151, .return_, 1)]
set_option maxRecDepth 20000 in
theorem dt_X11_minutePasses : ∀ q ∈ dl_X11_minutePasses, decode prog_13_method_81_code q.1 = .ok q.2 := by decide +kernel
def kp_X11_minutePasses_2   (X : Xt) (s : (Int32 × Hp)) : Prop := G X s.2 0 0 2 [(0, .ref 81), (1, .int s.1)] []
def ke_X11_minutePasses_2   (X : Xt) (e : Hp) : Prop := G X e 0 0 21 [(0, .ref 81)] []
def b_X11_minutePasses_2   (x1 : Int32) (h : Hp) : Option ((Int32 × Hp) ⊕ Hp) :=
  if (18 : Int32) ≤ x1 then
  some (.inr ( h))
  else
  (inb x1 18).bind fun j2 =>
  some (.inl ((x1 + (1 : Int32)), (sA h 94 j2 (0 : Int32))))
set_option maxRecDepth 20000 in
theorem wb_X11_minutePasses_2 {X : Xt} (C : Cx X cn_11 prog_13_method_81_code 2 none 144 0 0)    (x1 : Int32) (h : Hp) (q : (Int32 × Hp) ⊕ Hp) (hrun : b_X11_minutePasses_2   x1 h = some q) (Ks : ∀ s, q = .inl s → kp_X11_minutePasses_2   X s) (Ke : ∀ e, q = .inr e → ke_X11_minutePasses_2   X e) : kp_X11_minutePasses_2   X (x1, h) := by
  show G X h 0 0 2 [(0, .ref 81), (1, .int x1)] []
  unfold b_X11_minutePasses_2 at hrun
  refine g_iload_n C (dat dt_X11_minutePasses 2 rfl) 1 rfl ?_
  refine g_bipush C (dat dt_X11_minutePasses 3 rfl) bp_18 ?_
  refine g_ic_ge 21 C (dat dt_X11_minutePasses 4 rfl) (by decide) (fun c1 => ?_) (fun c1 => ?_)
  · rw [if_pos c1] at hrun
    refine g_sub [0] (lv' := [(0, .ref 81)]) rfl ?_
    cases hrun
    exact Ke ( h) rfl
  · rw [if_neg c1] at hrun
    refine g_aload_n C (dat dt_X11_minutePasses 5 rfl) 0 rfl ?_
    refine g_getR C (dat dt_X11_minutePasses 6 rfl) fl_11_66 kd_81 rfl ltk_81 ?_
    refine g_iload_n C (dat dt_X11_minutePasses 7 rfl) 1 rfl ?_
    refine g_iconst C (dat dt_X11_minutePasses 8 rfl) ic_0 ?_
    obtain ⟨j2, q3, hrun⟩ := bd hrun
    refine g_iast (j := j2) C (dat dt_X11_minutePasses 9 rfl) kd_94 ltk_94 q3  ?_
    refine g_iinc (v := (x1 + (1 : Int32))) (lv' := [(0, .ref 81), (1, .int (x1 + (1 : Int32)))]) C (dat dt_X11_minutePasses 10 rfl) 1 rfl (congrArg (fun z => x1 + z) ic_1) (by decide) rfl ?_
    refine g_goto 2 C (dat dt_X11_minutePasses 11 rfl) (by decide) ?_
    cases hrun
    exact Ks ((x1 + (1 : Int32)), (sA h 94 j2 (0 : Int32))) rfl
def kp_X11_minutePasses_23   (X : Xt) (s : (Int32 × Hp)) : Prop := G X s.2 0 0 23 [(0, .ref 81), (1, .int s.1)] []
def ke_X11_minutePasses_23   (X : Xt) (e : Hp) : Prop := G X e 0 0 61 [(0, .ref 81)] []
def b_X11_minutePasses_23   (x1 : Int32) (h : Hp) : Option ((Int32 × Hp) ⊕ Hp) :=
  (f_X11_many  h).bind fun v6 =>
  if v6 ≤ x1 then
  some (.inr ( h))
  else
  (f_X11_isInside x1 h).bind fun v9 =>
  if v9 = true then
  (f_X11_tells (2 : Int32) x1 (-1 : Int32) h).bind fun v12 =>
  if (1 : Int32) ≤ v12.1 then
  some (.inl ((x1 + (1 : Int32)), v12.2))
  else
  (f_X11_givesAll x1 v12.2).bind fun v15 =>
  some (.inl ((x1 + (1 : Int32)), v15.2))
  else
  some (.inl ((x1 + (1 : Int32)), h))
set_option maxRecDepth 20000 in
theorem wb_X11_minutePasses_23 {X : Xt} (C : Cx X cn_11 prog_13_method_81_code 2 none 144 0 0)    (x1 : Int32) (h : Hp) (q : (Int32 × Hp) ⊕ Hp) (hrun : b_X11_minutePasses_23   x1 h = some q) (Ks : ∀ s, q = .inl s → kp_X11_minutePasses_23   X s) (Ke : ∀ e, q = .inr e → ke_X11_minutePasses_23   X e) : kp_X11_minutePasses_23   X (x1, h) := by
  show G X h 0 0 23 [(0, .ref 81), (1, .int x1)] []
  unfold b_X11_minutePasses_23 at hrun
  refine g_iload_n C (dat dt_X11_minutePasses 14 rfl) 1 rfl ?_
  refine g_aload_n C (dat dt_X11_minutePasses 15 rfl) 0 rfl ?_
  obtain ⟨v6, q7, hrun⟩ := bd hrun
  refine g_cVi [] C (dat dt_X11_minutePasses 16 rfl) ml_11_127 (w_X11_many  h v6  q7) kd_81 ltk_81 rfl rfl (Nat.le_of_ble_eq_true rfl) (by decide) c00 ?_
  refine g_ic_ge 61 C (dat dt_X11_minutePasses 17 rfl) (by decide) (fun c8 => ?_) (fun c8 => ?_)
  · rw [if_pos c8] at hrun
    refine g_sub [0] (lv' := [(0, .ref 81)]) rfl ?_
    cases hrun
    exact Ke ( h) rfl
  · rw [if_neg c8] at hrun
    refine g_aload_n C (dat dt_X11_minutePasses 18 rfl) 0 rfl ?_
    refine g_iload_n C (dat dt_X11_minutePasses 19 rfl) 1 rfl ?_
    obtain ⟨v9, q10, hrun⟩ := bd hrun
    refine g_cVi [.int x1] C (dat dt_X11_minutePasses 20 rfl) ml_11_156 (w_X11_isInside x1 h v9  q10) kd_81 ltk_81 rfl rfl cat0 (by decide) c00 ?_
    refine g_if_eq 55 C (dat dt_X11_minutePasses 21 rfl) (by decide) (fun c11 => ?_) (fun c11 => ?_)
    · rw [if_neg (b2i_z c11)] at hrun
      refine g_iinc (v := (x1 + (1 : Int32))) (lv' := [(0, .ref 81), (1, .int (x1 + (1 : Int32)))]) C (dat dt_X11_minutePasses 32 rfl) 1 rfl (congrArg (fun z => x1 + z) ic_1) (by decide) rfl ?_
      refine g_goto 23 C (dat dt_X11_minutePasses 33 rfl) (by decide) ?_
      cases hrun
      exact Ks ((x1 + (1 : Int32)), h) rfl
    · rw [if_pos (b2i_nz c11)] at hrun
      refine g_aload_n C (dat dt_X11_minutePasses 22 rfl) 0 rfl ?_
      refine g_iconst C (dat dt_X11_minutePasses 23 rfl) ic_2 ?_
      refine g_iload_n C (dat dt_X11_minutePasses 24 rfl) 1 rfl ?_
      refine g_iconst C (dat dt_X11_minutePasses 25 rfl) ic_m1 ?_
      obtain ⟨v12, q13, hrun⟩ := bd hrun
      refine g_cVi [.int (2 : Int32), .int x1, .int (-1 : Int32)] C (dat dt_X11_minutePasses 26 rfl) ml_11_159 (w_X11_tells (2 : Int32) x1 (-1 : Int32) h v12  q13) kd_81 ltk_81 rfl rfl cat0 (by decide) c00 ?_
      refine g_iconst C (dat dt_X11_minutePasses 27 rfl) ic_1 ?_
      refine g_ic_ge 55 C (dat dt_X11_minutePasses 28 rfl) (by decide) (fun c14 => ?_) (fun c14 => ?_)
      · rw [if_pos c14] at hrun
        refine g_iinc (v := (x1 + (1 : Int32))) (lv' := [(0, .ref 81), (1, .int (x1 + (1 : Int32)))]) C (dat dt_X11_minutePasses 32 rfl) 1 rfl (congrArg (fun z => x1 + z) ic_1) (by decide) rfl ?_
        refine g_goto 23 C (dat dt_X11_minutePasses 33 rfl) (by decide) ?_
        cases hrun
        exact Ks ((x1 + (1 : Int32)), v12.2) rfl
      · rw [if_neg c14] at hrun
        refine g_aload_n C (dat dt_X11_minutePasses 29 rfl) 0 rfl ?_
        refine g_iload_n C (dat dt_X11_minutePasses 30 rfl) 1 rfl ?_
        obtain ⟨v15, q16, hrun⟩ := bd hrun
        refine g_cVv [.int x1] C (dat dt_X11_minutePasses 31 rfl) ml_11_361 (w_X11_givesAll x1 v12.2 v15  q16) kd_81 ltk_81 rfl rfl cat0 (by decide) c00 ?_
        refine g_iinc (v := (x1 + (1 : Int32))) (lv' := [(0, .ref 81), (1, .int (x1 + (1 : Int32)))]) C (dat dt_X11_minutePasses 32 rfl) 1 rfl (congrArg (fun z => x1 + z) ic_1) (by decide) rfl ?_
        refine g_goto 23 C (dat dt_X11_minutePasses 33 rfl) (by decide) ?_
        cases hrun
        exact Ks ((x1 + (1 : Int32)), v15.2) rfl
def kp_X11_minutePasses_63   (X : Xt) (s : (Int32 × Hp)) : Prop := G X s.2 0 0 63 [(0, .ref 81), (1, .int s.1)] []
def ke_X11_minutePasses_63   (X : Xt) (e : Hp) : Prop := G X e 0 0 96 [(0, .ref 81)] []
def b_X11_minutePasses_63   (x1 : Int32) (h : Hp) : Option ((Int32 × Hp) ⊕ Hp) :=
  (f_X11_many  h).bind fun v19 =>
  if ((3 : Int32) * v19) ≤ x1 then
  some (.inr ( h))
  else
  (inb ((0 : Int32) + x1) 5662).bind fun j22 =>
  (inb x1 18).bind fun j24 =>
  (inb ((0 : Int32) + x1) 5662).bind fun j26 =>
  some (.inl ((x1 + (1 : Int32)), (sA h 83 j26 ((aI h 83 j22) + (aI h 94 j24)))))
set_option maxRecDepth 20000 in
theorem wb_X11_minutePasses_63 {X : Xt} (C : Cx X cn_11 prog_13_method_81_code 2 none 144 0 0)    (x1 : Int32) (h : Hp) (q : (Int32 × Hp) ⊕ Hp) (hrun : b_X11_minutePasses_63   x1 h = some q) (Ks : ∀ s, q = .inl s → kp_X11_minutePasses_63   X s) (Ke : ∀ e, q = .inr e → ke_X11_minutePasses_63   X e) : kp_X11_minutePasses_63   X (x1, h) := by
  show G X h 0 0 63 [(0, .ref 81), (1, .int x1)] []
  unfold b_X11_minutePasses_63 at hrun
  refine g_iload_n C (dat dt_X11_minutePasses 36 rfl) 1 rfl ?_
  refine g_iconst C (dat dt_X11_minutePasses 37 rfl) ic_3 ?_
  refine g_aload_n C (dat dt_X11_minutePasses 38 rfl) 0 rfl ?_
  obtain ⟨v19, q20, hrun⟩ := bd hrun
  refine g_cVi [] C (dat dt_X11_minutePasses 39 rfl) ml_11_127 (w_X11_many  h v19  q20) kd_81 ltk_81 rfl rfl (Nat.le_of_ble_eq_true rfl) (by decide) c00 ?_
  refine g_imul C (dat dt_X11_minutePasses 40 rfl) ?_
  refine g_ic_ge 96 C (dat dt_X11_minutePasses 41 rfl) (by decide) (fun c21 => ?_) (fun c21 => ?_)
  · rw [if_pos c21] at hrun
    refine g_sub [0] (lv' := [(0, .ref 81)]) rfl ?_
    cases hrun
    exact Ke ( h) rfl
  · rw [if_neg c21] at hrun
    refine g_aload_n C (dat dt_X11_minutePasses 42 rfl) 0 rfl ?_
    refine g_getR C (dat dt_X11_minutePasses 43 rfl) fl_11_28 kd_81 rfl ltk_81 ?_
    refine g_iconst C (dat dt_X11_minutePasses 44 rfl) ic_0 ?_
    refine g_iload_n C (dat dt_X11_minutePasses 45 rfl) 1 rfl ?_
    refine g_iadd C (dat dt_X11_minutePasses 46 rfl) ?_
    refine g_dup2 C (dat dt_X11_minutePasses 47 rfl) rfl rfl ?_
    obtain ⟨j22, q23, hrun⟩ := bd hrun
    refine g_iald C (dat dt_X11_minutePasses 48 rfl) kd_83 ltk_83 q23 ?_
    refine g_aload_n C (dat dt_X11_minutePasses 49 rfl) 0 rfl ?_
    refine g_getR C (dat dt_X11_minutePasses 50 rfl) fl_11_66 kd_81 rfl ltk_81 ?_
    refine g_iload_n C (dat dt_X11_minutePasses 51 rfl) 1 rfl ?_
    obtain ⟨j24, q25, hrun⟩ := bd hrun
    refine g_iald C (dat dt_X11_minutePasses 52 rfl) kd_94 ltk_94 q25 ?_
    refine g_iadd C (dat dt_X11_minutePasses 53 rfl) ?_
    obtain ⟨j26, q27, hrun⟩ := bd hrun
    refine g_iast (j := j26) C (dat dt_X11_minutePasses 54 rfl) kd_83 ltk_83 q27  ?_
    refine g_iinc (v := (x1 + (1 : Int32))) (lv' := [(0, .ref 81), (1, .int (x1 + (1 : Int32)))]) C (dat dt_X11_minutePasses 55 rfl) 1 rfl (congrArg (fun z => x1 + z) ic_1) (by decide) rfl ?_
    refine g_goto 63 C (dat dt_X11_minutePasses 56 rfl) (by decide) ?_
    cases hrun
    exact Ks ((x1 + (1 : Int32)), (sA h 83 j26 ((aI h 83 j22) + (aI h 94 j24)))) rfl
def kp_X11_minutePasses_98   (X : Xt) (s : (Int32 × Hp)) : Prop := G X s.2 0 0 98 [(0, .ref 81), (1, .int s.1)] []
def ke_X11_minutePasses_98   (X : Xt) (e : Hp) : Prop := G X e 0 0 140 [(0, .ref 81)] []
def b_X11_minutePasses_98   (x1 : Int32) (h : Hp) : Option ((Int32 × Hp) ⊕ Hp) :=
  (f_X11_many  h).bind fun v30 =>
  if v30 ≤ x1 then
  some (.inr ( h))
  else
  (f_X11_isInside x1 h).bind fun v33 =>
  if v33 = true then
  (f_X11_tells (3 : Int32) x1 (-1 : Int32) h).bind fun v36 =>
  if v36.1 ≤ 0 then
  some (.inl ((x1 + (1 : Int32)), v36.2))
  else
  (inb ((18 : Int32) + x1) 5662).bind fun j39 =>
  some (.inl ((x1 + (1 : Int32)), (sA v36.2 83 j39 (-1 : Int32))))
  else
  some (.inl ((x1 + (1 : Int32)), h))
set_option maxRecDepth 20000 in
theorem wb_X11_minutePasses_98 {X : Xt} (C : Cx X cn_11 prog_13_method_81_code 2 none 144 0 0)    (x1 : Int32) (h : Hp) (q : (Int32 × Hp) ⊕ Hp) (hrun : b_X11_minutePasses_98   x1 h = some q) (Ks : ∀ s, q = .inl s → kp_X11_minutePasses_98   X s) (Ke : ∀ e, q = .inr e → ke_X11_minutePasses_98   X e) : kp_X11_minutePasses_98   X (x1, h) := by
  show G X h 0 0 98 [(0, .ref 81), (1, .int x1)] []
  unfold b_X11_minutePasses_98 at hrun
  refine g_iload_n C (dat dt_X11_minutePasses 59 rfl) 1 rfl ?_
  refine g_aload_n C (dat dt_X11_minutePasses 60 rfl) 0 rfl ?_
  obtain ⟨v30, q31, hrun⟩ := bd hrun
  refine g_cVi [] C (dat dt_X11_minutePasses 61 rfl) ml_11_127 (w_X11_many  h v30  q31) kd_81 ltk_81 rfl rfl (Nat.le_of_ble_eq_true rfl) (by decide) c00 ?_
  refine g_ic_ge 140 C (dat dt_X11_minutePasses 62 rfl) (by decide) (fun c32 => ?_) (fun c32 => ?_)
  · rw [if_pos c32] at hrun
    refine g_sub [0] (lv' := [(0, .ref 81)]) rfl ?_
    cases hrun
    exact Ke ( h) rfl
  · rw [if_neg c32] at hrun
    refine g_aload_n C (dat dt_X11_minutePasses 63 rfl) 0 rfl ?_
    refine g_iload_n C (dat dt_X11_minutePasses 64 rfl) 1 rfl ?_
    obtain ⟨v33, q34, hrun⟩ := bd hrun
    refine g_cVi [.int x1] C (dat dt_X11_minutePasses 65 rfl) ml_11_156 (w_X11_isInside x1 h v33  q34) kd_81 ltk_81 rfl rfl cat0 (by decide) c00 ?_
    refine g_if_eq 134 C (dat dt_X11_minutePasses 66 rfl) (by decide) (fun c35 => ?_) (fun c35 => ?_)
    · rw [if_neg (b2i_z c35)] at hrun
      refine g_iinc (v := (x1 + (1 : Int32))) (lv' := [(0, .ref 81), (1, .int (x1 + (1 : Int32)))]) C (dat dt_X11_minutePasses 80 rfl) 1 rfl (congrArg (fun z => x1 + z) ic_1) (by decide) rfl ?_
      refine g_goto 98 C (dat dt_X11_minutePasses 81 rfl) (by decide) ?_
      cases hrun
      exact Ks ((x1 + (1 : Int32)), h) rfl
    · rw [if_pos (b2i_nz c35)] at hrun
      refine g_aload_n C (dat dt_X11_minutePasses 67 rfl) 0 rfl ?_
      refine g_iconst C (dat dt_X11_minutePasses 68 rfl) ic_3 ?_
      refine g_iload_n C (dat dt_X11_minutePasses 69 rfl) 1 rfl ?_
      refine g_iconst C (dat dt_X11_minutePasses 70 rfl) ic_m1 ?_
      obtain ⟨v36, q37, hrun⟩ := bd hrun
      refine g_cVi [.int (3 : Int32), .int x1, .int (-1 : Int32)] C (dat dt_X11_minutePasses 71 rfl) ml_11_159 (w_X11_tells (3 : Int32) x1 (-1 : Int32) h v36  q37) kd_81 ltk_81 rfl rfl cat0 (by decide) c00 ?_
      refine g_if_le 134 C (dat dt_X11_minutePasses 72 rfl) (by decide) (fun c38 => ?_) (fun c38 => ?_)
      · rw [if_pos c38] at hrun
        refine g_iinc (v := (x1 + (1 : Int32))) (lv' := [(0, .ref 81), (1, .int (x1 + (1 : Int32)))]) C (dat dt_X11_minutePasses 80 rfl) 1 rfl (congrArg (fun z => x1 + z) ic_1) (by decide) rfl ?_
        refine g_goto 98 C (dat dt_X11_minutePasses 81 rfl) (by decide) ?_
        cases hrun
        exact Ks ((x1 + (1 : Int32)), v36.2) rfl
      · rw [if_neg c38] at hrun
        refine g_aload_n C (dat dt_X11_minutePasses 73 rfl) 0 rfl ?_
        refine g_getR C (dat dt_X11_minutePasses 74 rfl) fl_11_28 kd_81 rfl ltk_81 ?_
        refine g_bipush C (dat dt_X11_minutePasses 75 rfl) bp_18 ?_
        refine g_iload_n C (dat dt_X11_minutePasses 76 rfl) 1 rfl ?_
        refine g_iadd C (dat dt_X11_minutePasses 77 rfl) ?_
        refine g_iconst C (dat dt_X11_minutePasses 78 rfl) ic_m1 ?_
        obtain ⟨j39, q40, hrun⟩ := bd hrun
        refine g_iast (j := j39) C (dat dt_X11_minutePasses 79 rfl) kd_83 ltk_83 q40  ?_
        refine g_iinc (v := (x1 + (1 : Int32))) (lv' := [(0, .ref 81), (1, .int (x1 + (1 : Int32)))]) C (dat dt_X11_minutePasses 80 rfl) 1 rfl (congrArg (fun z => x1 + z) ic_1) (by decide) rfl ?_
        refine g_goto 98 C (dat dt_X11_minutePasses 81 rfl) (by decide) ?_
        cases hrun
        exact Ks ((x1 + (1 : Int32)), (sA v36.2 83 j39 (-1 : Int32))) rfl
def f_X11_minutePasses  (h : Hp) : Option (Unit × Hp) :=
  (lp (fun s => b_X11_minutePasses_2   s.1 s.2) FU ((0 : Int32), h)).bind fun e4 =>
  (lp (fun s => b_X11_minutePasses_23   s.1 s.2) FU ((0 : Int32), e4)).bind fun e17 =>
  (lp (fun s => b_X11_minutePasses_63   s.1 s.2) FU ((0 : Int32), e17)).bind fun e28 =>
  (lp (fun s => b_X11_minutePasses_98   s.1 s.2) FU ((0 : Int32), e28)).bind fun e41 =>
  some ((), (sA e41 83 24 ((aI e41 83 24) + (1 : Int32))))
set_option maxRecDepth 20000 in
theorem w_X11_minutePasses  (h : Hp) (q : (Unit × Hp))  (hrun : f_X11_minutePasses  h = some q) : MetA ⟨"SteamNationsModel", "minutePasses", "()V"⟩ prog_13_method_81_code 2 none 144 0 0 [.ref 81] h none q.2 := by
  refine metA_of (by decide) (Nat.le_of_ble_eq_true rfl) (fun X C K => ?_)
  have C : Cx X cn_11 prog_13_method_81_code 2 none 144 0 0 := C
  show G X h 0 0 0 [(0, .ref 81)] []
  unfold f_X11_minutePasses at hrun
  refine g_iconst C (dat dt_X11_minutePasses 0 rfl) ic_0 ?_
  refine g_istore_n (lv' := [(0, .ref 81), (1, .int (0 : Int32))]) C (dat dt_X11_minutePasses 1 rfl) (by decide) rfl ?_
  obtain ⟨e4, q5, hrun⟩ := bd hrun
  refine lp_ind (P := fun s => kp_X11_minutePasses_2   X s) (K := fun e => ke_X11_minutePasses_2   X e) (fun s q hb Ks Ke => wb_X11_minutePasses_2 C    s.1 s.2 q hb Ks Ke) FU ((0 : Int32), h) e4 q5 ?_
  show G X e4 0 0 21 [(0, .ref 81)] []
  refine g_iconst C (dat dt_X11_minutePasses 12 rfl) ic_0 ?_
  refine g_istore_n (lv' := [(0, .ref 81), (1, .int (0 : Int32))]) C (dat dt_X11_minutePasses 13 rfl) (by decide) rfl ?_
  obtain ⟨e17, q18, hrun⟩ := bd hrun
  refine lp_ind (P := fun s => kp_X11_minutePasses_23   X s) (K := fun e => ke_X11_minutePasses_23   X e) (fun s q hb Ks Ke => wb_X11_minutePasses_23 C    s.1 s.2 q hb Ks Ke) FU ((0 : Int32), e4) e17 q18 ?_
  show G X e17 0 0 61 [(0, .ref 81)] []
  refine g_iconst C (dat dt_X11_minutePasses 34 rfl) ic_0 ?_
  refine g_istore_n (lv' := [(0, .ref 81), (1, .int (0 : Int32))]) C (dat dt_X11_minutePasses 35 rfl) (by decide) rfl ?_
  obtain ⟨e28, q29, hrun⟩ := bd hrun
  refine lp_ind (P := fun s => kp_X11_minutePasses_63   X s) (K := fun e => ke_X11_minutePasses_63   X e) (fun s q hb Ks Ke => wb_X11_minutePasses_63 C    s.1 s.2 q hb Ks Ke) FU ((0 : Int32), e17) e28 q29 ?_
  show G X e28 0 0 96 [(0, .ref 81)] []
  refine g_iconst C (dat dt_X11_minutePasses 57 rfl) ic_0 ?_
  refine g_istore_n (lv' := [(0, .ref 81), (1, .int (0 : Int32))]) C (dat dt_X11_minutePasses 58 rfl) (by decide) rfl ?_
  obtain ⟨e41, q42, hrun⟩ := bd hrun
  refine lp_ind (P := fun s => kp_X11_minutePasses_98   X s) (K := fun e => ke_X11_minutePasses_98   X e) (fun s q hb Ks Ke => wb_X11_minutePasses_98 C    s.1 s.2 q hb Ks Ke) FU ((0 : Int32), e28) e41 q42 ?_
  show G X e41 0 0 140 [(0, .ref 81)] []
  refine g_aload_n C (dat dt_X11_minutePasses 82 rfl) 0 rfl ?_
  refine g_getR C (dat dt_X11_minutePasses 83 rfl) fl_11_28 kd_81 rfl ltk_81 ?_
  refine g_bipush C (dat dt_X11_minutePasses 84 rfl) bp_24 ?_
  refine g_dup2 C (dat dt_X11_minutePasses 85 rfl) rfl rfl ?_
  refine g_iald (j := 24) C (dat dt_X11_minutePasses 86 rfl) kd_83 ltk_83 (show inb (24 : Int32) 5662 = some 24 by decide) ?_
  refine g_iconst C (dat dt_X11_minutePasses 87 rfl) ic_1 ?_
  refine g_iadd C (dat dt_X11_minutePasses 88 rfl) ?_
  refine g_iast (j := 24) C (dat dt_X11_minutePasses 89 rfl) kd_83 ltk_83 (show inb (24 : Int32) 5662 = some 24 by decide)  ?_
  cases hrun
  exact g_vret C K (dat dt_X11_minutePasses 90 rfl)
/-! SteamNationsModel.passesKept()I -/
def dl_X11_passesKept : List (Nat × Instr × Nat) := [(0, .aload_n 0, 1), (1, .getfield 28, 3), (4, .bipush 24, 2), (6, .iaload, 1), (7, .sipush 999, 3), (10, .if_icmp .ne 6, 3), (13, .bipush (-3), 2), (15, .ireturn, 1), (16, .aload_n 0, 1), (17, .iconst 3, 1), (18, .invokevirtual 367, 3), (21, .aload_n 0, 1), (22, .invokevirtual 364, 3), (25, .aload_n 0, 1), (26, .getfield 28, 3), (29, .bipush 24, 2), (31, .iaload, 1), (32, .ireturn, 1)]
set_option maxRecDepth 20000 in
theorem dt_X11_passesKept : ∀ q ∈ dl_X11_passesKept, decode prog_13_method_89_code q.1 = .ok q.2 := by decide +kernel
def f_X11_passesKept  (h : Hp) : Option (Int32 × Hp) :=
  if (aI h 83 24) = (999 : Int32) then
  some ((-3 : Int32), h)
  else
  (f_X11_keeps (3 : Int32) h).bind fun v2 =>
  (f_X11_minutePasses  v2.2).bind fun v4 =>
  some ((aI v4.2 83 24), v4.2)
set_option maxRecDepth 20000 in
theorem w_X11_passesKept  (h : Hp) (q : (Int32 × Hp))  (hrun : f_X11_passesKept  h = some q) : MetA ⟨"SteamNationsModel", "passesKept", "()I"⟩ prog_13_method_89_code 1 (some .int) 145 0 0 [.ref 81] h (some (.int q.1)) q.2 := by
  refine metA_of (by decide) (Nat.le_of_ble_eq_true rfl) (fun X C K => ?_)
  have C : Cx X cn_11 prog_13_method_89_code 1 (some .int) 145 0 0 := C
  show G X h 0 0 0 [(0, .ref 81)] []
  unfold f_X11_passesKept at hrun
  refine g_aload_n C (dat dt_X11_passesKept 0 rfl) 0 rfl ?_
  refine g_getR C (dat dt_X11_passesKept 1 rfl) fl_11_28 kd_81 rfl ltk_81 ?_
  refine g_bipush C (dat dt_X11_passesKept 2 rfl) bp_24 ?_
  refine g_iald (j := 24) C (dat dt_X11_passesKept 3 rfl) kd_83 ltk_83 (show inb (24 : Int32) 5662 = some 24 by decide) ?_
  refine g_sipush C (dat dt_X11_passesKept 4 rfl) sp_999 ?_
  refine g_ic_ne 16 C (dat dt_X11_passesKept 5 rfl) (by decide) (fun c1 => ?_) (fun c1 => ?_)
  · rw [if_neg c1] at hrun
    refine g_aload_n C (dat dt_X11_passesKept 8 rfl) 0 rfl ?_
    refine g_iconst C (dat dt_X11_passesKept 9 rfl) ic_3 ?_
    obtain ⟨v2, q3, hrun⟩ := bd hrun
    refine g_cVv [.int (3 : Int32)] C (dat dt_X11_passesKept 10 rfl) ml_11_367 (w_X11_keeps (3 : Int32) h v2  q3) kd_81 ltk_81 rfl rfl cat0 (by decide) c00 ?_
    refine g_aload_n C (dat dt_X11_passesKept 11 rfl) 0 rfl ?_
    obtain ⟨v4, q5, hrun⟩ := bd hrun
    refine g_cVv [] C (dat dt_X11_passesKept 12 rfl) ml_11_364 (w_X11_minutePasses  v2.2 v4  q5) kd_81 ltk_81 rfl rfl cat0 (by decide) c00 ?_
    refine g_aload_n C (dat dt_X11_passesKept 13 rfl) 0 rfl ?_
    refine g_getR C (dat dt_X11_passesKept 14 rfl) fl_11_28 kd_81 rfl ltk_81 ?_
    refine g_bipush C (dat dt_X11_passesKept 15 rfl) bp_24 ?_
    refine g_iald (j := 24) C (dat dt_X11_passesKept 16 rfl) kd_83 ltk_83 (show inb (24 : Int32) 5662 = some 24 by decide) ?_
    cases hrun
    exact g_iret C K (dat dt_X11_passesKept 17 rfl)
  · rw [if_pos c1] at hrun
    refine g_bipush C (dat dt_X11_passesKept 6 rfl) bp_m3 ?_
    cases hrun
    exact g_iret C K (dat dt_X11_passesKept 7 rfl)
/-! SteamNationsModel.obeys()I -/
def dl_X11_obeys : List (Nat × Instr × Nat) := [(0, .aload_n 0, 1), (1, .getfield 112, 3), (4, .iconst 0, 1), (5, .laload, 1), (6, .invokestatic 478, 3), (9, .istore_n 1, 1), (10, .aload_n 0, 1), (11, .getfield 464, 3), (14, .tableswitch 74 23 26 #[45, 30, 74, 69], 30), (44, .aload_n 0, 1), (45, .iload_n 1, 1), (46, .aload_n 0, 1), (47, .getfield 112, 3), (50, .iconst 1, 1), (51, .laload, 1), (52, .invokestatic 478, 3), (55, .invokevirtual 379, 3), (58, .ireturn, 1), (59, .aload_n 0, 1), (60, .iload_n 1, 1), (61, .invokevirtual 376, 3), (64, .istore_n 2, 1), (65, .aload_n 0, 1), (66, .iload_n 2, 1), (67, .ifCond .ge 10, 3), (70, .aload_n 0, 1), (71, .getfield 330, 3), (74, .goto 4, 3), (77, .iload_n 2, 1), (78, .putfield 330, 3), (81, .iload_n 2, 1), (82, .ireturn, 1), (83, .aload_n 0, 1), (84, .invokevirtual 382, 3), (87, .ireturn, 1), (88, .aload_n 0, 1), (89, .iload_n 1, 1), (90, .aload_n 0, 1), (91, .getfield 112, 3), (94, .iconst 1, 1), (95, .laload, 1), (96, .invokestatic 478, 3), (99, .invokevirtual 370, 3), (102, .ireturn, 1)]
set_option maxRecDepth 20000 in
theorem dt_X11_obeys : ∀ q ∈ dl_X11_obeys, decode prog_13_method_126_code q.1 = .ok q.2 := by decide +kernel
def j_X11_obeys_88  (x1 : Int32) (h : Hp) : Option (Int32 × Hp) :=
  (f_X11_small (aL h 108 1)).bind fun v6 =>
  (f_X11_seatsKept x1 v6 h).bind fun v8 =>
  some (v8.1, v8.2)
set_option maxRecDepth 20000 in
theorem wj_X11_obeys_88 {X : Xt} (C : Cx X cn_11 prog_13_method_126_code 3 (some .int) 146 0 0)    (x1 : Int32) (h : Hp) (q : (Int32 × Hp)) (hrun : j_X11_obeys_88  x1 h = some q) (K : EndQ X 0 0 (some (.int q.1)) q.2) : G X h 0 0 88 [(0, .ref 81), (1, .int x1)] [] := by
  unfold j_X11_obeys_88 at hrun
  refine g_aload_n C (dat dt_X11_obeys 35 rfl) 0 rfl ?_
  refine g_iload_n C (dat dt_X11_obeys 36 rfl) 1 rfl ?_
  refine g_aload_n C (dat dt_X11_obeys 37 rfl) 0 rfl ?_
  refine g_getR C (dat dt_X11_obeys 38 rfl) fl_11_112 kd_81 rfl ltk_81 ?_
  refine g_iconst C (dat dt_X11_obeys 39 rfl) ic_1 ?_
  refine g_lald (j := 1) C (dat dt_X11_obeys 40 rfl) kd_108 ltk_108 (show inb (1 : Int32) 2 = some 1 by decide) ?_
  obtain ⟨v6, q7, hrun⟩ := bd hrun
  refine g_cSi [.long (aL h 108 1)] C (dat dt_X11_obeys 41 rfl) ml_11_478 (w_X11_small (aL h 108 1) h v6  q7) rfl rfl (Nat.le_of_ble_eq_true rfl) (by decide) c00 ?_
  obtain ⟨v8, q9, hrun⟩ := bd hrun
  refine g_cVi [.int x1, .int v6] C (dat dt_X11_obeys 42 rfl) ml_11_370 (w_X11_seatsKept x1 v6 h v8  q9) kd_81 ltk_81 rfl rfl cat0 (by decide) c00 ?_
  cases hrun
  exact g_iret C K (dat dt_X11_obeys 43 rfl)
def f_X11_obeys  (h : Hp) : Option (Int32 × Hp) :=
  (f_X11_small (aL h 108 0)).bind fun v1 =>
  if (fI h 81 49).toInt < (23 : Int) ∨ (26 : Int) < (fI h 81 49).toInt then
  j_X11_obeys_88  v1 h
  else if ((fI h 81 49).toInt - (23 : Int)).toNat = 0 then
  (f_X11_outKept v1 h).bind fun v10 =>
  if 0 ≤ v10.1 then
  some (v10.1, (sF v10.2 81 28 v10.1))
  else
  some (v10.1, (sF v10.2 81 28 (fI v10.2 81 28)))
  else if ((fI h 81 49).toInt - (23 : Int)).toNat = 1 then
  (f_X11_small (aL h 108 1)).bind fun v13 =>
  (f_X11_swapsKept v1 v13 h).bind fun v15 =>
  some (v15.1, v15.2)
  else if ((fI h 81 49).toInt - (23 : Int)).toNat = 2 then
  j_X11_obeys_88  v1 h
  else if ((fI h 81 49).toInt - (23 : Int)).toNat = 3 then
  (f_X11_passesKept  h).bind fun v17 =>
  some (v17.1, v17.2)
  else none
set_option maxRecDepth 20000 in
theorem w_X11_obeys  (h : Hp) (q : (Int32 × Hp))  (hrun : f_X11_obeys  h = some q) : MetA ⟨"SteamNationsModel", "obeys", "()I"⟩ prog_13_method_126_code 3 (some .int) 146 0 0 [.ref 81] h (some (.int q.1)) q.2 := by
  refine metA_of (by decide) (Nat.le_of_ble_eq_true rfl) (fun X C K => ?_)
  have C : Cx X cn_11 prog_13_method_126_code 3 (some .int) 146 0 0 := C
  show G X h 0 0 0 [(0, .ref 81)] []
  unfold f_X11_obeys at hrun
  refine g_aload_n C (dat dt_X11_obeys 0 rfl) 0 rfl ?_
  refine g_getR C (dat dt_X11_obeys 1 rfl) fl_11_112 kd_81 rfl ltk_81 ?_
  refine g_iconst C (dat dt_X11_obeys 2 rfl) ic_0 ?_
  refine g_lald (j := 0) C (dat dt_X11_obeys 3 rfl) kd_108 ltk_108 (show inb (0 : Int32) 2 = some 0 by decide) ?_
  obtain ⟨v1, q2, hrun⟩ := bd hrun
  refine g_cSi [.long (aL h 108 0)] C (dat dt_X11_obeys 4 rfl) ml_11_478 (w_X11_small (aL h 108 0) h v1  q2) rfl rfl cat0 (by decide) c00 ?_
  refine g_istore_n (lv' := [(0, .ref 81), (1, .int v1)]) C (dat dt_X11_obeys 5 rfl) (by decide) rfl ?_
  refine g_aload_n C (dat dt_X11_obeys 6 rfl) 0 rfl ?_
  refine g_getI C (dat dt_X11_obeys 7 rfl) fl_11_464 kd_81 rfl ltk_81 ?_
  by_cases c3 : (fI h 81 49).toInt < (23 : Int) ∨ (26 : Int) < (fI h 81 49).toInt
  · rw [if_pos c3] at hrun
    refine g_tabO 88 C (dat dt_X11_obeys 8 rfl) c3 (by decide) ?_
    exact wj_X11_obeys_88 C    v1 h _ hrun K
  · rw [if_neg c3] at hrun
    by_cases c22 : ((fI h 81 49).toInt - (23 : Int)).toNat = 0
    · rw [if_pos c22] at hrun
      refine g_tabI 59 C (dat dt_X11_obeys 8 rfl) c3 c22.symm rfl (by decide) ?_
      refine g_aload_n C (dat dt_X11_obeys 18 rfl) 0 rfl ?_
      refine g_iload_n C (dat dt_X11_obeys 19 rfl) 1 rfl ?_
      obtain ⟨v10, q11, hrun⟩ := bd hrun
      refine g_cVi [.int v1] C (dat dt_X11_obeys 20 rfl) ml_11_376 (w_X11_outKept v1 h v10  q11) kd_81 ltk_81 rfl rfl cat0 (by decide) c00 ?_
      refine g_istore_n (lv' := [(0, .ref 81), (1, .int v1), (2, .int v10.1)]) C (dat dt_X11_obeys 21 rfl) (by decide) rfl ?_
      refine g_aload_n C (dat dt_X11_obeys 22 rfl) 0 rfl ?_
      refine g_iload_n C (dat dt_X11_obeys 23 rfl) 2 rfl ?_
      refine g_if_ge 77 C (dat dt_X11_obeys 24 rfl) (by decide) (fun c12 => ?_) (fun c12 => ?_)
      · rw [if_pos c12] at hrun
        refine g_iload_n C (dat dt_X11_obeys 28 rfl) 2 rfl ?_
        refine g_putI C (dat dt_X11_obeys 29 rfl) fl_11_330 rfl rfl kd_81 rfl ltk_81 ?_
        refine g_iload_n C (dat dt_X11_obeys 30 rfl) 2 rfl ?_
        cases hrun
        exact g_iret C K (dat dt_X11_obeys 31 rfl)
      · rw [if_neg c12] at hrun
        refine g_aload_n C (dat dt_X11_obeys 25 rfl) 0 rfl ?_
        refine g_getI C (dat dt_X11_obeys 26 rfl) fl_11_330 kd_81 rfl ltk_81 ?_
        refine g_goto 78 C (dat dt_X11_obeys 27 rfl) (by decide) ?_
        refine g_putI C (dat dt_X11_obeys 29 rfl) fl_11_330 rfl rfl kd_81 rfl ltk_81 ?_
        refine g_iload_n C (dat dt_X11_obeys 30 rfl) 2 rfl ?_
        cases hrun
        exact g_iret C K (dat dt_X11_obeys 31 rfl)
    · rw [if_neg c22] at hrun
      by_cases c21 : ((fI h 81 49).toInt - (23 : Int)).toNat = 1
      · rw [if_pos c21] at hrun
        refine g_tabI 44 C (dat dt_X11_obeys 8 rfl) c3 c21.symm rfl (by decide) ?_
        refine g_aload_n C (dat dt_X11_obeys 9 rfl) 0 rfl ?_
        refine g_iload_n C (dat dt_X11_obeys 10 rfl) 1 rfl ?_
        refine g_aload_n C (dat dt_X11_obeys 11 rfl) 0 rfl ?_
        refine g_getR C (dat dt_X11_obeys 12 rfl) fl_11_112 kd_81 rfl ltk_81 ?_
        refine g_iconst C (dat dt_X11_obeys 13 rfl) ic_1 ?_
        refine g_lald (j := 1) C (dat dt_X11_obeys 14 rfl) kd_108 ltk_108 (show inb (1 : Int32) 2 = some 1 by decide) ?_
        obtain ⟨v13, q14, hrun⟩ := bd hrun
        refine g_cSi [.long (aL h 108 1)] C (dat dt_X11_obeys 15 rfl) ml_11_478 (w_X11_small (aL h 108 1) h v13  q14) rfl rfl (Nat.le_of_ble_eq_true rfl) (by decide) c00 ?_
        obtain ⟨v15, q16, hrun⟩ := bd hrun
        refine g_cVi [.int v1, .int v13] C (dat dt_X11_obeys 16 rfl) ml_11_379 (w_X11_swapsKept v1 v13 h v15  q16) kd_81 ltk_81 rfl rfl cat0 (by decide) c00 ?_
        cases hrun
        exact g_iret C K (dat dt_X11_obeys 17 rfl)
      · rw [if_neg c21] at hrun
        by_cases c20 : ((fI h 81 49).toInt - (23 : Int)).toNat = 2
        · rw [if_pos c20] at hrun
          refine g_tabI 88 C (dat dt_X11_obeys 8 rfl) c3 c20.symm rfl (by decide) ?_
          exact wj_X11_obeys_88 C    v1 h _ hrun K
        · rw [if_neg c20] at hrun
          by_cases c19 : ((fI h 81 49).toInt - (23 : Int)).toNat = 3
          · rw [if_pos c19] at hrun
            refine g_tabI 83 C (dat dt_X11_obeys 8 rfl) c3 c19.symm rfl (by decide) ?_
            refine g_aload_n C (dat dt_X11_obeys 32 rfl) 0 rfl ?_
            obtain ⟨v17, q18, hrun⟩ := bd hrun
            refine g_cVi [] C (dat dt_X11_obeys 33 rfl) ml_11_382 (w_X11_passesKept  h v17  q18) kd_81 ltk_81 rfl rfl cat0 (by decide) c00 ?_
            cases hrun
            exact g_iret C K (dat dt_X11_obeys 34 rfl)
          · rw [if_neg c19] at hrun
            cases hrun
/-! SteamNationsModel.runs(I)Z -/
def dl_X11_runs : List (Nat × Instr × Nat) := [(0, .aload_n 0, 1), (1, .iload_n 1, 1), (2, .iconst 0, 1), (3, .invokevirtual 482, 3), (6, .aload_n 0, 1), (7, .getfield 470, 3), (10, .istore_n 2, 1), (11, .aload_n 0, 1), (12, .getfield 291, 3), (15, .istore_n 3, 1), (16, .iconst 0, 1), (17, .istore 4, 2), (19, .iload 4, 2), (21, .iload_n 2, 1), (22, .if_icmp .ge 51, 3), (25, .aload_n 0, 1), (26, .iload_n 1, 1), (27, .iconst 1, 1), (28, .invokevirtual 482, 3), (31, .aload_n 0, 1), (32, .getfield 473, 3), (35, .ifCond .ne 6, 3), (38, .goto 29, 3), (41, .aload_n 0, 1), (42, .getfield 467, 3), (45, .ifCond .eq 10, 3), (48, .aload_n 0, 1), (49, .invokevirtual 486, 3), (52, .ifCond .ge 5, 3), (55, .iconst 0, 1), (56, .ireturn, 1), (57, .aload_n 0, 1), (58, .dup, 1), (59, .getfield 327, 3), (62, .iconst 1, 1), (63, .iadd, 1), (64, .putfield 327, 3), (67, .iinc 4 1, 3), (70, .goto (-51), 3), (73, .aload_n 0, 1), (74, .iload_n 3, 1), (75, .putfield 458, 3), (78, .iconst 1, 1), (79, .ireturn, 1)]
set_option maxRecDepth 20000 in
theorem dt_X11_runs : ∀ q ∈ dl_X11_runs, decode prog_13_method_127_code q.1 = .ok q.2 := by decide +kernel
def kp_X11_runs_19  (x1 : Int32) (x2 : Int32) (x3 : Int32) (X : Xt) (s : (Int32 × Hp)) : Prop := G X s.2 0 0 19 [(0, .ref 81), (1, .int x1), (2, .int x2), (3, .int x3), (4, .int s.1)] []
def ke_X11_runs_19  (x1 : Int32) (x2 : Int32) (x3 : Int32) (X : Xt) (e : (Hp ⊕ Hp)) : Prop := match e with
  | .inl e => G X e 0 0 73 [(0, .ref 81), (3, .int x3)] []
  | .inr (e) => G X e 0 0 55 [] []
def b_X11_runs_19  (x1 : Int32) (x2 : Int32) (x3 : Int32) (x4 : Int32) (h : Hp) : Option ((Int32 × Hp) ⊕ (Hp ⊕ Hp)) :=
  if x2 ≤ x4 then
  some (.inr (.inl h))
  else
  (f_X11_goesAlong x1 (1 : Int32) h).bind fun v4 =>
  if (fI v4.2 81 51) = 0 then
  some (.inl ((x4 + (1 : Int32)), v4.2))
  else
  if (fI v4.2 81 50) = 0 then
  some (.inr (.inr <| id v4.2))
  else
  (f_X11_obeys  v4.2).bind fun v8 =>
  if 0 ≤ v8.1 then
  some (.inl ((x4 + (1 : Int32)), (sF v8.2 81 27 ((fI v8.2 81 27) + (1 : Int32)))))
  else
  some (.inr (.inr <| id v8.2))
set_option maxRecDepth 20000 in
theorem wb_X11_runs_19 {X : Xt} (C : Cx X cn_11 prog_13_method_127_code 5 (some .boolean) 147 0 0)   (x1 : Int32) (x2 : Int32) (x3 : Int32) (x4 : Int32) (h : Hp) (q : (Int32 × Hp) ⊕ (Hp ⊕ Hp)) (hrun : b_X11_runs_19  x1 x2 x3 x4 h = some q) (Ks : ∀ s, q = .inl s → kp_X11_runs_19  x1 x2 x3 X s) (Ke : ∀ e, q = .inr e → ke_X11_runs_19  x1 x2 x3 X e) : kp_X11_runs_19  x1 x2 x3 X (x4, h) := by
  show G X h 0 0 19 [(0, .ref 81), (1, .int x1), (2, .int x2), (3, .int x3), (4, .int x4)] []
  unfold b_X11_runs_19 at hrun
  refine g_iload C (dat dt_X11_runs 12 rfl) 4 rfl ?_
  refine g_iload_n C (dat dt_X11_runs 13 rfl) 2 rfl ?_
  refine g_ic_ge 73 C (dat dt_X11_runs 14 rfl) (by decide) (fun c3 => ?_) (fun c3 => ?_)
  · rw [if_pos c3] at hrun
    refine g_sub [0, 3] (lv' := [(0, .ref 81), (3, .int x3)]) rfl ?_
    cases hrun
    exact Ke (.inl h) rfl
  · rw [if_neg c3] at hrun
    refine g_aload_n C (dat dt_X11_runs 15 rfl) 0 rfl ?_
    refine g_iload_n C (dat dt_X11_runs 16 rfl) 1 rfl ?_
    refine g_iconst C (dat dt_X11_runs 17 rfl) ic_1 ?_
    obtain ⟨v4, q5, hrun⟩ := bd hrun
    refine g_cVv [.int x1, .int (1 : Int32)] C (dat dt_X11_runs 18 rfl) ml_11_482 (w_X11_goesAlong x1 (1 : Int32) h v4  q5) kd_81 ltk_81 rfl rfl cat0 (by decide) c00 ?_
    refine g_aload_n C (dat dt_X11_runs 19 rfl) 0 rfl ?_
    refine g_getI C (dat dt_X11_runs 20 rfl) fl_11_473 kd_81 rfl ltk_81 ?_
    refine g_if_ne 41 C (dat dt_X11_runs 21 rfl) (by decide) (fun c6 => ?_) (fun c6 => ?_)
    · rw [if_neg c6] at hrun
      refine g_aload_n C (dat dt_X11_runs 23 rfl) 0 rfl ?_
      refine g_getI C (dat dt_X11_runs 24 rfl) fl_11_467 kd_81 rfl ltk_81 ?_
      refine g_if_eq 55 C (dat dt_X11_runs 25 rfl) (by decide) (fun c7 => ?_) (fun c7 => ?_)
      · rw [if_pos c7] at hrun
        refine g_sub [] (lv' := []) rfl ?_
        cases hrun
        exact Ke (.inr <| id v4.2) rfl
      · rw [if_neg c7] at hrun
        refine g_aload_n C (dat dt_X11_runs 26 rfl) 0 rfl ?_
        obtain ⟨v8, q9, hrun⟩ := bd hrun
        refine g_cVi [] C (dat dt_X11_runs 27 rfl) ml_11_486 (w_X11_obeys  v4.2 v8  q9) kd_81 ltk_81 rfl rfl cat0 (by decide) c00 ?_
        refine g_if_ge 57 C (dat dt_X11_runs 28 rfl) (by decide) (fun c10 => ?_) (fun c10 => ?_)
        · rw [if_pos c10] at hrun
          refine g_aload_n C (dat dt_X11_runs 31 rfl) 0 rfl ?_
          refine g_dup C (dat dt_X11_runs 32 rfl) rfl ?_
          refine g_getI C (dat dt_X11_runs 33 rfl) fl_11_327 kd_81 rfl ltk_81 ?_
          refine g_iconst C (dat dt_X11_runs 34 rfl) ic_1 ?_
          refine g_iadd C (dat dt_X11_runs 35 rfl) ?_
          refine g_putI C (dat dt_X11_runs 36 rfl) fl_11_327 rfl rfl kd_81 rfl ltk_81 ?_
          refine g_iinc (v := (x4 + (1 : Int32))) (lv' := [(0, .ref 81), (1, .int x1), (2, .int x2), (3, .int x3), (4, .int (x4 + (1 : Int32)))]) C (dat dt_X11_runs 37 rfl) 4 rfl (congrArg (fun z => x4 + z) ic_1) (by decide) rfl ?_
          refine g_goto 19 C (dat dt_X11_runs 38 rfl) (by decide) ?_
          cases hrun
          exact Ks ((x4 + (1 : Int32)), (sF v8.2 81 27 ((fI v8.2 81 27) + (1 : Int32)))) rfl
        · rw [if_neg c10] at hrun
          refine g_sub [] (lv' := []) rfl ?_
          cases hrun
          exact Ke (.inr <| id v8.2) rfl
    · rw [if_pos c6] at hrun
      refine g_goto 67 C (dat dt_X11_runs 22 rfl) (by decide) ?_
      refine g_iinc (v := (x4 + (1 : Int32))) (lv' := [(0, .ref 81), (1, .int x1), (2, .int x2), (3, .int x3), (4, .int (x4 + (1 : Int32)))]) C (dat dt_X11_runs 37 rfl) 4 rfl (congrArg (fun z => x4 + z) ic_1) (by decide) rfl ?_
      refine g_goto 19 C (dat dt_X11_runs 38 rfl) (by decide) ?_
      cases hrun
      exact Ks ((x4 + (1 : Int32)), v4.2) rfl
def f_X11_runs (x1 : Int32) (h : Hp) : Option (Bool × Hp) :=
  (f_X11_goesAlong x1 (0 : Int32) h).bind fun v1 =>
  (lp (fun s => b_X11_runs_19  x1 (fI v1.2 81 48) (fI v1.2 81 22) s.1 s.2) FU ((0 : Int32), v1.2)).bind fun e11 =>
  sc e11 (fun e13 =>
  some (true, (sF e13 81 47 (fI v1.2 81 22)))) (fun e14 =>
  some (false, e14))
set_option maxRecDepth 20000 in
theorem w_X11_runs (x1 : Int32) (h : Hp) (q : (Bool × Hp))  (hrun : f_X11_runs x1 h = some q) : MetA ⟨"SteamNationsModel", "runs", "(I)Z"⟩ prog_13_method_127_code 5 (some .boolean) 147 0 0 [.ref 81, .int x1] h (some (.int (b2i q.1))) q.2 := by
  refine metA_of (by decide) (Nat.le_of_ble_eq_true rfl) (fun X C K => ?_)
  have C : Cx X cn_11 prog_13_method_127_code 5 (some .boolean) 147 0 0 := C
  show G X h 0 0 0 [(0, .ref 81), (1, .int x1)] []
  unfold f_X11_runs at hrun
  refine g_aload_n C (dat dt_X11_runs 0 rfl) 0 rfl ?_
  refine g_iload_n C (dat dt_X11_runs 1 rfl) 1 rfl ?_
  refine g_iconst C (dat dt_X11_runs 2 rfl) ic_0 ?_
  obtain ⟨v1, q2, hrun⟩ := bd hrun
  refine g_cVv [.int x1, .int (0 : Int32)] C (dat dt_X11_runs 3 rfl) ml_11_482 (w_X11_goesAlong x1 (0 : Int32) h v1  q2) kd_81 ltk_81 rfl rfl cat0 (by decide) c00 ?_
  refine g_aload_n C (dat dt_X11_runs 4 rfl) 0 rfl ?_
  refine g_getI C (dat dt_X11_runs 5 rfl) fl_11_470 kd_81 rfl ltk_81 ?_
  refine g_istore_n (lv' := [(0, .ref 81), (1, .int x1), (2, .int (fI v1.2 81 48))]) C (dat dt_X11_runs 6 rfl) (by decide) rfl ?_
  refine g_aload_n C (dat dt_X11_runs 7 rfl) 0 rfl ?_
  refine g_getI C (dat dt_X11_runs 8 rfl) fl_11_291 kd_81 rfl ltk_81 ?_
  refine g_istore_n (lv' := [(0, .ref 81), (1, .int x1), (2, .int (fI v1.2 81 48)), (3, .int (fI v1.2 81 22))]) C (dat dt_X11_runs 9 rfl) (by decide) rfl ?_
  refine g_iconst C (dat dt_X11_runs 10 rfl) ic_0 ?_
  refine g_istore (lv' := [(0, .ref 81), (1, .int x1), (2, .int (fI v1.2 81 48)), (3, .int (fI v1.2 81 22)), (4, .int (0 : Int32))]) C (dat dt_X11_runs 11 rfl) (by decide) rfl ?_
  obtain ⟨e11, q12, hrun⟩ := bd hrun
  refine lp_ind (P := fun s => kp_X11_runs_19  x1 (fI v1.2 81 48) (fI v1.2 81 22) X s) (K := fun e => ke_X11_runs_19  x1 (fI v1.2 81 48) (fI v1.2 81 22) X e) (fun s q hb Ks Ke => wb_X11_runs_19 C   x1 (fI v1.2 81 48) (fI v1.2 81 22) s.1 s.2 q hb Ks Ke) FU ((0 : Int32), v1.2) e11 q12 ?_
  rcases e11 with e13 | e14
  · rw [sc_l] at hrun
    show G X e13 0 0 73 [(0, .ref 81), (3, .int (fI v1.2 81 22))] []
    refine g_aload_n C (dat dt_X11_runs 39 rfl) 0 rfl ?_
    refine g_iload_n C (dat dt_X11_runs 40 rfl) 1 rfl ?_
    refine g_putI C (dat dt_X11_runs 41 rfl) fl_11_458 rfl rfl kd_81 rfl ltk_81 ?_
    refine g_iconst C (dat dt_X11_runs 42 rfl) ic_1 ?_
    cases hrun
    exact g_zret C K (show (1 : Int32) = b2i true by decide) (dat dt_X11_runs 43 rfl)
  · rw [sc_r] at hrun
    show G X e14 0 0 55 [] []
    refine g_iconst C (dat dt_X11_runs 29 rfl) ic_0 ?_
    cases hrun
    exact g_zret C K (show (0 : Int32) = b2i false by decide) (dat dt_X11_runs 30 rfl)
/-! SteamNationsModel.orders()I -/
def dl_X11_orders : List (Nat × Instr × Nat) := [(0, .aload_n 0, 1), (1, .iconst (-1), 1), (2, .putfield 109, 3), (5, .aload_n 0, 1), (6, .iconst 1, 1), (7, .invokevirtual 278, 3), (10, .ifCond .ne 10, 3), (13, .aload_n 0, 1), (14, .bipush (-6), 2), (16, .invokevirtual 121, 3), (19, .ireturn, 1), (20, .aload_n 0, 1), (21, .iconst 1, 1), (22, .invokevirtual 385, 3), (25, .iconst 0, 1), (26, .istore_n 1, 1), (27, .iload_n 1, 1), (28, .sipush 416, 3), (31, .if_icmp .ge 21, 3), (34, .aload_n 0, 1), (35, .getfield 72, 3), (38, .iload_n 1, 1), (39, .aload_n 0, 1), (40, .getfield 69, 3), (43, .iload_n 1, 1), (44, .iaload, 1), (45, .iastore, 1), (46, .iinc 1 1, 3), (49, .goto (-22), 3), (52, .aload_n 0, 1), (53, .getfield 11, 3), (56, .istore_n 1, 1), (57, .aload_n 0, 1), (58, .bipush 6, 2), (60, .invokevirtual 282, 3), (63, .aload_n 0, 1), (64, .iconst 0, 1), (65, .putfield 327, 3), (68, .aload_n 0, 1), (69, .iconst (-1), 1), (70, .putfield 330, 3), (73, .aload_n 0, 1), (74, .sipush 2400, 3), (77, .putfield 458, 3), (80, .aload_n 0, 1), (81, .getfield 458, 3), (84, .aload_n 0, 1), (85, .getfield 28, 3), (88, .bipush 61, 2), (90, .iaload, 1), (91, .iadd, 1), (92, .istore_n 2, 1), (93, .iconst 0, 1), (94, .istore_n 3, 1), (95, .aload_n 0, 1), (96, .getfield 458, 3), (99, .iload_n 2, 1), (100, .if_icmp .ge 73, 3), (103, .aload_n 0, 1), (104, .iload_n 2, 1), (105, .invokevirtual 461, 3), (108, .ifCond .eq 6, 3), (111, .goto 56, 3), (114, .aload_n 0, 1), (115, .iconst 1, 1), (116, .invokevirtual 391, 3), (119, .iconst 0, 1), (120, .istore 4, 2), (122, .iload 4, 2), (124, .sipush 416, 3), (127, .if_icmp .ge 23, 3), (130, .aload_n 0, 1), (131, .getfield 69, 3), (134, .iload 4, 2), (136, .aload_n 0, 1), (137, .getfield 72, 3), (140, .iload 4, 2), (142, .iaload, 1), (143, .iastore, 1), (144, .iinc 4 1, 3), (147, .goto (-25), 3), (150, .aload_n 0, 1), (151, .iload_n 1, 1), (152, .putfield 11, 3), (155, .aload_n 0, 1), (156, .iload_n 3, 1), (157, .putfield 109, 3), (160, .aload_n 0, 1), (161, .bipush (-3), 2), (163, .invokevirtual 121, 3), (166, .ireturn, 1), (167, .iinc 3 1, 3), (170, .goto (-75), 3), (173, .aload_n 0, 1), (174, .aload_n 0, 1), (175, .getfield 327, 3), (178, .invokevirtual 14, 3), (181, .ireturn, 1)]
set_option maxRecDepth 20000 in
theorem dt_X11_orders : ∀ q ∈ dl_X11_orders, decode prog_13_method_123_code q.1 = .ok q.2 := by decide +kernel
def kp_X11_orders_27   (X : Xt) (s : (Int32 × Hp)) : Prop := G X s.2 0 0 27 [(0, .ref 81), (1, .int s.1)] []
def ke_X11_orders_27   (X : Xt) (e : Hp) : Prop := G X e 0 0 52 [(0, .ref 81)] []
def b_X11_orders_27   (x1 : Int32) (h : Hp) : Option ((Int32 × Hp) ⊕ Hp) :=
  if (416 : Int32) ≤ x1 then
  some (.inr ( h))
  else
  (inb x1 416).bind fun j7 =>
  (inb x1 416).bind fun j9 =>
  some (.inl ((x1 + (1 : Int32)), (sA h 96 j9 (aI h 95 j7))))
set_option maxRecDepth 20000 in
theorem wb_X11_orders_27 {X : Xt} (C : Cx X cn_11 prog_13_method_123_code 5 (some .int) 148 0 0)    (x1 : Int32) (h : Hp) (q : (Int32 × Hp) ⊕ Hp) (hrun : b_X11_orders_27   x1 h = some q) (Ks : ∀ s, q = .inl s → kp_X11_orders_27   X s) (Ke : ∀ e, q = .inr e → ke_X11_orders_27   X e) : kp_X11_orders_27   X (x1, h) := by
  show G X h 0 0 27 [(0, .ref 81), (1, .int x1)] []
  unfold b_X11_orders_27 at hrun
  refine g_iload_n C (dat dt_X11_orders 16 rfl) 1 rfl ?_
  refine g_sipush C (dat dt_X11_orders 17 rfl) sp_416 ?_
  refine g_ic_ge 52 C (dat dt_X11_orders 18 rfl) (by decide) (fun c6 => ?_) (fun c6 => ?_)
  · rw [if_pos c6] at hrun
    refine g_sub [0] (lv' := [(0, .ref 81)]) rfl ?_
    cases hrun
    exact Ke ( h) rfl
  · rw [if_neg c6] at hrun
    refine g_aload_n C (dat dt_X11_orders 19 rfl) 0 rfl ?_
    refine g_getR C (dat dt_X11_orders 20 rfl) fl_11_72 kd_81 rfl ltk_81 ?_
    refine g_iload_n C (dat dt_X11_orders 21 rfl) 1 rfl ?_
    refine g_aload_n C (dat dt_X11_orders 22 rfl) 0 rfl ?_
    refine g_getR C (dat dt_X11_orders 23 rfl) fl_11_69 kd_81 rfl ltk_81 ?_
    refine g_iload_n C (dat dt_X11_orders 24 rfl) 1 rfl ?_
    obtain ⟨j7, q8, hrun⟩ := bd hrun
    refine g_iald C (dat dt_X11_orders 25 rfl) kd_95 ltk_95 q8 ?_
    obtain ⟨j9, q10, hrun⟩ := bd hrun
    refine g_iast (j := j9) C (dat dt_X11_orders 26 rfl) kd_96 ltk_96 q10  ?_
    refine g_iinc (v := (x1 + (1 : Int32))) (lv' := [(0, .ref 81), (1, .int (x1 + (1 : Int32)))]) C (dat dt_X11_orders 27 rfl) 1 rfl (congrArg (fun z => x1 + z) ic_1) (by decide) rfl ?_
    refine g_goto 27 C (dat dt_X11_orders 28 rfl) (by decide) ?_
    cases hrun
    exact Ks ((x1 + (1 : Int32)), (sA h 96 j9 (aI h 95 j7))) rfl
def kp_X11_orders_95  (x1 : Int32) (x2 : Int32) (X : Xt) (s : (Int32 × Hp)) : Prop := G X s.2 0 0 95 [(0, .ref 81), (1, .int x1), (2, .int x2), (3, .int s.1)] []
def ke_X11_orders_95  (x1 : Int32) (x2 : Int32) (X : Xt) (e : (Hp ⊕ (Int32 × Hp))) : Prop := match e with
  | .inl e => G X e 0 0 173 [(0, .ref 81)] []
  | .inr (e) => G X e.2 0 0 114 [(0, .ref 81), (1, .int x1), (3, .int e.1)] []
def b_X11_orders_95  (x1 : Int32) (x2 : Int32) (x3 : Int32) (h : Hp) : Option ((Int32 × Hp) ⊕ (Hp ⊕ (Int32 × Hp))) :=
  if x2 ≤ (fI h 81 47) then
  some (.inr (.inl h))
  else
  (f_X11_runs x2 h).bind fun v16 =>
  if v16.1 = true then
  some (.inl ((x3 + (1 : Int32)), v16.2))
  else
  some (.inr (.inr <| id (x3, v16.2)))
set_option maxRecDepth 20000 in
theorem wb_X11_orders_95 {X : Xt} (C : Cx X cn_11 prog_13_method_123_code 5 (some .int) 148 0 0)   (x1 : Int32) (x2 : Int32) (x3 : Int32) (h : Hp) (q : (Int32 × Hp) ⊕ (Hp ⊕ (Int32 × Hp))) (hrun : b_X11_orders_95  x1 x2 x3 h = some q) (Ks : ∀ s, q = .inl s → kp_X11_orders_95  x1 x2 X s) (Ke : ∀ e, q = .inr e → ke_X11_orders_95  x1 x2 X e) : kp_X11_orders_95  x1 x2 X (x3, h) := by
  show G X h 0 0 95 [(0, .ref 81), (1, .int x1), (2, .int x2), (3, .int x3)] []
  unfold b_X11_orders_95 at hrun
  refine g_aload_n C (dat dt_X11_orders 54 rfl) 0 rfl ?_
  refine g_getI C (dat dt_X11_orders 55 rfl) fl_11_458 kd_81 rfl ltk_81 ?_
  refine g_iload_n C (dat dt_X11_orders 56 rfl) 2 rfl ?_
  refine g_ic_ge 173 C (dat dt_X11_orders 57 rfl) (by decide) (fun c15 => ?_) (fun c15 => ?_)
  · rw [if_pos c15] at hrun
    refine g_sub [0] (lv' := [(0, .ref 81)]) rfl ?_
    cases hrun
    exact Ke (.inl h) rfl
  · rw [if_neg c15] at hrun
    refine g_aload_n C (dat dt_X11_orders 58 rfl) 0 rfl ?_
    refine g_iload_n C (dat dt_X11_orders 59 rfl) 2 rfl ?_
    obtain ⟨v16, q17, hrun⟩ := bd hrun
    refine g_cVi [.int x2] C (dat dt_X11_orders 60 rfl) ml_11_461 (w_X11_runs x2 h v16  q17) kd_81 ltk_81 rfl rfl cat0 (by decide) c00 ?_
    refine g_if_eq 114 C (dat dt_X11_orders 61 rfl) (by decide) (fun c18 => ?_) (fun c18 => ?_)
    · rw [if_neg (b2i_z c18)] at hrun
      refine g_sub [0, 1, 3] (lv' := [(0, .ref 81), (1, .int x1), (3, .int x3)]) rfl ?_
      cases hrun
      exact Ke (.inr <| id (x3, v16.2)) rfl
    · rw [if_pos (b2i_nz c18)] at hrun
      refine g_goto 167 C (dat dt_X11_orders 62 rfl) (by decide) ?_
      refine g_iinc (v := (x3 + (1 : Int32))) (lv' := [(0, .ref 81), (1, .int x1), (2, .int x2), (3, .int (x3 + (1 : Int32)))]) C (dat dt_X11_orders 91 rfl) 3 rfl (congrArg (fun z => x3 + z) ic_1) (by decide) rfl ?_
      refine g_goto 95 C (dat dt_X11_orders 92 rfl) (by decide) ?_
      cases hrun
      exact Ks ((x3 + (1 : Int32)), v16.2) rfl
def kp_X11_orders_122  (x1 : Int32) (x3 : Int32) (X : Xt) (s : (Int32 × Hp)) : Prop := G X s.2 0 0 122 [(0, .ref 81), (1, .int x1), (3, .int x3), (4, .int s.1)] []
def ke_X11_orders_122  (x1 : Int32) (x3 : Int32) (X : Xt) (e : Hp) : Prop := G X e 0 0 150 [(0, .ref 81), (1, .int x1), (3, .int x3)] []
def b_X11_orders_122  (x1 : Int32) (x3 : Int32) (x4 : Int32) (h : Hp) : Option ((Int32 × Hp) ⊕ Hp) :=
  if (416 : Int32) ≤ x4 then
  some (.inr ( h))
  else
  (inb x4 416).bind fun j28 =>
  (inb x4 416).bind fun j30 =>
  some (.inl ((x4 + (1 : Int32)), (sA h 95 j30 (aI h 96 j28))))
set_option maxRecDepth 20000 in
theorem wb_X11_orders_122 {X : Xt} (C : Cx X cn_11 prog_13_method_123_code 5 (some .int) 148 0 0)   (x1 : Int32) (x3 : Int32) (x4 : Int32) (h : Hp) (q : (Int32 × Hp) ⊕ Hp) (hrun : b_X11_orders_122  x1 x3 x4 h = some q) (Ks : ∀ s, q = .inl s → kp_X11_orders_122  x1 x3 X s) (Ke : ∀ e, q = .inr e → ke_X11_orders_122  x1 x3 X e) : kp_X11_orders_122  x1 x3 X (x4, h) := by
  show G X h 0 0 122 [(0, .ref 81), (1, .int x1), (3, .int x3), (4, .int x4)] []
  unfold b_X11_orders_122 at hrun
  refine g_iload C (dat dt_X11_orders 68 rfl) 3 rfl ?_
  refine g_sipush C (dat dt_X11_orders 69 rfl) sp_416 ?_
  refine g_ic_ge 150 C (dat dt_X11_orders 70 rfl) (by decide) (fun c27 => ?_) (fun c27 => ?_)
  · rw [if_pos c27] at hrun
    refine g_sub [0, 1, 2] (lv' := [(0, .ref 81), (1, .int x1), (3, .int x3)]) rfl ?_
    cases hrun
    exact Ke ( h) rfl
  · rw [if_neg c27] at hrun
    refine g_aload_n C (dat dt_X11_orders 71 rfl) 0 rfl ?_
    refine g_getR C (dat dt_X11_orders 72 rfl) fl_11_69 kd_81 rfl ltk_81 ?_
    refine g_iload C (dat dt_X11_orders 73 rfl) 3 rfl ?_
    refine g_aload_n C (dat dt_X11_orders 74 rfl) 0 rfl ?_
    refine g_getR C (dat dt_X11_orders 75 rfl) fl_11_72 kd_81 rfl ltk_81 ?_
    refine g_iload C (dat dt_X11_orders 76 rfl) 3 rfl ?_
    obtain ⟨j28, q29, hrun⟩ := bd hrun
    refine g_iald C (dat dt_X11_orders 77 rfl) kd_96 ltk_96 q29 ?_
    obtain ⟨j30, q31, hrun⟩ := bd hrun
    refine g_iast (j := j30) C (dat dt_X11_orders 78 rfl) kd_95 ltk_95 q31  ?_
    refine g_iinc (v := (x4 + (1 : Int32))) (lv' := [(0, .ref 81), (1, .int x1), (3, .int x3), (4, .int (x4 + (1 : Int32)))]) C (dat dt_X11_orders 79 rfl) 3 rfl (congrArg (fun z => x4 + z) ic_1) (by decide) rfl ?_
    refine g_goto 122 C (dat dt_X11_orders 80 rfl) (by decide) ?_
    cases hrun
    exact Ks ((x4 + (1 : Int32)), (sA h 95 j30 (aI h 96 j28))) rfl
def f_X11_orders  (h : Hp) : Option (Int32 × Hp) :=
  (f_X11_readsAs (1 : Int32) (sF h 81 46 (-1 : Int32))).bind fun v1 =>
  if v1.1 = true then
  (f_X11_laysAside (1 : Int32) v1.2).bind fun v4 =>
  (lp (fun s => b_X11_orders_27   s.1 s.2) FU ((0 : Int32), v4.2)).bind fun e11 =>
  (f_X11_lays (6 : Int32) e11).bind fun v13 =>
  (lp (fun s => b_X11_orders_95  (fI e11 81 32) ((fI (sF (sF (sF v13.2 81 27 (0 : Int32)) 81 28 (-1 : Int32)) 81 47 (2400 : Int32)) 81 47) + (aI (sF (sF (sF v13.2 81 27 (0 : Int32)) 81 28 (-1 : Int32)) 81 47 (2400 : Int32)) 83 61)) s.1 s.2) FU ((0 : Int32), (sF (sF (sF v13.2 81 27 (0 : Int32)) 81 28 (-1 : Int32)) 81 47 (2400 : Int32)))).bind fun e19 =>
  sc e19 (fun e21 =>
  (f_X11_good (fI e21 81 27) e21).bind fun v22 =>
  some (v22.1, v22.2)) (fun e24 =>
  (f_X11_takesBack (1 : Int32) e24.2).bind fun v25 =>
  (lp (fun s => b_X11_orders_122  (fI e11 81 32) e24.1 s.1 s.2) FU ((0 : Int32), v25.2)).bind fun e32 =>
  (f_X11_refuses (-3 : Int32) (sF (sF e32 81 32 (fI e11 81 32)) 81 46 e24.1)).bind fun v34 =>
  some (v34.1, v34.2))
  else
  (f_X11_refuses (-6 : Int32) v1.2).bind fun v36 =>
  some (v36.1, v36.2)
set_option maxRecDepth 20000 in
theorem w_X11_orders  (h : Hp) (q : (Int32 × Hp))  (hrun : f_X11_orders  h = some q) : MetA ⟨"SteamNationsModel", "orders", "()I"⟩ prog_13_method_123_code 5 (some .int) 148 0 0 [.ref 81] h (some (.int q.1)) q.2 := by
  refine metA_of (by decide) (Nat.le_of_ble_eq_true rfl) (fun X C K => ?_)
  have C : Cx X cn_11 prog_13_method_123_code 5 (some .int) 148 0 0 := C
  show G X h 0 0 0 [(0, .ref 81)] []
  unfold f_X11_orders at hrun
  refine g_aload_n C (dat dt_X11_orders 0 rfl) 0 rfl ?_
  refine g_iconst C (dat dt_X11_orders 1 rfl) ic_m1 ?_
  refine g_putI C (dat dt_X11_orders 2 rfl) fl_11_109 rfl rfl kd_81 rfl ltk_81 ?_
  refine g_aload_n C (dat dt_X11_orders 3 rfl) 0 rfl ?_
  refine g_iconst C (dat dt_X11_orders 4 rfl) ic_1 ?_
  obtain ⟨v1, q2, hrun⟩ := bd hrun
  refine g_cVi [.int (1 : Int32)] C (dat dt_X11_orders 5 rfl) ml_11_278 (w_X11_readsAs (1 : Int32) (sF h 81 46 (-1 : Int32)) v1  q2) kd_81 ltk_81 rfl rfl cat0 (by decide) c00 ?_
  refine g_if_ne 20 C (dat dt_X11_orders 6 rfl) (by decide) (fun c3 => ?_) (fun c3 => ?_)
  · rw [if_pos (b2i_nz c3)] at hrun
    refine g_aload_n C (dat dt_X11_orders 11 rfl) 0 rfl ?_
    refine g_iconst C (dat dt_X11_orders 12 rfl) ic_1 ?_
    obtain ⟨v4, q5, hrun⟩ := bd hrun
    refine g_cVv [.int (1 : Int32)] C (dat dt_X11_orders 13 rfl) ml_11_385 (w_X11_laysAside (1 : Int32) v1.2 v4  q5) kd_81 ltk_81 rfl rfl cat0 (by decide) c00 ?_
    refine g_iconst C (dat dt_X11_orders 14 rfl) ic_0 ?_
    refine g_istore_n (lv' := [(0, .ref 81), (1, .int (0 : Int32))]) C (dat dt_X11_orders 15 rfl) (by decide) rfl ?_
    obtain ⟨e11, q12, hrun⟩ := bd hrun
    refine lp_ind (P := fun s => kp_X11_orders_27   X s) (K := fun e => ke_X11_orders_27   X e) (fun s q hb Ks Ke => wb_X11_orders_27 C    s.1 s.2 q hb Ks Ke) FU ((0 : Int32), v4.2) e11 q12 ?_
    show G X e11 0 0 52 [(0, .ref 81)] []
    refine g_aload_n C (dat dt_X11_orders 29 rfl) 0 rfl ?_
    refine g_getI C (dat dt_X11_orders 30 rfl) fl_11_11 kd_81 rfl ltk_81 ?_
    refine g_istore_n (lv' := [(0, .ref 81), (1, .int (fI e11 81 32))]) C (dat dt_X11_orders 31 rfl) (by decide) rfl ?_
    refine g_aload_n C (dat dt_X11_orders 32 rfl) 0 rfl ?_
    refine g_bipush C (dat dt_X11_orders 33 rfl) bp_6 ?_
    obtain ⟨v13, q14, hrun⟩ := bd hrun
    refine g_cVv [.int (6 : Int32)] C (dat dt_X11_orders 34 rfl) ml_11_282 (w_X11_lays (6 : Int32) e11 v13  q14) kd_81 ltk_81 rfl rfl cat0 (by decide) c00 ?_
    refine g_aload_n C (dat dt_X11_orders 35 rfl) 0 rfl ?_
    refine g_iconst C (dat dt_X11_orders 36 rfl) ic_0 ?_
    refine g_putI C (dat dt_X11_orders 37 rfl) fl_11_327 rfl rfl kd_81 rfl ltk_81 ?_
    refine g_aload_n C (dat dt_X11_orders 38 rfl) 0 rfl ?_
    refine g_iconst C (dat dt_X11_orders 39 rfl) ic_m1 ?_
    refine g_putI C (dat dt_X11_orders 40 rfl) fl_11_330 rfl rfl kd_81 rfl ltk_81 ?_
    refine g_aload_n C (dat dt_X11_orders 41 rfl) 0 rfl ?_
    refine g_sipush C (dat dt_X11_orders 42 rfl) sp_2400 ?_
    refine g_putI C (dat dt_X11_orders 43 rfl) fl_11_458 rfl rfl kd_81 rfl ltk_81 ?_
    refine g_aload_n C (dat dt_X11_orders 44 rfl) 0 rfl ?_
    refine g_getI C (dat dt_X11_orders 45 rfl) fl_11_458 kd_81 rfl ltk_81 ?_
    refine g_aload_n C (dat dt_X11_orders 46 rfl) 0 rfl ?_
    refine g_getR C (dat dt_X11_orders 47 rfl) fl_11_28 kd_81 rfl ltk_81 ?_
    refine g_bipush C (dat dt_X11_orders 48 rfl) bp_61 ?_
    refine g_iald (j := 61) C (dat dt_X11_orders 49 rfl) kd_83 ltk_83 (show inb (61 : Int32) 5662 = some 61 by decide) ?_
    refine g_iadd C (dat dt_X11_orders 50 rfl) ?_
    refine g_istore_n (lv' := [(0, .ref 81), (1, .int (fI e11 81 32)), (2, .int ((fI (sF (sF (sF v13.2 81 27 (0 : Int32)) 81 28 (-1 : Int32)) 81 47 (2400 : Int32)) 81 47) + (aI (sF (sF (sF v13.2 81 27 (0 : Int32)) 81 28 (-1 : Int32)) 81 47 (2400 : Int32)) 83 61)))]) C (dat dt_X11_orders 51 rfl) (by decide) rfl ?_
    refine g_iconst C (dat dt_X11_orders 52 rfl) ic_0 ?_
    refine g_istore_n (lv' := [(0, .ref 81), (1, .int (fI e11 81 32)), (2, .int ((fI (sF (sF (sF v13.2 81 27 (0 : Int32)) 81 28 (-1 : Int32)) 81 47 (2400 : Int32)) 81 47) + (aI (sF (sF (sF v13.2 81 27 (0 : Int32)) 81 28 (-1 : Int32)) 81 47 (2400 : Int32)) 83 61))), (3, .int (0 : Int32))]) C (dat dt_X11_orders 53 rfl) (by decide) rfl ?_
    obtain ⟨e19, q20, hrun⟩ := bd hrun
    refine lp_ind (P := fun s => kp_X11_orders_95  (fI e11 81 32) ((fI (sF (sF (sF v13.2 81 27 (0 : Int32)) 81 28 (-1 : Int32)) 81 47 (2400 : Int32)) 81 47) + (aI (sF (sF (sF v13.2 81 27 (0 : Int32)) 81 28 (-1 : Int32)) 81 47 (2400 : Int32)) 83 61)) X s) (K := fun e => ke_X11_orders_95  (fI e11 81 32) ((fI (sF (sF (sF v13.2 81 27 (0 : Int32)) 81 28 (-1 : Int32)) 81 47 (2400 : Int32)) 81 47) + (aI (sF (sF (sF v13.2 81 27 (0 : Int32)) 81 28 (-1 : Int32)) 81 47 (2400 : Int32)) 83 61)) X e) (fun s q hb Ks Ke => wb_X11_orders_95 C   (fI e11 81 32) ((fI (sF (sF (sF v13.2 81 27 (0 : Int32)) 81 28 (-1 : Int32)) 81 47 (2400 : Int32)) 81 47) + (aI (sF (sF (sF v13.2 81 27 (0 : Int32)) 81 28 (-1 : Int32)) 81 47 (2400 : Int32)) 83 61)) s.1 s.2 q hb Ks Ke) FU ((0 : Int32), (sF (sF (sF v13.2 81 27 (0 : Int32)) 81 28 (-1 : Int32)) 81 47 (2400 : Int32))) e19 q20 ?_
    rcases e19 with e21 | e24
    · rw [sc_l] at hrun
      show G X e21 0 0 173 [(0, .ref 81)] []
      refine g_aload_n C (dat dt_X11_orders 93 rfl) 0 rfl ?_
      refine g_aload_n C (dat dt_X11_orders 94 rfl) 0 rfl ?_
      refine g_getI C (dat dt_X11_orders 95 rfl) fl_11_327 kd_81 rfl ltk_81 ?_
      obtain ⟨v22, q23, hrun⟩ := bd hrun
      refine g_cVi [.int (fI e21 81 27)] C (dat dt_X11_orders 96 rfl) ml_11_14 (w_X11_good (fI e21 81 27) e21 v22  q23) kd_81 ltk_81 rfl rfl cat0 (by decide) c00 ?_
      cases hrun
      exact g_iret C K (dat dt_X11_orders 97 rfl)
    · rw [sc_r] at hrun
      show G X e24.2 0 0 114 [(0, .ref 81), (1, .int (fI e11 81 32)), (3, .int e24.1)] []
      refine g_aload_n C (dat dt_X11_orders 63 rfl) 0 rfl ?_
      refine g_iconst C (dat dt_X11_orders 64 rfl) ic_1 ?_
      obtain ⟨v25, q26, hrun⟩ := bd hrun
      refine g_cVv [.int (1 : Int32)] C (dat dt_X11_orders 65 rfl) ml_11_391 (w_X11_takesBack (1 : Int32) e24.2 v25  q26) kd_81 ltk_81 rfl rfl cat0 (by decide) c00 ?_
      refine g_iconst C (dat dt_X11_orders 66 rfl) ic_0 ?_
      refine g_istore (lv' := [(0, .ref 81), (1, .int (fI e11 81 32)), (3, .int e24.1), (4, .int (0 : Int32))]) C (dat dt_X11_orders 67 rfl) (by decide) rfl ?_
      obtain ⟨e32, q33, hrun⟩ := bd hrun
      refine lp_ind (P := fun s => kp_X11_orders_122  (fI e11 81 32) e24.1 X s) (K := fun e => ke_X11_orders_122  (fI e11 81 32) e24.1 X e) (fun s q hb Ks Ke => wb_X11_orders_122 C   (fI e11 81 32) e24.1 s.1 s.2 q hb Ks Ke) FU ((0 : Int32), v25.2) e32 q33 ?_
      show G X e32 0 0 150 [(0, .ref 81), (1, .int (fI e11 81 32)), (3, .int e24.1)] []
      refine g_aload_n C (dat dt_X11_orders 81 rfl) 0 rfl ?_
      refine g_iload_n C (dat dt_X11_orders 82 rfl) 1 rfl ?_
      refine g_putI C (dat dt_X11_orders 83 rfl) fl_11_11 rfl rfl kd_81 rfl ltk_81 ?_
      refine g_aload_n C (dat dt_X11_orders 84 rfl) 0 rfl ?_
      refine g_iload_n C (dat dt_X11_orders 85 rfl) 2 rfl ?_
      refine g_putI C (dat dt_X11_orders 86 rfl) fl_11_109 rfl rfl kd_81 rfl ltk_81 ?_
      refine g_aload_n C (dat dt_X11_orders 87 rfl) 0 rfl ?_
      refine g_bipush C (dat dt_X11_orders 88 rfl) bp_m3 ?_
      obtain ⟨v34, q35, hrun⟩ := bd hrun
      refine g_cVi [.int (-3 : Int32)] C (dat dt_X11_orders 89 rfl) ml_11_121 (w_X11_refuses (-3 : Int32) (sF (sF e32 81 32 (fI e11 81 32)) 81 46 e24.1) v34  q35) kd_81 ltk_81 rfl rfl cat0 (by decide) c00 ?_
      cases hrun
      exact g_iret C K (dat dt_X11_orders 90 rfl)
  · rw [if_neg (b2i_z c3)] at hrun
    refine g_aload_n C (dat dt_X11_orders 7 rfl) 0 rfl ?_
    refine g_bipush C (dat dt_X11_orders 8 rfl) bp_m6 ?_
    obtain ⟨v36, q37, hrun⟩ := bd hrun
    refine g_cVi [.int (-6 : Int32)] C (dat dt_X11_orders 9 rfl) ml_11_121 (w_X11_refuses (-6 : Int32) v1.2 v36  q37) kd_81 ltk_81 rfl rfl cat0 (by decide) c00 ?_
    cases hrun
    exact g_iret C K (dat dt_X11_orders 10 rfl)
/-! SteamNationsModel.pass()I -/
def dl_X11_pass : List (Nat × Instr × Nat) := [(0, .aload_n 0, 1), (1, .aload_n 0, 1), (2, .invokevirtual 382, 3), (5, .invokevirtual 373, 3), (8, .ireturn, 1)]
set_option maxRecDepth 20000 in
theorem dt_X11_pass : ∀ q ∈ dl_X11_pass, decode prog_13_method_93_code q.1 = .ok q.2 := by decide +kernel
def f_X11_pass  (h : Hp) : Option (Int32 × Hp) :=
  (f_X11_passesKept  h).bind fun v1 =>
  (f_X11_goodOr v1.1 v1.2).bind fun v3 =>
  some (v3.1, v3.2)
set_option maxRecDepth 20000 in
theorem w_X11_pass  (h : Hp) (q : (Int32 × Hp))  (hrun : f_X11_pass  h = some q) : MetA ⟨"SteamNationsModel", "pass", "()I"⟩ prog_13_method_93_code 1 (some .int) 146 0 0 [.ref 81] h (some (.int q.1)) q.2 := by
  refine metA_of (by decide) (Nat.le_of_ble_eq_true rfl) (fun X C K => ?_)
  have C : Cx X cn_11 prog_13_method_93_code 1 (some .int) 146 0 0 := C
  show G X h 0 0 0 [(0, .ref 81)] []
  unfold f_X11_pass at hrun
  refine g_aload_n C (dat dt_X11_pass 0 rfl) 0 rfl ?_
  refine g_aload_n C (dat dt_X11_pass 1 rfl) 0 rfl ?_
  obtain ⟨v1, q2, hrun⟩ := bd hrun
  refine g_cVi [] C (dat dt_X11_pass 2 rfl) ml_11_382 (w_X11_passesKept  h v1  q2) kd_81 ltk_81 rfl rfl (Nat.le_of_ble_eq_true rfl) (by decide) c00 ?_
  obtain ⟨v3, q4, hrun⟩ := bd hrun
  refine g_cVi [.int v1.1] C (dat dt_X11_pass 3 rfl) ml_11_373 (w_X11_goodOr v1.1 v1.2 v3  q4) kd_81 ltk_81 rfl rfl cat0 (by decide) c00 ?_
  cases hrun
  exact g_iret C K (dat dt_X11_pass 4 rfl)
/-! SteamNationsModel.passMinutes(I)V -/
def dl_X11_passMinutes : List (Nat × Instr × Nat) := [(0, .iconst 0, 1), (1, .istore_n 2, 1), (2, .iload_n 2, 1), (3, .iload_n 1, 1), (4, .if_icmp .ge 13, 3), (7, .aload_n 0, 1), (8, .invokevirtual 364, 3), (11, .iinc 2 1, 3), (14, .goto (-12), 3), (17, .return_, 1)]
set_option maxRecDepth 20000 in
theorem dt_X11_passMinutes : ∀ q ∈ dl_X11_passMinutes, decode prog_13_method_82_code q.1 = .ok q.2 := by decide +kernel
def kp_X11_passMinutes_2  (x1 : Int32) (X : Xt) (s : (Int32 × Hp)) : Prop := G X s.2 0 0 2 [(0, .ref 81), (1, .int x1), (2, .int s.1)] []
def ke_X11_passMinutes_2  (x1 : Int32) (X : Xt) (e : Hp) : Prop := G X e 0 0 17 [] []
def b_X11_passMinutes_2  (x1 : Int32) (x2 : Int32) (h : Hp) : Option ((Int32 × Hp) ⊕ Hp) :=
  if x1 ≤ x2 then
  some (.inr ( h))
  else
  (f_X11_minutePasses  h).bind fun v2 =>
  some (.inl ((x2 + (1 : Int32)), v2.2))
set_option maxRecDepth 20000 in
theorem wb_X11_passMinutes_2 {X : Xt} (C : Cx X cn_11 prog_13_method_82_code 3 none 145 0 0)   (x1 : Int32) (x2 : Int32) (h : Hp) (q : (Int32 × Hp) ⊕ Hp) (hrun : b_X11_passMinutes_2  x1 x2 h = some q) (Ks : ∀ s, q = .inl s → kp_X11_passMinutes_2  x1 X s) (Ke : ∀ e, q = .inr e → ke_X11_passMinutes_2  x1 X e) : kp_X11_passMinutes_2  x1 X (x2, h) := by
  show G X h 0 0 2 [(0, .ref 81), (1, .int x1), (2, .int x2)] []
  unfold b_X11_passMinutes_2 at hrun
  refine g_iload_n C (dat dt_X11_passMinutes 2 rfl) 2 rfl ?_
  refine g_iload_n C (dat dt_X11_passMinutes 3 rfl) 1 rfl ?_
  refine g_ic_ge 17 C (dat dt_X11_passMinutes 4 rfl) (by decide) (fun c1 => ?_) (fun c1 => ?_)
  · rw [if_pos c1] at hrun
    refine g_sub [] (lv' := []) rfl ?_
    cases hrun
    exact Ke ( h) rfl
  · rw [if_neg c1] at hrun
    refine g_aload_n C (dat dt_X11_passMinutes 5 rfl) 0 rfl ?_
    obtain ⟨v2, q3, hrun⟩ := bd hrun
    refine g_cVv [] C (dat dt_X11_passMinutes 6 rfl) ml_11_364 (w_X11_minutePasses  h v2  q3) kd_81 ltk_81 rfl rfl cat0 (by decide) c00 ?_
    refine g_iinc (v := (x2 + (1 : Int32))) (lv' := [(0, .ref 81), (1, .int x1), (2, .int (x2 + (1 : Int32)))]) C (dat dt_X11_passMinutes 7 rfl) 2 rfl (congrArg (fun z => x2 + z) ic_1) (by decide) rfl ?_
    refine g_goto 2 C (dat dt_X11_passMinutes 8 rfl) (by decide) ?_
    cases hrun
    exact Ks ((x2 + (1 : Int32)), v2.2) rfl
def f_X11_passMinutes (x1 : Int32) (h : Hp) : Option (Unit × Hp) :=
  (lp (fun s => b_X11_passMinutes_2  x1 s.1 s.2) FU ((0 : Int32), h)).bind fun e4 =>
  some ((), e4)
set_option maxRecDepth 20000 in
theorem w_X11_passMinutes (x1 : Int32) (h : Hp) (q : (Unit × Hp))  (hrun : f_X11_passMinutes x1 h = some q) : MetA ⟨"SteamNationsModel", "passMinutes", "(I)V"⟩ prog_13_method_82_code 3 none 145 0 0 [.ref 81, .int x1] h none q.2 := by
  refine metA_of (by decide) (Nat.le_of_ble_eq_true rfl) (fun X C K => ?_)
  have C : Cx X cn_11 prog_13_method_82_code 3 none 145 0 0 := C
  show G X h 0 0 0 [(0, .ref 81), (1, .int x1)] []
  unfold f_X11_passMinutes at hrun
  refine g_iconst C (dat dt_X11_passMinutes 0 rfl) ic_0 ?_
  refine g_istore_n (lv' := [(0, .ref 81), (1, .int x1), (2, .int (0 : Int32))]) C (dat dt_X11_passMinutes 1 rfl) (by decide) rfl ?_
  obtain ⟨e4, q5, hrun⟩ := bd hrun
  refine lp_ind (P := fun s => kp_X11_passMinutes_2  x1 X s) (K := fun e => ke_X11_passMinutes_2  x1 X e) (fun s q hb Ks Ke => wb_X11_passMinutes_2 C   x1 s.1 s.2 q hb Ks Ke) FU ((0 : Int32), h) e4 q5 ?_
  show G X e4 0 0 17 [] []
  cases hrun
  exact g_vret C K (dat dt_X11_passMinutes 9 rfl)
/-! SteamNationsModel.later(III)I -/
def dl_X11_later : List (Nat × Instr × Nat) := [(0, .aload_n 0, 1), (1, .iload_n 1, 1), (2, .invokevirtual 147, 3), (5, .ifCond .eq 22, 3), (8, .iload_n 2, 1), (9, .iconst 0, 1), (10, .bipush 60, 2), (12, .invokestatic 18, 3), (15, .ifCond .eq 12, 3), (18, .iload_n 3, 1), (19, .iconst 0, 1), (20, .iconst 3, 1), (21, .invokestatic 18, 3), (24, .ifCond .ne 5, 3), (27, .iconst (-1), 1), (28, .ireturn, 1), (29, .aload_n 0, 1), (30, .iconst 0, 1), (31, .invokevirtual 385, 3), (34, .aload_n 0, 1), (35, .iload_n 2, 1), (36, .invokevirtual 388, 3), (39, .iload_n 3, 1), (40, .iconst 3, 1), (41, .if_icmp .ne 11, 3), (44, .aload_n 0, 1), (45, .iload_n 1, 1), (46, .invokevirtual 153, 3), (49, .goto 9, 3), (52, .aload_n 0, 1), (53, .iload_n 1, 1), (54, .iload_n 3, 1), (55, .invokevirtual 131, 3), (58, .istore 4, 2), (60, .aload_n 0, 1), (61, .iconst 0, 1), (62, .invokevirtual 391, 3), (65, .iload 4, 2), (67, .ireturn, 1)]
set_option maxRecDepth 20000 in
theorem dt_X11_later : ∀ q ∈ dl_X11_later, decode prog_13_method_94_code q.1 = .ok q.2 := by decide +kernel
def j_X11_later_58  (s0 : Int32) (h : Hp) : Option (Int32 × Hp) :=
  (f_X11_takesBack (0 : Int32) h).bind fun v17 =>
  some (s0, v17.2)
set_option maxRecDepth 20000 in
theorem wj_X11_later_58 {X : Xt} (C : Cx X cn_11 prog_13_method_94_code 5 (some .int) 146 0 0)    (s0 : Int32) (h : Hp) (q : (Int32 × Hp)) (hrun : j_X11_later_58  s0 h = some q) (K : EndQ X 0 0 (some (.int q.1)) q.2) : G X h 0 0 58 [(0, .ref 81)] [.int s0] := by
  unfold j_X11_later_58 at hrun
  refine g_istore (lv' := [(0, .ref 81), (4, .int s0)]) C (dat dt_X11_later 33 rfl) (by decide) rfl ?_
  refine g_aload_n C (dat dt_X11_later 34 rfl) 0 rfl ?_
  refine g_iconst C (dat dt_X11_later 35 rfl) ic_0 ?_
  obtain ⟨v17, q18, hrun⟩ := bd hrun
  refine g_cVv [.int (0 : Int32)] C (dat dt_X11_later 36 rfl) ml_11_391 (w_X11_takesBack (0 : Int32) h v17  q18) kd_81 ltk_81 rfl rfl cat0 (by decide) c00 ?_
  refine g_iload C (dat dt_X11_later 37 rfl) 1 rfl ?_
  cases hrun
  exact g_iret C K (dat dt_X11_later 38 rfl)
def f_X11_later (x1 : Int32) (x2 : Int32) (x3 : Int32) (h : Hp) : Option (Int32 × Hp) :=
  (f_X11_isSitter x1 h).bind fun v1 =>
  if v1 = true then
  (f_X11_lies x2 (0 : Int32) (60 : Int32)).bind fun v4 =>
  if v4 = true then
  (f_X11_lies x3 (0 : Int32) (3 : Int32)).bind fun v7 =>
  if v7 = true then
  (f_X11_laysAside (0 : Int32) h).bind fun v10 =>
  (f_X11_passMinutes x2 v10.2).bind fun v12 =>
  if x3 = (3 : Int32) then
  (f_X11_nationOf x1 v12.2).bind fun v19 =>
  j_X11_later_58  v19 v12.2
  else
  (f_X11_partsOf x1 x3 v12.2).bind fun v15 =>
  j_X11_later_58  v15 v12.2
  else
  some ((-1 : Int32), h)
  else
  some ((-1 : Int32), h)
  else
  some ((-1 : Int32), h)
set_option maxRecDepth 20000 in
theorem w_X11_later (x1 : Int32) (x2 : Int32) (x3 : Int32) (h : Hp) (q : (Int32 × Hp))  (hrun : f_X11_later x1 x2 x3 h = some q) : MetA ⟨"SteamNationsModel", "later", "(III)I"⟩ prog_13_method_94_code 5 (some .int) 146 0 0 [.ref 81, .int x1, .int x2, .int x3] h (some (.int q.1)) q.2 := by
  refine metA_of (by decide) (Nat.le_of_ble_eq_true rfl) (fun X C K => ?_)
  have C : Cx X cn_11 prog_13_method_94_code 5 (some .int) 146 0 0 := C
  show G X h 0 0 0 [(0, .ref 81), (1, .int x1), (2, .int x2), (3, .int x3)] []
  unfold f_X11_later at hrun
  refine g_aload_n C (dat dt_X11_later 0 rfl) 0 rfl ?_
  refine g_iload_n C (dat dt_X11_later 1 rfl) 1 rfl ?_
  obtain ⟨v1, q2, hrun⟩ := bd hrun
  refine g_cVi [.int x1] C (dat dt_X11_later 2 rfl) ml_11_147 (w_X11_isSitter x1 h v1  q2) kd_81 ltk_81 rfl rfl cat0 (by decide) c00 ?_
  refine g_if_eq 27 C (dat dt_X11_later 3 rfl) (by decide) (fun c3 => ?_) (fun c3 => ?_)
  · rw [if_neg (b2i_z c3)] at hrun
    refine g_iconst C (dat dt_X11_later 14 rfl) ic_m1 ?_
    cases hrun
    exact g_iret C K (dat dt_X11_later 15 rfl)
  · rw [if_pos (b2i_nz c3)] at hrun
    refine g_iload_n C (dat dt_X11_later 4 rfl) 2 rfl ?_
    refine g_iconst C (dat dt_X11_later 5 rfl) ic_0 ?_
    refine g_bipush C (dat dt_X11_later 6 rfl) bp_60 ?_
    obtain ⟨v4, q5, hrun⟩ := bd hrun
    refine g_cSi [.int x2, .int (0 : Int32), .int (60 : Int32)] C (dat dt_X11_later 7 rfl) ml_11_18 (w_X11_lies x2 (0 : Int32) (60 : Int32) h v4  q5) rfl rfl cat0 (by decide) c00 ?_
    refine g_if_eq 27 C (dat dt_X11_later 8 rfl) (by decide) (fun c6 => ?_) (fun c6 => ?_)
    · rw [if_neg (b2i_z c6)] at hrun
      refine g_iconst C (dat dt_X11_later 14 rfl) ic_m1 ?_
      cases hrun
      exact g_iret C K (dat dt_X11_later 15 rfl)
    · rw [if_pos (b2i_nz c6)] at hrun
      refine g_iload_n C (dat dt_X11_later 9 rfl) 3 rfl ?_
      refine g_iconst C (dat dt_X11_later 10 rfl) ic_0 ?_
      refine g_iconst C (dat dt_X11_later 11 rfl) ic_3 ?_
      obtain ⟨v7, q8, hrun⟩ := bd hrun
      refine g_cSi [.int x3, .int (0 : Int32), .int (3 : Int32)] C (dat dt_X11_later 12 rfl) ml_11_18 (w_X11_lies x3 (0 : Int32) (3 : Int32) h v7  q8) rfl rfl cat0 (by decide) c00 ?_
      refine g_if_ne 29 C (dat dt_X11_later 13 rfl) (by decide) (fun c9 => ?_) (fun c9 => ?_)
      · rw [if_pos (b2i_nz c9)] at hrun
        refine g_aload_n C (dat dt_X11_later 16 rfl) 0 rfl ?_
        refine g_iconst C (dat dt_X11_later 17 rfl) ic_0 ?_
        obtain ⟨v10, q11, hrun⟩ := bd hrun
        refine g_cVv [.int (0 : Int32)] C (dat dt_X11_later 18 rfl) ml_11_385 (w_X11_laysAside (0 : Int32) h v10  q11) kd_81 ltk_81 rfl rfl cat0 (by decide) c00 ?_
        refine g_aload_n C (dat dt_X11_later 19 rfl) 0 rfl ?_
        refine g_iload_n C (dat dt_X11_later 20 rfl) 2 rfl ?_
        obtain ⟨v12, q13, hrun⟩ := bd hrun
        refine g_cVv [.int x2] C (dat dt_X11_later 21 rfl) ml_11_388 (w_X11_passMinutes x2 v10.2 v12  q13) kd_81 ltk_81 rfl rfl cat0 (by decide) c00 ?_
        refine g_iload_n C (dat dt_X11_later 22 rfl) 3 rfl ?_
        refine g_iconst C (dat dt_X11_later 23 rfl) ic_3 ?_
        refine g_ic_ne 52 C (dat dt_X11_later 24 rfl) (by decide) (fun c14 => ?_) (fun c14 => ?_)
        · rw [if_neg c14] at hrun
          refine g_aload_n C (dat dt_X11_later 29 rfl) 0 rfl ?_
          refine g_iload_n C (dat dt_X11_later 30 rfl) 1 rfl ?_
          refine g_iload_n C (dat dt_X11_later 31 rfl) 3 rfl ?_
          obtain ⟨v15, q16, hrun⟩ := bd hrun
          refine g_cVi [.int x1, .int x3] C (dat dt_X11_later 32 rfl) ml_11_131 (w_X11_partsOf x1 x3 v12.2 v15  q16) kd_81 ltk_81 rfl rfl cat0 (by decide) c00 ?_
          refine g_sub [0] (lv' := [(0, .ref 81)]) rfl ?_
          exact wj_X11_later_58 C    v15 v12.2 _ hrun K
        · rw [if_pos c14] at hrun
          refine g_aload_n C (dat dt_X11_later 25 rfl) 0 rfl ?_
          refine g_iload_n C (dat dt_X11_later 26 rfl) 1 rfl ?_
          obtain ⟨v19, q20, hrun⟩ := bd hrun
          refine g_cVi [.int x1] C (dat dt_X11_later 27 rfl) ml_11_153 (w_X11_nationOf x1 v12.2 v19  q20) kd_81 ltk_81 rfl rfl cat0 (by decide) c00 ?_
          refine g_goto 58 C (dat dt_X11_later 28 rfl) (by decide) ?_
          refine g_sub [0] (lv' := [(0, .ref 81)]) rfl ?_
          exact wj_X11_later_58 C    v19 v12.2 _ hrun K
      · rw [if_neg (b2i_z c9)] at hrun
        refine g_iconst C (dat dt_X11_later 14 rfl) ic_m1 ?_
        cases hrun
        exact g_iret C K (dat dt_X11_later 15 rfl)
/-! SteamNationsModel.when(II)I -/
def dl_X11_when : List (Nat × Instr × Nat) := [(0, .aload_n 0, 1), (1, .iload_n 1, 1), (2, .invokevirtual 147, 3), (5, .ifCond .eq 10, 3), (8, .iload_n 2, 1), (9, .invokestatic 135, 3), (12, .ifCond .ne 5, 3), (15, .iconst (-1), 1), (16, .ireturn, 1), (17, .aload_n 0, 1), (18, .iconst 0, 1), (19, .invokevirtual 385, 3), (22, .iconst 0, 1), (23, .istore_n 3, 1), (24, .iload_n 3, 1), (25, .bipush 60, 2), (27, .if_icmp .gt 22, 3), (30, .aload_n 0, 1), (31, .iload_n 1, 1), (32, .invokevirtual 153, 3), (35, .iload_n 2, 1), (36, .if_icmp .eq 13, 3), (39, .aload_n 0, 1), (40, .invokevirtual 364, 3), (43, .iinc 3 1, 3), (46, .goto (-22), 3), (49, .aload_n 0, 1), (50, .iconst 0, 1), (51, .invokevirtual 391, 3), (54, .iload_n 3, 1), (55, .bipush 60, 2), (57, .if_icmp .le 7, 3), (60, .iconst (-1), 1), (61, .goto 4, 3), (64, .iload_n 3, 1), (65, .ireturn, 1)]
set_option maxRecDepth 20000 in
theorem dt_X11_when : ∀ q ∈ dl_X11_when, decode prog_13_method_95_code q.1 = .ok q.2 := by decide +kernel
def kp_X11_when_24  (x1 : Int32) (x2 : Int32) (X : Xt) (s : (Int32 × Hp)) : Prop := G X s.2 0 0 24 [(0, .ref 81), (1, .int x1), (2, .int x2), (3, .int s.1)] []
def ke_X11_when_24  (x1 : Int32) (x2 : Int32) (X : Xt) (e : (Int32 × Hp)) : Prop := G X e.2 0 0 49 [(0, .ref 81), (3, .int e.1)] []
def b_X11_when_24  (x1 : Int32) (x2 : Int32) (x3 : Int32) (h : Hp) : Option ((Int32 × Hp) ⊕ (Int32 × Hp)) :=
  if (60 : Int32) < x3 then
  some (.inr ( (x3, h)))
  else
  (f_X11_nationOf x1 h).bind fun v10 =>
  if v10 = x2 then
  some (.inr ( (x3, h)))
  else
  (f_X11_minutePasses  h).bind fun v13 =>
  some (.inl ((x3 + (1 : Int32)), v13.2))
set_option maxRecDepth 20000 in
theorem wb_X11_when_24 {X : Xt} (C : Cx X cn_11 prog_13_method_95_code 4 (some .int) 145 0 0)   (x1 : Int32) (x2 : Int32) (x3 : Int32) (h : Hp) (q : (Int32 × Hp) ⊕ (Int32 × Hp)) (hrun : b_X11_when_24  x1 x2 x3 h = some q) (Ks : ∀ s, q = .inl s → kp_X11_when_24  x1 x2 X s) (Ke : ∀ e, q = .inr e → ke_X11_when_24  x1 x2 X e) : kp_X11_when_24  x1 x2 X (x3, h) := by
  show G X h 0 0 24 [(0, .ref 81), (1, .int x1), (2, .int x2), (3, .int x3)] []
  unfold b_X11_when_24 at hrun
  refine g_iload_n C (dat dt_X11_when 14 rfl) 3 rfl ?_
  refine g_bipush C (dat dt_X11_when 15 rfl) bp_60 ?_
  refine g_ic_gt 49 C (dat dt_X11_when 16 rfl) (by decide) (fun c9 => ?_) (fun c9 => ?_)
  · rw [if_pos c9] at hrun
    refine g_sub [0, 3] (lv' := [(0, .ref 81), (3, .int x3)]) rfl ?_
    cases hrun
    exact Ke ( (x3, h)) rfl
  · rw [if_neg c9] at hrun
    refine g_aload_n C (dat dt_X11_when 17 rfl) 0 rfl ?_
    refine g_iload_n C (dat dt_X11_when 18 rfl) 1 rfl ?_
    obtain ⟨v10, q11, hrun⟩ := bd hrun
    refine g_cVi [.int x1] C (dat dt_X11_when 19 rfl) ml_11_153 (w_X11_nationOf x1 h v10  q11) kd_81 ltk_81 rfl rfl cat0 (by decide) c00 ?_
    refine g_iload_n C (dat dt_X11_when 20 rfl) 2 rfl ?_
    refine g_ic_eq 49 C (dat dt_X11_when 21 rfl) (by decide) (fun c12 => ?_) (fun c12 => ?_)
    · rw [if_pos c12] at hrun
      refine g_sub [0, 3] (lv' := [(0, .ref 81), (3, .int x3)]) rfl ?_
      cases hrun
      exact Ke ( (x3, h)) rfl
    · rw [if_neg c12] at hrun
      refine g_aload_n C (dat dt_X11_when 22 rfl) 0 rfl ?_
      obtain ⟨v13, q14, hrun⟩ := bd hrun
      refine g_cVv [] C (dat dt_X11_when 23 rfl) ml_11_364 (w_X11_minutePasses  h v13  q14) kd_81 ltk_81 rfl rfl cat0 (by decide) c00 ?_
      refine g_iinc (v := (x3 + (1 : Int32))) (lv' := [(0, .ref 81), (1, .int x1), (2, .int x2), (3, .int (x3 + (1 : Int32)))]) C (dat dt_X11_when 24 rfl) 3 rfl (congrArg (fun z => x3 + z) ic_1) (by decide) rfl ?_
      refine g_goto 24 C (dat dt_X11_when 25 rfl) (by decide) ?_
      cases hrun
      exact Ks ((x3 + (1 : Int32)), v13.2) rfl
def j_X11_when_49  (x3 : Int32) (h : Hp) : Option (Int32 × Hp) :=
  (f_X11_takesBack (0 : Int32) h).bind fun v17 =>
  if x3 ≤ (60 : Int32) then
  some (x3, v17.2)
  else
  some ((-1 : Int32), v17.2)
set_option maxRecDepth 20000 in
theorem wj_X11_when_49 {X : Xt} (C : Cx X cn_11 prog_13_method_95_code 4 (some .int) 145 0 0)    (x3 : Int32) (h : Hp) (q : (Int32 × Hp)) (hrun : j_X11_when_49  x3 h = some q) (K : EndQ X 0 0 (some (.int q.1)) q.2) : G X h 0 0 49 [(0, .ref 81), (3, .int x3)] [] := by
  unfold j_X11_when_49 at hrun
  refine g_aload_n C (dat dt_X11_when 26 rfl) 0 rfl ?_
  refine g_iconst C (dat dt_X11_when 27 rfl) ic_0 ?_
  obtain ⟨v17, q18, hrun⟩ := bd hrun
  refine g_cVv [.int (0 : Int32)] C (dat dt_X11_when 28 rfl) ml_11_391 (w_X11_takesBack (0 : Int32) h v17  q18) kd_81 ltk_81 rfl rfl cat0 (by decide) c00 ?_
  refine g_iload_n C (dat dt_X11_when 29 rfl) 1 rfl ?_
  refine g_bipush C (dat dt_X11_when 30 rfl) bp_60 ?_
  refine g_ic_le 64 C (dat dt_X11_when 31 rfl) (by decide) (fun c19 => ?_) (fun c19 => ?_)
  · rw [if_pos c19] at hrun
    refine g_iload_n C (dat dt_X11_when 34 rfl) 1 rfl ?_
    cases hrun
    exact g_iret C K (dat dt_X11_when 35 rfl)
  · rw [if_neg c19] at hrun
    refine g_iconst C (dat dt_X11_when 32 rfl) ic_m1 ?_
    refine g_goto 65 C (dat dt_X11_when 33 rfl) (by decide) ?_
    cases hrun
    exact g_iret C K (dat dt_X11_when 35 rfl)
def f_X11_when (x1 : Int32) (x2 : Int32) (h : Hp) : Option (Int32 × Hp) :=
  (f_X11_isSitter x1 h).bind fun v1 =>
  if v1 = true then
  (f_X11_isNation x2).bind fun v4 =>
  if v4 = true then
  (f_X11_laysAside (0 : Int32) h).bind fun v7 =>
  (lp (fun s => b_X11_when_24  x1 x2 s.1 s.2) FU ((0 : Int32), v7.2)).bind fun e15 =>
  j_X11_when_49  e15.1 e15.2
  else
  some ((-1 : Int32), h)
  else
  some ((-1 : Int32), h)
set_option maxRecDepth 20000 in
theorem w_X11_when (x1 : Int32) (x2 : Int32) (h : Hp) (q : (Int32 × Hp))  (hrun : f_X11_when x1 x2 h = some q) : MetA ⟨"SteamNationsModel", "when", "(II)I"⟩ prog_13_method_95_code 4 (some .int) 145 0 0 [.ref 81, .int x1, .int x2] h (some (.int q.1)) q.2 := by
  refine metA_of (by decide) (Nat.le_of_ble_eq_true rfl) (fun X C K => ?_)
  have C : Cx X cn_11 prog_13_method_95_code 4 (some .int) 145 0 0 := C
  show G X h 0 0 0 [(0, .ref 81), (1, .int x1), (2, .int x2)] []
  unfold f_X11_when at hrun
  refine g_aload_n C (dat dt_X11_when 0 rfl) 0 rfl ?_
  refine g_iload_n C (dat dt_X11_when 1 rfl) 1 rfl ?_
  obtain ⟨v1, q2, hrun⟩ := bd hrun
  refine g_cVi [.int x1] C (dat dt_X11_when 2 rfl) ml_11_147 (w_X11_isSitter x1 h v1  q2) kd_81 ltk_81 rfl rfl cat0 (by decide) c00 ?_
  refine g_if_eq 15 C (dat dt_X11_when 3 rfl) (by decide) (fun c3 => ?_) (fun c3 => ?_)
  · rw [if_neg (b2i_z c3)] at hrun
    refine g_iconst C (dat dt_X11_when 7 rfl) ic_m1 ?_
    cases hrun
    exact g_iret C K (dat dt_X11_when 8 rfl)
  · rw [if_pos (b2i_nz c3)] at hrun
    refine g_iload_n C (dat dt_X11_when 4 rfl) 2 rfl ?_
    obtain ⟨v4, q5, hrun⟩ := bd hrun
    refine g_cSi [.int x2] C (dat dt_X11_when 5 rfl) ml_11_135 (w_X11_isNation x2 h v4  q5) rfl rfl cat0 (by decide) c00 ?_
    refine g_if_ne 17 C (dat dt_X11_when 6 rfl) (by decide) (fun c6 => ?_) (fun c6 => ?_)
    · rw [if_pos (b2i_nz c6)] at hrun
      refine g_aload_n C (dat dt_X11_when 9 rfl) 0 rfl ?_
      refine g_iconst C (dat dt_X11_when 10 rfl) ic_0 ?_
      obtain ⟨v7, q8, hrun⟩ := bd hrun
      refine g_cVv [.int (0 : Int32)] C (dat dt_X11_when 11 rfl) ml_11_385 (w_X11_laysAside (0 : Int32) h v7  q8) kd_81 ltk_81 rfl rfl cat0 (by decide) c00 ?_
      refine g_iconst C (dat dt_X11_when 12 rfl) ic_0 ?_
      refine g_istore_n (lv' := [(0, .ref 81), (1, .int x1), (2, .int x2), (3, .int (0 : Int32))]) C (dat dt_X11_when 13 rfl) (by decide) rfl ?_
      obtain ⟨e15, q16, hrun⟩ := bd hrun
      refine lp_ind (P := fun s => kp_X11_when_24  x1 x2 X s) (K := fun e => ke_X11_when_24  x1 x2 X e) (fun s q hb Ks Ke => wb_X11_when_24 C   x1 x2 s.1 s.2 q hb Ks Ke) FU ((0 : Int32), v7.2) e15 q16 ?_
      show G X e15.2 0 0 49 [(0, .ref 81), (3, .int e15.1)] []
      exact wj_X11_when_49 C    e15.1 e15.2 _ hrun K
    · rw [if_neg (b2i_z c6)] at hrun
      refine g_iconst C (dat dt_X11_when 7 rfl) ic_m1 ?_
      cases hrun
      exact g_iret C K (dat dt_X11_when 8 rfl)
/-! SteamNationsModel.one()I -/
def dl_X11_one : List (Nat × Instr × Nat) := [(0, .aload_n 0, 1), (1, .iconst 0, 1), (2, .invokevirtual 385, 3), (5, .iconst 0, 1), (6, .istore_n 1, 1), (7, .iload_n 1, 1), (8, .bipush 60, 2), (10, .if_icmp .gt 20, 3), (13, .aload_n 0, 1), (14, .invokevirtual 394, 3), (17, .ifCond .ne 13, 3), (20, .aload_n 0, 1), (21, .invokevirtual 364, 3), (24, .iinc 1 1, 3), (27, .goto (-20), 3), (30, .aload_n 0, 1), (31, .iconst 0, 1), (32, .invokevirtual 391, 3), (35, .iload_n 1, 1), (36, .bipush 60, 2), (38, .if_icmp .le 7, 3), (41, .iconst (-1), 1), (42, .goto 4, 3), (45, .iload_n 1, 1), (46, .ireturn, 1)]
set_option maxRecDepth 20000 in
theorem dt_X11_one : ∀ q ∈ dl_X11_one, decode prog_13_method_97_code q.1 = .ok q.2 := by decide +kernel
def kp_X11_one_7   (X : Xt) (s : (Int32 × Hp)) : Prop := G X s.2 0 0 7 [(0, .ref 81), (1, .int s.1)] []
def ke_X11_one_7   (X : Xt) (e : (Int32 × Hp)) : Prop := G X e.2 0 0 30 [(0, .ref 81), (1, .int e.1)] []
def b_X11_one_7   (x1 : Int32) (h : Hp) : Option ((Int32 × Hp) ⊕ (Int32 × Hp)) :=
  if (60 : Int32) < x1 then
  some (.inr ( (x1, h)))
  else
  (f_X11_areOne  h).bind fun v4 =>
  if v4 = true then
  some (.inr ( (x1, h)))
  else
  (f_X11_minutePasses  h).bind fun v7 =>
  some (.inl ((x1 + (1 : Int32)), v7.2))
set_option maxRecDepth 20000 in
theorem wb_X11_one_7 {X : Xt} (C : Cx X cn_11 prog_13_method_97_code 2 (some .int) 145 0 0)    (x1 : Int32) (h : Hp) (q : (Int32 × Hp) ⊕ (Int32 × Hp)) (hrun : b_X11_one_7   x1 h = some q) (Ks : ∀ s, q = .inl s → kp_X11_one_7   X s) (Ke : ∀ e, q = .inr e → ke_X11_one_7   X e) : kp_X11_one_7   X (x1, h) := by
  show G X h 0 0 7 [(0, .ref 81), (1, .int x1)] []
  unfold b_X11_one_7 at hrun
  refine g_iload_n C (dat dt_X11_one 5 rfl) 1 rfl ?_
  refine g_bipush C (dat dt_X11_one 6 rfl) bp_60 ?_
  refine g_ic_gt 30 C (dat dt_X11_one 7 rfl) (by decide) (fun c3 => ?_) (fun c3 => ?_)
  · rw [if_pos c3] at hrun
    cases hrun
    exact Ke ( (x1, h)) rfl
  · rw [if_neg c3] at hrun
    refine g_aload_n C (dat dt_X11_one 8 rfl) 0 rfl ?_
    obtain ⟨v4, q5, hrun⟩ := bd hrun
    refine g_cVi [] C (dat dt_X11_one 9 rfl) ml_11_394 (w_X11_areOne  h v4  q5) kd_81 ltk_81 rfl rfl cat0 (by decide) c00 ?_
    refine g_if_ne 30 C (dat dt_X11_one 10 rfl) (by decide) (fun c6 => ?_) (fun c6 => ?_)
    · rw [if_pos (b2i_nz c6)] at hrun
      cases hrun
      exact Ke ( (x1, h)) rfl
    · rw [if_neg (b2i_z c6)] at hrun
      refine g_aload_n C (dat dt_X11_one 11 rfl) 0 rfl ?_
      obtain ⟨v7, q8, hrun⟩ := bd hrun
      refine g_cVv [] C (dat dt_X11_one 12 rfl) ml_11_364 (w_X11_minutePasses  h v7  q8) kd_81 ltk_81 rfl rfl cat0 (by decide) c00 ?_
      refine g_iinc (v := (x1 + (1 : Int32))) (lv' := [(0, .ref 81), (1, .int (x1 + (1 : Int32)))]) C (dat dt_X11_one 13 rfl) 1 rfl (congrArg (fun z => x1 + z) ic_1) (by decide) rfl ?_
      refine g_goto 7 C (dat dt_X11_one 14 rfl) (by decide) ?_
      cases hrun
      exact Ks ((x1 + (1 : Int32)), v7.2) rfl
def j_X11_one_30  (x1 : Int32) (h : Hp) : Option (Int32 × Hp) :=
  (f_X11_takesBack (0 : Int32) h).bind fun v11 =>
  if x1 ≤ (60 : Int32) then
  some (x1, v11.2)
  else
  some ((-1 : Int32), v11.2)
set_option maxRecDepth 20000 in
theorem wj_X11_one_30 {X : Xt} (C : Cx X cn_11 prog_13_method_97_code 2 (some .int) 145 0 0)    (x1 : Int32) (h : Hp) (q : (Int32 × Hp)) (hrun : j_X11_one_30  x1 h = some q) (K : EndQ X 0 0 (some (.int q.1)) q.2) : G X h 0 0 30 [(0, .ref 81), (1, .int x1)] [] := by
  unfold j_X11_one_30 at hrun
  refine g_aload_n C (dat dt_X11_one 15 rfl) 0 rfl ?_
  refine g_iconst C (dat dt_X11_one 16 rfl) ic_0 ?_
  obtain ⟨v11, q12, hrun⟩ := bd hrun
  refine g_cVv [.int (0 : Int32)] C (dat dt_X11_one 17 rfl) ml_11_391 (w_X11_takesBack (0 : Int32) h v11  q12) kd_81 ltk_81 rfl rfl cat0 (by decide) c00 ?_
  refine g_iload_n C (dat dt_X11_one 18 rfl) 1 rfl ?_
  refine g_bipush C (dat dt_X11_one 19 rfl) bp_60 ?_
  refine g_ic_le 45 C (dat dt_X11_one 20 rfl) (by decide) (fun c13 => ?_) (fun c13 => ?_)
  · rw [if_pos c13] at hrun
    refine g_iload_n C (dat dt_X11_one 23 rfl) 1 rfl ?_
    cases hrun
    exact g_iret C K (dat dt_X11_one 24 rfl)
  · rw [if_neg c13] at hrun
    refine g_iconst C (dat dt_X11_one 21 rfl) ic_m1 ?_
    refine g_goto 46 C (dat dt_X11_one 22 rfl) (by decide) ?_
    cases hrun
    exact g_iret C K (dat dt_X11_one 24 rfl)
def f_X11_one  (h : Hp) : Option (Int32 × Hp) :=
  (f_X11_laysAside (0 : Int32) h).bind fun v1 =>
  (lp (fun s => b_X11_one_7   s.1 s.2) FU ((0 : Int32), v1.2)).bind fun e9 =>
  j_X11_one_30  e9.1 e9.2
set_option maxRecDepth 20000 in
theorem w_X11_one  (h : Hp) (q : (Int32 × Hp))  (hrun : f_X11_one  h = some q) : MetA ⟨"SteamNationsModel", "one", "()I"⟩ prog_13_method_97_code 2 (some .int) 145 0 0 [.ref 81] h (some (.int q.1)) q.2 := by
  refine metA_of (by decide) (Nat.le_of_ble_eq_true rfl) (fun X C K => ?_)
  have C : Cx X cn_11 prog_13_method_97_code 2 (some .int) 145 0 0 := C
  show G X h 0 0 0 [(0, .ref 81)] []
  unfold f_X11_one at hrun
  refine g_aload_n C (dat dt_X11_one 0 rfl) 0 rfl ?_
  refine g_iconst C (dat dt_X11_one 1 rfl) ic_0 ?_
  obtain ⟨v1, q2, hrun⟩ := bd hrun
  refine g_cVv [.int (0 : Int32)] C (dat dt_X11_one 2 rfl) ml_11_385 (w_X11_laysAside (0 : Int32) h v1  q2) kd_81 ltk_81 rfl rfl cat0 (by decide) c00 ?_
  refine g_iconst C (dat dt_X11_one 3 rfl) ic_0 ?_
  refine g_istore_n (lv' := [(0, .ref 81), (1, .int (0 : Int32))]) C (dat dt_X11_one 4 rfl) (by decide) rfl ?_
  obtain ⟨e9, q10, hrun⟩ := bd hrun
  refine lp_ind (P := fun s => kp_X11_one_7   X s) (K := fun e => ke_X11_one_7   X e) (fun s q hb Ks Ke => wb_X11_one_7 C    s.1 s.2 q hb Ks Ke) FU ((0 : Int32), v1.2) e9 q10 ?_
  show G X e9.2 0 0 30 [(0, .ref 81), (1, .int e9.1)] []
  exact wj_X11_one_30 C    e9.1 e9.2 _ hrun K
/-! SteamNationsModel.laysPleased(I)I -/
def dl_X11_laysPleased : List (Nat × Instr × Nat) := [(0, .aload_n 0, 1), (1, .invokevirtual 406, 3), (4, .aload_n 0, 1), (5, .iconst 0, 1), (6, .invokevirtual 385, 3), (9, .iconst (-1), 1), (10, .istore_n 2, 1), (11, .iconst 0, 1), (12, .istore_n 3, 1), (13, .iload_n 3, 1), (14, .aload_n 0, 1), (15, .getfield 400, 3), (18, .if_icmp .ge 45, 3), (21, .aload_n 0, 1), (22, .iload_n 3, 1), (23, .invokevirtual 409, 3), (26, .aload_n 0, 1), (27, .iload_n 1, 1), (28, .invokevirtual 388, 3), (31, .aload_n 0, 1), (32, .getfield 81, 3), (35, .iload_n 3, 1), (36, .aload_n 0, 1), (37, .invokevirtual 336, 3), (40, .iastore, 1), (41, .iload_n 2, 1), (42, .aload_n 0, 1), (43, .getfield 81, 3), (46, .iload_n 3, 1), (47, .iaload, 1), (48, .invokestatic 412, 3), (51, .istore_n 2, 1), (52, .aload_n 0, 1), (53, .iconst 0, 1), (54, .invokevirtual 391, 3), (57, .iinc 3 1, 3), (60, .goto (-47), 3), (63, .iload_n 2, 1), (64, .ireturn, 1)]
set_option maxRecDepth 20000 in
theorem dt_X11_laysPleased : ∀ q ∈ dl_X11_laysPleased, decode prog_13_method_101_code q.1 = .ok q.2 := by decide +kernel
def kp_X11_laysPleased_13  (x1 : Int32) (X : Xt) (s : (Int32 × Int32 × Hp)) : Prop := G X s.2.2 0 0 13 [(0, .ref 81), (1, .int x1), (2, .int s.1), (3, .int s.2.1)] []
def ke_X11_laysPleased_13  (x1 : Int32) (X : Xt) (e : (Int32 × Hp)) : Prop := G X e.2 0 0 63 [(2, .int e.1)] []
def b_X11_laysPleased_13  (x1 : Int32) (x2 : Int32) (x3 : Int32) (h : Hp) : Option ((Int32 × Int32 × Hp) ⊕ (Int32 × Hp)) :=
  if (fI h 81 36) ≤ x3 then
  some (.inr ( (x2, h)))
  else
  (f_X11_seatsAll x3 h).bind fun v6 =>
  (f_X11_passMinutes x1 v6.2).bind fun v8 =>
  (f_X11_pleasedMany  v8.2).bind fun v10 =>
  (inb x3 720).bind fun j12 =>
  (inb x3 720).bind fun j14 =>
  (f_X11_greater x2 (aI (sA v8.2 99 j12 v10) 99 j14)).bind fun v16 =>
  (f_X11_takesBack (0 : Int32) (sA v8.2 99 j12 v10)).bind fun v18 =>
  some (.inl (v16, (x3 + (1 : Int32)), v18.2))
set_option maxRecDepth 20000 in
theorem wb_X11_laysPleased_13 {X : Xt} (C : Cx X cn_11 prog_13_method_101_code 4 (some .int) 146 0 0)   (x1 : Int32) (x2 : Int32) (x3 : Int32) (h : Hp) (q : (Int32 × Int32 × Hp) ⊕ (Int32 × Hp)) (hrun : b_X11_laysPleased_13  x1 x2 x3 h = some q) (Ks : ∀ s, q = .inl s → kp_X11_laysPleased_13  x1 X s) (Ke : ∀ e, q = .inr e → ke_X11_laysPleased_13  x1 X e) : kp_X11_laysPleased_13  x1 X (x2, x3, h) := by
  show G X h 0 0 13 [(0, .ref 81), (1, .int x1), (2, .int x2), (3, .int x3)] []
  unfold b_X11_laysPleased_13 at hrun
  refine g_iload_n C (dat dt_X11_laysPleased 9 rfl) 3 rfl ?_
  refine g_aload_n C (dat dt_X11_laysPleased 10 rfl) 0 rfl ?_
  refine g_getI C (dat dt_X11_laysPleased 11 rfl) fl_11_400 kd_81 rfl ltk_81 ?_
  refine g_ic_ge 63 C (dat dt_X11_laysPleased 12 rfl) (by decide) (fun c5 => ?_) (fun c5 => ?_)
  · rw [if_pos c5] at hrun
    refine g_sub [2] (lv' := [(2, .int x2)]) rfl ?_
    cases hrun
    exact Ke ( (x2, h)) rfl
  · rw [if_neg c5] at hrun
    refine g_aload_n C (dat dt_X11_laysPleased 13 rfl) 0 rfl ?_
    refine g_iload_n C (dat dt_X11_laysPleased 14 rfl) 3 rfl ?_
    obtain ⟨v6, q7, hrun⟩ := bd hrun
    refine g_cVv [.int x3] C (dat dt_X11_laysPleased 15 rfl) ml_11_409 (w_X11_seatsAll x3 h v6  q7) kd_81 ltk_81 rfl rfl cat0 (by decide) c00 ?_
    refine g_aload_n C (dat dt_X11_laysPleased 16 rfl) 0 rfl ?_
    refine g_iload_n C (dat dt_X11_laysPleased 17 rfl) 1 rfl ?_
    obtain ⟨v8, q9, hrun⟩ := bd hrun
    refine g_cVv [.int x1] C (dat dt_X11_laysPleased 18 rfl) ml_11_388 (w_X11_passMinutes x1 v6.2 v8  q9) kd_81 ltk_81 rfl rfl cat0 (by decide) c00 ?_
    refine g_aload_n C (dat dt_X11_laysPleased 19 rfl) 0 rfl ?_
    refine g_getR C (dat dt_X11_laysPleased 20 rfl) fl_11_81 kd_81 rfl ltk_81 ?_
    refine g_iload_n C (dat dt_X11_laysPleased 21 rfl) 3 rfl ?_
    refine g_aload_n C (dat dt_X11_laysPleased 22 rfl) 0 rfl ?_
    obtain ⟨v10, q11, hrun⟩ := bd hrun
    refine g_cVi [] C (dat dt_X11_laysPleased 23 rfl) ml_11_336 (w_X11_pleasedMany  v8.2 v10  q11) kd_81 ltk_81 rfl rfl (Nat.le_of_ble_eq_true rfl) (by decide) c00 ?_
    obtain ⟨j12, q13, hrun⟩ := bd hrun
    refine g_iast (j := j12) C (dat dt_X11_laysPleased 24 rfl) kd_99 ltk_99 q13  ?_
    refine g_iload_n C (dat dt_X11_laysPleased 25 rfl) 2 rfl ?_
    refine g_aload_n C (dat dt_X11_laysPleased 26 rfl) 0 rfl ?_
    refine g_getR C (dat dt_X11_laysPleased 27 rfl) fl_11_81 kd_81 rfl ltk_81 ?_
    refine g_iload_n C (dat dt_X11_laysPleased 28 rfl) 3 rfl ?_
    obtain ⟨j14, q15, hrun⟩ := bd hrun
    refine g_iald C (dat dt_X11_laysPleased 29 rfl) kd_99 ltk_99 q15 ?_
    obtain ⟨v16, q17, hrun⟩ := bd hrun
    refine g_cSi [.int x2, .int (aI (sA v8.2 99 j12 v10) 99 j14)] C (dat dt_X11_laysPleased 30 rfl) ml_11_412 (w_X11_greater x2 (aI (sA v8.2 99 j12 v10) 99 j14) (sA v8.2 99 j12 v10) v16  q17) rfl rfl cat0 (by decide) c00 ?_
    refine g_istore_n (lv' := [(0, .ref 81), (1, .int x1), (2, .int v16), (3, .int x3)]) C (dat dt_X11_laysPleased 31 rfl) (by decide) rfl ?_
    refine g_aload_n C (dat dt_X11_laysPleased 32 rfl) 0 rfl ?_
    refine g_iconst C (dat dt_X11_laysPleased 33 rfl) ic_0 ?_
    obtain ⟨v18, q19, hrun⟩ := bd hrun
    refine g_cVv [.int (0 : Int32)] C (dat dt_X11_laysPleased 34 rfl) ml_11_391 (w_X11_takesBack (0 : Int32) (sA v8.2 99 j12 v10) v18  q19) kd_81 ltk_81 rfl rfl cat0 (by decide) c00 ?_
    refine g_iinc (v := (x3 + (1 : Int32))) (lv' := [(0, .ref 81), (1, .int x1), (2, .int v16), (3, .int (x3 + (1 : Int32)))]) C (dat dt_X11_laysPleased 35 rfl) 3 rfl (congrArg (fun z => x3 + z) ic_1) (by decide) rfl ?_
    refine g_goto 13 C (dat dt_X11_laysPleased 36 rfl) (by decide) ?_
    cases hrun
    exact Ks (v16, (x3 + (1 : Int32)), v18.2) rfl
def f_X11_laysPleased (x1 : Int32) (h : Hp) : Option (Int32 × Hp) :=
  (f_X11_laysHolders  h).bind fun v1 =>
  (f_X11_laysAside (0 : Int32) v1.2).bind fun v3 =>
  (lp (fun s => b_X11_laysPleased_13  x1 s.1 s.2.1 s.2.2) FU ((-1 : Int32), (0 : Int32), v3.2)).bind fun e20 =>
  some (e20.1, e20.2)
set_option maxRecDepth 20000 in
theorem w_X11_laysPleased (x1 : Int32) (h : Hp) (q : (Int32 × Hp))  (hrun : f_X11_laysPleased x1 h = some q) : MetA ⟨"SteamNationsModel", "laysPleased", "(I)I"⟩ prog_13_method_101_code 4 (some .int) 146 0 0 [.ref 81, .int x1] h (some (.int q.1)) q.2 := by
  refine metA_of (by decide) (Nat.le_of_ble_eq_true rfl) (fun X C K => ?_)
  have C : Cx X cn_11 prog_13_method_101_code 4 (some .int) 146 0 0 := C
  show G X h 0 0 0 [(0, .ref 81), (1, .int x1)] []
  unfold f_X11_laysPleased at hrun
  refine g_aload_n C (dat dt_X11_laysPleased 0 rfl) 0 rfl ?_
  obtain ⟨v1, q2, hrun⟩ := bd hrun
  refine g_cVv [] C (dat dt_X11_laysPleased 1 rfl) ml_11_406 (w_X11_laysHolders  h v1  q2) kd_81 ltk_81 rfl rfl cat0 (by decide) c00 ?_
  refine g_aload_n C (dat dt_X11_laysPleased 2 rfl) 0 rfl ?_
  refine g_iconst C (dat dt_X11_laysPleased 3 rfl) ic_0 ?_
  obtain ⟨v3, q4, hrun⟩ := bd hrun
  refine g_cVv [.int (0 : Int32)] C (dat dt_X11_laysPleased 4 rfl) ml_11_385 (w_X11_laysAside (0 : Int32) v1.2 v3  q4) kd_81 ltk_81 rfl rfl cat0 (by decide) c00 ?_
  refine g_iconst C (dat dt_X11_laysPleased 5 rfl) ic_m1 ?_
  refine g_istore_n (lv' := [(0, .ref 81), (1, .int x1), (2, .int (-1 : Int32))]) C (dat dt_X11_laysPleased 6 rfl) (by decide) rfl ?_
  refine g_iconst C (dat dt_X11_laysPleased 7 rfl) ic_0 ?_
  refine g_istore_n (lv' := [(0, .ref 81), (1, .int x1), (2, .int (-1 : Int32)), (3, .int (0 : Int32))]) C (dat dt_X11_laysPleased 8 rfl) (by decide) rfl ?_
  obtain ⟨e20, q21, hrun⟩ := bd hrun
  refine lp_ind (P := fun s => kp_X11_laysPleased_13  x1 X s) (K := fun e => ke_X11_laysPleased_13  x1 X e) (fun s q hb Ks Ke => wb_X11_laysPleased_13 C   x1 s.1 s.2.1 s.2.2 q hb Ks Ke) FU ((-1 : Int32), (0 : Int32), v3.2) e20 q21 ?_
  show G X e20.2 0 0 63 [(2, .int e20.1)] []
  refine g_iload_n C (dat dt_X11_laysPleased 37 rfl) 0 rfl ?_
  cases hrun
  exact g_iret C K (dat dt_X11_laysPleased 38 rfl)
/-! SteamNationsModel.pleased(II)I -/
def dl_X11_pleased : List (Nat × Instr × Nat) := [(0, .iload_n 1, 1), (1, .iconst 0, 1), (2, .bipush 9, 2), (4, .invokestatic 18, 3), (7, .ifCond .eq 15, 3), (10, .iload_n 2, 1), (11, .iconst 0, 1), (12, .aload_n 0, 1), (13, .invokevirtual 127, 3), (16, .invokestatic 18, 3), (19, .ifCond .ne 5, 3), (22, .iconst (-1), 1), (23, .ireturn, 1), (24, .aload_n 0, 1), (25, .iload_n 1, 1), (26, .invokevirtual 415, 3), (29, .istore_n 3, 1), (30, .iload_n 2, 1), (31, .ifCond .ne 5, 3), (34, .iload_n 3, 1), (35, .ireturn, 1), (36, .iconst 0, 1), (37, .istore 4, 2), (39, .aload_n 0, 1), (40, .getfield 81, 3), (43, .iload 4, 2), (45, .iaload, 1), (46, .iload_n 3, 1), (47, .if_icmp .eq 9, 3), (50, .iinc 4 1, 3), (53, .goto (-14), 3), (56, .aload_n 0, 1), (57, .iload 4, 2), (59, .invokevirtual 409, 3), (62, .aload_n 0, 1), (63, .iload_n 2, 1), (64, .iconst 1, 1), (65, .isub, 1), (66, .invokevirtual 150, 3), (69, .istore 5, 2), (71, .aload_n 0, 1), (72, .iconst 0, 1), (73, .invokevirtual 391, 3), (76, .iload 5, 2), (78, .ireturn, 1)]
set_option maxRecDepth 20000 in
theorem dt_X11_pleased : ∀ q ∈ dl_X11_pleased, decode prog_13_method_102_code q.1 = .ok q.2 := by decide +kernel
def kp_X11_pleased_39  (x2 : Int32) (x3 : Int32) (h : Hp) (X : Xt) (s : Int32) : Prop := G X h 0 0 39 [(0, .ref 81), (2, .int x2), (3, .int x3), (4, .int s)] []
def ke_X11_pleased_39  (x2 : Int32) (x3 : Int32) (h : Hp) (X : Xt) (e : Int32) : Prop := G X h 0 0 56 [(0, .ref 81), (2, .int x2), (4, .int e)] []
def b_X11_pleased_39  (x2 : Int32) (x3 : Int32) (x4 : Int32) (h : Hp) : Option (Int32 ⊕ Int32) :=
  (inb x4 720).bind fun j12 =>
  if (aI h 99 j12) = x3 then
  some (.inr ( x4))
  else
  some (.inl (x4 + (1 : Int32)))
set_option maxRecDepth 20000 in
theorem wb_X11_pleased_39 {X : Xt} (C : Cx X cn_11 prog_13_method_102_code 6 (some .int) 147 0 0)   (x2 : Int32) (x3 : Int32) (x4 : Int32) (h : Hp) (q : Int32 ⊕ Int32) (hrun : b_X11_pleased_39  x2 x3 x4 h = some q) (Ks : ∀ s, q = .inl s → kp_X11_pleased_39  x2 x3 h X s) (Ke : ∀ e, q = .inr e → ke_X11_pleased_39  x2 x3 h X e) : kp_X11_pleased_39  x2 x3 h X x4 := by
  show G X h 0 0 39 [(0, .ref 81), (2, .int x2), (3, .int x3), (4, .int x4)] []
  unfold b_X11_pleased_39 at hrun
  refine g_aload_n C (dat dt_X11_pleased 23 rfl) 0 rfl ?_
  refine g_getR C (dat dt_X11_pleased 24 rfl) fl_11_81 kd_81 rfl ltk_81 ?_
  refine g_iload C (dat dt_X11_pleased 25 rfl) 3 rfl ?_
  obtain ⟨j12, q13, hrun⟩ := bd hrun
  refine g_iald C (dat dt_X11_pleased 26 rfl) kd_99 ltk_99 q13 ?_
  refine g_iload_n C (dat dt_X11_pleased 27 rfl) 2 rfl ?_
  refine g_ic_eq 56 C (dat dt_X11_pleased 28 rfl) (by decide) (fun c14 => ?_) (fun c14 => ?_)
  · rw [if_pos c14] at hrun
    refine g_sub [0, 1, 3] (lv' := [(0, .ref 81), (2, .int x2), (4, .int x4)]) rfl ?_
    cases hrun
    exact Ke ( x4) rfl
  · rw [if_neg c14] at hrun
    refine g_iinc (v := (x4 + (1 : Int32))) (lv' := [(0, .ref 81), (2, .int x2), (3, .int x3), (4, .int (x4 + (1 : Int32)))]) C (dat dt_X11_pleased 29 rfl) 3 rfl (congrArg (fun z => x4 + z) ic_1) (by decide) rfl ?_
    refine g_goto 39 C (dat dt_X11_pleased 30 rfl) (by decide) ?_
    cases hrun
    exact Ks (x4 + (1 : Int32)) rfl
def f_X11_pleased (x1 : Int32) (x2 : Int32) (h : Hp) : Option (Int32 × Hp) :=
  (f_X11_lies x1 (0 : Int32) (9 : Int32)).bind fun v1 =>
  if v1 = true then
  (f_X11_many  h).bind fun v4 =>
  (f_X11_lies x2 (0 : Int32) v4).bind fun v6 =>
  if v6 = true then
  (f_X11_laysPleased x1 h).bind fun v9 =>
  if x2 = 0 then
  some (v9.1, v9.2)
  else
  (lp (fun s => b_X11_pleased_39  x2 v9.1 s v9.2) FU (0 : Int32)).bind fun e15 =>
  (f_X11_seatsAll e15 v9.2).bind fun v17 =>
  (f_X11_seatOf (x2 - (1 : Int32)) v17.2).bind fun v19 =>
  (f_X11_takesBack (0 : Int32) v17.2).bind fun v21 =>
  some (v19, v21.2)
  else
  some ((-1 : Int32), h)
  else
  some ((-1 : Int32), h)
set_option maxRecDepth 20000 in
theorem w_X11_pleased (x1 : Int32) (x2 : Int32) (h : Hp) (q : (Int32 × Hp))  (hrun : f_X11_pleased x1 x2 h = some q) : MetA ⟨"SteamNationsModel", "pleased", "(II)I"⟩ prog_13_method_102_code 6 (some .int) 147 0 0 [.ref 81, .int x1, .int x2] h (some (.int q.1)) q.2 := by
  refine metA_of (by decide) (Nat.le_of_ble_eq_true rfl) (fun X C K => ?_)
  have C : Cx X cn_11 prog_13_method_102_code 6 (some .int) 147 0 0 := C
  show G X h 0 0 0 [(0, .ref 81), (1, .int x1), (2, .int x2)] []
  unfold f_X11_pleased at hrun
  refine g_iload_n C (dat dt_X11_pleased 0 rfl) 1 rfl ?_
  refine g_iconst C (dat dt_X11_pleased 1 rfl) ic_0 ?_
  refine g_bipush C (dat dt_X11_pleased 2 rfl) bp_9 ?_
  obtain ⟨v1, q2, hrun⟩ := bd hrun
  refine g_cSi [.int x1, .int (0 : Int32), .int (9 : Int32)] C (dat dt_X11_pleased 3 rfl) ml_11_18 (w_X11_lies x1 (0 : Int32) (9 : Int32) h v1  q2) rfl rfl cat0 (by decide) c00 ?_
  refine g_if_eq 22 C (dat dt_X11_pleased 4 rfl) (by decide) (fun c3 => ?_) (fun c3 => ?_)
  · rw [if_neg (b2i_z c3)] at hrun
    refine g_iconst C (dat dt_X11_pleased 11 rfl) ic_m1 ?_
    cases hrun
    exact g_iret C K (dat dt_X11_pleased 12 rfl)
  · rw [if_pos (b2i_nz c3)] at hrun
    refine g_iload_n C (dat dt_X11_pleased 5 rfl) 2 rfl ?_
    refine g_iconst C (dat dt_X11_pleased 6 rfl) ic_0 ?_
    refine g_aload_n C (dat dt_X11_pleased 7 rfl) 0 rfl ?_
    obtain ⟨v4, q5, hrun⟩ := bd hrun
    refine g_cVi [] C (dat dt_X11_pleased 8 rfl) ml_11_127 (w_X11_many  h v4  q5) kd_81 ltk_81 rfl rfl (Nat.le_of_ble_eq_true rfl) (by decide) c00 ?_
    obtain ⟨v6, q7, hrun⟩ := bd hrun
    refine g_cSi [.int x2, .int (0 : Int32), .int v4] C (dat dt_X11_pleased 9 rfl) ml_11_18 (w_X11_lies x2 (0 : Int32) v4 h v6  q7) rfl rfl cat0 (by decide) c00 ?_
    refine g_if_ne 24 C (dat dt_X11_pleased 10 rfl) (by decide) (fun c8 => ?_) (fun c8 => ?_)
    · rw [if_pos (b2i_nz c8)] at hrun
      refine g_aload_n C (dat dt_X11_pleased 13 rfl) 0 rfl ?_
      refine g_iload_n C (dat dt_X11_pleased 14 rfl) 1 rfl ?_
      obtain ⟨v9, q10, hrun⟩ := bd hrun
      refine g_cVi [.int x1] C (dat dt_X11_pleased 15 rfl) ml_11_415 (w_X11_laysPleased x1 h v9  q10) kd_81 ltk_81 rfl rfl cat0 (by decide) c00 ?_
      refine g_istore_n (lv' := [(0, .ref 81), (1, .int x1), (2, .int x2), (3, .int v9.1)]) C (dat dt_X11_pleased 16 rfl) (by decide) rfl ?_
      refine g_iload_n C (dat dt_X11_pleased 17 rfl) 2 rfl ?_
      refine g_if_ne 36 C (dat dt_X11_pleased 18 rfl) (by decide) (fun c11 => ?_) (fun c11 => ?_)
      · rw [if_neg c11] at hrun
        refine g_iconst C (dat dt_X11_pleased 21 rfl) ic_0 ?_
        refine g_istore (lv' := [(0, .ref 81), (1, .int x1), (2, .int x2), (3, .int v9.1), (4, .int (0 : Int32))]) C (dat dt_X11_pleased 22 rfl) (by decide) rfl ?_
        refine g_sub [0, 2, 3, 4] (lv' := [(0, .ref 81), (2, .int x2), (3, .int v9.1), (4, .int (0 : Int32))]) rfl ?_
        obtain ⟨e15, q16, hrun⟩ := bd hrun
        refine lp_ind (P := fun s => kp_X11_pleased_39  x2 v9.1 v9.2 X s) (K := fun e => ke_X11_pleased_39  x2 v9.1 v9.2 X e) (fun s q hb Ks Ke => wb_X11_pleased_39 C   x2 v9.1 s v9.2 q hb Ks Ke) FU (0 : Int32) e15 q16 ?_
        show G X v9.2 0 0 56 [(0, .ref 81), (2, .int x2), (4, .int e15)] []
        refine g_aload_n C (dat dt_X11_pleased 31 rfl) 0 rfl ?_
        refine g_iload C (dat dt_X11_pleased 32 rfl) 2 rfl ?_
        obtain ⟨v17, q18, hrun⟩ := bd hrun
        refine g_cVv [.int e15] C (dat dt_X11_pleased 33 rfl) ml_11_409 (w_X11_seatsAll e15 v9.2 v17  q18) kd_81 ltk_81 rfl rfl cat0 (by decide) c00 ?_
        refine g_aload_n C (dat dt_X11_pleased 34 rfl) 0 rfl ?_
        refine g_iload_n C (dat dt_X11_pleased 35 rfl) 1 rfl ?_
        refine g_iconst C (dat dt_X11_pleased 36 rfl) ic_1 ?_
        refine g_isub C (dat dt_X11_pleased 37 rfl) ?_
        obtain ⟨v19, q20, hrun⟩ := bd hrun
        refine g_cVi [.int (x2 - (1 : Int32))] C (dat dt_X11_pleased 38 rfl) ml_11_150 (w_X11_seatOf (x2 - (1 : Int32)) v17.2 v19  q20) kd_81 ltk_81 rfl rfl cat0 (by decide) c00 ?_
        refine g_istore (lv' := [(0, .ref 81), (2, .int x2), (4, .int e15), (5, .int v19)]) C (dat dt_X11_pleased 39 rfl) (by decide) rfl ?_
        refine g_aload_n C (dat dt_X11_pleased 40 rfl) 0 rfl ?_
        refine g_iconst C (dat dt_X11_pleased 41 rfl) ic_0 ?_
        obtain ⟨v21, q22, hrun⟩ := bd hrun
        refine g_cVv [.int (0 : Int32)] C (dat dt_X11_pleased 42 rfl) ml_11_391 (w_X11_takesBack (0 : Int32) v17.2 v21  q22) kd_81 ltk_81 rfl rfl cat0 (by decide) c00 ?_
        refine g_iload C (dat dt_X11_pleased 43 rfl) 3 rfl ?_
        cases hrun
        exact g_iret C K (dat dt_X11_pleased 44 rfl)
      · rw [if_pos c11] at hrun
        refine g_iload_n C (dat dt_X11_pleased 19 rfl) 3 rfl ?_
        cases hrun
        exact g_iret C K (dat dt_X11_pleased 20 rfl)
    · rw [if_neg (b2i_z c8)] at hrun
      refine g_iconst C (dat dt_X11_pleased 11 rfl) ic_m1 ?_
      cases hrun
      exact g_iret C K (dat dt_X11_pleased 12 rfl)
/-! SteamNationsModel.exchanges(II)I -/
def dl_X11_exchanges : List (Nat × Instr × Nat) := [(0, .iload_n 1, 1), (1, .iconst 0, 1), (2, .bipush 9, 2), (4, .invokestatic 18, 3), (7, .ifCond .eq 12, 3), (10, .iload_n 2, 1), (11, .iconst 0, 1), (12, .iconst 1, 1), (13, .invokestatic 18, 3), (16, .ifCond .ne 5, 3), (19, .iconst (-1), 1), (20, .ireturn, 1), (21, .aload_n 0, 1), (22, .aload_n 0, 1), (23, .iload_n 1, 1), (24, .invokevirtual 415, 3), (27, .invokevirtual 427, 3), (30, .aload_n 0, 1), (31, .getfield 84, 3), (34, .aload_n 0, 1), (35, .invokevirtual 421, 3), (38, .iaload, 1), (39, .istore_n 3, 1), (40, .iload_n 3, 1), (41, .ldc 200, 2), (43, .if_icmp .ne 5, 3), (46, .iconst (-1), 1), (47, .ireturn, 1), (48, .iload_n 2, 1), (49, .ifCond .ne 7, 3), (52, .iload_n 3, 1), (53, .goto 8, 3), (56, .aload_n 0, 1), (57, .iload_n 3, 1), (58, .invokevirtual 430, 3), (61, .ireturn, 1)]
set_option maxRecDepth 20000 in
theorem dt_X11_exchanges : ∀ q ∈ dl_X11_exchanges, decode prog_13_method_107_code q.1 = .ok q.2 := by decide +kernel
def f_X11_exchanges (x1 : Int32) (x2 : Int32) (h : Hp) : Option (Int32 × Hp) :=
  (f_X11_lies x1 (0 : Int32) (9 : Int32)).bind fun v1 =>
  if v1 = true then
  (f_X11_lies x2 (0 : Int32) (1 : Int32)).bind fun v4 =>
  if v4 = true then
  (f_X11_laysPleased x1 h).bind fun v7 =>
  (f_X11_laysSwaps v7.1 v7.2).bind fun v9 =>
  (f_X11_seatingNow  v9.2).bind fun v11 =>
  (inb v11 720).bind fun j13 =>
  if (aI v9.2 100 j13) = (1000000 : Int32) then
  some ((-1 : Int32), v9.2)
  else
  if x2 = 0 then
  some ((aI v9.2 100 j13), v9.2)
  else
  (f_X11_firstTwo (aI v9.2 100 j13) v9.2).bind fun v17 =>
  some (v17.1, v17.2)
  else
  some ((-1 : Int32), h)
  else
  some ((-1 : Int32), h)
set_option maxRecDepth 20000 in
theorem w_X11_exchanges (x1 : Int32) (x2 : Int32) (h : Hp) (q : (Int32 × Hp))  (hrun : f_X11_exchanges x1 x2 h = some q) : MetA ⟨"SteamNationsModel", "exchanges", "(II)I"⟩ prog_13_method_107_code 4 (some .int) 147 0 0 [.ref 81, .int x1, .int x2] h (some (.int q.1)) q.2 := by
  refine metA_of (by decide) (Nat.le_of_ble_eq_true rfl) (fun X C K => ?_)
  have C : Cx X cn_11 prog_13_method_107_code 4 (some .int) 147 0 0 := C
  show G X h 0 0 0 [(0, .ref 81), (1, .int x1), (2, .int x2)] []
  unfold f_X11_exchanges at hrun
  refine g_iload_n C (dat dt_X11_exchanges 0 rfl) 1 rfl ?_
  refine g_iconst C (dat dt_X11_exchanges 1 rfl) ic_0 ?_
  refine g_bipush C (dat dt_X11_exchanges 2 rfl) bp_9 ?_
  obtain ⟨v1, q2, hrun⟩ := bd hrun
  refine g_cSi [.int x1, .int (0 : Int32), .int (9 : Int32)] C (dat dt_X11_exchanges 3 rfl) ml_11_18 (w_X11_lies x1 (0 : Int32) (9 : Int32) h v1  q2) rfl rfl cat0 (by decide) c00 ?_
  refine g_if_eq 19 C (dat dt_X11_exchanges 4 rfl) (by decide) (fun c3 => ?_) (fun c3 => ?_)
  · rw [if_neg (b2i_z c3)] at hrun
    refine g_iconst C (dat dt_X11_exchanges 10 rfl) ic_m1 ?_
    cases hrun
    exact g_iret C K (dat dt_X11_exchanges 11 rfl)
  · rw [if_pos (b2i_nz c3)] at hrun
    refine g_iload_n C (dat dt_X11_exchanges 5 rfl) 2 rfl ?_
    refine g_iconst C (dat dt_X11_exchanges 6 rfl) ic_0 ?_
    refine g_iconst C (dat dt_X11_exchanges 7 rfl) ic_1 ?_
    obtain ⟨v4, q5, hrun⟩ := bd hrun
    refine g_cSi [.int x2, .int (0 : Int32), .int (1 : Int32)] C (dat dt_X11_exchanges 8 rfl) ml_11_18 (w_X11_lies x2 (0 : Int32) (1 : Int32) h v4  q5) rfl rfl cat0 (by decide) c00 ?_
    refine g_if_ne 21 C (dat dt_X11_exchanges 9 rfl) (by decide) (fun c6 => ?_) (fun c6 => ?_)
    · rw [if_pos (b2i_nz c6)] at hrun
      refine g_aload_n C (dat dt_X11_exchanges 12 rfl) 0 rfl ?_
      refine g_aload_n C (dat dt_X11_exchanges 13 rfl) 0 rfl ?_
      refine g_iload_n C (dat dt_X11_exchanges 14 rfl) 1 rfl ?_
      obtain ⟨v7, q8, hrun⟩ := bd hrun
      refine g_cVi [.int x1] C (dat dt_X11_exchanges 15 rfl) ml_11_415 (w_X11_laysPleased x1 h v7  q8) kd_81 ltk_81 rfl rfl (Nat.le_of_ble_eq_true rfl) (by decide) c00 ?_
      obtain ⟨v9, q10, hrun⟩ := bd hrun
      refine g_cVv [.int v7.1] C (dat dt_X11_exchanges 16 rfl) ml_11_427 (w_X11_laysSwaps v7.1 v7.2 v9  q10) kd_81 ltk_81 rfl rfl cat0 (by decide) c00 ?_
      refine g_aload_n C (dat dt_X11_exchanges 17 rfl) 0 rfl ?_
      refine g_getR C (dat dt_X11_exchanges 18 rfl) fl_11_84 kd_81 rfl ltk_81 ?_
      refine g_aload_n C (dat dt_X11_exchanges 19 rfl) 0 rfl ?_
      obtain ⟨v11, q12, hrun⟩ := bd hrun
      refine g_cVi [] C (dat dt_X11_exchanges 20 rfl) ml_11_421 (w_X11_seatingNow  v9.2 v11  q12) kd_81 ltk_81 rfl rfl (Nat.le_of_ble_eq_true rfl) (by decide) c00 ?_
      obtain ⟨j13, q14, hrun⟩ := bd hrun
      refine g_iald C (dat dt_X11_exchanges 21 rfl) kd_100 ltk_100 q14 ?_
      refine g_istore_n (lv' := [(0, .ref 81), (1, .int x1), (2, .int x2), (3, .int (aI v9.2 100 j13))]) C (dat dt_X11_exchanges 22 rfl) (by decide) rfl ?_
      refine g_iload_n C (dat dt_X11_exchanges 23 rfl) 3 rfl ?_
      refine g_ldc C (dat dt_X11_exchanges 24 rfl) kc_11_200 ?_
      refine g_ic_ne 48 C (dat dt_X11_exchanges 25 rfl) (by decide) (fun c15 => ?_) (fun c15 => ?_)
      · rw [if_neg c15] at hrun
        refine g_iload_n C (dat dt_X11_exchanges 28 rfl) 2 rfl ?_
        refine g_if_ne 56 C (dat dt_X11_exchanges 29 rfl) (by decide) (fun c16 => ?_) (fun c16 => ?_)
        · rw [if_neg c16] at hrun
          refine g_aload_n C (dat dt_X11_exchanges 32 rfl) 0 rfl ?_
          refine g_iload_n C (dat dt_X11_exchanges 33 rfl) 3 rfl ?_
          obtain ⟨v17, q18, hrun⟩ := bd hrun
          refine g_cVi [.int (aI v9.2 100 j13)] C (dat dt_X11_exchanges 34 rfl) ml_11_430 (w_X11_firstTwo (aI v9.2 100 j13) v9.2 v17  q18) kd_81 ltk_81 rfl rfl cat0 (by decide) c00 ?_
          cases hrun
          exact g_iret C K (dat dt_X11_exchanges 35 rfl)
        · rw [if_pos c16] at hrun
          refine g_iload_n C (dat dt_X11_exchanges 30 rfl) 3 rfl ?_
          refine g_goto 61 C (dat dt_X11_exchanges 31 rfl) (by decide) ?_
          cases hrun
          exact g_iret C K (dat dt_X11_exchanges 35 rfl)
      · rw [if_pos c15] at hrun
        refine g_iconst C (dat dt_X11_exchanges 26 rfl) ic_m1 ?_
        cases hrun
        exact g_iret C K (dat dt_X11_exchanges 27 rfl)
    · rw [if_neg (b2i_z c6)] at hrun
      refine g_iconst C (dat dt_X11_exchanges 10 rfl) ic_m1 ?_
      cases hrun
      exact g_iret C K (dat dt_X11_exchanges 11 rfl)
/-! SteamNationsModel.laysSat(I)I -/
def dl_X11_laysSat : List (Nat × Instr × Nat) := [(0, .aload_n 0, 1), (1, .invokevirtual 406, 3), (4, .aload_n 0, 1), (5, .iconst 0, 1), (6, .invokevirtual 385, 3), (9, .iconst 0, 1), (10, .istore_n 2, 1), (11, .iconst 0, 1), (12, .istore_n 3, 1), (13, .iload_n 3, 1), (14, .aload_n 0, 1), (15, .getfield 400, 3), (18, .if_icmp .ge 138, 3), (21, .aload_n 0, 1), (22, .iload_n 3, 1), (23, .invokevirtual 409, 3), (26, .iconst 1, 1), (27, .istore 4, 2), (29, .iconst 0, 1), (30, .istore 5, 2), (32, .iload 5, 2), (34, .bipush 9, 2), (36, .if_icmp .gt 88, 3), (39, .iload 4, 2), (41, .ifCond .eq 16, 3), (44, .aload_n 0, 1), (45, .iload 5, 2), (47, .invokevirtual 433, 3), (50, .ifCond .eq 7, 3), (53, .iconst 1, 1), (54, .goto 4, 3), (57, .iconst 0, 1), (58, .istore 4, 2), (60, .iload 5, 2), (62, .iload_n 1, 1), (63, .if_icmp .ne 39, 3), (66, .iconst 0, 1), (67, .istore 6, 2), (69, .iload 6, 2), (71, .aload_n 0, 1), (72, .invokevirtual 127, 3), (75, .if_icmp .ge 27, 3), (78, .aload_n 0, 1), (79, .getfield 93, 3), (82, .bipush 6, 2), (84, .iload_n 3, 1), (85, .imul, 1), (86, .iload 6, 2), (88, .iadd, 1), (89, .aload_n 0, 1), (90, .iload 6, 2), (92, .invokevirtual 153, 3), (95, .iastore, 1), (96, .iinc 6 1, 3), (99, .goto (-30), 3), (102, .iload 5, 2), (104, .bipush 9, 2), (106, .if_icmp .ge 12, 3), (109, .iload 4, 2), (111, .ifCond .eq 7, 3), (114, .aload_n 0, 1), (115, .invokevirtual 364, 3), (118, .iinc 5 1, 3), (121, .goto (-89), 3), (124, .aload_n 0, 1), (125, .getfield 90, 3), (128, .iload_n 3, 1), (129, .iload 4, 2), (131, .bastore, 1), (132, .iload_n 2, 1), (133, .iload 4, 2), (135, .ifCond .eq 7, 3), (138, .iconst 1, 1), (139, .goto 4, 3), (142, .iconst 0, 1), (143, .iadd, 1), (144, .istore_n 2, 1), (145, .aload_n 0, 1), (146, .iconst 0, 1), (147, .invokevirtual 391, 3), (150, .iinc 3 1, 3), (153, .goto (-140), 3), (156, .iload_n 2, 1), (157, .ireturn, 1)]
set_option maxRecDepth 20000 in
theorem dt_X11_laysSat : ∀ q ∈ dl_X11_laysSat, decode prog_13_method_111_code q.1 = .ok q.2 := by decide +kernel
def kp_X11_laysSat_13  (x1 : Int32) (X : Xt) (s : (Int32 × Int32 × Hp)) : Prop := G X s.2.2 0 0 13 [(0, .ref 81), (1, .int x1), (2, .int s.1), (3, .int s.2.1)] []
def ke_X11_laysSat_13  (x1 : Int32) (X : Xt) (e : (Int32 × Hp)) : Prop := G X e.2 0 0 156 [(2, .int e.1)] []
def kp_X11_laysSat_32_13  (x1 : Int32) (x2 : Int32) (x3 : Int32) (X : Xt) (s : (Int32 × Int32 × Hp)) : Prop := G X s.2.2 0 0 32 [(0, .ref 81), (1, .int x1), (2, .int x2), (3, .int x3), (4, .int s.1), (5, .int s.2.1)] []
def ke_X11_laysSat_32_13  (x1 : Int32) (x2 : Int32) (x3 : Int32) (X : Xt) (e : (Int32 × Hp)) : Prop := G X e.2 0 0 124 [(0, .ref 81), (1, .int x1), (2, .int x2), (3, .int x3), (4, .int e.1)] []
def j_X11_laysSat_102_32  (x1 : Int32) (x2 : Int32) (x3 : Int32) (x4 : Int32) (x5 : Int32) (h : Hp) : Option ((Int32 × Int32 × Hp) ⊕ (Int32 × Hp)) :=
  if (9 : Int32) ≤ x5 then
  some (.inl (x4, (x5 + (1 : Int32)), h))
  else
  if x4 = 0 then
  some (.inl (x4, (x5 + (1 : Int32)), h))
  else
  (f_X11_minutePasses  h).bind fun v13 =>
  some (.inl (x4, (x5 + (1 : Int32)), v13.2))
set_option maxRecDepth 20000 in
theorem wj_X11_laysSat_102_32 {X : Xt} (C : Cx X cn_11 prog_13_method_111_code 7 (some .int) 145 0 0)    (x1 : Int32) (x2 : Int32) (x3 : Int32) (x4 : Int32) (x5 : Int32) (h : Hp) (q : (Int32 × Int32 × Hp) ⊕ (Int32 × Hp)) (hrun : j_X11_laysSat_102_32  x1 x2 x3 x4 x5 h = some q) (Ks : ∀ s, q = .inl s → kp_X11_laysSat_32_13  x1 x2 x3 X s) (Ke : ∀ e, q = .inr e → ke_X11_laysSat_32_13  x1 x2 x3 X e) : G X h 0 0 102 [(0, .ref 81), (1, .int x1), (2, .int x2), (3, .int x3), (4, .int x4), (5, .int x5)] [] := by
  unfold j_X11_laysSat_102_32 at hrun
  refine g_iload C (dat dt_X11_laysSat 55 rfl) 5 rfl ?_
  refine g_bipush C (dat dt_X11_laysSat 56 rfl) bp_9 ?_
  refine g_ic_ge 118 C (dat dt_X11_laysSat 57 rfl) (by decide) (fun c11 => ?_) (fun c11 => ?_)
  · rw [if_pos c11] at hrun
    refine g_iinc (v := (x5 + (1 : Int32))) (lv' := [(0, .ref 81), (1, .int x1), (2, .int x2), (3, .int x3), (4, .int x4), (5, .int (x5 + (1 : Int32)))]) C (dat dt_X11_laysSat 62 rfl) 5 rfl (congrArg (fun z => x5 + z) ic_1) (by decide) rfl ?_
    refine g_goto 32 C (dat dt_X11_laysSat 63 rfl) (by decide) ?_
    cases hrun
    exact Ks (x4, (x5 + (1 : Int32)), h) rfl
  · rw [if_neg c11] at hrun
    refine g_iload C (dat dt_X11_laysSat 58 rfl) 4 rfl ?_
    refine g_if_eq 118 C (dat dt_X11_laysSat 59 rfl) (by decide) (fun c12 => ?_) (fun c12 => ?_)
    · rw [if_pos c12] at hrun
      refine g_iinc (v := (x5 + (1 : Int32))) (lv' := [(0, .ref 81), (1, .int x1), (2, .int x2), (3, .int x3), (4, .int x4), (5, .int (x5 + (1 : Int32)))]) C (dat dt_X11_laysSat 62 rfl) 5 rfl (congrArg (fun z => x5 + z) ic_1) (by decide) rfl ?_
      refine g_goto 32 C (dat dt_X11_laysSat 63 rfl) (by decide) ?_
      cases hrun
      exact Ks (x4, (x5 + (1 : Int32)), h) rfl
    · rw [if_neg c12] at hrun
      refine g_aload_n C (dat dt_X11_laysSat 60 rfl) 0 rfl ?_
      obtain ⟨v13, q14, hrun⟩ := bd hrun
      refine g_cVv [] C (dat dt_X11_laysSat 61 rfl) ml_11_364 (w_X11_minutePasses  h v13  q14) kd_81 ltk_81 rfl rfl cat0 (by decide) c00 ?_
      refine g_iinc (v := (x5 + (1 : Int32))) (lv' := [(0, .ref 81), (1, .int x1), (2, .int x2), (3, .int x3), (4, .int x4), (5, .int (x5 + (1 : Int32)))]) C (dat dt_X11_laysSat 62 rfl) 5 rfl (congrArg (fun z => x5 + z) ic_1) (by decide) rfl ?_
      refine g_goto 32 C (dat dt_X11_laysSat 63 rfl) (by decide) ?_
      cases hrun
      exact Ks (x4, (x5 + (1 : Int32)), v13.2) rfl
def kp_X11_laysSat_69_32  (x1 : Int32) (x2 : Int32) (x3 : Int32) (x4 : Int32) (x5 : Int32) (X : Xt) (s : (Int32 × Hp)) : Prop := G X s.2 0 0 69 [(0, .ref 81), (1, .int x1), (2, .int x2), (3, .int x3), (4, .int x4), (5, .int x5), (6, .int s.1)] []
def ke_X11_laysSat_69_32  (x1 : Int32) (x2 : Int32) (x3 : Int32) (x4 : Int32) (x5 : Int32) (X : Xt) (e : Hp) : Prop := G X e 0 0 102 [(0, .ref 81), (1, .int x1), (2, .int x2), (3, .int x3), (4, .int x4), (5, .int x5)] []
def b_X11_laysSat_69_32  (x1 : Int32) (x2 : Int32) (x3 : Int32) (x4 : Int32) (x5 : Int32) (x6 : Int32) (h : Hp) : Option ((Int32 × Hp) ⊕ Hp) :=
  (f_X11_many  h).bind fun v15 =>
  if v15 ≤ x6 then
  some (.inr ( h))
  else
  (f_X11_nationOf x6 h).bind fun v18 =>
  (inb (((6 : Int32) * x3) + x6) 4320).bind fun j20 =>
  some (.inl ((x6 + (1 : Int32)), (sA h 103 j20 v18)))
set_option maxRecDepth 20000 in
theorem wb_X11_laysSat_69_32 {X : Xt} (C : Cx X cn_11 prog_13_method_111_code 7 (some .int) 145 0 0)   (x1 : Int32) (x2 : Int32) (x3 : Int32) (x4 : Int32) (x5 : Int32) (x6 : Int32) (h : Hp) (q : (Int32 × Hp) ⊕ Hp) (hrun : b_X11_laysSat_69_32  x1 x2 x3 x4 x5 x6 h = some q) (Ks : ∀ s, q = .inl s → kp_X11_laysSat_69_32  x1 x2 x3 x4 x5 X s) (Ke : ∀ e, q = .inr e → ke_X11_laysSat_69_32  x1 x2 x3 x4 x5 X e) : kp_X11_laysSat_69_32  x1 x2 x3 x4 x5 X (x6, h) := by
  show G X h 0 0 69 [(0, .ref 81), (1, .int x1), (2, .int x2), (3, .int x3), (4, .int x4), (5, .int x5), (6, .int x6)] []
  unfold b_X11_laysSat_69_32 at hrun
  refine g_iload C (dat dt_X11_laysSat 38 rfl) 6 rfl ?_
  refine g_aload_n C (dat dt_X11_laysSat 39 rfl) 0 rfl ?_
  obtain ⟨v15, q16, hrun⟩ := bd hrun
  refine g_cVi [] C (dat dt_X11_laysSat 40 rfl) ml_11_127 (w_X11_many  h v15  q16) kd_81 ltk_81 rfl rfl (Nat.le_of_ble_eq_true rfl) (by decide) c00 ?_
  refine g_ic_ge 102 C (dat dt_X11_laysSat 41 rfl) (by decide) (fun c17 => ?_) (fun c17 => ?_)
  · rw [if_pos c17] at hrun
    refine g_sub [0, 1, 2, 3, 4, 5] (lv' := [(0, .ref 81), (1, .int x1), (2, .int x2), (3, .int x3), (4, .int x4), (5, .int x5)]) rfl ?_
    cases hrun
    exact Ke ( h) rfl
  · rw [if_neg c17] at hrun
    refine g_aload_n C (dat dt_X11_laysSat 42 rfl) 0 rfl ?_
    refine g_getR C (dat dt_X11_laysSat 43 rfl) fl_11_93 kd_81 rfl ltk_81 ?_
    refine g_bipush C (dat dt_X11_laysSat 44 rfl) bp_6 ?_
    refine g_iload_n C (dat dt_X11_laysSat 45 rfl) 3 rfl ?_
    refine g_imul C (dat dt_X11_laysSat 46 rfl) ?_
    refine g_iload C (dat dt_X11_laysSat 47 rfl) 6 rfl ?_
    refine g_iadd C (dat dt_X11_laysSat 48 rfl) ?_
    refine g_aload_n C (dat dt_X11_laysSat 49 rfl) 0 rfl ?_
    refine g_iload C (dat dt_X11_laysSat 50 rfl) 6 rfl ?_
    obtain ⟨v18, q19, hrun⟩ := bd hrun
    refine g_cVi [.int x6] C (dat dt_X11_laysSat 51 rfl) ml_11_153 (w_X11_nationOf x6 h v18  q19) kd_81 ltk_81 rfl rfl (Nat.le_of_ble_eq_true rfl) (by decide) c00 ?_
    obtain ⟨j20, q21, hrun⟩ := bd hrun
    refine g_iast (j := j20) C (dat dt_X11_laysSat 52 rfl) kd_103 ltk_103 q21  ?_
    refine g_iinc (v := (x6 + (1 : Int32))) (lv' := [(0, .ref 81), (1, .int x1), (2, .int x2), (3, .int x3), (4, .int x4), (5, .int x5), (6, .int (x6 + (1 : Int32)))]) C (dat dt_X11_laysSat 53 rfl) 6 rfl (congrArg (fun z => x6 + z) ic_1) (by decide) rfl ?_
    refine g_goto 69 C (dat dt_X11_laysSat 54 rfl) (by decide) ?_
    cases hrun
    exact Ks ((x6 + (1 : Int32)), (sA h 103 j20 v18)) rfl
def j_X11_laysSat_58_32  (x1 : Int32) (x2 : Int32) (x3 : Int32) (x5 : Int32) (s0 : Int32) (h : Hp) : Option ((Int32 × Int32 × Hp) ⊕ (Int32 × Hp)) :=
  if x5 = x1 then
  (lp (fun s => b_X11_laysSat_69_32  x1 x2 x3 s0 x5 s.1 s.2) FU ((0 : Int32), h)).bind fun e22 =>
  j_X11_laysSat_102_32  x1 x2 x3 s0 x5 e22
  else
  j_X11_laysSat_102_32  x1 x2 x3 s0 x5 h
set_option maxRecDepth 20000 in
theorem wj_X11_laysSat_58_32 {X : Xt} (C : Cx X cn_11 prog_13_method_111_code 7 (some .int) 145 0 0)    (x1 : Int32) (x2 : Int32) (x3 : Int32) (x5 : Int32) (s0 : Int32) (h : Hp) (q : (Int32 × Int32 × Hp) ⊕ (Int32 × Hp)) (hrun : j_X11_laysSat_58_32  x1 x2 x3 x5 s0 h = some q) (Ks : ∀ s, q = .inl s → kp_X11_laysSat_32_13  x1 x2 x3 X s) (Ke : ∀ e, q = .inr e → ke_X11_laysSat_32_13  x1 x2 x3 X e) : G X h 0 0 58 [(0, .ref 81), (1, .int x1), (2, .int x2), (3, .int x3), (5, .int x5)] [.int s0] := by
  unfold j_X11_laysSat_58_32 at hrun
  refine g_istore (lv' := [(0, .ref 81), (1, .int x1), (2, .int x2), (3, .int x3), (4, .int s0), (5, .int x5)]) C (dat dt_X11_laysSat 32 rfl) (by decide) rfl ?_
  refine g_iload C (dat dt_X11_laysSat 33 rfl) 5 rfl ?_
  refine g_iload_n C (dat dt_X11_laysSat 34 rfl) 1 rfl ?_
  refine g_ic_ne 102 C (dat dt_X11_laysSat 35 rfl) (by decide) (fun c10 => ?_) (fun c10 => ?_)
  · rw [if_neg c10] at hrun
    exact wj_X11_laysSat_102_32 C    x1 x2 x3 s0 x5 h _ hrun Ks Ke
  · rw [if_pos c10] at hrun
    refine g_iconst C (dat dt_X11_laysSat 36 rfl) ic_0 ?_
    refine g_istore (lv' := [(0, .ref 81), (1, .int x1), (2, .int x2), (3, .int x3), (4, .int s0), (5, .int x5), (6, .int (0 : Int32))]) C (dat dt_X11_laysSat 37 rfl) (by decide) rfl ?_
    obtain ⟨e22, q23, hrun⟩ := bd hrun
    refine lp_ind (P := fun s => kp_X11_laysSat_69_32  x1 x2 x3 s0 x5 X s) (K := fun e => ke_X11_laysSat_69_32  x1 x2 x3 s0 x5 X e) (fun s q hb Ks Ke => wb_X11_laysSat_69_32 C   x1 x2 x3 s0 x5 s.1 s.2 q hb Ks Ke) FU ((0 : Int32), h) e22 q23 ?_
    show G X e22 0 0 102 [(0, .ref 81), (1, .int x1), (2, .int x2), (3, .int x3), (4, .int s0), (5, .int x5)] []
    exact wj_X11_laysSat_102_32 C    x1 x2 x3 s0 x5 e22 _ hrun Ks Ke
def j_X11_laysSat_57_32  (x1 : Int32) (x2 : Int32) (x3 : Int32) (x5 : Int32) (h : Hp) : Option ((Int32 × Int32 × Hp) ⊕ (Int32 × Hp)) :=
  j_X11_laysSat_58_32  x1 x2 x3 x5 (0 : Int32) h
set_option maxRecDepth 20000 in
theorem wj_X11_laysSat_57_32 {X : Xt} (C : Cx X cn_11 prog_13_method_111_code 7 (some .int) 145 0 0)    (x1 : Int32) (x2 : Int32) (x3 : Int32) (x5 : Int32) (h : Hp) (q : (Int32 × Int32 × Hp) ⊕ (Int32 × Hp)) (hrun : j_X11_laysSat_57_32  x1 x2 x3 x5 h = some q) (Ks : ∀ s, q = .inl s → kp_X11_laysSat_32_13  x1 x2 x3 X s) (Ke : ∀ e, q = .inr e → ke_X11_laysSat_32_13  x1 x2 x3 X e) : G X h 0 0 57 [(0, .ref 81), (1, .int x1), (2, .int x2), (3, .int x3), (5, .int x5)] [] := by
  unfold j_X11_laysSat_57_32 at hrun
  refine g_iconst C (dat dt_X11_laysSat 31 rfl) ic_0 ?_
  exact wj_X11_laysSat_58_32 C    x1 x2 x3 x5 (0 : Int32) h _ hrun Ks Ke
def b_X11_laysSat_32_13  (x1 : Int32) (x2 : Int32) (x3 : Int32) (x4 : Int32) (x5 : Int32) (h : Hp) : Option ((Int32 × Int32 × Hp) ⊕ (Int32 × Hp)) :=
  if (9 : Int32) < x5 then
  some (.inr ( (x4, h)))
  else
  if x4 = 0 then
  j_X11_laysSat_57_32  x1 x2 x3 x5 h
  else
  (f_X11_isSoAt x5 h).bind fun v24 =>
  if v24 = true then
  j_X11_laysSat_58_32  x1 x2 x3 x5 (1 : Int32) h
  else
  j_X11_laysSat_57_32  x1 x2 x3 x5 h
set_option maxRecDepth 20000 in
theorem wb_X11_laysSat_32_13 {X : Xt} (C : Cx X cn_11 prog_13_method_111_code 7 (some .int) 145 0 0)   (x1 : Int32) (x2 : Int32) (x3 : Int32) (x4 : Int32) (x5 : Int32) (h : Hp) (q : (Int32 × Int32 × Hp) ⊕ (Int32 × Hp)) (hrun : b_X11_laysSat_32_13  x1 x2 x3 x4 x5 h = some q) (Ks : ∀ s, q = .inl s → kp_X11_laysSat_32_13  x1 x2 x3 X s) (Ke : ∀ e, q = .inr e → ke_X11_laysSat_32_13  x1 x2 x3 X e) : kp_X11_laysSat_32_13  x1 x2 x3 X (x4, x5, h) := by
  show G X h 0 0 32 [(0, .ref 81), (1, .int x1), (2, .int x2), (3, .int x3), (4, .int x4), (5, .int x5)] []
  unfold b_X11_laysSat_32_13 at hrun
  refine g_iload C (dat dt_X11_laysSat 20 rfl) 5 rfl ?_
  refine g_bipush C (dat dt_X11_laysSat 21 rfl) bp_9 ?_
  refine g_ic_gt 124 C (dat dt_X11_laysSat 22 rfl) (by decide) (fun c8 => ?_) (fun c8 => ?_)
  · rw [if_pos c8] at hrun
    refine g_sub [0, 1, 2, 3, 4] (lv' := [(0, .ref 81), (1, .int x1), (2, .int x2), (3, .int x3), (4, .int x4)]) rfl ?_
    cases hrun
    exact Ke ( (x4, h)) rfl
  · rw [if_neg c8] at hrun
    refine g_iload C (dat dt_X11_laysSat 23 rfl) 4 rfl ?_
    refine g_if_eq 57 C (dat dt_X11_laysSat 24 rfl) (by decide) (fun c9 => ?_) (fun c9 => ?_)
    · rw [if_pos c9] at hrun
      refine g_sub [0, 1, 2, 3, 5] (lv' := [(0, .ref 81), (1, .int x1), (2, .int x2), (3, .int x3), (5, .int x5)]) rfl ?_
      exact wj_X11_laysSat_57_32 C    x1 x2 x3 x5 h _ hrun Ks Ke
    · rw [if_neg c9] at hrun
      refine g_aload_n C (dat dt_X11_laysSat 25 rfl) 0 rfl ?_
      refine g_iload C (dat dt_X11_laysSat 26 rfl) 5 rfl ?_
      obtain ⟨v24, q25, hrun⟩ := bd hrun
      refine g_cVi [.int x5] C (dat dt_X11_laysSat 27 rfl) ml_11_433 (w_X11_isSoAt x5 h v24  q25) kd_81 ltk_81 rfl rfl cat0 (by decide) c00 ?_
      refine g_if_eq 57 C (dat dt_X11_laysSat 28 rfl) (by decide) (fun c26 => ?_) (fun c26 => ?_)
      · rw [if_neg (b2i_z c26)] at hrun
        refine g_sub [0, 1, 2, 3, 5] (lv' := [(0, .ref 81), (1, .int x1), (2, .int x2), (3, .int x3), (5, .int x5)]) rfl ?_
        exact wj_X11_laysSat_57_32 C    x1 x2 x3 x5 h _ hrun Ks Ke
      · rw [if_pos (b2i_nz c26)] at hrun
        refine g_iconst C (dat dt_X11_laysSat 29 rfl) ic_1 ?_
        refine g_goto 58 C (dat dt_X11_laysSat 30 rfl) (by decide) ?_
        refine g_sub [0, 1, 2, 3, 5] (lv' := [(0, .ref 81), (1, .int x1), (2, .int x2), (3, .int x3), (5, .int x5)]) rfl ?_
        exact wj_X11_laysSat_58_32 C    x1 x2 x3 x5 (1 : Int32) h _ hrun Ks Ke
def j_X11_laysSat_143_13  (x1 : Int32) (x3 : Int32) (s0 : Int32) (s1 : Int32) (h : Hp) : Option ((Int32 × Int32 × Hp) ⊕ (Int32 × Hp)) :=
  (f_X11_takesBack (0 : Int32) h).bind fun v34 =>
  some (.inl ((s0 + s1), (x3 + (1 : Int32)), v34.2))
set_option maxRecDepth 20000 in
theorem wj_X11_laysSat_143_13 {X : Xt} (C : Cx X cn_11 prog_13_method_111_code 7 (some .int) 145 0 0)    (x1 : Int32) (x3 : Int32) (s0 : Int32) (s1 : Int32) (h : Hp) (q : (Int32 × Int32 × Hp) ⊕ (Int32 × Hp)) (hrun : j_X11_laysSat_143_13  x1 x3 s0 s1 h = some q) (Ks : ∀ s, q = .inl s → kp_X11_laysSat_13  x1 X s) (Ke : ∀ e, q = .inr e → ke_X11_laysSat_13  x1 X e) : G X h 0 0 143 [(0, .ref 81), (1, .int x1), (3, .int x3)] [.int s1, .int s0] := by
  unfold j_X11_laysSat_143_13 at hrun
  refine g_iadd C (dat dt_X11_laysSat 75 rfl) ?_
  refine g_istore_n (lv' := [(0, .ref 81), (1, .int x1), (2, .int (s0 + s1)), (3, .int x3)]) C (dat dt_X11_laysSat 76 rfl) (by decide) rfl ?_
  refine g_aload_n C (dat dt_X11_laysSat 77 rfl) 0 rfl ?_
  refine g_iconst C (dat dt_X11_laysSat 78 rfl) ic_0 ?_
  obtain ⟨v34, q35, hrun⟩ := bd hrun
  refine g_cVv [.int (0 : Int32)] C (dat dt_X11_laysSat 79 rfl) ml_11_391 (w_X11_takesBack (0 : Int32) h v34  q35) kd_81 ltk_81 rfl rfl cat0 (by decide) c00 ?_
  refine g_iinc (v := (x3 + (1 : Int32))) (lv' := [(0, .ref 81), (1, .int x1), (2, .int (s0 + s1)), (3, .int (x3 + (1 : Int32)))]) C (dat dt_X11_laysSat 80 rfl) 3 rfl (congrArg (fun z => x3 + z) ic_1) (by decide) rfl ?_
  refine g_goto 13 C (dat dt_X11_laysSat 81 rfl) (by decide) ?_
  cases hrun
  exact Ks ((s0 + s1), (x3 + (1 : Int32)), v34.2) rfl
def b_X11_laysSat_13  (x1 : Int32) (x2 : Int32) (x3 : Int32) (h : Hp) : Option ((Int32 × Int32 × Hp) ⊕ (Int32 × Hp)) :=
  if (fI h 81 36) ≤ x3 then
  some (.inr ( (x2, h)))
  else
  (f_X11_seatsAll x3 h).bind fun v6 =>
  (lp (fun s => b_X11_laysSat_32_13  x1 x2 x3 s.1 s.2.1 s.2.2) FU ((1 : Int32), (0 : Int32), v6.2)).bind fun e27 =>
  (i2b e27.1).bind fun b29 =>
  (inb x3 720).bind fun j31 =>
  if e27.1 = 0 then
  j_X11_laysSat_143_13  x1 x3 x2 (0 : Int32) (sA e27.2 102 j31 (b2i b29))
  else
  j_X11_laysSat_143_13  x1 x3 x2 (1 : Int32) (sA e27.2 102 j31 (b2i b29))
set_option maxRecDepth 20000 in
theorem wb_X11_laysSat_13 {X : Xt} (C : Cx X cn_11 prog_13_method_111_code 7 (some .int) 145 0 0)   (x1 : Int32) (x2 : Int32) (x3 : Int32) (h : Hp) (q : (Int32 × Int32 × Hp) ⊕ (Int32 × Hp)) (hrun : b_X11_laysSat_13  x1 x2 x3 h = some q) (Ks : ∀ s, q = .inl s → kp_X11_laysSat_13  x1 X s) (Ke : ∀ e, q = .inr e → ke_X11_laysSat_13  x1 X e) : kp_X11_laysSat_13  x1 X (x2, x3, h) := by
  show G X h 0 0 13 [(0, .ref 81), (1, .int x1), (2, .int x2), (3, .int x3)] []
  unfold b_X11_laysSat_13 at hrun
  refine g_iload_n C (dat dt_X11_laysSat 9 rfl) 3 rfl ?_
  refine g_aload_n C (dat dt_X11_laysSat 10 rfl) 0 rfl ?_
  refine g_getI C (dat dt_X11_laysSat 11 rfl) fl_11_400 kd_81 rfl ltk_81 ?_
  refine g_ic_ge 156 C (dat dt_X11_laysSat 12 rfl) (by decide) (fun c5 => ?_) (fun c5 => ?_)
  · rw [if_pos c5] at hrun
    refine g_sub [2] (lv' := [(2, .int x2)]) rfl ?_
    cases hrun
    exact Ke ( (x2, h)) rfl
  · rw [if_neg c5] at hrun
    refine g_aload_n C (dat dt_X11_laysSat 13 rfl) 0 rfl ?_
    refine g_iload_n C (dat dt_X11_laysSat 14 rfl) 3 rfl ?_
    obtain ⟨v6, q7, hrun⟩ := bd hrun
    refine g_cVv [.int x3] C (dat dt_X11_laysSat 15 rfl) ml_11_409 (w_X11_seatsAll x3 h v6  q7) kd_81 ltk_81 rfl rfl cat0 (by decide) c00 ?_
    refine g_iconst C (dat dt_X11_laysSat 16 rfl) ic_1 ?_
    refine g_istore (lv' := [(0, .ref 81), (1, .int x1), (2, .int x2), (3, .int x3), (4, .int (1 : Int32))]) C (dat dt_X11_laysSat 17 rfl) (by decide) rfl ?_
    refine g_iconst C (dat dt_X11_laysSat 18 rfl) ic_0 ?_
    refine g_istore (lv' := [(0, .ref 81), (1, .int x1), (2, .int x2), (3, .int x3), (4, .int (1 : Int32)), (5, .int (0 : Int32))]) C (dat dt_X11_laysSat 19 rfl) (by decide) rfl ?_
    obtain ⟨e27, q28, hrun⟩ := bd hrun
    refine lp_ind (P := fun s => kp_X11_laysSat_32_13  x1 x2 x3 X s) (K := fun e => ke_X11_laysSat_32_13  x1 x2 x3 X e) (fun s q hb Ks Ke => wb_X11_laysSat_32_13 C   x1 x2 x3 s.1 s.2.1 s.2.2 q hb Ks Ke) FU ((1 : Int32), (0 : Int32), v6.2) e27 q28 ?_
    show G X e27.2 0 0 124 [(0, .ref 81), (1, .int x1), (2, .int x2), (3, .int x3), (4, .int e27.1)] []
    refine g_aload_n C (dat dt_X11_laysSat 64 rfl) 0 rfl ?_
    refine g_getR C (dat dt_X11_laysSat 65 rfl) fl_11_90 kd_81 rfl ltk_81 ?_
    refine g_iload_n C (dat dt_X11_laysSat 66 rfl) 3 rfl ?_
    refine g_iload C (dat dt_X11_laysSat 67 rfl) 4 rfl ?_
    obtain ⟨b29, q30, hrun⟩ := bd hrun
    obtain ⟨j31, q32, hrun⟩ := bd hrun
    refine g_zast (b := b29) (j := j31) C (dat dt_X11_laysSat 68 rfl) kd_102 ltk_102 q32 (i2b_eq q30) ?_
    refine g_iload_n C (dat dt_X11_laysSat 69 rfl) 2 rfl ?_
    refine g_iload C (dat dt_X11_laysSat 70 rfl) 4 rfl ?_
    refine g_if_eq 142 C (dat dt_X11_laysSat 71 rfl) (by decide) (fun c33 => ?_) (fun c33 => ?_)
    · rw [if_pos c33] at hrun
      refine g_iconst C (dat dt_X11_laysSat 74 rfl) ic_0 ?_
      refine g_sub [0, 1, 3] (lv' := [(0, .ref 81), (1, .int x1), (3, .int x3)]) rfl ?_
      exact wj_X11_laysSat_143_13 C    x1 x3 x2 (0 : Int32) (sA e27.2 102 j31 (b2i b29)) _ hrun Ks Ke
    · rw [if_neg c33] at hrun
      refine g_iconst C (dat dt_X11_laysSat 72 rfl) ic_1 ?_
      refine g_goto 143 C (dat dt_X11_laysSat 73 rfl) (by decide) ?_
      refine g_sub [0, 1, 3] (lv' := [(0, .ref 81), (1, .int x1), (3, .int x3)]) rfl ?_
      exact wj_X11_laysSat_143_13 C    x1 x3 x2 (1 : Int32) (sA e27.2 102 j31 (b2i b29)) _ hrun Ks Ke
def f_X11_laysSat (x1 : Int32) (h : Hp) : Option (Int32 × Hp) :=
  (f_X11_laysHolders  h).bind fun v1 =>
  (f_X11_laysAside (0 : Int32) v1.2).bind fun v3 =>
  (lp (fun s => b_X11_laysSat_13  x1 s.1 s.2.1 s.2.2) FU ((0 : Int32), (0 : Int32), v3.2)).bind fun e36 =>
  some (e36.1, e36.2)
set_option maxRecDepth 20000 in
theorem w_X11_laysSat (x1 : Int32) (h : Hp) (q : (Int32 × Hp))  (hrun : f_X11_laysSat x1 h = some q) : MetA ⟨"SteamNationsModel", "laysSat", "(I)I"⟩ prog_13_method_111_code 7 (some .int) 145 0 0 [.ref 81, .int x1] h (some (.int q.1)) q.2 := by
  refine metA_of (by decide) (Nat.le_of_ble_eq_true rfl) (fun X C K => ?_)
  have C : Cx X cn_11 prog_13_method_111_code 7 (some .int) 145 0 0 := C
  show G X h 0 0 0 [(0, .ref 81), (1, .int x1)] []
  unfold f_X11_laysSat at hrun
  refine g_aload_n C (dat dt_X11_laysSat 0 rfl) 0 rfl ?_
  obtain ⟨v1, q2, hrun⟩ := bd hrun
  refine g_cVv [] C (dat dt_X11_laysSat 1 rfl) ml_11_406 (w_X11_laysHolders  h v1  q2) kd_81 ltk_81 rfl rfl cat0 (by decide) c00 ?_
  refine g_aload_n C (dat dt_X11_laysSat 2 rfl) 0 rfl ?_
  refine g_iconst C (dat dt_X11_laysSat 3 rfl) ic_0 ?_
  obtain ⟨v3, q4, hrun⟩ := bd hrun
  refine g_cVv [.int (0 : Int32)] C (dat dt_X11_laysSat 4 rfl) ml_11_385 (w_X11_laysAside (0 : Int32) v1.2 v3  q4) kd_81 ltk_81 rfl rfl cat0 (by decide) c00 ?_
  refine g_iconst C (dat dt_X11_laysSat 5 rfl) ic_0 ?_
  refine g_istore_n (lv' := [(0, .ref 81), (1, .int x1), (2, .int (0 : Int32))]) C (dat dt_X11_laysSat 6 rfl) (by decide) rfl ?_
  refine g_iconst C (dat dt_X11_laysSat 7 rfl) ic_0 ?_
  refine g_istore_n (lv' := [(0, .ref 81), (1, .int x1), (2, .int (0 : Int32)), (3, .int (0 : Int32))]) C (dat dt_X11_laysSat 8 rfl) (by decide) rfl ?_
  obtain ⟨e36, q37, hrun⟩ := bd hrun
  refine lp_ind (P := fun s => kp_X11_laysSat_13  x1 X s) (K := fun e => ke_X11_laysSat_13  x1 X e) (fun s q hb Ks Ke => wb_X11_laysSat_13 C   x1 s.1 s.2.1 s.2.2 q hb Ks Ke) FU ((0 : Int32), (0 : Int32), v3.2) e36 q37 ?_
  show G X e36.2 0 0 156 [(2, .int e36.1)] []
  refine g_iload_n C (dat dt_X11_laysSat 82 rfl) 0 rfl ?_
  cases hrun
  exact g_iret C K (dat dt_X11_laysSat 83 rfl)
/-! SteamNationsModel.sat(II)I -/
def dl_X11_sat : List (Nat × Instr × Nat) := [(0, .iload_n 1, 1), (1, .iconst (-1), 1), (2, .if_icmp .lt 16, 3), (5, .iload_n 1, 1), (6, .iconst (-1), 1), (7, .if_icmp .le 13, 3), (10, .aload_n 0, 1), (11, .iload_n 2, 1), (12, .invokevirtual 147, 3), (15, .ifCond .ne 5, 3), (18, .iconst (-1), 1), (19, .ireturn, 1), (20, .aload_n 0, 1), (21, .iconst 0, 1), (22, .invokevirtual 436, 3), (25, .istore_n 3, 1), (26, .iload_n 1, 1), (27, .iconst (-1), 1), (28, .if_icmp .eq 8, 3), (31, .iload_n 1, 1), (32, .iload_n 3, 1), (33, .if_icmp .lt 14, 3), (36, .iload_n 1, 1), (37, .iconst (-1), 1), (38, .if_icmp .ne 7, 3), (41, .iload_n 3, 1), (42, .goto 4, 3), (45, .iconst (-1), 1), (46, .ireturn, 1), (47, .iconst 0, 1), (48, .istore 4, 2), (50, .iload_n 1, 1), (51, .istore 5, 2), (53, .aload_n 0, 1), (54, .getfield 90, 3), (57, .iload 4, 2), (59, .baload, 1), (60, .ifCond .eq 8, 3), (63, .iload 5, 2), (65, .ifCond .le 29, 3), (68, .iload 5, 2), (70, .aload_n 0, 1), (71, .getfield 90, 3), (74, .iload 4, 2), (76, .baload, 1), (77, .ifCond .eq 7, 3), (80, .iconst 1, 1), (81, .goto 4, 3), (84, .iconst 0, 1), (85, .isub, 1), (86, .istore 5, 2), (88, .iinc 4 1, 3), (91, .goto (-38), 3), (94, .aload_n 0, 1), (95, .iload 4, 2), (97, .invokevirtual 409, 3), (100, .aload_n 0, 1), (101, .iload_n 2, 1), (102, .invokevirtual 150, 3), (105, .istore 6, 2), (107, .aload_n 0, 1), (108, .iconst 0, 1), (109, .invokevirtual 391, 3), (112, .iload 6, 2), (114, .ireturn, 1)]
set_option maxRecDepth 20000 in
theorem dt_X11_sat : ∀ q ∈ dl_X11_sat, decode prog_13_method_112_code q.1 = .ok q.2 := by decide +kernel
def j_X11_sat_36  (x1 : Int32) (x3 : Int32) (h : Hp) : Option (Int32 × Hp) :=
  if x1 = (-1 : Int32) then
  some (x3, h)
  else
  some ((-1 : Int32), h)
set_option maxRecDepth 20000 in
theorem wj_X11_sat_36 {X : Xt} (C : Cx X cn_11 prog_13_method_112_code 7 (some .int) 146 0 0)    (x1 : Int32) (x3 : Int32) (h : Hp) (q : (Int32 × Hp)) (hrun : j_X11_sat_36  x1 x3 h = some q) (K : EndQ X 0 0 (some (.int q.1)) q.2) : G X h 0 0 36 [(1, .int x1), (3, .int x3)] [] := by
  unfold j_X11_sat_36 at hrun
  refine g_iload_n C (dat dt_X11_sat 22 rfl) 0 rfl ?_
  refine g_iconst C (dat dt_X11_sat 23 rfl) ic_m1 ?_
  refine g_ic_ne 45 C (dat dt_X11_sat 24 rfl) (by decide) (fun c6 => ?_) (fun c6 => ?_)
  · rw [if_neg c6] at hrun
    refine g_iconst C (dat dt_X11_sat 27 rfl) ic_m1 ?_
    cases hrun
    exact g_iret C K (dat dt_X11_sat 28 rfl)
  · rw [if_pos c6] at hrun
    refine g_iload_n C (dat dt_X11_sat 25 rfl) 1 rfl ?_
    refine g_goto 46 C (dat dt_X11_sat 26 rfl) (by decide) ?_
    cases hrun
    exact g_iret C K (dat dt_X11_sat 28 rfl)
def kp_X11_sat_53  (x2 : Int32) (h : Hp) (X : Xt) (s : (Int32 × Int32)) : Prop := G X h 0 0 53 [(0, .ref 81), (2, .int x2), (4, .int s.1), (5, .int s.2)] []
def ke_X11_sat_53  (x2 : Int32) (h : Hp) (X : Xt) (e : Int32) : Prop := G X h 0 0 94 [(0, .ref 81), (2, .int x2), (4, .int e)] []
def j_X11_sat_85_53  (x2 : Int32) (x4 : Int32) (s0 : Int32) (s1 : Int32) (h : Hp) : Option ((Int32 × Int32) ⊕ Int32) :=
  some (.inl ((x4 + (1 : Int32)), (s0 - s1)))
set_option maxRecDepth 20000 in
theorem wj_X11_sat_85_53 {X : Xt} (C : Cx X cn_11 prog_13_method_112_code 7 (some .int) 146 0 0)    (x2 : Int32) (x4 : Int32) (s0 : Int32) (s1 : Int32) (h : Hp) (q : (Int32 × Int32) ⊕ Int32) (hrun : j_X11_sat_85_53  x2 x4 s0 s1 h = some q) (Ks : ∀ s, q = .inl s → kp_X11_sat_53  x2 h X s) (Ke : ∀ e, q = .inr e → ke_X11_sat_53  x2 h X e) : G X h 0 0 85 [(0, .ref 81), (2, .int x2), (4, .int x4)] [.int s1, .int s0] := by
  unfold j_X11_sat_85_53 at hrun
  refine g_isub C (dat dt_X11_sat 49 rfl) ?_
  refine g_istore (lv' := [(0, .ref 81), (2, .int x2), (4, .int x4), (5, .int (s0 - s1))]) C (dat dt_X11_sat 50 rfl) (by decide) rfl ?_
  refine g_iinc (v := (x4 + (1 : Int32))) (lv' := [(0, .ref 81), (2, .int x2), (4, .int (x4 + (1 : Int32))), (5, .int (s0 - s1))]) C (dat dt_X11_sat 51 rfl) 2 rfl (congrArg (fun z => x4 + z) ic_1) (by decide) rfl ?_
  refine g_goto 53 C (dat dt_X11_sat 52 rfl) (by decide) ?_
  cases hrun
  exact Ks ((x4 + (1 : Int32)), (s0 - s1)) rfl
def j_X11_sat_68_53  (x2 : Int32) (x4 : Int32) (x5 : Int32) (h : Hp) : Option ((Int32 × Int32) ⊕ Int32) :=
  (inb x4 720).bind fun j11 =>
  if (aI h 102 j11) = 0 then
  j_X11_sat_85_53  x2 x4 x5 (0 : Int32) h
  else
  j_X11_sat_85_53  x2 x4 x5 (1 : Int32) h
set_option maxRecDepth 20000 in
theorem wj_X11_sat_68_53 {X : Xt} (C : Cx X cn_11 prog_13_method_112_code 7 (some .int) 146 0 0)    (x2 : Int32) (x4 : Int32) (x5 : Int32) (h : Hp) (q : (Int32 × Int32) ⊕ Int32) (hrun : j_X11_sat_68_53  x2 x4 x5 h = some q) (Ks : ∀ s, q = .inl s → kp_X11_sat_53  x2 h X s) (Ke : ∀ e, q = .inr e → ke_X11_sat_53  x2 h X e) : G X h 0 0 68 [(0, .ref 81), (2, .int x2), (4, .int x4), (5, .int x5)] [] := by
  unfold j_X11_sat_68_53 at hrun
  refine g_iload C (dat dt_X11_sat 40 rfl) 3 rfl ?_
  refine g_aload_n C (dat dt_X11_sat 41 rfl) 0 rfl ?_
  refine g_getR C (dat dt_X11_sat 42 rfl) fl_11_90 kd_81 rfl ltk_81 ?_
  refine g_iload C (dat dt_X11_sat 43 rfl) 2 rfl ?_
  obtain ⟨j11, q12, hrun⟩ := bd hrun
  refine g_zald C (dat dt_X11_sat 44 rfl) kd_102 ltk_102 q12 ?_
  refine g_if_eq 84 C (dat dt_X11_sat 45 rfl) (by decide) (fun c13 => ?_) (fun c13 => ?_)
  · rw [if_pos c13] at hrun
    refine g_iconst C (dat dt_X11_sat 48 rfl) ic_0 ?_
    refine g_sub [0, 1, 2] (lv' := [(0, .ref 81), (2, .int x2), (4, .int x4)]) rfl ?_
    exact wj_X11_sat_85_53 C    x2 x4 x5 (0 : Int32) h _ hrun Ks Ke
  · rw [if_neg c13] at hrun
    refine g_iconst C (dat dt_X11_sat 46 rfl) ic_1 ?_
    refine g_goto 85 C (dat dt_X11_sat 47 rfl) (by decide) ?_
    refine g_sub [0, 1, 2] (lv' := [(0, .ref 81), (2, .int x2), (4, .int x4)]) rfl ?_
    exact wj_X11_sat_85_53 C    x2 x4 x5 (1 : Int32) h _ hrun Ks Ke
def b_X11_sat_53  (x2 : Int32) (x4 : Int32) (x5 : Int32) (h : Hp) : Option ((Int32 × Int32) ⊕ Int32) :=
  (inb x4 720).bind fun j8 =>
  if (aI h 102 j8) = 0 then
  j_X11_sat_68_53  x2 x4 x5 h
  else
  if x5 ≤ 0 then
  some (.inr ( x4))
  else
  j_X11_sat_68_53  x2 x4 x5 h
set_option maxRecDepth 20000 in
theorem wb_X11_sat_53 {X : Xt} (C : Cx X cn_11 prog_13_method_112_code 7 (some .int) 146 0 0)   (x2 : Int32) (x4 : Int32) (x5 : Int32) (h : Hp) (q : (Int32 × Int32) ⊕ Int32) (hrun : b_X11_sat_53  x2 x4 x5 h = some q) (Ks : ∀ s, q = .inl s → kp_X11_sat_53  x2 h X s) (Ke : ∀ e, q = .inr e → ke_X11_sat_53  x2 h X e) : kp_X11_sat_53  x2 h X (x4, x5) := by
  show G X h 0 0 53 [(0, .ref 81), (2, .int x2), (4, .int x4), (5, .int x5)] []
  unfold b_X11_sat_53 at hrun
  refine g_aload_n C (dat dt_X11_sat 33 rfl) 0 rfl ?_
  refine g_getR C (dat dt_X11_sat 34 rfl) fl_11_90 kd_81 rfl ltk_81 ?_
  refine g_iload C (dat dt_X11_sat 35 rfl) 2 rfl ?_
  obtain ⟨j8, q9, hrun⟩ := bd hrun
  refine g_zald C (dat dt_X11_sat 36 rfl) kd_102 ltk_102 q9 ?_
  refine g_if_eq 68 C (dat dt_X11_sat 37 rfl) (by decide) (fun c10 => ?_) (fun c10 => ?_)
  · rw [if_pos c10] at hrun
    exact wj_X11_sat_68_53 C    x2 x4 x5 h _ hrun Ks Ke
  · rw [if_neg c10] at hrun
    refine g_iload C (dat dt_X11_sat 38 rfl) 3 rfl ?_
    refine g_if_le 94 C (dat dt_X11_sat 39 rfl) (by decide) (fun c14 => ?_) (fun c14 => ?_)
    · rw [if_pos c14] at hrun
      refine g_sub [0, 1, 2] (lv' := [(0, .ref 81), (2, .int x2), (4, .int x4)]) rfl ?_
      cases hrun
      exact Ke ( x4) rfl
    · rw [if_neg c14] at hrun
      exact wj_X11_sat_68_53 C    x2 x4 x5 h _ hrun Ks Ke
def j_X11_sat_20  (x1 : Int32) (x2 : Int32) (h : Hp) : Option (Int32 × Hp) :=
  (f_X11_laysSat (0 : Int32) h).bind fun v3 =>
  if x1 = (-1 : Int32) then
  j_X11_sat_36  x1 v3.1 v3.2
  else
  if x1 < v3.1 then
  (lp (fun s => b_X11_sat_53  x2 s.1 s.2 v3.2) FU ((0 : Int32), x1)).bind fun e15 =>
  (f_X11_seatsAll e15 v3.2).bind fun v17 =>
  (f_X11_seatOf x2 v17.2).bind fun v19 =>
  (f_X11_takesBack (0 : Int32) v17.2).bind fun v21 =>
  some (v19, v21.2)
  else
  j_X11_sat_36  x1 v3.1 v3.2
set_option maxRecDepth 20000 in
theorem wj_X11_sat_20 {X : Xt} (C : Cx X cn_11 prog_13_method_112_code 7 (some .int) 146 0 0)    (x1 : Int32) (x2 : Int32) (h : Hp) (q : (Int32 × Hp)) (hrun : j_X11_sat_20  x1 x2 h = some q) (K : EndQ X 0 0 (some (.int q.1)) q.2) : G X h 0 0 20 [(0, .ref 81), (1, .int x1), (2, .int x2)] [] := by
  unfold j_X11_sat_20 at hrun
  refine g_aload_n C (dat dt_X11_sat 12 rfl) 0 rfl ?_
  refine g_iconst C (dat dt_X11_sat 13 rfl) ic_0 ?_
  obtain ⟨v3, q4, hrun⟩ := bd hrun
  refine g_cVi [.int (0 : Int32)] C (dat dt_X11_sat 14 rfl) ml_11_436 (w_X11_laysSat (0 : Int32) h v3  q4) kd_81 ltk_81 rfl rfl cat0 (by decide) c00 ?_
  refine g_istore_n (lv' := [(0, .ref 81), (1, .int x1), (2, .int x2), (3, .int v3.1)]) C (dat dt_X11_sat 15 rfl) (by decide) rfl ?_
  refine g_iload_n C (dat dt_X11_sat 16 rfl) 1 rfl ?_
  refine g_iconst C (dat dt_X11_sat 17 rfl) ic_m1 ?_
  refine g_ic_eq 36 C (dat dt_X11_sat 18 rfl) (by decide) (fun c5 => ?_) (fun c5 => ?_)
  · rw [if_pos c5] at hrun
    refine g_sub [1, 3] (lv' := [(1, .int x1), (3, .int v3.1)]) rfl ?_
    exact wj_X11_sat_36 C    x1 v3.1 v3.2 _ hrun K
  · rw [if_neg c5] at hrun
    refine g_iload_n C (dat dt_X11_sat 19 rfl) 1 rfl ?_
    refine g_iload_n C (dat dt_X11_sat 20 rfl) 3 rfl ?_
    refine g_ic_lt 47 C (dat dt_X11_sat 21 rfl) (by decide) (fun c7 => ?_) (fun c7 => ?_)
    · rw [if_pos c7] at hrun
      refine g_iconst C (dat dt_X11_sat 29 rfl) ic_0 ?_
      refine g_istore (lv' := [(0, .ref 81), (1, .int x1), (2, .int x2), (3, .int v3.1), (4, .int (0 : Int32))]) C (dat dt_X11_sat 30 rfl) (by decide) rfl ?_
      refine g_iload_n C (dat dt_X11_sat 31 rfl) 1 rfl ?_
      refine g_istore (lv' := [(0, .ref 81), (1, .int x1), (2, .int x2), (3, .int v3.1), (4, .int (0 : Int32)), (5, .int x1)]) C (dat dt_X11_sat 32 rfl) (by decide) rfl ?_
      refine g_sub [0, 2, 4, 5] (lv' := [(0, .ref 81), (2, .int x2), (4, .int (0 : Int32)), (5, .int x1)]) rfl ?_
      obtain ⟨e15, q16, hrun⟩ := bd hrun
      refine lp_ind (P := fun s => kp_X11_sat_53  x2 v3.2 X s) (K := fun e => ke_X11_sat_53  x2 v3.2 X e) (fun s q hb Ks Ke => wb_X11_sat_53 C   x2 s.1 s.2 v3.2 q hb Ks Ke) FU ((0 : Int32), x1) e15 q16 ?_
      show G X v3.2 0 0 94 [(0, .ref 81), (2, .int x2), (4, .int e15)] []
      refine g_aload_n C (dat dt_X11_sat 53 rfl) 0 rfl ?_
      refine g_iload C (dat dt_X11_sat 54 rfl) 2 rfl ?_
      obtain ⟨v17, q18, hrun⟩ := bd hrun
      refine g_cVv [.int e15] C (dat dt_X11_sat 55 rfl) ml_11_409 (w_X11_seatsAll e15 v3.2 v17  q18) kd_81 ltk_81 rfl rfl cat0 (by decide) c00 ?_
      refine g_aload_n C (dat dt_X11_sat 56 rfl) 0 rfl ?_
      refine g_iload_n C (dat dt_X11_sat 57 rfl) 1 rfl ?_
      obtain ⟨v19, q20, hrun⟩ := bd hrun
      refine g_cVi [.int x2] C (dat dt_X11_sat 58 rfl) ml_11_150 (w_X11_seatOf x2 v17.2 v19  q20) kd_81 ltk_81 rfl rfl cat0 (by decide) c00 ?_
      refine g_istore (lv' := [(0, .ref 81), (2, .int x2), (4, .int e15), (6, .int v19)]) C (dat dt_X11_sat 59 rfl) (by decide) rfl ?_
      refine g_aload_n C (dat dt_X11_sat 60 rfl) 0 rfl ?_
      refine g_iconst C (dat dt_X11_sat 61 rfl) ic_0 ?_
      obtain ⟨v21, q22, hrun⟩ := bd hrun
      refine g_cVv [.int (0 : Int32)] C (dat dt_X11_sat 62 rfl) ml_11_391 (w_X11_takesBack (0 : Int32) v17.2 v21  q22) kd_81 ltk_81 rfl rfl cat0 (by decide) c00 ?_
      refine g_iload C (dat dt_X11_sat 63 rfl) 3 rfl ?_
      cases hrun
      exact g_iret C K (dat dt_X11_sat 64 rfl)
    · rw [if_neg c7] at hrun
      refine g_sub [1, 3] (lv' := [(1, .int x1), (3, .int v3.1)]) rfl ?_
      exact wj_X11_sat_36 C    x1 v3.1 v3.2 _ hrun K
def f_X11_sat (x1 : Int32) (x2 : Int32) (h : Hp) : Option (Int32 × Hp) :=
  if x1 < (-1 : Int32) then
  some ((-1 : Int32), h)
  else
  if x1 ≤ (-1 : Int32) then
  j_X11_sat_20  x1 x2 h
  else
  (f_X11_isSitter x2 h).bind fun v23 =>
  if v23 = true then
  j_X11_sat_20  x1 x2 h
  else
  some ((-1 : Int32), h)
set_option maxRecDepth 20000 in
theorem w_X11_sat (x1 : Int32) (x2 : Int32) (h : Hp) (q : (Int32 × Hp))  (hrun : f_X11_sat x1 x2 h = some q) : MetA ⟨"SteamNationsModel", "sat", "(II)I"⟩ prog_13_method_112_code 7 (some .int) 146 0 0 [.ref 81, .int x1, .int x2] h (some (.int q.1)) q.2 := by
  refine metA_of (by decide) (Nat.le_of_ble_eq_true rfl) (fun X C K => ?_)
  have C : Cx X cn_11 prog_13_method_112_code 7 (some .int) 146 0 0 := C
  show G X h 0 0 0 [(0, .ref 81), (1, .int x1), (2, .int x2)] []
  unfold f_X11_sat at hrun
  refine g_iload_n C (dat dt_X11_sat 0 rfl) 1 rfl ?_
  refine g_iconst C (dat dt_X11_sat 1 rfl) ic_m1 ?_
  refine g_ic_lt 18 C (dat dt_X11_sat 2 rfl) (by decide) (fun c1 => ?_) (fun c1 => ?_)
  · rw [if_pos c1] at hrun
    refine g_iconst C (dat dt_X11_sat 10 rfl) ic_m1 ?_
    cases hrun
    exact g_iret C K (dat dt_X11_sat 11 rfl)
  · rw [if_neg c1] at hrun
    refine g_iload_n C (dat dt_X11_sat 3 rfl) 1 rfl ?_
    refine g_iconst C (dat dt_X11_sat 4 rfl) ic_m1 ?_
    refine g_ic_le 20 C (dat dt_X11_sat 5 rfl) (by decide) (fun c2 => ?_) (fun c2 => ?_)
    · rw [if_pos c2] at hrun
      exact wj_X11_sat_20 C    x1 x2 h _ hrun K
    · rw [if_neg c2] at hrun
      refine g_aload_n C (dat dt_X11_sat 6 rfl) 0 rfl ?_
      refine g_iload_n C (dat dt_X11_sat 7 rfl) 2 rfl ?_
      obtain ⟨v23, q24, hrun⟩ := bd hrun
      refine g_cVi [.int x2] C (dat dt_X11_sat 8 rfl) ml_11_147 (w_X11_isSitter x2 h v23  q24) kd_81 ltk_81 rfl rfl cat0 (by decide) c00 ?_
      refine g_if_ne 20 C (dat dt_X11_sat 9 rfl) (by decide) (fun c25 => ?_) (fun c25 => ?_)
      · rw [if_pos (b2i_nz c25)] at hrun
        exact wj_X11_sat_20 C    x1 x2 h _ hrun K
      · rw [if_neg (b2i_z c25)] at hrun
        refine g_iconst C (dat dt_X11_sat 10 rfl) ic_m1 ?_
        cases hrun
        exact g_iret C K (dat dt_X11_sat 11 rfl)
/-! SteamNationsModel.ask(II)I -/
def dl_X11_ask : List (Nat × Instr × Nat) := [(0, .iload_n 1, 1), (1, .iconst 0, 1), (2, .bipush 9, 2), (4, .invokestatic 18, 3), (7, .ifCond .eq 20, 3), (10, .iload_n 2, 1), (11, .iconst 0, 1), (12, .iconst 1, 1), (13, .invokestatic 18, 3), (16, .ifCond .eq 11, 3), (19, .aload_n 0, 1), (20, .iload_n 1, 1), (21, .invokevirtual 436, 3), (24, .ifCond .ne 5, 3), (27, .iconst (-1), 1), (28, .ireturn, 1), (29, .iconst (-1), 1), (30, .istore_n 3, 1), (31, .ldc 200, 2), (33, .istore 4, 2), (35, .iconst 0, 1), (36, .istore 5, 2), (38, .iload 5, 2), (40, .aload_n 0, 1), (41, .invokevirtual 127, 3), (44, .if_icmp .ge 34, 3), (47, .aload_n 0, 1), (48, .iload 5, 2), (50, .invokevirtual 439, 3), (53, .istore 6, 2), (55, .iload 6, 2), (57, .iload 4, 2), (59, .if_icmp .lt 6, 3), (62, .goto 10, 3), (65, .iload 6, 2), (67, .istore 4, 2), (69, .iload 5, 2), (71, .istore_n 3, 1), (72, .iinc 5 1, 3), (75, .goto (-37), 3), (78, .iload_n 3, 1), (79, .iconst (-1), 1), (80, .if_icmp .eq 7, 3), (83, .iload_n 2, 1), (84, .ifCond .ne 7, 3), (87, .iload_n 3, 1), (88, .goto 5, 3), (91, .iload 4, 2), (93, .ireturn, 1)]
set_option maxRecDepth 20000 in
theorem dt_X11_ask : ∀ q ∈ dl_X11_ask, decode prog_13_method_114_code q.1 = .ok q.2 := by decide +kernel
def kp_X11_ask_38  (x2 : Int32) (X : Xt) (s : (Int32 × Int32 × Int32 × Hp)) : Prop := G X s.2.2.2 0 0 38 [(0, .ref 81), (2, .int x2), (3, .int s.1), (4, .int s.2.1), (5, .int s.2.2.1)] []
def ke_X11_ask_38  (x2 : Int32) (X : Xt) (e : (Int32 × Int32 × Hp)) : Prop := G X e.2.2 0 0 78 [(2, .int x2), (3, .int e.1), (4, .int e.2.1)] []
def b_X11_ask_38  (x2 : Int32) (x3 : Int32) (x4 : Int32) (x5 : Int32) (h : Hp) : Option ((Int32 × Int32 × Int32 × Hp) ⊕ (Int32 × Int32 × Hp)) :=
  (f_X11_many  h).bind fun v10 =>
  if v10 ≤ x5 then
  some (.inr ( (x3, x4, h)))
  else
  (f_X11_mostAlike x5 h).bind fun v13 =>
  if v13.1 < x4 then
  some (.inl (x5, v13.1, (x5 + (1 : Int32)), v13.2))
  else
  some (.inl (x3, x4, (x5 + (1 : Int32)), v13.2))
set_option maxRecDepth 20000 in
theorem wb_X11_ask_38 {X : Xt} (C : Cx X cn_11 prog_13_method_114_code 7 (some .int) 146 0 0)   (x2 : Int32) (x3 : Int32) (x4 : Int32) (x5 : Int32) (h : Hp) (q : (Int32 × Int32 × Int32 × Hp) ⊕ (Int32 × Int32 × Hp)) (hrun : b_X11_ask_38  x2 x3 x4 x5 h = some q) (Ks : ∀ s, q = .inl s → kp_X11_ask_38  x2 X s) (Ke : ∀ e, q = .inr e → ke_X11_ask_38  x2 X e) : kp_X11_ask_38  x2 X (x3, x4, x5, h) := by
  show G X h 0 0 38 [(0, .ref 81), (2, .int x2), (3, .int x3), (4, .int x4), (5, .int x5)] []
  unfold b_X11_ask_38 at hrun
  refine g_iload C (dat dt_X11_ask 22 rfl) 4 rfl ?_
  refine g_aload_n C (dat dt_X11_ask 23 rfl) 0 rfl ?_
  obtain ⟨v10, q11, hrun⟩ := bd hrun
  refine g_cVi [] C (dat dt_X11_ask 24 rfl) ml_11_127 (w_X11_many  h v10  q11) kd_81 ltk_81 rfl rfl (Nat.le_of_ble_eq_true rfl) (by decide) c00 ?_
  refine g_ic_ge 78 C (dat dt_X11_ask 25 rfl) (by decide) (fun c12 => ?_) (fun c12 => ?_)
  · rw [if_pos c12] at hrun
    refine g_sub [1, 2, 3] (lv' := [(2, .int x2), (3, .int x3), (4, .int x4)]) rfl ?_
    cases hrun
    exact Ke ( (x3, x4, h)) rfl
  · rw [if_neg c12] at hrun
    refine g_aload_n C (dat dt_X11_ask 26 rfl) 0 rfl ?_
    refine g_iload C (dat dt_X11_ask 27 rfl) 4 rfl ?_
    obtain ⟨v13, q14, hrun⟩ := bd hrun
    refine g_cVi [.int x5] C (dat dt_X11_ask 28 rfl) ml_11_439 (w_X11_mostAlike x5 h v13  q14) kd_81 ltk_81 rfl rfl cat0 (by decide) c00 ?_
    refine g_istore (lv' := [(0, .ref 81), (2, .int x2), (3, .int x3), (4, .int x4), (5, .int x5), (6, .int v13.1)]) C (dat dt_X11_ask 29 rfl) (by decide) rfl ?_
    refine g_iload C (dat dt_X11_ask 30 rfl) 5 rfl ?_
    refine g_iload C (dat dt_X11_ask 31 rfl) 3 rfl ?_
    refine g_ic_lt 65 C (dat dt_X11_ask 32 rfl) (by decide) (fun c15 => ?_) (fun c15 => ?_)
    · rw [if_pos c15] at hrun
      refine g_iload C (dat dt_X11_ask 34 rfl) 5 rfl ?_
      refine g_istore (lv' := [(0, .ref 81), (2, .int x2), (3, .int x3), (4, .int v13.1), (5, .int x5), (6, .int v13.1)]) C (dat dt_X11_ask 35 rfl) (by decide) rfl ?_
      refine g_iload C (dat dt_X11_ask 36 rfl) 4 rfl ?_
      refine g_istore_n (lv' := [(0, .ref 81), (2, .int x2), (3, .int x5), (4, .int v13.1), (5, .int x5), (6, .int v13.1)]) C (dat dt_X11_ask 37 rfl) (by decide) rfl ?_
      refine g_iinc (v := (x5 + (1 : Int32))) (lv' := [(0, .ref 81), (2, .int x2), (3, .int x5), (4, .int v13.1), (5, .int (x5 + (1 : Int32))), (6, .int v13.1)]) C (dat dt_X11_ask 38 rfl) 4 rfl (congrArg (fun z => x5 + z) ic_1) (by decide) rfl ?_
      refine g_goto 38 C (dat dt_X11_ask 39 rfl) (by decide) ?_
      refine g_sub [0, 1, 2, 3, 4] (lv' := [(0, .ref 81), (2, .int x2), (3, .int x5), (4, .int v13.1), (5, .int (x5 + (1 : Int32)))]) rfl ?_
      cases hrun
      exact Ks (x5, v13.1, (x5 + (1 : Int32)), v13.2) rfl
    · rw [if_neg c15] at hrun
      refine g_goto 72 C (dat dt_X11_ask 33 rfl) (by decide) ?_
      refine g_iinc (v := (x5 + (1 : Int32))) (lv' := [(0, .ref 81), (2, .int x2), (3, .int x3), (4, .int x4), (5, .int (x5 + (1 : Int32))), (6, .int v13.1)]) C (dat dt_X11_ask 38 rfl) 4 rfl (congrArg (fun z => x5 + z) ic_1) (by decide) rfl ?_
      refine g_goto 38 C (dat dt_X11_ask 39 rfl) (by decide) ?_
      refine g_sub [0, 1, 2, 3, 4] (lv' := [(0, .ref 81), (2, .int x2), (3, .int x3), (4, .int x4), (5, .int (x5 + (1 : Int32)))]) rfl ?_
      cases hrun
      exact Ks (x3, x4, (x5 + (1 : Int32)), v13.2) rfl
def f_X11_ask (x1 : Int32) (x2 : Int32) (h : Hp) : Option (Int32 × Hp) :=
  (f_X11_lies x1 (0 : Int32) (9 : Int32)).bind fun v1 =>
  if v1 = true then
  (f_X11_lies x2 (0 : Int32) (1 : Int32)).bind fun v4 =>
  if v4 = true then
  (f_X11_laysSat x1 h).bind fun v7 =>
  if v7.1 = 0 then
  some ((-1 : Int32), v7.2)
  else
  (lp (fun s => b_X11_ask_38  x2 s.1 s.2.1 s.2.2.1 s.2.2.2) FU ((-1 : Int32), (1000000 : Int32), (0 : Int32), v7.2)).bind fun e16 =>
  if e16.1 = (-1 : Int32) then
  some (e16.1, e16.2.2)
  else
  if x2 = 0 then
  some (e16.1, e16.2.2)
  else
  some (e16.2.1, e16.2.2)
  else
  some ((-1 : Int32), h)
  else
  some ((-1 : Int32), h)
set_option maxRecDepth 20000 in
theorem w_X11_ask (x1 : Int32) (x2 : Int32) (h : Hp) (q : (Int32 × Hp))  (hrun : f_X11_ask x1 x2 h = some q) : MetA ⟨"SteamNationsModel", "ask", "(II)I"⟩ prog_13_method_114_code 7 (some .int) 146 0 0 [.ref 81, .int x1, .int x2] h (some (.int q.1)) q.2 := by
  refine metA_of (by decide) (Nat.le_of_ble_eq_true rfl) (fun X C K => ?_)
  have C : Cx X cn_11 prog_13_method_114_code 7 (some .int) 146 0 0 := C
  show G X h 0 0 0 [(0, .ref 81), (1, .int x1), (2, .int x2)] []
  unfold f_X11_ask at hrun
  refine g_iload_n C (dat dt_X11_ask 0 rfl) 1 rfl ?_
  refine g_iconst C (dat dt_X11_ask 1 rfl) ic_0 ?_
  refine g_bipush C (dat dt_X11_ask 2 rfl) bp_9 ?_
  obtain ⟨v1, q2, hrun⟩ := bd hrun
  refine g_cSi [.int x1, .int (0 : Int32), .int (9 : Int32)] C (dat dt_X11_ask 3 rfl) ml_11_18 (w_X11_lies x1 (0 : Int32) (9 : Int32) h v1  q2) rfl rfl cat0 (by decide) c00 ?_
  refine g_if_eq 27 C (dat dt_X11_ask 4 rfl) (by decide) (fun c3 => ?_) (fun c3 => ?_)
  · rw [if_neg (b2i_z c3)] at hrun
    refine g_iconst C (dat dt_X11_ask 14 rfl) ic_m1 ?_
    cases hrun
    exact g_iret C K (dat dt_X11_ask 15 rfl)
  · rw [if_pos (b2i_nz c3)] at hrun
    refine g_iload_n C (dat dt_X11_ask 5 rfl) 2 rfl ?_
    refine g_iconst C (dat dt_X11_ask 6 rfl) ic_0 ?_
    refine g_iconst C (dat dt_X11_ask 7 rfl) ic_1 ?_
    obtain ⟨v4, q5, hrun⟩ := bd hrun
    refine g_cSi [.int x2, .int (0 : Int32), .int (1 : Int32)] C (dat dt_X11_ask 8 rfl) ml_11_18 (w_X11_lies x2 (0 : Int32) (1 : Int32) h v4  q5) rfl rfl cat0 (by decide) c00 ?_
    refine g_if_eq 27 C (dat dt_X11_ask 9 rfl) (by decide) (fun c6 => ?_) (fun c6 => ?_)
    · rw [if_neg (b2i_z c6)] at hrun
      refine g_iconst C (dat dt_X11_ask 14 rfl) ic_m1 ?_
      cases hrun
      exact g_iret C K (dat dt_X11_ask 15 rfl)
    · rw [if_pos (b2i_nz c6)] at hrun
      refine g_aload_n C (dat dt_X11_ask 10 rfl) 0 rfl ?_
      refine g_iload_n C (dat dt_X11_ask 11 rfl) 1 rfl ?_
      obtain ⟨v7, q8, hrun⟩ := bd hrun
      refine g_cVi [.int x1] C (dat dt_X11_ask 12 rfl) ml_11_436 (w_X11_laysSat x1 h v7  q8) kd_81 ltk_81 rfl rfl cat0 (by decide) c00 ?_
      refine g_if_ne 29 C (dat dt_X11_ask 13 rfl) (by decide) (fun c9 => ?_) (fun c9 => ?_)
      · rw [if_neg c9] at hrun
        refine g_iconst C (dat dt_X11_ask 16 rfl) ic_m1 ?_
        refine g_istore_n (lv' := [(0, .ref 81), (1, .int x1), (2, .int x2), (3, .int (-1 : Int32))]) C (dat dt_X11_ask 17 rfl) (by decide) rfl ?_
        refine g_ldc C (dat dt_X11_ask 18 rfl) kc_11_200 ?_
        refine g_istore (lv' := [(0, .ref 81), (1, .int x1), (2, .int x2), (3, .int (-1 : Int32)), (4, .int (1000000 : Int32))]) C (dat dt_X11_ask 19 rfl) (by decide) rfl ?_
        refine g_iconst C (dat dt_X11_ask 20 rfl) ic_0 ?_
        refine g_istore (lv' := [(0, .ref 81), (1, .int x1), (2, .int x2), (3, .int (-1 : Int32)), (4, .int (1000000 : Int32)), (5, .int (0 : Int32))]) C (dat dt_X11_ask 21 rfl) (by decide) rfl ?_
        refine g_sub [0, 2, 3, 4, 5] (lv' := [(0, .ref 81), (2, .int x2), (3, .int (-1 : Int32)), (4, .int (1000000 : Int32)), (5, .int (0 : Int32))]) rfl ?_
        obtain ⟨e16, q17, hrun⟩ := bd hrun
        refine lp_ind (P := fun s => kp_X11_ask_38  x2 X s) (K := fun e => ke_X11_ask_38  x2 X e) (fun s q hb Ks Ke => wb_X11_ask_38 C   x2 s.1 s.2.1 s.2.2.1 s.2.2.2 q hb Ks Ke) FU ((-1 : Int32), (1000000 : Int32), (0 : Int32), v7.2) e16 q17 ?_
        show G X e16.2.2 0 0 78 [(2, .int x2), (3, .int e16.1), (4, .int e16.2.1)] []
        refine g_iload_n C (dat dt_X11_ask 40 rfl) 1 rfl ?_
        refine g_iconst C (dat dt_X11_ask 41 rfl) ic_m1 ?_
        refine g_ic_eq 87 C (dat dt_X11_ask 42 rfl) (by decide) (fun c18 => ?_) (fun c18 => ?_)
        · rw [if_pos c18] at hrun
          refine g_iload_n C (dat dt_X11_ask 45 rfl) 1 rfl ?_
          refine g_goto 93 C (dat dt_X11_ask 46 rfl) (by decide) ?_
          cases hrun
          exact g_iret C K (dat dt_X11_ask 48 rfl)
        · rw [if_neg c18] at hrun
          refine g_iload_n C (dat dt_X11_ask 43 rfl) 0 rfl ?_
          refine g_if_ne 91 C (dat dt_X11_ask 44 rfl) (by decide) (fun c19 => ?_) (fun c19 => ?_)
          · rw [if_neg c19] at hrun
            refine g_iload C (dat dt_X11_ask 47 rfl) 2 rfl ?_
            cases hrun
            exact g_iret C K (dat dt_X11_ask 48 rfl)
          · rw [if_pos c19] at hrun
            refine g_iload_n C (dat dt_X11_ask 45 rfl) 1 rfl ?_
            refine g_goto 93 C (dat dt_X11_ask 46 rfl) (by decide) ?_
            cases hrun
            exact g_iret C K (dat dt_X11_ask 48 rfl)
      · rw [if_pos c9] at hrun
        refine g_iconst C (dat dt_X11_ask 14 rfl) ic_m1 ?_
        cases hrun
        exact g_iret C K (dat dt_X11_ask 15 rfl)
/-! SteamNationsModel.compare(II)I -/
def dl_X11_compare : List (Nat × Instr × Nat) := [(0, .aload_n 0, 1), (1, .iload_n 1, 1), (2, .invokevirtual 285, 3), (5, .ifCond .eq 13, 3), (8, .iload_n 2, 1), (9, .iconst 0, 1), (10, .bipush 60, 2), (12, .invokestatic 18, 3), (15, .ifCond .ne 5, 3), (18, .iconst (-1), 1), (19, .ireturn, 1), (20, .aload_n 0, 1), (21, .getfield 28, 3), (24, .bipush 54, 2), (26, .iaload, 1), (27, .istore_n 3, 1), (28, .aload_n 0, 1), (29, .getfield 28, 3), (32, .bipush 54, 2), (34, .iload_n 1, 1), (35, .iastore, 1), (36, .aload_n 0, 1), (37, .iconst 0, 1), (38, .invokevirtual 385, 3), (41, .aload_n 0, 1), (42, .iload_n 2, 1), (43, .invokevirtual 388, 3), (46, .aload_n 0, 1), (47, .invokevirtual 336, 3), (50, .istore 4, 2), (52, .aload_n 0, 1), (53, .iconst 0, 1), (54, .invokevirtual 391, 3), (57, .aload_n 0, 1), (58, .getfield 28, 3), (61, .bipush 54, 2), (63, .iload_n 3, 1), (64, .iastore, 1), (65, .iload 4, 2), (67, .ireturn, 1)]
set_option maxRecDepth 20000 in
theorem dt_X11_compare : ∀ q ∈ dl_X11_compare, decode prog_13_method_121_code q.1 = .ok q.2 := by decide +kernel
def f_X11_compare (x1 : Int32) (x2 : Int32) (h : Hp) : Option (Int32 × Hp) :=
  (f_X11_isLaw x1 h).bind fun v1 =>
  if v1 = true then
  (f_X11_lies x2 (0 : Int32) (60 : Int32)).bind fun v4 =>
  if v4 = true then
  (f_X11_laysAside (0 : Int32) (sA h 83 54 x1)).bind fun v9 =>
  (f_X11_passMinutes x2 v9.2).bind fun v11 =>
  (f_X11_pleasedMany  v11.2).bind fun v13 =>
  (f_X11_takesBack (0 : Int32) v11.2).bind fun v15 =>
  some (v13, (sA v15.2 83 54 (aI h 83 54)))
  else
  some ((-1 : Int32), h)
  else
  some ((-1 : Int32), h)
set_option maxRecDepth 20000 in
theorem w_X11_compare (x1 : Int32) (x2 : Int32) (h : Hp) (q : (Int32 × Hp))  (hrun : f_X11_compare x1 x2 h = some q) : MetA ⟨"SteamNationsModel", "compare", "(II)I"⟩ prog_13_method_121_code 5 (some .int) 146 0 0 [.ref 81, .int x1, .int x2] h (some (.int q.1)) q.2 := by
  refine metA_of (by decide) (Nat.le_of_ble_eq_true rfl) (fun X C K => ?_)
  have C : Cx X cn_11 prog_13_method_121_code 5 (some .int) 146 0 0 := C
  show G X h 0 0 0 [(0, .ref 81), (1, .int x1), (2, .int x2)] []
  unfold f_X11_compare at hrun
  refine g_aload_n C (dat dt_X11_compare 0 rfl) 0 rfl ?_
  refine g_iload_n C (dat dt_X11_compare 1 rfl) 1 rfl ?_
  obtain ⟨v1, q2, hrun⟩ := bd hrun
  refine g_cVi [.int x1] C (dat dt_X11_compare 2 rfl) ml_11_285 (w_X11_isLaw x1 h v1  q2) kd_81 ltk_81 rfl rfl cat0 (by decide) c00 ?_
  refine g_if_eq 18 C (dat dt_X11_compare 3 rfl) (by decide) (fun c3 => ?_) (fun c3 => ?_)
  · rw [if_neg (b2i_z c3)] at hrun
    refine g_iconst C (dat dt_X11_compare 9 rfl) ic_m1 ?_
    cases hrun
    exact g_iret C K (dat dt_X11_compare 10 rfl)
  · rw [if_pos (b2i_nz c3)] at hrun
    refine g_iload_n C (dat dt_X11_compare 4 rfl) 2 rfl ?_
    refine g_iconst C (dat dt_X11_compare 5 rfl) ic_0 ?_
    refine g_bipush C (dat dt_X11_compare 6 rfl) bp_60 ?_
    obtain ⟨v4, q5, hrun⟩ := bd hrun
    refine g_cSi [.int x2, .int (0 : Int32), .int (60 : Int32)] C (dat dt_X11_compare 7 rfl) ml_11_18 (w_X11_lies x2 (0 : Int32) (60 : Int32) h v4  q5) rfl rfl cat0 (by decide) c00 ?_
    refine g_if_ne 20 C (dat dt_X11_compare 8 rfl) (by decide) (fun c6 => ?_) (fun c6 => ?_)
    · rw [if_pos (b2i_nz c6)] at hrun
      refine g_aload_n C (dat dt_X11_compare 11 rfl) 0 rfl ?_
      refine g_getR C (dat dt_X11_compare 12 rfl) fl_11_28 kd_81 rfl ltk_81 ?_
      refine g_bipush C (dat dt_X11_compare 13 rfl) bp_54 ?_
      refine g_iald (j := 54) C (dat dt_X11_compare 14 rfl) kd_83 ltk_83 (show inb (54 : Int32) 5662 = some 54 by decide) ?_
      refine g_istore_n (lv' := [(0, .ref 81), (1, .int x1), (2, .int x2), (3, .int (aI h 83 54))]) C (dat dt_X11_compare 15 rfl) (by decide) rfl ?_
      refine g_aload_n C (dat dt_X11_compare 16 rfl) 0 rfl ?_
      refine g_getR C (dat dt_X11_compare 17 rfl) fl_11_28 kd_81 rfl ltk_81 ?_
      refine g_bipush C (dat dt_X11_compare 18 rfl) bp_54 ?_
      refine g_iload_n C (dat dt_X11_compare 19 rfl) 1 rfl ?_
      refine g_iast (j := 54) C (dat dt_X11_compare 20 rfl) kd_83 ltk_83 (show inb (54 : Int32) 5662 = some 54 by decide)  ?_
      refine g_aload_n C (dat dt_X11_compare 21 rfl) 0 rfl ?_
      refine g_iconst C (dat dt_X11_compare 22 rfl) ic_0 ?_
      obtain ⟨v9, q10, hrun⟩ := bd hrun
      refine g_cVv [.int (0 : Int32)] C (dat dt_X11_compare 23 rfl) ml_11_385 (w_X11_laysAside (0 : Int32) (sA h 83 54 x1) v9  q10) kd_81 ltk_81 rfl rfl cat0 (by decide) c00 ?_
      refine g_aload_n C (dat dt_X11_compare 24 rfl) 0 rfl ?_
      refine g_iload_n C (dat dt_X11_compare 25 rfl) 2 rfl ?_
      obtain ⟨v11, q12, hrun⟩ := bd hrun
      refine g_cVv [.int x2] C (dat dt_X11_compare 26 rfl) ml_11_388 (w_X11_passMinutes x2 v9.2 v11  q12) kd_81 ltk_81 rfl rfl cat0 (by decide) c00 ?_
      refine g_aload_n C (dat dt_X11_compare 27 rfl) 0 rfl ?_
      obtain ⟨v13, q14, hrun⟩ := bd hrun
      refine g_cVi [] C (dat dt_X11_compare 28 rfl) ml_11_336 (w_X11_pleasedMany  v11.2 v13  q14) kd_81 ltk_81 rfl rfl cat0 (by decide) c00 ?_
      refine g_istore (lv' := [(0, .ref 81), (1, .int x1), (2, .int x2), (3, .int (aI h 83 54)), (4, .int v13)]) C (dat dt_X11_compare 29 rfl) (by decide) rfl ?_
      refine g_aload_n C (dat dt_X11_compare 30 rfl) 0 rfl ?_
      refine g_iconst C (dat dt_X11_compare 31 rfl) ic_0 ?_
      obtain ⟨v15, q16, hrun⟩ := bd hrun
      refine g_cVv [.int (0 : Int32)] C (dat dt_X11_compare 32 rfl) ml_11_391 (w_X11_takesBack (0 : Int32) v11.2 v15  q16) kd_81 ltk_81 rfl rfl cat0 (by decide) c00 ?_
      refine g_aload_n C (dat dt_X11_compare 33 rfl) 0 rfl ?_
      refine g_getR C (dat dt_X11_compare 34 rfl) fl_11_28 kd_81 rfl ltk_81 ?_
      refine g_bipush C (dat dt_X11_compare 35 rfl) bp_54 ?_
      refine g_iload_n C (dat dt_X11_compare 36 rfl) 3 rfl ?_
      refine g_iast (j := 54) C (dat dt_X11_compare 37 rfl) kd_83 ltk_83 (show inb (54 : Int32) 5662 = some 54 by decide)  ?_
      refine g_iload C (dat dt_X11_compare 38 rfl) 4 rfl ?_
      cases hrun
      exact g_iret C K (dat dt_X11_compare 39 rfl)
    · rw [if_neg (b2i_z c6)] at hrun
      refine g_iconst C (dat dt_X11_compare 9 rfl) ic_m1 ?_
      cases hrun
      exact g_iret C K (dat dt_X11_compare 10 rfl)
/-! SteamNationsModel.minuteIsDrawn()V -/
def dl_X11_minuteIsDrawn : List (Nat × Instr × Nat) := [(0, .aload_n 0, 1), (1, .aload_n 0, 1), (2, .invokevirtual 127, 3), (5, .invokevirtual 498, 3), (8, .istore_n 1, 1), (9, .aload_n 0, 1), (10, .bipush 9, 2), (12, .invokevirtual 498, 3), (15, .istore_n 2, 1), (16, .aload_n 0, 1), (17, .iconst 3, 1), (18, .invokevirtual 498, 3), (21, .istore_n 3, 1), (22, .iload_n 3, 1), (23, .ifCond .ne 22, 3), (26, .aload_n 0, 1), (27, .iload_n 2, 1), (28, .invokevirtual 166, 3), (31, .iconst (-1), 1), (32, .if_icmp .ne 13, 3), (35, .aload_n 0, 1), (36, .getfield 28, 3), (39, .bipush 18, 2), (41, .iload_n 1, 1), (42, .iadd, 1), (43, .iload_n 2, 1), (44, .iastore, 1), (45, .iload_n 3, 1), (46, .iconst 1, 1), (47, .if_icmp .ne 13, 3), (50, .aload_n 0, 1), (51, .getfield 28, 3), (54, .bipush 18, 2), (56, .iload_n 1, 1), (57, .iadd, 1), (58, .iconst (-1), 1), (59, .iastore, 1), (60, .aload_n 0, 1), (61, .invokevirtual 364, 3), (64, .return_, 1)]
set_option maxRecDepth 20000 in
theorem dt_X11_minuteIsDrawn : ∀ q ∈ dl_X11_minuteIsDrawn, decode prog_13_method_129_code q.1 = .ok q.2 := by decide +kernel
def j_X11_minuteIsDrawn_60   (h : Hp) : Option (Unit × Hp) :=
  (f_X11_minutePasses  h).bind fun v11 =>
  some ((), v11.2)
set_option maxRecDepth 20000 in
theorem wj_X11_minuteIsDrawn_60 {X : Xt} (C : Cx X cn_11 prog_13_method_129_code 4 none 145 0 0)     (h : Hp) (q : (Unit × Hp)) (hrun : j_X11_minuteIsDrawn_60   h = some q) (K : EndQ X 0 0 none q.2) : G X h 0 0 60 [(0, .ref 81)] [] := by
  unfold j_X11_minuteIsDrawn_60 at hrun
  refine g_aload_n C (dat dt_X11_minuteIsDrawn 37 rfl) 0 rfl ?_
  obtain ⟨v11, q12, hrun⟩ := bd hrun
  refine g_cVv [] C (dat dt_X11_minuteIsDrawn 38 rfl) ml_11_364 (w_X11_minutePasses  h v11  q12) kd_81 ltk_81 rfl rfl cat0 (by decide) c00 ?_
  cases hrun
  exact g_vret C K (dat dt_X11_minuteIsDrawn 39 rfl)
def j_X11_minuteIsDrawn_45  (x1 : Int32) (x3 : Int32) (h : Hp) : Option (Unit × Hp) :=
  if x3 = (1 : Int32) then
  (inb ((18 : Int32) + x1) 5662).bind fun j13 =>
  j_X11_minuteIsDrawn_60   (sA h 83 j13 (-1 : Int32))
  else
  j_X11_minuteIsDrawn_60   h
set_option maxRecDepth 20000 in
theorem wj_X11_minuteIsDrawn_45 {X : Xt} (C : Cx X cn_11 prog_13_method_129_code 4 none 145 0 0)    (x1 : Int32) (x3 : Int32) (h : Hp) (q : (Unit × Hp)) (hrun : j_X11_minuteIsDrawn_45  x1 x3 h = some q) (K : EndQ X 0 0 none q.2) : G X h 0 0 45 [(0, .ref 81), (1, .int x1), (3, .int x3)] [] := by
  unfold j_X11_minuteIsDrawn_45 at hrun
  refine g_iload_n C (dat dt_X11_minuteIsDrawn 27 rfl) 2 rfl ?_
  refine g_iconst C (dat dt_X11_minuteIsDrawn 28 rfl) ic_1 ?_
  refine g_ic_ne 60 C (dat dt_X11_minuteIsDrawn 29 rfl) (by decide) (fun c10 => ?_) (fun c10 => ?_)
  · rw [if_neg c10] at hrun
    refine g_sub [0] (lv' := [(0, .ref 81)]) rfl ?_
    exact wj_X11_minuteIsDrawn_60 C     h _ hrun K
  · rw [if_pos c10] at hrun
    refine g_aload_n C (dat dt_X11_minuteIsDrawn 30 rfl) 0 rfl ?_
    refine g_getR C (dat dt_X11_minuteIsDrawn 31 rfl) fl_11_28 kd_81 rfl ltk_81 ?_
    refine g_bipush C (dat dt_X11_minuteIsDrawn 32 rfl) bp_18 ?_
    refine g_iload_n C (dat dt_X11_minuteIsDrawn 33 rfl) 1 rfl ?_
    refine g_iadd C (dat dt_X11_minuteIsDrawn 34 rfl) ?_
    refine g_iconst C (dat dt_X11_minuteIsDrawn 35 rfl) ic_m1 ?_
    obtain ⟨j13, q14, hrun⟩ := bd hrun
    refine g_iast (j := j13) C (dat dt_X11_minuteIsDrawn 36 rfl) kd_83 ltk_83 q14  ?_
    refine g_sub [0] (lv' := [(0, .ref 81)]) rfl ?_
    exact wj_X11_minuteIsDrawn_60 C     (sA h 83 j13 (-1 : Int32)) _ hrun K
def f_X11_minuteIsDrawn  (h : Hp) : Option (Unit × Hp) :=
  (f_X11_many  h).bind fun v1 =>
  (f_X11_draws v1 h).bind fun v3 =>
  (f_X11_draws (9 : Int32) v3.2).bind fun v5 =>
  (f_X11_draws (3 : Int32) v5.2).bind fun v7 =>
  if v7.1 = 0 then
  (f_X11_onSeat v5.1 v7.2).bind fun v15 =>
  if v15 = (-1 : Int32) then
  (inb ((18 : Int32) + v3.1) 5662).bind fun j18 =>
  j_X11_minuteIsDrawn_45  v3.1 v7.1 (sA v7.2 83 j18 v5.1)
  else
  j_X11_minuteIsDrawn_45  v3.1 v7.1 v7.2
  else
  j_X11_minuteIsDrawn_45  v3.1 v7.1 v7.2
set_option maxRecDepth 20000 in
theorem w_X11_minuteIsDrawn  (h : Hp) (q : (Unit × Hp))  (hrun : f_X11_minuteIsDrawn  h = some q) : MetA ⟨"SteamNationsModel", "minuteIsDrawn", "()V"⟩ prog_13_method_129_code 4 none 145 0 0 [.ref 81] h none q.2 := by
  refine metA_of (by decide) (Nat.le_of_ble_eq_true rfl) (fun X C K => ?_)
  have C : Cx X cn_11 prog_13_method_129_code 4 none 145 0 0 := C
  show G X h 0 0 0 [(0, .ref 81)] []
  unfold f_X11_minuteIsDrawn at hrun
  refine g_aload_n C (dat dt_X11_minuteIsDrawn 0 rfl) 0 rfl ?_
  refine g_aload_n C (dat dt_X11_minuteIsDrawn 1 rfl) 0 rfl ?_
  obtain ⟨v1, q2, hrun⟩ := bd hrun
  refine g_cVi [] C (dat dt_X11_minuteIsDrawn 2 rfl) ml_11_127 (w_X11_many  h v1  q2) kd_81 ltk_81 rfl rfl (Nat.le_of_ble_eq_true rfl) (by decide) c00 ?_
  obtain ⟨v3, q4, hrun⟩ := bd hrun
  refine g_cVi [.int v1] C (dat dt_X11_minuteIsDrawn 3 rfl) ml_11_498 (w_X11_draws v1 h v3  q4) kd_81 ltk_81 rfl rfl cat0 (by decide) c00 ?_
  refine g_istore_n (lv' := [(0, .ref 81), (1, .int v3.1)]) C (dat dt_X11_minuteIsDrawn 4 rfl) (by decide) rfl ?_
  refine g_aload_n C (dat dt_X11_minuteIsDrawn 5 rfl) 0 rfl ?_
  refine g_bipush C (dat dt_X11_minuteIsDrawn 6 rfl) bp_9 ?_
  obtain ⟨v5, q6, hrun⟩ := bd hrun
  refine g_cVi [.int (9 : Int32)] C (dat dt_X11_minuteIsDrawn 7 rfl) ml_11_498 (w_X11_draws (9 : Int32) v3.2 v5  q6) kd_81 ltk_81 rfl rfl cat0 (by decide) c00 ?_
  refine g_istore_n (lv' := [(0, .ref 81), (1, .int v3.1), (2, .int v5.1)]) C (dat dt_X11_minuteIsDrawn 8 rfl) (by decide) rfl ?_
  refine g_aload_n C (dat dt_X11_minuteIsDrawn 9 rfl) 0 rfl ?_
  refine g_iconst C (dat dt_X11_minuteIsDrawn 10 rfl) ic_3 ?_
  obtain ⟨v7, q8, hrun⟩ := bd hrun
  refine g_cVi [.int (3 : Int32)] C (dat dt_X11_minuteIsDrawn 11 rfl) ml_11_498 (w_X11_draws (3 : Int32) v5.2 v7  q8) kd_81 ltk_81 rfl rfl cat0 (by decide) c00 ?_
  refine g_istore_n (lv' := [(0, .ref 81), (1, .int v3.1), (2, .int v5.1), (3, .int v7.1)]) C (dat dt_X11_minuteIsDrawn 12 rfl) (by decide) rfl ?_
  refine g_iload_n C (dat dt_X11_minuteIsDrawn 13 rfl) 3 rfl ?_
  refine g_if_ne 45 C (dat dt_X11_minuteIsDrawn 14 rfl) (by decide) (fun c9 => ?_) (fun c9 => ?_)
  · rw [if_neg c9] at hrun
    refine g_sub [0, 1, 3] (lv' := [(0, .ref 81), (1, .int v3.1), (3, .int v7.1)]) rfl ?_
    exact wj_X11_minuteIsDrawn_45 C    v3.1 v7.1 v7.2 _ hrun K
  · rw [if_pos c9] at hrun
    refine g_aload_n C (dat dt_X11_minuteIsDrawn 15 rfl) 0 rfl ?_
    refine g_iload_n C (dat dt_X11_minuteIsDrawn 16 rfl) 2 rfl ?_
    obtain ⟨v15, q16, hrun⟩ := bd hrun
    refine g_cVi [.int v5.1] C (dat dt_X11_minuteIsDrawn 17 rfl) ml_11_166 (w_X11_onSeat v5.1 v7.2 v15  q16) kd_81 ltk_81 rfl rfl cat0 (by decide) c00 ?_
    refine g_iconst C (dat dt_X11_minuteIsDrawn 18 rfl) ic_m1 ?_
    refine g_ic_ne 45 C (dat dt_X11_minuteIsDrawn 19 rfl) (by decide) (fun c17 => ?_) (fun c17 => ?_)
    · rw [if_neg c17] at hrun
      refine g_sub [0, 1, 3] (lv' := [(0, .ref 81), (1, .int v3.1), (3, .int v7.1)]) rfl ?_
      exact wj_X11_minuteIsDrawn_45 C    v3.1 v7.1 v7.2 _ hrun K
    · rw [if_pos c17] at hrun
      refine g_aload_n C (dat dt_X11_minuteIsDrawn 20 rfl) 0 rfl ?_
      refine g_getR C (dat dt_X11_minuteIsDrawn 21 rfl) fl_11_28 kd_81 rfl ltk_81 ?_
      refine g_bipush C (dat dt_X11_minuteIsDrawn 22 rfl) bp_18 ?_
      refine g_iload_n C (dat dt_X11_minuteIsDrawn 23 rfl) 1 rfl ?_
      refine g_iadd C (dat dt_X11_minuteIsDrawn 24 rfl) ?_
      refine g_iload_n C (dat dt_X11_minuteIsDrawn 25 rfl) 2 rfl ?_
      obtain ⟨j18, q19, hrun⟩ := bd hrun
      refine g_iast (j := j18) C (dat dt_X11_minuteIsDrawn 26 rfl) kd_83 ltk_83 q19  ?_
      refine g_sub [0, 1, 3] (lv' := [(0, .ref 81), (1, .int v3.1), (3, .int v7.1)]) rfl ?_
      exact wj_X11_minuteIsDrawn_45 C    v3.1 v7.1 (sA v7.2 83 j18 v5.1) _ hrun K
/-! SteamNationsModel.mornings(II)I -/
def dl_X11_mornings : List (Nat × Instr × Nat) := [(0, .iload_n 1, 1), (1, .iconst 0, 1), (2, .ldc 200, 2), (4, .invokestatic 18, 3), (7, .ifCond .eq 13, 3), (10, .iload_n 2, 1), (11, .iconst 1, 1), (12, .bipush 60, 2), (14, .invokestatic 18, 3), (17, .ifCond .ne 9, 3), (20, .aload_n 0, 1), (21, .iconst (-1), 1), (22, .invokevirtual 121, 3), (25, .ireturn, 1), (26, .aload_n 0, 1), (27, .invokevirtual 127, 3), (30, .ifCond .ne 10, 3), (33, .aload_n 0, 1), (34, .bipush (-3), 2), (36, .invokevirtual 121, 3), (39, .ireturn, 1), (40, .aload_n 0, 1), (41, .iload_n 1, 1), (42, .putfield 491, 3), (45, .aload_n 0, 1), (46, .aload_n 0, 1), (47, .invokevirtual 127, 3), (50, .putfield 118, 3), (53, .aload_n 0, 1), (54, .iconst 0, 1), (55, .invokevirtual 385, 3), (58, .iconst 0, 1), (59, .istore_n 3, 1), (60, .iload_n 3, 1), (61, .iload_n 2, 1), (62, .if_icmp .ge 26, 3), (65, .aload_n 0, 1), (66, .getfield 28, 3), (69, .bipush 24, 2), (71, .iaload, 1), (72, .sipush 999, 3), (75, .if_icmp .ge 13, 3), (78, .aload_n 0, 1), (79, .invokevirtual 501, 3), (82, .iinc 3 1, 3), (85, .goto (-25), 3), (88, .aload_n 0, 1), (89, .invokevirtual 336, 3), (92, .istore_n 3, 1), (93, .iconst 0, 1), (94, .istore 4, 2), (96, .iload 4, 2), (98, .bipush 25, 2), (100, .if_icmp .ge 23, 3), (103, .aload_n 0, 1), (104, .getfield 115, 3), (107, .iload 4, 2), (109, .aload_n 0, 1), (110, .getfield 28, 3), (113, .iload 4, 2), (115, .iaload, 1), (116, .iastore, 1), (117, .iinc 4 1, 3), (120, .goto (-24), 3), (123, .aload_n 0, 1), (124, .iconst 0, 1), (125, .invokevirtual 391, 3), (128, .aload_n 0, 1), (129, .iload_n 3, 1), (130, .invokevirtual 14, 3), (133, .ireturn, 1)]
set_option maxRecDepth 20000 in
theorem dt_X11_mornings : ∀ q ∈ dl_X11_mornings, decode prog_13_method_130_code q.1 = .ok q.2 := by decide +kernel
def j_X11_mornings_20   (h : Hp) : Option (Int32 × Hp) :=
  (f_X11_refuses (-1 : Int32) h).bind fun v4 =>
  some (v4.1, v4.2)
set_option maxRecDepth 20000 in
theorem wj_X11_mornings_20 {X : Xt} (C : Cx X cn_11 prog_13_method_130_code 5 (some .int) 146 0 0)     (h : Hp) (q : (Int32 × Hp)) (hrun : j_X11_mornings_20   h = some q) (K : EndQ X 0 0 (some (.int q.1)) q.2) : G X h 0 0 20 [(0, .ref 81)] [] := by
  unfold j_X11_mornings_20 at hrun
  refine g_aload_n C (dat dt_X11_mornings 10 rfl) 0 rfl ?_
  refine g_iconst C (dat dt_X11_mornings 11 rfl) ic_m1 ?_
  obtain ⟨v4, q5, hrun⟩ := bd hrun
  refine g_cVi [.int (-1 : Int32)] C (dat dt_X11_mornings 12 rfl) ml_11_121 (w_X11_refuses (-1 : Int32) h v4  q5) kd_81 ltk_81 rfl rfl cat0 (by decide) c00 ?_
  cases hrun
  exact g_iret C K (dat dt_X11_mornings 13 rfl)
def kp_X11_mornings_60  (x2 : Int32) (X : Xt) (s : (Int32 × Hp)) : Prop := G X s.2 0 0 60 [(0, .ref 81), (2, .int x2), (3, .int s.1)] []
def ke_X11_mornings_60  (x2 : Int32) (X : Xt) (e : Hp) : Prop := G X e 0 0 88 [(0, .ref 81)] []
def b_X11_mornings_60  (x2 : Int32) (x3 : Int32) (h : Hp) : Option ((Int32 × Hp) ⊕ Hp) :=
  if x2 ≤ x3 then
  some (.inr ( h))
  else
  if (999 : Int32) ≤ (aI h 83 24) then
  some (.inr ( h))
  else
  (f_X11_minuteIsDrawn  h).bind fun v18 =>
  some (.inl ((x3 + (1 : Int32)), v18.2))
set_option maxRecDepth 20000 in
theorem wb_X11_mornings_60 {X : Xt} (C : Cx X cn_11 prog_13_method_130_code 5 (some .int) 146 0 0)   (x2 : Int32) (x3 : Int32) (h : Hp) (q : (Int32 × Hp) ⊕ Hp) (hrun : b_X11_mornings_60  x2 x3 h = some q) (Ks : ∀ s, q = .inl s → kp_X11_mornings_60  x2 X s) (Ke : ∀ e, q = .inr e → ke_X11_mornings_60  x2 X e) : kp_X11_mornings_60  x2 X (x3, h) := by
  show G X h 0 0 60 [(0, .ref 81), (2, .int x2), (3, .int x3)] []
  unfold b_X11_mornings_60 at hrun
  refine g_iload_n C (dat dt_X11_mornings 33 rfl) 2 rfl ?_
  refine g_iload_n C (dat dt_X11_mornings 34 rfl) 1 rfl ?_
  refine g_ic_ge 88 C (dat dt_X11_mornings 35 rfl) (by decide) (fun c16 => ?_) (fun c16 => ?_)
  · rw [if_pos c16] at hrun
    refine g_sub [0] (lv' := [(0, .ref 81)]) rfl ?_
    cases hrun
    exact Ke ( h) rfl
  · rw [if_neg c16] at hrun
    refine g_aload_n C (dat dt_X11_mornings 36 rfl) 0 rfl ?_
    refine g_getR C (dat dt_X11_mornings 37 rfl) fl_11_28 kd_81 rfl ltk_81 ?_
    refine g_bipush C (dat dt_X11_mornings 38 rfl) bp_24 ?_
    refine g_iald (j := 24) C (dat dt_X11_mornings 39 rfl) kd_83 ltk_83 (show inb (24 : Int32) 5662 = some 24 by decide) ?_
    refine g_sipush C (dat dt_X11_mornings 40 rfl) sp_999 ?_
    refine g_ic_ge 88 C (dat dt_X11_mornings 41 rfl) (by decide) (fun c17 => ?_) (fun c17 => ?_)
    · rw [if_pos c17] at hrun
      refine g_sub [0] (lv' := [(0, .ref 81)]) rfl ?_
      cases hrun
      exact Ke ( h) rfl
    · rw [if_neg c17] at hrun
      refine g_aload_n C (dat dt_X11_mornings 42 rfl) 0 rfl ?_
      obtain ⟨v18, q19, hrun⟩ := bd hrun
      refine g_cVv [] C (dat dt_X11_mornings 43 rfl) ml_11_501 (w_X11_minuteIsDrawn  h v18  q19) kd_81 ltk_81 rfl rfl cat0 (by decide) c00 ?_
      refine g_iinc (v := (x3 + (1 : Int32))) (lv' := [(0, .ref 81), (2, .int x2), (3, .int (x3 + (1 : Int32)))]) C (dat dt_X11_mornings 44 rfl) 2 rfl (congrArg (fun z => x3 + z) ic_1) (by decide) rfl ?_
      refine g_goto 60 C (dat dt_X11_mornings 45 rfl) (by decide) ?_
      cases hrun
      exact Ks ((x3 + (1 : Int32)), v18.2) rfl
def kp_X11_mornings_96  (x3 : Int32) (X : Xt) (s : (Int32 × Hp)) : Prop := G X s.2 0 0 96 [(0, .ref 81), (3, .int x3), (4, .int s.1)] []
def ke_X11_mornings_96  (x3 : Int32) (X : Xt) (e : Hp) : Prop := G X e 0 0 123 [(0, .ref 81), (3, .int x3)] []
def b_X11_mornings_96  (x3 : Int32) (x4 : Int32) (h : Hp) : Option ((Int32 × Hp) ⊕ Hp) :=
  if (25 : Int32) ≤ x4 then
  some (.inr ( h))
  else
  (inb x4 5662).bind fun j25 =>
  (inb x4 25).bind fun j27 =>
  some (.inl ((x4 + (1 : Int32)), (sA h 109 j27 (aI h 83 j25))))
set_option maxRecDepth 20000 in
theorem wb_X11_mornings_96 {X : Xt} (C : Cx X cn_11 prog_13_method_130_code 5 (some .int) 146 0 0)   (x3 : Int32) (x4 : Int32) (h : Hp) (q : (Int32 × Hp) ⊕ Hp) (hrun : b_X11_mornings_96  x3 x4 h = some q) (Ks : ∀ s, q = .inl s → kp_X11_mornings_96  x3 X s) (Ke : ∀ e, q = .inr e → ke_X11_mornings_96  x3 X e) : kp_X11_mornings_96  x3 X (x4, h) := by
  show G X h 0 0 96 [(0, .ref 81), (3, .int x3), (4, .int x4)] []
  unfold b_X11_mornings_96 at hrun
  refine g_iload C (dat dt_X11_mornings 51 rfl) 2 rfl ?_
  refine g_bipush C (dat dt_X11_mornings 52 rfl) bp_25 ?_
  refine g_ic_ge 123 C (dat dt_X11_mornings 53 rfl) (by decide) (fun c24 => ?_) (fun c24 => ?_)
  · rw [if_pos c24] at hrun
    refine g_sub [0, 1] (lv' := [(0, .ref 81), (3, .int x3)]) rfl ?_
    cases hrun
    exact Ke ( h) rfl
  · rw [if_neg c24] at hrun
    refine g_aload_n C (dat dt_X11_mornings 54 rfl) 0 rfl ?_
    refine g_getR C (dat dt_X11_mornings 55 rfl) fl_11_115 kd_81 rfl ltk_81 ?_
    refine g_iload C (dat dt_X11_mornings 56 rfl) 2 rfl ?_
    refine g_aload_n C (dat dt_X11_mornings 57 rfl) 0 rfl ?_
    refine g_getR C (dat dt_X11_mornings 58 rfl) fl_11_28 kd_81 rfl ltk_81 ?_
    refine g_iload C (dat dt_X11_mornings 59 rfl) 2 rfl ?_
    obtain ⟨j25, q26, hrun⟩ := bd hrun
    refine g_iald C (dat dt_X11_mornings 60 rfl) kd_83 ltk_83 q26 ?_
    obtain ⟨j27, q28, hrun⟩ := bd hrun
    refine g_iast (j := j27) C (dat dt_X11_mornings 61 rfl) kd_109 ltk_109 q28  ?_
    refine g_iinc (v := (x4 + (1 : Int32))) (lv' := [(0, .ref 81), (3, .int x3), (4, .int (x4 + (1 : Int32)))]) C (dat dt_X11_mornings 62 rfl) 2 rfl (congrArg (fun z => x4 + z) ic_1) (by decide) rfl ?_
    refine g_goto 96 C (dat dt_X11_mornings 63 rfl) (by decide) ?_
    cases hrun
    exact Ks ((x4 + (1 : Int32)), (sA h 109 j27 (aI h 83 j25))) rfl
def j_X11_mornings_88   (h : Hp) : Option (Int32 × Hp) :=
  (f_X11_pleasedMany  h).bind fun v22 =>
  (lp (fun s => b_X11_mornings_96  v22 s.1 s.2) FU ((0 : Int32), h)).bind fun e29 =>
  (f_X11_takesBack (0 : Int32) e29).bind fun v31 =>
  (f_X11_good v22 v31.2).bind fun v33 =>
  some (v33.1, v33.2)
set_option maxRecDepth 20000 in
theorem wj_X11_mornings_88 {X : Xt} (C : Cx X cn_11 prog_13_method_130_code 5 (some .int) 146 0 0)     (h : Hp) (q : (Int32 × Hp)) (hrun : j_X11_mornings_88   h = some q) (K : EndQ X 0 0 (some (.int q.1)) q.2) : G X h 0 0 88 [(0, .ref 81)] [] := by
  unfold j_X11_mornings_88 at hrun
  refine g_aload_n C (dat dt_X11_mornings 46 rfl) 0 rfl ?_
  obtain ⟨v22, q23, hrun⟩ := bd hrun
  refine g_cVi [] C (dat dt_X11_mornings 47 rfl) ml_11_336 (w_X11_pleasedMany  h v22  q23) kd_81 ltk_81 rfl rfl cat0 (by decide) c00 ?_
  refine g_istore_n (lv' := [(0, .ref 81), (3, .int v22)]) C (dat dt_X11_mornings 48 rfl) (by decide) rfl ?_
  refine g_iconst C (dat dt_X11_mornings 49 rfl) ic_0 ?_
  refine g_istore (lv' := [(0, .ref 81), (3, .int v22), (4, .int (0 : Int32))]) C (dat dt_X11_mornings 50 rfl) (by decide) rfl ?_
  obtain ⟨e29, q30, hrun⟩ := bd hrun
  refine lp_ind (P := fun s => kp_X11_mornings_96  v22 X s) (K := fun e => ke_X11_mornings_96  v22 X e) (fun s q hb Ks Ke => wb_X11_mornings_96 C   v22 s.1 s.2 q hb Ks Ke) FU ((0 : Int32), h) e29 q30 ?_
  show G X e29 0 0 123 [(0, .ref 81), (3, .int v22)] []
  refine g_aload_n C (dat dt_X11_mornings 64 rfl) 0 rfl ?_
  refine g_iconst C (dat dt_X11_mornings 65 rfl) ic_0 ?_
  obtain ⟨v31, q32, hrun⟩ := bd hrun
  refine g_cVv [.int (0 : Int32)] C (dat dt_X11_mornings 66 rfl) ml_11_391 (w_X11_takesBack (0 : Int32) e29 v31  q32) kd_81 ltk_81 rfl rfl cat0 (by decide) c00 ?_
  refine g_aload_n C (dat dt_X11_mornings 67 rfl) 0 rfl ?_
  refine g_iload_n C (dat dt_X11_mornings 68 rfl) 1 rfl ?_
  obtain ⟨v33, q34, hrun⟩ := bd hrun
  refine g_cVi [.int v22] C (dat dt_X11_mornings 69 rfl) ml_11_14 (w_X11_good v22 v31.2 v33  q34) kd_81 ltk_81 rfl rfl cat0 (by decide) c00 ?_
  cases hrun
  exact g_iret C K (dat dt_X11_mornings 70 rfl)
def f_X11_mornings (x1 : Int32) (x2 : Int32) (h : Hp) : Option (Int32 × Hp) :=
  (f_X11_lies x1 (0 : Int32) (1000000 : Int32)).bind fun v1 =>
  if v1 = true then
  (f_X11_lies x2 (1 : Int32) (60 : Int32)).bind fun v6 =>
  if v6 = true then
  (f_X11_many  h).bind fun v9 =>
  if v9 = 0 then
  (f_X11_refuses (-3 : Int32) h).bind fun v35 =>
  some (v35.1, v35.2)
  else
  (f_X11_many  (sF h 81 55 x1)).bind fun v12 =>
  (f_X11_laysAside (0 : Int32) (sF (sF h 81 55 x1) 81 54 v12)).bind fun v14 =>
  (lp (fun s => b_X11_mornings_60  x2 s.1 s.2) FU ((0 : Int32), v14.2)).bind fun e20 =>
  j_X11_mornings_88   e20
  else
  j_X11_mornings_20   h
  else
  j_X11_mornings_20   h
set_option maxRecDepth 20000 in
theorem w_X11_mornings (x1 : Int32) (x2 : Int32) (h : Hp) (q : (Int32 × Hp))  (hrun : f_X11_mornings x1 x2 h = some q) : MetA ⟨"SteamNationsModel", "mornings", "(II)I"⟩ prog_13_method_130_code 5 (some .int) 146 0 0 [.ref 81, .int x1, .int x2] h (some (.int q.1)) q.2 := by
  refine metA_of (by decide) (Nat.le_of_ble_eq_true rfl) (fun X C K => ?_)
  have C : Cx X cn_11 prog_13_method_130_code 5 (some .int) 146 0 0 := C
  show G X h 0 0 0 [(0, .ref 81), (1, .int x1), (2, .int x2)] []
  unfold f_X11_mornings at hrun
  refine g_iload_n C (dat dt_X11_mornings 0 rfl) 1 rfl ?_
  refine g_iconst C (dat dt_X11_mornings 1 rfl) ic_0 ?_
  refine g_ldc C (dat dt_X11_mornings 2 rfl) kc_11_200 ?_
  obtain ⟨v1, q2, hrun⟩ := bd hrun
  refine g_cSi [.int x1, .int (0 : Int32), .int (1000000 : Int32)] C (dat dt_X11_mornings 3 rfl) ml_11_18 (w_X11_lies x1 (0 : Int32) (1000000 : Int32) h v1  q2) rfl rfl cat0 (by decide) c00 ?_
  refine g_if_eq 20 C (dat dt_X11_mornings 4 rfl) (by decide) (fun c3 => ?_) (fun c3 => ?_)
  · rw [if_neg (b2i_z c3)] at hrun
    refine g_sub [0] (lv' := [(0, .ref 81)]) rfl ?_
    exact wj_X11_mornings_20 C     h _ hrun K
  · rw [if_pos (b2i_nz c3)] at hrun
    refine g_iload_n C (dat dt_X11_mornings 5 rfl) 2 rfl ?_
    refine g_iconst C (dat dt_X11_mornings 6 rfl) ic_1 ?_
    refine g_bipush C (dat dt_X11_mornings 7 rfl) bp_60 ?_
    obtain ⟨v6, q7, hrun⟩ := bd hrun
    refine g_cSi [.int x2, .int (1 : Int32), .int (60 : Int32)] C (dat dt_X11_mornings 8 rfl) ml_11_18 (w_X11_lies x2 (1 : Int32) (60 : Int32) h v6  q7) rfl rfl cat0 (by decide) c00 ?_
    refine g_if_ne 26 C (dat dt_X11_mornings 9 rfl) (by decide) (fun c8 => ?_) (fun c8 => ?_)
    · rw [if_pos (b2i_nz c8)] at hrun
      refine g_aload_n C (dat dt_X11_mornings 14 rfl) 0 rfl ?_
      obtain ⟨v9, q10, hrun⟩ := bd hrun
      refine g_cVi [] C (dat dt_X11_mornings 15 rfl) ml_11_127 (w_X11_many  h v9  q10) kd_81 ltk_81 rfl rfl cat0 (by decide) c00 ?_
      refine g_if_ne 40 C (dat dt_X11_mornings 16 rfl) (by decide) (fun c11 => ?_) (fun c11 => ?_)
      · rw [if_neg c11] at hrun
        refine g_aload_n C (dat dt_X11_mornings 21 rfl) 0 rfl ?_
        refine g_iload_n C (dat dt_X11_mornings 22 rfl) 1 rfl ?_
        refine g_putI C (dat dt_X11_mornings 23 rfl) fl_11_491 rfl rfl kd_81 rfl ltk_81 ?_
        refine g_aload_n C (dat dt_X11_mornings 24 rfl) 0 rfl ?_
        refine g_aload_n C (dat dt_X11_mornings 25 rfl) 0 rfl ?_
        obtain ⟨v12, q13, hrun⟩ := bd hrun
        refine g_cVi [] C (dat dt_X11_mornings 26 rfl) ml_11_127 (w_X11_many  (sF h 81 55 x1) v12  q13) kd_81 ltk_81 rfl rfl (Nat.le_of_ble_eq_true rfl) (by decide) c00 ?_
        refine g_putI C (dat dt_X11_mornings 27 rfl) fl_11_118 rfl rfl kd_81 rfl ltk_81 ?_
        refine g_aload_n C (dat dt_X11_mornings 28 rfl) 0 rfl ?_
        refine g_iconst C (dat dt_X11_mornings 29 rfl) ic_0 ?_
        obtain ⟨v14, q15, hrun⟩ := bd hrun
        refine g_cVv [.int (0 : Int32)] C (dat dt_X11_mornings 30 rfl) ml_11_385 (w_X11_laysAside (0 : Int32) (sF (sF h 81 55 x1) 81 54 v12) v14  q15) kd_81 ltk_81 rfl rfl cat0 (by decide) c00 ?_
        refine g_iconst C (dat dt_X11_mornings 31 rfl) ic_0 ?_
        refine g_istore_n (lv' := [(0, .ref 81), (1, .int x1), (2, .int x2), (3, .int (0 : Int32))]) C (dat dt_X11_mornings 32 rfl) (by decide) rfl ?_
        refine g_sub [0, 2, 3] (lv' := [(0, .ref 81), (2, .int x2), (3, .int (0 : Int32))]) rfl ?_
        obtain ⟨e20, q21, hrun⟩ := bd hrun
        refine lp_ind (P := fun s => kp_X11_mornings_60  x2 X s) (K := fun e => ke_X11_mornings_60  x2 X e) (fun s q hb Ks Ke => wb_X11_mornings_60 C   x2 s.1 s.2 q hb Ks Ke) FU ((0 : Int32), v14.2) e20 q21 ?_
        show G X e20 0 0 88 [(0, .ref 81)] []
        exact wj_X11_mornings_88 C     e20 _ hrun K
      · rw [if_pos c11] at hrun
        refine g_aload_n C (dat dt_X11_mornings 17 rfl) 0 rfl ?_
        refine g_bipush C (dat dt_X11_mornings 18 rfl) bp_m3 ?_
        obtain ⟨v35, q36, hrun⟩ := bd hrun
        refine g_cVi [.int (-3 : Int32)] C (dat dt_X11_mornings 19 rfl) ml_11_121 (w_X11_refuses (-3 : Int32) h v35  q36) kd_81 ltk_81 rfl rfl cat0 (by decide) c00 ?_
        cases hrun
        exact g_iret C K (dat dt_X11_mornings 20 rfl)
    · rw [if_neg (b2i_z c8)] at hrun
      refine g_sub [0] (lv' := [(0, .ref 81)]) rfl ?_
      exact wj_X11_mornings_20 C     h _ hrun K
