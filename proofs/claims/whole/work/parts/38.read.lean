/-! SteamNations$Reader.read([IIZ)LSteamNations$Text; -/
def dl_X5_read : List (Nat × Instr × Nat) := [(0, .aload_n 0, 1), (1, .iload_n 3, 1), (2, .putfield 35, 3), (5, .aload_n 0, 1), (6, .iconst 0, 1), (7, .putfield 39, 3), (10, .aload_n 0, 1), (11, .iconst 0, 1), (12, .putfield 42, 3), (15, .aload_n 0, 1), (16, .iconst (-1), 1), (17, .putfield 31, 3), (20, .aload_n 0, 1), (21, .aload_n 1, 1), (22, .iload_n 2, 1), (23, .aload_n 1, 1), (24, .arraylength, 1), (25, .invokestatic 45, 3), (28, .invokevirtual 51, 3), (31, .aload_n 0, 1), (32, .iconst (-1), 1), (33, .putfield 55, 3), (36, .aload_n 0, 1), (37, .invokevirtual 58, 3), (40, .iconst 0, 1), (41, .istore 4, 2), (43, .iload 4, 2), (45, .bipush 12, 2), (47, .if_icmp .ge 105, 3), (50, .iload_n 3, 1), (51, .ifCond .eq 12, 3), (54, .aload_n 0, 1), (55, .iload 4, 2), (57, .invokevirtual 61, 3), (60, .goto 9, 3), (63, .aload_n 0, 1), (64, .iload 4, 2), (66, .invokevirtual 65, 3), (69, .istore 5, 2), (71, .iload 5, 2), (73, .ifCond .eq 12, 3), (76, .aload_n 0, 1), (77, .iload 4, 2), (79, .invokevirtual 68, 3), (82, .ifCond .ne 5, 3), (85, .aconst_null, 1), (86, .areturn, 1), (87, .aload_n 0, 1), (88, .getfield 71, 3), (91, .bipush 29, 2), (93, .if_icmp .ne 42, 3), (96, .new 26, 3), (99, .dup, 1), (100, .aload_n 0, 1), (101, .getfield 23, 3), (104, .aload_n 0, 1), (105, .getfield 39, 3), (108, .iconst 2, 1), (109, .imul, 1), (110, .invokestatic 74, 3), (113, .aload_n 0, 1), (114, .getfield 28, 3), (117, .iload 4, 2), (119, .iconst 1, 1), (120, .iadd, 1), (121, .bipush 6, 2), (123, .imul, 1), (124, .invokestatic 74, 3), (127, .iload 4, 2), (129, .iconst 1, 1), (130, .iadd, 1), (131, .invokespecial 80, 3), (134, .areturn, 1), (135, .aload_n 0, 1), (136, .bipush 59, 2), (138, .invokevirtual 83, 3), (141, .ifCond .ne 5, 3), (144, .aconst_null, 1), (145, .areturn, 1), (146, .iinc 4 1, 3), (149, .goto (-106), 3), (152, .aload_n 0, 1), (153, .invokevirtual 87, 3), (156, .pop, 1), (157, .aconst_null, 1), (158, .areturn, 1)]
set_option maxRecDepth 20000 in
theorem dt_X5_read : ∀ q ∈ dl_X5_read, decode prog_7_method_2_code q.1 = .ok q.2 := by decide +kernel
def kp_X5_read_43  (x3 : Int32) (X : Xt) (s : (Int32 × Hp)) : Prop := G X s.2 0 0 43 [(0, .ref 4), (3, .int x3), (4, .int s.1)] []
def ke_X5_read_43  (x3 : Int32) (X : Xt) (e : (Hp ⊕ Hp ⊕ Hp ⊕ (Int32 × Hp))) : Prop := match e with
  | .inl e => G X e 0 0 152 [(0, .ref 4)] []
  | .inr (.inl e) => G X e 0 0 85 [] []
  | .inr (.inr (.inl e)) => G X e 0 0 144 [] []
  | .inr (.inr (.inr (e))) => G X e.2 0 0 96 [(0, .ref 4), (4, .int e.1)] []
def j_X5_read_69_43  (x3 : Int32) (x4 : Int32) (s0 : Int32) (h : Hp) : Option ((Int32 × Hp) ⊕ (Hp ⊕ Hp ⊕ Hp ⊕ (Int32 × Hp))) :=
  if s0 = 0 then
  some (.inr (.inr <| .inl h))
  else
  (f_X5_readIf x4 h).bind fun v14 =>
  if v14.1 = true then
  if (fI v14.2 4 7) = (29 : Int32) then
  some (.inr (.inr <| .inr <| .inr <| id (x4, v14.2)))
  else
  (f_X5_takeSign (59 : Int32) v14.2).bind fun v18 =>
  if v18.1 = true then
  some (.inl ((x4 + (1 : Int32)), v18.2))
  else
  some (.inr (.inr <| .inr <| .inl v18.2))
  else
  some (.inr (.inr <| .inl v14.2))
set_option maxRecDepth 20000 in
theorem wj_X5_read_69_43 {X : Xt} (C : Cx X cn_5 prog_7_method_2_code 6 (some (.object "SteamNations$Text")) 72 3 1604)    (x3 : Int32) (x4 : Int32) (s0 : Int32) (h : Hp) (q : (Int32 × Hp) ⊕ (Hp ⊕ Hp ⊕ Hp ⊕ (Int32 × Hp))) (hrun : j_X5_read_69_43  x3 x4 s0 h = some q) (Ks : ∀ s, q = .inl s → kp_X5_read_43  x3 X s) (Ke : ∀ e, q = .inr e → ke_X5_read_43  x3 X e) : G X h 0 0 69 [(0, .ref 4), (3, .int x3), (4, .int x4)] [.int s0] := by
  unfold j_X5_read_69_43 at hrun
  refine g_istore (lv' := [(0, .ref 4), (3, .int x3), (4, .int x4), (5, .int s0)]) C (dat dt_X5_read 38 rfl) (by decide) rfl ?_
  refine g_iload C (dat dt_X5_read 39 rfl) 3 rfl ?_
  refine g_if_eq 85 C (dat dt_X5_read 40 rfl) (by decide) (fun c13 => ?_) (fun c13 => ?_)
  · rw [if_pos c13] at hrun
    refine g_sub [] (lv' := []) rfl ?_
    cases hrun
    exact Ke (.inr <| .inl h) rfl
  · rw [if_neg c13] at hrun
    refine g_aload_n C (dat dt_X5_read 41 rfl) 0 rfl ?_
    refine g_iload C (dat dt_X5_read 42 rfl) 2 rfl ?_
    obtain ⟨v14, q15, hrun⟩ := bd hrun
    refine g_cVi [.int x4] C (dat dt_X5_read 43 rfl) ml_5_68 (w_X5_readIf x4 h v14  q15) kd_4 ltk_4 rfl rfl cat0 (by decide) c00 ?_
    refine g_if_ne 87 C (dat dt_X5_read 44 rfl) (by decide) (fun c16 => ?_) (fun c16 => ?_)
    · rw [if_pos (b2i_nz c16)] at hrun
      refine g_aload_n C (dat dt_X5_read 47 rfl) 0 rfl ?_
      refine g_getI C (dat dt_X5_read 48 rfl) fl_5_71 kd_4 rfl ltk_4 ?_
      refine g_bipush C (dat dt_X5_read 49 rfl) bp_29 ?_
      refine g_ic_ne 135 C (dat dt_X5_read 50 rfl) (by decide) (fun c17 => ?_) (fun c17 => ?_)
      · rw [if_neg c17] at hrun
        refine g_aload_n C (dat dt_X5_read 73 rfl) 0 rfl ?_
        refine g_bipush C (dat dt_X5_read 74 rfl) bp_59 ?_
        obtain ⟨v18, q19, hrun⟩ := bd hrun
        refine g_cVi [.int (59 : Int32)] C (dat dt_X5_read 75 rfl) ml_5_83 (w_X5_takeSign (59 : Int32) v14.2 v18  q19) kd_4 ltk_4 rfl rfl cat0 (by decide) c00 ?_
        refine g_if_ne 146 C (dat dt_X5_read 76 rfl) (by decide) (fun c20 => ?_) (fun c20 => ?_)
        · rw [if_pos (b2i_nz c20)] at hrun
          refine g_iinc (v := (x4 + (1 : Int32))) (lv' := [(0, .ref 4), (3, .int x3), (4, .int (x4 + (1 : Int32))), (5, .int s0)]) C (dat dt_X5_read 79 rfl) 2 rfl (congrArg (fun z => x4 + z) ic_1) (by decide) rfl ?_
          refine g_goto 43 C (dat dt_X5_read 80 rfl) (by decide) ?_
          refine g_sub [0, 1, 2] (lv' := [(0, .ref 4), (3, .int x3), (4, .int (x4 + (1 : Int32)))]) rfl ?_
          cases hrun
          exact Ks ((x4 + (1 : Int32)), v18.2) rfl
        · rw [if_neg (b2i_z c20)] at hrun
          refine g_sub [] (lv' := []) rfl ?_
          cases hrun
          exact Ke (.inr <| .inr <| .inl v18.2) rfl
      · rw [if_pos c17] at hrun
        refine g_sub [0, 2] (lv' := [(0, .ref 4), (4, .int x4)]) rfl ?_
        cases hrun
        exact Ke (.inr <| .inr <| .inr <| id (x4, v14.2)) rfl
    · rw [if_neg (b2i_z c16)] at hrun
      refine g_sub [] (lv' := []) rfl ?_
      cases hrun
      exact Ke (.inr <| .inl v14.2) rfl
def b_X5_read_43  (x3 : Int32) (x4 : Int32) (h : Hp) : Option ((Int32 × Hp) ⊕ (Hp ⊕ Hp ⊕ Hp ⊕ (Int32 × Hp))) :=
  if (12 : Int32) ≤ x4 then
  some (.inr (.inl h))
  else
  if x3 = 0 then
  (f_X5_readRule x4 h).bind fun v11 =>
  j_X5_read_69_43  x3 x4 (b2i v11.1) v11.2
  else
  (f_X5_readOrder x4 h).bind fun v21 =>
  j_X5_read_69_43  x3 x4 (b2i v21.1) v21.2
set_option maxRecDepth 20000 in
theorem wb_X5_read_43 {X : Xt} (C : Cx X cn_5 prog_7_method_2_code 6 (some (.object "SteamNations$Text")) 72 3 1604)   (x3 : Int32) (x4 : Int32) (h : Hp) (q : (Int32 × Hp) ⊕ (Hp ⊕ Hp ⊕ Hp ⊕ (Int32 × Hp))) (hrun : b_X5_read_43  x3 x4 h = some q) (Ks : ∀ s, q = .inl s → kp_X5_read_43  x3 X s) (Ke : ∀ e, q = .inr e → ke_X5_read_43  x3 X e) : kp_X5_read_43  x3 X (x4, h) := by
  show G X h 0 0 43 [(0, .ref 4), (3, .int x3), (4, .int x4)] []
  unfold b_X5_read_43 at hrun
  refine g_iload C (dat dt_X5_read 26 rfl) 2 rfl ?_
  refine g_bipush C (dat dt_X5_read 27 rfl) bp_12 ?_
  refine g_ic_ge 152 C (dat dt_X5_read 28 rfl) (by decide) (fun c9 => ?_) (fun c9 => ?_)
  · rw [if_pos c9] at hrun
    refine g_sub [0] (lv' := [(0, .ref 4)]) rfl ?_
    cases hrun
    exact Ke (.inl h) rfl
  · rw [if_neg c9] at hrun
    refine g_iload_n C (dat dt_X5_read 29 rfl) 1 rfl ?_
    refine g_if_eq 63 C (dat dt_X5_read 30 rfl) (by decide) (fun c10 => ?_) (fun c10 => ?_)
    · rw [if_pos c10] at hrun
      refine g_aload_n C (dat dt_X5_read 35 rfl) 0 rfl ?_
      refine g_iload C (dat dt_X5_read 36 rfl) 2 rfl ?_
      obtain ⟨v11, q12, hrun⟩ := bd hrun
      refine g_cVi [.int x4] C (dat dt_X5_read 37 rfl) ml_5_65 (w_X5_readRule x4 h v11  q12) kd_4 ltk_4 rfl rfl cat0 (by decide) c00 ?_
      exact wj_X5_read_69_43 C    x3 x4 (b2i v11.1) v11.2 _ hrun Ks Ke
    · rw [if_neg c10] at hrun
      refine g_aload_n C (dat dt_X5_read 31 rfl) 0 rfl ?_
      refine g_iload C (dat dt_X5_read 32 rfl) 2 rfl ?_
      obtain ⟨v21, q22, hrun⟩ := bd hrun
      refine g_cVi [.int x4] C (dat dt_X5_read 33 rfl) ml_5_61 (w_X5_readOrder x4 h v21  q22) kd_4 ltk_4 rfl rfl cat0 (by decide) c00 ?_
      refine g_goto 69 C (dat dt_X5_read 34 rfl) (by decide) ?_
      exact wj_X5_read_69_43 C    x3 x4 (b2i v21.1) v21.2 _ hrun Ks Ke
def f_X5_read (x2 : Int32) (x3 : Int32) (h : Hp) : Option (Option Nat × Hp) :=
  (i2b x3).bind fun b1 =>
  (f_J9_min_7cf53 x2 (400 : Int32)).bind fun v3 =>
  (f_X5_cut v3 (sF (sF (sF (sF h 4 5 (b2i b1)) 4 8 (0 : Int32)) 4 9 (0 : Int32)) 4 10 (-1 : Int32))).bind fun v5 =>
  (f_X5_goOn  (sF v5.2 4 6 (-1 : Int32))).bind fun v7 =>
  (lp (fun s => b_X5_read_43  x3 s.1 s.2) FU ((0 : Int32), v7.2)).bind fun e23 =>
  sc e23 (fun e25 =>
  (f_X5_wrong  e25).bind fun v26 =>
  some (none, v26.2)) (fun e28 =>
  sc e28 (fun e29 =>
  some (none, e29)) (fun e30 =>
  sc e30 (fun e31 =>
  some (none, e31)) (fun e32 =>
  rdT e32.2 e32.1)))
set_option maxRecDepth 20000 in
theorem w_X5_read (x2 : Int32) (x3 : Int32) (h : Hp) (q : (Option Nat × Hp))  (hrun : f_X5_read x2 x3 h = some q) : MetA ⟨"SteamNations$Reader", "read", "([IIZ)LSteamNations$Text;"⟩ prog_7_method_2_code 6 (some (.object "SteamNations$Text")) 72 3 1604 [.ref 4, .ref 3, .int x2, .int x3] h (some (vo q.1)) q.2 := by
  refine metA_of (by decide) (Nat.le_of_ble_eq_true rfl) (fun X C K => ?_)
  have C : Cx X cn_5 prog_7_method_2_code 6 (some (.object "SteamNations$Text")) 72 3 1604 := C
  show G X h 0 0 0 [(0, .ref 4), (1, .ref 3), (2, .int x2), (3, .int x3)] []
  unfold f_X5_read at hrun
  refine g_aload_n C (dat dt_X5_read 0 rfl) 0 rfl ?_
  refine g_iload_n C (dat dt_X5_read 1 rfl) 3 rfl ?_
  obtain ⟨b1, q2, hrun⟩ := bd hrun
  refine g_putZ (b := b1) C (dat dt_X5_read 2 rfl) fl_5_35 (i2b_eq q2) kd_4 rfl ltk_4 ?_
  refine g_aload_n C (dat dt_X5_read 3 rfl) 0 rfl ?_
  refine g_iconst C (dat dt_X5_read 4 rfl) ic_0 ?_
  refine g_putI C (dat dt_X5_read 5 rfl) fl_5_39 rfl rfl kd_4 rfl ltk_4 ?_
  refine g_aload_n C (dat dt_X5_read 6 rfl) 0 rfl ?_
  refine g_iconst C (dat dt_X5_read 7 rfl) ic_0 ?_
  refine g_putI C (dat dt_X5_read 8 rfl) fl_5_42 rfl rfl kd_4 rfl ltk_4 ?_
  refine g_aload_n C (dat dt_X5_read 9 rfl) 0 rfl ?_
  refine g_iconst C (dat dt_X5_read 10 rfl) ic_m1 ?_
  refine g_putI C (dat dt_X5_read 11 rfl) fl_5_31 rfl rfl kd_4 rfl ltk_4 ?_
  refine g_aload_n C (dat dt_X5_read 12 rfl) 0 rfl ?_
  refine g_aload_n C (dat dt_X5_read 13 rfl) 1 rfl ?_
  refine g_iload_n C (dat dt_X5_read 14 rfl) 2 rfl ?_
  refine g_aload_n C (dat dt_X5_read 15 rfl) 1 rfl ?_
  refine g_alen (v := (400 : Int32)) C (dat dt_X5_read 16 rfl) kd_3 (by decide) ltk_3 rfl ?_
  obtain ⟨v3, q4, hrun⟩ := bd hrun
  refine g_cSi [.int x2, .int (400 : Int32)] C (dat dt_X5_read 17 rfl) ml_5_45 (w_J9_min_7cf53 x2 (400 : Int32) (sF (sF (sF (sF h 4 5 (b2i b1)) 4 8 (0 : Int32)) 4 9 (0 : Int32)) 4 10 (-1 : Int32)) v3  q4) rfl rfl (Nat.le_of_ble_eq_true rfl) (by decide) c00 ?_
  obtain ⟨v5, q6, hrun⟩ := bd hrun
  refine g_cVv [.ref 3, .int v3] C (dat dt_X5_read 18 rfl) ml_5_51 (w_X5_cut v3 (sF (sF (sF (sF h 4 5 (b2i b1)) 4 8 (0 : Int32)) 4 9 (0 : Int32)) 4 10 (-1 : Int32)) v5  q6) kd_4 ltk_4 rfl rfl cat0 (by decide) c00 ?_
  refine g_aload_n C (dat dt_X5_read 19 rfl) 0 rfl ?_
  refine g_iconst C (dat dt_X5_read 20 rfl) ic_m1 ?_
  refine g_putI C (dat dt_X5_read 21 rfl) fl_5_55 rfl rfl kd_4 rfl ltk_4 ?_
  refine g_aload_n C (dat dt_X5_read 22 rfl) 0 rfl ?_
  obtain ⟨v7, q8, hrun⟩ := bd hrun
  refine g_cVv [] C (dat dt_X5_read 23 rfl) ml_5_58 (w_X5_goOn  (sF v5.2 4 6 (-1 : Int32)) v7  q8) kd_4 ltk_4 rfl rfl cat0 (by decide) c00 ?_
  refine g_iconst C (dat dt_X5_read 24 rfl) ic_0 ?_
  refine g_istore (lv' := [(0, .ref 4), (1, .ref 3), (2, .int x2), (3, .int x3), (4, .int (0 : Int32))]) C (dat dt_X5_read 25 rfl) (by decide) rfl ?_
  refine g_sub [0, 3, 4] (lv' := [(0, .ref 4), (3, .int x3), (4, .int (0 : Int32))]) rfl ?_
  obtain ⟨e23, q24, hrun⟩ := bd hrun
  refine lp_ind (P := fun s => kp_X5_read_43  x3 X s) (K := fun e => ke_X5_read_43  x3 X e) (fun s q hb Ks Ke => wb_X5_read_43 C   x3 s.1 s.2 q hb Ks Ke) FU ((0 : Int32), v7.2) e23 q24 ?_
  rcases e23 with e25 | e28
  · rw [sc_l] at hrun
    show G X e25 0 0 152 [(0, .ref 4)] []
    refine g_aload_n C (dat dt_X5_read 81 rfl) 0 rfl ?_
    obtain ⟨v26, q27, hrun⟩ := bd hrun
    refine g_cVi [] C (dat dt_X5_read 82 rfl) ml_5_87 (w_X5_wrong  e25 v26  q27) kd_4 ltk_4 rfl rfl cat0 (by decide) c00 ?_
    refine g_pop C (dat dt_X5_read 83 rfl) rfl ?_
    refine g_null C (dat dt_X5_read 84 rfl) ?_
    refine g_widen (k' := 3) (n' := 1604) (by decide) (by decide) ?_
    cases hrun
    exact g_aretN C K (dat dt_X5_read 85 rfl)
  · rw [sc_r] at hrun
    rcases e28 with e29 | e30
    · rw [sc_l] at hrun
      show G X e29 0 0 85 [] []
      refine g_null C (dat dt_X5_read 45 rfl) ?_
      refine g_widen (k' := 3) (n' := 1604) (by decide) (by decide) ?_
      cases hrun
      exact g_aretN C K (dat dt_X5_read 46 rfl)
    · rw [sc_r] at hrun
      rcases e30 with e31 | e32
      · rw [sc_l] at hrun
        show G X e31 0 0 144 [] []
        refine g_null C (dat dt_X5_read 77 rfl) ?_
        refine g_widen (k' := 3) (n' := 1604) (by decide) (by decide) ?_
        cases hrun
        exact g_aretN C K (dat dt_X5_read 78 rfl)
      · rw [sc_r] at hrun
        show G X e32.2 0 0 96 [(0, .ref 4), (4, .int e32.1)] []
        exact w_rdT (by decide) C e32.2 e32.1 _ hrun K
