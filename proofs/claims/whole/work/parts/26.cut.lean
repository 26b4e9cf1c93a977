/-! SteamNations$Reader.wordNumber([III)I -/
def dl_X5_wordNumber : List (Nat × Instr × Nat) := [(0, .iconst 0, 1), (1, .istore_n 3, 1), (2, .iload_n 1, 1), (3, .istore 4, 2), (5, .iconst 1, 1), (6, .istore 5, 2), (8, .iconst 0, 1), (9, .istore 6, 2), (11, .iload 6, 2), (13, .ldc 104, 2), (15, .invokevirtual 106, 3), (18, .if_icmp .ge 80, 3), (21, .ldc 104, 2), (23, .iload 6, 2), (25, .invokevirtual 112, 3), (28, .istore 7, 2), (30, .iload 7, 2), (32, .bipush 32, 2), (34, .if_icmp .eq 36, 3), (37, .iload 5, 2), (39, .ifCond .eq 22, 3), (42, .iload 4, 2), (44, .iload_n 2, 1), (45, .if_icmp .ge 16, 3), (48, .aload_n 0, 1), (49, .iload 4, 2), (51, .iaload, 1), (52, .iload 7, 2), (54, .if_icmp .ne 7, 3), (57, .iconst 1, 1), (58, .goto 4, 3), (61, .iconst 0, 1), (62, .istore 5, 2), (64, .iinc 4 1, 3), (67, .goto 25, 3), (70, .iload 5, 2), (72, .ifCond .eq 11, 3), (75, .iload 4, 2), (77, .iload_n 2, 1), (78, .if_icmp .ne 5, 3), (81, .iload_n 3, 1), (82, .ireturn, 1), (83, .iinc 3 1, 3), (86, .iload_n 1, 1), (87, .istore 4, 2), (89, .iconst 1, 1), (90, .istore 5, 2), (92, .iinc 6 1, 3), (95, .goto (-84), 3), (98, .bipush 27, 2), (100, .ireturn, 1)]
set_option maxRecDepth 20000 in
theorem dt_X5_wordNumber : ∀ q ∈ dl_X5_wordNumber, decode prog_7_method_6_code q.1 = .ok q.2 := by decide +kernel
def kp_X5_wordNumber_11  (x1 : Int32) (x2 : Int32) (h : Hp) (X : Xt) (s : (Int32 × Int32 × Int32 × Int32)) : Prop := G X h 0 0 11 [(0, .ref 3), (1, .int x1), (2, .int x2), (3, .int s.1), (4, .int s.2.1), (5, .int s.2.2.1), (6, .int s.2.2.2)] []
def ke_X5_wordNumber_11  (x1 : Int32) (x2 : Int32) (h : Hp) (X : Xt) (e : (Unit ⊕ Int32)) : Prop := match e with
  | .inl e => G X h 0 0 98 [] []
  | .inr (e) => G X h 0 0 81 [(3, .int e)] []
def j_X5_wordNumber_83_11  (x1 : Int32) (x2 : Int32) (x3 : Int32) (x6 : Int32) (h : Hp) : Option ((Int32 × Int32 × Int32 × Int32) ⊕ (Unit ⊕ Int32)) :=
  some (.inl ((x3 + (1 : Int32)), x1, (1 : Int32), (x6 + (1 : Int32))))
set_option maxRecDepth 20000 in
theorem wj_X5_wordNumber_83_11 {X : Xt} (C : Cx X cn_5 prog_7_method_6_code 8 (some .int) 6 0 0)    (x1 : Int32) (x2 : Int32) (x3 : Int32) (x6 : Int32) (h : Hp) (q : (Int32 × Int32 × Int32 × Int32) ⊕ (Unit ⊕ Int32)) (hrun : j_X5_wordNumber_83_11  x1 x2 x3 x6 h = some q) (Ks : ∀ s, q = .inl s → kp_X5_wordNumber_11  x1 x2 h X s) (Ke : ∀ e, q = .inr e → ke_X5_wordNumber_11  x1 x2 h X e) : G X h 0 0 83 [(0, .ref 3), (1, .int x1), (2, .int x2), (3, .int x3), (6, .int x6)] [] := by
  unfold j_X5_wordNumber_83_11 at hrun
  refine g_iinc (v := (x3 + (1 : Int32))) (lv' := [(0, .ref 3), (1, .int x1), (2, .int x2), (3, .int (x3 + (1 : Int32))), (6, .int x6)]) C (dat dt_X5_wordNumber 42 rfl) 3 rfl (congrArg (fun z => x3 + z) ic_1) (by decide) rfl ?_
  refine g_iload_n C (dat dt_X5_wordNumber 43 rfl) 1 rfl ?_
  refine g_istore (lv' := [(0, .ref 3), (1, .int x1), (2, .int x2), (3, .int (x3 + (1 : Int32))), (4, .int x1), (6, .int x6)]) C (dat dt_X5_wordNumber 44 rfl) (by decide) rfl ?_
  refine g_iconst C (dat dt_X5_wordNumber 45 rfl) ic_1 ?_
  refine g_istore (lv' := [(0, .ref 3), (1, .int x1), (2, .int x2), (3, .int (x3 + (1 : Int32))), (4, .int x1), (5, .int (1 : Int32)), (6, .int x6)]) C (dat dt_X5_wordNumber 46 rfl) (by decide) rfl ?_
  refine g_iinc (v := (x6 + (1 : Int32))) (lv' := [(0, .ref 3), (1, .int x1), (2, .int x2), (3, .int (x3 + (1 : Int32))), (4, .int x1), (5, .int (1 : Int32)), (6, .int (x6 + (1 : Int32)))]) C (dat dt_X5_wordNumber 47 rfl) 6 rfl (congrArg (fun z => x6 + z) ic_1) (by decide) rfl ?_
  refine g_goto 11 C (dat dt_X5_wordNumber 48 rfl) (by decide) ?_
  cases hrun
  exact Ks ((x3 + (1 : Int32)), x1, (1 : Int32), (x6 + (1 : Int32))) rfl
def j_X5_wordNumber_62_11  (x1 : Int32) (x2 : Int32) (x3 : Int32) (x4 : Int32) (x6 : Int32) (s0 : Int32) (h : Hp) : Option ((Int32 × Int32 × Int32 × Int32) ⊕ (Unit ⊕ Int32)) :=
  some (.inl (x3, (x4 + (1 : Int32)), s0, (x6 + (1 : Int32))))
set_option maxRecDepth 20000 in
theorem wj_X5_wordNumber_62_11 {X : Xt} (C : Cx X cn_5 prog_7_method_6_code 8 (some .int) 6 0 0)    (x1 : Int32) (x2 : Int32) (x3 : Int32) (x4 : Int32) (x6 : Int32) (s0 : Int32) (h : Hp) (q : (Int32 × Int32 × Int32 × Int32) ⊕ (Unit ⊕ Int32)) (hrun : j_X5_wordNumber_62_11  x1 x2 x3 x4 x6 s0 h = some q) (Ks : ∀ s, q = .inl s → kp_X5_wordNumber_11  x1 x2 h X s) (Ke : ∀ e, q = .inr e → ke_X5_wordNumber_11  x1 x2 h X e) : G X h 0 0 62 [(0, .ref 3), (1, .int x1), (2, .int x2), (3, .int x3), (4, .int x4), (6, .int x6)] [.int s0] := by
  unfold j_X5_wordNumber_62_11 at hrun
  refine g_istore (lv' := [(0, .ref 3), (1, .int x1), (2, .int x2), (3, .int x3), (4, .int x4), (5, .int s0), (6, .int x6)]) C (dat dt_X5_wordNumber 32 rfl) (by decide) rfl ?_
  refine g_iinc (v := (x4 + (1 : Int32))) (lv' := [(0, .ref 3), (1, .int x1), (2, .int x2), (3, .int x3), (4, .int (x4 + (1 : Int32))), (5, .int s0), (6, .int x6)]) C (dat dt_X5_wordNumber 33 rfl) 4 rfl (congrArg (fun z => x4 + z) ic_1) (by decide) rfl ?_
  refine g_goto 92 C (dat dt_X5_wordNumber 34 rfl) (by decide) ?_
  refine g_iinc (v := (x6 + (1 : Int32))) (lv' := [(0, .ref 3), (1, .int x1), (2, .int x2), (3, .int x3), (4, .int (x4 + (1 : Int32))), (5, .int s0), (6, .int (x6 + (1 : Int32)))]) C (dat dt_X5_wordNumber 47 rfl) 6 rfl (congrArg (fun z => x6 + z) ic_1) (by decide) rfl ?_
  refine g_goto 11 C (dat dt_X5_wordNumber 48 rfl) (by decide) ?_
  cases hrun
  exact Ks (x3, (x4 + (1 : Int32)), s0, (x6 + (1 : Int32))) rfl
def j_X5_wordNumber_61_11  (x1 : Int32) (x2 : Int32) (x3 : Int32) (x4 : Int32) (x6 : Int32) (h : Hp) : Option ((Int32 × Int32 × Int32 × Int32) ⊕ (Unit ⊕ Int32)) :=
  j_X5_wordNumber_62_11  x1 x2 x3 x4 x6 (0 : Int32) h
set_option maxRecDepth 20000 in
theorem wj_X5_wordNumber_61_11 {X : Xt} (C : Cx X cn_5 prog_7_method_6_code 8 (some .int) 6 0 0)    (x1 : Int32) (x2 : Int32) (x3 : Int32) (x4 : Int32) (x6 : Int32) (h : Hp) (q : (Int32 × Int32 × Int32 × Int32) ⊕ (Unit ⊕ Int32)) (hrun : j_X5_wordNumber_61_11  x1 x2 x3 x4 x6 h = some q) (Ks : ∀ s, q = .inl s → kp_X5_wordNumber_11  x1 x2 h X s) (Ke : ∀ e, q = .inr e → ke_X5_wordNumber_11  x1 x2 h X e) : G X h 0 0 61 [(0, .ref 3), (1, .int x1), (2, .int x2), (3, .int x3), (4, .int x4), (6, .int x6)] [] := by
  unfold j_X5_wordNumber_61_11 at hrun
  refine g_iconst C (dat dt_X5_wordNumber 31 rfl) ic_0 ?_
  exact wj_X5_wordNumber_62_11 C    x1 x2 x3 x4 x6 (0 : Int32) h _ hrun Ks Ke
def b_X5_wordNumber_11  (x1 : Int32) (x2 : Int32) (x3 : Int32) (x4 : Int32) (x5 : Int32) (x6 : Int32) (h : Hp) : Option ((Int32 × Int32 × Int32 × Int32) ⊕ (Unit ⊕ Int32)) :=
  if (144 : Int32) ≤ x6 then
  some (.inr (.inl ()))
  else
  (inb x6 144).bind fun j2 =>
  if (wch j2) = (32 : Int32) then
  if x5 = 0 then
  j_X5_wordNumber_83_11  x1 x2 x3 x6 h
  else
  if x4 = x2 then
  some (.inr (.inr <| id x3))
  else
  j_X5_wordNumber_83_11  x1 x2 x3 x6 h
  else
  if x5 = 0 then
  j_X5_wordNumber_61_11  x1 x2 x3 x4 x6 h
  else
  if x2 ≤ x4 then
  j_X5_wordNumber_61_11  x1 x2 x3 x4 x6 h
  else
  (inb x4 400).bind fun j9 =>
  if (aI h 3 j9) = (wch j2) then
  j_X5_wordNumber_62_11  x1 x2 x3 x4 x6 (1 : Int32) h
  else
  j_X5_wordNumber_61_11  x1 x2 x3 x4 x6 h
set_option maxRecDepth 20000 in
theorem wb_X5_wordNumber_11 {X : Xt} (C : Cx X cn_5 prog_7_method_6_code 8 (some .int) 6 0 0)   (x1 : Int32) (x2 : Int32) (x3 : Int32) (x4 : Int32) (x5 : Int32) (x6 : Int32) (h : Hp) (q : (Int32 × Int32 × Int32 × Int32) ⊕ (Unit ⊕ Int32)) (hrun : b_X5_wordNumber_11  x1 x2 x3 x4 x5 x6 h = some q) (Ks : ∀ s, q = .inl s → kp_X5_wordNumber_11  x1 x2 h X s) (Ke : ∀ e, q = .inr e → ke_X5_wordNumber_11  x1 x2 h X e) : kp_X5_wordNumber_11  x1 x2 h X (x3, x4, x5, x6) := by
  show G X h 0 0 11 [(0, .ref 3), (1, .int x1), (2, .int x2), (3, .int x3), (4, .int x4), (5, .int x5), (6, .int x6)] []
  unfold b_X5_wordNumber_11 at hrun
  refine g_iload C (dat dt_X5_wordNumber 8 rfl) 6 rfl ?_
  refine g_ldcS C (dat dt_X5_wordNumber 9 rfl) ?_
  refine g_cTlen C (dat dt_X5_wordNumber 10 rfl) (Nat.le_of_ble_eq_true rfl) (by decide) c00 ?_
  refine g_ic_ge 98 C (dat dt_X5_wordNumber 11 rfl) (by decide) (fun c1 => ?_) (fun c1 => ?_)
  · rw [if_pos c1] at hrun
    refine g_sub [] (lv' := []) rfl ?_
    cases hrun
    exact Ke (.inl ()) rfl
  · rw [if_neg c1] at hrun
    refine g_ldcS C (dat dt_X5_wordNumber 12 rfl) ?_
    refine g_iload C (dat dt_X5_wordNumber 13 rfl) 6 rfl ?_
    obtain ⟨j2, q3, hrun⟩ := bd hrun
    refine g_cTchr C (dat dt_X5_wordNumber 14 rfl) q3 cat0 (by decide) c00 ?_
    refine g_istore (lv' := [(0, .ref 3), (1, .int x1), (2, .int x2), (3, .int x3), (4, .int x4), (5, .int x5), (6, .int x6), (7, .int (wch j2))]) C (dat dt_X5_wordNumber 15 rfl) (by decide) rfl ?_
    refine g_iload C (dat dt_X5_wordNumber 16 rfl) 7 rfl ?_
    refine g_bipush C (dat dt_X5_wordNumber 17 rfl) bp_32 ?_
    refine g_ic_eq 70 C (dat dt_X5_wordNumber 18 rfl) (by decide) (fun c4 => ?_) (fun c4 => ?_)
    · rw [if_pos c4] at hrun
      refine g_iload C (dat dt_X5_wordNumber 35 rfl) 5 rfl ?_
      refine g_if_eq 83 C (dat dt_X5_wordNumber 36 rfl) (by decide) (fun c5 => ?_) (fun c5 => ?_)
      · rw [if_pos c5] at hrun
        refine g_sub [0, 1, 2, 3, 6] (lv' := [(0, .ref 3), (1, .int x1), (2, .int x2), (3, .int x3), (6, .int x6)]) rfl ?_
        exact wj_X5_wordNumber_83_11 C    x1 x2 x3 x6 h _ hrun Ks Ke
      · rw [if_neg c5] at hrun
        refine g_iload C (dat dt_X5_wordNumber 37 rfl) 4 rfl ?_
        refine g_iload_n C (dat dt_X5_wordNumber 38 rfl) 2 rfl ?_
        refine g_ic_ne 83 C (dat dt_X5_wordNumber 39 rfl) (by decide) (fun c6 => ?_) (fun c6 => ?_)
        · rw [if_neg c6] at hrun
          refine g_sub [0, 1, 2, 3, 6] (lv' := [(0, .ref 3), (1, .int x1), (2, .int x2), (3, .int x3), (6, .int x6)]) rfl ?_
          exact wj_X5_wordNumber_83_11 C    x1 x2 x3 x6 h _ hrun Ks Ke
        · rw [if_pos c6] at hrun
          refine g_sub [3] (lv' := [(3, .int x3)]) rfl ?_
          cases hrun
          exact Ke (.inr <| id x3) rfl
    · rw [if_neg c4] at hrun
      refine g_iload C (dat dt_X5_wordNumber 19 rfl) 5 rfl ?_
      refine g_if_eq 61 C (dat dt_X5_wordNumber 20 rfl) (by decide) (fun c7 => ?_) (fun c7 => ?_)
      · rw [if_pos c7] at hrun
        refine g_sub [0, 1, 2, 3, 4, 6] (lv' := [(0, .ref 3), (1, .int x1), (2, .int x2), (3, .int x3), (4, .int x4), (6, .int x6)]) rfl ?_
        exact wj_X5_wordNumber_61_11 C    x1 x2 x3 x4 x6 h _ hrun Ks Ke
      · rw [if_neg c7] at hrun
        refine g_iload C (dat dt_X5_wordNumber 21 rfl) 4 rfl ?_
        refine g_iload_n C (dat dt_X5_wordNumber 22 rfl) 2 rfl ?_
        refine g_ic_ge 61 C (dat dt_X5_wordNumber 23 rfl) (by decide) (fun c8 => ?_) (fun c8 => ?_)
        · rw [if_pos c8] at hrun
          refine g_sub [0, 1, 2, 3, 4, 6] (lv' := [(0, .ref 3), (1, .int x1), (2, .int x2), (3, .int x3), (4, .int x4), (6, .int x6)]) rfl ?_
          exact wj_X5_wordNumber_61_11 C    x1 x2 x3 x4 x6 h _ hrun Ks Ke
        · rw [if_neg c8] at hrun
          refine g_aload_n C (dat dt_X5_wordNumber 24 rfl) 0 rfl ?_
          refine g_iload C (dat dt_X5_wordNumber 25 rfl) 4 rfl ?_
          obtain ⟨j9, q10, hrun⟩ := bd hrun
          refine g_iald C (dat dt_X5_wordNumber 26 rfl) kd_3 ltk_3 q10 ?_
          refine g_iload C (dat dt_X5_wordNumber 27 rfl) 7 rfl ?_
          refine g_ic_ne 61 C (dat dt_X5_wordNumber 28 rfl) (by decide) (fun c11 => ?_) (fun c11 => ?_)
          · rw [if_neg c11] at hrun
            refine g_sub [0, 1, 2, 3, 4, 6] (lv' := [(0, .ref 3), (1, .int x1), (2, .int x2), (3, .int x3), (4, .int x4), (6, .int x6)]) rfl ?_
            exact wj_X5_wordNumber_61_11 C    x1 x2 x3 x4 x6 h _ hrun Ks Ke
          · rw [if_pos c11] at hrun
            refine g_iconst C (dat dt_X5_wordNumber 29 rfl) ic_1 ?_
            refine g_goto 62 C (dat dt_X5_wordNumber 30 rfl) (by decide) ?_
            refine g_sub [0, 1, 2, 3, 4, 6] (lv' := [(0, .ref 3), (1, .int x1), (2, .int x2), (3, .int x3), (4, .int x4), (6, .int x6)]) rfl ?_
            exact wj_X5_wordNumber_62_11 C    x1 x2 x3 x4 x6 (1 : Int32) h _ hrun Ks Ke
def f_X5_wordNumber (x1 : Int32) (x2 : Int32) (h : Hp) : Option Int32 :=
  (lp (fun s => b_X5_wordNumber_11  x1 x2 s.1 s.2.1 s.2.2.1 s.2.2.2 h) FU ((0 : Int32), x1, (1 : Int32), (0 : Int32))).bind fun e12 =>
  sc e12 (fun e14 =>
  some (27 : Int32)) (fun e15 =>
  some e15)
set_option maxRecDepth 20000 in
theorem w_X5_wordNumber (x1 : Int32) (x2 : Int32) (h : Hp) (q : Int32)  (hrun : f_X5_wordNumber x1 x2 h = some q) : MetA ⟨"SteamNations$Reader", "wordNumber", "([III)I"⟩ prog_7_method_6_code 8 (some .int) 6 0 0 [.ref 3, .int x1, .int x2] h (some (.int q)) h := by
  refine metA_of (by decide) (Nat.le_of_ble_eq_true rfl) (fun X C K => ?_)
  have C : Cx X cn_5 prog_7_method_6_code 8 (some .int) 6 0 0 := C
  show G X h 0 0 0 [(0, .ref 3), (1, .int x1), (2, .int x2)] []
  unfold f_X5_wordNumber at hrun
  refine g_iconst C (dat dt_X5_wordNumber 0 rfl) ic_0 ?_
  refine g_istore_n (lv' := [(0, .ref 3), (1, .int x1), (2, .int x2), (3, .int (0 : Int32))]) C (dat dt_X5_wordNumber 1 rfl) (by decide) rfl ?_
  refine g_iload_n C (dat dt_X5_wordNumber 2 rfl) 1 rfl ?_
  refine g_istore (lv' := [(0, .ref 3), (1, .int x1), (2, .int x2), (3, .int (0 : Int32)), (4, .int x1)]) C (dat dt_X5_wordNumber 3 rfl) (by decide) rfl ?_
  refine g_iconst C (dat dt_X5_wordNumber 4 rfl) ic_1 ?_
  refine g_istore (lv' := [(0, .ref 3), (1, .int x1), (2, .int x2), (3, .int (0 : Int32)), (4, .int x1), (5, .int (1 : Int32))]) C (dat dt_X5_wordNumber 5 rfl) (by decide) rfl ?_
  refine g_iconst C (dat dt_X5_wordNumber 6 rfl) ic_0 ?_
  refine g_istore (lv' := [(0, .ref 3), (1, .int x1), (2, .int x2), (3, .int (0 : Int32)), (4, .int x1), (5, .int (1 : Int32)), (6, .int (0 : Int32))]) C (dat dt_X5_wordNumber 7 rfl) (by decide) rfl ?_
  obtain ⟨e12, q13, hrun⟩ := bd hrun
  refine lp_ind (P := fun s => kp_X5_wordNumber_11  x1 x2 h X s) (K := fun e => ke_X5_wordNumber_11  x1 x2 h X e) (fun s q hb Ks Ke => wb_X5_wordNumber_11 C   x1 x2 s.1 s.2.1 s.2.2.1 s.2.2.2 h q hb Ks Ke) FU ((0 : Int32), x1, (1 : Int32), (0 : Int32)) e12 q13 ?_
  rcases e12 with e14 | e15
  · rw [sc_l] at hrun
    show G X h 0 0 98 [] []
    refine g_bipush C (dat dt_X5_wordNumber 49 rfl) bp_27 ?_
    cases hrun
    exact g_iret C K (dat dt_X5_wordNumber 50 rfl)
  · rw [sc_r] at hrun
    show G X h 0 0 81 [(3, .int e15)] []
    refine g_iload_n C (dat dt_X5_wordNumber 40 rfl) 0 rfl ?_
    cases hrun
    exact g_iret C K (dat dt_X5_wordNumber 41 rfl)
/-! SteamNations$Reader.cut([II)V -/
def dl_X5_cut : List (Nat × Instr × Nat) := [(0, .iconst 0, 1), (1, .istore_n 3, 1), (2, .iconst 0, 1), (3, .istore 4, 2), (5, .iload 4, 2), (7, .iload_n 2, 1), (8, .if_icmp .ge 162, 3), (11, .iload_n 3, 1), (12, .sipush 400, 3), (15, .if_icmp .ge 155, 3), (18, .iload 4, 2), (20, .istore 5, 2), (22, .iinc 4 1, 3), (25, .aload_n 1, 1), (26, .iload 5, 2), (28, .iaload, 1), (29, .bipush 32, 2), (31, .if_icmp .ne 6, 3), (34, .goto (-29), 3), (37, .aload_n 0, 1), (38, .getfield 15, 3), (41, .iload_n 3, 1), (42, .iload 5, 2), (44, .iastore, 1), (45, .aload_n 1, 1), (46, .iload 5, 2), (48, .iaload, 1), (49, .invokestatic 91, 3), (52, .ifCond .eq 42, 3), (55, .iload 4, 2), (57, .iload_n 2, 1), (58, .if_icmp .ge 19, 3), (61, .aload_n 1, 1), (62, .iload 4, 2), (64, .iaload, 1), (65, .invokestatic 91, 3), (68, .ifCond .eq 9, 3), (71, .iinc 4 1, 3), (74, .goto (-19), 3), (77, .aload_n 0, 1), (78, .getfield 11, 3), (81, .iload_n 3, 1), (82, .aload_n 1, 1), (83, .iload 5, 2), (85, .iload 4, 2), (87, .invokestatic 94, 3), (90, .iastore, 1), (91, .goto 73, 3), (94, .aload_n 1, 1), (95, .iload 5, 2), (97, .iaload, 1), (98, .invokestatic 98, 3), (101, .ifCond .eq 50, 3), (104, .iload 4, 2), (106, .iload_n 2, 1), (107, .if_icmp .ge 19, 3), (110, .aload_n 1, 1), (111, .iload 4, 2), (113, .iaload, 1), (114, .invokestatic 98, 3), (117, .ifCond .eq 9, 3), (120, .iinc 4 1, 3), (123, .goto (-19), 3), (126, .aload_n 0, 1), (127, .getfield 11, 3), (130, .iload_n 3, 1), (131, .bipush 28, 2), (133, .iastore, 1), (134, .aload_n 0, 1), (135, .getfield 18, 3), (138, .iload_n 3, 1), (139, .aload_n 1, 1), (140, .iload 5, 2), (142, .iload 4, 2), (144, .invokestatic 101, 3), (147, .iastore, 1), (148, .goto 16, 3), (151, .aload_n 0, 1), (152, .getfield 11, 3), (155, .iload_n 3, 1), (156, .bipush 100, 2), (158, .aload_n 1, 1), (159, .iload 5, 2), (161, .iaload, 1), (162, .iadd, 1), (163, .iastore, 1), (164, .iinc 3 1, 3), (167, .goto (-162), 3), (170, .aload_n 0, 1), (171, .getfield 15, 3), (174, .iload_n 3, 1), (175, .iload_n 2, 1), (176, .iastore, 1), (177, .aload_n 0, 1), (178, .getfield 11, 3), (181, .iload_n 3, 1), (182, .bipush 29, 2), (184, .iastore, 1), (185, .return_, 1)]
set_option maxRecDepth 20000 in
theorem dt_X5_cut : ∀ q ∈ dl_X5_cut, decode prog_7_method_3_code q.1 = .ok q.2 := by decide +kernel
def kp_X5_cut_5  (x2 : Int32) (X : Xt) (s : (Int32 × Int32 × Hp)) : Prop := G X s.2.2 0 0 5 [(0, .ref 4), (1, .ref 3), (2, .int x2), (3, .int s.1), (4, .int s.2.1)] []
def ke_X5_cut_5  (x2 : Int32) (X : Xt) (e : (Int32 × Hp)) : Prop := G X e.2 0 0 170 [(0, .ref 4), (2, .int x2), (3, .int e.1)] []
def kp_X5_cut_104_5  (x2 : Int32) (x3 : Int32) (x5 : Int32) (h : Hp) (X : Xt) (s : Int32) : Prop := G X h 0 0 104 [(0, .ref 4), (1, .ref 3), (2, .int x2), (3, .int x3), (4, .int s), (5, .int x5)] []
def ke_X5_cut_104_5  (x2 : Int32) (x3 : Int32) (x5 : Int32) (h : Hp) (X : Xt) (e : Int32) : Prop := G X h 0 0 126 [(0, .ref 4), (1, .ref 3), (2, .int x2), (3, .int x3), (4, .int e), (5, .int x5)] []
def b_X5_cut_104_5  (x2 : Int32) (x3 : Int32) (x5 : Int32) (x4 : Int32) (h : Hp) : Option (Int32 ⊕ Int32) :=
  if x2 ≤ x4 then
  some (.inr ( x4))
  else
  (inb x4 400).bind fun j23 =>
  (f_X5_isDigit (aI h 3 j23)).bind fun v25 =>
  if v25 = true then
  some (.inl (x4 + (1 : Int32)))
  else
  some (.inr ( x4))
set_option maxRecDepth 20000 in
theorem wb_X5_cut_104_5 {X : Xt} (C : Cx X cn_5 prog_7_method_3_code 6 none 7 0 0)   (x2 : Int32) (x3 : Int32) (x5 : Int32) (x4 : Int32) (h : Hp) (q : Int32 ⊕ Int32) (hrun : b_X5_cut_104_5  x2 x3 x5 x4 h = some q) (Ks : ∀ s, q = .inl s → kp_X5_cut_104_5  x2 x3 x5 h X s) (Ke : ∀ e, q = .inr e → ke_X5_cut_104_5  x2 x3 x5 h X e) : kp_X5_cut_104_5  x2 x3 x5 h X x4 := by
  show G X h 0 0 104 [(0, .ref 4), (1, .ref 3), (2, .int x2), (3, .int x3), (4, .int x4), (5, .int x5)] []
  unfold b_X5_cut_104_5 at hrun
  refine g_iload C (dat dt_X5_cut 53 rfl) 4 rfl ?_
  refine g_iload_n C (dat dt_X5_cut 54 rfl) 2 rfl ?_
  refine g_ic_ge 126 C (dat dt_X5_cut 55 rfl) (by decide) (fun c22 => ?_) (fun c22 => ?_)
  · rw [if_pos c22] at hrun
    cases hrun
    exact Ke ( x4) rfl
  · rw [if_neg c22] at hrun
    refine g_aload_n C (dat dt_X5_cut 56 rfl) 1 rfl ?_
    refine g_iload C (dat dt_X5_cut 57 rfl) 4 rfl ?_
    obtain ⟨j23, q24, hrun⟩ := bd hrun
    refine g_iald C (dat dt_X5_cut 58 rfl) kd_3 ltk_3 q24 ?_
    obtain ⟨v25, q26, hrun⟩ := bd hrun
    refine g_cSi [.int (aI h 3 j23)] C (dat dt_X5_cut 59 rfl) ml_5_98 (w_X5_isDigit (aI h 3 j23) h v25  q26) rfl rfl cat0 (by decide) c00 ?_
    refine g_if_eq 126 C (dat dt_X5_cut 60 rfl) (by decide) (fun c27 => ?_) (fun c27 => ?_)
    · rw [if_neg (b2i_z c27)] at hrun
      cases hrun
      exact Ke ( x4) rfl
    · rw [if_pos (b2i_nz c27)] at hrun
      refine g_iinc (v := (x4 + (1 : Int32))) (lv' := [(0, .ref 4), (1, .ref 3), (2, .int x2), (3, .int x3), (4, .int (x4 + (1 : Int32))), (5, .int x5)]) C (dat dt_X5_cut 61 rfl) 4 rfl (congrArg (fun z => x4 + z) ic_1) (by decide) rfl ?_
      refine g_goto 104 C (dat dt_X5_cut 62 rfl) (by decide) ?_
      cases hrun
      exact Ks (x4 + (1 : Int32)) rfl
def j_X5_cut_126_5  (x2 : Int32) (x3 : Int32) (x4 : Int32) (x5 : Int32) (h : Hp) : Option ((Int32 × Int32 × Hp) ⊕ (Int32 × Hp)) :=
  (inb x3 401).bind fun j30 =>
  (f_X5_valueOf x5 x4 (sA h 5 j30 (28 : Int32))).bind fun v32 =>
  (inb x3 401).bind fun j34 =>
  some (.inl ((x3 + (1 : Int32)), x4, (sA (sA h 5 j30 (28 : Int32)) 7 j34 v32)))
set_option maxRecDepth 20000 in
theorem wj_X5_cut_126_5 {X : Xt} (C : Cx X cn_5 prog_7_method_3_code 6 none 7 0 0)    (x2 : Int32) (x3 : Int32) (x4 : Int32) (x5 : Int32) (h : Hp) (q : (Int32 × Int32 × Hp) ⊕ (Int32 × Hp)) (hrun : j_X5_cut_126_5  x2 x3 x4 x5 h = some q) (Ks : ∀ s, q = .inl s → kp_X5_cut_5  x2 X s) (Ke : ∀ e, q = .inr e → ke_X5_cut_5  x2 X e) : G X h 0 0 126 [(0, .ref 4), (1, .ref 3), (2, .int x2), (3, .int x3), (4, .int x4), (5, .int x5)] [] := by
  unfold j_X5_cut_126_5 at hrun
  refine g_aload_n C (dat dt_X5_cut 63 rfl) 0 rfl ?_
  refine g_getR C (dat dt_X5_cut 64 rfl) fl_5_11 kd_4 rfl ltk_4 ?_
  refine g_iload_n C (dat dt_X5_cut 65 rfl) 3 rfl ?_
  refine g_bipush C (dat dt_X5_cut 66 rfl) bp_28 ?_
  obtain ⟨j30, q31, hrun⟩ := bd hrun
  refine g_iast (j := j30) C (dat dt_X5_cut 67 rfl) kd_5 ltk_5 q31  ?_
  refine g_aload_n C (dat dt_X5_cut 68 rfl) 0 rfl ?_
  refine g_getR C (dat dt_X5_cut 69 rfl) fl_5_18 kd_4 rfl ltk_4 ?_
  refine g_iload_n C (dat dt_X5_cut 70 rfl) 3 rfl ?_
  refine g_aload_n C (dat dt_X5_cut 71 rfl) 1 rfl ?_
  refine g_iload C (dat dt_X5_cut 72 rfl) 5 rfl ?_
  refine g_iload C (dat dt_X5_cut 73 rfl) 4 rfl ?_
  obtain ⟨v32, q33, hrun⟩ := bd hrun
  refine g_cSi [.ref 3, .int x5, .int x4] C (dat dt_X5_cut 74 rfl) ml_5_101 (w_X5_valueOf x5 x4 (sA h 5 j30 (28 : Int32)) v32  q33) rfl rfl (Nat.le_of_ble_eq_true rfl) (by decide) c00 ?_
  obtain ⟨j34, q35, hrun⟩ := bd hrun
  refine g_iast (j := j34) C (dat dt_X5_cut 75 rfl) kd_7 ltk_7 q35  ?_
  refine g_goto 164 C (dat dt_X5_cut 76 rfl) (by decide) ?_
  refine g_iinc (v := (x3 + (1 : Int32))) (lv' := [(0, .ref 4), (1, .ref 3), (2, .int x2), (3, .int (x3 + (1 : Int32))), (4, .int x4), (5, .int x5)]) C (dat dt_X5_cut 86 rfl) 3 rfl (congrArg (fun z => x3 + z) ic_1) (by decide) rfl ?_
  refine g_goto 5 C (dat dt_X5_cut 87 rfl) (by decide) ?_
  refine g_sub [0, 1, 2, 3, 4] (lv' := [(0, .ref 4), (1, .ref 3), (2, .int x2), (3, .int (x3 + (1 : Int32))), (4, .int x4)]) rfl ?_
  cases hrun
  exact Ks ((x3 + (1 : Int32)), x4, (sA (sA h 5 j30 (28 : Int32)) 7 j34 v32)) rfl
def kp_X5_cut_55_5  (x2 : Int32) (x3 : Int32) (x5 : Int32) (h : Hp) (X : Xt) (s : Int32) : Prop := G X h 0 0 55 [(0, .ref 4), (1, .ref 3), (2, .int x2), (3, .int x3), (4, .int s), (5, .int x5)] []
def ke_X5_cut_55_5  (x2 : Int32) (x3 : Int32) (x5 : Int32) (h : Hp) (X : Xt) (e : Int32) : Prop := G X h 0 0 77 [(0, .ref 4), (1, .ref 3), (2, .int x2), (3, .int x3), (4, .int e), (5, .int x5)] []
def b_X5_cut_55_5  (x2 : Int32) (x3 : Int32) (x5 : Int32) (x4 : Int32) (h : Hp) : Option (Int32 ⊕ Int32) :=
  if x2 ≤ x4 then
  some (.inr ( x4))
  else
  (inb x4 400).bind fun j37 =>
  (f_X5_isLetter (aI h 3 j37)).bind fun v39 =>
  if v39 = true then
  some (.inl (x4 + (1 : Int32)))
  else
  some (.inr ( x4))
set_option maxRecDepth 20000 in
theorem wb_X5_cut_55_5 {X : Xt} (C : Cx X cn_5 prog_7_method_3_code 6 none 7 0 0)   (x2 : Int32) (x3 : Int32) (x5 : Int32) (x4 : Int32) (h : Hp) (q : Int32 ⊕ Int32) (hrun : b_X5_cut_55_5  x2 x3 x5 x4 h = some q) (Ks : ∀ s, q = .inl s → kp_X5_cut_55_5  x2 x3 x5 h X s) (Ke : ∀ e, q = .inr e → ke_X5_cut_55_5  x2 x3 x5 h X e) : kp_X5_cut_55_5  x2 x3 x5 h X x4 := by
  show G X h 0 0 55 [(0, .ref 4), (1, .ref 3), (2, .int x2), (3, .int x3), (4, .int x4), (5, .int x5)] []
  unfold b_X5_cut_55_5 at hrun
  refine g_iload C (dat dt_X5_cut 29 rfl) 4 rfl ?_
  refine g_iload_n C (dat dt_X5_cut 30 rfl) 2 rfl ?_
  refine g_ic_ge 77 C (dat dt_X5_cut 31 rfl) (by decide) (fun c36 => ?_) (fun c36 => ?_)
  · rw [if_pos c36] at hrun
    cases hrun
    exact Ke ( x4) rfl
  · rw [if_neg c36] at hrun
    refine g_aload_n C (dat dt_X5_cut 32 rfl) 1 rfl ?_
    refine g_iload C (dat dt_X5_cut 33 rfl) 4 rfl ?_
    obtain ⟨j37, q38, hrun⟩ := bd hrun
    refine g_iald C (dat dt_X5_cut 34 rfl) kd_3 ltk_3 q38 ?_
    obtain ⟨v39, q40, hrun⟩ := bd hrun
    refine g_cSi [.int (aI h 3 j37)] C (dat dt_X5_cut 35 rfl) ml_5_91 (w_X5_isLetter (aI h 3 j37) h v39  q40) rfl rfl cat0 (by decide) c00 ?_
    refine g_if_eq 77 C (dat dt_X5_cut 36 rfl) (by decide) (fun c41 => ?_) (fun c41 => ?_)
    · rw [if_neg (b2i_z c41)] at hrun
      cases hrun
      exact Ke ( x4) rfl
    · rw [if_pos (b2i_nz c41)] at hrun
      refine g_iinc (v := (x4 + (1 : Int32))) (lv' := [(0, .ref 4), (1, .ref 3), (2, .int x2), (3, .int x3), (4, .int (x4 + (1 : Int32))), (5, .int x5)]) C (dat dt_X5_cut 37 rfl) 4 rfl (congrArg (fun z => x4 + z) ic_1) (by decide) rfl ?_
      refine g_goto 55 C (dat dt_X5_cut 38 rfl) (by decide) ?_
      cases hrun
      exact Ks (x4 + (1 : Int32)) rfl
def j_X5_cut_77_5  (x2 : Int32) (x3 : Int32) (x4 : Int32) (x5 : Int32) (h : Hp) : Option ((Int32 × Int32 × Hp) ⊕ (Int32 × Hp)) :=
  (f_X5_wordNumber x5 x4 h).bind fun v44 =>
  (inb x3 401).bind fun j46 =>
  some (.inl ((x3 + (1 : Int32)), x4, (sA h 5 j46 v44)))
set_option maxRecDepth 20000 in
theorem wj_X5_cut_77_5 {X : Xt} (C : Cx X cn_5 prog_7_method_3_code 6 none 7 0 0)    (x2 : Int32) (x3 : Int32) (x4 : Int32) (x5 : Int32) (h : Hp) (q : (Int32 × Int32 × Hp) ⊕ (Int32 × Hp)) (hrun : j_X5_cut_77_5  x2 x3 x4 x5 h = some q) (Ks : ∀ s, q = .inl s → kp_X5_cut_5  x2 X s) (Ke : ∀ e, q = .inr e → ke_X5_cut_5  x2 X e) : G X h 0 0 77 [(0, .ref 4), (1, .ref 3), (2, .int x2), (3, .int x3), (4, .int x4), (5, .int x5)] [] := by
  unfold j_X5_cut_77_5 at hrun
  refine g_aload_n C (dat dt_X5_cut 39 rfl) 0 rfl ?_
  refine g_getR C (dat dt_X5_cut 40 rfl) fl_5_11 kd_4 rfl ltk_4 ?_
  refine g_iload_n C (dat dt_X5_cut 41 rfl) 3 rfl ?_
  refine g_aload_n C (dat dt_X5_cut 42 rfl) 1 rfl ?_
  refine g_iload C (dat dt_X5_cut 43 rfl) 5 rfl ?_
  refine g_iload C (dat dt_X5_cut 44 rfl) 4 rfl ?_
  obtain ⟨v44, q45, hrun⟩ := bd hrun
  refine g_cSi [.ref 3, .int x5, .int x4] C (dat dt_X5_cut 45 rfl) ml_5_94 (w_X5_wordNumber x5 x4 h v44  q45) rfl rfl (Nat.le_of_ble_eq_true rfl) (by decide) c00 ?_
  obtain ⟨j46, q47, hrun⟩ := bd hrun
  refine g_iast (j := j46) C (dat dt_X5_cut 46 rfl) kd_5 ltk_5 q47  ?_
  refine g_goto 164 C (dat dt_X5_cut 47 rfl) (by decide) ?_
  refine g_iinc (v := (x3 + (1 : Int32))) (lv' := [(0, .ref 4), (1, .ref 3), (2, .int x2), (3, .int (x3 + (1 : Int32))), (4, .int x4), (5, .int x5)]) C (dat dt_X5_cut 86 rfl) 3 rfl (congrArg (fun z => x3 + z) ic_1) (by decide) rfl ?_
  refine g_goto 5 C (dat dt_X5_cut 87 rfl) (by decide) ?_
  refine g_sub [0, 1, 2, 3, 4] (lv' := [(0, .ref 4), (1, .ref 3), (2, .int x2), (3, .int (x3 + (1 : Int32))), (4, .int x4)]) rfl ?_
  cases hrun
  exact Ks ((x3 + (1 : Int32)), x4, (sA h 5 j46 v44)) rfl
def b_X5_cut_5  (x2 : Int32) (x3 : Int32) (x4 : Int32) (h : Hp) : Option ((Int32 × Int32 × Hp) ⊕ (Int32 × Hp)) :=
  if x2 ≤ x4 then
  some (.inr ( (x3, h)))
  else
  if (400 : Int32) ≤ x3 then
  some (.inr ( (x3, h)))
  else
  (inb x4 400).bind fun j3 =>
  if (aI h 3 j3) = (32 : Int32) then
  some (.inl (x3, (x4 + (1 : Int32)), h))
  else
  (inb x3 401).bind fun j6 =>
  (inb x4 400).bind fun j8 =>
  (f_X5_isLetter (aI (sA h 6 j6 x4) 3 j8)).bind fun v10 =>
  if v10 = true then
  (lp (fun s => b_X5_cut_55_5  x2 x3 x4 s (sA h 6 j6 x4)) FU (x4 + (1 : Int32))).bind fun e42 =>
  j_X5_cut_77_5  x2 x3 e42 x4 (sA h 6 j6 x4)
  else
  (inb x4 400).bind fun j13 =>
  (f_X5_isDigit (aI (sA h 6 j6 x4) 3 j13)).bind fun v15 =>
  if v15 = true then
  (lp (fun s => b_X5_cut_104_5  x2 x3 x4 s (sA h 6 j6 x4)) FU (x4 + (1 : Int32))).bind fun e28 =>
  j_X5_cut_126_5  x2 x3 e28 x4 (sA h 6 j6 x4)
  else
  (inb x4 400).bind fun j18 =>
  (inb x3 401).bind fun j20 =>
  some (.inl ((x3 + (1 : Int32)), (x4 + (1 : Int32)), (sA (sA h 6 j6 x4) 5 j20 ((100 : Int32) + (aI (sA h 6 j6 x4) 3 j18)))))
set_option maxRecDepth 20000 in
theorem wb_X5_cut_5 {X : Xt} (C : Cx X cn_5 prog_7_method_3_code 6 none 7 0 0)   (x2 : Int32) (x3 : Int32) (x4 : Int32) (h : Hp) (q : (Int32 × Int32 × Hp) ⊕ (Int32 × Hp)) (hrun : b_X5_cut_5  x2 x3 x4 h = some q) (Ks : ∀ s, q = .inl s → kp_X5_cut_5  x2 X s) (Ke : ∀ e, q = .inr e → ke_X5_cut_5  x2 X e) : kp_X5_cut_5  x2 X (x3, x4, h) := by
  show G X h 0 0 5 [(0, .ref 4), (1, .ref 3), (2, .int x2), (3, .int x3), (4, .int x4)] []
  unfold b_X5_cut_5 at hrun
  refine g_iload C (dat dt_X5_cut 4 rfl) 4 rfl ?_
  refine g_iload_n C (dat dt_X5_cut 5 rfl) 2 rfl ?_
  refine g_ic_ge 170 C (dat dt_X5_cut 6 rfl) (by decide) (fun c1 => ?_) (fun c1 => ?_)
  · rw [if_pos c1] at hrun
    refine g_sub [0, 2, 3] (lv' := [(0, .ref 4), (2, .int x2), (3, .int x3)]) rfl ?_
    cases hrun
    exact Ke ( (x3, h)) rfl
  · rw [if_neg c1] at hrun
    refine g_iload_n C (dat dt_X5_cut 7 rfl) 3 rfl ?_
    refine g_sipush C (dat dt_X5_cut 8 rfl) sp_400 ?_
    refine g_ic_ge 170 C (dat dt_X5_cut 9 rfl) (by decide) (fun c2 => ?_) (fun c2 => ?_)
    · rw [if_pos c2] at hrun
      refine g_sub [0, 2, 3] (lv' := [(0, .ref 4), (2, .int x2), (3, .int x3)]) rfl ?_
      cases hrun
      exact Ke ( (x3, h)) rfl
    · rw [if_neg c2] at hrun
      refine g_iload C (dat dt_X5_cut 10 rfl) 4 rfl ?_
      refine g_istore (lv' := [(0, .ref 4), (1, .ref 3), (2, .int x2), (3, .int x3), (4, .int x4), (5, .int x4)]) C (dat dt_X5_cut 11 rfl) (by decide) rfl ?_
      refine g_iinc (v := (x4 + (1 : Int32))) (lv' := [(0, .ref 4), (1, .ref 3), (2, .int x2), (3, .int x3), (4, .int (x4 + (1 : Int32))), (5, .int x4)]) C (dat dt_X5_cut 12 rfl) 4 rfl (congrArg (fun z => x4 + z) ic_1) (by decide) rfl ?_
      refine g_aload_n C (dat dt_X5_cut 13 rfl) 1 rfl ?_
      refine g_iload C (dat dt_X5_cut 14 rfl) 5 rfl ?_
      obtain ⟨j3, q4, hrun⟩ := bd hrun
      refine g_iald C (dat dt_X5_cut 15 rfl) kd_3 ltk_3 q4 ?_
      refine g_bipush C (dat dt_X5_cut 16 rfl) bp_32 ?_
      refine g_ic_ne 37 C (dat dt_X5_cut 17 rfl) (by decide) (fun c5 => ?_) (fun c5 => ?_)
      · rw [if_neg c5] at hrun
        refine g_aload_n C (dat dt_X5_cut 19 rfl) 0 rfl ?_
        refine g_getR C (dat dt_X5_cut 20 rfl) fl_5_15 kd_4 rfl ltk_4 ?_
        refine g_iload_n C (dat dt_X5_cut 21 rfl) 3 rfl ?_
        refine g_iload C (dat dt_X5_cut 22 rfl) 5 rfl ?_
        obtain ⟨j6, q7, hrun⟩ := bd hrun
        refine g_iast (j := j6) C (dat dt_X5_cut 23 rfl) kd_6 ltk_6 q7  ?_
        refine g_aload_n C (dat dt_X5_cut 24 rfl) 1 rfl ?_
        refine g_iload C (dat dt_X5_cut 25 rfl) 5 rfl ?_
        obtain ⟨j8, q9, hrun⟩ := bd hrun
        refine g_iald C (dat dt_X5_cut 26 rfl) kd_3 ltk_3 q9 ?_
        obtain ⟨v10, q11, hrun⟩ := bd hrun
        refine g_cSi [.int (aI (sA h 6 j6 x4) 3 j8)] C (dat dt_X5_cut 27 rfl) ml_5_91 (w_X5_isLetter (aI (sA h 6 j6 x4) 3 j8) (sA h 6 j6 x4) v10  q11) rfl rfl cat0 (by decide) c00 ?_
        refine g_if_eq 94 C (dat dt_X5_cut 28 rfl) (by decide) (fun c12 => ?_) (fun c12 => ?_)
        · rw [if_neg (b2i_z c12)] at hrun
          refine g_aload_n C (dat dt_X5_cut 48 rfl) 1 rfl ?_
          refine g_iload C (dat dt_X5_cut 49 rfl) 5 rfl ?_
          obtain ⟨j13, q14, hrun⟩ := bd hrun
          refine g_iald C (dat dt_X5_cut 50 rfl) kd_3 ltk_3 q14 ?_
          obtain ⟨v15, q16, hrun⟩ := bd hrun
          refine g_cSi [.int (aI (sA h 6 j6 x4) 3 j13)] C (dat dt_X5_cut 51 rfl) ml_5_98 (w_X5_isDigit (aI (sA h 6 j6 x4) 3 j13) (sA h 6 j6 x4) v15  q16) rfl rfl cat0 (by decide) c00 ?_
          refine g_if_eq 151 C (dat dt_X5_cut 52 rfl) (by decide) (fun c17 => ?_) (fun c17 => ?_)
          · rw [if_neg (b2i_z c17)] at hrun
            refine g_aload_n C (dat dt_X5_cut 77 rfl) 0 rfl ?_
            refine g_getR C (dat dt_X5_cut 78 rfl) fl_5_11 kd_4 rfl ltk_4 ?_
            refine g_iload_n C (dat dt_X5_cut 79 rfl) 3 rfl ?_
            refine g_bipush C (dat dt_X5_cut 80 rfl) bp_100 ?_
            refine g_aload_n C (dat dt_X5_cut 81 rfl) 1 rfl ?_
            refine g_iload C (dat dt_X5_cut 82 rfl) 5 rfl ?_
            obtain ⟨j18, q19, hrun⟩ := bd hrun
            refine g_iald C (dat dt_X5_cut 83 rfl) kd_3 ltk_3 q19 ?_
            refine g_iadd C (dat dt_X5_cut 84 rfl) ?_
            obtain ⟨j20, q21, hrun⟩ := bd hrun
            refine g_iast (j := j20) C (dat dt_X5_cut 85 rfl) kd_5 ltk_5 q21  ?_
            refine g_iinc (v := (x3 + (1 : Int32))) (lv' := [(0, .ref 4), (1, .ref 3), (2, .int x2), (3, .int (x3 + (1 : Int32))), (4, .int (x4 + (1 : Int32))), (5, .int x4)]) C (dat dt_X5_cut 86 rfl) 3 rfl (congrArg (fun z => x3 + z) ic_1) (by decide) rfl ?_
            refine g_goto 5 C (dat dt_X5_cut 87 rfl) (by decide) ?_
            refine g_sub [0, 1, 2, 3, 4] (lv' := [(0, .ref 4), (1, .ref 3), (2, .int x2), (3, .int (x3 + (1 : Int32))), (4, .int (x4 + (1 : Int32)))]) rfl ?_
            cases hrun
            exact Ks ((x3 + (1 : Int32)), (x4 + (1 : Int32)), (sA (sA h 6 j6 x4) 5 j20 ((100 : Int32) + (aI (sA h 6 j6 x4) 3 j18)))) rfl
          · rw [if_pos (b2i_nz c17)] at hrun
            obtain ⟨e28, q29, hrun⟩ := bd hrun
            refine lp_ind (P := fun s => kp_X5_cut_104_5  x2 x3 x4 (sA h 6 j6 x4) X s) (K := fun e => ke_X5_cut_104_5  x2 x3 x4 (sA h 6 j6 x4) X e) (fun s q hb Ks Ke => wb_X5_cut_104_5 C   x2 x3 x4 s (sA h 6 j6 x4) q hb Ks Ke) FU (x4 + (1 : Int32)) e28 q29 ?_
            show G X (sA h 6 j6 x4) 0 0 126 [(0, .ref 4), (1, .ref 3), (2, .int x2), (3, .int x3), (4, .int e28), (5, .int x4)] []
            exact wj_X5_cut_126_5 C    x2 x3 e28 x4 (sA h 6 j6 x4) _ hrun Ks Ke
        · rw [if_pos (b2i_nz c12)] at hrun
          obtain ⟨e42, q43, hrun⟩ := bd hrun
          refine lp_ind (P := fun s => kp_X5_cut_55_5  x2 x3 x4 (sA h 6 j6 x4) X s) (K := fun e => ke_X5_cut_55_5  x2 x3 x4 (sA h 6 j6 x4) X e) (fun s q hb Ks Ke => wb_X5_cut_55_5 C   x2 x3 x4 s (sA h 6 j6 x4) q hb Ks Ke) FU (x4 + (1 : Int32)) e42 q43 ?_
          show G X (sA h 6 j6 x4) 0 0 77 [(0, .ref 4), (1, .ref 3), (2, .int x2), (3, .int x3), (4, .int e42), (5, .int x4)] []
          exact wj_X5_cut_77_5 C    x2 x3 e42 x4 (sA h 6 j6 x4) _ hrun Ks Ke
      · rw [if_pos c5] at hrun
        refine g_goto 5 C (dat dt_X5_cut 18 rfl) (by decide) ?_
        refine g_sub [0, 1, 2, 3, 4] (lv' := [(0, .ref 4), (1, .ref 3), (2, .int x2), (3, .int x3), (4, .int (x4 + (1 : Int32)))]) rfl ?_
        cases hrun
        exact Ks (x3, (x4 + (1 : Int32)), h) rfl
def j_X5_cut_170  (x2 : Int32) (x3 : Int32) (h : Hp) : Option (Unit × Hp) :=
  (inb x3 401).bind fun j50 =>
  (inb x3 401).bind fun j52 =>
  some ((), (sA (sA h 6 j50 x2) 5 j52 (29 : Int32)))
set_option maxRecDepth 20000 in
theorem wj_X5_cut_170 {X : Xt} (C : Cx X cn_5 prog_7_method_3_code 6 none 7 0 0)    (x2 : Int32) (x3 : Int32) (h : Hp) (q : (Unit × Hp)) (hrun : j_X5_cut_170  x2 x3 h = some q) (K : EndQ X 0 0 none q.2) : G X h 0 0 170 [(0, .ref 4), (2, .int x2), (3, .int x3)] [] := by
  unfold j_X5_cut_170 at hrun
  refine g_aload_n C (dat dt_X5_cut 88 rfl) 0 rfl ?_
  refine g_getR C (dat dt_X5_cut 89 rfl) fl_5_15 kd_4 rfl ltk_4 ?_
  refine g_iload_n C (dat dt_X5_cut 90 rfl) 2 rfl ?_
  refine g_iload_n C (dat dt_X5_cut 91 rfl) 1 rfl ?_
  obtain ⟨j50, q51, hrun⟩ := bd hrun
  refine g_iast (j := j50) C (dat dt_X5_cut 92 rfl) kd_6 ltk_6 q51  ?_
  refine g_aload_n C (dat dt_X5_cut 93 rfl) 0 rfl ?_
  refine g_getR C (dat dt_X5_cut 94 rfl) fl_5_11 kd_4 rfl ltk_4 ?_
  refine g_iload_n C (dat dt_X5_cut 95 rfl) 2 rfl ?_
  refine g_bipush C (dat dt_X5_cut 96 rfl) bp_29 ?_
  obtain ⟨j52, q53, hrun⟩ := bd hrun
  refine g_iast (j := j52) C (dat dt_X5_cut 97 rfl) kd_5 ltk_5 q53  ?_
  cases hrun
  exact g_vret C K (dat dt_X5_cut 98 rfl)
def f_X5_cut (x2 : Int32) (h : Hp) : Option (Unit × Hp) :=
  (lp (fun s => b_X5_cut_5  x2 s.1 s.2.1 s.2.2) FU ((0 : Int32), (0 : Int32), h)).bind fun e48 =>
  j_X5_cut_170  x2 e48.1 e48.2
set_option maxRecDepth 20000 in
theorem w_X5_cut (x2 : Int32) (h : Hp) (q : (Unit × Hp))  (hrun : f_X5_cut x2 h = some q) : MetA ⟨"SteamNations$Reader", "cut", "([II)V"⟩ prog_7_method_3_code 6 none 7 0 0 [.ref 4, .ref 3, .int x2] h none q.2 := by
  refine metA_of (by decide) (Nat.le_of_ble_eq_true rfl) (fun X C K => ?_)
  have C : Cx X cn_5 prog_7_method_3_code 6 none 7 0 0 := C
  show G X h 0 0 0 [(0, .ref 4), (1, .ref 3), (2, .int x2)] []
  unfold f_X5_cut at hrun
  refine g_iconst C (dat dt_X5_cut 0 rfl) ic_0 ?_
  refine g_istore_n (lv' := [(0, .ref 4), (1, .ref 3), (2, .int x2), (3, .int (0 : Int32))]) C (dat dt_X5_cut 1 rfl) (by decide) rfl ?_
  refine g_iconst C (dat dt_X5_cut 2 rfl) ic_0 ?_
  refine g_istore (lv' := [(0, .ref 4), (1, .ref 3), (2, .int x2), (3, .int (0 : Int32)), (4, .int (0 : Int32))]) C (dat dt_X5_cut 3 rfl) (by decide) rfl ?_
  obtain ⟨e48, q49, hrun⟩ := bd hrun
  refine lp_ind (P := fun s => kp_X5_cut_5  x2 X s) (K := fun e => ke_X5_cut_5  x2 X e) (fun s q hb Ks Ke => wb_X5_cut_5 C   x2 s.1 s.2.1 s.2.2 q hb Ks Ke) FU ((0 : Int32), (0 : Int32), h) e48 q49 ?_
  show G X e48.2 0 0 170 [(0, .ref 4), (2, .int x2), (3, .int e48.1)] []
  exact wj_X5_cut_170 C    x2 e48.1 e48.2 _ hrun K
