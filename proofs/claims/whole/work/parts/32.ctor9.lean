def dl_X9_init : List (Nat × Instr × Nat) := [(0, .aload_n 0, 1), (1, .invokespecial 3, 3), (4, .aload_n 0, 1), (5, .aload_n 1, 1), (6, .putfield 9, 3), (9, .aload_n 0, 1), (10, .aload_n 2, 1), (11, .putfield 15, 3), (14, .aload_n 0, 1), (15, .iload_n 3, 1), (16, .putfield 18, 3), (19, .iconst 0, 1), (20, .istore 4, 2), (22, .iconst 0, 1), (23, .istore 5, 2), (25, .iload 5, 2), (27, .aload_n 2, 1), (28, .arraylength, 1), (29, .if_icmp .ge 20, 3), (32, .iload 4, 2), (34, .iconst 1, 1), (35, .aload_n 2, 1), (36, .iload 5, 2), (38, .iaload, 1), (39, .ishl, 1), (40, .ior, 1), (41, .istore 4, 2), (43, .iinc 5 6, 3), (46, .goto (-21), 3), (49, .aload_n 0, 1), (50, .iload 4, 2), (52, .putfield 22, 3), (55, .return_, 1)]
theorem dt_X9_init : ∀ q ∈ dl_X9_init, decode prog_11_method_1_code q.1 = .ok q.2 := by decide +kernel
def tb_b (f : Nat → Int32) (nn : Nat) (s : Int32 × Int32) : Option ((Int32 × Int32) ⊕ Int32) := if Int32.ofNat nn ≤ s.2 then some (.inr s.1) else (inb s.2 nn).bind fun j => some (.inl (s.1 ||| ((1 : Int32) <<< (f j &&& 31)), s.2 + (6 : Int32)))
def i_X9 (a0 a1 a2 : Nat) (x3 : Int32) (cs : List CC) : Option (List CC) :=
  (pF 9 0 (.ref a1) a0 cs).bind fun c1 =>
  (pF 9 1 (.ref a2) a0 c1).bind fun c2 =>
  (pF 9 2 (.int x3) a0 c2).bind fun c3 =>
  (arI 0 a2 c3).bind fun q =>
  (lp (tb_b q.2 q.1) FU ((0 : Int32), (0 : Int32))).bind fun e =>
  (pF 9 3 (.int e) a0 c3).bind fun c4 =>
  some c4
theorem ff_9_9 : FLkF cn_9 9 9 0 (.array .int) := ⟨cn_9, ft_9, 4, fy_9, rfl, by decide, in_9, fo_9, nm_9, gm_1 143 rfl rfl, rfl, rfl, rfl⟩
theorem ff_9_15 : FLkF cn_9 15 9 1 (.array .int) := ⟨cn_9, ft_9, 4, fy_9, rfl, by decide, in_9, fo_9, nm_9, gm_1 145 rfl rfl, rfl, rfl, rfl⟩
theorem ff_9_18 : FLkF cn_9 18 9 2 (.int) := ⟨cn_9, ft_9, 4, fy_9, rfl, by decide, in_9, fo_9, nm_9, gm_1 146 rfl rfl, rfl, rfl, rfl⟩
theorem ff_9_22 : FLkF cn_9 22 9 3 (.int) := ⟨cn_9, ft_9, 4, fy_9, rfl, by decide, in_9, fo_9, nm_9, gm_1 149 rfl rfl, rfl, rfl, rfl⟩
set_option maxRecDepth 20000 in
theorem wi_X9 (a0 a1 a2 : Nat) (x3 : Int32) (cs q : List CC) (hrun : i_X9 a0 a1 a2 x3 cs = some q) : MetC ⟨"SteamNations$Text", "<init>", "([I[II)V"⟩ prog_11_method_1_code 6 none 1 0 0 [.ref a0, .ref a1, .ref a2, .int x3] cs none q := by
  refine metC_of (by decide +kernel) (Nat.le_of_ble_eq_true rfl) (fun X C Hi K => ?_)
  have C : Cx X cn_9 prog_11_method_1_code 6 none 1 0 0 := C
  have Hi := Hi rfl
  show Gc X cs 0 0 0 [(0, .ref a0), (1, .ref a1), (2, .ref a2), (3, .int x3)] []
  unfold i_X9 at hrun
  refine gc_aload_n C (dat dt_X9_init 0 rfl) 0 rfl ?_
  refine gc_objInit C (dat dt_X9_init 1 rfl) ol_9 oi_1 oi_2 (by decide) ?_
  refine gc_aload_n C (dat dt_X9_init 2 rfl) 0 rfl ?_
  refine gc_aload_n C (dat dt_X9_init 3 rfl) 1 rfl ?_
  obtain ⟨c1, e1, hrun⟩ := bd hrun
  refine gc_putF C Hi (dat dt_X9_init 4 rfl) ff_9_9 (fun E => ⟨rfl, rfl⟩) e1 ?_
  refine gc_aload_n C (dat dt_X9_init 5 rfl) 0 rfl ?_
  refine gc_aload_n C (dat dt_X9_init 6 rfl) 2 rfl ?_
  obtain ⟨c2, e2, hrun⟩ := bd hrun
  refine gc_putF C Hi (dat dt_X9_init 7 rfl) ff_9_15 (fun E => ⟨rfl, rfl⟩) e2 ?_
  refine gc_aload_n C (dat dt_X9_init 8 rfl) 0 rfl ?_
  refine gc_iload_n C (dat dt_X9_init 9 rfl) 3 rfl ?_
  obtain ⟨c3, e3, hrun⟩ := bd hrun
  refine gc_putF C Hi (dat dt_X9_init 10 rfl) ff_9_18 (fun E => ⟨rfl, rfl⟩) e3 ?_
  obtain ⟨⟨nn, f⟩, e4, hrun⟩ := bd hrun
  obtain ⟨b, e5, hrun⟩ := bd hrun
  obtain ⟨c4, e6, hrun⟩ := bd hrun
  cases hrun
  refine gc_iconst C (dat dt_X9_init 11 rfl) ic_0 ?_
  refine gc_istore (lv' := [(0, .ref a0), (1, .ref a1), (2, .ref a2), (3, .int x3), (4, .int 0)]) C (dat dt_X9_init 12 rfl) (by decide) rfl ?_
  refine gc_iconst C (dat dt_X9_init 13 rfl) ic_0 ?_
  refine gc_istore (lv' := [(0, .ref a0), (1, .ref a1), (2, .ref a2), (3, .int x3), (4, .int 0), (5, .int 0)]) C (dat dt_X9_init 14 rfl) (by decide) rfl ?_
  refine lp_ind (b := tb_b f nn) (P := fun s => Gc X c3 0 0 25 [(0, .ref a0), (1, .ref a1), (2, .ref a2), (3, .int x3), (4, .int s.1), (5, .int s.2)] []) (K := fun e => Gc X c3 0 0 49 [(0, .ref a0), (1, .ref a1), (2, .ref a2), (3, .int x3), (4, .int e)] []) (fun s q hb Ks Ke => ?_) FU ((0 : Int32), (0 : Int32)) b e5 ?_
  · unfold tb_b at hb
    refine gc_iload C (dat dt_X9_init 15 rfl) 5 rfl ?_
    refine gc_aload_n C (dat dt_X9_init 16 rfl) 2 rfl ?_
    refine gc_alen (t := 0) C (dat dt_X9_init 17 rfl) (by decide) e4 rfl ?_
    refine gc_ic_ge 49 C (dat dt_X9_init 18 rfl) (by decide) (fun c => ?_) (fun c => ?_)
    · rw [if_pos c] at hb
      cases hb
      refine gc_sub [0, 1, 2, 3, 4] (lv' := [(0, .ref a0), (1, .ref a1), (2, .ref a2), (3, .int x3), (4, .int s.1)]) rfl ?_
      exact Ke s.1 rfl
    · rw [if_neg c] at hb
      obtain ⟨j, ej, hb⟩ := bd hb
      cases hb
      refine gc_iload C (dat dt_X9_init 19 rfl) 4 rfl ?_
      refine gc_iconst C (dat dt_X9_init 20 rfl) ic_1 ?_
      refine gc_aload_n C (dat dt_X9_init 21 rfl) 2 rfl ?_
      refine gc_iload C (dat dt_X9_init 22 rfl) 5 rfl ?_
      refine gc_iald C (dat dt_X9_init 23 rfl) e4 ej ?_
      refine gc_ishl C (dat dt_X9_init 24 rfl) ?_
      refine gc_ior C (dat dt_X9_init 25 rfl) ?_
      refine gc_istore (lv' := [(0, .ref a0), (1, .ref a1), (2, .ref a2), (3, .int x3), (4, .int (s.1 ||| ((1 : Int32) <<< (f j &&& 31)))), (5, .int s.2)]) C (dat dt_X9_init 26 rfl) (by decide) rfl ?_
      refine gc_iinc (v := s.2 + (6 : Int32)) (lv' := [(0, .ref a0), (1, .ref a1), (2, .ref a2), (3, .int x3), (4, .int (s.1 ||| ((1 : Int32) <<< (f j &&& 31)))), (5, .int (s.2 + (6 : Int32)))]) C (dat dt_X9_init 27 rfl) 5 rfl (congrArg (fun z => s.2 + z) ic_6) (by decide) rfl ?_
      refine gc_goto 25 C (dat dt_X9_init 28 rfl) (by decide) ?_
      exact Ks (s.1 ||| ((1 : Int32) <<< (f j &&& 31)), s.2 + (6 : Int32)) rfl
  · show Gc X c3 0 0 49 [(0, .ref a0), (1, .ref a1), (2, .ref a2), (3, .int x3), (4, .int b)] []
    refine gc_aload_n C (dat dt_X9_init 29 rfl) 0 rfl ?_
    refine gc_iload C (dat dt_X9_init 30 rfl) 4 rfl ?_
    refine gc_putF C Hi (dat dt_X9_init 31 rfl) ff_9_22 (fun E => ⟨rfl, rfl⟩) e6 ?_
    exact gc_vret C K (dat dt_X9_init 32 rfl)
