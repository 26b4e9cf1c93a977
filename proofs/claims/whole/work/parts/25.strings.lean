def dl_J0_length_8abf5 : List (Nat × Instr × Nat) := [(0, .aload_n 0, 1), (1, .getfield 9, 3), (4, .arraylength, 1), (5, .aload_n 0, 1), (6, .invokevirtual 335, 3), (9, .ishr, 1), (10, .ireturn, 1)]
theorem dt_J0_length_8abf5 : ∀ q ∈ dl_J0_length_8abf5, decode prog_17_method_54_code q.1 = .ok q.2 := by decide +kernel
def dl_J0_coder_7d493 : List (Nat × Instr × Nat) := [(0, .getstatic 38, 3), (3, .ifCond .eq 10, 3), (6, .aload_n 0, 1), (7, .getfield 15, 3), (10, .goto 4, 3), (13, .iconst 1, 1), (14, .ireturn, 1)]
theorem dt_J0_coder_7d493 : ∀ q ∈ dl_J0_coder_7d493, decode prog_17_method_152_code q.1 = .ok q.2 := by decide +kernel
def dl_J0_charAt_5068e : List (Nat × Instr × Nat) := [(0, .aload_n 0, 1), (1, .invokevirtual 492, 3), (4, .ifCond .eq 12, 3), (7, .aload_n 0, 1), (8, .getfield 9, 3), (11, .iload_n 1, 1), (12, .invokestatic 495, 3), (15, .ireturn, 1), (16, .aload_n 0, 1), (17, .getfield 9, 3), (20, .iload_n 1, 1), (21, .invokestatic 498, 3), (24, .ireturn, 1)]
theorem dt_J0_charAt_5068e : ∀ q ∈ dl_J0_charAt_5068e, decode prog_17_method_56_code q.1 = .ok q.2 := by decide +kernel
def dl_J0_isLatin1_aae02 : List (Nat × Instr × Nat) := [(0, .getstatic 38, 3), (3, .ifCond .eq 14, 3), (6, .aload_n 0, 1), (7, .getfield 15, 3), (10, .ifCond .ne 7, 3), (13, .iconst 1, 1), (14, .goto 4, 3), (17, .iconst 0, 1), (18, .ireturn, 1)]
theorem dt_J0_isLatin1_aae02 : ∀ q ∈ dl_J0_isLatin1_aae02, decode prog_17_method_154_code q.1 = .ok q.2 := by decide +kernel
def dl_J1_charAt_3b067 : List (Nat × Instr × Nat) := [(0, .iload_n 1, 1), (1, .aload_n 0, 1), (2, .arraylength, 1), (3, .invokestatic 9, 3), (6, .aload_n 0, 1), (7, .iload_n 1, 1), (8, .baload, 1), (9, .sipush 255, 3), (12, .iand, 1), (13, .i2c, 1), (14, .ireturn, 1)]
theorem dt_J1_charAt_3b067 : ∀ q ∈ dl_J1_charAt_3b067, decode prog_18_method_2_code q.1 = .ok q.2 := by decide +kernel
def dl_J0_checkIndex_df160 : List (Nat × Instr × Nat) := [(0, .iload_n 0, 1), (1, .iload_n 1, 1), (2, .getstatic 1053, 3), (5, .invokestatic 1059, 3), (8, .pop, 1), (9, .return_, 1)]
theorem dt_J0_checkIndex_df160 : ∀ q ∈ dl_J0_checkIndex_df160, decode prog_17_method_155_code q.1 = .ok q.2 := by decide +kernel
def dl_J3_checkIndex_8e157 : List (Nat × Instr × Nat) := [(0, .iload_n 0, 1), (1, .ifCond .lt 8, 3), (4, .iload_n 0, 1), (5, .iload_n 1, 1), (6, .if_icmp .lt 10, 3), (9, .aload_n 2, 1), (10, .iload_n 0, 1), (11, .iload_n 1, 1), (12, .invokestatic 95, 3), (15, .athrow, 1), (16, .iload_n 0, 1), (17, .ireturn, 1)]
theorem dt_J3_checkIndex_8e157 : ∀ q ∈ dl_J3_checkIndex_8e157, decode prog_22_method_11_code q.1 = .ok q.2 := by decide +kernel
def wch (j : Nat) : Int32 := ((wrdB.getD j 0 &&& 255).toUInt32 % 65536).toInt32
section GS
variable {X : Xt} {own : String} {cc : ByteArray} {nL : Nat} {rt : Option FieldType} {D mc ms : Nat} {h : Hp} {k n pc : Nat} {lv : List (Nat × Value)} {st : List Value}
theorem g_nret {x : Int32} {ty : FieldType} (C : Cx X own cc nL (some ty) D mc ms) (hQ : EndQ X k n (some (.int x)) h) (hn : narrow ty (.int x) = .int x) (hd : decode cc pc = .ok (.ireturn, 1)) : G X h k n pc lv [.int x] := by
  obtain ⟨p, l, e, R, s, m, args, below, meth, c, Q, E⟩ := X
  obtain ⟨hx, hb, hml, hown, hts, hO, hlk, hrt, hfr, hlo, hce, hsl, hbs, -⟩ := C
  intro H locs ls hR hS hl
  have hQ : Q = _ := hQ
  subst hQ
  exact W.zret hx hb hrt hn (fun t ht hw => ⟨rfl, by rw [ht]; exact hR, hS.F ht⟩) hS.2.2 hd
theorem g_ldcS (C : Cx X "SteamNations$Reader" cc nL rt D mc ms) (hd : decode cc pc = .ok (.ldc 104, 2)) (next : G X h k n (pc + 2) lv (.ref 1000003 :: st)) : G X h k n pc lv st := by
  obtain ⟨p, l, e, R, s, m, args, below, meth, c, Q, E⟩ := X
  obtain ⟨hx, hb, hml, hown, hts, hO, hlk, hrt, hfr, hlo, hce, hsl, hbs, -⟩ := C
  intro H locs ls hR hS hl
  exact va_ldcS hx hb hown hO.2.2.2.2.2.2.2.2.1 hd (next H locs ls hR hS hl)
theorem g_sval {idx : Nat} (C : Cx X own cc nL rt D mc ms) (hd : decode cc pc = .ok (.getfield idx, 3)) (hc : Cond.fieldLink own idx "java/lang/String" "value" "[B" ∈ gw) (next : G X h k n (pc + 3) lv (.ref 1000004 :: st)) : G X h k n pc lv (.ref 1000003 :: st) := by
  obtain ⟨p, l, e, R, s, m, args, below, meth, c, Q, E⟩ := X
  obtain ⟨hx, hb, hml, hown, hts, hO, hlk, hrt, hfr, hlo, hce, hsl, hbs, -⟩ := C
  intro H locs ls hR hS hl
  exact vk_getf hx hb (hO.2.2.2.2.2.2.2.2.2.1.1 0 (by decide)).2.2.1 hS hown (hts _ hc) (fun _ h => h) hd (next H locs ls hR hS hl)
theorem g_scod {idx : Nat} (C : Cx X own cc nL rt D mc ms) (hd : decode cc pc = .ok (.getfield idx, 3)) (hc : Cond.fieldLink own idx "java/lang/String" "coder" "B" ∈ gw) (next : G X h k n (pc + 3) lv (.int 0 :: st)) : G X h k n pc lv (.ref 1000003 :: st) := by
  obtain ⟨p, l, e, R, s, m, args, below, meth, c, Q, E⟩ := X
  obtain ⟨hx, hb, hml, hown, hts, hO, hlk, hrt, hfr, hlo, hce, hsl, hbs, -⟩ := C
  intro H locs ls hR hS hl
  exact vk_getf hx hb (hO.2.2.2.2.2.2.2.2.2.1.1 0 (by decide)).2.1 hS hown (hts _ hc) (fun _ h => h) hd (next H locs ls hR hS hl)
theorem g_salen (C : Cx X own cc nL rt D mc ms) (hd : decode cc pc = .ok (.arraylength, 1)) (next : G X h k n (pc + 1) lv (.int 144 :: st)) : G X h k n pc lv (.ref 1000004 :: st) := by
  obtain ⟨p, l, e, R, s, m, args, below, meth, c, Q, E⟩ := X
  obtain ⟨hx, hb, hml, hown, hts, hO, hlk, hrt, hfr, hlo, hce, hsl, hbs, -⟩ := C
  intro H locs ls hR hS hl
  exact va_tlen hx hb (hO.2.2.2.2.2.2.2.2.2.1.1 0 (by decide)).2.2.2 hS (by decide) hd (next H locs ls hR hS hl)
theorem g_sbald {i : Int32} {j : Nat} (C : Cx X own cc nL rt D mc ms) (hd : decode cc pc = .ok (.baload, 1)) (hj : inb i 144 = some j) (next : G X h k n (pc + 1) lv (.int (wrdB.getD j 0) :: st)) : G X h k n pc lv (.int i :: .ref 1000004 :: st) := by
  obtain ⟨p, l, e, R, s, m, args, below, meth, c, Q, E⟩ := X
  obtain ⟨hx, hb, hml, hown, hts, hO, hlk, hrt, hfr, hlo, hce, hsl, hbs, -⟩ := C
  intro H locs ls hR hS hl
  obtain ⟨hin, hj2⟩ := inb_vp hj
  subst hj2
  exact va_tb hx hb (hO.2.2.2.2.2.2.2.2.2.1.1 0 (by decide)).2.2.2 hS hin rfl hd (next H locs ls hR hS hl)
theorem g_gsCS {idx : Nat} (C : Cx X own cc nL rt D mc ms) (hd : decode cc pc = .ok (.getstatic idx, 3)) (hc : Cond.fieldLink own idx "java/lang/String" "COMPACT_STRINGS" "Z" ∈ gw) (next : G X h k n (pc + 3) lv (.int 1 :: st)) : G X h k n pc lv st := by
  obtain ⟨p, l, e, R, s, m, args, below, meth, c, Q, E⟩ := X
  obtain ⟨hx, hb, hml, hown, hts, hO, hlk, hrt, hfr, hlo, hce, hsl, hbs, -⟩ := C
  intro H locs ls hR hS hl
  exact va_gets hx hb hO.2.2.2.2.2.2.2.2.2.2.1 hS hown (hts _ hc) (fun _ h => h) hd (next H locs ls hR hS hl)
theorem g_gsSF {idx : Nat} (C : Cx X own cc nL rt D mc ms) (hd : decode cc pc = .ok (.getstatic idx, 3)) (hc : Cond.fieldLink own idx "jdk/internal/util/Preconditions" "SIOOBE_FORMATTER" "Ljava/util/function/BiFunction;" ∈ gw) (next : ∀ v, v = .null ∨ v = .ref 1000005 → G X h k n (pc + 3) lv (v :: st)) : G X h k n pc lv st := by
  obtain ⟨p, l, e, R, s, m, args, below, meth, c, Q, E⟩ := X
  obtain ⟨hx, hb, hml, hown, hts, hO, hlk, hrt, hfr, hlo, hce, hsl, hbs, -⟩ := C
  intro H locs ls hR hS hl
  rcases hO.2.2.2.2.2.2.2.2.2.2.2.1 with hZ | hZ
  · exact va_gets hx hb hZ hS hown (hts _ hc) (fun _ h => h) hd (next _ (Or.inl rfl) H locs ls hR hS hl)
  · exact va_gets hx hb hZ hS hown (hts _ hc) (fun _ h => h) hd (next _ (Or.inr rfl) H locs ls hR hS hl)
theorem g_callT {y : MethodName} {bytes : ByteArray} {mL nA D' idx : Nat} {ret : Option FieldType} {As rest : List Value} {r : Option Value} {h1 : Hp} (C : Cx X own cc nL rt D mc ms) (hd : decode cc pc = .ok (.invokevirtual idx, 3)) (L : y.cls = "java/lang/String" ∧ Cond.methodLink own idx y ∈ gw ∧ Cond.instanceMethod y ∈ gw ∧ Cond.selects "java/lang/String" y y ∈ gw ∧ Cond.initialized "java/lang/String" ∈ gw ∧ Cond.code y bytes mL ret ∈ gw ∧ (y.cls ≠ "java/lang/invoke/MethodHandle" ∧ y.cls ≠ "java/lang/invoke/VarHandle" ∧ (parseMethodDescriptor y.desc).map (fun d => d.parameters.length) = some nA) ∧ mL ≤ 40) (hm : MetA y bytes mL ret D' 0 0 (.ref 1000003 :: As) h r h1) (hst : st = As.reverse ++ .ref 1000003 :: rest) (hn : As.length = nA) (hcat : (rest.map fun v => v.category).sum ≤ 8) (hD : D' + 1 ≤ D) (hc : k ≤ mc ∧ n ≤ ms) (next : G X h1 k n (pc + 3) lv (r.toList ++ rest)) : G X h k n pc lv st := by
  obtain ⟨p, l, e, R, s, m, args, below, meth, c, Q, E⟩ := X
  obtain ⟨hx, hb, hml, hown, hts, hO, hlk, hrt, hfr, hlo, hce, hsl, hbs, -⟩ := C
  obtain ⟨l1, l2, l3, l4, l5, l6, l7, l8⟩ := L
  intro H locs ls hR hS hl
  have hcat2 : ((rest.map (cv E)).map fun v => v.category).sum ≤ 8 := by
    rw [List.map_map]
    have e9 : ((fun v : Value => v.category) ∘ cv E) = fun v : Value => v.category := by funext v; exact cv_cat E v
    rw [e9]
    exact hcat
  have hrun := va_runV (p := p) (e := e) (below := below) (meth := meth) (locs := locs) (cells := k) (slots := n) (As := As.map (cv E)) (rest := rest.map (cv E)) (b := E.2.2.2.1 3) (g := F0 m pc ls (st.map (cv E))) (index := idx) (C := "java/lang/String") ⟨hx, hb, rfl, hown, hts⟩ (hm l E)
    (R := R) ⟨callB_of nA hts (gw_in y l6) rfl rfl rfl (by rw [l1]; exact hts _ l5) (hts _ l2) l7 ⟨by show D' + 1 ≤ _; omega, by show 8 + (mL + 11) + 60 * D' ≤ _; omega⟩, hts _ l3, hts _ l4⟩
    (H := H) ⟨aPc_blind E _ h, vk_recv (i := 0) hO.2.2.2.2.2.2.2.2.2.1 (by decide) hS, fun U hU hW => aPc_at (av := .ref 1000003 :: As) hR hO hS hbs hU hW⟩
    rfl (by rw [List.length_map]; exact hn) hl.1 (by rw [hst]; simp; rfl) (lv_room hcat2) hd ⟨by show k + 0 ≤ _; omega, by show n + 0 ≤ _; omega⟩
  exact g_run hrun hS hl next
end GS
theorem w_J3ci (i n : Int32) (v : Value) (h : Hp) (hv : v = .null ∨ v = .ref 1000005) (h0 : ¬ i < 0) (h1 : i < n) : MetA ⟨"jdk/internal/util/Preconditions", "checkIndex", "(IILjava/util/function/BiFunction;)I"⟩ prog_22_method_11_code 3 (some .int) 1 0 0 [.int i, .int n, v] h (some (.int i)) h := by
  refine metA_ofJ (by decide +kernel) (by rcases hv with rfl | rfl <;> exact Nat.le_of_ble_eq_true rfl) (fun X C K => ?_)
  have C : Cx X "jdk/internal/util/Preconditions" prog_22_method_11_code 3 (some .int) 1 0 0 := C
  have e0 : lv_args 0 [.int i, .int n, v] = [(0, .int i), (1, .int n), (2, v)] := rfl
  rw [e0]
  refine g_iload_n C (dat dt_J3_checkIndex_8e157 0 rfl) 0 rfl ?_
  refine g_if_lt 9 C (dat dt_J3_checkIndex_8e157 1 rfl) (by decide) (fun c => absurd c h0) (fun c => ?_)
  refine g_iload_n C (dat dt_J3_checkIndex_8e157 2 rfl) 0 rfl ?_
  refine g_iload_n C (dat dt_J3_checkIndex_8e157 3 rfl) 1 rfl ?_
  refine g_ic_lt 16 C (dat dt_J3_checkIndex_8e157 4 rfl) (by decide) (fun c => ?_) (fun c => absurd h1 c)
  refine g_iload_n C (dat dt_J3_checkIndex_8e157 10 rfl) 0 rfl ?_
  exact g_iret C K (dat dt_J3_checkIndex_8e157 11 rfl)
theorem w_J0ci (i n : Int32) (h : Hp) (h0 : ¬ i < 0) (h1 : i < n) : MetA ⟨"java/lang/String", "checkIndex", "(II)V"⟩ prog_17_method_155_code 2 none 2 0 0 [.int i, .int n] h none h := by
  refine metA_ofJ (by decide +kernel) (Nat.le_of_ble_eq_true rfl) (fun X C K => ?_)
  have C : Cx X "java/lang/String" prog_17_method_155_code 2 none 2 0 0 := C
  show G X h 0 0 0 [(0, .int i), (1, .int n)] []
  refine g_iload_n C (dat dt_J0_checkIndex_df160 0 rfl) 0 rfl ?_
  refine g_iload_n C (dat dt_J0_checkIndex_df160 1 rfl) 1 rfl ?_
  refine g_gsSF C (dat dt_J0_checkIndex_df160 2 rfl) (gm_3 109 rfl rfl) (fun v hv => ?_)
  refine g_cSi [.int i, .int n, v] C (dat dt_J0_checkIndex_df160 3 rfl) (show SLk "java/lang/String" 1059 ⟨"jdk/internal/util/Preconditions", "checkIndex", "(IILjava/util/function/BiFunction;)I"⟩ prog_22_method_11_code 3 (some .int) 3 from ⟨gm_3 111 rfl rfl, gm_3 112 rfl rfl, gm_1 17 rfl rfl, gm_3 113 rfl rfl, ⟨by decide, by decide, by decide +kernel⟩, by decide⟩) (w_J3ci i n v h hv h0 h1) rfl rfl cat0 (by decide) c00 ?_
  refine g_pop C (dat dt_J0_checkIndex_df160 4 rfl) rfl ?_
  exact g_vret C K (dat dt_J0_checkIndex_df160 5 rfl)
theorem inb_lt {i : Int32} {n j : Nat} (h : inb i n = some j) (hn : n < 2 ^ 31) : ¬ i < 0 ∧ i < nI n := by
  obtain ⟨h1, h2⟩ := inb_vp h
  obtain ⟨j, hj, rfl⟩ := vp_in_of h1 hn
  exact ⟨nI_pos (by omega), nI_lt hj hn⟩
theorem w_J1ch (i : Int32) (j : Nat) (h : Hp) (hj : inb i 144 = some j) : MetA ⟨"java/lang/StringLatin1", "charAt", "([BI)C"⟩ prog_18_method_2_code 2 (some .char) 3 0 0 [.ref 1000004, .int i] h (some (.int (wch j))) h := by
  refine metA_ofJ (by decide +kernel) (Nat.le_of_ble_eq_true rfl) (fun X C K => ?_)
  have C : Cx X "java/lang/StringLatin1" prog_18_method_2_code 2 (some .char) 3 0 0 := C
  show G X h 0 0 0 [(0, .ref 1000004), (1, .int i)] []
  refine g_iload_n C (dat dt_J1_charAt_3b067 0 rfl) 1 rfl ?_
  refine g_aload_n C (dat dt_J1_charAt_3b067 1 rfl) 0 rfl ?_
  refine g_salen C (dat dt_J1_charAt_3b067 2 rfl) ?_
  refine g_cSv [.int i, .int 144] C (dat dt_J1_charAt_3b067 3 rfl) (show SLk "java/lang/StringLatin1" 9 ⟨"java/lang/String", "checkIndex", "(II)V"⟩ prog_17_method_155_code 2 none 2 from ⟨gm_3 106 rfl rfl, gm_3 107 rfl rfl, gm_1 15 rfl rfl, gm_3 108 rfl rfl, ⟨by decide, by decide, by decide +kernel⟩, by decide⟩) (w_J0ci i 144 h (inb_lt hj (by decide)).1 (inb_lt hj (by decide)).2) rfl rfl cat0 (by decide) c00 ?_
  refine g_aload_n C (dat dt_J1_charAt_3b067 4 rfl) 0 rfl ?_
  refine g_iload_n C (dat dt_J1_charAt_3b067 5 rfl) 1 rfl ?_
  refine g_sbald C (dat dt_J1_charAt_3b067 6 rfl) hj ?_
  refine g_sipush C (dat dt_J1_charAt_3b067 7 rfl) sp_255 ?_
  refine g_iand C (dat dt_J1_charAt_3b067 8 rfl) ?_
  refine g_i2c C (dat dt_J1_charAt_3b067 9 rfl) ?_
  exact g_nret C K (pk_nc _) (dat dt_J1_charAt_3b067 10 rfl)
theorem w_J0il (h : Hp) : MetA ⟨"java/lang/String", "isLatin1", "()Z"⟩ prog_17_method_154_code 1 (some .boolean) 1 0 0 [.ref 1000003] h (some (.int (b2i true))) h := by
  refine metA_ofJ (by decide +kernel) (Nat.le_of_ble_eq_true rfl) (fun X C K => ?_)
  have C : Cx X "java/lang/String" prog_17_method_154_code 1 (some .boolean) 1 0 0 := C
  show G X h 0 0 0 [(0, .ref 1000003)] []
  refine g_gsCS C (dat dt_J0_isLatin1_aae02 0 rfl) (gm_3 93 rfl rfl) ?_
  refine g_if_eq 17 C (dat dt_J0_isLatin1_aae02 1 rfl) (by decide) (fun c => absurd c (by decide)) (fun c => ?_)
  refine g_aload_n C (dat dt_J0_isLatin1_aae02 2 rfl) 0 rfl ?_
  refine g_scod C (dat dt_J0_isLatin1_aae02 3 rfl) (gm_8 151 rfl rfl) ?_
  refine g_if_ne 17 C (dat dt_J0_isLatin1_aae02 4 rfl) (by decide) (fun c => absurd rfl c) (fun c => ?_)
  refine g_iconst C (dat dt_J0_isLatin1_aae02 5 rfl) ic_1 ?_
  refine g_goto 18 C (dat dt_J0_isLatin1_aae02 6 rfl) (by decide) ?_
  exact g_zret C K (show (1 : Int32) = b2i true by decide) (dat dt_J0_isLatin1_aae02 8 rfl)
theorem w_J0co (h : Hp) : MetA ⟨"java/lang/String", "coder", "()B"⟩ prog_17_method_152_code 1 (some .byte) 1 0 0 [.ref 1000003] h (some (.int 0)) h := by
  refine metA_ofJ (by decide +kernel) (Nat.le_of_ble_eq_true rfl) (fun X C K => ?_)
  have C : Cx X "java/lang/String" prog_17_method_152_code 1 (some .byte) 1 0 0 := C
  show G X h 0 0 0 [(0, .ref 1000003)] []
  refine g_gsCS C (dat dt_J0_coder_7d493 0 rfl) (gm_3 93 rfl rfl) ?_
  refine g_if_eq 13 C (dat dt_J0_coder_7d493 1 rfl) (by decide) (fun c => absurd c (by decide)) (fun c => ?_)
  refine g_aload_n C (dat dt_J0_coder_7d493 2 rfl) 0 rfl ?_
  refine g_scod C (dat dt_J0_coder_7d493 3 rfl) (gm_8 151 rfl rfl) ?_
  refine g_goto 14 C (dat dt_J0_coder_7d493 4 rfl) (by decide) ?_
  exact g_nret C K (by decide) (dat dt_J0_coder_7d493 6 rfl)
theorem w_J0le (h : Hp) : MetA ⟨"java/lang/String", "length", "()I"⟩ prog_17_method_54_code 1 (some .int) 2 0 0 [.ref 1000003] h (some (.int 144)) h := by
  refine metA_ofJ (by decide +kernel) (Nat.le_of_ble_eq_true rfl) (fun X C K => ?_)
  have C : Cx X "java/lang/String" prog_17_method_54_code 1 (some .int) 2 0 0 := C
  show G X h 0 0 0 [(0, .ref 1000003)] []
  refine g_aload_n C (dat dt_J0_length_8abf5 0 rfl) 0 rfl ?_
  refine g_sval C (dat dt_J0_length_8abf5 1 rfl) (gm_8 150 rfl rfl) ?_
  refine g_salen C (dat dt_J0_length_8abf5 2 rfl) ?_
  refine g_aload_n C (dat dt_J0_length_8abf5 3 rfl) 0 rfl ?_
  refine g_callT (As := []) (rest := [.int 144]) C (dat dt_J0_length_8abf5 4 rfl) ⟨rfl, gm_3 89 rfl rfl, gm_3 90 rfl rfl, gm_3 91 rfl rfl, gm_1 15 rfl rfl, gm_3 92 rfl rfl, ⟨by decide, by decide, by decide +kernel⟩, by decide⟩ (w_J0co h) rfl rfl (by decide) (by decide) c00 ?_
  show G X h 0 0 9 [(0, .ref 1000003)] [.int 0, .int 144]
  refine g_ishr C (dat dt_J0_length_8abf5 5 rfl) ?_
  exact g_iret C K (dat dt_J0_length_8abf5 6 rfl)
theorem w_J0ch (i : Int32) (j : Nat) (h : Hp) (hj : inb i 144 = some j) : MetA ⟨"java/lang/String", "charAt", "(I)C"⟩ prog_17_method_56_code 2 (some .char) 4 0 0 [.ref 1000003, .int i] h (some (.int (wch j))) h := by
  refine metA_ofJ (by decide +kernel) (Nat.le_of_ble_eq_true rfl) (fun X C K => ?_)
  have C : Cx X "java/lang/String" prog_17_method_56_code 2 (some .char) 4 0 0 := C
  show G X h 0 0 0 [(0, .ref 1000003), (1, .int i)] []
  refine g_aload_n C (dat dt_J0_charAt_5068e 0 rfl) 0 rfl ?_
  refine g_callT (As := []) (rest := []) C (dat dt_J0_charAt_5068e 1 rfl) ⟨rfl, gm_3 99 rfl rfl, gm_3 100 rfl rfl, gm_3 101 rfl rfl, gm_1 15 rfl rfl, gm_3 102 rfl rfl, ⟨by decide, by decide, by decide +kernel⟩, by decide⟩ (w_J0il h) rfl rfl cat0 (by decide) c00 ?_
  show G X h 0 0 4 [(0, .ref 1000003), (1, .int i)] [.int (b2i true)]
  refine g_if_eq 16 C (dat dt_J0_charAt_5068e 2 rfl) (by decide) (fun c => absurd c (by decide)) (fun c => ?_)
  refine g_aload_n C (dat dt_J0_charAt_5068e 3 rfl) 0 rfl ?_
  refine g_sval C (dat dt_J0_charAt_5068e 4 rfl) (gm_8 150 rfl rfl) ?_
  refine g_iload_n C (dat dt_J0_charAt_5068e 5 rfl) 1 rfl ?_
  refine g_cSi [.ref 1000004, .int i] C (dat dt_J0_charAt_5068e 6 rfl) (show SLk "java/lang/String" 495 ⟨"java/lang/StringLatin1", "charAt", "([BI)C"⟩ prog_18_method_2_code 2 (some .char) 2 from ⟨gm_3 103 rfl rfl, gm_3 104 rfl rfl, gm_1 16 rfl rfl, gm_3 105 rfl rfl, ⟨by decide, by decide, by decide +kernel⟩, by decide⟩) (w_J1ch i j h hj) rfl rfl cat0 (by decide) c00 ?_
  exact g_nret C K (pk_nc _) (dat dt_J0_charAt_5068e 7 rfl)
section GT
variable {X : Xt} {cc : ByteArray} {nL : Nat} {rt : Option FieldType} {D mc ms : Nat} {h : Hp} {k n pc : Nat} {lv : List (Nat × Value)} {st : List Value}
theorem g_cTlen (C : Cx X cn_5 cc nL rt D mc ms) (hd : decode cc pc = .ok (.invokevirtual 106, 3)) (hcat : (st.map fun v => v.category).sum ≤ 8) (hD : 3 ≤ D) (hc : k ≤ mc ∧ n ≤ ms) (next : G X h k n (pc + 3) lv (.int 144 :: st)) : G X h k n pc lv (.ref 1000003 :: st) :=
  g_callT (nA := 0) (As := []) (rest := st) C hd ⟨rfl, gm_3 85 rfl rfl, gm_3 86 rfl rfl, gm_3 87 rfl rfl, gm_1 15 rfl rfl, gm_3 88 rfl rfl, ⟨by decide, by decide, by decide +kernel⟩, by decide⟩ (w_J0le h) rfl rfl hcat hD hc next
theorem g_cTchr {i : Int32} {j : Nat} (C : Cx X cn_5 cc nL rt D mc ms) (hd : decode cc pc = .ok (.invokevirtual 112, 3)) (hj : inb i 144 = some j) (hcat : (st.map fun v => v.category).sum ≤ 8) (hD : 5 ≤ D) (hc : k ≤ mc ∧ n ≤ ms) (next : G X h k n (pc + 3) lv (.int (wch j) :: st)) : G X h k n pc lv (.int i :: .ref 1000003 :: st) :=
  g_callT (nA := 1) (As := [.int i]) (rest := st) C hd ⟨rfl, gm_3 95 rfl rfl, gm_3 96 rfl rfl, gm_3 97 rfl rfl, gm_1 15 rfl rfl, gm_3 98 rfl rfl, ⟨by decide, by decide, by decide +kernel⟩, by decide⟩ (w_J0ch i j h hj) rfl rfl hcat hD hc next
end GT
