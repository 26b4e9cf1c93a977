theorem ev_eq {args : Array Value} {s : State} {tm : Term} {z : Int32} (h : (Cond.eq tm (.int z)).before args s = true) : tm.eval args s none [] s = some (.int z) := by
  cases hv : tm.eval args s none [] s with
  | none => simp [Cond.before, Cond.holds, Cond.value, hv] at h
  | some w =>
    have hz : (Term.int z).eval args s none [] s = some (.int z) := rfl
    simp only [Cond.before, Cond.holds, Cond.value, hv, hz] at h
    cases w <;> simp_all
theorem nwF_in : ∀ q ∈ nwF, Cond.fieldLinkNest q.1 q.2.1 q.2.2.1 q.2.2.2.1 q.2.2.2.2.1 q.2.2.2.2.2 ∈ lw_tbl := by decide +kernel
theorem nwM_in : ∀ q ∈ nwM, Cond.methodLinkNest q.1 q.2.1 q.2.2.1 q.2.2.2 ∈ lw_tbl := by decide +kernel
def FL1 : List Cond := flatC (Jvm.Cond.and given_1 narrow_1)
theorem st_B : ∀ j, j < 36 → Cond.eq (.elem (.static "SteamNations" "BESIDE" "[I") (.int (Int32.ofNat j))) (.int (bsT.getD j 0)) ∈ FL1 := by decide +kernel
theorem st_M : ∀ j, j < 3 → Cond.eq (.elem (.static "SteamNations" "MOST_OF_TERM" "[I") (.int (Int32.ofNat j))) (.int (moT.getD j 0)) ∈ FL1 := by decide +kernel
theorem st_F : ∀ j, j < 3 → Cond.eq (.elem (.static "SteamNations" "FIRST_OF_TERM" "[I") (.int (Int32.ofNat j))) (.int (fiT.getD j 0)) ∈ FL1 := by decide +kernel
theorem st_S0 : (FL1.drop 88).take 144 = (List.range 144).map (fun j => Cond.eq (.elem (.field (.string "SteamNations$Reader" 104) "java/lang/String" "value" "[B") (.int (Int32.ofNat j))) (.int (wrdB.getD j 0))) := by decide +kernel
theorem st_S (j : Nat) (hj : j < 144) : Cond.eq (.elem (.field (.string "SteamNations$Reader" 104) "java/lang/String" "value" "[B") (.int (Int32.ofNat j))) (.int (wrdB.getD j 0)) ∈ FL1 := by
  have h1 : Cond.eq (.elem (.field (.string "SteamNations$Reader" 104) "java/lang/String" "value" "[B") (.int (Int32.ofNat j))) (.int (wrdB.getD j 0)) ∈ (FL1.drop 88).take 144 := by
    rw [st_S0]
    exact List.mem_map.mpr ⟨j, List.mem_range.mpr hj, rfl⟩
  exact List.mem_of_mem_drop (List.mem_of_mem_take h1)
theorem kn_all {s : State} {args : Array Value} (htg : ∀ w ∈ gw, w.before args s = true) : ∀ c : Nat, ∃ p : ClassId × (Nat → Nat), ∀ q, cls[c]? = some q → u_Kn s q.1 q.2.1 q.2.2 p.1 p.2
    | 0 => by
      obtain ⟨c0, iS0, hK0⟩ := u_known (C := cn_0) (T := ft_0) (N := 7) (n := 7) htg in_0 (htg _ (gm_2 8 rfl rfl : Cond.instantiable cn_0 7 ∈ gw))
      exact ⟨(c0, iS0), fun q hq => by cases hq; exact hK0⟩
    | 1 => by
      obtain ⟨c0, iS0, hK0⟩ := u_known (C := cn_1) (T := ft_1) (N := 7) (n := 7) htg in_1 (htg _ (gm_1 175 rfl rfl : Cond.instantiable cn_1 7 ∈ gw))
      exact ⟨(c0, iS0), fun q hq => by cases hq; exact hK0⟩
    | 2 => by
      obtain ⟨c0, iS0, hK0⟩ := u_known (C := cn_2) (T := ft_2) (N := 2) (n := 2) htg in_2 (htg _ (gm_1 161 rfl rfl : Cond.instantiable cn_2 2 ∈ gw))
      exact ⟨(c0, iS0), fun q hq => by cases hq; exact hK0⟩
    | 3 => by
      obtain ⟨c0, iS0, hK0⟩ := u_known (C := cn_3) (T := ft_3) (N := 3) (n := 3) htg in_3 (htg _ (gm_1 230 rfl rfl : Cond.instantiable cn_3 3 ∈ gw))
      exact ⟨(c0, iS0), fun q hq => by cases hq; exact hK0⟩
    | 4 => by
      obtain ⟨c0, iS0, hK0⟩ := u_known (C := cn_4) (T := ft_4) (N := 3) (n := 3) htg in_4 (htg _ (gm_1 75 rfl rfl : Cond.instantiable cn_4 3 ∈ gw))
      exact ⟨(c0, iS0), fun q hq => by cases hq; exact hK0⟩
    | 5 => by
      obtain ⟨c0, iS0, hK0⟩ := u_known (C := cn_5) (T := ft_5) (N := 11) (n := 11) htg in_5 (htg _ (gm_1 32 rfl rfl : Cond.instantiable cn_5 11 ∈ gw))
      exact ⟨(c0, iS0), fun q hq => by cases hq; exact hK0⟩
    | 6 => by
      obtain ⟨c0, iS0, hK0⟩ := u_known (C := cn_6) (T := ft_6) (N := 5) (n := 5) htg in_6 (htg _ (gm_1 92 rfl rfl : Cond.instantiable cn_6 5 ∈ gw))
      exact ⟨(c0, iS0), fun q hq => by cases hq; exact hK0⟩
    | 7 => by
      obtain ⟨c0, iS0, hK0⟩ := u_known (C := cn_7) (T := ft_7) (N := 12) (n := 12) htg in_7 (htg _ (gm_2 41 rfl rfl : Cond.instantiable cn_7 12 ∈ gw))
      exact ⟨(c0, iS0), fun q hq => by cases hq; exact hK0⟩
    | 8 => by
      obtain ⟨c0, iS0, hK0⟩ := u_known (C := cn_8) (T := ft_8) (N := 3) (n := 3) htg in_8 (htg _ (gm_1 214 rfl rfl : Cond.instantiable cn_8 3 ∈ gw))
      exact ⟨(c0, iS0), fun q hq => by cases hq; exact hK0⟩
    | 9 => by
      obtain ⟨c0, iS0, hK0⟩ := u_known (C := cn_9) (T := ft_9) (N := 4) (n := 4) htg in_9 (htg _ (gm_1 138 rfl rfl : Cond.instantiable cn_9 4 ∈ gw))
      exact ⟨(c0, iS0), fun q hq => by cases hq; exact hK0⟩
    | 10 => by
      obtain ⟨c0, iS0, hK0⟩ := u_known (C := cn_10) (T := ft_10) (N := 20) (n := 20) htg in_10 (htg _ (gm_1 22 rfl rfl : Cond.instantiable cn_10 20 ∈ gw))
      exact ⟨(c0, iS0), fun q hq => by cases hq; exact hK0⟩
    | 11 => by
      obtain ⟨c0, iS0, hK0⟩ := u_known (C := cn_11) (T := ft_11) (N := 56) (n := 56) htg in_11 (htg _ (gm_5 168 rfl rfl : Cond.instantiable cn_11 56 ∈ gw))
      exact ⟨(c0, iS0), fun q hq => by cases hq; exact hK0⟩
    | c + 12 => ⟨(0, fun _ => 0), fun q hq => by simp [cls] at hq⟩
theorem ar_prim {s : State} {args : Array Value} {ty : FieldType} (h : (Cond.arrayClass ty).before args s = true) (hp : ∀ C, ty ≠ .object C) : ∃ c, ArrOfT s c ty ∧ va_RA s c ty := by
  obtain ⟨cA, kA, comp, h1, h2, h3⟩ := Cond.arrayClass_spec h
  refine ⟨cA, fun N z => ⟨(fun k h => by cases h), kA, h2, comp, h3⟩, ?_⟩
  unfold va_RA
  split
  · rename_i C
    exact absurd rfl (hp C)
  · exact h1
theorem ar_obj {s : State} {args : Array Value} {C : String} (h : (Cond.arrayOver (.object C)).before args s = true) : ∃ c, ArrOfT s c (.object C) ∧ va_RA s c (.object C) := by
  obtain ⟨comp, cA, kA, h1, h2, h3, h4, h5⟩ := Cond.arrayOver_spec h
  exact ⟨cA, fun N z => ⟨(fun k h => by cases h), kA, h3, comp, h4⟩, kA, comp, h3, h4, h1, h5⟩
theorem st_arr {s : State} {args : Array Value} {f : String} {N : Nat} {g : Nat → Int32} {A : Nat → Prop} (hN : N < 2 ^ 31) (hA : ∀ a : Nat, a < s.heap.size → ¬ A a) (hl : (Cond.laysStatic "SteamNations" f "[I").before args s = true) (hi : (Cond.initialized "SteamNations").before args s = true) (ha : (Cond.arrayOf (.static "SteamNations" f "[I") .int).before args s = true) (hn : (Cond.eq (.length (.static "SteamNations" f "[I")) (.int (Int32.ofNat N))).before args s = true) (he : ∀ j, j < N → (Cond.eq (.elem (.static "SteamNations" f "[I") (.int (Int32.ofNat j))) (.int (g j))).before args s = true) : ∃ t : Nat, va_Z "SteamNations" f "[I" (.ref t) A s s.heap ∧ va_T .int t N (fun j => .int (g j)) A s s.heap := by
  obtain ⟨t, h1, h2⟩ := va_Tof (A := A) (f := fun j => .int (g j)) hN ha (ev_eq hn) (fun j hj => ev_eq (he j hj)) hA
  exact ⟨t, va_Zof hl hi h1 hA, h2⟩
theorem ok_start {s : State} {b L : Nat} {xs : Nat → Int32} (hts : ∀ w ∈ lw_tbl, w.before #[Value.ref b] s = true) (hX : va_X b L xs s s.heap) (hbl : b < s.heap.size) (hgv : (Jvm.Cond.and given_1 narrow_1).before #[Value.ref b] s = true) : ∃ E : Ex, Ok E s ∧ E.2.2.1 = s.heap.size ∧ E.2.2.2.1 2 = b ∧ E.2.2.2.2.1 = L ∧ E.2.2.2.2.2 = xs := by
  have htg : ∀ w ∈ gw, w.before #[Value.ref b] s = true := fun w hw => hts w (gw_tbl hw)
  have hs := flat_of_before _ hgv
  have hA : ∀ a : Nat, a < s.heap.size → ¬ (fun q : Nat => s.heap.size ≤ q) a := fun a h => Nat.not_le.mpr h
  have hK := kn_all htg
  obtain ⟨t0, a0, r0⟩ := ar_prim (htg _ ac_int) (fun C h => by cases h)
  obtain ⟨t1, a1, r1⟩ := ar_prim (htg _ ac_byte) (fun C h => by cases h)
  obtain ⟨t2, a2, r2⟩ := ar_prim (htg _ ac_boolean) (fun C h => by cases h)
  obtain ⟨t3, a3, r3⟩ := ar_prim (htg _ ac_long) (fun C h => by cases h)
  have oT : (Cond.arrayOver (.object "SteamNations$Text")).before #[Value.ref b] s = true := (hts _ (List.mem_of_getElem? (i := 313) (by decide +kernel) : Cond.arrayOver (.object "SteamNations$Text") ∈ lw_tbl))
  have oH : (Cond.arrayOver (.object "SteamNations$House")).before #[Value.ref b] s = true := (hts _ (List.mem_of_getElem? (i := 160) (by decide +kernel) : Cond.arrayOver (.object "SteamNations$House") ∈ lw_tbl))
  obtain ⟨t4, a4, r4⟩ := ar_obj oT
  obtain ⟨t5, a5, r5⟩ := ar_obj oH
  obtain ⟨tB, zB, vB⟩ := st_arr (f := "BESIDE") (N := 36) (g := fun j => bsT.getD j 0) (by decide) hA (hts _ (List.mem_of_getElem? (i := 946) (by decide +kernel) : Cond.laysStatic "SteamNations" "BESIDE" "[I" ∈ lw_tbl)) (hts _ (List.mem_of_getElem? (i := 131) (by decide +kernel) : Cond.initialized "SteamNations" ∈ lw_tbl)) (hs _ (by decide +kernel)) (hs _ (by decide +kernel)) (fun j hj => hs _ (st_B j hj))
  obtain ⟨tM, zM, vM⟩ := st_arr (f := "MOST_OF_TERM") (N := 3) (g := fun j => moT.getD j 0) (by decide) hA (hts _ (List.mem_of_getElem? (i := 646) (by decide +kernel) : Cond.laysStatic "SteamNations" "MOST_OF_TERM" "[I" ∈ lw_tbl)) (hts _ (List.mem_of_getElem? (i := 131) (by decide +kernel) : Cond.initialized "SteamNations" ∈ lw_tbl)) (hs _ (by decide +kernel)) (hs _ (by decide +kernel)) (fun j hj => hs _ (st_M j hj))
  obtain ⟨tF, zF, vF⟩ := st_arr (f := "FIRST_OF_TERM") (N := 3) (g := fun j => fiT.getD j 0) (by decide) hA (hts _ (List.mem_of_getElem? (i := 228) (by decide +kernel) : Cond.laysStatic "SteamNations" "FIRST_OF_TERM" "[I" ∈ lw_tbl)) (hts _ (List.mem_of_getElem? (i := 131) (by decide +kernel) : Cond.initialized "SteamNations" ∈ lw_tbl)) (hs _ (by decide +kernel)) (hs _ (by decide +kernel)) (fun j hj => hs _ (st_F j hj))
  obtain ⟨adK, adV, vS, vE⟩ := vk_Sof (A := fun q : Nat => s.heap.size ≤ q) (N := 1) (tm := fun _ => .string "SteamNations$Reader" 104) (len := [144]) (byt := [wrdB]) (fun i hi => by rw [show i = 0 by omega]; decide) (fun i hi => hs _ (by decide +kernel)) (fun i hi => hs _ (by decide +kernel)) (fun i hi => hs _ (by decide +kernel)) (fun i hi => by rw [show i = 0 by omega]; exact hs _ (by decide +kernel)) (fun i hi j hj => by
      have h0 : i = 0 := by omega
      subst h0
      exact hs _ (st_S j hj)) (fun i j hi hj hij => absurd (show i = j by omega) hij) hA
  have zC := va_Zof (A := fun q : Nat => s.heap.size ≤ q) (hts _ (List.mem_of_getElem? (i := 704) (by decide +kernel) : Cond.laysStatic "java/lang/String" "COMPACT_STRINGS" "Z" ∈ lw_tbl)) (hts _ (List.mem_of_getElem? (i := 145) (by decide +kernel) : Cond.initialized "java/lang/String" ∈ lw_tbl)) (va_eqi (z := 1) (hs _ (by decide +kernel))) hA
  obtain ⟨tS, zS⟩ : ∃ tS : Nat, va_Z "jdk/internal/util/Preconditions" "SIOOBE_FORMATTER" "Ljava/util/function/BiFunction;" .null (fun q : Nat => s.heap.size ≤ q) s s.heap ∨ va_Z "jdk/internal/util/Preconditions" "SIOOBE_FORMATTER" "Ljava/util/function/BiFunction;" (.ref tS) (fun q : Nat => s.heap.size ≤ q) s s.heap := by
    rcases va_Zqof (A := fun q : Nat => s.heap.size ≤ q) (hts _ (List.mem_of_getElem? (i := 720) (by decide +kernel) : Cond.laysStatic "jdk/internal/util/Preconditions" "SIOOBE_FORMATTER" "Ljava/util/function/BiFunction;" ∈ lw_tbl)) (hts _ (List.mem_of_getElem? (i := 147) (by decide +kernel) : Cond.initialized "jdk/internal/util/Preconditions" ∈ lw_tbl)) (hs _ (by decide +kernel)) hA with h | ⟨t, h⟩
    · exact ⟨0, Or.inl h⟩
    · exact ⟨t, Or.inr h⟩
  have vX : va_T .int b L (fun j => .int (xs j)) (fun q : Nat => s.heap.size ≤ q) s s.heap := by
    obtain ⟨scr, h1, h2, h3, h4, h5⟩ := hX
    exact ⟨scr, h1, h2, h3, h4 ▸ Nat.le_refl _, by rw [h4], h5, hA b hbl⟩
  refine ⟨((fun c => (Classical.choose (hK c)).1, fun c => (Classical.choose (hK c)).2), (fun t => if t = 0 then t0 else if t = 1 then t1 else if t = 2 then t2 else if t = 3 then t3 else if t = 4 then t4 else t5), s.heap.size, (fun i => if i = 0 then tB else if i = 1 then tM else if i = 2 then b else if i = 3 then adK 0 else if i = 4 then adV 0 else if i = 5 then tS else tF), L, xs), ?_, rfl, rfl, rfl, rfl⟩
  refine ⟨⟨fun c q hq => Classical.choose_spec (hK c) q hq, fun k q hk => ?_⟩, fun q hq => va_Nw.of rfl (hts _ (nwF_in q hq)), fun q hq => va_Nw.of rfl (hts _ (nwM_in q hq)), zB, vB, zM, vM, vX, vk_R.of (A := #[Value.ref b]) (hts _ (List.mem_of_getElem? (i := 694) (by decide +kernel) : Cond.stringRef "SteamNations$Reader" 104 wrd ∈ lw_tbl)) ?_, ?_, zC, zS, zF, vF, oT, oH, va_Nw.of rfl (hts _ (List.mem_of_getElem? (i := 850) (by decide +kernel) : Cond.castable "[I" "java/lang/Cloneable" ∈ lw_tbl))⟩
  · match k, hk with
    | 0, hk => cases hk; exact ⟨a0, r0⟩
    | 1, hk => cases hk; exact ⟨a1, r1⟩
    | 2, hk => cases hk; exact ⟨a2, r2⟩
    | 3, hk => cases hk; exact ⟨a3, r3⟩
    | 4, hk => cases hk; exact ⟨a4, r4⟩
    | 5, hk => cases hk; exact ⟨a5, r5⟩
    | k + 6, hk => simp [tys] at hk
  · exact vE 0 (by decide)
  · refine ⟨fun i hi => ?_, fun i j hi hj _ => by omega⟩
    have h0 : i = 0 := by omega
    subst h0
    exact vS.1 0 (by decide)
theorem Gc_of_G {X : Xt} {h : Hp} {cs : List CC} {k n pc : Nat} {lv : List (Nat × Value)} {st : List Value} (hc : csOf h = cs) (hz : 110 ≤ sz h) (hg : G X h k n pc lv st) : Gc X cs k n pc lv st := by
  subst hc
  obtain ⟨p, l, e, R, s, m, args, below, meth, c, Q, E⟩ := X
  intro H locs ls hR hS hl
  exact hg H locs ls (Rl_of hz hR) hS hl
theorem no_L_7 : NOk "SteamNationsLaw" 7 10 20 := ⟨cn_10, ft_10, fy_10, rfl, in_10, fo_10, gm_1 21 rfl rfl, gm_1 22 rfl rfl, gm_1 1 rfl rfl, fun j hj E => (dv_10 j hj).trans (congrArg (fun z => vp_V z j) (show dfl 10 = (dfl 10).map (cv E) from rfl))⟩
theorem no_L_10 : NOk "SteamNationsLaw" 10 11 56 := ⟨cn_11, ft_11, fy_11, rfl, in_11, fo_11, gm_5 167 rfl rfl, gm_5 168 rfl rfl, gm_1 13 rfl rfl, fun j hj E => (dv_11 j hj).trans (congrArg (fun z => vp_V z j) (show dfl 11 = (dfl 11).map (cv E) from rfl))⟩
theorem il_L_9 : ILk "SteamNationsLaw" 9 ⟨"SteamNations", "<init>", "()V"⟩ prog_1_method_1_code 4 0 := ⟨Or.inl (gm_1 23 rfl rfl), gm_1 24 rfl rfl, gm_1 1 rfl rfl, gm_1 25 rfl rfl, ⟨by decide, by decide, by decide +kernel⟩, by decide, rfl⟩
theorem il_L_12 : ILk "SteamNationsLaw" 12 ⟨"SteamNationsModel", "<init>", "()V"⟩ prog_13_method_12_code 1 0 := ⟨Or.inl (gm_5 169 rfl rfl), gm_5 170 rfl rfl, gm_1 13 rfl rfl, gm_5 171 rfl rfl, ⟨by decide, by decide, by decide +kernel⟩, by decide, rfl⟩
set_option maxRecDepth 20000 in
/-- the whole, once each call is matched -/
theorem start_of {I : Nat → Hp → Prop} (hO : StepOK I) (hI : I 0 h0) {p : Program} {e : Env} {s : State} {m : MethodId} {below : List Frame} {meth : Method} {c : Code} (l : Launch) {b L : Nat} {xs : Nat → Int32} (hL : L ≤ 3072) (C0 : lw_At p s m meth c b L xs) : W p l e room_1 s m #[Value.ref b] below meth c s.heap [] 0 0 (lw_Z below #[Value.ref b] s) (entryFrame m ([Value.ref b] : List Value).toArray 4) := by
  obtain ⟨hx, hb, hr, hml, hown, hts, hX, hbl, hlocks, hgv⟩ := id C0
  obtain ⟨E, hE, eB0, e2, eL0, eX⟩ := ok_start hts hX hbl hgv
  have C : Cx (p, l, e, room_1, s, m, #[Value.ref b], below, meth, c, lw_Z below #[Value.ref b] s, E) "SteamNationsLaw" code 4 (some .boolean) 200 600000 7302249 :=
    ⟨hx, hb, hml, hown, fun w hw => hts w (gw_tbl hw), hE, hlocks, hr, by decide, by decide, by decide, by decide, by rw [eB0]; exact Nat.le_refl _, rfl⟩
  have fin : ∀ h k n, k ≤ 600000 → n ≤ 7302249 → ∀ lv, G (p, l, e, room_1, s, m, #[Value.ref b], below, meth, c, lw_Z below #[Value.ref b] s, E) h k n 1251 lv [] := by
    intro h k n hk hn lv
    refine g_iconst C (dat dt_L_14 1 rfl) ic_1 ?_
    refine g_widen hk hn ?_
    intro H locs ls hR hS hl
    refine va_forget (fun q hq => ?_) ?_
    · have := hS.2.2 q hq
      show s.heap.size ≤ q.base
      rw [← eB0]
      exact this
    · exact lw_ret hx hb hr hlocks (dat dt_L_14 2 rfl)
  have hloop := fun h hI0 => law_loop C hO (by show E.2.2.2.2.1 ≤ 3072; rw [eL0]; exact hL) fin 512 0 h hI0 (by decide) (by show E.2.2.2.2.1 < _; rw [eL0]; omega)
  have key : Gc (p, l, e, room_1, s, m, #[Value.ref b], below, meth, c, lw_Z below #[Value.ref b] s, E) [] 0 0 0 [(0, .ref 1000002)] [] := by
    refine gc_new C (dat dt_L_0 0 rfl) no_L_7 (cs' := [.inl (10, dfl 10)]) rfl ⟨by decide, by decide⟩ ?_
    refine gc_dup C (dat dt_L_0 1 rfl) rfl ?_
    refine gc_callI (As := []) (rest := [.ref 0]) C (dat dt_L_0 2 rfl) il_L_9 (wi_X10 0 _ _ i10_eq) rfl rfl rfl (by decide) (by decide) ⟨by decide, by decide⟩ ?_
    refine gc_astore_n (lv' := [(0, .ref 1000002), (1, .ref 0)]) C (dat dt_L_0 3 rfl) (by decide) rfl ?_
    refine gc_new C (dat dt_L_0 4 rfl) no_L_10 (cs' := L10 ++ [.inl (11, dfl 11)]) rfl ⟨by decide, by decide⟩ ?_
    show Gc _ _ _ _ _ _ [.ref 81]
    refine gc_dup C (dat dt_L_0 5 rfl) rfl ?_
    refine gc_callI (As := []) (rest := [.ref 81]) C (dat dt_L_0 6 rfl) il_L_12 (wi_X11 81 _ _ i11_eq) (c0 := .inl (11, dfl 11)) rfl rfl rfl (by decide) (by decide) ⟨by decide, by decide⟩ ?_
    refine gc_astore_n (lv' := [(0, .ref 1000002), (1, .ref 0), (2, .ref 81)]) C (dat dt_L_0 7 rfl) (by decide) rfl ?_
    refine gc_iconst C (dat dt_L_0 8 rfl) ic_0 ?_
    refine gc_istore_n (lv' := [(0, .ref 1000002), (1, .ref 0), (2, .ref 81), (3, .int 0)]) C (dat dt_L_0 9 rfl) (by decide) rfl ?_
    exact Gc_of_G h0_eq (by decide) (hloop h0 hI)
  have hl := lv_entry ([.ref b]) (n := 4) (Nat.le_of_ble_eq_true rfl)
  rw [lg_entry_eq]
  have hl2 : lv_has ((lg_sl [Value.ref b] ++ List.replicate (4 - (lg_sl [Value.ref b]).length) Slot.unset).toArray) c.maxLocals (cl2 E [(0, .ref 1000002)]) := by
    rw [hml]
    have e9 : cl2 E [(0, .ref 1000002)] = lv_args 0 [Value.ref b] := by
      show [((0 : Nat), Value.ref (E.2.2.2.1 2))] = [(0, Value.ref b)]
      rw [e2]
    rw [e9]
    exact hl
  exact key s.heap [] _ ⟨by rw [eB0]; rfl, by decide, fun k q hq => by simp [wsC] at hq⟩ va_S.rf hl2
