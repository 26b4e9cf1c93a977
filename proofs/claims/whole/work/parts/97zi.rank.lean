/-! ===== ranks of seatings, exchanges ===== -/
def lwC (s : Nat → Nat) (i n : Nat) : Nat := cntN (fun j => decide (i < j) && decide (s j < s i)) n
def rkS (s : Nat → Nat) (m : Nat) : Nat → Nat
  | 0 => 0
  | i + 1 => rkS s m i * (m - i) + lwC s i m
def prM (m : Nat) : Nat → Nat
  | 0 => 1
  | i + 1 => prM m i * (m - i)
theorem prM_f : ∀ m, m ≤ 6 → prM m m = fct m := by decide
theorem lwC_0 (s : Nat → Nat) (i : Nat) : ∀ n, n ≤ i + 1 → lwC s i n = 0
  | 0, _ => rfl
  | n + 1, h => by
    have := lwC_0 s i n (by omega)
    unfold lwC at this ⊢
    show cntN _ n + (if (decide (i < n) && decide (s n < s i)) = true then 1 else 0) = 0
    rw [this, decide_eq_false (show ¬ i < n by omega), if_neg (by simp)]
theorem lwC_le (s : Nat → Nat) (i : Nat) : ∀ n, lwC s i n ≤ n - (i + 1)
  | 0 => by show 0 ≤ _; omega
  | n + 1 => by
    by_cases c : n + 1 ≤ i + 1
    · rw [lwC_0 s i (n + 1) c]; omega
    · have := lwC_le s i n
      unfold lwC at this ⊢
      show cntN _ n + (if (decide (i < n) && decide (s n < s i)) = true then 1 else 0) ≤ _
      split <;> omega
theorem rkS_lt (s : Nat → Nat) {m : Nat} : ∀ i, i ≤ m → rkS s m i + 1 ≤ prM m i
  | 0, _ => by show 0 + 1 ≤ 1; omega
  | i + 1, h => by
    have IH := rkS_lt s (m := m) i (by omega)
    have l := lwC_le s i m
    show rkS s m i * (m - i) + lwC s i m + 1 ≤ prM m i * (m - i)
    obtain ⟨d, hd⟩ : ∃ d, prM m i = rkS s m i + 1 + d := ⟨prM m i - (rkS s m i + 1), by omega⟩
    rw [hd, Nat.add_mul, Nat.add_mul, Nat.one_mul]
    have : 0 ≤ d * (m - i) := Nat.zero_le _
    omega
theorem rk_lt (s : Nat → Nat) {m : Nat} (hm : m ≤ 6) : rkS s m m < fct m := by
  have := rkS_lt s m (Nat.le_refl _)
  rw [prM_f m hm] at this
  omega
theorem rk_i (s : Nat → Nat) {m i : Nat} (hm : m ≤ 6) (hi : i ≤ m) : rkS s m i ≤ 720 := by
  have h1 := rkS_lt s i hi
  have : ∀ m, m ≤ 6 → ∀ i, i ≤ m → prM m i ≤ 720 := by decide
  have := this m hm i hi
  omega
theorem lw_s {s : Nat → Nat} {i n : Nat} (h : i < n) : lwC s i (n + 1) = lwC s i n + (if s n < s i then 1 else 0) := by
  unfold lwC
  show cntN _ n + (if (decide (i < n) && decide (s n < s i)) = true then 1 else 0) = _
  congr 1
  rw [decide_eq_true h]
  by_cases c : s n < s i
  · rw [if_pos c, decide_eq_true c, if_pos (show (true && true) = true from rfl)]
  · rw [if_neg c, decide_eq_false c, if_neg (by simp)]
def swF (s : Nat → Nat) (i j : Nat) : Nat → Nat := fun x => if x = i then s j else if x = j then s i else s x
def NS (s : Nat → Nat) (m i j : Nat) : Option Nat := if s j ∈ nbs (s i) then some (rkS (swF s i j) m m) else none
/-- the reference: K2 seats the holders as s says -/
def StS (K2 : Nat → Int32) (K : Nat → Int32) (k : Nat) (s : Nat → Nat) : Prop := ∀ x, x < (insL K k).length → K2 (18 + (insL K k).getD x 0) = nI (s x) ∧ s x < 9
section RNK
variable {K : Nat → Int32} {k : Nat}
theorem m_now {h : Hp} (hh : HLD h K k) (hw : WF K k) {s : Nat → Nat} (hs : StS (aI h 83) K k s) : f_X11_seatingNow h = some (nI (rkS s (insL K k).length (insL K k).length)) := by
  have h6 := hw.2.1
  have m6 := ins_le hw
  have seat : ∀ x, x < (insL K k).length → (inb (nI x) 6).bind (fun j => f_X11_seatOf (aI h 97 j) h) = some (nI (s x)) := by
    intro x hx
    have ip := (ins_at hw hx).1
    rw [inb_nI (show x < 6 by omega) (by omega), Option.bind_some, hh.2.2.1 x hx, m_seatOf (by omega), (hs x hx).1]
  have seat2 : ∀ x, x < (insL K k).length → inb (nI x) 6 = some x ∧ f_X11_seatOf (aI h 97 x) h = some (nI (s x)) := by
    intro x hx
    have ip := (ins_at hw hx).1
    exact ⟨inb_nI (by omega) (by omega), by rw [hh.2.2.1 x hx, m_seatOf (by omega), (hs x hx).1]⟩
  have inner : ∀ i, i < (insL K k).length → ∀ x1, lp (fun t => b_X11_seatingNow_19_4 x1 (nI i) t.1 t.2 h) FU ((0 : Int32), nI (i + 1)) = some (nI (lwC s i (insL K k).length)) := by
    intro i hi x1
    have key := lp_run (b := fun t : Int32 × Int32 => b_X11_seatingNow_19_4 x1 (nI i) t.1 t.2 h) (fun t => (nI (lwC s i (i + 1 + t)), nI (i + 1 + t))) ((insL K k).length - (i + 1)) (nI (lwC s i (insL K k).length)) (by omega) (fun t ht => ?_) ?_
    · have e : ((0 : Int32), nI (i + 1)) = (nI (lwC s i (i + 1 + 0)), nI (i + 1 + 0)) := by rw [Nat.add_zero, lwC_0 s i (i + 1) (Nat.le_refl _)]; rfl
      rw [e]
      exact key
    · have hj : i + 1 + t < (insL K k).length := by omega
      obtain ⟨a1, a2⟩ := seat2 _ hj
      obtain ⟨b1, b2⟩ := seat2 _ hi
      have v1 := (hs _ hj).2
      have v2 := (hs _ hi).2
      show b_X11_seatingNow_19_4 x1 (nI i) (nI (lwC s i (i + 1 + t))) (nI (i + 1 + t)) h = some (.inl (nI (lwC s i (i + 1 + t + 1)), nI (i + 1 + t + 1)))
      unfold b_X11_seatingNow_19_4 j_X11_seatingNow_58_19
      rw [hh.1, if_neg (nI_ge hj (by omega)), a1, Option.bind_some, a2, Option.bind_some, b1, Option.bind_some, b2, Option.bind_some, nI_1, lw_s (by omega)]
      by_cases c : s (i + 1 + t) < s i
      · rw [if_neg (nI_ge c (by omega)), if_pos c]
        show some (Sum.inl (nI _ + nI 1, _)) = _
        rw [nI_add]
      · rw [if_pos (nI_le (by omega) (by omega)), if_neg c]
        show some (Sum.inl (nI _ + nI 0, _)) = _
        rw [nI_add]
    · show b_X11_seatingNow_19_4 x1 (nI i) _ (nI (i + 1 + ((insL K k).length - (i + 1)))) h = _
      unfold b_X11_seatingNow_19_4
      rw [hh.1, if_pos (nI_le (by omega) (by omega)), show i + 1 + ((insL K k).length - (i + 1)) = (insL K k).length by omega]
  unfold f_X11_seatingNow
  have key := lp_run (b := fun t : Int32 × Int32 => b_X11_seatingNow_4 t.1 t.2 h) (fun i => (nI (rkS s (insL K k).length i), nI i)) (insL K k).length (nI (rkS s (insL K k).length (insL K k).length)) (by omega) (fun i hi => ?_) ?_
  · have key' : lp (fun t : Int32 × Int32 => b_X11_seatingNow_4 t.1 t.2 h) FU ((0 : Int32), (0 : Int32)) = _ := key
    rw [key', Option.bind_some]
  · show b_X11_seatingNow_4 (nI (rkS s (insL K k).length i)) (nI i) h = _
    unfold b_X11_seatingNow_4
    rw [hh.1, if_neg (nI_ge hi (by omega)), nI_1, inner i hi, Option.bind_some, pk_sub (by omega), pk_mul, nI_add]
    rfl
  · show b_X11_seatingNow_4 _ (nI (insL K k).length) h = _
    unfold b_X11_seatingNow_4
    rw [hh.1, if_pos (Int32.le_refl _)]
theorem m_swapped {h : Hp} (hh : HLD h K k) (hw : WF K k) {s : Nat → Nat} (hs : StS (aI h 83) K k s) {i j : Nat} (hij : i < j) (hj : j < (insL K k).length) : ∃ h', f_X11_swapped (nI i) (nI j) h = some ((match NS s (insL K k).length i j with
    | none => (-1 : Int32)
    | some r => nI r), h') ∧ aI h' 83 = aI h 83 ∧ Fr (fun a => a = 83) noF h h' := by
  have h6 := hw.2.1
  have m6 := ins_le hw
  have hi : i < (insL K k).length := by omega
  have ip := (ins_at hw hi).1
  have jp := (ins_at hw hj).1
  have ne : (insL K k).getD i 0 ≠ (insL K k).getD j 0 := fun e => by have := ins_inj hi hj e; omega
  obtain ⟨s1, s2⟩ := hs i hi
  obtain ⟨t1, t2⟩ := hs j hj
  have two : ∀ (g : Hp) (a b : Int32), aI g 83 (18 + (insL K k).getD i 0) = a → aI g 83 (18 + (insL K k).getD j 0) = b → f_X11_swapsTwo (nI ((insL K k).getD i 0)) (nI ((insL K k).getD j 0)) g = some ((), sA (sA g 83 (18 + (insL K k).getD i 0) b) 83 (18 + (insL K k).getD j 0) a) := by
    intro g a b ea eb
    unfold f_X11_swapsTwo
    rw [m_seatOf (by omega), Option.bind_some, m_seatOf (by omega), Option.bind_some, l18_, m_inb (show 18 + (insL K k).getD i 0 < 5662 by omega) (by omega), Option.bind_some, m_inb (show 18 + (insL K k).getD j 0 < 5662 by omega) (by omega), Option.bind_some, ea, eb]
  unfold f_X11_swapped NS
  rw [inb_nI (show i < 6 by omega) (by omega), Option.bind_some, inb_nI (show j < 6 by omega) (by omega), Option.bind_some, hh.2.2.1 i hi, hh.2.2.1 j hj, m_seatOf (by omega), Option.bind_some, m_seatOf (by omega), Option.bind_some, s1, t1, m_beside _ s2 _ t2, Option.bind_some]
  by_cases c : s j ∈ nbs (s i)
  · rw [decide_eq_true c, if_pos rfl, if_pos c, two h _ _ s1 t1, Option.bind_some]
    have F1 : Fr (fun a => a = 83) noF h (sA (sA h 83 (18 + (insL K k).getD i 0) (nI (s j))) 83 (18 + (insL K k).getD j 0) (nI (s i))) := Fr_tA (Fr_sA rfl) rfl
    have hh1 := HLD_fr hh F1 (by omega) (by omega) (fun c => c) (fun c => c)
    have hs1 : StS (aI (sA (sA h 83 (18 + (insL K k).getD i 0) (nI (s j))) 83 (18 + (insL K k).getD j 0) (nI (s i))) 83) K k (swF s i j) := by
      intro x hx
      unfold swF
      by_cases c1 : x = i
      · rw [c1, aI_n (by omega), aI_s, if_pos rfl]
        exact ⟨rfl, t2⟩
      · rw [if_neg c1]
        by_cases c2 : x = j
        · rw [c2, aI_s, if_pos rfl]
          exact ⟨rfl, s2⟩
        · have n1 : (insL K k).getD x 0 ≠ (insL K k).getD i 0 := fun e => c1 (ins_inj hx hi e)
          have n2 : (insL K k).getD x 0 ≠ (insL K k).getD j 0 := fun e => c2 (ins_inj hx hj e)
          rw [if_neg c2, aI_n (by omega), aI_n (by omega)]
          exact hs x hx
    have v1 : aI (sA (sA h 83 (18 + (insL K k).getD i 0) (nI (s j))) 83 (18 + (insL K k).getD j 0) (nI (s i))) 83 (18 + (insL K k).getD i 0) = nI (s j) := by rw [aI_n (by omega), aI_s]
    have v2 : aI (sA (sA h 83 (18 + (insL K k).getD i 0) (nI (s j))) 83 (18 + (insL K k).getD j 0) (nI (s i))) 83 (18 + (insL K k).getD j 0) = nI (s i) := aI_s
    have hback := two (sA (sA h 83 (18 + (insL K k).getD i 0) (nI (s j))) 83 (18 + (insL K k).getD j 0) (nI (s i))) _ _ v1 v2
    have hnow := m_now hh1 hw hs1
    have F2 : Fr (fun a => a = 83) noF h (sA (sA (sA (sA h 83 (18 + (insL K k).getD i 0) (nI (s j))) 83 (18 + (insL K k).getD j 0) (nI (s i))) 83 (18 + (insL K k).getD i 0) (nI (s i))) 83 (18 + (insL K k).getD j 0) (nI (s j))) := Fr_tA (Fr_tA F1 rfl) rfl
    refine ⟨sA (sA (sA (sA h 83 (18 + (insL K k).getD i 0) (nI (s j))) 83 (18 + (insL K k).getD j 0) (nI (s i))) 83 (18 + (insL K k).getD i 0) (nI (s i))) 83 (18 + (insL K k).getD j 0) (nI (s j)), ?_, ?_, F2⟩
    · dsimp only
      rw [hnow, Option.bind_some, hback, Option.bind_some]
    · funext y
      by_cases c1 : y = 18 + (insL K k).getD j 0
      · rw [c1, aI_s, t1]
      · rw [aI_n c1]
        by_cases c2 : y = 18 + (insL K k).getD i 0
        · rw [c2, aI_s, s1]
        · rw [aI_n c2, aI_n c1, aI_n c2]
  · rw [decide_eq_false c, if_neg Bool.false_ne_true, if_neg c]
    exact ⟨h, rfl, rfl, Fr_rfl⟩
/-! the class's rows -/
def RwS (R : Nat) (K : Nat → Int32) (k : Nat) (s : Nat → Nat) : Prop := R < 16777216 ∧ ∀ x, x < (insL K k).length → R / 16 ^ (insL K k).getD x 0 % 16 = s x ∧ s x < 9
theorem c_sor2 {R : Nat} {s : Nat → Nat} (hw : WF K k) (hR : RwS R K k s) {x : Nat} (hx : x < (insL K k).length) : f_X7_seatOfRow (nI R) (nI ((insL K k).getD x 0)) = some (nI (s x)) := by
  have h6 := hw.2.1
  have ip := (ins_at hw hx).1
  obtain ⟨r1, r2⟩ := hR
  obtain ⟨e1, e2⟩ := r2 x hx
  unfold f_X7_seatOfRow
  rw [dg4 (by omega) (by omega), e1, if_neg (fun d => by have := (nI_eq (by omega) (by omega)).mp (show nI (s x) = nI 15 from d); omega)]
theorem xd16 : ∀ D, D < 16 → ∀ o, o < 6 → ∀ p, p < 6 → (D * 16 ^ o) / 16 ^ p % 16 = if p = o then D else 0 := by decide +kernel
theorem xr1 : ∀ a, a < 16 → ∀ b, b < 16 → (a ^^^ (a ^^^ b)) ^^^ 0 = b ∧ (b ^^^ 0) ^^^ (a ^^^ b) = a ∧ (a ^^^ 0) ^^^ 0 = a ∧ a ^^^ b < 16 := by decide
theorem xor_dg (a b p : Nat) : (a ^^^ b) / 16 ^ p % 16 = (a / 16 ^ p % 16) ^^^ (b / 16 ^ p % 16) := by
  rw [← p16, Nat.xor_div_two_pow]
  exact Nat.xor_mod_two_pow (n := 4)
theorem c_exd {R : Nat} {s : Nat → Nat} (hw : WF K k) (hR : RwS R K k s) {i j : Nat} (hij : i < j) (hj : j < (insL K k).length) : ∃ R', f_X7_exchanged (nI R) (nI ((insL K k).getD i 0)) (nI ((insL K k).getD j 0)) = some (nI R') ∧ RwS R' K k (swF s i j) := by
  have h6 := hw.2.1
  have hi : i < (insL K k).length := by omega
  have ip := (ins_at hw hi).1
  have jp := (ins_at hw hj).1
  have ne : (insL K k).getD i 0 ≠ (insL K k).getD j 0 := fun e => by have := ins_inj hi hj e; omega
  obtain ⟨r1, r2⟩ := hR
  obtain ⟨a1, a2⟩ := r2 i hi
  obtain ⟨b1, b2⟩ := r2 j hj
  have inj := fun {x y : Nat} (hx : x < (insL K k).length) (hy : y < (insL K k).length) (e : (insL K k).getD x 0 = (insL K k).getD y 0) => ins_inj (K := K) (k := k) hx hy e
  generalize hu : (insL K k).getD i 0 = u at ip ne a1
  generalize hv : (insL K k).getD j 0 = v at jp ne b1
  have D16 := (xr1 (s i) (by omega) (s j) (by omega)).2.2.2
  have sh : ∀ o, o < 6 → nI R >>> ((4 : Int32) * nI o &&& 31) = nI (R / 16 ^ o) := fun o ho => by rw [l4_, pk_mul, pk_shrN (by omega) _ (4 * o) (s_l (4 * o) (by omega)), p16]
  have dle : ∀ o, R / 16 ^ o < 16777216 := fun o => by have := Nat.div_le_self R (16 ^ o); omega
  have eD : (nI (R / 16 ^ u) ^^^ nI (R / 16 ^ v)) &&& 15 = nI (s i ^^^ s j) := by
    have l1 := dle u
    have l2 := dle v
    have lx : R / 16 ^ u ^^^ R / 16 ^ v < 2 ^ 31 := Nat.xor_lt_two_pow (by omega) (by omega)
    rw [nI_xor (by omega) (by omega), pk_andN (m := 15) (by omega) 4 rfl, show (R / 16 ^ u ^^^ R / 16 ^ v) % 2 ^ 4 = (R / 16 ^ u % 2 ^ 4) ^^^ (R / 16 ^ v % 2 ^ 4) from Nat.xor_mod_two_pow, show R / 16 ^ u % 2 ^ 4 = s i from a1, show R / 16 ^ v % 2 ^ 4 = s j from b1]
  have m24 : ∀ o, o < 6 → (s i ^^^ s j) * 16 ^ o < 2 ^ 24 := by
    intro o ho
    have : 16 ^ o ≤ 16 ^ 5 := Nat.pow_le_pow_right (by omega) (by omega)
    have : (s i ^^^ s j) * 16 ^ o ≤ 15 * 16 ^ 5 := Nat.mul_le_mul (by omega) this
    omega
  have mu := m24 u (by omega)
  have mv := m24 v (by omega)
  have x1 : R ^^^ (s i ^^^ s j) * 16 ^ u < 2 ^ 24 := Nat.xor_lt_two_pow (by omega) mu
  have x2 : (R ^^^ (s i ^^^ s j) * 16 ^ u) ^^^ (s i ^^^ s j) * 16 ^ v < 2 ^ 24 := Nat.xor_lt_two_pow x1 mv
  refine ⟨(R ^^^ (s i ^^^ s j) * 16 ^ u) ^^^ (s i ^^^ s j) * 16 ^ v, ?_, by omega, fun x hx => ?_⟩
  · unfold f_X7_exchanged
    rw [sh u (by omega), sh v (by omega), eD, sh4 (by omega) D16, sh4 (by omega) D16, p16, p16, nI_xor (by omega) (by omega), nI_xor (by omega) (by omega)]
  · have xp := (ins_at hw hx).1
    obtain ⟨e1, e2⟩ := r2 x hx
    rw [xor_dg, xor_dg, xd16 _ D16 u (by omega) _ (by omega), xd16 _ D16 v (by omega) _ (by omega), e1]
    unfold swF
    by_cases c1 : x = i
    · subst c1
      rw [hu, if_pos rfl, if_neg ne, if_pos rfl]
      exact ⟨(xr1 (s x) (by omega) (s j) (by omega)).1, b2⟩
    · have n1 : (insL K k).getD x 0 ≠ u := fun e => c1 (inj hx hi (e.trans hu.symm))
      rw [if_neg n1, if_neg c1]
      by_cases c2 : x = j
      · subst c2
        rw [hv, if_pos rfl, if_pos rfl]
        exact ⟨(xr1 (s i) (by omega) (s x) (by omega)).2.1, a2⟩
      · have n2 : (insL K k).getD x 0 ≠ v := fun e => c2 (inj hx hj (e.trans hv.symm))
        rw [if_neg n2, if_neg c2]
        exact ⟨(xr1 (s x) (by omega) 0 (by omega)).2.2.1, e2⟩
/-- what the class holds of insiders -/
def INS (h : Hp) (K : Nat → Int32) (k : Nat) : Prop := fI h 68 9 = nI (insL K k).length ∧ fI h 68 10 = nI (fct (insL K k).length) ∧ ∀ i, i < (insL K k).length → aI h 78 i = nI ((insL K k).getD i 0)
theorem c_rank {h : Hp} (hh : INS h K k) (hw : WF K k) {R : Nat} {s : Nat → Nat} (hR : RwS R K k s) : f_X7_rankOf (nI R) h = some (nI (rkS s (insL K k).length (insL K k).length)) := by
  have h6 := hw.2.1
  have m6 := ins_le hw
  have inner : ∀ i, i < (insL K k).length → ∀ x2, lp (fun t => b_X7_rankOf_20_4 (nI R) x2 (nI i) t.1 t.2 h) FU ((0 : Int32), nI (i + 1)) = some (nI (lwC s i (insL K k).length)) := by
    intro i hi x2
    have key := lp_run (b := fun t : Int32 × Int32 => b_X7_rankOf_20_4 (nI R) x2 (nI i) t.1 t.2 h) (fun t => (nI (lwC s i (i + 1 + t)), nI (i + 1 + t))) ((insL K k).length - (i + 1)) (nI (lwC s i (insL K k).length)) (by omega) (fun t ht => ?_) ?_
    · have e : ((0 : Int32), nI (i + 1)) = (nI (lwC s i (i + 1 + 0)), nI (i + 1 + 0)) := by rw [Nat.add_zero, lwC_0 s i (i + 1) (Nat.le_refl _)]; rfl
      rw [e]
      exact key
    · have hj : i + 1 + t < (insL K k).length := by omega
      have v1 := (hR.2 _ hj).2
      have v2 := (hR.2 _ hi).2
      show b_X7_rankOf_20_4 (nI R) x2 (nI i) (nI (lwC s i (i + 1 + t))) (nI (i + 1 + t)) h = some (.inl (nI (lwC s i (i + 1 + t + 1)), nI (i + 1 + t + 1)))
      unfold b_X7_rankOf_20_4 j_X7_rankOf_60_20 f_X10_oneIf
      rw [hh.1, if_neg (nI_ge hj (by omega)), inb_nI (show i + 1 + t < 6 by omega) (by omega), Option.bind_some, hh.2.2 _ hj, c_sor2 hw hR hj, Option.bind_some, inb_nI (show i < 6 by omega) (by omega), Option.bind_some, hh.2.2 _ hi, c_sor2 hw hR hi, Option.bind_some, nI_1, lw_s (by omega)]
      by_cases c : s (i + 1 + t) < s i
      · rw [if_neg (nI_ge c (by omega)), if_pos c, if_neg (by decide), Option.bind_some]
        show some (Sum.inl (nI _ + nI 1, _)) = _
        rw [nI_add]
      · rw [if_pos (nI_le (by omega) (by omega)), if_neg c, if_pos rfl, Option.bind_some]
        show some (Sum.inl (nI _ + nI 0, _)) = _
        rw [nI_add]
    · show b_X7_rankOf_20_4 (nI R) x2 (nI i) _ (nI (i + 1 + ((insL K k).length - (i + 1)))) h = _
      unfold b_X7_rankOf_20_4
      rw [hh.1, if_pos (nI_le (by omega) (by omega)), show i + 1 + ((insL K k).length - (i + 1)) = (insL K k).length by omega]
  unfold f_X7_rankOf
  have key := lp_run (b := fun t : Int32 × Int32 => b_X7_rankOf_4 (nI R) t.1 t.2 h) (fun i => (nI (rkS s (insL K k).length i), nI i)) (insL K k).length (nI (rkS s (insL K k).length (insL K k).length)) (by omega) (fun i hi => ?_) ?_
  · have key' : lp (fun t : Int32 × Int32 => b_X7_rankOf_4 (nI R) t.1 t.2 h) FU ((0 : Int32), (0 : Int32)) = _ := key
    rw [key', Option.bind_some]
  · show b_X7_rankOf_4 (nI R) (nI (rkS s (insL K k).length i)) (nI i) h = _
    unfold b_X7_rankOf_4
    rw [hh.1, if_neg (nI_ge hi (by omega)), nI_1, inner i hi, Option.bind_some, pk_sub (by omega), pk_mul, nI_add]
    rfl
  · show b_X7_rankOf_4 (nI R) _ (nI (insL K k).length) h = _
    unfold b_X7_rankOf_4
    rw [hh.1, if_pos (Int32.le_refl _)]
theorem c_can {R : Nat} {s : Nat → Nat} (hw : WF K k) (hR : RwS R K k s) {i j : Nat} (hi : i < (insL K k).length) (hj : j < (insL K k).length) : f_X7_canExchange (nI R) (nI ((insL K k).getD i 0)) (nI ((insL K k).getD j 0)) = some (decide (s j ∈ nbs (s i))) := by
  unfold f_X7_canExchange
  rw [c_sor2 hw hR hi, Option.bind_some, c_sor2 hw hR hj, Option.bind_some, c_beside _ (hR.2 i hi).2 _ (hR.2 j hj).2, Option.bind_some]
/-- seats of the q-th seating -/
def ssq (K : Nat → Int32) (k q i : Nat) : Nat := (plL K k).getD (dec (insL K k).length q i) 0
theorem ssq_lt (hw : WF K k) {q i : Nat} (hq : q < fct (insL K k).length) (hi : i < (insL K k).length) : ssq K k q i < 9 := pl_at hw (dec_lt _ (ins_le hw) q hq i hi)
theorem sw_seat {Z : Nat → Int32} (q : Nat) {x : Nat} (hx : x < (insL K k).length) : sw (insL K k) (stV K k q) (insL K k).length Z (18 + (insL K k).getD x 0) = nI (ssq K k q x) := sw_at _ _ (fun a b ha hb e => ins_inj ha hb e) x hx
theorem rw_gen {Z : Nat → Int32} {s : Nat → Nat} (hw : WF K k) (hz : WF Z k) (hs : ∀ x, x < (insL K k).length → Z (18 + (insL K k).getD x 0) = nI (s x) ∧ s x < 9) : RwS (seatRow Z k 6) K k s := by
  have h6 := hw.2.1
  refine ⟨seatRow_lt hz 6, fun x hx => ?_⟩
  have ip := (ins_at hw hx).1
  obtain ⟨e1, e2⟩ := hs x hx
  have hin : insb Z ((insL K k).getD x 0) = true := by
    unfold insb
    rw [e1, decide_eq_false (nI_ne1 (by omega))]
    rfl
  refine ⟨?_, e2⟩
  rw [sr_dg hz (by omega)]
  unfold seatD seatN
  rw [if_pos ⟨ip, hin⟩, e1, nI_clamp (by omega)]
theorem rw_seat (hw : WF K k) {q : Nat} (hq : q < fct (insL K k).length) : RwS (seatRow (seatK K k q) k 6) K k (ssq K k q) := rw_gen hw (WF_seatK hw hq) (fun x hx => ⟨sw_seat q hx, ssq_lt hw hq hx⟩)
theorem rw_own (hw : WF K k) : RwS (seatRow K k 6) K k (fun x => seatN K ((insL K k).getD x 0)) := rw_gen hw hw (fun x hx => by
  obtain ⟨a1, a2⟩ := ins_at hw hx
  exact seat_of hw a1 a2)
end RNK
