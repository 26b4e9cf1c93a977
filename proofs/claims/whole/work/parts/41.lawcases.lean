theorem lg_cmp_self (r : Int64) : lg_cmp r r = 0 := by unfold lg_cmp; rw [if_neg (by intro hh; rw [gt_iff_lt, Int64.lt_iff_toInt_lt] at hh; omega), if_pos rfl]
theorem fa_tr2 {a b c : Int32} (h : a < b) (h2 : b ≤ c) : a < c := by rw [Int32.lt_iff_toInt_lt] at *; rw [Int32.le_iff_toInt_le] at h2; omega
section GL
variable {X : Xt} {own : String} {cc : ByteArray} {nL : Nat} {rt : Option FieldType} {D mc ms : Nat} {h : Hp} {k n pc : Nat} {lv : List (Nat × Value)} {st : List Value}
/-- the script -/
def exs (X : Xt) : Nat → Int32 := match X with
  | (p, l, e, R, s, m, args, below, meth, c, Q, E) => E.2.2.2.2.2
def exL (X : Xt) : Nat := match X with
  | (p, l, e, R, s, m, args, below, meth, c, Q, E) => E.2.2.2.2.1
theorem g_scrld {i : Int32} {j : Nat} (C : Cx X own cc nL rt D mc ms) (hd : decode cc pc = .ok (.iaload, 1)) (hj : inb i (exL X) = some j) (next : G X h k n (pc + 1) lv (.int (exs X j) :: st)) : G X h k n pc lv (.int i :: .ref 1000002 :: st) := by
  obtain ⟨p, l, e, R, s, m, args, below, meth, c, Q, E⟩ := X
  obtain ⟨hx, hb, hml, hown, hts, hO, hlk, hrt, hfr, hlo, hce, hsl, hbs, -⟩ := C
  intro H locs ls hR hS hl
  obtain ⟨hin, hj2⟩ := inb_vp hj
  subst hj2
  exact va_ti hx hb hO.2.2.2.2.2.2.2.1 hS hin rfl hd (next H locs ls hR hS hl)
theorem g_scrlen (C : Cx X own cc nL rt D mc ms) (hd : decode cc pc = .ok (.arraylength, 1)) (next : G X h k n (pc + 1) lv (.int (nI (exL X)) :: st)) : G X h k n pc lv (.ref 1000002 :: st) := by
  obtain ⟨p, l, e, R, s, m, args, below, meth, c, Q, E⟩ := X
  obtain ⟨hx, hb, hml, hown, hts, hO, hlk, hrt, hfr, hlo, hce, hsl, hbs, -⟩ := C
  intro H locs ls hR hS hl
  exact va_tlen hx hb hO.2.2.2.2.2.2.2.1 hS rfl hd (next H locs ls hR hS hl)
end GL
theorem inb_nI {j L : Nat} (h : j < L) (hL : L < 2 ^ 31) : inb (nI j) L = some j := by
  unfold inb
  rw [nI_toInt (by omega), if_pos ⟨by omega, by omega⟩, nI_clamp (by omega)]
theorem scr_1 {n L : Nat} (h : 6 * n + 6 ≤ L) (hL : L ≤ 3072) : inb (nI (6 * n) + (1 : Int32)) L = some (6 * n + 1) := by
  rw [show ((1 : Int32)) = nI 1 from rfl, nI_add]
  exact inb_nI (by omega) (by omega)
theorem scr_2 {n L : Nat} (h : 6 * n + 6 ≤ L) (hL : L ≤ 3072) : inb (nI (6 * n) + (2 : Int32)) L = some (6 * n + 2) := by
  rw [show ((2 : Int32)) = nI 2 from rfl, nI_add]
  exact inb_nI (by omega) (by omega)
theorem scr_3 {n L : Nat} (h : 6 * n + 6 ≤ L) (hL : L ≤ 3072) : inb (nI (6 * n) + (3 : Int32)) L = some (6 * n + 3) := by
  rw [show ((3 : Int32)) = nI 3 from rfl, nI_add]
  exact inb_nI (by omega) (by omega)
theorem scr_4 {n L : Nat} (h : 6 * n + 6 ≤ L) (hL : L ≤ 3072) : inb (nI (6 * n) + (4 : Int32)) L = some (6 * n + 4) := by
  rw [show ((4 : Int32)) = nI 4 from rfl, nI_add]
  exact inb_nI (by omega) (by omega)
theorem scr_5 {n L : Nat} (h : 6 * n + 6 ≤ L) (hL : L ≤ 3072) : inb (nI (6 * n) + (5 : Int32)) L = some (6 * n + 5) := by
  rw [show ((5 : Int32)) = nI 5 from rfl, nI_add]
  exact inb_nI (by omega) (by omega)
theorem scr_0 {n L : Nat} (h : 6 * n + 6 ≤ L) (hL : L ≤ 3072) : inb (nI (6 * n)) L = some (6 * n) := inb_nI (by omega) (by omega)
def Op_0 (I : Nat → Hp → Prop) : Prop := ∀ n h, I n h → n < 512 → ∀ x1 x2 x3 x4 : Int32, ∃ r h1 h2, f_X10_sitter x1 x2 x3 x4 h = some (r, h1) ∧ f_X11_sitter x1 x2 x3 x4 h1 = some (r, h2) ∧ I (n + 1) h2
theorem lc_0 {X : Xt} (C : Cx X "SteamNationsLaw" code 4 (some .boolean) 200 600000 7302249) {I : Nat → Hp → Prop} (hO : Op_0 I) (n : Nat) (h : Hp) (hI : I n h) (hn : n < 512) (hL : 6 * n + 6 ≤ exL X) (hL2 : exL X ≤ 3072) (next : ∀ h2, I (n + 1) h2 → G X h2 (110 + 3 * n + 3) (40259 + 1604 * n + 1604) 1245 [(0, .ref 1000002), (1, .ref 0), (2, .ref 81), (3, .int (nI (6 * n)))] []) : G X h (110 + 3 * n) (40259 + 1604 * n) 200 [(0, .ref 1000002), (1, .ref 0), (2, .ref 81), (3, .int (nI (6 * n)))] [] := by
  obtain ⟨r, h1, h2, e1, e2, hI2⟩ := hO n h hI hn (exs X (6 * n + 1)) (exs X (6 * n + 2)) (exs X (6 * n + 3)) (exs X (6 * n + 4))
  refine g_aload_n C (dat dt_L_0 22 rfl) 1 rfl ?_
  refine g_aload_n C (dat dt_L_0 23 rfl) 0 rfl ?_
  refine g_iload_n C (dat dt_L_0 24 rfl) 3 rfl ?_
  refine g_iconst C (dat dt_L_0 25 rfl) ic_1 ?_
  refine g_iadd C (dat dt_L_0 26 rfl) ?_
  refine g_scrld C (dat dt_L_0 27 rfl) (scr_1 hL hL2) ?_
  refine g_aload_n C (dat dt_L_0 28 rfl) 0 rfl ?_
  refine g_iload_n C (dat dt_L_0 29 rfl) 3 rfl ?_
  refine g_iconst C (dat dt_L_0 30 rfl) ic_2 ?_
  refine g_iadd C (dat dt_L_0 31 rfl) ?_
  refine g_scrld C (dat dt_L_0 32 rfl) (scr_2 hL hL2) ?_
  refine g_aload_n C (dat dt_L_0 33 rfl) 0 rfl ?_
  refine g_iload_n C (dat dt_L_0 34 rfl) 3 rfl ?_
  refine g_iconst C (dat dt_L_0 35 rfl) ic_3 ?_
  refine g_iadd C (dat dt_L_0 36 rfl) ?_
  refine g_scrld C (dat dt_L_0 37 rfl) (scr_3 hL hL2) ?_
  refine g_aload_n C (dat dt_L_0 38 rfl) 0 rfl ?_
  refine g_iload_n C (dat dt_L_0 39 rfl) 3 rfl ?_
  refine g_iconst C (dat dt_L_0 40 rfl) ic_4 ?_
  refine g_iadd C (dat dt_L_0 41 rfl) ?_
  refine g_scrld C (dat dt_L_0 42 rfl) (scr_4 hL hL2) ?_
  refine g_cVi [.int (exs X (6 * n + 1)), .int (exs X (6 * n + 2)), .int (exs X (6 * n + 3)), .int (exs X (6 * n + 4))] C (dat dt_L_0 43 rfl) ml_L_13 (w_X10_sitter (exs X (6 * n + 1)) (exs X (6 * n + 2)) (exs X (6 * n + 3)) (exs X (6 * n + 4)) h (r, h1) e1) kd_0 ltk_0 rfl rfl cat0 (by decide) ⟨by omega, by omega⟩ ?_
  refine g_aload_n C (dat dt_L_0 44 rfl) 2 rfl ?_
  refine g_aload_n C (dat dt_L_0 45 rfl) 0 rfl ?_
  refine g_iload_n C (dat dt_L_0 46 rfl) 3 rfl ?_
  refine g_iconst C (dat dt_L_0 47 rfl) ic_1 ?_
  refine g_iadd C (dat dt_L_0 48 rfl) ?_
  refine g_scrld C (dat dt_L_0 49 rfl) (scr_1 hL hL2) ?_
  refine g_aload_n C (dat dt_L_0 50 rfl) 0 rfl ?_
  refine g_iload_n C (dat dt_L_0 51 rfl) 3 rfl ?_
  refine g_iconst C (dat dt_L_0 52 rfl) ic_2 ?_
  refine g_iadd C (dat dt_L_0 53 rfl) ?_
  refine g_scrld C (dat dt_L_0 54 rfl) (scr_2 hL hL2) ?_
  refine g_aload_n C (dat dt_L_0 55 rfl) 0 rfl ?_
  refine g_iload_n C (dat dt_L_0 56 rfl) 3 rfl ?_
  refine g_iconst C (dat dt_L_0 57 rfl) ic_3 ?_
  refine g_iadd C (dat dt_L_0 58 rfl) ?_
  refine g_scrld C (dat dt_L_0 59 rfl) (scr_3 hL hL2) ?_
  refine g_aload_n C (dat dt_L_1 0 rfl) 0 rfl ?_
  refine g_iload_n C (dat dt_L_1 1 rfl) 3 rfl ?_
  refine g_iconst C (dat dt_L_1 2 rfl) ic_4 ?_
  refine g_iadd C (dat dt_L_1 3 rfl) ?_
  refine g_scrld C (dat dt_L_1 4 rfl) (scr_4 hL hL2) ?_
  refine g_cVi [.int (exs X (6 * n + 1)), .int (exs X (6 * n + 2)), .int (exs X (6 * n + 3)), .int (exs X (6 * n + 4))] C (dat dt_L_1 5 rfl) ml_L_17 (w_X11_sitter (exs X (6 * n + 1)) (exs X (6 * n + 2)) (exs X (6 * n + 3)) (exs X (6 * n + 4)) h1 (r, h2) e2) kd_81 ltk_81 rfl rfl (Nat.le_of_ble_eq_true rfl) (by decide) ⟨by omega, by omega⟩ ?_
  refine g_ic_eq 1245 C (dat dt_L_1 6 rfl) (by decide) (fun _ => ?_) (fun c => absurd rfl c)
  refine g_widen (k' := 110 + 3 * n + 3) (n' := 40259 + 1604 * n + 1604) (by omega) (by omega) ?_
  exact next _ hI2
def Op_1 (I : Nat → Hp → Prop) : Prop := ∀ n h, I n h → n < 512 → ∀ x1 x2 : Int32, ∃ r h1 h2, f_X10_of x1 x2 h = some (r, h1) ∧ f_X11_of x1 x2 h1 = some (r, h2) ∧ I (n + 1) h2
theorem lc_1 {X : Xt} (C : Cx X "SteamNationsLaw" code 4 (some .boolean) 200 600000 7302249) {I : Nat → Hp → Prop} (hO : Op_1 I) (n : Nat) (h : Hp) (hI : I n h) (hn : n < 512) (hL : 6 * n + 6 ≤ exL X) (hL2 : exL X ≤ 3072) (next : ∀ h2, I (n + 1) h2 → G X h2 (110 + 3 * n + 3) (40259 + 1604 * n + 1604) 1245 [(0, .ref 1000002), (1, .ref 0), (2, .ref 81), (3, .int (nI (6 * n)))] []) : G X h (110 + 3 * n) (40259 + 1604 * n) 253 [(0, .ref 1000002), (1, .ref 0), (2, .ref 81), (3, .int (nI (6 * n)))] [] := by
  obtain ⟨r, h1, h2, e1, e2, hI2⟩ := hO n h hI hn (exs X (6 * n + 1)) (exs X (6 * n + 2))
  refine g_aload_n C (dat dt_L_1 9 rfl) 1 rfl ?_
  refine g_aload_n C (dat dt_L_1 10 rfl) 0 rfl ?_
  refine g_iload_n C (dat dt_L_1 11 rfl) 3 rfl ?_
  refine g_iconst C (dat dt_L_1 12 rfl) ic_1 ?_
  refine g_iadd C (dat dt_L_1 13 rfl) ?_
  refine g_scrld C (dat dt_L_1 14 rfl) (scr_1 hL hL2) ?_
  refine g_aload_n C (dat dt_L_1 15 rfl) 0 rfl ?_
  refine g_iload_n C (dat dt_L_1 16 rfl) 3 rfl ?_
  refine g_iconst C (dat dt_L_1 17 rfl) ic_2 ?_
  refine g_iadd C (dat dt_L_1 18 rfl) ?_
  refine g_scrld C (dat dt_L_1 19 rfl) (scr_2 hL hL2) ?_
  refine g_cVi [.int (exs X (6 * n + 1)), .int (exs X (6 * n + 2))] C (dat dt_L_1 20 rfl) ml_L_18 (w_X10_of (exs X (6 * n + 1)) (exs X (6 * n + 2)) h (r, h1) e1) kd_0 ltk_0 rfl rfl cat0 (by decide) ⟨by omega, by omega⟩ ?_
  refine g_aload_n C (dat dt_L_1 21 rfl) 2 rfl ?_
  refine g_aload_n C (dat dt_L_1 22 rfl) 0 rfl ?_
  refine g_iload_n C (dat dt_L_1 23 rfl) 3 rfl ?_
  refine g_iconst C (dat dt_L_1 24 rfl) ic_1 ?_
  refine g_iadd C (dat dt_L_1 25 rfl) ?_
  refine g_scrld C (dat dt_L_1 26 rfl) (scr_1 hL hL2) ?_
  refine g_aload_n C (dat dt_L_1 27 rfl) 0 rfl ?_
  refine g_iload_n C (dat dt_L_1 28 rfl) 3 rfl ?_
  refine g_iconst C (dat dt_L_1 29 rfl) ic_2 ?_
  refine g_iadd C (dat dt_L_1 30 rfl) ?_
  refine g_scrld C (dat dt_L_1 31 rfl) (scr_2 hL hL2) ?_
  refine g_cVi [.int (exs X (6 * n + 1)), .int (exs X (6 * n + 2))] C (dat dt_L_1 32 rfl) ml_L_22 (w_X11_of (exs X (6 * n + 1)) (exs X (6 * n + 2)) h1 (r, h2) e2) kd_81 ltk_81 rfl rfl (Nat.le_of_ble_eq_true rfl) (by decide) ⟨by omega, by omega⟩ ?_
  refine g_ic_eq 1245 C (dat dt_L_1 33 rfl) (by decide) (fun _ => ?_) (fun c => absurd rfl c)
  refine g_widen (k' := 110 + 3 * n + 3) (n' := 40259 + 1604 * n + 1604) (by omega) (by omega) ?_
  exact next _ hI2
def Op_2 (I : Nat → Hp → Prop) : Prop := ∀ n h, I n h → n < 512 → ∀ x1 : Int32, ∃ r, f_X10_at x1 h = some r ∧ f_X11_at x1 h = some r ∧ I (n + 1) h
theorem lc_2 {X : Xt} (C : Cx X "SteamNationsLaw" code 4 (some .boolean) 200 600000 7302249) {I : Nat → Hp → Prop} (hO : Op_2 I) (n : Nat) (h : Hp) (hI : I n h) (hn : n < 512) (hL : 6 * n + 6 ≤ exL X) (hL2 : exL X ≤ 3072) (next : ∀ h2, I (n + 1) h2 → G X h2 (110 + 3 * n + 3) (40259 + 1604 * n + 1604) 1245 [(0, .ref 1000002), (1, .ref 0), (2, .ref 81), (3, .int (nI (6 * n)))] []) : G X h (110 + 3 * n) (40259 + 1604 * n) 286 [(0, .ref 1000002), (1, .ref 0), (2, .ref 81), (3, .int (nI (6 * n)))] [] := by
  obtain ⟨r, e1, e2, hI2⟩ := hO n h hI hn (exs X (6 * n + 1))
  refine g_aload_n C (dat dt_L_1 36 rfl) 1 rfl ?_
  refine g_aload_n C (dat dt_L_1 37 rfl) 0 rfl ?_
  refine g_iload_n C (dat dt_L_1 38 rfl) 3 rfl ?_
  refine g_iconst C (dat dt_L_1 39 rfl) ic_1 ?_
  refine g_iadd C (dat dt_L_1 40 rfl) ?_
  refine g_scrld C (dat dt_L_1 41 rfl) (scr_1 hL hL2) ?_
  refine g_cVi [.int (exs X (6 * n + 1))] C (dat dt_L_1 42 rfl) ml_L_23 (w_X10_at (exs X (6 * n + 1)) h r e1) kd_0 ltk_0 rfl rfl cat0 (by decide) ⟨by omega, by omega⟩ ?_
  refine g_aload_n C (dat dt_L_1 43 rfl) 2 rfl ?_
  refine g_aload_n C (dat dt_L_1 44 rfl) 0 rfl ?_
  refine g_iload_n C (dat dt_L_1 45 rfl) 3 rfl ?_
  refine g_iconst C (dat dt_L_1 46 rfl) ic_1 ?_
  refine g_iadd C (dat dt_L_1 47 rfl) ?_
  refine g_scrld C (dat dt_L_1 48 rfl) (scr_1 hL hL2) ?_
  refine g_cVi [.int (exs X (6 * n + 1))] C (dat dt_L_1 49 rfl) ml_L_27 (w_X11_at (exs X (6 * n + 1)) h r e2) kd_81 ltk_81 rfl rfl (Nat.le_of_ble_eq_true rfl) (by decide) ⟨by omega, by omega⟩ ?_
  refine g_ic_eq 1245 C (dat dt_L_1 50 rfl) (by decide) (fun _ => ?_) (fun c => absurd rfl c)
  refine g_widen (k' := 110 + 3 * n + 3) (n' := 40259 + 1604 * n + 1604) (by omega) (by omega) ?_
  exact next _ hI2
def Op_3 (I : Nat → Hp → Prop) : Prop := ∀ n h, I n h → n < 512 → ∀ x1 x2 : Int32, ∃ r h1 h2, f_X10_asks x1 x2 h = some (r, h1) ∧ f_X11_asks x1 x2 h1 = some (r, h2) ∧ I (n + 1) h2
theorem lc_3 {X : Xt} (C : Cx X "SteamNationsLaw" code 4 (some .boolean) 200 600000 7302249) {I : Nat → Hp → Prop} (hO : Op_3 I) (n : Nat) (h : Hp) (hI : I n h) (hn : n < 512) (hL : 6 * n + 6 ≤ exL X) (hL2 : exL X ≤ 3072) (next : ∀ h2, I (n + 1) h2 → G X h2 (110 + 3 * n + 3) (40259 + 1604 * n + 1604) 1245 [(0, .ref 1000002), (1, .ref 0), (2, .ref 81), (3, .int (nI (6 * n)))] []) : G X h (110 + 3 * n) (40259 + 1604 * n) 309 [(0, .ref 1000002), (1, .ref 0), (2, .ref 81), (3, .int (nI (6 * n)))] [] := by
  obtain ⟨r, h1, h2, e1, e2, hI2⟩ := hO n h hI hn (exs X (6 * n + 1)) (exs X (6 * n + 2))
  refine g_aload_n C (dat dt_L_1 53 rfl) 1 rfl ?_
  refine g_aload_n C (dat dt_L_1 54 rfl) 0 rfl ?_
  refine g_iload_n C (dat dt_L_1 55 rfl) 3 rfl ?_
  refine g_iconst C (dat dt_L_1 56 rfl) ic_1 ?_
  refine g_iadd C (dat dt_L_1 57 rfl) ?_
  refine g_scrld C (dat dt_L_1 58 rfl) (scr_1 hL hL2) ?_
  refine g_aload_n C (dat dt_L_1 59 rfl) 0 rfl ?_
  refine g_iload_n C (dat dt_L_2 0 rfl) 3 rfl ?_
  refine g_iconst C (dat dt_L_2 1 rfl) ic_2 ?_
  refine g_iadd C (dat dt_L_2 2 rfl) ?_
  refine g_scrld C (dat dt_L_2 3 rfl) (scr_2 hL hL2) ?_
  refine g_cVi [.int (exs X (6 * n + 1)), .int (exs X (6 * n + 2))] C (dat dt_L_2 4 rfl) ml_L_28 (w_X10_asks (exs X (6 * n + 1)) (exs X (6 * n + 2)) h (r, h1) e1) kd_0 ltk_0 rfl rfl cat0 (by decide) ⟨by omega, by omega⟩ ?_
  refine g_aload_n C (dat dt_L_2 5 rfl) 2 rfl ?_
  refine g_aload_n C (dat dt_L_2 6 rfl) 0 rfl ?_
  refine g_iload_n C (dat dt_L_2 7 rfl) 3 rfl ?_
  refine g_iconst C (dat dt_L_2 8 rfl) ic_1 ?_
  refine g_iadd C (dat dt_L_2 9 rfl) ?_
  refine g_scrld C (dat dt_L_2 10 rfl) (scr_1 hL hL2) ?_
  refine g_aload_n C (dat dt_L_2 11 rfl) 0 rfl ?_
  refine g_iload_n C (dat dt_L_2 12 rfl) 3 rfl ?_
  refine g_iconst C (dat dt_L_2 13 rfl) ic_2 ?_
  refine g_iadd C (dat dt_L_2 14 rfl) ?_
  refine g_scrld C (dat dt_L_2 15 rfl) (scr_2 hL hL2) ?_
  refine g_cVi [.int (exs X (6 * n + 1)), .int (exs X (6 * n + 2))] C (dat dt_L_2 16 rfl) ml_L_31 (w_X11_asks (exs X (6 * n + 1)) (exs X (6 * n + 2)) h1 (r, h2) e2) kd_81 ltk_81 rfl rfl (Nat.le_of_ble_eq_true rfl) (by decide) ⟨by omega, by omega⟩ ?_
  refine g_ic_eq 1245 C (dat dt_L_2 17 rfl) (by decide) (fun _ => ?_) (fun c => absurd rfl c)
  refine g_widen (k' := 110 + 3 * n + 3) (n' := 40259 + 1604 * n + 1604) (by omega) (by omega) ?_
  exact next _ hI2
def Op_4 (I : Nat → Hp → Prop) : Prop := ∀ n h, I n h → n < 512 → ∀ x1 x2 : Int32, ∃ r h1 h2, f_X10_terms x1 x2 h = some (r, h1) ∧ f_X11_terms x1 x2 h1 = some (r, h2) ∧ I (n + 1) h2
theorem lc_4 {X : Xt} (C : Cx X "SteamNationsLaw" code 4 (some .boolean) 200 600000 7302249) {I : Nat → Hp → Prop} (hO : Op_4 I) (n : Nat) (h : Hp) (hI : I n h) (hn : n < 512) (hL : 6 * n + 6 ≤ exL X) (hL2 : exL X ≤ 3072) (next : ∀ h2, I (n + 1) h2 → G X h2 (110 + 3 * n + 3) (40259 + 1604 * n + 1604) 1245 [(0, .ref 1000002), (1, .ref 0), (2, .ref 81), (3, .int (nI (6 * n)))] []) : G X h (110 + 3 * n) (40259 + 1604 * n) 342 [(0, .ref 1000002), (1, .ref 0), (2, .ref 81), (3, .int (nI (6 * n)))] [] := by
  obtain ⟨r, h1, h2, e1, e2, hI2⟩ := hO n h hI hn (exs X (6 * n + 1)) (exs X (6 * n + 2))
  refine g_aload_n C (dat dt_L_2 20 rfl) 1 rfl ?_
  refine g_aload_n C (dat dt_L_2 21 rfl) 0 rfl ?_
  refine g_iload_n C (dat dt_L_2 22 rfl) 3 rfl ?_
  refine g_iconst C (dat dt_L_2 23 rfl) ic_1 ?_
  refine g_iadd C (dat dt_L_2 24 rfl) ?_
  refine g_scrld C (dat dt_L_2 25 rfl) (scr_1 hL hL2) ?_
  refine g_aload_n C (dat dt_L_2 26 rfl) 0 rfl ?_
  refine g_iload_n C (dat dt_L_2 27 rfl) 3 rfl ?_
  refine g_iconst C (dat dt_L_2 28 rfl) ic_2 ?_
  refine g_iadd C (dat dt_L_2 29 rfl) ?_
  refine g_scrld C (dat dt_L_2 30 rfl) (scr_2 hL hL2) ?_
  refine g_cVi [.int (exs X (6 * n + 1)), .int (exs X (6 * n + 2))] C (dat dt_L_2 31 rfl) ml_L_32 (w_X10_terms (exs X (6 * n + 1)) (exs X (6 * n + 2)) h (r, h1) e1) kd_0 ltk_0 rfl rfl cat0 (by decide) ⟨by omega, by omega⟩ ?_
  refine g_aload_n C (dat dt_L_2 32 rfl) 2 rfl ?_
  refine g_aload_n C (dat dt_L_2 33 rfl) 0 rfl ?_
  refine g_iload_n C (dat dt_L_2 34 rfl) 3 rfl ?_
  refine g_iconst C (dat dt_L_2 35 rfl) ic_1 ?_
  refine g_iadd C (dat dt_L_2 36 rfl) ?_
  refine g_scrld C (dat dt_L_2 37 rfl) (scr_1 hL hL2) ?_
  refine g_aload_n C (dat dt_L_2 38 rfl) 0 rfl ?_
  refine g_iload_n C (dat dt_L_2 39 rfl) 3 rfl ?_
  refine g_iconst C (dat dt_L_2 40 rfl) ic_2 ?_
  refine g_iadd C (dat dt_L_2 41 rfl) ?_
  refine g_scrld C (dat dt_L_2 42 rfl) (scr_2 hL hL2) ?_
  refine g_cVi [.int (exs X (6 * n + 1)), .int (exs X (6 * n + 2))] C (dat dt_L_2 43 rfl) ml_L_35 (w_X11_terms (exs X (6 * n + 1)) (exs X (6 * n + 2)) h1 (r, h2) e2) kd_81 ltk_81 rfl rfl (Nat.le_of_ble_eq_true rfl) (by decide) ⟨by omega, by omega⟩ ?_
  refine g_ic_eq 1245 C (dat dt_L_2 44 rfl) (by decide) (fun _ => ?_) (fun c => absurd rfl c)
  refine g_widen (k' := 110 + 3 * n + 3) (n' := 40259 + 1604 * n + 1604) (by omega) (by omega) ?_
  exact next _ hI2
def Op_5 (I : Nat → Hp → Prop) : Prop := ∀ n h, I n h → n < 512 → ∀ x1 x2 x3 x4 x5 : Int32, ∃ r h1 h2, f_X10_feed x1 x2 x3 x4 x5 h = some (r, h1) ∧ f_X11_feed x1 x2 x3 x4 x5 h1 = some (r, h2) ∧ I (n + 1) h2
theorem lc_5 {X : Xt} (C : Cx X "SteamNationsLaw" code 4 (some .boolean) 200 600000 7302249) {I : Nat → Hp → Prop} (hO : Op_5 I) (n : Nat) (h : Hp) (hI : I n h) (hn : n < 512) (hL : 6 * n + 6 ≤ exL X) (hL2 : exL X ≤ 3072) (next : ∀ h2, I (n + 1) h2 → G X h2 (110 + 3 * n + 3) (40259 + 1604 * n + 1604) 1245 [(0, .ref 1000002), (1, .ref 0), (2, .ref 81), (3, .int (nI (6 * n)))] []) : G X h (110 + 3 * n) (40259 + 1604 * n) 375 [(0, .ref 1000002), (1, .ref 0), (2, .ref 81), (3, .int (nI (6 * n)))] [] := by
  obtain ⟨r, h1, h2, e1, e2, hI2⟩ := hO n h hI hn (exs X (6 * n + 1)) (exs X (6 * n + 2)) (exs X (6 * n + 3)) (exs X (6 * n + 4)) (exs X (6 * n + 5))
  refine g_aload_n C (dat dt_L_2 47 rfl) 1 rfl ?_
  refine g_aload_n C (dat dt_L_2 48 rfl) 0 rfl ?_
  refine g_iload_n C (dat dt_L_2 49 rfl) 3 rfl ?_
  refine g_iconst C (dat dt_L_2 50 rfl) ic_1 ?_
  refine g_iadd C (dat dt_L_2 51 rfl) ?_
  refine g_scrld C (dat dt_L_2 52 rfl) (scr_1 hL hL2) ?_
  refine g_aload_n C (dat dt_L_2 53 rfl) 0 rfl ?_
  refine g_iload_n C (dat dt_L_2 54 rfl) 3 rfl ?_
  refine g_iconst C (dat dt_L_2 55 rfl) ic_2 ?_
  refine g_iadd C (dat dt_L_2 56 rfl) ?_
  refine g_scrld C (dat dt_L_2 57 rfl) (scr_2 hL hL2) ?_
  refine g_aload_n C (dat dt_L_2 58 rfl) 0 rfl ?_
  refine g_iload_n C (dat dt_L_2 59 rfl) 3 rfl ?_
  refine g_iconst C (dat dt_L_3 0 rfl) ic_3 ?_
  refine g_iadd C (dat dt_L_3 1 rfl) ?_
  refine g_scrld C (dat dt_L_3 2 rfl) (scr_3 hL hL2) ?_
  refine g_aload_n C (dat dt_L_3 3 rfl) 0 rfl ?_
  refine g_iload_n C (dat dt_L_3 4 rfl) 3 rfl ?_
  refine g_iconst C (dat dt_L_3 5 rfl) ic_4 ?_
  refine g_iadd C (dat dt_L_3 6 rfl) ?_
  refine g_scrld C (dat dt_L_3 7 rfl) (scr_4 hL hL2) ?_
  refine g_aload_n C (dat dt_L_3 8 rfl) 0 rfl ?_
  refine g_iload_n C (dat dt_L_3 9 rfl) 3 rfl ?_
  refine g_iconst C (dat dt_L_3 10 rfl) ic_5 ?_
  refine g_iadd C (dat dt_L_3 11 rfl) ?_
  refine g_scrld C (dat dt_L_3 12 rfl) (scr_5 hL hL2) ?_
  refine g_cVi [.int (exs X (6 * n + 1)), .int (exs X (6 * n + 2)), .int (exs X (6 * n + 3)), .int (exs X (6 * n + 4)), .int (exs X (6 * n + 5))] C (dat dt_L_3 13 rfl) ml_L_36 (w_X10_feed (exs X (6 * n + 1)) (exs X (6 * n + 2)) (exs X (6 * n + 3)) (exs X (6 * n + 4)) (exs X (6 * n + 5)) h (r, h1) e1) kd_0 ltk_0 rfl rfl cat0 (by decide) ⟨by omega, by omega⟩ ?_
  refine g_aload_n C (dat dt_L_3 14 rfl) 2 rfl ?_
  refine g_aload_n C (dat dt_L_3 15 rfl) 0 rfl ?_
  refine g_iload_n C (dat dt_L_3 16 rfl) 3 rfl ?_
  refine g_iconst C (dat dt_L_3 17 rfl) ic_1 ?_
  refine g_iadd C (dat dt_L_3 18 rfl) ?_
  refine g_scrld C (dat dt_L_3 19 rfl) (scr_1 hL hL2) ?_
  refine g_aload_n C (dat dt_L_3 20 rfl) 0 rfl ?_
  refine g_iload_n C (dat dt_L_3 21 rfl) 3 rfl ?_
  refine g_iconst C (dat dt_L_3 22 rfl) ic_2 ?_
  refine g_iadd C (dat dt_L_3 23 rfl) ?_
  refine g_scrld C (dat dt_L_3 24 rfl) (scr_2 hL hL2) ?_
  refine g_aload_n C (dat dt_L_3 25 rfl) 0 rfl ?_
  refine g_iload_n C (dat dt_L_3 26 rfl) 3 rfl ?_
  refine g_iconst C (dat dt_L_3 27 rfl) ic_3 ?_
  refine g_iadd C (dat dt_L_3 28 rfl) ?_
  refine g_scrld C (dat dt_L_3 29 rfl) (scr_3 hL hL2) ?_
  refine g_aload_n C (dat dt_L_3 30 rfl) 0 rfl ?_
  refine g_iload_n C (dat dt_L_3 31 rfl) 3 rfl ?_
  refine g_iconst C (dat dt_L_3 32 rfl) ic_4 ?_
  refine g_iadd C (dat dt_L_3 33 rfl) ?_
  refine g_scrld C (dat dt_L_3 34 rfl) (scr_4 hL hL2) ?_
  refine g_aload_n C (dat dt_L_3 35 rfl) 0 rfl ?_
  refine g_iload_n C (dat dt_L_3 36 rfl) 3 rfl ?_
  refine g_iconst C (dat dt_L_3 37 rfl) ic_5 ?_
  refine g_iadd C (dat dt_L_3 38 rfl) ?_
  refine g_scrld C (dat dt_L_3 39 rfl) (scr_5 hL hL2) ?_
  refine g_cVi [.int (exs X (6 * n + 1)), .int (exs X (6 * n + 2)), .int (exs X (6 * n + 3)), .int (exs X (6 * n + 4)), .int (exs X (6 * n + 5))] C (dat dt_L_3 40 rfl) ml_L_40 (w_X11_feed (exs X (6 * n + 1)) (exs X (6 * n + 2)) (exs X (6 * n + 3)) (exs X (6 * n + 4)) (exs X (6 * n + 5)) h1 (r, h2) e2) kd_81 ltk_81 rfl rfl (Nat.le_of_ble_eq_true rfl) (by decide) ⟨by omega, by omega⟩ ?_
  refine g_ic_eq 1245 C (dat dt_L_3 41 rfl) (by decide) (fun _ => ?_) (fun c => absurd rfl c)
  refine g_widen (k' := 110 + 3 * n + 3) (n' := 40259 + 1604 * n + 1604) (by omega) (by omega) ?_
  exact next _ hI2
def Op_6 (I : Nat → Hp → Prop) : Prop := ∀ n h, I n h → n < 512 → ∀ x1 : Int32, ∃ r h1 h2, f_X10_end x1 h = some (r, h1) ∧ f_X11_end x1 h1 = some (r, h2) ∧ I (n + 1) h2
theorem lc_6 {X : Xt} (C : Cx X "SteamNationsLaw" code 4 (some .boolean) 200 600000 7302249) {I : Nat → Hp → Prop} (hO : Op_6 I) (n : Nat) (h : Hp) (hI : I n h) (hn : n < 512) (hL : 6 * n + 6 ≤ exL X) (hL2 : exL X ≤ 3072) (next : ∀ h2, I (n + 1) h2 → G X h2 (110 + 3 * n + 3) (40259 + 1604 * n + 1604) 1245 [(0, .ref 1000002), (1, .ref 0), (2, .ref 81), (3, .int (nI (6 * n)))] []) : G X h (110 + 3 * n) (40259 + 1604 * n) 438 [(0, .ref 1000002), (1, .ref 0), (2, .ref 81), (3, .int (nI (6 * n)))] [] := by
  obtain ⟨r, h1, h2, e1, e2, hI2⟩ := hO n h hI hn (exs X (6 * n + 1))
  refine g_aload_n C (dat dt_L_3 44 rfl) 1 rfl ?_
  refine g_aload_n C (dat dt_L_3 45 rfl) 0 rfl ?_
  refine g_iload_n C (dat dt_L_3 46 rfl) 3 rfl ?_
  refine g_iconst C (dat dt_L_3 47 rfl) ic_1 ?_
  refine g_iadd C (dat dt_L_3 48 rfl) ?_
  refine g_scrld C (dat dt_L_3 49 rfl) (scr_1 hL hL2) ?_
  refine g_cVi [.int (exs X (6 * n + 1))] C (dat dt_L_3 50 rfl) ml_L_41 (w_X10_end (exs X (6 * n + 1)) h (r, h1) e1) kd_0 ltk_0 rfl rfl cat0 (by decide) ⟨by omega, by omega⟩ ?_
  refine g_aload_n C (dat dt_L_3 51 rfl) 2 rfl ?_
  refine g_aload_n C (dat dt_L_3 52 rfl) 0 rfl ?_
  refine g_iload_n C (dat dt_L_3 53 rfl) 3 rfl ?_
  refine g_iconst C (dat dt_L_3 54 rfl) ic_1 ?_
  refine g_iadd C (dat dt_L_3 55 rfl) ?_
  refine g_scrld C (dat dt_L_3 56 rfl) (scr_1 hL hL2) ?_
  refine g_cVi [.int (exs X (6 * n + 1))] C (dat dt_L_3 57 rfl) ml_L_44 (w_X11_end (exs X (6 * n + 1)) h1 (r, h2) e2) kd_81 ltk_81 rfl rfl (Nat.le_of_ble_eq_true rfl) (by decide) ⟨by omega, by omega⟩ ?_
  refine g_ic_eq 1245 C (dat dt_L_3 58 rfl) (by decide) (fun _ => ?_) (fun c => absurd rfl c)
  refine g_widen (k' := 110 + 3 * n + 3) (n' := 40259 + 1604 * n + 1604) (by omega) (by omega) ?_
  exact next _ hI2
def Op_7 (I : Nat → Hp → Prop) : Prop := ∀ n h, I n h → n < 512 → ∃ r h1 h2, f_X10_row  h = some (r, h1) ∧ f_X11_row  h1 = some (r, h2) ∧ I (n + 1) h2
theorem lc_7 {X : Xt} (C : Cx X "SteamNationsLaw" code 4 (some .boolean) 200 600000 7302249) {I : Nat → Hp → Prop} (hO : Op_7 I) (n : Nat) (h : Hp) (hI : I n h) (hn : n < 512) (hL : 6 * n + 6 ≤ exL X) (hL2 : exL X ≤ 3072) (next : ∀ h2, I (n + 1) h2 → G X h2 (110 + 3 * n + 3) (40259 + 1604 * n + 1604) 1245 [(0, .ref 1000002), (1, .ref 0), (2, .ref 81), (3, .int (nI (6 * n)))] []) : G X h (110 + 3 * n) (40259 + 1604 * n) 461 [(0, .ref 1000002), (1, .ref 0), (2, .ref 81), (3, .int (nI (6 * n)))] [] := by
  obtain ⟨r, h1, h2, e1, e2, hI2⟩ := hO n h hI hn 
  refine g_aload_n C (dat dt_L_4 1 rfl) 1 rfl ?_
  refine g_cVi [] C (dat dt_L_4 2 rfl) ml_L_45 (w_X10_row  h (r, h1) e1) kd_0 ltk_0 rfl rfl cat0 (by decide) ⟨by omega, by omega⟩ ?_
  refine g_aload_n C (dat dt_L_4 3 rfl) 2 rfl ?_
  refine g_cVi [] C (dat dt_L_4 4 rfl) ml_L_49 (w_X11_row  h1 (r, h2) e2) kd_81 ltk_81 rfl rfl (Nat.le_of_ble_eq_true rfl) (by decide) ⟨by omega, by omega⟩ ?_
  refine g_ic_eq 1245 C (dat dt_L_4 5 rfl) (by decide) (fun _ => ?_) (fun c => absurd rfl c)
  refine g_widen (k' := 110 + 3 * n + 3) (n' := 40259 + 1604 * n + 1604) (by omega) (by omega) ?_
  exact next _ hI2
def Op_8 (I : Nat → Hp → Prop) : Prop := ∀ n h, I n h → n < 512 → ∃ r, f_X10_puffs  h = some r ∧ f_X11_puffs  h = some r ∧ I (n + 1) h
theorem lc_8 {X : Xt} (C : Cx X "SteamNationsLaw" code 4 (some .boolean) 200 600000 7302249) {I : Nat → Hp → Prop} (hO : Op_8 I) (n : Nat) (h : Hp) (hI : I n h) (hn : n < 512) (hL : 6 * n + 6 ≤ exL X) (hL2 : exL X ≤ 3072) (next : ∀ h2, I (n + 1) h2 → G X h2 (110 + 3 * n + 3) (40259 + 1604 * n + 1604) 1245 [(0, .ref 1000002), (1, .ref 0), (2, .ref 81), (3, .int (nI (6 * n)))] []) : G X h (110 + 3 * n) (40259 + 1604 * n) 474 [(0, .ref 1000002), (1, .ref 0), (2, .ref 81), (3, .int (nI (6 * n)))] [] := by
  obtain ⟨r, e1, e2, hI2⟩ := hO n h hI hn 
  refine g_aload_n C (dat dt_L_4 8 rfl) 1 rfl ?_
  refine g_cVi [] C (dat dt_L_4 9 rfl) ml_L_50 (w_X10_puffs  h r e1) kd_0 ltk_0 rfl rfl cat0 (by decide) ⟨by omega, by omega⟩ ?_
  refine g_aload_n C (dat dt_L_4 10 rfl) 2 rfl ?_
  refine g_cVi [] C (dat dt_L_4 11 rfl) ml_L_53 (w_X11_puffs  h r e2) kd_81 ltk_81 rfl rfl (Nat.le_of_ble_eq_true rfl) (by decide) ⟨by omega, by omega⟩ ?_
  refine g_ic_eq 1245 C (dat dt_L_4 12 rfl) (by decide) (fun _ => ?_) (fun c => absurd rfl c)
  refine g_widen (k' := 110 + 3 * n + 3) (n' := 40259 + 1604 * n + 1604) (by omega) (by omega) ?_
  exact next _ hI2
def Op_9 (I : Nat → Hp → Prop) : Prop := ∀ n h, I n h → n < 512 → ∃ r h1 h2, f_X10_law  h = some (r, h1) ∧ f_X11_law  h1 = some (r, h2) ∧ I (n + 1) h2
theorem lc_9 {X : Xt} (C : Cx X "SteamNationsLaw" code 4 (some .boolean) 200 600000 7302249) {I : Nat → Hp → Prop} (hO : Op_9 I) (n : Nat) (h : Hp) (hI : I n h) (hn : n < 512) (hL : 6 * n + 6 ≤ exL X) (hL2 : exL X ≤ 3072) (next : ∀ h2, I (n + 1) h2 → G X h2 (110 + 3 * n + 3) (40259 + 1604 * n + 1604) 1245 [(0, .ref 1000002), (1, .ref 0), (2, .ref 81), (3, .int (nI (6 * n)))] []) : G X h (110 + 3 * n) (40259 + 1604 * n) 487 [(0, .ref 1000002), (1, .ref 0), (2, .ref 81), (3, .int (nI (6 * n)))] [] := by
  obtain ⟨r, h1, h2, e1, e2, hI2⟩ := hO n h hI hn 
  refine g_aload_n C (dat dt_L_4 15 rfl) 1 rfl ?_
  refine g_callV (As := []) (rest := []) C (dat dt_L_4 16 rfl) ml_L_54 (w_X10_law  h (r, h1) e1) kd_0 ltk_0 rfl rfl cat0 (by decide) ⟨by omega, by omega⟩ ?_
  show G X h1 (110 + 3 * n + 3) (40259 + 1604 * n + 1604) 491 [(0, .ref 1000002), (1, .ref 0), (2, .ref 81), (3, .int (nI (6 * n)))] [.int r]
  refine g_aload_n C (dat dt_L_4 17 rfl) 2 rfl ?_
  refine g_cVi [] C (dat dt_L_4 18 rfl) ml_L_57 (w_X11_law  h1 (r, h2) e2) kd_81 ltk_81 rfl rfl (Nat.le_of_ble_eq_true rfl) (by decide) ⟨by omega, by omega⟩ ?_
  refine g_ic_eq 1245 C (dat dt_L_4 19 rfl) (by decide) (fun _ => ?_) (fun c => absurd rfl c)
  exact next _ hI2
def Op_10 (I : Nat → Hp → Prop) : Prop := ∀ n h, I n h → n < 512 → ∃ r h1 h2, f_X10_orders  h = some (r, h1) ∧ f_X11_orders  h1 = some (r, h2) ∧ I (n + 1) h2
theorem lc_10 {X : Xt} (C : Cx X "SteamNationsLaw" code 4 (some .boolean) 200 600000 7302249) {I : Nat → Hp → Prop} (hO : Op_10 I) (n : Nat) (h : Hp) (hI : I n h) (hn : n < 512) (hL : 6 * n + 6 ≤ exL X) (hL2 : exL X ≤ 3072) (next : ∀ h2, I (n + 1) h2 → G X h2 (110 + 3 * n + 3) (40259 + 1604 * n + 1604) 1245 [(0, .ref 1000002), (1, .ref 0), (2, .ref 81), (3, .int (nI (6 * n)))] []) : G X h (110 + 3 * n) (40259 + 1604 * n) 500 [(0, .ref 1000002), (1, .ref 0), (2, .ref 81), (3, .int (nI (6 * n)))] [] := by
  obtain ⟨r, h1, h2, e1, e2, hI2⟩ := hO n h hI hn 
  refine g_aload_n C (dat dt_L_4 22 rfl) 1 rfl ?_
  refine g_callV (As := []) (rest := []) C (dat dt_L_4 23 rfl) ml_L_58 (w_X10_orders  h (r, h1) e1) kd_0 ltk_0 rfl rfl cat0 (by decide) ⟨by omega, by omega⟩ ?_
  show G X h1 (110 + 3 * n + 3) (40259 + 1604 * n + 1604) 504 [(0, .ref 1000002), (1, .ref 0), (2, .ref 81), (3, .int (nI (6 * n)))] [.int r]
  refine g_aload_n C (dat dt_L_4 24 rfl) 2 rfl ?_
  refine g_cVi [] C (dat dt_L_4 25 rfl) ml_L_61 (w_X11_orders  h1 (r, h2) e2) kd_81 ltk_81 rfl rfl (Nat.le_of_ble_eq_true rfl) (by decide) ⟨by omega, by omega⟩ ?_
  refine g_ic_eq 1245 C (dat dt_L_4 26 rfl) (by decide) (fun _ => ?_) (fun c => absurd rfl c)
  exact next _ hI2
def Op_11 (I : Nat → Hp → Prop) : Prop := ∀ n h, I n h → n < 512 → ∃ r, f_X10_fault  h = some r ∧ f_X11_fault  h = some r ∧ I (n + 1) h
theorem lc_11 {X : Xt} (C : Cx X "SteamNationsLaw" code 4 (some .boolean) 200 600000 7302249) {I : Nat → Hp → Prop} (hO : Op_11 I) (n : Nat) (h : Hp) (hI : I n h) (hn : n < 512) (hL : 6 * n + 6 ≤ exL X) (hL2 : exL X ≤ 3072) (next : ∀ h2, I (n + 1) h2 → G X h2 (110 + 3 * n + 3) (40259 + 1604 * n + 1604) 1245 [(0, .ref 1000002), (1, .ref 0), (2, .ref 81), (3, .int (nI (6 * n)))] []) : G X h (110 + 3 * n) (40259 + 1604 * n) 513 [(0, .ref 1000002), (1, .ref 0), (2, .ref 81), (3, .int (nI (6 * n)))] [] := by
  obtain ⟨r, e1, e2, hI2⟩ := hO n h hI hn 
  refine g_aload_n C (dat dt_L_4 29 rfl) 1 rfl ?_
  refine g_cVi [] C (dat dt_L_4 30 rfl) ml_L_62 (w_X10_fault  h r e1) kd_0 ltk_0 rfl rfl cat0 (by decide) ⟨by omega, by omega⟩ ?_
  refine g_aload_n C (dat dt_L_4 31 rfl) 2 rfl ?_
  refine g_cVi [] C (dat dt_L_4 32 rfl) ml_L_65 (w_X11_fault  h r e2) kd_81 ltk_81 rfl rfl (Nat.le_of_ble_eq_true rfl) (by decide) ⟨by omega, by omega⟩ ?_
  refine g_ic_eq 1245 C (dat dt_L_4 33 rfl) (by decide) (fun _ => ?_) (fun c => absurd rfl c)
  refine g_widen (k' := 110 + 3 * n + 3) (n' := 40259 + 1604 * n + 1604) (by omega) (by omega) ?_
  exact next _ hI2
def Op_12 (I : Nat → Hp → Prop) : Prop := ∀ n h, I n h → n < 512 → ∃ r, f_X10_stopped  h = some r ∧ f_X11_stopped  h = some r ∧ I (n + 1) h
theorem lc_12 {X : Xt} (C : Cx X "SteamNationsLaw" code 4 (some .boolean) 200 600000 7302249) {I : Nat → Hp → Prop} (hO : Op_12 I) (n : Nat) (h : Hp) (hI : I n h) (hn : n < 512) (hL : 6 * n + 6 ≤ exL X) (hL2 : exL X ≤ 3072) (next : ∀ h2, I (n + 1) h2 → G X h2 (110 + 3 * n + 3) (40259 + 1604 * n + 1604) 1245 [(0, .ref 1000002), (1, .ref 0), (2, .ref 81), (3, .int (nI (6 * n)))] []) : G X h (110 + 3 * n) (40259 + 1604 * n) 526 [(0, .ref 1000002), (1, .ref 0), (2, .ref 81), (3, .int (nI (6 * n)))] [] := by
  obtain ⟨r, e1, e2, hI2⟩ := hO n h hI hn 
  refine g_aload_n C (dat dt_L_4 36 rfl) 1 rfl ?_
  refine g_cVi [] C (dat dt_L_4 37 rfl) ml_L_66 (w_X10_stopped  h r e1) kd_0 ltk_0 rfl rfl cat0 (by decide) ⟨by omega, by omega⟩ ?_
  refine g_aload_n C (dat dt_L_4 38 rfl) 2 rfl ?_
  refine g_cVi [] C (dat dt_L_4 39 rfl) ml_L_69 (w_X11_stopped  h r e2) kd_81 ltk_81 rfl rfl (Nat.le_of_ble_eq_true rfl) (by decide) ⟨by omega, by omega⟩ ?_
  refine g_ic_eq 1245 C (dat dt_L_4 40 rfl) (by decide) (fun _ => ?_) (fun c => absurd rfl c)
  refine g_widen (k' := 110 + 3 * n + 3) (n' := 40259 + 1604 * n + 1604) (by omega) (by omega) ?_
  exact next _ hI2
def Op_13 (I : Nat → Hp → Prop) : Prop := ∀ n h, I n h → n < 512 → ∀ x1 : Int32, ∃ r h1 h2, f_X10_force x1 h = some (r, h1) ∧ f_X11_force x1 h1 = some (r, h2) ∧ I (n + 1) h2
theorem lc_13 {X : Xt} (C : Cx X "SteamNationsLaw" code 4 (some .boolean) 200 600000 7302249) {I : Nat → Hp → Prop} (hO : Op_13 I) (n : Nat) (h : Hp) (hI : I n h) (hn : n < 512) (hL : 6 * n + 6 ≤ exL X) (hL2 : exL X ≤ 3072) (next : ∀ h2, I (n + 1) h2 → G X h2 (110 + 3 * n + 3) (40259 + 1604 * n + 1604) 1245 [(0, .ref 1000002), (1, .ref 0), (2, .ref 81), (3, .int (nI (6 * n)))] []) : G X h (110 + 3 * n) (40259 + 1604 * n) 539 [(0, .ref 1000002), (1, .ref 0), (2, .ref 81), (3, .int (nI (6 * n)))] [] := by
  obtain ⟨r, h1, h2, e1, e2, hI2⟩ := hO n h hI hn (exs X (6 * n + 1))
  refine g_aload_n C (dat dt_L_4 43 rfl) 1 rfl ?_
  refine g_aload_n C (dat dt_L_4 44 rfl) 0 rfl ?_
  refine g_iload_n C (dat dt_L_4 45 rfl) 3 rfl ?_
  refine g_iconst C (dat dt_L_4 46 rfl) ic_1 ?_
  refine g_iadd C (dat dt_L_4 47 rfl) ?_
  refine g_scrld C (dat dt_L_4 48 rfl) (scr_1 hL hL2) ?_
  refine g_cVi [.int (exs X (6 * n + 1))] C (dat dt_L_4 49 rfl) ml_L_70 (w_X10_force (exs X (6 * n + 1)) h (r, h1) e1) kd_0 ltk_0 rfl rfl cat0 (by decide) ⟨by omega, by omega⟩ ?_
  refine g_aload_n C (dat dt_L_4 50 rfl) 2 rfl ?_
  refine g_aload_n C (dat dt_L_4 51 rfl) 0 rfl ?_
  refine g_iload_n C (dat dt_L_4 52 rfl) 3 rfl ?_
  refine g_iconst C (dat dt_L_4 53 rfl) ic_1 ?_
  refine g_iadd C (dat dt_L_4 54 rfl) ?_
  refine g_scrld C (dat dt_L_4 55 rfl) (scr_1 hL hL2) ?_
  refine g_cVi [.int (exs X (6 * n + 1))] C (dat dt_L_4 56 rfl) ml_L_73 (w_X11_force (exs X (6 * n + 1)) h1 (r, h2) e2) kd_81 ltk_81 rfl rfl (Nat.le_of_ble_eq_true rfl) (by decide) ⟨by omega, by omega⟩ ?_
  refine g_ic_eq 1245 C (dat dt_L_4 57 rfl) (by decide) (fun _ => ?_) (fun c => absurd rfl c)
  refine g_widen (k' := 110 + 3 * n + 3) (n' := 40259 + 1604 * n + 1604) (by omega) (by omega) ?_
  exact next _ hI2
def Op_14 (I : Nat → Hp → Prop) : Prop := ∀ n h, I n h → n < 512 → ∀ x1 x2 : Int32, ∃ r h1 h2, f_X10_seat x1 x2 h = some (r, h1) ∧ f_X11_seat x1 x2 h1 = some (r, h2) ∧ I (n + 1) h2
theorem lc_14 {X : Xt} (C : Cx X "SteamNationsLaw" code 4 (some .boolean) 200 600000 7302249) {I : Nat → Hp → Prop} (hO : Op_14 I) (n : Nat) (h : Hp) (hI : I n h) (hn : n < 512) (hL : 6 * n + 6 ≤ exL X) (hL2 : exL X ≤ 3072) (next : ∀ h2, I (n + 1) h2 → G X h2 (110 + 3 * n + 3) (40259 + 1604 * n + 1604) 1245 [(0, .ref 1000002), (1, .ref 0), (2, .ref 81), (3, .int (nI (6 * n)))] []) : G X h (110 + 3 * n) (40259 + 1604 * n) 562 [(0, .ref 1000002), (1, .ref 0), (2, .ref 81), (3, .int (nI (6 * n)))] [] := by
  obtain ⟨r, h1, h2, e1, e2, hI2⟩ := hO n h hI hn (exs X (6 * n + 1)) (exs X (6 * n + 2))
  refine g_aload_n C (dat dt_L_5 0 rfl) 1 rfl ?_
  refine g_aload_n C (dat dt_L_5 1 rfl) 0 rfl ?_
  refine g_iload_n C (dat dt_L_5 2 rfl) 3 rfl ?_
  refine g_iconst C (dat dt_L_5 3 rfl) ic_1 ?_
  refine g_iadd C (dat dt_L_5 4 rfl) ?_
  refine g_scrld C (dat dt_L_5 5 rfl) (scr_1 hL hL2) ?_
  refine g_aload_n C (dat dt_L_5 6 rfl) 0 rfl ?_
  refine g_iload_n C (dat dt_L_5 7 rfl) 3 rfl ?_
  refine g_iconst C (dat dt_L_5 8 rfl) ic_2 ?_
  refine g_iadd C (dat dt_L_5 9 rfl) ?_
  refine g_scrld C (dat dt_L_5 10 rfl) (scr_2 hL hL2) ?_
  refine g_cVi [.int (exs X (6 * n + 1)), .int (exs X (6 * n + 2))] C (dat dt_L_5 11 rfl) ml_L_74 (w_X10_seat (exs X (6 * n + 1)) (exs X (6 * n + 2)) h (r, h1) e1) kd_0 ltk_0 rfl rfl cat0 (by decide) ⟨by omega, by omega⟩ ?_
  refine g_aload_n C (dat dt_L_5 12 rfl) 2 rfl ?_
  refine g_aload_n C (dat dt_L_5 13 rfl) 0 rfl ?_
  refine g_iload_n C (dat dt_L_5 14 rfl) 3 rfl ?_
  refine g_iconst C (dat dt_L_5 15 rfl) ic_1 ?_
  refine g_iadd C (dat dt_L_5 16 rfl) ?_
  refine g_scrld C (dat dt_L_5 17 rfl) (scr_1 hL hL2) ?_
  refine g_aload_n C (dat dt_L_5 18 rfl) 0 rfl ?_
  refine g_iload_n C (dat dt_L_5 19 rfl) 3 rfl ?_
  refine g_iconst C (dat dt_L_5 20 rfl) ic_2 ?_
  refine g_iadd C (dat dt_L_5 21 rfl) ?_
  refine g_scrld C (dat dt_L_5 22 rfl) (scr_2 hL hL2) ?_
  refine g_cVi [.int (exs X (6 * n + 1)), .int (exs X (6 * n + 2))] C (dat dt_L_5 23 rfl) ml_L_77 (w_X11_seat (exs X (6 * n + 1)) (exs X (6 * n + 2)) h1 (r, h2) e2) kd_81 ltk_81 rfl rfl (Nat.le_of_ble_eq_true rfl) (by decide) ⟨by omega, by omega⟩ ?_
  refine g_ic_eq 1245 C (dat dt_L_5 24 rfl) (by decide) (fun _ => ?_) (fun c => absurd rfl c)
  refine g_widen (k' := 110 + 3 * n + 3) (n' := 40259 + 1604 * n + 1604) (by omega) (by omega) ?_
  exact next _ hI2
def Op_15 (I : Nat → Hp → Prop) : Prop := ∀ n h, I n h → n < 512 → ∀ x1 : Int32, ∃ r h1 h2, f_X10_out x1 h = some (r, h1) ∧ f_X11_out x1 h1 = some (r, h2) ∧ I (n + 1) h2
theorem lc_15 {X : Xt} (C : Cx X "SteamNationsLaw" code 4 (some .boolean) 200 600000 7302249) {I : Nat → Hp → Prop} (hO : Op_15 I) (n : Nat) (h : Hp) (hI : I n h) (hn : n < 512) (hL : 6 * n + 6 ≤ exL X) (hL2 : exL X ≤ 3072) (next : ∀ h2, I (n + 1) h2 → G X h2 (110 + 3 * n + 3) (40259 + 1604 * n + 1604) 1245 [(0, .ref 1000002), (1, .ref 0), (2, .ref 81), (3, .int (nI (6 * n)))] []) : G X h (110 + 3 * n) (40259 + 1604 * n) 595 [(0, .ref 1000002), (1, .ref 0), (2, .ref 81), (3, .int (nI (6 * n)))] [] := by
  obtain ⟨r, h1, h2, e1, e2, hI2⟩ := hO n h hI hn (exs X (6 * n + 1))
  refine g_aload_n C (dat dt_L_5 27 rfl) 1 rfl ?_
  refine g_aload_n C (dat dt_L_5 28 rfl) 0 rfl ?_
  refine g_iload_n C (dat dt_L_5 29 rfl) 3 rfl ?_
  refine g_iconst C (dat dt_L_5 30 rfl) ic_1 ?_
  refine g_iadd C (dat dt_L_5 31 rfl) ?_
  refine g_scrld C (dat dt_L_5 32 rfl) (scr_1 hL hL2) ?_
  refine g_cVi [.int (exs X (6 * n + 1))] C (dat dt_L_5 33 rfl) ml_L_78 (w_X10_out (exs X (6 * n + 1)) h (r, h1) e1) kd_0 ltk_0 rfl rfl cat0 (by decide) ⟨by omega, by omega⟩ ?_
  refine g_aload_n C (dat dt_L_5 34 rfl) 2 rfl ?_
  refine g_aload_n C (dat dt_L_5 35 rfl) 0 rfl ?_
  refine g_iload_n C (dat dt_L_5 36 rfl) 3 rfl ?_
  refine g_iconst C (dat dt_L_5 37 rfl) ic_1 ?_
  refine g_iadd C (dat dt_L_5 38 rfl) ?_
  refine g_scrld C (dat dt_L_5 39 rfl) (scr_1 hL hL2) ?_
  refine g_cVi [.int (exs X (6 * n + 1))] C (dat dt_L_5 40 rfl) ml_L_81 (w_X11_out (exs X (6 * n + 1)) h1 (r, h2) e2) kd_81 ltk_81 rfl rfl (Nat.le_of_ble_eq_true rfl) (by decide) ⟨by omega, by omega⟩ ?_
  refine g_ic_eq 1245 C (dat dt_L_5 41 rfl) (by decide) (fun _ => ?_) (fun c => absurd rfl c)
  refine g_widen (k' := 110 + 3 * n + 3) (n' := 40259 + 1604 * n + 1604) (by omega) (by omega) ?_
  exact next _ hI2
def Op_16 (I : Nat → Hp → Prop) : Prop := ∀ n h, I n h → n < 512 → ∀ x1 x2 : Int32, ∃ r h1 h2, f_X10_swap x1 x2 h = some (r, h1) ∧ f_X11_swap x1 x2 h1 = some (r, h2) ∧ I (n + 1) h2
theorem lc_16 {X : Xt} (C : Cx X "SteamNationsLaw" code 4 (some .boolean) 200 600000 7302249) {I : Nat → Hp → Prop} (hO : Op_16 I) (n : Nat) (h : Hp) (hI : I n h) (hn : n < 512) (hL : 6 * n + 6 ≤ exL X) (hL2 : exL X ≤ 3072) (next : ∀ h2, I (n + 1) h2 → G X h2 (110 + 3 * n + 3) (40259 + 1604 * n + 1604) 1245 [(0, .ref 1000002), (1, .ref 0), (2, .ref 81), (3, .int (nI (6 * n)))] []) : G X h (110 + 3 * n) (40259 + 1604 * n) 618 [(0, .ref 1000002), (1, .ref 0), (2, .ref 81), (3, .int (nI (6 * n)))] [] := by
  obtain ⟨r, h1, h2, e1, e2, hI2⟩ := hO n h hI hn (exs X (6 * n + 1)) (exs X (6 * n + 2))
  refine g_aload_n C (dat dt_L_5 44 rfl) 1 rfl ?_
  refine g_aload_n C (dat dt_L_5 45 rfl) 0 rfl ?_
  refine g_iload_n C (dat dt_L_5 46 rfl) 3 rfl ?_
  refine g_iconst C (dat dt_L_5 47 rfl) ic_1 ?_
  refine g_iadd C (dat dt_L_5 48 rfl) ?_
  refine g_scrld C (dat dt_L_5 49 rfl) (scr_1 hL hL2) ?_
  refine g_aload_n C (dat dt_L_5 50 rfl) 0 rfl ?_
  refine g_iload_n C (dat dt_L_5 51 rfl) 3 rfl ?_
  refine g_iconst C (dat dt_L_5 52 rfl) ic_2 ?_
  refine g_iadd C (dat dt_L_5 53 rfl) ?_
  refine g_scrld C (dat dt_L_5 54 rfl) (scr_2 hL hL2) ?_
  refine g_cVi [.int (exs X (6 * n + 1)), .int (exs X (6 * n + 2))] C (dat dt_L_5 55 rfl) ml_L_82 (w_X10_swap (exs X (6 * n + 1)) (exs X (6 * n + 2)) h (r, h1) e1) kd_0 ltk_0 rfl rfl cat0 (by decide) ⟨by omega, by omega⟩ ?_
  refine g_aload_n C (dat dt_L_5 56 rfl) 2 rfl ?_
  refine g_aload_n C (dat dt_L_5 57 rfl) 0 rfl ?_
  refine g_iload_n C (dat dt_L_5 58 rfl) 3 rfl ?_
  refine g_iconst C (dat dt_L_5 59 rfl) ic_1 ?_
  refine g_iadd C (dat dt_L_6 0 rfl) ?_
  refine g_scrld C (dat dt_L_6 1 rfl) (scr_1 hL hL2) ?_
  refine g_aload_n C (dat dt_L_6 2 rfl) 0 rfl ?_
  refine g_iload_n C (dat dt_L_6 3 rfl) 3 rfl ?_
  refine g_iconst C (dat dt_L_6 4 rfl) ic_2 ?_
  refine g_iadd C (dat dt_L_6 5 rfl) ?_
  refine g_scrld C (dat dt_L_6 6 rfl) (scr_2 hL hL2) ?_
  refine g_cVi [.int (exs X (6 * n + 1)), .int (exs X (6 * n + 2))] C (dat dt_L_6 7 rfl) ml_L_85 (w_X11_swap (exs X (6 * n + 1)) (exs X (6 * n + 2)) h1 (r, h2) e2) kd_81 ltk_81 rfl rfl (Nat.le_of_ble_eq_true rfl) (by decide) ⟨by omega, by omega⟩ ?_
  refine g_ic_eq 1245 C (dat dt_L_6 8 rfl) (by decide) (fun _ => ?_) (fun c => absurd rfl c)
  refine g_widen (k' := 110 + 3 * n + 3) (n' := 40259 + 1604 * n + 1604) (by omega) (by omega) ?_
  exact next _ hI2
def Op_17 (I : Nat → Hp → Prop) : Prop := ∀ n h, I n h → n < 512 → ∃ r h1 h2, f_X10_pass  h = some (r, h1) ∧ f_X11_pass  h1 = some (r, h2) ∧ I (n + 1) h2
theorem lc_17 {X : Xt} (C : Cx X "SteamNationsLaw" code 4 (some .boolean) 200 600000 7302249) {I : Nat → Hp → Prop} (hO : Op_17 I) (n : Nat) (h : Hp) (hI : I n h) (hn : n < 512) (hL : 6 * n + 6 ≤ exL X) (hL2 : exL X ≤ 3072) (next : ∀ h2, I (n + 1) h2 → G X h2 (110 + 3 * n + 3) (40259 + 1604 * n + 1604) 1245 [(0, .ref 1000002), (1, .ref 0), (2, .ref 81), (3, .int (nI (6 * n)))] []) : G X h (110 + 3 * n) (40259 + 1604 * n) 651 [(0, .ref 1000002), (1, .ref 0), (2, .ref 81), (3, .int (nI (6 * n)))] [] := by
  obtain ⟨r, h1, h2, e1, e2, hI2⟩ := hO n h hI hn 
  refine g_aload_n C (dat dt_L_6 11 rfl) 1 rfl ?_
  refine g_cVi [] C (dat dt_L_6 12 rfl) ml_L_86 (w_X10_pass  h (r, h1) e1) kd_0 ltk_0 rfl rfl cat0 (by decide) ⟨by omega, by omega⟩ ?_
  refine g_aload_n C (dat dt_L_6 13 rfl) 2 rfl ?_
  refine g_cVi [] C (dat dt_L_6 14 rfl) ml_L_89 (w_X11_pass  h1 (r, h2) e2) kd_81 ltk_81 rfl rfl (Nat.le_of_ble_eq_true rfl) (by decide) ⟨by omega, by omega⟩ ?_
  refine g_ic_eq 1245 C (dat dt_L_6 15 rfl) (by decide) (fun _ => ?_) (fun c => absurd rfl c)
  refine g_widen (k' := 110 + 3 * n + 3) (n' := 40259 + 1604 * n + 1604) (by omega) (by omega) ?_
  exact next _ hI2
def Op_18 (I : Nat → Hp → Prop) : Prop := ∀ n h, I n h → n < 512 → ∃ r h1 h2, f_X10_undo  h = some (r, h1) ∧ f_X11_undo  h1 = some (r, h2) ∧ I (n + 1) h2
theorem lc_18 {X : Xt} (C : Cx X "SteamNationsLaw" code 4 (some .boolean) 200 600000 7302249) {I : Nat → Hp → Prop} (hO : Op_18 I) (n : Nat) (h : Hp) (hI : I n h) (hn : n < 512) (hL : 6 * n + 6 ≤ exL X) (hL2 : exL X ≤ 3072) (next : ∀ h2, I (n + 1) h2 → G X h2 (110 + 3 * n + 3) (40259 + 1604 * n + 1604) 1245 [(0, .ref 1000002), (1, .ref 0), (2, .ref 81), (3, .int (nI (6 * n)))] []) : G X h (110 + 3 * n) (40259 + 1604 * n) 664 [(0, .ref 1000002), (1, .ref 0), (2, .ref 81), (3, .int (nI (6 * n)))] [] := by
  obtain ⟨r, h1, h2, e1, e2, hI2⟩ := hO n h hI hn 
  refine g_aload_n C (dat dt_L_6 18 rfl) 1 rfl ?_
  refine g_cVi [] C (dat dt_L_6 19 rfl) ml_L_90 (w_X10_undo  h (r, h1) e1) kd_0 ltk_0 rfl rfl cat0 (by decide) ⟨by omega, by omega⟩ ?_
  refine g_aload_n C (dat dt_L_6 20 rfl) 2 rfl ?_
  refine g_cVi [] C (dat dt_L_6 21 rfl) ml_L_93 (w_X11_undo  h1 (r, h2) e2) kd_81 ltk_81 rfl rfl (Nat.le_of_ble_eq_true rfl) (by decide) ⟨by omega, by omega⟩ ?_
  refine g_ic_eq 1245 C (dat dt_L_6 22 rfl) (by decide) (fun _ => ?_) (fun c => absurd rfl c)
  refine g_widen (k' := 110 + 3 * n + 3) (n' := 40259 + 1604 * n + 1604) (by omega) (by omega) ?_
  exact next _ hI2
def Op_19 (I : Nat → Hp → Prop) : Prop := ∀ n h, I n h → n < 512 → ∀ x1 x2 x3 : Int32, ∃ r h1 h2, f_X10_later x1 x2 x3 h = some (r, h1) ∧ f_X11_later x1 x2 x3 h1 = some (r, h2) ∧ I (n + 1) h2
theorem lc_19 {X : Xt} (C : Cx X "SteamNationsLaw" code 4 (some .boolean) 200 600000 7302249) {I : Nat → Hp → Prop} (hO : Op_19 I) (n : Nat) (h : Hp) (hI : I n h) (hn : n < 512) (hL : 6 * n + 6 ≤ exL X) (hL2 : exL X ≤ 3072) (next : ∀ h2, I (n + 1) h2 → G X h2 (110 + 3 * n + 3) (40259 + 1604 * n + 1604) 1245 [(0, .ref 1000002), (1, .ref 0), (2, .ref 81), (3, .int (nI (6 * n)))] []) : G X h (110 + 3 * n) (40259 + 1604 * n) 677 [(0, .ref 1000002), (1, .ref 0), (2, .ref 81), (3, .int (nI (6 * n)))] [] := by
  obtain ⟨r, h1, h2, e1, e2, hI2⟩ := hO n h hI hn (exs X (6 * n + 1)) (exs X (6 * n + 2)) (exs X (6 * n + 3))
  refine g_aload_n C (dat dt_L_6 25 rfl) 1 rfl ?_
  refine g_aload_n C (dat dt_L_6 26 rfl) 0 rfl ?_
  refine g_iload_n C (dat dt_L_6 27 rfl) 3 rfl ?_
  refine g_iconst C (dat dt_L_6 28 rfl) ic_1 ?_
  refine g_iadd C (dat dt_L_6 29 rfl) ?_
  refine g_scrld C (dat dt_L_6 30 rfl) (scr_1 hL hL2) ?_
  refine g_aload_n C (dat dt_L_6 31 rfl) 0 rfl ?_
  refine g_iload_n C (dat dt_L_6 32 rfl) 3 rfl ?_
  refine g_iconst C (dat dt_L_6 33 rfl) ic_2 ?_
  refine g_iadd C (dat dt_L_6 34 rfl) ?_
  refine g_scrld C (dat dt_L_6 35 rfl) (scr_2 hL hL2) ?_
  refine g_aload_n C (dat dt_L_6 36 rfl) 0 rfl ?_
  refine g_iload_n C (dat dt_L_6 37 rfl) 3 rfl ?_
  refine g_iconst C (dat dt_L_6 38 rfl) ic_3 ?_
  refine g_iadd C (dat dt_L_6 39 rfl) ?_
  refine g_scrld C (dat dt_L_6 40 rfl) (scr_3 hL hL2) ?_
  refine g_cVi [.int (exs X (6 * n + 1)), .int (exs X (6 * n + 2)), .int (exs X (6 * n + 3))] C (dat dt_L_6 41 rfl) ml_L_94 (w_X10_later (exs X (6 * n + 1)) (exs X (6 * n + 2)) (exs X (6 * n + 3)) h (r, h1) e1) kd_0 ltk_0 rfl rfl cat0 (by decide) ⟨by omega, by omega⟩ ?_
  refine g_aload_n C (dat dt_L_6 42 rfl) 2 rfl ?_
  refine g_aload_n C (dat dt_L_6 43 rfl) 0 rfl ?_
  refine g_iload_n C (dat dt_L_6 44 rfl) 3 rfl ?_
  refine g_iconst C (dat dt_L_6 45 rfl) ic_1 ?_
  refine g_iadd C (dat dt_L_6 46 rfl) ?_
  refine g_scrld C (dat dt_L_6 47 rfl) (scr_1 hL hL2) ?_
  refine g_aload_n C (dat dt_L_6 48 rfl) 0 rfl ?_
  refine g_iload_n C (dat dt_L_6 49 rfl) 3 rfl ?_
  refine g_iconst C (dat dt_L_6 50 rfl) ic_2 ?_
  refine g_iadd C (dat dt_L_6 51 rfl) ?_
  refine g_scrld C (dat dt_L_6 52 rfl) (scr_2 hL hL2) ?_
  refine g_aload_n C (dat dt_L_6 53 rfl) 0 rfl ?_
  refine g_iload_n C (dat dt_L_6 54 rfl) 3 rfl ?_
  refine g_iconst C (dat dt_L_6 55 rfl) ic_3 ?_
  refine g_iadd C (dat dt_L_6 56 rfl) ?_
  refine g_scrld C (dat dt_L_6 57 rfl) (scr_3 hL hL2) ?_
  refine g_cVi [.int (exs X (6 * n + 1)), .int (exs X (6 * n + 2)), .int (exs X (6 * n + 3))] C (dat dt_L_6 58 rfl) ml_L_98 (w_X11_later (exs X (6 * n + 1)) (exs X (6 * n + 2)) (exs X (6 * n + 3)) h1 (r, h2) e2) kd_81 ltk_81 rfl rfl (Nat.le_of_ble_eq_true rfl) (by decide) ⟨by omega, by omega⟩ ?_
  refine g_ic_eq 1245 C (dat dt_L_6 59 rfl) (by decide) (fun _ => ?_) (fun c => absurd rfl c)
  refine g_widen (k' := 110 + 3 * n + 3) (n' := 40259 + 1604 * n + 1604) (by omega) (by omega) ?_
  exact next _ hI2
def Op_20 (I : Nat → Hp → Prop) : Prop := ∀ n h, I n h → n < 512 → ∀ x1 x2 : Int32, ∃ r h1 h2, f_X10_when x1 x2 h = some (r, h1) ∧ f_X11_when x1 x2 h1 = some (r, h2) ∧ I (n + 1) h2
theorem lc_20 {X : Xt} (C : Cx X "SteamNationsLaw" code 4 (some .boolean) 200 600000 7302249) {I : Nat → Hp → Prop} (hO : Op_20 I) (n : Nat) (h : Hp) (hI : I n h) (hn : n < 512) (hL : 6 * n + 6 ≤ exL X) (hL2 : exL X ≤ 3072) (next : ∀ h2, I (n + 1) h2 → G X h2 (110 + 3 * n + 3) (40259 + 1604 * n + 1604) 1245 [(0, .ref 1000002), (1, .ref 0), (2, .ref 81), (3, .int (nI (6 * n)))] []) : G X h (110 + 3 * n) (40259 + 1604 * n) 720 [(0, .ref 1000002), (1, .ref 0), (2, .ref 81), (3, .int (nI (6 * n)))] [] := by
  obtain ⟨r, h1, h2, e1, e2, hI2⟩ := hO n h hI hn (exs X (6 * n + 1)) (exs X (6 * n + 2))
  refine g_aload_n C (dat dt_L_7 2 rfl) 1 rfl ?_
  refine g_aload_n C (dat dt_L_7 3 rfl) 0 rfl ?_
  refine g_iload_n C (dat dt_L_7 4 rfl) 3 rfl ?_
  refine g_iconst C (dat dt_L_7 5 rfl) ic_1 ?_
  refine g_iadd C (dat dt_L_7 6 rfl) ?_
  refine g_scrld C (dat dt_L_7 7 rfl) (scr_1 hL hL2) ?_
  refine g_aload_n C (dat dt_L_7 8 rfl) 0 rfl ?_
  refine g_iload_n C (dat dt_L_7 9 rfl) 3 rfl ?_
  refine g_iconst C (dat dt_L_7 10 rfl) ic_2 ?_
  refine g_iadd C (dat dt_L_7 11 rfl) ?_
  refine g_scrld C (dat dt_L_7 12 rfl) (scr_2 hL hL2) ?_
  refine g_cVi [.int (exs X (6 * n + 1)), .int (exs X (6 * n + 2))] C (dat dt_L_7 13 rfl) ml_L_99 (w_X10_when (exs X (6 * n + 1)) (exs X (6 * n + 2)) h (r, h1) e1) kd_0 ltk_0 rfl rfl cat0 (by decide) ⟨by omega, by omega⟩ ?_
  refine g_aload_n C (dat dt_L_7 14 rfl) 2 rfl ?_
  refine g_aload_n C (dat dt_L_7 15 rfl) 0 rfl ?_
  refine g_iload_n C (dat dt_L_7 16 rfl) 3 rfl ?_
  refine g_iconst C (dat dt_L_7 17 rfl) ic_1 ?_
  refine g_iadd C (dat dt_L_7 18 rfl) ?_
  refine g_scrld C (dat dt_L_7 19 rfl) (scr_1 hL hL2) ?_
  refine g_aload_n C (dat dt_L_7 20 rfl) 0 rfl ?_
  refine g_iload_n C (dat dt_L_7 21 rfl) 3 rfl ?_
  refine g_iconst C (dat dt_L_7 22 rfl) ic_2 ?_
  refine g_iadd C (dat dt_L_7 23 rfl) ?_
  refine g_scrld C (dat dt_L_7 24 rfl) (scr_2 hL hL2) ?_
  refine g_cVi [.int (exs X (6 * n + 1)), .int (exs X (6 * n + 2))] C (dat dt_L_7 25 rfl) ml_L_102 (w_X11_when (exs X (6 * n + 1)) (exs X (6 * n + 2)) h1 (r, h2) e2) kd_81 ltk_81 rfl rfl (Nat.le_of_ble_eq_true rfl) (by decide) ⟨by omega, by omega⟩ ?_
  refine g_ic_eq 1245 C (dat dt_L_7 26 rfl) (by decide) (fun _ => ?_) (fun c => absurd rfl c)
  refine g_widen (k' := 110 + 3 * n + 3) (n' := 40259 + 1604 * n + 1604) (by omega) (by omega) ?_
  exact next _ hI2
def Op_21 (I : Nat → Hp → Prop) : Prop := ∀ n h, I n h → n < 512 → ∃ r h1 h2, f_X10_one  h = some (r, h1) ∧ f_X11_one  h1 = some (r, h2) ∧ I (n + 1) h2
theorem lc_21 {X : Xt} (C : Cx X "SteamNationsLaw" code 4 (some .boolean) 200 600000 7302249) {I : Nat → Hp → Prop} (hO : Op_21 I) (n : Nat) (h : Hp) (hI : I n h) (hn : n < 512) (hL : 6 * n + 6 ≤ exL X) (hL2 : exL X ≤ 3072) (next : ∀ h2, I (n + 1) h2 → G X h2 (110 + 3 * n + 3) (40259 + 1604 * n + 1604) 1245 [(0, .ref 1000002), (1, .ref 0), (2, .ref 81), (3, .int (nI (6 * n)))] []) : G X h (110 + 3 * n) (40259 + 1604 * n) 753 [(0, .ref 1000002), (1, .ref 0), (2, .ref 81), (3, .int (nI (6 * n)))] [] := by
  obtain ⟨r, h1, h2, e1, e2, hI2⟩ := hO n h hI hn 
  refine g_aload_n C (dat dt_L_7 29 rfl) 1 rfl ?_
  refine g_cVi [] C (dat dt_L_7 30 rfl) ml_L_103 (w_X10_one  h (r, h1) e1) kd_0 ltk_0 rfl rfl cat0 (by decide) ⟨by omega, by omega⟩ ?_
  refine g_aload_n C (dat dt_L_7 31 rfl) 2 rfl ?_
  refine g_cVi [] C (dat dt_L_7 32 rfl) ml_L_106 (w_X11_one  h1 (r, h2) e2) kd_81 ltk_81 rfl rfl (Nat.le_of_ble_eq_true rfl) (by decide) ⟨by omega, by omega⟩ ?_
  refine g_ic_eq 1245 C (dat dt_L_7 33 rfl) (by decide) (fun _ => ?_) (fun c => absurd rfl c)
  refine g_widen (k' := 110 + 3 * n + 3) (n' := 40259 + 1604 * n + 1604) (by omega) (by omega) ?_
  exact next _ hI2
def Op_22 (I : Nat → Hp → Prop) : Prop := ∀ n h, I n h → n < 512 → ∀ x1 x2 : Int32, ∃ r h1 h2, f_X10_pleased x1 x2 h = some (r, h1) ∧ f_X11_pleased x1 x2 h1 = some (r, h2) ∧ I (n + 1) h2
theorem lc_22 {X : Xt} (C : Cx X "SteamNationsLaw" code 4 (some .boolean) 200 600000 7302249) {I : Nat → Hp → Prop} (hO : Op_22 I) (n : Nat) (h : Hp) (hI : I n h) (hn : n < 512) (hL : 6 * n + 6 ≤ exL X) (hL2 : exL X ≤ 3072) (next : ∀ h2, I (n + 1) h2 → G X h2 (110 + 3 * n + 3) (40259 + 1604 * n + 1604) 1245 [(0, .ref 1000002), (1, .ref 0), (2, .ref 81), (3, .int (nI (6 * n)))] []) : G X h (110 + 3 * n) (40259 + 1604 * n) 766 [(0, .ref 1000002), (1, .ref 0), (2, .ref 81), (3, .int (nI (6 * n)))] [] := by
  obtain ⟨r, h1, h2, e1, e2, hI2⟩ := hO n h hI hn (exs X (6 * n + 1)) (exs X (6 * n + 2))
  refine g_aload_n C (dat dt_L_7 36 rfl) 1 rfl ?_
  refine g_aload_n C (dat dt_L_7 37 rfl) 0 rfl ?_
  refine g_iload_n C (dat dt_L_7 38 rfl) 3 rfl ?_
  refine g_iconst C (dat dt_L_7 39 rfl) ic_1 ?_
  refine g_iadd C (dat dt_L_7 40 rfl) ?_
  refine g_scrld C (dat dt_L_7 41 rfl) (scr_1 hL hL2) ?_
  refine g_aload_n C (dat dt_L_7 42 rfl) 0 rfl ?_
  refine g_iload_n C (dat dt_L_7 43 rfl) 3 rfl ?_
  refine g_iconst C (dat dt_L_7 44 rfl) ic_2 ?_
  refine g_iadd C (dat dt_L_7 45 rfl) ?_
  refine g_scrld C (dat dt_L_7 46 rfl) (scr_2 hL hL2) ?_
  refine g_cVi [.int (exs X (6 * n + 1)), .int (exs X (6 * n + 2))] C (dat dt_L_7 47 rfl) ml_L_107 (w_X10_pleased (exs X (6 * n + 1)) (exs X (6 * n + 2)) h (r, h1) e1) kd_0 ltk_0 rfl rfl cat0 (by decide) ⟨by omega, by omega⟩ ?_
  refine g_aload_n C (dat dt_L_7 48 rfl) 2 rfl ?_
  refine g_aload_n C (dat dt_L_7 49 rfl) 0 rfl ?_
  refine g_iload_n C (dat dt_L_7 50 rfl) 3 rfl ?_
  refine g_iconst C (dat dt_L_7 51 rfl) ic_1 ?_
  refine g_iadd C (dat dt_L_7 52 rfl) ?_
  refine g_scrld C (dat dt_L_7 53 rfl) (scr_1 hL hL2) ?_
  refine g_aload_n C (dat dt_L_7 54 rfl) 0 rfl ?_
  refine g_iload_n C (dat dt_L_7 55 rfl) 3 rfl ?_
  refine g_iconst C (dat dt_L_7 56 rfl) ic_2 ?_
  refine g_iadd C (dat dt_L_7 57 rfl) ?_
  refine g_scrld C (dat dt_L_7 58 rfl) (scr_2 hL hL2) ?_
  refine g_cVi [.int (exs X (6 * n + 1)), .int (exs X (6 * n + 2))] C (dat dt_L_7 59 rfl) ml_L_110 (w_X11_pleased (exs X (6 * n + 1)) (exs X (6 * n + 2)) h1 (r, h2) e2) kd_81 ltk_81 rfl rfl (Nat.le_of_ble_eq_true rfl) (by decide) ⟨by omega, by omega⟩ ?_
  refine g_ic_eq 1245 C (dat dt_L_8 0 rfl) (by decide) (fun _ => ?_) (fun c => absurd rfl c)
  refine g_widen (k' := 110 + 3 * n + 3) (n' := 40259 + 1604 * n + 1604) (by omega) (by omega) ?_
  exact next _ hI2
def Op_23 (I : Nat → Hp → Prop) : Prop := ∀ n h, I n h → n < 512 → ∀ x1 x2 : Int32, ∃ r h1 h2, f_X10_exchanges x1 x2 h = some (r, h1) ∧ f_X11_exchanges x1 x2 h1 = some (r, h2) ∧ I (n + 1) h2
theorem lc_23 {X : Xt} (C : Cx X "SteamNationsLaw" code 4 (some .boolean) 200 600000 7302249) {I : Nat → Hp → Prop} (hO : Op_23 I) (n : Nat) (h : Hp) (hI : I n h) (hn : n < 512) (hL : 6 * n + 6 ≤ exL X) (hL2 : exL X ≤ 3072) (next : ∀ h2, I (n + 1) h2 → G X h2 (110 + 3 * n + 3) (40259 + 1604 * n + 1604) 1245 [(0, .ref 1000002), (1, .ref 0), (2, .ref 81), (3, .int (nI (6 * n)))] []) : G X h (110 + 3 * n) (40259 + 1604 * n) 799 [(0, .ref 1000002), (1, .ref 0), (2, .ref 81), (3, .int (nI (6 * n)))] [] := by
  obtain ⟨r, h1, h2, e1, e2, hI2⟩ := hO n h hI hn (exs X (6 * n + 1)) (exs X (6 * n + 2))
  refine g_aload_n C (dat dt_L_8 3 rfl) 1 rfl ?_
  refine g_aload_n C (dat dt_L_8 4 rfl) 0 rfl ?_
  refine g_iload_n C (dat dt_L_8 5 rfl) 3 rfl ?_
  refine g_iconst C (dat dt_L_8 6 rfl) ic_1 ?_
  refine g_iadd C (dat dt_L_8 7 rfl) ?_
  refine g_scrld C (dat dt_L_8 8 rfl) (scr_1 hL hL2) ?_
  refine g_aload_n C (dat dt_L_8 9 rfl) 0 rfl ?_
  refine g_iload_n C (dat dt_L_8 10 rfl) 3 rfl ?_
  refine g_iconst C (dat dt_L_8 11 rfl) ic_2 ?_
  refine g_iadd C (dat dt_L_8 12 rfl) ?_
  refine g_scrld C (dat dt_L_8 13 rfl) (scr_2 hL hL2) ?_
  refine g_cVi [.int (exs X (6 * n + 1)), .int (exs X (6 * n + 2))] C (dat dt_L_8 14 rfl) ml_L_111 (w_X10_exchanges (exs X (6 * n + 1)) (exs X (6 * n + 2)) h (r, h1) e1) kd_0 ltk_0 rfl rfl cat0 (by decide) ⟨by omega, by omega⟩ ?_
  refine g_aload_n C (dat dt_L_8 15 rfl) 2 rfl ?_
  refine g_aload_n C (dat dt_L_8 16 rfl) 0 rfl ?_
  refine g_iload_n C (dat dt_L_8 17 rfl) 3 rfl ?_
  refine g_iconst C (dat dt_L_8 18 rfl) ic_1 ?_
  refine g_iadd C (dat dt_L_8 19 rfl) ?_
  refine g_scrld C (dat dt_L_8 20 rfl) (scr_1 hL hL2) ?_
  refine g_aload_n C (dat dt_L_8 21 rfl) 0 rfl ?_
  refine g_iload_n C (dat dt_L_8 22 rfl) 3 rfl ?_
  refine g_iconst C (dat dt_L_8 23 rfl) ic_2 ?_
  refine g_iadd C (dat dt_L_8 24 rfl) ?_
  refine g_scrld C (dat dt_L_8 25 rfl) (scr_2 hL hL2) ?_
  refine g_cVi [.int (exs X (6 * n + 1)), .int (exs X (6 * n + 2))] C (dat dt_L_8 26 rfl) ml_L_114 (w_X11_exchanges (exs X (6 * n + 1)) (exs X (6 * n + 2)) h1 (r, h2) e2) kd_81 ltk_81 rfl rfl (Nat.le_of_ble_eq_true rfl) (by decide) ⟨by omega, by omega⟩ ?_
  refine g_ic_eq 1245 C (dat dt_L_8 27 rfl) (by decide) (fun _ => ?_) (fun c => absurd rfl c)
  refine g_widen (k' := 110 + 3 * n + 3) (n' := 40259 + 1604 * n + 1604) (by omega) (by omega) ?_
  exact next _ hI2
def Op_24 (I : Nat → Hp → Prop) : Prop := ∀ n h, I n h → n < 512 → ∀ x1 x2 x3 : Int32, ∃ r h1 h2, f_X10_seen x1 x2 x3 h = some (r, h1) ∧ f_X11_seen x1 x2 x3 h1 = some (r, h2) ∧ I (n + 1) h2
theorem lc_24 {X : Xt} (C : Cx X "SteamNationsLaw" code 4 (some .boolean) 200 600000 7302249) {I : Nat → Hp → Prop} (hO : Op_24 I) (n : Nat) (h : Hp) (hI : I n h) (hn : n < 512) (hL : 6 * n + 6 ≤ exL X) (hL2 : exL X ≤ 3072) (next : ∀ h2, I (n + 1) h2 → G X h2 (110 + 3 * n + 3) (40259 + 1604 * n + 1604) 1245 [(0, .ref 1000002), (1, .ref 0), (2, .ref 81), (3, .int (nI (6 * n)))] []) : G X h (110 + 3 * n) (40259 + 1604 * n) 832 [(0, .ref 1000002), (1, .ref 0), (2, .ref 81), (3, .int (nI (6 * n)))] [] := by
  obtain ⟨r, h1, h2, e1, e2, hI2⟩ := hO n h hI hn (exs X (6 * n + 1)) (exs X (6 * n + 2)) (exs X (6 * n + 3))
  refine g_aload_n C (dat dt_L_8 30 rfl) 1 rfl ?_
  refine g_aload_n C (dat dt_L_8 31 rfl) 0 rfl ?_
  refine g_iload_n C (dat dt_L_8 32 rfl) 3 rfl ?_
  refine g_iconst C (dat dt_L_8 33 rfl) ic_1 ?_
  refine g_iadd C (dat dt_L_8 34 rfl) ?_
  refine g_scrld C (dat dt_L_8 35 rfl) (scr_1 hL hL2) ?_
  refine g_aload_n C (dat dt_L_8 36 rfl) 0 rfl ?_
  refine g_iload_n C (dat dt_L_8 37 rfl) 3 rfl ?_
  refine g_iconst C (dat dt_L_8 38 rfl) ic_2 ?_
  refine g_iadd C (dat dt_L_8 39 rfl) ?_
  refine g_scrld C (dat dt_L_8 40 rfl) (scr_2 hL hL2) ?_
  refine g_aload_n C (dat dt_L_8 41 rfl) 0 rfl ?_
  refine g_iload_n C (dat dt_L_8 42 rfl) 3 rfl ?_
  refine g_iconst C (dat dt_L_8 43 rfl) ic_3 ?_
  refine g_iadd C (dat dt_L_8 44 rfl) ?_
  refine g_scrld C (dat dt_L_8 45 rfl) (scr_3 hL hL2) ?_
  refine g_cVi [.int (exs X (6 * n + 1)), .int (exs X (6 * n + 2)), .int (exs X (6 * n + 3))] C (dat dt_L_8 46 rfl) ml_L_115 (w_X10_seen (exs X (6 * n + 1)) (exs X (6 * n + 2)) (exs X (6 * n + 3)) h (r, h1) e1) kd_0 ltk_0 rfl rfl cat0 (by decide) ⟨by omega, by omega⟩ ?_
  refine g_aload_n C (dat dt_L_8 47 rfl) 2 rfl ?_
  refine g_aload_n C (dat dt_L_8 48 rfl) 0 rfl ?_
  refine g_iload_n C (dat dt_L_8 49 rfl) 3 rfl ?_
  refine g_iconst C (dat dt_L_8 50 rfl) ic_1 ?_
  refine g_iadd C (dat dt_L_8 51 rfl) ?_
  refine g_scrld C (dat dt_L_8 52 rfl) (scr_1 hL hL2) ?_
  refine g_aload_n C (dat dt_L_8 53 rfl) 0 rfl ?_
  refine g_iload_n C (dat dt_L_8 54 rfl) 3 rfl ?_
  refine g_iconst C (dat dt_L_8 55 rfl) ic_2 ?_
  refine g_iadd C (dat dt_L_8 56 rfl) ?_
  refine g_scrld C (dat dt_L_8 57 rfl) (scr_2 hL hL2) ?_
  refine g_aload_n C (dat dt_L_8 58 rfl) 0 rfl ?_
  refine g_iload_n C (dat dt_L_8 59 rfl) 3 rfl ?_
  refine g_iconst C (dat dt_L_9 0 rfl) ic_3 ?_
  refine g_iadd C (dat dt_L_9 1 rfl) ?_
  refine g_scrld C (dat dt_L_9 2 rfl) (scr_3 hL hL2) ?_
  refine g_cVi [.int (exs X (6 * n + 1)), .int (exs X (6 * n + 2)), .int (exs X (6 * n + 3))] C (dat dt_L_9 3 rfl) ml_L_118 (w_X11_seen (exs X (6 * n + 1)) (exs X (6 * n + 2)) (exs X (6 * n + 3)) h1 (r, h2) e2) kd_81 ltk_81 rfl rfl (Nat.le_of_ble_eq_true rfl) (by decide) ⟨by omega, by omega⟩ ?_
  refine g_ic_eq 1245 C (dat dt_L_9 4 rfl) (by decide) (fun _ => ?_) (fun c => absurd rfl c)
  refine g_widen (k' := 110 + 3 * n + 3) (n' := 40259 + 1604 * n + 1604) (by omega) (by omega) ?_
  exact next _ hI2
def Op_25 (I : Nat → Hp → Prop) : Prop := ∀ n h, I n h → n < 512 → ∃ r h1 h2, f_X10_forget  h = some (r, h1) ∧ f_X11_forget  h1 = some (r, h2) ∧ I (n + 1) h2
theorem lc_25 {X : Xt} (C : Cx X "SteamNationsLaw" code 4 (some .boolean) 200 600000 7302249) {I : Nat → Hp → Prop} (hO : Op_25 I) (n : Nat) (h : Hp) (hI : I n h) (hn : n < 512) (hL : 6 * n + 6 ≤ exL X) (hL2 : exL X ≤ 3072) (next : ∀ h2, I (n + 1) h2 → G X h2 (110 + 3 * n + 3) (40259 + 1604 * n + 1604) 1245 [(0, .ref 1000002), (1, .ref 0), (2, .ref 81), (3, .int (nI (6 * n)))] []) : G X h (110 + 3 * n) (40259 + 1604 * n) 875 [(0, .ref 1000002), (1, .ref 0), (2, .ref 81), (3, .int (nI (6 * n)))] [] := by
  obtain ⟨r, h1, h2, e1, e2, hI2⟩ := hO n h hI hn 
  refine g_aload_n C (dat dt_L_9 7 rfl) 1 rfl ?_
  refine g_cVi [] C (dat dt_L_9 8 rfl) ml_L_119 (w_X10_forget  h (r, h1) e1) kd_0 ltk_0 rfl rfl cat0 (by decide) ⟨by omega, by omega⟩ ?_
  refine g_aload_n C (dat dt_L_9 9 rfl) 2 rfl ?_
  refine g_cVi [] C (dat dt_L_9 10 rfl) ml_L_122 (w_X11_forget  h1 (r, h2) e2) kd_81 ltk_81 rfl rfl (Nat.le_of_ble_eq_true rfl) (by decide) ⟨by omega, by omega⟩ ?_
  refine g_ic_eq 1245 C (dat dt_L_9 11 rfl) (by decide) (fun _ => ?_) (fun c => absurd rfl c)
  refine g_widen (k' := 110 + 3 * n + 3) (n' := 40259 + 1604 * n + 1604) (by omega) (by omega) ?_
  exact next _ hI2
def Op_26 (I : Nat → Hp → Prop) : Prop := ∀ n h, I n h → n < 512 → ∀ x1 x2 : Int32, ∃ r h1 h2, f_X10_sat x1 x2 h = some (r, h1) ∧ f_X11_sat x1 x2 h1 = some (r, h2) ∧ I (n + 1) h2
theorem lc_26 {X : Xt} (C : Cx X "SteamNationsLaw" code 4 (some .boolean) 200 600000 7302249) {I : Nat → Hp → Prop} (hO : Op_26 I) (n : Nat) (h : Hp) (hI : I n h) (hn : n < 512) (hL : 6 * n + 6 ≤ exL X) (hL2 : exL X ≤ 3072) (next : ∀ h2, I (n + 1) h2 → G X h2 (110 + 3 * n + 3) (40259 + 1604 * n + 1604) 1245 [(0, .ref 1000002), (1, .ref 0), (2, .ref 81), (3, .int (nI (6 * n)))] []) : G X h (110 + 3 * n) (40259 + 1604 * n) 888 [(0, .ref 1000002), (1, .ref 0), (2, .ref 81), (3, .int (nI (6 * n)))] [] := by
  obtain ⟨r, h1, h2, e1, e2, hI2⟩ := hO n h hI hn (exs X (6 * n + 1)) (exs X (6 * n + 2))
  refine g_aload_n C (dat dt_L_9 14 rfl) 1 rfl ?_
  refine g_aload_n C (dat dt_L_9 15 rfl) 0 rfl ?_
  refine g_iload_n C (dat dt_L_9 16 rfl) 3 rfl ?_
  refine g_iconst C (dat dt_L_9 17 rfl) ic_1 ?_
  refine g_iadd C (dat dt_L_9 18 rfl) ?_
  refine g_scrld C (dat dt_L_9 19 rfl) (scr_1 hL hL2) ?_
  refine g_aload_n C (dat dt_L_9 20 rfl) 0 rfl ?_
  refine g_iload_n C (dat dt_L_9 21 rfl) 3 rfl ?_
  refine g_iconst C (dat dt_L_9 22 rfl) ic_2 ?_
  refine g_iadd C (dat dt_L_9 23 rfl) ?_
  refine g_scrld C (dat dt_L_9 24 rfl) (scr_2 hL hL2) ?_
  refine g_cVi [.int (exs X (6 * n + 1)), .int (exs X (6 * n + 2))] C (dat dt_L_9 25 rfl) ml_L_123 (w_X10_sat (exs X (6 * n + 1)) (exs X (6 * n + 2)) h (r, h1) e1) kd_0 ltk_0 rfl rfl cat0 (by decide) ⟨by omega, by omega⟩ ?_
  refine g_aload_n C (dat dt_L_9 26 rfl) 2 rfl ?_
  refine g_aload_n C (dat dt_L_9 27 rfl) 0 rfl ?_
  refine g_iload_n C (dat dt_L_9 28 rfl) 3 rfl ?_
  refine g_iconst C (dat dt_L_9 29 rfl) ic_1 ?_
  refine g_iadd C (dat dt_L_9 30 rfl) ?_
  refine g_scrld C (dat dt_L_9 31 rfl) (scr_1 hL hL2) ?_
  refine g_aload_n C (dat dt_L_9 32 rfl) 0 rfl ?_
  refine g_iload_n C (dat dt_L_9 33 rfl) 3 rfl ?_
  refine g_iconst C (dat dt_L_9 34 rfl) ic_2 ?_
  refine g_iadd C (dat dt_L_9 35 rfl) ?_
  refine g_scrld C (dat dt_L_9 36 rfl) (scr_2 hL hL2) ?_
  refine g_cVi [.int (exs X (6 * n + 1)), .int (exs X (6 * n + 2))] C (dat dt_L_9 37 rfl) ml_L_126 (w_X11_sat (exs X (6 * n + 1)) (exs X (6 * n + 2)) h1 (r, h2) e2) kd_81 ltk_81 rfl rfl (Nat.le_of_ble_eq_true rfl) (by decide) ⟨by omega, by omega⟩ ?_
  refine g_ic_eq 1245 C (dat dt_L_9 38 rfl) (by decide) (fun _ => ?_) (fun c => absurd rfl c)
  refine g_widen (k' := 110 + 3 * n + 3) (n' := 40259 + 1604 * n + 1604) (by omega) (by omega) ?_
  exact next _ hI2
def Op_27 (I : Nat → Hp → Prop) : Prop := ∀ n h, I n h → n < 512 → ∀ x1 x2 : Int32, ∃ r h1 h2, f_X10_ask x1 x2 h = some (r, h1) ∧ f_X11_ask x1 x2 h1 = some (r, h2) ∧ I (n + 1) h2
theorem lc_27 {X : Xt} (C : Cx X "SteamNationsLaw" code 4 (some .boolean) 200 600000 7302249) {I : Nat → Hp → Prop} (hO : Op_27 I) (n : Nat) (h : Hp) (hI : I n h) (hn : n < 512) (hL : 6 * n + 6 ≤ exL X) (hL2 : exL X ≤ 3072) (next : ∀ h2, I (n + 1) h2 → G X h2 (110 + 3 * n + 3) (40259 + 1604 * n + 1604) 1245 [(0, .ref 1000002), (1, .ref 0), (2, .ref 81), (3, .int (nI (6 * n)))] []) : G X h (110 + 3 * n) (40259 + 1604 * n) 921 [(0, .ref 1000002), (1, .ref 0), (2, .ref 81), (3, .int (nI (6 * n)))] [] := by
  obtain ⟨r, h1, h2, e1, e2, hI2⟩ := hO n h hI hn (exs X (6 * n + 1)) (exs X (6 * n + 2))
  refine g_aload_n C (dat dt_L_9 41 rfl) 1 rfl ?_
  refine g_aload_n C (dat dt_L_9 42 rfl) 0 rfl ?_
  refine g_iload_n C (dat dt_L_9 43 rfl) 3 rfl ?_
  refine g_iconst C (dat dt_L_9 44 rfl) ic_1 ?_
  refine g_iadd C (dat dt_L_9 45 rfl) ?_
  refine g_scrld C (dat dt_L_9 46 rfl) (scr_1 hL hL2) ?_
  refine g_aload_n C (dat dt_L_9 47 rfl) 0 rfl ?_
  refine g_iload_n C (dat dt_L_9 48 rfl) 3 rfl ?_
  refine g_iconst C (dat dt_L_9 49 rfl) ic_2 ?_
  refine g_iadd C (dat dt_L_9 50 rfl) ?_
  refine g_scrld C (dat dt_L_9 51 rfl) (scr_2 hL hL2) ?_
  refine g_cVi [.int (exs X (6 * n + 1)), .int (exs X (6 * n + 2))] C (dat dt_L_9 52 rfl) ml_L_127 (w_X10_ask (exs X (6 * n + 1)) (exs X (6 * n + 2)) h (r, h1) e1) kd_0 ltk_0 rfl rfl cat0 (by decide) ⟨by omega, by omega⟩ ?_
  refine g_aload_n C (dat dt_L_9 53 rfl) 2 rfl ?_
  refine g_aload_n C (dat dt_L_9 54 rfl) 0 rfl ?_
  refine g_iload_n C (dat dt_L_9 55 rfl) 3 rfl ?_
  refine g_iconst C (dat dt_L_9 56 rfl) ic_1 ?_
  refine g_iadd C (dat dt_L_9 57 rfl) ?_
  refine g_scrld C (dat dt_L_9 58 rfl) (scr_1 hL hL2) ?_
  refine g_aload_n C (dat dt_L_9 59 rfl) 0 rfl ?_
  refine g_iload_n C (dat dt_L_10 0 rfl) 3 rfl ?_
  refine g_iconst C (dat dt_L_10 1 rfl) ic_2 ?_
  refine g_iadd C (dat dt_L_10 2 rfl) ?_
  refine g_scrld C (dat dt_L_10 3 rfl) (scr_2 hL hL2) ?_
  refine g_cVi [.int (exs X (6 * n + 1)), .int (exs X (6 * n + 2))] C (dat dt_L_10 4 rfl) ml_L_130 (w_X11_ask (exs X (6 * n + 1)) (exs X (6 * n + 2)) h1 (r, h2) e2) kd_81 ltk_81 rfl rfl (Nat.le_of_ble_eq_true rfl) (by decide) ⟨by omega, by omega⟩ ?_
  refine g_ic_eq 1245 C (dat dt_L_10 5 rfl) (by decide) (fun _ => ?_) (fun c => absurd rfl c)
  refine g_widen (k' := 110 + 3 * n + 3) (n' := 40259 + 1604 * n + 1604) (by omega) (by omega) ?_
  exact next _ hI2
def Op_28 (I : Nat → Hp → Prop) : Prop := ∀ n h, I n h → n < 512 → ∀ x1 x2 : Int32, ∃ r, f_X10_treaty x1 x2 h = some r ∧ f_X11_treaty x1 x2 h = some r ∧ I (n + 1) h
theorem lc_28 {X : Xt} (C : Cx X "SteamNationsLaw" code 4 (some .boolean) 200 600000 7302249) {I : Nat → Hp → Prop} (hO : Op_28 I) (n : Nat) (h : Hp) (hI : I n h) (hn : n < 512) (hL : 6 * n + 6 ≤ exL X) (hL2 : exL X ≤ 3072) (next : ∀ h2, I (n + 1) h2 → G X h2 (110 + 3 * n + 3) (40259 + 1604 * n + 1604) 1245 [(0, .ref 1000002), (1, .ref 0), (2, .ref 81), (3, .int (nI (6 * n)))] []) : G X h (110 + 3 * n) (40259 + 1604 * n) 954 [(0, .ref 1000002), (1, .ref 0), (2, .ref 81), (3, .int (nI (6 * n)))] [] := by
  obtain ⟨r, e1, e2, hI2⟩ := hO n h hI hn (exs X (6 * n + 1)) (exs X (6 * n + 2))
  refine g_aload_n C (dat dt_L_10 8 rfl) 1 rfl ?_
  refine g_aload_n C (dat dt_L_10 9 rfl) 0 rfl ?_
  refine g_iload_n C (dat dt_L_10 10 rfl) 3 rfl ?_
  refine g_iconst C (dat dt_L_10 11 rfl) ic_1 ?_
  refine g_iadd C (dat dt_L_10 12 rfl) ?_
  refine g_scrld C (dat dt_L_10 13 rfl) (scr_1 hL hL2) ?_
  refine g_aload_n C (dat dt_L_10 14 rfl) 0 rfl ?_
  refine g_iload_n C (dat dt_L_10 15 rfl) 3 rfl ?_
  refine g_iconst C (dat dt_L_10 16 rfl) ic_2 ?_
  refine g_iadd C (dat dt_L_10 17 rfl) ?_
  refine g_scrld C (dat dt_L_10 18 rfl) (scr_2 hL hL2) ?_
  refine g_cVi [.int (exs X (6 * n + 1)), .int (exs X (6 * n + 2))] C (dat dt_L_10 19 rfl) ml_L_131 (w_X10_treaty (exs X (6 * n + 1)) (exs X (6 * n + 2)) h r e1) kd_0 ltk_0 rfl rfl cat0 (by decide) ⟨by omega, by omega⟩ ?_
  refine g_aload_n C (dat dt_L_10 20 rfl) 2 rfl ?_
  refine g_aload_n C (dat dt_L_10 21 rfl) 0 rfl ?_
  refine g_iload_n C (dat dt_L_10 22 rfl) 3 rfl ?_
  refine g_iconst C (dat dt_L_10 23 rfl) ic_1 ?_
  refine g_iadd C (dat dt_L_10 24 rfl) ?_
  refine g_scrld C (dat dt_L_10 25 rfl) (scr_1 hL hL2) ?_
  refine g_aload_n C (dat dt_L_10 26 rfl) 0 rfl ?_
  refine g_iload_n C (dat dt_L_10 27 rfl) 3 rfl ?_
  refine g_iconst C (dat dt_L_10 28 rfl) ic_2 ?_
  refine g_iadd C (dat dt_L_10 29 rfl) ?_
  refine g_scrld C (dat dt_L_10 30 rfl) (scr_2 hL hL2) ?_
  refine g_cVi [.int (exs X (6 * n + 1)), .int (exs X (6 * n + 2))] C (dat dt_L_10 31 rfl) ml_L_134 (w_X11_treaty (exs X (6 * n + 1)) (exs X (6 * n + 2)) h r e2) kd_81 ltk_81 rfl rfl (Nat.le_of_ble_eq_true rfl) (by decide) ⟨by omega, by omega⟩ ?_
  refine g_ic_eq 1245 C (dat dt_L_10 32 rfl) (by decide) (fun _ => ?_) (fun c => absurd rfl c)
  refine g_widen (k' := 110 + 3 * n + 3) (n' := 40259 + 1604 * n + 1604) (by omega) (by omega) ?_
  exact next _ hI2
def Op_29 (I : Nat → Hp → Prop) : Prop := ∀ n h, I n h → n < 512 → ∀ x1 x2 x3 : Int32, ∃ r h1 h2, f_X10_drop x1 x2 x3 h = some (r, h1) ∧ f_X11_drop x1 x2 x3 h1 = some (r, h2) ∧ I (n + 1) h2
theorem lc_29 {X : Xt} (C : Cx X "SteamNationsLaw" code 4 (some .boolean) 200 600000 7302249) {I : Nat → Hp → Prop} (hO : Op_29 I) (n : Nat) (h : Hp) (hI : I n h) (hn : n < 512) (hL : 6 * n + 6 ≤ exL X) (hL2 : exL X ≤ 3072) (next : ∀ h2, I (n + 1) h2 → G X h2 (110 + 3 * n + 3) (40259 + 1604 * n + 1604) 1245 [(0, .ref 1000002), (1, .ref 0), (2, .ref 81), (3, .int (nI (6 * n)))] []) : G X h (110 + 3 * n) (40259 + 1604 * n) 987 [(0, .ref 1000002), (1, .ref 0), (2, .ref 81), (3, .int (nI (6 * n)))] [] := by
  obtain ⟨r, h1, h2, e1, e2, hI2⟩ := hO n h hI hn (exs X (6 * n + 1)) (exs X (6 * n + 2)) (exs X (6 * n + 3))
  refine g_aload_n C (dat dt_L_10 35 rfl) 1 rfl ?_
  refine g_aload_n C (dat dt_L_10 36 rfl) 0 rfl ?_
  refine g_iload_n C (dat dt_L_10 37 rfl) 3 rfl ?_
  refine g_iconst C (dat dt_L_10 38 rfl) ic_1 ?_
  refine g_iadd C (dat dt_L_10 39 rfl) ?_
  refine g_scrld C (dat dt_L_10 40 rfl) (scr_1 hL hL2) ?_
  refine g_aload_n C (dat dt_L_10 41 rfl) 0 rfl ?_
  refine g_iload_n C (dat dt_L_10 42 rfl) 3 rfl ?_
  refine g_iconst C (dat dt_L_10 43 rfl) ic_2 ?_
  refine g_iadd C (dat dt_L_10 44 rfl) ?_
  refine g_scrld C (dat dt_L_10 45 rfl) (scr_2 hL hL2) ?_
  refine g_aload_n C (dat dt_L_10 46 rfl) 0 rfl ?_
  refine g_iload_n C (dat dt_L_10 47 rfl) 3 rfl ?_
  refine g_iconst C (dat dt_L_10 48 rfl) ic_3 ?_
  refine g_iadd C (dat dt_L_10 49 rfl) ?_
  refine g_scrld C (dat dt_L_10 50 rfl) (scr_3 hL hL2) ?_
  refine g_cVi [.int (exs X (6 * n + 1)), .int (exs X (6 * n + 2)), .int (exs X (6 * n + 3))] C (dat dt_L_10 51 rfl) ml_L_135 (w_X10_drop (exs X (6 * n + 1)) (exs X (6 * n + 2)) (exs X (6 * n + 3)) h (r, h1) e1) kd_0 ltk_0 rfl rfl cat0 (by decide) ⟨by omega, by omega⟩ ?_
  refine g_aload_n C (dat dt_L_10 52 rfl) 2 rfl ?_
  refine g_aload_n C (dat dt_L_10 53 rfl) 0 rfl ?_
  refine g_iload_n C (dat dt_L_10 54 rfl) 3 rfl ?_
  refine g_iconst C (dat dt_L_10 55 rfl) ic_1 ?_
  refine g_iadd C (dat dt_L_10 56 rfl) ?_
  refine g_scrld C (dat dt_L_10 57 rfl) (scr_1 hL hL2) ?_
  refine g_aload_n C (dat dt_L_10 58 rfl) 0 rfl ?_
  refine g_iload_n C (dat dt_L_10 59 rfl) 3 rfl ?_
  refine g_iconst C (dat dt_L_11 0 rfl) ic_2 ?_
  refine g_iadd C (dat dt_L_11 1 rfl) ?_
  refine g_scrld C (dat dt_L_11 2 rfl) (scr_2 hL hL2) ?_
  refine g_aload_n C (dat dt_L_11 3 rfl) 0 rfl ?_
  refine g_iload_n C (dat dt_L_11 4 rfl) 3 rfl ?_
  refine g_iconst C (dat dt_L_11 5 rfl) ic_3 ?_
  refine g_iadd C (dat dt_L_11 6 rfl) ?_
  refine g_scrld C (dat dt_L_11 7 rfl) (scr_3 hL hL2) ?_
  refine g_cVi [.int (exs X (6 * n + 1)), .int (exs X (6 * n + 2)), .int (exs X (6 * n + 3))] C (dat dt_L_11 8 rfl) ml_L_138 (w_X11_drop (exs X (6 * n + 1)) (exs X (6 * n + 2)) (exs X (6 * n + 3)) h1 (r, h2) e2) kd_81 ltk_81 rfl rfl (Nat.le_of_ble_eq_true rfl) (by decide) ⟨by omega, by omega⟩ ?_
  refine g_ic_eq 1245 C (dat dt_L_11 9 rfl) (by decide) (fun _ => ?_) (fun c => absurd rfl c)
  refine g_widen (k' := 110 + 3 * n + 3) (n' := 40259 + 1604 * n + 1604) (by omega) (by omega) ?_
  exact next _ hI2
def Op_30 (I : Nat → Hp → Prop) : Prop := ∀ n h, I n h → n < 512 → ∀ x1 x2 : Int32, ∃ r h1 h2, f_X10_few x1 x2 h = some (r, h1) ∧ f_X11_few x1 x2 h1 = some (r, h2) ∧ I (n + 1) h2
theorem lc_30 {X : Xt} (C : Cx X "SteamNationsLaw" code 4 (some .boolean) 200 600000 7302249) {I : Nat → Hp → Prop} (hO : Op_30 I) (n : Nat) (h : Hp) (hI : I n h) (hn : n < 512) (hL : 6 * n + 6 ≤ exL X) (hL2 : exL X ≤ 3072) (next : ∀ h2, I (n + 1) h2 → G X h2 (110 + 3 * n + 3) (40259 + 1604 * n + 1604) 1245 [(0, .ref 1000002), (1, .ref 0), (2, .ref 81), (3, .int (nI (6 * n)))] []) : G X h (110 + 3 * n) (40259 + 1604 * n) 1030 [(0, .ref 1000002), (1, .ref 0), (2, .ref 81), (3, .int (nI (6 * n)))] [] := by
  obtain ⟨r, h1, h2, e1, e2, hI2⟩ := hO n h hI hn (exs X (6 * n + 1)) (exs X (6 * n + 2))
  refine g_aload_n C (dat dt_L_11 12 rfl) 1 rfl ?_
  refine g_aload_n C (dat dt_L_11 13 rfl) 0 rfl ?_
  refine g_iload_n C (dat dt_L_11 14 rfl) 3 rfl ?_
  refine g_iconst C (dat dt_L_11 15 rfl) ic_1 ?_
  refine g_iadd C (dat dt_L_11 16 rfl) ?_
  refine g_scrld C (dat dt_L_11 17 rfl) (scr_1 hL hL2) ?_
  refine g_aload_n C (dat dt_L_11 18 rfl) 0 rfl ?_
  refine g_iload_n C (dat dt_L_11 19 rfl) 3 rfl ?_
  refine g_iconst C (dat dt_L_11 20 rfl) ic_2 ?_
  refine g_iadd C (dat dt_L_11 21 rfl) ?_
  refine g_scrld C (dat dt_L_11 22 rfl) (scr_2 hL hL2) ?_
  refine g_cVl [.int (exs X (6 * n + 1)), .int (exs X (6 * n + 2))] C (dat dt_L_11 23 rfl) ml_L_139 (w_X10_few (exs X (6 * n + 1)) (exs X (6 * n + 2)) h (r, h1) e1) kd_0 ltk_0 rfl rfl cat0 (by decide) ⟨by omega, by omega⟩ ?_
  refine g_aload_n C (dat dt_L_11 24 rfl) 2 rfl ?_
  refine g_aload_n C (dat dt_L_11 25 rfl) 0 rfl ?_
  refine g_iload_n C (dat dt_L_11 26 rfl) 3 rfl ?_
  refine g_iconst C (dat dt_L_11 27 rfl) ic_1 ?_
  refine g_iadd C (dat dt_L_11 28 rfl) ?_
  refine g_scrld C (dat dt_L_11 29 rfl) (scr_1 hL hL2) ?_
  refine g_aload_n C (dat dt_L_11 30 rfl) 0 rfl ?_
  refine g_iload_n C (dat dt_L_11 31 rfl) 3 rfl ?_
  refine g_iconst C (dat dt_L_11 32 rfl) ic_2 ?_
  refine g_iadd C (dat dt_L_11 33 rfl) ?_
  refine g_scrld C (dat dt_L_11 34 rfl) (scr_2 hL hL2) ?_
  refine g_cVl [.int (exs X (6 * n + 1)), .int (exs X (6 * n + 2))] C (dat dt_L_11 35 rfl) ml_L_143 (w_X11_few (exs X (6 * n + 1)) (exs X (6 * n + 2)) h1 (r, h2) e2) kd_81 ltk_81 rfl rfl (Nat.le_of_ble_eq_true rfl) (by decide) ⟨by omega, by omega⟩ ?_
  refine g_lcmp C (dat dt_L_11 36 rfl) ?_
  refine g_if_eq 1245 C (dat dt_L_11 37 rfl) (by decide) (fun _ => ?_) (fun c => absurd (lg_cmp_self r) c)
  refine g_widen (k' := 110 + 3 * n + 3) (n' := 40259 + 1604 * n + 1604) (by omega) (by omega) ?_
  exact next _ hI2
def Op_31 (I : Nat → Hp → Prop) : Prop := ∀ n h, I n h → n < 512 → ∀ x1 x2 : Int32, ∃ r h1 h2, f_X10_compare x1 x2 h = some (r, h1) ∧ f_X11_compare x1 x2 h1 = some (r, h2) ∧ I (n + 1) h2
theorem lc_31 {X : Xt} (C : Cx X "SteamNationsLaw" code 4 (some .boolean) 200 600000 7302249) {I : Nat → Hp → Prop} (hO : Op_31 I) (n : Nat) (h : Hp) (hI : I n h) (hn : n < 512) (hL : 6 * n + 6 ≤ exL X) (hL2 : exL X ≤ 3072) (next : ∀ h2, I (n + 1) h2 → G X h2 (110 + 3 * n + 3) (40259 + 1604 * n + 1604) 1245 [(0, .ref 1000002), (1, .ref 0), (2, .ref 81), (3, .int (nI (6 * n)))] []) : G X h (110 + 3 * n) (40259 + 1604 * n) 1064 [(0, .ref 1000002), (1, .ref 0), (2, .ref 81), (3, .int (nI (6 * n)))] [] := by
  obtain ⟨r, h1, h2, e1, e2, hI2⟩ := hO n h hI hn (exs X (6 * n + 1)) (exs X (6 * n + 2))
  refine g_aload_n C (dat dt_L_11 40 rfl) 1 rfl ?_
  refine g_aload_n C (dat dt_L_11 41 rfl) 0 rfl ?_
  refine g_iload_n C (dat dt_L_11 42 rfl) 3 rfl ?_
  refine g_iconst C (dat dt_L_11 43 rfl) ic_1 ?_
  refine g_iadd C (dat dt_L_11 44 rfl) ?_
  refine g_scrld C (dat dt_L_11 45 rfl) (scr_1 hL hL2) ?_
  refine g_aload_n C (dat dt_L_11 46 rfl) 0 rfl ?_
  refine g_iload_n C (dat dt_L_11 47 rfl) 3 rfl ?_
  refine g_iconst C (dat dt_L_11 48 rfl) ic_2 ?_
  refine g_iadd C (dat dt_L_11 49 rfl) ?_
  refine g_scrld C (dat dt_L_11 50 rfl) (scr_2 hL hL2) ?_
  refine g_cVi [.int (exs X (6 * n + 1)), .int (exs X (6 * n + 2))] C (dat dt_L_11 51 rfl) ml_L_144 (w_X10_compare (exs X (6 * n + 1)) (exs X (6 * n + 2)) h (r, h1) e1) kd_0 ltk_0 rfl rfl cat0 (by decide) ⟨by omega, by omega⟩ ?_
  refine g_aload_n C (dat dt_L_11 52 rfl) 2 rfl ?_
  refine g_aload_n C (dat dt_L_11 53 rfl) 0 rfl ?_
  refine g_iload_n C (dat dt_L_11 54 rfl) 3 rfl ?_
  refine g_iconst C (dat dt_L_11 55 rfl) ic_1 ?_
  refine g_iadd C (dat dt_L_11 56 rfl) ?_
  refine g_scrld C (dat dt_L_11 57 rfl) (scr_1 hL hL2) ?_
  refine g_aload_n C (dat dt_L_11 58 rfl) 0 rfl ?_
  refine g_iload_n C (dat dt_L_11 59 rfl) 3 rfl ?_
  refine g_iconst C (dat dt_L_12 0 rfl) ic_2 ?_
  refine g_iadd C (dat dt_L_12 1 rfl) ?_
  refine g_scrld C (dat dt_L_12 2 rfl) (scr_2 hL hL2) ?_
  refine g_cVi [.int (exs X (6 * n + 1)), .int (exs X (6 * n + 2))] C (dat dt_L_12 3 rfl) ml_L_147 (w_X11_compare (exs X (6 * n + 1)) (exs X (6 * n + 2)) h1 (r, h2) e2) kd_81 ltk_81 rfl rfl (Nat.le_of_ble_eq_true rfl) (by decide) ⟨by omega, by omega⟩ ?_
  refine g_ic_eq 1245 C (dat dt_L_12 4 rfl) (by decide) (fun _ => ?_) (fun c => absurd rfl c)
  refine g_widen (k' := 110 + 3 * n + 3) (n' := 40259 + 1604 * n + 1604) (by omega) (by omega) ?_
  exact next _ hI2
def Op_32 (I : Nat → Hp → Prop) : Prop := ∀ n h, I n h → n < 512 → ∀ x1 x2 : Int32, ∃ r h1 h2, f_X10_mornings x1 x2 h = some (r, h1) ∧ f_X11_mornings x1 x2 h1 = some (r, h2) ∧ I (n + 1) h2
theorem lc_32 {X : Xt} (C : Cx X "SteamNationsLaw" code 4 (some .boolean) 200 600000 7302249) {I : Nat → Hp → Prop} (hO : Op_32 I) (n : Nat) (h : Hp) (hI : I n h) (hn : n < 512) (hL : 6 * n + 6 ≤ exL X) (hL2 : exL X ≤ 3072) (next : ∀ h2, I (n + 1) h2 → G X h2 (110 + 3 * n + 3) (40259 + 1604 * n + 1604) 1245 [(0, .ref 1000002), (1, .ref 0), (2, .ref 81), (3, .int (nI (6 * n)))] []) : G X h (110 + 3 * n) (40259 + 1604 * n) 1097 [(0, .ref 1000002), (1, .ref 0), (2, .ref 81), (3, .int (nI (6 * n)))] [] := by
  obtain ⟨r, h1, h2, e1, e2, hI2⟩ := hO n h hI hn (exs X (6 * n + 1)) (exs X (6 * n + 2))
  refine g_aload_n C (dat dt_L_12 7 rfl) 1 rfl ?_
  refine g_aload_n C (dat dt_L_12 8 rfl) 0 rfl ?_
  refine g_iload_n C (dat dt_L_12 9 rfl) 3 rfl ?_
  refine g_iconst C (dat dt_L_12 10 rfl) ic_1 ?_
  refine g_iadd C (dat dt_L_12 11 rfl) ?_
  refine g_scrld C (dat dt_L_12 12 rfl) (scr_1 hL hL2) ?_
  refine g_aload_n C (dat dt_L_12 13 rfl) 0 rfl ?_
  refine g_iload_n C (dat dt_L_12 14 rfl) 3 rfl ?_
  refine g_iconst C (dat dt_L_12 15 rfl) ic_2 ?_
  refine g_iadd C (dat dt_L_12 16 rfl) ?_
  refine g_scrld C (dat dt_L_12 17 rfl) (scr_2 hL hL2) ?_
  refine g_cVi [.int (exs X (6 * n + 1)), .int (exs X (6 * n + 2))] C (dat dt_L_12 18 rfl) ml_L_148 (w_X10_mornings (exs X (6 * n + 1)) (exs X (6 * n + 2)) h (r, h1) e1) kd_0 ltk_0 rfl rfl cat0 (by decide) ⟨by omega, by omega⟩ ?_
  refine g_aload_n C (dat dt_L_12 19 rfl) 2 rfl ?_
  refine g_aload_n C (dat dt_L_12 20 rfl) 0 rfl ?_
  refine g_iload_n C (dat dt_L_12 21 rfl) 3 rfl ?_
  refine g_iconst C (dat dt_L_12 22 rfl) ic_1 ?_
  refine g_iadd C (dat dt_L_12 23 rfl) ?_
  refine g_scrld C (dat dt_L_12 24 rfl) (scr_1 hL hL2) ?_
  refine g_aload_n C (dat dt_L_12 25 rfl) 0 rfl ?_
  refine g_iload_n C (dat dt_L_12 26 rfl) 3 rfl ?_
  refine g_iconst C (dat dt_L_12 27 rfl) ic_2 ?_
  refine g_iadd C (dat dt_L_12 28 rfl) ?_
  refine g_scrld C (dat dt_L_12 29 rfl) (scr_2 hL hL2) ?_
  refine g_cVi [.int (exs X (6 * n + 1)), .int (exs X (6 * n + 2))] C (dat dt_L_12 30 rfl) ml_L_151 (w_X11_mornings (exs X (6 * n + 1)) (exs X (6 * n + 2)) h1 (r, h2) e2) kd_81 ltk_81 rfl rfl (Nat.le_of_ble_eq_true rfl) (by decide) ⟨by omega, by omega⟩ ?_
  refine g_ic_eq 1245 C (dat dt_L_12 31 rfl) (by decide) (fun _ => ?_) (fun c => absurd rfl c)
  refine g_widen (k' := 110 + 3 * n + 3) (n' := 40259 + 1604 * n + 1604) (by omega) (by omega) ?_
  exact next _ hI2
def Op_33 (I : Nat → Hp → Prop) : Prop := ∀ n h, I n h → n < 512 → ∀ x1 x2 : Int32, ∃ r, f_X10_drawn x1 x2 h = some r ∧ f_X11_drawn x1 x2 h = some r ∧ I (n + 1) h
theorem lc_33 {X : Xt} (C : Cx X "SteamNationsLaw" code 4 (some .boolean) 200 600000 7302249) {I : Nat → Hp → Prop} (hO : Op_33 I) (n : Nat) (h : Hp) (hI : I n h) (hn : n < 512) (hL : 6 * n + 6 ≤ exL X) (hL2 : exL X ≤ 3072) (next : ∀ h2, I (n + 1) h2 → G X h2 (110 + 3 * n + 3) (40259 + 1604 * n + 1604) 1245 [(0, .ref 1000002), (1, .ref 0), (2, .ref 81), (3, .int (nI (6 * n)))] []) : G X h (110 + 3 * n) (40259 + 1604 * n) 1130 [(0, .ref 1000002), (1, .ref 0), (2, .ref 81), (3, .int (nI (6 * n)))] [] := by
  obtain ⟨r, e1, e2, hI2⟩ := hO n h hI hn (exs X (6 * n + 1)) (exs X (6 * n + 2))
  refine g_aload_n C (dat dt_L_12 34 rfl) 1 rfl ?_
  refine g_aload_n C (dat dt_L_12 35 rfl) 0 rfl ?_
  refine g_iload_n C (dat dt_L_12 36 rfl) 3 rfl ?_
  refine g_iconst C (dat dt_L_12 37 rfl) ic_1 ?_
  refine g_iadd C (dat dt_L_12 38 rfl) ?_
  refine g_scrld C (dat dt_L_12 39 rfl) (scr_1 hL hL2) ?_
  refine g_aload_n C (dat dt_L_12 40 rfl) 0 rfl ?_
  refine g_iload_n C (dat dt_L_12 41 rfl) 3 rfl ?_
  refine g_iconst C (dat dt_L_12 42 rfl) ic_2 ?_
  refine g_iadd C (dat dt_L_12 43 rfl) ?_
  refine g_scrld C (dat dt_L_12 44 rfl) (scr_2 hL hL2) ?_
  refine g_cVi [.int (exs X (6 * n + 1)), .int (exs X (6 * n + 2))] C (dat dt_L_12 45 rfl) ml_L_152 (w_X10_drawn (exs X (6 * n + 1)) (exs X (6 * n + 2)) h r e1) kd_0 ltk_0 rfl rfl cat0 (by decide) ⟨by omega, by omega⟩ ?_
  refine g_aload_n C (dat dt_L_12 46 rfl) 2 rfl ?_
  refine g_aload_n C (dat dt_L_12 47 rfl) 0 rfl ?_
  refine g_iload_n C (dat dt_L_12 48 rfl) 3 rfl ?_
  refine g_iconst C (dat dt_L_12 49 rfl) ic_1 ?_
  refine g_iadd C (dat dt_L_12 50 rfl) ?_
  refine g_scrld C (dat dt_L_12 51 rfl) (scr_1 hL hL2) ?_
  refine g_aload_n C (dat dt_L_12 52 rfl) 0 rfl ?_
  refine g_iload_n C (dat dt_L_12 53 rfl) 3 rfl ?_
  refine g_iconst C (dat dt_L_12 54 rfl) ic_2 ?_
  refine g_iadd C (dat dt_L_12 55 rfl) ?_
  refine g_scrld C (dat dt_L_12 56 rfl) (scr_2 hL hL2) ?_
  refine g_cVi [.int (exs X (6 * n + 1)), .int (exs X (6 * n + 2))] C (dat dt_L_12 57 rfl) ml_L_155 (w_X11_drawn (exs X (6 * n + 1)) (exs X (6 * n + 2)) h r e2) kd_81 ltk_81 rfl rfl (Nat.le_of_ble_eq_true rfl) (by decide) ⟨by omega, by omega⟩ ?_
  refine g_ic_eq 1245 C (dat dt_L_12 58 rfl) (by decide) (fun _ => ?_) (fun c => absurd rfl c)
  refine g_widen (k' := 110 + 3 * n + 3) (n' := 40259 + 1604 * n + 1604) (by omega) (by omega) ?_
  exact next _ hI2
def Op_34 (I : Nat → Hp → Prop) : Prop := ∀ n h, I n h → n < 512 → ∀ x1 : Int32, ∃ r h1 h2, f_X10_image x1 h = some (r, h1) ∧ f_X11_image x1 h1 = some (r, h2) ∧ I (n + 1) h2
theorem lc_34 {X : Xt} (C : Cx X "SteamNationsLaw" code 4 (some .boolean) 200 600000 7302249) {I : Nat → Hp → Prop} (hO : Op_34 I) (n : Nat) (h : Hp) (hI : I n h) (hn : n < 512) (hL : 6 * n + 6 ≤ exL X) (hL2 : exL X ≤ 3072) (next : ∀ h2, I (n + 1) h2 → G X h2 (110 + 3 * n + 3) (40259 + 1604 * n + 1604) 1245 [(0, .ref 1000002), (1, .ref 0), (2, .ref 81), (3, .int (nI (6 * n)))] []) : G X h (110 + 3 * n) (40259 + 1604 * n) 1163 [(0, .ref 1000002), (1, .ref 0), (2, .ref 81), (3, .int (nI (6 * n)))] [] := by
  obtain ⟨r, h1, h2, e1, e2, hI2⟩ := hO n h hI hn (exs X (6 * n + 1))
  refine g_aload_n C (dat dt_L_13 1 rfl) 1 rfl ?_
  refine g_aload_n C (dat dt_L_13 2 rfl) 0 rfl ?_
  refine g_iload_n C (dat dt_L_13 3 rfl) 3 rfl ?_
  refine g_iconst C (dat dt_L_13 4 rfl) ic_1 ?_
  refine g_iadd C (dat dt_L_13 5 rfl) ?_
  refine g_scrld C (dat dt_L_13 6 rfl) (scr_1 hL hL2) ?_
  refine g_cVi [.int (exs X (6 * n + 1))] C (dat dt_L_13 7 rfl) ml_L_156 (w_X10_image (exs X (6 * n + 1)) h (r, h1) e1) kd_0 ltk_0 rfl rfl cat0 (by decide) ⟨by omega, by omega⟩ ?_
  refine g_aload_n C (dat dt_L_13 8 rfl) 2 rfl ?_
  refine g_aload_n C (dat dt_L_13 9 rfl) 0 rfl ?_
  refine g_iload_n C (dat dt_L_13 10 rfl) 3 rfl ?_
  refine g_iconst C (dat dt_L_13 11 rfl) ic_1 ?_
  refine g_iadd C (dat dt_L_13 12 rfl) ?_
  refine g_scrld C (dat dt_L_13 13 rfl) (scr_1 hL hL2) ?_
  refine g_cVi [.int (exs X (6 * n + 1))] C (dat dt_L_13 14 rfl) ml_L_159 (w_X11_image (exs X (6 * n + 1)) h1 (r, h2) e2) kd_81 ltk_81 rfl rfl (Nat.le_of_ble_eq_true rfl) (by decide) ⟨by omega, by omega⟩ ?_
  refine g_ic_eq 1245 C (dat dt_L_13 15 rfl) (by decide) (fun _ => ?_) (fun c => absurd rfl c)
  refine g_widen (k' := 110 + 3 * n + 3) (n' := 40259 + 1604 * n + 1604) (by omega) (by omega) ?_
  exact next _ hI2
def Op_35 (I : Nat → Hp → Prop) : Prop := ∀ n h, I n h → n < 512 → ∀ x1 : Int32, ∃ r h1 h2, f_X10_back x1 h = some (r, h1) ∧ f_X11_back x1 h1 = some (r, h2) ∧ I (n + 1) h2
theorem lc_35 {X : Xt} (C : Cx X "SteamNationsLaw" code 4 (some .boolean) 200 600000 7302249) {I : Nat → Hp → Prop} (hO : Op_35 I) (n : Nat) (h : Hp) (hI : I n h) (hn : n < 512) (hL : 6 * n + 6 ≤ exL X) (hL2 : exL X ≤ 3072) (next : ∀ h2, I (n + 1) h2 → G X h2 (110 + 3 * n + 3) (40259 + 1604 * n + 1604) 1245 [(0, .ref 1000002), (1, .ref 0), (2, .ref 81), (3, .int (nI (6 * n)))] []) : G X h (110 + 3 * n) (40259 + 1604 * n) 1186 [(0, .ref 1000002), (1, .ref 0), (2, .ref 81), (3, .int (nI (6 * n)))] [] := by
  obtain ⟨r, h1, h2, e1, e2, hI2⟩ := hO n h hI hn (exs X (6 * n + 1))
  refine g_aload_n C (dat dt_L_13 18 rfl) 1 rfl ?_
  refine g_aload_n C (dat dt_L_13 19 rfl) 0 rfl ?_
  refine g_iload_n C (dat dt_L_13 20 rfl) 3 rfl ?_
  refine g_iconst C (dat dt_L_13 21 rfl) ic_1 ?_
  refine g_iadd C (dat dt_L_13 22 rfl) ?_
  refine g_scrld C (dat dt_L_13 23 rfl) (scr_1 hL hL2) ?_
  refine g_cVi [.int (exs X (6 * n + 1))] C (dat dt_L_13 24 rfl) ml_L_160 (w_X10_back (exs X (6 * n + 1)) h (r, h1) e1) kd_0 ltk_0 rfl rfl cat0 (by decide) ⟨by omega, by omega⟩ ?_
  refine g_aload_n C (dat dt_L_13 25 rfl) 2 rfl ?_
  refine g_aload_n C (dat dt_L_13 26 rfl) 0 rfl ?_
  refine g_iload_n C (dat dt_L_13 27 rfl) 3 rfl ?_
  refine g_iconst C (dat dt_L_13 28 rfl) ic_1 ?_
  refine g_iadd C (dat dt_L_13 29 rfl) ?_
  refine g_scrld C (dat dt_L_13 30 rfl) (scr_1 hL hL2) ?_
  refine g_cVi [.int (exs X (6 * n + 1))] C (dat dt_L_13 31 rfl) ml_L_163 (w_X11_back (exs X (6 * n + 1)) h1 (r, h2) e2) kd_81 ltk_81 rfl rfl (Nat.le_of_ble_eq_true rfl) (by decide) ⟨by omega, by omega⟩ ?_
  refine g_ic_eq 1245 C (dat dt_L_13 32 rfl) (by decide) (fun _ => ?_) (fun c => absurd rfl c)
  refine g_widen (k' := 110 + 3 * n + 3) (n' := 40259 + 1604 * n + 1604) (by omega) (by omega) ?_
  exact next _ hI2
def Op_36 (I : Nat → Hp → Prop) : Prop := ∀ n h, I n h → n < 512 → ∀ x1 : Int32, ∃ r, f_X10_count x1 h = some r ∧ f_X11_count x1 h = some r ∧ I (n + 1) h
theorem lc_36 {X : Xt} (C : Cx X "SteamNationsLaw" code 4 (some .boolean) 200 600000 7302249) {I : Nat → Hp → Prop} (hO : Op_36 I) (n : Nat) (h : Hp) (hI : I n h) (hn : n < 512) (hL : 6 * n + 6 ≤ exL X) (hL2 : exL X ≤ 3072) (next : ∀ h2, I (n + 1) h2 → G X h2 (110 + 3 * n + 3) (40259 + 1604 * n + 1604) 1245 [(0, .ref 1000002), (1, .ref 0), (2, .ref 81), (3, .int (nI (6 * n)))] []) : G X h (110 + 3 * n) (40259 + 1604 * n) 1209 [(0, .ref 1000002), (1, .ref 0), (2, .ref 81), (3, .int (nI (6 * n)))] [] := by
  obtain ⟨r, e1, e2, hI2⟩ := hO n h hI hn (exs X (6 * n + 1))
  refine g_aload_n C (dat dt_L_13 35 rfl) 1 rfl ?_
  refine g_aload_n C (dat dt_L_13 36 rfl) 0 rfl ?_
  refine g_iload_n C (dat dt_L_13 37 rfl) 3 rfl ?_
  refine g_iconst C (dat dt_L_13 38 rfl) ic_1 ?_
  refine g_iadd C (dat dt_L_13 39 rfl) ?_
  refine g_scrld C (dat dt_L_13 40 rfl) (scr_1 hL hL2) ?_
  refine g_cVi [.int (exs X (6 * n + 1))] C (dat dt_L_13 41 rfl) ml_L_164 (w_X10_count (exs X (6 * n + 1)) h r e1) kd_0 ltk_0 rfl rfl cat0 (by decide) ⟨by omega, by omega⟩ ?_
  refine g_aload_n C (dat dt_L_13 42 rfl) 2 rfl ?_
  refine g_aload_n C (dat dt_L_13 43 rfl) 0 rfl ?_
  refine g_iload_n C (dat dt_L_13 44 rfl) 3 rfl ?_
  refine g_iconst C (dat dt_L_13 45 rfl) ic_1 ?_
  refine g_iadd C (dat dt_L_13 46 rfl) ?_
  refine g_scrld C (dat dt_L_13 47 rfl) (scr_1 hL hL2) ?_
  refine g_cVi [.int (exs X (6 * n + 1))] C (dat dt_L_13 48 rfl) ml_L_167 (w_X11_count (exs X (6 * n + 1)) h r e2) kd_81 ltk_81 rfl rfl (Nat.le_of_ble_eq_true rfl) (by decide) ⟨by omega, by omega⟩ ?_
  refine g_ic_eq 1245 C (dat dt_L_13 49 rfl) (by decide) (fun _ => ?_) (fun c => absurd rfl c)
  refine g_widen (k' := 110 + 3 * n + 3) (n' := 40259 + 1604 * n + 1604) (by omega) (by omega) ?_
  exact next _ hI2
def Op_37 (I : Nat → Hp → Prop) : Prop := ∀ n h, I n h → n < 512 → ∃ r, f_X10_status  h = some r ∧ f_X11_status  h = some r ∧ I (n + 1) h
theorem lc_37 {X : Xt} (C : Cx X "SteamNationsLaw" code 4 (some .boolean) 200 600000 7302249) {I : Nat → Hp → Prop} (hO : Op_37 I) (n : Nat) (h : Hp) (hI : I n h) (hn : n < 512) (hL : 6 * n + 6 ≤ exL X) (hL2 : exL X ≤ 3072) (next : ∀ h2, I (n + 1) h2 → G X h2 (110 + 3 * n + 3) (40259 + 1604 * n + 1604) 1245 [(0, .ref 1000002), (1, .ref 0), (2, .ref 81), (3, .int (nI (6 * n)))] []) : G X h (110 + 3 * n) (40259 + 1604 * n) 1232 [(0, .ref 1000002), (1, .ref 0), (2, .ref 81), (3, .int (nI (6 * n)))] [] := by
  obtain ⟨r, e1, e2, hI2⟩ := hO n h hI hn 
  refine g_aload_n C (dat dt_L_13 52 rfl) 1 rfl ?_
  refine g_cVi [] C (dat dt_L_13 53 rfl) ml_L_168 (w_X10_status  h r e1) kd_0 ltk_0 rfl rfl cat0 (by decide) ⟨by omega, by omega⟩ ?_
  refine g_aload_n C (dat dt_L_13 54 rfl) 2 rfl ?_
  refine g_cVi [] C (dat dt_L_13 55 rfl) ml_L_171 (w_X11_status  h r e2) kd_81 ltk_81 rfl rfl (Nat.le_of_ble_eq_true rfl) (by decide) ⟨by omega, by omega⟩ ?_
  refine g_ic_eq 1245 C (dat dt_L_13 56 rfl) (by decide) (fun _ => ?_) (fun c => absurd rfl c)
  refine g_widen (k' := 110 + 3 * n + 3) (n' := 40259 + 1604 * n + 1604) (by omega) (by omega) ?_
  exact next _ hI2
def StepOK (I : Nat → Hp → Prop) : Prop := (∀ n h, I n h → I (n + 1) h) ∧ Op_0 I ∧ Op_1 I ∧ Op_2 I ∧ Op_3 I ∧ Op_4 I ∧ Op_5 I ∧ Op_6 I ∧ Op_7 I ∧ Op_8 I ∧ Op_9 I ∧ Op_10 I ∧ Op_11 I ∧ Op_12 I ∧ Op_13 I ∧ Op_14 I ∧ Op_15 I ∧ Op_16 I ∧ Op_17 I ∧ Op_18 I ∧ Op_19 I ∧ Op_20 I ∧ Op_21 I ∧ Op_22 I ∧ Op_23 I ∧ Op_24 I ∧ Op_25 I ∧ Op_26 I ∧ Op_27 I ∧ Op_28 I ∧ Op_29 I ∧ Op_30 I ∧ Op_31 I ∧ Op_32 I ∧ Op_33 I ∧ Op_34 I ∧ Op_35 I ∧ Op_36 I ∧ Op_37 I
set_option maxRecDepth 20000 in
theorem lc_sw {X : Xt} (C : Cx X "SteamNationsLaw" code 4 (some .boolean) 200 600000 7302249) {I : Nat → Hp → Prop} (hO : StepOK I) (n : Nat) (h : Hp) (hI : I n h) (hn : n < 512) (hL : 6 * n + 6 ≤ exL X) (hL2 : exL X ≤ 3072) (x : Int32) (next : ∀ h2, I (n + 1) h2 → G X h2 (110 + 3 * n + 3) (40259 + 1604 * n + 1604) 1245 [(0, .ref 1000002), (1, .ref 0), (2, .ref 81), (3, .int (nI (6 * n)))] []) : G X h (110 + 3 * n) (40259 + 1604 * n) 33 [(0, .ref 1000002), (1, .ref 0), (2, .ref 81), (3, .int (nI (6 * n)))] [.int x] := by
  by_cases c : x.toInt < (0 : Int) ∨ (37 : Int) < x.toInt
  · refine g_tabO 1245 C (dat dt_L_0 21 rfl) c (by decide) ?_
    refine g_widen (k' := 110 + 3 * n + 3) (n' := 40259 + 1604 * n + 1604) (by omega) (by omega) ?_
    exact next h (hO.1 n h hI)
  · obtain ⟨i, ei⟩ : ∃ z, z = (x.toInt - (0 : Int)).toNat := ⟨_, rfl⟩
    have hi : i < 38 := by omega
    match i, ei, hi with
    | 0, ei, _ =>
      refine g_tabI 200 C (dat dt_L_0 21 rfl) c ei rfl (by decide) ?_
      exact lc_0 C hO.2.1 n h hI hn hL hL2 next
    | 1, ei, _ =>
      refine g_tabI 253 C (dat dt_L_0 21 rfl) c ei rfl (by decide) ?_
      exact lc_1 C hO.2.2.1 n h hI hn hL hL2 next
    | 2, ei, _ =>
      refine g_tabI 286 C (dat dt_L_0 21 rfl) c ei rfl (by decide) ?_
      exact lc_2 C hO.2.2.2.1 n h hI hn hL hL2 next
    | 3, ei, _ =>
      refine g_tabI 309 C (dat dt_L_0 21 rfl) c ei rfl (by decide) ?_
      exact lc_3 C hO.2.2.2.2.1 n h hI hn hL hL2 next
    | 4, ei, _ =>
      refine g_tabI 342 C (dat dt_L_0 21 rfl) c ei rfl (by decide) ?_
      exact lc_4 C hO.2.2.2.2.2.1 n h hI hn hL hL2 next
    | 5, ei, _ =>
      refine g_tabI 375 C (dat dt_L_0 21 rfl) c ei rfl (by decide) ?_
      exact lc_5 C hO.2.2.2.2.2.2.1 n h hI hn hL hL2 next
    | 6, ei, _ =>
      refine g_tabI 438 C (dat dt_L_0 21 rfl) c ei rfl (by decide) ?_
      exact lc_6 C hO.2.2.2.2.2.2.2.1 n h hI hn hL hL2 next
    | 7, ei, _ =>
      refine g_tabI 461 C (dat dt_L_0 21 rfl) c ei rfl (by decide) ?_
      exact lc_7 C hO.2.2.2.2.2.2.2.2.1 n h hI hn hL hL2 next
    | 8, ei, _ =>
      refine g_tabI 474 C (dat dt_L_0 21 rfl) c ei rfl (by decide) ?_
      exact lc_8 C hO.2.2.2.2.2.2.2.2.2.1 n h hI hn hL hL2 next
    | 9, ei, _ =>
      refine g_tabI 487 C (dat dt_L_0 21 rfl) c ei rfl (by decide) ?_
      exact lc_9 C hO.2.2.2.2.2.2.2.2.2.2.1 n h hI hn hL hL2 next
    | 10, ei, _ =>
      refine g_tabI 500 C (dat dt_L_0 21 rfl) c ei rfl (by decide) ?_
      exact lc_10 C hO.2.2.2.2.2.2.2.2.2.2.2.1 n h hI hn hL hL2 next
    | 11, ei, _ =>
      refine g_tabI 513 C (dat dt_L_0 21 rfl) c ei rfl (by decide) ?_
      exact lc_11 C hO.2.2.2.2.2.2.2.2.2.2.2.2.1 n h hI hn hL hL2 next
    | 12, ei, _ =>
      refine g_tabI 526 C (dat dt_L_0 21 rfl) c ei rfl (by decide) ?_
      exact lc_12 C hO.2.2.2.2.2.2.2.2.2.2.2.2.2.1 n h hI hn hL hL2 next
    | 13, ei, _ =>
      refine g_tabI 539 C (dat dt_L_0 21 rfl) c ei rfl (by decide) ?_
      exact lc_13 C hO.2.2.2.2.2.2.2.2.2.2.2.2.2.2.1 n h hI hn hL hL2 next
    | 14, ei, _ =>
      refine g_tabI 562 C (dat dt_L_0 21 rfl) c ei rfl (by decide) ?_
      exact lc_14 C hO.2.2.2.2.2.2.2.2.2.2.2.2.2.2.2.1 n h hI hn hL hL2 next
    | 15, ei, _ =>
      refine g_tabI 595 C (dat dt_L_0 21 rfl) c ei rfl (by decide) ?_
      exact lc_15 C hO.2.2.2.2.2.2.2.2.2.2.2.2.2.2.2.2.1 n h hI hn hL hL2 next
    | 16, ei, _ =>
      refine g_tabI 618 C (dat dt_L_0 21 rfl) c ei rfl (by decide) ?_
      exact lc_16 C hO.2.2.2.2.2.2.2.2.2.2.2.2.2.2.2.2.2.1 n h hI hn hL hL2 next
    | 17, ei, _ =>
      refine g_tabI 651 C (dat dt_L_0 21 rfl) c ei rfl (by decide) ?_
      exact lc_17 C hO.2.2.2.2.2.2.2.2.2.2.2.2.2.2.2.2.2.2.1 n h hI hn hL hL2 next
    | 18, ei, _ =>
      refine g_tabI 664 C (dat dt_L_0 21 rfl) c ei rfl (by decide) ?_
      exact lc_18 C hO.2.2.2.2.2.2.2.2.2.2.2.2.2.2.2.2.2.2.2.1 n h hI hn hL hL2 next
    | 19, ei, _ =>
      refine g_tabI 677 C (dat dt_L_0 21 rfl) c ei rfl (by decide) ?_
      exact lc_19 C hO.2.2.2.2.2.2.2.2.2.2.2.2.2.2.2.2.2.2.2.2.1 n h hI hn hL hL2 next
    | 20, ei, _ =>
      refine g_tabI 720 C (dat dt_L_0 21 rfl) c ei rfl (by decide) ?_
      exact lc_20 C hO.2.2.2.2.2.2.2.2.2.2.2.2.2.2.2.2.2.2.2.2.2.1 n h hI hn hL hL2 next
    | 21, ei, _ =>
      refine g_tabI 753 C (dat dt_L_0 21 rfl) c ei rfl (by decide) ?_
      exact lc_21 C hO.2.2.2.2.2.2.2.2.2.2.2.2.2.2.2.2.2.2.2.2.2.2.1 n h hI hn hL hL2 next
    | 22, ei, _ =>
      refine g_tabI 766 C (dat dt_L_0 21 rfl) c ei rfl (by decide) ?_
      exact lc_22 C hO.2.2.2.2.2.2.2.2.2.2.2.2.2.2.2.2.2.2.2.2.2.2.2.1 n h hI hn hL hL2 next
    | 23, ei, _ =>
      refine g_tabI 799 C (dat dt_L_0 21 rfl) c ei rfl (by decide) ?_
      exact lc_23 C hO.2.2.2.2.2.2.2.2.2.2.2.2.2.2.2.2.2.2.2.2.2.2.2.2.1 n h hI hn hL hL2 next
    | 24, ei, _ =>
      refine g_tabI 832 C (dat dt_L_0 21 rfl) c ei rfl (by decide) ?_
      exact lc_24 C hO.2.2.2.2.2.2.2.2.2.2.2.2.2.2.2.2.2.2.2.2.2.2.2.2.2.1 n h hI hn hL hL2 next
    | 25, ei, _ =>
      refine g_tabI 875 C (dat dt_L_0 21 rfl) c ei rfl (by decide) ?_
      exact lc_25 C hO.2.2.2.2.2.2.2.2.2.2.2.2.2.2.2.2.2.2.2.2.2.2.2.2.2.2.1 n h hI hn hL hL2 next
    | 26, ei, _ =>
      refine g_tabI 888 C (dat dt_L_0 21 rfl) c ei rfl (by decide) ?_
      exact lc_26 C hO.2.2.2.2.2.2.2.2.2.2.2.2.2.2.2.2.2.2.2.2.2.2.2.2.2.2.2.1 n h hI hn hL hL2 next
    | 27, ei, _ =>
      refine g_tabI 921 C (dat dt_L_0 21 rfl) c ei rfl (by decide) ?_
      exact lc_27 C hO.2.2.2.2.2.2.2.2.2.2.2.2.2.2.2.2.2.2.2.2.2.2.2.2.2.2.2.2.1 n h hI hn hL hL2 next
    | 28, ei, _ =>
      refine g_tabI 954 C (dat dt_L_0 21 rfl) c ei rfl (by decide) ?_
      exact lc_28 C hO.2.2.2.2.2.2.2.2.2.2.2.2.2.2.2.2.2.2.2.2.2.2.2.2.2.2.2.2.2.1 n h hI hn hL hL2 next
    | 29, ei, _ =>
      refine g_tabI 987 C (dat dt_L_0 21 rfl) c ei rfl (by decide) ?_
      exact lc_29 C hO.2.2.2.2.2.2.2.2.2.2.2.2.2.2.2.2.2.2.2.2.2.2.2.2.2.2.2.2.2.2.1 n h hI hn hL hL2 next
    | 30, ei, _ =>
      refine g_tabI 1030 C (dat dt_L_0 21 rfl) c ei rfl (by decide) ?_
      exact lc_30 C hO.2.2.2.2.2.2.2.2.2.2.2.2.2.2.2.2.2.2.2.2.2.2.2.2.2.2.2.2.2.2.2.1 n h hI hn hL hL2 next
    | 31, ei, _ =>
      refine g_tabI 1064 C (dat dt_L_0 21 rfl) c ei rfl (by decide) ?_
      exact lc_31 C hO.2.2.2.2.2.2.2.2.2.2.2.2.2.2.2.2.2.2.2.2.2.2.2.2.2.2.2.2.2.2.2.2.1 n h hI hn hL hL2 next
    | 32, ei, _ =>
      refine g_tabI 1097 C (dat dt_L_0 21 rfl) c ei rfl (by decide) ?_
      exact lc_32 C hO.2.2.2.2.2.2.2.2.2.2.2.2.2.2.2.2.2.2.2.2.2.2.2.2.2.2.2.2.2.2.2.2.2.1 n h hI hn hL hL2 next
    | 33, ei, _ =>
      refine g_tabI 1130 C (dat dt_L_0 21 rfl) c ei rfl (by decide) ?_
      exact lc_33 C hO.2.2.2.2.2.2.2.2.2.2.2.2.2.2.2.2.2.2.2.2.2.2.2.2.2.2.2.2.2.2.2.2.2.2.1 n h hI hn hL hL2 next
    | 34, ei, _ =>
      refine g_tabI 1163 C (dat dt_L_0 21 rfl) c ei rfl (by decide) ?_
      exact lc_34 C hO.2.2.2.2.2.2.2.2.2.2.2.2.2.2.2.2.2.2.2.2.2.2.2.2.2.2.2.2.2.2.2.2.2.2.2.1 n h hI hn hL hL2 next
    | 35, ei, _ =>
      refine g_tabI 1186 C (dat dt_L_0 21 rfl) c ei rfl (by decide) ?_
      exact lc_35 C hO.2.2.2.2.2.2.2.2.2.2.2.2.2.2.2.2.2.2.2.2.2.2.2.2.2.2.2.2.2.2.2.2.2.2.2.2.1 n h hI hn hL hL2 next
    | 36, ei, _ =>
      refine g_tabI 1209 C (dat dt_L_0 21 rfl) c ei rfl (by decide) ?_
      exact lc_36 C hO.2.2.2.2.2.2.2.2.2.2.2.2.2.2.2.2.2.2.2.2.2.2.2.2.2.2.2.2.2.2.2.2.2.2.2.2.2.1 n h hI hn hL hL2 next
    | 37, ei, _ =>
      refine g_tabI 1232 C (dat dt_L_0 21 rfl) c ei rfl (by decide) ?_
      exact lc_37 C hO.2.2.2.2.2.2.2.2.2.2.2.2.2.2.2.2.2.2.2.2.2.2.2.2.2.2.2.2.2.2.2.2.2.2.2.2.2.2 n h hI hn hL hL2 next
    | z + 38, _, hi => exact absurd hi (by omega)
theorem lc_lv {n : Nat} : nI (6 * n) + (6 : Int32) = nI (6 * (n + 1)) := by rw [show ((6 : Int32)) = nI 6 from rfl, nI_add]; rfl
set_option maxRecDepth 20000 in
theorem law_loop {X : Xt} (C : Cx X "SteamNationsLaw" code 4 (some .boolean) 200 600000 7302249) {I : Nat → Hp → Prop} (hO : StepOK I) (hL2 : exL X ≤ 3072) (fin : ∀ h k n, k ≤ 600000 → n ≤ 7302249 → ∀ lv, G X h k n 1251 lv []) : ∀ (f n : Nat) (h : Hp), I n h → n ≤ 512 → exL X < 6 * n + 6 + 6 * f → G X h (110 + 3 * n) (40259 + 1604 * n) 18 [(0, .ref 1000002), (1, .ref 0), (2, .ref 81), (3, .int (nI (6 * n)))] []
  | f, n, h, hI, hn, hf => by
    refine g_iload_n C (dat dt_L_0 10 rfl) 3 rfl ?_
    refine g_aload_n C (dat dt_L_0 11 rfl) 0 rfl ?_
    refine g_scrlen C (dat dt_L_0 12 rfl) ?_
    refine g_bipush C (dat dt_L_0 13 rfl) bp_6 ?_
    refine g_isub C (dat dt_L_0 14 rfl) ?_
    have key : nI (exL X) - (6 : Int32) < nI (6 * n) ↔ exL X < 6 * n + 6 := by
      rw [show ((6 : Int32)) = nI 6 from rfl]
      by_cases h6 : 6 ≤ exL X
      · rw [pk_sub h6, nI_ltI (by omega) (by omega)]
        omega
      · have := pk_sneg (a := exL X) (b := 6) (by decide) (by omega)
        constructor
        · intro _; omega
        · intro _; exact fa_tr2 this (nI_pos' (by omega))
    refine g_ic_gt 1251 C (dat dt_L_0 15 rfl) (by decide) (fun c => ?_) (fun c => ?_)
    · exact fin h _ _ (by omega) (by omega) _
    · have hL : 6 * n + 6 ≤ exL X := by
        rcases Nat.lt_or_ge (exL X) (6 * n + 6) with q | q
        · exact absurd (key.mpr q) c
        · exact q
      have hn5 : n < 512 := by omega
      refine g_aload_n C (dat dt_L_0 16 rfl) 0 rfl ?_
      refine g_iload_n C (dat dt_L_0 17 rfl) 3 rfl ?_
      refine g_scrld C (dat dt_L_0 18 rfl) (scr_0 hL hL2) ?_
      refine g_bipush C (dat dt_L_0 19 rfl) bp_63 ?_
      refine g_iand C (dat dt_L_0 20 rfl) ?_
      refine lc_sw C hO n h hI hn5 hL hL2 _ (fun h2 hI2 => ?_)
      refine g_iinc (v := nI (6 * (n + 1))) (lv' := [(0, .ref 1000002), (1, .ref 0), (2, .ref 81), (3, .int (nI (6 * (n + 1))))]) C (dat dt_L_13 59 rfl) 3 rfl ((congrArg (fun z => nI (6 * n) + z) ic_6).trans lc_lv) (by decide) rfl ?_
      refine g_goto 18 C (dat dt_L_14 0 rfl) (by decide) ?_
      match f, hf with
      | 0, hf => exact absurd hf (by omega)
      | f + 1, hf =>
        have := law_loop C hO hL2 fin f (n + 1) h2 hI2 (by omega) (by omega)
        exact this
