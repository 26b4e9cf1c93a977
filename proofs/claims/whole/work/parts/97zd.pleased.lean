/-! ===== the seats by which most are pleased ===== -/
def ples (S : Sem) (K : Nat → Int32) (k n q : Nat) : Nat := cntN (plsb (kjq S K k q n)) k
theorem cntN_ag {f g : Nat → Bool} : ∀ n, (∀ i, i < n → f i = g i) → cntN f n = cntN g n
  | 0, _ => rfl
  | n + 1, h => by
    show cntN f n + (if f n = true then 1 else 0) = cntN g n + (if g n = true then 1 else 0)
    rw [cntN_ag n (fun i hi => h i (by omega)), h n (by omega)]
theorem ples_tr {S : Sem} {K : Nat → Int32} {k : Nat} (hk : k ≤ 6) (n q : Nat) : ples S (trK K) k n q = ples S K k n q := by
  unfold ples
  refine cntN_ag k (fun p hp => ?_)
  have ha := kjq_ag (S := S) (K := K) hk q n
  unfold plsb
  rw [nat3_ag ha (by omega), ha (25 + p) (by omega)]
theorem WF_tr {K : Nat → Int32} {k : Nat} (hw : WF K k) : WF (trK K) k := WF_ag hw (trK_AG K)
theorem MOb_tr {K : Nat → Int32} {b : Nat} (hm : MOb K b) : MOb (trK K) b := by
  obtain ⟨m, m1, m2⟩ := hm
  exact ⟨m, m1, by rw [trK_AG K 24 (by omega)]; exact m2⟩
theorem len_tr {K : Nat → Int32} {k : Nat} (hk : k ≤ 6) : (insL (trK K) k).length = (insL K k).length := by rw [insL_ag (trK_AG K) hk]
section PLS
variable {K : Nat → Int32} {k : Nat} {S : Sem} {h : Hp} {kn : Nat}
theorem kjq_hi (hw : WF K k) {q j i : Nat} (hi : 25 ≤ i) : kjq S K k q j i = K i := by
  unfold kjq
  rw [minN_hi hw.2.1 _ hi, seatK_o hw (by omega)]
theorem c_natIn (hc : CAv h K k S kn) (hw : WF K k) {q n p : Nat} (hq : q < fct (insL K k).length) (hn : n ≤ kn) (hkn : kn ≤ 9) (hp : p < k) : f_X7_nationIn (nI q) (nI n) (nI p) h = some (nI (nat3 (kjq S K k q n) p)) := by
  have h6 := hw.2.1
  have f7 := (fct_le _ (ins_le hw)).1
  have l1 := natRow_lt (kjq S K k q n) k
  have l2 := p4_le k h6
  unfold f_X7_nationIn
  rw [l10_, pk_mul, nI_add, if_neg (nI_pos (by omega)), if_neg (show ¬ (7200 : Int32) ≤ nI (q * 10 + n) from nI_ge (b := 7200) (by omega) (by omega)), inb_nI (show q * 10 + n < 7200 by omega) (by omega), Option.bind_some, Nat.mul_comm q 10, (hc.2.2.2 q hq).2 n hn]
  show some ((nI (natRow (kjq S K k q n) k) >>> ((2 : Int32) * nI p &&& 31)) &&& 3) = _
  rw [dg2 (by omega) (by omega), nr_dg _ h6 hp]
theorem c_cont (hc : CAv h K k S kn) (hR : RRh h 33 K) (hw : WF K k) {q n : Nat} (hq : q < fct (insL K k).length) (hn : n ≤ kn) (hkn : kn ≤ 9) : f_X7_contentedIn 33 (nI q) (nI n) h = some (nI (ples S K k n q)) := by
  have h6 := hw.2.1
  unfold f_X7_contentedIn
  have key := lp_fold (b := fun s => b_X7_contentedIn_6 33 (nI q) (nI n) s.1 s.2 h) (fun (a : Int32) i => a + nI (if plsb (kjq S K k q n) i = true then 1 else 0)) (fun a => a) k (nI 0) (by omega) ?_ ?_
  · rw [show (((0 : Int32), (0 : Int32))) = (nI 0, nI 0) from rfl, key, cnt_itr]
    rfl
  · intro i a hi
    show b_X7_contentedIn_6 33 (nI q) (nI n) a (nI i) h = _
    unfold b_X7_contentedIn_6
    rw [k_sn hR hw, if_neg (nI_ge hi (by omega)), c_natIn hc hw hq hn hkn hi, Option.bind_some, inb_nI (show i < 6 by omega) (by omega), Option.bind_some, hR.2.2.1 i (by omega)]
    unfold j_X7_contentedIn_40_6 f_X10_oneIf plsb
    rw [kjq_hi hw (show 25 ≤ 25 + i by omega)]
    by_cases c : nI (nat3 (kjq S K k q n) i) = K (25 + i)
    · rw [if_pos c, if_neg (by decide), decide_eq_true c]
      show some (Sum.inl (a + 1, nI i + 1)) = _
      rw [l1_, nI_add]; rfl
    · rw [if_neg c, if_pos rfl, decide_eq_false c]
      show some (Sum.inl (a + 0, nI i + 1)) = _
      rw [l1_, nI_add]; rfl
  · intro a
    show b_X7_contentedIn_6 33 (nI q) (nI n) a (nI k) h = _
    unfold b_X7_contentedIn_6
    rw [k_sn hR hw, if_pos (Int32.le_refl _)]
end PLS
/-! the most, and where it stands first -/
def mxP (P : Nat → Nat) : Nat → Nat
  | 0 => 0
  | q + 1 => if P q + 1 ≤ mxP P q then mxP P q else P q + 1
def bsP (P : Nat → Nat) : Nat → Nat
  | 0 => 0
  | q + 1 => if P q + 1 ≤ mxP P q then bsP P q else q
def mI (x : Nat) : Int32 := if x = 0 then -1 else nI (x - 1)
theorem mx_ok (P : Nat → Nat) : ∀ n, (∀ q, q < n → P q + 1 ≤ mxP P n) ∧ (0 < n → bsP P n < n ∧ P (bsP P n) + 1 = mxP P n ∧ ∀ q, q < bsP P n → P q + 1 < mxP P n)
  | 0 => ⟨fun q hq => absurd hq (Nat.not_lt_zero _), fun h => absurd h (Nat.lt_irrefl _)⟩
  | n + 1 => by
    obtain ⟨h1, h2⟩ := mx_ok P n
    unfold mxP bsP
    by_cases c : P n + 1 ≤ mxP P n
    · rw [if_pos c, if_pos c]
      have n0 : 0 < n := by
        cases n with
        | zero => exact absurd c (by show ¬ P 0 + 1 ≤ 0; omega)
        | succ m => omega
      obtain ⟨a1, a2, a3⟩ := h2 n0
      refine ⟨fun q hq => ?_, fun _ => ⟨by omega, a2, a3⟩⟩
      by_cases d : q = n
      · rw [d]; exact c
      · exact h1 q (by omega)
    · rw [if_neg c, if_neg c]
      refine ⟨fun q hq => ?_, fun _ => ⟨by omega, rfl, fun q hq => ?_⟩⟩
      · by_cases d : q = n
        · rw [d]; exact Nat.le_refl _
        · have := h1 q (by omega); omega
      · have := h1 q hq; omega
theorem mI_le {x p : Nat} (hx : x < 1000) (hp : p < 1000) : (nI p ≤ mI x) = (p + 1 ≤ x) := by
  unfold mI
  by_cases c : x = 0
  · rw [if_pos c]
    refine propext ⟨fun d => ?_, fun d => by omega⟩
    rw [Int32.le_iff_toInt_le, nI_toInt (by omega)] at d
    have : Int32.toInt (-1) = -1 := by decide
    omega
  · rw [if_neg c, nI_le6 (by omega) (by omega)]
    exact propext ⟨fun d => by omega, fun d => by omega⟩
theorem mI_ge {x p : Nat} (hx : x < 1000) (hp : p < 1000) : (mI x ≤ nI p) = (x ≤ p + 1) := by
  unfold mI
  by_cases c : x = 0
  · rw [if_pos c]
    refine propext ⟨fun d => by omega, fun d => ?_⟩
    rw [Int32.le_iff_toInt_le, nI_toInt (by omega)]
    have : Int32.toInt (-1) = -1 := by decide
    omega
  · rw [if_neg c, nI_le6 (by omega) (by omega)]
    exact propext ⟨fun d => by omega, fun d => by omega⟩
theorem mx_bd {P : Nat → Nat} {B : Nat} (hP : ∀ q, P q ≤ B) : ∀ n, mxP P n ≤ B + 1
  | 0 => Nat.zero_le _
  | n + 1 => by
    have := mx_bd hP n
    have := hP n
    unfold mxP
    split <;> omega
theorem ples_le (S : Sem) (K : Nat → Int32) (k n q : Nat) : ples S K k n q ≤ k := cntN_le _ _
section PL2
variable {K : Nat → Int32} {k : Nat} {S : Sem} {h : Hp} {kn : Nat}
theorem c_best (hc : CAv h K k S kn) (hR : RRh h 33 K) (hw : WF K k) {n : Nat} (hn : n ≤ kn) (hkn : kn ≤ 9) : f_X7_bestAt 33 (nI n) h = some (nI (bsP (ples S K k n) (fct (insL K k).length))) := by
  have h6 := hw.2.1
  have f7 := (fct_le _ (ins_le hw)).1
  have key := lp_run (b := fun s : Int32 × Int32 × Int32 => b_X7_bestAt_8 33 (nI n) s.1 s.2.1 s.2.2 h) (fun q => (nI (bsP (ples S K k n) q), mI (mxP (ples S K k n) q), nI q)) (fct (insL K k).length) (nI (bsP (ples S K k n) (fct (insL K k).length))) (by omega) ?_ ?_
  · unfold f_X7_bestAt
    have key' : lp (fun s : Int32 × Int32 × Int32 => b_X7_bestAt_8 33 (nI n) s.1 s.2.1 s.2.2 h) FU ((0 : Int32), (-1 : Int32), (0 : Int32)) = _ := key
    rw [key', Option.bind_some]
  · intro q hq
    have pl := ples_le S K k n q
    have mb := mx_bd (ples_le S K k n) q
    show b_X7_bestAt_8 33 (nI n) (nI (bsP (ples S K k n) q)) (mI (mxP (ples S K k n) q)) (nI q) h = _
    unfold b_X7_bestAt_8
    rw [hc.2.1, if_neg (nI_ge hq (by omega)), c_cont hc hR hw hq hn hkn, Option.bind_some]
    have le := mI_le (x := mxP (ples S K k n) q) (p := ples S K k n q) (by omega) (by omega)
    by_cases c : ples S K k n q + 1 ≤ mxP (ples S K k n) q
    · rw [if_pos (Eq.mpr le c), nI_1]
      show _ = some (Sum.inl (nI (if ples S K k n q + 1 ≤ mxP (ples S K k n) q then bsP (ples S K k n) q else q), mI (if ples S K k n q + 1 ≤ mxP (ples S K k n) q then mxP (ples S K k n) q else ples S K k n q + 1), nI (q + 1)))
      rw [if_pos c, if_pos c]
    · rw [if_neg (fun d => c (Eq.mp le d)), nI_1]
      show _ = some (Sum.inl (nI (if ples S K k n q + 1 ≤ mxP (ples S K k n) q then bsP (ples S K k n) q else q), mI (if ples S K k n q + 1 ≤ mxP (ples S K k n) q then mxP (ples S K k n) q else ples S K k n q + 1), nI (q + 1)))
      rw [if_neg c, if_neg c]
      rfl
  · show b_X7_bestAt_8 33 (nI n) _ _ (nI (fct (insL K k).length)) h = _
    unfold b_X7_bestAt_8
    rw [hc.2.1, if_pos (Int32.le_refl _)]
theorem sd_seat (hw : WF K k) {p : Nat} (hp : p < k) : (if nI (seatD K k p) = (15 : Int32) then (-1 : Int32) else nI (seatD K k p)) = K (18 + p) := by
  by_cases c : insb K p = true
  · obtain ⟨s1, s2⟩ := seat_of hw hp c
    have e : seatD K k p = seatN K p := by unfold seatD; exact if_pos ⟨hp, c⟩
    rw [e, if_neg (fun d => by have := (nI_eq (by omega) (by omega)).mp (show nI (seatN K p) = nI 15 from d); omega), s1]
  · have e : seatD K k p = 15 := by unfold seatD; exact if_neg (fun d => c d.2)
    rw [e, if_pos (show nI 15 = (15 : Int32) from rfl)]
    unfold insb at c
    have : K (18 + p) = -1 := by simpa using c
    exact this.symm
theorem c_sor {R : Nat} {p : Nat} (hw : WF K k) (hR : R = seatRow K k 6) (hp : p < k) : f_X7_seatOfRow (nI R) (nI p) = some (K (18 + p)) := by
  have h6 := hw.2.1
  have l1 := seatRow_lt hw 6
  have l2 := p16_le 6 (by omega)
  unfold f_X7_seatOfRow
  rw [hR, dg4 (by omega) (by omega), sr_dg hw (by omega), ← sd_seat hw hp]
  split <;> rfl
theorem c_seatIn (hc : CAv h K k S kn) (hw : WF K k) {q p : Nat} (hq : q < fct (insL K k).length) (hp : p < k) : f_X7_seatIn (nI q) (nI p) h = some (seatK K k q (18 + p)) := by
  have f7 := (fct_le _ (ins_le hw)).1
  unfold f_X7_seatIn f_X7_isSeating
  rw [if_neg (nI_pos (by omega)), hc.2.1, if_neg (nI_ge hq (by omega)), Option.bind_some, if_pos rfl, inb_nI (show q < 720 by omega) (by omega), Option.bind_some, (hc.2.2.2 q hq).1, c_sor (WF_seatK hw hq) rfl hp, Option.bind_some]
end PL2
/-! the reference's -/
def plsA (a : Nat) : Prop := 97 ≤ a ∧ a ≤ 103 ∨ a = 86 ∨ mA a
def plsF (a j : Nat) : Prop := tF a j ∨ a = 81 ∧ (j = 35 ∨ j = 36)
section MPL
variable {K : Nat → Int32} {k : Nat} {S : Sem}
/-- a seating played, and all as it was -/
theorem tk_seat (hw : WF K k) {g h' : Hp} {K2 : Nat → Int32} (e83 : aI g 83 = K2) (hK2 : ∀ i, 25 ≤ i → K2 i = K i) (e86 : ∀ i, i < 25 → aI g 86 i = K i) (ht : ∀ j, aI h' 83 j = if j < 25 then aI g 86 (25 * 0 + j) else aI g 83 j) : aI h' 83 = K := by
  funext i
  rw [ht i]
  by_cases c : i < 25
  · rw [if_pos c, show 25 * 0 + i = i by omega]; exact e86 i c
  · rw [if_neg c, e83]; exact hK2 i (by omega)
theorem m_laysP {h : Hp} (hS : semOK S) (hT : RT K S) (e83 : aI h 83 = K) (hw : WF K k) (hm : MOb K 999) {n : Nat} (hn : n ≤ 9) : ∃ h', f_X11_laysPleased (nI n) h = some (mI (mxP (ples S K k n) (fct (insL K k).length)), h') ∧ aI h' 83 = K ∧ HLD h' K k ∧ (∀ q, q < fct (insL K k).length → aI h' 99 q = nI (ples S K k n q)) ∧ (∀ i, i < 25 → aI h' 86 i = K i) ∧ Fr plsA plsF h h' := by
  have h6 := hw.2.1
  have m6 := ins_le hw
  have f7 := fct_le _ m6
  obtain ⟨g1, a1, a2, a3⟩ := m_hold e83 hw
  obtain ⟨g2, b1, b2, -, b4⟩ := m_aside (h := g1) (t := 0) (by omega)
  have g83 : aI g2 83 = K := by rw [b4.2.1 83 (by omega), a3.2.1 83 (by omega), e83]
  have F2 : Fr plsA plsF h g2 := Fr_tr (Fr_mono a3 (fun a c => by unfold plsA; omega) (fun a j c => by unfold plsF; omega)) (Fr_mono b4 (fun a c => by unfold plsA; omega) (fun _ _ c => c.elim))
  have H2 : HLD g2 K k := HLD_fr a2 b4 (by omega) (by omega) (fun c => c) (fun c => c)
  have E2 : ∀ i, i < 25 → aI g2 86 i = K i := fun i hi => by
    have := b2 i hi
    rw [show 25 * 0 + i = i by omega, a3.2.1 83 (by omega), e83] at this
    exact this
  have key := lp_inv (b := fun s : Int32 × Int32 × Hp => b_X11_laysPleased_13 (nI n) s.1 s.2.1 s.2.2) (fun q s => s.1 = mI (mxP (ples S K k n) q) ∧ s.2.1 = nI q ∧ aI s.2.2 83 = K ∧ HLD s.2.2 K k ∧ (∀ q', q' < q → aI s.2.2 99 q' = nI (ples S K k n q')) ∧ (∀ i, i < 25 → aI s.2.2 86 i = K i) ∧ Fr plsA plsF h s.2.2) (fun e => e.1 = mI (mxP (ples S K k n) (fct (insL K k).length)) ∧ aI e.2 83 = K ∧ HLD e.2 K k ∧ (∀ q, q < fct (insL K k).length → aI e.2 99 q = nI (ples S K k n q)) ∧ (∀ i, i < 25 → aI e.2 86 i = K i) ∧ Fr plsA plsF h e.2) (fct (insL K k).length) ((-1 : Int32), (0 : Int32), g2) (by omega) ⟨rfl, rfl, g83, H2, fun q hq => absurd hq (Nat.not_lt_zero _), E2, F2⟩ ?_ ?_
  · obtain ⟨e, k1, k2, k3⟩ := key
    refine ⟨e.2, ?_, k3⟩
    unfold f_X11_laysPleased
    rw [a1, Option.bind_some, show f_X11_laysAside (0 : Int32) g1 = some ((), g2) from b1, Option.bind_some, k1, Option.bind_some, k2]
  · rintro q ⟨s1, s2, s3⟩ hq ⟨q1, q2, q3, q4, q5, q6, q7⟩
    dsimp only at q1 q2 q3 q4 q5 q6 q7
    subst q1
    subst q2
    have wS := WF_seatK hw hq
    have hiS : ∀ i, 25 ≤ i → seatK K k q i = K i := fun i hi => seatK_o hw (by omega)
    have mS : MOb (seatK K k q) 999 := by
      obtain ⟨m, m1, m2⟩ := hm
      exact ⟨m, m1, by rw [seatK_o hw (by omega)]; exact m2⟩
    obtain ⟨r1, c1, c2, c3⟩ := m_seats q4 hw hq
    have r83 : aI r1 83 = seatK K k q := by rw [c2, q3]; rfl
    obtain ⟨r2, d1, d2, d3⟩ := m_play (K := seatK K k q) (K0 := K) (x := n) hS hT hiS r83 wS mS (by omega)
    have wN := WF_minN hS wS n
    obtain ⟨r3, e1, e2, e3⟩ := m_tbk (h := sA r2 99 q (nI (ples S K k n q))) (t := 0) (by omega)
    have z86 : ∀ i, i < 25 → aI (sA r2 99 q (nI (ples S K k n q))) 86 i = K i := fun i hi => by
      rw [ps_aAn _ _ _ _ _ (by omega), d3.2.1 86 (by unfold mA; omega), c3.2.1 86 (by omega)]; exact q6 i hi
    have r383 : aI r3 83 = K := tk_seat hw (g := sA r2 99 q (nI (ples S K k n q))) (K2 := minN S k n (seatK K k q)) (by rw [ps_aAn _ _ _ _ _ (by omega)]; exact d2) (fun i hi => by rw [minN_hi h6 _ hi]; exact hiS i hi) z86 e2
    have pl := ples_le S K k n q
    have mb := mx_bd (ples_le S K k n) q
    have ge := mI_ge (x := mxP (ples S K k n) q) (p := ples S K k n q) (by omega) (by omega)
    have gr : f_X11_greater (mI (mxP (ples S K k n) q)) (nI (ples S K k n q)) = some (mI (mxP (ples S K k n) (q + 1))) := by
      unfold f_X11_greater
      show _ = some (mI (if ples S K k n q + 1 ≤ mxP (ples S K k n) q then mxP (ples S K k n) q else ples S K k n q + 1))
      by_cases c : mxP (ples S K k n) q ≤ ples S K k n q + 1
      · rw [if_pos (Eq.mpr ge c)]
        by_cases d : ples S K k n q + 1 ≤ mxP (ples S K k n) q
        · rw [if_pos d]
          have : mxP (ples S K k n) q = ples S K k n q + 1 := by omega
          rw [this]
          rfl
        · rw [if_neg d]
          rfl
      · rw [if_neg (fun d => c (Eq.mp ge d)), if_pos (by omega)]
    refine Or.inl ⟨(mI (mxP (ples S K k n) (q + 1)), nI (q + 1), r3), ?_, rfl, rfl, r383, ?_, fun q' hq' => ?_, fun i hi => ?_, ?_⟩
    · show b_X11_laysPleased_13 (nI n) (mI (mxP (ples S K k n) q)) (nI q) s3 = _
      unfold b_X11_laysPleased_13
      rw [q4.2.1, if_neg (nI_ge hq (by omega)), c1, Option.bind_some, d1, Option.bind_some, m_pleasedMany (k := k) (by rw [d2]; exact wN), Option.bind_some, inb_nI (show q < 720 by omega) (by omega), Option.bind_some, Option.bind_some, d2]
      show ((f_X11_greater (mI (mxP (ples S K k n) q)) (aI (sA r2 99 q (nI (ples S K k n q))) 99 q)).bind _) = _
      rw [aI_s, gr, Option.bind_some]
      show ((f_X11_takesBack (0 : Int32) (sA r2 99 q (nI (ples S K k n q)))).bind _) = _
      rw [show f_X11_takesBack (0 : Int32) _ = some ((), r3) from e1, Option.bind_some, nI_1]
    · refine HLD_fr (HLD_fr (HLD_fr (HLD_fr q4 c3 (by omega) (by omega) (fun c => c) (fun c => c)) d3 (by unfold mA; omega) (by unfold mA; omega) (by unfold tF; omega) (by unfold tF; omega)) (Fr_sA (A := fun a => a = 99) (F := noF) rfl) (by omega) (by omega) (fun c => c) (fun c => c)) e3 (by omega) (by omega) (fun c => c) (fun c => c)
    · show aI r3 99 q' = _
      rw [e3.2.1 99 (by omega)]
      by_cases c : q' = q
      · rw [c, aI_s]
      · rw [aI_n c, d3.2.1 99 (by unfold mA; omega), c3.2.1 99 (by omega)]; exact q5 q' (by omega)
    · show aI r3 86 i = _
      rw [e3.2.1 86 (by omega)]; exact z86 i hi
    · refine Fr_tr (Fr_tA (Fr_tr (Fr_tr q7 (Fr_mono c3 ?_ ?_)) (Fr_mono d3 ?_ ?_)) ?_) (Fr_mono e3 ?_ ?_)
      · intro a c; unfold plsA mA; omega
      · intro a j c; exact c.elim
      · intro a c; exact Or.inr (Or.inr c)
      · intro a j c; exact Or.inl c
      · unfold plsA; omega
      · intro a c; unfold plsA mA; omega
      · intro a j c; exact c.elim
  · rintro ⟨s1, s2, s3⟩ ⟨q1, q2, q3, q4, q5, q6, q7⟩
    dsimp only at q1 q2 q3 q4 q5 q6 q7
    subst q1
    subst q2
    refine ⟨(mI (mxP (ples S K k n) (fct (insL K k).length)), s3), ?_, rfl, q3, q4, q5, q6, q7⟩
    show b_X11_laysPleased_13 (nI n) _ (nI (fct (insL K k).length)) s3 = _
    unfold b_X11_laysPleased_13
    rw [q4.2.1, if_pos (Int32.le_refl _)]
end MPL
