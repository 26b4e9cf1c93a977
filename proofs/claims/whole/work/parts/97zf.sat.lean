/-! ===== what was seen ===== -/
def sgP (K : Nat → Int32) (i : Nat) : Nat := (K (31 + 3 * i)).toNatClampNeg
def sgM (K : Nat → Int32) (i : Nat) : Nat := (K (31 + 3 * i + 1)).toNatClampNeg
def sgC (K : Nat → Int32) (i : Nat) : Nat := (K (31 + 3 * i + 2)).toNatClampNeg
theorem sg_ok {K : Nat → Int32} {k sm i : Nat} (hk : k ≤ 6) (hs : Sights K k sm) (hi : i < sm) : K (31 + 3 * i) = nI (sgP K i) ∧ K (31 + 3 * i + 1) = nI (sgM K i) ∧ K (31 + 3 * i + 2) = nI (sgC K i) ∧ sgP K i < k ∧ sgM K i ≤ 9 ∧ sgC K i < 3 := by
  obtain ⟨p, m, c, h1, h2, h3, h4, h5, h6⟩ := hs i hi
  unfold sgP sgM sgC
  rw [h4, h5, h6, nI_clamp (show p < 2 ^ 31 by omega), nI_clamp (show m < 2 ^ 31 by omega), nI_clamp (show c < 2 ^ 31 by omega)]
  exact ⟨rfl, rfl, rfl, h1, h2, h3⟩
/-- the q-th seating fits what was seen -/
def FB (S : Sem) (K : Nat → Int32) (k sm q : Nat) : Bool := decide (∀ i, i < sm → nat3 (kjq S K k q (sgM K i)) (sgP K i) = sgC K i)
theorem cnt_ex {f : Nat → Bool} {i : Nat} : ∀ N, i < cntN f N → ∃ q, q < N ∧ f q = true ∧ cntN f q = i
  | 0, h => absurd h (Nat.not_lt_zero _)
  | N + 1, h => by
    by_cases c : i < cntN f N
    · obtain ⟨q, h1, h2, h3⟩ := cnt_ex N c
      exact ⟨q, by omega, h2, h3⟩
    · have h' : i < cntN f N + (if f N = true then 1 else 0) := h
      by_cases d : f N = true
      · rw [if_pos d] at h'
        exact ⟨N, by omega, d, by omega⟩
      · rw [if_neg d] at h'
        omega
theorem cnt_lt {f : Nat → Bool} {q N : Nat} (hq : q < N) (hf : f q = true) : cntN f q < cntN f N := by
  have h1 := cntN_up f (a := q + 1) N (by omega)
  have h2 : cntN f (q + 1) = cntN f q + 1 := by
    show cntN f q + (if f q = true then 1 else 0) = _
    rw [if_pos hf]
  omega
theorem cnt_un {f : Nat → Bool} {q r : Nat} (h1 : f q = true) (h2 : f r = true) (e : cntN f q = cntN f r) : q = r := by
  rcases Nat.lt_trichotomy q r with c | c | c
  · have := cnt_lt c h1; omega
  · exact c
  · have := cnt_lt c h2; omega
section SAT
variable {K : Nat → Int32} {k : Nat} {S : Sem} {h : Hp} {kn sm : Nat}
/-- the class's house has these sights -/
def HSg (h : Hp) (K : Nat → Int32) (sm : Nat) : Prop := fI h 32 6 = nI sm ∧ ∀ i, i < 18 → aI h 39 i = K (31 + i)
theorem c_sg (hg : HSg h K sm) (hk : k ≤ 6) (hs : Sights K k sm) (hsm : sm ≤ 6) {i : Nat} (hi : i < sm) : f_X1_sightMinutes 32 (nI i) h = some (nI (sgM K i)) ∧ f_X1_sightSitter 32 (nI i) h = some (nI (sgP K i)) ∧ f_X1_sightNation 32 (nI i) h = some (nI (sgC K i)) := by
  obtain ⟨e1, e2, e3, -⟩ := sg_ok hk hs hi
  refine ⟨?_, ?_, ?_⟩
  · unfold f_X1_sightMinutes
    rw [l3_, pk_mul, nI_1, Nat.mul_comm i 3, inb_nI (show 3 * i + 1 < 18 by omega) (by omega), Option.bind_some]
    show some (aI h 39 (3 * i + 1)) = _
    rw [hg.2 _ (by omega), ← e2]
    rfl
  · unfold f_X1_sightSitter
    rw [l3_, pk_mul, Nat.mul_comm i 3, inb_nI (show 3 * i < 18 by omega) (by omega), Option.bind_some]
    show some (aI h 39 (3 * i)) = _
    rw [hg.2 _ (by omega), ← e1]
  · unfold f_X1_sightNation
    rw [l3_, pk_mul, l2_, nI_add, Nat.mul_comm i 3, inb_nI (show 3 * i + 2 < 18 by omega) (by omega), Option.bind_some]
    show some (aI h 39 (3 * i + 2)) = _
    rw [hg.2 _ (by omega), ← e3]
    rfl
theorem j_max_n {a b : Nat} (ha : a < 2 ^ 31) (hb : b < 2 ^ 31) : f_J9_max_7cf53 (nI a) (nI b) = some (nI (max a b)) := by
  unfold f_J9_max_7cf53
  by_cases c : a < b
  · rw [if_pos (nI_lt c hb), Nat.max_eq_right (by omega)]
  · rw [if_neg (nI_nlt (by omega) ha), Nat.max_eq_left (by omega)]
theorem m_gr_n {a b : Nat} (ha : a < 2 ^ 31) (hb : b < 2 ^ 31) : f_X11_greater (nI a) (nI b) = some (nI (max a b)) := by
  unfold f_X11_greater
  by_cases c : a ≤ b
  · rw [if_pos (nI_le c hb), Nat.max_eq_right c]
  · rw [if_neg (fun d => c (by rw [nI_le6 ha hb] at d; exact d)), Nat.max_eq_left (by omega)]
theorem c_latest (hg : HSg h K sm) (hk : k ≤ 6) (hs : Sights K k sm) (hsm : sm ≤ 6) : ∃ lt, f_X1_latestSight 32 h = some (nI lt) ∧ lt ≤ 9 ∧ ∀ i, i < sm → sgM K i ≤ lt := by
  have key := lp_inv (b := fun s : Int32 × Int32 => b_X1_latestSight_4 32 s.1 s.2 h) (fun i s => s.2 = nI i ∧ ∃ lt, s.1 = nI lt ∧ lt ≤ 9 ∧ ∀ j, j < i → sgM K j ≤ lt) (fun e => ∃ lt, e = nI lt ∧ lt ≤ 9 ∧ ∀ j, j < sm → sgM K j ≤ lt) sm ((0 : Int32), (0 : Int32)) (by omega) ⟨rfl, 0, rfl, by omega, fun j hj => absurd hj (Nat.not_lt_zero _)⟩ ?_ ?_
  · obtain ⟨e, k1, lt, k2, k3, k4⟩ := key
    refine ⟨lt, ?_, k3, k4⟩
    unfold f_X1_latestSight
    rw [k1, Option.bind_some, k2]
  · rintro i ⟨s1, s2⟩ hi ⟨q1, lt, q2, q3, q4⟩
    dsimp only at q1 q2
    subst q1
    subst q2
    obtain ⟨e1, -, -⟩ := c_sg hg hk hs hsm hi
    obtain ⟨-, -, -, -, m9, -⟩ := sg_ok hk hs hi
    refine Or.inl ⟨(nI (max lt (sgM K i)), nI (i + 1)), ?_, rfl, max lt (sgM K i), rfl, by omega, fun j hj => ?_⟩
    · show b_X1_latestSight_4 32 (nI lt) (nI i) h = _
      unfold b_X1_latestSight_4
      rw [hg.1, if_neg (nI_ge hi (by omega)), e1, Option.bind_some, j_max_n (by omega) (by omega), Option.bind_some, nI_1]
    · by_cases c : j = i
      · rw [c]; omega
      · have := q4 j (by omega); omega
  · rintro ⟨s1, s2⟩ ⟨q1, lt, q2, q3, q4⟩
    dsimp only at q1 q2
    subst q1
    refine ⟨s1, ?_, lt, q2, q3, q4⟩
    show b_X1_latestSight_4 32 s1 (nI sm) h = _
    unfold b_X1_latestSight_4
    rw [hg.1, if_pos (Int32.le_refl _)]
theorem c_natT (hc : CAv h (trK K) k S kn) (hw : WF K k) {q n p : Nat} (hq : q < fct (insL K k).length) (hn : n ≤ kn) (hkn : kn ≤ 9) (hp : p < k) : f_X7_nationIn (nI q) (nI n) (nI p) h = some (nI (nat3 (kjq S K k q n) p)) := by
  have h6 := hw.2.1
  rw [c_natIn hc (WF_tr hw) (by rw [len_tr h6]; exact hq) hn hkn hp, nat3_ag (kjq_ag h6 q n) (by omega)]
theorem c_fits (hc : CAv h (trK K) k S kn) (hw : WF K k) (hkn : kn ≤ 9) (hg : HSg h K sm) (hs : Sights K k sm) (hsm : sm ≤ 6) (hl : ∀ i, i < sm → sgM K i ≤ kn) {q : Nat} (hq : q < fct (insL K k).length) : f_X7_fits 32 (nI q) h = some (FB S K k sm q) := by
  have h6 := hw.2.1
  have key := lp_inv (b := fun s : Int32 => b_X7_fits_2 32 (nI q) s h) (fun i s => s = nI i ∧ ∀ j, j < i → nat3 (kjq S K k q (sgM K j)) (sgP K j) = sgC K j) (fun e => (e = .inl () ∧ FB S K k sm q = true) ∨ (e = .inr () ∧ FB S K k sm q = false)) sm (0 : Int32) (by omega) ⟨rfl, fun j hj => absurd hj (Nat.not_lt_zero _)⟩ ?_ ?_
  · obtain ⟨e, k1, k2⟩ := key
    unfold f_X7_fits
    rw [k1, Option.bind_some]
    rcases k2 with ⟨k2, k3⟩ | ⟨k2, k3⟩ <;> subst k2 <;> rw [k3] <;> rfl
  · rintro i s hi ⟨q1, q2⟩
    subst q1
    obtain ⟨e1, e2, e3⟩ := c_sg hg h6 hs hsm hi
    obtain ⟨-, -, -, p1, p2, p3⟩ := sg_ok h6 hs hi
    have n3 := nat3_lt (kjq S K k q (sgM K i)) (sgP K i)
    show (∃ s', b_X7_fits_2 32 (nI q) (nI i) h = _ ∧ _) ∨ (∃ e, b_X7_fits_2 32 (nI q) (nI i) h = _ ∧ _)
    unfold b_X7_fits_2
    rw [hg.1, if_neg (nI_ge hi (by omega)), e1, Option.bind_some, e2, Option.bind_some, c_natT hc hw hq (hl i hi) hkn p1, Option.bind_some, e3, Option.bind_some]
    by_cases c : nat3 (kjq S K k q (sgM K i)) (sgP K i) = sgC K i
    · rw [if_pos (by rw [c]), nI_1]
      refine Or.inl ⟨_, rfl, rfl, fun j hj => ?_⟩
      by_cases d : j = i
      · rw [d]; exact c
      · exact q2 j (by omega)
    · rw [if_neg (fun d => c ((nI_eq (by omega) (by omega)).mp d))]
      exact Or.inr ⟨.inr (), rfl, Or.inr ⟨rfl, decide_eq_false (fun d => c (d i hi))⟩⟩
  · rintro s ⟨q1, q2⟩
    subst q1
    refine ⟨.inl (), ?_, Or.inl ⟨rfl, decide_eq_true q2⟩⟩
    show b_X7_fits_2 32 (nI q) (nI sm) h = _
    unfold b_X7_fits_2
    rw [hg.1, if_pos (Int32.le_refl _)]
theorem c_count (hc : CAv h (trK K) k S kn) (hw : WF K k) (hkn : kn ≤ 9) (hg : HSg h K sm) (hs : Sights K k sm) (hsm : sm ≤ 6) (hl : ∀ i, i < sm → sgM K i ≤ kn) : f_X7_countSat 32 h = some (nI (cntN (FB S K k sm) (fct (insL K k).length))) := by
  have f7 := (fct_le _ (ins_le hw)).1
  have e10 : fI h 68 10 = nI (fct (insL K k).length) := by rw [hc.2.1, len_tr hw.2.1]
  unfold f_X7_countSat
  have key := lp_fold (b := fun s => b_X7_countSat_4 32 s.1 s.2 h) (fun (a : Int32) i => a + nI (if FB S K k sm i = true then 1 else 0)) (fun a => a) (fct (insL K k).length) (nI 0) (by omega) ?_ ?_
  · rw [show (((0 : Int32), (0 : Int32))) = (nI 0, nI 0) from rfl, key, cnt_itr]
    rfl
  · intro i a hi
    show b_X7_countSat_4 32 a (nI i) h = _
    unfold b_X7_countSat_4
    rw [e10, if_neg (nI_ge hi (by omega)), c_fits hc hw hkn hg hs hsm hl hi, Option.bind_some, one_if, Option.bind_some, nI_1]
    cases FB S K k sm i <;> rfl
  · intro a
    show b_X7_countSat_4 32 a (nI (fct (insL K k).length)) h = _
    unfold b_X7_countSat_4
    rw [e10, if_pos (Int32.le_refl _)]
theorem c_find (hc : CAv h (trK K) k S kn) (hw : WF K k) (hkn : kn ≤ 9) (hg : HSg h K sm) (hs : Sights K k sm) (hsm : sm ≤ 6) (hl : ∀ i, i < sm → sgM K i ≤ kn) (x : Int32) : (∃ q, q < fct (insL K k).length ∧ FB S K k sm q = true ∧ nI (cntN (FB S K k sm) q) = x ∧ f_X7_findSat 32 x h = some (nI q)) ∨ ((∀ q, q < fct (insL K k).length → FB S K k sm q = true → nI (cntN (FB S K k sm) q) ≠ x) ∧ f_X7_findSat 32 x h = some (-1)) := by
  have f7 := (fct_le _ (ins_le hw)).1
  have e10 : fI h 68 10 = nI (fct (insL K k).length) := by rw [hc.2.1, len_tr hw.2.1]
  have key := lp_inv (b := fun s : Int32 × Int32 => b_X7_findSat_5 32 x s.1 s.2 h) (fun q s => s.1 = nI (cntN (FB S K k sm) q) ∧ s.2 = nI q ∧ ∀ r, r < q → FB S K k sm r = true → nI (cntN (FB S K k sm) r) ≠ x) (fun e => (∃ q, q < fct (insL K k).length ∧ FB S K k sm q = true ∧ nI (cntN (FB S K k sm) q) = x ∧ e = .inr (nI q)) ∨ ((∀ q, q < fct (insL K k).length → FB S K k sm q = true → nI (cntN (FB S K k sm) q) ≠ x) ∧ e = .inl ())) (fct (insL K k).length) ((0 : Int32), (0 : Int32)) (by omega) ⟨rfl, rfl, fun r hr => absurd hr (Nat.not_lt_zero _)⟩ ?_ ?_
  · obtain ⟨e, k1, k2⟩ := key
    unfold f_X7_findSat
    rw [k1, Option.bind_some]
    rcases k2 with ⟨q, h1, h2, h3, h4⟩ | ⟨h1, h2⟩
    · subst h4
      exact Or.inl ⟨q, h1, h2, h3, rfl⟩
    · subst h2
      exact Or.inr ⟨h1, rfl⟩
  · rintro q ⟨s1, s2⟩ hq ⟨q1, q2, q3⟩
    dsimp only at q1 q2
    subst q1
    subst q2
    show (∃ s', b_X7_findSat_5 32 x (nI (cntN (FB S K k sm) q)) (nI q) h = _ ∧ _) ∨ (∃ e, b_X7_findSat_5 32 x (nI (cntN (FB S K k sm) q)) (nI q) h = _ ∧ _)
    unfold b_X7_findSat_5
    rw [e10, if_neg (nI_ge hq (by omega)), c_fits hc hw hkn hg hs hsm hl hq, Option.bind_some]
    by_cases c : FB S K k sm q = true
    · have e1 : cntN (FB S K k sm) (q + 1) = cntN (FB S K k sm) q + 1 := by
        show cntN (FB S K k sm) q + (if FB S K k sm q = true then 1 else 0) = _
        rw [if_pos c]
      rw [if_pos c]
      by_cases d : nI (cntN (FB S K k sm) q) = x
      · rw [if_pos d]
        exact Or.inr ⟨.inr (nI q), rfl, Or.inl ⟨q, hq, c, d, rfl⟩⟩
      · rw [if_neg d, nI_1, nI_1]
        refine Or.inl ⟨_, rfl, by rw [e1], rfl, fun r hr hf => ?_⟩
        by_cases z : r = q
        · rw [z]; exact d
        · exact q3 r (by omega) hf
    · have e1 : cntN (FB S K k sm) (q + 1) = cntN (FB S K k sm) q := by
        show cntN (FB S K k sm) q + (if FB S K k sm q = true then 1 else 0) = _
        rw [if_neg c]
        rfl
      rw [if_neg c, nI_1]
      refine Or.inl ⟨_, rfl, by rw [e1], rfl, fun r hr hf => ?_⟩
      by_cases z : r = q
      · rw [z] at hf; exact absurd hf c
      · exact q3 r (by omega) hf
  · rintro ⟨s1, s2⟩ ⟨q1, q2, q3⟩
    dsimp only at q1 q2
    subst q1
    subst q2
    refine ⟨.inl (), ?_, Or.inr ⟨q3, rfl⟩⟩
    show b_X7_findSat_5 32 x _ (nI (fct (insL K k).length)) h = _
    unfold b_X7_findSat_5
    rw [e10, if_pos (Int32.le_refl _)]
/-- how many fit and make p the nation c -/
def alk (S : Sem) (K : Nat → Int32) (k sm n p c N : Nat) : Nat := cntN (fun q => decide (nat3 (kjq S K k q n) p = c) && FB S K k sm q) N
theorem alk_s (S : Sem) (K : Nat → Int32) (k sm n p c N : Nat) : alk S K k sm n p c (N + 1) = alk S K k sm n p c N + (if nat3 (kjq S K k N n) p = c ∧ FB S K k sm N = true then 1 else 0) := by
  show cntN _ N + (if (decide (nat3 (kjq S K k N n) p = c) && FB S K k sm N) = true then 1 else 0) = _
  congr 1
  by_cases d : nat3 (kjq S K k N n) p = c ∧ FB S K k sm N = true
  · rw [if_pos d, if_pos (by rw [decide_eq_true d.1, d.2]; rfl)]
  · rw [if_neg d, if_neg (fun e => d (by simpa using e))]
def AL (S : Sem) (K : Nat → Int32) (k sm n p : Nat) : Nat := max (alk S K k sm n p 0 (fct (insL K k).length)) (max (alk S K k sm n p 1 (fct (insL K k).length)) (alk S K k sm n p 2 (fct (insL K k).length)))
theorem alk_le (S : Sem) (K : Nat → Int32) (k sm n p c N : Nat) : alk S K k sm n p c N ≤ N := cntN_le _ _
theorem c_alike (hc : CAv h (trK K) k S kn) (hw : WF K k) (hkn : kn ≤ 9) (hg : HSg h K sm) (hs : Sights K k sm) (hsm : sm ≤ 6) (hl : ∀ i, i < sm → sgM K i ≤ kn) {n p : Nat} (hn : n ≤ kn) (hp : p < k) : ∃ h', f_X7_mostAlike 32 (nI p) (nI n) h = some (nI (AL S K k sm n p), h') ∧ Fr (fun a => a = 80) noF h h' := by
  have f7 := (fct_le _ (ins_le hw)).1
  have h6 := hw.2.1
  obtain ⟨g1, a1, a2, a3⟩ := fill_ok (a := 80) (n := 3) (x := 0) (h := h) (by omega)
  have key := lp_inv (b := fun s : Int32 × Hp => b_X7_mostAlike_11 32 (nI p) (nI n) s.1 s.2) (fun q s => s.1 = nI q ∧ (∀ c, c < 3 → aI s.2 80 c = nI (alk S K k sm n p c q)) ∧ Fr (fun a => a = 80) noF h s.2) (fun e => (∀ c, c < 3 → aI e 80 c = nI (alk S K k sm n p c (fct (insL K k).length))) ∧ Fr (fun a => a = 80) noF h e) (fct (insL K k).length) ((0 : Int32), g1) (by omega) ⟨rfl, fun c hc => a2 c hc, a3⟩ ?_ ?_
  · obtain ⟨e, k1, k2, k3⟩ := key
    have l0 := alk_le S K k sm n p 0 (fct (insL K k).length)
    have l1 := alk_le S K k sm n p 1 (fct (insL K k).length)
    have l2 := alk_le S K k sm n p 2 (fct (insL K k).length)
    refine ⟨e, ?_, k3⟩
    unfold f_X7_mostAlike
    rw [a1, Option.bind_some, k1, Option.bind_some, k2 0 (by omega), k2 1 (by omega), k2 2 (by omega), j_max_n (by omega) (by omega), Option.bind_some, j_max_n (by omega) (by omega), Option.bind_some]
    rfl
  · rintro q ⟨s1, s2⟩ hq ⟨q1, q2, q3⟩
    dsimp only at q1 q2 q3
    subst q1
    have hcS : CAv s2 (trK K) k S kn := by
      obtain ⟨v1, v2, v3, v4⟩ := hc
      exact ⟨by rw [q3.1 _ _ (fun c => c)]; exact v1, by rw [q3.1 _ _ (fun c => c)]; exact v2, by rw [q3.2.1 78 (by omega)]; exact v3, by rw [q3.2.1 74 (by omega), q3.2.1 75 (by omega)]; exact v4⟩
    have hgS : HSg s2 K sm := ⟨by rw [q3.1 _ _ (fun c => c)]; exact hg.1, by rw [q3.2.1 39 (by omega)]; exact hg.2⟩
    have e10 : fI s2 68 10 = nI (fct (insL K k).length) := by rw [hcS.2.1, len_tr hw.2.1]
    have n3 := nat3_lt (kjq S K k q n) p
    refine Or.inl ?_
    show ∃ s', b_X7_mostAlike_11 32 (nI p) (nI n) (nI q) s2 = _ ∧ _
    unfold b_X7_mostAlike_11
    rw [e10, if_neg (nI_ge hq (by omega)), c_natT hcS hw hq hn hkn hp, Option.bind_some, if_neg (nI_pos (by omega)), if_neg (show ¬ (3 : Int32) ≤ nI (nat3 (kjq S K k q n) p) from nI_ge (b := 3) n3 (by omega)), c_fits hcS hw hkn hgS hs hsm hl hq, Option.bind_some]
    by_cases c : FB S K k sm q = true
    · rw [if_pos c, inb_nI n3 (by omega), Option.bind_some, Option.bind_some, nI_1, q2 _ n3, nI_1]
      refine ⟨_, rfl, rfl, fun c' hc' => ?_, Fr_tA q3 rfl⟩
      show aI (sA s2 80 _ _) 80 c' = _
      rw [alk_s]
      by_cases d : c' = nat3 (kjq S K k q n) p
      · rw [d, aI_s, if_pos ⟨rfl, c⟩]
      · rw [aI_n d, if_neg (fun e => d e.1.symm), Nat.add_zero]; exact q2 c' hc'
    · rw [if_neg c, nI_1]
      refine ⟨_, rfl, rfl, fun c' hc' => ?_, q3⟩
      rw [alk_s, if_neg (fun e => c e.2), Nat.add_zero]
      exact q2 c' hc'
  · rintro ⟨s1, s2⟩ ⟨q1, q2, q3⟩
    dsimp only at q1 q2 q3
    subst q1
    refine ⟨s2, ?_, q2, q3⟩
    show b_X7_mostAlike_11 32 (nI p) (nI n) (nI (fct (insL K k).length)) s2 = _
    unfold b_X7_mostAlike_11
    rw [q3.1 _ _ (fun c => c), hc.2.1, len_tr hw.2.1, if_pos (Int32.le_refl _)]
end SAT
