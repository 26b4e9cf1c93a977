/-! ===== what holds between two calls ===== -/
/-- the laws of a house: tokens, clauses, steps, code, marks, meaning -/
abbrev LDt : Type := Nat → Tok × Nat × Nat × (Nat → Int32) × (Nat → Int32) × DLs
def ldT (L : LDt) (t : Nat) : Tok := (L t).1
def ldN (L : LDt) (t : Nat) : Nat := (L t).2.1
def ldS (L : LDt) (t : Nat) : Nat := (L t).2.2.1
def ldC (L : LDt) (t : Nat) : Nat → Int32 := (L t).2.2.2.1
def ldM (L : LDt) (t : Nat) : Nat → Int32 := (L t).2.2.2.2.1
def ldD (L : LDt) (t : Nat) : DLs := (L t).2.2.2.2.2
def ldSem (L : LDt) (t : Nat) : Sem := semL (ldD L t) (ldN L t)
/-- what does not hang on a heap -/
def LawP (L : LDt) (t : Nat) : Prop := TF (ldT L t) ∧ 0 < ldN L t ∧ ldN L t ≤ 12 ∧ ClD (ldT L t) (CdL (ldT L t)) (ldC L t) (ldM L t) (ldD L t) (ldN L t) (tN (ldT L t) + 1) (ldS L t)
def LawH (h : Hp) (hs : Nat) (L : LDt) (t : Nat) : Prop := ∃ a, aO h (hs + 6) t = some a ∧ TxI h a (ldN L t) (ldS L t) (ldC L t) (ldM L t)
def Sights (K : Nat → Int32) (k sm : Nat) : Prop := ∀ i, i < sm → ∃ p m c, p < k ∧ m ≤ 9 ∧ c < 3 ∧ K (31 + 3 * i) = nI p ∧ K (31 + 3 * i + 1) = nI m ∧ K (31 + 3 * i + 2) = nI c
/-- what K keeps is as it can be -/
def KOK (K : Nat → Int32) (k sm lc : Nat) (L : LDt) : Prop := WF K k ∧ MOb K 999 ∧ sm ≤ 6 ∧ K 52 = nI sm ∧ Sights K k sm ∧ lc ≤ 6 ∧ K 53 = nI lc ∧ (∀ t, t < lc → LawP L t ∧ Laid (ldT L t) K t) ∧ (K 54 = -1 ∨ ∃ f, f < lc ∧ K 54 = nI f)
/-- the house hs of the class's is K -/
def HR (h : Hp) (hs : Nat) (K : Nat → Int32) (sm lc : Nat) (L : LDt) : Prop := RRh h (hs + 1) K ∧ fI h hs 6 = nI sm ∧ (∀ i, i < 18 → aI h (hs + 7) i = K (31 + i)) ∧ fI h hs 3 = nI lc ∧ (∀ t, t < lc → LawH h hs L t) ∧ (∀ t, lc ≤ t → t < 6 → aO h (hs + 6) t = none) ∧ fI h hs 4 = K 54
def kI (h : Hp) (j : Nat) : Nat → Int32 := fun i => aI h 84 (5662 * j + i)
def IMG (h : Hp) : Prop := ∀ j, j < 2 → (aI h 2 j = 0 ∧ aI h 85 j = 0) ∨ (aI h 2 j = 1 ∧ aI h 85 j = 1 ∧ ∃ k sm lc L, KOK (kI h j) k sm lc L ∧ HR h (40 + 8 * j) (kI h j) sm lc L)
def TAP (h : Hp) : Prop := ∃ (tl : Nat) (bt : Nat → Nat), tl ≤ 400 ∧ fI h 0 16 = nI tl ∧ fI h 81 13 = nI tl ∧ (∀ i, bt i < 256) ∧ (∀ i, i < tl → aI h 3 i = nI (bt i) ∧ aI h 88 i = sb (bt i))
def MIS (h : Hp) : Prop := fI h 0 17 = fI h 81 14 ∧ fI h 0 18 = fI h 81 6 ∧ fI h 0 19 = fI h 81 0 ∧ fI h 60 6 = fI h 81 46 ∧ ∀ i, i < 7 → aI h 25 i = aI h 82 i
/-- K with another moved part -/
def mvK (K R : Nat → Int32) : Nat → Int32 := fun i => if i < 25 then R i else K i
/-- move e of u, kept in the class's ring behind nx -/
def rg (nx u e : Nat) : Nat := 26 * ((nx + 16 - u + e) % 16)
def PAS (h : Hp) (K : Nat → Int32) (k : Nat) : Prop := ∃ nx u, nx < 16 ∧ u ≤ 16 ∧ fI h 10 1 = nI nx ∧ fI h 10 2 = nI u ∧ fI h 81 32 = nI u ∧ ∀ e, e < u → (∃ d, d < 4 ∧ aI h 11 (rg nx u e) = nI d ∧ aI h 95 (26 * e + 25) = nI d) ∧ aI h 11 (rg nx u e + 1) = aI h 95 (26 * e + 24) ∧ (∀ j, j < 6 → aI h 11 (rg nx u e + 2 + j) = aI h 95 (26 * e + 18 + j)) ∧ (∀ j, j < 18 → aI h 11 (rg nx u e + 8 + j) = aI h 95 (26 * e + j)) ∧ WF (mvK K (fun i => aI h 95 (26 * e + i))) k ∧ MOb (fun i => aI h 95 (26 * e + i)) 999
def DRW (h : Hp) : Prop := (fI h 17 0 = 0 ∧ fI h 81 54 = -1) ∨ ∃ d, 0 < d ∧ d ≤ 6 ∧ fI h 17 0 = nI d ∧ fI h 81 54 = nI d ∧ (∀ i, i < 18 → aI h 18 i = aI h 109 i) ∧ (∀ i, i < 6 → aI h 20 i = aI h 109 (18 + i))
def CON (h : Hp) (n : Nat) : Prop := (∃ m, m ≤ n ∧ sz h = 110 + 3 * m) ∧ (∀ k, k < 144 → aI h 87 k = nI (rlN k)) ∧ fI h 26 2 = 0 ∧ fI h 26 3 = 0 ∧ ln h 27 = 0 ∧ ln h 28 = 0 ∧ aO h 1 0 = some 40 ∧ aO h 1 1 = some 48
/-- all that a seating, a minute can hang on -/
def trK (K : Nat → Int32) : Nat → Int32 := fun i => if i ≤ 30 ∨ 49 ≤ i ∧ i ≤ 51 then K i else 0
/-- the law in force -/
def SF (K : Nat → Int32) (L : LDt) : Sem := if K 54 = -1 then S0 else ldSem L (K 54).toNatClampNeg
def insL (K : Nat → Int32) (k : Nat) : List Nat := (List.range k).filter (fun p => insb K p)
def plL (K : Nat → Int32) (k : Nat) : List Nat := (List.range 9).filter (fun s => (whoS K k s).isSome)
def fct : Nat → Nat
  | 0 => 1
  | n + 1 => (n + 1) * fct n
/-- the q-th order of m: what stands at place i -/
def decL : Nat → Nat → List Nat → List Nat
  | 0, _, _ => []
  | m + 1, q, l => l.getD (q / fct m) 0 :: decL m (q % fct m) (l.eraseIdx (q / fct m))
def dec (m q i : Nat) : Nat := (decL m q (List.range m)).getD i 0
/-- seats I given the values V -/
def sw (I : List Nat) (V : Nat → Int32) (n : Nat) (K : Nat → Int32) : Nat → Int32 := itr (fun K i => upd K (18 + I.getD i 0) (V i)) n 0 K
/-- what the q-th seating gives to the i-th who is inside -/
def stV (K : Nat → Int32) (k q i : Nat) : Int32 := nI ((plL K k).getD (dec (insL K k).length q i) 0)
/-- K with the q-th seating -/
def seatK (K : Nat → Int32) (k q : Nat) : Nat → Int32 := sw (insL K k) (stV K k q) (insL K k).length K
def minN (S : Sem) (k : Nat) : Nat → (Nat → Int32) → Nat → Int32
  | 0, K => K
  | j + 1, K => minK S k (minN S k j K)
def natRow (K : Nat → Int32) : Nat → Nat
  | 0 => 0
  | p + 1 => natRow K p + nat3 K p * 4 ^ p
def seatD (K : Nat → Int32) (k p : Nat) : Nat := if p < k ∧ insb K p = true then seatN K p else 15
def seatRow (K : Nat → Int32) (k : Nat) : Nat → Nat
  | 0 => 0
  | p + 1 => seatRow K k p + seatD K k p * 16 ^ p
/-- the seatings that are known hold on for kn minutes -/
def CAv (h : Hp) (K : Nat → Int32) (k : Nat) (S : Sem) (kn : Nat) : Prop := fI h 68 9 = nI (insL K k).length ∧ fI h 68 10 = nI (fct (insL K k).length) ∧ (∀ i, i < (insL K k).length → aI h 78 i = nI ((insL K k).getD i 0)) ∧ ∀ q, q < fct (insL K k).length → aI h 74 q = nI (seatRow (seatK K k q) k 6) ∧ ∀ j, j ≤ kn → aI h 75 (10 * q + j) = nI (natRow (minN S k j (seatK K k q)) k)
def CAC (h : Hp) (K : Nat → Int32) (k : Nat) (S : Sem) : Prop := fI h 68 11 = -1 ∨ ∃ kn, kn ≤ 9 ∧ fI h 68 11 = nI kn ∧ CAv h (trK K) k S kn
def INV (n : Nat) (h : Hp) : Prop := ∃ k sm lc L, KOK (aI h 83) k sm lc L ∧ HR h 32 (aI h 83) sm lc L ∧ CAC h (aI h 83) k (SF (aI h 83) L) ∧ IMG h ∧ TAP h ∧ MIS h ∧ PAS h (aI h 83) k ∧ DRW h ∧ CON h n
/-! ===== calls that leave it all as it is ===== -/
/-- texts stay as they are -/
def KpT (h h' : Hp) : Prop := (∀ a k, 110 ≤ a → a < sz h → fI h' a k = fI h a k) ∧ (∀ a, 110 ≤ a → a < sz h → aI h' a = aI h a) ∧ (∀ a, a < sz h → ln h' a = ln h a) ∧ sz h ≤ sz h'
theorem TxI_kp {h h' : Hp} {a n s : Nat} {c mk : Nat → Int32} (ht : TxI h a n s c mk) (ha : 110 ≤ a) (hk : KpT h h') : TxI h' a n s c mk := by
  have htg := ht.2.1
  unfold tg at htg
  have h2 : a + 2 < sz h := by
    simp only [Bool.and_eq_true, decide_eq_true_eq] at htg
    exact htg.2
  refine TxI_same ht ⟨hk.1 _ _ ha (by omega), hk.1 _ _ ha (by omega), hk.2.1 _ (by omega) (by omega), hk.2.1 _ (by omega) (by omega), hk.2.2.1 _ (by omega), hk.2.2.1 _ (by omega), ?_⟩
  unfold tg
  simp only [Bool.and_eq_true, decide_eq_true_eq] at htg ⊢
  exact ⟨htg.1, by have := hk.2.2.2; omega⟩
/-- text 26 is that of no law -/
theorem tx26 {h : Hp} {a n s : Nat} {c mk : Nat → Int32} (ht : TxI h a n s c mk) (hn : 0 < n) (h28 : ln h 28 = 0) : 110 ≤ a := by
  rcases ht.1 with e | e
  · have h1 : ln h 28 = 6 * n := by
      have := ht.2.2.2.2.2.2.1
      rw [e] at this
      exact this
    omega
  · exact e
theorem HR_kp {h h' : Hp} {hs : Nat} {K : Nat → Int32} {sm lc : Nat} {L : LDt} (hh : HR h hs K sm lc L) (hL : ∀ t, t < lc → 0 < ldN L t) (h28 : ln h 28 = 0) (hk : KpT h h') (f3 : fI h' hs 3 = fI h hs 3) (f4 : fI h' hs 4 = fI h hs 4) (f6 : fI h' hs 6 = fI h hs 6) (f0 : fI h' (hs + 1) 0 = fI h (hs + 1) 0) (a2 : aI h' (hs + 2) = aI h (hs + 2)) (a3 : aI h' (hs + 3) = aI h (hs + 3)) (a4 : aI h' (hs + 4) = aI h (hs + 4)) (a5 : aI h' (hs + 5) = aI h (hs + 5)) (a7 : aI h' (hs + 7) = aI h (hs + 7)) (o6 : aO h' (hs + 6) = aO h (hs + 6)) : HR h' hs K sm lc L := by
  obtain ⟨r1, r2, r3, r4, r5, r6, r7⟩ := hh
  refine ⟨?_, by rw [f6]; exact r2, by rw [a7]; exact r3, by rw [f3]; exact r4, fun t ht => ?_, by rw [o6]; exact r6, by rw [f4]; exact r7⟩
  · unfold RRh at r1 ⊢
    rw [f0, show hs + 1 + 1 = hs + 2 by omega, show hs + 1 + 2 = hs + 3 by omega, show hs + 1 + 3 = hs + 4 by omega, show hs + 1 + 4 = hs + 5 by omega, a2, a3, a4, a5]
    exact r1
  · obtain ⟨a, e1, e2⟩ := r5 t ht
    exact ⟨a, by rw [o6]; exact e1, TxI_kp e2 (tx26 e2 (hL t ht) h28) hk⟩
def scA (a : Nat) : Prop := 5 ≤ a ∧ a ≤ 9 ∨ 13 ≤ a ∧ a ≤ 16 ∨ 22 ≤ a ∧ a ≤ 24 ∨ a = 30 ∨ a = 31 ∨ a = 57 ∨ a = 58 ∨ 62 ≤ a ∧ a ≤ 65 ∨ a = 67 ∨ 70 ≤ a ∧ a ≤ 73 ∨ a = 76 ∨ a = 77 ∨ a = 79 ∨ a = 80 ∨ a = 86 ∨ 89 ≤ a ∧ a ≤ 94 ∨ 96 ≤ a ∧ a ≤ 108
def scF (a k : Nat) : Prop := a = 4 ∨ a = 12 ∨ a = 60 ∧ k ≤ 5 ∨ a = 61 ∨ a = 66 ∨ a = 69 ∨ a = 81 ∧ (8 ≤ k ∧ k ≤ 10 ∨ 18 ≤ k ∧ k ≤ 25 ∨ k = 27 ∨ k = 28 ∨ k = 35 ∨ k = 36 ∨ 47 ≤ k ∧ k ≤ 51 ∨ k = 55)
theorem Fr_kp {h h' : Hp} (hf : Fr scA scF h h') : KpT h h' := ⟨fun a k h1 _ => hf.1 a k (by unfold scF; omega), fun a h1 _ => hf.2.1 a (by unfold scA; omega), fun a _ => hf.2.2.2.2.1 a, Nat.le_of_eq hf.2.2.2.2.2.symm⟩
theorem INV_fr {n : Nat} {h h' : Hp} (hI : INV n h) (hf : Fr scA scF h h') : INV (n + 1) h' := by
  obtain ⟨k, sm, lc, L, i1, i2, i3, i4, i5, i6, i7, i8, i9⟩ := hI
  have hk := Fr_kp hf
  have f : ∀ a j, ¬ scF a j → fI h' a j = fI h a j := hf.1
  have g : ∀ a, ¬ scA a → aI h' a = aI h a := hf.2.1
  have g83 : aI h' 83 = aI h 83 := g 83 (by unfold scA; omega)
  have h28 : ln h 28 = 0 := i9.2.2.2.2.2.1
  refine ⟨k, sm, lc, L, by rw [g83]; exact i1, ?_, ?_, ?_, ?_, ?_, ?_, ?_, ?_⟩
  · rw [g83]
    exact HR_kp i2 (fun t ht => (i1.2.2.2.2.2.2.2.1 t ht).1.2.1) h28 hk (f _ _ (by unfold scF; omega)) (f _ _ (by unfold scF; omega)) (f _ _ (by unfold scF; omega)) (f _ _ (by unfold scF; omega)) (g _ (by unfold scA; omega)) (g _ (by unfold scA; omega)) (g _ (by unfold scA; omega)) (g _ (by unfold scA; omega)) (g _ (by unfold scA; omega)) (hf.2.2.2.1 _)
  · rw [g83]
    rcases i3 with e | ⟨kn, e1, e2, e3, e4, e5, e6⟩
    · exact Or.inl (by rw [f 68 11 (by unfold scF; omega)]; exact e)
    · refine Or.inr ⟨kn, e1, by rw [f 68 11 (by unfold scF; omega)]; exact e2, by rw [f 68 9 (by unfold scF; omega)]; exact e3, by rw [f 68 10 (by unfold scF; omega)]; exact e4, by rw [g 78 (by unfold scA; omega)]; exact e5, by rw [g 74 (by unfold scA; omega), g 75 (by unfold scA; omega)]; exact e6⟩
  · intro j hj
    have e84 : kI h' j = kI h j := by unfold kI; rw [g 84 (by unfold scA; omega)]
    rcases i4 j hj with e | ⟨e1, e2, k', sm', lc', L', e3, e4⟩
    · exact Or.inl (by rw [g 2 (by unfold scA; omega), g 85 (by unfold scA; omega)]; exact e)
    · refine Or.inr ⟨by rw [g 2 (by unfold scA; omega)]; exact e1, by rw [g 85 (by unfold scA; omega)]; exact e2, k', sm', lc', L', by rw [e84]; exact e3, ?_⟩
      rw [e84]
      exact HR_kp e4 (fun t ht => (e3.2.2.2.2.2.2.2.1 t ht).1.2.1) h28 hk (f _ _ (by unfold scF; omega)) (f _ _ (by unfold scF; omega)) (f _ _ (by unfold scF; omega)) (f _ _ (by unfold scF; omega)) (g _ (by unfold scA; omega)) (g _ (by unfold scA; omega)) (g _ (by unfold scA; omega)) (g _ (by unfold scA; omega)) (g _ (by unfold scA; omega)) (hf.2.2.2.1 _)
  · obtain ⟨tl, bt, t1, t2, t3, t4, t5⟩ := i5
    exact ⟨tl, bt, t1, by rw [f 0 16 (by unfold scF; omega)]; exact t2, by rw [f 81 13 (by unfold scF; omega)]; exact t3, t4, by rw [g 3 (by unfold scA; omega), g 88 (by unfold scA; omega)]; exact t5⟩
  · obtain ⟨m1, m2, m3, m4, m5⟩ := i6
    exact ⟨by rw [f 0 17 (by unfold scF; omega), f 81 14 (by unfold scF; omega)]; exact m1, by rw [f 0 18 (by unfold scF; omega), f 81 6 (by unfold scF; omega)]; exact m2, by rw [f 0 19 (by unfold scF; omega), f 81 0 (by unfold scF; omega)]; exact m3, by rw [f 60 6 (by unfold scF; omega), f 81 46 (by unfold scF; omega)]; exact m4, by rw [g 25 (by unfold scA; omega), g 82 (by unfold scA; omega)]; exact m5⟩
  · obtain ⟨nx, u, p1, p2, p3, p4, p5, p6⟩ := i7
    rw [g83]
    exact ⟨nx, u, p1, p2, by rw [f 10 1 (by unfold scF; omega)]; exact p3, by rw [f 10 2 (by unfold scF; omega)]; exact p4, by rw [f 81 32 (by unfold scF; omega)]; exact p5, by rw [g 11 (by unfold scA; omega), g 95 (by unfold scA; omega)]; exact p6⟩
  · unfold DRW
    rw [f 17 0 (by unfold scF; omega), f 81 54 (by unfold scF; omega), g 18 (by unfold scA; omega), g 20 (by unfold scA; omega), g 109 (by unfold scA; omega)]
    exact i8
  · obtain ⟨⟨m, c1, c2⟩, c3, c4, c5, c6, c7, c8, c9⟩ := i9
    exact ⟨⟨m, by omega, by rw [hf.2.2.2.2.2]; exact c2⟩, by rw [g 87 (by unfold scA; omega)]; exact c3, by rw [f 26 2 (by unfold scF; omega)]; exact c4, by rw [f 26 3 (by unfold scF; omega)]; exact c5, by rw [hf.2.2.2.2.1]; exact c6, by rw [hf.2.2.2.2.1]; exact c7, by rw [hf.2.2.2.1]; exact c8, by rw [hf.2.2.2.1]; exact c9⟩
theorem INV_up {n : Nat} {h : Hp} (hI : INV n h) : INV (n + 1) h := INV_fr hI Fr_rfl
theorem INV_0 : INV 0 h0 := by
  refine ⟨0, 0, 0, fun _ => ((fun _ => 0, fun _ => 0, fun _ => 0, 0), 0, 0, fun _ => 0, fun _ => 0, fun _ => (0, 0, 0, 0, 0, 0, fun _ => none, fun _ => none)), ⟨⟨rfl, by omega, ?_, fun p hp => absurd hp (Nat.not_lt_zero _), fun p q hp => absurd hp (Nat.not_lt_zero _), fun p hp => absurd hp (Nat.not_lt_zero _), ⟨fun _ => 0, ?_, fun n _ => by show 0 ≤ _; omega⟩, ?_, ⟨1, by omega, rfl⟩, ⟨0, by omega, rfl⟩⟩, ⟨0, by omega, rfl⟩, by omega, rfl, fun i hi => absurd hi (Nat.not_lt_zero _), by omega, rfl, fun t ht => absurd ht (Nat.not_lt_zero _), Or.inl rfl⟩, ⟨⟨rfl, ?_, ?_, ?_, rfl, rfl, rfl⟩, rfl, ?_, rfl, fun t ht => absurd ht (Nat.not_lt_zero _), ?_, rfl⟩, Or.inl rfl, ?_, ⟨0, fun _ => 0, by omega, rfl, rfl, fun _ => by show 0 < 256; omega, fun i hi => absurd hi (Nat.not_lt_zero _)⟩, ⟨rfl, rfl, rfl, rfl, ?_⟩, ⟨0, 0, by omega, by omega, rfl, rfl, rfl, fun e he => absurd he (Nat.not_lt_zero _)⟩, Or.inl ⟨rfl, rfl⟩, ⟨0, Nat.le_refl _, rfl⟩, ?_, rfl, rfl, rfl, rfl, rfl, rfl⟩
  · have : ∀ i, i < 18 → aI h0 83 i = nI 0 := by decide +kernel
    exact fun i hi => ⟨0, by omega, this i hi⟩
  · decide +kernel
  · have : ∀ i, i < 18 → aI h0 83 i = 0 := by decide +kernel
    exact fun i _ hi => this i hi
  · decide +kernel
  · decide +kernel
  · decide +kernel
  · decide +kernel
  · have : ∀ t, t < 6 → aO h0 38 t = none := by decide +kernel
    exact fun t _ ht => this t ht
  · have : ∀ j, j < 2 → aI h0 2 j = 0 ∧ aI h0 85 j = 0 := by decide +kernel
    exact fun j hj => Or.inl (this j hj)
  · decide +kernel
  · decide +kernel
