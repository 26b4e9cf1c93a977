/-! ===== both readers: tokens ===== -/
/-- the end of a run -/
theorem run_end (f : Nat → Bool) (len : Nat) : ∀ (m p : Nat), p + m = len → ∃ e, p ≤ e ∧ e ≤ len ∧ (∀ x, p ≤ x → x < e → f x = true) ∧ (e < len → f e = false)
  | 0, p, h => ⟨p, Nat.le_refl _, by omega, fun x h1 h2 => by omega, fun c => by omega⟩
  | m + 1, p, h => by
    cases c : f p with
    | false => exact ⟨p, Nat.le_refl _, by omega, fun x h1 h2 => by omega, fun _ => c⟩
    | true =>
      obtain ⟨e, e1, e2, e3, e4⟩ := run_end f len m (p + 1) (by omega)
      refine ⟨e, by omega, e2, fun x h1 h2 => ?_, e4⟩
      by_cases cx : x = p
      · rw [cx]; exact c
      · exact e3 x (by omega) h2
/-- a loop that goes to the end of a run -/
theorem lp_runE {b : Int32 → Option (Int32 ⊕ Int32)} {f : Nat → Bool} {len p e : Nat} (hl : len ≤ 400) (hp : p ≤ e) (he : e ≤ len) (h3 : ∀ x, p ≤ x → x < e → f x = true) (h4 : e < len → f e = false) (hs : ∀ x, x < len → f x = true → b (nI x) = some (.inl (nI (x + 1)))) (hn : ∀ x, x < len → f x = false → b (nI x) = some (.inr (nI x))) (hx : b (nI len) = some (.inr (nI len))) : lp b FU (nI p) = some (nI e) := by
  have := lp_run (b := b) (fun i => nI (p + i)) (e - p) (nI e) (by omega) (fun i hi => hs (p + i) (by omega) (h3 _ (by omega) (by omega))) ?_
  · exact this
  · rw [show p + (e - p) = e by omega]
    by_cases c : e < len
    · exact hn e c (h4 c)
    · rw [show e = len by omega]; exact hx
def isL (b : Nat) : Bool := decide (97 ≤ b ∧ b ≤ 122)
def isD (b : Nat) : Bool := decide (48 ≤ b ∧ b ≤ 57)
theorem sbL {b : Nat} (hb : b < 256) : f_X5_isLetter (nI b) = some (isL b) := (sb_t b hb).2.2.2.2.1
theorem sbD {b : Nat} (hb : b < 256) : f_X5_isDigit (nI b) = some (isD b) := (sb_t b hb).2.2.2.2.2
theorem srL {b : Nat} (hb : b < 256) : f_X11_isSmall (sb b) = some (isL b) := (sb_t b hb).1
theorem srD {b : Nat} (hb : b < 256) : f_X11_isDigit (sb b) = some (isD b) := (sb_t b hb).2.1
/-- a number of digits, as the reference reckons it -/
def vF (bt : Nat → Nat) (p : Nat) : Nat → Nat
  | 0 => 0
  | n + 1 => if vF bt p n ≤ 1000000 then 10 * vF bt p n + (bt (p + n) - 48) else vF bt p n
theorem vF_bd (bt : Nat → Nat) (p : Nat) (hb : ∀ i, bt i < 256) : ∀ n, vF bt p n ≤ 10000300
  | 0 => by show 0 ≤ _; omega
  | n + 1 => by
    have ih := vF_bd bt p hb n
    have := hb (p + n)
    unfold vF
    split <;> omega
theorem c_value {bt : Nat → Nat} {len p e : Nat} {h : Hp} (hl : len ≤ 400) (hb : CB bt len h) (hp : p ≤ e) (he : e ≤ len) (hd : ∀ x, p ≤ x → x < e → isD (bt x) = true) (hbb : ∀ i, bt i < 256) : f_X5_valueOf (nI p) (nI e) h = some (nI (min (vF bt p (e - p)) 1001)) := by
  unfold f_X5_valueOf
  have := lp_run (b := fun s : Int32 × Int32 => b_X5_valueOf_5 (nI e) s.1 s.2 h) (fun i => (nI (min (vF bt p i) 1001), nI (p + i))) (e - p) (nI (min (vF bt p (e - p)) 1001)) (by omega) (fun i hi => ?_) ?_
  · rw [show (((0 : Int32), nI p)) = (nI (min (vF bt p 0) 1001), nI (p + 0)) from rfl, this, Option.bind_some]
  · show b_X5_valueOf_5 (nI e) (nI (min (vF bt p i) 1001)) (nI (p + i)) h = _
    have hd1 : 48 ≤ bt (p + i) ∧ bt (p + i) ≤ 57 := by
      have := hd (p + i) (by omega) (by omega)
      unfold isD at this
      simpa using this
    unfold b_X5_valueOf_5
    rw [if_neg (nI_ge (by omega) (by omega)), inb_nI (show p + i < 400 by omega) (by omega), Option.bind_some, hb _ (by omega), l10_, pk_mul, nI_add, show ((48 : Int32)) = nI 48 from rfl, pk_sub (by omega), j_min, Option.bind_some, show ((1001 : Int32)) = nI 1001 from rfl, mnI_n _ _ (by omega) (by omega), nI_1]
    have : min (min (vF bt p i) 1001 * 10 + bt (p + i) - 48) 1001 = min (vF bt p (i + 1)) 1001 := by
      show _ = min (if vF bt p i ≤ 1000000 then 10 * vF bt p i + (bt (p + i) - 48) else vF bt p i) 1001
      split <;> omega
    rw [this]
    rfl
  · show b_X5_valueOf_5 (nI e) (nI (min (vF bt p (e - p)) 1001)) (nI (p + (e - p))) h = _
    unfold b_X5_valueOf_5
    rw [show p + (e - p) = e by omega, if_pos (Int32.le_refl _)]
def ctA (a : Nat) : Prop := a = 5 ∨ a = 6 ∨ a = 7
def spA (a : Nat) : Prop := a = 90 ∨ a = 91 ∨ a = 92
def spF (a k : Nat) : Prop := a = 81 ∧ k = 18
/-- the first t tokens -/
def Tk (kd vl ps : Nat → Nat) (t : Nat) (hc hr : Hp) : Prop := ∀ i, i < t → aI hc 5 i = nI (kd i) ∧ aI hc 6 i = nI (ps i) ∧ (kd i = 28 → aI hc 7 i = nI (min (vl i) 1001)) ∧ aI hr 90 i = nI (rk (kd i)) ∧ aI hr 92 i = nI (ps i) ∧ aI hr 91 i = nI (vl i) ∧ kd i ≠ 29 ∧ kd i < 400 ∧ (kd i < 29 ∨ 100 ≤ kd i) ∧ ps i ≤ 400
theorem c_tok {bt : Nat → Nat} {len p t : Nat} {h : Hp} (hB : Bts bt len) (hbb : ∀ i, bt i < 256) (hb : CB bt len h) (hp : p < len) (ht : t ≤ p) (h32 : bt p ≠ 32) {e : Nat} (he : e ≤ len) (hpe : p < e) (hrun : (isL (bt p) = true ∧ (∀ x, p + 1 ≤ x → x < e → isL (bt x) = true) ∧ (e < len → isL (bt e) = false)) ∨ (isD (bt p) = true ∧ (∀ x, p + 1 ≤ x → x < e → isD (bt x) = true) ∧ (e < len → isD (bt e) = false)) ∨ (isL (bt p) = false ∧ isD (bt p) = false ∧ e = p + 1)) {w : Nat} (hw27 : w ≤ 27) (hw : isL (bt p) = true → f_X5_wordNumber (nI p) (nI e) (sA h 6 t (nI p)) = some (nI w)) :
    ∃ h' k, b_X5_cut_5 (nI len) (nI t) (nI p) h = some (.inl (nI (t + 1), nI e, h')) ∧ aI h' 5 t = nI k ∧ aI h' 6 t = nI p ∧ (k = 28 → aI h' 7 t = nI (min (vF bt p (e - p)) 1001)) ∧ (∀ j, j < t → aI h' 5 j = aI h 5 j ∧ aI h' 6 j = aI h 6 j ∧ aI h' 7 j = aI h 7 j) ∧ Fr ctA noF h h' ∧ k = (if isL (bt p) = true then w else if isD (bt p) = true then 28 else 100 + bt p) := by
  have hl := hB.1
  have e0 : b_X5_cut_5 (nI len) (nI t) (nI p) h = if isL (bt p) = true then ((lp (fun s => b_X5_cut_55_5 (nI len) (nI t) (nI p) s (sA h 6 t (nI p))) FU (nI p + 1)).bind fun e42 => j_X5_cut_77_5 (nI len) (nI t) e42 (nI p) (sA h 6 t (nI p))) else if isD (bt p) = true then ((lp (fun s => b_X5_cut_104_5 (nI len) (nI t) (nI p) s (sA h 6 t (nI p))) FU (nI p + 1)).bind fun e28 => j_X5_cut_126_5 (nI len) (nI t) e28 (nI p) (sA h 6 t (nI p))) else some (.inl (nI t + 1, nI p + 1, sA (sA h 6 t (nI p)) 5 t (nI (100 + bt p)))) := by
    unfold b_X5_cut_5
    rw [if_neg (nI_ge hp (by omega)), if_neg (show ¬ (400 : Int32) ≤ nI t from nI_ge (a := t) (b := 400) (by omega) (by omega)), inb_nI (show p < 400 by omega) (by omega), inb_nI (show t < 401 by omega) (by omega)]
    simp only [Option.bind_some]
    rw [ps_aAn _ _ _ _ _ (by omega), hb p hp, if_neg (show ¬ nI (bt p) = 32 from fun c => h32 ((nI_eq (by have := hbb p; omega) (by omega)).mp (show nI _ = nI 32 from c))), sbL (hbb p), sbD (hbb p), show ((100 : Int32)) = nI 100 from rfl, nI_add]
    simp only [Option.bind_some]
  have hb6 : CB bt len (sA h 6 t (nI p)) := fun i hi => by rw [ps_aAn _ _ _ _ _ (by omega)]; exact hb i hi
  have F6 : Fr ctA noF h (sA h 6 t (nI p)) := Fr_sA (Or.inr (Or.inl rfl))
  rw [e0]
  cases cl : isL (bt p) with
  | true =>
    rcases hrun with ⟨-, r1, r2⟩ | ⟨r0, -, -⟩ | ⟨r0, -, -⟩
    · have lr : lp (fun s => b_X5_cut_55_5 (nI len) (nI t) (nI p) s (sA h 6 t (nI p))) FU (nI (p + 1)) = some (nI e) := by
        refine lp_runE (f := fun x => isL (bt x)) hl (by omega) he r1 r2 (fun x hx hf => ?_) (fun x hx hf => ?_) ?_
        · show b_X5_cut_55_5 (nI len) (nI t) (nI p) (nI x) (sA h 6 t (nI p)) = _
          unfold b_X5_cut_55_5
          rw [if_neg (nI_ge hx (by omega)), inb_nI (show x < 400 by omega) (by omega), Option.bind_some, hb6 x hx, sbL (hbb x), Option.bind_some, if_pos hf, nI_1]
        · show b_X5_cut_55_5 (nI len) (nI t) (nI p) (nI x) (sA h 6 t (nI p)) = _
          unfold b_X5_cut_55_5
          rw [if_neg (nI_ge hx (by omega)), inb_nI (show x < 400 by omega) (by omega), Option.bind_some, hb6 x hx, sbL (hbb x), Option.bind_some, if_neg (show ¬ isL (bt x) = true by rw [show isL (bt x) = false from hf]; decide)]
        · show b_X5_cut_55_5 (nI len) (nI t) (nI p) (nI len) (sA h 6 t (nI p)) = _
          unfold b_X5_cut_55_5
          rw [if_pos (Int32.le_refl _)]
      refine ⟨sA (sA h 6 t (nI p)) 5 t (nI w), w, ?_, aI_s, ?_, fun c => ?_, fun j hj => ⟨?_, ?_, ?_⟩, Fr_tA F6 (Or.inl rfl), by rw [if_pos rfl]⟩
      · rw [if_pos rfl, nI_1, lr, Option.bind_some]
        unfold j_X5_cut_77_5
        rw [hw cl, Option.bind_some, inb_nI (show t < 401 by omega) (by omega), Option.bind_some, nI_1]
      · rw [ps_aAn _ _ _ _ _ (by omega), aI_s]
      · omega
      · rw [aI_n (by omega), ps_aAn _ _ _ _ _ (by omega)]
      · rw [ps_aAn _ _ _ _ _ (by omega), aI_n (by omega)]
      · rw [ps_aAn _ _ _ _ _ (by omega), ps_aAn _ _ _ _ _ (by omega)]
    · exact absurd r0 (by unfold isD; unfold isL at cl; simp at cl ⊢; omega)
    · rw [cl] at r0; cases r0
  | false =>
    cases cd : isD (bt p) with
    | true =>
      rcases hrun with ⟨r0, -, -⟩ | ⟨-, r1, r2⟩ | ⟨-, r0, -⟩
      · rw [cl] at r0; cases r0
      · have lr : lp (fun s => b_X5_cut_104_5 (nI len) (nI t) (nI p) s (sA h 6 t (nI p))) FU (nI (p + 1)) = some (nI e) := by
          refine lp_runE (f := fun x => isD (bt x)) hl (by omega) he r1 r2 (fun x hx hf => ?_) (fun x hx hf => ?_) ?_
          · show b_X5_cut_104_5 (nI len) (nI t) (nI p) (nI x) (sA h 6 t (nI p)) = _
            unfold b_X5_cut_104_5
            rw [if_neg (nI_ge hx (by omega)), inb_nI (show x < 400 by omega) (by omega), Option.bind_some, hb6 x hx, sbD (hbb x), Option.bind_some, if_pos hf, nI_1]
          · show b_X5_cut_104_5 (nI len) (nI t) (nI p) (nI x) (sA h 6 t (nI p)) = _
            unfold b_X5_cut_104_5
            rw [if_neg (nI_ge hx (by omega)), inb_nI (show x < 400 by omega) (by omega), Option.bind_some, hb6 x hx, sbD (hbb x), Option.bind_some, if_neg (show ¬ isD (bt x) = true by rw [show isD (bt x) = false from hf]; decide)]
          · show b_X5_cut_104_5 (nI len) (nI t) (nI p) (nI len) (sA h 6 t (nI p)) = _
            unfold b_X5_cut_104_5
            rw [if_pos (Int32.le_refl _)]
        have hb5 : CB bt len (sA (sA h 6 t (nI p)) 5 t 28) := fun i hi => by rw [ps_aAn _ _ _ _ _ (by omega)]; exact hb6 i hi
        have hall : ∀ x, p ≤ x → x < e → isD (bt x) = true := by
          intro x h1 h2
          by_cases c : x = p
          · rw [c]; exact cd
          · exact r1 x (by omega) h2
        refine ⟨sA (sA (sA h 6 t (nI p)) 5 t 28) 7 t (nI (min (vF bt p (e - p)) 1001)), 28, ?_, ?_, ?_, fun _ => aI_s, fun j hj => ⟨?_, ?_, ?_⟩, Fr_tA (Fr_tA F6 (Or.inl rfl)) (Or.inr (Or.inr rfl)), by rw [if_neg (by decide), if_pos rfl]⟩
        · rw [if_neg (by decide), if_pos rfl, nI_1, lr, Option.bind_some]
          unfold j_X5_cut_126_5
          rw [inb_nI (show t < 401 by omega) (by omega), Option.bind_some, c_value hl hb5 (by omega) he hall hbb, Option.bind_some, Option.bind_some, nI_1]
        · rw [ps_aAn _ _ _ _ _ (by omega), aI_s]; rfl
        · rw [ps_aAn _ _ _ _ _ (by omega), ps_aAn _ _ _ _ _ (by omega), aI_s]
        · rw [ps_aAn _ _ _ _ _ (by omega), aI_n (by omega), ps_aAn _ _ _ _ _ (by omega)]
        · rw [ps_aAn _ _ _ _ _ (by omega), ps_aAn _ _ _ _ _ (by omega), aI_n (by omega)]
        · rw [aI_n (by omega), ps_aAn _ _ _ _ _ (by omega), ps_aAn _ _ _ _ _ (by omega)]
      · rw [cd] at r0; cases r0
    | false =>
      rcases hrun with ⟨r0, -, -⟩ | ⟨r0, -, -⟩ | ⟨-, -, r0⟩
      · rw [cl] at r0; cases r0
      · rw [cd] at r0; cases r0
      · subst r0
        refine ⟨sA (sA h 6 t (nI p)) 5 t (nI (100 + bt p)), 100 + bt p, ?_, aI_s, ?_, fun c => by omega, fun j hj => ⟨?_, ?_, ?_⟩, Fr_tA F6 (Or.inl rfl), by rw [if_neg (by decide), if_neg (by decide)]⟩
        · rw [if_neg (by decide), if_neg (by decide), nI_1, nI_1]
        · rw [ps_aAn _ _ _ _ _ (by omega), aI_s]
        · rw [aI_n (by omega), ps_aAn _ _ _ _ _ (by omega)]
        · rw [ps_aAn _ _ _ _ _ (by omega), aI_n (by omega)]
        · rw [ps_aAn _ _ _ _ _ (by omega), ps_aAn _ _ _ _ _ (by omega)]
