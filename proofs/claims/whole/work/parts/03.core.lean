/-! ===== the abstract heap: int fields, int arrays, long arrays, reference arrays, lengths of what is made later, size ===== -/
abbrev Hp : Type := (Nat → Nat → Int32) × (Nat → Nat → Int32) × (Nat → Nat → Int64) × (Nat → Nat → Option Nat) × (Nat → Nat) × Nat
def fI (h : Hp) (a k : Nat) : Int32 := h.1 a k
def aI (h : Hp) (a i : Nat) : Int32 := h.2.1 a i
def aL (h : Hp) (a i : Nat) : Int64 := h.2.2.1 a i
def aO (h : Hp) (a i : Nat) : Option Nat := h.2.2.2.1 a i
def ln (h : Hp) (a : Nat) : Nat := h.2.2.2.2.1 a
def sz (h : Hp) : Nat := h.2.2.2.2.2
def up2 {α : Type} (f : Nat → Nat → α) (a k : Nat) (x : α) : Nat → Nat → α := fun b j => if b = a then (if j = k then x else f b j) else f b j
def sF (h : Hp) (a k : Nat) (x : Int32) : Hp := (up2 h.1 a k x, h.2)
def sA (h : Hp) (a k : Nat) (x : Int32) : Hp := (h.1, up2 h.2.1 a k x, h.2.2)
def sL (h : Hp) (a k : Nat) (x : Int64) : Hp := (h.1, h.2.1, up2 h.2.2.1 a k x, h.2.2.2)
def sO (h : Hp) (a k : Nat) (x : Option Nat) : Hp := (h.1, h.2.1, h.2.2.1, up2 h.2.2.2.1 a k x, h.2.2.2.2)
def cpA (h : Hp) (sa sp da dp n : Nat) : Hp := (h.1, (fun b j => if b = da then (if dp ≤ j ∧ j < dp + n then h.2.1 sa (sp + (j - dp)) else h.2.1 b j) else h.2.1 b j), h.2.2)
/-- a number as an index of n places -/
def inb (i : Int32) (n : Nat) : Option Nat := if 0 ≤ i.toInt ∧ i.toInt < (n : Int) then some i.toNatClampNeg else none
def b2i (b : Bool) : Int32 := if b = true then 1 else 0
def i2b (x : Int32) : Option Bool := if x = 0 then some false else if x = 1 then some true else none
theorem inb_vp {i : Int32} {n j : Nat} (h : inb i n = some j) : vp_in i n ∧ i.toNatClampNeg = j := by
  unfold inb at h
  split at h
  · rename_i c
    exact ⟨vp_in_iff.mpr c, Option.some.inj h⟩
  · cases h
theorem i2b_eq {x : Int32} {b : Bool} (h : i2b x = some b) : x = b2i b := by
  unfold i2b at h
  split at h
  · rename_i c; cases h; rw [c]; rfl
  · split at h
    · rename_i c; cases h; rw [c]; rfl
    · cases h
/-- a loop: the body goes on with a state, or ends it -/
def lp {σ ε : Type} (b : σ → Option (σ ⊕ ε)) : Nat → σ → Option ε
  | 0, _ => none
  | n + 1, s => match b s with
    | none => none
    | some (.inl s') => lp b n s'
    | some (.inr e) => some e
theorem lp_ind {σ ε : Type} {b : σ → Option (σ ⊕ ε)} {P : σ → Prop} {K : ε → Prop} (hs : ∀ s q, b s = some q → (∀ s', q = .inl s' → P s') → (∀ e, q = .inr e → K e) → P s) : ∀ (n : Nat) (s : σ) (e : ε), lp b n s = some e → K e → P s
  | 0, s, e, h, _ => by cases h
  | n + 1, s, e, h, k => by
    unfold lp at h
    cases hb : b s with
    | none => rw [hb] at h; cases h
    | some q =>
      rw [hb] at h
      cases q with
      | inl s' => exact hs s _ hb (fun t ht => by cases ht; exact lp_ind hs n s' e h k) (fun e' he => by cases he)
      | inr e' => exact hs s _ hb (fun t ht => by cases ht) (fun e2 he => by cases he; cases h; exact k)
theorem bd {α β : Type} {o : Option α} {f : α → Option β} {r : β} (h : o.bind f = some r) : ∃ a, o = some a ∧ f a = some r := by
  cases o with
  | none => cases h
  | some a => exact ⟨a, rfl, h⟩
def FU : Nat := 20000
/-! ===== kinds of the static cells ===== -/
abbrev Kd : Type := (Nat × List (Option Nat)) ⊕ (Nat × Option Nat)
def kds : List Kd := [
  .inl (10, [some 32, some 1, some 2, some 3, some 4, some 56, some 10, some 59, some 60, some 68, some 12, some 17, some 22, some 23, some 24, some 25, none, none, none, none]),
  .inr (5, some 2),
  .inr (2, some 2),
  .inr (0, some 400),
  .inl (5, [some 5, some 6, some 7, some 8, some 9, none, none, none, none, none, none]),
  .inr (0, some 401),
  .inr (0, some 401),
  .inr (0, some 401),
  .inr (0, some 800),
  .inr (0, some 72),
  .inl (4, [some 11, none, none]),
  .inr (0, some 416),
  .inl (6, [none, some 13, some 14, some 15, some 16]),
  .inr (0, some 18),
  .inr (0, some 6),
  .inr (0, some 6),
  .inr (0, some 3),
  .inl (6, [none, some 18, some 19, some 20, some 21]),
  .inr (0, some 18),
  .inr (0, some 6),
  .inr (0, some 6),
  .inr (0, some 3),
  .inr (0, some 9),
  .inr (0, some 9),
  .inr (3, some 20),
  .inr (0, some 7),
  .inl (9, [some 27, some 28, none, none]),
  .inr (0, none),
  .inr (0, none),
  .inl (2, [some 30, some 31]),
  .inr (0, some 24),
  .inr (0, some 64),
  .inl (1, [some 33, some 26, some 38, none, none, some 39, none]),
  .inl (6, [none, some 34, some 35, some 36, some 37]),
  .inr (0, some 18),
  .inr (0, some 6),
  .inr (0, some 6),
  .inr (0, some 3),
  .inr (4, some 6),
  .inr (0, some 18),
  .inl (1, [some 41, some 26, some 46, none, none, some 47, none]),
  .inl (6, [none, some 42, some 43, some 44, some 45]),
  .inr (0, some 18),
  .inr (0, some 6),
  .inr (0, some 6),
  .inr (0, some 3),
  .inr (4, some 6),
  .inr (0, some 18),
  .inl (1, [some 49, some 26, some 54, none, none, some 55, none]),
  .inl (6, [none, some 50, some 51, some 52, some 53]),
  .inr (0, some 18),
  .inr (0, some 6),
  .inr (0, some 6),
  .inr (0, some 3),
  .inr (4, some 6),
  .inr (0, some 18),
  .inl (8, [some 29, some 57, some 58]),
  .inr (0, some 18),
  .inr (0, some 9),
  .inl (3, [some 32, some 10, some 56]),
  .inl (0, [some 59, some 29, some 61, some 66, none, none, none]),
  .inl (6, [none, some 62, some 63, some 64, some 65]),
  .inr (0, some 18),
  .inr (0, some 6),
  .inr (0, some 6),
  .inr (0, some 3),
  .inl (4, [some 67, none, none]),
  .inr (0, some 416),
  .inl (7, [some 56, some 69, some 74, some 75, some 76, some 77, some 78, some 79, some 80, none, none, none]),
  .inl (6, [none, some 70, some 71, some 72, some 73]),
  .inr (0, some 18),
  .inr (0, some 6),
  .inr (0, some 6),
  .inr (0, some 3),
  .inr (0, some 720),
  .inr (0, some 7200),
  .inr (0, some 720),
  .inr (0, some 720),
  .inr (0, some 6),
  .inr (0, some 6),
  .inr (0, some 3),
  .inl (11, [none, some 82, some 83, some 84, some 85, some 86, none, some 87, none, none, none, some 88, some 89, none, none, some 90, some 91, some 92, none, none, none, none, none, none, none, none, some 93, none, none, some 94, some 95, some 96, none, some 97, some 98, none, none, some 99, some 100, some 101, some 102, some 103, some 104, some 105, some 106, some 107, none, none, none, none, none, none, some 108, some 109, none, none]),
  .inr (0, some 7),
  .inr (0, some 5662),
  .inr (0, some 11324),
  .inr (2, some 2),
  .inr (0, some 50),
  .inr (1, some 144),
  .inr (1, some 400),
  .inr (0, some 5),
  .inr (0, some 401),
  .inr (0, some 401),
  .inr (0, some 401),
  .inr (0, some 8),
  .inr (0, some 18),
  .inr (0, some 416),
  .inr (0, some 416),
  .inr (0, some 6),
  .inr (0, some 6),
  .inr (0, some 720),
  .inr (0, some 720),
  .inr (0, some 720),
  .inr (2, some 720),
  .inr (0, some 4320),
  .inr (0, some 3),
  .inr (0, some 6),
  .inr (0, some 6),
  .inr (3, some 21),
  .inr (3, some 2),
  .inr (0, some 25)]
def kd (a : Nat) : Kd := if a < 110 then kds.getD a (.inr (0, none)) else if (a - 110) % 3 = 0 then .inl (9, [some (a + 1), some (a + 2), none, none]) else .inr (0, none)
/-! ===== what the real heap holds ===== -/
/-- numbers of classes and slots; array classes; where the heap ended; addresses of what was there before; the script -/
abbrev Ex : Type := va_G × (Nat → ClassId) × Nat × (Nat → Nat) × Nat × (Nat → Int32)
def eB (E : Ex) : Nat := E.2.2.1
def eA (E : Ex) : Nat → Prop := fun q => E.2.2.1 ≤ q
def ra (E : Ex) (a : Nat) : Nat := if a < 1000000 then E.2.2.1 + a else E.2.2.2.1 (a - 1000000)
def cv (E : Ex) : Value → Value
  | .ref a => .ref (ra E a)
  | v => v
def cF (E : Ex) (g : Nat → Int32) : Nat → List (Option Nat) → List Value
  | _, [] => []
  | k, none :: l => .int (g k) :: cF E g (k + 1) l
  | k, some b :: l => .ref (ra E b) :: cF E g (k + 1) l
def cE (E : Ex) (h : Hp) (a : Nat) : va_E := match kd a with
  | .inl (ci, fs) => .inr (ci, cF E (fI h a) 0 fs)
  | .inr (t, on) => .inl (E.2.1 t, on.getD (ln h a), if t < 3 then .inl (aI h a) else if t = 3 then .inr (.inl (aL h a)) else .inr (.inr (.inr (.inr (fun i => (aO h a i).map (ra E))))))
def wsE (E : Ex) (h : Hp) : va_W := (List.range (sz h)).map (fun a => (E.2.2.1 + a, cE E h a))
def tys (E : Ex) : List (ClassId × FieldType) := [(E.2.1 0, .int), (E.2.1 1, .byte), (E.2.1 2, .boolean), (E.2.1 3, .long), (E.2.1 4, .object "SteamNations$Text"), (E.2.1 5, .object "SteamNations$House")]
def Rl (E : Ex) (h : Hp) (H : Heap) : Prop := H.size = E.2.2.1 + sz h ∧ 110 ≤ sz h ∧ sz h < 1000000 ∧ va_P E.1 cls (wsE E h) H
theorem ws_at {E : Ex} {h : Hp} {a : Nat} (ha : a < sz h) : (wsE E h)[a]? = some (E.2.2.1 + a, cE E h a) := by
  unfold wsE
  rw [List.getElem?_map, List.getElem?_range ha]
  rfl
theorem ra_lt {E : Ex} {h : Hp} {a : Nat} (ha : a < sz h) (hz : sz h < 1000000) : ra E a = E.2.2.1 + a := by
  unfold ra
  rw [if_pos (by omega)]
theorem ws_D (E : Ex) (h : Hp) : va_D (eA E) (wsE E h) := by
  have key : ∀ (k : Nat) (q : Nat × va_E), (wsE E h)[k]? = some q → q.1 = E.2.2.1 + k := by
    intro k q hk
    unfold wsE at hk
    rw [List.getElem?_map] at hk
    cases hr : (List.range (sz h))[k]? with
    | none => rw [hr] at hk; cases hk
    | some j =>
      rw [hr] at hk
      have hj : j = k := by
        obtain ⟨h1, h2⟩ := List.getElem?_eq_some_iff.mp hr
        simpa using h2.symm
      subst hj
      cases hk
      rfl
  refine ⟨fun i j p q hi hj hpq => ?_, fun k q hk => ?_⟩
  · have h1 := key i p hi
    have h2 := key j q hj
    omega
  · rw [key k q hk]
    exact Nat.le_add_right _ _
/-- one cell changed -/
theorem ws_set {E : Ex} {h h' : Hp} {a : Nat} {q : Nat × va_E} (hz : sz h' = sz h) (hq : q = (E.2.2.1 + a, cE E h' a)) (hne : ∀ b, b ≠ a → cE E h' b = cE E h b) : (wsE E h).set a q = wsE E h' := by
  apply List.ext_getElem?
  intro k
  by_cases hka : k = a
  · subst hka
    by_cases hl : k < sz h
    · rw [ws_at (h := h') (by omega), List.getElem?_set_self (by unfold wsE; simpa using hl), hq]
    · have h1 : (wsE E h')[k]? = none := by simp [wsE]; omega
      have h2 : ((wsE E h).set k q)[k]? = none := by simp [wsE]; omega
      rw [h1, h2]
  · rw [List.getElem?_set_ne (Ne.symm hka)]
    by_cases hl : k < sz h
    · rw [ws_at hl, ws_at (h := h') (by omega), hne k hka]
    · have h1 : (wsE E h')[k]? = none := by simp [wsE]; omega
      have h2 : (wsE E h)[k]? = none := by simp [wsE]; omega
      rw [h1, h2]
theorem cF_get {E : Ex} {g : Nat → Int32} : ∀ (fs : List (Option Nat)) (k j : Nat), (fs[j]? = some none → (cF E g k fs)[j]? = some (.int (g (k + j)))) ∧ (∀ b, fs[j]? = some (some b) → (cF E g k fs)[j]? = some (.ref (ra E b)))
  | [], k, j => ⟨fun h => by simp at h, fun b h => by simp at h⟩
  | none :: l, k, 0 => ⟨fun _ => rfl, fun b h => (by cases h)⟩
  | some b :: l, k, 0 => ⟨fun h => (by cases h), fun b h => (by cases h; rfl)⟩
  | none :: l, k, j + 1 => by
    have h := cF_get (E := E) (g := g) l (k + 1) j
    rw [show k + 1 + j = k + (j + 1) by omega] at h
    exact h
  | some b :: l, k, j + 1 => by
    have h := cF_get (E := E) (g := g) l (k + 1) j
    rw [show k + 1 + j = k + (j + 1) by omega] at h
    exact h
theorem cF_len {E : Ex} {g : Nat → Int32} : ∀ (fs : List (Option Nat)) (k : Nat), (cF E g k fs).length = fs.length
  | [], _ => rfl
  | none :: l, k => by simp only [cF, List.length_cons, cF_len l]
  | some b :: l, k => by simp only [cF, List.length_cons, cF_len l]
theorem cF_same {E : Ex} {g g' : Nat → Int32} : ∀ (fs : List (Option Nat)) (k : Nat), (∀ j, k ≤ j → g' j = g j) → cF E g' k fs = cF E g k fs
  | [], _, _ => rfl
  | none :: l, k, h => by
    simp only [cF]
    rw [h k (Nat.le_refl _), cF_same l (k + 1) (fun j hj => h j (by omega))]
  | some b :: l, k, h => by
    simp only [cF]
    rw [cF_same l (k + 1) (fun j hj => h j (by omega))]
theorem cF_set {E : Ex} {g : Nat → Int32} {x : Int32} : ∀ (fs : List (Option Nat)) (k j : Nat), fs[j]? = some none → (cF E g k fs).set j (.int x) = cF E (upd g (k + j) x) k fs
  | [], k, j, h => by simp at h
  | none :: l, k, 0, _ => by
    simp only [cF, List.set_cons_zero, Nat.add_zero]
    rw [cF_same (g := g) (g' := upd g k x) l (k + 1) (fun j hj => by unfold upd; rw [if_neg (by omega)])]
    simp [upd]
  | some b :: l, k, 0, h => by cases h
  | none :: l, k, j + 1, h => by
    have h2 := cF_set (E := E) (g := g) (x := x) l (k + 1) j h
    rw [show k + 1 + j = k + (j + 1) by omega] at h2
    simp only [cF, List.set_cons_succ]
    rw [h2]
    congr 2
    unfold upd
    rw [if_neg (by omega)]
  | some b :: l, k, j + 1, h => by
    have h2 := cF_set (E := E) (g := g) (x := x) l (k + 1) j h
    rw [show k + 1 + j = k + (j + 1) by omega] at h2
    simp only [cF, List.set_cons_succ]
    rw [h2]
