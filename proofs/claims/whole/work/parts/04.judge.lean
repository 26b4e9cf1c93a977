def wrd : String := "sitter other tier nation much wish minute mood done latest inside pleased is passes keeps leaves seat out swap pass at with times if or and not "
def wrdB : List Int32 := [115, 105, 116, 116, 101, 114, 32, 111, 116, 104, 101, 114, 32, 116, 105, 101, 114, 32, 110, 97, 116, 105, 111, 110, 32, 109, 117, 99, 104, 32, 119, 105, 115, 104, 32, 109, 105, 110, 117, 116, 101, 32, 109, 111, 111, 100, 32, 100, 111, 110, 101, 32, 108, 97, 116, 101, 115, 116, 32, 105, 110, 115, 105, 100, 101, 32, 112, 108, 101, 97, 115, 101, 100, 32, 105, 115, 32, 112, 97, 115, 115, 101, 115, 32, 107, 101, 101, 112, 115, 32, 108, 101, 97, 118, 101, 115, 32, 115, 101, 97, 116, 32, 111, 117, 116, 32, 115, 119, 97, 112, 32, 112, 97, 115, 115, 32, 97, 116, 32, 119, 105, 116, 104, 32, 116, 105, 109, 101, 115, 32, 105, 102, 32, 111, 114, 32, 97, 110, 100, 32, 110, 111, 116, 32]
def bsT : List Int32 := [1, 3, -1, -1, 0, 2, 4, -1, 1, 5, -1, -1, 0, 4, 6, -1, 1, 3, 5, 7, 2, 4, 8, -1, 3, 7, -1, -1, 4, 6, 8, -1, 5, 7, -1, -1]
def moT : List Int32 := [999, 10, 9]
def fiT : List Int32 := [0, 1, 0]
/-- accesses among nest mates -/
def nwF : List (String × Nat × String × String × String × String) := [("SteamNations$Room", 21, "SteamNations", "FIRST_OF_TERM", "[I", "SteamNations"), ("SteamNations$Steam", 96, "SteamNations", "BESIDE", "[I", "SteamNations")]
def nwM : List (String × Nat × MethodName × String) := [("SteamNations", 25, ⟨"SteamNations$Reader", "<init>", "()V"⟩, "SteamNations"), ("SteamNations", 32, ⟨"SteamNations$Past", "<init>", "()V"⟩, "SteamNations"), ("SteamNations", 71, ⟨"SteamNations$Machine", "<init>", "()V"⟩, "SteamNations"), ("SteamNations$Errands", 20, ⟨"SteamNations$Past", "<init>", "()V"⟩, "SteamNations"), ("SteamNations$Room", 41, ⟨"SteamNations", "oneIf", "(Z)I"⟩, "SteamNations"), ("SteamNations$Seatings", 81, ⟨"SteamNations", "oneIf", "(Z)I"⟩, "SteamNations"), ("SteamNations$Seatings", 171, ⟨"SteamNations", "areBeside", "(II)Z"⟩, "SteamNations")]
/-- what stays so of a state: tables, statics, the script, the text of words -/
def Ok (E : Ex) (U : State) : Prop :=
  va_K E.1 cls (tys E) U ∧ (∀ q ∈ nwF, va_Nw (.fieldLinkNest q.1 q.2.1 q.2.2.1 q.2.2.2.1 q.2.2.2.2.1 q.2.2.2.2.2) U) ∧ (∀ q ∈ nwM, va_Nw (.methodLinkNest q.1 q.2.1 q.2.2.1 q.2.2.2) U) ∧
  va_Z "SteamNations" "BESIDE" "[I" (.ref (E.2.2.2.1 0)) (eA E) U U.heap ∧ va_T .int (E.2.2.2.1 0) 36 (fun j => .int (bsT.getD j 0)) (eA E) U U.heap ∧
  va_Z "SteamNations" "MOST_OF_TERM" "[I" (.ref (E.2.2.2.1 1)) (eA E) U U.heap ∧ va_T .int (E.2.2.2.1 1) 3 (fun j => .int (moT.getD j 0)) (eA E) U U.heap ∧
  va_T .int (E.2.2.2.1 2) E.2.2.2.2.1 (fun j => .int (E.2.2.2.2.2 j)) (eA E) U U.heap ∧
  vk_R "SteamNations$Reader" 104 wrd (E.2.2.2.1 3) U ∧ vk_S 1 [144] [wrdB] (fun _ => E.2.2.2.1 3) (fun _ => E.2.2.2.1 4) (eA E) U U.heap ∧
  va_Z "java/lang/String" "COMPACT_STRINGS" "Z" (.int 1) (eA E) U U.heap ∧ (va_Z "jdk/internal/util/Preconditions" "SIOOBE_FORMATTER" "Ljava/util/function/BiFunction;" .null (eA E) U U.heap ∨ va_Z "jdk/internal/util/Preconditions" "SIOOBE_FORMATTER" "Ljava/util/function/BiFunction;" (.ref (E.2.2.2.1 5)) (eA E) U U.heap) ∧
  va_Z "SteamNations" "FIRST_OF_TERM" "[I" (.ref (E.2.2.2.1 6)) (eA E) U U.heap ∧ va_T .int (E.2.2.2.1 6) 3 (fun j => .int (fiT.getD j 0)) (eA E) U U.heap ∧
  va_AO "SteamNations$Text" U ∧ va_AO "SteamNations$House" U ∧ va_Nw (.castable "[I" "java/lang/Cloneable") U
theorem Ok.mv {E : Ex} {s U : State} (h : Ok E s) (hW : s.WarmedH U.vm) (hq : ∀ a : Nat, a < s.heap.size → ¬ eA E a → U.heap[a]? = s.heap[a]?) : Ok E U := by
  obtain ⟨h1, h2, h3, h4, h5, h6, h7, h8, h9, h10, h11, h12, h13, h14, h15, h16, h17⟩ := h
  exact ⟨h1.moved hW.alike, fun q hm => (h2 q hm).warmF hW, fun q hm => (h3 q hm).warmM hW, (h4.kept hq).moved hW.alike, (h5.kept hq).moved hW.alike, (h6.kept hq).moved hW.alike, (h7.kept hq).moved hW.alike, (h8.kept hq).moved hW.alike, h9.warm hW, (h10.kept hq).moved hW.alike, (h11.kept hq).moved hW.alike, h12.imp (fun z => (z.kept hq).moved hW.alike) (fun z => (z.kept hq).moved hW.alike), (h13.kept hq).moved hW.alike, (h14.kept hq).moved hW.alike, h15.moved hW.alike, h16.moved hW.alike, h17.warmC hW⟩
/-- machine, launch, environment, room, start, method, arguments, frames below, method's data, code, what is to be reached, the world's numbers -/
abbrev Xt : Type := Program × Launch × Env × Room × State × MethodId × Array Value × List Frame × Method × Code × (State → Prop) × Ex
def cl2 (E : Ex) (lv : List (Nat × Value)) : List (Nat × Value) := lv.map (fun q => (q.1, cv E q.2))
def G (X : Xt) (h : Hp) (k n pc : Nat) (lv : List (Nat × Value)) (st : List Value) : Prop := match X with
  | (p, l, e, R, s, m, args, below, meth, c, Q, E) => ∀ (H : Heap) (locs : List Loc) (ls : Array Slot), Rl E h H → va_S (eA E) s.heap H locs → lv_has ls c.maxLocals (cl2 E lv) → W p l e R s m args below meth c H locs k n Q (F0 m pc ls (st.map (cv E)))
def Cx (X : Xt) (own : String) (cc : ByteArray) (nL : Nat) (rt : Option FieldType) (D mc ms : Nat) : Prop := match X with
  | (p, l, e, R, s, m, args, below, meth, c, Q, E) => p.tables.exec = Jvm.exec ∧ c.code = cc ∧ c.maxLocals = nL ∧ s.vm.findClass own = some m.cls ∧ (∀ w ∈ gw, w.before args s = true) ∧ Ok E s ∧ meth.locks = false ∧ meth.sig.returnType = rt ∧ D ≤ R.frames ∧ 60 * D ≤ R.locals ∧ mc ≤ R.cells ∧ ms ≤ R.slots ∧ E.2.2.1 ≤ s.heap.size ∧ (own = own)
def rQ (E : Ex) (r : Option Value) (h' : Hp) : Array Value → State → Outcome → State → Prop := fun _ st oc t => oc = .returned (r.map (cv E)) ∧ Rl E h' t.heap ∧ va_F (eA E) st t
def EndQ (X : Xt) (mc ms : Nat) (r : Option Value) (h' : Hp) : Prop := match X with
  | (p, l, e, R, s, m, args, below, meth, c, Q, E) => Q = MQ below (rQ E r h') args s mc ms (eA E)
def rmH (D mc ms : Nat) : Room := { frames := D, cells := mc, slots := ms, locals := 60 * D }
def aPc (E : Ex) (av : List Value) (h : Hp) : Array Value → State → Prop := va_Pc (av.map (cv E)) (fun U => Rl E h U.heap ∧ Ok E U ∧ E.2.2.1 ≤ U.heap.size)
def MetA (y : MethodName) (cc : ByteArray) (mL : Nat) (rt : Option FieldType) (D mc ms : Nat) (av : List Value) (h : Hp) (r : Option Value) (h' : Hp) : Prop :=
  ∀ (l : Launch) (E : Ex), Met l y (.code y cc mL rt :: gw) (rmH D mc ms) (aPc E av h) (rQ E r h') mc ms (eA E)
theorem aPc_blind (E : Ex) (av : List Value) (h : Hp) : FrameBlind (aPc E av h) := by
  intro a U g mk q
  obtain ⟨h1, h2, h3, h4⟩ := q
  refine ⟨h1, h2, ?_, h4⟩
  exact h3.mv (U := U.calling g mk a) (State.WarmedH.refl U) (fun _ _ _ => rfl)
theorem cv_cat (E : Ex) (v : Value) : (cv E v).category = v.category := by cases v <;> rfl
theorem cl2_args (E : Ex) : ∀ (i : Nat) (av : List Value), lv_args i (av.map (cv E)) = cl2 E (lv_args i av)
  | _, [] => rfl
  | i, v :: l => by
    simp only [List.map_cons, lv_args, cl2, cv_cat]
    rw [cl2_args E _ l]
    rfl
theorem lg_len (E : Ex) (av : List Value) : (lg_sl (av.map (cv E))).length = (lg_sl av).length := by
  induction av with
  | nil => rfl
  | cons v l ih =>
    unfold lg_sl at ih ⊢
    simp only [List.map_cons, List.flatMap_cons, List.length_append, cv_cat, ih]
    congr 1
    split <;> rfl
theorem metA_of {y : MethodName} {cc : ByteArray} {mL : Nat} {rt : Option FieldType} {D mc ms : Nat} {av : List Value} {h h' : Hp} {r : Option Value} (hy : plainName y.cls = true) (hn : (lg_sl av).length ≤ mL)
    (body : ∀ X, Cx X y.cls cc mL rt D mc ms → EndQ X mc ms r h' → G X h 0 0 0 (lv_args 0 av) []) : MetA y cc mL rt D mc ms av h r h' := by
  intro l E
  refine Met.ofW (cc := cc) (maxL := mL) (ret := rt) hy rfl ?_
  intro p e s m args below meth c s₁ B hml hv
  obtain ⟨rfl, hR, hO, hsz⟩ := hv
  have hts := atoms_spec (ws := .code y cc mL rt :: gw) B.pre
  have hown : s.vm.findClass y.cls = some m.cls := findClass_of_methodNamed B.named
  have hl := lv_entry (av.map (cv E)) (n := mL) (by rw [lg_len]; exact hn)
  rw [lg_entry_eq]
  rw [cl2_args, ← hml] at hl
  rw [← hml]
  exact body (p, l, e, rmH D mc ms, s, m, (av.map (cv E)).toArray, below, meth, c, MQ below (rQ E r h') (av.map (cv E)).toArray s mc ms (eA E), E)
    ⟨B.exec, B.bytes, hml, hown, fun w hw => hts w (List.mem_cons_of_mem _ hw), hO, B.notSynchronized, B.returns, Nat.le_refl _, Nat.le_refl _, Nat.le_refl _, Nat.le_refl _, hsz, rfl⟩ rfl s.heap [] _ hR va_S.rf hl
/-! ===== locals ===== -/
def inl2 (q : Nat × Value) : List (Nat × Value) → List (Nat × Value)
  | [] => [q]
  | p :: l => if q.1 < p.1 then q :: p :: l else p :: inl2 q l
def stl (lv : List (Nat × Value)) (i : Nat) (v : Value) : List (Nat × Value) := inl2 (i, v) (lv.filter (fun q => !(q.1 == i) && (!(v.category == 2 && q.1 == i + 1) && !(q.1 + 1 == i && q.2.category == 2))))
theorem inl2_mem {q p : Nat × Value} : ∀ {l : List (Nat × Value)}, p ∈ inl2 q l → p = q ∨ p ∈ l
  | [], h => by simp [inl2] at h; exact Or.inl h
  | x :: l, h => by
    unfold inl2 at h
    split at h
    · rcases List.mem_cons.mp h with h | h
      · exact Or.inl h
      · exact Or.inr h
    · rcases List.mem_cons.mp h with h | h
      · exact Or.inr (h ▸ List.mem_cons_self)
      · rcases inl2_mem h with h | h
        · exact Or.inl h
        · exact Or.inr (List.mem_cons_of_mem _ h)
theorem lv_mono {ls : Array Slot} {nL : Nat} {l l' : List (Nat × Value)} (h : lv_has ls nL l) (hs : ∀ q ∈ l', q ∈ l) : lv_has ls nL l' := ⟨h.1, h.2.1, fun q hq => h.2.2 q (hs q hq)⟩
theorem stl_1 {E : Ex} {ls : Array Slot} {nL i : Nat} {lv : List (Nat × Value)} {v : Value} (hc : v.category = 1) (h : lv_has ls nL ((i, cv E v) :: (cl2 E lv).filter (fun q => !(q.1 == i) && !(q.1 + 1 == i && q.2.category == 2)))) : lv_has ls nL (cl2 E (stl lv i v)) := by
  refine lv_mono h (fun q hq => ?_)
  obtain ⟨q0, h0, rfl⟩ := List.mem_map.mp hq
  rcases inl2_mem h0 with rfl | h1
  · exact List.mem_cons_self
  · obtain ⟨h2, h3⟩ := List.mem_filter.mp h1
    refine List.mem_cons_of_mem _ (List.mem_filter.mpr ⟨List.mem_map.mpr ⟨q0, h2, rfl⟩, ?_⟩)
    simp only [cv_cat]
    simp only [Bool.and_eq_true] at h3 ⊢
    exact ⟨h3.1, h3.2.2⟩
theorem stl_2 {E : Ex} {ls : Array Slot} {nL i : Nat} {lv : List (Nat × Value)} {v : Value} (hc : v.category = 2) (h : lv_has ls nL ((i, cv E v) :: (cl2 E lv).filter (fun q => !(q.1 == i) && (!(q.1 == i + 1) && !(q.1 + 1 == i && q.2.category == 2))))) : lv_has ls nL (cl2 E (stl lv i v)) := by
  refine lv_mono h (fun q hq => ?_)
  obtain ⟨q0, h0, rfl⟩ := List.mem_map.mp hq
  rcases inl2_mem h0 with rfl | h1
  · exact List.mem_cons_self
  · obtain ⟨h2, h3⟩ := List.mem_filter.mp h1
    refine List.mem_cons_of_mem _ (List.mem_filter.mpr ⟨List.mem_map.mpr ⟨q0, h2, rfl⟩, ?_⟩)
    simp only [cv_cat]
    simp only [Bool.and_eq_true] at h3 ⊢
    refine ⟨h3.1, ?_, h3.2.2⟩
    have h4 := h3.2.1
    rw [hc] at h4
    simpa using h4
theorem cl2_at {E : Ex} {ls : Array Slot} {nL : Nat} {lv : List (Nat × Value)} (h : lv_has ls nL (cl2 E lv)) (k : Nat) {i : Nat} {v : Value} (hk : lv[k]? = some (i, v)) : ls[i]? = some (.val (cv E v)) :=
  h.2.2 (i, cv E v) (List.mem_map.mpr ⟨(i, v), List.mem_of_getElem? hk, rfl⟩)
