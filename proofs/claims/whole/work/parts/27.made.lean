/-! ===== cells as a list: while objects are made ===== -/
abbrev CC : Type := (Nat × List Value) ⊕ (Nat × Nat × ((Nat → Int32) ⊕ (Nat → Int64) ⊕ (Nat → Option Nat)))
def cC (E : Ex) : CC → va_E
  | .inl (ci, vs) => .inr (ci, vs.map (cv E))
  | .inr (t, n, .inl f) => .inl (E.2.1 t, n, .inl f)
  | .inr (t, n, .inr (.inl f)) => .inl (E.2.1 t, n, .inr (.inl f))
  | .inr (t, n, .inr (.inr f)) => .inl (E.2.1 t, n, .inr (.inr (.inr (.inr (fun i => (f i).map (ra E))))))
def wsC (E : Ex) (cs : List CC) : va_W := cs.mapIdx (fun a c => (E.2.2.1 + a, cC E c))
def Rc (E : Ex) (cs : List CC) (H : Heap) : Prop := H.size = E.2.2.1 + cs.length ∧ cs.length < 1000000 ∧ va_P E.1 cls (wsC E cs) H
theorem wc_at {E : Ex} {cs : List CC} {a : Nat} {c : CC} (h : cs[a]? = some c) : (wsC E cs)[a]? = some (E.2.2.1 + a, cC E c) := by
  unfold wsC
  rw [List.getElem?_mapIdx, h]
  rfl
theorem wc_D (E : Ex) (cs : List CC) : va_D (eA E) (wsC E cs) := by
  have key : ∀ (k : Nat) (q : Nat × va_E), (wsC E cs)[k]? = some q → q.1 = E.2.2.1 + k := by
    intro k q hk
    unfold wsC at hk
    rw [List.getElem?_mapIdx] at hk
    cases hc : cs[k]? with
    | none => rw [hc] at hk; cases hk
    | some c => rw [hc] at hk; cases hk; rfl
  refine ⟨fun i j p q hi hj hpq => ?_, fun k q hk => ?_⟩
  · have h1 := key i p hi
    have h2 := key j q hj
    omega
  · rw [key k q hk]
    exact Nat.le_add_right _ _
theorem wc_set {E : Ex} {cs : List CC} {a : Nat} {c : CC} : (wsC E cs).set a (E.2.2.1 + a, cC E c) = wsC E (cs.set a c) := by
  apply List.ext_getElem?
  intro k
  unfold wsC
  rw [List.getElem?_mapIdx]
  by_cases hka : a = k
  · subst hka
    by_cases hl : a < cs.length
    · rw [List.getElem?_set_self (by simpa using hl), List.getElem?_set_self hl]
      rfl
    · have h1 : (cs.set a c)[a]? = none := by simp; omega
      have h2 : ((cs.mapIdx (fun a c => (E.2.2.1 + a, cC E c))).set a (E.2.2.1 + a, cC E c))[a]? = none := by simp; omega
      rw [h1, h2]
      rfl
  · rw [List.getElem?_set_ne hka, List.getElem?_set_ne hka, List.getElem?_mapIdx]
theorem wc_push {E : Ex} {cs : List CC} {c : CC} : wsC E (cs ++ [c]) = wsC E cs ++ [(E.2.2.1 + cs.length, cC E c)] := by
  unfold wsC
  rw [List.mapIdx_append]
  simp
theorem Rc_set {E : Ex} {cs : List CC} {a : Nat} {c0 c : CC} {H H1 : Heap} (hR : Rc E cs H) (ha : cs[a]? = some c0) (hs : H1.size = H.size) (oq : ∀ q : Nat, q ≠ E.2.2.1 + a → H1[q]? = H[q]?) (he : va_at E.1 cls (E.2.2.1 + a, cC E c) H1) : Rc E (cs.set a c) H1 := by
  obtain ⟨r1, r2, r3⟩ := hR
  refine ⟨by rw [hs, List.length_set]; exact r1, by rw [List.length_set]; exact r2, ?_⟩
  have hP := r3.set (wc_D E cs) (wc_at ha) he oq
  rw [wc_set] at hP
  exact hP
theorem Rc_push {E : Ex} {cs : List CC} {c : CC} {H H1 : Heap} (hR : Rc E cs H) (hz : cs.length + 1 < 1000000) (hs : H1.size = H.size + 1) (oq : ∀ q : Nat, q < H.size → H1[q]? = H[q]?) (he : va_at E.1 cls (E.2.2.1 + cs.length, cC E c) H1) : Rc E (cs ++ [c]) H1 := by
  obtain ⟨r1, r2, r3⟩ := hR
  refine ⟨by rw [hs, r1, List.length_append]; rfl, by rw [List.length_append]; exact hz, ?_⟩
  rw [wc_push]
  refine (r3.kept (fun k q hk => oq q.1 (r3 k q hk).lt)).app (fun k q hk => ?_)
  have hz : k < 1 := (List.getElem?_eq_some_iff.mp hk).1
  rw [show k = 0 by omega] at hk
  cases hk
  exact he
def Gc (X : Xt) (cs : List CC) (k n pc : Nat) (lv : List (Nat × Value)) (st : List Value) : Prop := match X with
  | (p, l, e, R, s, m, args, below, meth, c, Q, E) => ∀ (H : Heap) (locs : List Loc) (ls : Array Slot), Rc E cs H → va_S (eA E) s.heap H locs → lv_has ls c.maxLocals (cl2 E lv) → W p l e R s m args below meth c H locs k n Q (F0 m pc ls (st.map (cv E)))
def rQC (E : Ex) (r : Option Value) (cs' : List CC) : Array Value → State → Outcome → State → Prop := fun _ st oc t => oc = .returned (r.map (cv E)) ∧ Rc E cs' t.heap ∧ va_F (eA E) st t
def EndC (X : Xt) (mc ms : Nat) (r : Option Value) (cs' : List CC) : Prop := match X with
  | (p, l, e, R, s, m, args, below, meth, c, Q, E) => Q = MQ below (rQC E r cs') args s mc ms (eA E) ∧ (meth.name = "<init>" ∨ True)
def isIni (X : Xt) : Prop := match X with
  | (p, l, e, R, s, m, args, below, meth, c, Q, E) => meth.name = "<init>"
def aPcC (E : Ex) (av : List Value) (cs : List CC) : Array Value → State → Prop := va_Pc (av.map (cv E)) (fun U => Rc E cs U.heap ∧ Ok E U ∧ E.2.2.1 ≤ U.heap.size)
def MetC (y : MethodName) (cc : ByteArray) (mL : Nat) (rt : Option FieldType) (D mc ms : Nat) (av : List Value) (cs : List CC) (r : Option Value) (cs' : List CC) : Prop :=
  ∀ (l : Launch) (E : Ex), Met l y (.code y cc mL rt :: gw) (rmH D mc ms) (aPcC E av cs) (rQC E r cs') mc ms (eA E)
theorem aPcC_blind (E : Ex) (av : List Value) (cs : List CC) : FrameBlind (aPcC E av cs) := by
  intro a U g mk q
  obtain ⟨h1, h2, h3, h4⟩ := q
  exact ⟨h1, h2, h3.mv (U := U.calling g mk a) (State.WarmedH.refl U) (fun _ _ _ => rfl), h4⟩
theorem metC_of {y : MethodName} {cc : ByteArray} {mL : Nat} {rt : Option FieldType} {D mc ms : Nat} {av : List Value} {cs cs' : List CC} {r : Option Value} (hy : plainFor y = true) (hn : (lg_sl av).length ≤ mL)
    (body : ∀ X, Cx X y.cls cc mL rt D mc ms → (y.name = "<init>" → isIni X) → EndC X mc ms r cs' → Gc X cs 0 0 0 (lv_args 0 av) []) : MetC y cc mL rt D mc ms av cs r cs' := by
  intro l E
  refine MetFree.of_bodySF (code := cc) (maxLocals := mL) (ret := rt) hy ?_ ?_
  · intro args s m hh hnm
    obtain ⟨meth, c, h1, h2, h3, h4, h5, h6, -, -⟩ := Cond.code_spec hnm (atoms_spec (ws := .code y cc mL rt :: gw) hh _ List.mem_cons_self)
    exact ⟨meth, c, h1, h2, h3, h4, h5, h6⟩
  · intro p e s m args below meth c s₁ B hml hv _
    have hh0 : s₁.heap = s.heap := by rw [B.state]; rfl
    obtain ⟨rfl, hR, hO, hsz⟩ := hv
    have hts := atoms_spec (ws := .code y cc mL rt :: gw) B.pre
    have hown : s.vm.findClass y.cls = some m.cls := findClass_of_methodNamed B.named
    have hl := lv_entry (av.map (cv E)) (n := mL) (by rw [lg_len]; exact hn)
    rw [cl2_args, ← hml] at hl
    have key := body (p, l, e, rmH D mc ms, s, m, (av.map (cv E)).toArray, below, meth, c, MQ below (rQC E r cs') (av.map (cv E)).toArray s mc ms (eA E), E)
      ⟨B.exec, B.bytes, hml, hown, fun w hw => hts w (List.mem_cons_of_mem _ hw), hO, B.notSynchronized, B.returns, Nat.le_refl _, Nat.le_refl _, Nat.le_refl _, Nat.le_refl _, hsz, rfl⟩ (fun hyn => by show meth.name = "<init>"; rw [(name_of_methodNamed B.named B.method).1]; exact hyn) ⟨rfl, Or.inr trivial⟩ s.heap [] _ hR va_S.rf hl
    rw [lg_entry_eq, ← hml]
    obtain ⟨t, a1, o, b1, b2, b3⟩ := key s₁ hh0 (Stand.of_body B)
    exact ⟨t, o, a1, b1, b2, ⟨b3.1, b3.2⟩⟩
/-! ===== what is done to the list ===== -/
def dfl : Nat → List Value
  | 0 => [.null, .null, .null, .null, .int 0, .int 0, .int 0]
  | 1 => [.null, .null, .null, .int 0, .int 0, .null, .int 0]
  | 2 => [.null, .null]
  | 3 => [.null, .null, .null]
  | 4 => [.null, .int 0, .int 0]
  | 5 => [.null, .null, .null, .null, .null, .int 0, .int 0, .int 0, .int 0, .int 0, .int 0]
  | 6 => [.int 0, .null, .null, .null, .null]
  | 7 => [.null, .null, .null, .null, .null, .null, .null, .null, .null, .int 0, .int 0, .int 0]
  | 8 => [.null, .null, .null]
  | 9 => [.null, .null, .int 0, .int 0]
  | 10 => [.null, .null, .null, .null, .null, .null, .null, .null, .null, .null, .null, .null, .null, .null, .null, .null, .int 0, .int 0, .int 0, .int 0]
  | 11 => [.int 0, .null, .null, .null, .null, .null, .int 0, .null, .int 0, .int 0, .int 0, .null, .null, .int 0, .int 0, .null, .null, .null, .int 0, .int 0, .int 0, .int 0, .int 0, .int 0, .int 0, .int 0, .null, .int 0, .int 0, .null, .null, .null, .int 0, .null, .null, .int 0, .int 0, .null, .null, .null, .null, .null, .null, .null, .null, .null, .int 0, .int 0, .int 0, .int 0, .int 0, .int 0, .null, .null, .int 0, .int 0]
  | _ => []
def zr (t : Nat) : (Nat → Int32) ⊕ (Nat → Int64) ⊕ (Nat → Option Nat) := if t < 3 then .inl (fun _ => 0) else if t = 3 then .inr (.inl (fun _ => 0)) else .inr (.inr (fun _ => none))
def nwO (ci : Nat) (cs : List CC) : Option (List CC) := if cs.length + 1 < 1000000 then some (cs ++ [.inl (ci, dfl ci)]) else none
def nwA (t n : Nat) (cs : List CC) : Option (List CC) := if cs.length + 1 < 1000000 then some (cs ++ [.inr (t, n, zr t)]) else none
def pF (ci f : Nat) (v : Value) (a : Nat) (cs : List CC) : Option (List CC) := match cs[a]? with
  | some (.inl (c, vs)) => if c = ci ∧ f < vs.length then some (cs.set a (.inl (c, vs.set f v))) else none
  | _ => none
def gR (ci f a : Nat) (cs : List CC) : Option Nat := match cs[a]? with
  | some (.inl (c, vs)) => if c = ci then (match vs[f]? with
    | some (.ref b) => some b
    | _ => none) else none
  | _ => none
def arI (t a : Nat) (cs : List CC) : Option (Nat × (Nat → Int32)) := match cs[a]? with
  | some (.inr (t', n, .inl f)) => if t' = t then some (n, f) else none
  | _ => none
def sAI (t a j : Nat) (x : Int32) (cs : List CC) : Option (List CC) := match cs[a]? with
  | some (.inr (t', n, .inl f)) => if t' = t ∧ j < n then some (cs.set a (.inr (t', n, .inl (upd f j x)))) else none
  | _ => none
def sAR (a j b : Nat) (cs : List CC) : Option (List CC) := match cs[a]?, cs[b]? with
  | some (.inr (t, n, .inr (.inr f))), some (.inl (c, _)) => if t = 5 ∧ c = 1 ∧ j < n then some (cs.set a (.inr (t, n, .inr (.inr (va_up f j (some b)))))) else none
  | _, _ => none
def cpF (a : Nat) (cs : List CC) : Option (List CC) := match cs[a]? with
  | some (.inr (t, n, .inl f)) => if t = 0 ∧ n = 3 then some (cs.set a (.inr (t, n, .inl (va_cpy (fun j => fiT.getD j 0) f 0 0 3)))) else none
  | _ => none
theorem pF_eq {ci f a : Nat} {v : Value} {cs cs' : List CC} (h : pF ci f v a cs = some cs') : ∃ vs, cs[a]? = some (.inl (ci, vs)) ∧ f < vs.length ∧ cs' = cs.set a (.inl (ci, vs.set f v)) := by
  unfold pF at h
  split at h
  · rename_i c vs hc
    split at h
    · rename_i hh
      obtain ⟨rfl, h2⟩ := hh
      exact ⟨vs, hc, h2, (Option.some.inj h).symm⟩
    · cases h
  · cases h
theorem gR_eq {ci f a b : Nat} {cs : List CC} (h : gR ci f a cs = some b) : ∃ vs, cs[a]? = some (.inl (ci, vs)) ∧ vs[f]? = some (.ref b) := by
  unfold gR at h
  split at h
  · rename_i c vs hc
    split at h
    · rename_i hh
      subst hh
      split at h
      · rename_i b' hb
        cases h
        exact ⟨vs, hc, hb⟩
      · cases h
    · cases h
  · cases h
theorem arI_eq {t a n : Nat} {f : Nat → Int32} {cs : List CC} (h : arI t a cs = some (n, f)) : cs[a]? = some (.inr (t, n, .inl f)) := by
  unfold arI at h
  split at h
  · rename_i t' n' f' hc
    split at h
    · rename_i hh
      subst hh
      cases h
      exact hc
    · cases h
  · cases h
theorem sAI_eq {t a j : Nat} {x : Int32} {cs cs' : List CC} (h : sAI t a j x cs = some cs') : ∃ n f, cs[a]? = some (.inr (t, n, .inl f)) ∧ j < n ∧ cs' = cs.set a (.inr (t, n, .inl (upd f j x))) := by
  unfold sAI at h
  split at h
  · rename_i t' n f hc
    split at h
    · rename_i hh
      obtain ⟨rfl, h2⟩ := hh
      exact ⟨n, f, hc, h2, (Option.some.inj h).symm⟩
    · cases h
  · cases h
theorem sAR_eq {a j b : Nat} {cs cs' : List CC} (h : sAR a j b cs = some cs') : ∃ n f vs, cs[a]? = some (.inr (5, n, .inr (.inr f))) ∧ cs[b]? = some (.inl (1, vs)) ∧ j < n ∧ cs' = cs.set a (.inr (5, n, .inr (.inr (va_up f j (some b))))) := by
  unfold sAR at h
  split at h
  · rename_i t n f c vs hc hb
    split at h
    · rename_i hh
      obtain ⟨rfl, rfl, h2⟩ := hh
      exact ⟨n, f, vs, hc, hb, h2, (Option.some.inj h).symm⟩
    · cases h
  · cases h
theorem cpF_eq {a : Nat} {cs cs' : List CC} (h : cpF a cs = some cs') : ∃ f, cs[a]? = some (.inr (0, 3, .inl f)) ∧ cs' = cs.set a (.inr (0, 3, .inl (va_cpy (fun j => fiT.getD j 0) f 0 0 3))) := by
  unfold cpF at h
  split at h
  · rename_i t n f hc
    split at h
    · rename_i hh
      obtain ⟨rfl, rfl⟩ := hh
      exact ⟨f, hc, (Option.some.inj h).symm⟩
    · cases h
  · cases h
theorem nwO_eq {ci : Nat} {cs cs' : List CC} (h : nwO ci cs = some cs') : cs.length + 1 < 1000000 ∧ cs' = cs ++ [.inl (ci, dfl ci)] := by
  unfold nwO at h
  split at h
  · rename_i hh
    exact ⟨hh, (Option.some.inj h).symm⟩
  · cases h
theorem nwA_eq {t n : Nat} {cs cs' : List CC} (h : nwA t n cs = some cs') : cs.length + 1 < 1000000 ∧ cs' = cs ++ [.inr (t, n, zr t)] := by
  unfold nwA at h
  split at h
  · rename_i hh
    exact ⟨hh, (Option.some.inj h).symm⟩
  · cases h
