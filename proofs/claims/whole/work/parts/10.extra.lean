def GD : Nat := 60
def oc {α β : Type} (o : Option α) (n : β) (s : α → β) : β := match o with
  | none => n
  | some a => s a
theorem oc_n {α β : Type} {n : β} {s : α → β} : oc (none : Option α) n s = n := rfl
theorem oc_s {α β : Type} {a : α} {n : β} {s : α → β} : oc (some a) n s = s a := rfl
def sc {α β γ : Type} (e : α ⊕ β) (f : α → γ) (g : β → γ) : γ := match e with
  | .inl a => f a
  | .inr b => g b
theorem sc_l {α β γ : Type} {a : α} {f : α → γ} {g : β → γ} : sc (.inl a) f g = f a := rfl
theorem sc_r {α β γ : Type} {b : β} {f : α → γ} {g : β → γ} : sc (.inr b) f g = g b := rfl
theorem ltk_0 {Z : Prop} : 0 < 110 ∨ Z := Or.inl (by decide)
theorem ltk_1 {Z : Prop} : 1 < 110 ∨ Z := Or.inl (by decide)
theorem ltk_2 {Z : Prop} : 2 < 110 ∨ Z := Or.inl (by decide)
theorem ltk_3 {Z : Prop} : 3 < 110 ∨ Z := Or.inl (by decide)
theorem ltk_4 {Z : Prop} : 4 < 110 ∨ Z := Or.inl (by decide)
theorem ltk_5 {Z : Prop} : 5 < 110 ∨ Z := Or.inl (by decide)
theorem ltk_6 {Z : Prop} : 6 < 110 ∨ Z := Or.inl (by decide)
theorem ltk_7 {Z : Prop} : 7 < 110 ∨ Z := Or.inl (by decide)
theorem ltk_8 {Z : Prop} : 8 < 110 ∨ Z := Or.inl (by decide)
theorem ltk_9 {Z : Prop} : 9 < 110 ∨ Z := Or.inl (by decide)
theorem ltk_10 {Z : Prop} : 10 < 110 ∨ Z := Or.inl (by decide)
theorem ltk_11 {Z : Prop} : 11 < 110 ∨ Z := Or.inl (by decide)
theorem ltk_12 {Z : Prop} : 12 < 110 ∨ Z := Or.inl (by decide)
theorem ltk_13 {Z : Prop} : 13 < 110 ∨ Z := Or.inl (by decide)
theorem ltk_14 {Z : Prop} : 14 < 110 ∨ Z := Or.inl (by decide)
theorem ltk_15 {Z : Prop} : 15 < 110 ∨ Z := Or.inl (by decide)
theorem ltk_16 {Z : Prop} : 16 < 110 ∨ Z := Or.inl (by decide)
theorem ltk_17 {Z : Prop} : 17 < 110 ∨ Z := Or.inl (by decide)
theorem ltk_18 {Z : Prop} : 18 < 110 ∨ Z := Or.inl (by decide)
theorem ltk_19 {Z : Prop} : 19 < 110 ∨ Z := Or.inl (by decide)
theorem ltk_20 {Z : Prop} : 20 < 110 ∨ Z := Or.inl (by decide)
theorem ltk_21 {Z : Prop} : 21 < 110 ∨ Z := Or.inl (by decide)
theorem ltk_22 {Z : Prop} : 22 < 110 ∨ Z := Or.inl (by decide)
theorem ltk_23 {Z : Prop} : 23 < 110 ∨ Z := Or.inl (by decide)
theorem ltk_24 {Z : Prop} : 24 < 110 ∨ Z := Or.inl (by decide)
theorem ltk_25 {Z : Prop} : 25 < 110 ∨ Z := Or.inl (by decide)
theorem ltk_26 {Z : Prop} : 26 < 110 ∨ Z := Or.inl (by decide)
theorem ltk_27 {Z : Prop} : 27 < 110 ∨ Z := Or.inl (by decide)
theorem ltk_28 {Z : Prop} : 28 < 110 ∨ Z := Or.inl (by decide)
theorem ltk_29 {Z : Prop} : 29 < 110 ∨ Z := Or.inl (by decide)
theorem ltk_30 {Z : Prop} : 30 < 110 ∨ Z := Or.inl (by decide)
theorem ltk_31 {Z : Prop} : 31 < 110 ∨ Z := Or.inl (by decide)
theorem ltk_32 {Z : Prop} : 32 < 110 ∨ Z := Or.inl (by decide)
theorem ltk_33 {Z : Prop} : 33 < 110 ∨ Z := Or.inl (by decide)
theorem ltk_34 {Z : Prop} : 34 < 110 ∨ Z := Or.inl (by decide)
theorem ltk_35 {Z : Prop} : 35 < 110 ∨ Z := Or.inl (by decide)
theorem ltk_36 {Z : Prop} : 36 < 110 ∨ Z := Or.inl (by decide)
theorem ltk_37 {Z : Prop} : 37 < 110 ∨ Z := Or.inl (by decide)
theorem ltk_38 {Z : Prop} : 38 < 110 ∨ Z := Or.inl (by decide)
theorem ltk_39 {Z : Prop} : 39 < 110 ∨ Z := Or.inl (by decide)
theorem ltk_40 {Z : Prop} : 40 < 110 ∨ Z := Or.inl (by decide)
theorem ltk_41 {Z : Prop} : 41 < 110 ∨ Z := Or.inl (by decide)
theorem ltk_42 {Z : Prop} : 42 < 110 ∨ Z := Or.inl (by decide)
theorem ltk_43 {Z : Prop} : 43 < 110 ∨ Z := Or.inl (by decide)
theorem ltk_44 {Z : Prop} : 44 < 110 ∨ Z := Or.inl (by decide)
theorem ltk_45 {Z : Prop} : 45 < 110 ∨ Z := Or.inl (by decide)
theorem ltk_46 {Z : Prop} : 46 < 110 ∨ Z := Or.inl (by decide)
theorem ltk_47 {Z : Prop} : 47 < 110 ∨ Z := Or.inl (by decide)
theorem ltk_48 {Z : Prop} : 48 < 110 ∨ Z := Or.inl (by decide)
theorem ltk_49 {Z : Prop} : 49 < 110 ∨ Z := Or.inl (by decide)
theorem ltk_50 {Z : Prop} : 50 < 110 ∨ Z := Or.inl (by decide)
theorem ltk_51 {Z : Prop} : 51 < 110 ∨ Z := Or.inl (by decide)
theorem ltk_52 {Z : Prop} : 52 < 110 ∨ Z := Or.inl (by decide)
theorem ltk_53 {Z : Prop} : 53 < 110 ∨ Z := Or.inl (by decide)
theorem ltk_54 {Z : Prop} : 54 < 110 ∨ Z := Or.inl (by decide)
theorem ltk_55 {Z : Prop} : 55 < 110 ∨ Z := Or.inl (by decide)
theorem ltk_56 {Z : Prop} : 56 < 110 ∨ Z := Or.inl (by decide)
theorem ltk_57 {Z : Prop} : 57 < 110 ∨ Z := Or.inl (by decide)
theorem ltk_58 {Z : Prop} : 58 < 110 ∨ Z := Or.inl (by decide)
theorem ltk_59 {Z : Prop} : 59 < 110 ∨ Z := Or.inl (by decide)
theorem ltk_60 {Z : Prop} : 60 < 110 ∨ Z := Or.inl (by decide)
theorem ltk_61 {Z : Prop} : 61 < 110 ∨ Z := Or.inl (by decide)
theorem ltk_62 {Z : Prop} : 62 < 110 ∨ Z := Or.inl (by decide)
theorem ltk_63 {Z : Prop} : 63 < 110 ∨ Z := Or.inl (by decide)
theorem ltk_64 {Z : Prop} : 64 < 110 ∨ Z := Or.inl (by decide)
theorem ltk_65 {Z : Prop} : 65 < 110 ∨ Z := Or.inl (by decide)
theorem ltk_66 {Z : Prop} : 66 < 110 ∨ Z := Or.inl (by decide)
theorem ltk_67 {Z : Prop} : 67 < 110 ∨ Z := Or.inl (by decide)
theorem ltk_68 {Z : Prop} : 68 < 110 ∨ Z := Or.inl (by decide)
theorem ltk_69 {Z : Prop} : 69 < 110 ∨ Z := Or.inl (by decide)
theorem ltk_70 {Z : Prop} : 70 < 110 ∨ Z := Or.inl (by decide)
theorem ltk_71 {Z : Prop} : 71 < 110 ∨ Z := Or.inl (by decide)
theorem ltk_72 {Z : Prop} : 72 < 110 ∨ Z := Or.inl (by decide)
theorem ltk_73 {Z : Prop} : 73 < 110 ∨ Z := Or.inl (by decide)
theorem ltk_74 {Z : Prop} : 74 < 110 ∨ Z := Or.inl (by decide)
theorem ltk_75 {Z : Prop} : 75 < 110 ∨ Z := Or.inl (by decide)
theorem ltk_76 {Z : Prop} : 76 < 110 ∨ Z := Or.inl (by decide)
theorem ltk_77 {Z : Prop} : 77 < 110 ∨ Z := Or.inl (by decide)
theorem ltk_78 {Z : Prop} : 78 < 110 ∨ Z := Or.inl (by decide)
theorem ltk_79 {Z : Prop} : 79 < 110 ∨ Z := Or.inl (by decide)
theorem ltk_80 {Z : Prop} : 80 < 110 ∨ Z := Or.inl (by decide)
theorem ltk_81 {Z : Prop} : 81 < 110 ∨ Z := Or.inl (by decide)
theorem ltk_82 {Z : Prop} : 82 < 110 ∨ Z := Or.inl (by decide)
theorem ltk_83 {Z : Prop} : 83 < 110 ∨ Z := Or.inl (by decide)
theorem ltk_84 {Z : Prop} : 84 < 110 ∨ Z := Or.inl (by decide)
theorem ltk_85 {Z : Prop} : 85 < 110 ∨ Z := Or.inl (by decide)
theorem ltk_86 {Z : Prop} : 86 < 110 ∨ Z := Or.inl (by decide)
theorem ltk_87 {Z : Prop} : 87 < 110 ∨ Z := Or.inl (by decide)
theorem ltk_88 {Z : Prop} : 88 < 110 ∨ Z := Or.inl (by decide)
theorem ltk_89 {Z : Prop} : 89 < 110 ∨ Z := Or.inl (by decide)
theorem ltk_90 {Z : Prop} : 90 < 110 ∨ Z := Or.inl (by decide)
theorem ltk_91 {Z : Prop} : 91 < 110 ∨ Z := Or.inl (by decide)
theorem ltk_92 {Z : Prop} : 92 < 110 ∨ Z := Or.inl (by decide)
theorem ltk_93 {Z : Prop} : 93 < 110 ∨ Z := Or.inl (by decide)
theorem ltk_94 {Z : Prop} : 94 < 110 ∨ Z := Or.inl (by decide)
theorem ltk_95 {Z : Prop} : 95 < 110 ∨ Z := Or.inl (by decide)
theorem ltk_96 {Z : Prop} : 96 < 110 ∨ Z := Or.inl (by decide)
theorem ltk_97 {Z : Prop} : 97 < 110 ∨ Z := Or.inl (by decide)
theorem ltk_98 {Z : Prop} : 98 < 110 ∨ Z := Or.inl (by decide)
theorem ltk_99 {Z : Prop} : 99 < 110 ∨ Z := Or.inl (by decide)
theorem ltk_100 {Z : Prop} : 100 < 110 ∨ Z := Or.inl (by decide)
theorem ltk_101 {Z : Prop} : 101 < 110 ∨ Z := Or.inl (by decide)
theorem ltk_102 {Z : Prop} : 102 < 110 ∨ Z := Or.inl (by decide)
theorem ltk_103 {Z : Prop} : 103 < 110 ∨ Z := Or.inl (by decide)
theorem ltk_104 {Z : Prop} : 104 < 110 ∨ Z := Or.inl (by decide)
theorem ltk_105 {Z : Prop} : 105 < 110 ∨ Z := Or.inl (by decide)
theorem ltk_106 {Z : Prop} : 106 < 110 ∨ Z := Or.inl (by decide)
theorem ltk_107 {Z : Prop} : 107 < 110 ∨ Z := Or.inl (by decide)
theorem ltk_108 {Z : Prop} : 108 < 110 ∨ Z := Or.inl (by decide)
theorem ltk_109 {Z : Prop} : 109 < 110 ∨ Z := Or.inl (by decide)
section GZ
variable {X : Xt} {own : String} {cc : ByteArray} {nL : Nat} {rt : Option FieldType} {D mc ms : Nat} {h : Hp} {k n pc : Nat} {lv : List (Nat × Value)} {st : List Value}
theorem g_putZ {idx ci f a : Nat} {fs : List (Option Nat)} {x : Int32} {b : Bool} (C : Cx X own cc nL rt D mc ms) (hd : decode cc pc = .ok (.putfield idx, 3)) (hF : FLk own idx ci f .boolean false) (hb : x = b2i b) (hk : kd a = .inl (ci, fs)) (hf : fs[f]? = some none) (ha : a < 110 ∨ a < sz h) (next : G X (sF h a f (b2i b)) k n (pc + 3) lv st) : G X h k n pc lv (.int x :: .ref a :: st) := by
  subst hb
  exact g_putI C hd hF (b2i_narrow b).1 (b2i_narrow b).2 hk hf ha next
end GZ
theorem metA_ofJ {y : MethodName} {cc : ByteArray} {mL : Nat} {rt : Option FieldType} {D mc ms : Nat} {av : List Value} {h h' : Hp} {r : Option Value} (hy : plainFor y = true) (hn : (lg_sl av).length ≤ mL)
    (body : ∀ X, Cx X y.cls cc mL rt D mc ms → EndQ X mc ms r h' → G X h 0 0 0 (lv_args 0 av) []) : MetA y cc mL rt D mc ms av h r h' := by
  intro l E
  refine MetFree.of_bodySF (code := cc) (maxLocals := mL) (ret := rt) hy ?_ ?_
  · intro args s m hh hnm
    obtain ⟨meth, c, h1, h2, h3, h4, h5, h6, -, -⟩ := Cond.code_spec hnm (atoms_spec (ws := .code y cc mL rt :: gw) hh _ List.mem_cons_self)
    exact ⟨meth, c, h1, h2, h3, h4, h5, h6⟩
  · intro p e s m args below meth c s₁ B hml hv _
    have hh0 : s₁.heap = s.heap := by rw [B.state]; rfl
    obtain ⟨rfl, hR, hO, hsz⟩ := hv
    have hts := atoms_spec (ws := .code y cc mL rt :: gw) B.pre
    have hown : s.vm.findClass y.cls = some m.cls := findClass_of_methodNamed B.named
    have hl := lv_entry (av.map (cv E)) (n := mL) (by rw [lg_len]; exact hn)
    rw [cl2_args, ← hml] at hl
    have key := body (p, l, e, rmH D mc ms, s, m, (av.map (cv E)).toArray, below, meth, c, MQ below (rQ E r h') (av.map (cv E)).toArray s mc ms (eA E), E)
      ⟨B.exec, B.bytes, hml, hown, fun w hw => hts w (List.mem_cons_of_mem _ hw), hO, B.notSynchronized, B.returns, Nat.le_refl _, Nat.le_refl _, Nat.le_refl _, Nat.le_refl _, hsz, rfl⟩ rfl s.heap [] _ hR va_S.rf hl
    rw [lg_entry_eq, ← hml]
    obtain ⟨t, a1, o, b1, b2, b3⟩ := key s₁ hh0 (Stand.of_body B)
    exact ⟨t, o, a1, b1, b2, ⟨b3.1, b3.2⟩⟩
theorem ic_6 : Int32.ofInt (6) = (6 : Int32) := by decide
theorem ic_m8 : Int32.ofInt (-8) = (-8 : Int32) := by decide
theorem al_6_27 : Cond.methodLink cn_6 27 arraycopyName ∈ gw := gm_1 99 rfl rfl
theorem gs_M : Cond.fieldLink "SteamNations" 181 "SteamNations" "MOST_OF_TERM" "[I" ∈ gw := gm_3 35 rfl rfl
theorem al_4_19 : Cond.methodLink cn_4 19 arraycopyName ∈ gw := gm_4 26 rfl rfl
theorem al_10_380 : Cond.methodLink cn_10 380 arraycopyName ∈ gw := gm_5 107 rfl rfl
theorem al_1_43 : Cond.methodLink cn_1 43 arraycopyName ∈ gw := gm_5 149 rfl rfl
