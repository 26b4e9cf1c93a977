section GN
variable {X : Xt} {own : String} {cc : ByteArray} {nL : Nat} {rt : Option FieldType} {D mc ms : Nat} {h : Hp} {k n pc : Nat} {lv : List (Nat × Value)} {st : List Value}
theorem g_aload_nN {i : Fin 4} (C : Cx X own cc nL rt D mc ms) (hd : decode cc pc = .ok (.aload_n i, 1)) (q : Nat) (hq : lv[q]? = some ((i : Nat), .null)) (next : G X h k n (pc + 1) lv (.null :: st)) : G X h k n pc lv st := by
  obtain ⟨p, l, e, R, s, m, args, below, meth, c, Q, E⟩ := X
  obtain ⟨hx, hb, hml, hown, hts, hO, hlk, hrt, hfr, hlo, hce, hsl, hbs, -⟩ := C
  intro H locs ls hR hS hl
  exact lv_aload_nN hx hb hd rfl (cl2_at hl q hq) (next H locs ls hR hS hl)
theorem g_astore_nN {i : Fin 4} {lv' : List (Nat × Value)} (C : Cx X own cc nL rt D mc ms) (hd : decode cc pc = .ok (.astore_n i, 1)) (hn : (i : Nat) < nL) (hv : stl lv (i : Nat) .null = lv') (next : G X h k n (pc + 1) lv' st) : G X h k n pc lv (.null :: st) := by
  obtain ⟨p, l, e, R, s, m, args, below, meth, c, Q, E⟩ := X
  obtain ⟨hx, hb, hml, hown, hts, hO, hlk, hrt, hfr, hlo, hce, hsl, hbs, -⟩ := C
  intro H locs ls hR hS hl
  subst hv
  exact lv_astore_nN hx hb hd rfl hl (by rw [hml]; exact hn) rfl (fun ls hl2 => next H locs ls hR hS (stl_1 (v := .null) rfl hl2))
end GN
