set_option maxRecDepth 100000 in
set_option maxHeartbeats 40000000 in
theorem i11_eq : i_X11 81 (L10 ++ [.inl (11, dfl 11)]) = some (L10 ++ L11) := rfl
def LL : List CC := L10 ++ L11
def h0 : Hp := (fun a k => match LL[a]? with
    | some (.inl (_, vs)) => (match vs[k]? with
      | some (.int x) => x
      | _ => 0)
    | _ => 0,
  fun a => match LL[a]? with
    | some (.inr (_, _, .inl f)) => f
    | _ => fun _ => 0,
  fun _ _ => 0,
  fun a => match LL[a]? with
    | some (.inr (_, _, .inr (.inr f))) => f
    | _ => fun _ => none,
  fun _ => 0, 110)
set_option maxRecDepth 100000 in
set_option maxHeartbeats 40000000 in
theorem h0_eq : csOf h0 = L10 ++ L11 := rfl
