/-! ===== drawn mornings ===== -/
def drN (s : Nat) : Nat := (1103 * s + 12345) % 1000003
theorem drN_lt (s : Nat) : drN s < 1000003 := Nat.mod_lt _ (by omega)
theorem c_draw {s : Nat} (hs : s < 1000003) : f_X10_nextDraw (nI s) = some (nI (drN s)) := by
  unfold f_X10_nextDraw drN
  rw [show ((1103 : Int32)) = nI 1103 from rfl, show ((12345 : Int32)) = nI 12345 from rfl, show ((1000003 : Int32)) = nI 1000003 from rfl, pk_mul, nI_add, pk_rem (by omega) (by omega) (by omega), Nat.mul_comm s 1103]
theorem m_draws {h : Hp} {s m : Nat} (e : fI h 81 55 = nI s) (hs : s < 1000003) (hm : 0 < m) (hm2 : m < 2 ^ 31) : f_X11_draws (nI m) h = some (nI (drN s % m), sF h 81 55 (nI (drN s))) := by
  have := drN_lt s
  unfold f_X11_draws
  rw [if_neg (show ¬ nI m = 0 from fun c => by have := (nI_eq (by omega) (by omega)).mp (show nI m = nI 0 from c); omega), e, nI_l (by omega), show ((1103 : Int64)) = lN 1103 from rfl, show ((12345 : Int64)) = lN 12345 from rfl, show ((1000003 : Int64)) = lN 1000003 from rfl, lN_mul, lN_add, pk_lRem (by omega) (by omega) (by omega), lN_i, fI_s, show (1103 * s + 12345) % 1000003 = drN s from rfl, pk_rem (by omega) hm hm2]
/-- a sitter p, a seat t, what is done c -/
def mvd (K : Nat → Int32) (k p t c : Nat) : Nat → Int32 := if c = 0 then (if whoK K k (nI t) = -1 then upd K (18 + p) (nI t) else K) else if c = 1 then upd K (18 + p) (-1) else K
theorem WF_mvd {K : Nat → Int32} {k p t c : Nat} (hw : WF K k) (hp : p < k) (ht : t < 9) : WF (mvd K k p t c) k := by
  unfold mvd
  by_cases c0 : c = 0
  · rw [if_pos c0]
    by_cases c1 : whoK K k (nI t) = -1
    · rw [if_pos c1]; exact WF_seat hw hp ht (fun q hq _ => who_no hw ht c1 q hq)
    · rw [if_neg c1]; exact hw
  · rw [if_neg c0]
    by_cases c1 : c = 1
    · rw [if_pos c1]; exact WF_out hw hp
    · rw [if_neg c1]; exact hw
theorem mvd_o {K : Nat → Int32} {k p t c i : Nat} (hi : i ≠ 18 + p) : mvd K k p t c i = K i := by
  unfold mvd
  repeat' split
  · exact pk_un hi
  · rfl
  · exact pk_un hi
  · rfl
theorem c_move {h : Hp} {K : Nat → Int32} {k p t c : Nat} (hR : RRh h 17 K) (hw : WF K k) (hp : p < k) (ht : t < 9) (hc : c < 3) : ∃ h', f_X10_moveByDraw (nI p) (nI t) (nI c) h = some ((), h') ∧ RRh h' 17 (mvd K k p t c) ∧ Fr (fun a => a = 20) noF h h' := by
  have h6 := hw.2.1
  have tn : nI t ≠ -1 := nI_ne1 (by omega)
  have e0 : nI c = 0 ↔ c = 0 := nI_eq (a := c) (b := 0) (by omega) (by omega)
  have e1 : nI c = 1 ↔ c = 1 := nI_eq (a := c) (b := 1) (by omega) (by omega)
  have j1 : ∀ g, c ≠ 1 → j_X10_moveByDraw_26 (nI p) (nI c) g = some ((), g) := by
    intro g hc1
    unfold j_X10_moveByDraw_26
    rw [if_neg (fun d => hc1 (e1.mp d))]
  unfold f_X10_moveByDraw mvd
  by_cases c0 : c = 0
  · rw [if_pos (e0.mpr c0), if_pos c0, k_whoAt hR hw, Option.bind_some, if_neg tn]
    by_cases c1 : whoK K k (nI t) = -1
    · rw [if_pos c1, if_pos c1, inb_nI (show p < 6 by omega) (by omega), Option.bind_some, j1 _ (by omega)]
      exact ⟨_, rfl, RR_seat (r := 17) hR (by omega), Fr_sA rfl⟩
    · rw [if_neg c1, if_neg c1, j1 _ (by omega)]
      exact ⟨_, rfl, hR, Fr_rfl⟩
  · rw [if_neg (fun d => c0 (e0.mp d)), if_neg c0]
    by_cases c1 : c = 1
    · rw [if_pos c1]
      unfold j_X10_moveByDraw_26
      rw [if_pos (e1.mpr c1), inb_nI (show p < 6 by omega) (by omega), Option.bind_some]
      exact ⟨_, rfl, RR_seat (r := 17) hR (by omega), Fr_sA rfl⟩
    · rw [if_neg c1, j1 _ c1]
      exact ⟨_, rfl, hR, Fr_rfl⟩
