def dsS (s : Nat) : Nat → Nat
  | 0 => s
  | g + 1 => drN (drN (drN (dsS s g)))
def dsK (S : Sem) (k s : Nat) (K : Nat → Int32) : Nat → (Nat → Int32)
  | 0 => K
  | g + 1 => minK S k (mvd (dsK S k s K g) k (drN (dsS s g) % k) (drN (drN (dsS s g)) % 9) (drN (drN (drN (dsS s g))) % 3))
theorem dsS_lt {s : Nat} (hs : s < 1000003) : ∀ g, dsS s g < 1000003
  | 0 => hs
  | _ + 1 => drN_lt _
theorem ds_ok {S : Sem} {k s m : Nat} {K : Nat → Int32} (hS : semOK S) (hw : WF K k) (hk : 0 < k) (hm : K 24 = nI m) : ∀ g, WF (dsK S k s K g) k ∧ dsK S k s K g 24 = nI (m + g) ∧ ∀ i, 25 ≤ i → dsK S k s K g i = K i
  | 0 => ⟨hw, hm, fun _ _ => rfl⟩
  | g + 1 => by
    obtain ⟨a1, a2, a3⟩ := ds_ok (s := s) hS hw hk hm g
    have h6 := hw.2.1
    have hp : drN (dsS s g) % k < k := Nat.mod_lt _ hk
    have ht : drN (drN (dsS s g)) % 9 < 9 := Nat.mod_lt _ (by omega)
    refine ⟨WF_min hS (WF_mvd a1 hp ht), ?_, fun i hi => ?_⟩
    · show minK S k _ 24 = _
      rw [minK_24 h6, mvd_o (by omega), a2, nI_1]
      rfl
    · show minK S k _ i = _
      rw [minK_hi h6 _ (by omega), mvd_o (by omega)]
      exact a3 i hi
