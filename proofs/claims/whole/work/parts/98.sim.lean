theorem sim : ∃ I : Nat → Hp → Prop, StepOK I ∧ I 0 h0 := sorry
