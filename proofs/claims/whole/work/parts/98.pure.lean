def RelX : Nat → Nat → MM → MM → Prop := fun _ _ _ _ => True
theorem sim_all : SimAll 10000 RelX := by
  sorry
