theorem pure_ops : ∃ I : Mm → Mm → Prop, LawOps I ∧ I μC0 μM0 := sorry
