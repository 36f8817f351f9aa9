theorem pure_ok : ∃ (N : Nat) (Rel : Mem → Mem → Prop), PureOk N Rel := sorry
