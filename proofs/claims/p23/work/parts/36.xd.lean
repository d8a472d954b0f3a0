/-! the history, the slots and the pad: what holds of both sides -/
abbrev XD : Type := (Nat → Nat) × DS
theorem fuel {k : Nat} (h : k < 6000) : k < FU := h
