/-! the object of GrooveTurns and the history, as blocks -/
abbrev gW (γ d t pd rq hi sl : Nat) : va_W := [(γ, .inr (4, [.ref d, .ref t, .ref pd, .ref rq, .ref hi, .ref sl]))]
def h_ol (η : HS) : Int32 := η.2.1
def h_sz (η : HS) : Int32 := η.2.2
/-- a reading contract that asks for the static tables too -/
def PRT (G : GG) (av : List Value) (w : va_W) (T : (Nat → Prop) → State → Prop) : Array Value → State → Prop := va_Pc av (fun U => va_P G.1 vwCl w U.heap ∧ cK G U ∧ T (fun _ => False) U)
theorem PRT.blind {G : GG} {av : List Value} {w : va_W} {T : (Nat → Prop) → State → Prop} (hT : FB2 T) : FrameBlind (PRT G av w T) := fun a U g mk q => by
  obtain ⟨q0, q1, q2, q3⟩ := q
  exact ⟨q0, q1, q2.call, hT _ _ _ _ _ q3⟩
