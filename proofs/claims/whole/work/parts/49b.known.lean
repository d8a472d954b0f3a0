/-! a world in order -/
theorem pqI {g a b p q h s x y m : va_W} (hx : x = []) (hy : y = []) : ((([] : va_W) ++ (g ++ (a ++ (b ++ (p ++ (q ++ (h ++ s))))))) ++ m).Perm ((g ++ (q ++ (p ++ (a ++ (b ++ (h ++ (s ++ (x ++ y)))))))) ++ m) := by
  haveI : DecidableEq (Nat × va_E) := fun _ _ => Classical.propDecidable _
  subst hx
  subst hy
  refine List.perm_iff_count.mpr (fun e => ?_)
  simp only [List.count_append, List.count_nil]
  omega
