/-! the class's tables at the start -/
theorem tb_first {b : Nat} {s : State} {A : Nat → Prop} (hgv : (Jvm.Cond.and given_1 narrow_1).before #[Value.ref b] s = true) (hA : ∀ a : Nat, a < s.heap.size → ¬ A a) : ∃ t : Nat, (Term.static "GrooveTurns" "FIRST_SETTINGS" "[I").eval #[Value.ref b] s none [] s = some (.ref t) ∧ tb_at t 5 firstS A s s.heap := by
  have hs := flat_of_before _ hgv
  have h1 : (Cond.arrayOf (Term.static "GrooveTurns" "FIRST_SETTINGS" "[I") .int).before #[Value.ref b] s = true := hs _ (by decide +kernel)
  have h2 : (Cond.eq (Term.length (Term.static "GrooveTurns" "FIRST_SETTINGS" "[I")) (Term.int 5)).before #[Value.ref b] s = true := hs _ (by decide +kernel)
  have g0 : (Cond.eq (Term.elem (Term.static "GrooveTurns" "FIRST_SETTINGS" "[I") (Term.int 0)) (Term.int 4)).before #[Value.ref b] s = true := hs _ (by decide +kernel)
  have g1 : (Cond.eq (Term.elem (Term.static "GrooveTurns" "FIRST_SETTINGS" "[I") (Term.int 1)) (Term.int 1)).before #[Value.ref b] s = true := hs _ (by decide +kernel)
  have g2 : (Cond.eq (Term.elem (Term.static "GrooveTurns" "FIRST_SETTINGS" "[I") (Term.int 2)) (Term.int 30)).before #[Value.ref b] s = true := hs _ (by decide +kernel)
  have g3 : (Cond.eq (Term.elem (Term.static "GrooveTurns" "FIRST_SETTINGS" "[I") (Term.int 3)) (Term.int 20)).before #[Value.ref b] s = true := hs _ (by decide +kernel)
  have g4 : (Cond.eq (Term.elem (Term.static "GrooveTurns" "FIRST_SETTINGS" "[I") (Term.int 4)) (Term.int 2)).before #[Value.ref b] s = true := hs _ (by decide +kernel)
  refine va_Tof (f := fun j => .int (firstS j)) (by omega) h1 (va_eqt h2) (fun j hj => ?_) hA
  rcases (show j = 0 ∨ j = 1 ∨ j = 2 ∨ j = 3 ∨ j = 4 by omega) with rfl | rfl | rfl | rfl | rfl
  · exact va_eqt g0
  · exact va_eqt g1
  · exact va_eqt g2
  · exact va_eqt g3
  · exact va_eqt g4
theorem tb_low {b : Nat} {s : State} {A : Nat → Prop} (hgv : (Jvm.Cond.and given_1 narrow_1).before #[Value.ref b] s = true) (hA : ∀ a : Nat, a < s.heap.size → ¬ A a) : ∃ t : Nat, (Term.static "GrooveTurns" "LOWEST_SETTINGS" "[I").eval #[Value.ref b] s none [] s = some (.ref t) ∧ tb_at t 5 lowS A s s.heap := by
  have hs := flat_of_before _ hgv
  have h1 : (Cond.arrayOf (Term.static "GrooveTurns" "LOWEST_SETTINGS" "[I") .int).before #[Value.ref b] s = true := hs _ (by decide +kernel)
  have h2 : (Cond.eq (Term.length (Term.static "GrooveTurns" "LOWEST_SETTINGS" "[I")) (Term.int 5)).before #[Value.ref b] s = true := hs _ (by decide +kernel)
  have g0 : (Cond.eq (Term.elem (Term.static "GrooveTurns" "LOWEST_SETTINGS" "[I") (Term.int 0)) (Term.int 0)).before #[Value.ref b] s = true := hs _ (by decide +kernel)
  have g1 : (Cond.eq (Term.elem (Term.static "GrooveTurns" "LOWEST_SETTINGS" "[I") (Term.int 1)) (Term.int 0)).before #[Value.ref b] s = true := hs _ (by decide +kernel)
  have g2 : (Cond.eq (Term.elem (Term.static "GrooveTurns" "LOWEST_SETTINGS" "[I") (Term.int 2)) (Term.int 5)).before #[Value.ref b] s = true := hs _ (by decide +kernel)
  have g3 : (Cond.eq (Term.elem (Term.static "GrooveTurns" "LOWEST_SETTINGS" "[I") (Term.int 3)) (Term.int 1)).before #[Value.ref b] s = true := hs _ (by decide +kernel)
  have g4 : (Cond.eq (Term.elem (Term.static "GrooveTurns" "LOWEST_SETTINGS" "[I") (Term.int 4)) (Term.int 0)).before #[Value.ref b] s = true := hs _ (by decide +kernel)
  refine va_Tof (f := fun j => .int (lowS j)) (by omega) h1 (va_eqt h2) (fun j hj => ?_) hA
  rcases (show j = 0 ∨ j = 1 ∨ j = 2 ∨ j = 3 ∨ j = 4 by omega) with rfl | rfl | rfl | rfl | rfl
  · exact va_eqt g0
  · exact va_eqt g1
  · exact va_eqt g2
  · exact va_eqt g3
  · exact va_eqt g4
theorem tb_high {b : Nat} {s : State} {A : Nat → Prop} (hgv : (Jvm.Cond.and given_1 narrow_1).before #[Value.ref b] s = true) (hA : ∀ a : Nat, a < s.heap.size → ¬ A a) : ∃ t : Nat, (Term.static "GrooveTurns" "HIGHEST_SETTINGS" "[I").eval #[Value.ref b] s none [] s = some (.ref t) ∧ tb_at t 5 highS A s s.heap := by
  have hs := flat_of_before _ hgv
  have h1 : (Cond.arrayOf (Term.static "GrooveTurns" "HIGHEST_SETTINGS" "[I") .int).before #[Value.ref b] s = true := hs _ (by decide +kernel)
  have h2 : (Cond.eq (Term.length (Term.static "GrooveTurns" "HIGHEST_SETTINGS" "[I")) (Term.int 5)).before #[Value.ref b] s = true := hs _ (by decide +kernel)
  have g0 : (Cond.eq (Term.elem (Term.static "GrooveTurns" "HIGHEST_SETTINGS" "[I") (Term.int 0)) (Term.int 20)).before #[Value.ref b] s = true := hs _ (by decide +kernel)
  have g1 : (Cond.eq (Term.elem (Term.static "GrooveTurns" "HIGHEST_SETTINGS" "[I") (Term.int 1)) (Term.int 20)).before #[Value.ref b] s = true := hs _ (by decide +kernel)
  have g2 : (Cond.eq (Term.elem (Term.static "GrooveTurns" "HIGHEST_SETTINGS" "[I") (Term.int 2)) (Term.int 99)).before #[Value.ref b] s = true := hs _ (by decide +kernel)
  have g3 : (Cond.eq (Term.elem (Term.static "GrooveTurns" "HIGHEST_SETTINGS" "[I") (Term.int 3)) (Term.int 99)).before #[Value.ref b] s = true := hs _ (by decide +kernel)
  have g4 : (Cond.eq (Term.elem (Term.static "GrooveTurns" "HIGHEST_SETTINGS" "[I") (Term.int 4)) (Term.int 20)).before #[Value.ref b] s = true := hs _ (by decide +kernel)
  refine va_Tof (f := fun j => .int (highS j)) (by omega) h1 (va_eqt h2) (fun j hj => ?_) hA
  rcases (show j = 0 ∨ j = 1 ∨ j = 2 ∨ j = 3 ∨ j = 4 by omega) with rfl | rfl | rfl | rfl | rfl
  · exact va_eqt g0
  · exact va_eqt g1
  · exact va_eqt g2
  · exact va_eqt g3
  · exact va_eqt g4
theorem tabs_of {b : Nat} {s : State} {A : Nat → Prop} (hts : ∀ w ∈ lw_tbl, w.before #[Value.ref b] s = true) (hgv : (Jvm.Cond.and given_1 narrow_1).before #[Value.ref b] s = true) (hA : ∀ a : Nat, a < s.heap.size → ¬ A a) : ∃ tb, sT tb A s := by
  obtain ⟨t1, e1, T1⟩ := tb_first (A := A) hgv hA
  obtain ⟨t2, e2, T2⟩ := tb_low (A := A) hgv hA
  obtain ⟨t3, e3, T3⟩ := tb_high (A := A) hgv hA
  exact ⟨(t1, t2, t3), ⟨va_Zref (hts _ wn_3) (hts _ wm_36) e1 hA, T1⟩, ⟨va_Zref (hts _ wn_4) (hts _ wm_36) e2 hA, T2⟩, va_Zref (hts _ wn_5) (hts _ wm_36) e3 hA, T3⟩
