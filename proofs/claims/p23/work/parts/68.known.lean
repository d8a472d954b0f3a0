/-! the class's tables at the start -/
theorem tb_first {b : Nat} {s : State} {A : Nat → Prop} (hgv : (Jvm.Cond.and given_1 narrow_1).before #[Value.ref b] s = true) (hA : ∀ a : Nat, a < s.heap.size → ¬ A a) : ∃ t : Nat, (Term.static "GrooveTurns" "FIRST_SETTINGS" "[I").eval #[Value.ref b] s none [] s = some (.ref t) ∧ tb_at t 5 firstS A s s.heap := by
  have hs := flat_of_before _ hgv
  have h1 : (Cond.arrayOf (Term.static "GrooveTurns" "FIRST_SETTINGS" "[I") .int).before #[Value.ref b] s = true := hs _ (by decide +kernel)
  have h2 : (Cond.eq (Term.length (Term.static "GrooveTurns" "FIRST_SETTINGS" "[I")) (Term.int 5)).before #[Value.ref b] s = true := hs _ (by decide +kernel)
  have g0 : (Cond.eq (Term.elem (Term.static "GrooveTurns" "FIRST_SETTINGS" "[I") (Term.int 0)) (Term.int 4)).before #[Value.ref b] s = true := hs _ (by decide +kernel)
  have g1 : (Cond.eq (Term.elem (Term.static "GrooveTurns" "FIRST_SETTINGS" "[I") (Term.int 1)) (Term.int 1)).before #[Value.ref b] s = true := hs _ (by decide +kernel)
  have g2 : (Cond.eq (Term.elem (Term.static "GrooveTurns" "FIRST_SETTINGS" "[I") (Term.int 2)) (Term.int 30)).before #[Value.ref b] s = true := hs _ (by decide +kernel)
  have g3 : (Cond.eq (Term.elem (Term.static "GrooveTurns" "FIRST_SETTINGS" "[I") (Term.int 3)) (Term.int 20)).before #[Value.ref b] s = true := hs _ (by decide +kernel)
  have g4 : (Cond.eq (Term.elem (Term.static "GrooveTurns" "FIRST_SETTINGS" "[I") (Term.int 4)) (Term.int 2)).before #[Value.ref b] s = true := hs _ (by decide +kernel)
  refine va_Tof (f := fun j => .int (firstS j)) (by omega) h1 (va_eqt h2) (fun j hj => ?_) hA
  rcases (show j = 0 ∨ j = 1 ∨ j = 2 ∨ j = 3 ∨ j = 4 by omega) with rfl | rfl | rfl | rfl | rfl
  · exact va_eqt g0
  · exact va_eqt g1
  · exact va_eqt g2
  · exact va_eqt g3
  · exact va_eqt g4
theorem tb_low {b : Nat} {s : State} {A : Nat → Prop} (hgv : (Jvm.Cond.and given_1 narrow_1).before #[Value.ref b] s = true) (hA : ∀ a : Nat, a < s.heap.size → ¬ A a) : ∃ t : Nat, (Term.static "GrooveTurns" "LOWEST_SETTINGS" "[I").eval #[Value.ref b] s none [] s = some (.ref t) ∧ tb_at t 5 lowS A s s.heap := by
  have hs := flat_of_before _ hgv
  have h1 : (Cond.arrayOf (Term.static "GrooveTurns" "LOWEST_SETTINGS" "[I") .int).before #[Value.ref b] s = true := hs _ (by decide +kernel)
  have h2 : (Cond.eq (Term.length (Term.static "GrooveTurns" "LOWEST_SETTINGS" "[I")) (Term.int 5)).before #[Value.ref b] s = true := hs _ (by decide +kernel)
  have g0 : (Cond.eq (Term.elem (Term.static "GrooveTurns" "LOWEST_SETTINGS" "[I") (Term.int 0)) (Term.int 0)).before #[Value.ref b] s = true := hs _ (by decide +kernel)
  have g1 : (Cond.eq (Term.elem (Term.static "GrooveTurns" "LOWEST_SETTINGS" "[I") (Term.int 1)) (Term.int 0)).before #[Value.ref b] s = true := hs _ (by decide +kernel)
  have g2 : (Cond.eq (Term.elem (Term.static "GrooveTurns" "LOWEST_SETTINGS" "[I") (Term.int 2)) (Term.int 5)).before #[Value.ref b] s = true := hs _ (by decide +kernel)
  have g3 : (Cond.eq (Term.elem (Term.static "GrooveTurns" "LOWEST_SETTINGS" "[I") (Term.int 3)) (Term.int 1)).before #[Value.ref b] s = true := hs _ (by decide +kernel)
  have g4 : (Cond.eq (Term.elem (Term.static "GrooveTurns" "LOWEST_SETTINGS" "[I") (Term.int 4)) (Term.int 0)).before #[Value.ref b] s = true := hs _ (by decide +kernel)
  refine va_Tof (f := fun j => .int (lowS j)) (by omega) h1 (va_eqt h2) (fun j hj => ?_) hA
  rcases (show j = 0 ∨ j = 1 ∨ j = 2 ∨ j = 3 ∨ j = 4 by omega) with rfl | rfl | rfl | rfl | rfl
  · exact va_eqt g0
  · exact va_eqt g1
  · exact va_eqt g2
  · exact va_eqt g3
  · exact va_eqt g4
theorem tb_high {b : Nat} {s : State} {A : Nat → Prop} (hgv : (Jvm.Cond.and given_1 narrow_1).before #[Value.ref b] s = true) (hA : ∀ a : Nat, a < s.heap.size → ¬ A a) : ∃ t : Nat, (Term.static "GrooveTurns" "HIGHEST_SETTINGS" "[I").eval #[Value.ref b] s none [] s = some (.ref t) ∧ tb_at t 5 highS A s s.heap := by
  have hs := flat_of_before _ hgv
  have h1 : (Cond.arrayOf (Term.static "GrooveTurns" "HIGHEST_SETTINGS" "[I") .int).before #[Value.ref b] s = true := hs _ (by decide +kernel)
  have h2 : (Cond.eq (Term.length (Term.static "GrooveTurns" "HIGHEST_SETTINGS" "[I")) (Term.int 5)).before #[Value.ref b] s = true := hs _ (by decide +kernel)
  have g0 : (Cond.eq (Term.elem (Term.static "GrooveTurns" "HIGHEST_SETTINGS" "[I") (Term.int 0)) (Term.int 20)).before #[Value.ref b] s = true := hs _ (by decide +kernel)
  have g1 : (Cond.eq (Term.elem (Term.static "GrooveTurns" "HIGHEST_SETTINGS" "[I") (Term.int 1)) (Term.int 20)).before #[Value.ref b] s = true := hs _ (by decide +kernel)
  have g2 : (Cond.eq (Term.elem (Term.static "GrooveTurns" "HIGHEST_SETTINGS" "[I") (Term.int 2)) (Term.int 99)).before #[Value.ref b] s = true := hs _ (by decide +kernel)
  have g3 : (Cond.eq (Term.elem (Term.static "GrooveTurns" "HIGHEST_SETTINGS" "[I") (Term.int 3)) (Term.int 99)).before #[Value.ref b] s = true := hs _ (by decide +kernel)
  have g4 : (Cond.eq (Term.elem (Term.static "GrooveTurns" "HIGHEST_SETTINGS" "[I") (Term.int 4)) (Term.int 20)).before #[Value.ref b] s = true := hs _ (by decide +kernel)
  refine va_Tof (f := fun j => .int (highS j)) (by omega) h1 (va_eqt h2) (fun j hj => ?_) hA
  rcases (show j = 0 ∨ j = 1 ∨ j = 2 ∨ j = 3 ∨ j = 4 by omega) with rfl | rfl | rfl | rfl | rfl
  · exact va_eqt g0
  · exact va_eqt g1
  · exact va_eqt g2
  · exact va_eqt g3
  · exact va_eqt g4
theorem tabs_of {b : Nat} {s : State} {A : Nat → Prop} (hts : ∀ w ∈ lw_tbl, w.before #[Value.ref b] s = true) (hgv : (Jvm.Cond.and given_1 narrow_1).before #[Value.ref b] s = true) (hA : ∀ a : Nat, a < s.heap.size → ¬ A a) : ∃ tb, sT tb A s := by
  obtain ⟨t1, e1, T1⟩ := tb_first (A := A) hgv hA
  obtain ⟨t2, e2, T2⟩ := tb_low (A := A) hgv hA
  obtain ⟨t3, e3, T3⟩ := tb_high (A := A) hgv hA
  exact ⟨(t1, t2, t3), ⟨va_Zref (hts _ wn_s1) (hts _ wn_ini4) e1 hA, T1⟩, ⟨va_Zref (hts _ wn_s2) (hts _ wn_ini4) e2 hA, T2⟩, va_Zref (hts _ wn_s3) (hts _ wn_ini4) e3 hA, T3⟩
/-! the classes at the start -/
theorem known_of {b : Nat} {s : State} (hts : ∀ w ∈ lw_tbl, w.before #[Value.ref b] s = true) : ∃ G : GG, cK G s := by
  obtain ⟨c0, i0, n0⟩ := u_known (C := RX0) (T := TX0) (N := 9) (n := 9) hts inX0 (hts _ wn_inst0)
  obtain ⟨c1, i1, n1⟩ := u_known (C := RX1) (T := TX1) (N := 3) (n := 3) hts inX1 (hts _ wn_inst1)
  obtain ⟨c2, i2, n2⟩ := u_known (C := RX2) (T := TX2) (N := 2) (n := 2) hts inX2 (hts _ wn_inst2)
  obtain ⟨c3, i3, n3⟩ := u_known (C := RX3) (T := TX3) (N := 5) (n := 5) hts inX3 (hts _ wn_inst3)
  obtain ⟨c4, i4, n4⟩ := u_known (C := RX4) (T := TX4) (N := 6) (n := 6) hts inX4 (hts _ wn_inst4)
  obtain ⟨D, hKc⟩ : ∃ D : va_G, ∀ (k : Nat) (q : vw_C), vwCl[k]? = some q → u_Kn s q.1 q.2.1 q.2.2 (D.1 k) (D.2 k) := by
    refine ⟨(fun k => match k with | 0 => c0 | 1 => c1 | 2 => c2 | 3 => c3 | _ => c4, fun k => match k with | 0 => i0 | 1 => i1 | 2 => i2 | 3 => i3 | _ => i4), ?_⟩
    intro k q hq
    match k, hq with
    | 0, hq => cases hq; exact n0
    | 1, hq => cases hq; exact n1
    | 2, hq => cases hq; exact n2
    | 3, hq => cases hq; exact n3
    | 4, hq => cases hq; exact n4
    | k + 5, hq => exact absurd (List.getElem?_eq_some_iff.mp hq).1 (by show ¬ k + 5 < 5; omega)
  obtain ⟨cI, kI, cpI, a1, a2, a3⟩ := Cond.arrayClass_spec (hts _ wn_arr)
  obtain ⟨cp, cR, kR, b1, b2, b3, b4, b5⟩ := Cond.arrayOver_spec (n := RX0) (hts _ wn_over)
  refine ⟨(D, cI, cR), ⟨hKc, fun k q hk => ?_⟩, fun w hw => va_Nw.of ?_ (hts _ (nW_in w hw))⟩
  · match k, hk with
    | 0, hk => cases hk; exact ⟨fun n z => ⟨fun k h => (by cases h), kI, a2, cpI, a3⟩, a1⟩
    | 1, hk => cases hk; exact ⟨fun n z => ⟨fun k h => (by cases h), kR, b3, cp, b4⟩, ⟨kR, cp, b3, b4, b1, b5⟩⟩
    | k + 2, hk => exact absurd (List.getElem?_eq_some_iff.mp hk).1 (by show ¬ k + 2 < 2; omega)
  · rcases nW_shape w hw with ⟨a, i, x, z, rfl⟩ | ⟨a, i, b, n, d, z, rfl⟩ <;> rfl
