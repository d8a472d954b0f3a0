/-! the class's world with the discs in its ring and its slots, and the model's world behind it -/
def ringOf (R : Nat → Option XD) : Nat → Option Nat := fun k => (R k).map (fun x => x.1 0)
def xO (c : ClassId) : Option XD → va_W
  | none => []
  | some x => dW c x.1 x.2
def xR (c : ClassId) (R : Nat → Option XD) : va_W := xO c (R 0) ++ (xO c (R 1) ++ (xO c (R 2) ++ (xO c (R 3) ++ (xO c (R 4) ++ xO c (R 5)))))
def xS (c : ClassId) (S : Nat → Option XD) : va_W := xO c (S 0) ++ xO c (S 1)
theorem ringOf_up (R : Nat → Option XD) (p : Nat) (x : XD) : ringOf (va_up R p (some x)) = va_up (ringOf R) p (some (x.1 0)) := by
  funext k
  by_cases h : k = p
  · subst h
    rw [va_up_self]
    unfold ringOf
    rw [va_up_self]
    rfl
  · rw [va_up_ne _ _ h]
    unfold ringOf
    rw [va_up_ne _ _ h]
theorem ringOf_some {R : Nat → Option XD} {p q : Nat} (h : ringOf R p = some q) : ∃ (δ : Nat → Nat) (υ : DS), R p = some (δ, υ) ∧ δ 0 = q := by
  unfold ringOf at h
  cases hr : R p with
  | none => rw [hr] at h; cases h
  | some x => rw [hr] at h; cases h; exact ⟨x.1, x.2, rfl, rfl⟩
theorem ringOf_none {R : Nat → Option XD} {p : Nat} (h : ringOf R p = none) : R p = none := by
  unfold ringOf at h
  cases hr : R p with
  | none => rfl
  | some x => rw [hr] at h; cases h
theorem ringOf_of {R : Nat → Option XD} {p : Nat} {δ : Nat → Nat} {υ : DS} (h : R p = some (δ, υ)) : ringOf R p = some (δ 0) := by
  unfold ringOf
  rw [h]
  rfl
theorem xR_up (c : ClassId) (R : Nat → Option XD) {p : Nat} (hp : p < 6) (x : XD) : (xO c (some x) ++ xR c R).Perm (xO c (R p) ++ xR c (va_up R p (some x))) := by
  haveI : DecidableEq (Nat × va_E) := fun _ _ => Classical.propDecidable _
  refine List.perm_iff_count.mpr (fun a => ?_)
  rcases (show p = 0 ∨ p = 1 ∨ p = 2 ∨ p = 3 ∨ p = 4 ∨ p = 5 by omega) with rfl | rfl | rfl | rfl | rfl | rfl
  · rw [show xR c (va_up R 0 (some x)) = xO c (some x) ++ (xO c (R 1) ++ (xO c (R 2) ++ (xO c (R 3) ++ (xO c (R 4) ++ xO c (R 5))))) from rfl]
    unfold xR
    simp only [List.count_append]
    omega
  · rw [show xR c (va_up R 1 (some x)) = xO c (R 0) ++ (xO c (some x) ++ (xO c (R 2) ++ (xO c (R 3) ++ (xO c (R 4) ++ xO c (R 5))))) from rfl]
    unfold xR
    simp only [List.count_append]
    omega
  · rw [show xR c (va_up R 2 (some x)) = xO c (R 0) ++ (xO c (R 1) ++ (xO c (some x) ++ (xO c (R 3) ++ (xO c (R 4) ++ xO c (R 5))))) from rfl]
    unfold xR
    simp only [List.count_append]
    omega
  · rw [show xR c (va_up R 3 (some x)) = xO c (R 0) ++ (xO c (R 1) ++ (xO c (R 2) ++ (xO c (some x) ++ (xO c (R 4) ++ xO c (R 5))))) from rfl]
    unfold xR
    simp only [List.count_append]
    omega
  · rw [show xR c (va_up R 4 (some x)) = xO c (R 0) ++ (xO c (R 1) ++ (xO c (R 2) ++ (xO c (R 3) ++ (xO c (some x) ++ xO c (R 5))))) from rfl]
    unfold xR
    simp only [List.count_append]
    omega
  · rw [show xR c (va_up R 5 (some x)) = xO c (R 0) ++ (xO c (R 1) ++ (xO c (R 2) ++ (xO c (R 3) ++ (xO c (R 4) ++ xO c (some x))))) from rfl]
    unfold xR
    simp only [List.count_append]
    omega
theorem xS_up (c : ClassId) (S : Nat → Option XD) {p : Nat} (hp : p < 2) (x : XD) : (xO c (some x) ++ xS c S).Perm (xO c (S p) ++ xS c (va_up S p (some x))) := by
  haveI : DecidableEq (Nat × va_E) := fun _ _ => Classical.propDecidable _
  refine List.perm_iff_count.mpr (fun a => ?_)
  rcases (show p = 0 ∨ p = 1 by omega) with rfl | rfl
  · rw [show xS c (va_up S 0 (some x)) = xO c (some x) ++ xO c (S 1) from rfl]
    unfold xS
    simp only [List.count_append]
    omega
  · rw [show xS c (va_up S 1 (some x)) = xO c (S 0) ++ xO c (some x) from rfl]
    unfold xS
    simp only [List.count_append]
    omega
/-- a slot's disc, taken out of the others -/
theorem xS_out (c : ClassId) (S : Nat → Option XD) {p : Nat} (hp : p < 2) : ∃ z : va_W, (xS c S).Perm (xO c (S p) ++ z) := by
  rcases (show p = 0 ∨ p = 1 by omega) with rfl | rfl
  · exact ⟨xO c (S 1), List.Perm.refl _⟩
  · exact ⟨xO c (S 0), List.perm_append_comm⟩
abbrev cW (G : GG) (γ : Nat) (α β π κ η : Nat → Nat) (ς : Nat) (ρ : QS) (ϖ : PS) (σ τ : DS) (R S : Nat → Option XD) (o n : Nat) : va_W := gW γ (α 0) (β 0) (π 0) (κ 0) (η 0) ς ++ (qW G.2.1 κ ρ ++ (pW G.2.1 π ϖ ++ (dW G.2.1 α σ ++ (dW G.2.1 β τ ++ (hW G.2.2 η (ringOf R, nI o, nI n) ++ (sW G.2.2 ς (ringOf S) ++ (xR G.2.1 R ++ xS G.2.1 S)))))))
section PMS
variable {X M N g q p a b h s x y m o x' t w r z d D F F' : va_W}
theorem pqN (pm : (X ++ M).Perm (q ++ (p ++ (a ++ (b ++ (s ++ (x ++ (y ++ m)))))))) (hx : (a ++ x).Perm (o ++ x')) (ht : t.Perm (o ++ N)) : (X ++ (g ++ (h ++ (M ++ N)))).Perm ((g ++ (q ++ (p ++ (b ++ (t ++ (h ++ (s ++ (x' ++ y)))))))) ++ m) := by
  haveI : DecidableEq (Nat × va_E) := fun _ _ => Classical.propDecidable _
  refine List.perm_iff_count.mpr (fun e => ?_)
  have h1 := List.perm_iff_count.mp pm e
  have h2 := List.perm_iff_count.mp hx e
  have h3 := List.perm_iff_count.mp ht e
  simp only [List.count_append] at h1 h2 h3 ⊢
  omega
theorem pqE (pm : (X ++ M).Perm (q ++ (p ++ (a ++ (b ++ (s ++ (x ++ (y ++ m)))))))) : (X ++ (g ++ (h ++ M))).Perm ((g ++ (q ++ (p ++ (a ++ (b ++ (h ++ (s ++ (x ++ y)))))))) ++ m) := by
  haveI : DecidableEq (Nat × va_E) := fun _ _ => Classical.propDecidable _
  refine List.perm_iff_count.mpr (fun e => ?_)
  have h1 := List.perm_iff_count.mp pm e
  simp only [List.count_append] at h1 ⊢
  omega
theorem pqF : ((g ++ (q ++ (p ++ (a ++ (b ++ (h ++ r)))))) ++ m).Perm ((g ++ (q ++ (p ++ (a ++ (b ++ h))))) ++ (r ++ m)) := by
  haveI : DecidableEq (Nat × va_E) := fun _ _ => Classical.propDecidable _
  refine List.perm_iff_count.mpr (fun e => ?_)
  simp only [List.count_append]
  omega
theorem pqB : ((g ++ (q ++ (p ++ (a ++ (b ++ (h ++ r)))))) ++ m).Perm ((r ++ m) ++ (g ++ (q ++ (p ++ (a ++ (b ++ h)))))) := by
  haveI : DecidableEq (Nat × va_E) := fun _ _ => Classical.propDecidable _
  refine List.perm_iff_count.mpr (fun e => ?_)
  simp only [List.count_append]
  omega
theorem pqM : (((s ++ (x ++ y)) ++ m) ++ (q ++ (p ++ (a ++ b)))).Perm (q ++ (p ++ (a ++ (b ++ (s ++ (x ++ (y ++ m))))))) := by
  haveI : DecidableEq (Nat × va_E) := fun _ _ => Classical.propDecidable _
  refine List.perm_iff_count.mpr (fun e => ?_)
  simp only [List.count_append]
  omega
/-- undo: the object, the history and the disc's own cell in front -/
theorem pqU : ((g ++ (q ++ (p ++ ((d ++ D) ++ (b ++ (h ++ r)))))) ++ m).Perm ((g ++ (h ++ d)) ++ ((q ++ (p ++ (D ++ (b ++ r)))) ++ m)) := by
  haveI : DecidableEq (Nat × va_E) := fun _ _ => Classical.propDecidable _
  refine List.perm_iff_count.mpr (fun e => ?_)
  simp only [List.count_append]
  omega
theorem pqU2 (hx : ((d ++ D) ++ x).Perm (o ++ x')) : ((g ++ (h ++ d)) ++ ((q ++ (p ++ (D ++ (b ++ (s ++ (x ++ y)))))) ++ m)).Perm ((g ++ (q ++ (p ++ (o ++ (b ++ (h ++ (s ++ (x' ++ y)))))))) ++ m) := by
  haveI : DecidableEq (Nat × va_E) := fun _ _ => Classical.propDecidable _
  refine List.perm_iff_count.mpr (fun e => ?_)
  have h2 := List.perm_iff_count.mp hx e
  simp only [List.count_append] at h2 ⊢
  omega
/-- the slots -/
theorem pqG : ((g ++ (q ++ (p ++ (a ++ (b ++ (h ++ (s ++ (x ++ y)))))))) ++ m).Perm ((g ++ s) ++ ((q ++ (p ++ (a ++ (b ++ (h ++ (x ++ y)))))) ++ m)) := by
  haveI : DecidableEq (Nat × va_E) := fun _ _ => Classical.propDecidable _
  refine List.perm_iff_count.mpr (fun e => ?_)
  simp only [List.count_append]
  omega
theorem pqV (hy : y.Perm (t ++ z)) : ((g ++ (q ++ (p ++ (a ++ (b ++ (h ++ (s ++ (x ++ y)))))))) ++ m).Perm ((g ++ (s ++ (a ++ t))) ++ ((q ++ (p ++ (b ++ (h ++ (x ++ z))))) ++ m)) := by
  haveI : DecidableEq (Nat × va_E) := fun _ _ => Classical.propDecidable _
  refine List.perm_iff_count.mpr (fun e => ?_)
  have h2 := List.perm_iff_count.mp hy e
  simp only [List.count_append] at h2 ⊢
  omega
theorem pqV2 (hy : y.Perm (o ++ z)) (hx : (t ++ y).Perm (o ++ x')) : ((g ++ (s ++ (a ++ t))) ++ ((q ++ (p ++ (b ++ (h ++ (x ++ z))))) ++ m)).Perm ((g ++ (q ++ (p ++ (a ++ (b ++ (h ++ (s ++ (x ++ x')))))))) ++ m) := by
  haveI : DecidableEq (Nat × va_E) := fun _ _ => Classical.propDecidable _
  refine List.perm_iff_count.mpr (fun e => ?_)
  have h1 := List.perm_iff_count.mp hy e
  have h2 := List.perm_iff_count.mp hx e
  simp only [List.count_append] at h1 h2 ⊢
  omega
theorem pqW : ((g ++ (q ++ (p ++ (a ++ (b ++ (h ++ (s ++ (x ++ y)))))))) ++ m).Perm (((q ++ (p ++ (b ++ (h ++ (x ++ y))))) ++ m) ++ (g ++ (s ++ a))) := by
  haveI : DecidableEq (Nat × va_E) := fun _ _ => Classical.propDecidable _
  refine List.perm_iff_count.mpr (fun e => ?_)
  simp only [List.count_append]
  omega
theorem pqW2 (hx : (t ++ y).Perm x') : (((q ++ (p ++ (b ++ (h ++ (x ++ y))))) ++ m) ++ (g ++ (s ++ (a ++ t)))).Perm ((g ++ (q ++ (p ++ (a ++ (b ++ (h ++ (s ++ (x ++ x')))))))) ++ m) := by
  haveI : DecidableEq (Nat × va_E) := fun _ _ => Classical.propDecidable _
  refine List.perm_iff_count.mpr (fun e => ?_)
  have h2 := List.perm_iff_count.mp hx e
  simp only [List.count_append] at h2 ⊢
  omega
/-- restore -/
theorem pqT (hy : y.Perm (t ++ z)) : ((g ++ (q ++ (p ++ (a ++ (b ++ (h ++ (s ++ (x ++ y)))))))) ++ m).Perm (((q ++ (p ++ (x ++ z))) ++ m) ++ (g ++ (h ++ (s ++ (a ++ (b ++ t)))))) := by
  haveI : DecidableEq (Nat × va_E) := fun _ _ => Classical.propDecidable _
  refine List.perm_iff_count.mpr (fun e => ?_)
  have h2 := List.perm_iff_count.mp hy e
  simp only [List.count_append] at h2 ⊢
  omega
theorem pqT2 (hy : y.Perm (t ++ z)) : (((q ++ (p ++ (x ++ z))) ++ m) ++ (s ++ (a ++ (b ++ t)))).Perm (q ++ (p ++ (a ++ (b ++ (s ++ (x ++ (y ++ m))))))) := by
  haveI : DecidableEq (Nat × va_E) := fun _ _ => Classical.propDecidable _
  refine List.perm_iff_count.mpr (fun e => ?_)
  have h2 := List.perm_iff_count.mp hy e
  simp only [List.count_append] at h2 ⊢
  omega
end PMS
section NXT
variable {G : GG} {γ : Nat} {α β π κ η : Nat → Nat} {ς : Nat} {ρ : QS} {ϖ : PS} {σ τ : DS} {R S : Nat → Option XD} {o n : Nat} {X M w1 m : va_W} {a : Int32}
theorem AP_next (h : AP G γ η (ringOf R) o n (α 0) (β 0) (π 0) (κ 0) ς M a w1) (pm : (X ++ M).Perm (qW G.2.1 κ ρ ++ (pW G.2.1 π ϖ ++ (dW G.2.1 α σ ++ (dW G.2.1 β τ ++ (sW G.2.2 ς (ringOf S) ++ (xR G.2.1 R ++ (xS G.2.1 S ++ m)))))))) :
    (a < 0 ∧ (X ++ w1).Perm (cW G γ α β π κ η ς ρ ϖ σ τ R S o n ++ m)) ∨ (¬ a < 0 ∧ ∃ (δ : Nat → Nat) (υ : DS), (X ++ w1).Perm (cW G γ β δ π κ η ς ρ ϖ τ υ (va_up R ((o + n) % 6) (some (α, σ))) S (kO o n) (kN n) ++ m)) := by
  rcases h with ⟨ha, rfl⟩ | ⟨ha, q, N, hN, rfl⟩
  · exact Or.inl ⟨ha, pqE pm⟩
  · have hx := xR_up G.2.1 R (p := (o + n) % 6) (by omega) (α, σ)
    rcases hN with ⟨hr, rfl⟩ | ⟨hr, δ, rfl, rfl⟩
    · obtain ⟨δ, υ, h1, rfl⟩ := ringOf_some hr
      refine Or.inr ⟨ha, δ, υ, ?_⟩
      rw [← show ringOf (va_up R ((o + n) % 6) (some (α, σ))) = va_up (ringOf R) ((o + n) % 6) (some (α 0)) from ringOf_up _ _ _]
      rw [h1] at hx
      exact pqN pm hx (by rw [List.append_nil]; exact List.Perm.refl _)
    · refine Or.inr ⟨ha, δ, dNew, ?_⟩
      rw [← show ringOf (va_up R ((o + n) % 6) (some (α, σ))) = va_up (ringOf R) ((o + n) % 6) (some (α 0)) from ringOf_up _ _ _]
      rw [ringOf_none hr] at hx
      exact pqN pm hx (List.Perm.refl _)
end NXT
