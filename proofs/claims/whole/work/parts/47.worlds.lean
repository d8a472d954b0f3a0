/-! the class's world with the discs in its ring and its slots, and the model's world behind it -/
def ringOf (R : Nat → Option XD) : Nat → Option Nat := fun k => (R k).map (fun x => x.1 0)
def xO (c : ClassId) : Option XD → va_W
  | none => []
  | some x => dW c x.1 x.2
def xR (c : ClassId) (R : Nat → Option XD) : va_W := xO c (R 0) ++ (xO c (R 1) ++ (xO c (R 2) ++ (xO c (R 3) ++ (xO c (R 4) ++ xO c (R 5)))))
def xS (c : ClassId) (S : Nat → Option XD) : va_W := xO c (S 0) ++ xO c (S 1)
theorem ringOf_up (R : Nat → Option XD) (p : Nat) (x : XD) : ringOf (va_up R p (some x)) = va_up (ringOf R) p (some (x.1 0)) := by
  funext k
  by_cases h : k = p
  · subst h
    rw [va_up_self]
    unfold ringOf
    rw [va_up_self]
    rfl
  · rw [va_up_ne _ _ h]
    unfold ringOf
    rw [va_up_ne _ _ h]
theorem ringOf_some {R : Nat → Option XD} {p q : Nat} (h : ringOf R p = some q) : ∃ (δ : Nat → Nat) (υ : DS), R p = some (δ, υ) ∧ δ 0 = q := by
  unfold ringOf at h
  cases hr : R p with
  | none => rw [hr] at h; cases h
  | some x => rw [hr] at h; cases h; exact ⟨x.1, x.2, rfl, rfl⟩
theorem ringOf_none {R : Nat → Option XD} {p : Nat} (h : ringOf R p = none) : R p = none := by
  unfold ringOf at h
  cases hr : R p with
  | none => rfl
  | some x => rw [hr] at h; cases h
theorem ringOf_of {R : Nat → Option XD} {p : Nat} {δ : Nat → Nat} {υ : DS} (h : R p = some (δ, υ)) : ringOf R p = some (δ 0) := by
  unfold ringOf
  rw [h]
  rfl
theorem xR_up (c : ClassId) (R : Nat → Option XD) {p : Nat} (hp : p < 6) (x : XD) : (xO c (some x) ++ xR c R).Perm (xO c (R p) ++ xR c (va_up R p (some x))) := by
  haveI : DecidableEq (Nat × va_E) := fun _ _ => Classical.propDecidable _
  refine List.perm_iff_count.mpr (fun a => ?_)
  rcases (show p = 0 ∨ p = 1 ∨ p = 2 ∨ p = 3 ∨ p = 4 ∨ p = 5 by omega) with rfl | rfl | rfl | rfl | rfl | rfl
  · rw [show xR c (va_up R 0 (some x)) = xO c (some x) ++ (xO c (R 1) ++ (xO c (R 2) ++ (xO c (R 3) ++ (xO c (R 4) ++ xO c (R 5))))) from rfl]
    unfold xR
    simp only [List.count_append]
    omega
  · rw [show xR c (va_up R 1 (some x)) = xO c (R 0) ++ (xO c (some x) ++ (xO c (R 2) ++ (xO c (R 3) ++ (xO c (R 4) ++ xO c (R 5))))) from rfl]
    unfold xR
    simp only [List.count_append]
    omega
  · rw [show xR c (va_up R 2 (some x)) = xO c (R 0) ++ (xO c (R 1) ++ (xO c (some x) ++ (xO c (R 3) ++ (xO c (R 4) ++ xO c (R 5))))) from rfl]
    unfold xR
    simp only [List.count_append]
    omega
  · rw [show xR c (va_up R 3 (some x)) = xO c (R 0) ++ (xO c (R 1) ++ (xO c (R 2) ++ (xO c (some x) ++ (xO c (R 4) ++ xO c (R 5))))) from rfl]
    unfold xR
    simp only [List.count_append]
    omega
  · rw [show xR c (va_up R 4 (some x)) = xO c (R 0) ++ (xO c (R 1) ++ (xO c (R 2) ++ (xO c (R 3) ++ (xO c (some x) ++ xO c (R 5))))) from rfl]
    unfold xR
    simp only [List.count_append]
    omega
  · rw [show xR c (va_up R 5 (some x)) = xO c (R 0) ++ (xO c (R 1) ++ (xO c (R 2) ++ (xO c (R 3) ++ (xO c (R 4) ++ xO c (some x))))) from rfl]
    unfold xR
    simp only [List.count_append]
    omega
theorem xS_up (c : ClassId) (S : Nat → Option XD) {p : Nat} (hp : p < 2) (x : XD) : (xO c (some x) ++ xS c S).Perm (xO c (S p) ++ xS c (va_up S p (some x))) := by
  haveI : DecidableEq (Nat × va_E) := fun _ _ => Classical.propDecidable _
  refine List.perm_iff_count.mpr (fun a => ?_)
  rcases (show p = 0 ∨ p = 1 by omega) with rfl | rfl
  · rw [show xS c (va_up S 0 (some x)) = xO c (some x) ++ xO c (S 1) from rfl]
    unfold xS
    simp only [List.count_append]
    omega
  · rw [show xS c (va_up S 1 (some x)) = xO c (S 0) ++ xO c (some x) from rfl]
    unfold xS
    simp only [List.count_append]
    omega
/-- a slot's disc, taken out of the others -/
theorem xS_out (c : ClassId) (S : Nat → Option XD) {p : Nat} (hp : p < 2) : ∃ z : va_W, (xS c S).Perm (xO c (S p) ++ z) := by
  rcases (show p = 0 ∨ p = 1 by omega) with rfl | rfl
  · exact ⟨xO c (S 1), List.Perm.refl _⟩
  · exact ⟨xO c (S 0), List.perm_append_comm⟩
abbrev cW (G : GG) (γ : Nat) (α β π κ η : Nat → Nat) (ς : Nat) (ρ : QS) (ϖ : PS) (σ τ : DS) (R S : Nat → Option XD) (o n : Nat) : va_W := gW γ (α 0) (β 0) (π 0) (κ 0) (η 0) ς ++ (qW G.2.1 κ ρ ++ (pW G.2.1 π ϖ ++ (dW G.2.1 α σ ++ (dW G.2.1 β τ ++ (hW G.2.2 η (ringOf R, nI o, nI n) ++ (sW G.2.2 ς (ringOf S) ++ (xR G.2.1 R ++ xS G.2.1 S)))))))
def LIw (G : GG) (γ μ0 : Nat) (W : va_W) : Prop := ∃ (α β π κ η : Nat → Nat) (ς : Nat) (ρ : QS) (ϖ : PS) (σ τ : DS) (R S : Nat → Option XD) (o n : Nat) (ν : Nat → Nat) (μ : MS), W = cW G γ α β π κ η ς ρ ϖ σ τ R S o n ++ mW G.2.1 ν μ ∧ ν 0 = μ0 ∧ Rl σ (m_al μ) ∧ HI R o n μ ∧ SI S μ ∧ PI ϖ μ
section PMS
variable {X M N g q p a b h s x y m o x' t w r z d D F F' : va_W}
theorem pqN (pm : (X ++ M).Perm (q ++ (p ++ (a ++ (b ++ (s ++ (x ++ (y ++ m)))))))) (hx : (a ++ x).Perm (o ++ x')) (ht : t.Perm (o ++ N)) : (X ++ (g ++ (h ++ (M ++ N)))).Perm ((g ++ (q ++ (p ++ (b ++ (t ++ (h ++ (s ++ (x' ++ y)))))))) ++ m) := by
  haveI : DecidableEq (Nat × va_E) := fun _ _ => Classical.propDecidable _
  refine List.perm_iff_count.mpr (fun e => ?_)
  have h1 := List.perm_iff_count.mp pm e
  have h2 := List.perm_iff_count.mp hx e
  have h3 := List.perm_iff_count.mp ht e
  simp only [List.count_append] at h1 h2 h3 ⊢
  omega
theorem pqE (pm : (X ++ M).Perm (q ++ (p ++ (a ++ (b ++ (s ++ (x ++ (y ++ m)))))))) : (X ++ (g ++ (h ++ M))).Perm ((g ++ (q ++ (p ++ (a ++ (b ++ (h ++ (s ++ (x ++ y)))))))) ++ m) := by
  haveI : DecidableEq (Nat × va_E) := fun _ _ => Classical.propDecidable _
  refine List.perm_iff_count.mpr (fun e => ?_)
  have h1 := List.perm_iff_count.mp pm e
  simp only [List.count_append] at h1 ⊢
  omega
theorem pqF : ((g ++ (q ++ (p ++ (a ++ (b ++ (h ++ r)))))) ++ m).Perm ((g ++ (q ++ (p ++ (a ++ (b ++ h))))) ++ (r ++ m)) := by
  haveI : DecidableEq (Nat × va_E) := fun _ _ => Classical.propDecidable _
  refine List.perm_iff_count.mpr (fun e => ?_)
  simp only [List.count_append]
  omega
theorem pqB : ((g ++ (q ++ (p ++ (a ++ (b ++ (h ++ r)))))) ++ m).Perm ((r ++ m) ++ (g ++ (q ++ (p ++ (a ++ (b ++ h)))))) := by
  haveI : DecidableEq (Nat × va_E) := fun _ _ => Classical.propDecidable _
  refine List.perm_iff_count.mpr (fun e => ?_)
  simp only [List.count_append]
  omega
theorem pqM : (((s ++ (x ++ y)) ++ m) ++ (q ++ (p ++ (a ++ b)))).Perm (q ++ (p ++ (a ++ (b ++ (s ++ (x ++ (y ++ m))))))) := by
  haveI : DecidableEq (Nat × va_E) := fun _ _ => Classical.propDecidable _
  refine List.perm_iff_count.mpr (fun e => ?_)
  simp only [List.count_append]
  omega
/-- undo: the object, the history and the disc's own cell in front -/
theorem pqU : ((g ++ (q ++ (p ++ ((d ++ D) ++ (b ++ (h ++ r)))))) ++ m).Perm ((g ++ (h ++ d)) ++ ((q ++ (p ++ (D ++ (b ++ r)))) ++ m)) := by
  haveI : DecidableEq (Nat × va_E) := fun _ _ => Classical.propDecidable _
  refine List.perm_iff_count.mpr (fun e => ?_)
  simp only [List.count_append]
  omega
theorem pqU2 (hx : ((d ++ D) ++ x).Perm (o ++ x')) : ((g ++ (h ++ d)) ++ ((q ++ (p ++ (D ++ (b ++ (s ++ (x ++ y)))))) ++ m)).Perm ((g ++ (q ++ (p ++ (o ++ (b ++ (h ++ (s ++ (x' ++ y)))))))) ++ m) := by
  haveI : DecidableEq (Nat × va_E) := fun _ _ => Classical.propDecidable _
  refine List.perm_iff_count.mpr (fun e => ?_)
  have h2 := List.perm_iff_count.mp hx e
  simp only [List.count_append] at h2 ⊢
  omega
/-- the slots -/
theorem pqG : ((g ++ (q ++ (p ++ (a ++ (b ++ (h ++ (s ++ (x ++ y)))))))) ++ m).Perm ((g ++ s) ++ ((q ++ (p ++ (a ++ (b ++ (h ++ (x ++ y)))))) ++ m)) := by
  haveI : DecidableEq (Nat × va_E) := fun _ _ => Classical.propDecidable _
  refine List.perm_iff_count.mpr (fun e => ?_)
  simp only [List.count_append]
  omega
theorem pqV (hy : y.Perm (t ++ z)) : ((g ++ (q ++ (p ++ (a ++ (b ++ (h ++ (s ++ (x ++ y)))))))) ++ m).Perm ((g ++ (s ++ (a ++ t))) ++ ((q ++ (p ++ (b ++ (h ++ (x ++ z))))) ++ m)) := by
  haveI : DecidableEq (Nat × va_E) := fun _ _ => Classical.propDecidable _
  refine List.perm_iff_count.mpr (fun e => ?_)
  have h2 := List.perm_iff_count.mp hy e
  simp only [List.count_append] at h2 ⊢
  omega
theorem pqV2 (hy : y.Perm (o ++ z)) (hx : (t ++ y).Perm (o ++ x')) : ((g ++ (s ++ (a ++ t))) ++ ((q ++ (p ++ (b ++ (h ++ (x ++ z))))) ++ m)).Perm ((g ++ (q ++ (p ++ (a ++ (b ++ (h ++ (s ++ (x ++ x')))))))) ++ m) := by
  haveI : DecidableEq (Nat × va_E) := fun _ _ => Classical.propDecidable _
  refine List.perm_iff_count.mpr (fun e => ?_)
  have h1 := List.perm_iff_count.mp hy e
  have h2 := List.perm_iff_count.mp hx e
  simp only [List.count_append] at h1 h2 ⊢
  omega
theorem pqW : ((g ++ (q ++ (p ++ (a ++ (b ++ (h ++ (s ++ (x ++ y)))))))) ++ m).Perm (((q ++ (p ++ (b ++ (h ++ (x ++ y))))) ++ m) ++ (g ++ (s ++ a))) := by
  haveI : DecidableEq (Nat × va_E) := fun _ _ => Classical.propDecidable _
  refine List.perm_iff_count.mpr (fun e => ?_)
  simp only [List.count_append]
  omega
theorem pqW2 (hx : (t ++ y).Perm x') : (((q ++ (p ++ (b ++ (h ++ (x ++ y))))) ++ m) ++ (g ++ (s ++ (a ++ t)))).Perm ((g ++ (q ++ (p ++ (a ++ (b ++ (h ++ (s ++ (x ++ x')))))))) ++ m) := by
  haveI : DecidableEq (Nat × va_E) := fun _ _ => Classical.propDecidable _
  refine List.perm_iff_count.mpr (fun e => ?_)
  have h2 := List.perm_iff_count.mp hx e
  simp only [List.count_append] at h2 ⊢
  omega
/-- restore -/
theorem pqT (hy : y.Perm (t ++ z)) : ((g ++ (q ++ (p ++ (a ++ (b ++ (h ++ (s ++ (x ++ y)))))))) ++ m).Perm (((q ++ (p ++ (x ++ z))) ++ m) ++ (g ++ (h ++ (s ++ (a ++ (b ++ t)))))) := by
  haveI : DecidableEq (Nat × va_E) := fun _ _ => Classical.propDecidable _
  refine List.perm_iff_count.mpr (fun e => ?_)
  have h2 := List.perm_iff_count.mp hy e
  simp only [List.count_append] at h2 ⊢
  omega
theorem pqT2 (hy : y.Perm (t ++ z)) : (((q ++ (p ++ (x ++ z))) ++ m) ++ (s ++ (a ++ (b ++ t)))).Perm (q ++ (p ++ (a ++ (b ++ (s ++ (x ++ (y ++ m))))))) := by
  haveI : DecidableEq (Nat × va_E) := fun _ _ => Classical.propDecidable _
  refine List.perm_iff_count.mpr (fun e => ?_)
  have h2 := List.perm_iff_count.mp hy e
  simp only [List.count_append] at h2 ⊢
  omega
end PMS
section NXT
variable {G : GG} {γ : Nat} {α β π κ η : Nat → Nat} {ς : Nat} {ρ : QS} {ϖ : PS} {σ τ : DS} {R S : Nat → Option XD} {o n : Nat} {X M w1 m : va_W} {a : Int32}
theorem AP_next (h : AP G γ η (ringOf R) o n (α 0) (β 0) (π 0) (κ 0) ς M a w1) (pm : (X ++ M).Perm (qW G.2.1 κ ρ ++ (pW G.2.1 π ϖ ++ (dW G.2.1 α σ ++ (dW G.2.1 β τ ++ (sW G.2.2 ς (ringOf S) ++ (xR G.2.1 R ++ (xS G.2.1 S ++ m)))))))) :
    (a < 0 ∧ (X ++ w1).Perm (cW G γ α β π κ η ς ρ ϖ σ τ R S o n ++ m)) ∨ (¬ a < 0 ∧ ∃ (δ : Nat → Nat) (υ : DS), (X ++ w1).Perm (cW G γ β δ π κ η ς ρ ϖ τ υ (va_up R ((o + n) % 6) (some (α, σ))) S (kO o n) (kN n) ++ m)) := by
  rcases h with ⟨ha, rfl⟩ | ⟨ha, q, N, hN, rfl⟩
  · exact Or.inl ⟨ha, pqE pm⟩
  · have hx := xR_up G.2.1 R (p := (o + n) % 6) (by omega) (α, σ)
    rcases hN with ⟨hr, rfl⟩ | ⟨hr, δ, rfl, rfl⟩
    · obtain ⟨δ, υ, h1, rfl⟩ := ringOf_some hr
      refine Or.inr ⟨ha, δ, υ, ?_⟩
      rw [← show ringOf (va_up R ((o + n) % 6) (some (α, σ))) = va_up (ringOf R) ((o + n) % 6) (some (α 0)) from ringOf_up _ _ _]
      rw [h1] at hx
      exact pqN pm hx (by rw [List.append_nil]; exact List.Perm.refl _)
    · refine Or.inr ⟨ha, δ, dNew, ?_⟩
      rw [← show ringOf (va_up R ((o + n) % 6) (some (α, σ))) = va_up (ringOf R) ((o + n) % 6) (some (α 0)) from ringOf_up _ _ _]
      rw [ringOf_none hr] at hx
      exact pqN pm hx (List.Perm.refl _)
theorem LI_ch {ν : Nat → Nat} {μ μ' : MS} (h : AP G γ η (ringOf R) o n (α 0) (β 0) (π 0) (κ 0) ς M a w1) (pm : (X ++ M).Perm (qW G.2.1 κ ρ ++ (pW G.2.1 π ϖ ++ (dW G.2.1 α σ ++ (dW G.2.1 β τ ++ (sW G.2.2 ς (ringOf S) ++ (xR G.2.1 R ++ (xS G.2.1 S ++ mW G.2.1 ν μ))))))))
    (h1 : a < 0 → Rl σ (m_al μ') ∧ HI R o n μ') (h2 : ¬ a < 0 → Rl τ (m_al μ') ∧ HI (va_up R ((o + n) % 6) (some (α, σ))) (kO o n) (kN n) μ') (hS : SI S μ') (hP : PI ϖ μ') : ∃ WC, (X ++ w1).Perm (WC ++ mW G.2.1 ν μ) ∧ LIw G γ (ν 0) (WC ++ mW G.2.1 ν μ') := by
  rcases AP_next h pm with ⟨ha, e⟩ | ⟨ha, δ, υ, e⟩
  · obtain ⟨q1, q2⟩ := h1 ha
    exact ⟨_, e, _, _, _, _, _, _, _, _, _, _, _, _, _, _, _, _, rfl, rfl, q1, q2, hS, hP⟩
  · obtain ⟨q1, q2⟩ := h2 ha
    exact ⟨_, e, _, _, _, _, _, _, _, _, _, _, _, _, _, _, _, _, rfl, rfl, q1, q2, hS, hP⟩
end NXT
/-! the script's ints, the booleans and the long out of two ints -/
def bz (x : Int32) : Int32 := if x = 0 then 0 else 1
def pl (x y : Int32) : Int64 := (x.toInt64 <<< ((32 : Int32).toInt64 &&& 63)) ||| (y.toInt64 &&& 4294967295)
theorem vin {j L k : Nat} (hL : L ≤ 1536) (h : j + k < L) (v : Int32) (hv : v = nI k) : vp_in (nI j + v) L := by
  rw [hv, nI_add]
  exact vp_in_nI h (by omega)
section LDA
variable {p : Program} {l : Launch} {e : Env} {s : State} {m : MethodId} {below : List Frame} {meth : Method} {c : Code} {H : Heap} {locs : List Loc} {cells slots : Nat} {Q : State → Prop} {b L j : Nat} {xs : Nat → Int32} {A : Nat → Prop} {γ μ0 pc : Nat} {ls : Array Slot} {rest : List Value} {x : Int32}
theorem ldA (hx : p.tables.exec = Jvm.exec) (hb : c.code = cL_law) (hX : va_X b L xs s s.heap) (hbl : b < s.heap.size) (hbA : ¬ A b) (hS : va_S A s.heap H locs) (hl : lv_has ls 4 [(0, .ref b), (1, .ref γ), (2, .ref μ0), (3, .int (nI j))]) (k : Int) (v : Int32) (hv : Int32.ofInt k = v) (hin : vp_in (nI j + v) L) (hxv : xs (nI j + v).toNatClampNeg = x)
    (d0 : decode cL_law pc = .ok (.aload_n 0, 1)) (d1 : decode cL_law (pc + 1) = .ok (.iload_n 3, 1)) (d2 : decode cL_law (pc + 1 + 1) = .ok (.iconst k, 1)) (d3 : decode cL_law (pc + 1 + 1 + 1) = .ok (.iadd, 1)) (d4 : decode cL_law (pc + 1 + 1 + 1 + 1) = .ok (.iaload, 1))
    (kk : W p l e room_1 s m #[.ref b] below meth c H locs cells slots Q (F0 m (pc + 1 + 1 + 1 + 1 + 1) ls (.int x :: rest))) : W p l e room_1 s m #[.ref b] below meth c H locs cells slots Q (F0 m pc ls rest) := by
  subst hxv
  refine lv_aload_n hx hb d0 rfl (lv_at hl 0 rfl) ?_
  refine lv_iload_n hx hb d1 rfl (lv_at hl 3 rfl) ?_
  refine lv_iconst (v := v) hx hb d2 hv ?_
  refine lv_iadd hx hb d3 ?_
  exact va_sld hx hb hX hbl hbA hS hin d4 kk
theorem boolA (hx : p.tables.exec = Jvm.exec) (hb : c.code = cL_law) (d0 : decode cL_law pc = .ok (.ifCond .eq 7, 3)) (d1 : decode cL_law (pc + 3) = .ok (.iconst 1, 1)) (d2 : decode cL_law (pc + 3 + 1) = .ok (.goto 4, 3)) (d3 : decode cL_law (pc + 7) = .ok (.iconst 0, 1))
    (kk : W p l e room_1 s m #[.ref b] below meth c H locs cells slots Q (F0 m (pc + 8) ls (.int (bz x) :: rest))) : W p l e room_1 s m #[.ref b] below meth c H locs cells slots Q (F0 m pc ls (.int x :: rest)) := by
  refine lv_if_eq (tgt := pc + 7) hx hb d0 (by omega) (fun h => ?_) (fun h => ?_)
  · refine lv_iconst (v := 0) hx hb d3 (by decide) ?_
    rw [show bz x = 0 from if_pos h] at kk
    exact kk
  · refine lv_iconst (v := 1) hx hb d1 (by decide) ?_
    refine lv_goto (tgt := pc + 8) hx hb d2 (by omega) ?_
    rw [show bz x = 1 from if_neg h] at kk
    exact kk
end LDA
