/-! what isStep stands on -/
theorem c_L_upE (l : Launch) (G : GG) (x n r : Int32) (hn : ¬ n = 0) (e : vUp x n = r) : Rd G l yL_up wsL_up 0 0 [.int x, .int n] [] (.int r) := by
  rw [← e]
  exact c_L_up l G x n hn
section STE
variable {G : GG} {γ : Nat} {V : OV} {W0 : va_W}
theorem o_sectorE (l : Launch) (hI : OI G γ V W0) (p q : Int32) {r : Int32} (e : vS V.1 p q = r) : Rd G l yX4_sector wsX4_sector 3 63 [.ref γ, .int p, .int q] W0 (.int r) := by
  rw [← e]
  exact o_sector l hI p q
theorem o_readE (l : Launch) (tb : Nat × Nat × Nat) (hI : OI G γ V W0) {a : Nat} (ha : a < 192) {k : Int32} {D : DS} (e : s_X0_readFrom V.1 (nI a) = (k, D)) (hk : k < 0 → D = V.1) : Nw G l yX4_read wsX4_read 5 133 6 818 [.ref γ, .int (nI a)] W0 (sT tb) (some (.int k)) (OI G γ (D, V.2.1, V.2.2)) := by
  have h := o_read l tb hI ha (fun q => by rw [e] at q ⊢; exact hk q)
  rw [e] at h
  exact h
theorem o_seekE (l : Launch) (tb : Nat × Nat × Nat) (hI : OI G γ V W0) {t : Nat} (ht : t < 17) {k : Int32} {D : DS} (e : s_X0_moveHead V.1 (nI t) = (k, D)) (hk : ¬ k < 0) : Nw G l yX4_seek wsX4_seek 5 133 6 818 [.ref γ, .int (nI t)] W0 (sT tb) (some (.int k)) (OI G γ (D, V.2.1, V.2.2)) := by
  have h := o_seek l tb hI ht (fun q => absurd (by rw [e] at q; exact q) hk)
  rw [e] at h
  exact h
theorem o_idleE (l : Launch) (tb : Nat × Nat × Nat) (hI : OI G γ V W0) {t : Nat} (ht1 : 1 ≤ t) (ht : t ≤ 9999) {k : Int32} {D : DS} (e : s_X0_waitFor V.1 (nI t) = (k, D)) (hk : ¬ k < 0) : Nw G l yX4_idle wsX4_idle 5 133 6 818 [.ref γ, .int (nI t)] W0 (sT tb) (some (.int k)) (OI G γ (D, V.2.1, V.2.2)) := by
  have h := o_idle l tb hI ht1 ht (fun q => absurd (by rw [e] at q; exact q) hk)
  rw [e] at h
  exact h
end STE
def SV (k v : Nat) : Prop := (k = 2 ∧ 5 ≤ v ∧ v ≤ 99) ∨ (k = 3 ∧ 1 ≤ v ∧ v ≤ 99) ∨ (k ≠ 2 ∧ k ≠ 3 ∧ v ≤ 20)
theorem svP {k v : Nat} (hk : k < 5) (h : SV k v) : ¬ nI v < lowS k ∧ nI v ≤ highS k := by
  rcases h with ⟨rfl, h1, h2⟩ | ⟨rfl, h1, h2⟩ | ⟨h1, h2, h3⟩
  · exact ⟨show ¬ nI v < (5 : Int32) from nI_nlt (b := 5) h1 (by omega), show nI v ≤ (99 : Int32) from nI_le (b := 99) h2 (by omega)⟩
  · exact ⟨show ¬ nI v < (1 : Int32) from nI_nlt (b := 1) h1 (by omega), show nI v ≤ (99 : Int32) from nI_le (b := 99) h2 (by omega)⟩
  · rcases (show k = 0 ∨ k = 1 ∨ k = 4 by omega) with rfl | rfl | rfl
    · exact ⟨show ¬ nI v < 0 from nI_pos (by omega), show nI v ≤ (20 : Int32) from nI_le (b := 20) h3 (by omega)⟩
    · exact ⟨show ¬ nI v < 0 from nI_pos (by omega), show nI v ≤ (20 : Int32) from nI_le (b := 20) h3 (by omega)⟩
    · exact ⟨show ¬ nI v < 0 from nI_pos (by omega), show nI v ≤ (20 : Int32) from nI_le (b := 20) h3 (by omega)⟩
section STD
variable {σ : DS} {K : Nat}
theorem stN (h : Dv K σ) {k : Nat} (hk : k < 5) : ¬ d_st σ k < 0 := by
  obtain ⟨⟨a, a1, a2⟩, ⟨b, b1, b2⟩, ⟨c, c0, c1, c2⟩, ⟨d, d0, d1, d2⟩, ⟨e, e1, e2⟩, -⟩ := h
  rcases (show k = 0 ∨ k = 1 ∨ k = 2 ∨ k = 3 ∨ k = 4 by omega) with rfl | rfl | rfl | rfl | rfl
  · rw [a2]; exact nI_pos (by omega)
  · rw [b2]; exact nI_pos (by omega)
  · rw [c2]; exact nI_pos (by omega)
  · rw [d2]; exact nI_pos (by omega)
  · rw [e2]; exact nI_pos (by omega)
theorem setDv (h : Dv K σ) {k v : Nat} (hk : k < 5) (hv : SV k v) : Dv K (d_st' σ (upd (d_st σ) k (nI v))) := by
  obtain ⟨h1, h2, h3, h4, h5, h6⟩ := h
  have self : d_st (d_st' σ (upd (d_st σ) k (nI v))) k = nI v := pk_us
  have oth : ∀ j, j ≠ k → d_st (d_st' σ (upd (d_st σ) k (nI v))) j = d_st σ j := fun j hj => pk_un hj
  refine ⟨?_, ?_, ?_, ?_, ?_, h6⟩
  · by_cases q : 0 = k
    · subst q
      exact ⟨v, by unfold SV at hv; omega, self⟩
    · rw [oth 0 q]; exact h1
  · by_cases q : 1 = k
    · subst q
      exact ⟨v, by unfold SV at hv; omega, self⟩
    · rw [oth 1 q]; exact h2
  · by_cases q : 2 = k
    · subst q
      exact ⟨v, by unfold SV at hv; omega, by unfold SV at hv; omega, self⟩
    · rw [oth 2 q]; exact h3
  · by_cases q : 3 = k
    · subst q
      exact ⟨v, by unfold SV at hv; omega, by unfold SV at hv; omega, self⟩
    · rw [oth 3 q]; exact h4
  · by_cases q : 4 = k
    · subst q
      exact ⟨v, by unfold SV at hv; omega, self⟩
    · rw [oth 4 q]; exact h5
def mv561_isStep (σ : DS) (q : Nat) : Int32 := (if (nI q) ≤ (vC σ 6) then ((vC σ 6) - (nI q)) else ((nI q) - (vC σ 6)))
theorem seekD (h : Dv K σ) (hK : K + 400 ≤ 9999999) {q : Nat} (hq : q < 17) : ∃ (m : Nat) (D : DS), s_X0_moveHead σ (nI q) = (nI m, D) ∧ ¬ nI m < 0 ∧ Dv (K + 400) D ∧ (vC D 6) = (nI q) ∧ (nI m) = ((vC D 4) * (mv561_isStep σ q)) := by
  obtain ⟨t, hh, ht, hhh, et, eh, e1, hm⟩ := ttt h hq
  obtain ⟨T, hT, eT⟩ := h.2.2.2.2.2.1
  have em : mv561_isStep σ q = nI (dist hh q) := by
    unfold mv561_isStep dist
    rw [vC6, eh]
    by_cases q1 : hh ≤ q
    · rw [if_pos q1]
      by_cases q2 : q = hh
      · rw [q2, if_pos (Int32.le_refl _), pk_sub (Nat.le_refl _)]
      · rw [if_neg (nI_ge (by omega) (by omega)), pk_sub q1]
    · rw [if_neg q1, if_pos (nI_le (by omega) (by omega)), pk_sub (by omega)]
  refine ⟨t * dist hh q, d_hd' (d_tk' σ (nI (T + t * dist hh q))) (nI q), ?_, nI_pos (by omega), ?_, ?_, ?_⟩
  · unfold s_X0_moveHead s_X0_pass
    rw [e1, if_neg (hast eT (by omega)), eT, nI_add]
  · obtain ⟨h1, h2, h3, h4, h5, h6, h7, h8⟩ := h
    exact ⟨h1, h2, h3, h4, h5, ⟨_, by omega, rfl⟩, ⟨q, by omega, rfl⟩, h8⟩
  · rw [vC6]
    rfl
  · rw [em, vC4, ← pk_mul]
    congr 1
    exact et.symm
theorem idleD (h : Dv K σ) (hK : K + 9999 ≤ 9999999) {v : Nat} (hv : v ≤ 9999) : ∃ (D : DS), s_X0_waitFor σ (nI v) = (s_X0_sectorUnderHead D, D) ∧ ¬ s_X0_sectorUnderHead D < 0 ∧ Dv (K + 9999) D ∧ (vC D 5) = ((vC σ 5) + (nI v)) ∧ (vC D 7) = (jrem ((vC σ 5) + (nI v)) 12) := by
  obtain ⟨T, hT, eT⟩ := h.2.2.2.2.2.1
  refine ⟨d_hd' (d_tk' σ (nI (T + v))) (d_hd σ), ?_, ?_, ?_, ?_, ?_⟩
  · unfold s_X0_waitFor s_X0_pass
    rw [if_neg (hast eT (by omega)), eT, nI_add]
  · show ¬ jrem (nI (T + v)) 12 < 0
    rw [jr12 (by omega)]
    exact nI_pos (by omega)
  · obtain ⟨h1, h2, h3, h4, h5, h6, h7, h8⟩ := h
    exact ⟨h1, h2, h3, h4, h5, ⟨_, by omega, rfl⟩, h7, h8⟩
  · rw [vC5, vC5, eT, nI_add]
    rfl
  · rw [vC7, vC5, eT, nI_add]
    rfl
theorem sum01 {f : NI} : ∀ n, (∀ k, k < n → f k = 0 ∨ f k = 1) → ∃ m, m ≤ n ∧ sumN f n = nI m
  | 0, _ => ⟨0, Nat.le_refl _, rfl⟩
  | n + 1, h => by
    obtain ⟨m, hm, e⟩ := sum01 n (fun k hk => h k (by omega))
    rcases h n (by omega) with q | q
    · exact ⟨m, by omega, by show sumN f n + f n = _; rw [e, q, Int32.add_zero]⟩
    · exact ⟨m + 1, by omega, by show sumN f n + f n = _; rw [e, q, nI_1]⟩
theorem filN (h : Dv K σ) : ¬ s_X0_filledOn σ 0 16 < 0 := by
  rw [filT h]
  obtain ⟨m, hm, e⟩ := sum01 (f := fun a => if s_X0_isWithin (s_X0_sectorFor σ (nI a)) 0 16 = 0 then 0 else hasA σ a) 192 (fun k hk => by
    show (if s_X0_isWithin (s_X0_sectorFor σ (nI k)) 0 16 = 0 then (0 : Int32) else hasA σ k) = 0 ∨ (if s_X0_isWithin (s_X0_sectorFor σ (nI k)) 0 16 = 0 then (0 : Int32) else hasA σ k) = 1
    split
    · exact Or.inl rfl
    · unfold hasA
      split
      · exact Or.inl rfl
      · exact Or.inr rfl)
  rw [e]
  exact nI_pos (by omega)
end STD
/-- the two objects in a state that a step leaves -/
def PW2 (G : GG) (γ γ' K : Nat) (w : va_W) : Prop := ∃ (σ : DS) (ϖ ϖ' : PS) (sl : Nat → Option DS) (A B : va_W), w = A ++ B ∧ OI G γ (σ, ϖ, sl) A ∧ OI G γ' (σ, ϖ', sl) B ∧ p_le ϖ' = 0 ∧ Dv K σ ∧ ∀ k υ, sl k = some υ → Dv K υ
