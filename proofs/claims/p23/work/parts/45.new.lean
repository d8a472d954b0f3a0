/-! undo, save, restore; the beginning -/
section SLO
variable {σ : DS}
theorem like_id (σ τ : DS) : s_X0_becomeLike σ τ = τ := rfl
end SLO
/-! the beginning -/
theorem fillL (f : NI) (v : Int32) : ∀ (n i : Nat) (τ : NI), i ≤ 204 → 204 - i < n → (∀ k, L1_J7_fill f v n (nI i) τ k = if i ≤ k ∧ k < 204 then v else τ k) ∧ okL1_J7_fill f v n (nI i) τ
  | 0, i, τ, _, h => absurd h (Nat.not_lt_zero _)
  | n + 1, i, τ, hi, hn => by
    by_cases e : i = 204
    · subst e
      rw [L1_J7_fill, okL1_J7_fill, if_pos (show (204 : Int32) ≤ nI 204 from Int32.le_refl _)]
      exact ⟨fun k => (if_neg (by omega)).symm, fun _ => trivial, fun h => absurd (Int32.le_refl _) h⟩
    · have hlt : ¬ (204 : Int32) ≤ nI i := nI_ge (b := 204) (by omega) (by omega)
      obtain ⟨q1, q2⟩ := fillL f v n (i + 1) (upd τ i v) (by omega) (by omega)
      rw [L1_J7_fill, okL1_J7_fill, if_neg hlt, nI_1, nI_clamp (by omega)]
      refine ⟨fun k => ?_, fun h => absurd h hlt, fun _ => ⟨vp_in_nI (by omega) (by decide), q2⟩⟩
      rw [q1 k]
      by_cases hk : k = i
      · subst hk
        rw [if_neg (by omega), if_pos (by omega), pk_us]
      · rw [pk_un hk]
        by_cases h2 : i + 1 ≤ k ∧ k < 204
        · rw [if_pos h2, if_pos (by omega)]
        · rw [if_neg h2, if_neg (by omega)]
theorem secL (σ : DS) : ∀ (n i : Nat) (τ : DS), i ≤ 192 → 192 - i < n → (∃ g : NI, L1_X0_init σ n (nI i) τ = d_se' τ g ∧ ∀ k, g k = if i ≤ k ∧ k < 192 then nI k else d_se τ k) ∧ okL1_X0_init σ n (nI i) τ
  | 0, i, τ, _, h => absurd h (Nat.not_lt_zero _)
  | n + 1, i, τ, hi, hn => by
    by_cases e : i = 192
    · subst e
      rw [L1_X0_init, okL1_X0_init, if_pos (show (192 : Int32) ≤ nI 192 from Int32.le_refl _)]
      exact ⟨⟨d_se τ, rfl, fun k => (if_neg (by omega)).symm⟩, fun _ => trivial, fun h => absurd (Int32.le_refl _) h⟩
    · have hlt : ¬ (192 : Int32) ≤ nI i := le192 (by omega)
      obtain ⟨⟨g, q1, q2⟩, q3⟩ := secL σ n (i + 1) (d_se' τ (upd (d_se τ) i (nI i))) (by omega) (by omega)
      rw [L1_X0_init, okL1_X0_init, if_neg hlt, nI_1, nI_clamp (by omega)]
      refine ⟨⟨g, by rw [q1]; rfl, fun k => ?_⟩, fun h => absurd h hlt, fun _ => ⟨vp_in_nI (by omega) (by decide), q3⟩⟩
      rw [q2 k]
      show (if i + 1 ≤ k ∧ k < 192 then nI k else upd (d_se τ) i (nI i) k) = _
      by_cases hk : k = i
      · subst hk
        rw [if_neg (by omega), if_pos (by omega), pk_us]
      · rw [pk_un hk]
        by_cases h2 : i + 1 ≤ k ∧ k < 192
        · rw [if_pos h2, if_pos (by omega)]
        · rw [if_neg h2, if_neg (by omega)]
theorem newD : (∃ nu se : NI, dNew = (firstS, nu, fun _ => 0, fun _ => 0, se, 0, 0, 0, 0) ∧ (∀ c, c < 204 → nu c = -6) ∧ ∀ a, a < 192 → se a = nI a) ∧ ok_X0_init (d_st' dPre firstS) := by
  obtain ⟨f1, f2⟩ := fillL (d_nu (d_st' dPre firstS)) (-6) FU 0 (d_nu (d_st' dPre firstS)) (by omega) (fuel (by omega))
  obtain ⟨⟨g, e1, e2⟩, e3⟩ := secL (d_st' dPre firstS) FU 0 (d_nu' (d_st' dPre firstS) (s_J7_fill (d_nu (d_st' dPre firstS)) (-6))) (by omega) (fuel (by omega))
  rw [nI_0] at f1 f2 e1 e3
  refine ⟨⟨s_J7_fill (d_nu (d_st' dPre firstS)) (-6), g, ?_, fun c hc => ?_, fun a ha => ?_⟩, f2, e3⟩
  · have e0 : dNew = L1_X0_init (d_st' dPre firstS) FU 0 (d_nu' (d_st' dPre firstS) (s_J7_fill (d_nu (d_st' dPre firstS)) (-6))) := by
      unfold dNew s_X0_init
      rfl
    rw [e0, e1]
    generalize s_J7_fill (d_nu (d_st' dPre firstS)) (-6) = nu
    rfl
  · exact (f1 c).trans (if_pos ⟨by omega, hc⟩)
  · rw [e2 a, if_pos ⟨by omega, ha⟩]
theorem sumN_0 : ∀ n, sumN (fun _ => 0) n = 0
  | 0 => rfl
  | n + 1 => by
    show sumN (fun _ => 0) n + 0 = 0
    rw [sumN_0 n]
    rfl
