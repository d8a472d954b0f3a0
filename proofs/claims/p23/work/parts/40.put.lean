/-! put, wipe -/
theorem lc0 (v : Int64) : (lg_cmp v 0 = 0) ↔ v = 0 := lg_cmp_eq v 0
theorem un0 (v : Int64) : v = 0 ↔ v.toUInt64.toNat = 0 := by
  constructor
  · intro h; rw [h]; rfl
  · intro h
    have h1 : v.toUInt64 = 0 := UInt64.toNat_inj.mp h
    have h2 : v.toUInt64.toInt64 = (0 : UInt64).toInt64 := by rw [h1]
    simpa using h2
theorem jus8 (v : Int64) : (jus v 8).toUInt64.toNat = v.toUInt64.toNat / 256 := by
  unfold jus
  rw [show ((8 : Int32).toInt64.toUInt64 &&& Int64.toUInt64 63) = 8 from by decide]
  rw [show ((v.toUInt64 >>> 8).toInt64).toUInt64 = v.toUInt64 >>> 8 from by simp]
  rw [UInt64.toNat_shiftRight, show ((8 : UInt64).toNat % 64) = 8 from rfl, Nat.shiftRight_eq_div_pow]
def chR (p : Int64) (n j : Nat) : Int32 := ((jus p (8 * nI (n - 1 - j))) &&& 255).toInt32
def vr (r : Nat) : Int32 := nI r - 1
theorem vr0 : vr 0 < 0 := by decide
theorem vrS (r : Nat) : vr (r + 1) = nI r := nI_pred r
theorem appL (σ : PS) (p : Int64) (p3 : Int32) {n L : Nat} (hL : L + n ≤ 60) : ∀ (r fu : Nat) (τ : PS), r < fu → r ≤ n → n ≤ 8 → p_le τ = nI (L + (n - r)) → ∃ si : NI, L1_X2_append σ p p3 fu (vr r) τ = (si, nI (L + n)) ∧ (∀ j, si j = if L + (n - r) ≤ j ∧ j < L + n then chR p n (j - L) else p_si τ j) ∧ okL1_X2_append σ p p3 fu (vr r) τ
  | r, 0, τ, h, _, _, _ => absurd h (Nat.not_lt_zero _)
  | 0, fu + 1, τ, _, _, _, hl => by
    refine ⟨p_si τ, ?_, fun j => (if_neg (by omega)).symm, ?_⟩
    · rw [L1_X2_append, if_pos vr0]
      have h9 : p_le τ = nI (L + n) := hl
      exact Prod.ext rfl h9
    · rw [okL1_X2_append]
      exact ⟨fun _ => trivial, fun h => absurd vr0 h⟩
  | r + 1, fu + 1, τ, hf, hr, hn, hl => by
    have h0 : ¬ vr (r + 1) < 0 := by rw [vrS]; exact nI_pos (by omega)
    have et : t2_X2_append σ p p3 (vr (r + 1)) τ = (upd (p_si τ) (L + (n - (r + 1))) (chR p n (n - (r + 1))), nI (L + (n - r))) := by
      unfold t2_X2_append t1_X2_append
      rw [hl, lay_nI (by omega) (by omega)]
      show (upd (p_si τ) (L + (n - (r + 1))) ((jus p (8 * vr (r + 1)) &&& 255).toInt32), p_le τ + 1) = _
      rw [hl, nI_1, vrS]
      unfold chR
      rw [show n - 1 - (n - (r + 1)) = r from by omega, show L + (n - (r + 1)) + 1 = L + (n - r) from by omega]
    have ev : vr (r + 1) + (-1) = vr r := by
      rw [vrS]
      unfold vr
      rw [Int32.sub_eq_add_neg]
    obtain ⟨si, e1, e2, e3⟩ := appL σ p p3 hL r fu (upd (p_si τ) (L + (n - (r + 1))) (chR p n (n - (r + 1))), nI (L + (n - r))) (by omega) (by omega) hn rfl
    refine ⟨si, ?_, fun j => ?_, ?_⟩
    · rw [L1_X2_append, if_neg h0, et, ev]
      exact e1
    · rw [e2 j]
      show (if L + (n - r) ≤ j ∧ j < L + n then chR p n (j - L) else upd (p_si τ) (L + (n - (r + 1))) (chR p n (n - (r + 1))) j) = _
      by_cases hj : j = L + (n - (r + 1))
      · subst hj
        rw [if_neg (by omega), if_pos (by omega), pk_us, show L + (n - (r + 1)) - L = n - (r + 1) from by omega]
      · rw [pk_un hj]
        by_cases h2 : L + (n - r) ≤ j ∧ j < L + n
        · rw [if_pos h2, if_pos (by omega)]
        · rw [if_neg h2, if_neg (by omega)]
    · rw [okL1_X2_append, et, ev]
      exact ⟨fun h => absurd h h0, fun _ => e3⟩
