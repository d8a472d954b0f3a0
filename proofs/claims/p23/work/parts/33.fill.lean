/-! heat; an address is written -/
section FIL
variable {σ : DS}
theorem jmin99 {n : Nat} (h : n < 1000) : jmin 99 (nI n) = (if nI n ≤ 99 then nI n else 99) ∧ ∃ b, b ≤ 99 ∧ (if nI n ≤ 99 then nI n else 99) = nI b := by
  show (if nI n < 99 then nI n else 99) = _ ∧ _
  by_cases h1 : n < 99
  · rw [if_pos (show nI n < (99 : Int32) from nI_lt (b := 99) h1 (by omega)), if_pos (show nI n ≤ (99 : Int32) from nI_le (b := 99) (by omega) (by omega))]
    exact ⟨rfl, n, by omega, rfl⟩
  · rw [if_neg (show ¬ nI n < (99 : Int32) from nI_nlt (b := 99) (by omega) (by omega))]
    by_cases h2 : n = 99
    · subst h2
      exact ⟨rfl, 99, by omega, rfl⟩
    · rw [if_neg (show ¬ nI n ≤ (99 : Int32) from nI_ge (a := 99) (by omega) (by omega))]
      exact ⟨rfl, 99, by omega, rfl⟩
/-- the cell of a sector is written -/
def kC (σ : DS) (c : Nat) (v : Int32) : DS := d_wr' (d_bl' (d_nu' σ (upd (d_nu σ) c v)) (upd (d_bl σ) c 0)) (upd (d_wr σ) c (d_wr σ c + 1))
theorem c_t2 (σ : DS) {c : Nat} (hc : c < 204) (p v : Int32) : t2_X0_fill σ (nI c) p v = kC σ c v := by
  unfold t2_X0_fill t1_X0_fill
  rw [lay_nI (f := d_nu σ) hc (by omega), lay_nI (f := d_bl σ) hc (by omega), wriI _ hc, lay_nI hc (by omega)]
  rfl
theorem c_t9 (σ : DS) {c a : Nat} (hc : c < 204) (ha : a < 192) (v : Int32) : t9_X0_fill σ (nI c) (nI a) v = kC (d_sp' (d_se' σ (upd (d_se σ) a (nI c))) (d_sp σ + 1)) c v := by
  unfold t9_X0_fill t8_X0_fill t7_X0_fill
  rw [lay_nI (f := d_nu σ) hc (by omega), lay_nI (f := d_se σ) ha (by omega), lay_nI (n := 204) (v := 0) hc (by omega), wriI _ hc, lay_nI hc (by omega)]
  rfl
theorem rem2 {c : Nat} (hc : c < 204) : jrem (nI c / 12) 2 = nI (c / 12 % 2) := by rw [dv12 (by omega), jr2 (by omega)]
end FIL
