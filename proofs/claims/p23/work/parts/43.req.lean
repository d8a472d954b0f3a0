/-! a request, read by both -/
section REQ
variable {ρ : QS} {π : PS} {L : Nat}
theorem upd_upd (f : NI) (k : Nat) (x y : Int32) : upd (upd f k x) k y = upd f k y := by
  funext j
  unfold upd
  by_cases h : j = k
  · rw [if_pos h, if_pos h]
  · rw [if_neg h, if_neg h, if_neg h]
theorem PE4 (hL : L ≤ 60) (hl : p_le π = nI L) (ad nu tr : NI) (sz : Int32) : PP ρ π L (Q5 ad nu tr sz 4) = ((-6, Q5 ad nu tr sz 4), True) := by
  rw [PP_end hL hl, if_pos (show q_pl (Q5 ad nu tr sz 4) = 4 from rfl)]
theorem PE2 (hL : L ≤ 60) (hl : p_le π = nI L) (ad nu tr : NI) {r : Nat} (hr : r < 21) : (nu r = -6 → PP ρ π L (Q5 ad nu tr (nI (r + 1)) 2) = ((-6, Q5 ad nu tr (nI (r + 1)) 2), True)) ∧ (¬ nu r = -6 → PP ρ π L (Q5 ad nu tr (nI (r + 1)) 2) = ((nI L, Q5 ad nu tr (nI (r + 1)) 2), True)) := by
  have hwr : s_X3_isWriting (Q5 ad nu tr (nI (r + 1)) 2) (q_sz (Q5 ad nu tr (nI (r + 1)) 2) - 1) = if nu r = -6 then 0 else 1 := by
    unfold s_X3_isWriting
    show (if s_X4_at 21 nu (nI (r + 1) - 1) = -6 then 0 else 1) = _
    rw [nI_pred, at_nI hr (by omega)]
  rw [PP_end hL hl, if_neg (show ¬ q_pl (Q5 ad nu tr (nI (r + 1)) 2) = 4 from by show ¬ (2 : Int32) = 4; decide), if_pos (show q_pl (Q5 ad nu tr (nI (r + 1)) 2) = 2 from rfl), hwr]
  refine ⟨fun h => ?_, fun h => ?_⟩
  · rw [if_pos h, if_pos rfl]
  · rw [if_neg h, if_neg (by decide)]
theorem PEx (hL : L ≤ 60) (hl : p_le π = nI L) (ad nu tr : NI) (sz : Int32) {pl : Int32} (h4 : ¬ pl = 4) (h2 : ¬ pl = 2) : PP ρ π L (Q5 ad nu tr sz pl) = ((nI L, Q5 ad nu tr sz pl), True) := by
  rw [PP_end hL hl, if_neg (show ¬ q_pl (Q5 ad nu tr sz pl) = 4 from h4), if_neg (show ¬ q_pl (Q5 ad nu tr sz pl) = 2 from h2)]
end REQ
