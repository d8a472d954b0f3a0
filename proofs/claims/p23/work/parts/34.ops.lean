/-! write, read, refresh: disc and row -/
def dP (σ : DS) (x y : Int32) : DS := d_hd' (d_tk' σ x) y
theorem blurBy_P (σ : DS) (x y p m : Int32) : s_X0_blurBy (dP σ x y) p m = dP (s_X0_blurBy σ p m) x y := by
  show (if s_X0_isOnTracksInUse σ p = 0 then dP σ x y else if s_X0_holdsNumber σ p = 0 then dP σ x y else dP (t1_X0_blurBy σ p m) x y) = dP (if s_X0_isOnTracksInUse σ p = 0 then σ else if s_X0_holdsNumber σ p = 0 then σ else t1_X0_blurBy σ p m) x y
  by_cases h1 : s_X0_isOnTracksInUse σ p = 0
  · rw [if_pos h1, if_pos h1]
  · rw [if_neg h1, if_neg h1]
    by_cases h2 : s_X0_holdsNumber σ p = 0
    · rw [if_pos h2, if_pos h2]
    · rw [if_neg h2, if_neg h2]
theorem set_P (σ : DS) (x y k : Int32) : s_X0_settingOf (dP σ x y) k = s_X0_settingOf σ k := rfl
theorem t6_P (σ : DS) (x y c p v : Int32) : t6_X0_fill (dP σ x y) c p v = dP (t6_X0_fill σ c p v) x y := by
  unfold t6_X0_fill t5_X0_fill t4_X0_fill t3_X0_fill
  rw [show t2_X0_fill (dP σ x y) c p v = dP (t2_X0_fill σ c p v) x y from rfl]
  simp only [blurBy_P, set_P]
theorem t13_P (σ : DS) (x y c p v : Int32) : t13_X0_fill (dP σ x y) c p v = dP (t13_X0_fill σ c p v) x y := by
  unfold t13_X0_fill t12_X0_fill t11_X0_fill t10_X0_fill
  rw [show t9_X0_fill (dP σ x y) c p v = dP (t9_X0_fill σ c p v) x y from rfl]
  simp only [blurBy_P, set_P]
theorem fill_P (σ : DS) (x y c p v : Int32) : s_X0_fill (dP σ x y) c p v = dP (s_X0_fill σ c p v) x y := by
  unfold s_X0_fill
  rw [t6_P, t13_P, show t2_X0_fill (dP σ x y) c p v = dP (t2_X0_fill σ c p v) x y from rfl, show t9_X0_fill (dP σ x y) c p v = dP (t9_X0_fill σ c p v) x y from rfl, show s_X0_sectorFor (dP σ x y) p = s_X0_sectorFor σ p from rfl]
  by_cases h1 : c = s_X0_sectorFor σ p
  · rw [if_pos h1, if_pos h1]
    by_cases h2 : s_X4_isSpare c = 0
    · rw [if_pos h2, if_pos h2]
    · rw [if_neg h2, if_neg h2]
  · rw [if_neg h1, if_neg h1]
    by_cases h2 : s_X4_isSpare c = 0
    · rw [if_pos h2, if_pos h2]
    · rw [if_neg h2, if_neg h2]
theorem blurBy_tk (σ : DS) (p m : Int32) : d_tk (s_X0_blurBy σ p m) = d_tk σ := by
  unfold s_X0_blurBy
  by_cases h1 : s_X0_isOnTracksInUse σ p = 0
  · rw [if_pos h1]
  · rw [if_neg h1]
    by_cases h2 : s_X0_holdsNumber σ p = 0
    · rw [if_pos h2]
    · rw [if_neg h2]; rfl
theorem fill_tk (σ : DS) (c p v : Int32) : d_tk (s_X0_fill σ c p v) = d_tk σ := by
  unfold s_X0_fill
  by_cases h1 : c = s_X0_sectorFor σ p
  · rw [if_pos h1]
    by_cases h2 : s_X4_isSpare c = 0
    · rw [if_pos h2]; unfold t6_X0_fill t5_X0_fill t4_X0_fill t3_X0_fill; rw [blurBy_tk, blurBy_tk, blurBy_tk, blurBy_tk]; rfl
    · rw [if_neg h2]; rfl
  · rw [if_neg h1]
    by_cases h2 : s_X4_isSpare c = 0
    · rw [if_pos h2]; unfold t13_X0_fill t12_X0_fill t11_X0_fill t10_X0_fill; rw [blurBy_tk, blurBy_tk, blurBy_tk, blurBy_tk]; rfl
    · rw [if_neg h2]; rfl
theorem pass_P (σ : DS) (k t : Int32) : s_X0_pass σ k t = dP σ (d_tk σ + k) t := rfl
theorem fresh_id (σ τ : DS) : s_X4_freshTrial σ τ = σ := rfl
section OPS
variable {σ : DS}
end OPS
