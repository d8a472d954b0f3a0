/-! numbers and rows -/
theorem at_nI {n k : Nat} {f : NI} (h : k < n) (hn : n < 2147483648) : s_X4_at n f (nI k) = f k := by
  rw [s_X4_at, if_neg (nI_pos (by omega)), if_neg (nI_ge h (by omega)), nI_clamp (by omega)]
theorem lay_nI {n k : Nat} {f : NI} {v : Int32} (h : k < n) (hn : n < 2147483648) : s_X4_lay n f (nI k) v = upd f k v := by
  rw [s_X4_lay, if_neg (nI_pos (by omega)), if_neg (nI_ge h (by omega)), nI_clamp (by omega)]
theorem jr12 {a : Nat} (h : a < 2147483648) : jrem (nI a) 12 = nI (a % 12) := pk_rem (a := a) (d := 12) (by omega) (by decide) (by decide)
theorem jr2 {a : Nat} (h : a < 2147483648) : jrem (nI a) 2 = nI (a % 2) := pk_rem (a := a) (d := 2) (by omega) (by decide) (by decide)
theorem dv12 {a : Nat} (h : a < 2147483648) : nI a / 12 = nI (a / 12) := pk_div (a := a) (d := 12) (by omega) (by decide) (by decide)
theorem lN_of (k : Nat) (x : Int32) (h : x = Int32.ofNat k := by rfl) : x = nI k := h
theorem cl12 {c : Nat} (h : c < 204) : (12 + nI c).toNatClampNeg = 12 + c := by
  rw [show (12 : Int32) = nI 12 from rfl, nI_add]; exact nI_clamp (by omega)
theorem cl216 {c : Nat} (h : c < 204) : (216 + nI c).toNatClampNeg = 216 + c := by
  rw [show (216 : Int32) = nI 216 from rfl, nI_add]; exact nI_clamp (by omega)
theorem cl420 {c : Nat} (h : c < 204) : (420 + nI c).toNatClampNeg = 420 + c := by
  rw [show (420 : Int32) = nI 420 from rfl, nI_add]; exact nI_clamp (by omega)
theorem cl624 {c : Nat} (h : c < 192) : (624 + nI c).toNatClampNeg = 624 + c := by
  rw [show (624 : Int32) = nI 624 from rfl, nI_add]; exact nI_clamp (by omega)
theorem vi12 {c : Nat} (h : c < 204) : vp_in (12 + nI c) 816 := by
  rw [show (12 : Int32) = nI 12 from rfl, nI_add]; exact vp_in_nI (by omega) (by decide)
theorem vi216 {c : Nat} (h : c < 204) : vp_in (216 + nI c) 816 := by
  rw [show (216 : Int32) = nI 216 from rfl, nI_add]; exact vp_in_nI (by omega) (by decide)
theorem vi420 {c : Nat} (h : c < 204) : vp_in (420 + nI c) 816 := by
  rw [show (420 : Int32) = nI 420 from rfl, nI_add]; exact vp_in_nI (by omega) (by decide)
theorem vi624 {c : Nat} (h : c < 192) : vp_in (624 + nI c) 816 := by
  rw [show (624 : Int32) = nI 624 from rfl, nI_add]; exact vp_in_nI (by omega) (by decide)
theorem ad192 (j : Nat) : 192 + nI j = nI (192 + j) := nI_add 192 j
theorem n6_ne {k : Nat} (h : k < 2147483648) : ¬ nI k = -6 := fun e => by
  have h1 := nI_pos (n := k) (by omega)
  rw [e] at h1
  exact h1 (by decide)
theorem nI_inj {a b : Nat} (ha : a < 2147483648) (hb : b < 2147483648) (h : nI a = nI b) : a = b := (nI_eq (by omega) (by omega)).mp h
theorem succ_le {k : Nat} (hk : k + 1 < 2147483648) (x : Int32) : (nI k < x) ↔ (nI (k + 1) ≤ x) := by
  rw [Int32.lt_iff_toInt_lt, Int32.le_iff_toInt_le, nI_toInt (by omega), nI_toInt (by omega)]
  omega
theorem adr4 {a : Nat} (h : a < 192) : s_X4_isAddress (nI a) = 1 := by
  unfold s_X4_isAddress; rw [if_neg (nI_pos (by omega)), if_neg (show ¬ (192 : Int32) ≤ nI a from nI_ge (b := 192) h (by omega))]
theorem spr {c : Nat} (h : c < 204) : s_X4_isSpare (nI c) = if c < 192 then 0 else 1 := by
  unfold s_X4_isSpare
  by_cases hc : c < 192
  · rw [if_pos hc, if_pos (show nI c < (192 : Int32) from nI_lt (b := 192) hc (by omega))]
  · rw [if_neg hc, if_neg (show ¬ nI c < (192 : Int32) from nI_nlt (b := 192) (by omega) (by omega))]
theorem trackO {c : Nat} (h : c < 204) : s_X4_trackOf (nI c) = nI (c / 12) := by rw [s_X4_trackOf]; exact dv12 (by omega)
/-! floorMod -/
theorem xor12 (x : Int32) : (0 ≤ x ^^^ 12) ↔ 0 ≤ x := by
  rw [Int32.le_iff_toInt_le, Int32.le_iff_toInt_le]
  have h1 : (x ^^^ 12).toBitVec.msb = x.toBitVec.msb := by
    rw [Int32.toBitVec_xor, BitVec.msb_xor, show (12 : Int32).toBitVec.msb = false from by decide, Bool.xor_false]
  rw [BitVec.msb_eq_toInt, BitVec.msb_eq_toInt, decide_eq_decide] at h1
  have h2 : ((x ^^^ 12).toInt < 0) ↔ (x.toInt < 0) := h1
  have h0 : (0 : Int32).toInt = 0 := rfl
  omega
theorem bmod_id {z : Int} (h1 : -1000000000 ≤ z) (h2 : z ≤ 1000000000) : z.bmod (2 ^ 32) = z := by
  rw [Int.bmod_eq_of_le] <;> omega
theorem fm12 {c U : Nat} (hc : c < 204) (hU : U < 100000000) : s_J9_floorMod (nI c - nI U) = nI ((c % 12 + 12 - U % 12) % 12) := by
  unfold s_J9_floorMod
  have hx : (nI c - nI U).toInt = (c : Int) - U := pk_sub_toInt (by omega) (by omega)
  by_cases h : U ≤ c
  · rw [if_pos ((xor12 _).mpr (by rw [pk_sub h]; exact nI_pos' (by omega))), pk_sub h, jr12 (by omega)]
    congr 1
    omega
  · rw [if_neg (fun h9 => (Int32.not_le.mpr (pk_sneg (a := c) (b := U) (by omega) (by omega))) ((xor12 _).mp h9))]
    have hj : (jrem (nI c - nI U) 12).toInt = -((((U - c) % 12 : Nat)) : Int) := by
      show ((nI c - nI U) - (nI c - nI U) / 12 * 12).toInt = _
      have hd : ((nI c - nI U) / 12).toInt = -((((U - c) / 12 : Nat)) : Int) := by
        rw [Int32.toInt_div, hx, show (12 : Int32).toInt = 12 from rfl, show ((c : Int) - U) = -(((U - c : Nat)) : Int) from by omega, Int.neg_tdiv, Int.tdiv_eq_ediv_of_nonneg (by omega)]
        rw [bmod_id (by omega) (by omega)]
        omega
      rw [Int32.toInt_sub, Int32.toInt_mul, hd, hx, show (12 : Int32).toInt = 12 from rfl]
      rw [bmod_id (z := -((((U - c) / 12 : Nat)) : Int) * 12) (by omega) (by omega), bmod_id (by omega) (by omega)]
      omega
    by_cases hz : jrem (nI c - nI U) 12 = 0
    · rw [if_pos hz, hz]
      rw [hz] at hj
      have h0 : (0 : Int32).toInt = 0 := rfl
      rw [h0] at hj
      rw [show (c % 12 + 12 - U % 12) % 12 = 0 from by omega]
      rfl
    · rw [if_neg hz]
      apply Int32.toInt_inj.mp
      have hne : ¬ (U - c) % 12 = 0 := fun e => hz (Int32.toInt_inj.mp (by rw [hj, e]; rfl))
      rw [Int32.toInt_add, hj, show (12 : Int32).toInt = 12 from rfl, nI_toInt (by omega), bmod_id (by omega) (by omega)]
      omega
theorem jab {q h : Nat} (hq : q < 100) (hh : h < 100) : jabs (nI q - nI h) = nI (if h ≤ q then q - h else h - q) := by
  show (if 0 ≤ nI q - nI h then nI q - nI h else 0 - (nI q - nI h)) = _
  by_cases hc : h ≤ q
  · rw [pk_sub hc, if_pos (nI_pos' (by omega)), if_pos hc]
  · rw [if_neg (Int32.not_le.mpr (pk_sneg (by omega) (by omega))), if_neg hc, Int32.zero_sub, Int32.neg_sub, pk_sub (by omega)]
