abbrev Q5 (ad nu tr : NI) (sz pl : Int32) : QS := (ad, nu, tr, sz, pl)
def dig (c : Int32) : Prop := ¬ c < 48 ∧ ¬ 57 < c
theorem dig_v {c : Int32} (h : dig c) : ∃ d, d ≤ 9 ∧ c = nI (48 + d) ∧ c - 48 = nI d := by
  obtain ⟨j, hj, rfl⟩ := nI_of2 (x := c) (M := 57) (n := 57) rfl (fun h9 => h.1 (Int32.lt_trans h9 (by decide))) (Int32.not_lt.mp h.2)
  have h48 : 48 ≤ j := by
    rcases Nat.lt_or_ge j 48 with h9 | h9
    · exact absurd (show nI j < (48 : Int32) from nI_lt (b := 48) h9 (by omega)) h.1
    · exact h9
  exact ⟨j - 48, by omega, by rw [show 48 + (j - 48) = j from by omega], by rw [show (48 : Int32) = nI 48 from rfl, pk_sub h48]⟩
theorem isD1 {c : Int32} (h : dig c) : s_X3_isDigit c = 1 := by
  unfold s_X3_isDigit
  rw [if_neg h.1, if_neg h.2]
theorem isD0 {c : Int32} (h : ¬ dig c) : s_X3_isDigit c = 0 := by
  unfold s_X3_isDigit
  by_cases h1 : c < 48
  · rw [if_pos h1]
  · rw [if_neg h1]
    by_cases h2 : 57 < c
    · rw [if_pos h2]
    · exact absurd ⟨h1, h2⟩ h
/-! one sign, in the class -/
section TK
variable {ad nu tr : NI} {r : Nat} {c : Int32}
theorem T0 (hr : r < 21) : (c = 119 → (s_X3_takes (Q5 ad nu tr (nI r) 0) c).1 = 1 ∧ (s_X3_takes (Q5 ad nu tr (nI r) 0) c).2 = Q5 ad (upd nu r 0) tr (nI (r + 1)) 1) ∧ (c = 114 → (s_X3_takes (Q5 ad nu tr (nI r) 0) c).1 = 1 ∧ (s_X3_takes (Q5 ad nu tr (nI r) 0) c).2 = Q5 ad (upd nu r (-6)) tr (nI (r + 1)) 1) ∧ (¬ c = 119 → ¬ c = 114 → (s_X3_takes (Q5 ad nu tr (nI r) 0) c).1 = 0) := by
  have e : s_X3_takes (Q5 ad nu tr (nI r) 0) c = ((s_X3_takesKind (Q5 ad nu tr (nI r) 0) c).1, (s_X3_takesKind (Q5 ad nu tr (nI r) 0) c).2) := by
    unfold s_X3_takes
    exact if_pos rfl
  rw [e]
  unfold s_X3_takesKind
  refine ⟨fun h => ?_, fun h => ?_, fun h1 h2 => ?_⟩
  · rw [if_pos h]
    refine ⟨rfl, ?_⟩
    show q_pl' (t1_X3_takesKind (Q5 ad nu tr (nI r) 0) c) 1 = _
    unfold t1_X3_takesKind
    show ((ad, s_X4_lay 21 nu (nI r) 0, tr, nI r + 1, 1) : QS) = _
    rw [lay_nI hr (by omega), nI_1]
  · rw [if_neg (by rw [h]; decide), if_pos h]
    refine ⟨rfl, ?_⟩
    show q_pl' (t2_X3_takesKind (Q5 ad nu tr (nI r) 0) c) 1 = _
    unfold t2_X3_takesKind
    show ((ad, s_X4_lay 21 nu (nI r) (-6), tr, nI r + 1, 1) : QS) = _
    rw [lay_nI hr (by omega), nI_1]
  · rw [if_neg h1, if_neg h2]
theorem T1 (hr : r < 21) : (dig c → (s_X3_takes (Q5 ad nu tr (nI (r + 1)) 1) c).1 = 1 ∧ (s_X3_takes (Q5 ad nu tr (nI (r + 1)) 1) c).2 = Q5 (upd ad r (c - 48)) nu tr (nI (r + 1)) 2) ∧ (¬ dig c → (s_X3_takes (Q5 ad nu tr (nI (r + 1)) 1) c).1 = 0) := by
  have e : s_X3_takes (Q5 ad nu tr (nI (r + 1)) 1) c = ((s_X3_takesFirstDigit_ad (Q5 ad nu tr (nI (r + 1)) 1) c 2).1, (s_X3_takesFirstDigit_ad (Q5 ad nu tr (nI (r + 1)) 1) c 2).2) := by
    unfold s_X3_takes
    exact (if_neg (show ¬ (1 : Int32) = 0 from by decide)).trans (if_pos rfl)
  rw [e]
  unfold s_X3_takesFirstDigit_ad
  refine ⟨fun h => ?_, fun h => ?_⟩
  · rw [isD1 h, if_neg (show ¬ (1 : Int32) = 0 from by decide)]
    refine ⟨rfl, ?_⟩
    show t1_X3_takesFirstDigit_ad (Q5 ad nu tr (nI (r + 1)) 1) c 2 = _
    unfold t1_X3_takesFirstDigit_ad
    show ((s_X4_lay 21 ad (nI (r + 1) - 1) (c - 48), nu, tr, nI (r + 1), 2) : QS) = _
    rw [nI_pred, lay_nI hr (by omega)]
  · rw [isD0 h, if_pos rfl]
theorem T3 (hr : r < 21) : (dig c → (s_X3_takes (Q5 ad nu tr (nI (r + 1)) 3) c).1 = 1 ∧ (s_X3_takes (Q5 ad nu tr (nI (r + 1)) 3) c).2 = Q5 ad (upd nu r (c - 48)) tr (nI (r + 1)) 4) ∧ (¬ dig c → (s_X3_takes (Q5 ad nu tr (nI (r + 1)) 3) c).1 = 0) := by
  have e : s_X3_takes (Q5 ad nu tr (nI (r + 1)) 3) c = ((s_X3_takesFirstDigit_nu (Q5 ad nu tr (nI (r + 1)) 3) c 4).1, (s_X3_takesFirstDigit_nu (Q5 ad nu tr (nI (r + 1)) 3) c 4).2) := by
    unfold s_X3_takes
    exact (if_neg (show ¬ (3 : Int32) = 0 from by decide)).trans ((if_neg (show ¬ (3 : Int32) = 1 from by decide)).trans ((if_neg (show ¬ (3 : Int32) = 2 from by decide)).trans (if_pos rfl)))
  rw [e]
  unfold s_X3_takesFirstDigit_nu
  refine ⟨fun h => ?_, fun h => ?_⟩
  · rw [isD1 h, if_neg (show ¬ (1 : Int32) = 0 from by decide)]
    refine ⟨rfl, ?_⟩
    show t1_X3_takesFirstDigit_nu (Q5 ad nu tr (nI (r + 1)) 3) c 4 = _
    unfold t1_X3_takesFirstDigit_nu
    show ((ad, s_X4_lay 21 nu (nI (r + 1) - 1) (c - 48), tr, nI (r + 1), 4) : QS) = _
    rw [nI_pred, lay_nI hr (by omega)]
  · rw [isD0 h, if_pos rfl]
theorem dad_yes (hr : r < 21) {v d : Nat} (hv : ad r = nI v) (hv0 : 0 < v) (hv9 : v ≤ 255) (hd : dig c) (hcd : c - 48 = nI d) (hd9 : d ≤ 9) (hm : 10 * v + d ≤ 191) (pl : Int32) : s_X3_takesDigit_ad (Q5 ad nu tr (nI (r + 1)) pl) c 191 = (1, Q5 (upd ad r (nI (10 * v + d))) nu tr (nI (r + 1)) pl) := by
  unfold s_X3_takesDigit_ad t1_X3_takesDigit_ad
  have e1 : s_X4_at 21 (q_ad (Q5 ad nu tr (nI (r + 1)) pl)) (q_sz (Q5 ad nu tr (nI (r + 1)) pl) - 1) = nI v := by
    show s_X4_at 21 ad (nI (r + 1) - 1) = nI v
    rw [nI_pred, at_nI hr (by omega), hv]
  have e2 : nI v * 10 + (c - 48) = nI (10 * v + d) := by rw [hcd, show (10 : Int32) = nI 10 from rfl, pk_mul, nI_add, Nat.mul_comm]
  rw [isD1 hd, if_neg (show ¬ (1 : Int32) = 0 from by decide), e1, if_neg (nI_ne0 hv0 (by omega)), e2, if_pos (show nI (10 * v + d) ≤ (191 : Int32) from nI_le (b := 191) hm (by omega))]
  show ((1 : Int32), ((s_X4_lay 21 ad (nI (r + 1) - 1) (nI (10 * v + d)), nu, tr, nI (r + 1), pl) : QS)) = _
  rw [nI_pred, lay_nI hr (by omega)]
theorem dad_no (hr : r < 21) {v : Nat} (hv : ad r = nI v) (hv9 : v ≤ 255) (pl : Int32) (hs : ∀ d, d ≤ 9 → 0 < v → dig c → c - 48 = nI d → ¬ 10 * v + d ≤ 191) : s_X3_takesDigit_ad (Q5 ad nu tr (nI (r + 1)) pl) c 191 = (0, Q5 ad nu tr (nI (r + 1)) pl) := by
  unfold s_X3_takesDigit_ad
  have e1 : s_X4_at 21 (q_ad (Q5 ad nu tr (nI (r + 1)) pl)) (q_sz (Q5 ad nu tr (nI (r + 1)) pl) - 1) = nI v := by
    show s_X4_at 21 ad (nI (r + 1) - 1) = nI v
    rw [nI_pred, at_nI hr (by omega), hv]
  rw [e1]
  by_cases hd : dig c
  · rw [isD1 hd, if_neg (show ¬ (1 : Int32) = 0 from by decide)]
    by_cases hv0 : v = 0
    · rw [if_pos (by rw [hv0]; rfl)]
    · obtain ⟨d, hd9, hc, hcd⟩ := dig_v hd
      have e2 : nI v * 10 + (c - 48) = nI (10 * v + d) := by rw [hcd, show (10 : Int32) = nI 10 from rfl, pk_mul, nI_add, Nat.mul_comm]
      have hm := hs d hd9 (by omega) hd hcd
      rw [if_neg (nI_ne0 (by omega) (by omega)), e2, if_neg (show ¬ nI (10 * v + d) ≤ (191 : Int32) from nI_ge (a := 191) (by omega) (by omega))]
  · rw [isD0 hd, if_pos rfl]
theorem dnu_yes (hr : r < 21) {v d : Nat} (hv : nu r = nI v) (hv0 : 0 < v) (hv9 : v ≤ 255) (hd : dig c) (hcd : c - 48 = nI d) (hd9 : d ≤ 9) (hm : 10 * v + d ≤ 255) (pl : Int32) : s_X3_takesDigit_nu (Q5 ad nu tr (nI (r + 1)) pl) c 255 = (1, Q5 ad (upd nu r (nI (10 * v + d))) tr (nI (r + 1)) pl) := by
  unfold s_X3_takesDigit_nu t1_X3_takesDigit_nu
  have e1 : s_X4_at 21 (q_nu (Q5 ad nu tr (nI (r + 1)) pl)) (q_sz (Q5 ad nu tr (nI (r + 1)) pl) - 1) = nI v := by
    show s_X4_at 21 nu (nI (r + 1) - 1) = nI v
    rw [nI_pred, at_nI hr (by omega), hv]
  have e2 : nI v * 10 + (c - 48) = nI (10 * v + d) := by rw [hcd, show (10 : Int32) = nI 10 from rfl, pk_mul, nI_add, Nat.mul_comm]
  rw [isD1 hd, if_neg (show ¬ (1 : Int32) = 0 from by decide), e1, if_neg (nI_ne0 hv0 (by omega)), e2, if_pos (show nI (10 * v + d) ≤ (255 : Int32) from nI_le (b := 255) hm (by omega))]
  show ((1 : Int32), ((ad, s_X4_lay 21 nu (nI (r + 1) - 1) (nI (10 * v + d)), tr, nI (r + 1), pl) : QS)) = _
  rw [nI_pred, lay_nI hr (by omega)]
theorem dnu_no (hr : r < 21) {v : Nat} (hv : nu r = nI v) (hv9 : v ≤ 255) (pl : Int32) (hs : ∀ d, d ≤ 9 → 0 < v → dig c → c - 48 = nI d → ¬ 10 * v + d ≤ 255) : s_X3_takesDigit_nu (Q5 ad nu tr (nI (r + 1)) pl) c 255 = (0, Q5 ad nu tr (nI (r + 1)) pl) := by
  unfold s_X3_takesDigit_nu
  have e1 : s_X4_at 21 (q_nu (Q5 ad nu tr (nI (r + 1)) pl)) (q_sz (Q5 ad nu tr (nI (r + 1)) pl) - 1) = nI v := by
    show s_X4_at 21 nu (nI (r + 1) - 1) = nI v
    rw [nI_pred, at_nI hr (by omega), hv]
  rw [e1]
  by_cases hd : dig c
  · rw [isD1 hd, if_neg (show ¬ (1 : Int32) = 0 from by decide)]
    by_cases hv0 : v = 0
    · rw [if_pos (by rw [hv0]; rfl)]
    · obtain ⟨d, hd9, hc, hcd⟩ := dig_v hd
      have e2 : nI v * 10 + (c - 48) = nI (10 * v + d) := by rw [hcd, show (10 : Int32) = nI 10 from rfl, pk_mul, nI_add, Nat.mul_comm]
      have hm := hs d hd9 (by omega) hd hcd
      rw [if_neg (nI_ne0 (by omega) (by omega)), e2, if_neg (show ¬ nI (10 * v + d) ≤ (255 : Int32) from nI_ge (a := 255) (by omega) (by omega))]
  · rw [isD0 hd, if_pos rfl]
theorem T2_yes (hr : r < 21) {v d : Nat} (hv : ad r = nI v) (hv0 : 0 < v) (hv9 : v ≤ 255) (hd : dig c) (hcd : c - 48 = nI d) (hd9 : d ≤ 9) (hm : 10 * v + d ≤ 191) : (s_X3_takes (Q5 ad nu tr (nI (r + 1)) 2) c).1 = 1 ∧ (s_X3_takes (Q5 ad nu tr (nI (r + 1)) 2) c).2 = Q5 (upd ad r (nI (10 * v + d))) nu tr (nI (r + 1)) 2 := by
  have e := dad_yes (nu := nu) (tr := tr) hr hv hv0 hv9 hd hcd hd9 hm 2
  have e2 : s_X3_takes (Q5 ad nu tr (nI (r + 1)) 2) c = (1, Q5 (upd ad r (nI (10 * v + d))) nu tr (nI (r + 1)) 2) := by
    unfold s_X3_takes
    rw [e]
    exact (if_neg (show ¬ (2 : Int32) = 0 from by decide)).trans ((if_neg (show ¬ (2 : Int32) = 1 from by decide)).trans ((if_pos rfl).trans (if_neg (show ¬ (1 : Int32) = 0 from by decide))))
  rw [e2]
  exact ⟨rfl, rfl⟩
theorem T2_no (hr : r < 21) {v : Nat} (hv : ad r = nI v) (hv9 : v ≤ 255) (hs : ∀ d, d ≤ 9 → 0 < v → dig c → c - 48 = nI d → ¬ 10 * v + d ≤ 191) :
    (nu r = -6 → (c = 59 → (s_X3_takes (Q5 ad nu tr (nI (r + 1)) 2) c).1 = 1 ∧ (s_X3_takes (Q5 ad nu tr (nI (r + 1)) 2) c).2 = Q5 ad nu tr (nI (r + 1)) 0) ∧ (¬ c = 59 → (s_X3_takes (Q5 ad nu tr (nI (r + 1)) 2) c).1 = 0)) ∧
    (¬ nu r = -6 → (c = 61 → (s_X3_takes (Q5 ad nu tr (nI (r + 1)) 2) c).1 = 1 ∧ (s_X3_takes (Q5 ad nu tr (nI (r + 1)) 2) c).2 = Q5 ad nu tr (nI (r + 1)) 3) ∧ (¬ c = 61 → (s_X3_takes (Q5 ad nu tr (nI (r + 1)) 2) c).1 = 0)) := by
  have e := dad_no (nu := nu) (tr := tr) hr hv hv9 2 hs
  have e2 : s_X3_takes (Q5 ad nu tr (nI (r + 1)) 2) c = if (s_X3_takesEndOfAddress (Q5 ad nu tr (nI (r + 1)) 2) c).1 = 0 then (0, (s_X3_takesEndOfAddress (Q5 ad nu tr (nI (r + 1)) 2) c).2) else (1, (s_X3_takesEndOfAddress (Q5 ad nu tr (nI (r + 1)) 2) c).2) := by
    unfold s_X3_takes t1_X3_takes
    rw [e]
    exact (if_neg (show ¬ (2 : Int32) = 0 from by decide)).trans ((if_neg (show ¬ (2 : Int32) = 1 from by decide)).trans ((if_pos rfl).trans (if_pos rfl)))
  have hw : s_X3_isWriting (Q5 ad nu tr (nI (r + 1)) 2) (q_sz (Q5 ad nu tr (nI (r + 1)) 2) - 1) = if nu r = -6 then 0 else 1 := by
    unfold s_X3_isWriting
    show (if s_X4_at 21 nu (nI (r + 1) - 1) = -6 then 0 else 1) = _
    rw [nI_pred, at_nI hr (by omega)]
  rw [e2]
  unfold s_X3_takesEndOfAddress s_X3_takesMark
  rw [hw]
  refine ⟨fun h => ?_, fun h => ?_⟩
  · rw [if_pos h, if_pos rfl]
    refine ⟨fun h2 => ?_, fun h2 => ?_⟩
    · rw [if_pos h2]
      exact ⟨rfl, rfl⟩
    · rw [if_neg h2]
      rfl
  · rw [if_neg h, if_neg (show ¬ (1 : Int32) = 0 from by decide)]
    refine ⟨fun h2 => ?_, fun h2 => ?_⟩
    · rw [if_pos h2]
      exact ⟨rfl, rfl⟩
    · rw [if_neg h2]
      rfl
theorem T4_yes (hr : r < 21) {v d : Nat} (hv : nu r = nI v) (hv0 : 0 < v) (hv9 : v ≤ 255) (hd : dig c) (hcd : c - 48 = nI d) (hd9 : d ≤ 9) (hm : 10 * v + d ≤ 255) : (s_X3_takes (Q5 ad nu tr (nI (r + 1)) 4) c).1 = 1 ∧ (s_X3_takes (Q5 ad nu tr (nI (r + 1)) 4) c).2 = Q5 ad (upd nu r (nI (10 * v + d))) tr (nI (r + 1)) 4 := by
  have e := dnu_yes (ad := ad) (tr := tr) hr hv hv0 hv9 hd hcd hd9 hm 4
  have e2 : s_X3_takes (Q5 ad nu tr (nI (r + 1)) 4) c = (1, Q5 ad (upd nu r (nI (10 * v + d))) tr (nI (r + 1)) 4) := by
    unfold s_X3_takes
    rw [e]
    exact (if_neg (show ¬ (4 : Int32) = 0 from by decide)).trans ((if_neg (show ¬ (4 : Int32) = 1 from by decide)).trans ((if_neg (show ¬ (4 : Int32) = 2 from by decide)).trans ((if_neg (show ¬ (4 : Int32) = 3 from by decide)).trans (if_neg (show ¬ (1 : Int32) = 0 from by decide)))))
  rw [e2]
  exact ⟨rfl, rfl⟩
theorem T4_no (hr : r < 21) {v : Nat} (hv : nu r = nI v) (hv9 : v ≤ 255) (hs : ∀ d, d ≤ 9 → 0 < v → dig c → c - 48 = nI d → ¬ 10 * v + d ≤ 255) :
    (c = 59 → (s_X3_takes (Q5 ad nu tr (nI (r + 1)) 4) c).1 = 1 ∧ (s_X3_takes (Q5 ad nu tr (nI (r + 1)) 4) c).2 = Q5 ad nu tr (nI (r + 1)) 0) ∧ (¬ c = 59 → (s_X3_takes (Q5 ad nu tr (nI (r + 1)) 4) c).1 = 0) := by
  have e := dnu_no (ad := ad) (tr := tr) hr hv hv9 4 hs
  have e2 : s_X3_takes (Q5 ad nu tr (nI (r + 1)) 4) c = if (s_X3_takesMark (Q5 ad nu tr (nI (r + 1)) 4) c 59 0).1 = 0 then (0, (s_X3_takesMark (Q5 ad nu tr (nI (r + 1)) 4) c 59 0).2) else (1, (s_X3_takesMark (Q5 ad nu tr (nI (r + 1)) 4) c 59 0).2) := by
    unfold s_X3_takes
    rw [e]
    exact (if_neg (show ¬ (4 : Int32) = 0 from by decide)).trans ((if_neg (show ¬ (4 : Int32) = 1 from by decide)).trans ((if_neg (show ¬ (4 : Int32) = 2 from by decide)).trans ((if_neg (show ¬ (4 : Int32) = 3 from by decide)).trans (if_pos rfl))))
  rw [e2]
  unfold s_X3_takesMark
  refine ⟨fun h2 => ?_, fun h2 => ?_⟩
  · rw [if_pos h2]
    exact ⟨rfl, rfl⟩
  · rw [if_neg h2]
    rfl
end TK
/-! the class's reading from a place on -/
def PP (ρ : QS) (π : PS) (i : Nat) (τ : QS) : (Int32 × QS) × Prop := (L1_X3_parse ρ π (FU - i) (nI i) τ, okL1_X3_parse ρ π (FU - i) (nI i) τ)
section PPS
variable {ρ : QS} {π : PS} {L : Nat}
theorem fuS {i : Nat} (h : i < 100) : FU - i = (FU - (i + 1)) + 1 := by
  have : FU = 6000 := rfl
  omega
theorem sgn {i : Nat} (h : i < 60) : s_X2_signAt π (nI i) = p_si π i := at_nI h (by omega)
theorem PP_go (hL : L ≤ 60) (hl : p_le π = nI L) {i : Nat} (hi : i < L) {τ τ1 : QS} (h1 : (s_X3_takes τ (p_si π i)).1 = 1) (h2 : (s_X3_takes τ (p_si π i)).2 = τ1) : PP ρ π i τ = PP ρ π (i + 1) τ1 := by
  have hn : ¬ nI L ≤ nI i := nI_ge hi (by omega)
  unfold PP
  rw [fuS (i := i) (by omega), L1_X3_parse, okL1_X3_parse, hl, if_neg hn, sgn (by omega), h1, h2, if_neg (show ¬ (1 : Int32) = 0 from by decide), nI_1]
  refine Prod.ext rfl (propext ⟨fun h => (h.2 hn).2 (by decide), fun h => ⟨fun h9 => absurd h9 hn, fun _ => ⟨fun _ => trivial, fun _ => h⟩⟩⟩)
theorem PP_stop (hL : L ≤ 60) (hl : p_le π = nI L) {i : Nat} (hi : i < L) {τ : QS} (h1 : (s_X3_takes τ (p_si π i)).1 = 0) : PP ρ π i τ = ((nI i, (s_X3_takes τ (p_si π i)).2), True) := by
  have hn : ¬ nI L ≤ nI i := nI_ge hi (by omega)
  unfold PP
  rw [fuS (i := i) (by omega), L1_X3_parse, okL1_X3_parse, hl, if_neg hn, sgn (by omega), h1, if_pos rfl]
  refine Prod.ext rfl (propext ⟨fun _ => trivial, fun _ => ⟨fun h9 => absurd h9 hn, fun _ => ⟨fun _ => trivial, fun h9 => absurd rfl h9⟩⟩⟩)
theorem PP_end (hL : L ≤ 60) (hl : p_le π = nI L) (τ : QS) : PP ρ π L τ = ((if q_pl τ = 4 then ((-6), τ) else (if q_pl τ = 2 then (if s_X3_isWriting τ (q_sz τ - 1) = 0 then ((-6), τ) else (nI L, τ)) else (nI L, τ))), True) := by
  unfold PP
  rw [fuS (i := L) (by omega), L1_X3_parse, okL1_X3_parse, hl, if_pos (Int32.le_refl _)]
  refine Prod.ext rfl (propext ⟨fun _ => trivial, fun _ => ⟨fun _ => trivial, fun h9 => absurd (Int32.le_refl _) h9⟩⟩)
end PPS
