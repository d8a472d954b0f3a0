/-! a disc and a row of the model: the same but for the sums -/
def Rb (σ : DS) (f : NI) : Prop :=
  (∀ k, k < 5 → f k = d_st σ k) ∧ (f 5 = d_tk σ ∧ f 6 = d_hd σ ∧ f 9 = d_rd σ) ∧
  (∀ c, c < 204 → f (12 + c) = d_nu σ c) ∧ (∀ c, c < 204 → f (216 + c) = d_bl σ c) ∧ (∀ c, c < 204 → f (420 + c) = d_wr σ c) ∧
  (∃ s, s ≤ 12 ∧ d_sp σ = nI s ∧ f 7 = nI (12 - s) ∧ ∀ a, a < 192 → (f (624 + a) = -6 ∧ d_se σ a = nI a) ∨ ∃ j, j < s ∧ f (624 + a) = nI j ∧ d_se σ a = nI (192 + j)) ∧
  (∃ T, T ≤ 9999999 ∧ d_tk σ = nI T) ∧ (∃ h, h ≤ 16 ∧ d_hd σ = nI h) ∧ (∃ t, t ≤ 20 ∧ d_st σ 4 = nI t) ∧
  (∀ c, c < 204 → ∃ b, b ≤ 99 ∧ d_bl σ c = nI b) ∧ (∃ h, h ≤ 20 ∧ d_st σ 0 = nI h) ∧ (∃ h, h ≤ 20 ∧ d_st σ 1 = nI h)
section RBL
variable {σ : DS} {μ : MS}
theorem sfor (σ : DS) {a : Nat} (ha : a < 192) : s_X0_sectorFor σ (nI a) = d_se σ a := at_nI ha (by omega)
theorem numI (σ : DS) {c : Nat} (hc : c < 204) : s_X0_numberIn σ (nI c) = d_nu σ c := at_nI hc (by omega)
theorem bluI (σ : DS) {c : Nat} (hc : c < 204) : s_X0_blurOf σ (nI c) = d_bl σ c := at_nI hc (by omega)
theorem wriI (σ : DS) {c : Nat} (hc : c < 204) : s_X0_writingsOf σ (nI c) = d_wr σ c := at_nI hc (by omega)
theorem setI (σ : DS) {k : Nat} (hk : k < 5) : s_X0_settingOf σ (nI k) = d_st σ k := at_nI hk (by omega)
theorem setI0 (σ : DS) : s_X0_settingOf σ 0 = d_st σ 0 := setI σ (k := 0) (by omega)
theorem setI1 (σ : DS) : s_X0_settingOf σ 1 = d_st σ 1 := setI σ (k := 1) (by omega)
theorem setI2 (σ : DS) : s_X0_settingOf σ 2 = d_st σ 2 := setI σ (k := 2) (by omega)
theorem setI3 (σ : DS) : s_X0_settingOf σ 3 = d_st σ 3 := setI σ (k := 3) (by omega)
theorem setI4 (σ : DS) : s_X0_settingOf σ 4 = d_st σ 4 := setI σ (k := 4) (by omega)
theorem clN (k : Nat) (hk : k < 2147483648) {x : Int32} (h : x = nI k) : x.toNatClampNeg = k := by rw [h]; exact nI_clamp (by omega)
theorem k0 : (0 : Int32).toNatClampNeg = 0 := clN 0 (by omega) rfl
theorem k1 : (1 : Int32).toNatClampNeg = 1 := clN 1 (by omega) rfl
theorem k2 : (2 : Int32).toNatClampNeg = 2 := clN 2 (by omega) rfl
theorem k3 : (3 : Int32).toNatClampNeg = 3 := clN 3 (by omega) rfl
theorem k4 : (4 : Int32).toNatClampNeg = 4 := clN 4 (by omega) rfl
theorem k5 : (5 : Int32).toNatClampNeg = 5 := clN 5 (by omega) rfl
theorem k6 : (6 : Int32).toNatClampNeg = 6 := clN 6 (by omega) rfl
theorem k7 : (7 : Int32).toNatClampNeg = 7 := clN 7 (by omega) rfl
theorem k8 : (8 : Int32).toNatClampNeg = 8 := clN 8 (by omega) rfl
theorem k9 : (9 : Int32).toNatClampNeg = 9 := clN 9 (by omega) rfl
theorem k10 : (10 : Int32).toNatClampNeg = 10 := clN 10 (by omega) rfl
theorem k11 : (11 : Int32).toNatClampNeg = 11 := clN 11 (by omega) rfl
theorem sec (hR : Rb σ (m_al μ)) {a : Nat} (ha : a < 192) : ∃ c, c < 204 ∧ s_X0_sectorFor σ (nI a) = nI c ∧ s_X5_sectorOf μ (nI a) = nI c ∧ ok_X5_sectorOf μ (nI a) ∧ d_se σ a = nI c ∧ ((c = a ∧ m_al μ (624 + a) = -6) ∨ (192 ≤ c ∧ m_al μ (624 + a) = nI (c - 192) ∧ ∃ s, d_sp σ = nI s ∧ s ≤ 12 ∧ c < 192 + s)) := by
  obtain ⟨-, -, -, -, -, ⟨s, hs, hsp, h7, hse⟩, -⟩ := hR
  have hok : ok_X5_sectorOf μ (nI a) := vi624 ha
  have h5 : s_X5_sectorOf μ (nI a) = if m_al μ (624 + a) = -6 then nI a else 192 + m_al μ (624 + a) := by
    unfold s_X5_sectorOf
    rw [cl624 ha]
  rcases hse a ha with ⟨h1, h2⟩ | ⟨j, hj, h1, h2⟩
  · exact ⟨a, by omega, by rw [sfor σ ha, h2], by rw [h5, if_pos h1], hok, h2, Or.inl ⟨rfl, h1⟩⟩
  · refine ⟨192 + j, by omega, by rw [sfor σ ha, h2], ?_, hok, h2, Or.inr ⟨by omega, by rw [h1, show 192 + j - 192 = j from by omega], s, hsp, hs, by omega⟩⟩
    rw [h5, if_neg (by rw [h1]; exact n6_ne (by omega)), h1, ad192]
theorem holN (σ : DS) {c : Nat} (hc : c < 204) : s_X0_holdsNumber σ (nI c) = if d_nu σ c = -6 then 0 else 1 := by
  unfold s_X0_holdsNumber
  rw [at_nI hc (by omega)]
theorem holM (μ : MS) {a c : Nat} (hc : c < 204) (h : s_X5_sectorOf μ (nI a) = nI c) : s_X5_holds μ (nI a) = if m_al μ (12 + c) = -6 then 0 else 1 := by
  unfold s_X5_holds
  rw [h, cl12 hc]
theorem hol (hR : Rb σ (m_al μ)) {a : Nat} (ha : a < 192) : s_X5_holds μ (nI a) = s_X0_holdsNumber σ (s_X0_sectorFor σ (nI a)) ∧ ok_X5_holds μ (nI a) := by
  obtain ⟨c, hc, e1, e2, hok, -⟩ := sec hR ha
  rw [e1, holN σ hc, holM μ hc e2, hR.2.2.1 c hc]
  refine ⟨rfl, hok, ?_⟩
  rw [e2]
  exact vi12 hc
theorem can (hR : Rb σ (m_al μ)) {a : Nat} (ha : a < 192) : s_X5_canBeRead μ (nI a) = s_X0_isReadable σ (s_X0_sectorFor σ (nI a)) ∧ ok_X5_canBeRead μ (nI a) := by
  obtain ⟨c, hc, e1, e2, hok, -⟩ := sec hR ha
  obtain ⟨h1, h2⟩ := hol hR ha
  refine ⟨?_, h2, fun _ => trivial, fun _ => ⟨hok, by rw [e2]; exact vi216 hc⟩⟩
  unfold s_X5_canBeRead s_X0_isReadable
  rw [h1, e2, e1, k2, cl216 hc, hR.1 2 (by omega), hR.2.2.2.1 c hc, setI2, bluI σ hc]
theorem stw (hR : Rb σ (m_al μ)) {a : Nat} (ha : a < 192) : ∃ c, c < 204 ∧ s_X0_sectorToWrite σ (nI a) = nI c ∧ s_X5_sectorToWrite μ (nI a) = nI c ∧ ok_X5_sectorToWrite μ (nI a) ∧ ((s_X0_sectorFor σ (nI a) = nI c ∧ s_X5_sectorOf μ (nI a) = nI c) ∨ (∃ s, s < 12 ∧ d_sp σ = nI s ∧ c = 192 + s ∧ ¬ nI c = s_X0_sectorFor σ (nI a) ∧ ¬ nI c = s_X5_sectorOf μ (nI a))) := by
  obtain ⟨c, hc, e1, e2, hok, -, hd⟩ := sec hR ha
  have hok2 : ok_X5_sectorToWrite μ (nI a) := ⟨hok, by rw [e2]; exact vi420 hc⟩
  obtain ⟨hst, -, -, -, hwr, ⟨s, hs, hsp, h7, hse⟩, -⟩ := hR
  have a0 : s_X0_sectorToWrite σ (nI a) = if d_wr σ c < d_st σ 3 then nI c else if 12 - nI s ≤ 0 then nI c else 192 + nI s := by
    unfold s_X0_sectorToWrite s_X0_sparesLeft
    rw [e1, wriI σ hc, setI3, hsp]
  have a5 : s_X5_sectorToWrite μ (nI a) = if d_wr σ c < d_st σ 3 then nI c else if nI (12 - s) ≤ 0 then nI c else 204 - nI (12 - s) := by
    unfold s_X5_sectorToWrite
    rw [e2, cl420 hc, k3, k7, hwr c hc, hst 3 (by omega), h7]
  have e12 : (12 : Int32) - nI s = nI (12 - s) := pk_sub (a := 12) (b := s) hs
  by_cases h1 : d_wr σ c < d_st σ 3
  · exact ⟨c, hc, by rw [a0, if_pos h1], by rw [a5, if_pos h1], hok2, Or.inl ⟨e1, e2⟩⟩
  · by_cases h2 : s = 12
    · subst h2
      exact ⟨c, hc, by rw [a0, if_neg h1, if_pos (by rw [e12]; decide)], by rw [a5, if_neg h1, if_pos (by decide)], hok2, Or.inl ⟨e1, e2⟩⟩
    · have h3 : ¬ nI (12 - s) ≤ 0 := nI_nle (by omega) (by omega)
      have hne : ¬ nI (192 + s) = nI c := fun h => by
        have h9 := nI_inj (by omega) (by omega) h
        rcases hd with ⟨q, -⟩ | ⟨-, -, s2, h10, h11, h12⟩
        · omega
        · have h13 := nI_inj (by omega) (by omega) (hsp.symm.trans h10)
          omega
      refine ⟨192 + s, by omega, by rw [a0, if_neg h1, if_neg (by rw [e12]; exact h3), ad192], ?_, hok2, Or.inr ⟨s, by omega, hsp, rfl, by rw [e1]; exact hne, by rw [e2]; exact hne⟩⟩
      rw [a5, if_neg h1, if_neg h3, show (204 : Int32) = nI 204 from rfl, pk_sub (by omega)]
      congr 1
      omega
theorem tks (hR : Rb σ (m_al μ)) {c : Nat} (hc : c < 204) : ∃ k, 1 ≤ k ∧ k ≤ 400 ∧ s_X0_ticksTo σ (nI c) = nI k ∧ s_X5_takes μ (nI c) = nI k := by
  obtain ⟨hst, ⟨h5, h6, -⟩, -, -, -, -, ⟨T, hT, eT⟩, ⟨h, hh, eh⟩, ⟨t, ht, et⟩, -⟩ := hR
  have hq : c / 12 < 17 := by omega
  generalize hqd : c / 12 = q at hq
  obtain ⟨w, hw⟩ : ∃ w, w = if h ≤ q then q - h else h - q := ⟨_, rfl⟩
  have hw16 : w ≤ 16 := by rw [hw]; split <;> omega
  have hm : t * w ≤ 320 := by
    have := Nat.mul_le_mul ht hw16
    omega
  have a0 : s_X0_ticksTo σ (nI c) = nI (t * w + (c % 12 + 12 - (T + t * w) % 12) % 12 + 1) := by
    unfold s_X0_ticksTo s_X0_ticksToTrack
    rw [trackO hc, hqd, setI4, et, eh, eT, jab (by omega) (by omega), ← hw, pk_mul, nI_add, fm12 hc (by omega), nI_add, nI_1]
  have a5 : s_X5_takes μ (nI c) = nI (t * w + (c % 12 + 12 - (T + t * w) % 12) % 12 + 1) := by
    unfold s_X5_takes
    rw [k4, k5, k6, hst 4 (by omega), h5, h6, et, eh, eT, dv12 (by omega), hqd, jr12 (by omega), show (12 : Int32) = nI 12 from rfl, nI_add]
    have fin : ∀ v : Nat, v = w → (nI t * nI v + (jrem (nI (c % 12 + 12) - (jrem (nI T + nI t * nI v) 12)) 12)) + 1 = nI (t * w + (c % 12 + 12 - (T + t * w) % 12) % 12 + 1) := by
      intro v hv
      subst hv
      rw [pk_mul, nI_add, jr12 (by omega), pk_sub (by omega), jr12 (by omega), nI_add, nI_1]
    by_cases hc2 : h ≤ q
    · rw [pk_sub hc2, if_pos (nI_pos' (by omega))]
      exact fin _ (by rw [hw, if_pos hc2])
    · rw [if_neg (Int32.not_le.mpr (pk_sneg (by omega) (by omega))), Int32.neg_sub, pk_sub (by omega)]
      exact fin _ (by rw [hw, if_neg hc2])
  exact ⟨_, by omega, by omega, a0, a5⟩
/-- is there time for a request? -/
theorem tim (hR : Rb σ (m_al μ)) {k : Nat} (hk : k < 100000) : (s_X0_hasTime σ (nI k) = 0 ↔ ¬ (m_al μ 5 + nI k) ≤ 9999999) ∧ ((m_al μ 5 + nI k) ≤ 9999999 → ∃ T, T ≤ 9999999 ∧ d_tk σ + nI k = nI T) := by
  obtain ⟨hst, ⟨h5, h6, -⟩, -, -, -, -, ⟨T, hT, eT⟩, -⟩ := hR
  rw [h5, eT, nI_add, show (9999999 : Int32) = nI 9999999 from rfl, nI_leI (by omega) (by omega)]
  unfold s_X0_hasTime
  rw [eT, show (9999999 : Int32) = nI 9999999 from rfl, pk_sub hT]
  refine ⟨?_, fun h => ⟨T + k, h, rfl⟩⟩
  by_cases h : 9999999 - T < k
  · rw [if_pos (nI_lt h (by omega))]
    exact ⟨fun _ => by omega, fun _ => rfl⟩
  · rw [if_neg (nI_nlt (by omega) (by omega))]
    exact ⟨fun h2 => absurd h2 (by decide), fun h2 => absurd h2 (by omega)⟩
end RBL
