/-! a disc in every state that the law meets -/
def cnS (g : NI) : Nat → Nat
  | 0 => 0
  | n + 1 => cnS g n + (if g n = nI n then 0 else 1)
theorem cnS_congr {g h : NI} : ∀ {n : Nat}, (∀ k, k < n → h k = g k) → cnS h n = cnS g n
  | 0, _ => rfl
  | n + 1, e => by
    unfold cnS
    rw [cnS_congr (fun k hk => e k (by omega)), e n (by omega)]
theorem cnS_upd {g h : NI} {A : Nat} (hg : ∀ k, k ≠ A → h k = g k) : ∀ n : Nat, cnS h n ≤ cnS g n + (if A < n then 1 else 0)
  | 0 => Nat.zero_le _
  | n + 1 => by
    have ih := cnS_upd hg n
    unfold cnS
    by_cases e : n = A
    · subst e
      rw [if_neg (Nat.lt_irrefl _)] at ih
      rw [if_pos (Nat.lt_succ_self _)]
      split <;> split <;> omega
    · rw [hg n e]
      by_cases h2 : A < n
      · rw [if_pos h2] at ih
        rw [if_pos (show A < n + 1 from by omega)]
        omega
      · rw [if_neg h2] at ih
        rw [if_neg (show ¬ A < n + 1 from by omega)]
        omega
def Dv (K : Nat) (σ : DS) : Prop :=
  (∃ h, h ≤ 20 ∧ d_st σ 0 = nI h) ∧ (∃ h, h ≤ 20 ∧ d_st σ 1 = nI h) ∧ (∃ h, 5 ≤ h ∧ h ≤ 99 ∧ d_st σ 2 = nI h) ∧ (∃ h, 1 ≤ h ∧ h ≤ 99 ∧ d_st σ 3 = nI h) ∧ (∃ h, h ≤ 20 ∧ d_st σ 4 = nI h) ∧
  (∃ T, T ≤ K ∧ d_tk σ = nI T) ∧ (∃ h, h ≤ 16 ∧ d_hd σ = nI h) ∧
  (∀ c, c < 204 → (d_nu σ c = -6 ∧ d_bl σ c = 0 ∧ d_wr σ c = 0) ∨ (∃ v, v ≤ 255 ∧ d_nu σ c = nI v)) ∧
  (∀ c, c < 204 → ∃ b, b ≤ 99 ∧ d_bl σ c = nI b) ∧
  (∃ s, s ≤ 12 ∧ d_sp σ = nI s ∧ (∀ a, a < 192 → d_se σ a = nI a ∨ ∃ j, j < s ∧ d_se σ a = nI (192 + j)) ∧ (∀ j, s ≤ j → j < 12 → d_nu σ (192 + j) = -6) ∧ (∀ a b, a < 192 → b < 192 → d_se σ a = d_se σ b → a = b) ∧ cnS (d_se σ) 192 ≤ s)
def bN (σ : DS) (k : Nat) : Nat := (d_bl σ k).toNatClampNeg
def dist (h q : Nat) : Nat := if h ≤ q then q - h else h - q
section DVS
variable {σ : DS} {K : Nat}
theorem Dv.up {K' : Nat} (h : Dv K σ) (hK : K ≤ K') : Dv K' σ := by
  obtain ⟨h1, h2, h3, h4, h5, ⟨T, hT, eT⟩, h6⟩ := h
  exact ⟨h1, h2, h3, h4, h5, ⟨T, by omega, eT⟩, h6⟩
theorem bNE (h : Dv K σ) {k : Nat} (hk : k < 204) : d_bl σ k = nI (bN σ k) ∧ bN σ k ≤ 99 := by
  obtain ⟨b, hb, e⟩ := h.2.2.2.2.2.2.2.2.1 k hk
  have e2 : bN σ k = b := by
    unfold bN
    rw [e]
    exact nI_clamp (by omega)
  rw [e2]
  exact ⟨e, hb⟩
theorem secD (h : Dv K σ) {a : Nat} (ha : a < 192) : ∃ c, c < 204 ∧ d_se σ a = nI c ∧ (c = a ∨ 192 ≤ c) := by
  obtain ⟨s, hs, -, hse, -⟩ := h.2.2.2.2.2.2.2.2.2
  rcases hse a ha with e | ⟨j, hj, e⟩
  · exact ⟨a, by omega, e, Or.inl rfl⟩
  · exact ⟨192 + j, by omega, e, Or.inr (by omega)⟩
/-! what a sector tells, by its number -/
section SEC
variable {a c : Nat}
theorem vS0 (ha : a < 192) (hc : c < 204) (e : d_se σ a = nI c) : vS σ (nI a) 0 = nI (c / 12) := by
  unfold vS s_X4_sector
  rw [if_neg (adr1 ha), if_pos rfl, sfor σ ha, e, trackO hc]
theorem vS1 (ha : a < 192) (hc : c < 204) (e : d_se σ a = nI c) : vS σ (nI a) 1 = nI (c % 12) := by
  unfold vS s_X4_sector
  rw [if_neg (adr1 ha), if_neg (by decide), if_pos rfl, sfor σ ha, e, jr12 (by omega)]
theorem vS2 (ha : a < 192) (hc : c < 204) (e : d_se σ a = nI c) : vS σ (nI a) 2 = d_nu σ c := by
  unfold vS s_X4_sector
  rw [if_neg (adr1 ha), if_neg (by decide), if_neg (by decide), if_pos rfl, sfor σ ha, e, numI σ hc]
theorem vS3 (ha : a < 192) (hc : c < 204) (e : d_se σ a = nI c) : vS σ (nI a) 3 = d_bl σ c := by
  unfold vS s_X4_sector
  rw [if_neg (adr1 ha), if_neg (by decide), if_neg (by decide), if_neg (by decide), if_pos rfl, sfor σ ha, e, bluI σ hc]
theorem vS4 (ha : a < 192) (hc : c < 204) (e : d_se σ a = nI c) : vS σ (nI a) 4 = d_wr σ c := by
  unfold vS s_X4_sector
  rw [if_neg (adr1 ha), if_neg (by decide), if_neg (by decide), if_neg (by decide), if_neg (by decide), if_pos rfl, sfor σ ha, e, wriI σ hc]
theorem vS5 (ha : a < 192) (hc : c < 204) (e : d_se σ a = nI c) : vS σ (nI a) 5 = if c < 192 then 0 else 1 := by
  unfold vS s_X4_sector
  rw [if_neg (adr1 ha), if_neg (by decide), if_neg (by decide), if_neg (by decide), if_neg (by decide), if_neg (by decide), if_pos rfl, sfor σ ha, e, spr hc]
  by_cases h : c < 192
  · rw [if_pos h, if_pos rfl]
  · rw [if_neg h, if_neg (by decide)]
theorem rdbI (hc : c < 204) : s_X0_isReadable σ (nI c) = if d_nu σ c = -6 then 0 else if d_st σ 2 ≤ d_bl σ c then 0 else 1 := by
  unfold s_X0_isReadable
  rw [holN σ hc, setI2, bluI σ hc]
  by_cases h : d_nu σ c = -6
  · rw [if_pos h, if_pos rfl, if_pos h]
  · rw [if_neg h, if_neg (by decide), if_neg h]
theorem vS6 (ha : a < 192) (hc : c < 204) (e : d_se σ a = nI c) : vS σ (nI a) 6 = if d_nu σ c = -6 then 0 else if d_st σ 2 ≤ d_bl σ c then 0 else 1 := by
  unfold vS s_X4_sector
  rw [if_neg (adr1 ha), if_neg (by decide), if_neg (by decide), if_neg (by decide), if_neg (by decide), if_neg (by decide), if_neg (by decide), if_pos rfl, sfor σ ha, e, rdbI hc]
  by_cases h : d_nu σ c = -6
  · rw [if_pos h, if_pos rfl]
  · rw [if_neg h]
    by_cases h2 : d_st σ 2 ≤ d_bl σ c
    · rw [if_pos h2, if_pos rfl]
    · rw [if_neg h2, if_neg (by decide)]
end SEC
theorem vCs {k : Nat} (hk : k < 5) : vC σ (nI k) = d_st σ k := by
  unfold vC s_X4_count
  rw [if_neg (nI_pos (by omega)), if_neg (show ¬ (5 : Int32) ≤ nI k from nI_ge (b := 5) hk (by omega)), setI σ hk]
theorem vC0 : vC σ 0 = d_st σ 0 := vCs (k := 0) (by omega)
theorem vC1 : vC σ 1 = d_st σ 1 := vCs (k := 1) (by omega)
theorem vC2 : vC σ 2 = d_st σ 2 := vCs (k := 2) (by omega)
theorem vC3 : vC σ 3 = d_st σ 3 := vCs (k := 3) (by omega)
theorem vC4 : vC σ 4 = d_st σ 4 := vCs (k := 4) (by omega)
theorem n50 : ¬ (5 : Int32) < 0 := by decide
theorem vC5 : vC σ 5 = d_tk σ := by
  unfold vC s_X4_count
  rw [if_neg (by decide), if_pos (by decide), if_pos rfl]
theorem vC6 : vC σ 6 = d_hd σ := by
  unfold vC s_X4_count
  rw [if_neg (by decide), if_pos (by decide), if_neg (by decide), if_pos rfl]
theorem vC7 : vC σ 7 = jrem (d_tk σ) 12 := by
  unfold vC s_X4_count
  rw [if_neg (by decide), if_pos (by decide), if_neg (by decide), if_neg (by decide), if_pos rfl]
  rfl
theorem vC8 : vC σ 8 = 12 - d_sp σ := by
  unfold vC s_X4_count
  rw [if_neg (by decide), if_pos (by decide), if_neg (by decide), if_neg (by decide), if_neg (by decide), if_pos rfl]
  rfl
theorem vC9 : vC σ 9 = s_X0_filledOn σ 0 16 := by
  unfold vC s_X4_count
  rw [if_neg (by decide), if_pos (by decide), if_neg (by decide), if_neg (by decide), if_neg (by decide), if_neg (by decide), if_pos rfl]
theorem vC10 : vC σ 10 = s_X0_unreadableOn σ 0 16 := by
  unfold vC s_X4_count
  rw [if_neg (by decide), if_pos (by decide), if_neg (by decide), if_neg (by decide), if_neg (by decide), if_neg (by decide), if_neg (by decide), if_pos rfl]
theorem vC11 : vC σ 11 = tot (d_wr σ) := by
  unfold vC s_X4_count
  rw [if_neg (by decide), if_pos (by decide), if_neg (by decide), if_neg (by decide), if_neg (by decide), if_neg (by decide), if_neg (by decide), if_neg (by decide), if_pos rfl]
  have h1 : s_X0_writingsOnTracks σ 0 1 = sumN (fun t => if t % 1 = 0 then tsum (d_wr σ) t else 0) 16 := (wot σ 0 1 (Or.inl rfl) (by omega)).1
  have h2 : s_X0_writingsOnTrack σ 16 = tsum (d_wr σ) 16 := (sumT (d_wr σ) (t := 16) (by omega)).1
  rw [h1, h2]
  unfold tot
  congr 1
theorem vC12 : vC σ 12 = d_rd σ := by
  unfold vC s_X4_count
  rw [if_neg (by decide), if_pos (by decide), if_neg (by decide), if_neg (by decide), if_neg (by decide), if_neg (by decide), if_neg (by decide), if_neg (by decide), if_neg (by decide), if_pos rfl]
theorem vC13 : vC σ 13 = lnd (d_wr σ) := by
  unfold vC s_X4_count
  rw [if_neg (by decide), if_pos (by decide), if_neg (by decide), if_neg (by decide), if_neg (by decide), if_neg (by decide), if_neg (by decide), if_neg (by decide), if_neg (by decide), if_neg (by decide), if_pos rfl]
  exact (wot σ 0 2 (Or.inr rfl) (by omega)).1
theorem vC14 : vC σ 14 = grv (d_wr σ) := by
  unfold vC s_X4_count
  rw [if_neg (by decide), if_pos (by decide), if_neg (by decide), if_neg (by decide), if_neg (by decide), if_neg (by decide), if_neg (by decide), if_neg (by decide), if_neg (by decide), if_neg (by decide), if_neg (by decide), if_pos rfl]
  exact (wot σ 1 2 (Or.inr rfl) (by omega)).1
theorem vC15 : vC σ 15 = s_X0_greatestBlur σ := by
  unfold vC s_X4_count
  rw [if_neg (by decide), if_pos (by decide), if_neg (by decide), if_neg (by decide), if_neg (by decide), if_neg (by decide), if_neg (by decide), if_neg (by decide), if_neg (by decide), if_neg (by decide), if_neg (by decide), if_neg (by decide), if_pos rfl]
theorem vF0 {a c : Nat} (ha : a < 192) (e : d_se σ a = nI c) : vF σ (nI a) 0 = s_X0_ticksTo σ (nI c) := by
  unfold vF s_X4_ticksFor
  rw [if_neg (adr1 ha), if_pos rfl, sfor σ ha, e]
/-! time -/
theorem ttt (h : Dv K σ) {q : Nat} (hq : q < 17) : ∃ t hh, t ≤ 20 ∧ hh ≤ 16 ∧ d_st σ 4 = nI t ∧ d_hd σ = nI hh ∧ s_X0_ticksToTrack σ (nI q) = nI (t * dist hh q) ∧ t * dist hh q ≤ 320 := by
  obtain ⟨t, ht, et⟩ := h.2.2.2.2.1
  obtain ⟨hh, hhh, eh⟩ := h.2.2.2.2.2.2.1
  refine ⟨t, hh, ht, hhh, et, eh, ?_, ?_⟩
  · unfold s_X0_ticksToTrack
    rw [setI4, et, eh, jab (by omega) (by omega), pk_mul]
    rfl
  · have h16 : dist hh q ≤ 16 := by unfold dist; split <;> omega
    have := Nat.mul_le_mul ht h16
    omega
theorem tik (h : Dv K σ) (hK : K ≤ 9999999) {c : Nat} (hc : c < 204) : ∃ t hh T r, t ≤ 20 ∧ hh ≤ 16 ∧ d_st σ 4 = nI t ∧ d_hd σ = nI hh ∧ T ≤ K ∧ d_tk σ = nI T ∧ r < 12 ∧ (T + t * dist hh (c / 12) + r) % 12 = c % 12 ∧ s_X0_ticksTo σ (nI c) = nI (t * dist hh (c / 12) + r + 1) ∧ t * dist hh (c / 12) ≤ 320 := by
  obtain ⟨t, hh, ht, hhh, et, eh, e1, hm⟩ := ttt h (q := c / 12) (by omega)
  obtain ⟨T, hT, eT⟩ := h.2.2.2.2.2.1
  refine ⟨t, hh, T, (c % 12 + 12 - (T + t * dist hh (c / 12)) % 12) % 12, ht, hhh, et, eh, hT, eT, Nat.mod_lt _ (by decide), ?_, ?_, hm⟩
  · generalize t * dist hh (c / 12) = x
    omega
  · unfold s_X0_ticksTo
    rw [trackO hc, e1, eT, nI_add, fm12 hc (by omega), nI_add, nI_1]
theorem hast {T k : Nat} (eT : d_tk σ = nI T) (hk : T + k ≤ 9999999) : ¬ s_X0_hasTime σ (nI k) = 0 := by
  unfold s_X0_hasTime
  rw [eT, show (9999999 : Int32) = nI 9999999 from rfl, pk_sub (by omega), if_neg (nI_nlt (by omega) (by omega))]
  decide
end DVS
