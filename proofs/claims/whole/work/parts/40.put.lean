/-! put, wipe -/
theorem lc0 (v : Int64) : (lg_cmp v 0 = 0) ↔ v = 0 := lg_cmp_eq v 0
theorem un0 (v : Int64) : v = 0 ↔ v.toUInt64.toNat = 0 := by
  constructor
  · intro h; rw [h]; rfl
  · intro h
    have h1 : v.toUInt64 = 0 := UInt64.toNat_inj.mp h
    have h2 : v.toUInt64.toInt64 = (0 : UInt64).toInt64 := by rw [h1]
    simpa using h2
theorem jus8 (v : Int64) : (jus v 8).toUInt64.toNat = v.toUInt64.toNat / 256 := by
  unfold jus
  rw [show ((8 : Int32).toInt64.toUInt64 &&& Int64.toUInt64 63) = 8 from by decide]
  rw [show ((v.toUInt64 >>> 8).toInt64).toUInt64 = v.toUInt64 >>> 8 from by simp]
  rw [UInt64.toNat_shiftRight, show ((8 : UInt64).toNat % 64) = 8 from rfl, Nat.shiftRight_eq_div_pow]
theorem in_bad (p : Int64) : (s_X5_in p 33 126 = 0 ↔ ((lg_cmp p 33) < 0 ∨ ¬ (lg_cmp p 126) ≤ 0)) := by
  unfold s_X5_in
  by_cases h1 : lg_cmp p 33 < 0
  · rw [if_pos h1]; exact ⟨fun _ => Or.inl h1, fun _ => rfl⟩
  · rw [if_neg h1]
    by_cases h2 : 0 < lg_cmp p 126
    · rw [if_pos h2]; exact ⟨fun _ => Or.inr (Int32.not_le.mpr h2), fun _ => rfl⟩
    · rw [if_neg h2]; exact ⟨fun h => absurd h (by decide), fun h => h.elim (fun x => absurd x h1) (fun x => absurd (Int32.not_lt.mp h2) x)⟩
theorem sigL (p : Int64) : ∀ (n m k : Nat) (v : Int64), k ≤ 8 → 8 - k < n → 8 - k < m → v.toUInt64.toNat < 2 ^ (64 - 8 * k) →
    ((∃ r, r ≤ 8 ∧ L1_X4_signsIn p n v (nI k) = nI r ∧ L1_X5_charactersOf p m v (nI k) = nI r) ∨ (L1_X4_signsIn p n v (nI k) = -2 ∧ L1_X5_charactersOf p m v (nI k) = 0)) ∧ okL1_X4_signsIn p n v (nI k) ∧ okL1_X5_charactersOf p m v (nI k)
  | 0, m, k, v, hk, hn, _, _ => absurd hn (Nat.not_lt_zero _)
  | n + 1, 0, k, v, hk, _, hm, _ => absurd hm (Nat.not_lt_zero _)
  | n + 1, m + 1, k, v, hk, hn, hm, hv => by
    unfold L1_X4_signsIn L1_X5_charactersOf okL1_X4_signsIn okL1_X5_charactersOf
    by_cases hz : v = 0
    · have hz' := (lc0 v).mpr hz
      rw [if_pos hz']
      have hb : s_X5_in (v &&& 255) 33 126 = 0 := by rw [hz]; decide
      refine ⟨Or.inl ⟨k, hk, rfl, ?_⟩, ⟨fun _ => trivial, fun h => absurd hz' h⟩, fun _ => trivial, fun _ => ⟨fun _ => trivial, fun h => absurd hb h⟩⟩
      rw [if_pos hb, if_pos hz']
      split <;> rfl
    · have hz' : ¬ lg_cmp v 0 = 0 := fun h => hz ((lc0 v).mp h)
      have hk8 : k < 8 := by
        rcases Nat.lt_or_ge k 8 with h | h
        · exact h
        · have e8 : k = 8 := by omega
          subst e8
          have : v.toUInt64.toNat = 0 := by
            have h9 : v.toUInt64.toNat < 1 := hv
            omega
          exact absurd ((un0 v).mpr this) hz
      have h8 : ¬ (8 : Int32) ≤ nI k := nI_ge (b := 8) hk8 (by omega)
      rw [if_neg hz', if_neg h8, if_neg h8]
      by_cases hb : s_X5_in (v &&& 255) 33 126 = 0
      · rw [if_pos hb, if_neg hz']
        rcases (in_bad _).mp hb with h1 | h1
        · rw [if_pos h1]
          exact ⟨Or.inr ⟨rfl, rfl⟩, ⟨fun h => absurd h hz', fun _ => ⟨fun h => absurd h h8, fun _ => ⟨fun _ => trivial, fun h => absurd h1 h⟩⟩⟩, fun h => absurd h h8, fun _ => ⟨fun _ => trivial, fun h => absurd hb h⟩⟩
        · rw [if_neg h1]
          refine ⟨Or.inr ⟨?_, rfl⟩, ⟨fun h => absurd h hz', fun _ => ⟨fun h => absurd h h8, fun _ => ⟨fun _ => trivial, fun _ => ⟨fun h => absurd h h1, fun _ => trivial⟩⟩⟩⟩, fun h => absurd h h8, fun _ => ⟨fun _ => trivial, fun h => absurd hb h⟩⟩
          split <;> rfl
      · have h1 : ¬ (lg_cmp (v &&& 255) 33) < 0 := fun h => hb ((in_bad _).mpr (Or.inl h))
        have h2 : (lg_cmp (v &&& 255) 126) ≤ 0 := by
          by_cases h : (lg_cmp (v &&& 255) 126) ≤ 0
          · exact h
          · exact absurd ((in_bad _).mpr (Or.inr h)) hb
        rw [if_neg h1, if_pos h2, if_neg hb, nI_1]
        obtain ⟨q1, q2, q3⟩ := sigL p n m (k + 1) (jus v 8) (by omega) (by omega) (by omega) (by
          rw [jus8]
          have e : 2 ^ (64 - 8 * k) = 256 * 2 ^ (64 - 8 * (k + 1)) := by
            rw [show (256 : Nat) = 2 ^ 8 from rfl, ← Nat.pow_add]
            congr 1
            omega
          rw [e] at hv
          exact Nat.div_lt_of_lt_mul hv)
        exact ⟨q1, ⟨fun h => absurd h hz', fun _ => ⟨fun h => absurd h h8, fun _ => ⟨fun h => absurd h h1, fun _ => ⟨fun _ => q2, fun h => absurd h2 h⟩⟩⟩⟩, fun h => absurd h h8, fun _ => ⟨fun h => absurd h hb, fun _ => q3⟩⟩
theorem sig (p : Int64) : ((∃ r, r ≤ 8 ∧ s_X4_signsIn p = nI r ∧ s_X5_charactersOf p = nI r) ∨ (s_X4_signsIn p = -2 ∧ s_X5_charactersOf p = 0)) ∧ ok_X4_signsIn p ∧ ok_X5_charactersOf p := by
  have h := sigL p FU FU 0 p (by omega) (fuel (by omega)) (fuel (by omega)) (by
    have := p.toUInt64.toNat_lt
    exact this)
  rw [nI_0] at h
  exact h
def chR (p : Int64) (n j : Nat) : Int32 := ((jus p (8 * nI (n - 1 - j))) &&& 255).toInt32
def vr (r : Nat) : Int32 := nI r - 1
theorem vr0 : vr 0 < 0 := by decide
theorem vrS (r : Nat) : vr (r + 1) = nI r := nI_pred r
theorem appL (σ : PS) (p : Int64) (p3 : Int32) {n L : Nat} (hL : L + n ≤ 60) : ∀ (r fu : Nat) (τ : PS), r < fu → r ≤ n → n ≤ 8 → p_le τ = nI (L + (n - r)) → ∃ si : NI, L1_X2_append σ p p3 fu (vr r) τ = (si, nI (L + n)) ∧ (∀ j, si j = if L + (n - r) ≤ j ∧ j < L + n then chR p n (j - L) else p_si τ j) ∧ okL1_X2_append σ p p3 fu (vr r) τ
  | r, 0, τ, h, _, _, _ => absurd h (Nat.not_lt_zero _)
  | 0, fu + 1, τ, _, _, _, hl => by
    refine ⟨p_si τ, ?_, fun j => (if_neg (by omega)).symm, ?_⟩
    · rw [L1_X2_append, if_pos vr0]
      have h9 : p_le τ = nI (L + n) := hl
      exact Prod.ext rfl h9
    · rw [okL1_X2_append]
      exact ⟨fun _ => trivial, fun h => absurd vr0 h⟩
  | r + 1, fu + 1, τ, hf, hr, hn, hl => by
    have h0 : ¬ vr (r + 1) < 0 := by rw [vrS]; exact nI_pos (by omega)
    have et : t2_X2_append σ p p3 (vr (r + 1)) τ = (upd (p_si τ) (L + (n - (r + 1))) (chR p n (n - (r + 1))), nI (L + (n - r))) := by
      unfold t2_X2_append t1_X2_append
      rw [hl, lay_nI (by omega) (by omega)]
      show (upd (p_si τ) (L + (n - (r + 1))) ((jus p (8 * vr (r + 1)) &&& 255).toInt32), p_le τ + 1) = _
      rw [hl, nI_1, vrS]
      unfold chR
      rw [show n - 1 - (n - (r + 1)) = r from by omega, show L + (n - (r + 1)) + 1 = L + (n - r) from by omega]
    have ev : vr (r + 1) + (-1) = vr r := by
      rw [vrS]
      unfold vr
      rw [Int32.sub_eq_add_neg]
    obtain ⟨si, e1, e2, e3⟩ := appL σ p p3 hL r fu (upd (p_si τ) (L + (n - (r + 1))) (chR p n (n - (r + 1))), nI (L + (n - r))) (by omega) (by omega) hn rfl
    refine ⟨si, ?_, fun j => ?_, ?_⟩
    · rw [L1_X2_append, if_neg h0, et, ev]
      exact e1
    · rw [e2 j]
      show (if L + (n - r) ≤ j ∧ j < L + n then chR p n (j - L) else upd (p_si τ) (L + (n - (r + 1))) (chR p n (n - (r + 1))) j) = _
      by_cases hj : j = L + (n - (r + 1))
      · subst hj
        rw [if_neg (by omega), if_pos (by omega), pk_us, show L + (n - (r + 1)) - L = n - (r + 1) from by omega]
      · rw [pk_un hj]
        by_cases h2 : L + (n - r) ≤ j ∧ j < L + n
        · rw [if_pos h2, if_pos (by omega)]
        · rw [if_neg h2, if_neg (by omega)]
    · rw [okL1_X2_append, et, ev]
      exact ⟨fun h => absurd h h0, fun _ => e3⟩
theorem putL (μ : MS) (p : Int64) {n L : Nat} (hL : L + n ≤ 60) (hc : s_X5_charactersOf p = nI n) (hn : n ≤ 8) : ∀ (fu k : Nat) (τ : MS), k ≤ n → n - k < fu → m_tl τ = nI L → ∃ g : NI, L1_X5_put μ p fu (nI k) τ = (nI (L + n), m_tl' (m_tx' τ g) (nI (L + n))) ∧ (∀ j, g j = if L + k ≤ j ∧ j < L + n then chR p n (j - L) else m_tx τ j) ∧ okL1_X5_put μ p fu (nI k) τ
  | 0, k, τ, _, h, _ => absurd h (Nat.not_lt_zero _)
  | fu + 1, k, τ, hk, hf, hl => by
    by_cases e : k = n
    · subst e
      refine ⟨m_tx τ, ?_, fun j => (if_neg (by omega)).symm, ?_⟩
      · rw [L1_X5_put, hc, if_pos (Int32.le_refl _), hl, nI_add]
        rfl
      · rw [okL1_X5_put, hc]
        exact ⟨fun _ => trivial, fun h => absurd (Int32.le_refl _) h⟩
    · have hlt : ¬ nI n ≤ nI k := nI_ge (by omega) (by omega)
      have et : t1_X5_put μ p (nI k) τ = m_tx' τ (upd (m_tx τ) (L + k) (chR p n k)) := by
        unfold t1_X5_put
        rw [hl, nI_add, nI_clamp (by omega), hc, show (1 : Int32) = nI 1 from rfl, pk_sub (by omega), pk_sub (by omega)]
        rfl
      obtain ⟨g, e1, e2, e3⟩ := putL μ p hL hc hn fu (k + 1) (m_tx' τ (upd (m_tx τ) (L + k) (chR p n k))) (by omega) (by omega) hl
      refine ⟨g, ?_, fun j => ?_, ?_⟩
      · rw [L1_X5_put, hc, if_neg hlt, et, nI_1, e1]
        rfl
      · rw [e2 j]
        show (if L + (k + 1) ≤ j ∧ j < L + n then chR p n (j - L) else upd (m_tx τ) (L + k) (chR p n k) j) = _
        by_cases hj : j = L + k
        · subst hj
          rw [if_neg (by omega), if_pos (by omega), pk_us, show L + k - L = k from by omega]
        · rw [pk_un hj]
          by_cases h2 : L + (k + 1) ≤ j ∧ j < L + n
          · rw [if_pos h2, if_pos (by omega)]
          · rw [if_neg h2, if_neg (by omega)]
      · rw [okL1_X5_put, hc, et, nI_1, hl, nI_add]
        exact ⟨fun h => absurd h hlt, fun _ => ⟨vp_in_nI (by omega) (by decide), e3⟩⟩
/-- but for the pad -/
def Fp (μ μ' : MS) : Prop := m_al μ' = m_al μ ∧ m_hl μ' = m_hl μ ∧ m_hi μ' = m_hi μ ∧ m_sl μ' = m_sl μ ∧ m_sv μ' = m_sv μ
theorem p_put {μ : MS} {ϖ : PS} (hP : PI ϖ μ) (ρ : QS) (σ τ : DS) (hs : HS) (p : Int64) : (s_X5_put μ p).1 = (s_X4_put ρ ϖ σ τ hs p).1 ∧ PI (s_X4_put ρ ϖ σ τ hs p).2 (s_X5_put μ p).2 ∧ Fp μ (s_X5_put μ p).2 ∧ ok_X5_put μ p ∧ ok_X4_put ρ ϖ σ τ hs p := by
  obtain ⟨L, hL, l1, l2, l3⟩ := id hP
  obtain ⟨hs1, ok4, ok5⟩ := sig p
  have hrf : Fp μ μ := ⟨rfl, rfl, rfl, rfl, rfl⟩
  unfold s_X4_put s_X5_put ok_X5_put ok_X4_put
  by_cases hb : s_X5_charactersOf p = 0 ∧ ¬ 1 ≤ s_X4_signsIn p
  · obtain ⟨e1, e2⟩ := hb
    rw [if_pos e1, if_neg e2]
    exact ⟨rfl, hP, hrf, ⟨ok5, fun _ => trivial, fun h => absurd e1 h⟩, ok4, fun h => absurd h e2, fun _ => trivial⟩
  rcases hs1 with ⟨r, hr, e4, e5⟩ | ⟨e4, e5⟩
  · by_cases hr0 : r = 0
    · subst hr0
      exact absurd ⟨e5, by rw [e4]; decide⟩ hb
    · have hne : ¬ nI r = 0 := nI_ne0 (by omega) (by omega)
      have h1 : (1 : Int32) ≤ nI r := nI_le (a := 1) (by omega) (by omega)
      rw [e4, e5, if_neg hne, if_pos h1, l1, l2, nI_add]
      by_cases h60 : L + r ≤ 60
      · have h60' : nI (L + r) ≤ (60 : Int32) := nI_le (b := 60) h60 (by omega)
        rw [if_pos h60', if_pos h60']
        have ea : s_X2_append ϖ p (nI r) = L1_X2_append ϖ p (nI r) FU (vr r) ϖ := rfl
        obtain ⟨si, a1, a2, a3⟩ := appL ϖ p (nI r) h60 r FU ϖ (fuel (by omega)) (Nat.le_refl _) hr (by rw [l1, Nat.sub_self]; rfl)
        obtain ⟨g, b1, b2, b3⟩ := putL μ p h60 e5 hr FU 0 μ (by omega) (fuel (by omega)) l2
        rw [nI_0] at b1 b3
        rw [ea, a1, b1]
        refine ⟨rfl, ⟨L + r, h60, rfl, rfl, fun j hj => ?_⟩, ⟨rfl, rfl, rfl, rfl, rfl⟩, ⟨ok5, fun h => absurd h hne, fun _ => ⟨fun _ => b3, fun h => absurd h60' h⟩⟩, ok4, fun _ => ⟨fun _ => a3, fun h => absurd h60' h⟩, fun h => absurd h1 h⟩
        show si j = g j
        rw [a2 j, b2 j, Nat.sub_self]
        by_cases h2 : L + 0 ≤ j ∧ j < L + r
        · rw [if_pos h2, if_pos h2]
        · rw [if_neg h2, if_neg h2]
          exact l3 j (by omega)
      · have h60' : ¬ nI (L + r) ≤ (60 : Int32) := nI_ge (a := 60) (by omega) (by omega)
        rw [if_neg h60', if_neg h60']
        exact ⟨rfl, hP, hrf, ⟨ok5, fun h => absurd h hne, fun _ => ⟨fun h => absurd h h60', fun _ => trivial⟩⟩, ok4, fun _ => ⟨fun h => absurd h h60', fun _ => trivial⟩, fun h => absurd h1 h⟩
  · exact absurd ⟨e5, by rw [e4]; decide⟩ hb
theorem p_wipe {μ : MS} {ϖ : PS} (hP : PI ϖ μ) (ρ : QS) (σ τ : DS) (hs : HS) : (s_X5_wipe μ).1 = (s_X4_wipe ρ ϖ σ τ hs).1 ∧ PI (s_X4_wipe ρ ϖ σ τ hs).2 (s_X5_wipe μ).2 ∧ Fp μ (s_X5_wipe μ).2 := by
  obtain ⟨L, hL, l1, l2, l3⟩ := hP
  exact ⟨l2.trans l1.symm, ⟨0, by omega, rfl, rfl, fun j hj => absurd hj (Nat.not_lt_zero _)⟩, rfl, rfl, rfl, rfl, rfl⟩
