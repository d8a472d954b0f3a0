/-! the history, the slots and the pad: what holds of both sides -/
abbrev XD : Type := (Nat → Nat) × DS
def HI (R : Nat → Option XD) (o n : Nat) (μ : MS) : Prop := o < 6 ∧ n ≤ 6 ∧ m_hl μ = nI n ∧ ∀ i, i < n → ∃ (δ : Nat → Nat) (υ : DS), R ((o + i) % 6) = some (δ, υ) ∧ Rl υ (fun k => m_hi μ (816 * i + k))
def SI (S : Nat → Option XD) (μ : MS) : Prop := ∀ s, s < 2 → (S s = none ∧ m_sv μ s = 0) ∨ ∃ (δ : Nat → Nat) (υ : DS), S s = some (δ, υ) ∧ ¬ m_sv μ s = 0 ∧ Rl υ (fun k => m_sl μ (816 * s + k))
def PI (ϖ : PS) (μ : MS) : Prop := ∃ L, L ≤ 60 ∧ p_le ϖ = nI L ∧ m_tl μ = nI L ∧ ∀ j, j < L → p_si ϖ j = m_tx μ j
/-- but for the row, the history and what is done on the way -/
def Fs (μ μ' : MS) : Prop := m_sl μ' = m_sl μ ∧ m_sv μ' = m_sv μ ∧ m_tx μ' = m_tx μ ∧ m_tl μ' = m_tl μ
def Fh (μ μ' : MS) : Prop := m_hl μ' = m_hl μ ∧ m_hi μ' = m_hi μ
theorem Fs.rf {μ : MS} : Fs μ μ := ⟨rfl, rfl, rfl, rfl⟩
theorem Fs.tr {μ μ1 μ2 : MS} (h : Fs μ μ1) (h2 : Fs μ1 μ2) : Fs μ μ2 := ⟨h2.1.trans h.1, h2.2.1.trans h.2.1, h2.2.2.1.trans h.2.2.1, h2.2.2.2.trans h.2.2.2⟩
theorem Fh.tr {μ μ1 μ2 : MS} (h : Fh μ μ1) (h2 : Fh μ1 μ2) : Fh μ μ2 := ⟨h2.1.trans h.1, h2.2.trans h.2⟩
theorem Fs.of {μ μ' : MS} (h : μ'.2 = μ.2) : Fs μ μ' := by
  unfold Fs m_sl m_sv m_tx m_tl
  rw [h]
  exact ⟨rfl, rfl, rfl, rfl⟩
theorem Fh.of {μ μ' : MS} (h : μ'.2 = μ.2) : Fh μ μ' := by
  unfold Fh m_hl m_hi
  rw [h]
  exact ⟨rfl, rfl⟩
theorem SI.mv {S : Nat → Option XD} {μ μ' : MS} (h : SI S μ) (f : Fs μ μ') : SI S μ' := by
  unfold SI
  rw [f.1, f.2.1]
  exact h
theorem PI.mv {ϖ : PS} {μ μ' : MS} (h : PI ϖ μ) (f : Fs μ μ') : PI ϖ μ' := by
  unfold PI
  rw [f.2.2.1, f.2.2.2]
  exact h
theorem HI.mv {R : Nat → Option XD} {o n : Nat} {μ μ' : MS} (h : HI R o n μ) (f : Fh μ μ') : HI R o n μ' := by
  unfold HI
  rw [f.1, f.2]
  exact h
theorem fuel {k : Nat} (h : k < 6000) : k < FU := h
theorem keeps_ok (μ : MS) : ∃ g : NI, s_X5_keeps μ = m_ke' μ g ∧ (∀ k, k < 816 → g k = m_al μ k) ∧ ok_X5_keeps μ := by
  obtain ⟨g, e1, e2, e3⟩ := keepsL μ FU 0 μ (by omega) (fuel (by omega))
  rw [nI_0] at e1 e3
  exact ⟨g, e1, fun k hk => by rw [e2 k, if_pos ⟨by omega, hk⟩], e3 trivial⟩
theorem back_ok (μ : MS) : ∃ g : NI, s_X5_comesBack μ = m_al' μ g ∧ (∀ k, k < 816 → g k = m_ke μ k) ∧ ok_X5_comesBack μ := by
  obtain ⟨g, e1, e2, e3⟩ := comesL μ FU 0 μ (by omega) (fuel (by omega))
  rw [nI_0] at e1 e3
  exact ⟨g, e1, fun k hk => by rw [e2 k, if_pos ⟨by omega, hk⟩], e3 trivial⟩
theorem rec_ok (μ : MS) {n : Nat} (hn : n ≤ 6) (hl : m_hl μ = nI n) : ∃ g : NI, s_X5_records μ = m_hl' (m_hi' μ g) (nI (kN n)) ∧ ok_X5_records μ ∧ (n < 6 → (∀ k, k < 816 * n → g k = m_hi μ k) ∧ ∀ j, j < 816 → g (816 * n + j) = m_ke μ j) ∧ (¬ n < 6 → (∀ k, k < 4080 → g k = m_hi μ (k + 816)) ∧ ∀ j, j < 816 → g (4080 + j) = m_ke μ j) := by
  unfold s_X5_records ok_X5_records
  by_cases h6 : n < 6
  · have hne : ¬ m_hl μ = 6 := by
      rw [hl]
      intro h
      have := nI_inj (b := 6) (by omega) (by omega) h
      omega
    obtain ⟨g, e1, e2, e3⟩ := rec1L μ n (by omega) FU 0 μ (by omega) (fuel (by omega)) hl
    rw [nI_0] at e1 e3
    rw [if_neg hne]
    refine ⟨g, ?_, ⟨fun h => absurd h hne, fun _ => e3 trivial⟩, fun _ => ⟨fun k hk => ?_, fun j hj => ?_⟩, fun h => absurd h6 h⟩
    · rw [e1]
      show m_hl' (m_hi' μ g) (m_hl μ + 1) = _
      rw [hl, nI_1, kN, if_pos h6]
    · rw [e2 k, if_neg (by omega)]
    · rw [e2 _, if_pos (by omega), show 816 * n + j - 816 * n = j from by omega]
  · have e6 : n = 6 := by omega
    subst e6
    have h66 : m_hl μ = 6 := hl
    rw [if_pos h66]
    obtain ⟨g, e1, e2, e3⟩ := rec2L μ FU 0 μ (by omega) (fuel (by omega))
    rw [nI_0] at e1 e3
    have hl5 : m_hl (m_hl' (m_hi' μ g) (m_hl (m_hi' μ g) - 1)) = nI 5 := by
      show m_hl μ - 1 = nI 5
      rw [hl, nI_pred]
    obtain ⟨g2, f1, f2, f3⟩ := rec1L μ 5 (by omega) FU 0 (m_hl' (m_hi' μ g) (m_hl (m_hi' μ g) - 1)) (by omega) (fuel (by omega)) hl5
    rw [nI_0] at f1 f3
    refine ⟨g2, ?_, ⟨fun _ => e3 (f3 trivial), fun h => absurd h66 h⟩, fun h => absurd h h6, fun _ => ⟨fun k hk => ?_, fun j hj => ?_⟩⟩
    · rw [e1, f1]
      show m_hl' (m_hi' μ g2) (m_hl μ - 1 + 1) = _
      rw [hl, nI_pred, nI_1]
      rfl
    · rw [f2 k, if_neg (by omega)]
      show g k = _
      rw [e2 k, if_pos ⟨by omega, hk⟩]
    · rw [f2 _, if_pos (by omega), show 4080 + j - 816 * 5 = j from by omega]
      rfl
theorem HI.keep {R : Nat → Option XD} {o n : Nat} {μ : MS} (h : HI R o n μ) {α : Nat → Nat} {σ : DS} {g : NI} {μ' : MS} (hl : m_hl μ' = nI (kN n)) (hi : m_hi μ' = g) (ke : NI) (hk : Rl σ ke)
    (h1 : n < 6 → (∀ k, k < 816 * n → g k = m_hi μ k) ∧ ∀ j, j < 816 → g (816 * n + j) = ke j) (h2 : ¬ n < 6 → (∀ k, k < 4080 → g k = m_hi μ (k + 816)) ∧ ∀ j, j < 816 → g (4080 + j) = ke j) : HI (va_up R ((o + n) % 6) (some (α, σ))) (kO o n) (kN n) μ' := by
  obtain ⟨ho, hn, -, hrow⟩ := h
  refine ⟨by unfold kO; split <;> omega, by unfold kN; split <;> omega, hl, fun i hi' => ?_⟩
  rw [hi]
  by_cases h6 : n < 6
  · obtain ⟨g1, g2⟩ := h1 h6
    have eo : kO o n = o := by unfold kO; rw [if_pos h6]
    have en : kN n = n + 1 := by unfold kN; rw [if_pos h6]
    rw [eo]
    rw [en] at hi'
    by_cases hin : i = n
    · subst hin
      exact ⟨α, σ, va_up_self _ _ _, Rl_ext hk (fun k hk => g2 k hk)⟩
    · obtain ⟨δ, υ, r1, r2⟩ := hrow i (by omega)
      exact ⟨δ, υ, by rw [va_up_ne _ _ (show (o + i) % 6 ≠ (o + n) % 6 from by omega)]; exact r1, Rl_ext r2 (fun k hk => g1 _ (by omega))⟩
  · obtain ⟨g1, g2⟩ := h2 h6
    have e6 : n = 6 := by omega
    subst e6
    have eo : kO o 6 = (o + 1) % 6 := rfl
    have en : kN 6 = 6 := rfl
    rw [eo]
    rw [en] at hi'
    by_cases hin : i = 5
    · subst hin
      refine ⟨α, σ, by rw [show ((o + 1) % 6 + 5) % 6 = (o + 6) % 6 from by omega]; exact va_up_self _ _ _, Rl_ext hk (fun k hk => g2 k hk)⟩
    · obtain ⟨δ, υ, r1, r2⟩ := hrow (i + 1) (by omega)
      refine ⟨δ, υ, ?_, Rl_ext r2 (fun k hk => ?_)⟩
      · rw [show ((o + 1) % 6 + i) % 6 = (o + (i + 1)) % 6 from by omega, va_up_ne _ _ (show (o + (i + 1)) % 6 ≠ (o + 6) % 6 from by omega)]
        exact r1
      · rw [g1 _ (by omega), show 816 * i + k + 816 = 816 * (i + 1) + k from by omega]
/-- a change ends: it is recorded, or taken back -/
theorem ends_ok {R : Nat → Option XD} {o n : Nat} {μ0 μ1 : MS} {σ σ1 : DS} (α : Nat → Nat) (told : Int32) (hk : ∀ k, k < 816 → m_ke μ1 k = m_al μ0 k) (hs : Fs μ0 μ1) (hh : Fh μ0 μ1) (hH : HI R o n μ0) (hR0 : Rl σ (m_al μ0)) (hR1 : Rl σ1 (m_al μ1)) :
    (s_X5_ends μ1 told).1 = told ∧ ok_X5_ends μ1 told ∧ Fs μ0 (s_X5_ends μ1 told).2 ∧ (told < 0 → Rl σ (m_al (s_X5_ends μ1 told).2) ∧ HI R o n (s_X5_ends μ1 told).2) ∧ (¬ told < 0 → Rl σ1 (m_al (s_X5_ends μ1 told).2) ∧ HI (va_up R ((o + n) % 6) (some (α, σ))) (kO o n) (kN n) (s_X5_ends μ1 told).2) := by
  unfold s_X5_ends ok_X5_ends
  have hH1 := hH.mv hh
  obtain ⟨g, e1, e2, e3, e4⟩ := rec_ok μ1 hH1.2.1 hH1.2.2.1
  obtain ⟨b, f1, f2, f3⟩ := back_ok μ1
  have hke : Rl σ (m_ke μ1) := Rl_ext hR0 hk
  refine ⟨?_, ⟨fun _ => e2, fun _ => f3⟩, ?_, fun hneg => ?_, fun hpos => ?_⟩
  · split <;> rfl
  · by_cases h : 0 ≤ told
    · rw [if_pos h]
      dsimp only
      rw [e1]
      exact hs.tr ⟨rfl, rfl, rfl, rfl⟩
    · rw [if_neg h]
      dsimp only
      rw [f1]
      exact hs.tr ⟨rfl, rfl, rfl, rfl⟩
  · rw [if_neg (Int32.not_le.mpr hneg)]
    dsimp only
    rw [f1]
    exact ⟨Rl_ext hke (fun k hk => f2 k hk), hH1.mv ⟨rfl, rfl⟩⟩
  · rw [if_pos (Int32.not_lt.mp hpos)]
    dsimp only
    rw [e1]
    exact ⟨hR1, hH1.keep rfl rfl (m_ke μ1) hke e3 e4⟩
theorem undo_ok {μ : MS} {n : Nat} (hn : n + 1 ≤ 6) (hl : m_hl μ = nI (n + 1)) : ∃ g : NI, s_X5_undo μ = (nI n, m_al' (m_hl' μ (nI n)) g) ∧ (∀ k, k < 816 → g k = m_hi μ (816 * n + k)) ∧ ok_X5_undo μ := by
  have hne : ¬ m_hl μ = 0 := by rw [hl]; exact nI_ne0 (by omega) (by omega)
  unfold s_X5_undo ok_X5_undo
  rw [if_neg hne, hl, nI_pred]
  obtain ⟨g, e1, e2, e3⟩ := undoL μ n (by omega) FU 0 (m_hl' μ (nI n)) (by omega) (fuel (by omega)) rfl
  rw [nI_0] at e1 e3
  exact ⟨g, e1, fun k hk => by rw [e2 k, if_pos ⟨by omega, hk⟩]; rfl, fun h => absurd h (nI_ne0 (by omega) (by omega)), fun _ => e3 trivial⟩
theorem HI.undo {R : Nat → Option XD} {o n : Nat} {μ : MS} (h : HI R o (n + 1) μ) (x : XD) {g : NI} : HI (va_up R ((o + n) % 6) (some x)) o n (m_al' (m_hl' μ (nI n)) g) := by
  obtain ⟨ho, hn, hl, hrow⟩ := h
  refine ⟨ho, by omega, rfl, fun i hi => ?_⟩
  obtain ⟨δ, υ, r1, r2⟩ := hrow i (by omega)
  exact ⟨δ, υ, by rw [va_up_ne _ _ (show (o + i) % 6 ≠ (o + n) % 6 from by omega)]; exact r1, r2⟩
