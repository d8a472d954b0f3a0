/-! the model's reading -/
section MRD
variable {μ : MS} {L : Nat} {nm rq : Int32} {as nu : NI}
theorem here0 (hm : m_tl μ = nI L) {i : Nat} (hi : L ≤ i) (hi2 : i < 1000) (lo hi' : Int32) : s_X5_isHere (mst μ (nI i) nm rq as nu) lo hi' = 0 ∧ ok_X5_isHere (mst μ (nI i) nm rq as nu) lo hi' := by
  have h : m_tl (mst μ (nI i) nm rq as nu) ≤ m_so (mst μ (nI i) nm rq as nu) := by
    show m_tl μ ≤ nI i
    rw [hm]
    exact nI_le hi (by omega)
  unfold s_X5_isHere ok_X5_isHere
  rw [if_pos h]
  exact ⟨rfl, fun _ => trivial, fun h9 => absurd h h9⟩
theorem here1 (hm : m_tl μ = nI L) {i : Nat} (hi : i < L) (hL : L ≤ 60) (lo hi' : Int32) : s_X5_isHere (mst μ (nI i) nm rq as nu) lo hi' = (if m_tx μ i < lo then 0 else if hi' < m_tx μ i then 0 else 1) ∧ ok_X5_isHere (mst μ (nI i) nm rq as nu) lo hi' := by
  have h : ¬ m_tl (mst μ (nI i) nm rq as nu) ≤ m_so (mst μ (nI i) nm rq as nu) := by
    show ¬ m_tl μ ≤ nI i
    rw [hm]
    exact nI_ge hi (by omega)
  unfold s_X5_isHere ok_X5_isHere
  rw [if_neg h]
  refine ⟨?_, fun h9 => absurd h9 h, fun _ => vp_in_nI (n := i) (by omega) (by decide)⟩
  show (if s_X5_in (m_tx μ (nI i).toNatClampNeg).toInt64 lo.toInt64 hi'.toInt64 = 0 then 0 else 1) = _
  rw [nI_clamp (by omega), in_eq]
  by_cases h1 : m_tx μ i < lo
  · rw [if_pos h1, if_pos rfl]
  · rw [if_neg h1]
    by_cases h2 : hi' < m_tx μ i
    · rw [if_pos h2, if_pos rfl]
    · rw [if_neg h2, if_neg (show ¬ (1 : Int32) = 0 from by decide)]
theorem hereD (hm : m_tl μ = nI L) (hL : L ≤ 60) {i : Nat} (hi : i ≤ L) : (i < L ∧ dig (m_tx μ i) → s_X5_isHere (mst μ (nI i) nm rq as nu) 48 57 = 1) ∧ (¬ (i < L ∧ dig (m_tx μ i)) → s_X5_isHere (mst μ (nI i) nm rq as nu) 48 57 = 0) ∧ ok_X5_isHere (mst μ (nI i) nm rq as nu) 48 57 := by
  by_cases h : i < L
  · obtain ⟨e, ok⟩ := here1 (nm := nm) (rq := rq) (as := as) (nu := nu) hm h hL 48 57
    rw [e]
    refine ⟨fun hd => by rw [if_neg hd.2.1, if_neg hd.2.2], fun hd => ?_, ok⟩
    by_cases h1 : m_tx μ i < 48
    · rw [if_pos h1]
    · rw [if_neg h1]
      by_cases h2 : 57 < m_tx μ i
      · rw [if_pos h2]
      · exact absurd ⟨h, h1, h2⟩ hd
  · obtain ⟨e, ok⟩ := here0 (nm := nm) (rq := rq) (as := as) (nu := nu) hm (i := i) (by omega) (by omega) 48 57
    rw [e]
    exact ⟨fun hd => absurd hd.1 h, fun _ => rfl, ok⟩
theorem hereC (hm : m_tl μ = nI L) (hL : L ≤ 60) {i : Nat} (hi : i ≤ L) (c : Int32) : (i < L ∧ m_tx μ i = c → s_X5_isHere (mst μ (nI i) nm rq as nu) c c = 1) ∧ (¬ (i < L ∧ m_tx μ i = c) → s_X5_isHere (mst μ (nI i) nm rq as nu) c c = 0) ∧ ok_X5_isHere (mst μ (nI i) nm rq as nu) c c := by
  by_cases h : i < L
  · obtain ⟨e, ok⟩ := here1 (nm := nm) (rq := rq) (as := as) (nu := nu) hm h hL c c
    rw [e]
    refine ⟨fun hd => by rw [hd.2, if_neg Int32.lt_irrefl, if_neg Int32.lt_irrefl], fun hd => ?_, ok⟩
    by_cases h1 : m_tx μ i < c
    · rw [if_pos h1]
    · rw [if_neg h1]
      by_cases h2 : c < m_tx μ i
      · rw [if_pos h2]
      · exact absurd ⟨h, Int32.le_antisymm (Int32.not_lt.mp h2) (Int32.not_lt.mp h1)⟩ hd
  · obtain ⟨e, ok⟩ := here0 (nm := nm) (rq := rq) (as := as) (nu := nu) hm (i := i) (by omega) (by omega) c c
    rw [e]
    exact ⟨fun hd => absurd hd.1 h, fun _ => rfl, ok⟩
theorem one (hm : m_tl μ = nI L) (hL : L ≤ 60) {i : Nat} (hi : i ≤ L) (c : Int32) : (i < L ∧ m_tx μ i = c → s_X5_takesOne (mst μ (nI i) nm rq as nu) c = (1, mst μ (nI (i + 1)) nm rq as nu)) ∧ (¬ (i < L ∧ m_tx μ i = c) → s_X5_takesOne (mst μ (nI i) nm rq as nu) c = (0, mst μ (nI i) nm rq as nu)) ∧ ok_X5_takesOne (mst μ (nI i) nm rq as nu) c := by
  obtain ⟨h1, h2, h3⟩ := hereC (nm := nm) (rq := rq) (as := as) (nu := nu) hm hL hi c
  unfold s_X5_takesOne
  refine ⟨fun h => ?_, fun h => ?_, h3⟩
  · rw [h1 h, if_neg (show ¬ (1 : Int32) = 0 from by decide)]
    show ((1 : Int32), mst μ (nI i + 1) nm rq as nu) = _
    rw [nI_1]
  · rw [h2 h, if_pos rfl]
    show ((0 : Int32), mst μ (nI i + 0) nm rq as nu) = _
    rw [Int32.add_zero]
/-- the digits of a number -/
theorem numL (σ0 : MS) (hm : m_tl μ = nI L) (hL : L ≤ 60) {M : Nat} (hM : M ≤ 255) : ∀ (n i v : Nat), i ≤ L → L - i < n → v ≤ M → ∃ i' v', i ≤ i' ∧ i' ≤ L ∧ v' ≤ M ∧ L1_X5_readsNumber σ0 (nI M) n (nI v) (mst μ (nI i) nm rq as nu) = (1, mst μ (nI i') (nI v') rq as nu) ∧ okL1_X5_readsNumber σ0 (nI M) n (nI v) (mst μ (nI i) nm rq as nu) ∧
    (∀ Cl : Nat → Nat → (Int32 × QS) × Prop, (∀ j w d, j < L → 0 < w → w ≤ M → dig (m_tx μ j) → m_tx μ j - 48 = nI d → d ≤ 9 → 10 * w + d ≤ M → Cl j w = Cl (j + 1) (10 * w + d)) → Cl i v = Cl i' v') ∧
    (i' < L → ∀ d, d ≤ 9 → 0 < v' → dig (m_tx μ i') → m_tx μ i' - 48 = nI d → ¬ 10 * v' + d ≤ M)
  | 0, i, v, _, h, _ => absurd h (Nat.not_lt_zero _)
  | n + 1, i, v, hi, hn, hv => by
    obtain ⟨d1, d2, d3⟩ := hereD (nm := nm) (rq := rq) (as := as) (nu := nu) hm hL hi
    unfold L1_X5_readsNumber okL1_X5_readsNumber
    by_cases hv0 : v = 0
    · subst hv0
      rw [if_pos (show nI 0 ≤ 0 from Int32.le_refl _)]
      exact ⟨i, 0, Nat.le_refl _, hi, by omega, rfl, ⟨fun _ => trivial, fun h => absurd (Int32.le_refl _) h⟩, fun Cl h => rfl, fun _ d _ h => absurd h (Nat.lt_irrefl 0)⟩
    · have hv1 : ¬ nI v ≤ 0 := nI_nle (by omega) (by omega)
      rw [if_neg hv1]
      by_cases hd : i < L ∧ dig (m_tx μ i)
      · rw [d1 hd, if_neg (show ¬ (1 : Int32) = 0 from by decide)]
        obtain ⟨d, hd9, hc, hcd⟩ := dig_v hd.2
        have hx : m_tx (mst μ (nI i) nm rq as nu) (m_so (mst μ (nI i) nm rq as nu)).toNatClampNeg = nI (48 + d) := by
          show m_tx μ (nI i).toNatClampNeg = _
          rw [nI_clamp (by omega), hc]
        have hval : 10 * nI v + nI (48 + d) - 48 = nI (10 * v + d) := by
          rw [show (10 : Int32) = nI 10 from rfl, show (48 : Int32) = nI 48 from rfl, pk_mul, nI_add, pk_sub (by omega), show 10 * v + (48 + d) - 48 = 10 * v + d from by omega]
        have hvp : vp_in (m_so (mst μ (nI i) nm rq as nu)) 60 := vp_in_nI (n := i) (by omega) (by decide)
        rw [hx, hval]
        by_cases hmx : 10 * v + d ≤ M
        · have h9 : ¬ nI M < nI (10 * v + d) := nI_nlt hmx (by omega)
          rw [if_neg h9]
          have es : m_so' (mst μ (nI i) nm rq as nu) (m_so (mst μ (nI i) nm rq as nu) + 1) = mst μ (nI (i + 1)) nm rq as nu := by
            show mst μ (nI i + 1) nm rq as nu = _
            rw [nI_1]
          rw [es]
          obtain ⟨i', v', a1, a2, a3, a4, a5, a6, a7⟩ := numL σ0 hm hL hM n (i + 1) (10 * v + d) (by omega) (by omega) hmx
          exact ⟨i', v', by omega, a2, a3, a4, ⟨fun h => absurd h hv1, fun _ => ⟨d3, fun h => absurd h (by decide), fun _ => ⟨hvp, fun h => absurd h h9, fun _ => a5⟩⟩⟩, fun Cl h => (h i v d hd.1 (by omega) hv hd.2 hcd hd9 hmx).trans (a6 Cl h), a7⟩
        · have h9 : nI M < nI (10 * v + d) := nI_lt (by omega) (by omega)
          rw [if_pos h9]
          refine ⟨i, v, Nat.le_refl _, hi, hv, rfl, ⟨fun h => absurd h hv1, fun _ => ⟨d3, fun h => absurd h (by decide), fun _ => ⟨hvp, fun _ => trivial, fun h => absurd h9 h⟩⟩⟩, fun Cl h => rfl, fun _ d2 hd2 _ _ h2 => ?_⟩
          have e2 : d = d2 := nI_inj (by omega) (by omega) (hcd.symm.trans h2)
          subst e2
          exact hmx
      · rw [d2 hd, if_pos rfl]
        exact ⟨i, v, Nat.le_refl _, hi, hv, rfl, ⟨fun h => absurd h hv1, fun _ => ⟨d3, fun _ => trivial, fun h => absurd rfl h⟩⟩, fun Cl h => rfl, fun h d _ _ h1 _ => absurd ⟨h, h1⟩ hd⟩
end MRD
