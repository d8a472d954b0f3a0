/-! fault, ifRun, run -/
section RUN
variable {σ : DS} {μ : MS}
theorem tl_al (μ : MS) (x : Int32) : m_al (m_tl' μ x) = m_al μ := rfl
theorem tl_hl (μ : MS) (x : Int32) : m_hl (m_tl' μ x) = m_hl μ := rfl
theorem tl_hi (μ : MS) (x : Int32) : m_hi (m_tl' μ x) = m_hi μ := rfl
theorem tl_sl (μ : MS) (x : Int32) : m_sl (m_tl' μ x) = m_sl μ := rfl
theorem tl_sv (μ : MS) (x : Int32) : m_sv (m_tl' μ x) = m_sv μ := rfl
theorem tl_tl (μ : MS) (x : Int32) : m_tl (m_tl' μ x) = x := rfl
theorem cl_le (ϖ : PS) : p_le (s_X2_clear ϖ) = 0 := rfl
theorem mst0 (μ : MS) : m_rq' (m_so' μ 0) 0 = mst μ (nI 0) (m_nm μ) (nI 0) (m_as μ) (m_nu μ) := by
  rw [nI_0]
  rfl
/-- all but what reading the text needs -/
def Fm (μ μ' : MS) : Prop := m_al μ' = m_al μ ∧ Fs μ μ' ∧ Fh μ μ'
theorem prs {ϖ : PS} (hP : PI ϖ μ) (ρ : QS) : ∃ (ans : Int32) (μ' : MS) (τ' : QS), s_X3_parse ρ ϖ = (ans, τ') ∧ s_X5_fault μ = (ans, μ') ∧ ok_X3_parse ρ ϖ ∧ ok_X5_fault μ ∧ Fm μ μ' ∧ (ans = -6 → RqI τ' μ') := by
  obtain ⟨L, hL, hl, hm, ht⟩ := hP
  obtain ⟨ans, μ', τ', e1, e2, e3, ⟨so', nm', rq', as', nu', rfl⟩, e5⟩ := faultL (ρ := ρ) μ hL hl hm ht (q_tr ρ) FU 0 0 (m_nm μ) (m_as μ) (m_nu μ) (q_ad ρ) (q_nu ρ) (by omega) (by omega) (fuel (by omega)) (fun k hk => absurd hk (Nat.not_lt_zero _))
  rw [← mst0] at e1 e2
  have ep : PP ρ ϖ 0 (Q5 (q_ad ρ) (q_nu ρ) (q_tr ρ) (nI 0) 0) = (s_X3_parse ρ ϖ, ok_X3_parse ρ ϖ) := by
    unfold PP s_X3_parse ok_X3_parse
    rw [Nat.sub_zero, nI_0]
    rfl
  rw [ep] at e3
  have h1 : s_X3_parse ρ ϖ = (ans, τ') := congrArg Prod.fst e3
  have h2 : ok_X3_parse ρ ϖ = True := congrArg Prod.snd e3
  exact ⟨ans, _, τ', h1, e1, by rw [h2]; trivial, e2, ⟨rfl, ⟨rfl, rfl, rfl, rfl⟩, rfl, rfl⟩, e5⟩
theorem p_fault (hR : Rl σ (m_al μ)) {ϖ : PS} (hP : PI ϖ μ) (ρ : QS) (τ : DS) (hs : HS) : NC σ μ (s_X4_fault ρ ϖ σ τ hs).1 (s_X5_fault μ) ∧ ok_X5_fault μ ∧ ok_X4_fault ρ ϖ σ τ hs := by
  obtain ⟨ans, μ', τ', e1, e2, e3, e4, ⟨f1, f2, f3⟩, -⟩ := prs hP ρ
  unfold s_X4_fault ok_X4_fault
  rw [e1, e2]
  exact ⟨⟨rfl, f2, f3, by rw [f1]; exact hR⟩, e4, e3⟩
/-! the requests -/
theorem noteL (ρ : QS) (p2 : Int32) {r : Nat} (hr : r ≤ 21) (A : Nat → Nat) (hA : ∀ k, k < r → A k < 192) : ∀ (n i : Nat) (τ : QS), i ≤ r → r - i < n → q_sz τ = nI r → (∀ k, k < r → q_ad τ k = nI (A k)) → ∃ g : NI, L1_X3_noteTracks ρ σ p2 n (nI i) τ = q_tr' τ g ∧ (∀ k, k < r → g k = if i ≤ k then (if p2 = 0 then 0 else s_X4_trackOf (s_X0_sectorFor σ (nI (A k)))) else q_tr τ k) ∧ okL1_X3_noteTracks ρ σ p2 n (nI i) τ
  | 0, i, τ, _, h, _, _ => absurd h (Nat.not_lt_zero _)
  | n + 1, i, τ, hi, hn, hz, ha => by
    by_cases e : i = r
    · subst e
      refine ⟨q_tr τ, ?_, fun k hk => (if_neg (by omega)).symm, ?_⟩
      · rw [L1_X3_noteTracks, hz, if_pos (Int32.le_refl _)]
        rfl
      · rw [okL1_X3_noteTracks, hz]
        exact ⟨fun _ => trivial, fun h => absurd (Int32.le_refl _) h⟩
    · have hlt : ¬ nI r ≤ nI i := nI_ge (by omega) (by omega)
      have e1 : q_tr' τ (s_X4_lay 21 (q_tr τ) (nI i) 0) = q_tr' τ (upd (q_tr τ) i 0) := by rw [lay_nI (by omega) (by omega)]
      have e2 : t1_X3_noteTracks ρ σ p2 (nI i) τ = q_tr' τ (upd (q_tr τ) i (s_X4_trackOf (s_X0_sectorFor σ (nI (A i))))) := by
        unfold t1_X3_noteTracks
        rw [at_nI (show i < 21 from by omega) (by omega), lay_nI (by omega) (by omega), ha i (by omega)]
      have go : ∀ x : Int32, x = (if p2 = 0 then 0 else s_X4_trackOf (s_X0_sectorFor σ (nI (A i)))) → ∃ g : NI, L1_X3_noteTracks ρ σ p2 n (nI (i + 1)) (q_tr' τ (upd (q_tr τ) i x)) = q_tr' τ g ∧ (∀ k, k < r → g k = if i ≤ k then (if p2 = 0 then 0 else s_X4_trackOf (s_X0_sectorFor σ (nI (A k)))) else q_tr τ k) ∧ okL1_X3_noteTracks ρ σ p2 n (nI (i + 1)) (q_tr' τ (upd (q_tr τ) i x)) := by
        intro x hx
        obtain ⟨g, g1, g2, g3⟩ := noteL ρ p2 hr A hA n (i + 1) (q_tr' τ (upd (q_tr τ) i x)) (by omega) (by omega) hz ha
        refine ⟨g, ?_, fun k hk => ?_, g3⟩
        · rw [g1]
          rfl
        · rw [g2 k hk]
          show (if i + 1 ≤ k then _ else upd (q_tr τ) i x k) = _
          by_cases hki : k = i
          · subst hki
            rw [if_neg (by omega), if_pos (Nat.le_refl _), pk_us, hx]
          · rw [pk_un hki]
            by_cases h2 : i + 1 ≤ k
            · rw [if_pos h2, if_pos (show i ≤ k from by omega)]
            · rw [if_neg h2, if_neg (show ¬ i ≤ k from by omega)]
      by_cases hp : p2 = 0
      · obtain ⟨g, g1, g2, g3⟩ := go 0 (by rw [if_pos hp])
        refine ⟨g, ?_, g2, ?_⟩
        · rw [L1_X3_noteTracks, hz, if_neg hlt, if_pos hp, nI_1, e1]
          exact g1
        · rw [okL1_X3_noteTracks, hz, nI_1, e1]
          exact ⟨fun h => absurd h hlt, fun _ => ⟨fun _ => g3, fun h => absurd hp h⟩⟩
      · obtain ⟨g, g1, g2, g3⟩ := go _ (by rw [if_neg hp])
        refine ⟨g, ?_, g2, ?_⟩
        · rw [L1_X3_noteTracks, hz, if_neg hlt, if_neg hp, nI_1, e2]
          exact g1
        · rw [okL1_X3_noteTracks, hz, nI_1, e2]
          exact ⟨fun h => absurd h hlt, fun _ => ⟨fun h => absurd h hp, fun _ => g3⟩⟩
theorem runL1 (hR : Rl σ (m_al μ)) (μ0 : MS) (p1 : Int32) {r : Nat} (hr : r ≤ 21) (A : Nat → Nat) (hA : ∀ k, k < r → A k < 192) : ∀ (n i : Nat) (τ : MS), i ≤ r → r - i < n → m_rq τ = nI r → m_al τ = m_al μ → (∀ k, k < r → m_as τ k = nI (A k)) → ∃ g : NI, L1_X5_runs μ0 p1 n (nI i) τ = L2_X5_runs μ0 p1 (nI r) (m_tr' τ g) FU 0 0 (m_tr' τ g) ∧ (∀ k, k < r → g k = if i ≤ k then (if p1 = 0 then 0 else s_X4_trackOf (s_X0_sectorFor σ (nI (A k)))) else m_tr τ k) ∧ (okL2_X5_runs μ0 p1 (nI r) (m_tr' τ g) FU 0 0 (m_tr' τ g) → okL1_X5_runs μ0 p1 n (nI i) τ)
  | 0, i, τ, _, h, _, _, _ => absurd h (Nat.not_lt_zero _)
  | n + 1, i, τ, hi, hn, hz, hal, ha => by
    by_cases e : i = r
    · subst e
      have et : m_tr' τ (m_tr τ) = τ := rfl
      refine ⟨m_tr τ, ?_, fun k hk => (if_neg (by omega)).symm, fun h => ?_⟩
      · rw [L1_X5_runs, hz, if_pos (Int32.le_refl _), et]
      · rw [et] at h
        rw [okL1_X5_runs, hz]
        exact ⟨fun _ => h, fun h => absurd (Int32.le_refl _) h⟩
    · have hlt : ¬ nI r ≤ nI i := nI_ge (by omega) (by omega)
      have hvi : vp_in (nI i) 30 := vp_in_nI (by omega) (by decide)
      have e1 : m_tr' τ (upd (m_tr τ) (nI i).toNatClampNeg 0) = m_tr' τ (upd (m_tr τ) i 0) := by rw [nI_clamp (by omega)]
      have hRτ : Rb σ (m_al τ) := by rw [hal]; exact hR.1
      obtain ⟨c, hc, s1, s2, hok, -⟩ := sec (μ := τ) hRτ (hA i (by omega))
      have e2 : t1_X5_runs μ0 p1 (nI i) τ = m_tr' τ (upd (m_tr τ) i (s_X4_trackOf (s_X0_sectorFor σ (nI (A i))))) := by
        unfold t1_X5_runs
        rw [nI_clamp (by omega), ha i (by omega), s1, s2, dv12 (by omega), trackO hc]
      have okS : ok_X5_sectorOf τ (m_as τ (nI i).toNatClampNeg) := by rw [nI_clamp (by omega), ha i (by omega)]; exact hok
      have go : ∀ x : Int32, x = (if p1 = 0 then 0 else s_X4_trackOf (s_X0_sectorFor σ (nI (A i)))) → ∃ g : NI, L1_X5_runs μ0 p1 n (nI (i + 1)) (m_tr' τ (upd (m_tr τ) i x)) = L2_X5_runs μ0 p1 (nI r) (m_tr' τ g) FU 0 0 (m_tr' τ g) ∧ (∀ k, k < r → g k = if i ≤ k then (if p1 = 0 then 0 else s_X4_trackOf (s_X0_sectorFor σ (nI (A k)))) else m_tr τ k) ∧ (okL2_X5_runs μ0 p1 (nI r) (m_tr' τ g) FU 0 0 (m_tr' τ g) → okL1_X5_runs μ0 p1 n (nI (i + 1)) (m_tr' τ (upd (m_tr τ) i x))) := by
        intro x hx
        obtain ⟨g, g1, g2, g3⟩ := runL1 hR μ0 p1 hr A hA n (i + 1) (m_tr' τ (upd (m_tr τ) i x)) (by omega) (by omega) hz hal ha
        have eg : m_tr' (m_tr' τ (upd (m_tr τ) i x)) g = m_tr' τ g := rfl
        rw [eg] at g1 g3
        refine ⟨g, g1, fun k hk => ?_, g3⟩
        rw [g2 k hk]
        show (if i + 1 ≤ k then _ else upd (m_tr τ) i x k) = _
        by_cases hki : k = i
        · subst hki
          rw [if_neg (by omega), if_pos (Nat.le_refl _), pk_us, hx]
        · rw [pk_un hki]
          by_cases h2 : i + 1 ≤ k
          · rw [if_pos h2, if_pos (show i ≤ k from by omega)]
          · rw [if_neg h2, if_neg (show ¬ i ≤ k from by omega)]
      by_cases hp : p1 = 0
      · obtain ⟨g, g1, g2, g3⟩ := go 0 (by rw [if_pos hp])
        refine ⟨g, ?_, g2, fun h => ?_⟩
        · rw [L1_X5_runs, hz, if_neg hlt, if_pos hp, nI_1, e1]
          exact g1
        · rw [okL1_X5_runs, hz, nI_1, e1]
          exact ⟨fun h => absurd h hlt, fun _ => ⟨fun _ => ⟨hvi, g3 h⟩, fun h => absurd hp h⟩⟩
      · obtain ⟨g, g1, g2, g3⟩ := go _ (by rw [if_neg hp])
        refine ⟨g, ?_, g2, fun h => ?_⟩
        · rw [L1_X5_runs, hz, if_neg hlt, if_neg hp, nI_1, e2]
          exact g1
        · rw [okL1_X5_runs, hz, nI_1, e2]
          exact ⟨fun h => absurd h hlt, fun _ => ⟨fun h => absurd h hp, fun _ => ⟨hvi, okS, g3 h⟩⟩⟩
/-- one request -/
theorem doneE (hR : Rl σ (m_al μ)) {N : QS} {k a : Nat} (hk : k < 21) (ha : a ≤ 191) (h1 : q_ad N k = nI a) (h2 : m_as μ k = nI a) (h3 : (q_nu N k = -6 ∧ m_nu μ k = -1) ∨ ∃ v, v ≤ 255 ∧ q_nu N k = nI v ∧ m_nu μ k = nI v) :
    Op (s_X3_doOne N σ (nI k)) (s_X5_isDone μ (nI k)) μ ∧ ok_X5_isDone μ (nI k) ∧ ((s_X3_doOne N σ (nI k)).1 = 0 ∨ (s_X3_doOne N σ (nI k)).1 = 1) := by
  have n10 : ¬ (1 : Int32) = 0 := by decide
  have hw : s_X3_isWriting N (nI k) = if q_nu N k = -6 then 0 else 1 := by
    unfold s_X3_isWriting
    rw [at_nI hk (by omega)]
  unfold s_X3_doOne s_X5_isDone ok_X5_isDone t1_X3_doOne t1_X5_isDone
  rw [hw, at_nI (f := q_ad N) hk (by omega), at_nI (f := q_nu N) hk (by omega), nI_clamp (by omega), h1, h2]
  have hvp : vp_in (nI k) 30 := vp_in_nI (by omega) (by decide)
  rcases h3 with ⟨g1, g2⟩ | ⟨v, hv, g1, g2⟩
  · obtain ⟨⟨q1, q2, q3⟩, q4⟩ := dor hR (a := a) (by omega)
    have hm : ¬ (0 : Int32) ≤ m_nu μ k := by rw [g2]; decide
    rw [g1, if_pos rfl, if_pos rfl, if_neg hm]
    refine ⟨?_, ⟨hvp, fun h => absurd h hm, fun _ => q4⟩, ?_⟩
    · by_cases h : 0 ≤ (s_X0_readFrom σ (nI a)).1
      · rw [if_pos h, if_neg (Int32.not_lt.mpr (by rw [← q1]; exact h))]
        exact ⟨rfl, q2, q3⟩
      · rw [if_neg h, if_pos (Int32.not_le.mp (by rw [← q1]; exact h))]
        exact ⟨rfl, q2, q3⟩
    · by_cases h : 0 ≤ (s_X0_readFrom σ (nI a)).1
      · rw [if_pos h]; exact Or.inr rfl
      · rw [if_neg h]; exact Or.inl rfl
  · obtain ⟨⟨q1, q2, q3⟩, q4⟩ := dow hR (a := a) (by omega) (nI v)
    have hm : (0 : Int32) ≤ m_nu μ k := by rw [g2]; exact nI_pos' (by omega)
    have hn6 : ¬ nI v = -6 := n6_ne (by omega)
    rw [g1, if_neg hn6, if_neg n10, if_pos hm, g2]
    refine ⟨?_, ⟨hvp, fun _ => q4, fun h => absurd (by rw [← g2]; exact hm) h⟩, ?_⟩
    · by_cases h : 0 ≤ (s_X0_writeTo σ (nI a) (nI v)).1
      · rw [if_pos h, if_neg (Int32.not_lt.mpr (by rw [← q1]; exact h))]
        exact ⟨rfl, q2, q3⟩
      · rw [if_neg h, if_pos (Int32.not_le.mp (by rw [← q1]; exact h))]
        exact ⟨rfl, q2, q3⟩
    · by_cases h : 0 ≤ (s_X0_writeTo σ (nI a) (nI v)).1
      · rw [if_pos h]; exact Or.inr rfl
      · rw [if_neg h]; exact Or.inl rfl
def Rs (ν : MS) (rc : Int32 × QS × DS) (rm : Int32 × MS) : Prop := rc.1 = rm.1 ∧ Rl rc.2.2 (m_al rm.2) ∧ rm.2.2 = ν.2
theorem innL (ρ : QS) (σ0 : DS) (p2 : Int32) (μ0 : MS) (p1 : Int32) (v12 : Int32) (τ10 : MS) {r : Nat} (hr : r ≤ 21) (ν : MS) (hN : q_sz (s_X3_noteTracks ρ σ0 p2) = nI r) (hM : m_rq ν = nI r) (hT : ∀ k, k < r → q_tr (s_X3_noteTracks ρ σ0 p2) k = m_tr ν k)
    (hA : ∀ k, k < r → ∃ a, a ≤ 191 ∧ q_ad (s_X3_noteTracks ρ σ0 p2) k = nI a ∧ m_as ν k = nI a ∧ ((q_nu (s_X3_noteTracks ρ σ0 p2) k = -6 ∧ m_nu ν k = -1) ∨ ∃ v, v ≤ 255 ∧ q_nu (s_X3_noteTracks ρ σ0 p2) k = nI v ∧ m_nu ν k = nI v))
    (t : Int32) (cv : Int32) (cτ : DS) (mv : Int32) (mτ : MS) (Kc : Int32 → Int32 → DS → Int32 × QS × DS) (okc : Int32 → Int32 → DS → Prop) (Km : Int32 → Int32 → MS → Int32 × MS) (okm : Int32 → Int32 → MS → Prop)
    (hK : ∀ (v : Int32) (τ : DS) (μ1 : MS), Rl τ (m_al μ1) → μ1.2 = ν.2 → Rs ν (Kc v (t + 1) τ) (Km v (t + 1) μ1) ∧ okc v (t + 1) τ ∧ okm v (t + 1) μ1) :
    ∀ (n m j : Nat) (v : Int32) (τ : DS) (μ1 : MS), j ≤ r → r - j < n → r - j < m → Rl τ (m_al μ1) → μ1.2 = ν.2 → Rs ν (L2_X3_doOn ρ σ0 p2 cv t cτ Kc n v (nI j) τ) (L3_X5_runs μ0 p1 v12 τ10 mv t mτ Km m v (nI j) μ1) ∧ okL2_X3_doOn ρ σ0 p2 cv t cτ okc n v (nI j) τ ∧ okL3_X5_runs μ0 p1 v12 τ10 mv t mτ okm m v (nI j) μ1
  | 0, m, j, v, τ, μ1, _, h, _, _, _ => absurd h (Nat.not_lt_zero _)
  | n + 1, 0, j, v, τ, μ1, _, _, h, _, _ => absurd h (Nat.not_lt_zero _)
  | n + 1, m + 1, j, v, τ, μ1, hj, hn, hm, hR, hν => by
    have e1 : m_rq μ1 = nI r := by unfold m_rq; rw [hν]; exact hM
    have e2 : m_tr μ1 = m_tr ν := by unfold m_tr; rw [hν]
    have e3 : m_as μ1 = m_as ν := by unfold m_as; rw [hν]
    have e4 : m_nu μ1 = m_nu ν := by unfold m_nu; rw [hν]
    unfold L2_X3_doOn L3_X5_runs okL2_X3_doOn okL3_X5_runs
    rw [hN, e1]
    by_cases hjr : j = r
    · subst hjr
      rw [if_pos (Int32.le_refl _), if_pos (Int32.le_refl _)]
      obtain ⟨q1, q2, q3⟩ := hK v τ μ1 hR hν
      exact ⟨q1, ⟨fun _ => q2, fun h => absurd (Int32.le_refl _) h⟩, fun _ => q3, fun h => absurd (Int32.le_refl _) h⟩
    · have hlt : ¬ nI r ≤ nI j := nI_ge (by omega) (by omega)
      have hvj : vp_in (nI j) 30 := vp_in_nI (by omega) (by decide)
      rw [if_neg hlt, if_neg hlt, at_nI (show j < 21 from by omega) (by omega), nI_clamp (by omega), e2, hT j (by omega)]
      by_cases ht : m_tr ν j = t
      · obtain ⟨a, ha, a1, a2, a3⟩ := hA j (by omega)
        obtain ⟨⟨d1, d2, d3⟩, d4, d5⟩ := doneE hR (N := s_X3_noteTracks ρ σ0 p2) (k := j) (by omega) ha a1 (by rw [e3]; exact a2) (by rw [e4]; exact a3)
        rw [if_pos ht, if_pos ht, ← d1, nI_1]
        obtain ⟨b1, b2, b3⟩ := innL ρ σ0 p2 μ0 p1 v12 τ10 hr ν hN hM hT hA t cv cτ mv mτ Kc okc Km okm hK n m (j + 1) (v + (s_X3_doOne (s_X3_noteTracks ρ σ0 p2) τ (nI j)).1) (s_X3_doOne (s_X3_noteTracks ρ σ0 p2) τ (nI j)).2 (s_X5_isDone μ1 (nI j)).2 (by omega) (by omega) (by omega) d2 (d3.trans hν)
        rcases d5 with h0 | h0
        · rw [h0] at b1 b2 b3 ⊢
          rw [if_pos rfl]
          exact ⟨b1, ⟨fun h => absurd h hlt, fun _ => ⟨fun _ => b2, fun h => absurd ht h⟩⟩, fun h => absurd h hlt, fun _ => ⟨hvj, fun _ => ⟨d4, fun _ => b3, fun h => absurd rfl h⟩, fun h => absurd ht h⟩⟩
        · rw [h0] at b1 b2 b3 ⊢
          rw [if_neg (show ¬ (1 : Int32) = 0 from by decide)]
          exact ⟨b1, ⟨fun h => absurd h hlt, fun _ => ⟨fun _ => b2, fun h => absurd ht h⟩⟩, fun h => absurd h hlt, fun _ => ⟨hvj, fun _ => ⟨d4, fun h => absurd h (by decide), fun _ => b3⟩, fun h => absurd ht h⟩⟩
      · obtain ⟨b1, b2, b3⟩ := innL ρ σ0 p2 μ0 p1 v12 τ10 hr ν hN hM hT hA t cv cτ mv mτ Kc okc Km okm hK n m (j + 1) v τ μ1 (by omega) (by omega) (by omega) hR hν
        rw [if_neg ht, if_neg ht, nI_1]
        exact ⟨b1, ⟨fun h => absurd h hlt, fun _ => ⟨fun h => absurd h ht, fun _ => b2⟩⟩, fun h => absurd h hlt, fun _ => ⟨hvj, fun h => absurd h ht, fun _ => b3⟩⟩
theorem outL (ρ : QS) (σ0 : DS) (p2 : Int32) (μ0 : MS) (p1 : Int32) (v12 : Int32) (τ10 : MS) {r : Nat} (hr : r ≤ 21) (ν : MS) (hN : q_sz (s_X3_noteTracks ρ σ0 p2) = nI r) (hM : m_rq ν = nI r) (hT : ∀ k, k < r → q_tr (s_X3_noteTracks ρ σ0 p2) k = m_tr ν k)
    (hA : ∀ k, k < r → ∃ a, a ≤ 191 ∧ q_ad (s_X3_noteTracks ρ σ0 p2) k = nI a ∧ m_as ν k = nI a ∧ ((q_nu (s_X3_noteTracks ρ σ0 p2) k = -6 ∧ m_nu ν k = -1) ∨ ∃ v, v ≤ 255 ∧ q_nu (s_X3_noteTracks ρ σ0 p2) k = nI v ∧ m_nu ν k = nI v)) :
    ∀ (n m t : Nat) (v : Int32) (τ : DS) (μ1 : MS), t ≤ 17 → 17 - t < n → 17 - t < m → Rl τ (m_al μ1) → μ1.2 = ν.2 → Rs ν (L1_X3_doOn ρ σ0 p2 n v (nI t) τ) (L2_X5_runs μ0 p1 v12 τ10 m v (nI t) μ1) ∧ okL1_X3_doOn ρ σ0 p2 n v (nI t) τ ∧ okL2_X5_runs μ0 p1 v12 τ10 m v (nI t) μ1
  | 0, m, t, v, τ, μ1, _, h, _, _, _ => absurd h (Nat.not_lt_zero _)
  | n + 1, 0, t, v, τ, μ1, _, _, h, _, _ => absurd h (Nat.not_lt_zero _)
  | n + 1, m + 1, t, v, τ, μ1, ht, hn, hm, hR, hν => by
    unfold L1_X3_doOn L2_X5_runs okL1_X3_doOn okL2_X5_runs
    by_cases ht17 : t = 17
    · subst ht17
      have h16 : (16 : Int32) < nI 17 := by decide
      rw [if_pos h16, if_pos h16]
      exact ⟨⟨rfl, hR, hν⟩, ⟨fun _ => trivial, fun h => absurd h16 h⟩, fun _ => trivial, fun h => absurd h16 h⟩
    · have h16 : ¬ (16 : Int32) < nI t := nI_nlt (a := 16) (by omega) (by omega)
      rw [if_neg h16, if_neg h16]
      obtain ⟨q1, q2, q3⟩ := innL ρ σ0 p2 μ0 p1 v12 τ10 hr ν hN hM hT hA (nI t) v τ v μ1 (fun a b c => L1_X3_doOn ρ σ0 p2 n a b c) (fun a b c => okL1_X3_doOn ρ σ0 p2 n a b c) (fun a b c => L2_X5_runs μ0 p1 v12 τ10 m a b c) (fun a b c => okL2_X5_runs μ0 p1 v12 τ10 m a b c) (fun v2 τ2 μ2 hR2 hν2 => by
        rw [nI_1]
        exact outL ρ σ0 p2 μ0 p1 v12 τ10 hr ν hN hM hT hA n m (t + 1) v2 τ2 μ2 (by omega) (by omega) (by omega) hR2 hν2) FU FU 0 v τ μ1 (by omega) (fuel (by omega)) (fuel (by omega)) hR hν
      rw [nI_0] at q1 q2 q3
      exact ⟨q1, ⟨fun h => absurd h h16, fun _ => q2⟩, fun h => absurd h h16, fun _ => q3⟩
/-- all requests -/
theorem runs_ok (hR : Rl σ (m_al μ)) {τ0 : QS} (hQ : RqI τ0 μ) (p : Int32) : ∃ g : NI, Rs (m_tr' μ g) (s_X3_doOn τ0 σ p) (s_X5_runs μ p) ∧ ok_X3_doOn τ0 σ p ∧ ok_X5_runs μ p := by
  obtain ⟨r, hr, hz, hm, hk⟩ := hQ
  obtain ⟨A, hA⟩ : ∃ A : Nat → Nat, ∀ k, k < r → A k < 192 ∧ q_ad τ0 k = nI (A k) ∧ m_as μ k = nI (A k) := by
    refine ⟨fun k => if h : k < r then (hk k h).choose else 0, fun k h => ?_⟩
    have hs := (hk k h).choose_spec
    dsimp only
    rw [dif_pos h]
    exact ⟨by omega, hs.2.1, hs.2.2.1⟩
  obtain ⟨g, g1, g2, g3⟩ := noteL (σ := σ) τ0 p hr A (fun k h => (hA k h).1) FU 0 τ0 (by omega) (fuel (by omega)) hz (fun k h => (hA k h).2.1)
  obtain ⟨g', f1, f2, f3⟩ := runL1 hR μ p hr A (fun k h => (hA k h).1) FU 0 μ (by omega) (fuel (by omega)) hm rfl (fun k h => (hA k h).2.2)
  rw [nI_0] at g1 g3 f1 f3
  have en : s_X3_noteTracks τ0 σ p = q_tr' τ0 g := g1
  have hA2 : ∀ k, k < r → ∃ a, a ≤ 191 ∧ q_ad (s_X3_noteTracks τ0 σ p) k = nI a ∧ m_as (m_tr' μ g') k = nI a ∧ ((q_nu (s_X3_noteTracks τ0 σ p) k = -6 ∧ m_nu (m_tr' μ g') k = -1) ∨ ∃ v, v ≤ 255 ∧ q_nu (s_X3_noteTracks τ0 σ p) k = nI v ∧ m_nu (m_tr' μ g') k = nI v) := by
    rw [en]
    exact hk
  obtain ⟨q1, q2, q3⟩ := outL τ0 σ p μ p (nI r) (m_tr' μ g') hr (m_tr' μ g') (by rw [en]; exact hz) hm (fun k hkr => by
    rw [en]
    show g k = g' k
    rw [g2 k hkr, f2 k hkr, if_pos (Nat.zero_le _), if_pos (Nat.zero_le _)]) hA2 FU FU 0 0 σ (m_tr' μ g') (by omega) (fuel (by omega)) (fuel (by omega)) hR rfl
  rw [nI_0] at q1 q2 q3
  refine ⟨g', ?_, ⟨g3, q2⟩, f3 q3⟩
  have e5 : s_X5_runs μ p = L2_X5_runs μ p (nI r) (m_tr' μ g') FU 0 0 (m_tr' μ g') := f1
  rw [e5]
  exact q1
theorem back_gen {μ1 : MS} (hR : Rl σ (m_al μ)) (hk : ∀ k, k < 816 → m_ke μ1 k = m_al μ k) (hs : Fs μ μ1) (hh : Fh μ μ1) (a : Int32) : NC σ μ a (a, s_X5_comesBack μ1) ∧ ok_X5_comesBack μ1 := by
  obtain ⟨b, f1, f2, f3⟩ := back_ok μ1
  refine ⟨⟨rfl, ?_, ?_, ?_⟩, f3⟩
  · rw [f1]; exact hs.tr ⟨rfl, rfl, rfl, rfl⟩
  · rw [f1]; exact hh.tr ⟨rfl, rfl⟩
  · rw [f1]
    refine Rl_ext hR (fun k hk2 => ?_)
    show b k = _
    rw [f2 k hk2, hk k hk2]
/-- from the reading on: the state is kept, the requests are done -/
theorem kept_runs (hR : Rl σ (m_al μ)) {μf : MS} (hF : Fm μ μf) {τ0 : QS} (hQ : RqI τ0 μf) (p : Int32) : (s_X3_doOn τ0 σ p).1 = (s_X5_runs (s_X5_keeps μf) p).1 ∧ Rl (s_X3_doOn τ0 σ p).2.2 (m_al (s_X5_runs (s_X5_keeps μf) p).2) ∧ (∀ k, k < 816 → m_ke (s_X5_runs (s_X5_keeps μf) p).2 k = m_al μ k) ∧ Fs μ (s_X5_runs (s_X5_keeps μf) p).2 ∧ Fh μ (s_X5_runs (s_X5_keeps μf) p).2 ∧ ok_X3_doOn τ0 σ p ∧ ok_X5_runs (s_X5_keeps μf) p ∧ ok_X5_keeps μf ∧ m_al (s_X5_keeps μf) = m_al μ := by
  obtain ⟨f1, f2, f3⟩ := hF
  obtain ⟨kg, e1, e2, e3⟩ := keeps_ok μf
  have hRk : Rl σ (m_al (s_X5_keeps μf)) := by rw [e1]; show Rl σ (m_al μf); rw [f1]; exact hR
  have hQk : RqI τ0 (s_X5_keeps μf) := by rw [e1]; exact hQ
  obtain ⟨g, ⟨q1, q2, q3⟩, q4, q5⟩ := runs_ok hRk hQk p
  rw [e1] at q3
  have h2 : (s_X5_runs (s_X5_keeps μf) p).2.2 = (m_tr' (m_ke' μf kg) g).2 := by rw [e1]; exact q3
  refine ⟨q1, q2, fun k hk => ?_, (f2.tr (μ1 := μf) (μ2 := m_tr' (m_ke' μf kg) g) ⟨rfl, rfl, rfl, rfl⟩).tr (Fs.of h2), (f3.tr (μ1 := μf) (μ2 := m_tr' (m_ke' μf kg) g) ⟨rfl, rfl⟩).tr (Fh.of h2), q4, q5, e3, by rw [keeps_al, f1]⟩
  have : m_ke (s_X5_runs (s_X5_keeps μf) p).2 = kg := by unfold m_ke; rw [h2]; rfl
  rw [this, e2 k hk, f1]
theorem p_ifRun (hR : Rl σ (m_al μ)) {ϖ : PS} (hP : PI ϖ μ) (ρ : QS) (τ : DS) (hs : HS) (p : Int32) : NC σ μ (s_X4_ifRun ρ ϖ σ τ hs p).1 (s_X5_ifRun μ p) ∧ ok_X5_ifRun μ p ∧ ok_X4_ifRun ρ ϖ σ τ hs p := by
  obtain ⟨ans, μf, τ0, e1, e2, e3, e4, hF, hQ⟩ := prs hP ρ
  unfold s_X4_ifRun s_X5_ifRun ok_X5_ifRun ok_X4_ifRun t1_X5_ifRun t2_X4_ifRun
  rw [e1, e2, fresh_id]
  by_cases ha : ans = -6
  · obtain ⟨q1, q2, q3, q4, q5, q6, q7, q8, q9⟩ := kept_runs hR hF (hQ ha) p
    obtain ⟨b1, b2⟩ := back_gen hR q3 q4 q5 (d_tk (s_X3_doOn τ0 σ p).2.2 - d_tk σ)
    dsimp only
    rw [if_pos ha, if_pos ha, k5, q9, hR.1.2.1.1, q2.1.2.1.1]
    exact ⟨b1, ⟨e4, fun _ => ⟨q8, q7, b2⟩, fun h => absurd ha h⟩, e3, fun _ => q6, fun h => absurd ha h⟩
  · dsimp only
    rw [if_neg ha, if_neg ha]
    exact ⟨⟨rfl, hF.2.1, hF.2.2, by show Rl σ (m_al μf); rw [hF.1]; exact hR⟩, ⟨e4, fun h => absurd h ha, fun _ => trivial⟩, e3, fun h => absurd h ha, fun _ => trivial⟩
theorem p_run {α : Nat → Nat} {R : Nat → Option XD} {o n : Nat} (hR : Rl σ (m_al μ)) (hH : HI R o n μ) {ϖ : PS} (hP : PI ϖ μ) (ρ : QS) (τ : DS) (hs : HS) (p : Int32) :
    (s_X5_run μ p).1 = (s_X4_run ρ ϖ σ τ hs p).1 ∧ PI (s_X4_run ρ ϖ σ τ hs p).2.2.1 (s_X5_run μ p).2 ∧ m_sl (s_X5_run μ p).2 = m_sl μ ∧ m_sv (s_X5_run μ p).2 = m_sv μ ∧ ((s_X4_run ρ ϖ σ τ hs p).1 < 0 → Rl σ (m_al (s_X5_run μ p).2) ∧ HI R o n (s_X5_run μ p).2) ∧ (¬ (s_X4_run ρ ϖ σ τ hs p).1 < 0 → Rl (s_X4_run ρ ϖ σ τ hs p).2.2.2 (m_al (s_X5_run μ p).2) ∧ HI (va_up R ((o + n) % 6) (some (α, σ))) (kO o n) (kN n) (s_X5_run μ p).2) ∧ ok_X5_run μ p ∧ ok_X4_run ρ ϖ σ τ hs p := by
  obtain ⟨ans, μf, τ0, e1, e2, e3, e4, hF, hQ⟩ := prs hP ρ
  unfold s_X4_run s_X5_run ok_X5_run ok_X4_run t1_X5_run t2_X4_run
  rw [e1, e2, fresh_id]
  by_cases ha : ans = -6
  · obtain ⟨q1, q2, q3, q4, q5, q6, q7, q8, q9⟩ := kept_runs hR hF (hQ ha) p
    obtain ⟨d1, d2, d3, d4, d5⟩ := ends_ok α (s_X5_runs (s_X5_keeps μf) p).1 q3 q4 q5 hH hR q2
    dsimp only
    rw [if_pos ha, if_pos ha]
    dsimp only
    rw [q1]
    refine ⟨d1, ⟨0, by omega, (cl_le _).trans nI_0.symm, (tl_tl _ _).trans nI_0.symm, fun j hj => absurd hj (Nat.not_lt_zero _)⟩, (tl_sl _ _).trans d3.1, (tl_sv _ _).trans d3.2.1, fun h => ?_, fun h => ?_, ⟨e4, fun _ => ⟨q8, q7, d2⟩, fun h => absurd ha h⟩, e3, fun _ => q6, fun h => absurd ha h⟩
    · obtain ⟨h1, h2⟩ := d4 h
      rw [tl_al]
      exact ⟨h1, h2.mv ⟨tl_hl _ _, tl_hi _ _⟩⟩
    · obtain ⟨h1, h2⟩ := d5 h
      rw [tl_al]
      exact ⟨h1, h2.mv ⟨tl_hl _ _, tl_hi _ _⟩⟩
  · dsimp only
    rw [if_neg ha, if_neg ha]
    refine ⟨rfl, hP.mv hF.2.1, hF.2.1.1, hF.2.1.2.1, fun _ => ⟨by show Rl σ (m_al μf); rw [hF.1]; exact hR, hH.mv hF.2.2⟩, fun h => absurd n3 h, ⟨e4, fun h => absurd h ha, fun _ => trivial⟩, e3, fun h => absurd h ha, fun _ => trivial⟩
end RUN
