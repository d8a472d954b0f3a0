/-! what there is: sums, counts, the greatest blur, the worst address -/
section RDS
variable {σ : DS} {μ : MS}
theorem le12 {i : Nat} (h : i < 12) : ¬ (12 : Int32) ≤ nI i := nI_ge (b := 12) h (by omega)
theorem le16 {i : Nat} (h : i < 16) : ¬ (16 : Int32) ≤ nI i := nI_ge (b := 16) h (by omega)
theorem le192 {i : Nat} (h : i < 192) : ¬ (192 : Int32) ≤ nI i := nI_ge (b := 192) h (by omega)
theorem sumTL (g : NI) {t : Nat} (ht : t < 17) : ∀ (n i : Nat) (acc : Int32), i ≤ 12 → 12 - i < n → acc = sumN (fun k => g (12 * t + k)) i → L1_X0_sumOnTrack g (nI t) n acc (nI i) = tsum g t ∧ okL1_X0_sumOnTrack g (nI t) n acc (nI i)
  | 0, i, acc, h1, h2, _ => absurd h2 (Nat.not_lt_zero _)
  | n + 1, i, acc, h1, h2, ha => by
    unfold L1_X0_sumOnTrack okL1_X0_sumOnTrack
    by_cases hi : i = 12
    · subst hi
      rw [if_pos (show (12 : Int32) ≤ nI 12 from Int32.le_refl _)]
      exact ⟨ha, fun _ => trivial, fun h => absurd (Int32.le_refl _) h⟩
    · have hn := le12 (i := i) (by omega)
      have e : nI t * 12 + nI i = nI (12 * t + i) := by rw [show (12 : Int32) = nI 12 from rfl, pk_mul, nI_add, Nat.mul_comm]
      rw [if_neg hn, e, at_nI (by omega) (by omega), nI_1]
      obtain ⟨q1, q2⟩ := sumTL g ht n (i + 1) (acc + g (12 * t + i)) (by omega) (by omega) (by rw [ha]; rfl)
      exact ⟨q1, fun h => absurd h hn, fun _ => q2⟩
theorem sumT (g : NI) {t : Nat} (ht : t < 17) : s_X0_sumOnTrack g (nI t) = tsum g t ∧ ok_X0_sumOnTrack g (nI t) := by
  have h := sumTL g ht FU 0 0 (by omega) (fuel (by omega)) rfl
  rw [nI_0] at h
  exact h
theorem sumML (μ : MS) {g : NI} {w t : Nat} (hw : w + 204 ≤ 816) (hg : ∀ c, c < 204 → m_al μ (w + c) = g c) (ht : t < 17) : ∀ (n i : Nat) (acc : Int32), i ≤ 12 → 12 - i < n → acc = sumN (fun k => g (12 * t + k)) i → L1_X5_sumOn μ (nI t) (nI w) n acc (nI i) = tsum g t ∧ okL1_X5_sumOn μ (nI t) (nI w) n acc (nI i)
  | 0, i, acc, h1, h2, _ => absurd h2 (Nat.not_lt_zero _)
  | n + 1, i, acc, h1, h2, ha => by
    unfold L1_X5_sumOn okL1_X5_sumOn
    by_cases hi : i = 12
    · subst hi
      rw [if_pos (show (12 : Int32) ≤ nI 12 from Int32.le_refl _)]
      exact ⟨ha, fun _ => trivial, fun h => absurd (Int32.le_refl _) h⟩
    · have hn := le12 (i := i) (by omega)
      have e : nI w + 12 * nI t + nI i = nI (w + (12 * t + i)) := by
        rw [show (12 : Int32) = nI 12 from rfl, pk_mul, nI_add, nI_add, Nat.add_assoc]
      rw [if_neg hn, e, nI_clamp (by omega), hg _ (by omega), nI_1]
      obtain ⟨q1, q2⟩ := sumML μ hw hg ht n (i + 1) (acc + g (12 * t + i)) (by omega) (by omega) (by rw [ha]; rfl)
      exact ⟨q1, fun h => absurd h hn, fun _ => ⟨vp_in_nI (by omega) (by decide), q2⟩⟩
theorem sumM (μ : MS) {g : NI} {w t : Nat} (hw : w + 204 ≤ 816) (hg : ∀ c, c < 204 → m_al μ (w + c) = g c) (ht : t < 17) : s_X5_sumOn μ (nI t) (nI w) = tsum g t ∧ ok_X5_sumOn μ (nI t) (nI w) := by
  have h := sumML μ hw hg ht FU 0 0 (by omega) (fuel (by omega)) rfl
  rw [nI_0] at h
  exact h
theorem wotL (σ : DS) (p s : Nat) (hs : s = 1 ∨ s = 2) : ∀ (n i : Nat) (acc : Int32), i ≤ 16 → 16 - i < n → acc = sumN (fun t => if t % s = p then tsum (d_wr σ) t else 0) i → p < 2 → L1_X0_writingsOnTracks σ (nI p) (nI s) n acc (nI i) = sumN (fun t => if t % s = p then tsum (d_wr σ) t else 0) 16 ∧ okL1_X0_writingsOnTracks σ (nI p) (nI s) n acc (nI i)
  | 0, i, acc, h1, h2, _, _ => absurd h2 (Nat.not_lt_zero _)
  | n + 1, i, acc, h1, h2, ha, hp => by
    unfold L1_X0_writingsOnTracks okL1_X0_writingsOnTracks
    by_cases hi : i = 16
    · subst hi
      rw [if_pos (show (16 : Int32) ≤ nI 16 from Int32.le_refl _)]
      exact ⟨ha, fun _ => trivial, fun h => absurd (Int32.le_refl _) h⟩
    · have hn := le16 (i := i) (by omega)
      have hs0 : ¬ nI s ≤ 0 := nI_nle (by omega) (by omega)
      have er : jrem (nI i) (nI s) = nI (i % s) := pk_rem (by omega) (by omega) (by omega)
      obtain ⟨t1, t2⟩ := sumT (d_wr σ) (t := i) (by omega)
      have e1 : s_X0_writingsOnTrack σ (nI i) = tsum (d_wr σ) i := t1
      rw [if_neg hn, if_neg hs0, er, e1, nI_1]
      by_cases hc : i % s = p
      · obtain ⟨q1, q2⟩ := wotL σ p s hs n (i + 1) (acc + tsum (d_wr σ) i) (by omega) (by omega) (by rw [ha]; show _ = sumN _ i + (if i % s = p then tsum (d_wr σ) i else 0); rw [if_pos hc]) hp
        rw [hc, if_pos rfl]
        exact ⟨q1, fun h => absurd h hn, fun _ => ⟨fun h => absurd h hs0, fun _ => ⟨fun _ => ⟨t2, q2⟩, fun h => absurd rfl h⟩⟩⟩
      · obtain ⟨q1, q2⟩ := wotL σ p s hs n (i + 1) acc (by omega) (by omega) (by rw [ha]; show _ = sumN _ i + (if i % s = p then tsum (d_wr σ) i else 0); rw [if_neg hc, Int32.add_zero]) hp
        have hne : ¬ nI (i % s) = nI p := fun h => hc (nI_inj (by have := Nat.mod_le i s; omega) (by omega) h)
        rw [if_neg hne]
        exact ⟨q1, fun h => absurd h hn, fun _ => ⟨fun h => absurd h hs0, fun _ => ⟨fun h => absurd h hne, fun _ => q2⟩⟩⟩
theorem wot (σ : DS) (p s : Nat) (hs : s = 1 ∨ s = 2) (hp : p < 2) : s_X0_writingsOnTracks σ (nI p) (nI s) = sumN (fun t => if t % s = p then tsum (d_wr σ) t else 0) 16 ∧ ok_X0_writingsOnTracks σ (nI p) (nI s) := by
  have h := wotL σ p s hs FU 0 0 (by omega) (fuel (by omega)) rfl hp
  rw [nI_0] at h
  exact h
/-- the addresses on tracks that hold something; those of them that cannot be read -/
def Wi (p1 p2 q : Int32) : Prop := ∀ c, c < 204 → ((q = -6 ∨ nI c / 12 = q) ↔ ¬ s_X0_isWithin (nI c) p1 p2 = 0)
theorem filL (hR : Rb σ (m_al μ)) {p1 p2 q : Int32} (hw : Wi p1 p2 q) : ∀ (n i : Nat) (acc : Int32), i ≤ 192 → 192 - i < n → L1_X0_filledOn σ p1 p2 n acc (nI i) = L1_X5_addresses μ q 0 n acc (nI i) ∧ okL1_X0_filledOn σ p1 p2 n acc (nI i) ∧ okL1_X5_addresses μ q 0 n acc (nI i)
  | 0, i, acc, h1, h2 => absurd h2 (Nat.not_lt_zero _)
  | n + 1, i, acc, h1, h2 => by
    unfold L1_X0_filledOn okL1_X0_filledOn L1_X5_addresses okL1_X5_addresses
    by_cases hi : i = 192
    · subst hi
      rw [if_pos (show (192 : Int32) ≤ nI 192 from Int32.le_refl _), if_pos (show (192 : Int32) ≤ nI 192 from Int32.le_refl _)]
      exact ⟨rfl, ⟨fun _ => trivial, fun h => absurd (Int32.le_refl _) h⟩, fun _ => trivial, fun h => absurd (Int32.le_refl _) h⟩
    · have hn := le192 (i := i) (by omega)
      obtain ⟨c, hc, e1, e2, hok, -⟩ := sec hR (a := i) (by omega)
      obtain ⟨hh, hhok⟩ := hol hR (a := i) (by omega)
      obtain ⟨hcn, hcok⟩ := can hR (a := i) (by omega)
      obtain ⟨a1, a2, a3⟩ := filL hR hw n (i + 1) acc (by omega) (by omega)
      obtain ⟨b1, b2, b3⟩ := filL hR hw n (i + 1) (acc + 1) (by omega) (by omega)
      rw [if_neg hn, if_neg hn, hh, e1, e2, nI_1, Int32.add_zero]
      have n00 : ¬ ¬ (0 : Int32) = 0 := fun h => h rfl
      by_cases h3 : s_X0_isWithin (nI c) p1 p2 = 0
      · have hq : ¬ (q = -6 ∨ nI c / 12 = q) := fun h => (hw c hc).mp h h3
        rw [if_pos h3]
        by_cases h4 : s_X0_holdsNumber σ (nI c) = 0
        · rw [if_pos h4]
          exact ⟨a1, ⟨fun h => absurd h hn, fun _ => ⟨fun _ => a2, fun h => absurd h3 h⟩⟩, fun h => absurd h hn, fun _ => ⟨hhok, fun _ => a3, fun h => absurd h4 h⟩⟩
        · rw [if_neg h4, if_neg (fun h => hq (Or.inl h)), if_neg (fun h => hq (Or.inr h))]
          exact ⟨a1, ⟨fun h => absurd h hn, fun _ => ⟨fun _ => a2, fun h => absurd h3 h⟩⟩, fun h => absurd h hn, fun _ => ⟨hhok, fun h => absurd h h4, fun _ => ⟨fun h => absurd (Or.inl h) hq, fun _ => ⟨hok, fun h => absurd (Or.inr h) hq, fun _ => a3⟩⟩⟩⟩
      · have hq := (hw c hc).mpr h3
        rw [if_neg h3]
        by_cases h4 : s_X0_holdsNumber σ (nI c) = 0
        · rw [if_pos h4, if_pos h4]
          exact ⟨a1, ⟨fun h => absurd h hn, fun _ => ⟨fun h => absurd h h3, fun _ => ⟨fun _ => a2, fun h => absurd h4 h⟩⟩⟩, fun h => absurd h hn, fun _ => ⟨hhok, fun _ => a3, fun h => absurd h4 h⟩⟩
        · rw [if_neg h4, if_neg h4, if_pos rfl]
          have o2 : (192 ≤ nI i → True) ∧ (¬ 192 ≤ nI i → ((s_X0_isWithin (nI c) p1 p2 = 0 → okL1_X0_filledOn σ p1 p2 n acc (nI (i + 1))) ∧ (¬ s_X0_isWithin (nI c) p1 p2 = 0 → ((s_X0_holdsNumber σ (nI c) = 0 → okL1_X0_filledOn σ p1 p2 n acc (nI (i + 1))) ∧ (¬ s_X0_holdsNumber σ (nI c) = 0 → okL1_X0_filledOn σ p1 p2 n (acc + 1) (nI (i + 1))))))) := ⟨fun h => absurd h hn, fun _ => ⟨fun h => absurd h h3, fun _ => ⟨fun h => absurd h h4, fun _ => b2⟩⟩⟩
          by_cases h6 : q = -6
          · rw [if_pos h6]
            exact ⟨b1, o2, fun h => absurd h hn, fun _ => ⟨hhok, fun h => absurd h h4, fun _ => ⟨fun _ => ⟨fun _ => b3, fun h => absurd rfl h⟩, fun h => absurd h6 h⟩⟩⟩
          · have h7 := hq.resolve_left h6
            rw [if_neg h6, if_pos h7]
            exact ⟨b1, o2, fun h => absurd h hn, fun _ => ⟨hhok, fun h => absurd h h4, fun _ => ⟨fun h => absurd h h6, fun _ => ⟨hok, fun _ => ⟨fun _ => b3, fun h => absurd rfl h⟩, fun h => absurd h7 h⟩⟩⟩⟩
theorem unrL (hR : Rb σ (m_al μ)) {p1 p2 q : Int32} (hw : Wi p1 p2 q) : ∀ (n i : Nat) (acc : Int32), i ≤ 192 → 192 - i < n → L1_X0_unreadableOn σ p1 p2 n acc (nI i) = L1_X5_addresses μ q 1 n acc (nI i) ∧ okL1_X0_unreadableOn σ p1 p2 n acc (nI i) ∧ okL1_X5_addresses μ q 1 n acc (nI i)
  | 0, i, acc, h1, h2 => absurd h2 (Nat.not_lt_zero _)
  | n + 1, i, acc, h1, h2 => by
    unfold L1_X0_unreadableOn okL1_X0_unreadableOn L1_X5_addresses okL1_X5_addresses
    by_cases hi : i = 192
    · subst hi
      rw [if_pos (show (192 : Int32) ≤ nI 192 from Int32.le_refl _), if_pos (show (192 : Int32) ≤ nI 192 from Int32.le_refl _)]
      exact ⟨rfl, ⟨fun _ => trivial, fun h => absurd (Int32.le_refl _) h⟩, fun _ => trivial, fun h => absurd (Int32.le_refl _) h⟩
    · have hn := le192 (i := i) (by omega)
      obtain ⟨c, hc, e1, e2, hok, -⟩ := sec hR (a := i) (by omega)
      obtain ⟨hh, hhok⟩ := hol hR (a := i) (by omega)
      obtain ⟨hcn, hcok⟩ := can hR (a := i) (by omega)
      obtain ⟨a1, a2, a3⟩ := unrL hR hw n (i + 1) acc (by omega) (by omega)
      obtain ⟨b1, b2, b3⟩ := unrL hR hw n (i + 1) (acc + 1) (by omega) (by omega)
      rw [if_neg hn, if_neg hn, hh, hcn, e1, e2, nI_1, Int32.add_zero]
      have n10 : ¬ (1 : Int32) = 0 := by decide
      by_cases h3 : s_X0_isWithin (nI c) p1 p2 = 0
      · have hq : ¬ (q = -6 ∨ nI c / 12 = q) := fun h => (hw c hc).mp h h3
        rw [if_pos h3]
        by_cases h4 : s_X0_holdsNumber σ (nI c) = 0
        · rw [if_pos h4]
          exact ⟨a1, ⟨fun h => absurd h hn, fun _ => ⟨fun _ => a2, fun h => absurd h3 h⟩⟩, fun h => absurd h hn, fun _ => ⟨hhok, fun _ => a3, fun h => absurd h4 h⟩⟩
        · rw [if_neg h4, if_neg (fun h => hq (Or.inl h)), if_neg (fun h => hq (Or.inr h))]
          exact ⟨a1, ⟨fun h => absurd h hn, fun _ => ⟨fun _ => a2, fun h => absurd h3 h⟩⟩, fun h => absurd h hn, fun _ => ⟨hhok, fun h => absurd h h4, fun _ => ⟨fun h => absurd (Or.inl h) hq, fun _ => ⟨hok, fun h => absurd (Or.inr h) hq, fun _ => a3⟩⟩⟩⟩
      · have hq := (hw c hc).mpr h3
        rw [if_neg h3]
        by_cases h4 : s_X0_holdsNumber σ (nI c) = 0
        · rw [if_pos h4, if_pos h4]
          exact ⟨a1, ⟨fun h => absurd h hn, fun _ => ⟨fun h => absurd h h3, fun _ => ⟨fun _ => a2, fun h => absurd h4 h⟩⟩⟩, fun h => absurd h hn, fun _ => ⟨hhok, fun _ => a3, fun h => absurd h4 h⟩⟩
        · rw [if_neg h4, if_neg h4]
          by_cases h5 : s_X0_isReadable σ (nI c) = 0
          · rw [if_pos h5, if_pos h5, if_neg n10]
            have o2 : (192 ≤ nI i → True) ∧ (¬ 192 ≤ nI i → ((s_X0_isWithin (nI c) p1 p2 = 0 → okL1_X0_unreadableOn σ p1 p2 n acc (nI (i + 1))) ∧ (¬ s_X0_isWithin (nI c) p1 p2 = 0 → ((s_X0_holdsNumber σ (nI c) = 0 → okL1_X0_unreadableOn σ p1 p2 n acc (nI (i + 1))) ∧ (¬ s_X0_holdsNumber σ (nI c) = 0 → ((s_X0_isReadable σ (nI c) = 0 → okL1_X0_unreadableOn σ p1 p2 n (acc + 1) (nI (i + 1))) ∧ (¬ s_X0_isReadable σ (nI c) = 0 → okL1_X0_unreadableOn σ p1 p2 n acc (nI (i + 1))))))))) := ⟨fun h => absurd h hn, fun _ => ⟨fun h => absurd h h3, fun _ => ⟨fun h => absurd h h4, fun _ => ⟨fun _ => b2, fun h => absurd h5 h⟩⟩⟩⟩
            by_cases h6 : q = -6
            · rw [if_pos h6]
              exact ⟨b1, o2, fun h => absurd h hn, fun _ => ⟨hhok, fun h => absurd h h4, fun _ => ⟨fun _ => ⟨fun h => absurd h n10, fun _ => ⟨hcok, fun _ => b3, fun h => absurd h5 h⟩⟩, fun h => absurd h6 h⟩⟩⟩
            · have h7 := hq.resolve_left h6
              rw [if_neg h6, if_pos h7]
              exact ⟨b1, o2, fun h => absurd h hn, fun _ => ⟨hhok, fun h => absurd h h4, fun _ => ⟨fun h => absurd h h6, fun _ => ⟨hok, fun _ => ⟨fun h => absurd h n10, fun _ => ⟨hcok, fun _ => b3, fun h => absurd h5 h⟩⟩, fun h => absurd h7 h⟩⟩⟩⟩
          · rw [if_neg h5, if_neg h5, if_neg n10]
            have o2 : (192 ≤ nI i → True) ∧ (¬ 192 ≤ nI i → ((s_X0_isWithin (nI c) p1 p2 = 0 → okL1_X0_unreadableOn σ p1 p2 n acc (nI (i + 1))) ∧ (¬ s_X0_isWithin (nI c) p1 p2 = 0 → ((s_X0_holdsNumber σ (nI c) = 0 → okL1_X0_unreadableOn σ p1 p2 n acc (nI (i + 1))) ∧ (¬ s_X0_holdsNumber σ (nI c) = 0 → ((s_X0_isReadable σ (nI c) = 0 → okL1_X0_unreadableOn σ p1 p2 n (acc + 1) (nI (i + 1))) ∧ (¬ s_X0_isReadable σ (nI c) = 0 → okL1_X0_unreadableOn σ p1 p2 n acc (nI (i + 1))))))))) := ⟨fun h => absurd h hn, fun _ => ⟨fun h => absurd h h3, fun _ => ⟨fun h => absurd h h4, fun _ => ⟨fun h => absurd h h5, fun _ => a2⟩⟩⟩⟩
            by_cases h6 : q = -6
            · rw [if_pos h6]
              exact ⟨a1, o2, fun h => absurd h hn, fun _ => ⟨hhok, fun h => absurd h h4, fun _ => ⟨fun _ => ⟨fun h => absurd h n10, fun _ => ⟨hcok, fun h => absurd h h5, fun _ => a3⟩⟩, fun h => absurd h6 h⟩⟩⟩
            · have h7 := hq.resolve_left h6
              rw [if_neg h6, if_pos h7]
              exact ⟨a1, o2, fun h => absurd h hn, fun _ => ⟨hhok, fun h => absurd h h4, fun _ => ⟨fun h => absurd h h6, fun _ => ⟨hok, fun _ => ⟨fun h => absurd h n10, fun _ => ⟨hcok, fun h => absurd h h5, fun _ => a3⟩⟩, fun h => absurd h7 h⟩⟩⟩⟩
theorem Wi_t {t : Nat} (ht : t < 17) : Wi (nI t) (nI t) (nI t) := by
  intro c hc
  unfold s_X0_isWithin
  rw [trackO hc, dv12 (by omega)]
  have hn6 : ¬ nI t = -6 := n6_ne (by omega)
  rcases Nat.lt_trichotomy (c / 12) t with h | h | h
  · rw [if_pos (nI_lt h (by omega))]
    exact ⟨fun q => q.elim (fun x => absurd x hn6) (fun x => absurd (nI_inj (by omega) (by omega) x) (by omega)), fun q => absurd rfl q⟩
  · rw [h, if_neg (nI_nlt (by omega) (by omega)), if_neg (nI_nlt (by omega) (by omega))]
    exact ⟨fun _ => by decide, fun _ => Or.inr rfl⟩
  · rw [if_neg (nI_nlt (by omega) (by omega)), if_pos (nI_lt h (by omega))]
    exact ⟨fun q => q.elim (fun x => absurd x hn6) (fun x => absurd (nI_inj (by omega) (by omega) x) (by omega)), fun q => absurd rfl q⟩
theorem Wi_a : Wi 0 16 (-6) := by
  intro c hc
  unfold s_X0_isWithin
  rw [trackO hc, if_neg (nI_pos (by omega)), if_neg (show ¬ (16 : Int32) < nI (c / 12) from nI_nlt (a := 16) (by omega) (by omega))]
  exact ⟨fun _ => by decide, fun _ => Or.inl rfl⟩
theorem fil (hR : Rb σ (m_al μ)) {p1 p2 q : Int32} (hw : Wi p1 p2 q) : s_X0_filledOn σ p1 p2 = s_X5_addresses μ q 0 ∧ ok_X0_filledOn σ p1 p2 ∧ ok_X5_addresses μ q 0 := by
  have h := filL hR hw FU 0 0 (by omega) (fuel (by omega))
  rw [nI_0] at h
  exact h
theorem unr (hR : Rb σ (m_al μ)) {p1 p2 q : Int32} (hw : Wi p1 p2 q) : s_X0_unreadableOn σ p1 p2 = s_X5_addresses μ q 1 ∧ ok_X0_unreadableOn σ p1 p2 ∧ ok_X5_addresses μ q 1 := by
  have h := unrL hR hw FU 0 0 (by omega) (fuel (by omega))
  rw [nI_0] at h
  exact h
theorem greL (hR : Rb σ (m_al μ)) : ∀ (n i : Nat) (acc : Int32), i ≤ 192 → 192 - i < n → L1_X0_greatestBlur σ n acc (nI i) = L1_X5_greatestBlur μ n acc (nI i) ∧ okL1_X0_greatestBlur σ n acc (nI i) ∧ okL1_X5_greatestBlur μ n acc (nI i)
  | 0, i, acc, h1, h2 => absurd h2 (Nat.not_lt_zero _)
  | n + 1, i, acc, h1, h2 => by
    unfold L1_X0_greatestBlur okL1_X0_greatestBlur L1_X5_greatestBlur okL1_X5_greatestBlur
    by_cases hi : i = 192
    · subst hi
      rw [if_pos (show (192 : Int32) ≤ nI 192 from Int32.le_refl _), if_pos (show (192 : Int32) ≤ nI 192 from Int32.le_refl _)]
      exact ⟨rfl, ⟨fun _ => trivial, fun h => absurd (Int32.le_refl _) h⟩, fun _ => trivial, fun h => absurd (Int32.le_refl _) h⟩
    · have hn := le192 (i := i) (by omega)
      obtain ⟨c, hc, e1, e2, hok, -⟩ := sec hR (a := i) (by omega)
      rw [if_neg hn, if_neg hn, e1, e2, bluI σ hc, cl216 hc, hR.2.2.2.1 c hc, nI_1]
      obtain ⟨a1, a2, a3⟩ := greL hR n (i + 1) acc (by omega) (by omega)
      obtain ⟨b1, b2, b3⟩ := greL hR n (i + 1) (d_bl σ c) (by omega) (by omega)
      have ej : jmax acc (d_bl σ c) = if acc < d_bl σ c then d_bl σ c else acc := rfl
      rw [ej]
      by_cases h3 : d_bl σ c ≤ acc
      · rw [if_neg (Int32.not_lt.mpr h3), if_pos h3]
        exact ⟨a1, ⟨fun h => absurd h hn, fun _ => a2⟩, fun h => absurd h hn, fun _ => ⟨hok, vi216 hc, fun _ => a3, fun h => absurd h3 h⟩⟩
      · rw [if_pos (Int32.not_le.mp h3), if_neg h3]
        exact ⟨b1, ⟨fun h => absurd h hn, fun _ => b2⟩, fun h => absurd h hn, fun _ => ⟨hok, vi216 hc, fun h => absurd h h3, fun _ => b3⟩⟩
theorem gre (hR : Rb σ (m_al μ)) : s_X0_greatestBlur σ = s_X5_greatestBlur μ ∧ ok_X0_greatestBlur σ ∧ ok_X5_greatestBlur μ := by
  have h := greL hR FU 0 0 (by omega) (fuel (by omega))
  rw [nI_0] at h
  exact h
end RDS
