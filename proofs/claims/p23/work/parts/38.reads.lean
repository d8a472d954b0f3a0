/-! what there is: sums, counts, the greatest blur, the worst address -/
section RDS
variable {σ : DS}
theorem le12 {i : Nat} (h : i < 12) : ¬ (12 : Int32) ≤ nI i := nI_ge (b := 12) h (by omega)
theorem le16 {i : Nat} (h : i < 16) : ¬ (16 : Int32) ≤ nI i := nI_ge (b := 16) h (by omega)
theorem le192 {i : Nat} (h : i < 192) : ¬ (192 : Int32) ≤ nI i := nI_ge (b := 192) h (by omega)
theorem sumTL (g : NI) {t : Nat} (ht : t < 17) : ∀ (n i : Nat) (acc : Int32), i ≤ 12 → 12 - i < n → acc = sumN (fun k => g (12 * t + k)) i → L1_X0_sumOnTrack g (nI t) n acc (nI i) = tsum g t ∧ okL1_X0_sumOnTrack g (nI t) n acc (nI i)
  | 0, i, acc, h1, h2, _ => absurd h2 (Nat.not_lt_zero _)
  | n + 1, i, acc, h1, h2, ha => by
    unfold L1_X0_sumOnTrack okL1_X0_sumOnTrack
    by_cases hi : i = 12
    · subst hi
      rw [if_pos (show (12 : Int32) ≤ nI 12 from Int32.le_refl _)]
      exact ⟨ha, fun _ => trivial, fun h => absurd (Int32.le_refl _) h⟩
    · have hn := le12 (i := i) (by omega)
      have e : nI t * 12 + nI i = nI (12 * t + i) := by rw [show (12 : Int32) = nI 12 from rfl, pk_mul, nI_add, Nat.mul_comm]
      rw [if_neg hn, e, at_nI (by omega) (by omega), nI_1]
      obtain ⟨q1, q2⟩ := sumTL g ht n (i + 1) (acc + g (12 * t + i)) (by omega) (by omega) (by rw [ha]; rfl)
      exact ⟨q1, fun h => absurd h hn, fun _ => q2⟩
theorem sumT (g : NI) {t : Nat} (ht : t < 17) : s_X0_sumOnTrack g (nI t) = tsum g t ∧ ok_X0_sumOnTrack g (nI t) := by
  have h := sumTL g ht FU 0 0 (by omega) (fuel (by omega)) rfl
  rw [nI_0] at h
  exact h
theorem wotL (σ : DS) (p s : Nat) (hs : s = 1 ∨ s = 2) : ∀ (n i : Nat) (acc : Int32), i ≤ 16 → 16 - i < n → acc = sumN (fun t => if t % s = p then tsum (d_wr σ) t else 0) i → p < 2 → L1_X0_writingsOnTracks σ (nI p) (nI s) n acc (nI i) = sumN (fun t => if t % s = p then tsum (d_wr σ) t else 0) 16 ∧ okL1_X0_writingsOnTracks σ (nI p) (nI s) n acc (nI i)
  | 0, i, acc, h1, h2, _, _ => absurd h2 (Nat.not_lt_zero _)
  | n + 1, i, acc, h1, h2, ha, hp => by
    unfold L1_X0_writingsOnTracks okL1_X0_writingsOnTracks
    by_cases hi : i = 16
    · subst hi
      rw [if_pos (show (16 : Int32) ≤ nI 16 from Int32.le_refl _)]
      exact ⟨ha, fun _ => trivial, fun h => absurd (Int32.le_refl _) h⟩
    · have hn := le16 (i := i) (by omega)
      have hs0 : ¬ nI s ≤ 0 := nI_nle (by omega) (by omega)
      have er : jrem (nI i) (nI s) = nI (i % s) := pk_rem (by omega) (by omega) (by omega)
      obtain ⟨t1, t2⟩ := sumT (d_wr σ) (t := i) (by omega)
      have e1 : s_X0_writingsOnTrack σ (nI i) = tsum (d_wr σ) i := t1
      rw [if_neg hn, if_neg hs0, er, e1, nI_1]
      by_cases hc : i % s = p
      · obtain ⟨q1, q2⟩ := wotL σ p s hs n (i + 1) (acc + tsum (d_wr σ) i) (by omega) (by omega) (by rw [ha]; show _ = sumN _ i + (if i % s = p then tsum (d_wr σ) i else 0); rw [if_pos hc]) hp
        rw [hc, if_pos rfl]
        exact ⟨q1, fun h => absurd h hn, fun _ => ⟨fun h => absurd h hs0, fun _ => ⟨fun _ => ⟨t2, q2⟩, fun h => absurd rfl h⟩⟩⟩
      · obtain ⟨q1, q2⟩ := wotL σ p s hs n (i + 1) acc (by omega) (by omega) (by rw [ha]; show _ = sumN _ i + (if i % s = p then tsum (d_wr σ) i else 0); rw [if_neg hc, Int32.add_zero]) hp
        have hne : ¬ nI (i % s) = nI p := fun h => hc (nI_inj (by have := Nat.mod_le i s; omega) (by omega) h)
        rw [if_neg hne]
        exact ⟨q1, fun h => absurd h hn, fun _ => ⟨fun h => absurd h hs0, fun _ => ⟨fun h => absurd h hne, fun _ => q2⟩⟩⟩
theorem wot (σ : DS) (p s : Nat) (hs : s = 1 ∨ s = 2) (hp : p < 2) : s_X0_writingsOnTracks σ (nI p) (nI s) = sumN (fun t => if t % s = p then tsum (d_wr σ) t else 0) 16 ∧ ok_X0_writingsOnTracks σ (nI p) (nI s) := by
  have h := wotL σ p s hs FU 0 0 (by omega) (fuel (by omega)) rfl hp
  rw [nI_0] at h
  exact h
/-- the addresses on tracks that hold something; those of them that cannot be read -/
def Wi (p1 p2 q : Int32) : Prop := ∀ c, c < 204 → ((q = -6 ∨ nI c / 12 = q) ↔ ¬ s_X0_isWithin (nI c) p1 p2 = 0)
theorem Wi_t {t : Nat} (ht : t < 17) : Wi (nI t) (nI t) (nI t) := by
  intro c hc
  unfold s_X0_isWithin
  rw [trackO hc, dv12 (by omega)]
  have hn6 : ¬ nI t = -6 := n6_ne (by omega)
  rcases Nat.lt_trichotomy (c / 12) t with h | h | h
  · rw [if_pos (nI_lt h (by omega))]
    exact ⟨fun q => q.elim (fun x => absurd x hn6) (fun x => absurd (nI_inj (by omega) (by omega) x) (by omega)), fun q => absurd rfl q⟩
  · rw [h, if_neg (nI_nlt (by omega) (by omega)), if_neg (nI_nlt (by omega) (by omega))]
    exact ⟨fun _ => by decide, fun _ => Or.inr rfl⟩
  · rw [if_neg (nI_nlt (by omega) (by omega)), if_pos (nI_lt h (by omega))]
    exact ⟨fun q => q.elim (fun x => absurd x hn6) (fun x => absurd (nI_inj (by omega) (by omega) x) (by omega)), fun q => absurd rfl q⟩
theorem Wi_a : Wi 0 16 (-6) := by
  intro c hc
  unfold s_X0_isWithin
  rw [trackO hc, if_neg (nI_pos (by omega)), if_neg (show ¬ (16 : Int32) < nI (c / 12) from nI_nlt (a := 16) (by omega) (by omega))]
  exact ⟨fun _ => by decide, fun _ => Or.inl rfl⟩
end RDS
