/-! sector, track, count, ticksFor, worst, untilLost -/
section QUE
variable {σ : DS} {μ : MS}
theorem n10 : ¬ (1 : Int32) = 0 := by decide
theorem p_sector (hR : Rl σ (m_al μ)) (ρ : QS) (ϖ : PS) (τ : DS) (hs : HS) (p1 p2 : Int32) : s_X5_sector μ p1 p2 = s_X4_sector ρ ϖ σ τ hs p1 p2 ∧ ok_X5_sector μ p1 p2 := by
  unfold s_X4_sector s_X5_sector ok_X5_sector
  rcases adr p1 with ⟨h4, h5⟩ | ⟨a, ha, rfl, h4, h5⟩
  · rw [h4, h5, if_pos rfl, if_pos rfl]
    exact ⟨rfl, fun _ => trivial, fun h => absurd rfl h⟩
  obtain ⟨c, hc, e1, e2, hok, -, hd⟩ := sec hR.1 ha
  obtain ⟨hcn, hcok⟩ := can hR.1 ha
  have e5 : (if (if c < 192 then (0 : Int32) else 1) = 0 then (0 : Int32) else 1) = if nI c = nI a then 0 else 1 := by
    rcases hd with ⟨q, -⟩ | ⟨q, -⟩
    · rw [if_pos (show c < 192 from by omega), if_pos rfl, if_pos (by rw [q])]
    · rw [if_neg (show ¬ c < 192 from by omega), if_neg n10, if_neg (fun h => by have := nI_inj (by omega) (by omega) h; omega)]
  rw [h4, h5, if_neg n10, if_neg n10, hcn, e1, e2, trackO hc, dv12 (by omega), numI σ hc, bluI σ hc, wriI σ hc, cl12 hc, cl216 hc, cl420 hc, hR.1.2.2.1 c hc, hR.1.2.2.2.1 c hc, hR.1.2.2.2.2.1 c hc, spr hc, e5]
  exact ⟨rfl, fun h => absurd h n10, fun _ => ⟨hok, fun _ => trivial, fun _ => ⟨fun _ => trivial, fun _ => ⟨fun _ => vi12 hc, fun _ => ⟨fun _ => vi216 hc, fun _ => ⟨fun _ => vi420 hc, fun _ => ⟨fun _ => trivial, fun _ => ⟨fun _ => hcok, fun _ => trivial⟩⟩⟩⟩⟩⟩⟩⟩
theorem p_track (hR : Rl σ (m_al μ)) (ρ : QS) (ϖ : PS) (τ : DS) (hs : HS) (p1 p2 : Int32) : s_X5_track μ p1 p2 = s_X4_track ρ ϖ σ τ hs p1 p2 ∧ ok_X5_track μ p1 p2 ∧ ok_X4_track ρ ϖ σ τ hs p1 p2 := by
  unfold s_X4_track s_X5_track ok_X5_track ok_X4_track
  rcases trk p1 with ⟨h4, h5⟩ | ⟨t, ht, rfl, h4, h5⟩
  · rw [h4, h5, if_pos rfl, if_pos rfl]
    exact ⟨rfl, ⟨fun _ => trivial, fun h => absurd rfl h⟩, fun _ => trivial, fun h => absurd rfl h⟩
  obtain ⟨f1, f2, f3⟩ := fil hR.1 (Wi_t ht)
  obtain ⟨u1, u2, u3⟩ := unr hR.1 (Wi_t ht)
  obtain ⟨b1, b2⟩ := sumT (d_bl σ) ht
  obtain ⟨w1, w2⟩ := sumT (d_wr σ) ht
  obtain ⟨c1, c2⟩ := sumM μ (g := d_bl σ) (w := 216) (by omega) hR.1.2.2.2.1 ht
  obtain ⟨d1, d2⟩ := sumM μ (g := d_wr σ) (w := 420) (by omega) hR.1.2.2.2.2.1 ht
  have eb : s_X5_sumOn μ (nI t) 216 = s_X0_blurOnTrack σ (nI t) := c1.trans b1.symm
  have ew : s_X5_sumOn μ (nI t) 420 = s_X0_writingsOnTrack σ (nI t) := d1.trans w1.symm
  rw [h4, h5, if_neg n10, if_neg n10, f1, u1, eb, ew]
  refine ⟨?_, ⟨fun h => absurd h n10, fun _ => ⟨fun _ => ⟨fun _ => u3, fun _ => f3⟩, fun _ => ⟨fun _ => u3, fun _ => ⟨fun _ => c2, fun _ => ⟨fun _ => d2, fun _ => trivial⟩⟩⟩⟩⟩, fun h => absurd h n10, fun _ => ⟨fun _ => f2, fun _ => ⟨fun _ => u2, fun _ => ⟨fun _ => b2, fun _ => ⟨fun _ => w2, fun _ => trivial⟩⟩⟩⟩⟩
  by_cases h0 : p2 = 0
  · rw [if_pos h0, if_pos h0, if_neg (show ¬ p2 = 1 from by rw [h0]; decide)]
  · rw [if_neg h0, if_neg h0]
theorem p_ticksFor (hR : Rl σ (m_al μ)) (ρ : QS) (ϖ : PS) (τ : DS) (hs : HS) (p1 p2 : Int32) : s_X5_ticksFor μ p1 p2 = s_X4_ticksFor ρ ϖ σ τ hs p1 p2 ∧ ok_X5_ticksFor μ p1 p2 := by
  unfold s_X4_ticksFor s_X5_ticksFor ok_X5_ticksFor
  rcases adr p1 with ⟨h4, h5⟩ | ⟨a, ha, rfl, h4, h5⟩
  · rw [h4, h5, if_pos rfl, if_pos rfl]
    exact ⟨rfl, fun _ => trivial, fun h => absurd rfl h⟩
  obtain ⟨c, hc, e1, e2, hok, -⟩ := sec hR.1 ha
  obtain ⟨w, hw, w1, w2, wok, -⟩ := stw hR.1 ha
  obtain ⟨k, -, -, k1, k2⟩ := tks hR.1 hc
  obtain ⟨j, -, -, j1, j2⟩ := tks hR.1 hw
  rw [h4, h5, if_neg n10, if_neg n10, e1, e2, w1, w2, k1, k2, j1, j2]
  exact ⟨rfl, fun h => absurd h n10, fun _ => ⟨fun _ => hok, fun _ => wok⟩⟩
theorem cnt_hi {p1 : Int32} (h : p1 < 0 ∨ nI 18 ≤ p1) (ρ : QS) (ϖ : PS) (τ : DS) (hs : HS) : s_X4_count ρ ϖ σ τ hs p1 = -2 ∧ s_X5_count μ p1 = -2 := by
  have hne : ∀ k : Nat, k < 18 → ¬ p1 = nI k := by
    intro k hk e
    subst e
    rcases h with h | h
    · exact nI_pos (by omega) h
    · exact nI_ge hk (by omega) h
  have e0 : s_X5_in p1.toInt64 0 6 = 0 := by
    have e0 : s_X5_in p1.toInt64 0 6 = if p1 < 0 then 0 else if 6 < p1 then 0 else 1 := in_eq p1 0 6
    rw [e0]
    rcases h with h | h
    · rw [if_pos h]
    · rw [if_pos (show (6 : Int32) < p1 from Int32.lt_of_lt_of_le (by decide) h)]
      split <;> rfl
  unfold s_X4_count s_X5_count
  rw [e0]
  refine ⟨?_, ?_⟩
  · rcases h with h | h
    · rw [if_pos h, if_neg (show ¬ p1 = 5 from hne 5 (by omega)), if_neg (show ¬ p1 = 6 from hne 6 (by omega)), if_neg (show ¬ p1 = 7 from hne 7 (by omega)), if_neg (show ¬ p1 = 8 from hne 8 (by omega)), if_neg (show ¬ p1 = 9 from hne 9 (by omega)), if_neg (show ¬ p1 = 10 from hne 10 (by omega)), if_neg (show ¬ p1 = 11 from hne 11 (by omega)), if_neg (show ¬ p1 = 12 from hne 12 (by omega)), if_neg (show ¬ p1 = 13 from hne 13 (by omega)), if_neg (show ¬ p1 = 14 from hne 14 (by omega)), if_neg (show ¬ p1 = 15 from hne 15 (by omega)), if_neg (show ¬ p1 = 16 from hne 16 (by omega)), if_neg (show ¬ p1 = 17 from hne 17 (by omega))]
    · rw [if_neg (fun h9 => absurd (Int32.lt_of_le_of_lt h h9) (by decide)), if_pos (show (5 : Int32) ≤ p1 from Int32.le_trans (by decide) h), if_neg (show ¬ p1 = 5 from hne 5 (by omega)), if_neg (show ¬ p1 = 6 from hne 6 (by omega)), if_neg (show ¬ p1 = 7 from hne 7 (by omega)), if_neg (show ¬ p1 = 8 from hne 8 (by omega)), if_neg (show ¬ p1 = 9 from hne 9 (by omega)), if_neg (show ¬ p1 = 10 from hne 10 (by omega)), if_neg (show ¬ p1 = 11 from hne 11 (by omega)), if_neg (show ¬ p1 = 12 from hne 12 (by omega)), if_neg (show ¬ p1 = 13 from hne 13 (by omega)), if_neg (show ¬ p1 = 14 from hne 14 (by omega)), if_neg (show ¬ p1 = 15 from hne 15 (by omega)), if_neg (show ¬ p1 = 16 from hne 16 (by omega)), if_neg (show ¬ p1 = 17 from hne 17 (by omega))]
  · rw [if_neg (show ¬ p1 = 7 from hne 7 (by omega)), if_neg (show ¬ p1 = 8 from hne 8 (by omega)), if_neg (show ¬ p1 = 9 from hne 9 (by omega)), if_neg (show ¬ p1 = 10 from hne 10 (by omega)), if_neg (show ¬ p1 = 11 from hne 11 (by omega)), if_neg (show ¬ p1 = 12 from hne 12 (by omega)), if_neg (show ¬ p1 = 13 from hne 13 (by omega)), if_neg (show ¬ p1 = 14 from hne 14 (by omega)), if_neg (show ¬ p1 = 15 from hne 15 (by omega)), if_neg (show ¬ p1 = 16 from hne 16 (by omega)), if_neg (show ¬ p1 = 17 from hne 17 (by omega)), if_pos rfl]
theorem cnt_ok (hR : Rl σ (m_al μ)) (ρ : QS) (ϖ : PS) (τ : DS) (hs : HS) (p1 : Int32) : ok_X4_count ρ ϖ σ τ hs p1 ∧ ok_X5_count μ p1 := by
  obtain ⟨f1, f2, f3⟩ := fil hR.1 Wi_a
  obtain ⟨u1, u2, u3⟩ := unr hR.1 Wi_a
  obtain ⟨g1, g2, g3⟩ := gre hR.1
  have t16 : ok_X0_writingsOnTrack σ 16 := (sumT (d_wr σ) (t := 16) (by omega)).2
  have w01 : ok_X0_writingsOnTracks σ 0 1 := (wot σ 0 1 (Or.inl rfl) (by omega)).2
  have w02 : ok_X0_writingsOnTracks σ 0 2 := (wot σ 0 2 (Or.inr rfl) (by omega)).2
  have w12 : ok_X0_writingsOnTracks σ 1 2 := (wot σ 1 2 (Or.inr rfl) (by omega)).2
  refine ⟨⟨fun _ => ⟨fun _ => trivial, fun _ => ⟨fun _ => trivial, fun _ => ⟨fun _ => trivial, fun _ => ⟨fun _ => trivial, fun _ => ⟨fun _ => f2, fun _ => ⟨fun _ => u2, fun _ => ⟨fun _ => ⟨w01, t16⟩, fun _ => ⟨fun _ => trivial, fun _ => ⟨fun _ => w02, fun _ => ⟨fun _ => w12, fun _ => ⟨fun _ => g2, fun _ => trivial⟩⟩⟩⟩⟩⟩⟩⟩⟩⟩⟩, fun _ => ⟨fun _ => ⟨fun _ => trivial, fun _ => ⟨fun _ => trivial, fun _ => ⟨fun _ => trivial, fun _ => ⟨fun _ => trivial, fun _ => ⟨fun _ => f2, fun _ => ⟨fun _ => u2, fun _ => ⟨fun _ => ⟨w01, t16⟩, fun _ => ⟨fun _ => trivial, fun _ => ⟨fun _ => w02, fun _ => ⟨fun _ => w12, fun _ => ⟨fun _ => g2, fun _ => trivial⟩⟩⟩⟩⟩⟩⟩⟩⟩⟩⟩, fun _ => trivial⟩⟩, ⟨fun _ => trivial, fun _ => ⟨fun _ => trivial, fun _ => ⟨fun _ => ⟨fun _ => u3, fun _ => f3⟩, fun _ => ⟨fun _ => u3, fun _ => ⟨fun h11 => by rw [h11]; exact vp_in_nI (n := 8) (by omega) (by decide), fun _ => ⟨fun h12 => by rw [h12]; exact vp_in_nI (n := 9) (by omega) (by decide), fun _ => ⟨fun h13 => by rw [h13]; exact vp_in_nI (n := 10) (by omega) (by decide), fun _ => ⟨fun h14 => by rw [h14]; exact vp_in_nI (n := 11) (by omega) (by decide), fun _ => ⟨fun _ => g3, fun _ => ⟨fun _ => trivial, fun _ => ⟨fun _ => trivial, fun _ => ⟨fun _ => trivial, fun h => ?_⟩⟩⟩⟩⟩⟩⟩⟩⟩⟩⟩⟩⟩
  have e0 : s_X5_in p1.toInt64 0 6 = if p1 < 0 then 0 else if 6 < p1 then 0 else 1 := in_eq p1 0 6
  rw [e0] at h
  rcases pk_ix p1 (n := 7) (by omega) with h9 | h9 | ⟨j, hj, rfl⟩
  · rw [if_pos h9] at h
    exact absurd rfl h
  · rw [if_pos (show (6 : Int32) < p1 from Int32.lt_of_lt_of_le (by decide) h9)] at h
    exact absurd (by split <;> rfl) h
  · exact vp_in_nI (by omega) (by decide)
theorem p_count (hR : Rl σ (m_al μ)) {ϖ : PS} (hP : PI ϖ μ) {hs : HS} (hH : m_hl μ = h_sz hs) (ρ : QS) (τ : DS) (p1 : Int32) : s_X5_count μ p1 = s_X4_count ρ ϖ σ τ hs p1 := by
  rcases pk_ix p1 (n := 18) (by omega) with h | h | ⟨j, hj, rfl⟩
  · obtain ⟨a, b⟩ := cnt_hi (σ := σ) (μ := μ) (Or.inl h) ρ ϖ τ hs
    rw [a, b]
  · obtain ⟨a, b⟩ := cnt_hi (σ := σ) (μ := μ) (Or.inr h) ρ ϖ τ hs
    rw [a, b]
  obtain ⟨f1, f2, f3⟩ := fil hR.1 Wi_a
  obtain ⟨u1, u2, u3⟩ := unr hR.1 Wi_a
  obtain ⟨g1, g2, g3⟩ := gre hR.1
  have t16 : s_X0_writingsOnTrack σ 16 = tsum (d_wr σ) 16 := (sumT (d_wr σ) (t := 16) (by omega)).1
  have w01 : s_X0_writingsOnTracks σ 0 1 = sumN (fun t => if t % 1 = 0 then tsum (d_wr σ) t else 0) 16 := (wot σ 0 1 (Or.inl rfl) (by omega)).1
  have w02 : s_X0_writingsOnTracks σ 0 2 = lnd (d_wr σ) := (wot σ 0 2 (Or.inr rfl) (by omega)).1
  have w12 : s_X0_writingsOnTracks σ 1 2 = grv (d_wr σ) := (wot σ 1 2 (Or.inr rfl) (by omega)).1
  have w01b : sumN (fun t => if t % 1 = 0 then tsum (d_wr σ) t else 0) 16 = sumN (tsum (d_wr σ)) 16 := sumN_congr (fun k hk => if_pos (Nat.mod_one k))
  obtain ⟨hst, ⟨h5, h6, h9⟩, -, -, -, ⟨s, hs12, hsp, h7, -⟩, ⟨T, hT, eT⟩, -⟩ := id hR.1
  obtain ⟨L, -, l1, l2, -⟩ := hP
  match j, hj with
  | 0, hj =>
    show s_X5_count μ 0 = s_X4_count ρ ϖ σ τ hs 0
    have e4 : s_X4_count ρ ϖ σ τ hs 0 = s_X0_settingOf σ 0 := by
      unfold s_X4_count
      rw [if_neg (show ¬ (0 : Int32) < 0 from by decide), if_neg (show ¬ (5 : Int32) ≤ 0 from by decide)]
    have e5 : s_X5_count μ 0 = m_al μ 0 := by
      unfold s_X5_count
      rw [if_neg (show ¬ (0 : Int32) = 7 from by decide), if_neg (show ¬ (0 : Int32) = 8 from by decide), if_neg (show ¬ (0 : Int32) = 9 from by decide), if_neg (show ¬ (0 : Int32) = 10 from by decide), if_neg (show ¬ (0 : Int32) = 11 from by decide), if_neg (show ¬ (0 : Int32) = 12 from by decide), if_neg (show ¬ (0 : Int32) = 13 from by decide), if_neg (show ¬ (0 : Int32) = 14 from by decide), if_neg (show ¬ (0 : Int32) = 15 from by decide), if_neg (show ¬ (0 : Int32) = 16 from by decide), if_neg (show ¬ (0 : Int32) = 17 from by decide), if_neg (show ¬ s_X5_in (0 : Int32).toInt64 0 6 = 0 from by rw [show s_X5_in (0 : Int32).toInt64 0 6 = 1 from (in_eq 0 0 6).trans (by decide)]; decide)]
      rw [k0]
    rw [e4, e5]
    rw [setI0]
    exact hst 0 (by omega)
  | 1, hj =>
    show s_X5_count μ 1 = s_X4_count ρ ϖ σ τ hs 1
    have e4 : s_X4_count ρ ϖ σ τ hs 1 = s_X0_settingOf σ 1 := by
      unfold s_X4_count
      rw [if_neg (show ¬ (1 : Int32) < 0 from by decide), if_neg (show ¬ (5 : Int32) ≤ 1 from by decide)]
    have e5 : s_X5_count μ 1 = m_al μ 1 := by
      unfold s_X5_count
      rw [if_neg (show ¬ (1 : Int32) = 7 from by decide), if_neg (show ¬ (1 : Int32) = 8 from by decide), if_neg (show ¬ (1 : Int32) = 9 from by decide), if_neg (show ¬ (1 : Int32) = 10 from by decide), if_neg (show ¬ (1 : Int32) = 11 from by decide), if_neg (show ¬ (1 : Int32) = 12 from by decide), if_neg (show ¬ (1 : Int32) = 13 from by decide), if_neg (show ¬ (1 : Int32) = 14 from by decide), if_neg (show ¬ (1 : Int32) = 15 from by decide), if_neg (show ¬ (1 : Int32) = 16 from by decide), if_neg (show ¬ (1 : Int32) = 17 from by decide), if_neg (show ¬ s_X5_in (1 : Int32).toInt64 0 6 = 0 from by rw [show s_X5_in (1 : Int32).toInt64 0 6 = 1 from (in_eq 1 0 6).trans (by decide)]; decide)]
      rw [k1]
    rw [e4, e5]
    rw [setI1]
    exact hst 1 (by omega)
  | 2, hj =>
    show s_X5_count μ 2 = s_X4_count ρ ϖ σ τ hs 2
    have e4 : s_X4_count ρ ϖ σ τ hs 2 = s_X0_settingOf σ 2 := by
      unfold s_X4_count
      rw [if_neg (show ¬ (2 : Int32) < 0 from by decide), if_neg (show ¬ (5 : Int32) ≤ 2 from by decide)]
    have e5 : s_X5_count μ 2 = m_al μ 2 := by
      unfold s_X5_count
      rw [if_neg (show ¬ (2 : Int32) = 7 from by decide), if_neg (show ¬ (2 : Int32) = 8 from by decide), if_neg (show ¬ (2 : Int32) = 9 from by decide), if_neg (show ¬ (2 : Int32) = 10 from by decide), if_neg (show ¬ (2 : Int32) = 11 from by decide), if_neg (show ¬ (2 : Int32) = 12 from by decide), if_neg (show ¬ (2 : Int32) = 13 from by decide), if_neg (show ¬ (2 : Int32) = 14 from by decide), if_neg (show ¬ (2 : Int32) = 15 from by decide), if_neg (show ¬ (2 : Int32) = 16 from by decide), if_neg (show ¬ (2 : Int32) = 17 from by decide), if_neg (show ¬ s_X5_in (2 : Int32).toInt64 0 6 = 0 from by rw [show s_X5_in (2 : Int32).toInt64 0 6 = 1 from (in_eq 2 0 6).trans (by decide)]; decide)]
      rw [k2]
    rw [e4, e5]
    rw [setI2]
    exact hst 2 (by omega)
  | 3, hj =>
    show s_X5_count μ 3 = s_X4_count ρ ϖ σ τ hs 3
    have e4 : s_X4_count ρ ϖ σ τ hs 3 = s_X0_settingOf σ 3 := by
      unfold s_X4_count
      rw [if_neg (show ¬ (3 : Int32) < 0 from by decide), if_neg (show ¬ (5 : Int32) ≤ 3 from by decide)]
    have e5 : s_X5_count μ 3 = m_al μ 3 := by
      unfold s_X5_count
      rw [if_neg (show ¬ (3 : Int32) = 7 from by decide), if_neg (show ¬ (3 : Int32) = 8 from by decide), if_neg (show ¬ (3 : Int32) = 9 from by decide), if_neg (show ¬ (3 : Int32) = 10 from by decide), if_neg (show ¬ (3 : Int32) = 11 from by decide), if_neg (show ¬ (3 : Int32) = 12 from by decide), if_neg (show ¬ (3 : Int32) = 13 from by decide), if_neg (show ¬ (3 : Int32) = 14 from by decide), if_neg (show ¬ (3 : Int32) = 15 from by decide), if_neg (show ¬ (3 : Int32) = 16 from by decide), if_neg (show ¬ (3 : Int32) = 17 from by decide), if_neg (show ¬ s_X5_in (3 : Int32).toInt64 0 6 = 0 from by rw [show s_X5_in (3 : Int32).toInt64 0 6 = 1 from (in_eq 3 0 6).trans (by decide)]; decide)]
      rw [k3]
    rw [e4, e5]
    rw [setI3]
    exact hst 3 (by omega)
  | 4, hj =>
    show s_X5_count μ 4 = s_X4_count ρ ϖ σ τ hs 4
    have e4 : s_X4_count ρ ϖ σ τ hs 4 = s_X0_settingOf σ 4 := by
      unfold s_X4_count
      rw [if_neg (show ¬ (4 : Int32) < 0 from by decide), if_neg (show ¬ (5 : Int32) ≤ 4 from by decide)]
    have e5 : s_X5_count μ 4 = m_al μ 4 := by
      unfold s_X5_count
      rw [if_neg (show ¬ (4 : Int32) = 7 from by decide), if_neg (show ¬ (4 : Int32) = 8 from by decide), if_neg (show ¬ (4 : Int32) = 9 from by decide), if_neg (show ¬ (4 : Int32) = 10 from by decide), if_neg (show ¬ (4 : Int32) = 11 from by decide), if_neg (show ¬ (4 : Int32) = 12 from by decide), if_neg (show ¬ (4 : Int32) = 13 from by decide), if_neg (show ¬ (4 : Int32) = 14 from by decide), if_neg (show ¬ (4 : Int32) = 15 from by decide), if_neg (show ¬ (4 : Int32) = 16 from by decide), if_neg (show ¬ (4 : Int32) = 17 from by decide), if_neg (show ¬ s_X5_in (4 : Int32).toInt64 0 6 = 0 from by rw [show s_X5_in (4 : Int32).toInt64 0 6 = 1 from (in_eq 4 0 6).trans (by decide)]; decide)]
      rw [k4]
    rw [e4, e5]
    rw [setI4]
    exact hst 4 (by omega)
  | 5, hj =>
    show s_X5_count μ 5 = s_X4_count ρ ϖ σ τ hs 5
    have e4 : s_X4_count ρ ϖ σ τ hs 5 = d_tk σ := by
      unfold s_X4_count
      rw [if_neg (show ¬ (5 : Int32) < 0 from by decide), if_pos (show (5 : Int32) ≤ 5 from by decide), if_pos rfl]
    have e5 : s_X5_count μ 5 = m_al μ 5 := by
      unfold s_X5_count
      rw [if_neg (show ¬ (5 : Int32) = 7 from by decide), if_neg (show ¬ (5 : Int32) = 8 from by decide), if_neg (show ¬ (5 : Int32) = 9 from by decide), if_neg (show ¬ (5 : Int32) = 10 from by decide), if_neg (show ¬ (5 : Int32) = 11 from by decide), if_neg (show ¬ (5 : Int32) = 12 from by decide), if_neg (show ¬ (5 : Int32) = 13 from by decide), if_neg (show ¬ (5 : Int32) = 14 from by decide), if_neg (show ¬ (5 : Int32) = 15 from by decide), if_neg (show ¬ (5 : Int32) = 16 from by decide), if_neg (show ¬ (5 : Int32) = 17 from by decide), if_neg (show ¬ s_X5_in (5 : Int32).toInt64 0 6 = 0 from by rw [show s_X5_in (5 : Int32).toInt64 0 6 = 1 from (in_eq 5 0 6).trans (by decide)]; decide)]
      rw [k5]
    rw [e4, e5]
    exact h5
  | 6, hj =>
    show s_X5_count μ 6 = s_X4_count ρ ϖ σ τ hs 6
    have e4 : s_X4_count ρ ϖ σ τ hs 6 = d_hd σ := by
      unfold s_X4_count
      rw [if_neg (show ¬ (6 : Int32) < 0 from by decide), if_pos (show (5 : Int32) ≤ 6 from by decide), if_neg (show ¬ (6 : Int32) = 5 from by decide), if_pos rfl]
    have e5 : s_X5_count μ 6 = m_al μ 6 := by
      unfold s_X5_count
      rw [if_neg (show ¬ (6 : Int32) = 7 from by decide), if_neg (show ¬ (6 : Int32) = 8 from by decide), if_neg (show ¬ (6 : Int32) = 9 from by decide), if_neg (show ¬ (6 : Int32) = 10 from by decide), if_neg (show ¬ (6 : Int32) = 11 from by decide), if_neg (show ¬ (6 : Int32) = 12 from by decide), if_neg (show ¬ (6 : Int32) = 13 from by decide), if_neg (show ¬ (6 : Int32) = 14 from by decide), if_neg (show ¬ (6 : Int32) = 15 from by decide), if_neg (show ¬ (6 : Int32) = 16 from by decide), if_neg (show ¬ (6 : Int32) = 17 from by decide), if_neg (show ¬ s_X5_in (6 : Int32).toInt64 0 6 = 0 from by rw [show s_X5_in (6 : Int32).toInt64 0 6 = 1 from (in_eq 6 0 6).trans (by decide)]; decide)]
      rw [k6]
    rw [e4, e5]
    exact h6
  | 7, hj =>
    show s_X5_count μ 7 = s_X4_count ρ ϖ σ τ hs 7
    have e4 : s_X4_count ρ ϖ σ τ hs 7 = s_X0_sectorUnderHead σ := by
      unfold s_X4_count
      rw [if_neg (show ¬ (7 : Int32) < 0 from by decide), if_pos (show (5 : Int32) ≤ 7 from by decide), if_neg (show ¬ (7 : Int32) = 5 from by decide), if_neg (show ¬ (7 : Int32) = 6 from by decide), if_pos rfl]
    have e5 : s_X5_count μ 7 = jrem (m_al μ (5 : Int32).toNatClampNeg) 12 := by
      unfold s_X5_count
      rw [if_pos rfl]
    rw [e4, e5]
    rw [k5, h5]
    rfl
  | 8, hj =>
    show s_X5_count μ 8 = s_X4_count ρ ϖ σ τ hs 8
    have e4 : s_X4_count ρ ϖ σ τ hs 8 = s_X0_sparesLeft σ := by
      unfold s_X4_count
      rw [if_neg (show ¬ (8 : Int32) < 0 from by decide), if_pos (show (5 : Int32) ≤ 8 from by decide), if_neg (show ¬ (8 : Int32) = 5 from by decide), if_neg (show ¬ (8 : Int32) = 6 from by decide), if_neg (show ¬ (8 : Int32) = 7 from by decide), if_pos rfl]
    have e5 : s_X5_count μ 8 = m_al μ (7 : Int32).toNatClampNeg := by
      unfold s_X5_count
      rw [if_neg (show ¬ (8 : Int32) = 7 from by decide), if_pos rfl]
    rw [e4, e5]
    rw [k7, h7]
    unfold s_X0_sparesLeft
    rw [hsp]
    exact (pk_sub (a := 12) hs12).symm
  | 9, hj =>
    show s_X5_count μ 9 = s_X4_count ρ ϖ σ τ hs 9
    have e4 : s_X4_count ρ ϖ σ τ hs 9 = s_X0_filledOn σ 0 16 := by
      unfold s_X4_count
      rw [if_neg (show ¬ (9 : Int32) < 0 from by decide), if_pos (show (5 : Int32) ≤ 9 from by decide), if_neg (show ¬ (9 : Int32) = 5 from by decide), if_neg (show ¬ (9 : Int32) = 6 from by decide), if_neg (show ¬ (9 : Int32) = 7 from by decide), if_neg (show ¬ (9 : Int32) = 8 from by decide), if_pos rfl]
    have e5 : s_X5_count μ 9 = s_X5_addresses μ (-6) 0 := by
      unfold s_X5_count
      rw [if_neg (show ¬ (9 : Int32) = 7 from by decide), if_neg (show ¬ (9 : Int32) = 8 from by decide), if_pos rfl, if_neg (show ¬ (9 : Int32) = 10 from by decide)]
    rw [e4, e5]
    exact f1.symm
  | 10, hj =>
    show s_X5_count μ 10 = s_X4_count ρ ϖ σ τ hs 10
    have e4 : s_X4_count ρ ϖ σ τ hs 10 = s_X0_unreadableOn σ 0 16 := by
      unfold s_X4_count
      rw [if_neg (show ¬ (10 : Int32) < 0 from by decide), if_pos (show (5 : Int32) ≤ 10 from by decide), if_neg (show ¬ (10 : Int32) = 5 from by decide), if_neg (show ¬ (10 : Int32) = 6 from by decide), if_neg (show ¬ (10 : Int32) = 7 from by decide), if_neg (show ¬ (10 : Int32) = 8 from by decide), if_neg (show ¬ (10 : Int32) = 9 from by decide), if_pos rfl]
    have e5 : s_X5_count μ 10 = s_X5_addresses μ (-6) 1 := by
      unfold s_X5_count
      rw [if_neg (show ¬ (10 : Int32) = 7 from by decide), if_neg (show ¬ (10 : Int32) = 8 from by decide), if_neg (show ¬ (10 : Int32) = 9 from by decide), if_pos rfl]
    rw [e4, e5]
    exact u1.symm
  | 11, hj =>
    show s_X5_count μ 11 = s_X4_count ρ ϖ σ τ hs 11
    have e4 : s_X4_count ρ ϖ σ τ hs 11 = s_X0_writingsOnTracks σ 0 1 + s_X0_writingsOnTrack σ 16 := by
      unfold s_X4_count
      rw [if_neg (show ¬ (11 : Int32) < 0 from by decide), if_pos (show (5 : Int32) ≤ 11 from by decide), if_neg (show ¬ (11 : Int32) = 5 from by decide), if_neg (show ¬ (11 : Int32) = 6 from by decide), if_neg (show ¬ (11 : Int32) = 7 from by decide), if_neg (show ¬ (11 : Int32) = 8 from by decide), if_neg (show ¬ (11 : Int32) = 9 from by decide), if_neg (show ¬ (11 : Int32) = 10 from by decide), if_pos rfl]
    have e5 : s_X5_count μ 11 = m_al μ 8 := by
      unfold s_X5_count
      rw [if_neg (show ¬ (11 : Int32) = 7 from by decide), if_neg (show ¬ (11 : Int32) = 8 from by decide), if_neg (show ¬ (11 : Int32) = 9 from by decide), if_neg (show ¬ (11 : Int32) = 10 from by decide), if_pos rfl]
      rw [show ((8 : Int32) + 11 - 11).toNatClampNeg = 8 from clN 8 (by omega) (by decide)]
    rw [e4, e5]
    rw [t16, w01, w01b]
    exact hR.2.1
  | 12, hj =>
    show s_X5_count μ 12 = s_X4_count ρ ϖ σ τ hs 12
    have e4 : s_X4_count ρ ϖ σ τ hs 12 = d_rd σ := by
      unfold s_X4_count
      rw [if_neg (show ¬ (12 : Int32) < 0 from by decide), if_pos (show (5 : Int32) ≤ 12 from by decide), if_neg (show ¬ (12 : Int32) = 5 from by decide), if_neg (show ¬ (12 : Int32) = 6 from by decide), if_neg (show ¬ (12 : Int32) = 7 from by decide), if_neg (show ¬ (12 : Int32) = 8 from by decide), if_neg (show ¬ (12 : Int32) = 9 from by decide), if_neg (show ¬ (12 : Int32) = 10 from by decide), if_neg (show ¬ (12 : Int32) = 11 from by decide), if_pos rfl]
    have e5 : s_X5_count μ 12 = m_al μ 9 := by
      unfold s_X5_count
      rw [if_neg (show ¬ (12 : Int32) = 7 from by decide), if_neg (show ¬ (12 : Int32) = 8 from by decide), if_neg (show ¬ (12 : Int32) = 9 from by decide), if_neg (show ¬ (12 : Int32) = 10 from by decide), if_neg (show ¬ (12 : Int32) = 11 from by decide), if_pos rfl]
      rw [show ((8 : Int32) + 12 - 11).toNatClampNeg = 9 from clN 9 (by omega) (by decide)]
    rw [e4, e5]
    exact h9
  | 13, hj =>
    show s_X5_count μ 13 = s_X4_count ρ ϖ σ τ hs 13
    have e4 : s_X4_count ρ ϖ σ τ hs 13 = s_X0_writingsOnTracks σ 0 2 := by
      unfold s_X4_count
      rw [if_neg (show ¬ (13 : Int32) < 0 from by decide), if_pos (show (5 : Int32) ≤ 13 from by decide), if_neg (show ¬ (13 : Int32) = 5 from by decide), if_neg (show ¬ (13 : Int32) = 6 from by decide), if_neg (show ¬ (13 : Int32) = 7 from by decide), if_neg (show ¬ (13 : Int32) = 8 from by decide), if_neg (show ¬ (13 : Int32) = 9 from by decide), if_neg (show ¬ (13 : Int32) = 10 from by decide), if_neg (show ¬ (13 : Int32) = 11 from by decide), if_neg (show ¬ (13 : Int32) = 12 from by decide), if_pos rfl]
    have e5 : s_X5_count μ 13 = m_al μ 10 := by
      unfold s_X5_count
      rw [if_neg (show ¬ (13 : Int32) = 7 from by decide), if_neg (show ¬ (13 : Int32) = 8 from by decide), if_neg (show ¬ (13 : Int32) = 9 from by decide), if_neg (show ¬ (13 : Int32) = 10 from by decide), if_neg (show ¬ (13 : Int32) = 11 from by decide), if_neg (show ¬ (13 : Int32) = 12 from by decide), if_pos rfl]
      rw [show ((8 : Int32) + 13 - 11).toNatClampNeg = 10 from clN 10 (by omega) (by decide)]
    rw [e4, e5]
    rw [w02]
    exact hR.2.2.1
  | 14, hj =>
    show s_X5_count μ 14 = s_X4_count ρ ϖ σ τ hs 14
    have e4 : s_X4_count ρ ϖ σ τ hs 14 = s_X0_writingsOnTracks σ 1 2 := by
      unfold s_X4_count
      rw [if_neg (show ¬ (14 : Int32) < 0 from by decide), if_pos (show (5 : Int32) ≤ 14 from by decide), if_neg (show ¬ (14 : Int32) = 5 from by decide), if_neg (show ¬ (14 : Int32) = 6 from by decide), if_neg (show ¬ (14 : Int32) = 7 from by decide), if_neg (show ¬ (14 : Int32) = 8 from by decide), if_neg (show ¬ (14 : Int32) = 9 from by decide), if_neg (show ¬ (14 : Int32) = 10 from by decide), if_neg (show ¬ (14 : Int32) = 11 from by decide), if_neg (show ¬ (14 : Int32) = 12 from by decide), if_neg (show ¬ (14 : Int32) = 13 from by decide), if_pos rfl]
    have e5 : s_X5_count μ 14 = m_al μ 11 := by
      unfold s_X5_count
      rw [if_neg (show ¬ (14 : Int32) = 7 from by decide), if_neg (show ¬ (14 : Int32) = 8 from by decide), if_neg (show ¬ (14 : Int32) = 9 from by decide), if_neg (show ¬ (14 : Int32) = 10 from by decide), if_neg (show ¬ (14 : Int32) = 11 from by decide), if_neg (show ¬ (14 : Int32) = 12 from by decide), if_neg (show ¬ (14 : Int32) = 13 from by decide), if_pos rfl]
      rw [show ((8 : Int32) + 14 - 11).toNatClampNeg = 11 from clN 11 (by omega) (by decide)]
    rw [e4, e5]
    rw [w12]
    exact hR.2.2.2
  | 15, hj =>
    show s_X5_count μ 15 = s_X4_count ρ ϖ σ τ hs 15
    have e4 : s_X4_count ρ ϖ σ τ hs 15 = s_X0_greatestBlur σ := by
      unfold s_X4_count
      rw [if_neg (show ¬ (15 : Int32) < 0 from by decide), if_pos (show (5 : Int32) ≤ 15 from by decide), if_neg (show ¬ (15 : Int32) = 5 from by decide), if_neg (show ¬ (15 : Int32) = 6 from by decide), if_neg (show ¬ (15 : Int32) = 7 from by decide), if_neg (show ¬ (15 : Int32) = 8 from by decide), if_neg (show ¬ (15 : Int32) = 9 from by decide), if_neg (show ¬ (15 : Int32) = 10 from by decide), if_neg (show ¬ (15 : Int32) = 11 from by decide), if_neg (show ¬ (15 : Int32) = 12 from by decide), if_neg (show ¬ (15 : Int32) = 13 from by decide), if_neg (show ¬ (15 : Int32) = 14 from by decide), if_pos rfl]
    have e5 : s_X5_count μ 15 = s_X5_greatestBlur μ := by
      unfold s_X5_count
      rw [if_neg (show ¬ (15 : Int32) = 7 from by decide), if_neg (show ¬ (15 : Int32) = 8 from by decide), if_neg (show ¬ (15 : Int32) = 9 from by decide), if_neg (show ¬ (15 : Int32) = 10 from by decide), if_neg (show ¬ (15 : Int32) = 11 from by decide), if_neg (show ¬ (15 : Int32) = 12 from by decide), if_neg (show ¬ (15 : Int32) = 13 from by decide), if_neg (show ¬ (15 : Int32) = 14 from by decide), if_pos rfl]
    rw [e4, e5]
    exact g1.symm
  | 16, hj =>
    show s_X5_count μ 16 = s_X4_count ρ ϖ σ τ hs 16
    have e4 : s_X4_count ρ ϖ σ τ hs 16 = p_le ϖ := by
      unfold s_X4_count
      rw [if_neg (show ¬ (16 : Int32) < 0 from by decide), if_pos (show (5 : Int32) ≤ 16 from by decide), if_neg (show ¬ (16 : Int32) = 5 from by decide), if_neg (show ¬ (16 : Int32) = 6 from by decide), if_neg (show ¬ (16 : Int32) = 7 from by decide), if_neg (show ¬ (16 : Int32) = 8 from by decide), if_neg (show ¬ (16 : Int32) = 9 from by decide), if_neg (show ¬ (16 : Int32) = 10 from by decide), if_neg (show ¬ (16 : Int32) = 11 from by decide), if_neg (show ¬ (16 : Int32) = 12 from by decide), if_neg (show ¬ (16 : Int32) = 13 from by decide), if_neg (show ¬ (16 : Int32) = 14 from by decide), if_neg (show ¬ (16 : Int32) = 15 from by decide), if_pos rfl]
    have e5 : s_X5_count μ 16 = m_tl μ := by
      unfold s_X5_count
      rw [if_neg (show ¬ (16 : Int32) = 7 from by decide), if_neg (show ¬ (16 : Int32) = 8 from by decide), if_neg (show ¬ (16 : Int32) = 9 from by decide), if_neg (show ¬ (16 : Int32) = 10 from by decide), if_neg (show ¬ (16 : Int32) = 11 from by decide), if_neg (show ¬ (16 : Int32) = 12 from by decide), if_neg (show ¬ (16 : Int32) = 13 from by decide), if_neg (show ¬ (16 : Int32) = 14 from by decide), if_neg (show ¬ (16 : Int32) = 15 from by decide), if_pos rfl]
    rw [e4, e5]
    rw [l1, l2]
  | 17, hj =>
    show s_X5_count μ 17 = s_X4_count ρ ϖ σ τ hs 17
    have e4 : s_X4_count ρ ϖ σ τ hs 17 = h_sz hs := by
      unfold s_X4_count
      rw [if_neg (show ¬ (17 : Int32) < 0 from by decide), if_pos (show (5 : Int32) ≤ 17 from by decide), if_neg (show ¬ (17 : Int32) = 5 from by decide), if_neg (show ¬ (17 : Int32) = 6 from by decide), if_neg (show ¬ (17 : Int32) = 7 from by decide), if_neg (show ¬ (17 : Int32) = 8 from by decide), if_neg (show ¬ (17 : Int32) = 9 from by decide), if_neg (show ¬ (17 : Int32) = 10 from by decide), if_neg (show ¬ (17 : Int32) = 11 from by decide), if_neg (show ¬ (17 : Int32) = 12 from by decide), if_neg (show ¬ (17 : Int32) = 13 from by decide), if_neg (show ¬ (17 : Int32) = 14 from by decide), if_neg (show ¬ (17 : Int32) = 15 from by decide), if_neg (show ¬ (17 : Int32) = 16 from by decide), if_pos rfl]
    have e5 : s_X5_count μ 17 = m_hl μ := by
      unfold s_X5_count
      rw [if_neg (show ¬ (17 : Int32) = 7 from by decide), if_neg (show ¬ (17 : Int32) = 8 from by decide), if_neg (show ¬ (17 : Int32) = 9 from by decide), if_neg (show ¬ (17 : Int32) = 10 from by decide), if_neg (show ¬ (17 : Int32) = 11 from by decide), if_neg (show ¬ (17 : Int32) = 12 from by decide), if_neg (show ¬ (17 : Int32) = 13 from by decide), if_neg (show ¬ (17 : Int32) = 14 from by decide), if_neg (show ¬ (17 : Int32) = 15 from by decide), if_neg (show ¬ (17 : Int32) = 16 from by decide), if_pos rfl]
    rw [e4, e5]
    exact hH
  | j + 18, hj => omega
theorem worL (hR : Rb σ (m_al μ)) (ρ : QS) (ϖ : PS) (τ : DS) (hs : HS) : ∀ (n i : Nat) (b g : Int32), i ≤ 192 → 192 - i < n → ((b = -6 ∧ g = -1) ∨ ∃ a c, a < 192 ∧ c < 204 ∧ b = nI a ∧ s_X5_sectorOf μ (nI a) = nI c ∧ g = d_bl σ c) → L1_X4_worst ρ ϖ σ τ hs n b g (nI i) = L1_X5_worst μ n b (nI i) ∧ okL1_X4_worst ρ ϖ σ τ hs n b g (nI i) ∧ okL1_X5_worst μ n b (nI i)
  | 0, i, b, g, h1, h2, _ => absurd h2 (Nat.not_lt_zero _)
  | n + 1, i, b, g, h1, h2, hb => by
    unfold L1_X4_worst okL1_X4_worst L1_X5_worst okL1_X5_worst
    by_cases hi : i = 192
    · subst hi
      rw [if_pos (show (192 : Int32) ≤ nI 192 from Int32.le_refl _), if_pos (show (192 : Int32) ≤ nI 192 from Int32.le_refl _)]
      exact ⟨rfl, ⟨fun _ => trivial, fun h => absurd (Int32.le_refl _) h⟩, fun _ => trivial, fun h => absurd (Int32.le_refl _) h⟩
    · have hn := le192 (i := i) (by omega)
      obtain ⟨c, hc, e1, e2, hok, -⟩ := sec hR (a := i) (by omega)
      obtain ⟨hcn, hcok⟩ := can hR (a := i) (by omega)
      rw [if_neg hn, if_neg hn, hcn, e1, e2, bluI σ hc, cl216 hc, hR.2.2.2.1 c hc, nI_1]
      obtain ⟨a1, a2, a3⟩ := worL hR ρ ϖ τ hs n (i + 1) b g (by omega) (by omega) hb
      obtain ⟨b1, b2, b3⟩ := worL hR ρ ϖ τ hs n (i + 1) (nI i) (d_bl σ c) (by omega) (by omega) (Or.inr ⟨i, c, by omega, hc, rfl, e2, rfl⟩)
      by_cases h3 : s_X0_isReadable σ (nI c) = 0
      · rw [if_pos h3, if_pos h3]
        exact ⟨a1, ⟨fun h => absurd h hn, fun _ => ⟨fun _ => a2, fun h => absurd h3 h⟩⟩, fun h => absurd h hn, fun _ => ⟨hcok, fun _ => a3, fun h => absurd h3 h⟩⟩
      · rw [if_neg h3, if_neg h3]
        rcases hb with ⟨rfl, rfl⟩ | ⟨a, d, ha, hd, rfl, hsd, rfl⟩
        · obtain ⟨x, hx, ex⟩ := hR.2.2.2.2.2.2.2.2.2.1 c hc
          have h4 : ¬ d_bl σ c ≤ -1 := by
            rw [ex]
            exact fun h => absurd (Int32.le_trans (nI_pos' (n := x) (by omega)) h) (by decide)
          rw [if_neg h4, if_pos rfl]
          exact ⟨b1, ⟨fun h => absurd h hn, fun _ => ⟨fun h => absurd h h3, fun _ => ⟨fun h => absurd h h4, fun _ => b2⟩⟩⟩, fun h => absurd h hn, fun _ => ⟨hcok, fun h => absurd h h3, fun _ => ⟨fun _ => b3, fun h => absurd rfl h⟩⟩⟩
        · have h6 : ¬ nI a = -6 := n6_ne (by omega)
          have hda : m_al μ (216 + s_X5_sectorOf μ (nI a)).toNatClampNeg = d_bl σ d := by rw [hsd, cl216 hd, hR.2.2.2.1 d hd]
          have hv : vp_in (216 + s_X5_sectorOf μ (nI a)) 816 := by rw [hsd]; exact vi216 hd
          have hoka : ok_X5_sectorOf μ (nI a) := vi624 ha
          rw [if_neg h6, hda]
          by_cases h4 : d_bl σ c ≤ d_bl σ d
          · rw [if_pos h4, if_pos h4]
            exact ⟨a1, ⟨fun h => absurd h hn, fun _ => ⟨fun h => absurd h h3, fun _ => ⟨fun _ => a2, fun h => absurd h4 h⟩⟩⟩, fun h => absurd h hn, fun _ => ⟨hcok, fun h => absurd h h3, fun _ => ⟨fun h => absurd h h6, fun _ => ⟨hok, vi216 hc, hoka, hv, fun _ => a3, fun h => absurd h4 h⟩⟩⟩⟩
          · rw [if_neg h4, if_neg h4]
            exact ⟨b1, ⟨fun h => absurd h hn, fun _ => ⟨fun h => absurd h h3, fun _ => ⟨fun h => absurd h h4, fun _ => b2⟩⟩⟩, fun h => absurd h hn, fun _ => ⟨hcok, fun h => absurd h h3, fun _ => ⟨fun h => absurd h h6, fun _ => ⟨hok, vi216 hc, hoka, hv, fun h => absurd h h4, fun _ => b3⟩⟩⟩⟩
theorem p_worst (hR : Rl σ (m_al μ)) (ρ : QS) (ϖ : PS) (τ : DS) (hs : HS) : s_X5_worst μ = s_X4_worst ρ ϖ σ τ hs ∧ ok_X5_worst μ ∧ ok_X4_worst ρ ϖ σ τ hs := by
  obtain ⟨h1, h2, h3⟩ := worL hR.1 ρ ϖ τ hs FU 0 (-6) (-1) (by omega) (fuel (by omega)) (Or.inl ⟨rfl, rfl⟩)
  rw [nI_0] at h1 h2 h3
  exact ⟨h1.symm, h3, h2⟩
/-- a call that changes nothing that counts -/
def NC (σ : DS) (μ : MS) (a0 : Int32) (r5 : Int32 × MS) : Prop := r5.1 = a0 ∧ Fs μ r5.2 ∧ Fh μ r5.2 ∧ Rl σ (m_al r5.2)
theorem NC.rf (hR : Rl σ (m_al μ)) (a : Int32) : NC σ μ a (a, μ) := ⟨rfl, Fs.rf, ⟨rfl, rfl⟩, hR⟩
theorem back_R {μ1 : MS} (hR : Rl σ (m_al μ)) (h2 : μ1.2 = (s_X5_keeps μ).2) (a : Int32) : NC σ μ a (a, s_X5_comesBack μ1) ∧ ok_X5_comesBack μ1 := by
  obtain ⟨g, e1, e2, -⟩ := keeps_ok μ
  rw [e1] at h2
  obtain ⟨b, f1, f2, f3⟩ := back_ok μ1
  have hs : Fs μ μ1 := Fs.tr (μ1 := m_ke' μ g) ⟨rfl, rfl, rfl, rfl⟩ (Fs.of h2)
  have hh : Fh μ μ1 := Fh.tr (μ1 := m_ke' μ g) ⟨rfl, rfl⟩ (Fh.of h2)
  have hk : m_ke μ1 = g := by unfold m_ke; rw [h2]; rfl
  refine ⟨⟨rfl, ?_, ?_, ?_⟩, f3⟩
  · rw [f1]; exact hs.tr ⟨rfl, rfl, rfl, rfl⟩
  · rw [f1]; exact hh.tr ⟨rfl, rfl⟩
  · rw [f1]
    refine Rl_ext hR (fun k hk2 => ?_)
    show b k = _
    rw [f2 k hk2, hk, e2 k hk2]
theorem untL (ρ : QS) (ϖ : PS) (τ0 : DS) (hs : HS) {a b : Nat} (ha : a < 192) (hb : b < 192) (hab : b ≠ a) : ∀ (j n m k : Nat) (τ : DS) (μ1 : MS), k + j = 500 → j + 2 ≤ n → j + 3 ≤ m → Rl τ (m_al μ1) → d_se τ b = d_se σ b → ¬ s_X5_canBeRead μ1 (nI b) = 0 → ∃ (v : Int32) (μ2 : MS), (L1_X4_untilLost ρ ϖ σ τ0 hs (nI a) (nI b) n (nI (k + 1)) τ).1 = v ∧ L1_X5_untilLost μ (nI a) (nI b) m (nI k) μ1 = (v, s_X5_comesBack μ2) ∧ μ2.2 = μ1.2 ∧ okL1_X4_untilLost ρ ϖ σ τ0 hs (nI a) (nI b) n (nI (k + 1)) τ ∧ (ok_X5_comesBack μ2 → okL1_X5_untilLost μ (nI a) (nI b) m (nI k) μ1)
  | j, 0, m, k, τ, μ1, _, hn, _, _, _, _ => absurd hn (by omega)
  | j, n + 1, 0, k, τ, μ1, _, _, hm, _, _, _ => absurd hm (by omega)
  | j, n + 1, 1, k, τ, μ1, _, _, hm, _, _, _ => absurd hm (by omega)
  | j, n + 1, m + 2, k, τ, μ1, hk, hn, hm, hR, hse, hcan => by
    obtain ⟨p1, p2, p3, p4, -⟩ := puts hR ha 0
    obtain ⟨hc0, hok0⟩ := can hR.1 hb
    obtain ⟨hc1, hok1⟩ := can p1.1 hb
    have hk5 : ¬ (500 : Int32) < nI k := nI_nlt (a := 500) (by omega) (by omega)
    have step : L1_X5_untilLost μ (nI a) (nI b) (m + 2) (nI k) μ1 = L1_X5_untilLost μ (nI a) (nI b) (m + 1) (nI (k + 1)) (s_X5_puts μ1 (nI a) 0) := by
      rw [L1_X5_untilLost, if_neg hcan, if_neg hk5, nI_1]
    have okstep : okL1_X5_untilLost μ (nI a) (nI b) (m + 1) (nI (k + 1)) (s_X5_puts μ1 (nI a) 0) → okL1_X5_untilLost μ (nI a) (nI b) (m + 2) (nI k) μ1 := by
      intro h
      rw [okL1_X5_untilLost, nI_1]
      exact ⟨hok0, fun h9 => absurd h9 hcan, fun _ => ⟨fun h9 => absurd h9 hk5, fun _ => ⟨p3, h⟩⟩⟩
    rw [step]
    by_cases hj : j = 0
    · have hk500 : k = 500 := by omega
      subst hk500
      have h1 : (500 : Int32) < nI (500 + 1) := nI_lt (a := 500) (by omega) (by omega)
      have h2 : ¬ nI (500 + 1) ≤ (500 : Int32) := Int32.not_le.mpr h1
      refine ⟨-6, s_X5_puts μ1 (nI a) 0, ?_, ?_, p2, ?_, fun h9 => okstep ?_⟩
      · rw [L1_X4_untilLost, if_pos h1]
      · rw [L1_X5_untilLost, if_pos h1, if_neg h2]
        split <;> rfl
      · rw [okL1_X4_untilLost]
        exact ⟨fun _ => trivial, fun h => absurd h1 h⟩
      · rw [okL1_X5_untilLost]
        exact ⟨hok1, fun _ => h9, fun _ => ⟨fun _ => h9, fun h => absurd h1 h⟩⟩
    · have h1 : ¬ (500 : Int32) < nI (k + 1) := nI_nlt (a := 500) (by omega) (by omega)
      have h2 : nI (k + 1) ≤ (500 : Int32) := Int32.not_lt.mp h1
      have es : s_X0_sectorFor (s_X0_fill τ (s_X0_sectorToWrite τ (nI a)) (nI a) 0) (nI b) = s_X0_sectorFor σ (nI b) := by rw [sfor _ hb, sfor _ hb, p4 b hab, hse]
      rw [es] at hc1
      by_cases h3 : s_X0_isReadable (s_X0_fill τ (s_X0_sectorToWrite τ (nI a)) (nI a) 0) (s_X0_sectorFor σ (nI b)) = 0
      · refine ⟨nI (k + 1), s_X5_puts μ1 (nI a) 0, ?_, ?_, p2, ?_, fun h9 => okstep ?_⟩
        · rw [L1_X4_untilLost, if_neg h1, if_pos h3]
        · rw [L1_X5_untilLost, hc1, if_pos h3, if_pos h2]
        · rw [okL1_X4_untilLost]
          exact ⟨fun h => absurd h h1, fun _ => ⟨fun _ => trivial, fun h => absurd h3 h⟩⟩
        · rw [okL1_X5_untilLost, hc1]
          exact ⟨hok1, fun _ => h9, fun h => absurd h3 h⟩
      · obtain ⟨v, μ2, q1, q2, q3, q4, q5⟩ := untL ρ ϖ τ0 hs ha hb hab (j - 1) n (m + 1) (k + 1) (s_X0_fill τ (s_X0_sectorToWrite τ (nI a)) (nI a) 0) (s_X5_puts μ1 (nI a) 0) (by omega) (by omega) (by omega) p1 (by rw [p4 b hab, hse]) (by rw [hc1]; exact h3)
        refine ⟨v, μ2, ?_, q2, q3.trans p2, ?_, fun h9 => okstep (q5 h9)⟩
        · rw [L1_X4_untilLost, if_neg h1, if_neg h3, nI_1]
          exact q1
        · rw [okL1_X4_untilLost, nI_1]
          exact ⟨fun h => absurd h h1, fun _ => ⟨fun h => absurd h h3, fun _ => q4⟩⟩
theorem p_untilLost (hR : Rl σ (m_al μ)) (ρ : QS) (ϖ : PS) (τ : DS) (hs : HS) (p1 p2 : Int32) : NC σ μ (s_X4_untilLost ρ ϖ σ τ hs p1 p2).1 (s_X5_untilLost μ p1 p2) ∧ ok_X5_untilLost μ p1 p2 ∧ ok_X4_untilLost ρ ϖ σ τ hs p1 p2 := by
  unfold s_X4_untilLost s_X5_untilLost ok_X5_untilLost ok_X4_untilLost
  rcases adr p1 with ⟨h4, h5⟩ | ⟨a, ha, rfl, h4, h5⟩
  · rw [h4, h5, if_pos rfl, if_pos rfl]
    exact ⟨NC.rf hR _, ⟨fun _ => trivial, fun h => absurd rfl h⟩, fun _ => trivial, fun h => absurd rfl h⟩
  rw [h4, h5, if_neg n10, if_neg n10]
  rcases adr p2 with ⟨g4, g5⟩ | ⟨b, hb, rfl, g4, g5⟩
  · rw [g4, g5, if_pos rfl, if_pos rfl]
    exact ⟨NC.rf hR _, ⟨fun _ => trivial, fun _ => ⟨fun _ => trivial, fun h => absurd rfl h⟩⟩, fun _ => trivial, fun _ => ⟨fun _ => trivial, fun h => absurd rfl h⟩⟩
  rw [g4, g5, if_neg n10, if_neg n10]
  by_cases hab : nI a = nI b
  · rw [if_pos hab, if_pos hab]
    exact ⟨NC.rf hR _, ⟨fun _ => trivial, fun _ => ⟨fun _ => trivial, fun _ => ⟨fun _ => trivial, fun h => absurd hab h⟩⟩⟩, fun _ => trivial, fun _ => ⟨fun _ => trivial, fun _ => ⟨fun _ => trivial, fun h => absurd hab h⟩⟩⟩
  rw [if_neg hab, if_neg hab]
  obtain ⟨hc, hcok⟩ := can hR.1 hb
  rw [hc]
  by_cases h3 : s_X0_isReadable σ (s_X0_sectorFor σ (nI b)) = 0
  · rw [if_pos h3, if_pos h3]
    exact ⟨NC.rf hR _, ⟨fun _ => trivial, fun _ => ⟨fun _ => trivial, fun _ => ⟨fun _ => trivial, fun _ => ⟨hcok, fun _ => trivial, fun h => absurd h3 h⟩⟩⟩⟩, fun _ => trivial, fun _ => ⟨fun _ => trivial, fun _ => ⟨fun _ => trivial, fun _ => ⟨fun _ => trivial, fun h => absurd h3 h⟩⟩⟩⟩
  rw [if_neg h3, if_neg h3, fresh_id]
  obtain ⟨hRk, hok⟩ := keeps_R hR
  have hck : ¬ s_X5_canBeRead (s_X5_keeps μ) (nI b) = 0 := by rw [(can hRk.1 hb).1]; exact h3
  obtain ⟨v, μ2, q1, q2, q3, q4, q5⟩ := untL (σ := σ) (μ := μ) ρ ϖ τ hs ha hb (fun e => hab (by rw [e])) 500 FU FU 0 σ (s_X5_keeps μ) (by omega) (fuel (by omega)) (fuel (by omega)) hRk rfl hck
  rw [nI_0] at q2 q5
  obtain ⟨r1, r2⟩ := back_R hR q3 v
  rw [q2]
  have e1 : (L1_X4_untilLost ρ ϖ σ τ hs (nI a) (nI b) FU 1 σ).1 = v := q1
  rw [e1]
  exact ⟨r1, ⟨fun _ => trivial, fun _ => ⟨fun _ => trivial, fun _ => ⟨fun _ => trivial, fun _ => ⟨hcok, fun h => absurd h h3, fun _ => ⟨hok, q5 r2⟩⟩⟩⟩⟩, fun _ => trivial, fun _ => ⟨fun _ => trivial, fun _ => ⟨fun _ => trivial, fun _ => ⟨fun h => absurd h h3, fun _ => q4⟩⟩⟩⟩
end QUE
