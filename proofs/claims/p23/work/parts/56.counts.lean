/-! what is told of addresses, of tracks, and of all -/
theorem sumN_add (f g : NI) : ∀ n, sumN (fun k => f k + g k) n = sumN f n + sumN g n
  | 0 => rfl
  | n + 1 => by
    show sumN (fun k => f k + g k) n + (f n + g n) = sumN f n + f n + (sumN g n + g n)
    rw [sumN_add f g n, Int32.add_assoc, Int32.add_assoc, ← Int32.add_assoc (sumN g n), Int32.add_comm (sumN g n) (f n), Int32.add_assoc]
theorem sumN_zero : ∀ n, sumN (fun _ => 0) n = 0
  | 0 => rfl
  | n + 1 => by
    show sumN (fun _ => 0) n + 0 = 0
    rw [sumN_zero n, Int32.add_zero]
/-- one place alone counts -/
theorem sumN_at {T : Nat} {x : Int32} : ∀ n, sumN (fun t => if T = t then x else 0) n = if T < n then x else 0
  | 0 => rfl
  | n + 1 => by
    show sumN (fun t => if T = t then x else 0) n + (if T = n then x else 0) = _
    rw [sumN_at n]
    by_cases h : T < n
    · rw [if_pos h, if_neg (show ¬ T = n from by omega), if_pos (show T < n + 1 from by omega), Int32.add_zero]
    · rw [if_neg h, Int32.zero_add]
      by_cases h2 : T = n
      · rw [if_pos h2, if_pos (show T < n + 1 from by omega)]
      · rw [if_neg h2, if_neg (show ¬ T < n + 1 from by omega)]
/-- by tracks and by addresses -/
theorem sumN_swap {M : Nat} (T : Nat → Nat) (x : NI) : ∀ n, (∀ a, a < n → T a < M) → sumN (fun t => sumN (fun a => if T a = t then x a else 0) n) M = sumN x n
  | 0, _ => sumN_zero M
  | n + 1, h => by
    have e : sumN (fun t => sumN (fun a => if T a = t then x a else 0) (n + 1)) M = sumN (fun t => sumN (fun a => if T a = t then x a else 0) n + (if T n = t then x n else 0)) M := rfl
    rw [e, sumN_add, sumN_swap T x n (fun a ha => h a (by omega)), sumN_at, if_pos (h n (by omega))]
    rfl
section CNT
variable {σ : DS} {K : Nat}
def hasA (σ : DS) (a : Nat) : Int32 := if vS σ (nI a) 2 = -6 then 0 else 1
def losA (σ : DS) (a : Nat) : Int32 := if vS σ (nI a) 2 = -6 then 0 else if vS σ (nI a) 6 = 1 then 0 else 1
theorem fil1 (h : Dv K σ) (p q : Int32) : ∀ (n i : Nat) (acc : Int32), i ≤ 192 → 192 - i < n → acc = sumN (fun a => if s_X0_isWithin (s_X0_sectorFor σ (nI a)) p q = 0 then 0 else hasA σ a) i → L1_X0_filledOn σ p q n acc (nI i) = sumN (fun a => if s_X0_isWithin (s_X0_sectorFor σ (nI a)) p q = 0 then 0 else hasA σ a) 192
  | 0, i, acc, h1, h2, _ => absurd h2 (Nat.not_lt_zero _)
  | n + 1, i, acc, h1, h2, ha => by
    unfold L1_X0_filledOn
    by_cases hi : i = 192
    · subst hi
      rw [if_pos (show (192 : Int32) ≤ nI 192 from Int32.le_refl _)]
      exact ha
    · have hn := le192 (i := i) (by omega)
      obtain ⟨c, hc, e, -⟩ := secD h (a := i) (by omega)
      have nx : ∀ x, x = (if s_X0_isWithin (s_X0_sectorFor σ (nI i)) p q = 0 then 0 else hasA σ i) → acc + x = sumN (fun a => if s_X0_isWithin (s_X0_sectorFor σ (nI a)) p q = 0 then 0 else hasA σ a) (i + 1) := fun x hx => by rw [ha, hx]; rfl
      have hh : s_X0_holdsNumber σ (s_X0_sectorFor σ (nI i)) = hasA σ i := by
        unfold hasA
        rw [vS2 (by omega) hc e, sfor σ (by omega), e, holN σ hc]
      rw [if_neg hn, hh, nI_1]
      by_cases h3 : s_X0_isWithin (s_X0_sectorFor σ (nI i)) p q = 0
      · rw [if_pos h3]
        exact fil1 h p q n (i + 1) acc (by omega) (by omega) (by rw [← nx 0 (by rw [if_pos h3]), Int32.add_zero])
      · rw [if_neg h3]
        by_cases h4 : hasA σ i = 0
        · rw [if_pos h4]
          exact fil1 h p q n (i + 1) acc (by omega) (by omega) (by rw [← nx 0 (by rw [if_neg h3, h4]), Int32.add_zero])
        · rw [if_neg h4]
          have h5 : hasA σ i = 1 := by
            unfold hasA at h4 ⊢
            split
            · next h9 => rw [if_pos h9] at h4; exact absurd rfl h4
            · rfl
          exact fil1 h p q n (i + 1) (acc + 1) (by omega) (by omega) (by rw [← nx 1 (by rw [if_neg h3, h5])])
theorem unr1 (h : Dv K σ) (p q : Int32) : ∀ (n i : Nat) (acc : Int32), i ≤ 192 → 192 - i < n → acc = sumN (fun a => if s_X0_isWithin (s_X0_sectorFor σ (nI a)) p q = 0 then 0 else losA σ a) i → L1_X0_unreadableOn σ p q n acc (nI i) = sumN (fun a => if s_X0_isWithin (s_X0_sectorFor σ (nI a)) p q = 0 then 0 else losA σ a) 192
  | 0, i, acc, h1, h2, _ => absurd h2 (Nat.not_lt_zero _)
  | n + 1, i, acc, h1, h2, ha => by
    unfold L1_X0_unreadableOn
    by_cases hi : i = 192
    · subst hi
      rw [if_pos (show (192 : Int32) ≤ nI 192 from Int32.le_refl _)]
      exact ha
    · have hn := le192 (i := i) (by omega)
      obtain ⟨c, hc, e, -⟩ := secD h (a := i) (by omega)
      have nx : ∀ x, x = (if s_X0_isWithin (s_X0_sectorFor σ (nI i)) p q = 0 then 0 else losA σ i) → acc + x = sumN (fun a => if s_X0_isWithin (s_X0_sectorFor σ (nI a)) p q = 0 then 0 else losA σ a) (i + 1) := fun x hx => by rw [ha, hx]; rfl
      have hl : losA σ i = if s_X0_holdsNumber σ (s_X0_sectorFor σ (nI i)) = 0 then 0 else if s_X0_isReadable σ (s_X0_sectorFor σ (nI i)) = 0 then 1 else 0 := by
        unfold losA
        rw [vS2 (by omega) hc e, vS6 (by omega) hc e, sfor σ (by omega), e, holN σ hc, rdbI hc]
        by_cases q1 : d_nu σ c = -6
        · rw [if_pos q1, if_pos q1, if_pos rfl]
        · rw [if_neg q1, if_neg q1, if_neg q1, if_neg (show ¬ (1 : Int32) = 0 from by decide)]
          by_cases q2 : d_st σ 2 ≤ d_bl σ c
          · rw [if_pos q2, if_neg (show ¬ (0 : Int32) = 1 from by decide), if_pos rfl]
          · rw [if_neg q2, if_pos rfl, if_neg (show ¬ (1 : Int32) = 0 from by decide)]
      rw [if_neg hn, nI_1]
      by_cases h3 : s_X0_isWithin (s_X0_sectorFor σ (nI i)) p q = 0
      · rw [if_pos h3]
        exact unr1 h p q n (i + 1) acc (by omega) (by omega) (by rw [← nx 0 (by rw [if_pos h3]), Int32.add_zero])
      · rw [if_neg h3]
        by_cases h4 : s_X0_holdsNumber σ (s_X0_sectorFor σ (nI i)) = 0
        · rw [if_pos h4]
          exact unr1 h p q n (i + 1) acc (by omega) (by omega) (by rw [← nx 0 (by rw [if_neg h3, hl, if_pos h4]), Int32.add_zero])
        · rw [if_neg h4]
          by_cases h5 : s_X0_isReadable σ (s_X0_sectorFor σ (nI i)) = 0
          · rw [if_pos h5]
            exact unr1 h p q n (i + 1) (acc + 1) (by omega) (by omega) (by rw [← nx 1 (by rw [if_neg h3, hl, if_neg h4, if_pos h5])])
          · rw [if_neg h5]
            exact unr1 h p q n (i + 1) acc (by omega) (by omega) (by rw [← nx 0 (by rw [if_neg h3, hl, if_neg h4, if_neg h5]), Int32.add_zero])
theorem filT (h : Dv K σ) (p q : Int32) : s_X0_filledOn σ p q = sumN (fun a => if s_X0_isWithin (s_X0_sectorFor σ (nI a)) p q = 0 then 0 else hasA σ a) 192 := by
  have h9 := fil1 h p q FU 0 0 (by omega) (fuel (by omega)) rfl
  rw [nI_0] at h9
  exact h9
theorem unrT (h : Dv K σ) (p q : Int32) : s_X0_unreadableOn σ p q = sumN (fun a => if s_X0_isWithin (s_X0_sectorFor σ (nI a)) p q = 0 then 0 else losA σ a) 192 := by
  have h9 := unr1 h p q FU 0 0 (by omega) (fuel (by omega)) rfl
  rw [nI_0] at h9
  exact h9
/-- the track of an address's sector -/
def trA (σ : DS) (a : Nat) : Nat := (d_se σ a).toNatClampNeg / 12
theorem trA_eq {a c : Nat} (e : d_se σ a = nI c) (hc : c < 204) : trA σ a = c / 12 := by
  unfold trA
  rw [e, nI_clamp (by omega)]
theorem witA (h : Dv K σ) {a : Nat} (ha : a < 192) : ¬ s_X0_isWithin (s_X0_sectorFor σ (nI a)) 0 16 = 0 := by
  obtain ⟨c, hc, e, -⟩ := secD h ha
  rw [sfor σ ha, e]
  exact (Wi_a c hc).mp (Or.inl rfl)
theorem witT (h : Dv K σ) {a t : Nat} (ha : a < 192) (ht : t < 17) : (¬ s_X0_isWithin (s_X0_sectorFor σ (nI a)) (nI t) (nI t) = 0) ↔ trA σ a = t := by
  obtain ⟨c, hc, e, -⟩ := secD h ha
  rw [sfor σ ha, e, trA_eq e hc, ← Wi_t ht c hc, dv12 (by omega)]
  refine ⟨fun q => q.elim (fun x => absurd x (n6_ne (by omega))) (fun x => nI_inj (by omega) (by omega) x), fun q => Or.inr (by rw [q])⟩
theorem c9_eq (h : Dv K σ) : vC σ 9 = sumN (hasA σ) 192 := by
  rw [vC9, filT h]
  exact sumN_congr (fun a ha => if_neg (witA h ha))
theorem c10_eq (h : Dv K σ) : vC σ 10 = sumN (losA σ) 192 := by
  rw [vC10, unrT h]
  exact sumN_congr (fun a ha => if_neg (witA h ha))
theorem trk1 {t : Nat} (ht : t < 17) : ¬ s_X4_isTrack (nI t) = 0 := by
  unfold s_X4_isTrack
  rw [if_neg (nI_pos (by omega)), if_neg (show ¬ (16 : Int32) < nI t from nI_nlt (a := 16) (by omega) (by omega))]
  decide
theorem vT0 {t : Nat} (ht : t < 17) : vT σ (nI t) 0 = s_X0_filledOn σ (nI t) (nI t) := by
  unfold vT s_X4_track
  rw [if_neg (trk1 ht), if_pos rfl]
theorem vT1 {t : Nat} (ht : t < 17) : vT σ (nI t) 1 = s_X0_unreadableOn σ (nI t) (nI t) := by
  unfold vT s_X4_track
  rw [if_neg (trk1 ht), if_neg (by decide), if_pos rfl]
theorem vT3 {t : Nat} (ht : t < 17) : vT σ (nI t) 3 = tsum (d_wr σ) t := by
  unfold vT s_X4_track
  rw [if_neg (trk1 ht), if_neg (by decide), if_neg (by decide), if_neg (by decide), if_pos rfl]
  exact (sumT (d_wr σ) ht).1
theorem trA_lt (h : Dv K σ) {a : Nat} (ha : a < 192) : trA σ a < 17 := by
  obtain ⟨c, hc, e, -⟩ := secD h ha
  rw [trA_eq e hc]
  omega
theorem on_eq (h : Dv K σ) : sumN (fun t => vT σ (nI t) 0) 17 = sumN (hasA σ) 192 := by
  rw [← sumN_swap (M := 17) (trA σ) (hasA σ) 192 (fun a ha => trA_lt h ha)]
  refine sumN_congr (fun t ht => ?_)
  rw [vT0 ht, filT h]
  refine sumN_congr (fun a ha => ?_)
  have hw := witT h ha ht
  by_cases q : trA σ a = t
  · rw [if_neg (hw.mpr q), if_pos q]
  · rw [if_pos (Classical.byContradiction fun z => q (hw.mp z)), if_neg q]
theorem off_eq (h : Dv K σ) : sumN (fun t => vT σ (nI t) 1) 17 = sumN (losA σ) 192 := by
  rw [← sumN_swap (M := 17) (trA σ) (losA σ) 192 (fun a ha => trA_lt h ha)]
  refine sumN_congr (fun t ht => ?_)
  rw [vT1 ht, unrT h]
  refine sumN_congr (fun a ha => ?_)
  have hw := witT h ha ht
  by_cases q : trA σ a = t
  · rw [if_neg (hw.mpr q), if_pos q]
  · rw [if_pos (Classical.byContradiction fun z => q (hw.mp z)), if_neg q]
theorem wri_eq : sumN (fun t => vT σ (nI t) 3) 17 = tot (d_wr σ) := by
  show sumN (fun t => vT σ (nI t) 3) 16 + vT σ (nI 16) 3 = sumN (tsum (d_wr σ)) 16 + tsum (d_wr σ) 16
  rw [vT3 (by omega), sumN_congr (g := fun t => vT σ (nI t) 3) (h := tsum (d_wr σ)) (fun t ht => vT3 (by omega))]
/-- the writings on land, as the law adds them up -/
def lanA (σ : DS) (t : Nat) : Int32 := if 16 ≤ nI t then 0 else if jrem (nI t) 2 = 0 then vT σ (nI t) 3 else 0
theorem lan_eq : sumN (lanA σ) 17 = lnd (d_wr σ) := by
  show sumN (lanA σ) 16 + lanA σ 16 = lnd (d_wr σ)
  have e : lanA σ 16 = 0 := if_pos (show (16 : Int32) ≤ nI 16 from Int32.le_refl _)
  rw [e, Int32.add_zero]
  refine sumN_congr (fun t ht => ?_)
  unfold lanA
  rw [if_neg (le16 ht), jr2 (by omega), vT3 (by omega)]
  by_cases q : t % 2 = 0
  · rw [q, if_pos nI_0, if_pos rfl]
  · rw [if_neg (show ¬ nI (t % 2) = 0 from fun z => q (nI_inj (a := t % 2) (b := 0) (by omega) (by omega) z)), if_neg q]
theorem evod (g : NI) : ∀ n, sumN g n = sumN (fun t => if t % 2 = 0 then g t else 0) n + sumN (fun t => if t % 2 = 1 then g t else 0) n := by
  intro n
  rw [← sumN_add]
  refine sumN_congr (fun k _ => ?_)
  by_cases q : k % 2 = 0
  · rw [if_pos q, if_neg (show ¬ k % 2 = 1 from by omega), Int32.add_zero]
  · rw [if_neg q, if_pos (show k % 2 = 1 from by omega), Int32.zero_add]
theorem gro_eq : tot (d_wr σ) - lnd (d_wr σ) - tsum (d_wr σ) 16 = grv (d_wr σ) := by
  have e : sumN (tsum (d_wr σ)) 16 = lnd (d_wr σ) + grv (d_wr σ) := evod (tsum (d_wr σ)) 16
  unfold tot
  rw [e, sub_iff, sub_iff, Int32.add_assoc, Int32.add_comm (lnd (d_wr σ))]
/-- the greatest blur, as the law finds it -/
def greA (σ : DS) : Nat → Int32
  | 0 => 0
  | n + 1 => if vS σ (nI n) 3 ≤ greA σ n then greA σ n else vS σ (nI n) 3
theorem gre1 (h : Dv K σ) : ∀ (n i : Nat) (acc : Int32), i ≤ 192 → 192 - i < n → acc = greA σ i → L1_X0_greatestBlur σ n acc (nI i) = greA σ 192
  | 0, i, acc, h1, h2, _ => absurd h2 (Nat.not_lt_zero _)
  | n + 1, i, acc, h1, h2, ha => by
    unfold L1_X0_greatestBlur
    by_cases hi : i = 192
    · subst hi
      rw [if_pos (show (192 : Int32) ≤ nI 192 from Int32.le_refl _)]
      exact ha
    · have hn := le192 (i := i) (by omega)
      obtain ⟨c, hc, e, -⟩ := secD h (a := i) (by omega)
      rw [if_neg hn, nI_1]
      refine gre1 h n (i + 1) _ (by omega) (by omega) ?_
      show jmax acc (s_X0_blurOf σ (s_X0_sectorFor σ (nI i))) = if vS σ (nI i) 3 ≤ greA σ i then greA σ i else vS σ (nI i) 3
      rw [sfor σ (by omega), e, bluI σ hc, vS3 (by omega) hc e, ha]
      show (if greA σ i < d_bl σ c then d_bl σ c else greA σ i) = _
      by_cases q : d_bl σ c ≤ greA σ i
      · rw [if_pos q, if_neg (Int32.not_lt.mpr q)]
      · rw [if_neg q, if_pos (Int32.not_le.mp q)]
theorem c15_eq (h : Dv K σ) : vC σ 15 = greA σ 192 := by
  rw [vC15]
  have h9 := gre1 h FU 0 0 (by omega) (fuel (by omega)) rfl
  rw [nI_0] at h9
  exact h9
/-- the worst address, as the law finds it -/
def worA (σ : DS) : Nat → Int32
  | 0 => -6
  | n + 1 => if vS σ (nI n) 6 = 1 then (if worA σ n = -6 then nI n else if vS σ (nI n) 3 ≤ vS σ (worA σ n) 3 then worA σ n else nI n) else worA σ n
theorem wor1 (h : Dv K σ) : ∀ (n i : Nat) (b g : Int32), i ≤ 192 → 192 - i < n → b = worA σ i → ((b = -6 ∧ g = -1) ∨ ∃ a, a < 192 ∧ b = nI a ∧ g = vS σ (nI a) 3) → L1_X4_worst q0 p0 σ d0 h0 n b g (nI i) = worA σ 192
  | 0, i, b, g, h1, h2, _, _ => absurd h2 (Nat.not_lt_zero _)
  | n + 1, i, b, g, h1, h2, hb, hg => by
    unfold L1_X4_worst
    by_cases hi : i = 192
    · subst hi
      rw [if_pos (show (192 : Int32) ≤ nI 192 from Int32.le_refl _)]
      exact hb
    · have hn := le192 (i := i) (by omega)
      obtain ⟨c, hc, e, -⟩ := secD h (a := i) (by omega)
      have e6 : vS σ (nI i) 6 = s_X0_isReadable σ (nI c) := by rw [vS6 (by omega) hc e, rdbI hc]
      have e3 : vS σ (nI i) 3 = d_bl σ c := vS3 (by omega) hc e
      rw [if_neg hn, nI_1, sfor σ (by omega), e, bluI σ hc]
      have nx : worA σ (i + 1) = if vS σ (nI i) 6 = 1 then (if worA σ i = -6 then nI i else if vS σ (nI i) 3 ≤ vS σ (worA σ i) 3 then worA σ i else nI i) else worA σ i := rfl
      by_cases h3 : s_X0_isReadable σ (nI c) = 0
      · rw [if_pos h3]
        exact wor1 h n (i + 1) b g (by omega) (by omega) (by rw [nx, e6, h3, if_neg (show ¬ (0 : Int32) = 1 from by decide)]; exact hb) hg
      · have h4 : s_X0_isReadable σ (nI c) = 1 := by
          rw [rdbI hc] at h3 ⊢
          by_cases q : d_nu σ c = -6
          · rw [if_pos q] at h3
            exact absurd rfl h3
          · rw [if_neg q] at h3 ⊢
            by_cases q2 : d_st σ 2 ≤ d_bl σ c
            · rw [if_pos q2] at h3
              exact absurd rfl h3
            · rw [if_neg q2]
        rw [if_neg h3]
        rw [e6, h4, if_pos rfl, e3, ← hb] at nx
        rcases hg with ⟨rfl, rfl⟩ | ⟨a, ha, rfl, rfl⟩
        · obtain ⟨x, hx, ex⟩ := h.2.2.2.2.2.2.2.2.1 c hc
          have h5 : ¬ d_bl σ c ≤ -1 := by
            rw [ex]
            exact fun z => nI_pos (n := x) (by omega) (Int32.lt_of_le_of_lt z (by decide))
          rw [if_neg h5]
          rw [if_pos rfl] at nx
          exact wor1 h n (i + 1) (nI i) (d_bl σ c) (by omega) (by omega) nx.symm (Or.inr ⟨i, by omega, rfl, e3.symm⟩)
        · rw [if_neg (n6_ne (by omega))] at nx
          by_cases h6 : d_bl σ c ≤ vS σ (nI a) 3
          · rw [if_pos h6]
            rw [if_pos h6] at nx
            exact wor1 h n (i + 1) (nI a) (vS σ (nI a) 3) (by omega) (by omega) nx.symm (Or.inr ⟨a, ha, rfl, rfl⟩)
          · rw [if_neg h6]
            rw [if_neg h6] at nx
            exact wor1 h n (i + 1) (nI i) (d_bl σ c) (by omega) (by omega) nx.symm (Or.inr ⟨i, by omega, rfl, e3.symm⟩)
theorem vW_eq (h : Dv K σ) : vW σ = worA σ 192 := by
  have h9 := wor1 h FU 0 (-6) (-1) (by omega) (fuel (by omega)) rfl (Or.inl ⟨rfl, rfl⟩)
  rw [nI_0] at h9
  exact h9
/-- how many addresses have a spare -/
theorem spa_eq (h : Dv K σ) : ∀ n, n ≤ 192 → sumN (fun a => vS σ (nI a) 5) n = nI (cnS (d_se σ) n)
  | 0, _ => rfl
  | n + 1, hn => by
    obtain ⟨c, hc, e, hd⟩ := secD h (a := n) (by omega)
    show sumN (fun a => vS σ (nI a) 5) n + vS σ (nI n) 5 = nI (cnS (d_se σ) n + (if d_se σ n = nI n then 0 else 1))
    rw [spa_eq h n (by omega), vS5 (by omega) hc e, ← nI_add, e]
    congr 1
    by_cases q : c < 192
    · have : c = n := by omega
      subst this
      rw [if_pos q, if_pos rfl]
      rfl
    · rw [if_neg q, if_neg (fun z => q (by have := nI_inj (by omega) (by omega) z; omega))]
      rfl
theorem spa_le (h : Dv K σ) : ¬ (12 - vC σ 8) < sumN (fun a => vS σ (nI a) 5) 192 := by
  obtain ⟨s, hs, hsp, -, -, -, hcn⟩ := h.2.2.2.2.2.2.2.2.2
  have e12 : (12 : Int32) - nI s = nI (12 - s) := pk_sub (a := 12) (b := s) hs
  have e13 : (12 : Int32) - nI (12 - s) = nI s := by
    have := pk_sub (a := 12) (b := 12 - s) (by omega)
    rw [show 12 - (12 - s) = s from by omega] at this
    exact this
  rw [spa_eq h 192 (by omega), vC8, hsp, e12, e13]
  exact nI_nlt (by omega) (by omega)
end CNT
