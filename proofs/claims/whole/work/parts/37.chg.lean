/-! the changes: set, write, read, refresh, seek, idle -/
def Ch (α : Nat → Nat) (R : Nat → Option XD) (o n : Nat) (σ : DS) (μ : MS) (a0 : Int32) (τ : DS) (r5 : Int32 × MS) : Prop :=
  r5.1 = a0 ∧ Fs μ r5.2 ∧ (a0 < 0 → Rl σ (m_al r5.2) ∧ HI R o n r5.2) ∧ (¬ a0 < 0 → Rl τ (m_al r5.2) ∧ HI (va_up R ((o + n) % 6) (some (α, σ))) (kO o n) (kN n) r5.2)
theorem al_2 (μ : MS) (x : NI) : (m_al' μ x).2 = μ.2 := rfl
theorem al_al (μ : MS) (x y : NI) : m_al' (m_al' μ x) y = m_al' μ y := rfl
theorem al_get (μ : MS) (x : NI) : m_al (m_al' μ x) = x := rfl
theorem n1 : (-1 : Int32) < 0 := by decide
theorem n2 : (-2 : Int32) < 0 := by decide
theorem n3 : (-3 : Int32) < 0 := by decide
theorem n4 : (-4 : Int32) < 0 := by decide
theorem n5 : (-5 : Int32) < 0 := by decide
section CHG
variable {α : Nat → Nat} {R : Nat → Option XD} {o n : Nat} {σ : DS} {μ : MS}
theorem Ch.err (hR : Rl σ (m_al μ)) (hH : HI R o n μ) {e : Int32} (he : e < 0) (τ : DS) : Ch α R o n σ μ e τ (e, μ) := ⟨rfl, Fs.rf, fun _ => ⟨hR, hH⟩, fun h => absurd he h⟩
theorem Ch.ends (hR : Rl σ (m_al μ)) (hH : HI R o n μ) {μ1 : MS} {told : Int32} {σ1 : DS} (h2 : μ1.2 = (s_X5_keeps μ).2) (hR1 : Rl σ1 (m_al μ1)) : Ch α R o n σ μ told σ1 ((s_X5_ends μ1 told).1, (s_X5_ends μ1 told).2) ∧ ok_X5_ends μ1 told := by
  obtain ⟨g, e1, e2, -⟩ := keeps_ok μ
  rw [e1] at h2
  have hs : Fs μ μ1 := Fs.tr (μ1 := m_ke' μ g) ⟨rfl, rfl, rfl, rfl⟩ (Fs.of h2)
  have hh : Fh μ μ1 := Fh.tr (μ1 := m_ke' μ g) ⟨rfl, rfl⟩ (Fh.of h2)
  have hk : ∀ k, k < 816 → m_ke μ1 k = m_al μ k := by
    intro k hk
    have : m_ke μ1 = g := by unfold m_ke; rw [h2]; rfl
    rw [this]
    exact e2 k hk
  obtain ⟨q1, q2, q3, q4, q5⟩ := ends_ok α told hk hs hh hH hR hR1
  exact ⟨⟨q1, q3, q4, q5⟩, q2⟩
theorem keeps_R (hR : Rl σ (m_al μ)) : Rl σ (m_al (s_X5_keeps μ)) ∧ ok_X5_keeps μ := by
  obtain ⟨g, e1, e2, e3⟩ := keeps_ok μ
  rw [e1]
  exact ⟨hR, e3⟩
theorem keeps_al (μ : MS) : m_al (s_X5_keeps μ) = m_al μ := by
  obtain ⟨g, e1, e2, e3⟩ := keeps_ok μ
  rw [e1]
  rfl
theorem pair_eta {A B : Type} (x : A × B) : (x.1, x.2) = x := rfl
theorem p_write (hR : Rl σ (m_al μ)) (hH : HI R o n μ) (ρ : QS) (ϖ : PS) (τ : DS) (hs : HS) (p1 p2 : Int32) : Ch α R o n σ μ (s_X4_write ρ ϖ σ τ hs p1 p2).1 (s_X4_write ρ ϖ σ τ hs p1 p2).2 (s_X5_write μ p1 p2) ∧ ok_X5_write μ p1 p2 := by
  unfold s_X4_write s_X5_write ok_X5_write
  rcases adr p1 with ⟨h4, h5⟩ | ⟨a, ha, rfl, h4, h5⟩
  · rw [h4, h5, if_pos rfl, if_pos rfl]
    exact ⟨Ch.err hR hH (by first | exact n1 | exact n2 | exact n3 | exact n4 | exact n5) τ, fun _ => trivial, fun h => absurd rfl h⟩
  rw [h4, h5, if_neg (show ¬ (1 : Int32) = 0 from by decide), if_neg (show ¬ (1 : Int32) = 0 from by decide), fresh_id]
  have e0 : s_X5_in p2.toInt64 0 255 = if p2 < 0 then 0 else if 255 < p2 then 0 else 1 := in_eq p2 0 255
  rw [e0]
  by_cases h1 : p2 < 0
  · rw [if_pos h1, if_pos h1, if_pos rfl]
    exact ⟨Ch.err hR hH (by first | exact n1 | exact n2 | exact n3 | exact n4 | exact n5) τ, fun _ => by decide, fun _ => ⟨fun _ => trivial, fun h => absurd rfl h⟩⟩
  rw [if_neg h1, if_neg h1]
  by_cases h2 : p2 ≤ 255
  · rw [if_pos h2, if_neg (Int32.not_lt.mpr h2), if_neg (show ¬ (1 : Int32) = 0 from by decide)]
    obtain ⟨hRk, hok⟩ := keeps_R hR
    obtain ⟨⟨q1, q2, q3⟩, q4⟩ := dow hRk ha p2
    obtain ⟨f1, f2⟩ := Ch.ends (α := α) hR hH (told := (s_X5_doWrite (s_X5_keeps μ) (nI a) p2).1) q3 q2
    rw [q1]
    exact ⟨f1, fun h => absurd h (by decide), fun _ => ⟨fun h => absurd h (by decide), fun _ => ⟨hok, q4, f2⟩⟩⟩
  · rw [if_neg h2, if_pos (Int32.not_le.mp h2), if_pos rfl]
    exact ⟨Ch.err hR hH (by first | exact n1 | exact n2 | exact n3 | exact n4 | exact n5) τ, fun _ => by decide, fun _ => ⟨fun _ => trivial, fun h => absurd rfl h⟩⟩
theorem p_read (hR : Rl σ (m_al μ)) (hH : HI R o n μ) (ρ : QS) (ϖ : PS) (τ : DS) (hs : HS) (p1 : Int32) : Ch α R o n σ μ (s_X4_read ρ ϖ σ τ hs p1).1 (s_X4_read ρ ϖ σ τ hs p1).2 (s_X5_read μ p1) ∧ ok_X5_read μ p1 := by
  unfold s_X4_read s_X5_read ok_X5_read
  rcases adr p1 with ⟨h4, h5⟩ | ⟨a, ha, rfl, h4, h5⟩
  · rw [h4, h5, if_pos rfl, if_pos rfl]
    exact ⟨Ch.err hR hH (by first | exact n1 | exact n2 | exact n3 | exact n4 | exact n5) τ, fun _ => trivial, fun h => absurd rfl h⟩
  rw [h4, h5, if_neg (show ¬ (1 : Int32) = 0 from by decide), if_neg (show ¬ (1 : Int32) = 0 from by decide), fresh_id]
  obtain ⟨hRk, hok⟩ := keeps_R hR
  obtain ⟨⟨q1, q2, q3⟩, q4⟩ := dor hRk ha
  obtain ⟨f1, f2⟩ := Ch.ends (α := α) hR hH (told := (s_X5_doRead (s_X5_keeps μ) (nI a)).1) q3 q2
  rw [q1]
  exact ⟨f1, fun h => absurd h (by decide), fun _ => ⟨hok, q4, f2⟩⟩
theorem p_refresh (hR : Rl σ (m_al μ)) (hH : HI R o n μ) (ρ : QS) (ϖ : PS) (τ : DS) (hs : HS) (p1 : Int32) : Ch α R o n σ μ (s_X4_refresh ρ ϖ σ τ hs p1).1 (s_X4_refresh ρ ϖ σ τ hs p1).2 (s_X5_refresh μ p1) ∧ ok_X5_refresh μ p1 := by
  rcases adr p1 with ⟨h4, h5⟩ | ⟨a, ha, rfl, h4, h5⟩
  · unfold s_X4_refresh s_X5_refresh ok_X5_refresh
    rw [h4, h5, if_pos rfl, if_pos rfl]
    exact ⟨Ch.err hR hH (by first | exact n1 | exact n2 | exact n3 | exact n4 | exact n5) τ, fun _ => trivial, fun h => absurd rfl h⟩
  unfold s_X5_refresh ok_X5_refresh
  rw [h5, if_neg (show ¬ (1 : Int32) = 0 from by decide)]
  obtain ⟨hRk, hok⟩ := keeps_R hR
  obtain ⟨⟨q1, q2, q3⟩, q4⟩ := dorf hRk ha ρ ϖ τ hs
  obtain ⟨f1, f2⟩ := Ch.ends (α := α) hR hH (told := (s_X5_doRefresh (s_X5_keeps μ) (nI a)).1) q3 q2
  rw [q1]
  exact ⟨f1, fun h => absurd h (by decide), fun _ => ⟨hok, q4, f2⟩⟩
theorem Rl_tk (hR : Rl σ (m_al μ)) {T : Nat} (hT : T ≤ 9999999) {x : Int32} (hx : x = nI T) : Rl (d_tk' σ x) (upd (m_al μ) 5 x) := by
  refine ⟨R_tk hR.1 hT hx, ?_, ?_, ?_⟩
  · exact (pk_un (f := m_al μ) (k := 5) (j := 8) (x := x) (by omega)).trans hR.2.1
  · exact (pk_un (f := m_al μ) (k := 5) (j := 10) (x := x) (by omega)).trans hR.2.2.1
  · exact (pk_un (f := m_al μ) (k := 5) (j := 11) (x := x) (by omega)).trans hR.2.2.2
theorem p_idle (hR : Rl σ (m_al μ)) (hH : HI R o n μ) (ρ : QS) (ϖ : PS) (τ : DS) (hs : HS) (p1 : Int32) : Ch α R o n σ μ (s_X4_idle ρ ϖ σ τ hs p1).1 (s_X4_idle ρ ϖ σ τ hs p1).2 (s_X5_idle μ p1) ∧ ok_X5_idle μ p1 := by
  unfold s_X4_idle s_X5_idle ok_X5_idle
  have e0 : s_X5_in p1.toInt64 1 9999 = if p1 < 1 then 0 else if 9999 < p1 then 0 else 1 := in_eq p1 1 9999
  rw [e0, fresh_id]
  by_cases h1 : p1 < 1
  · rw [if_pos h1, if_pos h1, if_pos rfl]
    exact ⟨Ch.err hR hH (by first | exact n1 | exact n2 | exact n3 | exact n4 | exact n5) τ, fun _ => trivial, fun h => absurd rfl h⟩
  rw [if_neg h1, if_neg h1]
  by_cases h2 : p1 ≤ 9999
  · rw [if_pos h2, if_neg (Int32.not_lt.mpr h2), if_neg (show ¬ (1 : Int32) = 0 from by decide)]
    obtain ⟨k, hk, rfl⟩ := nI_of2 (x := p1) (M := 9999) (n := 9999) rfl (fun h => h1 (Int32.lt_trans h (by decide))) h2
    obtain ⟨hRk, hok⟩ := keeps_R hR
    obtain ⟨t1, t2⟩ := tim hR.1 (k := k) (by omega)
    unfold s_X0_waitFor
    rw [k5]
    by_cases ht : m_al μ 5 + nI k ≤ 9999999
    · obtain ⟨T, hT, eT⟩ := t2 ht
      rw [if_pos ht, if_neg (fun h => (t1.mp h) ht)]
      have hj : jinc (m_al (s_X5_keeps μ)) 5 (nI k) = upd (m_al μ) 5 (d_tk σ + nI k) := by
        unfold jinc
        rw [keeps_al, k5, hR.1.2.1.1]
      have hR1 : Rl (s_X0_pass σ (nI k) (d_hd σ)) (m_al (m_al' (s_X5_keeps μ) (jinc (m_al (s_X5_keeps μ)) 5 (nI k)))) := by
        rw [hj]
        exact Rl_tk hR hT eT
      obtain ⟨f1, f2⟩ := Ch.ends (α := α) hR hH (told := s_X0_sectorUnderHead (s_X0_pass σ (nI k) (d_hd σ))) (μ1 := m_al' (s_X5_keeps μ) (jinc (m_al (s_X5_keeps μ)) 5 (nI k))) (al_2 _ _) hR1
      have ea : jrem (jinc (m_al (s_X5_keeps μ)) 5 (nI k) 5) 12 = s_X0_sectorUnderHead (s_X0_pass σ (nI k) (d_hd σ)) := by
        rw [hj, pk_us]
        rfl
      unfold t1_X5_idle
      rw [k5, ea]
      exact ⟨f1, fun h => absurd h (by decide), fun _ => ⟨fun _ => ⟨hok, f2⟩, fun h => absurd ht h⟩⟩
    · rw [if_neg ht, if_pos (t1.mpr ht)]
      exact ⟨Ch.err hR hH (by first | exact n1 | exact n2 | exact n3 | exact n4 | exact n5) _, fun h => absurd h (by decide), fun _ => ⟨fun h => absurd h ht, fun _ => trivial⟩⟩
  · rw [if_neg h2, if_pos (Int32.not_le.mp h2), if_pos rfl]
    exact ⟨Ch.err hR hH (by first | exact n1 | exact n2 | exact n3 | exact n4 | exact n5) τ, fun _ => trivial, fun h => absurd rfl h⟩
theorem p_seek (hR : Rl σ (m_al μ)) (hH : HI R o n μ) (ρ : QS) (ϖ : PS) (τ : DS) (hs : HS) (p1 : Int32) : Ch α R o n σ μ (s_X4_seek ρ ϖ σ τ hs p1).1 (s_X4_seek ρ ϖ σ τ hs p1).2 (s_X5_seek μ p1) ∧ ok_X5_seek μ p1 := by
  unfold s_X4_seek s_X5_seek ok_X5_seek
  rcases trk p1 with ⟨h4, h5⟩ | ⟨q, hq, rfl, h4, h5⟩
  · rw [h4, h5, if_pos rfl, if_pos rfl]
    exact ⟨Ch.err hR hH (by first | exact n1 | exact n2 | exact n3 | exact n4 | exact n5) τ, fun _ => trivial, fun h => absurd rfl h⟩
  rw [h4, h5, if_neg (show ¬ (1 : Int32) = 0 from by decide), if_neg (show ¬ (1 : Int32) = 0 from by decide), fresh_id, k4, k5, k6]
  obtain ⟨hst, ⟨e5, e6, -⟩, -, -, -, -, -, ⟨h, hh, eh⟩, ⟨t, ht, et⟩, -⟩ := id hR.1
  obtain ⟨w, hw⟩ : ∃ w, w = if h ≤ q then q - h else h - q := ⟨_, rfl⟩
  have hw16 : w ≤ 16 := by rw [hw]; split <;> omega
  have hm : t * w ≤ 320 := by
    have := Nat.mul_le_mul ht hw16
    omega
  have e0 : s_X0_ticksToTrack σ (nI q) = nI (t * w) := by
    unfold s_X0_ticksToTrack
    rw [setI4, et, eh, jab (by omega) (by omega), ← hw, pk_mul]
  obtain ⟨hRk, hok⟩ := keeps_R hR
  obtain ⟨t1, t2⟩ := tim hR.1 (k := t * w) (by omega)
  have hpos : ¬ nI (t * w) < 0 := nI_pos (by omega)
  unfold s_X0_moveHead
  rw [e0, hst 4 (by omega), e6, et, eh]
  have core : ∀ (μ2 : MS), μ2 = m_al' (s_X5_keeps μ) (upd (upd (m_al μ) 5 (d_tk σ + nI (t * w))) 6 (nI q)) → m_al μ 5 + nI (t * w) ≤ 9999999 → Ch α R o n σ μ (nI (t * w)) (s_X0_pass σ (nI (t * w)) (nI q)) ((s_X5_ends μ2 (nI (t * w))).1, (s_X5_ends μ2 (nI (t * w))).2) ∧ ok_X5_ends μ2 (nI (t * w)) := by
    intro μ2 hμ2 h9
    obtain ⟨T, hT, eT⟩ := t2 h9
    refine Ch.ends hR hH (by rw [hμ2]; exact al_2 _ _) ?_
    rw [hμ2]
    exact goRl hR hT eT (h := q) (by omega) rfl
  by_cases hc : h ≤ q
  · have ew : nI q - nI h = nI w := by rw [pk_sub hc, hw, if_pos hc]
    rw [ew, if_pos (nI_pos' (by omega)), pk_mul]
    by_cases h9 : m_al μ 5 + nI (t * w) ≤ 9999999
    · rw [if_pos h9, if_neg (fun h => (t1.mp h) h9)]
      obtain ⟨f1, f2⟩ := core (t2_X5_seek μ (nI q)) (by
        unfold t2_X5_seek t1_X5_seek
        rw [k4, k6, hst 4 (by omega), e6, et, eh, ew, pk_mul]
        unfold jinc
        rw [keeps_al, k5, e5, al_get, al_al]) h9
      have e3 : t3_X5_seek μ (nI q) = (s_X5_ends (t2_X5_seek μ (nI q)) (nI (t * w))).2 := by
        unfold t3_X5_seek
        rw [k4, k6, hst 4 (by omega), e6, et, eh, ew, pk_mul]
      rw [e3]
      exact ⟨f1, fun h => absurd h (by decide), fun _ => ⟨fun _ => ⟨fun _ => ⟨hok, f2⟩, fun h => absurd h9 h⟩, fun h => absurd (nI_pos' (by omega)) h⟩⟩
    · rw [if_neg h9, if_pos (t1.mpr h9)]
      exact ⟨Ch.err hR hH (by first | exact n1 | exact n2 | exact n3 | exact n4 | exact n5) _, fun h => absurd h (by decide), fun _ => ⟨fun _ => ⟨fun h => absurd h h9, fun _ => trivial⟩, fun h => absurd (nI_pos' (by omega)) h⟩⟩
  · have ew : -(nI q - nI h) = nI w := by rw [Int32.neg_sub, pk_sub (by omega), hw, if_neg hc]
    have hn : ¬ 0 ≤ nI q - nI h := Int32.not_le.mpr (pk_sneg (by omega) (by omega))
    rw [if_neg hn, ew, pk_mul]
    by_cases h9 : m_al μ 5 + nI (t * w) ≤ 9999999
    · rw [if_pos h9, if_neg (fun h => (t1.mp h) h9)]
      obtain ⟨f1, f2⟩ := core (t5_X5_seek μ (nI q)) (by
        unfold t5_X5_seek t4_X5_seek
        rw [k4, k6, hst 4 (by omega), e6, et, eh, ew, pk_mul]
        unfold jinc
        rw [keeps_al, k5, e5, al_get, al_al]) h9
      have e3 : t6_X5_seek μ (nI q) = (s_X5_ends (t5_X5_seek μ (nI q)) (nI (t * w))).2 := by
        unfold t6_X5_seek
        rw [k4, k6, hst 4 (by omega), e6, et, eh, ew, pk_mul]
      rw [e3]
      exact ⟨f1, fun h => absurd h (by decide), fun _ => ⟨fun h => absurd h hn, fun _ => ⟨fun _ => ⟨hok, f2⟩, fun h => absurd h9 h⟩⟩⟩
    · rw [if_neg h9, if_pos (t1.mpr h9)]
      exact ⟨Ch.err hR hH (by first | exact n1 | exact n2 | exact n3 | exact n4 | exact n5) _, fun h => absurd h (by decide), fun _ => ⟨fun h => absurd h hn, fun _ => ⟨fun h => absurd h h9, fun _ => trivial⟩⟩⟩
/-! set -/
theorem set_one (hR : Rl σ (m_al μ)) (hH : HI R o n μ) (τ : DS) {j : Nat} (hj : j < 5) (p2 lo hi : Int32) (hv : j = 0 ∨ j = 1 ∨ j = 4 → lo = 0 ∧ hi = 20) :
    Ch α R o n σ μ (if p2 < lo then ((-2), τ) else if p2 ≤ hi then (d_st σ j, d_st' σ (upd (d_st σ) j p2)) else ((-2), τ)).1 (if p2 < lo then ((-2), τ) else if p2 ≤ hi then (d_st σ j, d_st' σ (upd (d_st σ) j p2)) else ((-2), τ)).2 (if s_X5_in p2.toInt64 lo.toInt64 hi.toInt64 = 0 then ((-2), μ) else ((s_X5_ends (t1_X5_set μ (nI j) p2) (m_al (s_X5_keeps μ) (nI j).toNatClampNeg)).1, t2_X5_set μ (nI j) p2)) ∧
    ((s_X5_in p2.toInt64 lo.toInt64 hi.toInt64 = 0 → True) ∧ (¬ s_X5_in p2.toInt64 lo.toInt64 hi.toInt64 = 0 → (ok_X5_keeps μ ∧ (vp_in (nI j) 816 ∧ ok_X5_ends (t1_X5_set μ (nI j) p2) (m_al (s_X5_keeps μ) (nI j).toNatClampNeg))))) := by
  rw [in_eq]
  by_cases h1 : p2 < lo
  · rw [if_pos h1, if_pos h1, if_pos rfl]
    exact ⟨Ch.err hR hH (by first | exact n1 | exact n2 | exact n3 | exact n4 | exact n5) τ, fun _ => trivial, fun h => absurd rfl h⟩
  rw [if_neg h1, if_neg h1]
  by_cases h2 : p2 ≤ hi
  · rw [if_pos h2, if_neg (Int32.not_lt.mpr h2), if_neg (show ¬ (1 : Int32) = 0 from by decide)]
    obtain ⟨hRk, hok⟩ := keeps_R hR
    have e1 : t1_X5_set μ (nI j) p2 = m_al' (s_X5_keeps μ) (upd (m_al μ) j p2) := by
      unfold t1_X5_set
      rw [keeps_al, nI_clamp (by omega)]
    have e2 : m_al (s_X5_keeps μ) (nI j).toNatClampNeg = d_st σ j := by rw [keeps_al, nI_clamp (by omega), hR.1.1 j hj]
    have e3 : t2_X5_set μ (nI j) p2 = (s_X5_ends (t1_X5_set μ (nI j) p2) (d_st σ j)).2 := by
      unfold t2_X5_set
      rw [e2]
    have hR1 : Rl (d_st' σ (upd (d_st σ) j p2)) (m_al (t1_X5_set μ (nI j) p2)) := by
      rw [e1]
      refine ⟨R_st hR.1 hj (fun h => ?_), ?_, ?_, ?_⟩
      · obtain ⟨rfl, rfl⟩ := hv h
        exact nI_of2 (x := p2) (M := 20) (n := 20) rfl h1 h2
      · exact (pk_un (f := m_al μ) (k := j) (j := 8) (x := p2) (by omega)).trans hR.2.1
      · exact (pk_un (f := m_al μ) (k := j) (j := 10) (x := p2) (by omega)).trans hR.2.2.1
      · exact (pk_un (f := m_al μ) (k := j) (j := 11) (x := p2) (by omega)).trans hR.2.2.2
    obtain ⟨f1, f2⟩ := Ch.ends (α := α) hR hH (told := d_st σ j) (μ1 := t1_X5_set μ (nI j) p2) (by rw [e1]; exact al_2 _ _) hR1
    rw [e2, e3]
    exact ⟨f1, fun h => absurd h (by decide), fun _ => ⟨hok, vp_in_nI (by omega) (by decide), f2⟩⟩
  · rw [if_neg h2, if_pos (Int32.not_le.mp h2), if_pos rfl]
    exact ⟨Ch.err hR hH (by first | exact n1 | exact n2 | exact n3 | exact n4 | exact n5) τ, fun _ => trivial, fun h => absurd rfl h⟩
theorem isSet_out {p1 p2 : Int32} (h : p1 < 0 ∨ nI 5 ≤ p1) : s_X5_isSetting p1 p2 = 0 := by
  have hne : ∀ k : Nat, k < 5 → ¬ p1 = nI k := by
    intro k hk e
    subst e
    rcases h with h | h
    · exact nI_pos (by omega) h
    · exact nI_ge hk (by omega) h
  unfold s_X5_isSetting
  rw [if_neg (show ¬ p1 = 0 from hne 0 (by omega)), if_neg (show ¬ p1 = 1 from hne 1 (by omega)), if_neg (show ¬ p1 = 2 from hne 2 (by omega)), if_neg (show ¬ p1 = 3 from hne 3 (by omega)), if_neg (show ¬ p1 = 4 from hne 4 (by omega))]
theorem p_set (hR : Rl σ (m_al μ)) (hH : HI R o n μ) (ρ : QS) (ϖ : PS) (τ : DS) (hs : HS) (p1 p2 : Int32) : Ch α R o n σ μ (s_X4_set ρ ϖ σ τ hs p1 p2).1 (s_X4_set ρ ϖ σ τ hs p1 p2).2 (s_X5_set μ p1 p2) ∧ ok_X5_set μ p1 p2 := by
  rcases pk_ix p1 (n := 5) (by omega) with h | h | ⟨j, hj, rfl⟩
  · unfold s_X4_set s_X5_set ok_X5_set
    rw [isSet_out (Or.inl h), if_pos rfl, if_pos h]
    exact ⟨Ch.err hR hH (by first | exact n1 | exact n2 | exact n3 | exact n4 | exact n5) τ, fun _ => trivial, fun h => absurd rfl h⟩
  · have h0 : ¬ p1 < 0 := fun h9 => absurd (Int32.le_trans h (Int32.le_of_lt h9)) (by decide)
    unfold s_X4_set s_X5_set ok_X5_set
    rw [isSet_out (Or.inr h), if_pos rfl, if_neg h0, if_neg (show ¬ p1 < 5 from Int32.not_lt.mpr h)]
    exact ⟨Ch.err hR hH (by first | exact n1 | exact n2 | exact n3 | exact n4 | exact n5) τ, fun _ => trivial, fun h => absurd rfl h⟩
  · have e4 : s_X4_set ρ ϖ σ τ hs (nI j) p2 = if p2 < lowS j then ((-2), τ) else if p2 ≤ highS j then (d_st σ j, d_st' σ (upd (d_st σ) j p2)) else ((-2), τ) := by
      unfold s_X4_set s_X0_exchangeSetting
      rw [if_neg (nI_pos (by omega)), if_pos (show nI j < 5 from nI_lt (b := 5) hj (by omega)), fresh_id, at_nI hj (by omega), at_nI hj (by omega), at_nI hj (by omega), lay_nI hj (by omega)]
    rw [e4]
    unfold s_X5_set ok_X5_set
    match j, hj with
    | 0, hj => exact set_one hR hH τ (j := 0) hj p2 0 20 (fun _ => ⟨rfl, rfl⟩)
    | 1, hj => exact set_one hR hH τ (j := 1) hj p2 0 20 (fun _ => ⟨rfl, rfl⟩)
    | 2, hj => exact set_one hR hH τ (j := 2) hj p2 5 99 (fun h => by omega)
    | 3, hj => exact set_one hR hH τ (j := 3) hj p2 1 99 (fun h => by omega)
    | 4, hj => exact set_one hR hH τ (j := 4) hj p2 0 20 (fun _ => ⟨rfl, rfl⟩)
    | j + 5, hj => omega
end CHG
