/-! heat; an address is written -/
section FIL
variable {σ : DS} {μ : MS}
theorem jmin99 {n : Nat} (h : n < 1000) : jmin 99 (nI n) = (if nI n ≤ 99 then nI n else 99) ∧ ∃ b, b ≤ 99 ∧ (if nI n ≤ 99 then nI n else 99) = nI b := by
  show (if nI n < 99 then nI n else 99) = _ ∧ _
  by_cases h1 : n < 99
  · rw [if_pos (show nI n < (99 : Int32) from nI_lt (b := 99) h1 (by omega)), if_pos (show nI n ≤ (99 : Int32) from nI_le (b := 99) (by omega) (by omega))]
    exact ⟨rfl, n, by omega, rfl⟩
  · rw [if_neg (show ¬ nI n < (99 : Int32) from nI_nlt (b := 99) (by omega) (by omega))]
    by_cases h2 : n = 99
    · subst h2
      exact ⟨rfl, 99, by omega, rfl⟩
    · rw [if_neg (show ¬ nI n ≤ (99 : Int32) from nI_ge (a := 99) (by omega) (by omega))]
      exact ⟨rfl, 99, by omega, rfl⟩
def Kp (σ : DS) (μ : MS) (σ' : DS) (μ' : MS) : Prop := μ'.2 = μ.2 ∧ d_wr σ' = d_wr σ ∧ d_se σ' = d_se σ ∧ d_st σ' = d_st σ ∧ ∀ k, k < 12 → m_al μ' k = m_al μ k
theorem Kp.rf : Kp σ μ σ μ := ⟨rfl, rfl, rfl, rfl, fun _ _ => rfl⟩
theorem Kp.tr {σ1 σ2 : DS} {μ1 μ2 : MS} (h : Kp σ μ σ1 μ1) (h2 : Kp σ1 μ1 σ2 μ2) : Kp σ μ σ2 μ2 :=
  ⟨h2.1.trans h.1, h2.2.1.trans h.2.1, h2.2.2.1.trans h.2.2.1, h2.2.2.2.1.trans h.2.2.2.1, fun k hk => (h2.2.2.2.2 k hk).trans (h.2.2.2.2 k hk)⟩
theorem heat (hR : Rb σ (m_al μ)) (p : Int32) {t : Nat} (ht : t ≤ 20) : Rb (s_X0_blurBy σ p (nI t)) (m_al (s_X5_heats μ p (nI t))) ∧ ok_X5_heats μ p (nI t) ∧ Kp σ μ (s_X0_blurBy σ p (nI t)) (s_X5_heats μ p (nI t)) := by
  unfold s_X0_blurBy s_X5_heats s_X0_isOnTracksInUse ok_X5_heats
  rcases adr p with ⟨h4, h5⟩ | ⟨a, ha, rfl, h4, h5⟩
  · rw [h4, h5, if_pos rfl, if_pos rfl, if_pos rfl]
    exact ⟨hR, ⟨fun _ => trivial, fun h => absurd rfl h⟩, Kp.rf⟩
  have n10 : ¬ (1 : Int32) = 0 := by decide
  rw [h4, h5, if_neg n10, if_neg n10, at_nI ha (by omega), cl624 ha, cl12 (by omega), cl216 (by omega)]
  have hb := hR.2.2.2.2.2.2.2.2.2.1 a (by omega)
  have hbl := hR.2.2.2.1 a (by omega)
  have hnu := hR.2.2.1 a (by omega)
  have hok : (¬ m_al μ (624 + a) = -6 → True) := fun _ => trivial
  obtain ⟨-, -, -, -, -, ⟨s, hs, hsp, h7, hse⟩, -⟩ := id hR
  have okk : vp_in (624 + nI a) 816 ∧ ((m_al μ (624 + a) = -6 → vp_in (12 + nI a) 816 ∧ ((m_al μ (12 + a) = -6 → True) ∧ (¬ m_al μ (12 + a) = -6 → vp_in (216 + nI a) 816))) ∧ (¬ m_al μ (624 + a) = -6 → True)) :=
    ⟨vi624 ha, fun _ => ⟨vi12 (by omega), fun _ => trivial, fun _ => vi216 (by omega)⟩, fun _ => trivial⟩
  rcases hse a ha with ⟨h1, h2⟩ | ⟨j, hj, h1, h2⟩
  · rw [if_pos h2, if_neg n10, if_pos h1, holN σ (by omega)]
    by_cases h3 : d_nu σ a = -6
    · rw [if_pos h3, if_pos rfl, if_pos (hnu.trans h3)]
      exact ⟨hR, ⟨fun h => absurd h n10, fun _ => okk⟩, Kp.rf⟩
    · rw [if_neg h3, if_neg n10, if_neg (by rw [hnu]; exact h3)]
      obtain ⟨b, hb9, hbe⟩ := hb
      obtain ⟨e1, b2, hb2, e2⟩ := jmin99 (n := b + t) (by omega)
      have eb : m_al μ (216 + a) + nI t = nI (b + t) := by rw [hbl, hbe, nI_add]
      have ec : t1_X0_blurBy σ (nI a) (nI t) = d_bl' σ (upd (d_bl σ) a (if nI (b + t) ≤ 99 then nI (b + t) else 99)) := by
        unfold t1_X0_blurBy
        rw [lay_nI (by omega) (by omega), bluI σ (by omega), hbe, nI_add, e1]
      have em : (if m_al μ (216 + a) + nI t ≤ 99 then m_al' μ (jinc (m_al μ) (216 + nI a) (nI t)) else m_al' μ (upd (m_al μ) (216 + a) 99)) = m_al' μ (upd (m_al μ) (216 + a) (if nI (b + t) ≤ 99 then nI (b + t) else 99)) := by
        rw [eb]
        by_cases h9 : nI (b + t) ≤ 99
        · rw [if_pos h9, if_pos h9]
          unfold jinc
          rw [cl216 (by omega), eb]
        · rw [if_neg h9, if_neg h9]
      rw [ec, em]
      exact ⟨R_bl hR (by omega) hb2 e2, ⟨fun h => absurd h n10, fun _ => okk⟩, rfl, rfl, rfl, rfl, fun k hk => pk_un (by omega)⟩
  · have h6 : ¬ m_al μ (624 + a) = -6 := by rw [h1]; exact n6_ne (by omega)
    have hne : ¬ d_se σ a = nI a := fun h => by
      rw [h2] at h
      have := nI_inj (by omega) (by omega) h
      omega
    rw [if_neg hne, if_pos rfl, if_neg h6]
    exact ⟨hR, ⟨fun h => absurd h n10, fun _ => okk⟩, Kp.rf⟩
theorem heat0 (hR : Rb σ (m_al μ)) (p : Int32) : Rb (s_X0_blurBy σ p (s_X0_settingOf σ 0)) (m_al (s_X5_heats μ p (m_al μ (0 : Int32).toNatClampNeg))) ∧ ok_X5_heats μ p (m_al μ (0 : Int32).toNatClampNeg) ∧ Kp σ μ (s_X0_blurBy σ p (s_X0_settingOf σ 0)) (s_X5_heats μ p (m_al μ (0 : Int32).toNatClampNeg)) := by
  obtain ⟨t, ht, e⟩ := hR.2.2.2.2.2.2.2.2.2.2.1
  rw [setI0, k0, hR.1 0 (by omega), e]
  exact heat hR p ht
theorem heat1 (hR : Rb σ (m_al μ)) (p : Int32) : Rb (s_X0_blurBy σ p (s_X0_settingOf σ 1)) (m_al (s_X5_heats μ p (m_al μ (1 : Int32).toNatClampNeg))) ∧ ok_X5_heats μ p (m_al μ (1 : Int32).toNatClampNeg) ∧ Kp σ μ (s_X0_blurBy σ p (s_X0_settingOf σ 1)) (s_X5_heats μ p (m_al μ (1 : Int32).toNatClampNeg)) := by
  obtain ⟨t, ht, e⟩ := hR.2.2.2.2.2.2.2.2.2.2.2
  rw [setI1, k1, hR.1 1 (by omega), e]
  exact heat hR p ht
/-- the cell of a sector is written -/
def kC (σ : DS) (c : Nat) (v : Int32) : DS := d_wr' (d_bl' (d_nu' σ (upd (d_nu σ) c v)) (upd (d_bl σ) c 0)) (upd (d_wr σ) c (d_wr σ c + 1))
def kM (f : NI) (c : Nat) (v : Int32) : NI := upd (upd (upd (upd f (12 + c) v) (216 + c) 0) (420 + c) (f (420 + c) + 1)) 8 (f 8 + 1)
theorem kR {f : NI} (hR : Rb σ f) {c : Nat} (hc : c < 204) (v : Int32) : Rb (kC σ c v) (kM f c v) := by
  have h1 := R_nu hR hc v
  have h2 := R_bl (b := 0) h1 hc (by omega) (v := 0) rfl
  have h3 := R_wr h2 hc (d_wr σ c + 1)
  have h4 := R_no h3 (k := 8) (Or.inl rfl) (f 8 + 1)
  unfold kM
  rw [hR.2.2.2.2.1 c hc]
  exact h4
theorem kM8 {f : NI} {c : Nat} {v : Int32} : kM f c v 8 = f 8 + 1 := pk_us
theorem kM_lo {f : NI} {c k : Nat} {v : Int32} (hk : k < 12) (h8 : k ≠ 8) : kM f c v k = f k := by
  unfold kM
  rw [pk_un h8, pk_un (by omega), pk_un (by omega), pk_un (by omega)]
theorem c_t2 (σ : DS) {c : Nat} (hc : c < 204) (p v : Int32) : t2_X0_fill σ (nI c) p v = kC σ c v := by
  unfold t2_X0_fill t1_X0_fill
  rw [lay_nI (f := d_nu σ) hc (by omega), lay_nI (f := d_bl σ) hc (by omega), wriI _ hc, lay_nI hc (by omega)]
  rfl
theorem c_t9 (σ : DS) {c a : Nat} (hc : c < 204) (ha : a < 192) (v : Int32) : t9_X0_fill σ (nI c) (nI a) v = kC (d_sp' (d_se' σ (upd (d_se σ) a (nI c))) (d_sp σ + 1)) c v := by
  unfold t9_X0_fill t8_X0_fill t7_X0_fill
  rw [lay_nI (f := d_nu σ) hc (by omega), lay_nI (f := d_se σ) ha (by omega), lay_nI (n := 204) (v := 0) hc (by omega), wriI _ hc, lay_nI hc (by omega)]
  rfl
theorem m_t4 (μ : MS) {c : Nat} (hc : c < 204) (p v : Int32) (he : s_X5_sectorToWrite μ p = nI c) : t4_X5_puts μ p v = m_al' μ (kM (m_al μ) c v) := by
  unfold t4_X5_puts t3_X5_puts t2_X5_puts t1_X5_puts
  rw [he, cl12 hc, cl216 hc]
  unfold jinc
  rw [cl420 hc, k8]
  show m_al' μ (upd (upd (upd (upd (m_al μ) (12 + c) v) (216 + c) 0) (420 + c) ((upd (upd (m_al μ) (12 + c) v) (216 + c) 0) (420 + c) + 1)) 8 ((upd (upd (upd (m_al μ) (12 + c) v) (216 + c) 0) (420 + c) ((upd (upd (m_al μ) (12 + c) v) (216 + c) 0) (420 + c) + 1)) 8 + 1)) = _
  unfold kM
  rw [show (upd (upd (m_al μ) (12 + c) v) (216 + c) 0) (420 + c) = m_al μ (420 + c) from by rw [pk_un (by omega), pk_un (by omega)]]
  rw [show (upd (upd (upd (m_al μ) (12 + c) v) (216 + c) 0) (420 + c) (m_al μ (420 + c) + 1)) 8 = m_al μ 8 from by rw [pk_un (by omega), pk_un (by omega), pk_un (by omega)]]
theorem m_t18 (μ : MS) {c a : Nat} (hc : c < 204) (ha : a < 192) (v : Int32) (he : s_X5_sectorToWrite μ (nI a) = nI c) : t18_X5_puts μ (nI a) v = m_al' μ (kM (upd (upd (m_al μ) (624 + a) (nI c - 192)) 7 (m_al μ 7 - 1)) c v) := by
  unfold t18_X5_puts t17_X5_puts t16_X5_puts t15_X5_puts t14_X5_puts t13_X5_puts
  rw [he, cl12 hc, cl216 hc, cl624 ha, k7]
  unfold jinc
  rw [cl420 hc, k8]
  obtain ⟨g, hg⟩ : ∃ g : NI, g = upd (upd (m_al μ) (624 + a) (nI c - 192)) 7 (m_al μ 7 - 1) := ⟨_, rfl⟩
  have h7 : (upd (m_al μ) (624 + a) (nI c - 192)) 7 = m_al μ 7 := pk_un (by omega)
  show m_al' μ (upd (upd (upd (upd (upd (upd (m_al μ) (624 + a) (nI c - 192)) 7 ((upd (m_al μ) (624 + a) (nI c - 192)) 7 - 1)) (12 + c) v) (216 + c) 0) (420 + c) ((upd (upd (upd (upd (m_al μ) (624 + a) (nI c - 192)) 7 ((upd (m_al μ) (624 + a) (nI c - 192)) 7 - 1)) (12 + c) v) (216 + c) 0) (420 + c) + 1)) 8 ((upd (upd (upd (upd (upd (m_al μ) (624 + a) (nI c - 192)) 7 ((upd (m_al μ) (624 + a) (nI c - 192)) 7 - 1)) (12 + c) v) (216 + c) 0) (420 + c) ((upd (upd (upd (upd (m_al μ) (624 + a) (nI c - 192)) 7 ((upd (m_al μ) (624 + a) (nI c - 192)) 7 - 1)) (12 + c) v) (216 + c) 0) (420 + c) + 1)) 8 + 1)) = _
  rw [h7, ← hg]
  unfold kM
  rw [show (upd (upd g (12 + c) v) (216 + c) 0) (420 + c) = g (420 + c) from by rw [pk_un (by omega), pk_un (by omega)]]
  rw [show (upd (upd (upd g (12 + c) v) (216 + c) 0) (420 + c) (g (420 + c) + 1)) 8 = g 8 from by rw [pk_un (by omega), pk_un (by omega), pk_un (by omega)]]
theorem rem2 {c : Nat} (hc : c < 204) : jrem (nI c / 12) 2 = nI (c / 12 % 2) := by rw [dv12 (by omega), jr2 (by omega)]
/-- behind the cell's own change: the four neighbours -/
theorem heats4 {σ2 : DS} {μ4 : MS} (hR : Rb σ2 (m_al μ4)) (p : Int32) : ∃ σ6 μ8, σ6 = s_X0_blurBy (s_X0_blurBy (s_X0_blurBy (s_X0_blurBy σ2 (p - 12) (s_X0_settingOf σ2 0)) (p + 12) (s_X0_settingOf (s_X0_blurBy σ2 (p - 12) (s_X0_settingOf σ2 0)) 0)) (p - 24) (s_X0_settingOf (s_X0_blurBy (s_X0_blurBy σ2 (p - 12) (s_X0_settingOf σ2 0)) (p + 12) (s_X0_settingOf (s_X0_blurBy σ2 (p - 12) (s_X0_settingOf σ2 0)) 0)) 1)) (p + 24) (s_X0_settingOf (s_X0_blurBy (s_X0_blurBy (s_X0_blurBy σ2 (p - 12) (s_X0_settingOf σ2 0)) (p + 12) (s_X0_settingOf (s_X0_blurBy σ2 (p - 12) (s_X0_settingOf σ2 0)) 0)) (p - 24) (s_X0_settingOf (s_X0_blurBy (s_X0_blurBy σ2 (p - 12) (s_X0_settingOf σ2 0)) (p + 12) (s_X0_settingOf (s_X0_blurBy σ2 (p - 12) (s_X0_settingOf σ2 0)) 0)) 1)) 1) ∧
    (let μ5 := s_X5_heats μ4 (p - 12) (m_al μ4 (0 : Int32).toNatClampNeg); let μ6 := s_X5_heats μ5 (p + 12) (m_al μ5 (0 : Int32).toNatClampNeg); let μ7 := s_X5_heats μ6 (p - 24) (m_al μ6 (1 : Int32).toNatClampNeg); μ8 = s_X5_heats μ7 (p + 24) (m_al μ7 (1 : Int32).toNatClampNeg) ∧ (ok_X5_heats μ4 (p - 12) (m_al μ4 (0 : Int32).toNatClampNeg) ∧ ok_X5_heats μ5 (p + 12) (m_al μ5 (0 : Int32).toNatClampNeg) ∧ ok_X5_heats μ6 (p - 24) (m_al μ6 (1 : Int32).toNatClampNeg) ∧ ok_X5_heats μ7 (p + 24) (m_al μ7 (1 : Int32).toNatClampNeg))) ∧ Rb σ6 (m_al μ8) ∧ Kp σ2 μ4 σ6 μ8 := by
  obtain ⟨r1, o1, q1⟩ := heat0 hR (p - 12)
  obtain ⟨r2, o2, q2⟩ := heat0 r1 (p + 12)
  obtain ⟨r3, o3, q3⟩ := heat1 r2 (p - 24)
  obtain ⟨r4, o4, q4⟩ := heat1 r3 (p + 24)
  exact ⟨_, _, rfl, ⟨rfl, o1, o2, o3, o4⟩, r4, ((q1.tr q2).tr q3).tr q4⟩
/-- an address is written: a sector of its own, or a spare that it has, or gets -/
theorem puts (hR : Rl σ (m_al μ)) {a : Nat} (ha : a < 192) (v : Int32) : Rl (s_X0_fill σ (s_X0_sectorToWrite σ (nI a)) (nI a) v) (m_al (s_X5_puts μ (nI a) v)) ∧ (s_X5_puts μ (nI a) v).2 = μ.2 ∧ ok_X5_puts μ (nI a) v ∧ (∀ b, b ≠ a → d_se (s_X0_fill σ (s_X0_sectorToWrite σ (nI a)) (nI a) v) b = d_se σ b) ∧ d_st (s_X0_fill σ (s_X0_sectorToWrite σ (nI a)) (nI a) v) = d_st σ := by
  obtain ⟨hR, hS8, hS10, hS11⟩ := hR
  obtain ⟨c, hc, w0, w5, hokw, hcase⟩ := stw hR ha
  obtain ⟨cs, hcs, so0, so5, hokso, -, hso⟩ := sec hR ha
  have hwc : m_al μ (420 + c) = d_wr σ c := hR.2.2.2.2.1 c hc
  rw [w0]
  unfold s_X0_fill s_X5_puts ok_X5_puts
  rw [w5]
  rcases hcase with ⟨h0, h5⟩ | ⟨s, hs, hsp, rfl, hn0, hn5⟩
  · rw [h0, h5, if_pos rfl, if_pos rfl, spr hc]
    have hokt : ok_X5_sectorToWrite μ (nI a) ∧ ok_X5_sectorOf μ (nI a) := ⟨hokw, hokso⟩
    have base : Rb (t2_X0_fill σ (nI c) (nI a) v) (m_al (t4_X5_puts μ (nI a) v)) := by
      rw [c_t2 σ hc, m_t4 μ hc _ _ w5]
      exact kR hR hc v
    have e2 : t2_X0_fill σ (nI c) (nI a) v = kC σ c v := c_t2 σ hc _ _
    have e4 : t4_X5_puts μ (nI a) v = m_al' μ (kM (m_al μ) c v) := m_t4 μ hc _ _ w5
    by_cases hcl : c < 192
    · rw [if_pos hcl, if_pos rfl, if_neg (show ¬ (192 : Int32) ≤ nI c from nI_ge (b := 192) hcl (by omega)), rem2 hc]
      obtain ⟨σ6, μ8, eσ, ⟨eμ, o1, o2, o3, o4⟩, hR8, hK⟩ := heats4 base (nI c)
      have eT6 : t6_X0_fill σ (nI c) (nI a) v = σ6 := by rw [eσ]; rfl
      have eM8 : t8_X5_puts μ (nI a) v = μ8 := by
        rw [eμ]
        unfold t8_X5_puts t7_X5_puts t6_X5_puts t5_X5_puts
        rw [w5]
      rw [eT6]
      have hwr : d_wr σ6 = upd (d_wr σ) c (d_wr σ c + 1) := by rw [hK.2.1, e2]; rfl
      have h8 : m_al μ8 8 = tot (d_wr σ6) := by
        rw [hK.2.2.2.2 8 (by omega), e4, hwr, tot_inc hc, ← hS8]
        show kM (m_al μ) c v 8 = _
        exact kM8
      have h10 : m_al μ8 10 = lnd (d_wr σ) := by
        rw [hK.2.2.2.2 10 (by omega), e4, ← hS10]
        show kM (m_al μ) c v 10 = _
        exact kM_lo (by omega) (by omega)
      have h11 : m_al μ8 11 = grv (d_wr σ) := by
        rw [hK.2.2.2.2 11 (by omega), e4, ← hS11]
        show kM (m_al μ) c v 11 = _
        exact kM_lo (by omega) (by omega)
      have hμ2 : μ8.2 = μ.2 := by rw [hK.1, e4]; rfl
      have hse6 : d_se σ6 = d_se σ := by rw [hK.2.2.1, e2]; rfl
      have hst6 : d_st σ6 = d_st σ := by rw [hK.2.2.2.1, e2]; rfl
      have ho4 : ok_X5_heats (t4_X5_puts μ (nI a) v) (nI c - 12) (m_al (t4_X5_puts μ (nI a) v) (0 : Int32).toNatClampNeg) ∧ ok_X5_heats (t5_X5_puts μ (nI a) v) (nI c + 12) (m_al (t5_X5_puts μ (nI a) v) (0 : Int32).toNatClampNeg) ∧ ok_X5_heats (t6_X5_puts μ (nI a) v) (nI c - 24) (m_al (t6_X5_puts μ (nI a) v) (1 : Int32).toNatClampNeg) ∧ ok_X5_heats (t7_X5_puts μ (nI a) v) (nI c + 24) (m_al (t7_X5_puts μ (nI a) v) (1 : Int32).toNatClampNeg) := by
        have t5e : t5_X5_puts μ (nI a) v = s_X5_heats (t4_X5_puts μ (nI a) v) (nI c - 12) (m_al (t4_X5_puts μ (nI a) v) (0 : Int32).toNatClampNeg) := by unfold t5_X5_puts; rw [w5]
        have t6e : t6_X5_puts μ (nI a) v = s_X5_heats (t5_X5_puts μ (nI a) v) (nI c + 12) (m_al (t5_X5_puts μ (nI a) v) (0 : Int32).toNatClampNeg) := by unfold t6_X5_puts; rw [w5]
        have t7e : t7_X5_puts μ (nI a) v = s_X5_heats (t6_X5_puts μ (nI a) v) (nI c - 24) (m_al (t6_X5_puts μ (nI a) v) (1 : Int32).toNatClampNeg) := by unfold t7_X5_puts; rw [w5]
        rw [t7e, t6e, t5e]
        exact ⟨o1, o2, o3, o4⟩
      have fin : ∀ r : MS, r = m_al' μ8 (upd (upd (m_al μ8) 10 (m_al μ8 10 + (if c / 12 % 2 = 0 then 1 else 0))) 11 (m_al μ8 11 + (if c / 12 % 2 = 0 then 0 else 1))) → Rl σ6 (m_al r) ∧ r.2 = μ.2 := by
        intro r hr
        rw [hr]
        refine ⟨⟨R_no (R_no hR8 (Or.inr (Or.inl rfl)) _) (Or.inr (Or.inr rfl)) _, ?_, ?_, ?_⟩, hμ2⟩
        · have q9 : ∀ x y : Int32, upd (upd (m_al μ8) 10 x) 11 y 8 = m_al μ8 8 := fun x y => by rw [pk_un (by omega), pk_un (by omega)]
          exact (q9 (m_al μ8 10 + (if c / 12 % 2 = 0 then 1 else 0)) (m_al μ8 11 + (if c / 12 % 2 = 0 then 0 else 1))).trans h8
        · have q10 : ∀ x y : Int32, upd (upd (m_al μ8) 10 x) 11 y 10 = x := fun x y => by rw [pk_un (by omega), pk_us]
          refine (q10 (m_al μ8 10 + (if c / 12 % 2 = 0 then 1 else 0)) (m_al μ8 11 + (if c / 12 % 2 = 0 then 0 else 1))).trans ?_
          rw [hwr, lnd_inc hcl, h10]
          by_cases hp : c / 12 % 2 = 0
          · rw [if_pos hp, if_pos hp]
          · rw [if_neg hp, if_neg hp, Int32.add_zero]
        · have q11 : ∀ x y : Int32, upd (upd (m_al μ8) 10 x) 11 y 11 = y := fun x y => by rw [pk_us]
          refine (q11 (m_al μ8 10 + (if c / 12 % 2 = 0 then 1 else 0)) (m_al μ8 11 + (if c / 12 % 2 = 0 then 0 else 1))).trans ?_
          rw [hwr, grv_inc hcl, h11]
          by_cases hp : c / 12 % 2 = 0
          · rw [if_pos hp, if_pos hp, Int32.add_zero]
          · rw [if_neg hp, if_neg hp]
      have e12 : t12_X5_puts μ (nI a) v = m_al' μ8 (upd (upd (m_al μ8) 10 (m_al μ8 10 + 1)) 11 (m_al μ8 11 + nI (c / 12 % 2))) := by
        unfold t12_X5_puts t11_X5_puts
        rw [eM8, w5, rem2 hc]
        unfold jinc
        rw [k10, k11]
        show m_al' μ8 (upd (upd (m_al μ8) 10 (m_al μ8 10 + 1)) 11 (upd (m_al μ8) 10 (m_al μ8 10 + 1) 11 + nI (c / 12 % 2))) = _
        rw [pk_un (show 11 ≠ 10 from by omega)]
      have e10 : t10_X5_puts μ (nI a) v = m_al' μ8 (upd (upd (m_al μ8) 10 (m_al μ8 10 + 0)) 11 (m_al μ8 11 + nI (c / 12 % 2))) := by
        unfold t10_X5_puts t9_X5_puts
        rw [eM8, w5, rem2 hc]
        unfold jinc
        rw [k10, k11]
        show m_al' μ8 (upd (upd (m_al μ8) 10 (m_al μ8 10 + 0)) 11 (upd (m_al μ8) 10 (m_al μ8 10 + 0) 11 + nI (c / 12 % 2))) = _
        rw [pk_un (show 11 ≠ 10 from by omega)]
      by_cases hp : c / 12 % 2 = 0
      · rw [hp, if_pos (show nI 0 = 0 from rfl)]
        obtain ⟨f1, f2⟩ := fin (t12_X5_puts μ (nI a) v) (by rw [e12, if_pos hp, if_pos hp, hp]; rfl)
        exact ⟨f1, f2, ⟨hokw, hokso, fun _ => ⟨vi12 hc, vi216 hc, vi420 hc, fun _ => trivial, fun _ => ho4⟩, fun h => absurd rfl h⟩, fun b _ => by rw [hse6], hst6⟩
      · have hp1 : c / 12 % 2 = 1 := by omega
        rw [hp1, if_neg (show ¬ nI 1 = 0 from by decide)]
        obtain ⟨f1, f2⟩ := fin (t10_X5_puts μ (nI a) v) (by rw [e10, if_neg hp, if_neg hp, hp1]; rfl)
        exact ⟨f1, f2, ⟨hokw, hokso, fun _ => ⟨vi12 hc, vi216 hc, vi420 hc, fun _ => trivial, fun _ => ho4⟩, fun h => absurd rfl h⟩, fun b _ => by rw [hse6], hst6⟩
    · have h192 : (192 : Int32) ≤ nI c := nI_le (a := 192) (by omega) (by omega)
      rw [if_neg hcl, if_neg (show ¬ (1 : Int32) = 0 from by decide), if_pos h192]
      refine ⟨⟨base, ?_, ?_, ?_⟩, by rw [e4]; rfl, ⟨hokw, hokso, fun _ => ⟨vi12 hc, vi216 hc, vi420 hc, fun _ => trivial, fun h => absurd h192 h⟩, fun h => absurd rfl h⟩, fun b _ => by rw [e2]; rfl, by rw [e2]; rfl⟩
      · rw [e4, e2]
        show kM (m_al μ) c v 8 = tot (upd (d_wr σ) c (d_wr σ c + 1))
        rw [kM8, tot_inc hc, hS8]
      · rw [e4, e2]
        show kM (m_al μ) c v 10 = lnd (upd (d_wr σ) c (d_wr σ c + 1))
        rw [kM_lo (by omega) (by omega), lnd_sp (by omega), hS10]
      · rw [e4, e2]
        show kM (m_al μ) c v 11 = grv (upd (d_wr σ) c (d_wr σ c + 1))
        rw [kM_lo (by omega) (by omega), grv_sp (by omega), hS11]
  · have h192 : (192 : Int32) ≤ nI (192 + s) := nI_le (a := 192) (by omega) (by omega)
    rw [if_neg hn0, if_neg hn5, spr hc, if_neg (show ¬ 192 + s < 192 from by omega), if_neg (show ¬ (1 : Int32) = 0 from by decide), if_pos h192]
    have e9 := c_t9 σ hc ha v
    have e18 := m_t18 μ hc ha v w5
    have h7 : m_al μ 7 = nI (12 - s) := by
      obtain ⟨-, -, -, -, -, ⟨s2, hs2, hsp2, h72, -⟩, -⟩ := hR
      have := nI_inj (by omega) (by omega) (hsp.symm.trans hsp2)
      rw [h72, this]
    have e1 : nI (192 + s) - 192 = nI s := by
      rw [show (192 : Int32) = nI 192 from rfl, pk_sub (by omega), show 192 + s - 192 = s from by omega]
    have e2 : nI (12 - s) - 1 = nI (12 - (s + 1)) := by
      rw [show (1 : Int32) = nI 1 from rfl, pk_sub (by omega), show 12 - s - 1 = 12 - (s + 1) from by omega]
    have e3 : d_sp σ + 1 = nI (s + 1) := by rw [hsp, nI_1]
    rw [e1, h7, e2] at e18
    rw [e3] at e9
    have hRs := R_sp hR ha hs hsp
    have hwc2 : d_wr (d_sp' (d_se' σ (upd (d_se σ) a (nI (192 + s)))) (nI (s + 1))) = d_wr σ := rfl
    have lo : ∀ k, k = 8 ∨ k = 10 ∨ k = 11 → upd (upd (m_al μ) (624 + a) (nI s)) 7 (nI (12 - (s + 1))) k = m_al μ k := fun k hk => by rw [pk_un (by omega), pk_un (by omega)]
    refine ⟨⟨?_, ?_, ?_, ?_⟩, by rw [e18]; rfl, ⟨hokw, hokso, fun h => absurd h hn5, fun _ => ⟨vi624 ha, vi12 hc, vi216 hc, vi420 hc, fun _ => trivial, fun h => absurd h192 h⟩⟩, fun b hb => by rw [e9]; exact pk_un hb, by rw [e9]; rfl⟩
    · rw [e9, e18]
      exact kR hRs hc v
    · rw [e9, e18]
      show kM (upd (upd (m_al μ) (624 + a) (nI s)) 7 (nI (12 - (s + 1)))) (192 + s) v 8 = tot (upd (d_wr σ) (192 + s) (d_wr σ (192 + s) + 1))
      rw [kM8, tot_inc hc, lo 8 (Or.inl rfl), hS8]
    · rw [e9, e18]
      show kM (upd (upd (m_al μ) (624 + a) (nI s)) 7 (nI (12 - (s + 1)))) (192 + s) v 10 = lnd (upd (d_wr σ) (192 + s) (d_wr σ (192 + s) + 1))
      rw [kM_lo (by omega) (by omega), lnd_sp (by omega), lo 10 (by omega), hS10]
    · rw [e9, e18]
      show kM (upd (upd (m_al μ) (624 + a) (nI s)) 7 (nI (12 - (s + 1)))) (192 + s) v 11 = grv (upd (d_wr σ) (192 + s) (d_wr σ (192 + s) + 1))
      rw [kM_lo (by omega) (by omega), grv_sp (by omega), lo 11 (by omega), hS11]
end FIL
