/-! write, read, refresh: disc and row -/
def dP (σ : DS) (x y : Int32) : DS := d_hd' (d_tk' σ x) y
theorem blurBy_P (σ : DS) (x y p m : Int32) : s_X0_blurBy (dP σ x y) p m = dP (s_X0_blurBy σ p m) x y := by
  show (if s_X0_isOnTracksInUse σ p = 0 then dP σ x y else if s_X0_holdsNumber σ p = 0 then dP σ x y else dP (t1_X0_blurBy σ p m) x y) = dP (if s_X0_isOnTracksInUse σ p = 0 then σ else if s_X0_holdsNumber σ p = 0 then σ else t1_X0_blurBy σ p m) x y
  by_cases h1 : s_X0_isOnTracksInUse σ p = 0
  · rw [if_pos h1, if_pos h1]
  · rw [if_neg h1, if_neg h1]
    by_cases h2 : s_X0_holdsNumber σ p = 0
    · rw [if_pos h2, if_pos h2]
    · rw [if_neg h2, if_neg h2]
theorem set_P (σ : DS) (x y k : Int32) : s_X0_settingOf (dP σ x y) k = s_X0_settingOf σ k := rfl
theorem t6_P (σ : DS) (x y c p v : Int32) : t6_X0_fill (dP σ x y) c p v = dP (t6_X0_fill σ c p v) x y := by
  unfold t6_X0_fill t5_X0_fill t4_X0_fill t3_X0_fill
  rw [show t2_X0_fill (dP σ x y) c p v = dP (t2_X0_fill σ c p v) x y from rfl]
  simp only [blurBy_P, set_P]
theorem t13_P (σ : DS) (x y c p v : Int32) : t13_X0_fill (dP σ x y) c p v = dP (t13_X0_fill σ c p v) x y := by
  unfold t13_X0_fill t12_X0_fill t11_X0_fill t10_X0_fill
  rw [show t9_X0_fill (dP σ x y) c p v = dP (t9_X0_fill σ c p v) x y from rfl]
  simp only [blurBy_P, set_P]
theorem fill_P (σ : DS) (x y c p v : Int32) : s_X0_fill (dP σ x y) c p v = dP (s_X0_fill σ c p v) x y := by
  unfold s_X0_fill
  rw [t6_P, t13_P, show t2_X0_fill (dP σ x y) c p v = dP (t2_X0_fill σ c p v) x y from rfl, show t9_X0_fill (dP σ x y) c p v = dP (t9_X0_fill σ c p v) x y from rfl, show s_X0_sectorFor (dP σ x y) p = s_X0_sectorFor σ p from rfl]
  by_cases h1 : c = s_X0_sectorFor σ p
  · rw [if_pos h1, if_pos h1]
    by_cases h2 : s_X4_isSpare c = 0
    · rw [if_pos h2, if_pos h2]
    · rw [if_neg h2, if_neg h2]
  · rw [if_neg h1, if_neg h1]
    by_cases h2 : s_X4_isSpare c = 0
    · rw [if_pos h2, if_pos h2]
    · rw [if_neg h2, if_neg h2]
theorem blurBy_tk (σ : DS) (p m : Int32) : d_tk (s_X0_blurBy σ p m) = d_tk σ := by
  unfold s_X0_blurBy
  by_cases h1 : s_X0_isOnTracksInUse σ p = 0
  · rw [if_pos h1]
  · rw [if_neg h1]
    by_cases h2 : s_X0_holdsNumber σ p = 0
    · rw [if_pos h2]
    · rw [if_neg h2]; rfl
theorem fill_tk (σ : DS) (c p v : Int32) : d_tk (s_X0_fill σ c p v) = d_tk σ := by
  unfold s_X0_fill
  by_cases h1 : c = s_X0_sectorFor σ p
  · rw [if_pos h1]
    by_cases h2 : s_X4_isSpare c = 0
    · rw [if_pos h2]; unfold t6_X0_fill t5_X0_fill t4_X0_fill t3_X0_fill; rw [blurBy_tk, blurBy_tk, blurBy_tk, blurBy_tk]; rfl
    · rw [if_neg h2]; rfl
  · rw [if_neg h1]
    by_cases h2 : s_X4_isSpare c = 0
    · rw [if_pos h2]; unfold t13_X0_fill t12_X0_fill t11_X0_fill t10_X0_fill; rw [blurBy_tk, blurBy_tk, blurBy_tk, blurBy_tk]; rfl
    · rw [if_neg h2]; rfl
theorem pass_P (σ : DS) (k t : Int32) : s_X0_pass σ k t = dP σ (d_tk σ + k) t := rfl
theorem fresh_id (σ τ : DS) : s_X4_freshTrial σ τ = σ := rfl
section OPS
variable {σ : DS} {μ : MS}
theorem goRl (hR : Rl σ (m_al μ)) {T h : Nat} (hT : T ≤ 9999999) {x y : Int32} (hx : x = nI T) (hh : h ≤ 16) (hy : y = nI h) : Rl (dP σ x y) (upd (upd (m_al μ) 5 x) 6 y) := by
  refine ⟨R_hd (R_tk hR.1 hT hx) hh hy, ?_, ?_, ?_⟩
  · have q : ∀ a b : Int32, upd (upd (m_al μ) 5 a) 6 b 8 = m_al μ 8 := fun a b => by rw [pk_un (by omega), pk_un (by omega)]
    exact (q x y).trans hR.2.1
  · have q : ∀ a b : Int32, upd (upd (m_al μ) 5 a) 6 b 10 = m_al μ 10 := fun a b => by rw [pk_un (by omega), pk_un (by omega)]
    exact (q x y).trans hR.2.2.1
  · have q : ∀ a b : Int32, upd (upd (m_al μ) 5 a) 6 b 11 = m_al μ 11 := fun a b => by rw [pk_un (by omega), pk_un (by omega)]
    exact (q x y).trans hR.2.2.2
theorem goes_eq (hR : Rb σ (m_al μ)) {c k : Nat} (hc : c < 204) (ek : s_X5_takes μ (nI c) = nI k) : s_X5_goes μ (nI c) = m_al' μ (upd (upd (m_al μ) 5 (d_tk σ + nI k)) 6 (nI (c / 12))) := by
  unfold s_X5_goes t1_X5_goes
  rw [ek, dv12 (by omega), k6]
  unfold jinc
  rw [k5, hR.2.1.1]
/-- what two operations, of a disc and of a row, have alike -/
def Op (r0 : Int32 × DS) (r5 : Int32 × MS) (μ : MS) : Prop := r0.1 = r5.1 ∧ Rl r0.2 (m_al r5.2) ∧ r5.2.2 = μ.2
theorem dow (hR : Rl σ (m_al μ)) {a : Nat} (ha : a < 192) (v : Int32) : Op (s_X0_writeTo σ (nI a) v) (s_X5_doWrite μ (nI a) v) μ ∧ ok_X5_doWrite μ (nI a) v := by
  obtain ⟨c, hc, w0, w5, hokw, -⟩ := stw hR.1 ha
  obtain ⟨k, hk1, hk, e0, e5⟩ := tks hR.1 hc
  obtain ⟨t1, t2⟩ := tim hR.1 (k := k) (by omega)
  unfold s_X0_writeTo s_X5_doWrite ok_X5_doWrite
  rw [w0, w5, e0, e5, k5]
  by_cases ht : m_al μ 5 + nI k ≤ 9999999
  · obtain ⟨T, hT, eT⟩ := t2 ht
    rw [if_pos ht, if_neg (fun h => (t1.mp h) ht)]
    have hg := goes_eq hR.1 hc e5
    have hRg : Rl (dP σ (d_tk σ + nI k) (nI (c / 12))) (m_al (s_X5_goes μ (nI c))) := by
      rw [hg]
      exact goRl hR hT eT (h := c / 12) (by omega) rfl
    obtain ⟨p1, p2, p3, -⟩ := puts hRg ha v
    refine ⟨⟨rfl, ?_, ?_⟩, hokw, fun _ => p3, fun h => absurd ht h⟩
    · show Rl (t1_X0_writeTo σ (nI a) v) (m_al (s_X5_puts (s_X5_goes μ (nI c)) (nI a) v))
      have e : t1_X0_writeTo σ (nI a) v = s_X0_fill (dP σ (d_tk σ + nI k) (nI (c / 12))) (s_X0_sectorToWrite (dP σ (d_tk σ + nI k) (nI (c / 12))) (nI a)) (nI a) v := by
        unfold t1_X0_writeTo
        rw [show s_X0_sectorToWrite (dP σ (d_tk σ + nI k) (nI (c / 12))) (nI a) = s_X0_sectorToWrite σ (nI a) from rfl, fill_P, pass_P, fill_tk, w0, e0, trackO hc]
      rw [e]
      exact p1
    · show (s_X5_puts (s_X5_goes μ (nI c)) (nI a) v).2 = μ.2
      rw [p2, hg]
      rfl
  · rw [if_neg ht, if_pos (t1.mpr ht)]
    exact ⟨⟨rfl, hR, rfl⟩, hokw, fun h => absurd h ht, fun _ => trivial⟩
theorem dor (hR : Rl σ (m_al μ)) {a : Nat} (ha : a < 192) : Op (s_X0_readFrom σ (nI a)) (s_X5_doRead μ (nI a)) μ ∧ ok_X5_doRead μ (nI a) := by
  obtain ⟨c, hc, w0, w5, hoks, -⟩ := sec hR.1 ha
  obtain ⟨k, hk1, hk, e0, e5⟩ := tks hR.1 hc
  obtain ⟨t1, t2⟩ := tim hR.1 (k := k) (by omega)
  obtain ⟨ec, okc⟩ := can hR.1 ha
  unfold s_X0_readFrom s_X5_doRead ok_X5_doRead
  rw [ec, w0, w5, e0, e5, k5, cl12 hc]
  by_cases hr : s_X0_isReadable σ (nI c) = 0
  · rw [if_pos hr, if_pos hr]
    exact ⟨⟨rfl, hR, rfl⟩, okc, fun _ => trivial, fun h => absurd hr h⟩
  · rw [if_neg hr, if_neg hr]
    by_cases ht : m_al μ 5 + nI k ≤ 9999999
    · obtain ⟨T, hT, eT⟩ := t2 ht
      rw [if_pos ht, if_neg (fun h => (t1.mp h) ht)]
      have hg := goes_eq hR.1 hc e5
      have hRg := goRl hR hT eT (h := c / 12) (by omega) rfl
      have e1 : t1_X0_readFrom σ (nI a) = dP σ (d_tk σ + nI k) (nI (c / 12)) := by
        unfold t1_X0_readFrom
        rw [w0, e0, trackO hc, pass_P]
      have e2 : t1_X5_doRead μ (nI a) = m_al' μ (upd (upd (upd (m_al μ) 5 (d_tk σ + nI k)) 6 (nI (c / 12))) 9 (d_rd σ + 1)) := by
        unfold t1_X5_doRead
        rw [w5, hg]
        unfold jinc
        rw [k9]
        have q : ∀ a b : Int32, upd (upd (m_al μ) 5 a) 6 b 9 = d_rd σ := fun a b => by rw [pk_un (by omega), pk_un (by omega)]; exact hR.1.2.1.2.2
        show m_al' μ (upd (upd (upd (m_al μ) 5 (d_tk σ + nI k)) 6 (nI (c / 12))) 9 (upd (upd (m_al μ) 5 (d_tk σ + nI k)) 6 (nI (c / 12)) 9 + 1)) = _
        rw [q]
      rw [e1, e2]
      have hRb := R_rd hRg.1 (d_rd σ + 1)
      refine ⟨⟨?_, ⟨hRb, ?_, ?_, ?_⟩, rfl⟩, okc, fun _ => trivial, fun _ => ⟨hoks, fun _ => vi12 hc, fun h => absurd ht h⟩⟩
      · show s_X0_numberIn _ (nI c) = _
        rw [numI _ hc]
        exact (hRb.2.2.1 c hc).symm
      · have q : ∀ a b z : Int32, upd (upd (upd (m_al μ) 5 a) 6 b) 9 z 8 = m_al μ 8 := fun a b z => by rw [pk_un (by omega), pk_un (by omega), pk_un (by omega)]
        exact (q (d_tk σ + nI k) (nI (c / 12)) (d_rd σ + 1)).trans hR.2.1
      · have q : ∀ a b z : Int32, upd (upd (upd (m_al μ) 5 a) 6 b) 9 z 10 = m_al μ 10 := fun a b z => by rw [pk_un (by omega), pk_un (by omega), pk_un (by omega)]
        exact (q (d_tk σ + nI k) (nI (c / 12)) (d_rd σ + 1)).trans hR.2.2.1
      · have q : ∀ a b z : Int32, upd (upd (upd (m_al μ) 5 a) 6 b) 9 z 11 = m_al μ 11 := fun a b z => by rw [pk_un (by omega), pk_un (by omega), pk_un (by omega)]
        exact (q (d_tk σ + nI k) (nI (c / 12)) (d_rd σ + 1)).trans hR.2.2.2
    · rw [if_neg ht, if_pos (t1.mpr ht)]
      exact ⟨⟨rfl, hR, rfl⟩, okc, fun _ => trivial, fun _ => ⟨hoks, fun h => absurd h ht, fun _ => trivial⟩⟩
theorem dorf (hR : Rl σ (m_al μ)) {a : Nat} (ha : a < 192) (ρ : QS) (ϖ : PS) (τ : DS) (hs : HS) : Op (s_X4_refresh ρ ϖ σ τ hs (nI a)) (s_X5_doRefresh μ (nI a)) μ ∧ ok_X5_doRefresh μ (nI a) := by
  obtain ⟨c, hc, w0, w5, hoks, -⟩ := sec hR.1 ha
  obtain ⟨⟨r1, r2, r3⟩, r4⟩ := dor hR ha
  have hw := dow r2 ha
  obtain ⟨⟨q1, q2, q3⟩, q4⟩ := hw (s_X0_readFrom σ (nI a)).1
  unfold s_X4_refresh s_X5_doRefresh ok_X5_doRefresh
  rw [adr4 ha, if_neg (show ¬ (1 : Int32) = 0 from by decide), fresh_id]
  rw [← r1]
  by_cases h1 : 0 ≤ (s_X0_readFrom σ (nI a)).1
  · rw [if_pos h1, if_pos h1]
    rw [← q1]
    have e1 : t1_X4_refresh ρ ϖ σ τ hs (nI a) = (s_X0_writeTo (s_X0_readFrom σ (nI a)).2 (nI a) (s_X0_readFrom σ (nI a)).1).2 := rfl
    have e5 : t1_X5_doRefresh μ (nI a) = (s_X5_doWrite (s_X5_doRead μ (nI a)).2 (nI a) (s_X0_readFrom σ (nI a)).1).2 := by unfold t1_X5_doRefresh; rw [← r1]
    rw [e1, e5]
    refine ⟨?_, hoks, by rw [w5]; exact vi216 hc, r4, fun _ => q4, fun h => absurd h1 h⟩
    by_cases h2 : 0 ≤ (s_X0_writeTo (s_X0_readFrom σ (nI a)).2 (nI a) (s_X0_readFrom σ (nI a)).1).1
    · rw [if_pos h2, if_pos h2]
      refine ⟨?_, q2, q3.trans r3⟩
      show s_X0_blurOf σ (s_X0_sectorFor σ (nI a)) = m_al μ (216 + s_X5_sectorOf μ (nI a)).toNatClampNeg
      rw [w0, w5, cl216 hc, bluI σ hc, hR.1.2.2.2.1 c hc]
    · rw [if_neg h2, if_neg h2]
      exact ⟨rfl, q2, q3.trans r3⟩
  · rw [if_neg h1, if_neg h1]
    exact ⟨⟨rfl, r2, r3⟩, hoks, by rw [w5]; exact vi216 hc, r4, fun h => absurd h h1, fun _ => trivial⟩
end OPS
