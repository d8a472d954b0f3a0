/-! a request, read by both -/
section REQ
variable {ρ : QS} {π : PS} {μ : MS} {L : Nat}
theorem upd_upd (f : NI) (k : Nat) (x y : Int32) : upd (upd f k x) k y = upd f k y := by
  funext j
  unfold upd
  by_cases h : j = k
  · rw [if_pos h, if_pos h]
  · rw [if_neg h, if_neg h, if_neg h]
theorem rnum (hm : m_tl μ = nI L) (hL : L ≤ 60) {M : Nat} (hM : M ≤ 255) (hM9 : 9 ≤ M) (nm rq : Int32) (as nu : NI) {i : Nat} (hi : i ≤ L) :
    (¬ (i < L ∧ dig (m_tx μ i)) → s_X5_readsNumber (mst μ (nI i) nm rq as nu) (nI M) = (0, mst μ (nI i) nm rq as nu) ∧ ok_X5_readsNumber (mst μ (nI i) nm rq as nu) (nI M)) ∧
    (i < L → dig (m_tx μ i) → ∃ d i' v', d ≤ 9 ∧ m_tx μ i - 48 = nI d ∧ i + 1 ≤ i' ∧ i' ≤ L ∧ v' ≤ M ∧ s_X5_readsNumber (mst μ (nI i) nm rq as nu) (nI M) = (1, mst μ (nI i') (nI v') rq as nu) ∧ ok_X5_readsNumber (mst μ (nI i) nm rq as nu) (nI M) ∧
      (∀ Cl : Nat → Nat → (Int32 × QS) × Prop, (∀ j w d, j < L → 0 < w → w ≤ M → dig (m_tx μ j) → m_tx μ j - 48 = nI d → d ≤ 9 → 10 * w + d ≤ M → Cl j w = Cl (j + 1) (10 * w + d)) → Cl (i + 1) d = Cl i' v') ∧
      (i' < L → ∀ d, d ≤ 9 → 0 < v' → dig (m_tx μ i') → m_tx μ i' - 48 = nI d → ¬ 10 * v' + d ≤ M)) := by
  obtain ⟨d1, d2, d3⟩ := hereD (nm := nm) (rq := rq) (as := as) (nu := nu) hm hL hi
  unfold s_X5_readsNumber ok_X5_readsNumber
  refine ⟨fun h => ?_, fun h1 h2 => ?_⟩
  · rw [d2 h, if_pos rfl]
    exact ⟨rfl, d3, fun _ => trivial, fun h => absurd rfl h⟩
  · obtain ⟨d, hd9, hc, hcd⟩ := dig_v h2
    have es : m_so' (mst μ (nI i) nm rq as nu) (m_so (mst μ (nI i) nm rq as nu) + 1) = mst μ (nI (i + 1)) nm rq as nu := by
      show mst μ (nI i + 1) nm rq as nu = _
      rw [nI_1]
    have hx : m_tx (mst μ (nI i) nm rq as nu) (m_so (mst μ (nI i) nm rq as nu)).toNatClampNeg - 48 = nI d := by
      show m_tx μ (nI i).toNatClampNeg - 48 = _
      rw [nI_clamp (by omega), hcd]
    obtain ⟨i', v', a1, a2, a3, a4, a5, a6, a7⟩ := numL (nm := nm) (rq := rq) (as := as) (nu := nu) (mst μ (nI i) nm rq as nu) hm hL hM FU (i + 1) d (by omega) (fuel (by omega)) (by omega)
    rw [d1 ⟨h1, h2⟩, if_neg (show ¬ (1 : Int32) = 0 from by decide), es, hx]
    exact ⟨d, i', v', hd9, hcd, a1, a2, a3, a4, ⟨d3, fun h => absurd h (by decide), fun _ => ⟨vp_in_nI (n := i) (by omega) (by decide), a5⟩⟩, a6, a7⟩
theorem PE4 (hL : L ≤ 60) (hl : p_le π = nI L) (ad nu tr : NI) (sz : Int32) : PP ρ π L (Q5 ad nu tr sz 4) = ((-6, Q5 ad nu tr sz 4), True) := by
  rw [PP_end hL hl, if_pos (show q_pl (Q5 ad nu tr sz 4) = 4 from rfl)]
theorem PE2 (hL : L ≤ 60) (hl : p_le π = nI L) (ad nu tr : NI) {r : Nat} (hr : r < 21) : (nu r = -6 → PP ρ π L (Q5 ad nu tr (nI (r + 1)) 2) = ((-6, Q5 ad nu tr (nI (r + 1)) 2), True)) ∧ (¬ nu r = -6 → PP ρ π L (Q5 ad nu tr (nI (r + 1)) 2) = ((nI L, Q5 ad nu tr (nI (r + 1)) 2), True)) := by
  have hwr : s_X3_isWriting (Q5 ad nu tr (nI (r + 1)) 2) (q_sz (Q5 ad nu tr (nI (r + 1)) 2) - 1) = if nu r = -6 then 0 else 1 := by
    unfold s_X3_isWriting
    show (if s_X4_at 21 nu (nI (r + 1) - 1) = -6 then 0 else 1) = _
    rw [nI_pred, at_nI hr (by omega)]
  rw [PP_end hL hl, if_neg (show ¬ q_pl (Q5 ad nu tr (nI (r + 1)) 2) = 4 from by show ¬ (2 : Int32) = 4; decide), if_pos (show q_pl (Q5 ad nu tr (nI (r + 1)) 2) = 2 from rfl), hwr]
  refine ⟨fun h => ?_, fun h => ?_⟩
  · rw [if_pos h, if_pos rfl]
  · rw [if_neg h, if_neg (by decide)]
theorem PEx (hL : L ≤ 60) (hl : p_le π = nI L) (ad nu tr : NI) (sz : Int32) {pl : Int32} (h4 : ¬ pl = 4) (h2 : ¬ pl = 2) : PP ρ π L (Q5 ad nu tr sz pl) = ((nI L, Q5 ad nu tr sz pl), True) := by
  rw [PP_end hL hl, if_neg (show ¬ q_pl (Q5 ad nu tr sz pl) = 4 from h4), if_neg (show ¬ q_pl (Q5 ad nu tr sz pl) = 2 from h2)]
/-- what a request leaves in both -/
def RQ (r : Nat) (as nu ad nu4 as' nu' ad' nu4' : NI) : Prop :=
  (∃ a, a ≤ 191 ∧ as' r = nI a ∧ ad' r = nI a) ∧ ((nu4' r = -6 ∧ nu' r = -1) ∨ ∃ v, v ≤ 255 ∧ nu4' r = nI v ∧ nu' r = nI v) ∧ ∀ k, k < r → as' k = as k ∧ ad' k = ad k ∧ nu' k = nu k ∧ nu4' k = nu4 k
def RF (ρ : QS) (π : PS) (μ : MS) (i r : Nat) (σ : MS) (τ : QS) : Prop := ∃ (j : Nat) (nm' : Int32) (as' nu' : NI) (τ' : QS), j < 1000 ∧ s_X5_readsRequest σ = (0, mst μ (nI j) nm' (nI r) as' nu') ∧ PP ρ π i τ = ((nI j, τ'), True)
def RS (ρ : QS) (π : PS) (μ : MS) (L i r : Nat) (as nu ad nu4 tr : NI) (σ : MS) (τ : QS) : Prop := ∃ (j : Nat) (nm' : Int32) (as' nu' ad' nu4' : NI) (pl : Int32), i + 2 ≤ j ∧ j ≤ L ∧ s_X5_readsRequest σ = (1, mst μ (nI j) nm' (nI (r + 1)) as' nu') ∧ PP ρ π i τ = PP ρ π j (Q5 ad' nu4' tr (nI (r + 1)) pl) ∧
  (j = L → PP ρ π j (Q5 ad' nu4' tr (nI (r + 1)) pl) = ((-6, Q5 ad' nu4' tr (nI (r + 1)) pl), True)) ∧
  (j < L → (m_tx μ j = 59 → PP ρ π j (Q5 ad' nu4' tr (nI (r + 1)) pl) = PP ρ π (j + 1) (Q5 ad' nu4' tr (nI (r + 1)) 0)) ∧ (¬ m_tx μ j = 59 → ∃ τ', PP ρ π j (Q5 ad' nu4' tr (nI (r + 1)) pl) = ((nI j, τ'), True))) ∧ RQ r as nu ad nu4 as' nu' ad' nu4'
set_option maxHeartbeats 4000000 in
theorem reqL (hL : L ≤ 60) (hl : p_le π = nI L) (hm : m_tl μ = nI L) (ht : ∀ j, j < L → p_si π j = m_tx μ j) {i r : Nat} (hi : i ≤ L) (hr3 : 3 * r ≤ i) (nm : Int32) (as nu ad nu4 tr : NI) :
    ok_X5_readsRequest (mst μ (nI i) nm (nI r) as nu) ∧ (RF ρ π μ i r (mst μ (nI i) nm (nI r) as nu) (Q5 ad nu4 tr (nI r) 0) ∨ RS ρ π μ L i r as nu ad nu4 tr (mst μ (nI i) nm (nI r) as nu) (Q5 ad nu4 tr (nI r) 0)) := by
  obtain ⟨σ, hσ⟩ : ∃ σ, σ = mst μ (nI i) nm (nI r) as nu := ⟨_, rfl⟩
  have n10 : ¬ (1 : Int32) = 0 := by decide
  obtain ⟨w1, w2, w3⟩ := one (nm := nm) (rq := nI r) (as := as) (nu := nu) hm hL hi 119
  obtain ⟨r1, r2, r3⟩ := one (nm := nm) (rq := nI r) (as := as) (nu := nu) hm hL hi 114
  obtain ⟨g1, g2, g3⟩ := hereC (nm := nm) (rq := nI r) (as := as) (nu := nu) hm hL hi 119
  rw [← hσ] at w1 w2 w3 r1 r2 r3 g1 g2 g3 ⊢
  by_cases hw : i < L ∧ m_tx μ i = 119
  · -- a writing
    have e1 := w1 hw
    have eh := g1 hw
    have hr : r < 21 := by omega
    have c0 : PP ρ π i (Q5 ad nu4 tr (nI r) 0) = PP ρ π (i + 1) (Q5 ad (upd nu4 r 0) tr (nI (r + 1)) 1) := by
      obtain ⟨q1, q2⟩ := (T0 (ad := ad) (nu := nu4) (tr := tr) (c := p_si π i) hr).1 (by rw [ht i hw.1]; exact hw.2)
      exact PP_go hL hl hw.1 q1 q2
    obtain ⟨m0, m1⟩ := rnum hm hL (M := 191) (by omega) (by omega) nm (nI r) as nu (i := i + 1) (by omega)
    by_cases hd : i + 1 < L ∧ dig (m_tx μ (i + 1))
    · obtain ⟨d, i2, a, hd9, hcd, h1, h2, h3, en, okn, cl, stk⟩ := m1 hd.1 hd.2
      have c1 : PP ρ π (i + 1) (Q5 ad (upd nu4 r 0) tr (nI (r + 1)) 1) = PP ρ π (i + 1 + 1) (Q5 (upd ad r (nI d)) (upd nu4 r 0) tr (nI (r + 1)) 2) := by
        obtain ⟨q1, q2⟩ := (T1 (ad := ad) (nu := upd nu4 r 0) (tr := tr) (c := p_si π (i + 1)) hr).1 (by rw [ht _ hd.1]; exact hd.2)
        rw [ht _ hd.1, hcd] at q2
        exact PP_go hL hl hd.1 q1 (by rw [ht _ hd.1]; exact q2)
      have c2 := cl (fun j w => PP ρ π j (Q5 (upd ad r (nI w)) (upd nu4 r 0) tr (nI (r + 1)) 2)) (fun j w d hj hw0 hw9 hdj hcj hd9 hmx => by
        obtain ⟨q1, q2⟩ := T2_yes (ad := upd ad r (nI w)) (nu := upd nu4 r 0) (tr := tr) (c := p_si π j) (v := w) (d := d) hr pk_us hw0 (by omega) (by rw [ht j hj]; exact hdj) (by rw [ht j hj]; exact hcj) hd9 hmx
        rw [upd_upd] at q2
        exact PP_go hL hl hj q1 q2)
      have c3 : PP ρ π i (Q5 ad nu4 tr (nI r) 0) = PP ρ π i2 (Q5 (upd ad r (nI a)) (upd nu4 r 0) tr (nI (r + 1)) 2) := c0.trans (c1.trans c2)
      have en' : s_X5_readsNumber (s_X5_takesOne σ 119).2 191 = (1, mst μ (nI i2) (nI a) (nI r) as nu) := by rw [e1]; exact en
      have et2 : t2_X5_readsRequest σ = mst μ (nI i2) (nI a) (nI r) (upd as r (nI a)) (upd nu r (-1)) := by
        unfold t2_X5_readsRequest t1_X5_readsRequest
        rw [en']
        show mst μ (nI i2) (nI a) (nI r) (upd as (nI r).toNatClampNeg (nI a)) (upd nu (nI r).toNatClampNeg (-1)) = _
        rw [nI_clamp (by omega)]
      obtain ⟨q1, q2, q3⟩ := one (nm := nI a) (rq := nI r) (as := upd as r (nI a)) (nu := upd nu r (-1)) hm hL h2 61
      rw [← et2] at q1 q2 q3
      have okA : ok_X5_readsNumber (s_X5_takesOne σ 119).2 191 := by rw [e1]; exact okn
      have v1 : vp_in (m_rq (s_X5_readsNumber (s_X5_takesOne σ 119).2 191).2) 30 := by rw [en']; exact vp_in_nI (n := r) (by omega) (by decide)
      have v2 : vp_in (m_rq (t1_X5_readsRequest σ)) 30 := by
        unfold t1_X5_readsRequest
        rw [en']
        exact vp_in_nI (n := r) (by omega) (by decide)
      have stuckW : i2 < L → ¬ m_tx μ i2 = 61 → (s_X3_takes (Q5 (upd ad r (nI a)) (upd nu4 r 0) tr (nI (r + 1)) 2) (p_si π i2)).1 = 0 := fun hlt hne =>
        ((T2_no (ad := upd ad r (nI a)) (nu := upd nu4 r 0) (tr := tr) (c := p_si π i2) (v := a) hr pk_us (by omega) (by rw [ht i2 hlt]; exact stk hlt)).2 (by rw [pk_us]; decide)).2 (by rw [ht i2 hlt]; exact hne)
      by_cases h61 : i2 < L ∧ m_tx μ i2 = 61
      · have e61 := q1 h61
        have c4 : PP ρ π i2 (Q5 (upd ad r (nI a)) (upd nu4 r 0) tr (nI (r + 1)) 2) = PP ρ π (i2 + 1) (Q5 (upd ad r (nI a)) (upd nu4 r 0) tr (nI (r + 1)) 3) := by
          obtain ⟨q1, q2⟩ := ((T2_no (ad := upd ad r (nI a)) (nu := upd nu4 r 0) (tr := tr) (c := p_si π i2) (v := a) hr pk_us (by omega) (by rw [ht i2 h61.1]; exact stk h61.1)).2 (by rw [pk_us]; decide)).1 (by rw [ht i2 h61.1]; exact h61.2)
          exact PP_go hL hl h61.1 q1 q2
        obtain ⟨z0, z1⟩ := rnum hm hL (M := 255) (by omega) (by omega) (nI a) (nI r) (upd as r (nI a)) (upd nu r (-1)) (i := i2 + 1) (by omega)
        by_cases hd2 : i2 + 1 < L ∧ dig (m_tx μ (i2 + 1))
        · obtain ⟨d2, i3, v, hd29, hcd2, y1, y2, y3, en2, okn2, cl2, stk2⟩ := z1 hd2.1 hd2.2
          have c5 : PP ρ π (i2 + 1) (Q5 (upd ad r (nI a)) (upd nu4 r 0) tr (nI (r + 1)) 3) = PP ρ π (i2 + 1 + 1) (Q5 (upd ad r (nI a)) (upd nu4 r (nI d2)) tr (nI (r + 1)) 4) := by
            obtain ⟨q1, q2⟩ := (T3 (ad := upd ad r (nI a)) (nu := upd nu4 r 0) (tr := tr) (c := p_si π (i2 + 1)) hr).1 (by rw [ht _ hd2.1]; exact hd2.2)
            rw [upd_upd, ht _ hd2.1, hcd2] at q2
            exact PP_go hL hl hd2.1 q1 (by rw [ht _ hd2.1]; exact q2)
          have c6 := cl2 (fun j w => PP ρ π j (Q5 (upd ad r (nI a)) (upd nu4 r (nI w)) tr (nI (r + 1)) 4)) (fun j w d hj hw0 hw9 hdj hcj hd9 hmx => by
            obtain ⟨q1, q2⟩ := T4_yes (ad := upd ad r (nI a)) (nu := upd nu4 r (nI w)) (tr := tr) (c := p_si π j) (v := w) (d := d) hr pk_us hw0 (by omega) (by rw [ht j hj]; exact hdj) (by rw [ht j hj]; exact hcj) hd9 hmx
            rw [upd_upd] at q2
            exact PP_go hL hl hj q1 q2)
          have en2' : s_X5_readsNumber (s_X5_takesOne (t2_X5_readsRequest σ) 61).2 255 = (1, mst μ (nI i3) (nI v) (nI r) (upd as r (nI a)) (upd nu r (-1))) := by rw [e61]; exact en2
          have et7 : t7_X5_readsRequest σ = mst μ (nI i3) (nI v) (nI (r + 1)) (upd as r (nI a)) (upd nu r (nI v)) := by
            unfold t7_X5_readsRequest t6_X5_readsRequest t5_X5_readsRequest
            rw [en2']
            show mst μ (nI i3) (nI v) (nI r + 1) (upd as r (nI a)) (upd (upd nu r (-1)) (nI r).toNatClampNeg (nI v)) = _
            rw [nI_clamp (by omega), nI_1, upd_upd]
          have v3 : vp_in (m_rq (t5_X5_readsRequest σ)) 30 := by
            unfold t5_X5_readsRequest
            rw [en2']
            exact vp_in_nI (n := r) (by omega) (by decide)
          have okB : ok_X5_readsNumber (s_X5_takesOne (t2_X5_readsRequest σ) 61).2 255 := by rw [e61]; exact okn2
          refine ⟨⟨g3, w3, fun h => absurd h (by rw [e1]; exact n10), fun _ => ⟨okA, fun _ => trivial, fun _ => ⟨v1, v2, fun h => absurd h (by rw [eh]; exact n10), fun _ => ⟨q3, fun _ => trivial, fun _ => ⟨okB, fun _ => trivial, fun _ => v3⟩⟩⟩⟩⟩, Or.inr ⟨i3, nI v, upd as r (nI a), upd nu r (nI v), upd ad r (nI a), upd nu4 r (nI v), 4, by omega, y2, ?_, c3.trans (c4.trans (c5.trans c6)), fun h => ?_, fun h => ⟨fun h59 => ?_, fun h59 => ?_⟩, ⟨⟨a, h3, pk_us, pk_us⟩, Or.inr ⟨v, y3, pk_us, pk_us⟩, fun k hk => ⟨pk_un (by omega), pk_un (by omega), pk_un (by omega), pk_un (by omega)⟩⟩⟩⟩
          · unfold s_X5_readsRequest
            rw [en2', en', e61, e1, eh, et7]
            exact (if_neg n10).trans ((if_neg n10).trans ((if_neg n10).trans ((if_neg n10).trans (if_neg n10))))
          · subst h
            exact PE4 hL hl _ _ _ _
          · obtain ⟨q1, q2⟩ := (T4_no (ad := upd ad r (nI a)) (nu := upd nu4 r (nI v)) (tr := tr) (c := p_si π i3) (v := v) hr pk_us y3 (by rw [ht i3 h]; exact stk2 h)).1 (by rw [ht i3 h]; exact h59)
            exact PP_go hL hl h q1 q2
          · exact ⟨_, PP_stop hL hl h ((T4_no (ad := upd ad r (nI a)) (nu := upd nu4 r (nI v)) (tr := tr) (c := p_si π i3) (v := v) hr pk_us y3 (by rw [ht i3 h]; exact stk2 h)).2 (by rw [ht i3 h]; exact h59))⟩
        · obtain ⟨z2, z3⟩ := z0 hd2
          have z2' : s_X5_readsNumber (s_X5_takesOne (t2_X5_readsRequest σ) 61).2 255 = (0, mst μ (nI (i2 + 1)) (nI a) (nI r) (upd as r (nI a)) (upd nu r (-1))) := by rw [e61]; exact z2
          have okB : ok_X5_readsNumber (s_X5_takesOne (t2_X5_readsRequest σ) 61).2 255 := by rw [e61]; exact z3
          have et5 : t5_X5_readsRequest σ = mst μ (nI (i2 + 1)) (nI a) (nI r) (upd as r (nI a)) (upd nu r (-1)) := by
            unfold t5_X5_readsRequest
            rw [z2']
          have fin : ∃ τ', PP ρ π (i2 + 1) (Q5 (upd ad r (nI a)) (upd nu4 r 0) tr (nI (r + 1)) 3) = ((nI (i2 + 1), τ'), True) := by
            by_cases hlt : i2 + 1 < L
            · exact ⟨_, PP_stop hL hl hlt ((T3 (ad := upd ad r (nI a)) (nu := upd nu4 r 0) (tr := tr) (c := p_si π (i2 + 1)) hr).2 (by rw [ht _ hlt]; exact fun h => hd2 ⟨hlt, h⟩))⟩
            · have e : i2 + 1 = L := by omega
              rw [e]
              exact ⟨_, PEx hL hl _ _ _ _ (by decide) (by decide)⟩
          obtain ⟨τ', hτ⟩ := fin
          refine ⟨⟨g3, w3, fun h => absurd h (by rw [e1]; exact n10), fun _ => ⟨okA, fun _ => trivial, fun _ => ⟨v1, v2, fun h => absurd h (by rw [eh]; exact n10), fun _ => ⟨q3, fun _ => trivial, fun _ => ⟨okB, fun _ => trivial, fun h => absurd (by rw [z2']) h⟩⟩⟩⟩⟩, Or.inl ⟨i2 + 1, nI a, upd as r (nI a), upd nu r (-1), τ', by omega, ?_, c3.trans (c4.trans hτ)⟩⟩
          unfold s_X5_readsRequest
          rw [z2', en', e61, e1, eh, et5]
          exact (if_neg n10).trans ((if_neg n10).trans ((if_neg n10).trans ((if_neg n10).trans (if_pos rfl))))
      · have e61 := q2 h61
        have fin : ∃ τ', PP ρ π i2 (Q5 (upd ad r (nI a)) (upd nu4 r 0) tr (nI (r + 1)) 2) = ((nI i2, τ'), True) := by
          by_cases hlt : i2 < L
          · exact ⟨_, PP_stop hL hl hlt (stuckW hlt (fun h => h61 ⟨hlt, h⟩))⟩
          · have e : i2 = L := by omega
            subst e
            exact ⟨_, (PE2 hL hl _ _ _ hr).2 (by rw [pk_us]; decide)⟩
        obtain ⟨τ', hτ⟩ := fin
        refine ⟨⟨g3, w3, fun h => absurd h (by rw [e1]; exact n10), fun _ => ⟨okA, fun _ => trivial, fun _ => ⟨v1, v2, fun h => absurd h (by rw [eh]; exact n10), fun _ => ⟨q3, fun _ => trivial, fun h => absurd (by rw [e61]) h⟩⟩⟩⟩, Or.inl ⟨i2, nI a, upd as r (nI a), upd nu r (-1), τ', by omega, ?_, c3.trans hτ⟩⟩
        unfold s_X5_readsRequest
        rw [en', e61, e1, eh, et2]
        exact (if_neg n10).trans ((if_neg n10).trans ((if_neg n10).trans (if_pos rfl)))
    · obtain ⟨z2, z3⟩ := m0 hd
      have z2' : s_X5_readsNumber (s_X5_takesOne σ 119).2 191 = (0, mst μ (nI (i + 1)) nm (nI r) as nu) := by rw [e1]; exact z2
      have okA : ok_X5_readsNumber (s_X5_takesOne σ 119).2 191 := by rw [e1]; exact z3
      have fin : ∃ τ', PP ρ π (i + 1) (Q5 ad (upd nu4 r 0) tr (nI (r + 1)) 1) = ((nI (i + 1), τ'), True) := by
        by_cases hlt : i + 1 < L
        · exact ⟨_, PP_stop hL hl hlt ((T1 (ad := ad) (nu := upd nu4 r 0) (tr := tr) (c := p_si π (i + 1)) hr).2 (by rw [ht _ hlt]; exact fun h => hd ⟨hlt, h⟩))⟩
        · have e : i + 1 = L := by omega
          rw [e]
          exact ⟨_, PEx hL hl _ _ _ _ (by decide) (by decide)⟩
      obtain ⟨τ', hτ⟩ := fin
      refine ⟨⟨g3, w3, fun h => absurd h (by rw [e1]; exact n10), fun _ => ⟨okA, fun _ => trivial, fun h => absurd (by rw [z2']) h⟩⟩, Or.inl ⟨i + 1, nm, as, nu, τ', by omega, ?_, c0.trans hτ⟩⟩
      unfold s_X5_readsRequest
      rw [z2', e1]
      exact (if_neg n10).trans (if_pos rfl)
  · have e1 := w2 hw
    have eh := g2 hw
    have e1a : s_X5_takesOne (s_X5_takesOne σ 119).2 114 = s_X5_takesOne σ 114 := by rw [e1, hσ]
    by_cases hrd : i < L ∧ m_tx μ i = 114
    · -- a reading
      have e2 := r1 hrd
      have hr : r < 21 := by omega
      have c0 : PP ρ π i (Q5 ad nu4 tr (nI r) 0) = PP ρ π (i + 1) (Q5 ad (upd nu4 r (-6)) tr (nI (r + 1)) 1) := by
        obtain ⟨q1, q2⟩ := (T0 (ad := ad) (nu := nu4) (tr := tr) (c := p_si π i) hr).2.1 (by rw [ht i hrd.1]; exact hrd.2)
        exact PP_go hL hl hrd.1 q1 q2
      have ok1 : ok_X5_takesOne (s_X5_takesOne σ 119).2 114 := by rw [e1]; exact r3
      obtain ⟨m0, m1⟩ := rnum hm hL (M := 191) (by omega) (by omega) nm (nI r) as nu (i := i + 1) (by omega)
      by_cases hd : i + 1 < L ∧ dig (m_tx μ (i + 1))
      · obtain ⟨d, i2, a, hd9, hcd, h1, h2, h3, en, okn, cl, stk⟩ := m1 hd.1 hd.2
        have c1 : PP ρ π (i + 1) (Q5 ad (upd nu4 r (-6)) tr (nI (r + 1)) 1) = PP ρ π (i + 1 + 1) (Q5 (upd ad r (nI d)) (upd nu4 r (-6)) tr (nI (r + 1)) 2) := by
          obtain ⟨q1, q2⟩ := (T1 (ad := ad) (nu := upd nu4 r (-6)) (tr := tr) (c := p_si π (i + 1)) hr).1 (by rw [ht _ hd.1]; exact hd.2)
          rw [ht _ hd.1, hcd] at q2
          exact PP_go hL hl hd.1 q1 (by rw [ht _ hd.1]; exact q2)
        have c2 := cl (fun j w => PP ρ π j (Q5 (upd ad r (nI w)) (upd nu4 r (-6)) tr (nI (r + 1)) 2)) (fun j w d hj hw0 hw9 hdj hcj hd9 hmx => by
          obtain ⟨q1, q2⟩ := T2_yes (ad := upd ad r (nI w)) (nu := upd nu4 r (-6)) (tr := tr) (c := p_si π j) (v := w) (d := d) hr pk_us hw0 (by omega) (by rw [ht j hj]; exact hdj) (by rw [ht j hj]; exact hcj) hd9 hmx
          rw [upd_upd] at q2
          exact PP_go hL hl hj q1 q2)
        have en' : s_X5_readsNumber (s_X5_takesOne (s_X5_takesOne σ 119).2 114).2 191 = (1, mst μ (nI i2) (nI a) (nI r) as nu) := by rw [e1a, e2]; exact en
        have okA : ok_X5_readsNumber (s_X5_takesOne (s_X5_takesOne σ 119).2 114).2 191 := by rw [e1a, e2]; exact okn
        have et8 : t8_X5_readsRequest σ = mst μ (nI i2) (nI a) (nI r) as nu := by
          unfold t8_X5_readsRequest
          rw [en']
        have et9 : t9_X5_readsRequest σ = mst μ (nI i2) (nI a) (nI r) (upd as r (nI a)) nu := by
          unfold t9_X5_readsRequest
          rw [et8]
          show mst μ (nI i2) (nI a) (nI r) (upd as (nI r).toNatClampNeg (nI a)) nu = _
          rw [nI_clamp (by omega)]
        have et10 : t10_X5_readsRequest σ = mst μ (nI i2) (nI a) (nI r) (upd as r (nI a)) (upd nu r (-1)) := by
          unfold t10_X5_readsRequest
          rw [et9]
          show mst μ (nI i2) (nI a) (nI r) (upd as r (nI a)) (upd nu (nI r).toNatClampNeg (-1)) = _
          rw [nI_clamp (by omega)]
        have et12 : t12_X5_readsRequest σ = mst μ (nI i2) (nI a) (nI (r + 1)) (upd as r (nI a)) (upd nu r (-1)) := by
          unfold t12_X5_readsRequest t11_X5_readsRequest
          rw [et10]
          show mst μ (nI i2) (nI a) (nI r + 1) (upd as r (nI a)) (upd (upd nu r (-1)) (nI r).toNatClampNeg (-1)) = _
          rw [nI_clamp (by omega), nI_1, upd_upd]
        have v8 : vp_in (m_rq (t8_X5_readsRequest σ)) 30 := by rw [et8]; exact vp_in_nI (n := r) (by omega) (by decide)
        have v9 : vp_in (m_rq (t9_X5_readsRequest σ)) 30 := by rw [et9]; exact vp_in_nI (n := r) (by omega) (by decide)
        have v10 : vp_in (m_rq (t10_X5_readsRequest σ)) 30 := by rw [et10]; exact vp_in_nI (n := r) (by omega) (by decide)
        refine ⟨⟨g3, w3, fun _ => ⟨ok1, fun _ => trivial, fun _ => ⟨okA, fun _ => trivial, fun _ => ⟨v8, v9, fun _ => v10, fun h => absurd eh h⟩⟩⟩, fun h => absurd (by rw [e1]) h⟩, Or.inr ⟨i2, nI a, upd as r (nI a), upd nu r (-1), upd ad r (nI a), upd nu4 r (-6), 2, by omega, h2, ?_, c0.trans (c1.trans c2), fun h => ?_, fun h => ⟨fun h59 => ?_, fun h59 => ?_⟩, ⟨⟨a, h3, pk_us, pk_us⟩, Or.inl ⟨pk_us, pk_us⟩, fun k hk => ⟨pk_un (by omega), pk_un (by omega), pk_un (by omega), pk_un (by omega)⟩⟩⟩⟩
        · unfold s_X5_readsRequest
          rw [en', e1a, e1, e2, eh, et12]
          exact (if_pos rfl).trans ((if_neg n10).trans ((if_neg n10).trans (if_pos rfl)))
        · subst h
          exact (PE2 hL hl _ _ _ hr).1 pk_us
        · obtain ⟨q1, q2⟩ := ((T2_no (ad := upd ad r (nI a)) (nu := upd nu4 r (-6)) (tr := tr) (c := p_si π i2) (v := a) hr pk_us (by omega) (by rw [ht i2 h]; exact stk h)).1 pk_us).1 (by rw [ht i2 h]; exact h59)
          exact PP_go hL hl h q1 q2
        · exact ⟨_, PP_stop hL hl h (((T2_no (ad := upd ad r (nI a)) (nu := upd nu4 r (-6)) (tr := tr) (c := p_si π i2) (v := a) hr pk_us (by omega) (by rw [ht i2 h]; exact stk h)).1 pk_us).2 (by rw [ht i2 h]; exact h59))⟩
      · obtain ⟨z2, z3⟩ := m0 hd
        have z2' : s_X5_readsNumber (s_X5_takesOne (s_X5_takesOne σ 119).2 114).2 191 = (0, mst μ (nI (i + 1)) nm (nI r) as nu) := by rw [e1a, e2]; exact z2
        have okA : ok_X5_readsNumber (s_X5_takesOne (s_X5_takesOne σ 119).2 114).2 191 := by rw [e1a, e2]; exact z3
        have et8 : t8_X5_readsRequest σ = mst μ (nI (i + 1)) nm (nI r) as nu := by
          unfold t8_X5_readsRequest
          rw [z2']
        have fin : ∃ τ', PP ρ π (i + 1) (Q5 ad (upd nu4 r (-6)) tr (nI (r + 1)) 1) = ((nI (i + 1), τ'), True) := by
          by_cases hlt : i + 1 < L
          · exact ⟨_, PP_stop hL hl hlt ((T1 (ad := ad) (nu := upd nu4 r (-6)) (tr := tr) (c := p_si π (i + 1)) hr).2 (by rw [ht _ hlt]; exact fun h => hd ⟨hlt, h⟩))⟩
          · have e : i + 1 = L := by omega
            rw [e]
            exact ⟨_, PEx hL hl _ _ _ _ (by decide) (by decide)⟩
        obtain ⟨τ', hτ⟩ := fin
        refine ⟨⟨g3, w3, fun _ => ⟨ok1, fun _ => trivial, fun _ => ⟨okA, fun _ => trivial, fun h => absurd (by rw [z2']) h⟩⟩, fun h => absurd (by rw [e1]) h⟩, Or.inl ⟨i + 1, nm, as, nu, τ', by omega, ?_, c0.trans hτ⟩⟩
        unfold s_X5_readsRequest
        rw [z2', e1a, e1, e2, et8]
        exact (if_pos rfl).trans ((if_neg n10).trans (if_pos rfl))
    · have e2 := r2 hrd
      have ok1 : ok_X5_takesOne (s_X5_takesOne σ 119).2 114 := by rw [e1]; exact r3
      have fin : ∃ τ', PP ρ π i (Q5 ad nu4 tr (nI r) 0) = ((nI i, τ'), True) := by
        by_cases hlt : i < L
        · exact ⟨_, PP_stop hL hl hlt ((T0 (ad := ad) (nu := nu4) (tr := tr) (c := p_si π i) (by omega)).2.2 (by rw [ht _ hlt]; exact fun h => hw ⟨hlt, h⟩) (by rw [ht _ hlt]; exact fun h => hrd ⟨hlt, h⟩))⟩
        · have e : i = L := by omega
          rw [e]
          exact ⟨_, PEx hL hl _ _ _ _ (by decide) (by decide)⟩
      obtain ⟨τ', hτ⟩ := fin
      refine ⟨⟨g3, w3, fun _ => ⟨ok1, fun _ => trivial, fun h => absurd (by rw [e1a, e2]) h⟩, fun h => absurd (by rw [e1]) h⟩, Or.inl ⟨i, nm, as, nu, τ', by omega, ?_, hτ⟩⟩
      unfold s_X5_readsRequest
      rw [e1a, e1, e2, ← hσ]
      exact (if_pos rfl).trans (if_pos rfl)
/-- the requests, as both hold them -/
def RqI (τ : QS) (μ' : MS) : Prop := ∃ r, r ≤ 21 ∧ q_sz τ = nI r ∧ m_rq μ' = nI r ∧ ∀ k, k < r → ∃ a, a ≤ 191 ∧ q_ad τ k = nI a ∧ m_as μ' k = nI a ∧ ((q_nu τ k = -6 ∧ m_nu μ' k = -1) ∨ ∃ v, v ≤ 255 ∧ q_nu τ k = nI v ∧ m_nu μ' k = nI v)
def RA (r : Nat) (as nu ad nu4 : NI) : Prop := ∀ k, k < r → ∃ a, a ≤ 191 ∧ ad k = nI a ∧ as k = nI a ∧ ((nu4 k = -6 ∧ nu k = -1) ∨ ∃ v, v ≤ 255 ∧ nu4 k = nI v ∧ nu k = nI v)
theorem RA.step {r : Nat} {as nu ad nu4 as' nu' ad' nu4' : NI} (h : RA r as nu ad nu4) (h2 : RQ r as nu ad nu4 as' nu' ad' nu4') : RA (r + 1) as' nu' ad' nu4' := by
  intro k hk
  obtain ⟨⟨a, ha, e1, e2⟩, hn, hk2⟩ := h2
  by_cases e : k = r
  · subst e
    exact ⟨a, ha, e2, e1, hn⟩
  · obtain ⟨q1, q2, q3, q4⟩ := hk2 k (by omega)
    rw [q1, q2, q3, q4]
    exact h k (by omega)
theorem faultZ (σ0 : MS) : ∀ (n : Nat) (μ2 : MS), 1 ≤ n → L1_X5_fault σ0 n 0 μ2 = (if m_so μ2 = m_tl μ2 then ((-6), μ2) else ((m_so μ2), μ2)) ∧ okL1_X5_fault σ0 n 0 μ2
  | 0, _, h => absurd h (by omega)
  | n + 1, μ2, _ => by
    rw [L1_X5_fault, okL1_X5_fault, if_pos rfl]
    exact ⟨rfl, fun _ => trivial, fun h => absurd rfl h⟩
set_option maxHeartbeats 4000000 in
theorem faultL (σ0 : MS) (hL : L ≤ 60) (hl : p_le π = nI L) (hm : m_tl μ = nI L) (ht : ∀ j, j < L → p_si π j = m_tx μ j) (tr : NI) : ∀ (n i r : Nat) (nm : Int32) (as nu ad nu4 : NI), i ≤ L → 3 * r ≤ i → L - i + 1 < n → RA r as nu ad nu4 →
    ∃ (ans : Int32) (μ' : MS) (τ' : QS), L1_X5_fault σ0 n 1 (mst μ (nI i) nm (nI r) as nu) = (ans, μ') ∧ okL1_X5_fault σ0 n 1 (mst μ (nI i) nm (nI r) as nu) ∧ PP ρ π i (Q5 ad nu4 tr (nI r) 0) = ((ans, τ'), True) ∧ (∃ so' nm' rq' as' nu', μ' = mst μ so' nm' rq' as' nu') ∧ (ans = -6 → RqI τ' μ')
  | 0, i, r, nm, as, nu, ad, nu4, _, _, h, _ => absurd h (Nat.not_lt_zero _)
  | n + 1, i, r, nm, as, nu, ad, nu4, hi, hr3, hn, hRA => by
    obtain ⟨okR, hcase⟩ := reqL (ρ := ρ) hL hl hm ht hi hr3 nm as nu ad nu4 tr
    have n10 : ¬ (1 : Int32) = 0 := by decide
    rcases hcase with ⟨j, nm', as', nu', τ', hj9, e1, e2⟩ | ⟨j, nm', as', nu', ad', nu4', pl, hj2, hjL, e1, e2, hend, hlt, hRQ⟩
    · refine ⟨nI j, mst μ (nI j) nm' (nI r) as' nu', τ', ?_, ?_, e2, ⟨_, _, _, _, _, rfl⟩, fun h => ?_⟩
      · rw [L1_X5_fault, if_neg n10, e1]
        exact if_pos rfl
      · rw [okL1_X5_fault]
        exact ⟨fun h => absurd h n10, fun _ => ⟨okR, fun _ => trivial, fun h => absurd (by rw [e1]) h⟩⟩
      · exact absurd h (n6_ne (by omega))
    · have hRA' := hRA.step hRQ
      obtain ⟨s1, s2, s3⟩ := one (nm := nm') (rq := nI (r + 1)) (as := as') (nu := nu') hm hL hjL 59
      have st : ∀ (x : Int32) (μ2 : MS), s_X5_takesOne (mst μ (nI j) nm' (nI (r + 1)) as' nu') 59 = (x, μ2) → L1_X5_fault σ0 (n + 1) 1 (mst μ (nI i) nm (nI r) as nu) = L1_X5_fault σ0 n x μ2 ∧ (okL1_X5_fault σ0 n x μ2 → okL1_X5_fault σ0 (n + 1) 1 (mst μ (nI i) nm (nI r) as nu)) := by
        intro x μ2 hx
        refine ⟨?_, fun h => ?_⟩
        · rw [L1_X5_fault, if_neg n10, e1]
          show (if (1 : Int32) = 0 then _ else L1_X5_fault σ0 n (s_X5_takesOne (mst μ (nI j) nm' (nI (r + 1)) as' nu') 59).1 (s_X5_takesOne (mst μ (nI j) nm' (nI (r + 1)) as' nu') 59).2) = _
          rw [if_neg n10, hx]
        · rw [okL1_X5_fault, e1]
          refine ⟨fun h => absurd h n10, fun _ => ⟨okR, fun h => absurd h n10, fun _ => ⟨s3, ?_⟩⟩⟩
          show okL1_X5_fault σ0 n (s_X5_takesOne (mst μ (nI j) nm' (nI (r + 1)) as' nu') 59).1 (s_X5_takesOne (mst μ (nI j) nm' (nI (r + 1)) as' nu') 59).2
          rw [hx]
          exact h
      by_cases h59 : j < L ∧ m_tx μ j = 59
      · obtain ⟨t1, t2⟩ := st _ _ (s1 h59)
        obtain ⟨ans, μ', τ', f1, f2, f3, f4, f5⟩ := faultL σ0 hL hl hm ht tr n (j + 1) (r + 1) nm' as' nu' ad' nu4' (by omega) (by omega) (by omega) hRA'
        refine ⟨ans, μ', τ', t1.trans f1, t2 f2, ?_, f4, f5⟩
        rw [e2, (hlt h59.1).1 h59.2]
        exact f3
      · obtain ⟨t1, t2⟩ := st _ _ (s2 h59)
        obtain ⟨z1, ok0⟩ := faultZ σ0 n (mst μ (nI j) nm' (nI (r + 1)) as' nu') (by omega)
        by_cases hjl : j = L
        · refine ⟨-6, mst μ (nI j) nm' (nI (r + 1)) as' nu', Q5 ad' nu4' tr (nI (r + 1)) pl, ?_, t2 ok0, e2.trans (hend hjl), ⟨_, _, _, _, _, rfl⟩, fun _ => ⟨r + 1, by omega, rfl, rfl, hRA'⟩⟩
          rw [t1, z1]
          have : m_so (mst μ (nI j) nm' (nI (r + 1)) as' nu') = m_tl (mst μ (nI j) nm' (nI (r + 1)) as' nu') := by
            show nI j = m_tl μ
            rw [hm, hjl]
          rw [if_pos this]
        · have hjlt : j < L := by omega
          obtain ⟨τ', hτ⟩ := (hlt hjlt).2 (fun h => h59 ⟨hjlt, h⟩)
          refine ⟨nI j, mst μ (nI j) nm' (nI (r + 1)) as' nu', τ', ?_, t2 ok0, e2.trans hτ, ⟨_, _, _, _, _, rfl⟩, fun h => absurd h (n6_ne (by omega))⟩
          rw [t1, z1]
          have : ¬ m_so (mst μ (nI j) nm' (nI (r + 1)) as' nu') = m_tl (mst μ (nI j) nm' (nI (r + 1)) as' nu') := by
            show ¬ nI j = m_tl μ
            rw [hm]
            exact fun h => hjl (nI_inj (by omega) (by omega) h)
          rw [if_neg this]
          rfl
end REQ
