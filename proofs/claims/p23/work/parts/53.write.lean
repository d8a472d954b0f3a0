/-! an address is written -/
section HEA
variable {σ : DS} {K : Nat}
theorem jmn {b m : Nat} (hb : b ≤ 99) (hm : m ≤ 20) : jmin 99 (nI b + nI m) = nI (min 99 (b + m)) := by
  rw [nI_add]
  show (if nI (b + m) < 99 then nI (b + m) else 99) = _
  by_cases h1 : b + m < 99
  · rw [if_pos (show nI (b + m) < (99 : Int32) from nI_lt (b := 99) h1 (by omega)), Nat.min_eq_right (by omega)]
  · rw [if_neg (show ¬ nI (b + m) < (99 : Int32) from nI_nlt (b := 99) (by omega) (by omega)), Nat.min_eq_left (by omega)]
    rfl
theorem onT (σ : DS) {j : Nat} (hj : j < 192) : s_X0_isOnTracksInUse σ (nI j) = if d_se σ j = nI j then 1 else 0 := by
  unfold s_X0_isOnTracksInUse
  rw [if_neg (adr1 hj), at_nI hj (by omega)]
/-- the heat of one sector -/
theorem heatG (σ : DS) (p : Int32) {m : Nat} (hm : m ≤ 20) {B : Nat → Nat} (hB : ∀ c, c < 204 → d_bl σ c = nI (B c) ∧ B c ≤ 99) : ∃ (g : NI) (B' : Nat → Nat), s_X0_blurBy σ p (nI m) = d_bl' σ g ∧ (∀ c, c < 204 → g c = nI (B' c) ∧ B' c ≤ 99) ∧ ∀ c, c < 204 → B' c = if c < 192 ∧ p = nI c ∧ d_se σ c = nI c ∧ ¬ d_nu σ c = -6 then min 99 (B c + m) else B c := by
  have same : (∀ c, c < 204 → ¬ (c < 192 ∧ p = nI c ∧ d_se σ c = nI c ∧ ¬ d_nu σ c = -6)) → s_X0_blurBy σ p (nI m) = σ → ∃ (g : NI) (B' : Nat → Nat), s_X0_blurBy σ p (nI m) = d_bl' σ g ∧ (∀ c, c < 204 → g c = nI (B' c) ∧ B' c ≤ 99) ∧ ∀ c, c < 204 → B' c = if c < 192 ∧ p = nI c ∧ d_se σ c = nI c ∧ ¬ d_nu σ c = -6 then min 99 (B c + m) else B c :=
    fun h e => ⟨d_bl σ, B, by rw [e]; rfl, hB, fun c hc => (if_neg (h c hc)).symm⟩
  rcases pk_ix p (n := 192) (by omega) with h | h | ⟨j, hj, rfl⟩
  · refine same (fun c hc q => ?_) ?_
    · rw [q.2.1] at h
      exact nI_pos (by omega) h
    · unfold s_X0_blurBy s_X0_isOnTracksInUse s_X4_isAddress
      rw [if_pos h, if_pos rfl, if_pos rfl]
  · refine same (fun c hc q => ?_) ?_
    · rw [q.2.1] at h
      exact nI_ge q.1 (by omega) h
    · have e0 : s_X4_isAddress p = 0 := by
        unfold s_X4_isAddress
        rw [if_pos (show (192 : Int32) ≤ p from h)]
        split <;> rfl
      unfold s_X0_blurBy s_X0_isOnTracksInUse
      rw [if_pos e0, if_pos rfl]
  · have hj2 : ∀ c, c < 204 → nI j = nI c → j = c := fun c hc q => nI_inj (by omega) (by omega) q
    by_cases h1 : d_se σ j = nI j
    · by_cases h2 : d_nu σ j = -6
      · refine same (fun c hc q => ?_) ?_
        · have := hj2 c hc q.2.1
          subst this
          exact q.2.2.2 h2
        · unfold s_X0_blurBy
          rw [onT σ hj, if_pos h1, if_neg (by decide), holN σ (by omega), if_pos h2, if_pos rfl]
      · refine ⟨upd (d_bl σ) j (nI (min 99 (B j + m))), fun c => if c = j then min 99 (B j + m) else B c, ?_, fun c hc => ?_, fun c hc => ?_⟩
        · unfold s_X0_blurBy t1_X0_blurBy
          rw [onT σ hj, if_pos h1, if_neg (by decide), holN σ (by omega), if_neg h2, if_neg (by decide), bluI σ (by omega), (hB j (by omega)).1, jmn (hB j (by omega)).2 hm, lay_nI (by omega) (by omega)]
        · show upd (d_bl σ) j (nI (min 99 (B j + m))) c = nI (if c = j then min 99 (B j + m) else B c) ∧ (if c = j then min 99 (B j + m) else B c) ≤ 99
          by_cases e : c = j
          · subst e
            rw [if_pos rfl, pk_us]
            exact ⟨rfl, Nat.min_le_left _ _⟩
          · rw [if_neg e, pk_un e]
            exact hB c hc
        · show (if c = j then min 99 (B j + m) else B c) = _
          by_cases e : c = j
          · subst e
            rw [if_pos rfl, if_pos ⟨hj, rfl, h1, h2⟩]
          · rw [if_neg e, if_neg (fun q => e (hj2 c hc q.2.1).symm)]
    · refine same (fun c hc q => ?_) ?_
      · have := hj2 c hc q.2.1
        subst this
        exact h1 q.2.2.1
      · unfold s_X0_blurBy
        rw [onT σ hj, if_neg h1, if_pos rfl]
theorem ite_iff {P Q : Prop} [Decidable P] [Decidable Q] {A : Type} {a b : A} (h : P ↔ Q) : (if P then a else b) = (if Q then a else b) := by
  by_cases hp : P
  · rw [if_pos hp, if_pos (h.mp hp)]
  · rw [if_neg hp, if_neg (fun q => hp (h.mpr q))]
theorem sub_iff (x y z : Int32) : x - y = z ↔ x = z + y := by
  constructor
  · intro h
    rw [← h, Int32.sub_add_cancel]
  · intro h
    rw [h, Int32.add_sub_cancel]
/-- which sectors a writing on w heats, and what their blur is then -/
def hotB (H F w c b : Nat) : Nat := if w = c + 12 ∨ c = w + 12 then min 99 (b + H) else if w = c + 24 ∨ c = w + 24 then min 99 (b + F) else b
theorem heats4 (τ : DS) {H F w : Nat} (hH : H ≤ 20) (hF : F ≤ 20) (h0' : d_st τ 0 = nI H) (h1' : d_st τ 1 = nI F) (hw : w < 192) {B : Nat → Nat} (hB : ∀ c, c < 204 → d_bl τ c = nI (B c) ∧ B c ≤ 99) :
    ∃ g : NI, s_X0_blurBy (s_X0_blurBy (s_X0_blurBy (s_X0_blurBy τ (nI w - 12) (s_X0_settingOf τ 0)) (nI w + 12) (s_X0_settingOf (s_X0_blurBy τ (nI w - 12) (s_X0_settingOf τ 0)) 0)) (nI w - 24) (s_X0_settingOf (s_X0_blurBy (s_X0_blurBy τ (nI w - 12) (s_X0_settingOf τ 0)) (nI w + 12) (s_X0_settingOf (s_X0_blurBy τ (nI w - 12) (s_X0_settingOf τ 0)) 0)) 1)) (nI w + 24) (s_X0_settingOf (s_X0_blurBy (s_X0_blurBy (s_X0_blurBy τ (nI w - 12) (s_X0_settingOf τ 0)) (nI w + 12) (s_X0_settingOf (s_X0_blurBy τ (nI w - 12) (s_X0_settingOf τ 0)) 0)) (nI w - 24) (s_X0_settingOf (s_X0_blurBy (s_X0_blurBy τ (nI w - 12) (s_X0_settingOf τ 0)) (nI w + 12) (s_X0_settingOf (s_X0_blurBy τ (nI w - 12) (s_X0_settingOf τ 0)) 0)) 1)) 1) = d_bl' τ g ∧
      ∀ c, c < 204 → g c = nI (if c < 192 ∧ d_se τ c = nI c ∧ ¬ d_nu τ c = -6 then hotB H F w c (B c) else B c) := by
  have s0 : s_X0_settingOf τ 0 = nI H := (setI0 τ).trans h0'
  rw [s0]
  obtain ⟨g1, B1, e1, f1, v1⟩ := heatG τ (nI w - 12) hH hB
  rw [e1]
  have s1 : s_X0_settingOf (d_bl' τ g1) 0 = nI H := (setI0 _).trans h0'
  rw [s1]
  obtain ⟨g2, B2, e2, f2, v2⟩ := heatG (d_bl' τ g1) (nI w + 12) hH f1
  rw [e2]
  have s2 : s_X0_settingOf (d_bl' (d_bl' τ g1) g2) 1 = nI F := (setI1 _).trans h1'
  rw [s2]
  obtain ⟨g3, B3, e3, f3, v3⟩ := heatG (d_bl' (d_bl' τ g1) g2) (nI w - 24) hF f2
  rw [e3]
  have s3 : s_X0_settingOf (d_bl' (d_bl' (d_bl' τ g1) g2) g3) 1 = nI F := (setI1 _).trans h1'
  rw [s3]
  obtain ⟨g4, B4, e4, f4, v4⟩ := heatG (d_bl' (d_bl' (d_bl' τ g1) g2) g3) (nI w + 24) hF f3
  rw [e4]
  refine ⟨g4, rfl, fun c hc => ?_⟩
  rw [(f4 c hc).1]
  congr 1
  have i1 : nI w - 12 = nI c ↔ w = c + 12 := by
    rw [sub_iff, show (12 : Int32) = nI 12 from rfl, nI_add]
    exact ⟨fun h => nI_inj (by omega) (by omega) h, fun h => by rw [h]⟩
  have i2 : nI w + 12 = nI c ↔ c = w + 12 := by
    rw [show (12 : Int32) = nI 12 from rfl, nI_add]
    exact ⟨fun h => (nI_inj (by omega) (by omega) h).symm, fun h => by rw [h]⟩
  have i3 : nI w - 24 = nI c ↔ w = c + 24 := by
    rw [sub_iff, show (24 : Int32) = nI 24 from rfl, nI_add]
    exact ⟨fun h => nI_inj (by omega) (by omega) h, fun h => by rw [h]⟩
  have i4 : nI w + 24 = nI c ↔ c = w + 24 := by
    rw [show (24 : Int32) = nI 24 from rfl, nI_add]
    exact ⟨fun h => (nI_inj (by omega) (by omega) h).symm, fun h => by rw [h]⟩
  have w1 : B1 c = if c < 192 ∧ w = c + 12 ∧ d_se τ c = nI c ∧ ¬ d_nu τ c = -6 then min 99 (B c + H) else B c := (v1 c hc).trans (ite_iff (by rw [i1]))
  have w2 : B2 c = if c < 192 ∧ c = w + 12 ∧ d_se τ c = nI c ∧ ¬ d_nu τ c = -6 then min 99 (B1 c + H) else B1 c := (v2 c hc).trans (ite_iff (by rw [i2]; exact Iff.rfl))
  have w3 : B3 c = if c < 192 ∧ w = c + 24 ∧ d_se τ c = nI c ∧ ¬ d_nu τ c = -6 then min 99 (B2 c + F) else B2 c := (v3 c hc).trans (ite_iff (by rw [i3]; exact Iff.rfl))
  have w4 : B4 c = if c < 192 ∧ c = w + 24 ∧ d_se τ c = nI c ∧ ¬ d_nu τ c = -6 then min 99 (B3 c + F) else B3 c := (v4 c hc).trans (ite_iff (by rw [i4]; exact Iff.rfl))
  rw [w4, w3, w2, w1]
  by_cases u : c < 192 ∧ d_se τ c = nI c ∧ ¬ d_nu τ c = -6
  · rw [if_pos u]
    obtain ⟨u1, u2, u3⟩ := u
    unfold hotB
    by_cases a1 : w = c + 12
    · rw [if_neg (show ¬ (c < 192 ∧ c = w + 24 ∧ d_se τ c = nI c ∧ ¬ d_nu τ c = -6) from fun q => by omega), if_neg (show ¬ (c < 192 ∧ w = c + 24 ∧ d_se τ c = nI c ∧ ¬ d_nu τ c = -6) from fun q => by omega), if_neg (show ¬ (c < 192 ∧ c = w + 12 ∧ d_se τ c = nI c ∧ ¬ d_nu τ c = -6) from fun q => by omega), if_pos (show c < 192 ∧ w = c + 12 ∧ d_se τ c = nI c ∧ ¬ d_nu τ c = -6 from ⟨u1, a1, u2, u3⟩), if_pos (show w = c + 12 ∨ c = w + 12 from Or.inl a1)]
    · by_cases a2 : c = w + 12
      · rw [if_neg (show ¬ (c < 192 ∧ c = w + 24 ∧ d_se τ c = nI c ∧ ¬ d_nu τ c = -6) from fun q => by omega), if_neg (show ¬ (c < 192 ∧ w = c + 24 ∧ d_se τ c = nI c ∧ ¬ d_nu τ c = -6) from fun q => by omega), if_pos (show c < 192 ∧ c = w + 12 ∧ d_se τ c = nI c ∧ ¬ d_nu τ c = -6 from ⟨u1, a2, u2, u3⟩), if_neg (show ¬ (c < 192 ∧ w = c + 12 ∧ d_se τ c = nI c ∧ ¬ d_nu τ c = -6) from fun q => by omega), if_pos (show w = c + 12 ∨ c = w + 12 from Or.inr a2)]
      · rw [if_neg (show ¬ (c < 192 ∧ c = w + 12 ∧ d_se τ c = nI c ∧ ¬ d_nu τ c = -6) from fun q => a2 q.2.1), if_neg (show ¬ (c < 192 ∧ w = c + 12 ∧ d_se τ c = nI c ∧ ¬ d_nu τ c = -6) from fun q => a1 q.2.1), if_neg (show ¬ (w = c + 12 ∨ c = w + 12) from fun q => q.elim a1 a2)]
        by_cases a3 : w = c + 24
        · rw [if_neg (show ¬ (c < 192 ∧ c = w + 24 ∧ d_se τ c = nI c ∧ ¬ d_nu τ c = -6) from fun q => by omega), if_pos (show c < 192 ∧ w = c + 24 ∧ d_se τ c = nI c ∧ ¬ d_nu τ c = -6 from ⟨u1, a3, u2, u3⟩), if_pos (show w = c + 24 ∨ c = w + 24 from Or.inl a3)]
        · rw [if_neg (show ¬ (c < 192 ∧ w = c + 24 ∧ d_se τ c = nI c ∧ ¬ d_nu τ c = -6) from fun q => a3 q.2.1)]
          by_cases a4 : c = w + 24
          · rw [if_pos (show c < 192 ∧ c = w + 24 ∧ d_se τ c = nI c ∧ ¬ d_nu τ c = -6 from ⟨u1, a4, u2, u3⟩), if_pos (show w = c + 24 ∨ c = w + 24 from Or.inr a4)]
          · rw [if_neg (show ¬ (c < 192 ∧ c = w + 24 ∧ d_se τ c = nI c ∧ ¬ d_nu τ c = -6) from fun q => a4 q.2.1), if_neg (show ¬ (w = c + 24 ∨ c = w + 24) from fun q => q.elim a3 a4)]
  · rw [if_neg u, if_neg (show ¬ (c < 192 ∧ c = w + 24 ∧ d_se τ c = nI c ∧ ¬ d_nu τ c = -6) from fun q => u ⟨q.1, q.2.2⟩), if_neg (show ¬ (c < 192 ∧ w = c + 24 ∧ d_se τ c = nI c ∧ ¬ d_nu τ c = -6) from fun q => u ⟨q.1, q.2.2⟩), if_neg (show ¬ (c < 192 ∧ c = w + 12 ∧ d_se τ c = nI c ∧ ¬ d_nu τ c = -6) from fun q => u ⟨q.1, q.2.2⟩), if_neg (show ¬ (c < 192 ∧ w = c + 12 ∧ d_se τ c = nI c ∧ ¬ d_nu τ c = -6) from fun q => u ⟨q.1, q.2.2⟩)]
end HEA
