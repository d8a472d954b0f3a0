/-! undo, save, restore; the beginning -/
section SLO
variable {σ : DS} {μ : MS}
theorem like_id (σ τ : DS) : s_X0_becomeLike σ τ = τ := rfl
theorem slot_bad {p : Int32} (h : p < 0 ∨ 2 ≤ p) : s_X5_isSlot p = 0 := by
  unfold s_X5_isSlot
  rw [if_neg (fun e => by rw [e] at h; revert h; decide), if_neg (fun e => by rw [e] at h; revert h; decide)]
theorem slot_ok {k : Nat} (hk : k < 2) : s_X5_isSlot (nI k) = 1 := by
  unfold s_X5_isSlot
  rcases (show k = 0 ∨ k = 1 from by omega) with rfl | rfl
  · exact if_pos rfl
  · exact (if_neg (by decide)).trans (if_pos rfl)
theorem p_save_bad {p : Int32} (h : p < 0 ∨ 2 ≤ p) : s_X5_save μ p = (-2, μ) ∧ ok_X5_save μ p := by
  unfold s_X5_save ok_X5_save
  rw [slot_bad h, if_pos rfl]
  exact ⟨rfl, fun _ => trivial, fun h => absurd rfl h⟩
theorem p_restore_bad {p : Int32} (h : p < 0 ∨ 2 ≤ p) : s_X5_restore μ p = (-2, μ) ∧ ok_X5_restore μ p := by
  unfold s_X5_restore ok_X5_restore
  rw [slot_bad h, if_pos rfl]
  exact ⟨rfl, fun _ => trivial, fun h => absurd rfl h⟩
theorem p_save (hR : Rl σ (m_al μ)) {S : Nat → Option XD} (hS : SI S μ) {k : Nat} (hk : k < 2) (δ : Nat → Nat) : ∃ μ' : MS, s_X5_save μ (nI k) = (s_X0_filledOn σ 0 16, μ') ∧ ok_X5_save μ (nI k) ∧ m_al μ' = m_al μ ∧ Fh μ μ' ∧ m_tx μ' = m_tx μ ∧ m_tl μ' = m_tl μ ∧ SI (va_up S k (some (δ, σ))) μ' := by
  unfold s_X5_save ok_X5_save
  rw [slot_ok hk, if_neg (show ¬ (1 : Int32) = 0 from by decide)]
  obtain ⟨g, e1, e2, e3⟩ := saveL μ k (by omega) FU 0 μ (by omega) (fuel (by omega))
  rw [nI_0] at e1 e3
  rw [nI_clamp (by omega)] at e1 e3
  obtain ⟨f1, f2, f3⟩ := fil (σ := σ) (μ := m_sv' (m_sl' μ g) (upd (m_sv (m_sl' μ g)) k 1)) hR.1 Wi_a
  refine ⟨m_sv' (m_sl' μ g) (upd (m_sv μ) k 1), ?_, ⟨fun h => absurd h (by decide), fun _ => e3 ⟨vp_in_nI hk (by decide), f3⟩⟩, rfl, ⟨rfl, rfl⟩, rfl, rfl, fun s hs => ?_⟩
  · rw [e1, ← f1]
    rfl
  · show (va_up S k (some (δ, σ)) s = none ∧ upd (m_sv μ) k 1 s = 0) ∨ ∃ δ' υ, va_up S k (some (δ, σ)) s = some (δ', υ) ∧ ¬ upd (m_sv μ) k 1 s = 0 ∧ Rl υ (fun j => g (816 * s + j))
    by_cases h : s = k
    · subst h
      refine Or.inr ⟨δ, σ, va_up_self _ _ _, by rw [pk_us]; decide, Rl_ext hR (fun j hj => ?_)⟩
      rw [e2, if_pos (by omega), show 816 * s + j - 816 * s = j from by omega]
    · rw [va_up_ne _ _ h, pk_un h]
      rcases hS s hs with q | ⟨δ', υ, q1, q2, q3⟩
      · exact Or.inl q
      · refine Or.inr ⟨δ', υ, q1, q2, Rl_ext q3 (fun j hj => ?_)⟩
        rw [e2, if_neg (by omega)]
theorem p_restore_none {S : Nat → Option XD} (hS : SI S μ) {k : Nat} (hk : k < 2) (hn : S k = none) : s_X5_restore μ (nI k) = (-5, μ) ∧ ok_X5_restore μ (nI k) := by
  have h0 : m_sv μ k = 0 := by
    rcases hS k hk with q | ⟨δ', υ, q1, -⟩
    · exact q.2
    · rw [hn] at q1; cases q1
  unfold s_X5_restore ok_X5_restore
  rw [slot_ok hk, if_neg (show ¬ (1 : Int32) = 0 from by decide), nI_clamp (by omega), if_pos h0]
  exact ⟨rfl, fun h => absurd h (by decide), fun _ => ⟨vp_in_nI hk (by decide), fun _ => trivial, fun h => absurd h0 h⟩⟩
theorem p_restore {α : Nat → Nat} {R : Nat → Option XD} {o n : Nat} (hR : Rl σ (m_al μ)) (hH : HI R o n μ) {S : Nat → Option XD} (hS : SI S μ) {k : Nat} (hk : k < 2) {δ : Nat → Nat} {υ : DS} (hn : S k = some (δ, υ)) : Ch α R o n σ μ (s_X0_filledOn υ 0 16) υ (s_X5_restore μ (nI k)) ∧ ok_X5_restore μ (nI k) ∧ ok_X0_filledOn υ 0 16 := by
  obtain ⟨h0, hυ⟩ : ¬ m_sv μ k = 0 ∧ Rl υ (fun j => m_sl μ (816 * k + j)) := by
    rcases hS k hk with q | ⟨δ', υ', q1, q2, q3⟩
    · rw [hn] at q; cases q.1
    · rw [hn] at q1; cases q1; exact ⟨q2, q3⟩
  obtain ⟨kg, k1, k2, k3⟩ := keeps_ok μ
  unfold s_X5_restore ok_X5_restore
  rw [slot_ok hk, if_neg (show ¬ (1 : Int32) = 0 from by decide), nI_clamp (by omega), if_neg h0]
  obtain ⟨g, e1, e2, e3⟩ := restL μ k (by omega) FU 0 (s_X5_keeps μ) (by omega) (fuel (by omega))
  rw [nI_0] at e1 e3
  have hRυ : Rl υ (m_al (m_al' (s_X5_keeps μ) g)) := by
    rw [al_get]
    refine Rl_ext hυ (fun j hj => ?_)
    rw [e2 j, if_pos ⟨by omega, hj⟩, k1]
    rfl
  obtain ⟨f1, f2, f3⟩ := fil hRυ.1 Wi_a
  obtain ⟨c1, c2⟩ := Ch.ends (α := α) hR hH (μ1 := m_al' (s_X5_keeps μ) g) (told := s_X5_addresses (m_al' (s_X5_keeps μ) g) (-6) 0) (al_2 _ _) hRυ
  rw [e1, f1]
  exact ⟨c1, ⟨fun h => absurd h (by decide), fun _ => ⟨vp_in_nI hk (by decide), fun h => absurd h h0, fun _ => ⟨k3, e3 ⟨f3, c2⟩⟩⟩⟩, f2⟩
theorem p_undo {R : Nat → Option XD} {o n : Nat} (hH : HI R o (n + 1) μ) (x : XD) : ∃ (δ : Nat → Nat) (υ : DS) (μ' : MS), R ((o + n) % 6) = some (δ, υ) ∧ s_X5_undo μ = (nI n, μ') ∧ ok_X5_undo μ ∧ Rl υ (m_al μ') ∧ HI (va_up R ((o + n) % 6) (some x)) o n μ' ∧ Fs μ μ' := by
  obtain ⟨g, e1, e2, e3⟩ := undo_ok hH.2.1 hH.2.2.1
  obtain ⟨δ, υ, r1, r2⟩ := hH.2.2.2 n (by omega)
  exact ⟨δ, υ, _, r1, e1, e3, Rl_ext r2 (fun k hk => e2 k hk), hH.undo x, ⟨rfl, rfl, rfl, rfl⟩⟩
theorem p_undo0 {R : Nat → Option XD} {o : Nat} (hH : HI R o 0 μ) : s_X5_undo μ = (-5, μ) ∧ ok_X5_undo μ := by
  have h : m_hl μ = 0 := hH.2.2.1
  unfold s_X5_undo ok_X5_undo
  rw [if_pos h]
  exact ⟨rfl, fun _ => trivial, fun h9 => absurd h h9⟩
end SLO
/-! the beginning -/
theorem fillL (f : NI) (v : Int32) : ∀ (n i : Nat) (τ : NI), i ≤ 204 → 204 - i < n → (∀ k, L1_J7_fill f v n (nI i) τ k = if i ≤ k ∧ k < 204 then v else τ k) ∧ okL1_J7_fill f v n (nI i) τ
  | 0, i, τ, _, h => absurd h (Nat.not_lt_zero _)
  | n + 1, i, τ, hi, hn => by
    by_cases e : i = 204
    · subst e
      rw [L1_J7_fill, okL1_J7_fill, if_pos (show (204 : Int32) ≤ nI 204 from Int32.le_refl _)]
      exact ⟨fun k => (if_neg (by omega)).symm, fun _ => trivial, fun h => absurd (Int32.le_refl _) h⟩
    · have hlt : ¬ (204 : Int32) ≤ nI i := nI_ge (b := 204) (by omega) (by omega)
      obtain ⟨q1, q2⟩ := fillL f v n (i + 1) (upd τ i v) (by omega) (by omega)
      rw [L1_J7_fill, okL1_J7_fill, if_neg hlt, nI_1, nI_clamp (by omega)]
      refine ⟨fun k => ?_, fun h => absurd h hlt, fun _ => ⟨vp_in_nI (by omega) (by decide), q2⟩⟩
      rw [q1 k]
      by_cases hk : k = i
      · subst hk
        rw [if_neg (by omega), if_pos (by omega), pk_us]
      · rw [pk_un hk]
        by_cases h2 : i + 1 ≤ k ∧ k < 204
        · rw [if_pos h2, if_pos (by omega)]
        · rw [if_neg h2, if_neg (by omega)]
theorem secL (σ : DS) : ∀ (n i : Nat) (τ : DS), i ≤ 192 → 192 - i < n → (∃ g : NI, L1_X0_init σ n (nI i) τ = d_se' τ g ∧ ∀ k, g k = if i ≤ k ∧ k < 192 then nI k else d_se τ k) ∧ okL1_X0_init σ n (nI i) τ
  | 0, i, τ, _, h => absurd h (Nat.not_lt_zero _)
  | n + 1, i, τ, hi, hn => by
    by_cases e : i = 192
    · subst e
      rw [L1_X0_init, okL1_X0_init, if_pos (show (192 : Int32) ≤ nI 192 from Int32.le_refl _)]
      exact ⟨⟨d_se τ, rfl, fun k => (if_neg (by omega)).symm⟩, fun _ => trivial, fun h => absurd (Int32.le_refl _) h⟩
    · have hlt : ¬ (192 : Int32) ≤ nI i := le192 (by omega)
      obtain ⟨⟨g, q1, q2⟩, q3⟩ := secL σ n (i + 1) (d_se' τ (upd (d_se τ) i (nI i))) (by omega) (by omega)
      rw [L1_X0_init, okL1_X0_init, if_neg hlt, nI_1, nI_clamp (by omega)]
      refine ⟨⟨g, by rw [q1]; rfl, fun k => ?_⟩, fun h => absurd h hlt, fun _ => ⟨vp_in_nI (by omega) (by decide), q3⟩⟩
      rw [q2 k]
      show (if i + 1 ≤ k ∧ k < 192 then nI k else upd (d_se τ) i (nI i) k) = _
      by_cases hk : k = i
      · subst hk
        rw [if_neg (by omega), if_pos (by omega), pk_us]
      · rw [pk_un hk]
        by_cases h2 : i + 1 ≤ k ∧ k < 192
        · rw [if_pos h2, if_pos (by omega)]
        · rw [if_neg h2, if_neg (by omega)]
theorem newD : (∃ nu se : NI, dNew = (firstS, nu, fun _ => 0, fun _ => 0, se, 0, 0, 0, 0) ∧ (∀ c, c < 204 → nu c = -6) ∧ ∀ a, a < 192 → se a = nI a) ∧ ok_X0_init (d_st' dPre firstS) := by
  obtain ⟨f1, f2⟩ := fillL (d_nu (d_st' dPre firstS)) (-6) FU 0 (d_nu (d_st' dPre firstS)) (by omega) (fuel (by omega))
  obtain ⟨⟨g, e1, e2⟩, e3⟩ := secL (d_st' dPre firstS) FU 0 (d_nu' (d_st' dPre firstS) (s_J7_fill (d_nu (d_st' dPre firstS)) (-6))) (by omega) (fuel (by omega))
  rw [nI_0] at f1 f2 e1 e3
  refine ⟨⟨s_J7_fill (d_nu (d_st' dPre firstS)) (-6), g, ?_, fun c hc => ?_, fun a ha => ?_⟩, f2, e3⟩
  · have e0 : dNew = L1_X0_init (d_st' dPre firstS) FU 0 (d_nu' (d_st' dPre firstS) (s_J7_fill (d_nu (d_st' dPre firstS)) (-6))) := by
      unfold dNew s_X0_init
      rfl
    rw [e0, e1]
    generalize s_J7_fill (d_nu (d_st' dPre firstS)) (-6) = nu
    rfl
  · exact (f1 c).trans (if_pos ⟨by omega, hc⟩)
  · rw [e2 a, if_pos ⟨by omega, ha⟩]
theorem ini2L (σ : MS) (v1 : Int32) (t1 : MS) : ∀ (n i : Nat) (τ : MS), i ≤ 192 → 192 - i < n → (∃ g : NI, L2_X5_init σ v1 t1 n (nI i) τ = m_al' τ g ∧ ∀ k, g k = if 624 + i ≤ k ∧ k < 816 then -6 else m_al τ k) ∧ okL2_X5_init σ v1 t1 n (nI i) τ
  | 0, i, τ, _, h => absurd h (Nat.not_lt_zero _)
  | n + 1, i, τ, hi, hn => by
    by_cases e : i = 192
    · subst e
      rw [L2_X5_init, okL2_X5_init, if_pos (show (192 : Int32) ≤ nI 192 from Int32.le_refl _)]
      exact ⟨⟨m_al τ, rfl, fun k => (if_neg (by omega)).symm⟩, fun _ => trivial, fun h => absurd (Int32.le_refl _) h⟩
    · have hlt : ¬ (192 : Int32) ≤ nI i := le192 (by omega)
      obtain ⟨⟨g, q1, q2⟩, q3⟩ := ini2L σ v1 t1 n (i + 1) (m_al' τ (upd (m_al τ) (624 + i) (-6))) (by omega) (by omega)
      rw [L2_X5_init, okL2_X5_init, if_neg hlt, nI_1, cl624 (by omega)]
      refine ⟨⟨g, by rw [q1]; rfl, fun k => ?_⟩, fun h => absurd h hlt, fun _ => ⟨vi624 (by omega), q3⟩⟩
      rw [q2 k]
      show (if 624 + (i + 1) ≤ k ∧ k < 816 then -6 else upd (m_al τ) (624 + i) (-6) k) = _
      by_cases hk : k = 624 + i
      · subst hk
        rw [if_neg (by omega), if_pos (by omega), pk_us]
      · rw [pk_un hk]
        by_cases h2 : 624 + (i + 1) ≤ k ∧ k < 816
        · rw [if_pos h2, if_pos (by omega)]
        · rw [if_neg h2, if_neg (by omega)]
theorem ini1L (σ : MS) : ∀ (n i : Nat) (τ : MS), i ≤ 204 → 204 - i < n → (∃ g : NI, L1_X5_init σ n (nI i) τ = m_al' τ g ∧ ∀ k, g k = if (12 + i ≤ k ∧ k < 216) ∨ (624 ≤ k ∧ k < 816) then -6 else m_al τ k) ∧ okL1_X5_init σ n (nI i) τ
  | 0, i, τ, _, h => absurd h (Nat.not_lt_zero _)
  | n + 1, i, τ, hi, hn => by
    by_cases e : i = 204
    · subst e
      obtain ⟨⟨g, q1, q2⟩, q3⟩ := ini2L σ (nI 204) τ FU 0 τ (by omega) (fuel (by omega))
      rw [nI_0] at q1 q3
      rw [L1_X5_init, okL1_X5_init, if_pos (show (204 : Int32) ≤ nI 204 from Int32.le_refl _)]
      refine ⟨⟨g, q1, fun k => ?_⟩, fun _ => q3, fun h => absurd (Int32.le_refl _) h⟩
      rw [q2 k]
      by_cases h2 : 624 + 0 ≤ k ∧ k < 816
      · rw [if_pos h2, if_pos (by omega)]
      · rw [if_neg h2, if_neg (by omega)]
    · have hlt : ¬ (204 : Int32) ≤ nI i := nI_ge (b := 204) (by omega) (by omega)
      obtain ⟨⟨g, q1, q2⟩, q3⟩ := ini1L σ n (i + 1) (m_al' τ (upd (m_al τ) (12 + i) (-6))) (by omega) (by omega)
      rw [L1_X5_init, okL1_X5_init, if_neg hlt, nI_1, cl12 (by omega)]
      refine ⟨⟨g, by rw [q1]; rfl, fun k => ?_⟩, fun h => absurd h hlt, fun _ => ⟨vi12 (by omega), q3⟩⟩
      rw [q2 k]
      show (if (12 + (i + 1) ≤ k ∧ k < 216) ∨ (624 ≤ k ∧ k < 816) then -6 else upd (m_al τ) (12 + i) (-6) k) = _
      by_cases hk : k = 12 + i
      · subst hk
        rw [if_neg (by omega), if_pos (by omega), pk_us]
      · rw [pk_un hk]
        by_cases h2 : (12 + (i + 1) ≤ k ∧ k < 216) ∨ (624 ≤ k ∧ k < 816)
        · rw [if_pos h2, if_pos (by omega)]
        · rw [if_neg h2, if_neg (by omega)]
theorem sumN_0 : ∀ n, sumN (fun _ => 0) n = 0
  | 0 => rfl
  | n + 1 => by
    show sumN (fun _ => 0) n + 0 = 0
    rw [sumN_0 n]
    rfl
theorem newM : ∃ g : NI, s_X5_init mNew = m_al' mNew g ∧ ok_X5_init mNew ∧ Rl dNew g := by
  obtain ⟨⟨g, q1, q2⟩, q3⟩ := ini1L mNew FU 0 (t5_X5_init mNew) (by omega) (fuel (by omega))
  rw [nI_0] at q1 q3
  have e5 : t5_X5_init mNew = m_al' mNew (upd (upd (upd (upd (upd (upd (fun _ => 0) 0 4) 1 1) 2 30) 3 20) 4 2) 7 12) := by
    unfold t5_X5_init t4_X5_init t3_X5_init t2_X5_init t1_X5_init
    rw [k0, k1, k2, k3, k4, k7]
    rfl
  rw [e5] at q1 q2 q3
  obtain ⟨⟨nu, se, ed, hnu, hse⟩, -⟩ := newD
  have hx : ∀ k, k < 12 ∨ (216 ≤ k ∧ k < 624) → g k = upd (upd (upd (upd (upd (upd (fun _ => 0) 0 4) 1 1) 2 30) 3 20) 4 2) 7 12 k := fun k hk => (q2 k).trans (if_neg (by omega))
  have t0 : tsum (fun _ => 0) = fun _ => 0 := by
    funext t
    exact sumN_0 12
  refine ⟨g, ?_, ?_, ?_⟩
  · have : s_X5_init mNew = L1_X5_init mNew FU 0 (t5_X5_init mNew) := by
      unfold s_X5_init
      rfl
    rw [this, e5, q1]
    rfl
  · have : ok_X5_init mNew = okL1_X5_init mNew FU 0 (t5_X5_init mNew) := by
      unfold ok_X5_init
      rfl
    rw [this, e5]
    exact q3
  · rw [ed]
    refine ⟨⟨fun k hk => ?_, ⟨?_, ?_, ?_⟩, fun c hc => ?_, fun c hc => ?_, fun c hc => ?_, ⟨0, by omega, rfl, ?_, fun a ha => Or.inl ⟨?_, hse a ha⟩⟩, ⟨0, by omega, rfl⟩, ⟨0, by omega, rfl⟩, ⟨2, by omega, rfl⟩, fun c hc => ⟨0, by omega, rfl⟩, ⟨4, by omega, rfl⟩, ⟨1, by omega, rfl⟩⟩, ?_, ?_, ?_⟩
    · rw [hx k (by omega)]
      match k, hk with
      | 0, _ => rfl
      | 1, _ => rfl
      | 2, _ => rfl
      | 3, _ => rfl
      | 4, _ => rfl
      | k + 5, h => omega
    · rw [hx 5 (by omega)]; rfl
    · rw [hx 6 (by omega)]; rfl
    · rw [hx 9 (by omega)]; rfl
    · rw [q2, if_pos (by omega)]; exact (hnu c hc).symm
    · rw [hx _ (by omega), pk_un (by omega), pk_un (by omega), pk_un (by omega), pk_un (by omega), pk_un (by omega), pk_un (by omega)]; rfl
    · rw [hx _ (by omega), pk_un (by omega), pk_un (by omega), pk_un (by omega), pk_un (by omega), pk_un (by omega), pk_un (by omega)]; rfl
    · rw [hx 7 (by omega)]; rfl
    · rw [q2, if_pos (by omega)]
    · rw [hx 8 (by omega)]
      show (0 : Int32) = tot (fun _ => 0)
      unfold tot
      rw [t0, sumN_0]
      rfl
    · rw [hx 10 (by omega)]
      show (0 : Int32) = lnd (fun _ => 0)
      unfold lnd
      rw [t0]
      have : (fun t => if t % 2 = 0 then (fun _ => (0 : Int32)) t else 0) = fun _ : Nat => (0 : Int32) := by funext t; split <;> rfl
      exact (sumN_0 16).symm.trans (congrArg (fun h => sumN h 16) this.symm)
    · rw [hx 11 (by omega)]
      show (0 : Int32) = grv (fun _ => 0)
      unfold grv
      rw [t0]
      have : (fun t => if t % 2 = 1 then (fun _ => (0 : Int32)) t else 0) = fun _ : Nat => (0 : Int32) := by funext t; split <;> rfl
      exact (sumN_0 16).symm.trans (congrArg (fun h => sumN h 16) this.symm)
