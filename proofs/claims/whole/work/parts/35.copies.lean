/-! the model's copying loops -/
theorem mI (h i : Nat) : (816 : Int32) * nI h + nI i = nI (816 * h + i) := by rw [show (816 : Int32) = nI 816 from rfl, pk_mul, nI_add]
theorem pI (i : Nat) : nI i + (816 : Int32) = nI (i + 816) := nI_add i 816
theorem keepsL (σ : MS) : ∀ (n i : Nat) (τ : MS), i ≤ 816 → 816 - i < n → ∃ g : NI, L1_X5_keeps σ n (nI i) τ = (m_ke' τ g) ∧ (∀ k, g k = if i ≤ k ∧ k < 816 then m_al τ (k) else m_ke τ k) ∧ (True → okL1_X5_keeps σ n (nI i) τ)
  | 0, i, τ, h1, h2 => absurd h2 (Nat.not_lt_zero _)
  | n + 1, i, τ, h1, h2 => by
    by_cases hi : i = 816
    · subst hi
      refine ⟨m_ke τ, ?_, fun k => (if_neg (by omega)).symm, fun h9 => ?_⟩
      · rw [L1_X5_keeps, if_pos (show (816 : Int32) ≤ nI 816 from Int32.le_refl _)]
        rfl
      · rw [okL1_X5_keeps]
        exact ⟨fun _ => h9, fun h8 => absurd (show (816 : Int32) ≤ nI 816 from Int32.le_refl _) h8⟩
    · have hn : ¬ (816 : Int32) ≤ nI i := nI_ge (b := 816) (by omega) (by omega)
      have et : t1_X5_keeps σ (nI i) τ = m_ke' τ (upd (m_ke τ) (i) (m_al τ (i))) := by
        unfold t1_X5_keeps
        rw [nI_clamp (by omega)]
      obtain ⟨g, e1, e2, e3⟩ := keepsL σ n (i + 1) (m_ke' τ (upd (m_ke τ) (i) (m_al τ (i)))) (by omega) (by omega)
      refine ⟨g, ?_, fun k => ?_, fun h9 => ?_⟩
      · rw [L1_X5_keeps, if_neg hn, nI_1, et, e1]
        rfl
      · rw [e2 k]
        show (if i + 1 ≤ k ∧ k < 816 then m_al (m_ke' τ (upd (m_ke τ) (i) (m_al τ (i)))) (k) else (upd (m_ke τ) (i) (m_al τ (i))) k) = _
        by_cases hk : k = i
        · subst hk
          rw [if_neg (by omega), if_pos (by omega), pk_us]
        · rw [pk_un hk]
          by_cases hk2 : i ≤ k ∧ k < 816
          · rw [if_pos (by omega), if_pos hk2]
            rfl
          · rw [if_neg (by omega), if_neg hk2]
      · rw [okL1_X5_keeps, nI_1, et]
        exact ⟨fun h8 => absurd h8 hn, fun _ => ⟨vp_in_nI (by omega) (by decide), e3 h9⟩⟩
theorem comesL (σ : MS) : ∀ (n i : Nat) (τ : MS), i ≤ 816 → 816 - i < n → ∃ g : NI, L1_X5_comesBack σ n (nI i) τ = (m_al' τ g) ∧ (∀ k, g k = if i ≤ k ∧ k < 816 then m_ke τ (k) else m_al τ k) ∧ (True → okL1_X5_comesBack σ n (nI i) τ)
  | 0, i, τ, h1, h2 => absurd h2 (Nat.not_lt_zero _)
  | n + 1, i, τ, h1, h2 => by
    by_cases hi : i = 816
    · subst hi
      refine ⟨m_al τ, ?_, fun k => (if_neg (by omega)).symm, fun h9 => ?_⟩
      · rw [L1_X5_comesBack, if_pos (show (816 : Int32) ≤ nI 816 from Int32.le_refl _)]
        rfl
      · rw [okL1_X5_comesBack]
        exact ⟨fun _ => h9, fun h8 => absurd (show (816 : Int32) ≤ nI 816 from Int32.le_refl _) h8⟩
    · have hn : ¬ (816 : Int32) ≤ nI i := nI_ge (b := 816) (by omega) (by omega)
      have et : t1_X5_comesBack σ (nI i) τ = m_al' τ (upd (m_al τ) (i) (m_ke τ (i))) := by
        unfold t1_X5_comesBack
        rw [nI_clamp (by omega)]
      obtain ⟨g, e1, e2, e3⟩ := comesL σ n (i + 1) (m_al' τ (upd (m_al τ) (i) (m_ke τ (i)))) (by omega) (by omega)
      refine ⟨g, ?_, fun k => ?_, fun h9 => ?_⟩
      · rw [L1_X5_comesBack, if_neg hn, nI_1, et, e1]
        rfl
      · rw [e2 k]
        show (if i + 1 ≤ k ∧ k < 816 then m_ke (m_al' τ (upd (m_al τ) (i) (m_ke τ (i)))) (k) else (upd (m_al τ) (i) (m_ke τ (i))) k) = _
        by_cases hk : k = i
        · subst hk
          rw [if_neg (by omega), if_pos (by omega), pk_us]
        · rw [pk_un hk]
          by_cases hk2 : i ≤ k ∧ k < 816
          · rw [if_pos (by omega), if_pos hk2]
            rfl
          · rw [if_neg (by omega), if_neg hk2]
      · rw [okL1_X5_comesBack, nI_1, et]
        exact ⟨fun h8 => absurd h8 hn, fun _ => ⟨vp_in_nI (by omega) (by decide), e3 h9⟩⟩
theorem rec1L (σ : MS) (h : Nat) (h5 : h ≤ 5) : ∀ (n i : Nat) (τ : MS), i ≤ 816 → 816 - i < n → m_hl τ = nI h → ∃ g : NI, L1_X5_records σ n (nI i) τ = (m_hl' (m_hi' τ g) (m_hl (m_hi' τ g) + 1)) ∧ (∀ k, g k = if 816 * h + i ≤ k ∧ k < 816 * h + 816 then m_ke τ (k - 816 * h) else m_hi τ k) ∧ (True → okL1_X5_records σ n (nI i) τ)
  | 0, i, τ, h1, h2, _ => absurd h2 (Nat.not_lt_zero _)
  | n + 1, i, τ, h1, h2, hh => by
    by_cases hi : i = 816
    · subst hi
      refine ⟨m_hi τ, ?_, fun k => (if_neg (by omega)).symm, fun h9 => ?_⟩
      · rw [L1_X5_records, if_pos (show (816 : Int32) ≤ nI 816 from Int32.le_refl _)]
        rfl
      · rw [okL1_X5_records]
        exact ⟨fun _ => h9, fun h8 => absurd (show (816 : Int32) ≤ nI 816 from Int32.le_refl _) h8⟩
    · have hn : ¬ (816 : Int32) ≤ nI i := nI_ge (b := 816) (by omega) (by omega)
      have et : t1_X5_records σ (nI i) τ = m_hi' τ (upd (m_hi τ) (816 * h + i) (m_ke τ (816 * h + i - 816 * h))) := by
        unfold t1_X5_records
        rw [hh, mI, nI_clamp (by omega), nI_clamp (by omega), show 816 * h + i - 816 * h = i from by omega]
      obtain ⟨g, e1, e2, e3⟩ := rec1L σ h h5 n (i + 1) (m_hi' τ (upd (m_hi τ) (816 * h + i) (m_ke τ (816 * h + i - 816 * h)))) (by omega) (by omega) hh
      refine ⟨g, ?_, fun k => ?_, fun h9 => ?_⟩
      · rw [L1_X5_records, if_neg hn, nI_1, et, e1]
        rfl
      · rw [e2 k]
        show (if 816 * h + i + 1 ≤ k ∧ k < 816 * h + 816 then m_ke (m_hi' τ (upd (m_hi τ) (816 * h + i) (m_ke τ (816 * h + i - 816 * h)))) (k - 816 * h) else (upd (m_hi τ) (816 * h + i) (m_ke τ (816 * h + i - 816 * h))) k) = _
        by_cases hk : k = 816 * h + i
        · subst hk
          rw [if_neg (by omega), if_pos (by omega), pk_us]
        · rw [pk_un hk]
          by_cases hk2 : 816 * h + i ≤ k ∧ k < 816 * h + 816
          · rw [if_pos (by omega), if_pos hk2]
            rfl
          · rw [if_neg (by omega), if_neg hk2]
      · rw [okL1_X5_records, nI_1, et]
        exact ⟨fun h8 => absurd h8 hn, fun _ => ⟨vp_in_nI (by omega) (by decide), by rw [hh]; rw [mI]; exact vp_in_nI (by omega) (by decide), e3 h9⟩⟩
theorem rec2L (σ : MS) : ∀ (n i : Nat) (τ : MS), i ≤ 4080 → 4080 - i < n → ∃ g : NI, L2_X5_records σ n (nI i) τ = (L1_X5_records σ FU 0 (m_hl' (m_hi' τ g) (m_hl (m_hi' τ g) - 1))) ∧ (∀ k, g k = if i ≤ k ∧ k < 4080 then m_hi τ (k + 816) else m_hi τ k) ∧ (okL1_X5_records σ FU 0 (m_hl' (m_hi' τ g) (m_hl (m_hi' τ g) - 1)) → okL2_X5_records σ n (nI i) τ)
  | 0, i, τ, h1, h2 => absurd h2 (Nat.not_lt_zero _)
  | n + 1, i, τ, h1, h2 => by
    by_cases hi : i = 4080
    · subst hi
      refine ⟨m_hi τ, ?_, fun k => (if_neg (by omega)).symm, fun h9 => ?_⟩
      · rw [L2_X5_records, if_pos (show (4080 : Int32) ≤ nI 4080 from Int32.le_refl _)]
        rfl
      · rw [okL2_X5_records]
        exact ⟨fun _ => h9, fun h8 => absurd (show (4080 : Int32) ≤ nI 4080 from Int32.le_refl _) h8⟩
    · have hn : ¬ (4080 : Int32) ≤ nI i := nI_ge (b := 4080) (by omega) (by omega)
      have et : t2_X5_records σ (nI i) τ = m_hi' τ (upd (m_hi τ) (i) (m_hi τ (i + 816))) := by
        unfold t2_X5_records
        rw [pI, nI_clamp (by omega), nI_clamp (by omega)]
      obtain ⟨g, e1, e2, e3⟩ := rec2L σ n (i + 1) (m_hi' τ (upd (m_hi τ) (i) (m_hi τ (i + 816)))) (by omega) (by omega)
      refine ⟨g, ?_, fun k => ?_, fun h9 => ?_⟩
      · rw [L2_X5_records, if_neg hn, nI_1, et, e1]
        rfl
      · rw [e2 k]
        show (if i + 1 ≤ k ∧ k < 4080 then m_hi (m_hi' τ (upd (m_hi τ) (i) (m_hi τ (i + 816)))) (k + 816) else (upd (m_hi τ) (i) (m_hi τ (i + 816))) k) = _
        by_cases hk : k = i
        · subst hk
          rw [if_neg (by omega), if_pos (by omega), pk_us]
        · rw [pk_un hk]
          by_cases hk2 : i ≤ k ∧ k < 4080
          · rw [if_pos (by omega), if_pos hk2]
            exact pk_un (by omega)
          · rw [if_neg (by omega), if_neg hk2]
      · rw [okL2_X5_records, nI_1, et]
        exact ⟨fun h8 => absurd h8 hn, fun _ => ⟨by rw [pI]; exact vp_in_nI (by omega) (by decide), vp_in_nI (by omega) (by decide), e3 h9⟩⟩
theorem undoL (σ : MS) (h : Nat) (h5 : h ≤ 5) : ∀ (n i : Nat) (τ : MS), i ≤ 816 → 816 - i < n → m_hl τ = nI h → ∃ g : NI, L1_X5_undo σ n (nI i) τ = (m_hl (m_al' τ g), (m_al' τ g)) ∧ (∀ k, g k = if i ≤ k ∧ k < 816 then m_hi τ (816 * h + (k)) else m_al τ k) ∧ (True → okL1_X5_undo σ n (nI i) τ)
  | 0, i, τ, h1, h2, _ => absurd h2 (Nat.not_lt_zero _)
  | n + 1, i, τ, h1, h2, hh => by
    by_cases hi : i = 816
    · subst hi
      refine ⟨m_al τ, ?_, fun k => (if_neg (by omega)).symm, fun h9 => ?_⟩
      · rw [L1_X5_undo, if_pos (show (816 : Int32) ≤ nI 816 from Int32.le_refl _)]
        rfl
      · rw [okL1_X5_undo]
        exact ⟨fun _ => h9, fun h8 => absurd (show (816 : Int32) ≤ nI 816 from Int32.le_refl _) h8⟩
    · have hn : ¬ (816 : Int32) ≤ nI i := nI_ge (b := 816) (by omega) (by omega)
      have et : t1_X5_undo σ (nI i) τ = m_al' τ (upd (m_al τ) (i) (m_hi τ (816 * h + (i)))) := by
        unfold t1_X5_undo
        rw [hh, mI, nI_clamp (by omega), nI_clamp (by omega)]
      obtain ⟨g, e1, e2, e3⟩ := undoL σ h h5 n (i + 1) (m_al' τ (upd (m_al τ) (i) (m_hi τ (816 * h + (i))))) (by omega) (by omega) hh
      refine ⟨g, ?_, fun k => ?_, fun h9 => ?_⟩
      · rw [L1_X5_undo, if_neg hn, nI_1, et, e1]
        rfl
      · rw [e2 k]
        show (if i + 1 ≤ k ∧ k < 816 then m_hi (m_al' τ (upd (m_al τ) (i) (m_hi τ (816 * h + (i))))) (816 * h + (k)) else (upd (m_al τ) (i) (m_hi τ (816 * h + (i)))) k) = _
        by_cases hk : k = i
        · subst hk
          rw [if_neg (by omega), if_pos (by omega), pk_us]
        · rw [pk_un hk]
          by_cases hk2 : i ≤ k ∧ k < 816
          · rw [if_pos (by omega), if_pos hk2]
            rfl
          · rw [if_neg (by omega), if_neg hk2]
      · rw [okL1_X5_undo, nI_1, et]
        exact ⟨fun h8 => absurd h8 hn, fun _ => ⟨by rw [hh]; rw [mI]; exact vp_in_nI (by omega) (by decide), vp_in_nI (by omega) (by decide), e3 h9⟩⟩
theorem saveL (σ : MS) (h : Nat) (h5 : h ≤ 1) : ∀ (n i : Nat) (τ : MS), i ≤ 816 → 816 - i < n → ∃ g : NI, L1_X5_save σ (nI h) n (nI i) τ = ((s_X5_addresses (m_sv' (m_sl' τ g) (upd (m_sv (m_sl' τ g)) (nI h).toNatClampNeg 1)) (-6) 0), (m_sv' (m_sl' τ g) (upd (m_sv (m_sl' τ g)) (nI h).toNatClampNeg 1))) ∧ (∀ k, g k = if 816 * h + i ≤ k ∧ k < 816 * h + 816 then m_al τ (k - 816 * h) else m_sl τ k) ∧ ((vp_in (nI h) 2 ∧ ok_X5_addresses (m_sv' (m_sl' τ g) (upd (m_sv (m_sl' τ g)) (nI h).toNatClampNeg 1)) (-6) 0) → okL1_X5_save σ (nI h) n (nI i) τ)
  | 0, i, τ, h1, h2 => absurd h2 (Nat.not_lt_zero _)
  | n + 1, i, τ, h1, h2 => by
    by_cases hi : i = 816
    · subst hi
      refine ⟨m_sl τ, ?_, fun k => (if_neg (by omega)).symm, fun h9 => ?_⟩
      · rw [L1_X5_save, if_pos (show (816 : Int32) ≤ nI 816 from Int32.le_refl _)]
        rfl
      · rw [okL1_X5_save]
        exact ⟨fun _ => h9, fun h8 => absurd (show (816 : Int32) ≤ nI 816 from Int32.le_refl _) h8⟩
    · have hn : ¬ (816 : Int32) ≤ nI i := nI_ge (b := 816) (by omega) (by omega)
      have et : t1_X5_save σ (nI h) (nI i) τ = m_sl' τ (upd (m_sl τ) (816 * h + i) (m_al τ (816 * h + i - 816 * h))) := by
        unfold t1_X5_save
        rw [mI, nI_clamp (by omega), nI_clamp (by omega), show 816 * h + i - 816 * h = i from by omega]
      obtain ⟨g, e1, e2, e3⟩ := saveL σ h h5 n (i + 1) (m_sl' τ (upd (m_sl τ) (816 * h + i) (m_al τ (816 * h + i - 816 * h)))) (by omega) (by omega)
      refine ⟨g, ?_, fun k => ?_, fun h9 => ?_⟩
      · rw [L1_X5_save, if_neg hn, nI_1, et, e1]
        rfl
      · rw [e2 k]
        show (if 816 * h + i + 1 ≤ k ∧ k < 816 * h + 816 then m_al (m_sl' τ (upd (m_sl τ) (816 * h + i) (m_al τ (816 * h + i - 816 * h)))) (k - 816 * h) else (upd (m_sl τ) (816 * h + i) (m_al τ (816 * h + i - 816 * h))) k) = _
        by_cases hk : k = 816 * h + i
        · subst hk
          rw [if_neg (by omega), if_pos (by omega), pk_us]
        · rw [pk_un hk]
          by_cases hk2 : 816 * h + i ≤ k ∧ k < 816 * h + 816
          · rw [if_pos (by omega), if_pos hk2]
            rfl
          · rw [if_neg (by omega), if_neg hk2]
      · rw [okL1_X5_save, nI_1, et]
        exact ⟨fun h8 => absurd h8 hn, fun _ => ⟨vp_in_nI (by omega) (by decide), by rw [mI]; exact vp_in_nI (by omega) (by decide), e3 h9⟩⟩
theorem restL (σ : MS) (h : Nat) (h5 : h ≤ 1) : ∀ (n i : Nat) (τ : MS), i ≤ 816 → 816 - i < n → ∃ g : NI, L1_X5_restore σ (nI h) n (nI i) τ = (((s_X5_ends (m_al' τ g) (s_X5_addresses (m_al' τ g) (-6) 0)).1), ((s_X5_ends (m_al' τ g) (s_X5_addresses (m_al' τ g) (-6) 0)).2)) ∧ (∀ k, g k = if i ≤ k ∧ k < 816 then m_sl τ (816 * h + (k)) else m_al τ k) ∧ ((ok_X5_addresses (m_al' τ g) (-6) 0 ∧ ok_X5_ends (m_al' τ g) (s_X5_addresses (m_al' τ g) (-6) 0)) → okL1_X5_restore σ (nI h) n (nI i) τ)
  | 0, i, τ, h1, h2 => absurd h2 (Nat.not_lt_zero _)
  | n + 1, i, τ, h1, h2 => by
    by_cases hi : i = 816
    · subst hi
      refine ⟨m_al τ, ?_, fun k => (if_neg (by omega)).symm, fun h9 => ?_⟩
      · rw [L1_X5_restore, if_pos (show (816 : Int32) ≤ nI 816 from Int32.le_refl _)]
        rfl
      · rw [okL1_X5_restore]
        exact ⟨fun _ => h9, fun h8 => absurd (show (816 : Int32) ≤ nI 816 from Int32.le_refl _) h8⟩
    · have hn : ¬ (816 : Int32) ≤ nI i := nI_ge (b := 816) (by omega) (by omega)
      have et : t1_X5_restore σ (nI h) (nI i) τ = m_al' τ (upd (m_al τ) (i) (m_sl τ (816 * h + (i)))) := by
        unfold t1_X5_restore
        rw [mI, nI_clamp (by omega), nI_clamp (by omega)]
      obtain ⟨g, e1, e2, e3⟩ := restL σ h h5 n (i + 1) (m_al' τ (upd (m_al τ) (i) (m_sl τ (816 * h + (i))))) (by omega) (by omega)
      refine ⟨g, ?_, fun k => ?_, fun h9 => ?_⟩
      · rw [L1_X5_restore, if_neg hn, nI_1, et, e1]
        rfl
      · rw [e2 k]
        show (if i + 1 ≤ k ∧ k < 816 then m_sl (m_al' τ (upd (m_al τ) (i) (m_sl τ (816 * h + (i))))) (816 * h + (k)) else (upd (m_al τ) (i) (m_sl τ (816 * h + (i)))) k) = _
        by_cases hk : k = i
        · subst hk
          rw [if_neg (by omega), if_pos (by omega), pk_us]
        · rw [pk_un hk]
          by_cases hk2 : i ≤ k ∧ k < 816
          · rw [if_pos (by omega), if_pos hk2]
            rfl
          · rw [if_neg (by omega), if_neg hk2]
      · rw [okL1_X5_restore, nI_1, et]
        exact ⟨fun h8 => absurd h8 hn, fun _ => ⟨by rw [mI]; exact vp_in_nI (by omega) (by decide), vp_in_nI (by omega) (by decide), e3 h9⟩⟩
