/-! what the calls of an object answer, by its disc alone -/
def vS (σ : DS) (p q : Int32) : Int32 := s_X4_sector q0 p0 σ d0 h0 p q
def vT (σ : DS) (p q : Int32) : Int32 := s_X4_track q0 p0 σ d0 h0 p q
def vC (σ : DS) (p : Int32) : Int32 := s_X4_count q0 p0 σ d0 h0 p
def vF (σ : DS) (p q : Int32) : Int32 := s_X4_ticksFor q0 p0 σ d0 h0 p q
def vW (σ : DS) : Int32 := s_X4_worst q0 p0 σ d0 h0
def vU (σ : DS) (p q : Int32) : Int32 := (s_X4_untilLost q0 p0 σ d0 h0 p q).1
section OKS
variable {σ : DS}
theorem okSum (g : NI) (t : Int32) : ∀ (n i : Nat) (acc : Int32), i ≤ 12 → 12 - i < n → okL1_X0_sumOnTrack g t n acc (nI i)
  | 0, i, acc, h1, h2 => absurd h2 (Nat.not_lt_zero _)
  | n + 1, i, acc, h1, h2 => by
    unfold okL1_X0_sumOnTrack
    refine ⟨fun _ => trivial, fun hn => ?_⟩
    have hi : i ≠ 12 := fun e => by subst e; exact hn (Int32.le_refl _)
    rw [nI_1]
    exact okSum g t n (i + 1) _ (by omega) (by omega)
theorem okSumT (g : NI) (t : Int32) : ok_X0_sumOnTrack g t := by
  have h := okSum g t FU 0 0 (by omega) (fuel (by omega))
  rw [nI_0] at h
  exact h
theorem okFil (p1 p2 : Int32) : ∀ (n i : Nat) (acc : Int32), i ≤ 192 → 192 - i < n → okL1_X0_filledOn σ p1 p2 n acc (nI i)
  | 0, i, acc, h1, h2 => absurd h2 (Nat.not_lt_zero _)
  | n + 1, i, acc, h1, h2 => by
    unfold okL1_X0_filledOn
    refine ⟨fun _ => trivial, fun hn => ?_⟩
    have hi : i ≠ 192 := fun e => by subst e; exact hn (Int32.le_refl _)
    rw [nI_1]
    exact ⟨fun _ => okFil p1 p2 n (i + 1) _ (by omega) (by omega), fun _ => ⟨fun _ => okFil p1 p2 n (i + 1) _ (by omega) (by omega), fun _ => okFil p1 p2 n (i + 1) _ (by omega) (by omega)⟩⟩
theorem okFilT (p1 p2 : Int32) : ok_X0_filledOn σ p1 p2 := by
  have h := okFil (σ := σ) p1 p2 FU 0 0 (by omega) (fuel (by omega))
  rw [nI_0] at h
  exact h
theorem okUnr (p1 p2 : Int32) : ∀ (n i : Nat) (acc : Int32), i ≤ 192 → 192 - i < n → okL1_X0_unreadableOn σ p1 p2 n acc (nI i)
  | 0, i, acc, h1, h2 => absurd h2 (Nat.not_lt_zero _)
  | n + 1, i, acc, h1, h2 => by
    unfold okL1_X0_unreadableOn
    refine ⟨fun _ => trivial, fun hn => ?_⟩
    have hi : i ≠ 192 := fun e => by subst e; exact hn (Int32.le_refl _)
    rw [nI_1]
    exact ⟨fun _ => okUnr p1 p2 n (i + 1) _ (by omega) (by omega), fun _ => ⟨fun _ => okUnr p1 p2 n (i + 1) _ (by omega) (by omega), fun _ => ⟨fun _ => okUnr p1 p2 n (i + 1) _ (by omega) (by omega), fun _ => okUnr p1 p2 n (i + 1) _ (by omega) (by omega)⟩⟩⟩
theorem okUnrT (p1 p2 : Int32) : ok_X0_unreadableOn σ p1 p2 := by
  have h := okUnr (σ := σ) p1 p2 FU 0 0 (by omega) (fuel (by omega))
  rw [nI_0] at h
  exact h
theorem okGre : ∀ (n i : Nat) (acc : Int32), i ≤ 192 → 192 - i < n → okL1_X0_greatestBlur σ n acc (nI i)
  | 0, i, acc, h1, h2 => absurd h2 (Nat.not_lt_zero _)
  | n + 1, i, acc, h1, h2 => by
    unfold okL1_X0_greatestBlur
    refine ⟨fun _ => trivial, fun hn => ?_⟩
    have hi : i ≠ 192 := fun e => by subst e; exact hn (Int32.le_refl _)
    rw [nI_1]
    exact okGre n (i + 1) _ (by omega) (by omega)
theorem okGreT : ok_X0_greatestBlur σ := by
  have h := okGre (σ := σ) FU 0 0 (by omega) (fuel (by omega))
  rw [nI_0] at h
  exact h
theorem okWor (ρ : QS) (ϖ : PS) (τ : DS) (hs : HS) : ∀ (n i : Nat) (b g : Int32), i ≤ 192 → 192 - i < n → okL1_X4_worst ρ ϖ σ τ hs n b g (nI i)
  | 0, i, b, g, h1, h2 => absurd h2 (Nat.not_lt_zero _)
  | n + 1, i, b, g, h1, h2 => by
    unfold okL1_X4_worst
    refine ⟨fun _ => trivial, fun hn => ?_⟩
    have hi : i ≠ 192 := fun e => by subst e; exact hn (Int32.le_refl _)
    rw [nI_1]
    exact ⟨fun _ => okWor ρ ϖ τ hs n (i + 1) _ _ (by omega) (by omega), fun _ => ⟨fun _ => okWor ρ ϖ τ hs n (i + 1) _ _ (by omega) (by omega), fun _ => okWor ρ ϖ τ hs n (i + 1) _ _ (by omega) (by omega)⟩⟩
theorem okWorT (ρ : QS) (ϖ : PS) (τ : DS) (hs : HS) : ok_X4_worst ρ ϖ σ τ hs := by
  have h := okWor (σ := σ) ρ ϖ τ hs FU 0 (-6) (-1) (by omega) (fuel (by omega))
  rw [nI_0] at h
  exact h
theorem worEq (ρ ρ' : QS) (ϖ ϖ' : PS) (τ τ' : DS) (hs hs' : HS) : ∀ (n : Nat) (b g i : Int32), L1_X4_worst ρ ϖ σ τ hs n b g i = L1_X4_worst ρ' ϖ' σ τ' hs' n b g i
  | 0, b, g, i => rfl
  | n + 1, b, g, i => by
    unfold L1_X4_worst
    rw [worEq ρ ρ' ϖ ϖ' τ τ' hs hs' n, worEq ρ ρ' ϖ ϖ' τ τ' hs hs' n]
theorem okUnt (ρ : QS) (ϖ : PS) (τ : DS) (hs : HS) (p q : Int32) : ∀ (n i : Nat) (T : DS), i ≤ 501 → 501 - i < n → okL1_X4_untilLost ρ ϖ σ τ hs p q n (nI i) T
  | 0, i, T, h1, h2 => absurd h2 (Nat.not_lt_zero _)
  | n + 1, i, T, h1, h2 => by
    unfold okL1_X4_untilLost
    refine ⟨fun _ => trivial, fun hn => ?_⟩
    have hi : i ≠ 501 := fun e => by subst e; exact hn (by decide)
    rw [nI_1]
    exact ⟨fun _ => trivial, fun _ => okUnt ρ ϖ τ hs p q n (i + 1) _ (by omega) (by omega)⟩
theorem okUntT (ρ : QS) (ϖ : PS) (τ : DS) (hs : HS) (p q : Int32) : ok_X4_untilLost ρ ϖ σ τ hs p q :=
  ⟨fun _ => trivial, fun _ => ⟨fun _ => trivial, fun _ => ⟨fun _ => trivial, fun _ => ⟨fun _ => trivial, fun _ => okUnt ρ ϖ τ hs p q FU 1 _ (by omega) (fuel (by omega))⟩⟩⟩⟩
theorem untEq (ρ ρ' : QS) (ϖ ϖ' : PS) (τ τ' : DS) (hs hs' : HS) (p q : Int32) : ∀ (n : Nat) (i : Int32) (T : DS), L1_X4_untilLost ρ ϖ σ τ hs p q n i T = L1_X4_untilLost ρ' ϖ' σ τ' hs' p q n i T
  | 0, i, T => rfl
  | n + 1, i, T => by
    unfold L1_X4_untilLost
    rw [untEq ρ ρ' ϖ ϖ' τ τ' hs hs' p q n]
theorem untV (ρ : QS) (ϖ : PS) (τ : DS) (hs : HS) (p q : Int32) : (s_X4_untilLost ρ ϖ σ τ hs p q).1 = vU σ p q := by
  unfold vU s_X4_untilLost
  rw [untEq ρ q0 ϖ p0 τ d0 hs h0 p q FU 1, fresh_id, fresh_id]
  by_cases h1 : s_X4_isAddress p = 0
  · rw [if_pos h1, if_pos h1]
  rw [if_neg h1, if_neg h1]
  by_cases h2 : s_X4_isAddress q = 0
  · rw [if_pos h2, if_pos h2]
  rw [if_neg h2, if_neg h2]
  by_cases h3 : p = q
  · rw [if_pos h3, if_pos h3]
  rw [if_neg h3, if_neg h3]
  by_cases h4 : s_X0_isReadable σ (s_X0_sectorFor σ q) = 0
  · rw [if_pos h4, if_pos h4]
  · rw [if_neg h4, if_neg h4]
theorem okCnt (ρ : QS) (ϖ : PS) (τ : DS) (hs : HS) (p1 : Int32) : ok_X4_count ρ ϖ σ τ hs p1 := by
  have f2 : ok_X0_filledOn σ 0 16 := okFilT _ _
  have u2 : ok_X0_unreadableOn σ 0 16 := okUnrT _ _
  have g2 : ok_X0_greatestBlur σ := okGreT
  have t16 : ok_X0_writingsOnTrack σ 16 := okSumT _ _
  have w01 : ok_X0_writingsOnTracks σ 0 1 := (wot σ 0 1 (Or.inl rfl) (by omega)).2
  have w02 : ok_X0_writingsOnTracks σ 0 2 := (wot σ 0 2 (Or.inr rfl) (by omega)).2
  have w12 : ok_X0_writingsOnTracks σ 1 2 := (wot σ 1 2 (Or.inr rfl) (by omega)).2
  have key : ((p1 = 5 → True) ∧ (¬ p1 = 5 → ((p1 = 6 → True) ∧ (¬ p1 = 6 → ((p1 = 7 → True) ∧ (¬ p1 = 7 → ((p1 = 8 → True) ∧ (¬ p1 = 8 → ((p1 = 9 → (ok_X0_filledOn σ 0 16)) ∧ (¬ p1 = 9 → ((p1 = 10 → (ok_X0_unreadableOn σ 0 16)) ∧ (¬ p1 = 10 → ((p1 = 11 → ((ok_X0_writingsOnTracks σ 0 1) ∧ (ok_X0_writingsOnTrack σ 16))) ∧ (¬ p1 = 11 → ((p1 = 12 → True) ∧ (¬ p1 = 12 → ((p1 = 13 → (ok_X0_writingsOnTracks σ 0 2)) ∧ (¬ p1 = 13 → ((p1 = 14 → (ok_X0_writingsOnTracks σ 1 2)) ∧ (¬ p1 = 14 → ((p1 = 15 → (ok_X0_greatestBlur σ)) ∧ (¬ p1 = 15 → True)))))))))))))))))))))) :=
    ⟨fun _ => trivial, fun _ => ⟨fun _ => trivial, fun _ => ⟨fun _ => trivial, fun _ => ⟨fun _ => trivial, fun _ => ⟨fun _ => f2, fun _ => ⟨fun _ => u2, fun _ => ⟨fun _ => ⟨w01, t16⟩, fun _ => ⟨fun _ => trivial, fun _ => ⟨fun _ => w02, fun _ => ⟨fun _ => w12, fun _ => ⟨fun _ => g2, fun _ => trivial⟩⟩⟩⟩⟩⟩⟩⟩⟩⟩⟩
  exact ⟨fun _ => key, fun _ => ⟨fun _ => key, fun _ => trivial⟩⟩
theorem okTrk (ρ : QS) (ϖ : PS) (τ : DS) (hs : HS) (p1 p2 : Int32) : ok_X4_track ρ ϖ σ τ hs p1 p2 :=
  ⟨fun _ => trivial, fun _ => ⟨fun _ => okFilT _ _, fun _ => ⟨fun _ => okUnrT _ _, fun _ => ⟨fun _ => okSumT _ _, fun _ => ⟨fun _ => okSumT _ _, fun _ => trivial⟩⟩⟩⟩⟩
theorem cntV (ρ : QS) (ϖ : PS) (τ : DS) (hs : HS) (p1 : Int32) (h6 : ¬ p1 = 16) (h7 : ¬ p1 = 17) : s_X4_count ρ ϖ σ τ hs p1 = vC σ p1 := by
  unfold vC s_X4_count
  simp only [if_neg h6, if_neg h7]
end OKS
/-! the object's contracts: what there is, what if -/
section OBR
variable {G : GG} {γ : Nat} {V : OV} {W0 : va_W}
theorem o_sector (l : Launch) (hI : OI G γ V W0) (p q : Int32) : Rd G l yX4_sector wsX4_sector 3 63 [.ref γ, .int p, .int q] W0 (.int (vS V.1 p q)) := by
  obtain ⟨α, β, π, κ, η, ς, ρ, τ, R, S, o, n, rfl, -⟩ := hI
  exact Rd.frame (c_X4_sector l G γ κ π α β η ς ρ V.2.1 V.1 τ (ringOf R, nI o, nI n) p q) pf1
theorem o_track (l : Launch) (hI : OI G γ V W0) (p q : Int32) : Rd G l yX4_track wsX4_track 4 88 [.ref γ, .int p, .int q] W0 (.int (vT V.1 p q)) := by
  obtain ⟨α, β, π, κ, η, ς, ρ, τ, R, S, o, n, rfl, -⟩ := hI
  exact Rd.frame (c_X4_track l G γ κ π α β η ς ρ V.2.1 V.1 τ (ringOf R, nI o, nI n) p q (okTrk _ _ _ _ _ _)) pf1
theorem o_ticksFor (l : Launch) (hI : OI G γ V W0) (p q : Int32) : Rd G l yX4_ticksFor wsX4_ticksFor 4 86 [.ref γ, .int p, .int q] W0 (.int (vF V.1 p q)) := by
  obtain ⟨α, β, π, κ, η, ς, ρ, τ, R, S, o, n, rfl, -⟩ := hI
  exact Rd.frame (c_X4_ticksFor l G γ κ π α β η ς ρ V.2.1 V.1 τ (ringOf R, nI o, nI n) p q) pf1
theorem o_worst (l : Launch) (hI : OI G γ V W0) : Rd G l yX4_worst wsX4_worst 3 63 [.ref γ] W0 (.int (vW V.1)) := by
  obtain ⟨α, β, π, κ, η, ς, ρ, τ, R, S, o, n, rfl, -⟩ := hI
  have h := c_X4_worst l G γ κ π α β η ς ρ V.2.1 V.1 τ (ringOf R, nI o, nI n) (okWorT _ _ _ _)
  rw [show s_X4_worst ρ V.2.1 V.1 τ (ringOf R, nI o, nI n) = vW V.1 from worEq _ _ _ _ _ _ _ _ _ _ _ _] at h
  exact Rd.frame h pf1
theorem o_count (l : Launch) (tb : Nat × Nat × Nat) (hI : OI G γ V W0) (p : Int32) (h6 : ¬ p = 16) (h7 : ¬ p = 17) : RdT G l yX4_count wsX4_count 4 89 [.ref γ, .int p] W0 tb (.int (vC V.1 p)) := by
  obtain ⟨α, β, π, κ, η, ς, ρ, τ, R, S, o, n, rfl, -⟩ := hI
  have h := c_X4_count l G γ κ π α β η ς ρ V.2.1 V.1 τ (ringOf R, nI o, nI n) p tb (okCnt _ _ _ _ _)
  rw [cntV _ _ _ _ _ h6 h7] at h
  exact RdT.frame h pf1
theorem fst_F {G : GG} {γ : Nat} {α β π κ η : Nat → Nat} {ς : Nat} {ρ ρ' : QS} {ϖ ϖ' : PS} {σ τ τ' : DS} {hs : HS} : (gW γ (α 0) (β 0) (π 0) (κ 0) (η 0) ς ++ (qW G.2.1 κ ρ' ++ (pW G.2.1 π ϖ' ++ (dW G.2.1 α σ ++ (dW G.2.1 β τ' ++ hW G.2.2 η hs))))).map (·.1) = (gW γ (α 0) (β 0) (π 0) (κ 0) (η 0) ς ++ (qW G.2.1 κ ρ ++ (pW G.2.1 π ϖ ++ (dW G.2.1 α σ ++ (dW G.2.1 β τ ++ hW G.2.2 η hs))))).map (·.1) :=
  fst_app fst_G (fst_app (fst_Q _ _) (fst_app (fst_P _ _) (fst_app (fst_D _ _) (fst_app (fst_D _ _) (fst_H _ _)))))
theorem o_untilLost (l : Launch) (tb : Nat × Nat × Nat) (hI : OI G γ V W0) (p q : Int32) : Nw G l yX4_untilLost wsX4_untilLost 4 122 0 0 [.ref γ, .int p, .int q] W0 (sT tb) (some (.int (vU V.1 p q))) (OI G γ V) := by
  obtain ⟨α, β, π, κ, η, ς, ρ, τ, R, S, o, n, rfl, h1, h2, h3⟩ := hI
  have h := c_X4_untilLost l G γ κ π α β η ς ρ V.2.1 V.1 τ (ringOf R, nI o, nI n) p q (okUntT _ _ _ _ _ _)
  rw [untV] at h
  exact Nw.frame (Wr.nw h fst_F) sT.narrow pf2 (fun w1 e => by subst e; exact ⟨_, pf2.symm, α, β, π, κ, η, ς, ρ, _, R, S, o, n, rfl, h1, h2, h3⟩)
/-! texts -/
theorem o_wipe (l : Launch) (tb : Nat × Nat × Nat) (hI : OI G γ V W0) : Nw G l yX4_wipe wsX4_wipe 1 20 0 0 [.ref γ] W0 (sT tb) (some (.int (p_le V.2.1))) (OI G γ (V.1, s_X2_clear V.2.1, V.2.2)) := by
  obtain ⟨α, β, π, κ, η, ς, ρ, τ, R, S, o, n, rfl, h1, h2, h3⟩ := hI
  have h := c_X4_wipe l G γ κ π α β η ς ρ V.2.1 V.1 τ (ringOf R, nI o, nI n)
  exact Nw.frame (Wr.nw h fst_F) sT.narrow pf2 (fun w1 e => by subst e; exact ⟨_, pf2.symm, α, β, π, κ, η, ς, ρ, τ, R, S, o, n, rfl, h1, h2, h3⟩)
theorem o_put (l : Launch) (tb : Nat × Nat × Nat) (hI : OI G γ V W0) (c : Int64) (L : Int32) (ϖ' : PS) (he : ∀ (ρ : QS) (σ τ : DS) (hs : HS), s_X4_put ρ V.2.1 σ τ hs c = (L, ϖ') ∧ ok_X4_put ρ V.2.1 σ τ hs c) : Nw G l yX4_put wsX4_put 2 46 0 0 [.ref γ, .long c] W0 (sT tb) (some (.int L)) (OI G γ (V.1, ϖ', V.2.2)) := by
  obtain ⟨α, β, π, κ, η, ς, ρ, τ, R, S, o, n, rfl, h1, h2, h3⟩ := hI
  obtain ⟨e1, e2⟩ := he ρ V.1 τ (ringOf R, nI o, nI n)
  have h := c_X4_put l G γ κ π α β η ς ρ V.2.1 V.1 τ (ringOf R, nI o, nI n) c e2
  rw [e1] at h
  exact Nw.frame (Wr.nw h fst_F) sT.narrow pf2 (fun w1 e => by subst e; exact ⟨_, pf2.symm, α, β, π, κ, η, ς, ρ, τ, R, S, o, n, rfl, h1, h2, h3⟩)
theorem o_fault (l : Launch) (tb : Nat × Nat × Nat) (hI : OI G γ V W0) (F : Int32) (he : ∀ ρ : QS, (s_X3_parse ρ V.2.1).1 = F ∧ ok_X3_parse ρ V.2.1) : Nw G l yX4_fault wsX4_fault 5 106 0 0 [.ref γ] W0 (sT tb) (some (.int F)) (OI G γ V) := by
  obtain ⟨α, β, π, κ, η, ς, ρ, τ, R, S, o, n, rfl, h1, h2, h3⟩ := hI
  obtain ⟨e1, e2⟩ := he ρ
  have h := c_X4_fault l G γ κ π α β η ς ρ V.2.1 V.1 τ (ringOf R, nI o, nI n) e2
  rw [show (s_X4_fault ρ V.2.1 V.1 τ (ringOf R, nI o, nI n)).1 = F from e1] at h
  exact Nw.frame (Wr.nw h fst_F) sT.narrow pf2 (fun w1 e => by subst e; exact ⟨_, pf2.symm, α, β, π, κ, η, ς, _, τ, R, S, o, n, rfl, h1, h2, h3⟩)
/-! changes -/
theorem o_chg {l : Launch} {y : MethodName} {ws : List Cond} {nf nl : Nat} {av : List Value} {tb : Nat × Nat × Nat} {α β π κ η : Nat → Nat} {ς : Nat} {ρ ρ' : QS} {ϖ ϖ' : PS} {σ τ τ' σ' : DS} {R S : Nat → Option XD} {o n : Nat} {a : Int32} {sl : Nat → Option DS} (h1 : o < 6) (h2 : n ≤ 6) (h3 : sl = fun k => (S k).map (·.2))
    (hC : Nw G l y ws nf nl 6 818 av (gW γ (α 0) (β 0) (π 0) (κ 0) (η 0) ς ++ (qW G.2.1 κ ρ ++ (pW G.2.1 π ϖ ++ (dW G.2.1 α σ ++ (dW G.2.1 β τ ++ hW G.2.2 η (ringOf R, nI o, nI n)))))) (sT tb) (some (.int a)) (AP G γ η (ringOf R) o n (α 0) (β 0) (π 0) (κ 0) ς (qW G.2.1 κ ρ' ++ (pW G.2.1 π ϖ' ++ (dW G.2.1 α σ ++ dW G.2.1 β τ'))) a)) (hneg : a < 0 → σ' = σ) (hpos : ¬ a < 0 → σ' = τ') : Nw G l y ws nf nl 6 818 av (cW G γ α β π κ η ς ρ ϖ σ τ R S o n) (sT tb) (some (.int a)) (OI G γ (σ', ϖ', sl)) := by
  refine Nw.frame hC sT.narrow pf2 (fun w1 e => ?_)
  rcases AP_next (S := S) (m := []) e pf3 with ⟨ha, pm⟩ | ⟨ha, δ, υ, pm⟩
  · rw [List.append_nil] at pm
    rw [hneg ha]
    exact ⟨_, pm, α, β, π, κ, η, ς, ρ', τ', R, S, o, n, rfl, h1, h2, h3⟩
  · rw [List.append_nil] at pm
    rw [hpos ha]
    exact ⟨_, pm, β, δ, π, κ, η, ς, ρ', υ, va_up R ((o + n) % 6) (some (α, σ)), S, kO o n, kN n, rfl, by unfold kO; split <;> omega, by unfold kN; split <;> omega, h3⟩
theorem o_set (l : Launch) (tb : Nat × Nat × Nat) (hI : OI G γ V W0) {k : Nat} (hk : k < 5) (v : Int32) (h5 : ¬ v < lowS k) (h6 : v ≤ highS k) (hd : ¬ d_st V.1 k < 0) : Nw G l yX4_set wsX4_set 5 133 6 818 [.ref γ, .int (nI k), .int v] W0 (sT tb) (some (.int (d_st V.1 k))) (OI G γ (d_st' V.1 (upd (d_st V.1) k v), V.2.1, V.2.2)) := by
  obtain ⟨α, β, π, κ, η, ς, ρ, τ, R, S, o, n, rfl, h1, h2, h3⟩ := hI
  have h := c_X4_set l G γ κ π α β η ς ρ V.2.1 V.1 τ (ringOf R) o n (nI k) v tb h1 h2 newD.2
  have e : s_X4_set ρ V.2.1 V.1 τ (ringOf R, nI o, nI n) (nI k) v = (d_st V.1 k, d_st' V.1 (upd (d_st V.1) k v)) := by
    unfold s_X4_set
    rw [if_neg (nI_pos (by omega)), if_pos (show nI k < (5 : Int32) from nI_lt (b := 5) hk (by omega)), at_nI hk (by omega), if_neg h5, at_nI hk (by omega), if_pos h6, fresh_id]
    unfold s_X0_exchangeSetting
    rw [at_nI hk (by omega), lay_nI hk (by omega)]
  rw [e] at h
  exact o_chg h1 h2 h3 h (fun ha => absurd ha hd) (fun _ => rfl)
theorem adr1 {a : Nat} (h : a < 192) : ¬ s_X4_isAddress (nI a) = 0 := by
  rw [adr4 h]
  decide
theorem o_write (l : Launch) (tb : Nat × Nat × Nat) (hI : OI G γ V W0) {a v : Nat} (ha : a < 192) (hv : v ≤ 255) (hd : (s_X0_writeTo V.1 (nI a) (nI v)).1 < 0 → (s_X0_writeTo V.1 (nI a) (nI v)).2 = V.1) : Nw G l yX4_write wsX4_write 5 133 6 818 [.ref γ, .int (nI a), .int (nI v)] W0 (sT tb) (some (.int (s_X0_writeTo V.1 (nI a) (nI v)).1)) (OI G γ ((s_X0_writeTo V.1 (nI a) (nI v)).2, V.2.1, V.2.2)) := by
  obtain ⟨α, β, π, κ, η, ς, ρ, τ, R, S, o, n, rfl, h1, h2, h3⟩ := hI
  have h := c_X4_write l G γ κ π α β η ς ρ V.2.1 V.1 τ (ringOf R) o n (nI a) (nI v) tb h1 h2 newD.2
  have e : s_X4_write ρ V.2.1 V.1 τ (ringOf R, nI o, nI n) (nI a) (nI v) = s_X0_writeTo V.1 (nI a) (nI v) := by
    unfold s_X4_write
    rw [if_neg (adr1 ha), if_neg (nI_pos (by omega)), if_pos (show nI v ≤ (255 : Int32) from nI_le (b := 255) hv (by omega)), fresh_id]
  rw [e] at h
  exact o_chg h1 h2 h3 h hd (fun _ => rfl)
theorem o_read (l : Launch) (tb : Nat × Nat × Nat) (hI : OI G γ V W0) {a : Nat} (ha : a < 192) (hd : (s_X0_readFrom V.1 (nI a)).1 < 0 → (s_X0_readFrom V.1 (nI a)).2 = V.1) : Nw G l yX4_read wsX4_read 5 133 6 818 [.ref γ, .int (nI a)] W0 (sT tb) (some (.int (s_X0_readFrom V.1 (nI a)).1)) (OI G γ ((s_X0_readFrom V.1 (nI a)).2, V.2.1, V.2.2)) := by
  obtain ⟨α, β, π, κ, η, ς, ρ, τ, R, S, o, n, rfl, h1, h2, h3⟩ := hI
  have h := c_X4_read l G γ κ π α β η ς ρ V.2.1 V.1 τ (ringOf R) o n (nI a) tb h1 h2 newD.2
  have e : s_X4_read ρ V.2.1 V.1 τ (ringOf R, nI o, nI n) (nI a) = s_X0_readFrom V.1 (nI a) := by
    unfold s_X4_read
    rw [if_neg (adr1 ha), fresh_id]
  rw [e] at h
  exact o_chg h1 h2 h3 h hd (fun _ => rfl)
theorem o_refresh0 (l : Launch) (tb : Nat × Nat × Nat) (hI : OI G γ V W0) {a : Nat} (ha : a < 192) (hd : s_X0_isReadable V.1 (s_X0_sectorFor V.1 (nI a)) = 0) : Nw G l yX4_refresh wsX4_refresh 5 133 6 818 [.ref γ, .int (nI a)] W0 (sT tb) (some (.int (-5))) (OI G γ (V.1, V.2.1, V.2.2)) := by
  obtain ⟨α, β, π, κ, η, ς, ρ, τ, R, S, o, n, rfl, h1, h2, h3⟩ := hI
  have h := c_X4_refresh l G γ κ π α β η ς ρ V.2.1 V.1 τ (ringOf R) o n (nI a) tb h1 h2 newD.2
  have e0 : s_X0_readFrom V.1 (nI a) = (-5, V.1) := by
    unfold s_X0_readFrom
    rw [if_pos hd]
  have e : s_X4_refresh ρ V.2.1 V.1 τ (ringOf R, nI o, nI n) (nI a) = (-5, V.1) := by
    unfold s_X4_refresh
    rw [if_neg (adr1 ha), fresh_id, e0, if_neg (show ¬ (0 : Int32) ≤ -5 from by decide)]
  rw [e] at h
  exact o_chg h1 h2 h3 h (fun _ => rfl) (fun _ => rfl)
theorem o_refresh (l : Launch) (tb : Nat × Nat × Nat) (hI : OI G γ V W0) {a : Nat} (ha : a < 192) {v : Int32} {σ1 σ2 : DS} {k b : Int32} (e1 : s_X0_readFrom V.1 (nI a) = (v, σ1)) (h8 : 0 ≤ v) (e2 : s_X0_writeTo σ1 (nI a) v = (k, σ2)) (h9 : 0 ≤ k) (e3 : s_X0_blurOf V.1 (s_X0_sectorFor V.1 (nI a)) = b) (hb : ¬ b < 0) : Nw G l yX4_refresh wsX4_refresh 5 133 6 818 [.ref γ, .int (nI a)] W0 (sT tb) (some (.int b)) (OI G γ (σ2, V.2.1, V.2.2)) := by
  obtain ⟨α, β, π, κ, η, ς, ρ, τ, R, S, o, n, rfl, h1, h2, h3⟩ := hI
  have h := c_X4_refresh l G γ κ π α β η ς ρ V.2.1 V.1 τ (ringOf R) o n (nI a) tb h1 h2 newD.2
  have e : s_X4_refresh ρ V.2.1 V.1 τ (ringOf R, nI o, nI n) (nI a) = (b, σ2) := by
    unfold s_X4_refresh t1_X4_refresh
    rw [if_neg (adr1 ha), fresh_id, e1, if_pos h8, e2, if_pos h9, e3]
  rw [e] at h
  exact o_chg h1 h2 h3 h (fun ha => absurd ha hb) (fun _ => rfl)
theorem o_seek (l : Launch) (tb : Nat × Nat × Nat) (hI : OI G γ V W0) {t : Nat} (ht : t < 17) (hd : (s_X0_moveHead V.1 (nI t)).1 < 0 → (s_X0_moveHead V.1 (nI t)).2 = V.1) : Nw G l yX4_seek wsX4_seek 5 133 6 818 [.ref γ, .int (nI t)] W0 (sT tb) (some (.int (s_X0_moveHead V.1 (nI t)).1)) (OI G γ ((s_X0_moveHead V.1 (nI t)).2, V.2.1, V.2.2)) := by
  obtain ⟨α, β, π, κ, η, ς, ρ, τ, R, S, o, n, rfl, h1, h2, h3⟩ := hI
  have h := c_X4_seek l G γ κ π α β η ς ρ V.2.1 V.1 τ (ringOf R) o n (nI t) tb h1 h2 newD.2
  have e : s_X4_seek ρ V.2.1 V.1 τ (ringOf R, nI o, nI n) (nI t) = s_X0_moveHead V.1 (nI t) := by
    unfold s_X4_seek s_X4_isTrack
    rw [if_neg (nI_pos (by omega)), if_neg (show ¬ (16 : Int32) < nI t from nI_nlt (a := 16) (by omega) (by omega)), if_neg (by decide), fresh_id]
  rw [e] at h
  exact o_chg h1 h2 h3 h hd (fun _ => rfl)
theorem o_idle (l : Launch) (tb : Nat × Nat × Nat) (hI : OI G γ V W0) {t : Nat} (ht1 : 1 ≤ t) (ht : t ≤ 9999) (hd : (s_X0_waitFor V.1 (nI t)).1 < 0 → (s_X0_waitFor V.1 (nI t)).2 = V.1) : Nw G l yX4_idle wsX4_idle 5 133 6 818 [.ref γ, .int (nI t)] W0 (sT tb) (some (.int (s_X0_waitFor V.1 (nI t)).1)) (OI G γ ((s_X0_waitFor V.1 (nI t)).2, V.2.1, V.2.2)) := by
  obtain ⟨α, β, π, κ, η, ς, ρ, τ, R, S, o, n, rfl, h1, h2, h3⟩ := hI
  have h := c_X4_idle l G γ κ π α β η ς ρ V.2.1 V.1 τ (ringOf R) o n (nI t) tb h1 h2 newD.2
  have e : s_X4_idle ρ V.2.1 V.1 τ (ringOf R, nI o, nI n) (nI t) = s_X0_waitFor V.1 (nI t) := by
    unfold s_X4_idle
    rw [if_neg (show ¬ nI t < (1 : Int32) from nI_nlt (b := 1) (by omega) (by omega)), if_pos (show nI t ≤ (9999 : Int32) from nI_le (b := 9999) ht (by omega)), fresh_id]
  rw [e] at h
  exact o_chg h1 h2 h3 h hd (fun _ => rfl)
/-- what a run of the pad comes to -/
def Runs (ϖ : PS) (σ : DS) (p dn : Int32) (σ' : DS) : Prop := ∀ ρ : QS, ∃ τ1 τ2 : QS, s_X3_parse ρ ϖ = (-6, τ1) ∧ ok_X3_parse ρ ϖ ∧ s_X3_doOn τ1 σ p = (dn, τ2, σ') ∧ ok_X3_doOn τ1 σ p
theorem o_run (l : Launch) (tb : Nat × Nat × Nat) (hI : OI G γ V W0) {p dn : Int32} {σ' : DS} (hr : Runs V.2.1 V.1 p dn σ') (hd : ¬ dn < 0) : Nw G l yX4_run wsX4_run 7 160 6 818 [.ref γ, .int p] W0 (sT tb) (some (.int dn)) (OI G γ (σ', s_X2_clear V.2.1, V.2.2)) := by
  obtain ⟨α, β, π, κ, η, ς, ρ, τ, R, S, o, n, rfl, h1, h2, h3⟩ := hI
  obtain ⟨τ1, τ2, r1, r2, r3, r4⟩ := hr ρ
  have hok : ok_X4_run ρ V.2.1 V.1 τ (ringOf R, nI o, nI n) p := by
    unfold ok_X4_run
    rw [r1, fresh_id]
    exact ⟨r2, fun _ => r4, fun _ => trivial⟩
  have h := c_X4_run l G γ κ π α β η ς ρ V.2.1 V.1 τ (ringOf R) o n p tb h1 h2 newD.2 hok
  have e : s_X4_run ρ V.2.1 V.1 τ (ringOf R, nI o, nI n) p = (dn, τ2, s_X2_clear V.2.1, σ') := by
    unfold s_X4_run t1_X4_run t2_X4_run
    rw [r1, fresh_id, r3, if_pos rfl]
  rw [e] at h
  exact o_chg h1 h2 h3 h (fun ha => absurd ha hd) (fun _ => rfl)
/-! slots -/
theorem o_save_old (l : Launch) (tb : Nat × Nat × Nat) (hI : OI G γ V W0) {k : Nat} (hk : k < 2) (hs : V.2.2 k ≠ none) : Nw G l yX4_save wsX4_save 4 111 0 0 [.ref γ, .int (nI k)] W0 (sT tb) (some (.int (s_X0_filledOn V.1 0 16))) (OI G γ (V.1, V.2.1, fun j => if j = k then some V.1 else V.2.2 j)) := by
  obtain ⟨α, β, π, κ, η, ς, ρ, τ, R, S, o, n, rfl, h1, h2, h3⟩ := hI
  cases hq : S k with
  | none => rw [h3] at hs; exact absurd (by show (S k).map (·.2) = none; rw [hq]; rfl) hs
  | some x =>
    obtain ⟨δ, υ⟩ := x
    obtain ⟨z, hz⟩ := xS_out G.2.1 S hk
    rw [hq] at hz
    have h := c_X4_save_old l G γ α δ (β 0) (π 0) (κ 0) (η 0) ς (ringOf S) V.1 υ k hk (ringOf_of hq) (okFilT _ _)
    refine Nw.frame (Wr.nw h (fst_app fst_G (fst_app rfl (fst_app rfl (fst_D _ _))))) sT.narrow (pf5 hz) (fun w1 e => ?_)
    subst e
    have hx := xS_up G.2.1 S hk (δ, V.1)
    rw [hq] at hx
    have hr : ringOf (va_up S k (some (δ, V.1))) = ringOf S := by
      rw [ringOf_up]
      funext j
      by_cases hj : j = k
      · subst hj
        rw [va_up_self]
        exact (ringOf_of hq).symm
      · rw [va_up_ne _ _ hj]
    refine ⟨cW G γ α β π κ η ς ρ V.2.1 V.1 τ R (va_up S k (some (δ, V.1))) o n, ?_, α, β, π, κ, η, ς, ρ, τ, R, va_up S k (some (δ, V.1)), o, n, rfl, h1, h2, ?_⟩
    · show List.Perm _ (cW G γ α β π κ η ς ρ V.2.1 V.1 τ R (va_up S k (some (δ, V.1))) o n)
      unfold cW
      rw [hr]
      exact pf6 hz hx
    · funext j
      show (if j = k then some V.1 else V.2.2 j) = (va_up S k (some (δ, V.1)) j).map (·.2)
      by_cases hj : j = k
      · subst hj
        rw [va_up_self, if_pos rfl]
        rfl
      · rw [va_up_ne _ _ hj, if_neg hj, h3]
theorem o_save_new (l : Launch) (tb : Nat × Nat × Nat) (hI : OI G γ V W0) {k : Nat} (hk : k < 2) (hs : V.2.2 k = none) : Nw G l yX4_save wsX4_save 4 111 6 818 [.ref γ, .int (nI k)] W0 (sT tb) (some (.int (s_X0_filledOn V.1 0 16))) (OI G γ (V.1, V.2.1, fun j => if j = k then some V.1 else V.2.2 j)) := by
  obtain ⟨α, β, π, κ, η, ς, ρ, τ, R, S, o, n, rfl, h1, h2, h3⟩ := hI
  have hq : S k = none := by
    have h9 : (S k).map (·.2) = none := by rw [h3] at hs; exact hs
    cases h : S k with
    | none => rfl
    | some x => rw [h] at h9; cases h9
  have hrn : ringOf S k = none := by
    unfold ringOf
    rw [hq]
    rfl
  have h := c_X4_save_new l G γ α (β 0) (π 0) (κ 0) (η 0) ς (ringOf S) V.1 k tb newD.2 hk hrn (okFilT _ _)
  refine Nw.frame h sT.narrow pf7 (fun w1 e => ?_)
  obtain ⟨δ, rfl⟩ := e
  rw [like_id]
  have hx := xS_up G.2.1 S hk (δ, V.1)
  rw [hq] at hx
  refine ⟨cW G γ α β π κ η ς ρ V.2.1 V.1 τ R (va_up S k (some (δ, V.1))) o n, ?_, α, β, π, κ, η, ς, ρ, τ, R, va_up S k (some (δ, V.1)), o, n, rfl, h1, h2, ?_⟩
  · unfold cW
    rw [ringOf_up]
    exact pf8 hx
  · funext j
    show (if j = k then some V.1 else V.2.2 j) = (va_up S k (some (δ, V.1)) j).map (·.2)
    by_cases hj : j = k
    · subst hj
      rw [va_up_self, if_pos rfl]
      rfl
    · rw [va_up_ne _ _ hj, if_neg hj, h3]
theorem o_restore_none (l : Launch) (hI : OI G γ V W0) {k : Nat} (hk : k < 2) (hs : V.2.2 k = none) : Rd G l yX4_restore wsX4_restore 0 0 [.ref γ, .int (nI k)] W0 (.int (-5)) := by
  obtain ⟨α, β, π, κ, η, ς, ρ, τ, R, S, o, n, rfl, h1, h2, h3⟩ := hI
  have hq : S k = none := by
    have h9 : (S k).map (·.2) = none := by rw [h3] at hs; exact hs
    cases h : S k with
    | none => rfl
    | some x => rw [h] at h9; cases h9
  have hrn : ringOf S k = none := by
    unfold ringOf
    rw [hq]
    rfl
  exact Rd.frame (c_X4_restore_none l G γ (α 0) (β 0) (π 0) (κ 0) (η 0) ς (ringOf S) k hk hrn) pf4
theorem o_restore (l : Launch) (tb : Nat × Nat × Nat) (hI : OI G γ V W0) {k : Nat} (hk : k < 2) {υ : DS} (hs : V.2.2 k = some υ) (hd : ¬ s_X0_filledOn υ 0 16 < 0) : Nw G l yX4_restore wsX4_restore 5 133 6 818 [.ref γ, .int (nI k)] W0 (sT tb) (some (.int (s_X0_filledOn υ 0 16))) (OI G γ (υ, V.2.1, V.2.2)) := by
  obtain ⟨α, β, π, κ, η, ς, ρ, τ, R, S, o, n, rfl, h1, h2, h3⟩ := hI
  have h9 : (S k).map (·.2) = some υ := by rw [h3] at hs; exact hs
  cases hq : S k with
  | none => rw [hq] at h9; cases h9
  | some x =>
    obtain ⟨δ, υ'⟩ := x
    rw [hq] at h9
    have h9 : υ' = υ := Option.some.inj h9
    subst h9
    obtain ⟨z, hz⟩ := xS_out G.2.1 S hk
    rw [hq] at hz
    have h := c_X4_restore l G γ α β δ η (π 0) (κ 0) ς (ringOf S) V.1 τ υ' (ringOf R) o n k tb h1 h2 newD.2 hk (ringOf_of hq) (okFilT _ _)
    rw [like_id] at h
    refine Nw.frame h sT.narrow (pf9 hz) (fun w1 e => ?_)
    rcases AP_next (S := S) (m := []) e (pf10 hz) with ⟨ha, pm⟩ | ⟨ha, δ', υ'', pm⟩
    · exact absurd ha hd
    · rw [List.append_nil] at pm
      exact ⟨_, pm, β, δ', π, κ, η, ς, ρ, υ'', va_up R ((o + n) % 6) (some (α, V.1)), S, kO o n, kN n, rfl, by unfold kO; split <;> omega, by unfold kN; split <;> omega, h3⟩
end OBR
