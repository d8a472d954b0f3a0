set_option maxHeartbeats 4000000 in
set_option maxRecDepth 100000 in
theorem cs_save {p : Program} {e : Env} {s : State} {m : MethodId} {below : List Frame} {meth : Method} {c : Code} {H : Heap} {locs : List Loc} {cells slots : Nat} {Q : State → Prop} {b L j γ μ0 : Nat} {xs : Nat → Int32} {A : Nat → Prop} {ls : Array Slot} {W0 : va_W} {tb : Nat × Nat × Nat} (l : Launch) (G : GG) (C0 : lw_At p s m meth c b L xs) (hK : cK G s) (hT : sT tb A s) (hA : ∀ q, s.heap.size ≤ q → A q) (hbA : ¬ A b) (hL : L ≤ 1536) (hj : j + 3 ≤ L) (hLI : LIw G γ μ0 W0) (hP : va_P G.1 vwCl W0 H) (hD : va_D A W0) (hS : va_S A s.heap H locs) (hf1 : cells + 6 ≤ 600000) (hf2 : slots + 818 ≤ 7302250) (hl : lv_has ls 4 [(0, .ref b), (1, .ref γ), (2, .ref μ0), (3, .int (nI j))])
    (kk : ∀ (W1 : va_W) (H1 : Heap) (locs1 : List Loc), LIw G γ μ0 W1 → va_P G.1 vwCl W1 H1 → va_D A W1 → va_S A s.heap H1 locs1 → W p l e room_1 s m #[.ref b] below meth c H1 locs1 (cells + 6) (slots + 818) Q (F0 m 686 ls [])) : W p l e room_1 s m #[.ref b] below meth c H locs cells slots Q (F0 m 640 ls []) := by
  obtain ⟨hx, hb, hr, hml, hown, hts, hX, hbl, hlocks, hgv⟩ := id C0
  have hF : CallFix p m c cL_law 4 s #[.ref b] lw_tbl RL := ⟨hx, hb, hml, hown, hts⟩
  obtain ⟨α, β, π, κ, η, ς, ρ, ϖ, σ, τ, R, S, o, n, ν, μ, rfl, rfl, hR, hH, hSI, hPI⟩ := hLI
  have hfr : cells ≤ room_1.cells ∧ slots ≤ room_1.slots := ⟨show cells ≤ 600000 from by omega, show slots ≤ 7302250 from by omega⟩
  have hfn : cells + 6 ≤ room_1.cells ∧ slots + 818 ≤ room_1.slots := ⟨hf1, hf2⟩
  obtain ⟨x1, e1⟩ : ∃ x, xs (nI j + 1).toNatClampNeg = x := ⟨_, rfl⟩
  obtain ⟨x2, e2⟩ : ∃ x, xs (nI j + 2).toNatClampNeg = x := ⟨_, rfl⟩
  have v1 : vp_in (nI j + 1) L := vin (k := 1) hL (by omega) 1 rfl
  have v2 : vp_in (nI j + 2) L := vin (k := 2) hL (by omega) 2 rfl
  have hin0 := newD.2
  rcases pk_ix x1 (n := 2) (by omega) with h | h | ⟨k, hk, rfl⟩
  · obtain ⟨e5, k5⟩ := p_save_bad (μ := μ) (Or.inl h)
    refine lv_aload_n hx hb dL_law_640 rfl (lv_at hl 1 rfl) ?_
    refine ldA hx hb hX hbl hbA hS hl 1 1 (by decide) v1 e1 dL_law_641 dL_law_642 dL_law_643 dL_law_644 dL_law_645 ?_
    refine rdV (As := [.int x1]) (rest := []) (c_X4_save_bad l G γ (α 0) (β 0) (π 0) (κ 0) (η 0) ς (ringOf S) x1 (Or.inl h)) hF (cwV 1 hts gL_law_X4_save rfl rfl rfl (by decide +kernel) ⟨Nat.le_of_ble_eq_true rfl, Nat.le_of_ble_eq_true rfl⟩) (va_recv hK.1 hP (ci := 4) (q0 := 0) rfl rfl) hK (va_PL (hP.perm pqG)) rfl hl.1 rfl (Nat.le_of_ble_eq_true rfl) dL_law_646 hfr ?_
    refine lv_aload_n hx hb dL_law_649 rfl (lv_at hl 2 rfl) ?_
    refine ldA hx hb hX hbl hbA hS hl 1 1 (by decide) v1 e1 dL_law_650 dL_law_651 dL_law_652 dL_law_653 dL_law_654 ?_
    refine wrVR (As := [.int x1]) (rest := [.int (-2)]) (c_X5_save l G ν μ x1 k5) hF (cwV 1 hts gL_law_X5_save rfl rfl rfl (by decide +kernel) ⟨Nat.le_of_ble_eq_true rfl, Nat.le_of_ble_eq_true rfl⟩) (va_recv hK.1 (va_PR hP) (ci := 5) (q0 := 0) rfl rfl) hK hP hD hS (fst_M _ _) rfl hl.1 rfl (Nat.le_of_ble_eq_true rfl) dL_law_655 hfr (fun H locs hP hD hS => ?_)
    rw [e5] at hP hD
    refine lv_icmp_eq (tgt := 686) hx hb dL_law_658 (by decide) (fun _ => ?_) (fun h9 => absurd (show ((-2) : Int32) = (s_X5_save μ x1).1 from by rw [e5]) h9)
    exact W.widen (k := cells + 6) (n := slots + 818) (Nat.le_add_right _ _) (Nat.le_add_right _ _) (kk _ _ _ ⟨_, _, _, _, _, _, _, _, _, _, _, _, _, _, _, _, rfl, rfl, hR, hH, hSI, hPI⟩ hP hD hS)
  · obtain ⟨e5, k5⟩ := p_save_bad (μ := μ) (Or.inr h)
    refine lv_aload_n hx hb dL_law_640 rfl (lv_at hl 1 rfl) ?_
    refine ldA hx hb hX hbl hbA hS hl 1 1 (by decide) v1 e1 dL_law_641 dL_law_642 dL_law_643 dL_law_644 dL_law_645 ?_
    refine rdV (As := [.int x1]) (rest := []) (c_X4_save_bad l G γ (α 0) (β 0) (π 0) (κ 0) (η 0) ς (ringOf S) x1 (Or.inr h)) hF (cwV 1 hts gL_law_X4_save rfl rfl rfl (by decide +kernel) ⟨Nat.le_of_ble_eq_true rfl, Nat.le_of_ble_eq_true rfl⟩) (va_recv hK.1 hP (ci := 4) (q0 := 0) rfl rfl) hK (va_PL (hP.perm pqG)) rfl hl.1 rfl (Nat.le_of_ble_eq_true rfl) dL_law_646 hfr ?_
    refine lv_aload_n hx hb dL_law_649 rfl (lv_at hl 2 rfl) ?_
    refine ldA hx hb hX hbl hbA hS hl 1 1 (by decide) v1 e1 dL_law_650 dL_law_651 dL_law_652 dL_law_653 dL_law_654 ?_
    refine wrVR (As := [.int x1]) (rest := [.int (-2)]) (c_X5_save l G ν μ x1 k5) hF (cwV 1 hts gL_law_X5_save rfl rfl rfl (by decide +kernel) ⟨Nat.le_of_ble_eq_true rfl, Nat.le_of_ble_eq_true rfl⟩) (va_recv hK.1 (va_PR hP) (ci := 5) (q0 := 0) rfl rfl) hK hP hD hS (fst_M _ _) rfl hl.1 rfl (Nat.le_of_ble_eq_true rfl) dL_law_655 hfr (fun H locs hP hD hS => ?_)
    rw [e5] at hP hD
    refine lv_icmp_eq (tgt := 686) hx hb dL_law_658 (by decide) (fun _ => ?_) (fun h9 => absurd (show ((-2) : Int32) = (s_X5_save μ x1).1 from by rw [e5]) h9)
    exact W.widen (k := cells + 6) (n := slots + 818) (Nat.le_add_right _ _) (Nat.le_add_right _ _) (kk _ _ _ ⟨_, _, _, _, _, _, _, _, _, _, _, _, _, _, _, _, rfl, rfl, hR, hH, hSI, hPI⟩ hP hD hS)
  · have hfo : ok_X0_filledOn σ 0 16 := (fil (σ := σ) (μ := μ) hR.1 Wi_a).2.1
    cases hq : S k with
    | none =>
      refine lv_aload_n hx hb dL_law_640 rfl (lv_at hl 1 rfl) ?_
      refine ldA hx hb hX hbl hbA hS hl 1 1 (by decide) v1 e1 dL_law_641 dL_law_642 dL_law_643 dL_law_644 dL_law_645 ?_
      refine nwVP (As := [.int (nI k)]) (rest := []) (c_X4_save_new l G γ α (β 0) (π 0) (κ 0) (η 0) ς (ringOf S) σ k tb hin0 hk (ringOf_no hq) hfo) sT.blind hF (cwV 1 hts gL_law_X4_save rfl rfl rfl (by decide +kernel) ⟨Nat.le_of_ble_eq_true rfl, Nat.le_of_ble_eq_true rfl⟩) (va_recv hK.1 hP (ci := 4) (q0 := 0) rfl rfl) hK hP hD hS hA pqW (fun U hU hW hF => hT.to hS hF hU hW) rfl hl.1 rfl (Nat.le_of_ble_eq_true rfl) dL_law_646 hfn (fun w1 H locs hB hP hD hS => ?_)
      obtain ⟨δ, rfl⟩ := hB
      obtain ⟨μ', e5, k5, m1, m2, m3, m4, m5⟩ := p_save hR hSI hk δ
      have hy := xS_up G.2.1 S hk (δ, σ)
      rw [hq] at hy
      have hy : (dW G.2.1 δ σ ++ xS G.2.1 S).Perm (xS G.2.1 (va_up S k (some (δ, σ)))) := hy
      rw [like_id] at hP hD
      have hP := hP.perm (pqW2 hy)
      have hD := hD.perm (pqW2 hy)
      rw [← show ringOf (va_up S k (some (δ, σ))) = va_up (ringOf S) k (some (δ 0)) from ringOf_up _ _ _] at hP hD
      have hP : va_P G.1 vwCl (cW G γ α β π κ η ς ρ ϖ σ τ R (va_up S k (some (δ, σ))) o n ++ mW G.2.1 ν μ) H := hP
      have hD : va_D A (cW G γ α β π κ η ς ρ ϖ σ τ R (va_up S k (some (δ, σ))) o n ++ mW G.2.1 ν μ) := hD
      refine lv_aload_n hx hb dL_law_649 rfl (lv_at hl 2 rfl) ?_
      refine ldA hx hb hX hbl hbA hS hl 1 1 (by decide) v1 e1 dL_law_650 dL_law_651 dL_law_652 dL_law_653 dL_law_654 ?_
      refine wrVR (As := [.int (nI k)]) (rest := [.int (s_X0_filledOn σ 0 16)]) (c_X5_save l G ν μ (nI k) k5) hF (cwV 1 hts gL_law_X5_save rfl rfl rfl (by decide +kernel) ⟨Nat.le_of_ble_eq_true rfl, Nat.le_of_ble_eq_true rfl⟩) (va_recv hK.1 (va_PR hP) (ci := 5) (q0 := 0) rfl rfl) hK hP hD hS (fst_M _ _) rfl hl.1 rfl (Nat.le_of_ble_eq_true rfl) dL_law_655 hfn (fun H locs hP hD hS => ?_)
      rw [e5] at hP hD
      refine lv_icmp_eq (tgt := 686) hx hb dL_law_658 (by decide) (fun _ => ?_) (fun h9 => absurd (show s_X0_filledOn σ 0 16 = (s_X5_save μ (nI k)).1 from by rw [e5]) h9)
      have hLI : LIw G γ (ν 0) (cW G γ α β π κ η ς ρ ϖ σ τ R (va_up S k (some (δ, σ))) o n ++ mW G.2.1 ν μ') := ⟨_, _, _, _, _, _, _, _, _, _, _, _, _, _, _, _, rfl, rfl, (by rw [m1]; exact hR), hH.mv m2, m5, hPI.of m3 m4⟩
      exact kk _ _ _ hLI hP hD hS
    | some x =>
      obtain ⟨δ, τ0⟩ := x
      obtain ⟨μ', e5, k5, m1, m2, m3, m4, m5⟩ := p_save hR hSI hk δ
      have hy := xS_up G.2.1 S hk (δ, σ)
      obtain ⟨z, hz⟩ := xS_out G.2.1 S hk
      rw [hq] at hy hz
      have hz : (xS G.2.1 S).Perm (dW G.2.1 δ τ0 ++ z) := hz
      have hy : (dW G.2.1 δ σ ++ xS G.2.1 S).Perm (dW G.2.1 δ τ0 ++ xS G.2.1 (va_up S k (some (δ, σ)))) := hy
      have cS := c_X4_save_old l G γ α δ (β 0) (π 0) (κ 0) (η 0) ς (ringOf S) σ τ0 k hk (ringOf_of hq) hfo
      rw [like_id] at cS
      refine lv_aload_n hx hb dL_law_640 rfl (lv_at hl 1 rfl) ?_
      refine ldA hx hb hX hbl hbA hS hl 1 1 (by decide) v1 e1 dL_law_641 dL_law_642 dL_law_643 dL_law_644 dL_law_645 ?_
      refine wrVP (As := [.int (nI k)]) (rest := []) cS hF (cwV 1 hts gL_law_X4_save rfl rfl rfl (by decide +kernel) ⟨Nat.le_of_ble_eq_true rfl, Nat.le_of_ble_eq_true rfl⟩) (va_recv hK.1 hP (ci := 4) (q0 := 0) rfl rfl) hK hP hD hS (pqV hz) (pqV2 hz hy) (fst_app fst_G (fst_app rfl (fst_app rfl (fst_D _ _)))) rfl hl.1 rfl (Nat.le_of_ble_eq_true rfl) dL_law_646 hfr (fun H locs hP hD hS => ?_)
      rw [← ringOf_same (x := (δ, σ)) (ringOf_of hq)] at hP hD
      have hP : va_P G.1 vwCl (cW G γ α β π κ η ς ρ ϖ σ τ R (va_up S k (some (δ, σ))) o n ++ mW G.2.1 ν μ) H := hP
      have hD : va_D A (cW G γ α β π κ η ς ρ ϖ σ τ R (va_up S k (some (δ, σ))) o n ++ mW G.2.1 ν μ) := hD
      refine lv_aload_n hx hb dL_law_649 rfl (lv_at hl 2 rfl) ?_
      refine ldA hx hb hX hbl hbA hS hl 1 1 (by decide) v1 e1 dL_law_650 dL_law_651 dL_law_652 dL_law_653 dL_law_654 ?_
      refine wrVR (As := [.int (nI k)]) (rest := [.int (s_X0_filledOn σ 0 16)]) (c_X5_save l G ν μ (nI k) k5) hF (cwV 1 hts gL_law_X5_save rfl rfl rfl (by decide +kernel) ⟨Nat.le_of_ble_eq_true rfl, Nat.le_of_ble_eq_true rfl⟩) (va_recv hK.1 (va_PR hP) (ci := 5) (q0 := 0) rfl rfl) hK hP hD hS (fst_M _ _) rfl hl.1 rfl (Nat.le_of_ble_eq_true rfl) dL_law_655 hfr (fun H locs hP hD hS => ?_)
      rw [e5] at hP hD
      refine lv_icmp_eq (tgt := 686) hx hb dL_law_658 (by decide) (fun _ => ?_) (fun h9 => absurd (show s_X0_filledOn σ 0 16 = (s_X5_save μ (nI k)).1 from by rw [e5]) h9)
      have hLI : LIw G γ (ν 0) (cW G γ α β π κ η ς ρ ϖ σ τ R (va_up S k (some (δ, σ))) o n ++ mW G.2.1 ν μ') := ⟨_, _, _, _, _, _, _, _, _, _, _, _, _, _, _, _, rfl, rfl, (by rw [m1]; exact hR), hH.mv m2, m5, hPI.of m3 m4⟩
      exact W.widen (k := cells + 6) (n := slots + 818) (Nat.le_add_right _ _) (Nat.le_add_right _ _) (kk _ _ _ hLI hP hD hS)
