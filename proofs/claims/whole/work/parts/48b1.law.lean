set_option maxHeartbeats 4000000 in
set_option maxRecDepth 100000 in
theorem cs_fault {p : Program} {e : Env} {s : State} {m : MethodId} {below : List Frame} {meth : Method} {c : Code} {H : Heap} {locs : List Loc} {cells slots : Nat} {Q : State → Prop} {b L j γ μ0 : Nat} {xs : Nat → Int32} {A : Nat → Prop} {ls : Array Slot} {W0 : va_W} {tb : Nat × Nat × Nat} (l : Launch) (G : GG) (C0 : lw_At p s m meth c b L xs) (hK : cK G s) (hT : sT tb A s) (hA : ∀ q, s.heap.size ≤ q → A q) (hbA : ¬ A b) (hL : L ≤ 1536) (hj : j + 3 ≤ L) (hLI : LIw G γ μ0 W0) (hP : va_P G.1 vwCl W0 H) (hD : va_D A W0) (hS : va_S A s.heap H locs) (hf1 : cells + 6 ≤ 600000) (hf2 : slots + 818 ≤ 7302250) (hl : lv_has ls 4 [(0, .ref b), (1, .ref γ), (2, .ref μ0), (3, .int (nI j))])
    (kk : ∀ (W1 : va_W) (H1 : Heap) (locs1 : List Loc), LIw G γ μ0 W1 → va_P G.1 vwCl W1 H1 → va_D A W1 → va_S A s.heap H1 locs1 → W p l e room_1 s m #[.ref b] below meth c H1 locs1 (cells + 6) (slots + 818) Q (F0 m 686 ls [])) : W p l e room_1 s m #[.ref b] below meth c H locs cells slots Q (F0 m 614 ls []) := by
  obtain ⟨hx, hb, hr, hml, hown, hts, hX, hbl, hlocks, hgv⟩ := id C0
  have hF : CallFix p m c cL_law 4 s #[.ref b] lw_tbl RL := ⟨hx, hb, hml, hown, hts⟩
  obtain ⟨α, β, π, κ, η, ς, ρ, ϖ, σ, τ, R, S, o, n, ν, μ, rfl, rfl, hR, hH, hSI, hPI⟩ := hLI
  have hfr : cells ≤ room_1.cells ∧ slots ≤ room_1.slots := ⟨show cells ≤ 600000 from by omega, show slots ≤ 7302250 from by omega⟩
  have hfn : cells + 6 ≤ room_1.cells ∧ slots + 818 ≤ room_1.slots := ⟨hf1, hf2⟩
  obtain ⟨x1, e1⟩ : ∃ x, xs (nI j + 1).toNatClampNeg = x := ⟨_, rfl⟩
  obtain ⟨x2, e2⟩ : ∃ x, xs (nI j + 2).toNatClampNeg = x := ⟨_, rfl⟩
  have v1 : vp_in (nI j + 1) L := vin (k := 1) hL (by omega) 1 rfl
  have v2 : vp_in (nI j + 2) L := vin (k := 2) hL (by omega) 2 rfl
  have hin0 := newD.2
  obtain ⟨⟨c1, c2, c3, c4⟩, k5, k4⟩ := p_fault hR hPI ρ τ (ringOf R, nI o, nI n)
  refine lv_aload_n hx hb dL_law_614 rfl (lv_at hl 1 rfl) ?_
  refine wrVP (As := []) (rest := []) (c_X4_fault l G γ κ π α β η ς ρ ϖ σ τ (ringOf R, nI o, nI n) k4) hF (cwV 0 hts gL_law_X4_fault rfl rfl rfl (by decide +kernel) ⟨Nat.le_of_ble_eq_true rfl, Nat.le_of_ble_eq_true rfl⟩) (va_recv hK.1 hP (ci := 4) (q0 := 0) rfl rfl) hK hP hD hS pqF pqF.symm (fst_app fst_G (fst_app (fst_Q _ _) (fst_app (fst_P _ _) (fst_app (fst_D _ _) (fst_app (fst_D _ _) (fst_H _ _)))))) rfl hl.1 rfl (Nat.le_of_ble_eq_true rfl) dL_law_615 hfr (fun H locs hP hD hS => ?_)
  have hP : va_P G.1 vwCl (cW G γ α β π κ η ς ((s_X4_fault ρ ϖ σ τ (ringOf R, nI o, nI n)).2) ϖ σ τ R S o n ++ mW G.2.1 ν μ) H := hP
  have hD : va_D A (cW G γ α β π κ η ς ((s_X4_fault ρ ϖ σ τ (ringOf R, nI o, nI n)).2) ϖ σ τ R S o n ++ mW G.2.1 ν μ) := hD
  refine lv_aload_n hx hb dL_law_618 rfl (lv_at hl 2 rfl) ?_
  refine wrVR (As := []) (rest := [.int (s_X4_fault ρ ϖ σ τ (ringOf R, nI o, nI n)).1]) (c_X5_fault l G ν μ k5) hF (cwV 0 hts gL_law_X5_fault rfl rfl rfl (by decide +kernel) ⟨Nat.le_of_ble_eq_true rfl, Nat.le_of_ble_eq_true rfl⟩) (va_recv hK.1 (va_PR hP) (ci := 5) (q0 := 0) rfl rfl) hK hP hD hS (fst_M _ _) rfl hl.1 rfl (Nat.le_of_ble_eq_true rfl) dL_law_619 hfr (fun H locs hP hD hS => ?_)
  refine lv_icmp_eq (tgt := 686) hx hb dL_law_622 (by decide) (fun _ => ?_) (fun h9 => absurd c1.symm h9)
  have hLI : LIw G γ (ν 0) (cW G γ α β π κ η ς ((s_X4_fault ρ ϖ σ τ (ringOf R, nI o, nI n)).2) ϖ σ τ R S o n ++ mW G.2.1 ν (s_X5_fault μ).2) := ⟨_, _, _, _, _, _, _, _, _, _, _, _, _, _, _, _, rfl, rfl, c4, hH.mv c3, hSI.mv c2, hPI.mv c2⟩
  exact W.widen (k := cells + 6) (n := slots + 818) (Nat.le_add_right _ _) (Nat.le_add_right _ _) (kk _ _ _ hLI hP hD hS)
set_option maxHeartbeats 4000000 in
set_option maxRecDepth 100000 in
theorem cs_untilLost {p : Program} {e : Env} {s : State} {m : MethodId} {below : List Frame} {meth : Method} {c : Code} {H : Heap} {locs : List Loc} {cells slots : Nat} {Q : State → Prop} {b L j γ μ0 : Nat} {xs : Nat → Int32} {A : Nat → Prop} {ls : Array Slot} {W0 : va_W} {tb : Nat × Nat × Nat} (l : Launch) (G : GG) (C0 : lw_At p s m meth c b L xs) (hK : cK G s) (hT : sT tb A s) (hA : ∀ q, s.heap.size ≤ q → A q) (hbA : ¬ A b) (hL : L ≤ 1536) (hj : j + 3 ≤ L) (hLI : LIw G γ μ0 W0) (hP : va_P G.1 vwCl W0 H) (hD : va_D A W0) (hS : va_S A s.heap H locs) (hf1 : cells + 6 ≤ 600000) (hf2 : slots + 818 ≤ 7302250) (hl : lv_has ls 4 [(0, .ref b), (1, .ref γ), (2, .ref μ0), (3, .int (nI j))])
    (kk : ∀ (W1 : va_W) (H1 : Heap) (locs1 : List Loc), LIw G γ μ0 W1 → va_P G.1 vwCl W1 H1 → va_D A W1 → va_S A s.heap H1 locs1 → W p l e room_1 s m #[.ref b] below meth c H1 locs1 (cells + 6) (slots + 818) Q (F0 m 686 ls [])) : W p l e room_1 s m #[.ref b] below meth c H locs cells slots Q (F0 m 502 ls []) := by
  obtain ⟨hx, hb, hr, hml, hown, hts, hX, hbl, hlocks, hgv⟩ := id C0
  have hF : CallFix p m c cL_law 4 s #[.ref b] lw_tbl RL := ⟨hx, hb, hml, hown, hts⟩
  obtain ⟨α, β, π, κ, η, ς, ρ, ϖ, σ, τ, R, S, o, n, ν, μ, rfl, rfl, hR, hH, hSI, hPI⟩ := hLI
  have hfr : cells ≤ room_1.cells ∧ slots ≤ room_1.slots := ⟨show cells ≤ 600000 from by omega, show slots ≤ 7302250 from by omega⟩
  have hfn : cells + 6 ≤ room_1.cells ∧ slots + 818 ≤ room_1.slots := ⟨hf1, hf2⟩
  obtain ⟨x1, e1⟩ : ∃ x, xs (nI j + 1).toNatClampNeg = x := ⟨_, rfl⟩
  obtain ⟨x2, e2⟩ : ∃ x, xs (nI j + 2).toNatClampNeg = x := ⟨_, rfl⟩
  have v1 : vp_in (nI j + 1) L := vin (k := 1) hL (by omega) 1 rfl
  have v2 : vp_in (nI j + 2) L := vin (k := 2) hL (by omega) 2 rfl
  have hin0 := newD.2
  obtain ⟨⟨c1, c2, c3, c4⟩, k5, k4⟩ := p_untilLost hR ρ ϖ τ (ringOf R, nI o, nI n) x1 x2
  refine lv_aload_n hx hb dL_law_502 rfl (lv_at hl 1 rfl) ?_
  refine ldA hx hb hX hbl hbA hS hl 1 1 (by decide) v1 e1 dL_law_503 dL_law_504 dL_law_505 dL_law_506 dL_law_507 ?_
  refine ldA hx hb hX hbl hbA hS hl 2 2 (by decide) v2 e2 dL_law_508 dL_law_509 dL_law_510 dL_law_511 dL_law_512 ?_
  refine wrVP (As := [.int x1, .int x2]) (rest := []) (c_X4_untilLost l G γ κ π α β η ς ρ ϖ σ τ (ringOf R, nI o, nI n) x1 x2 k4) hF (cwV 2 hts gL_law_X4_untilLost rfl rfl rfl (by decide +kernel) ⟨Nat.le_of_ble_eq_true rfl, Nat.le_of_ble_eq_true rfl⟩) (va_recv hK.1 hP (ci := 4) (q0 := 0) rfl rfl) hK hP hD hS pqF pqF.symm (fst_app fst_G (fst_app (fst_Q _ _) (fst_app (fst_P _ _) (fst_app (fst_D _ _) (fst_app (fst_D _ _) (fst_H _ _)))))) rfl hl.1 rfl (Nat.le_of_ble_eq_true rfl) dL_law_513 hfr (fun H locs hP hD hS => ?_)
  have hP : va_P G.1 vwCl (cW G γ α β π κ η ς ρ ϖ σ ((s_X4_untilLost ρ ϖ σ τ (ringOf R, nI o, nI n) x1 x2).2) R S o n ++ mW G.2.1 ν μ) H := hP
  have hD : va_D A (cW G γ α β π κ η ς ρ ϖ σ ((s_X4_untilLost ρ ϖ σ τ (ringOf R, nI o, nI n) x1 x2).2) R S o n ++ mW G.2.1 ν μ) := hD
  refine lv_aload_n hx hb dL_law_516 rfl (lv_at hl 2 rfl) ?_
  refine ldA hx hb hX hbl hbA hS hl 1 1 (by decide) v1 e1 dL_law_517 dL_law_518 dL_law_519 dL_law_520 dL_law_521 ?_
  refine ldA hx hb hX hbl hbA hS hl 2 2 (by decide) v2 e2 dL_law_522 dL_law_523 dL_law_524 dL_law_525 dL_law_526 ?_
  refine wrVR (As := [.int x1, .int x2]) (rest := [.int (s_X4_untilLost ρ ϖ σ τ (ringOf R, nI o, nI n) x1 x2).1]) (c_X5_untilLost l G ν μ x1 x2 k5) hF (cwV 2 hts gL_law_X5_untilLost rfl rfl rfl (by decide +kernel) ⟨Nat.le_of_ble_eq_true rfl, Nat.le_of_ble_eq_true rfl⟩) (va_recv hK.1 (va_PR hP) (ci := 5) (q0 := 0) rfl rfl) hK hP hD hS (fst_M _ _) rfl hl.1 rfl (Nat.le_of_ble_eq_true rfl) dL_law_527 hfr (fun H locs hP hD hS => ?_)
  refine lv_icmp_eq (tgt := 686) hx hb dL_law_530 (by decide) (fun _ => ?_) (fun h9 => absurd c1.symm h9)
  have hLI : LIw G γ (ν 0) (cW G γ α β π κ η ς ρ ϖ σ ((s_X4_untilLost ρ ϖ σ τ (ringOf R, nI o, nI n) x1 x2).2) R S o n ++ mW G.2.1 ν (s_X5_untilLost μ x1 x2).2) := ⟨_, _, _, _, _, _, _, _, _, _, _, _, _, _, _, _, rfl, rfl, c4, hH.mv c3, hSI.mv c2, hPI.mv c2⟩
  exact W.widen (k := cells + 6) (n := slots + 818) (Nat.le_add_right _ _) (Nat.le_add_right _ _) (kk _ _ _ hLI hP hD hS)
set_option maxHeartbeats 4000000 in
set_option maxRecDepth 100000 in
theorem cs_ifRun {p : Program} {e : Env} {s : State} {m : MethodId} {below : List Frame} {meth : Method} {c : Code} {H : Heap} {locs : List Loc} {cells slots : Nat} {Q : State → Prop} {b L j γ μ0 : Nat} {xs : Nat → Int32} {A : Nat → Prop} {ls : Array Slot} {W0 : va_W} {tb : Nat × Nat × Nat} (l : Launch) (G : GG) (C0 : lw_At p s m meth c b L xs) (hK : cK G s) (hT : sT tb A s) (hA : ∀ q, s.heap.size ≤ q → A q) (hbA : ¬ A b) (hL : L ≤ 1536) (hj : j + 3 ≤ L) (hLI : LIw G γ μ0 W0) (hP : va_P G.1 vwCl W0 H) (hD : va_D A W0) (hS : va_S A s.heap H locs) (hf1 : cells + 6 ≤ 600000) (hf2 : slots + 818 ≤ 7302250) (hl : lv_has ls 4 [(0, .ref b), (1, .ref γ), (2, .ref μ0), (3, .int (nI j))])
    (kk : ∀ (W1 : va_W) (H1 : Heap) (locs1 : List Loc), LIw G γ μ0 W1 → va_P G.1 vwCl W1 H1 → va_D A W1 → va_S A s.heap H1 locs1 → W p l e room_1 s m #[.ref b] below meth c H1 locs1 (cells + 6) (slots + 818) Q (F0 m 686 ls [])) : W p l e room_1 s m #[.ref b] below meth c H locs cells slots Q (F0 m 463 ls []) := by
  obtain ⟨hx, hb, hr, hml, hown, hts, hX, hbl, hlocks, hgv⟩ := id C0
  have hF : CallFix p m c cL_law 4 s #[.ref b] lw_tbl RL := ⟨hx, hb, hml, hown, hts⟩
  obtain ⟨α, β, π, κ, η, ς, ρ, ϖ, σ, τ, R, S, o, n, ν, μ, rfl, rfl, hR, hH, hSI, hPI⟩ := hLI
  have hfr : cells ≤ room_1.cells ∧ slots ≤ room_1.slots := ⟨show cells ≤ 600000 from by omega, show slots ≤ 7302250 from by omega⟩
  have hfn : cells + 6 ≤ room_1.cells ∧ slots + 818 ≤ room_1.slots := ⟨hf1, hf2⟩
  obtain ⟨x1, e1⟩ : ∃ x, xs (nI j + 1).toNatClampNeg = x := ⟨_, rfl⟩
  obtain ⟨x2, e2⟩ : ∃ x, xs (nI j + 2).toNatClampNeg = x := ⟨_, rfl⟩
  have v1 : vp_in (nI j + 1) L := vin (k := 1) hL (by omega) 1 rfl
  have v2 : vp_in (nI j + 2) L := vin (k := 2) hL (by omega) 2 rfl
  have hin0 := newD.2
  obtain ⟨⟨c1, c2, c3, c4⟩, k5, k4⟩ := p_ifRun hR hPI ρ τ (ringOf R, nI o, nI n) (bz x1)
  refine lv_aload_n hx hb dL_law_463 rfl (lv_at hl 1 rfl) ?_
  refine ldA hx hb hX hbl hbA hS hl 1 1 (by decide) v1 e1 dL_law_464 dL_law_465 dL_law_466 dL_law_467 dL_law_468 ?_
  refine boolA hx hb dL_law_469 dL_law_472 dL_law_473 dL_law_476 ?_
  refine wrVP (As := [.int (bz x1)]) (rest := []) (c_X4_ifRun l G γ κ π α β η ς ρ ϖ σ τ (ringOf R, nI o, nI n) (bz x1) k4) hF (cwV 1 hts gL_law_X4_ifRun rfl rfl rfl (by decide +kernel) ⟨Nat.le_of_ble_eq_true rfl, Nat.le_of_ble_eq_true rfl⟩) (va_recv hK.1 hP (ci := 4) (q0 := 0) rfl rfl) hK hP hD hS pqF pqF.symm (fst_app fst_G (fst_app (fst_Q _ _) (fst_app (fst_P _ _) (fst_app (fst_D _ _) (fst_app (fst_D _ _) (fst_H _ _)))))) rfl hl.1 rfl (Nat.le_of_ble_eq_true rfl) dL_law_477 hfr (fun H locs hP hD hS => ?_)
  have hP : va_P G.1 vwCl (cW G γ α β π κ η ς ((s_X4_ifRun ρ ϖ σ τ (ringOf R, nI o, nI n) (bz x1)).2.1) ϖ σ ((s_X4_ifRun ρ ϖ σ τ (ringOf R, nI o, nI n) (bz x1)).2.2) R S o n ++ mW G.2.1 ν μ) H := hP
  have hD : va_D A (cW G γ α β π κ η ς ((s_X4_ifRun ρ ϖ σ τ (ringOf R, nI o, nI n) (bz x1)).2.1) ϖ σ ((s_X4_ifRun ρ ϖ σ τ (ringOf R, nI o, nI n) (bz x1)).2.2) R S o n ++ mW G.2.1 ν μ) := hD
  refine lv_aload_n hx hb dL_law_480 rfl (lv_at hl 2 rfl) ?_
  refine ldA hx hb hX hbl hbA hS hl 1 1 (by decide) v1 e1 dL_law_481 dL_law_482 dL_law_483 dL_law_484 dL_law_485 ?_
  refine boolA hx hb dL_law_486 dL_law_489 dL_law_490 dL_law_493 ?_
  refine wrVR (As := [.int (bz x1)]) (rest := [.int (s_X4_ifRun ρ ϖ σ τ (ringOf R, nI o, nI n) (bz x1)).1]) (c_X5_ifRun l G ν μ (bz x1) k5) hF (cwV 1 hts gL_law_X5_ifRun rfl rfl rfl (by decide +kernel) ⟨Nat.le_of_ble_eq_true rfl, Nat.le_of_ble_eq_true rfl⟩) (va_recv hK.1 (va_PR hP) (ci := 5) (q0 := 0) rfl rfl) hK hP hD hS (fst_M _ _) rfl hl.1 rfl (Nat.le_of_ble_eq_true rfl) dL_law_494 hfr (fun H locs hP hD hS => ?_)
  refine lv_icmp_eq (tgt := 686) hx hb dL_law_497 (by decide) (fun _ => ?_) (fun h9 => absurd c1.symm h9)
  have hLI : LIw G γ (ν 0) (cW G γ α β π κ η ς ((s_X4_ifRun ρ ϖ σ τ (ringOf R, nI o, nI n) (bz x1)).2.1) ϖ σ ((s_X4_ifRun ρ ϖ σ τ (ringOf R, nI o, nI n) (bz x1)).2.2) R S o n ++ mW G.2.1 ν (s_X5_ifRun μ (bz x1)).2) := ⟨_, _, _, _, _, _, _, _, _, _, _, _, _, _, _, _, rfl, rfl, c4, hH.mv c3, hSI.mv c2, hPI.mv c2⟩
  exact W.widen (k := cells + 6) (n := slots + 818) (Nat.le_add_right _ _) (Nat.le_add_right _ _) (kk _ _ _ hLI hP hD hS)
