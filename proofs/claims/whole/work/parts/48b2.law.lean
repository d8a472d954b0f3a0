set_option maxHeartbeats 4000000 in
set_option maxRecDepth 100000 in
theorem cs_put {p : Program} {e : Env} {s : State} {m : MethodId} {below : List Frame} {meth : Method} {c : Code} {H : Heap} {locs : List Loc} {cells slots : Nat} {Q : State → Prop} {b L j γ μ0 : Nat} {xs : Nat → Int32} {A : Nat → Prop} {ls : Array Slot} {W0 : va_W} {tb : Nat × Nat × Nat} (l : Launch) (G : GG) (C0 : lw_At p s m meth c b L xs) (hK : cK G s) (hT : sT tb A s) (hA : ∀ q, s.heap.size ≤ q → A q) (hbA : ¬ A b) (hL : L ≤ 1536) (hj : j + 3 ≤ L) (hLI : LIw G γ μ0 W0) (hP : va_P G.1 vwCl W0 H) (hD : va_D A W0) (hS : va_S A s.heap H locs) (hf1 : cells + 6 ≤ 600000) (hf2 : slots + 818 ≤ 7302250) (hl : lv_has ls 4 [(0, .ref b), (1, .ref γ), (2, .ref μ0), (3, .int (nI j))])
    (kk : ∀ (W1 : va_W) (H1 : Heap) (locs1 : List Loc), LIw G γ μ0 W1 → va_P G.1 vwCl W1 H1 → va_D A W1 → va_S A s.heap H1 locs1 → W p l e room_1 s m #[.ref b] below meth c H1 locs1 (cells + 6) (slots + 818) Q (F0 m 686 ls [])) : W p l e room_1 s m #[.ref b] below meth c H locs cells slots Q (F0 m 548 ls []) := by
  obtain ⟨hx, hb, hr, hml, hown, hts, hX, hbl, hlocks, hgv⟩ := id C0
  have hF : CallFix p m c cL_law 4 s #[.ref b] lw_tbl RL := ⟨hx, hb, hml, hown, hts⟩
  obtain ⟨α, β, π, κ, η, ς, ρ, ϖ, σ, τ, R, S, o, n, ν, μ, rfl, rfl, hR, hH, hSI, hPI⟩ := hLI
  have hfr : cells ≤ room_1.cells ∧ slots ≤ room_1.slots := ⟨show cells ≤ 600000 from by omega, show slots ≤ 7302250 from by omega⟩
  have hfn : cells + 6 ≤ room_1.cells ∧ slots + 818 ≤ room_1.slots := ⟨hf1, hf2⟩
  obtain ⟨x1, e1⟩ : ∃ x, xs (nI j + 1).toNatClampNeg = x := ⟨_, rfl⟩
  obtain ⟨x2, e2⟩ : ∃ x, xs (nI j + 2).toNatClampNeg = x := ⟨_, rfl⟩
  have v1 : vp_in (nI j + 1) L := vin (k := 1) hL (by omega) 1 rfl
  have v2 : vp_in (nI j + 2) L := vin (k := 2) hL (by omega) 2 rfl
  have hin0 := newD.2
  obtain ⟨c1, cP, ⟨f1, f2, f3, f4, f5⟩, k5, k4⟩ := p_put hPI ρ σ τ (ringOf R, nI o, nI n) (pl x1 x2)
  refine lv_aload_n hx hb dL_law_548 rfl (lv_at hl 1 rfl) ?_
  refine ldA hx hb hX hbl hbA hS hl 1 1 (by decide) v1 e1 dL_law_549 dL_law_550 dL_law_551 dL_law_552 dL_law_553 ?_
  refine lv_i2l (v := x1.toInt64) hx hb dL_law_554 rfl ?_
  refine lv_bipush (v := 32) hx hb dL_law_555 (by decide) ?_
  refine lv_lshl (v := x1.toInt64 <<< ((32 : Int32).toInt64 &&& 63)) hx hb dL_law_557 rfl ?_
  refine ldA hx hb hX hbl hbA hS hl 2 2 (by decide) v2 e2 dL_law_558 dL_law_559 dL_law_560 dL_law_561 dL_law_562 ?_
  refine lv_i2l (v := x2.toInt64) hx hb dL_law_563 rfl ?_
  refine lv_ldc2 (v := 4294967295) hx hb hown (hts _ wm_633) dL_law_564 ?_
  refine lv_land hx hb dL_law_567 ?_
  refine lv_lor hx hb dL_law_568 ?_
  refine wrVP (As := [.long (pl x1 x2)]) (rest := []) (c_X4_put l G γ κ π α β η ς ρ ϖ σ τ (ringOf R, nI o, nI n) (pl x1 x2) k4) hF (cwV 1 hts gL_law_X4_put rfl rfl rfl (by decide +kernel) ⟨Nat.le_of_ble_eq_true rfl, Nat.le_of_ble_eq_true rfl⟩) (va_recv hK.1 hP (ci := 4) (q0 := 0) rfl rfl) hK hP hD hS pqF pqF.symm (fst_app fst_G (fst_app (fst_Q _ _) (fst_app (fst_P _ _) (fst_app (fst_D _ _) (fst_app (fst_D _ _) (fst_H _ _)))))) rfl hl.1 rfl (Nat.le_of_ble_eq_true rfl) dL_law_569 hfr (fun H locs hP hD hS => ?_)
  have hP : va_P G.1 vwCl (cW G γ α β π κ η ς ρ ((s_X4_put ρ ϖ σ τ (ringOf R, nI o, nI n) (pl x1 x2)).2) σ τ R S o n ++ mW G.2.1 ν μ) H := hP
  have hD : va_D A (cW G γ α β π κ η ς ρ ((s_X4_put ρ ϖ σ τ (ringOf R, nI o, nI n) (pl x1 x2)).2) σ τ R S o n ++ mW G.2.1 ν μ) := hD
  refine lv_aload_n hx hb dL_law_572 rfl (lv_at hl 2 rfl) ?_
  refine ldA hx hb hX hbl hbA hS hl 1 1 (by decide) v1 e1 dL_law_573 dL_law_574 dL_law_575 dL_law_576 dL_law_577 ?_
  refine lv_i2l (v := x1.toInt64) hx hb dL_law_578 rfl ?_
  refine lv_bipush (v := 32) hx hb dL_law_579 (by decide) ?_
  refine lv_lshl (v := x1.toInt64 <<< ((32 : Int32).toInt64 &&& 63)) hx hb dL_law_581 rfl ?_
  refine ldA hx hb hX hbl hbA hS hl 2 2 (by decide) v2 e2 dL_law_582 dL_law_583 dL_law_584 dL_law_585 dL_law_586 ?_
  refine lv_i2l (v := x2.toInt64) hx hb dL_law_587 rfl ?_
  refine lv_ldc2 (v := 4294967295) hx hb hown (hts _ wm_633) dL_law_588 ?_
  refine lv_land hx hb dL_law_591 ?_
  refine lv_lor hx hb dL_law_592 ?_
  refine wrVR (As := [.long (pl x1 x2)]) (rest := [.int (s_X4_put ρ ϖ σ τ (ringOf R, nI o, nI n) (pl x1 x2)).1]) (c_X5_put l G ν μ (pl x1 x2) k5) hF (cwV 1 hts gL_law_X5_put rfl rfl rfl (by decide +kernel) ⟨Nat.le_of_ble_eq_true rfl, Nat.le_of_ble_eq_true rfl⟩) (va_recv hK.1 (va_PR hP) (ci := 5) (q0 := 0) rfl rfl) hK hP hD hS (fst_M _ _) rfl hl.1 rfl (Nat.le_of_ble_eq_true rfl) dL_law_593 hfr (fun H locs hP hD hS => ?_)
  refine lv_icmp_eq (tgt := 686) hx hb dL_law_596 (by decide) (fun _ => ?_) (fun h9 => absurd c1.symm h9)
  have hLI : LIw G γ (ν 0) (cW G γ α β π κ η ς ρ ((s_X4_put ρ ϖ σ τ (ringOf R, nI o, nI n) (pl x1 x2)).2) σ τ R S o n ++ mW G.2.1 ν (s_X5_put μ (pl x1 x2)).2) := ⟨_, _, _, _, _, _, _, _, _, _, _, _, _, _, _, _, rfl, rfl, (by rw [f1]; exact hR), hH.mv ⟨f2, f3⟩, hSI.of f4 f5, cP⟩
  exact W.widen (k := cells + 6) (n := slots + 818) (Nat.le_add_right _ _) (Nat.le_add_right _ _) (kk _ _ _ hLI hP hD hS)
