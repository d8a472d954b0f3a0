/-! the law's cases: each call on both sides, the answers equal, the invariant kept -/
theorem SI.of {S : Nat → Option XD} {μ μ' : MS} (h : SI S μ) (h1 : m_sl μ' = m_sl μ) (h2 : m_sv μ' = m_sv μ) : SI S μ' := by
  unfold SI
  rw [h1, h2]
  exact h
theorem PI.of {ϖ : PS} {μ μ' : MS} (h : PI ϖ μ) (h1 : m_tx μ' = m_tx μ) (h2 : m_tl μ' = m_tl μ) : PI ϖ μ' := by
  unfold PI
  rw [h1, h2]
  exact h
theorem ringOf_no {R : Nat → Option XD} {k : Nat} (h : R k = none) : ringOf R k = none := by
  unfold ringOf
  rw [h]
  rfl
theorem ringOf_same {S : Nat → Option XD} {k : Nat} {x : XD} (h : ringOf S k = some (x.1 0)) : ringOf (va_up S k (some x)) = ringOf S := by
  rw [ringOf_up]
  funext q
  by_cases hq : q = k
  · subst hq
    rw [va_up_self]
    exact h.symm
  · rw [va_up_ne _ _ hq]
set_option maxHeartbeats 4000000 in
set_option maxRecDepth 100000 in
theorem cs_sector {p : Program} {e : Env} {s : State} {m : MethodId} {below : List Frame} {meth : Method} {c : Code} {H : Heap} {locs : List Loc} {cells slots : Nat} {Q : State → Prop} {b L j γ μ0 : Nat} {xs : Nat → Int32} {A : Nat → Prop} {ls : Array Slot} {W0 : va_W} {tb : Nat × Nat × Nat} (l : Launch) (G : GG) (C0 : lw_At p s m meth c b L xs) (hK : cK G s) (hT : sT tb A s) (hA : ∀ q, s.heap.size ≤ q → A q) (hbA : ¬ A b) (hL : L ≤ 1536) (hj : j + 3 ≤ L) (hLI : LIw G γ μ0 W0) (hP : va_P G.1 vwCl W0 H) (hD : va_D A W0) (hS : va_S A s.heap H locs) (hf1 : cells + 6 ≤ 600000) (hf2 : slots + 818 ≤ 7302250) (hl : lv_has ls 4 [(0, .ref b), (1, .ref γ), (2, .ref μ0), (3, .int (nI j))])
    (kk : ∀ (W1 : va_W) (H1 : Heap) (locs1 : List Loc), LIw G γ μ0 W1 → va_P G.1 vwCl W1 H1 → va_D A W1 → va_S A s.heap H1 locs1 → W p l e room_1 s m #[.ref b] below meth c H1 locs1 (cells + 6) (slots + 818) Q (F0 m 686 ls [])) : W p l e room_1 s m #[.ref b] below meth c H locs cells slots Q (F0 m 325 ls []) := by
  obtain ⟨hx, hb, hr, hml, hown, hts, hX, hbl, hlocks, hgv⟩ := id C0
  have hF : CallFix p m c cL_law 4 s #[.ref b] lw_tbl RL := ⟨hx, hb, hml, hown, hts⟩
  obtain ⟨α, β, π, κ, η, ς, ρ, ϖ, σ, τ, R, S, o, n, ν, μ, rfl, rfl, hR, hH, hSI, hPI⟩ := hLI
  have hfr : cells ≤ room_1.cells ∧ slots ≤ room_1.slots := ⟨show cells ≤ 600000 from by omega, show slots ≤ 7302250 from by omega⟩
  have hfn : cells + 6 ≤ room_1.cells ∧ slots + 818 ≤ room_1.slots := ⟨hf1, hf2⟩
  obtain ⟨x1, e1⟩ : ∃ x, xs (nI j + 1).toNatClampNeg = x := ⟨_, rfl⟩
  obtain ⟨x2, e2⟩ : ∃ x, xs (nI j + 2).toNatClampNeg = x := ⟨_, rfl⟩
  have v1 : vp_in (nI j + 1) L := vin (k := 1) hL (by omega) 1 rfl
  have v2 : vp_in (nI j + 2) L := vin (k := 2) hL (by omega) 2 rfl
  have hin0 := newD.2
  obtain ⟨k1, k5⟩ := p_sector hR ρ ϖ τ (ringOf R, nI o, nI n) x1 x2
  refine lv_aload_n hx hb dL_law_325 rfl (lv_at hl 1 rfl) ?_
  refine ldA hx hb hX hbl hbA hS hl 1 1 (by decide) v1 e1 dL_law_326 dL_law_327 dL_law_328 dL_law_329 dL_law_330 ?_
  refine ldA hx hb hX hbl hbA hS hl 2 2 (by decide) v2 e2 dL_law_331 dL_law_332 dL_law_333 dL_law_334 dL_law_335 ?_
  refine rdV (As := [.int x1, .int x2]) (rest := []) (c_X4_sector l G γ κ π α β η ς ρ ϖ σ τ (ringOf R, nI o, nI n) x1 x2) hF (cwV 2 hts gL_law_X4_sector rfl rfl rfl (by decide +kernel) ⟨Nat.le_of_ble_eq_true rfl, Nat.le_of_ble_eq_true rfl⟩) (va_recv hK.1 hP (ci := 4) (q0 := 0) rfl rfl) hK (va_PL (hP.perm pqF)) rfl hl.1 rfl (Nat.le_of_ble_eq_true rfl) dL_law_336 hfr ?_
  refine lv_aload_n hx hb dL_law_339 rfl (lv_at hl 2 rfl) ?_
  refine ldA hx hb hX hbl hbA hS hl 1 1 (by decide) v1 e1 dL_law_340 dL_law_341 dL_law_342 dL_law_343 dL_law_344 ?_
  refine ldA hx hb hX hbl hbA hS hl 2 2 (by decide) v2 e2 dL_law_345 dL_law_346 dL_law_347 dL_law_348 dL_law_349 ?_
  refine rdV (As := [.int x1, .int x2]) (rest := [.int (s_X4_sector ρ ϖ σ τ (ringOf R, nI o, nI n) x1 x2)]) (c_X5_sector l G ν μ x1 x2 k5) hF (cwV 2 hts gL_law_X5_sector rfl rfl rfl (by decide +kernel) ⟨Nat.le_of_ble_eq_true rfl, Nat.le_of_ble_eq_true rfl⟩) (va_recv hK.1 (va_PR hP) (ci := 5) (q0 := 0) rfl rfl) hK (va_PR hP) rfl hl.1 rfl (Nat.le_of_ble_eq_true rfl) dL_law_350 hfr ?_
  refine lv_icmp_eq (tgt := 686) hx hb dL_law_353 (by decide) (fun _ => ?_) (fun h9 => absurd k1.symm h9)
  exact W.widen (k := cells + 6) (n := slots + 818) (Nat.le_add_right _ _) (Nat.le_add_right _ _) (kk _ _ _ ⟨_, _, _, _, _, _, _, _, _, _, _, _, _, _, _, _, rfl, rfl, hR, hH, hSI, hPI⟩ hP hD hS)
set_option maxHeartbeats 4000000 in
set_option maxRecDepth 100000 in
theorem cs_track {p : Program} {e : Env} {s : State} {m : MethodId} {below : List Frame} {meth : Method} {c : Code} {H : Heap} {locs : List Loc} {cells slots : Nat} {Q : State → Prop} {b L j γ μ0 : Nat} {xs : Nat → Int32} {A : Nat → Prop} {ls : Array Slot} {W0 : va_W} {tb : Nat × Nat × Nat} (l : Launch) (G : GG) (C0 : lw_At p s m meth c b L xs) (hK : cK G s) (hT : sT tb A s) (hA : ∀ q, s.heap.size ≤ q → A q) (hbA : ¬ A b) (hL : L ≤ 1536) (hj : j + 3 ≤ L) (hLI : LIw G γ μ0 W0) (hP : va_P G.1 vwCl W0 H) (hD : va_D A W0) (hS : va_S A s.heap H locs) (hf1 : cells + 6 ≤ 600000) (hf2 : slots + 818 ≤ 7302250) (hl : lv_has ls 4 [(0, .ref b), (1, .ref γ), (2, .ref μ0), (3, .int (nI j))])
    (kk : ∀ (W1 : va_W) (H1 : Heap) (locs1 : List Loc), LIw G γ μ0 W1 → va_P G.1 vwCl W1 H1 → va_D A W1 → va_S A s.heap H1 locs1 → W p l e room_1 s m #[.ref b] below meth c H1 locs1 (cells + 6) (slots + 818) Q (F0 m 686 ls [])) : W p l e room_1 s m #[.ref b] below meth c H locs cells slots Q (F0 m 358 ls []) := by
  obtain ⟨hx, hb, hr, hml, hown, hts, hX, hbl, hlocks, hgv⟩ := id C0
  have hF : CallFix p m c cL_law 4 s #[.ref b] lw_tbl RL := ⟨hx, hb, hml, hown, hts⟩
  obtain ⟨α, β, π, κ, η, ς, ρ, ϖ, σ, τ, R, S, o, n, ν, μ, rfl, rfl, hR, hH, hSI, hPI⟩ := hLI
  have hfr : cells ≤ room_1.cells ∧ slots ≤ room_1.slots := ⟨show cells ≤ 600000 from by omega, show slots ≤ 7302250 from by omega⟩
  have hfn : cells + 6 ≤ room_1.cells ∧ slots + 818 ≤ room_1.slots := ⟨hf1, hf2⟩
  obtain ⟨x1, e1⟩ : ∃ x, xs (nI j + 1).toNatClampNeg = x := ⟨_, rfl⟩
  obtain ⟨x2, e2⟩ : ∃ x, xs (nI j + 2).toNatClampNeg = x := ⟨_, rfl⟩
  have v1 : vp_in (nI j + 1) L := vin (k := 1) hL (by omega) 1 rfl
  have v2 : vp_in (nI j + 2) L := vin (k := 2) hL (by omega) 2 rfl
  have hin0 := newD.2
  obtain ⟨k1, k5, k4⟩ := p_track hR ρ ϖ τ (ringOf R, nI o, nI n) x1 x2
  refine lv_aload_n hx hb dL_law_358 rfl (lv_at hl 1 rfl) ?_
  refine ldA hx hb hX hbl hbA hS hl 1 1 (by decide) v1 e1 dL_law_359 dL_law_360 dL_law_361 dL_law_362 dL_law_363 ?_
  refine ldA hx hb hX hbl hbA hS hl 2 2 (by decide) v2 e2 dL_law_364 dL_law_365 dL_law_366 dL_law_367 dL_law_368 ?_
  refine rdV (As := [.int x1, .int x2]) (rest := []) (c_X4_track l G γ κ π α β η ς ρ ϖ σ τ (ringOf R, nI o, nI n) x1 x2 k4) hF (cwV 2 hts gL_law_X4_track rfl rfl rfl (by decide +kernel) ⟨Nat.le_of_ble_eq_true rfl, Nat.le_of_ble_eq_true rfl⟩) (va_recv hK.1 hP (ci := 4) (q0 := 0) rfl rfl) hK (va_PL (hP.perm pqF)) rfl hl.1 rfl (Nat.le_of_ble_eq_true rfl) dL_law_369 hfr ?_
  refine lv_aload_n hx hb dL_law_372 rfl (lv_at hl 2 rfl) ?_
  refine ldA hx hb hX hbl hbA hS hl 1 1 (by decide) v1 e1 dL_law_373 dL_law_374 dL_law_375 dL_law_376 dL_law_377 ?_
  refine ldA hx hb hX hbl hbA hS hl 2 2 (by decide) v2 e2 dL_law_378 dL_law_379 dL_law_380 dL_law_381 dL_law_382 ?_
  refine rdV (As := [.int x1, .int x2]) (rest := [.int (s_X4_track ρ ϖ σ τ (ringOf R, nI o, nI n) x1 x2)]) (c_X5_track l G ν μ x1 x2 k5) hF (cwV 2 hts gL_law_X5_track rfl rfl rfl (by decide +kernel) ⟨Nat.le_of_ble_eq_true rfl, Nat.le_of_ble_eq_true rfl⟩) (va_recv hK.1 (va_PR hP) (ci := 5) (q0 := 0) rfl rfl) hK (va_PR hP) rfl hl.1 rfl (Nat.le_of_ble_eq_true rfl) dL_law_383 hfr ?_
  refine lv_icmp_eq (tgt := 686) hx hb dL_law_386 (by decide) (fun _ => ?_) (fun h9 => absurd k1.symm h9)
  exact W.widen (k := cells + 6) (n := slots + 818) (Nat.le_add_right _ _) (Nat.le_add_right _ _) (kk _ _ _ ⟨_, _, _, _, _, _, _, _, _, _, _, _, _, _, _, _, rfl, rfl, hR, hH, hSI, hPI⟩ hP hD hS)
set_option maxHeartbeats 4000000 in
set_option maxRecDepth 100000 in
theorem cs_count {p : Program} {e : Env} {s : State} {m : MethodId} {below : List Frame} {meth : Method} {c : Code} {H : Heap} {locs : List Loc} {cells slots : Nat} {Q : State → Prop} {b L j γ μ0 : Nat} {xs : Nat → Int32} {A : Nat → Prop} {ls : Array Slot} {W0 : va_W} {tb : Nat × Nat × Nat} (l : Launch) (G : GG) (C0 : lw_At p s m meth c b L xs) (hK : cK G s) (hT : sT tb A s) (hA : ∀ q, s.heap.size ≤ q → A q) (hbA : ¬ A b) (hL : L ≤ 1536) (hj : j + 3 ≤ L) (hLI : LIw G γ μ0 W0) (hP : va_P G.1 vwCl W0 H) (hD : va_D A W0) (hS : va_S A s.heap H locs) (hf1 : cells + 6 ≤ 600000) (hf2 : slots + 818 ≤ 7302250) (hl : lv_has ls 4 [(0, .ref b), (1, .ref γ), (2, .ref μ0), (3, .int (nI j))])
    (kk : ∀ (W1 : va_W) (H1 : Heap) (locs1 : List Loc), LIw G γ μ0 W1 → va_P G.1 vwCl W1 H1 → va_D A W1 → va_S A s.heap H1 locs1 → W p l e room_1 s m #[.ref b] below meth c H1 locs1 (cells + 6) (slots + 818) Q (F0 m 686 ls [])) : W p l e room_1 s m #[.ref b] below meth c H locs cells slots Q (F0 m 391 ls []) := by
  obtain ⟨hx, hb, hr, hml, hown, hts, hX, hbl, hlocks, hgv⟩ := id C0
  have hF : CallFix p m c cL_law 4 s #[.ref b] lw_tbl RL := ⟨hx, hb, hml, hown, hts⟩
  obtain ⟨α, β, π, κ, η, ς, ρ, ϖ, σ, τ, R, S, o, n, ν, μ, rfl, rfl, hR, hH, hSI, hPI⟩ := hLI
  have hfr : cells ≤ room_1.cells ∧ slots ≤ room_1.slots := ⟨show cells ≤ 600000 from by omega, show slots ≤ 7302250 from by omega⟩
  have hfn : cells + 6 ≤ room_1.cells ∧ slots + 818 ≤ room_1.slots := ⟨hf1, hf2⟩
  obtain ⟨x1, e1⟩ : ∃ x, xs (nI j + 1).toNatClampNeg = x := ⟨_, rfl⟩
  obtain ⟨x2, e2⟩ : ∃ x, xs (nI j + 2).toNatClampNeg = x := ⟨_, rfl⟩
  have v1 : vp_in (nI j + 1) L := vin (k := 1) hL (by omega) 1 rfl
  have v2 : vp_in (nI j + 2) L := vin (k := 2) hL (by omega) 2 rfl
  have hin0 := newD.2
  have k1 := p_count hR hPI (hs := (ringOf R, nI o, nI n)) hH.2.2.1 ρ τ x1
  obtain ⟨k4, k5⟩ := cnt_ok hR ρ ϖ τ (ringOf R, nI o, nI n) x1
  refine lv_aload_n hx hb dL_law_391 rfl (lv_at hl 1 rfl) ?_
  refine ldA hx hb hX hbl hbA hS hl 1 1 (by decide) v1 e1 dL_law_392 dL_law_393 dL_law_394 dL_law_395 dL_law_396 ?_
  refine rd_go (va_runV (As := [.int x1]) (rest := []) hF (c_X4_count l G γ κ π α β η ς ρ ϖ σ τ (ringOf R, nI o, nI n) x1 tb k4) (cwV 1 hts gL_law_X4_count rfl rfl rfl (by decide +kernel) ⟨Nat.le_of_ble_eq_true rfl, Nat.le_of_ble_eq_true rfl⟩) ⟨PRT.blind sT.blind, (va_recv hK.1 hP (ci := 4) (q0 := 0) rfl rfl), fun U hU hW => ⟨rfl, by rw [hU]; exact va_PL (hP.perm pqF), hK.warm hW, hT.to hS (fun _ h => h.elim) hU hW⟩⟩ rfl rfl hl.1 rfl (lv_room (Nat.le_of_ble_eq_true rfl)) dL_law_397 hfr) ?_
  refine lv_aload_n hx hb dL_law_400 rfl (lv_at hl 2 rfl) ?_
  refine ldA hx hb hX hbl hbA hS hl 1 1 (by decide) v1 e1 dL_law_401 dL_law_402 dL_law_403 dL_law_404 dL_law_405 ?_
  refine rdV (As := [.int x1]) (rest := [.int (s_X4_count ρ ϖ σ τ (ringOf R, nI o, nI n) x1)]) (c_X5_count l G ν μ x1 k5) hF (cwV 1 hts gL_law_X5_count rfl rfl rfl (by decide +kernel) ⟨Nat.le_of_ble_eq_true rfl, Nat.le_of_ble_eq_true rfl⟩) (va_recv hK.1 (va_PR hP) (ci := 5) (q0 := 0) rfl rfl) hK (va_PR hP) rfl hl.1 rfl (Nat.le_of_ble_eq_true rfl) dL_law_406 hfr ?_
  refine lv_icmp_eq (tgt := 686) hx hb dL_law_409 (by decide) (fun _ => ?_) (fun h9 => absurd k1.symm h9)
  exact W.widen (k := cells + 6) (n := slots + 818) (Nat.le_add_right _ _) (Nat.le_add_right _ _) (kk _ _ _ ⟨_, _, _, _, _, _, _, _, _, _, _, _, _, _, _, _, rfl, rfl, hR, hH, hSI, hPI⟩ hP hD hS)
set_option maxHeartbeats 4000000 in
set_option maxRecDepth 100000 in
theorem cs_ticksFor {p : Program} {e : Env} {s : State} {m : MethodId} {below : List Frame} {meth : Method} {c : Code} {H : Heap} {locs : List Loc} {cells slots : Nat} {Q : State → Prop} {b L j γ μ0 : Nat} {xs : Nat → Int32} {A : Nat → Prop} {ls : Array Slot} {W0 : va_W} {tb : Nat × Nat × Nat} (l : Launch) (G : GG) (C0 : lw_At p s m meth c b L xs) (hK : cK G s) (hT : sT tb A s) (hA : ∀ q, s.heap.size ≤ q → A q) (hbA : ¬ A b) (hL : L ≤ 1536) (hj : j + 3 ≤ L) (hLI : LIw G γ μ0 W0) (hP : va_P G.1 vwCl W0 H) (hD : va_D A W0) (hS : va_S A s.heap H locs) (hf1 : cells + 6 ≤ 600000) (hf2 : slots + 818 ≤ 7302250) (hl : lv_has ls 4 [(0, .ref b), (1, .ref γ), (2, .ref μ0), (3, .int (nI j))])
    (kk : ∀ (W1 : va_W) (H1 : Heap) (locs1 : List Loc), LIw G γ μ0 W1 → va_P G.1 vwCl W1 H1 → va_D A W1 → va_S A s.heap H1 locs1 → W p l e room_1 s m #[.ref b] below meth c H1 locs1 (cells + 6) (slots + 818) Q (F0 m 686 ls [])) : W p l e room_1 s m #[.ref b] below meth c H locs cells slots Q (F0 m 414 ls []) := by
  obtain ⟨hx, hb, hr, hml, hown, hts, hX, hbl, hlocks, hgv⟩ := id C0
  have hF : CallFix p m c cL_law 4 s #[.ref b] lw_tbl RL := ⟨hx, hb, hml, hown, hts⟩
  obtain ⟨α, β, π, κ, η, ς, ρ, ϖ, σ, τ, R, S, o, n, ν, μ, rfl, rfl, hR, hH, hSI, hPI⟩ := hLI
  have hfr : cells ≤ room_1.cells ∧ slots ≤ room_1.slots := ⟨show cells ≤ 600000 from by omega, show slots ≤ 7302250 from by omega⟩
  have hfn : cells + 6 ≤ room_1.cells ∧ slots + 818 ≤ room_1.slots := ⟨hf1, hf2⟩
  obtain ⟨x1, e1⟩ : ∃ x, xs (nI j + 1).toNatClampNeg = x := ⟨_, rfl⟩
  obtain ⟨x2, e2⟩ : ∃ x, xs (nI j + 2).toNatClampNeg = x := ⟨_, rfl⟩
  have v1 : vp_in (nI j + 1) L := vin (k := 1) hL (by omega) 1 rfl
  have v2 : vp_in (nI j + 2) L := vin (k := 2) hL (by omega) 2 rfl
  have hin0 := newD.2
  obtain ⟨k1, k5⟩ := p_ticksFor hR ρ ϖ τ (ringOf R, nI o, nI n) x1 (bz x2)
  refine lv_aload_n hx hb dL_law_414 rfl (lv_at hl 1 rfl) ?_
  refine ldA hx hb hX hbl hbA hS hl 1 1 (by decide) v1 e1 dL_law_415 dL_law_416 dL_law_417 dL_law_418 dL_law_419 ?_
  refine ldA hx hb hX hbl hbA hS hl 2 2 (by decide) v2 e2 dL_law_420 dL_law_421 dL_law_422 dL_law_423 dL_law_424 ?_
  refine boolA hx hb dL_law_425 dL_law_428 dL_law_429 dL_law_432 ?_
  refine rdV (As := [.int x1, .int (bz x2)]) (rest := []) (c_X4_ticksFor l G γ κ π α β η ς ρ ϖ σ τ (ringOf R, nI o, nI n) x1 (bz x2)) hF (cwV 2 hts gL_law_X4_ticksFor rfl rfl rfl (by decide +kernel) ⟨Nat.le_of_ble_eq_true rfl, Nat.le_of_ble_eq_true rfl⟩) (va_recv hK.1 hP (ci := 4) (q0 := 0) rfl rfl) hK (va_PL (hP.perm pqF)) rfl hl.1 rfl (Nat.le_of_ble_eq_true rfl) dL_law_433 hfr ?_
  refine lv_aload_n hx hb dL_law_436 rfl (lv_at hl 2 rfl) ?_
  refine ldA hx hb hX hbl hbA hS hl 1 1 (by decide) v1 e1 dL_law_437 dL_law_438 dL_law_439 dL_law_440 dL_law_441 ?_
  refine ldA hx hb hX hbl hbA hS hl 2 2 (by decide) v2 e2 dL_law_442 dL_law_443 dL_law_444 dL_law_445 dL_law_446 ?_
  refine boolA hx hb dL_law_447 dL_law_450 dL_law_451 dL_law_454 ?_
  refine rdV (As := [.int x1, .int (bz x2)]) (rest := [.int (s_X4_ticksFor ρ ϖ σ τ (ringOf R, nI o, nI n) x1 (bz x2))]) (c_X5_ticksFor l G ν μ x1 (bz x2) k5) hF (cwV 2 hts gL_law_X5_ticksFor rfl rfl rfl (by decide +kernel) ⟨Nat.le_of_ble_eq_true rfl, Nat.le_of_ble_eq_true rfl⟩) (va_recv hK.1 (va_PR hP) (ci := 5) (q0 := 0) rfl rfl) hK (va_PR hP) rfl hl.1 rfl (Nat.le_of_ble_eq_true rfl) dL_law_455 hfr ?_
  refine lv_icmp_eq (tgt := 686) hx hb dL_law_458 (by decide) (fun _ => ?_) (fun h9 => absurd k1.symm h9)
  exact W.widen (k := cells + 6) (n := slots + 818) (Nat.le_add_right _ _) (Nat.le_add_right _ _) (kk _ _ _ ⟨_, _, _, _, _, _, _, _, _, _, _, _, _, _, _, _, rfl, rfl, hR, hH, hSI, hPI⟩ hP hD hS)
set_option maxHeartbeats 4000000 in
set_option maxRecDepth 100000 in
theorem cs_worst {p : Program} {e : Env} {s : State} {m : MethodId} {below : List Frame} {meth : Method} {c : Code} {H : Heap} {locs : List Loc} {cells slots : Nat} {Q : State → Prop} {b L j γ μ0 : Nat} {xs : Nat → Int32} {A : Nat → Prop} {ls : Array Slot} {W0 : va_W} {tb : Nat × Nat × Nat} (l : Launch) (G : GG) (C0 : lw_At p s m meth c b L xs) (hK : cK G s) (hT : sT tb A s) (hA : ∀ q, s.heap.size ≤ q → A q) (hbA : ¬ A b) (hL : L ≤ 1536) (hj : j + 3 ≤ L) (hLI : LIw G γ μ0 W0) (hP : va_P G.1 vwCl W0 H) (hD : va_D A W0) (hS : va_S A s.heap H locs) (hf1 : cells + 6 ≤ 600000) (hf2 : slots + 818 ≤ 7302250) (hl : lv_has ls 4 [(0, .ref b), (1, .ref γ), (2, .ref μ0), (3, .int (nI j))])
    (kk : ∀ (W1 : va_W) (H1 : Heap) (locs1 : List Loc), LIw G γ μ0 W1 → va_P G.1 vwCl W1 H1 → va_D A W1 → va_S A s.heap H1 locs1 → W p l e room_1 s m #[.ref b] below meth c H1 locs1 (cells + 6) (slots + 818) Q (F0 m 686 ls [])) : W p l e room_1 s m #[.ref b] below meth c H locs cells slots Q (F0 m 535 ls []) := by
  obtain ⟨hx, hb, hr, hml, hown, hts, hX, hbl, hlocks, hgv⟩ := id C0
  have hF : CallFix p m c cL_law 4 s #[.ref b] lw_tbl RL := ⟨hx, hb, hml, hown, hts⟩
  obtain ⟨α, β, π, κ, η, ς, ρ, ϖ, σ, τ, R, S, o, n, ν, μ, rfl, rfl, hR, hH, hSI, hPI⟩ := hLI
  have hfr : cells ≤ room_1.cells ∧ slots ≤ room_1.slots := ⟨show cells ≤ 600000 from by omega, show slots ≤ 7302250 from by omega⟩
  have hfn : cells + 6 ≤ room_1.cells ∧ slots + 818 ≤ room_1.slots := ⟨hf1, hf2⟩
  obtain ⟨x1, e1⟩ : ∃ x, xs (nI j + 1).toNatClampNeg = x := ⟨_, rfl⟩
  obtain ⟨x2, e2⟩ : ∃ x, xs (nI j + 2).toNatClampNeg = x := ⟨_, rfl⟩
  have v1 : vp_in (nI j + 1) L := vin (k := 1) hL (by omega) 1 rfl
  have v2 : vp_in (nI j + 2) L := vin (k := 2) hL (by omega) 2 rfl
  have hin0 := newD.2
  obtain ⟨k1, k5, k4⟩ := p_worst hR ρ ϖ τ (ringOf R, nI o, nI n)
  refine lv_aload_n hx hb dL_law_535 rfl (lv_at hl 1 rfl) ?_
  refine rdV (As := []) (rest := []) (c_X4_worst l G γ κ π α β η ς ρ ϖ σ τ (ringOf R, nI o, nI n) k4) hF (cwV 0 hts gL_law_X4_worst rfl rfl rfl (by decide +kernel) ⟨Nat.le_of_ble_eq_true rfl, Nat.le_of_ble_eq_true rfl⟩) (va_recv hK.1 hP (ci := 4) (q0 := 0) rfl rfl) hK (va_PL (hP.perm pqF)) rfl hl.1 rfl (Nat.le_of_ble_eq_true rfl) dL_law_536 hfr ?_
  refine lv_aload_n hx hb dL_law_539 rfl (lv_at hl 2 rfl) ?_
  refine rdV (As := []) (rest := [.int (s_X4_worst ρ ϖ σ τ (ringOf R, nI o, nI n))]) (c_X5_worst l G ν μ k5) hF (cwV 0 hts gL_law_X5_worst rfl rfl rfl (by decide +kernel) ⟨Nat.le_of_ble_eq_true rfl, Nat.le_of_ble_eq_true rfl⟩) (va_recv hK.1 (va_PR hP) (ci := 5) (q0 := 0) rfl rfl) hK (va_PR hP) rfl hl.1 rfl (Nat.le_of_ble_eq_true rfl) dL_law_540 hfr ?_
  refine lv_icmp_eq (tgt := 686) hx hb dL_law_543 (by decide) (fun _ => ?_) (fun h9 => absurd k1.symm h9)
  exact W.widen (k := cells + 6) (n := slots + 818) (Nat.le_add_right _ _) (Nat.le_add_right _ _) (kk _ _ _ ⟨_, _, _, _, _, _, _, _, _, _, _, _, _, _, _, _, rfl, rfl, hR, hH, hSI, hPI⟩ hP hD hS)
