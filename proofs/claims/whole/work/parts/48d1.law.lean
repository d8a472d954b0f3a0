set_option maxHeartbeats 4000000 in
set_option maxRecDepth 100000 in
theorem cs_restore {p : Program} {e : Env} {s : State} {m : MethodId} {below : List Frame} {meth : Method} {c : Code} {H : Heap} {locs : List Loc} {cells slots : Nat} {Q : State → Prop} {b L j γ μ0 : Nat} {xs : Nat → Int32} {A : Nat → Prop} {ls : Array Slot} {W0 : va_W} {tb : Nat × Nat × Nat} (l : Launch) (G : GG) (C0 : lw_At p s m meth c b L xs) (hK : cK G s) (hT : sT tb A s) (hA : ∀ q, s.heap.size ≤ q → A q) (hbA : ¬ A b) (hL : L ≤ 1536) (hj : j + 3 ≤ L) (hLI : LIw G γ μ0 W0) (hP : va_P G.1 vwCl W0 H) (hD : va_D A W0) (hS : va_S A s.heap H locs) (hf1 : cells + 6 ≤ 600000) (hf2 : slots + 818 ≤ 7302250) (hl : lv_has ls 4 [(0, .ref b), (1, .ref γ), (2, .ref μ0), (3, .int (nI j))])
    (kk : ∀ (W1 : va_W) (H1 : Heap) (locs1 : List Loc), LIw G γ μ0 W1 → va_P G.1 vwCl W1 H1 → va_D A W1 → va_S A s.heap H1 locs1 → W p l e room_1 s m #[.ref b] below meth c H1 locs1 (cells + 6) (slots + 818) Q (F0 m 686 ls [])) : W p l e room_1 s m #[.ref b] below meth c H locs cells slots Q (F0 m 663 ls []) := by
  obtain ⟨hx, hb, hr, hml, hown, hts, hX, hbl, hlocks, hgv⟩ := id C0
  have hF : CallFix p m c cL_law 4 s #[.ref b] lw_tbl RL := ⟨hx, hb, hml, hown, hts⟩
  obtain ⟨α, β, π, κ, η, ς, ρ, ϖ, σ, τ, R, S, o, n, ν, μ, rfl, rfl, hR, hH, hSI, hPI⟩ := hLI
  have hfr : cells ≤ room_1.cells ∧ slots ≤ room_1.slots := ⟨show cells ≤ 600000 from by omega, show slots ≤ 7302250 from by omega⟩
  have hfn : cells + 6 ≤ room_1.cells ∧ slots + 818 ≤ room_1.slots := ⟨hf1, hf2⟩
  obtain ⟨x1, e1⟩ : ∃ x, xs (nI j + 1).toNatClampNeg = x := ⟨_, rfl⟩
  obtain ⟨x2, e2⟩ : ∃ x, xs (nI j + 2).toNatClampNeg = x := ⟨_, rfl⟩
  have v1 : vp_in (nI j + 1) L := vin (k := 1) hL (by omega) 1 rfl
  have v2 : vp_in (nI j + 2) L := vin (k := 2) hL (by omega) 2 rfl
  have hin0 := newD.2
  rcases pk_ix x1 (n := 2) (by omega) with h | h | ⟨k, hk, rfl⟩
  · obtain ⟨e5, k5⟩ := p_restore_bad (μ := μ) (Or.inl h)
    refine lv_aload_n hx hb dL_law_663 rfl (lv_at hl 1 rfl) ?_
    refine ldA hx hb hX hbl hbA hS hl 1 1 (by decide) v1 e1 dL_law_664 dL_law_665 dL_law_666 dL_law_667 dL_law_668 ?_
    refine rdV (As := [.int x1]) (rest := []) (c_X4_restore_bad l G γ (α 0) (β 0) (π 0) (κ 0) (η 0) ς (ringOf S) x1 (Or.inl h)) hF (cwV 1 hts gL_law_X4_restore rfl rfl rfl (by decide +kernel) ⟨Nat.le_of_ble_eq_true rfl, Nat.le_of_ble_eq_true rfl⟩) (va_recv hK.1 hP (ci := 4) (q0 := 0) rfl rfl) hK (va_PL (hP.perm pqG)) rfl hl.1 rfl (Nat.le_of_ble_eq_true rfl) dL_law_669 hfr ?_
    refine lv_aload_n hx hb dL_law_672 rfl (lv_at hl 2 rfl) ?_
    refine ldA hx hb hX hbl hbA hS hl 1 1 (by decide) v1 e1 dL_law_673 dL_law_674 dL_law_675 dL_law_676 dL_law_677 ?_
    refine wrVR (As := [.int x1]) (rest := [.int (-2)]) (c_X5_restore l G ν μ x1 k5) hF (cwV 1 hts gL_law_X5_restore rfl rfl rfl (by decide +kernel) ⟨Nat.le_of_ble_eq_true rfl, Nat.le_of_ble_eq_true rfl⟩) (va_recv hK.1 (va_PR hP) (ci := 5) (q0 := 0) rfl rfl) hK hP hD hS (fst_M _ _) rfl hl.1 rfl (Nat.le_of_ble_eq_true rfl) dL_law_678 hfr (fun H locs hP hD hS => ?_)
    rw [e5] at hP hD
    refine lv_icmp_eq (tgt := 686) hx hb dL_law_681 (by decide) (fun _ => ?_) (fun h9 => absurd (show ((-2) : Int32) = (s_X5_restore μ x1).1 from by rw [e5]) h9)
    exact W.widen (k := cells + 6) (n := slots + 818) (Nat.le_add_right _ _) (Nat.le_add_right _ _) (kk _ _ _ ⟨_, _, _, _, _, _, _, _, _, _, _, _, _, _, _, _, rfl, rfl, hR, hH, hSI, hPI⟩ hP hD hS)
  · obtain ⟨e5, k5⟩ := p_restore_bad (μ := μ) (Or.inr h)
    refine lv_aload_n hx hb dL_law_663 rfl (lv_at hl 1 rfl) ?_
    refine ldA hx hb hX hbl hbA hS hl 1 1 (by decide) v1 e1 dL_law_664 dL_law_665 dL_law_666 dL_law_667 dL_law_668 ?_
    refine rdV (As := [.int x1]) (rest := []) (c_X4_restore_bad l G γ (α 0) (β 0) (π 0) (κ 0) (η 0) ς (ringOf S) x1 (Or.inr h)) hF (cwV 1 hts gL_law_X4_restore rfl rfl rfl (by decide +kernel) ⟨Nat.le_of_ble_eq_true rfl, Nat.le_of_ble_eq_true rfl⟩) (va_recv hK.1 hP (ci := 4) (q0 := 0) rfl rfl) hK (va_PL (hP.perm pqG)) rfl hl.1 rfl (Nat.le_of_ble_eq_true rfl) dL_law_669 hfr ?_
    refine lv_aload_n hx hb dL_law_672 rfl (lv_at hl 2 rfl) ?_
    refine ldA hx hb hX hbl hbA hS hl 1 1 (by decide) v1 e1 dL_law_673 dL_law_674 dL_law_675 dL_law_676 dL_law_677 ?_
    refine wrVR (As := [.int x1]) (rest := [.int (-2)]) (c_X5_restore l G ν μ x1 k5) hF (cwV 1 hts gL_law_X5_restore rfl rfl rfl (by decide +kernel) ⟨Nat.le_of_ble_eq_true rfl, Nat.le_of_ble_eq_true rfl⟩) (va_recv hK.1 (va_PR hP) (ci := 5) (q0 := 0) rfl rfl) hK hP hD hS (fst_M _ _) rfl hl.1 rfl (Nat.le_of_ble_eq_true rfl) dL_law_678 hfr (fun H locs hP hD hS => ?_)
    rw [e5] at hP hD
    refine lv_icmp_eq (tgt := 686) hx hb dL_law_681 (by decide) (fun _ => ?_) (fun h9 => absurd (show ((-2) : Int32) = (s_X5_restore μ x1).1 from by rw [e5]) h9)
    exact W.widen (k := cells + 6) (n := slots + 818) (Nat.le_add_right _ _) (Nat.le_add_right _ _) (kk _ _ _ ⟨_, _, _, _, _, _, _, _, _, _, _, _, _, _, _, _, rfl, rfl, hR, hH, hSI, hPI⟩ hP hD hS)
  · cases hq : S k with
    | none =>
      obtain ⟨e5, k5⟩ := p_restore_none hSI hk hq
      refine lv_aload_n hx hb dL_law_663 rfl (lv_at hl 1 rfl) ?_
      refine ldA hx hb hX hbl hbA hS hl 1 1 (by decide) v1 e1 dL_law_664 dL_law_665 dL_law_666 dL_law_667 dL_law_668 ?_
      refine rdV (As := [.int (nI k)]) (rest := []) (c_X4_restore_none l G γ (α 0) (β 0) (π 0) (κ 0) (η 0) ς (ringOf S) k hk (ringOf_no hq)) hF (cwV 1 hts gL_law_X4_restore rfl rfl rfl (by decide +kernel) ⟨Nat.le_of_ble_eq_true rfl, Nat.le_of_ble_eq_true rfl⟩) (va_recv hK.1 hP (ci := 4) (q0 := 0) rfl rfl) hK (va_PL (hP.perm pqG)) rfl hl.1 rfl (Nat.le_of_ble_eq_true rfl) dL_law_669 hfr ?_
      refine lv_aload_n hx hb dL_law_672 rfl (lv_at hl 2 rfl) ?_
      refine ldA hx hb hX hbl hbA hS hl 1 1 (by decide) v1 e1 dL_law_673 dL_law_674 dL_law_675 dL_law_676 dL_law_677 ?_
      refine wrVR (As := [.int (nI k)]) (rest := [.int (-5)]) (c_X5_restore l G ν μ (nI k) k5) hF (cwV 1 hts gL_law_X5_restore rfl rfl rfl (by decide +kernel) ⟨Nat.le_of_ble_eq_true rfl, Nat.le_of_ble_eq_true rfl⟩) (va_recv hK.1 (va_PR hP) (ci := 5) (q0 := 0) rfl rfl) hK hP hD hS (fst_M _ _) rfl hl.1 rfl (Nat.le_of_ble_eq_true rfl) dL_law_678 hfr (fun H locs hP hD hS => ?_)
      rw [e5] at hP hD
      refine lv_icmp_eq (tgt := 686) hx hb dL_law_681 (by decide) (fun _ => ?_) (fun h9 => absurd (show ((-5) : Int32) = (s_X5_restore μ (nI k)).1 from by rw [e5]) h9)
      exact W.widen (k := cells + 6) (n := slots + 818) (Nat.le_add_right _ _) (Nat.le_add_right _ _) (kk _ _ _ ⟨_, _, _, _, _, _, _, _, _, _, _, _, _, _, _, _, rfl, rfl, hR, hH, hSI, hPI⟩ hP hD hS)
    | some x =>
      obtain ⟨δ, υ⟩ := x
      obtain ⟨⟨c1, c2, c3, c4⟩, k5, hfo⟩ := p_restore (α := α) hR hH hSI hk hq
      obtain ⟨z, hz⟩ := xS_out G.2.1 S hk
      rw [hq] at hz
      have hz : (xS G.2.1 S).Perm (dW G.2.1 δ υ ++ z) := hz
      have cR := c_X4_restore l G γ α β δ η (π 0) (κ 0) ς (ringOf S) σ τ υ (ringOf R) o n k tb hH.1 hH.2.1 hin0 hk (ringOf_of hq) hfo
      rw [like_id] at cR
      refine lv_aload_n hx hb dL_law_663 rfl (lv_at hl 1 rfl) ?_
      refine ldA hx hb hX hbl hbA hS hl 1 1 (by decide) v1 e1 dL_law_664 dL_law_665 dL_law_666 dL_law_667 dL_law_668 ?_
      refine nwVP (As := [.int (nI k)]) (rest := []) cR sT.blind hF (cwV 1 hts gL_law_X4_restore rfl rfl rfl (by decide +kernel) ⟨Nat.le_of_ble_eq_true rfl, Nat.le_of_ble_eq_true rfl⟩) (va_recv hK.1 hP (ci := 4) (q0 := 0) rfl rfl) hK hP hD hS hA (pqT hz) (fun U hU hW hF => hT.to hS hF hU hW) rfl hl.1 rfl (Nat.le_of_ble_eq_true rfl) dL_law_669 hfn (fun w1 H locs hB hP hD hS => ?_)
      obtain ⟨WC, ew, hLI⟩ := LI_ch (R := R) (S := S) (ν := ν) (μ := μ) (μ' := (s_X5_restore μ (nI k)).2) hB (pqT2 hz) c3 c4 (hSI.mv c2) (hPI.mv c2)
      have hP := hP.perm ew
      have hD := hD.perm ew
      refine lv_aload_n hx hb dL_law_672 rfl (lv_at hl 2 rfl) ?_
      refine ldA hx hb hX hbl hbA hS hl 1 1 (by decide) v1 e1 dL_law_673 dL_law_674 dL_law_675 dL_law_676 dL_law_677 ?_
      refine wrVR (As := [.int (nI k)]) (rest := [.int (s_X0_filledOn υ 0 16)]) (c_X5_restore l G ν μ (nI k) k5) hF (cwV 1 hts gL_law_X5_restore rfl rfl rfl (by decide +kernel) ⟨Nat.le_of_ble_eq_true rfl, Nat.le_of_ble_eq_true rfl⟩) (va_recv hK.1 (va_PR hP) (ci := 5) (q0 := 0) rfl rfl) hK hP hD hS (fst_M _ _) rfl hl.1 rfl (Nat.le_of_ble_eq_true rfl) dL_law_678 hfn (fun H locs hP hD hS => ?_)
      refine lv_icmp_eq (tgt := 686) hx hb dL_law_681 (by decide) (fun _ => ?_) (fun h9 => absurd c1.symm h9)
      exact kk _ _ _ hLI hP hD hS
