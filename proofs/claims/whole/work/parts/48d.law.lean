set_option maxHeartbeats 4000000 in
set_option maxRecDepth 100000 in
theorem cs_undo {p : Program} {e : Env} {s : State} {m : MethodId} {below : List Frame} {meth : Method} {c : Code} {H : Heap} {locs : List Loc} {cells slots : Nat} {Q : State → Prop} {b L j γ μ0 : Nat} {xs : Nat → Int32} {A : Nat → Prop} {ls : Array Slot} {W0 : va_W} {tb : Nat × Nat × Nat} (l : Launch) (G : GG) (C0 : lw_At p s m meth c b L xs) (hK : cK G s) (hT : sT tb A s) (hA : ∀ q, s.heap.size ≤ q → A q) (hbA : ¬ A b) (hL : L ≤ 1536) (hj : j + 3 ≤ L) (hLI : LIw G γ μ0 W0) (hP : va_P G.1 vwCl W0 H) (hD : va_D A W0) (hS : va_S A s.heap H locs) (hf1 : cells + 6 ≤ 600000) (hf2 : slots + 818 ≤ 7302250) (hl : lv_has ls 4 [(0, .ref b), (1, .ref γ), (2, .ref μ0), (3, .int (nI j))])
    (kk : ∀ (W1 : va_W) (H1 : Heap) (locs1 : List Loc), LIw G γ μ0 W1 → va_P G.1 vwCl W1 H1 → va_D A W1 → va_S A s.heap H1 locs1 → W p l e room_1 s m #[.ref b] below meth c H1 locs1 (cells + 6) (slots + 818) Q (F0 m 686 ls [])) : W p l e room_1 s m #[.ref b] below meth c H locs cells slots Q (F0 m 627 ls []) := by
  obtain ⟨hx, hb, hr, hml, hown, hts, hX, hbl, hlocks, hgv⟩ := id C0
  have hF : CallFix p m c cL_law 4 s #[.ref b] lw_tbl RL := ⟨hx, hb, hml, hown, hts⟩
  obtain ⟨α, β, π, κ, η, ς, ρ, ϖ, σ, τ, R, S, o, n, ν, μ, rfl, rfl, hR, hH, hSI, hPI⟩ := hLI
  have hfr : cells ≤ room_1.cells ∧ slots ≤ room_1.slots := ⟨show cells ≤ 600000 from by omega, show slots ≤ 7302250 from by omega⟩
  have hfn : cells + 6 ≤ room_1.cells ∧ slots + 818 ≤ room_1.slots := ⟨hf1, hf2⟩
  obtain ⟨x1, e1⟩ : ∃ x, xs (nI j + 1).toNatClampNeg = x := ⟨_, rfl⟩
  obtain ⟨x2, e2⟩ : ∃ x, xs (nI j + 2).toNatClampNeg = x := ⟨_, rfl⟩
  have v1 : vp_in (nI j + 1) L := vin (k := 1) hL (by omega) 1 rfl
  have v2 : vp_in (nI j + 2) L := vin (k := 2) hL (by omega) 2 rfl
  have hin0 := newD.2
  cases n with
  | zero =>
    obtain ⟨e5, k5⟩ := p_undo0 hH
    refine lv_aload_n hx hb dL_law_627 rfl (lv_at hl 1 rfl) ?_
    have hP : va_P G.1 vwCl ((gW γ (α 0) (β 0) (π 0) (κ 0) (η 0) ς ++ (qW G.2.1 κ ρ ++ (pW G.2.1 π ϖ ++ (([(α 0, .inr (0, dF α σ))] ++ dR G.2.1 α σ) ++ (dW G.2.1 β τ ++ (hW G.2.2 η (ringOf R, nI o, 0) ++ (sW G.2.2 ς (ringOf S) ++ (xR G.2.1 R ++ xS G.2.1 S)))))))) ++ mW G.2.1 ν μ) H := hP
    have hD : va_D A ((gW γ (α 0) (β 0) (π 0) (κ 0) (η 0) ς ++ (qW G.2.1 κ ρ ++ (pW G.2.1 π ϖ ++ (([(α 0, .inr (0, dF α σ))] ++ dR G.2.1 α σ) ++ (dW G.2.1 β τ ++ (hW G.2.2 η (ringOf R, nI o, 0) ++ (sW G.2.2 ς (ringOf S) ++ (xR G.2.1 R ++ xS G.2.1 S)))))))) ++ mW G.2.1 ν μ) := hD
    refine wrVP (As := []) (rest := []) (c_X4_undo_0 l G γ η (ringOf R) o (α 0) (β 0) (π 0) (κ 0) ς (dF α σ)) hF (cwV 0 hts gL_law_X4_undo rfl rfl rfl (by decide +kernel) ⟨Nat.le_of_ble_eq_true rfl, Nat.le_of_ble_eq_true rfl⟩) (va_recv hK.1 hP (ci := 4) (q0 := 0) rfl rfl) hK hP hD hS pqU pqU.symm (fst_app fst_G (fst_app (fst_H _ _) rfl)) rfl hl.1 rfl (Nat.le_of_ble_eq_true rfl) dL_law_628 hfr (fun H locs hP hD hS => ?_)
    have hP : va_P G.1 vwCl (cW G γ α β π κ η ς ρ ϖ σ τ R S o 0 ++ mW G.2.1 ν μ) H := hP
    have hD : va_D A (cW G γ α β π κ η ς ρ ϖ σ τ R S o 0 ++ mW G.2.1 ν μ) := hD
    refine lv_aload_n hx hb dL_law_631 rfl (lv_at hl 2 rfl) ?_
    refine wrVR (As := []) (rest := [.int (-5)]) (c_X5_undo l G ν μ k5) hF (cwV 0 hts gL_law_X5_undo rfl rfl rfl (by decide +kernel) ⟨Nat.le_of_ble_eq_true rfl, Nat.le_of_ble_eq_true rfl⟩) (va_recv hK.1 (va_PR hP) (ci := 5) (q0 := 0) rfl rfl) hK hP hD hS (fst_M _ _) rfl hl.1 rfl (Nat.le_of_ble_eq_true rfl) dL_law_632 hfr (fun H locs hP hD hS => ?_)
    rw [e5] at hP hD
    refine lv_icmp_eq (tgt := 686) hx hb dL_law_635 (by decide) (fun _ => ?_) (fun h9 => absurd (show (-5 : Int32) = (s_X5_undo μ).1 from by rw [e5]) h9)
    exact W.widen (k := cells + 6) (n := slots + 818) (Nat.le_add_right _ _) (Nat.le_add_right _ _) (kk _ _ _ ⟨_, _, _, _, _, _, _, _, _, _, _, _, _, _, _, _, rfl, rfl, hR, hH, hSI, hPI⟩ hP hD hS)
  | succ n =>
    obtain ⟨δ, υ, μ', r1, e5, k5, hR1, hH1, hFs⟩ := p_undo hH (α, σ)
    have hxr := xR_up G.2.1 R (p := (o + n) % 6) (by omega) (α, σ)
    rw [r1] at hxr
    have hxr : ((([(α 0, .inr (0, dF α σ))] : va_W) ++ dR G.2.1 α σ) ++ xR G.2.1 R).Perm (dW G.2.1 δ υ ++ xR G.2.1 (va_up R ((o + n) % 6) (some (α, σ)))) := hxr
    refine lv_aload_n hx hb dL_law_627 rfl (lv_at hl 1 rfl) ?_
    have hP : va_P G.1 vwCl ((gW γ (α 0) (β 0) (π 0) (κ 0) (η 0) ς ++ (qW G.2.1 κ ρ ++ (pW G.2.1 π ϖ ++ (([(α 0, .inr (0, dF α σ))] ++ dR G.2.1 α σ) ++ (dW G.2.1 β τ ++ (hW G.2.2 η (ringOf R, nI o, nI (n + 1)) ++ (sW G.2.2 ς (ringOf S) ++ (xR G.2.1 R ++ xS G.2.1 S)))))))) ++ mW G.2.1 ν μ) H := hP
    have hD : va_D A ((gW γ (α 0) (β 0) (π 0) (κ 0) (η 0) ς ++ (qW G.2.1 κ ρ ++ (pW G.2.1 π ϖ ++ (([(α 0, .inr (0, dF α σ))] ++ dR G.2.1 α σ) ++ (dW G.2.1 β τ ++ (hW G.2.2 η (ringOf R, nI o, nI (n + 1)) ++ (sW G.2.2 ς (ringOf S) ++ (xR G.2.1 R ++ xS G.2.1 S)))))))) ++ mW G.2.1 ν μ) := hD
    refine wrVP (As := []) (rest := []) (c_X4_undo l G γ η (ringOf R) o n (α 0) (β 0) (π 0) (κ 0) ς (δ 0) (dF α σ) hH.1 hH.2.1 (ringOf_of r1)) hF (cwV 0 hts gL_law_X4_undo rfl rfl rfl (by decide +kernel) ⟨Nat.le_of_ble_eq_true rfl, Nat.le_of_ble_eq_true rfl⟩) (va_recv hK.1 hP (ci := 4) (q0 := 0) rfl rfl) hK hP hD hS pqU (pqU2 hxr) (fst_app fst_G (fst_app (fst_H _ _) rfl)) rfl hl.1 rfl (Nat.le_of_ble_eq_true rfl) dL_law_628 hfr (fun H locs hP hD hS => ?_)
    rw [← show ringOf (va_up R ((o + n) % 6) (some (α, σ))) = va_up (ringOf R) ((o + n) % 6) (some (α 0)) from ringOf_up _ _ _] at hP hD
    have hP : va_P G.1 vwCl (cW G γ δ β π κ η ς ρ ϖ υ τ (va_up R ((o + n) % 6) (some (α, σ))) S o n ++ mW G.2.1 ν μ) H := hP
    have hD : va_D A (cW G γ δ β π κ η ς ρ ϖ υ τ (va_up R ((o + n) % 6) (some (α, σ))) S o n ++ mW G.2.1 ν μ) := hD
    refine lv_aload_n hx hb dL_law_631 rfl (lv_at hl 2 rfl) ?_
    refine wrVR (As := []) (rest := [.int (nI n)]) (c_X5_undo l G ν μ k5) hF (cwV 0 hts gL_law_X5_undo rfl rfl rfl (by decide +kernel) ⟨Nat.le_of_ble_eq_true rfl, Nat.le_of_ble_eq_true rfl⟩) (va_recv hK.1 (va_PR hP) (ci := 5) (q0 := 0) rfl rfl) hK hP hD hS (fst_M _ _) rfl hl.1 rfl (Nat.le_of_ble_eq_true rfl) dL_law_632 hfr (fun H locs hP hD hS => ?_)
    rw [e5] at hP hD
    refine lv_icmp_eq (tgt := 686) hx hb dL_law_635 (by decide) (fun _ => ?_) (fun h9 => absurd (show nI n = (s_X5_undo μ).1 from by rw [e5]) h9)
    have hLI : LIw G γ (ν 0) (cW G γ δ β π κ η ς ρ ϖ υ τ (va_up R ((o + n) % 6) (some (α, σ))) S o n ++ mW G.2.1 ν μ') := ⟨_, _, _, _, _, _, _, _, _, _, _, _, _, _, _, _, rfl, rfl, hR1, hH1, hSI.mv hFs, hPI.mv hFs⟩
    exact W.widen (k := cells + 6) (n := slots + 818) (Nat.le_add_right _ _) (Nat.le_add_right _ _) (kk _ _ _ hLI hP hD hS)
