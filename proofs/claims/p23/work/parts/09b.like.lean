
def t1_X0_becomeLike (σ : DS) (τ : DS) : DS := (d_nu' (d_st' σ (s_X4_copyRow 5 (d_st τ) 5 (d_st σ))) (s_X4_copyRow 204 (d_nu τ) 204 (d_nu σ)))
def t2_X0_becomeLike (σ : DS) (τ : DS) : DS := (d_bl' (t1_X0_becomeLike σ τ) (s_X4_copyRow 204 (d_bl τ) 204 (d_bl (t1_X0_becomeLike σ τ))))
def t3_X0_becomeLike (σ : DS) (τ : DS) : DS := (d_wr' (t2_X0_becomeLike σ τ) (s_X4_copyRow 204 (d_wr τ) 204 (d_wr (t2_X0_becomeLike σ τ))))
def t4_X0_becomeLike (σ : DS) (τ : DS) : DS := (d_se' (t3_X0_becomeLike σ τ) (s_X4_copyRow 192 (d_se τ) 192 (d_se (t3_X0_becomeLike σ τ))))
def t5_X0_becomeLike (σ : DS) (τ : DS) : DS := (d_tk' (d_rd' (d_sp' (t4_X0_becomeLike σ τ) (d_sp τ)) (d_rd τ)) (d_tk τ))
def s_X0_becomeLike (σ : DS) (τ : DS) : DS := (d_hd' (t5_X0_becomeLike σ τ) (d_hd τ))
set_option maxHeartbeats 4000000 in
set_option maxRecDepth 100000 in
theorem c_X0_becomeLike (l : Launch) (G : GG) (α : Nat → Nat) (β : Nat → Nat) (σ : DS) (τ : DS) : Wr G l yX0_becomeLike wsX0_becomeLike 2 81 [.ref (α 0), .ref (β 0)] ((dW G.2.1 α σ) ++ (dW G.2.1 β τ)) none ((dW G.2.1 α (s_X0_becomeLike σ τ)) ++ (dW G.2.1 β τ)) := by
  refine Met.ofW (cc := cX0_becomeLike) (maxL := 2) (ret := none) (by decide) rfl ?_
  intro p e s m args below meth c s₁ B hml hv
  obtain ⟨rfl, hP, hK, hD0⟩ := hv
  have C0 : cA p s m meth c ([.ref (α 0), .ref (β 0)] : List Value).toArray cX0_becomeLike 2 none wsX0_becomeLike RX0 := ⟨B.exec, B.bytes, B.returns, hml, findClass_of_methodNamed B.named, atoms_spec (ws := wsX0_becomeLike) B.pre, B.notSynchronized⟩
  obtain ⟨hx, hb, hr, hml, hown, hts, hlocks⟩ := id C0
  have hF : CallFix p m c cX0_becomeLike 2 s _ wsX0_becomeLike RX0 := ⟨hx, hb, hml, hown, hts⟩
  have hinX0 : ∀ w ∈ wsX00, w ∈ wsX0_becomeLike := by decide +kernel
  obtain ⟨w0, hw0⟩ : ∃ w0 : va_W, w0 = ((dW G.2.1 α σ) ++ (dW G.2.1 β τ)) := ⟨_, rfl⟩
  have hD : va_D (inW w0) ((dW G.2.1 α σ) ++ (dW G.2.1 β τ)) := by rw [hw0]; exact inW.D hD0
  have hS : va_S (inW w0) s.heap s.heap [] := va_S.rf
  rw [show QW G ((dW G.2.1 α σ) ++ (dW G.2.1 β τ)) = QW G w0 from by rw [hw0], show inW ((dW G.2.1 α σ) ++ (dW G.2.1 β τ)) = inW w0 from by rw [hw0]]
  have hl := lv_entry ([.ref (α 0), .ref (β 0)]) (n := 2) (Nat.le_of_ble_eq_true rfl)
  rw [lg_entry_eq]
  generalize (lg_sl ([.ref (α 0), .ref (β 0)]) ++ List.replicate (2 - (lg_sl ([.ref (α 0), .ref (β 0)])).length) Slot.unset).toArray = ls at hl ⊢
  have hl : lv_has ls 2 [(0, .ref (α 0)), (1, .ref (β 0))] := hl
  refine lv_aload_n hx hb dX0_becomeLike_0 rfl (lv_at hl 1 rfl) ?_
  refine va_get (D := G.1) (ci := 0) (v := .ref (β 1)) (C := RX0) (T := TX0) (N := 9) hx hb hts hinX0 hown hK.1 hP 6 rfl rfl 0 (by decide) (hts (.fieldLink RX0 13 "GrooveTurns$Disc" "settings" "[I") (by decide +kernel)) (fun _ h9 => h9) rfl dX0_becomeLike_1 ?_
  refine lv_aload_n hx hb dX0_becomeLike_4 rfl (lv_at hl 0 rfl) ?_
  refine va_get (D := G.1) (ci := 0) (v := .ref (α 1)) (C := RX0) (T := TX0) (N := 9) hx hb hts hinX0 hown hK.1 hP 0 rfl rfl 0 (by decide) (hts (.fieldLink RX0 13 "GrooveTurns$Disc" "settings" "[I") (by decide +kernel)) (fun _ h9 => h9) rfl dX0_becomeLike_5 ?_
  refine wrN (As := [.ref (β 1), .ref (α 1)]) (rest := []) (c_X4_copyRow l G (β 1) (α 1) 5 (d_st τ) 5 (d_st σ) (by decide) (by decide)) hF (va_cnB (host := RX4) 2 hts gX0_becomeLike_X4_copyRow_n43 rfl rfl rfl (hK.nest 5 rfl) (hts (.initialized RX4) (by decide +kernel)) (by decide +kernel) ⟨Nat.le_of_ble_eq_true rfl, Nat.le_of_ble_eq_true rfl⟩) (hts (.static yX4_copyRow) (by decide +kernel)) hK hP hD hS [7, 1] rfl rfl rfl (by decide) rfl hl.1 rfl (Nat.le_of_ble_eq_true rfl) dX0_becomeLike_8 ⟨Nat.zero_le _, Nat.zero_le _⟩ (fun H locs hP hD hS => ?_)
  have hP : va_P G.1 vwCl ((dW G.2.1 α (d_st' σ (s_X4_copyRow 5 (d_st τ) 5 (d_st σ)))) ++ (dW G.2.1 β τ)) H := hP
  have hD : va_D (inW w0) ((dW G.2.1 α (d_st' σ (s_X4_copyRow 5 (d_st τ) 5 (d_st σ)))) ++ (dW G.2.1 β τ)) := hD
  refine lv_aload_n hx hb dX0_becomeLike_11 rfl (lv_at hl 1 rfl) ?_
  refine va_get (D := G.1) (ci := 0) (v := .ref (β 2)) (C := RX0) (T := TX0) (N := 9) hx hb hts hinX0 hown hK.1 hP 6 rfl rfl 1 (by decide) (hts (.fieldLink RX0 18 "GrooveTurns$Disc" "numbers" "[I") (by decide +kernel)) (fun _ h9 => h9) rfl dX0_becomeLike_12 ?_
  refine lv_aload_n hx hb dX0_becomeLike_15 rfl (lv_at hl 0 rfl) ?_
  refine va_get (D := G.1) (ci := 0) (v := .ref (α 2)) (C := RX0) (T := TX0) (N := 9) hx hb hts hinX0 hown hK.1 hP 0 rfl rfl 1 (by decide) (hts (.fieldLink RX0 18 "GrooveTurns$Disc" "numbers" "[I") (by decide +kernel)) (fun _ h9 => h9) rfl dX0_becomeLike_16 ?_
  refine wrN (As := [.ref (β 2), .ref (α 2)]) (rest := []) (c_X4_copyRow l G (β 2) (α 2) 204 (d_nu τ) 204 (d_nu σ) (by decide) (by decide)) hF (va_cnB (host := RX4) 2 hts gX0_becomeLike_X4_copyRow_n43 rfl rfl rfl (hK.nest 5 rfl) (hts (.initialized RX4) (by decide +kernel)) (by decide +kernel) ⟨Nat.le_of_ble_eq_true rfl, Nat.le_of_ble_eq_true rfl⟩) (hts (.static yX4_copyRow) (by decide +kernel)) hK hP hD hS [8, 2] rfl rfl rfl (by decide) rfl hl.1 rfl (Nat.le_of_ble_eq_true rfl) dX0_becomeLike_19 ⟨Nat.zero_le _, Nat.zero_le _⟩ (fun H locs hP hD hS => ?_)
  have hP : va_P G.1 vwCl ((dW G.2.1 α (t1_X0_becomeLike σ τ)) ++ (dW G.2.1 β τ)) H := hP
  have hD : va_D (inW w0) ((dW G.2.1 α (t1_X0_becomeLike σ τ)) ++ (dW G.2.1 β τ)) := hD
  refine lv_aload_n hx hb dX0_becomeLike_22 rfl (lv_at hl 1 rfl) ?_
  refine va_get (D := G.1) (ci := 0) (v := .ref (β 3)) (C := RX0) (T := TX0) (N := 9) hx hb hts hinX0 hown hK.1 hP 6 rfl rfl 2 (by decide) (hts (.fieldLink RX0 21 "GrooveTurns$Disc" "blurs" "[I") (by decide +kernel)) (fun _ h9 => h9) rfl dX0_becomeLike_23 ?_
  refine lv_aload_n hx hb dX0_becomeLike_26 rfl (lv_at hl 0 rfl) ?_
  refine va_get (D := G.1) (ci := 0) (v := .ref (α 3)) (C := RX0) (T := TX0) (N := 9) hx hb hts hinX0 hown hK.1 hP 0 rfl rfl 2 (by decide) (hts (.fieldLink RX0 21 "GrooveTurns$Disc" "blurs" "[I") (by decide +kernel)) (fun _ h9 => h9) rfl dX0_becomeLike_27 ?_
  refine wrN (As := [.ref (β 3), .ref (α 3)]) (rest := []) (c_X4_copyRow l G (β 3) (α 3) 204 (d_bl τ) 204 (d_bl (t1_X0_becomeLike σ τ)) (by decide) (by decide)) hF (va_cnB (host := RX4) 2 hts gX0_becomeLike_X4_copyRow_n43 rfl rfl rfl (hK.nest 5 rfl) (hts (.initialized RX4) (by decide +kernel)) (by decide +kernel) ⟨Nat.le_of_ble_eq_true rfl, Nat.le_of_ble_eq_true rfl⟩) (hts (.static yX4_copyRow) (by decide +kernel)) hK hP hD hS [9, 3] rfl rfl rfl (by decide) rfl hl.1 rfl (Nat.le_of_ble_eq_true rfl) dX0_becomeLike_30 ⟨Nat.zero_le _, Nat.zero_le _⟩ (fun H locs hP hD hS => ?_)
  have hP : va_P G.1 vwCl ((dW G.2.1 α (t2_X0_becomeLike σ τ)) ++ (dW G.2.1 β τ)) H := hP
  have hD : va_D (inW w0) ((dW G.2.1 α (t2_X0_becomeLike σ τ)) ++ (dW G.2.1 β τ)) := hD
  refine lv_aload_n hx hb dX0_becomeLike_33 rfl (lv_at hl 1 rfl) ?_
  refine va_get (D := G.1) (ci := 0) (v := .ref (β 4)) (C := RX0) (T := TX0) (N := 9) hx hb hts hinX0 hown hK.1 hP 6 rfl rfl 3 (by decide) (hts (.fieldLink RX0 24 "GrooveTurns$Disc" "writings" "[I") (by decide +kernel)) (fun _ h9 => h9) rfl dX0_becomeLike_34 ?_
  refine lv_aload_n hx hb dX0_becomeLike_37 rfl (lv_at hl 0 rfl) ?_
  refine va_get (D := G.1) (ci := 0) (v := .ref (α 4)) (C := RX0) (T := TX0) (N := 9) hx hb hts hinX0 hown hK.1 hP 0 rfl rfl 3 (by decide) (hts (.fieldLink RX0 24 "GrooveTurns$Disc" "writings" "[I") (by decide +kernel)) (fun _ h9 => h9) rfl dX0_becomeLike_38 ?_
  refine wrN (As := [.ref (β 4), .ref (α 4)]) (rest := []) (c_X4_copyRow l G (β 4) (α 4) 204 (d_wr τ) 204 (d_wr (t2_X0_becomeLike σ τ)) (by decide) (by decide)) hF (va_cnB (host := RX4) 2 hts gX0_becomeLike_X4_copyRow_n43 rfl rfl rfl (hK.nest 5 rfl) (hts (.initialized RX4) (by decide +kernel)) (by decide +kernel) ⟨Nat.le_of_ble_eq_true rfl, Nat.le_of_ble_eq_true rfl⟩) (hts (.static yX4_copyRow) (by decide +kernel)) hK hP hD hS [10, 4] rfl rfl rfl (by decide) rfl hl.1 rfl (Nat.le_of_ble_eq_true rfl) dX0_becomeLike_41 ⟨Nat.zero_le _, Nat.zero_le _⟩ (fun H locs hP hD hS => ?_)
  have hP : va_P G.1 vwCl ((dW G.2.1 α (t3_X0_becomeLike σ τ)) ++ (dW G.2.1 β τ)) H := hP
  have hD : va_D (inW w0) ((dW G.2.1 α (t3_X0_becomeLike σ τ)) ++ (dW G.2.1 β τ)) := hD
  refine lv_aload_n hx hb dX0_becomeLike_44 rfl (lv_at hl 1 rfl) ?_
  refine va_get (D := G.1) (ci := 0) (v := .ref (β 5)) (C := RX0) (T := TX0) (N := 9) hx hb hts hinX0 hown hK.1 hP 6 rfl rfl 4 (by decide) (hts (.fieldLink RX0 27 "GrooveTurns$Disc" "sectors" "[I") (by decide +kernel)) (fun _ h9 => h9) rfl dX0_becomeLike_45 ?_
  refine lv_aload_n hx hb dX0_becomeLike_48 rfl (lv_at hl 0 rfl) ?_
  refine va_get (D := G.1) (ci := 0) (v := .ref (α 5)) (C := RX0) (T := TX0) (N := 9) hx hb hts hinX0 hown hK.1 hP 0 rfl rfl 4 (by decide) (hts (.fieldLink RX0 27 "GrooveTurns$Disc" "sectors" "[I") (by decide +kernel)) (fun _ h9 => h9) rfl dX0_becomeLike_49 ?_
  refine wrN (As := [.ref (β 5), .ref (α 5)]) (rest := []) (c_X4_copyRow l G (β 5) (α 5) 192 (d_se τ) 192 (d_se (t3_X0_becomeLike σ τ)) (by decide) (by decide)) hF (va_cnB (host := RX4) 2 hts gX0_becomeLike_X4_copyRow_n43 rfl rfl rfl (hK.nest 5 rfl) (hts (.initialized RX4) (by decide +kernel)) (by decide +kernel) ⟨Nat.le_of_ble_eq_true rfl, Nat.le_of_ble_eq_true rfl⟩) (hts (.static yX4_copyRow) (by decide +kernel)) hK hP hD hS [11, 5] rfl rfl rfl (by decide) rfl hl.1 rfl (Nat.le_of_ble_eq_true rfl) dX0_becomeLike_52 ⟨Nat.zero_le _, Nat.zero_le _⟩ (fun H locs hP hD hS => ?_)
  have hP : va_P G.1 vwCl ((dW G.2.1 α (t4_X0_becomeLike σ τ)) ++ (dW G.2.1 β τ)) H := hP
  have hD : va_D (inW w0) ((dW G.2.1 α (t4_X0_becomeLike σ τ)) ++ (dW G.2.1 β τ)) := hD
  refine lv_aload_n hx hb dX0_becomeLike_55 rfl (lv_at hl 0 rfl) ?_
  refine lv_aload_n hx hb dX0_becomeLike_56 rfl (lv_at hl 1 rfl) ?_
  refine va_get (D := G.1) (ci := 0) (v := .int (d_sp τ)) (C := RX0) (T := TX0) (N := 9) hx hb hts hinX0 hown hK.1 hP 6 rfl rfl 5 (by decide) (hts (.fieldLink RX0 30 "GrooveTurns$Disc" "sparesTaken" "I") (by decide +kernel)) (fun _ h9 => h9) rfl dX0_becomeLike_57 ?_
  refine va_put (D := G.1) (ci := 0) (v := .int (d_sp τ)) (ty := .int) (C := RX0) (T := TX0) (N := 9) hx hb hts hinX0 tyX0 tyX0_ok nmX0 hown hK.1 hP hD hS 0 rfl rfl 5 (by decide) (hts (.fieldLink RX0 30 "GrooveTurns$Disc" "sparesTaken" "I") (by decide +kernel)) (fun _ h9 => h9) rfl (by decide +kernel) rfl rfl (Nat.le_of_ble_eq_true rfl) dX0_becomeLike_60 (fun H locs hP hD hS => ?_)
  have hP : va_P G.1 vwCl ((dW G.2.1 α (d_sp' (t4_X0_becomeLike σ τ) (d_sp τ))) ++ (dW G.2.1 β τ)) H := hP
  have hD : va_D (inW w0) ((dW G.2.1 α (d_sp' (t4_X0_becomeLike σ τ) (d_sp τ))) ++ (dW G.2.1 β τ)) := hD
  refine lv_aload_n hx hb dX0_becomeLike_63 rfl (lv_at hl 0 rfl) ?_
  refine lv_aload_n hx hb dX0_becomeLike_64 rfl (lv_at hl 1 rfl) ?_
  refine va_get (D := G.1) (ci := 0) (v := .int (d_rd τ)) (C := RX0) (T := TX0) (N := 9) hx hb hts hinX0 hown hK.1 hP 6 rfl rfl 6 (by decide) (hts (.fieldLink RX0 34 "GrooveTurns$Disc" "reads" "I") (by decide +kernel)) (fun _ h9 => h9) rfl dX0_becomeLike_65 ?_
  refine va_put (D := G.1) (ci := 0) (v := .int (d_rd τ)) (ty := .int) (C := RX0) (T := TX0) (N := 9) hx hb hts hinX0 tyX0 tyX0_ok nmX0 hown hK.1 hP hD hS 0 rfl rfl 6 (by decide) (hts (.fieldLink RX0 34 "GrooveTurns$Disc" "reads" "I") (by decide +kernel)) (fun _ h9 => h9) rfl (by decide +kernel) rfl rfl (Nat.le_of_ble_eq_true rfl) dX0_becomeLike_68 (fun H locs hP hD hS => ?_)
  have hP : va_P G.1 vwCl ((dW G.2.1 α (d_rd' (d_sp' (t4_X0_becomeLike σ τ) (d_sp τ)) (d_rd τ))) ++ (dW G.2.1 β τ)) H := hP
  have hD : va_D (inW w0) ((dW G.2.1 α (d_rd' (d_sp' (t4_X0_becomeLike σ τ) (d_sp τ)) (d_rd τ))) ++ (dW G.2.1 β τ)) := hD
  refine lv_aload_n hx hb dX0_becomeLike_71 rfl (lv_at hl 0 rfl) ?_
  refine lv_aload_n hx hb dX0_becomeLike_72 rfl (lv_at hl 1 rfl) ?_
  refine va_get (D := G.1) (ci := 0) (v := .int (d_tk τ)) (C := RX0) (T := TX0) (N := 9) hx hb hts hinX0 hown hK.1 hP 6 rfl rfl 7 (by decide) (hts (.fieldLink RX0 37 "GrooveTurns$Disc" "ticks" "I") (by decide +kernel)) (fun _ h9 => h9) rfl dX0_becomeLike_73 ?_
  refine va_put (D := G.1) (ci := 0) (v := .int (d_tk τ)) (ty := .int) (C := RX0) (T := TX0) (N := 9) hx hb hts hinX0 tyX0 tyX0_ok nmX0 hown hK.1 hP hD hS 0 rfl rfl 7 (by decide) (hts (.fieldLink RX0 37 "GrooveTurns$Disc" "ticks" "I") (by decide +kernel)) (fun _ h9 => h9) rfl (by decide +kernel) rfl rfl (Nat.le_of_ble_eq_true rfl) dX0_becomeLike_76 (fun H locs hP hD hS => ?_)
  have hP : va_P G.1 vwCl ((dW G.2.1 α (t5_X0_becomeLike σ τ)) ++ (dW G.2.1 β τ)) H := hP
  have hD : va_D (inW w0) ((dW G.2.1 α (t5_X0_becomeLike σ τ)) ++ (dW G.2.1 β τ)) := hD
  refine lv_aload_n hx hb dX0_becomeLike_79 rfl (lv_at hl 0 rfl) ?_
  refine lv_aload_n hx hb dX0_becomeLike_80 rfl (lv_at hl 1 rfl) ?_
  refine va_get (D := G.1) (ci := 0) (v := .int (d_hd τ)) (C := RX0) (T := TX0) (N := 9) hx hb hts hinX0 hown hK.1 hP 6 rfl rfl 8 (by decide) (hts (.fieldLink RX0 40 "GrooveTurns$Disc" "head" "I") (by decide +kernel)) (fun _ h9 => h9) rfl dX0_becomeLike_81 ?_
  refine va_put (D := G.1) (ci := 0) (v := .int (d_hd τ)) (ty := .int) (C := RX0) (T := TX0) (N := 9) hx hb hts hinX0 tyX0 tyX0_ok nmX0 hown hK.1 hP hD hS 0 rfl rfl 8 (by decide) (hts (.fieldLink RX0 40 "GrooveTurns$Disc" "head" "I") (by decide +kernel)) (fun _ h9 => h9) rfl (by decide +kernel) rfl rfl (Nat.le_of_ble_eq_true rfl) dX0_becomeLike_84 (fun H locs hP hD hS => ?_)
  have hP : va_P G.1 vwCl ((dW G.2.1 α (d_hd' (t5_X0_becomeLike σ τ) (d_hd τ))) ++ (dW G.2.1 β τ)) H := hP
  have hD : va_D (inW w0) ((dW G.2.1 α (d_hd' (t5_X0_becomeLike σ τ) (d_hd τ))) ++ (dW G.2.1 β τ)) := hD
  rw [show s_X0_becomeLike σ τ = (d_hd' (t5_X0_becomeLike σ τ) (d_hd τ)) from by rw [s_X0_becomeLike]]
  exact W.vret hx hb hr (fun t ht hW => ⟨rfl, by rw [ht]; exact hP, hS.F ht⟩) hS.2.2 dX0_becomeLike_87
def L1_J7_fill (f : NI) (p1 : Int32) : Nat → Int32 → NI → NI
  | 0, v1_2, τ1_0 => τ1_0
  | n + 1, v1_2, τ1_0 => (if 204 ≤ v1_2 then τ1_0 else (L1_J7_fill f p1 n (v1_2 + 1) (upd τ1_0 v1_2.toNatClampNeg p1)))
def okL1_J7_fill (f : NI) (p1 : Int32) : Nat → Int32 → NI → Prop
  | 0, _, _ => False
  | n + 1, v1_2, τ1_0 => (204 ≤ v1_2 → True) ∧ (¬ 204 ≤ v1_2 → ((vp_in v1_2 204) ∧ (okL1_J7_fill f p1 n (v1_2 + 1) (upd τ1_0 v1_2.toNatClampNeg p1))))
def s_J7_fill (f : NI) (p1 : Int32) : NI := (L1_J7_fill f p1 FU 0 f)
def ok_J7_fill (f : NI) (p1 : Int32) : Prop := okL1_J7_fill f p1 FU 0 f
set_option maxHeartbeats 4000000 in
set_option maxRecDepth 100000 in
theorem wL1_J7_fill {p : Program} {e : Env} {s : State} {m : MethodId} {args : Array Value} {below : List Frame} {meth : Method} {c : Code} {w0 : va_W} (l : Launch) (G : GG) (q : Nat) (f : NI) (p1 : Int32) (C0 : cA p s m meth c args cJ7_fill_53178 4 none wsJ7_fill_53178 RJ7) (hK : cK G s) : ∀ (n : Nat) (v1_2 : Int32) (τ1_0 : NI)  (hok : okL1_J7_fill f p1 n v1_2 τ1_0) (H : Heap) (locs : List Loc), va_P G.1 vwCl (aW G.2.1 q 204 τ1_0) H → va_D (inW w0) (aW G.2.1 q 204 τ1_0) → va_S (inW w0) s.heap H locs → ∀ (ls : Array Slot), lv_has ls 4 [(0, .ref q), (1, .int p1), (2, .int v1_2), (3, .int 204)] → W p l e (rmm 0 0) s m args below meth c H locs 0 0 (MQ below (QW G w0 (aW G.2.1 q 204 (L1_J7_fill f p1 n v1_2 τ1_0)) none) args s 0 0 (inW w0)) (F0 m 5 ls []) := by
  obtain ⟨hx, hb, hr, hml, hown, hts, hlocks⟩ := id C0
  have hF : CallFix p m c cJ7_fill_53178 4 s args wsJ7_fill_53178 RJ7 := ⟨hx, hb, hml, hown, hts⟩
  intro n
  induction n with
  | zero =>
    intro v1_2 τ1_0 hok
    exact hok.elim
  | succ n ih =>
    intro v1_2 τ1_0 hok H locs hP hD hS ls hl
    have hok : (204 ≤ v1_2 → True) ∧ (¬ 204 ≤ v1_2 → ((vp_in v1_2 204) ∧ (okL1_J7_fill f p1 n (v1_2 + 1) (upd τ1_0 v1_2.toNatClampNeg p1)))) := hok
    refine lv_iload_n hx hb dJ7_fill_53178_5 rfl (lv_at hl 2 rfl) ?_
    refine lv_iload_n hx hb dJ7_fill_53178_6 rfl (lv_at hl 3 rfl) ?_
    refine lv_icmp_ge (tgt := 20) hx hb dJ7_fill_53178_7 (by decide) (fun (c_1 : 204 ≤ v1_2) => ?_) (fun (c_1 : ¬ 204 ≤ v1_2) => ?_)
    · skip
      rw [show (L1_J7_fill f p1 (n + 1) v1_2 τ1_0) = τ1_0 from by rw [L1_J7_fill]; rw [if_pos c_1]]
      exact W.vret hx hb hr (fun t ht hW => ⟨rfl, by rw [ht]; exact hP, hS.F ht⟩) hS.2.2 dJ7_fill_53178_20
    · skip
      have hok := hok.2 c_1
      obtain ⟨h_2, hok⟩ := hok
      refine lv_aload_n hx hb dJ7_fill_53178_10 rfl (lv_at hl 0 rfl) ?_
      refine lv_iload_n hx hb dJ7_fill_53178_11 rfl (lv_at hl 2 rfl) ?_
      refine lv_iload_n hx hb dJ7_fill_53178_12 rfl (lv_at hl 1 rfl) ?_
      refine va_iast (cA := G.2.1) (n := 204) (f := τ1_0) hx hb hK.1 hP hD hS 0 0 rfl rfl h_2 dJ7_fill_53178_13 (fun H locs hP hD hS => ?_)
      have hP : va_P G.1 vwCl (aW G.2.1 q 204 (upd τ1_0 v1_2.toNatClampNeg p1)) H := hP
      have hD : va_D (inW w0) (aW G.2.1 q 204 (upd τ1_0 v1_2.toNatClampNeg p1)) := hD
      refine lv_iinc (v := (v1_2 + 1)) (lv' := [(2, .int (v1_2 + 1)), (0, .ref q), (1, .int p1), (3, .int 204)]) hx hb dJ7_fill_53178_14 hl (k := 2) rfl rfl (by decide) rfl (fun ls hl => ?_)
      refine lv_goto (tgt := 5) hx hb dJ7_fill_53178_17 (by decide) ?_
      rw [show (L1_J7_fill f p1 (n + 1) v1_2 τ1_0) = (L1_J7_fill f p1 n (v1_2 + 1) (upd τ1_0 v1_2.toNatClampNeg p1)) from by rw [L1_J7_fill]; rw [if_neg c_1]]
      exact ih (v1_2 + 1) (upd τ1_0 v1_2.toNatClampNeg p1) hok _ _ hP hD hS ls (lv_sub hl [1, 2, 0, 3] rfl)
set_option maxHeartbeats 4000000 in
set_option maxRecDepth 100000 in
theorem c_J7_fill (l : Launch) (G : GG) (q : Nat) (f : NI) (p1 : Int32) (hok : ok_J7_fill f p1) : Wr G l yJ7_fill_53178 wsJ7_fill_53178 0 0 [.ref q, .int p1] (aW G.2.1 q 204 f) none (aW G.2.1 q 204 (s_J7_fill f p1)) := by
  refine va_MetF (cc := cJ7_fill_53178) (maxL := 4) (ret := none) (by decide +kernel) rfl ?_
  intro p e s m args below meth c s₁ B hml hv
  obtain ⟨rfl, hP, hK, hD0⟩ := hv
  have C0 : cA p s m meth c ([.ref q, .int p1] : List Value).toArray cJ7_fill_53178 4 none wsJ7_fill_53178 RJ7 := ⟨B.exec, B.bytes, B.returns, hml, findClass_of_methodNamed B.named, atoms_spec (ws := wsJ7_fill_53178) B.pre, B.notSynchronized⟩
  obtain ⟨hx, hb, hr, hml, hown, hts, hlocks⟩ := id C0
  have hF : CallFix p m c cJ7_fill_53178 4 s _ wsJ7_fill_53178 RJ7 := ⟨hx, hb, hml, hown, hts⟩
  obtain ⟨w0, hw0⟩ : ∃ w0 : va_W, w0 = (aW G.2.1 q 204 f) := ⟨_, rfl⟩
  have hD : va_D (inW w0) (aW G.2.1 q 204 f) := by rw [hw0]; exact inW.D hD0
  have hS : va_S (inW w0) s.heap s.heap [] := va_S.rf
  rw [show QW G (aW G.2.1 q 204 f) = QW G w0 from by rw [hw0], show inW (aW G.2.1 q 204 f) = inW w0 from by rw [hw0]]
  have hl := lv_entry ([.ref q, .int p1]) (n := 4) (Nat.le_of_ble_eq_true rfl)
  rw [lg_entry_eq]
  generalize (lg_sl ([.ref q, .int p1]) ++ List.replicate (4 - (lg_sl ([.ref q, .int p1])).length) Slot.unset).toArray = ls at hl ⊢
  have hl : lv_has ls 4 [(0, .ref q), (1, .int p1)] := hl
  have hok : okL1_J7_fill f p1 FU 0 f := hok
  refine lv_iconst (v := 0) hx hb dJ7_fill_53178_0 (by decide) ?_
  refine lv_istore_n (lv' := [(2, .int 0), (0, .ref q), (1, .int p1)]) hx hb dJ7_fill_53178_1 rfl hl (by decide) rfl (fun ls hl => ?_)
  refine lv_aload_n hx hb dJ7_fill_53178_2 rfl (lv_at hl 1 rfl) ?_
  refine va_alen (v := 204) hx hb hK.1 hP 0 0 rfl rfl rfl dJ7_fill_53178_3 ?_
  refine lv_istore_n (lv' := [(3, .int 204), (2, .int 0), (0, .ref q), (1, .int p1)]) hx hb dJ7_fill_53178_4 rfl hl (by decide) rfl (fun ls hl => ?_)
  rw [show s_J7_fill f p1 = (L1_J7_fill f p1 FU 0 f) from by rw [s_J7_fill]]
  exact wL1_J7_fill l G q f p1 C0 hK FU 0 f hok _ _ hP hD hS ls (lv_sub hl [2, 3, 1, 0] rfl)
