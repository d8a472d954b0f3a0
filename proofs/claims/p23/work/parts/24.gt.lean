theorem pm3_210_2 (A0 A1 A2 : va_W) : List.Perm (A0 ++ (A1 ++ A2)) ((A2 ++ A1) ++ A0) := by
  haveI : DecidableEq (Nat × va_E) := fun _ _ => Classical.propDecidable _
  exact List.perm_iff_count.mpr (fun a => by simp only [List.count_append]; omega)
def s_X4_freshTrial (σ : DS) (τ : DS) : DS := (s_X0_becomeLike τ σ)
set_option maxHeartbeats 4000000 in
set_option maxRecDepth 100000 in
theorem c_X4_freshTrial (l : Launch) (G : GG) (γ : Nat) (α : Nat → Nat) (β : Nat → Nat) (π : Nat → Nat) (κ : Nat → Nat) (η : Nat → Nat) (ς : Nat) (σ : DS) (τ : DS) : Wr G l yX4_freshTrial wsX4_freshTrial 3 102 [.ref γ] ((gW γ (α 0) (β 0) (π 0) (κ 0) (η 0) ς) ++ ((dW G.2.1 α σ) ++ (dW G.2.1 β τ))) (some (.ref (β 0))) ((gW γ (α 0) (β 0) (π 0) (κ 0) (η 0) ς) ++ ((dW G.2.1 α σ) ++ (dW G.2.1 β (s_X4_freshTrial σ τ)))) := by
  refine Met.ofW (cc := cX4_freshTrial) (maxL := 1) (ret := (some (.object "GrooveTurns$Disc"))) (by decide) rfl ?_
  intro p e s m args below meth c s₁ B hml hv
  obtain ⟨rfl, hP, hK, hD0⟩ := hv
  have C0 : cA p s m meth c ([.ref γ] : List Value).toArray cX4_freshTrial 1 (some (.object "GrooveTurns$Disc")) wsX4_freshTrial RX4 := ⟨B.exec, B.bytes, B.returns, hml, findClass_of_methodNamed B.named, atoms_spec (ws := wsX4_freshTrial) B.pre, B.notSynchronized⟩
  obtain ⟨hx, hb, hr, hml, hown, hts, hlocks⟩ := id C0
  have hF : CallFix p m c cX4_freshTrial 1 s _ wsX4_freshTrial RX4 := ⟨hx, hb, hml, hown, hts⟩
  have hinX4 : ∀ w ∈ wsX40, w ∈ wsX4_freshTrial := by decide +kernel
  obtain ⟨w0, hw0⟩ : ∃ w0 : va_W, w0 = ((gW γ (α 0) (β 0) (π 0) (κ 0) (η 0) ς) ++ ((dW G.2.1 α σ) ++ (dW G.2.1 β τ))) := ⟨_, rfl⟩
  have hD : va_D (inW w0) ((gW γ (α 0) (β 0) (π 0) (κ 0) (η 0) ς) ++ ((dW G.2.1 α σ) ++ (dW G.2.1 β τ))) := by rw [hw0]; exact inW.D hD0
  have hS : va_S (inW w0) s.heap s.heap [] := va_S.rf
  rw [show QW G ((gW γ (α 0) (β 0) (π 0) (κ 0) (η 0) ς) ++ ((dW G.2.1 α σ) ++ (dW G.2.1 β τ))) = QW G w0 from by rw [hw0], show inW ((gW γ (α 0) (β 0) (π 0) (κ 0) (η 0) ς) ++ ((dW G.2.1 α σ) ++ (dW G.2.1 β τ))) = inW w0 from by rw [hw0]]
  have hl := lv_entry ([.ref γ]) (n := 1) (Nat.le_of_ble_eq_true rfl)
  rw [lg_entry_eq]
  generalize (lg_sl ([.ref γ]) ++ List.replicate (1 - (lg_sl ([.ref γ])).length) Slot.unset).toArray = ls at hl ⊢
  have hl : lv_has ls 1 [(0, .ref γ)] := hl
  refine lv_aload_n hx hb dX4_freshTrial_0 rfl (lv_at hl 0 rfl) ?_
  refine va_get (D := G.1) (ci := 4) (v := .ref (β 0)) (C := RX4) (T := TX4) (N := 6) hx hb hts hinX4 hown hK.1 hP 0 rfl rfl 1 (by decide) (hts (.fieldLink RX4 16 "GrooveTurns" "trial" "LGrooveTurns$Disc;") (by decide +kernel)) (fun _ h9 => h9) rfl dX4_freshTrial_1 ?_
  refine lv_aload_n hx hb dX4_freshTrial_4 rfl (lv_at hl 0 rfl) ?_
  refine va_get (D := G.1) (ci := 4) (v := .ref (α 0)) (C := RX4) (T := TX4) (N := 6) hx hb hts hinX4 hown hK.1 hP 0 rfl rfl 0 (by decide) (hts (.fieldLink RX4 12 "GrooveTurns" "disc" "LGrooveTurns$Disc;") (by decide +kernel)) (fun _ h9 => h9) rfl dX4_freshTrial_5 ?_
  refine wrVP (W1 := ((gW γ (α 0) (β 0) (π 0) (κ 0) (η 0) ς) ++ ((dW G.2.1 α σ) ++ (dW G.2.1 β (s_X0_becomeLike τ σ))))) (As := [.ref (α 0)]) (rest := []) (c_X0_becomeLike l G β α τ σ) hF (cwV 1 hts gX4_freshTrial_X0_becomeLike rfl rfl rfl (by decide +kernel) ⟨Nat.le_of_ble_eq_true rfl, Nat.le_of_ble_eq_true rfl⟩) (va_recv hK.1 hP (ci := 0) (q0 := 7) rfl rfl) hK hP hD hS (pm3_210_2 _ _ _) (pm3_210_2 _ _ _).symm ((fst_app (fst_D _ _) (fst_D _ _))) rfl hl.1 rfl (Nat.le_of_ble_eq_true rfl) dX4_freshTrial_8 ⟨Nat.zero_le _, Nat.zero_le _⟩ (fun H locs hP hD hS => ?_)
  have hP : va_P G.1 vwCl ((gW γ (α 0) (β 0) (π 0) (κ 0) (η 0) ς) ++ ((dW G.2.1 α σ) ++ (dW G.2.1 β (s_X0_becomeLike τ σ)))) H := hP
  have hD : va_D (inW w0) ((gW γ (α 0) (β 0) (π 0) (κ 0) (η 0) ς) ++ ((dW G.2.1 α σ) ++ (dW G.2.1 β (s_X0_becomeLike τ σ)))) := hD
  refine lv_aload_n hx hb dX4_freshTrial_11 rfl (lv_at hl 0 rfl) ?_
  refine va_get (D := G.1) (ci := 4) (v := .ref (β 0)) (C := RX4) (T := TX4) (N := 6) hx hb hts hinX4 hown hK.1 hP 0 rfl rfl 1 (by decide) (hts (.fieldLink RX4 16 "GrooveTurns" "trial" "LGrooveTurns$Disc;") (by decide +kernel)) (fun _ h9 => h9) rfl dX4_freshTrial_12 ?_
  rw [show s_X4_freshTrial σ τ = (s_X0_becomeLike τ σ) from by rw [s_X4_freshTrial]]
  exact W.aret hx hb hr (Or.inl ⟨_, rfl⟩) (Or.inr ⟨_, rfl⟩) (fun t ht hW => ⟨rfl, by rw [ht]; exact hP, hS.F ht⟩) hS.2.2 dX4_freshTrial_15
def s_X4_sector (ρ : QS) (ϖ : PS) (σ : DS) (τ : DS) (hs : HS) (p1 : Int32) (p2 : Int32) : Int32 := (if (s_X4_isAddress p1) = 0 then (-1) else (if p2 = 0 then (s_X4_trackOf (s_X0_sectorFor σ p1)) else (if p2 = 1 then (jrem (s_X0_sectorFor σ p1) 12) else (if p2 = 2 then (s_X0_numberIn σ (s_X0_sectorFor σ p1)) else (if p2 = 3 then (s_X0_blurOf σ (s_X0_sectorFor σ p1)) else (if p2 = 4 then (s_X0_writingsOf σ (s_X0_sectorFor σ p1)) else (if p2 = 5 then (if (s_X4_isSpare (s_X0_sectorFor σ p1)) = 0 then 0 else 1) else (if p2 = 6 then (if (s_X0_isReadable σ (s_X0_sectorFor σ p1)) = 0 then 0 else 1) else (-2)))))))))
set_option maxHeartbeats 4000000 in
set_option maxRecDepth 100000 in
theorem c_X4_sector (l : Launch) (G : GG) (γ : Nat) (κ : Nat → Nat) (π : Nat → Nat) (α : Nat → Nat) (β : Nat → Nat) (η : Nat → Nat) (ς : Nat) (ρ : QS) (ϖ : PS) (σ : DS) (τ : DS) (hs : HS) (p1 : Int32) (p2 : Int32) : Rd G l yX4_sector wsX4_sector 3 63 [.ref γ, .int p1, .int p2] ((gW γ (α 0) (β 0) (π 0) (κ 0) (η 0) ς) ++ ((qW G.2.1 κ ρ) ++ ((pW G.2.1 π ϖ) ++ ((dW G.2.1 α σ) ++ ((dW G.2.1 β τ) ++ (hW G.2.2 η hs)))))) (.int (s_X4_sector ρ ϖ σ τ hs p1 p2)) := by
  refine Met.ofW (cc := cX4_sector) (maxL := 4) (ret := (some .int)) (by decide) rfl ?_
  intro p e s m args below meth c s₁ B hml hv
  obtain ⟨rfl, hP, hK⟩ := hv
  have C0 : cA p s m meth c ([.ref γ, .int p1, .int p2] : List Value).toArray cX4_sector 4 (some .int) wsX4_sector RX4 := ⟨B.exec, B.bytes, B.returns, hml, findClass_of_methodNamed B.named, atoms_spec (ws := wsX4_sector) B.pre, B.notSynchronized⟩
  obtain ⟨hx, hb, hr, hml, hown, hts, hlocks⟩ := id C0
  have hF : CallFix p m c cX4_sector 4 s _ wsX4_sector RX4 := ⟨hx, hb, hml, hown, hts⟩
  have hinX4 : ∀ w ∈ wsX40, w ∈ wsX4_sector := by decide +kernel
  have hl := lv_entry ([.ref γ, .int p1, .int p2]) (n := 4) (Nat.le_of_ble_eq_true rfl)
  rw [lg_entry_eq]
  generalize (lg_sl ([.ref γ, .int p1, .int p2]) ++ List.replicate (4 - (lg_sl ([.ref γ, .int p1, .int p2])).length) Slot.unset).toArray = ls at hl ⊢
  have hl : lv_has ls 4 [(0, .ref γ), (1, .int p1), (2, .int p2)] := hl
  refine lv_iload_n hx hb dX4_sector_0 rfl (lv_at hl 1 rfl) ?_
  refine rdS (As := [.int p1]) (rest := []) (c_X4_isAddress l G p1) hF (va_cwS 1 hts gX4_sector_X4_isAddress rfl rfl rfl (by decide +kernel) ⟨Nat.le_of_ble_eq_true rfl, Nat.le_of_ble_eq_true rfl⟩) hK va_P0 rfl hl.1 rfl (Nat.le_of_ble_eq_true rfl) dX4_sector_1 ⟨Nat.zero_le _, Nat.zero_le _⟩ ?_
  refine lv_if_ne (tgt := 9) hx hb dX4_sector_4 (by decide) (fun (c_1 : ¬ (s_X4_isAddress p1) = 0) => ?_) (fun (c_1 : (s_X4_isAddress p1) = 0) => ?_)
  · skip
    refine lv_aload_n hx hb dX4_sector_9 rfl (lv_at hl 0 rfl) ?_
    refine va_get (D := G.1) (ci := 4) (v := .ref (α 0)) (C := RX4) (T := TX4) (N := 6) hx hb hts hinX4 hown hK.1 hP 0 rfl rfl 0 (by decide) (hts (.fieldLink RX4 12 "GrooveTurns" "disc" "LGrooveTurns$Disc;") (by decide +kernel)) (fun _ h9 => h9) rfl dX4_sector_10 ?_
    refine lv_iload_n hx hb dX4_sector_13 rfl (lv_at hl 1 rfl) ?_
    refine rdV (As := [.int p1]) (rest := []) (c_X0_sectorFor l G α σ p1) hF (cwV 1 hts gX4_sector_X0_sectorFor rfl rfl rfl (by decide +kernel) ⟨Nat.le_of_ble_eq_true rfl, Nat.le_of_ble_eq_true rfl⟩) (va_recv hK.1 hP (ci := 0) (q0 := 7) rfl rfl) hK (hP.sub [7, 8, 9, 10, 11, 12] rfl) rfl hl.1 rfl (Nat.le_of_ble_eq_true rfl) dX4_sector_14 ⟨Nat.zero_le _, Nat.zero_le _⟩ ?_
    refine lv_istore_n (lv' := [(3, .int (s_X0_sectorFor σ p1)), (0, .ref γ), (1, .int p1), (2, .int p2)]) hx hb dX4_sector_17 rfl hl (by decide) rfl (fun ls hl => ?_)
    refine lv_iload_n hx hb dX4_sector_18 rfl (lv_at hl 3 rfl) ?_
    by_cases c_2 : p2 = 0
    · skip
      refine lv_tableIn (tgt := 60) (off := 41) hx hb dX4_sector_19 (by rw [c_2]; decide) (by rw [c_2]; decide) (by rw [c_2]; rfl) (by decide) ?_
      refine lv_iload_n hx hb dX4_sector_60 rfl (lv_at hl 0 rfl) ?_
      refine rdS (As := [.int (s_X0_sectorFor σ p1)]) (rest := []) (c_X4_trackOf l G (s_X0_sectorFor σ p1)) hF (va_cwS 1 hts gX4_sector_X4_trackOf rfl rfl rfl (by decide +kernel) ⟨Nat.le_of_ble_eq_true rfl, Nat.le_of_ble_eq_true rfl⟩) hK va_P0 rfl hl.1 rfl (Nat.le_of_ble_eq_true rfl) dX4_sector_61 ⟨Nat.zero_le _, Nat.zero_le _⟩ ?_
      rw [show s_X4_sector ρ ϖ σ τ hs p1 p2 = (s_X4_trackOf (s_X0_sectorFor σ p1)) from by rw [s_X4_sector]; rw [if_neg c_1, if_pos c_2]]
      exact W.iret hx hb hr (fun t ht hW => ⟨rfl, ht⟩) (fun _ h => nomatch h) dX4_sector_64
    · skip
      by_cases c_3 : p2 = 1
      · skip
        refine lv_tableIn (tgt := 65) (off := 46) hx hb dX4_sector_19 (by rw [c_3]; decide) (by rw [c_3]; decide) (by rw [c_3]; rfl) (by decide) ?_
        refine lv_iload_n hx hb dX4_sector_65 rfl (lv_at hl 0 rfl) ?_
        refine lv_bipush (v := 12) hx hb dX4_sector_66 (by decide) ?_
        refine lv_irem hx hb dX4_sector_68 (by decide) ?_
        rw [show s_X4_sector ρ ϖ σ τ hs p1 p2 = (jrem (s_X0_sectorFor σ p1) 12) from by rw [s_X4_sector]; rw [if_neg c_1, if_neg c_2, if_pos c_3]]
        exact W.iret hx hb hr (fun t ht hW => ⟨rfl, ht⟩) (fun _ h => nomatch h) dX4_sector_69
      · skip
        by_cases c_4 : p2 = 2
        · skip
          refine lv_tableIn (tgt := 70) (off := 51) hx hb dX4_sector_19 (by rw [c_4]; decide) (by rw [c_4]; decide) (by rw [c_4]; rfl) (by decide) ?_
          refine lv_aload_n hx hb dX4_sector_70 rfl (lv_at hl 1 rfl) ?_
          refine va_get (D := G.1) (ci := 4) (v := .ref (α 0)) (C := RX4) (T := TX4) (N := 6) hx hb hts hinX4 hown hK.1 hP 0 rfl rfl 0 (by decide) (hts (.fieldLink RX4 12 "GrooveTurns" "disc" "LGrooveTurns$Disc;") (by decide +kernel)) (fun _ h9 => h9) rfl dX4_sector_71 ?_
          refine lv_iload_n hx hb dX4_sector_74 rfl (lv_at hl 0 rfl) ?_
          refine rdV (As := [.int (s_X0_sectorFor σ p1)]) (rest := []) (c_X0_numberIn l G α σ (s_X0_sectorFor σ p1)) hF (cwV 1 hts gX4_sector_X0_numberIn rfl rfl rfl (by decide +kernel) ⟨Nat.le_of_ble_eq_true rfl, Nat.le_of_ble_eq_true rfl⟩) (va_recv hK.1 hP (ci := 0) (q0 := 7) rfl rfl) hK (hP.sub [7, 8, 9, 10, 11, 12] rfl) rfl hl.1 rfl (Nat.le_of_ble_eq_true rfl) dX4_sector_75 ⟨Nat.zero_le _, Nat.zero_le _⟩ ?_
          rw [show s_X4_sector ρ ϖ σ τ hs p1 p2 = (s_X0_numberIn σ (s_X0_sectorFor σ p1)) from by rw [s_X4_sector]; rw [if_neg c_1, if_neg c_2, if_neg c_3, if_pos c_4]]
          exact W.iret hx hb hr (fun t ht hW => ⟨rfl, ht⟩) (fun _ h => nomatch h) dX4_sector_78
        · skip
          by_cases c_5 : p2 = 3
          · skip
            refine lv_tableIn (tgt := 79) (off := 60) hx hb dX4_sector_19 (by rw [c_5]; decide) (by rw [c_5]; decide) (by rw [c_5]; rfl) (by decide) ?_
            refine lv_aload_n hx hb dX4_sector_79 rfl (lv_at hl 1 rfl) ?_
            refine va_get (D := G.1) (ci := 4) (v := .ref (α 0)) (C := RX4) (T := TX4) (N := 6) hx hb hts hinX4 hown hK.1 hP 0 rfl rfl 0 (by decide) (hts (.fieldLink RX4 12 "GrooveTurns" "disc" "LGrooveTurns$Disc;") (by decide +kernel)) (fun _ h9 => h9) rfl dX4_sector_80 ?_
            refine lv_iload_n hx hb dX4_sector_83 rfl (lv_at hl 0 rfl) ?_
            refine rdV (As := [.int (s_X0_sectorFor σ p1)]) (rest := []) (c_X0_blurOf l G α σ (s_X0_sectorFor σ p1)) hF (cwV 1 hts gX4_sector_X0_blurOf rfl rfl rfl (by decide +kernel) ⟨Nat.le_of_ble_eq_true rfl, Nat.le_of_ble_eq_true rfl⟩) (va_recv hK.1 hP (ci := 0) (q0 := 7) rfl rfl) hK (hP.sub [7, 8, 9, 10, 11, 12] rfl) rfl hl.1 rfl (Nat.le_of_ble_eq_true rfl) dX4_sector_84 ⟨Nat.zero_le _, Nat.zero_le _⟩ ?_
            rw [show s_X4_sector ρ ϖ σ τ hs p1 p2 = (s_X0_blurOf σ (s_X0_sectorFor σ p1)) from by rw [s_X4_sector]; rw [if_neg c_1, if_neg c_2, if_neg c_3, if_neg c_4, if_pos c_5]]
            exact W.iret hx hb hr (fun t ht hW => ⟨rfl, ht⟩) (fun _ h => nomatch h) dX4_sector_87
          · skip
            by_cases c_6 : p2 = 4
            · skip
              refine lv_tableIn (tgt := 88) (off := 69) hx hb dX4_sector_19 (by rw [c_6]; decide) (by rw [c_6]; decide) (by rw [c_6]; rfl) (by decide) ?_
              refine lv_aload_n hx hb dX4_sector_88 rfl (lv_at hl 1 rfl) ?_
              refine va_get (D := G.1) (ci := 4) (v := .ref (α 0)) (C := RX4) (T := TX4) (N := 6) hx hb hts hinX4 hown hK.1 hP 0 rfl rfl 0 (by decide) (hts (.fieldLink RX4 12 "GrooveTurns" "disc" "LGrooveTurns$Disc;") (by decide +kernel)) (fun _ h9 => h9) rfl dX4_sector_89 ?_
              refine lv_iload_n hx hb dX4_sector_92 rfl (lv_at hl 0 rfl) ?_
              refine rdV (As := [.int (s_X0_sectorFor σ p1)]) (rest := []) (c_X0_writingsOf l G α σ (s_X0_sectorFor σ p1)) hF (cwV 1 hts gX4_sector_X0_writingsOf rfl rfl rfl (by decide +kernel) ⟨Nat.le_of_ble_eq_true rfl, Nat.le_of_ble_eq_true rfl⟩) (va_recv hK.1 hP (ci := 0) (q0 := 7) rfl rfl) hK (hP.sub [7, 8, 9, 10, 11, 12] rfl) rfl hl.1 rfl (Nat.le_of_ble_eq_true rfl) dX4_sector_93 ⟨Nat.zero_le _, Nat.zero_le _⟩ ?_
              rw [show s_X4_sector ρ ϖ σ τ hs p1 p2 = (s_X0_writingsOf σ (s_X0_sectorFor σ p1)) from by rw [s_X4_sector]; rw [if_neg c_1, if_neg c_2, if_neg c_3, if_neg c_4, if_neg c_5, if_pos c_6]]
              exact W.iret hx hb hr (fun t ht hW => ⟨rfl, ht⟩) (fun _ h => nomatch h) dX4_sector_96
            · skip
              by_cases c_7 : p2 = 5
              · skip
                refine lv_tableIn (tgt := 97) (off := 78) hx hb dX4_sector_19 (by rw [c_7]; decide) (by rw [c_7]; decide) (by rw [c_7]; rfl) (by decide) ?_
                refine lv_iload_n hx hb dX4_sector_97 rfl (lv_at hl 0 rfl) ?_
                refine rdS (As := [.int (s_X0_sectorFor σ p1)]) (rest := []) (c_X4_isSpare l G (s_X0_sectorFor σ p1)) hF (va_cwS 1 hts gX4_sector_X4_isSpare rfl rfl rfl (by decide +kernel) ⟨Nat.le_of_ble_eq_true rfl, Nat.le_of_ble_eq_true rfl⟩) hK va_P0 rfl hl.1 rfl (Nat.le_of_ble_eq_true rfl) dX4_sector_98 ⟨Nat.zero_le _, Nat.zero_le _⟩ ?_
                refine lv_if_eq (tgt := 108) hx hb dX4_sector_101 (by decide) (fun (c_8 : (s_X4_isSpare (s_X0_sectorFor σ p1)) = 0) => ?_) (fun (c_8 : ¬ (s_X4_isSpare (s_X0_sectorFor σ p1)) = 0) => ?_)
                · skip
                  refine lv_iconst (v := 0) hx hb dX4_sector_108 (by decide) ?_
                  rw [show s_X4_sector ρ ϖ σ τ hs p1 p2 = 0 from by rw [s_X4_sector]; rw [if_neg c_1, if_neg c_2, if_neg c_3, if_neg c_4, if_neg c_5, if_neg c_6, if_pos c_7, if_pos c_8]]
                  exact W.iret hx hb hr (fun t ht hW => ⟨rfl, ht⟩) (fun _ h => nomatch h) dX4_sector_109
                · skip
                  refine lv_iconst (v := 1) hx hb dX4_sector_104 (by decide) ?_
                  refine lv_goto (tgt := 109) hx hb dX4_sector_105 (by decide) ?_
                  rw [show s_X4_sector ρ ϖ σ τ hs p1 p2 = 1 from by rw [s_X4_sector]; rw [if_neg c_1, if_neg c_2, if_neg c_3, if_neg c_4, if_neg c_5, if_neg c_6, if_pos c_7, if_neg c_8]]
                  exact W.iret hx hb hr (fun t ht hW => ⟨rfl, ht⟩) (fun _ h => nomatch h) dX4_sector_109
              · skip
                by_cases c_9 : p2 = 6
                · skip
                  refine lv_tableIn (tgt := 110) (off := 91) hx hb dX4_sector_19 (by rw [c_9]; decide) (by rw [c_9]; decide) (by rw [c_9]; rfl) (by decide) ?_
                  refine lv_aload_n hx hb dX4_sector_110 rfl (lv_at hl 1 rfl) ?_
                  refine va_get (D := G.1) (ci := 4) (v := .ref (α 0)) (C := RX4) (T := TX4) (N := 6) hx hb hts hinX4 hown hK.1 hP 0 rfl rfl 0 (by decide) (hts (.fieldLink RX4 12 "GrooveTurns" "disc" "LGrooveTurns$Disc;") (by decide +kernel)) (fun _ h9 => h9) rfl dX4_sector_111 ?_
                  refine lv_iload_n hx hb dX4_sector_114 rfl (lv_at hl 0 rfl) ?_
                  refine rdV (As := [.int (s_X0_sectorFor σ p1)]) (rest := []) (c_X0_isReadable l G α σ (s_X0_sectorFor σ p1)) hF (cwV 1 hts gX4_sector_X0_isReadable rfl rfl rfl (by decide +kernel) ⟨Nat.le_of_ble_eq_true rfl, Nat.le_of_ble_eq_true rfl⟩) (va_recv hK.1 hP (ci := 0) (q0 := 7) rfl rfl) hK (hP.sub [7, 8, 9, 10, 11, 12] rfl) rfl hl.1 rfl (Nat.le_of_ble_eq_true rfl) dX4_sector_115 ⟨Nat.zero_le _, Nat.zero_le _⟩ ?_
                  refine lv_if_eq (tgt := 125) hx hb dX4_sector_118 (by decide) (fun (c_10 : (s_X0_isReadable σ (s_X0_sectorFor σ p1)) = 0) => ?_) (fun (c_10 : ¬ (s_X0_isReadable σ (s_X0_sectorFor σ p1)) = 0) => ?_)
                  · skip
                    refine lv_iconst (v := 0) hx hb dX4_sector_125 (by decide) ?_
                    rw [show s_X4_sector ρ ϖ σ τ hs p1 p2 = 0 from by rw [s_X4_sector]; rw [if_neg c_1, if_neg c_2, if_neg c_3, if_neg c_4, if_neg c_5, if_neg c_6, if_neg c_7, if_pos c_9, if_pos c_10]]
                    exact W.iret hx hb hr (fun t ht hW => ⟨rfl, ht⟩) (fun _ h => nomatch h) dX4_sector_126
                  · skip
                    refine lv_iconst (v := 1) hx hb dX4_sector_121 (by decide) ?_
                    refine lv_goto (tgt := 126) hx hb dX4_sector_122 (by decide) ?_
                    rw [show s_X4_sector ρ ϖ σ τ hs p1 p2 = 1 from by rw [s_X4_sector]; rw [if_neg c_1, if_neg c_2, if_neg c_3, if_neg c_4, if_neg c_5, if_neg c_6, if_neg c_7, if_pos c_9, if_neg c_10]]
                    exact W.iret hx hb hr (fun t ht hW => ⟨rfl, ht⟩) (fun _ h => nomatch h) dX4_sector_126
                · skip
                  have h9_0 : ¬ p2.toInt = 0 := lv_neT c_2 (by decide)
                  have h9_1 : ¬ p2.toInt = 1 := lv_neT c_3 (by decide)
                  have h9_2 : ¬ p2.toInt = 2 := lv_neT c_4 (by decide)
                  have h9_3 : ¬ p2.toInt = 3 := lv_neT c_5 (by decide)
                  have h9_4 : ¬ p2.toInt = 4 := lv_neT c_6 (by decide)
                  have h9_5 : ¬ p2.toInt = 5 := lv_neT c_7 (by decide)
                  have h9_6 : ¬ p2.toInt = 6 := lv_neT c_9 (by decide)
                  refine lv_tableOut (tgt := 127) hx hb dX4_sector_19 (sw_out (fun k9 h9 h8 => by omega)) (by decide) ?_
                  refine lv_bipush (v := (-2)) hx hb dX4_sector_127 (by decide) ?_
                  rw [show s_X4_sector ρ ϖ σ τ hs p1 p2 = (-2) from by rw [s_X4_sector]; rw [if_neg c_1, if_neg c_2, if_neg c_3, if_neg c_4, if_neg c_5, if_neg c_6, if_neg c_7, if_neg c_9]]
                  exact W.iret hx hb hr (fun t ht hW => ⟨rfl, ht⟩) (fun _ h => nomatch h) dX4_sector_129
  · skip
    refine lv_iconst (v := (-1)) hx hb dX4_sector_7 (by decide) ?_
    rw [show s_X4_sector ρ ϖ σ τ hs p1 p2 = (-1) from by rw [s_X4_sector]; rw [if_pos c_1]]
    exact W.iret hx hb hr (fun t ht hW => ⟨rfl, ht⟩) (fun _ h => nomatch h) dX4_sector_8
def s_X4_track (ρ : QS) (ϖ : PS) (σ : DS) (τ : DS) (hs : HS) (p1 : Int32) (p2 : Int32) : Int32 := (if (s_X4_isTrack p1) = 0 then (-1) else (if p2 = 0 then (s_X0_filledOn σ p1 p1) else (if p2 = 1 then (s_X0_unreadableOn σ p1 p1) else (if p2 = 2 then (s_X0_blurOnTrack σ p1) else (if p2 = 3 then (s_X0_writingsOnTrack σ p1) else (-2))))))
def ok_X4_track (ρ : QS) (ϖ : PS) (σ : DS) (τ : DS) (hs : HS) (p1 : Int32) (p2 : Int32) : Prop := ((s_X4_isTrack p1) = 0 → True) ∧ (¬ (s_X4_isTrack p1) = 0 → ((p2 = 0 → (ok_X0_filledOn σ p1 p1)) ∧ (¬ p2 = 0 → ((p2 = 1 → (ok_X0_unreadableOn σ p1 p1)) ∧ (¬ p2 = 1 → ((p2 = 2 → (ok_X0_blurOnTrack σ p1)) ∧ (¬ p2 = 2 → ((p2 = 3 → (ok_X0_writingsOnTrack σ p1)) ∧ (¬ p2 = 3 → True)))))))))
set_option maxHeartbeats 4000000 in
set_option maxRecDepth 100000 in
theorem c_X4_track (l : Launch) (G : GG) (γ : Nat) (κ : Nat → Nat) (π : Nat → Nat) (α : Nat → Nat) (β : Nat → Nat) (η : Nat → Nat) (ς : Nat) (ρ : QS) (ϖ : PS) (σ : DS) (τ : DS) (hs : HS) (p1 : Int32) (p2 : Int32) (hok : ok_X4_track ρ ϖ σ τ hs p1 p2) : Rd G l yX4_track wsX4_track 4 88 [.ref γ, .int p1, .int p2] ((gW γ (α 0) (β 0) (π 0) (κ 0) (η 0) ς) ++ ((qW G.2.1 κ ρ) ++ ((pW G.2.1 π ϖ) ++ ((dW G.2.1 α σ) ++ ((dW G.2.1 β τ) ++ (hW G.2.2 η hs)))))) (.int (s_X4_track ρ ϖ σ τ hs p1 p2)) := by
  refine Met.ofW (cc := cX4_track) (maxL := 3) (ret := (some .int)) (by decide) rfl ?_
  intro p e s m args below meth c s₁ B hml hv
  obtain ⟨rfl, hP, hK⟩ := hv
  have C0 : cA p s m meth c ([.ref γ, .int p1, .int p2] : List Value).toArray cX4_track 3 (some .int) wsX4_track RX4 := ⟨B.exec, B.bytes, B.returns, hml, findClass_of_methodNamed B.named, atoms_spec (ws := wsX4_track) B.pre, B.notSynchronized⟩
  obtain ⟨hx, hb, hr, hml, hown, hts, hlocks⟩ := id C0
  have hF : CallFix p m c cX4_track 3 s _ wsX4_track RX4 := ⟨hx, hb, hml, hown, hts⟩
  have hinX4 : ∀ w ∈ wsX40, w ∈ wsX4_track := by decide +kernel
  have hl := lv_entry ([.ref γ, .int p1, .int p2]) (n := 3) (Nat.le_of_ble_eq_true rfl)
  rw [lg_entry_eq]
  generalize (lg_sl ([.ref γ, .int p1, .int p2]) ++ List.replicate (3 - (lg_sl ([.ref γ, .int p1, .int p2])).length) Slot.unset).toArray = ls at hl ⊢
  have hl : lv_has ls 3 [(0, .ref γ), (1, .int p1), (2, .int p2)] := hl
  have hok : ((s_X4_isTrack p1) = 0 → True) ∧ (¬ (s_X4_isTrack p1) = 0 → ((p2 = 0 → (ok_X0_filledOn σ p1 p1)) ∧ (¬ p2 = 0 → ((p2 = 1 → (ok_X0_unreadableOn σ p1 p1)) ∧ (¬ p2 = 1 → ((p2 = 2 → (ok_X0_blurOnTrack σ p1)) ∧ (¬ p2 = 2 → ((p2 = 3 → (ok_X0_writingsOnTrack σ p1)) ∧ (¬ p2 = 3 → True))))))))) := hok
  refine lv_iload_n hx hb dX4_track_0 rfl (lv_at hl 1 rfl) ?_
  refine rdS (As := [.int p1]) (rest := []) (c_X4_isTrack l G p1) hF (va_cwS 1 hts gX4_track_X4_isTrack rfl rfl rfl (by decide +kernel) ⟨Nat.le_of_ble_eq_true rfl, Nat.le_of_ble_eq_true rfl⟩) hK va_P0 rfl hl.1 rfl (Nat.le_of_ble_eq_true rfl) dX4_track_1 ⟨Nat.zero_le _, Nat.zero_le _⟩ ?_
  refine lv_if_ne (tgt := 9) hx hb dX4_track_4 (by decide) (fun (c_1 : ¬ (s_X4_isTrack p1) = 0) => ?_) (fun (c_1 : (s_X4_isTrack p1) = 0) => ?_)
  · skip
    have hok := hok.2 c_1
    refine lv_iload_n hx hb dX4_track_9 rfl (lv_at hl 2 rfl) ?_
    by_cases c_2 : p2 = 0
    · skip
      have hok := hok.1 c_2
      refine lv_tableIn (tgt := 40) (off := 30) hx hb dX4_track_10 (by rw [c_2]; decide) (by rw [c_2]; decide) (by rw [c_2]; rfl) (by decide) ?_
      have h_3 := hok
      refine lv_aload_n hx hb dX4_track_40 rfl (lv_at hl 0 rfl) ?_
      refine va_get (D := G.1) (ci := 4) (v := .ref (α 0)) (C := RX4) (T := TX4) (N := 6) hx hb hts hinX4 hown hK.1 hP 0 rfl rfl 0 (by decide) (hts (.fieldLink RX4 12 "GrooveTurns" "disc" "LGrooveTurns$Disc;") (by decide +kernel)) (fun _ h9 => h9) rfl dX4_track_41 ?_
      refine lv_iload_n hx hb dX4_track_44 rfl (lv_at hl 1 rfl) ?_
      refine lv_iload_n hx hb dX4_track_45 rfl (lv_at hl 1 rfl) ?_
      refine rdV (As := [.int p1, .int p1]) (rest := []) (c_X0_filledOn l G α σ p1 p1 h_3) hF (cwV 2 hts gX4_track_X0_filledOn rfl rfl rfl (by decide +kernel) ⟨Nat.le_of_ble_eq_true rfl, Nat.le_of_ble_eq_true rfl⟩) (va_recv hK.1 hP (ci := 0) (q0 := 7) rfl rfl) hK (hP.sub [7, 8, 9, 10, 11, 12] rfl) rfl hl.1 rfl (Nat.le_of_ble_eq_true rfl) dX4_track_46 ⟨Nat.zero_le _, Nat.zero_le _⟩ ?_
      rw [show s_X4_track ρ ϖ σ τ hs p1 p2 = (s_X0_filledOn σ p1 p1) from by rw [s_X4_track]; rw [if_neg c_1, if_pos c_2]]
      exact W.iret hx hb hr (fun t ht hW => ⟨rfl, ht⟩) (fun _ h => nomatch h) dX4_track_49
    · skip
      have hok := hok.2 c_2
      by_cases c_4 : p2 = 1
      · skip
        have hok := hok.1 c_4
        refine lv_tableIn (tgt := 50) (off := 40) hx hb dX4_track_10 (by rw [c_4]; decide) (by rw [c_4]; decide) (by rw [c_4]; rfl) (by decide) ?_
        have h_5 := hok
        refine lv_aload_n hx hb dX4_track_50 rfl (lv_at hl 0 rfl) ?_
        refine va_get (D := G.1) (ci := 4) (v := .ref (α 0)) (C := RX4) (T := TX4) (N := 6) hx hb hts hinX4 hown hK.1 hP 0 rfl rfl 0 (by decide) (hts (.fieldLink RX4 12 "GrooveTurns" "disc" "LGrooveTurns$Disc;") (by decide +kernel)) (fun _ h9 => h9) rfl dX4_track_51 ?_
        refine lv_iload_n hx hb dX4_track_54 rfl (lv_at hl 1 rfl) ?_
        refine lv_iload_n hx hb dX4_track_55 rfl (lv_at hl 1 rfl) ?_
        refine rdV (As := [.int p1, .int p1]) (rest := []) (c_X0_unreadableOn l G α σ p1 p1 h_5) hF (cwV 2 hts gX4_track_X0_unreadableOn rfl rfl rfl (by decide +kernel) ⟨Nat.le_of_ble_eq_true rfl, Nat.le_of_ble_eq_true rfl⟩) (va_recv hK.1 hP (ci := 0) (q0 := 7) rfl rfl) hK (hP.sub [7, 8, 9, 10, 11, 12] rfl) rfl hl.1 rfl (Nat.le_of_ble_eq_true rfl) dX4_track_56 ⟨Nat.zero_le _, Nat.zero_le _⟩ ?_
        rw [show s_X4_track ρ ϖ σ τ hs p1 p2 = (s_X0_unreadableOn σ p1 p1) from by rw [s_X4_track]; rw [if_neg c_1, if_neg c_2, if_pos c_4]]
        exact W.iret hx hb hr (fun t ht hW => ⟨rfl, ht⟩) (fun _ h => nomatch h) dX4_track_59
      · skip
        have hok := hok.2 c_4
        by_cases c_6 : p2 = 2
        · skip
          have hok := hok.1 c_6
          refine lv_tableIn (tgt := 60) (off := 50) hx hb dX4_track_10 (by rw [c_6]; decide) (by rw [c_6]; decide) (by rw [c_6]; rfl) (by decide) ?_
          have h_7 := hok
          refine lv_aload_n hx hb dX4_track_60 rfl (lv_at hl 0 rfl) ?_
          refine va_get (D := G.1) (ci := 4) (v := .ref (α 0)) (C := RX4) (T := TX4) (N := 6) hx hb hts hinX4 hown hK.1 hP 0 rfl rfl 0 (by decide) (hts (.fieldLink RX4 12 "GrooveTurns" "disc" "LGrooveTurns$Disc;") (by decide +kernel)) (fun _ h9 => h9) rfl dX4_track_61 ?_
          refine lv_iload_n hx hb dX4_track_64 rfl (lv_at hl 1 rfl) ?_
          refine rdV (As := [.int p1]) (rest := []) (c_X0_blurOnTrack l G α σ p1 h_7) hF (cwV 1 hts gX4_track_X0_blurOnTrack rfl rfl rfl (by decide +kernel) ⟨Nat.le_of_ble_eq_true rfl, Nat.le_of_ble_eq_true rfl⟩) (va_recv hK.1 hP (ci := 0) (q0 := 7) rfl rfl) hK (hP.sub [7, 8, 9, 10, 11, 12] rfl) rfl hl.1 rfl (Nat.le_of_ble_eq_true rfl) dX4_track_65 ⟨Nat.zero_le _, Nat.zero_le _⟩ ?_
          rw [show s_X4_track ρ ϖ σ τ hs p1 p2 = (s_X0_blurOnTrack σ p1) from by rw [s_X4_track]; rw [if_neg c_1, if_neg c_2, if_neg c_4, if_pos c_6]]
          exact W.iret hx hb hr (fun t ht hW => ⟨rfl, ht⟩) (fun _ h => nomatch h) dX4_track_68
        · skip
          have hok := hok.2 c_6
          by_cases c_8 : p2 = 3
          · skip
            have hok := hok.1 c_8
            refine lv_tableIn (tgt := 69) (off := 59) hx hb dX4_track_10 (by rw [c_8]; decide) (by rw [c_8]; decide) (by rw [c_8]; rfl) (by decide) ?_
            have h_9 := hok
            refine lv_aload_n hx hb dX4_track_69 rfl (lv_at hl 0 rfl) ?_
            refine va_get (D := G.1) (ci := 4) (v := .ref (α 0)) (C := RX4) (T := TX4) (N := 6) hx hb hts hinX4 hown hK.1 hP 0 rfl rfl 0 (by decide) (hts (.fieldLink RX4 12 "GrooveTurns" "disc" "LGrooveTurns$Disc;") (by decide +kernel)) (fun _ h9 => h9) rfl dX4_track_70 ?_
            refine lv_iload_n hx hb dX4_track_73 rfl (lv_at hl 1 rfl) ?_
            refine rdV (As := [.int p1]) (rest := []) (c_X0_writingsOnTrack l G α σ p1 h_9) hF (cwV 1 hts gX4_track_X0_writingsOnTrack rfl rfl rfl (by decide +kernel) ⟨Nat.le_of_ble_eq_true rfl, Nat.le_of_ble_eq_true rfl⟩) (va_recv hK.1 hP (ci := 0) (q0 := 7) rfl rfl) hK (hP.sub [7, 8, 9, 10, 11, 12] rfl) rfl hl.1 rfl (Nat.le_of_ble_eq_true rfl) dX4_track_74 ⟨Nat.zero_le _, Nat.zero_le _⟩ ?_
            rw [show s_X4_track ρ ϖ σ τ hs p1 p2 = (s_X0_writingsOnTrack σ p1) from by rw [s_X4_track]; rw [if_neg c_1, if_neg c_2, if_neg c_4, if_neg c_6, if_pos c_8]]
            exact W.iret hx hb hr (fun t ht hW => ⟨rfl, ht⟩) (fun _ h => nomatch h) dX4_track_77
          · skip
            have h9_0 : ¬ p2.toInt = 0 := lv_neT c_2 (by decide)
            have h9_1 : ¬ p2.toInt = 1 := lv_neT c_4 (by decide)
            have h9_2 : ¬ p2.toInt = 2 := lv_neT c_6 (by decide)
            have h9_3 : ¬ p2.toInt = 3 := lv_neT c_8 (by decide)
            refine lv_tableOut (tgt := 78) hx hb dX4_track_10 (sw_out (fun k9 h9 h8 => by omega)) (by decide) ?_
            refine lv_bipush (v := (-2)) hx hb dX4_track_78 (by decide) ?_
            rw [show s_X4_track ρ ϖ σ τ hs p1 p2 = (-2) from by rw [s_X4_track]; rw [if_neg c_1, if_neg c_2, if_neg c_4, if_neg c_6, if_neg c_8]]
            exact W.iret hx hb hr (fun t ht hW => ⟨rfl, ht⟩) (fun _ h => nomatch h) dX4_track_80
  · skip
    refine lv_iconst (v := (-1)) hx hb dX4_track_7 (by decide) ?_
    rw [show s_X4_track ρ ϖ σ τ hs p1 p2 = (-1) from by rw [s_X4_track]; rw [if_pos c_1]]
    exact W.iret hx hb hr (fun t ht hW => ⟨rfl, ht⟩) (fun _ h => nomatch h) dX4_track_8
def s_X4_count (ρ : QS) (ϖ : PS) (σ : DS) (τ : DS) (hs : HS) (p1 : Int32) : Int32 := (if p1 < 0 then (if p1 = 5 then (d_tk σ) else (if p1 = 6 then (d_hd σ) else (if p1 = 7 then (s_X0_sectorUnderHead σ) else (if p1 = 8 then (s_X0_sparesLeft σ) else (if p1 = 9 then (s_X0_filledOn σ 0 16) else (if p1 = 10 then (s_X0_unreadableOn σ 0 16) else (if p1 = 11 then ((s_X0_writingsOnTracks σ 0 1) + (s_X0_writingsOnTrack σ 16)) else (if p1 = 12 then (d_rd σ) else (if p1 = 13 then (s_X0_writingsOnTracks σ 0 2) else (if p1 = 14 then (s_X0_writingsOnTracks σ 1 2) else (if p1 = 15 then (s_X0_greatestBlur σ) else (if p1 = 16 then (p_le ϖ) else (if p1 = 17 then (h_sz hs) else (-2)))))))))))))) else (if 5 ≤ p1 then (if p1 = 5 then (d_tk σ) else (if p1 = 6 then (d_hd σ) else (if p1 = 7 then (s_X0_sectorUnderHead σ) else (if p1 = 8 then (s_X0_sparesLeft σ) else (if p1 = 9 then (s_X0_filledOn σ 0 16) else (if p1 = 10 then (s_X0_unreadableOn σ 0 16) else (if p1 = 11 then ((s_X0_writingsOnTracks σ 0 1) + (s_X0_writingsOnTrack σ 16)) else (if p1 = 12 then (d_rd σ) else (if p1 = 13 then (s_X0_writingsOnTracks σ 0 2) else (if p1 = 14 then (s_X0_writingsOnTracks σ 1 2) else (if p1 = 15 then (s_X0_greatestBlur σ) else (if p1 = 16 then (p_le ϖ) else (if p1 = 17 then (h_sz hs) else (-2)))))))))))))) else (s_X0_settingOf σ p1)))
def ok_X4_count (ρ : QS) (ϖ : PS) (σ : DS) (τ : DS) (hs : HS) (p1 : Int32) : Prop := (p1 < 0 → ((p1 = 5 → True) ∧ (¬ p1 = 5 → ((p1 = 6 → True) ∧ (¬ p1 = 6 → ((p1 = 7 → True) ∧ (¬ p1 = 7 → ((p1 = 8 → True) ∧ (¬ p1 = 8 → ((p1 = 9 → (ok_X0_filledOn σ 0 16)) ∧ (¬ p1 = 9 → ((p1 = 10 → (ok_X0_unreadableOn σ 0 16)) ∧ (¬ p1 = 10 → ((p1 = 11 → ((ok_X0_writingsOnTracks σ 0 1) ∧ (ok_X0_writingsOnTrack σ 16))) ∧ (¬ p1 = 11 → ((p1 = 12 → True) ∧ (¬ p1 = 12 → ((p1 = 13 → (ok_X0_writingsOnTracks σ 0 2)) ∧ (¬ p1 = 13 → ((p1 = 14 → (ok_X0_writingsOnTracks σ 1 2)) ∧ (¬ p1 = 14 → ((p1 = 15 → (ok_X0_greatestBlur σ)) ∧ (¬ p1 = 15 → True))))))))))))))))))))))) ∧ (¬ p1 < 0 → ((5 ≤ p1 → ((p1 = 5 → True) ∧ (¬ p1 = 5 → ((p1 = 6 → True) ∧ (¬ p1 = 6 → ((p1 = 7 → True) ∧ (¬ p1 = 7 → ((p1 = 8 → True) ∧ (¬ p1 = 8 → ((p1 = 9 → (ok_X0_filledOn σ 0 16)) ∧ (¬ p1 = 9 → ((p1 = 10 → (ok_X0_unreadableOn σ 0 16)) ∧ (¬ p1 = 10 → ((p1 = 11 → ((ok_X0_writingsOnTracks σ 0 1) ∧ (ok_X0_writingsOnTrack σ 16))) ∧ (¬ p1 = 11 → ((p1 = 12 → True) ∧ (¬ p1 = 12 → ((p1 = 13 → (ok_X0_writingsOnTracks σ 0 2)) ∧ (¬ p1 = 13 → ((p1 = 14 → (ok_X0_writingsOnTracks σ 1 2)) ∧ (¬ p1 = 14 → ((p1 = 15 → (ok_X0_greatestBlur σ)) ∧ (¬ p1 = 15 → True))))))))))))))))))))))) ∧ (¬ 5 ≤ p1 → True)))
set_option maxHeartbeats 4000000 in
set_option maxRecDepth 100000 in
theorem c_X4_count (l : Launch) (G : GG) (γ : Nat) (κ : Nat → Nat) (π : Nat → Nat) (α : Nat → Nat) (β : Nat → Nat) (η : Nat → Nat) (ς : Nat) (ρ : QS) (ϖ : PS) (σ : DS) (τ : DS) (hs : HS) (p1 : Int32) (tb : Nat × Nat × Nat) (hok : ok_X4_count ρ ϖ σ τ hs p1) : Met l yX4_count wsX4_count (rmm 4 89) (PRT G [.ref γ, .int p1] ((gW γ (α 0) (β 0) (π 0) (κ 0) (η 0) ς) ++ ((qW G.2.1 κ ρ) ++ ((pW G.2.1 π ϖ) ++ ((dW G.2.1 α σ) ++ ((dW G.2.1 β τ) ++ (hW G.2.2 η hs)))))) (sT tb)) (QR (some (.int (s_X4_count ρ ϖ σ τ hs p1)))) 0 0 (fun _ => False) := by
  refine Met.ofW (cc := cX4_count) (maxL := 2) (ret := (some .int)) (by decide) rfl ?_
  intro p e s m args below meth c s₁ B hml hv
  obtain ⟨rfl, hP, hK, hT⟩ := hv
  have hS : va_S (fun _ => False) s.heap s.heap [] := va_S.rf
  have C0 : cA p s m meth c ([.ref γ, .int p1] : List Value).toArray cX4_count 2 (some .int) wsX4_count RX4 := ⟨B.exec, B.bytes, B.returns, hml, findClass_of_methodNamed B.named, atoms_spec (ws := wsX4_count) B.pre, B.notSynchronized⟩
  obtain ⟨hx, hb, hr, hml, hown, hts, hlocks⟩ := id C0
  have hF : CallFix p m c cX4_count 2 s _ wsX4_count RX4 := ⟨hx, hb, hml, hown, hts⟩
  have hinX0 : ∀ w ∈ wsX00, w ∈ wsX4_count := by decide +kernel
  have hinX1 : ∀ w ∈ wsX10, w ∈ wsX4_count := by decide +kernel
  have hinX2 : ∀ w ∈ wsX20, w ∈ wsX4_count := by decide +kernel
  have hinX4 : ∀ w ∈ wsX40, w ∈ wsX4_count := by decide +kernel
  have hl := lv_entry ([.ref γ, .int p1]) (n := 2) (Nat.le_of_ble_eq_true rfl)
  rw [lg_entry_eq]
  generalize (lg_sl ([.ref γ, .int p1]) ++ List.replicate (2 - (lg_sl ([.ref γ, .int p1])).length) Slot.unset).toArray = ls at hl ⊢
  have hl : lv_has ls 2 [(0, .ref γ), (1, .int p1)] := hl
  have hok : (p1 < 0 → ((p1 = 5 → True) ∧ (¬ p1 = 5 → ((p1 = 6 → True) ∧ (¬ p1 = 6 → ((p1 = 7 → True) ∧ (¬ p1 = 7 → ((p1 = 8 → True) ∧ (¬ p1 = 8 → ((p1 = 9 → (ok_X0_filledOn σ 0 16)) ∧ (¬ p1 = 9 → ((p1 = 10 → (ok_X0_unreadableOn σ 0 16)) ∧ (¬ p1 = 10 → ((p1 = 11 → ((ok_X0_writingsOnTracks σ 0 1) ∧ (ok_X0_writingsOnTrack σ 16))) ∧ (¬ p1 = 11 → ((p1 = 12 → True) ∧ (¬ p1 = 12 → ((p1 = 13 → (ok_X0_writingsOnTracks σ 0 2)) ∧ (¬ p1 = 13 → ((p1 = 14 → (ok_X0_writingsOnTracks σ 1 2)) ∧ (¬ p1 = 14 → ((p1 = 15 → (ok_X0_greatestBlur σ)) ∧ (¬ p1 = 15 → True))))))))))))))))))))))) ∧ (¬ p1 < 0 → ((5 ≤ p1 → ((p1 = 5 → True) ∧ (¬ p1 = 5 → ((p1 = 6 → True) ∧ (¬ p1 = 6 → ((p1 = 7 → True) ∧ (¬ p1 = 7 → ((p1 = 8 → True) ∧ (¬ p1 = 8 → ((p1 = 9 → (ok_X0_filledOn σ 0 16)) ∧ (¬ p1 = 9 → ((p1 = 10 → (ok_X0_unreadableOn σ 0 16)) ∧ (¬ p1 = 10 → ((p1 = 11 → ((ok_X0_writingsOnTracks σ 0 1) ∧ (ok_X0_writingsOnTrack σ 16))) ∧ (¬ p1 = 11 → ((p1 = 12 → True) ∧ (¬ p1 = 12 → ((p1 = 13 → (ok_X0_writingsOnTracks σ 0 2)) ∧ (¬ p1 = 13 → ((p1 = 14 → (ok_X0_writingsOnTracks σ 1 2)) ∧ (¬ p1 = 14 → ((p1 = 15 → (ok_X0_greatestBlur σ)) ∧ (¬ p1 = 15 → True))))))))))))))))))))))) ∧ (¬ 5 ≤ p1 → True))) := hok
  refine lv_iload_n hx hb dX4_count_0 rfl (lv_at hl 1 rfl) ?_
  refine lv_if_lt (tgt := 21) hx hb dX4_count_1 (by decide) (fun (c_1 : p1 < 0) => ?_) (fun (c_1 : ¬ p1 < 0) => ?_)
  · skip
    have hok := hok.1 c_1
    refine lv_iload_n hx hb dX4_count_21 rfl (lv_at hl 1 rfl) ?_
    by_cases c_2 : p1 = 5
    · skip
      refine lv_tableIn (tgt := 88) (off := 66) hx hb dX4_count_22 (by rw [c_2]; decide) (by rw [c_2]; decide) (by rw [c_2]; rfl) (by decide) ?_
      refine lv_aload_n hx hb dX4_count_88 rfl (lv_at hl 0 rfl) ?_
      refine va_get (D := G.1) (ci := 4) (v := .ref (α 0)) (C := RX4) (T := TX4) (N := 6) hx hb hts hinX4 hown hK.1 hP 0 rfl rfl 0 (by decide) (hts (.fieldLink RX4 12 "GrooveTurns" "disc" "LGrooveTurns$Disc;") (by decide +kernel)) (fun _ h9 => h9) rfl dX4_count_89 ?_
      refine va_get (D := G.1) (ci := 0) (v := .int (d_tk σ)) (C := RX0) (T := TX0) (N := 9) hx hb hts hinX0 hown hK.1 hP 7 rfl rfl 7 (by decide) (hts (.fieldLink RX4 136 "GrooveTurns$Disc" "ticks" "I") (by decide +kernel)) (fun _ h9 => h9) rfl dX4_count_92 ?_
      rw [show s_X4_count ρ ϖ σ τ hs p1 = (d_tk σ) from by rw [s_X4_count]; rw [if_pos c_1, if_pos c_2]]
      exact W.iret hx hb hr (fun t ht hW => ⟨rfl, ht⟩) (fun _ h => nomatch h) dX4_count_95
    · skip
      have hok := hok.2 c_2
      by_cases c_3 : p1 = 6
      · skip
        refine lv_tableIn (tgt := 96) (off := 74) hx hb dX4_count_22 (by rw [c_3]; decide) (by rw [c_3]; decide) (by rw [c_3]; rfl) (by decide) ?_
        refine lv_aload_n hx hb dX4_count_96 rfl (lv_at hl 0 rfl) ?_
        refine va_get (D := G.1) (ci := 4) (v := .ref (α 0)) (C := RX4) (T := TX4) (N := 6) hx hb hts hinX4 hown hK.1 hP 0 rfl rfl 0 (by decide) (hts (.fieldLink RX4 12 "GrooveTurns" "disc" "LGrooveTurns$Disc;") (by decide +kernel)) (fun _ h9 => h9) rfl dX4_count_97 ?_
        refine va_get (D := G.1) (ci := 0) (v := .int (d_hd σ)) (C := RX0) (T := TX0) (N := 9) hx hb hts hinX0 hown hK.1 hP 7 rfl rfl 8 (by decide) (hts (.fieldLink RX4 140 "GrooveTurns$Disc" "head" "I") (by decide +kernel)) (fun _ h9 => h9) rfl dX4_count_100 ?_
        rw [show s_X4_count ρ ϖ σ τ hs p1 = (d_hd σ) from by rw [s_X4_count]; rw [if_pos c_1, if_neg c_2, if_pos c_3]]
        exact W.iret hx hb hr (fun t ht hW => ⟨rfl, ht⟩) (fun _ h => nomatch h) dX4_count_103
      · skip
        have hok := hok.2 c_3
        by_cases c_4 : p1 = 7
        · skip
          refine lv_tableIn (tgt := 104) (off := 82) hx hb dX4_count_22 (by rw [c_4]; decide) (by rw [c_4]; decide) (by rw [c_4]; rfl) (by decide) ?_
          refine lv_aload_n hx hb dX4_count_104 rfl (lv_at hl 0 rfl) ?_
          refine va_get (D := G.1) (ci := 4) (v := .ref (α 0)) (C := RX4) (T := TX4) (N := 6) hx hb hts hinX4 hown hK.1 hP 0 rfl rfl 0 (by decide) (hts (.fieldLink RX4 12 "GrooveTurns" "disc" "LGrooveTurns$Disc;") (by decide +kernel)) (fun _ h9 => h9) rfl dX4_count_105 ?_
          refine rdV (As := []) (rest := []) (c_X0_sectorUnderHead l G α σ) hF (cwV 0 hts gX4_count_X0_sectorUnderHead rfl rfl rfl (by decide +kernel) ⟨Nat.le_of_ble_eq_true rfl, Nat.le_of_ble_eq_true rfl⟩) (va_recv hK.1 hP (ci := 0) (q0 := 7) rfl rfl) hK (hP.sub [7, 8, 9, 10, 11, 12] rfl) rfl hl.1 rfl (Nat.le_of_ble_eq_true rfl) dX4_count_108 ⟨Nat.zero_le _, Nat.zero_le _⟩ ?_
          rw [show s_X4_count ρ ϖ σ τ hs p1 = (s_X0_sectorUnderHead σ) from by rw [s_X4_count]; rw [if_pos c_1, if_neg c_2, if_neg c_3, if_pos c_4]]
          exact W.iret hx hb hr (fun t ht hW => ⟨rfl, ht⟩) (fun _ h => nomatch h) dX4_count_111
        · skip
          have hok := hok.2 c_4
          by_cases c_5 : p1 = 8
          · skip
            refine lv_tableIn (tgt := 112) (off := 90) hx hb dX4_count_22 (by rw [c_5]; decide) (by rw [c_5]; decide) (by rw [c_5]; rfl) (by decide) ?_
            refine lv_aload_n hx hb dX4_count_112 rfl (lv_at hl 0 rfl) ?_
            refine va_get (D := G.1) (ci := 4) (v := .ref (α 0)) (C := RX4) (T := TX4) (N := 6) hx hb hts hinX4 hown hK.1 hP 0 rfl rfl 0 (by decide) (hts (.fieldLink RX4 12 "GrooveTurns" "disc" "LGrooveTurns$Disc;") (by decide +kernel)) (fun _ h9 => h9) rfl dX4_count_113 ?_
            refine rdV (As := []) (rest := []) (c_X0_sparesLeft l G α σ) hF (cwV 0 hts gX4_count_X0_sparesLeft rfl rfl rfl (by decide +kernel) ⟨Nat.le_of_ble_eq_true rfl, Nat.le_of_ble_eq_true rfl⟩) (va_recv hK.1 hP (ci := 0) (q0 := 7) rfl rfl) hK (hP.sub [7, 8, 9, 10, 11, 12] rfl) rfl hl.1 rfl (Nat.le_of_ble_eq_true rfl) dX4_count_116 ⟨Nat.zero_le _, Nat.zero_le _⟩ ?_
            rw [show s_X4_count ρ ϖ σ τ hs p1 = (s_X0_sparesLeft σ) from by rw [s_X4_count]; rw [if_pos c_1, if_neg c_2, if_neg c_3, if_neg c_4, if_pos c_5]]
            exact W.iret hx hb hr (fun t ht hW => ⟨rfl, ht⟩) (fun _ h => nomatch h) dX4_count_119
          · skip
            have hok := hok.2 c_5
            by_cases c_6 : p1 = 9
            · skip
              have hok := hok.1 c_6
              refine lv_tableIn (tgt := 120) (off := 98) hx hb dX4_count_22 (by rw [c_6]; decide) (by rw [c_6]; decide) (by rw [c_6]; rfl) (by decide) ?_
              have h_7 := hok
              refine lv_aload_n hx hb dX4_count_120 rfl (lv_at hl 0 rfl) ?_
              refine va_get (D := G.1) (ci := 4) (v := .ref (α 0)) (C := RX4) (T := TX4) (N := 6) hx hb hts hinX4 hown hK.1 hP 0 rfl rfl 0 (by decide) (hts (.fieldLink RX4 12 "GrooveTurns" "disc" "LGrooveTurns$Disc;") (by decide +kernel)) (fun _ h9 => h9) rfl dX4_count_121 ?_
              refine lv_iconst (v := 0) hx hb dX4_count_124 (by decide) ?_
              refine lv_bipush (v := 16) hx hb dX4_count_125 (by decide) ?_
              refine rdV (As := [.int 0, .int 16]) (rest := []) (c_X0_filledOn l G α σ 0 16 h_7) hF (cwV 2 hts gX4_count_X0_filledOn rfl rfl rfl (by decide +kernel) ⟨Nat.le_of_ble_eq_true rfl, Nat.le_of_ble_eq_true rfl⟩) (va_recv hK.1 hP (ci := 0) (q0 := 7) rfl rfl) hK (hP.sub [7, 8, 9, 10, 11, 12] rfl) rfl hl.1 rfl (Nat.le_of_ble_eq_true rfl) dX4_count_127 ⟨Nat.zero_le _, Nat.zero_le _⟩ ?_
              rw [show s_X4_count ρ ϖ σ τ hs p1 = (s_X0_filledOn σ 0 16) from by rw [s_X4_count]; rw [if_pos c_1, if_neg c_2, if_neg c_3, if_neg c_4, if_neg c_5, if_pos c_6]]
              exact W.iret hx hb hr (fun t ht hW => ⟨rfl, ht⟩) (fun _ h => nomatch h) dX4_count_130
            · skip
              have hok := hok.2 c_6
              by_cases c_8 : p1 = 10
              · skip
                have hok := hok.1 c_8
                refine lv_tableIn (tgt := 131) (off := 109) hx hb dX4_count_22 (by rw [c_8]; decide) (by rw [c_8]; decide) (by rw [c_8]; rfl) (by decide) ?_
                have h_9 := hok
                refine lv_aload_n hx hb dX4_count_131 rfl (lv_at hl 0 rfl) ?_
                refine va_get (D := G.1) (ci := 4) (v := .ref (α 0)) (C := RX4) (T := TX4) (N := 6) hx hb hts hinX4 hown hK.1 hP 0 rfl rfl 0 (by decide) (hts (.fieldLink RX4 12 "GrooveTurns" "disc" "LGrooveTurns$Disc;") (by decide +kernel)) (fun _ h9 => h9) rfl dX4_count_132 ?_
                refine lv_iconst (v := 0) hx hb dX4_count_135 (by decide) ?_
                refine lv_bipush (v := 16) hx hb dX4_count_136 (by decide) ?_
                refine rdV (As := [.int 0, .int 16]) (rest := []) (c_X0_unreadableOn l G α σ 0 16 h_9) hF (cwV 2 hts gX4_count_X0_unreadableOn rfl rfl rfl (by decide +kernel) ⟨Nat.le_of_ble_eq_true rfl, Nat.le_of_ble_eq_true rfl⟩) (va_recv hK.1 hP (ci := 0) (q0 := 7) rfl rfl) hK (hP.sub [7, 8, 9, 10, 11, 12] rfl) rfl hl.1 rfl (Nat.le_of_ble_eq_true rfl) dX4_count_138 ⟨Nat.zero_le _, Nat.zero_le _⟩ ?_
                rw [show s_X4_count ρ ϖ σ τ hs p1 = (s_X0_unreadableOn σ 0 16) from by rw [s_X4_count]; rw [if_pos c_1, if_neg c_2, if_neg c_3, if_neg c_4, if_neg c_5, if_neg c_6, if_pos c_8]]
                exact W.iret hx hb hr (fun t ht hW => ⟨rfl, ht⟩) (fun _ h => nomatch h) dX4_count_141
              · skip
                have hok := hok.2 c_8
                by_cases c_10 : p1 = 11
                · skip
                  have hok := hok.1 c_10
                  refine lv_tableIn (tgt := 142) (off := 120) hx hb dX4_count_22 (by rw [c_10]; decide) (by rw [c_10]; decide) (by rw [c_10]; rfl) (by decide) ?_
                  obtain ⟨h_11, hok⟩ := hok
                  refine lv_aload_n hx hb dX4_count_142 rfl (lv_at hl 0 rfl) ?_
                  refine va_get (D := G.1) (ci := 4) (v := .ref (α 0)) (C := RX4) (T := TX4) (N := 6) hx hb hts hinX4 hown hK.1 hP 0 rfl rfl 0 (by decide) (hts (.fieldLink RX4 12 "GrooveTurns" "disc" "LGrooveTurns$Disc;") (by decide +kernel)) (fun _ h9 => h9) rfl dX4_count_143 ?_
                  refine lv_iconst (v := 0) hx hb dX4_count_146 (by decide) ?_
                  refine lv_iconst (v := 1) hx hb dX4_count_147 (by decide) ?_
                  refine rdV (As := [.int 0, .int 1]) (rest := []) (c_X0_writingsOnTracks l G α σ 0 1 h_11) hF (cwV 2 hts gX4_count_X0_writingsOnTracks rfl rfl rfl (by decide +kernel) ⟨Nat.le_of_ble_eq_true rfl, Nat.le_of_ble_eq_true rfl⟩) (va_recv hK.1 hP (ci := 0) (q0 := 7) rfl rfl) hK (hP.sub [7, 8, 9, 10, 11, 12] rfl) rfl hl.1 rfl (Nat.le_of_ble_eq_true rfl) dX4_count_148 ⟨Nat.zero_le _, Nat.zero_le _⟩ ?_
                  have h_12 := hok
                  refine lv_aload_n hx hb dX4_count_151 rfl (lv_at hl 0 rfl) ?_
                  refine va_get (D := G.1) (ci := 4) (v := .ref (α 0)) (C := RX4) (T := TX4) (N := 6) hx hb hts hinX4 hown hK.1 hP 0 rfl rfl 0 (by decide) (hts (.fieldLink RX4 12 "GrooveTurns" "disc" "LGrooveTurns$Disc;") (by decide +kernel)) (fun _ h9 => h9) rfl dX4_count_152 ?_
                  refine lv_bipush (v := 16) hx hb dX4_count_155 (by decide) ?_
                  refine rdV (As := [.int 16]) (rest := [.int (s_X0_writingsOnTracks σ 0 1)]) (c_X0_writingsOnTrack l G α σ 16 h_12) hF (cwV 1 hts gX4_count_X0_writingsOnTrack rfl rfl rfl (by decide +kernel) ⟨Nat.le_of_ble_eq_true rfl, Nat.le_of_ble_eq_true rfl⟩) (va_recv hK.1 hP (ci := 0) (q0 := 7) rfl rfl) hK (hP.sub [7, 8, 9, 10, 11, 12] rfl) rfl hl.1 rfl (Nat.le_of_ble_eq_true rfl) dX4_count_157 ⟨Nat.zero_le _, Nat.zero_le _⟩ ?_
                  refine lv_iadd hx hb dX4_count_160 ?_
                  rw [show s_X4_count ρ ϖ σ τ hs p1 = ((s_X0_writingsOnTracks σ 0 1) + (s_X0_writingsOnTrack σ 16)) from by rw [s_X4_count]; rw [if_pos c_1, if_neg c_2, if_neg c_3, if_neg c_4, if_neg c_5, if_neg c_6, if_neg c_8, if_pos c_10]]
                  exact W.iret hx hb hr (fun t ht hW => ⟨rfl, ht⟩) (fun _ h => nomatch h) dX4_count_161
                · skip
                  have hok := hok.2 c_10
                  by_cases c_13 : p1 = 12
                  · skip
                    refine lv_tableIn (tgt := 162) (off := 140) hx hb dX4_count_22 (by rw [c_13]; decide) (by rw [c_13]; decide) (by rw [c_13]; rfl) (by decide) ?_
                    refine lv_aload_n hx hb dX4_count_162 rfl (lv_at hl 0 rfl) ?_
                    refine va_get (D := G.1) (ci := 4) (v := .ref (α 0)) (C := RX4) (T := TX4) (N := 6) hx hb hts hinX4 hown hK.1 hP 0 rfl rfl 0 (by decide) (hts (.fieldLink RX4 12 "GrooveTurns" "disc" "LGrooveTurns$Disc;") (by decide +kernel)) (fun _ h9 => h9) rfl dX4_count_163 ?_
                    refine va_get (D := G.1) (ci := 0) (v := .int (d_rd σ)) (C := RX0) (T := TX0) (N := 9) hx hb hts hinX0 hown hK.1 hP 7 rfl rfl 6 (by decide) (hts (.fieldLink RX4 153 "GrooveTurns$Disc" "reads" "I") (by decide +kernel)) (fun _ h9 => h9) rfl dX4_count_166 ?_
                    rw [show s_X4_count ρ ϖ σ τ hs p1 = (d_rd σ) from by rw [s_X4_count]; rw [if_pos c_1, if_neg c_2, if_neg c_3, if_neg c_4, if_neg c_5, if_neg c_6, if_neg c_8, if_neg c_10, if_pos c_13]]
                    exact W.iret hx hb hr (fun t ht hW => ⟨rfl, ht⟩) (fun _ h => nomatch h) dX4_count_169
                  · skip
                    have hok := hok.2 c_13
                    by_cases c_14 : p1 = 13
                    · skip
                      have hok := hok.1 c_14
                      refine lv_tableIn (tgt := 170) (off := 148) hx hb dX4_count_22 (by rw [c_14]; decide) (by rw [c_14]; decide) (by rw [c_14]; rfl) (by decide) ?_
                      have h_15 := hok
                      refine lv_aload_n hx hb dX4_count_170 rfl (lv_at hl 0 rfl) ?_
                      refine va_get (D := G.1) (ci := 4) (v := .ref (α 0)) (C := RX4) (T := TX4) (N := 6) hx hb hts hinX4 hown hK.1 hP 0 rfl rfl 0 (by decide) (hts (.fieldLink RX4 12 "GrooveTurns" "disc" "LGrooveTurns$Disc;") (by decide +kernel)) (fun _ h9 => h9) rfl dX4_count_171 ?_
                      refine lv_iconst (v := 0) hx hb dX4_count_174 (by decide) ?_
                      refine lv_iconst (v := 2) hx hb dX4_count_175 (by decide) ?_
                      refine rdV (As := [.int 0, .int 2]) (rest := []) (c_X0_writingsOnTracks l G α σ 0 2 h_15) hF (cwV 2 hts gX4_count_X0_writingsOnTracks rfl rfl rfl (by decide +kernel) ⟨Nat.le_of_ble_eq_true rfl, Nat.le_of_ble_eq_true rfl⟩) (va_recv hK.1 hP (ci := 0) (q0 := 7) rfl rfl) hK (hP.sub [7, 8, 9, 10, 11, 12] rfl) rfl hl.1 rfl (Nat.le_of_ble_eq_true rfl) dX4_count_176 ⟨Nat.zero_le _, Nat.zero_le _⟩ ?_
                      rw [show s_X4_count ρ ϖ σ τ hs p1 = (s_X0_writingsOnTracks σ 0 2) from by rw [s_X4_count]; rw [if_pos c_1, if_neg c_2, if_neg c_3, if_neg c_4, if_neg c_5, if_neg c_6, if_neg c_8, if_neg c_10, if_neg c_13, if_pos c_14]]
                      exact W.iret hx hb hr (fun t ht hW => ⟨rfl, ht⟩) (fun _ h => nomatch h) dX4_count_179
                    · skip
                      have hok := hok.2 c_14
                      by_cases c_16 : p1 = 14
                      · skip
                        have hok := hok.1 c_16
                        refine lv_tableIn (tgt := 180) (off := 158) hx hb dX4_count_22 (by rw [c_16]; decide) (by rw [c_16]; decide) (by rw [c_16]; rfl) (by decide) ?_
                        have h_17 := hok
                        refine lv_aload_n hx hb dX4_count_180 rfl (lv_at hl 0 rfl) ?_
                        refine va_get (D := G.1) (ci := 4) (v := .ref (α 0)) (C := RX4) (T := TX4) (N := 6) hx hb hts hinX4 hown hK.1 hP 0 rfl rfl 0 (by decide) (hts (.fieldLink RX4 12 "GrooveTurns" "disc" "LGrooveTurns$Disc;") (by decide +kernel)) (fun _ h9 => h9) rfl dX4_count_181 ?_
                        refine lv_iconst (v := 1) hx hb dX4_count_184 (by decide) ?_
                        refine lv_iconst (v := 2) hx hb dX4_count_185 (by decide) ?_
                        refine rdV (As := [.int 1, .int 2]) (rest := []) (c_X0_writingsOnTracks l G α σ 1 2 h_17) hF (cwV 2 hts gX4_count_X0_writingsOnTracks rfl rfl rfl (by decide +kernel) ⟨Nat.le_of_ble_eq_true rfl, Nat.le_of_ble_eq_true rfl⟩) (va_recv hK.1 hP (ci := 0) (q0 := 7) rfl rfl) hK (hP.sub [7, 8, 9, 10, 11, 12] rfl) rfl hl.1 rfl (Nat.le_of_ble_eq_true rfl) dX4_count_186 ⟨Nat.zero_le _, Nat.zero_le _⟩ ?_
                        rw [show s_X4_count ρ ϖ σ τ hs p1 = (s_X0_writingsOnTracks σ 1 2) from by rw [s_X4_count]; rw [if_pos c_1, if_neg c_2, if_neg c_3, if_neg c_4, if_neg c_5, if_neg c_6, if_neg c_8, if_neg c_10, if_neg c_13, if_neg c_14, if_pos c_16]]
                        exact W.iret hx hb hr (fun t ht hW => ⟨rfl, ht⟩) (fun _ h => nomatch h) dX4_count_189
                      · skip
                        have hok := hok.2 c_16
                        by_cases c_18 : p1 = 15
                        · skip
                          have hok := hok.1 c_18
                          refine lv_tableIn (tgt := 190) (off := 168) hx hb dX4_count_22 (by rw [c_18]; decide) (by rw [c_18]; decide) (by rw [c_18]; rfl) (by decide) ?_
                          have h_19 := hok
                          refine lv_aload_n hx hb dX4_count_190 rfl (lv_at hl 0 rfl) ?_
                          refine va_get (D := G.1) (ci := 4) (v := .ref (α 0)) (C := RX4) (T := TX4) (N := 6) hx hb hts hinX4 hown hK.1 hP 0 rfl rfl 0 (by decide) (hts (.fieldLink RX4 12 "GrooveTurns" "disc" "LGrooveTurns$Disc;") (by decide +kernel)) (fun _ h9 => h9) rfl dX4_count_191 ?_
                          refine rdV (As := []) (rest := []) (c_X0_greatestBlur l G α σ h_19) hF (cwV 0 hts gX4_count_X0_greatestBlur rfl rfl rfl (by decide +kernel) ⟨Nat.le_of_ble_eq_true rfl, Nat.le_of_ble_eq_true rfl⟩) (va_recv hK.1 hP (ci := 0) (q0 := 7) rfl rfl) hK (hP.sub [7, 8, 9, 10, 11, 12] rfl) rfl hl.1 rfl (Nat.le_of_ble_eq_true rfl) dX4_count_194 ⟨Nat.zero_le _, Nat.zero_le _⟩ ?_
                          rw [show s_X4_count ρ ϖ σ τ hs p1 = (s_X0_greatestBlur σ) from by rw [s_X4_count]; rw [if_pos c_1, if_neg c_2, if_neg c_3, if_neg c_4, if_neg c_5, if_neg c_6, if_neg c_8, if_neg c_10, if_neg c_13, if_neg c_14, if_neg c_16, if_pos c_18]]
                          exact W.iret hx hb hr (fun t ht hW => ⟨rfl, ht⟩) (fun _ h => nomatch h) dX4_count_197
                        · skip
                          by_cases c_20 : p1 = 16
                          · skip
                            refine lv_tableIn (tgt := 198) (off := 176) hx hb dX4_count_22 (by rw [c_20]; decide) (by rw [c_20]; decide) (by rw [c_20]; rfl) (by decide) ?_
                            refine lv_aload_n hx hb dX4_count_198 rfl (lv_at hl 0 rfl) ?_
                            refine va_get (D := G.1) (ci := 4) (v := .ref (π 0)) (C := RX4) (T := TX4) (N := 6) hx hb hts hinX4 hown hK.1 hP 0 rfl rfl 2 (by decide) (hts (.fieldLink RX4 22 "GrooveTurns" "pad" "LGrooveTurns$Pad;") (by decide +kernel)) (fun _ h9 => h9) rfl dX4_count_199 ?_
                            refine va_get (D := G.1) (ci := 2) (v := .int (p_le ϖ)) (C := RX2) (T := TX2) (N := 2) hx hb hts hinX2 hown hK.1 hP 5 rfl rfl 1 (by decide) (hts (.fieldLink RX4 159 "GrooveTurns$Pad" "length" "I") (by decide +kernel)) (fun _ h9 => h9) rfl dX4_count_202 ?_
                            rw [show s_X4_count ρ ϖ σ τ hs p1 = (p_le ϖ) from by rw [s_X4_count]; rw [if_pos c_1, if_neg c_2, if_neg c_3, if_neg c_4, if_neg c_5, if_neg c_6, if_neg c_8, if_neg c_10, if_neg c_13, if_neg c_14, if_neg c_16, if_neg c_18, if_pos c_20]]
                            exact W.iret hx hb hr (fun t ht hW => ⟨rfl, ht⟩) (fun _ h => nomatch h) dX4_count_205
                          · skip
                            by_cases c_21 : p1 = 17
                            · skip
                              refine lv_tableIn (tgt := 206) (off := 184) hx hb dX4_count_22 (by rw [c_21]; decide) (by rw [c_21]; decide) (by rw [c_21]; rfl) (by decide) ?_
                              refine lv_aload_n hx hb dX4_count_206 rfl (lv_at hl 0 rfl) ?_
                              refine va_get (D := G.1) (ci := 4) (v := .ref (η 0)) (C := RX4) (T := TX4) (N := 6) hx hb hts hinX4 hown hK.1 hP 0 rfl rfl 4 (by decide) (hts (.fieldLink RX4 36 "GrooveTurns" "history" "LGrooveTurns$History;") (by decide +kernel)) (fun _ h9 => h9) rfl dX4_count_207 ?_
                              refine va_get (D := G.1) (ci := 1) (v := .int (h_sz hs)) (C := RX1) (T := TX1) (N := 3) hx hb hts hinX1 hown hK.1 hP 19 rfl rfl 2 (by decide) (hts (.fieldLink RX4 162 "GrooveTurns$History" "size" "I") (by decide +kernel)) (fun _ h9 => h9) rfl dX4_count_210 ?_
                              rw [show s_X4_count ρ ϖ σ τ hs p1 = (h_sz hs) from by rw [s_X4_count]; rw [if_pos c_1, if_neg c_2, if_neg c_3, if_neg c_4, if_neg c_5, if_neg c_6, if_neg c_8, if_neg c_10, if_neg c_13, if_neg c_14, if_neg c_16, if_neg c_18, if_neg c_20, if_pos c_21]]
                              exact W.iret hx hb hr (fun t ht hW => ⟨rfl, ht⟩) (fun _ h => nomatch h) dX4_count_213
                            · skip
                              have h9_0 : ¬ p1.toInt = 5 := lv_neT c_2 (by decide)
                              have h9_1 : ¬ p1.toInt = 6 := lv_neT c_3 (by decide)
                              have h9_2 : ¬ p1.toInt = 7 := lv_neT c_4 (by decide)
                              have h9_3 : ¬ p1.toInt = 8 := lv_neT c_5 (by decide)
                              have h9_4 : ¬ p1.toInt = 9 := lv_neT c_6 (by decide)
                              have h9_5 : ¬ p1.toInt = 10 := lv_neT c_8 (by decide)
                              have h9_6 : ¬ p1.toInt = 11 := lv_neT c_10 (by decide)
                              have h9_7 : ¬ p1.toInt = 12 := lv_neT c_13 (by decide)
                              have h9_8 : ¬ p1.toInt = 13 := lv_neT c_14 (by decide)
                              have h9_9 : ¬ p1.toInt = 14 := lv_neT c_16 (by decide)
                              have h9_10 : ¬ p1.toInt = 15 := lv_neT c_18 (by decide)
                              have h9_11 : ¬ p1.toInt = 16 := lv_neT c_20 (by decide)
                              have h9_12 : ¬ p1.toInt = 17 := lv_neT c_21 (by decide)
                              refine lv_tableOut (tgt := 214) hx hb dX4_count_22 (sw_out (fun k9 h9 h8 => by omega)) (by decide) ?_
                              refine lv_bipush (v := (-2)) hx hb dX4_count_214 (by decide) ?_
                              rw [show s_X4_count ρ ϖ σ τ hs p1 = (-2) from by rw [s_X4_count]; rw [if_pos c_1, if_neg c_2, if_neg c_3, if_neg c_4, if_neg c_5, if_neg c_6, if_neg c_8, if_neg c_10, if_neg c_13, if_neg c_14, if_neg c_16, if_neg c_18, if_neg c_20, if_neg c_21]]
                              exact W.iret hx hb hr (fun t ht hW => ⟨rfl, ht⟩) (fun _ h => nomatch h) dX4_count_216
  · skip
    have hok := hok.2 c_1
    refine lv_iload_n hx hb dX4_count_4 rfl (lv_at hl 1 rfl) ?_
    refine va_gets hx hb hT.1.1 hS hown (hts (.fieldLink RX4 44 "GrooveTurns" "FIRST_SETTINGS" "[I") (by decide +kernel)) (fun _ h9 => h9) dX4_count_5 ?_
    refine va_tlen (v := 5) hx hb hT.1.2 hS rfl dX4_count_8 ?_
    refine lv_icmp_ge (tgt := 21) hx hb dX4_count_9 (by decide) (fun (c_22 : 5 ≤ p1) => ?_) (fun (c_22 : ¬ 5 ≤ p1) => ?_)
    · skip
      have hok := hok.1 c_22
      refine lv_iload_n hx hb dX4_count_21 rfl (lv_at hl 1 rfl) ?_
      by_cases c_23 : p1 = 5
      · skip
        refine lv_tableIn (tgt := 88) (off := 66) hx hb dX4_count_22 (by rw [c_23]; decide) (by rw [c_23]; decide) (by rw [c_23]; rfl) (by decide) ?_
        refine lv_aload_n hx hb dX4_count_88 rfl (lv_at hl 0 rfl) ?_
        refine va_get (D := G.1) (ci := 4) (v := .ref (α 0)) (C := RX4) (T := TX4) (N := 6) hx hb hts hinX4 hown hK.1 hP 0 rfl rfl 0 (by decide) (hts (.fieldLink RX4 12 "GrooveTurns" "disc" "LGrooveTurns$Disc;") (by decide +kernel)) (fun _ h9 => h9) rfl dX4_count_89 ?_
        refine va_get (D := G.1) (ci := 0) (v := .int (d_tk σ)) (C := RX0) (T := TX0) (N := 9) hx hb hts hinX0 hown hK.1 hP 7 rfl rfl 7 (by decide) (hts (.fieldLink RX4 136 "GrooveTurns$Disc" "ticks" "I") (by decide +kernel)) (fun _ h9 => h9) rfl dX4_count_92 ?_
        rw [show s_X4_count ρ ϖ σ τ hs p1 = (d_tk σ) from by rw [s_X4_count]; rw [if_neg c_1, if_pos c_22, if_pos c_23]]
        exact W.iret hx hb hr (fun t ht hW => ⟨rfl, ht⟩) (fun _ h => nomatch h) dX4_count_95
      · skip
        have hok := hok.2 c_23
        by_cases c_24 : p1 = 6
        · skip
          refine lv_tableIn (tgt := 96) (off := 74) hx hb dX4_count_22 (by rw [c_24]; decide) (by rw [c_24]; decide) (by rw [c_24]; rfl) (by decide) ?_
          refine lv_aload_n hx hb dX4_count_96 rfl (lv_at hl 0 rfl) ?_
          refine va_get (D := G.1) (ci := 4) (v := .ref (α 0)) (C := RX4) (T := TX4) (N := 6) hx hb hts hinX4 hown hK.1 hP 0 rfl rfl 0 (by decide) (hts (.fieldLink RX4 12 "GrooveTurns" "disc" "LGrooveTurns$Disc;") (by decide +kernel)) (fun _ h9 => h9) rfl dX4_count_97 ?_
          refine va_get (D := G.1) (ci := 0) (v := .int (d_hd σ)) (C := RX0) (T := TX0) (N := 9) hx hb hts hinX0 hown hK.1 hP 7 rfl rfl 8 (by decide) (hts (.fieldLink RX4 140 "GrooveTurns$Disc" "head" "I") (by decide +kernel)) (fun _ h9 => h9) rfl dX4_count_100 ?_
          rw [show s_X4_count ρ ϖ σ τ hs p1 = (d_hd σ) from by rw [s_X4_count]; rw [if_neg c_1, if_pos c_22, if_neg c_23, if_pos c_24]]
          exact W.iret hx hb hr (fun t ht hW => ⟨rfl, ht⟩) (fun _ h => nomatch h) dX4_count_103
        · skip
          have hok := hok.2 c_24
          by_cases c_25 : p1 = 7
          · skip
            refine lv_tableIn (tgt := 104) (off := 82) hx hb dX4_count_22 (by rw [c_25]; decide) (by rw [c_25]; decide) (by rw [c_25]; rfl) (by decide) ?_
            refine lv_aload_n hx hb dX4_count_104 rfl (lv_at hl 0 rfl) ?_
            refine va_get (D := G.1) (ci := 4) (v := .ref (α 0)) (C := RX4) (T := TX4) (N := 6) hx hb hts hinX4 hown hK.1 hP 0 rfl rfl 0 (by decide) (hts (.fieldLink RX4 12 "GrooveTurns" "disc" "LGrooveTurns$Disc;") (by decide +kernel)) (fun _ h9 => h9) rfl dX4_count_105 ?_
            refine rdV (As := []) (rest := []) (c_X0_sectorUnderHead l G α σ) hF (cwV 0 hts gX4_count_X0_sectorUnderHead rfl rfl rfl (by decide +kernel) ⟨Nat.le_of_ble_eq_true rfl, Nat.le_of_ble_eq_true rfl⟩) (va_recv hK.1 hP (ci := 0) (q0 := 7) rfl rfl) hK (hP.sub [7, 8, 9, 10, 11, 12] rfl) rfl hl.1 rfl (Nat.le_of_ble_eq_true rfl) dX4_count_108 ⟨Nat.zero_le _, Nat.zero_le _⟩ ?_
            rw [show s_X4_count ρ ϖ σ τ hs p1 = (s_X0_sectorUnderHead σ) from by rw [s_X4_count]; rw [if_neg c_1, if_pos c_22, if_neg c_23, if_neg c_24, if_pos c_25]]
            exact W.iret hx hb hr (fun t ht hW => ⟨rfl, ht⟩) (fun _ h => nomatch h) dX4_count_111
          · skip
            have hok := hok.2 c_25
            by_cases c_26 : p1 = 8
            · skip
              refine lv_tableIn (tgt := 112) (off := 90) hx hb dX4_count_22 (by rw [c_26]; decide) (by rw [c_26]; decide) (by rw [c_26]; rfl) (by decide) ?_
              refine lv_aload_n hx hb dX4_count_112 rfl (lv_at hl 0 rfl) ?_
              refine va_get (D := G.1) (ci := 4) (v := .ref (α 0)) (C := RX4) (T := TX4) (N := 6) hx hb hts hinX4 hown hK.1 hP 0 rfl rfl 0 (by decide) (hts (.fieldLink RX4 12 "GrooveTurns" "disc" "LGrooveTurns$Disc;") (by decide +kernel)) (fun _ h9 => h9) rfl dX4_count_113 ?_
              refine rdV (As := []) (rest := []) (c_X0_sparesLeft l G α σ) hF (cwV 0 hts gX4_count_X0_sparesLeft rfl rfl rfl (by decide +kernel) ⟨Nat.le_of_ble_eq_true rfl, Nat.le_of_ble_eq_true rfl⟩) (va_recv hK.1 hP (ci := 0) (q0 := 7) rfl rfl) hK (hP.sub [7, 8, 9, 10, 11, 12] rfl) rfl hl.1 rfl (Nat.le_of_ble_eq_true rfl) dX4_count_116 ⟨Nat.zero_le _, Nat.zero_le _⟩ ?_
              rw [show s_X4_count ρ ϖ σ τ hs p1 = (s_X0_sparesLeft σ) from by rw [s_X4_count]; rw [if_neg c_1, if_pos c_22, if_neg c_23, if_neg c_24, if_neg c_25, if_pos c_26]]
              exact W.iret hx hb hr (fun t ht hW => ⟨rfl, ht⟩) (fun _ h => nomatch h) dX4_count_119
            · skip
              have hok := hok.2 c_26
              by_cases c_27 : p1 = 9
              · skip
                have hok := hok.1 c_27
                refine lv_tableIn (tgt := 120) (off := 98) hx hb dX4_count_22 (by rw [c_27]; decide) (by rw [c_27]; decide) (by rw [c_27]; rfl) (by decide) ?_
                have h_28 := hok
                refine lv_aload_n hx hb dX4_count_120 rfl (lv_at hl 0 rfl) ?_
                refine va_get (D := G.1) (ci := 4) (v := .ref (α 0)) (C := RX4) (T := TX4) (N := 6) hx hb hts hinX4 hown hK.1 hP 0 rfl rfl 0 (by decide) (hts (.fieldLink RX4 12 "GrooveTurns" "disc" "LGrooveTurns$Disc;") (by decide +kernel)) (fun _ h9 => h9) rfl dX4_count_121 ?_
                refine lv_iconst (v := 0) hx hb dX4_count_124 (by decide) ?_
                refine lv_bipush (v := 16) hx hb dX4_count_125 (by decide) ?_
                refine rdV (As := [.int 0, .int 16]) (rest := []) (c_X0_filledOn l G α σ 0 16 h_28) hF (cwV 2 hts gX4_count_X0_filledOn rfl rfl rfl (by decide +kernel) ⟨Nat.le_of_ble_eq_true rfl, Nat.le_of_ble_eq_true rfl⟩) (va_recv hK.1 hP (ci := 0) (q0 := 7) rfl rfl) hK (hP.sub [7, 8, 9, 10, 11, 12] rfl) rfl hl.1 rfl (Nat.le_of_ble_eq_true rfl) dX4_count_127 ⟨Nat.zero_le _, Nat.zero_le _⟩ ?_
                rw [show s_X4_count ρ ϖ σ τ hs p1 = (s_X0_filledOn σ 0 16) from by rw [s_X4_count]; rw [if_neg c_1, if_pos c_22, if_neg c_23, if_neg c_24, if_neg c_25, if_neg c_26, if_pos c_27]]
                exact W.iret hx hb hr (fun t ht hW => ⟨rfl, ht⟩) (fun _ h => nomatch h) dX4_count_130
              · skip
                have hok := hok.2 c_27
                by_cases c_29 : p1 = 10
                · skip
                  have hok := hok.1 c_29
                  refine lv_tableIn (tgt := 131) (off := 109) hx hb dX4_count_22 (by rw [c_29]; decide) (by rw [c_29]; decide) (by rw [c_29]; rfl) (by decide) ?_
                  have h_30 := hok
                  refine lv_aload_n hx hb dX4_count_131 rfl (lv_at hl 0 rfl) ?_
                  refine va_get (D := G.1) (ci := 4) (v := .ref (α 0)) (C := RX4) (T := TX4) (N := 6) hx hb hts hinX4 hown hK.1 hP 0 rfl rfl 0 (by decide) (hts (.fieldLink RX4 12 "GrooveTurns" "disc" "LGrooveTurns$Disc;") (by decide +kernel)) (fun _ h9 => h9) rfl dX4_count_132 ?_
                  refine lv_iconst (v := 0) hx hb dX4_count_135 (by decide) ?_
                  refine lv_bipush (v := 16) hx hb dX4_count_136 (by decide) ?_
                  refine rdV (As := [.int 0, .int 16]) (rest := []) (c_X0_unreadableOn l G α σ 0 16 h_30) hF (cwV 2 hts gX4_count_X0_unreadableOn rfl rfl rfl (by decide +kernel) ⟨Nat.le_of_ble_eq_true rfl, Nat.le_of_ble_eq_true rfl⟩) (va_recv hK.1 hP (ci := 0) (q0 := 7) rfl rfl) hK (hP.sub [7, 8, 9, 10, 11, 12] rfl) rfl hl.1 rfl (Nat.le_of_ble_eq_true rfl) dX4_count_138 ⟨Nat.zero_le _, Nat.zero_le _⟩ ?_
                  rw [show s_X4_count ρ ϖ σ τ hs p1 = (s_X0_unreadableOn σ 0 16) from by rw [s_X4_count]; rw [if_neg c_1, if_pos c_22, if_neg c_23, if_neg c_24, if_neg c_25, if_neg c_26, if_neg c_27, if_pos c_29]]
                  exact W.iret hx hb hr (fun t ht hW => ⟨rfl, ht⟩) (fun _ h => nomatch h) dX4_count_141
                · skip
                  have hok := hok.2 c_29
                  by_cases c_31 : p1 = 11
                  · skip
                    have hok := hok.1 c_31
                    refine lv_tableIn (tgt := 142) (off := 120) hx hb dX4_count_22 (by rw [c_31]; decide) (by rw [c_31]; decide) (by rw [c_31]; rfl) (by decide) ?_
                    obtain ⟨h_32, hok⟩ := hok
                    refine lv_aload_n hx hb dX4_count_142 rfl (lv_at hl 0 rfl) ?_
                    refine va_get (D := G.1) (ci := 4) (v := .ref (α 0)) (C := RX4) (T := TX4) (N := 6) hx hb hts hinX4 hown hK.1 hP 0 rfl rfl 0 (by decide) (hts (.fieldLink RX4 12 "GrooveTurns" "disc" "LGrooveTurns$Disc;") (by decide +kernel)) (fun _ h9 => h9) rfl dX4_count_143 ?_
                    refine lv_iconst (v := 0) hx hb dX4_count_146 (by decide) ?_
                    refine lv_iconst (v := 1) hx hb dX4_count_147 (by decide) ?_
                    refine rdV (As := [.int 0, .int 1]) (rest := []) (c_X0_writingsOnTracks l G α σ 0 1 h_32) hF (cwV 2 hts gX4_count_X0_writingsOnTracks rfl rfl rfl (by decide +kernel) ⟨Nat.le_of_ble_eq_true rfl, Nat.le_of_ble_eq_true rfl⟩) (va_recv hK.1 hP (ci := 0) (q0 := 7) rfl rfl) hK (hP.sub [7, 8, 9, 10, 11, 12] rfl) rfl hl.1 rfl (Nat.le_of_ble_eq_true rfl) dX4_count_148 ⟨Nat.zero_le _, Nat.zero_le _⟩ ?_
                    have h_33 := hok
                    refine lv_aload_n hx hb dX4_count_151 rfl (lv_at hl 0 rfl) ?_
                    refine va_get (D := G.1) (ci := 4) (v := .ref (α 0)) (C := RX4) (T := TX4) (N := 6) hx hb hts hinX4 hown hK.1 hP 0 rfl rfl 0 (by decide) (hts (.fieldLink RX4 12 "GrooveTurns" "disc" "LGrooveTurns$Disc;") (by decide +kernel)) (fun _ h9 => h9) rfl dX4_count_152 ?_
                    refine lv_bipush (v := 16) hx hb dX4_count_155 (by decide) ?_
                    refine rdV (As := [.int 16]) (rest := [.int (s_X0_writingsOnTracks σ 0 1)]) (c_X0_writingsOnTrack l G α σ 16 h_33) hF (cwV 1 hts gX4_count_X0_writingsOnTrack rfl rfl rfl (by decide +kernel) ⟨Nat.le_of_ble_eq_true rfl, Nat.le_of_ble_eq_true rfl⟩) (va_recv hK.1 hP (ci := 0) (q0 := 7) rfl rfl) hK (hP.sub [7, 8, 9, 10, 11, 12] rfl) rfl hl.1 rfl (Nat.le_of_ble_eq_true rfl) dX4_count_157 ⟨Nat.zero_le _, Nat.zero_le _⟩ ?_
                    refine lv_iadd hx hb dX4_count_160 ?_
                    rw [show s_X4_count ρ ϖ σ τ hs p1 = ((s_X0_writingsOnTracks σ 0 1) + (s_X0_writingsOnTrack σ 16)) from by rw [s_X4_count]; rw [if_neg c_1, if_pos c_22, if_neg c_23, if_neg c_24, if_neg c_25, if_neg c_26, if_neg c_27, if_neg c_29, if_pos c_31]]
                    exact W.iret hx hb hr (fun t ht hW => ⟨rfl, ht⟩) (fun _ h => nomatch h) dX4_count_161
                  · skip
                    have hok := hok.2 c_31
                    by_cases c_34 : p1 = 12
                    · skip
                      refine lv_tableIn (tgt := 162) (off := 140) hx hb dX4_count_22 (by rw [c_34]; decide) (by rw [c_34]; decide) (by rw [c_34]; rfl) (by decide) ?_
                      refine lv_aload_n hx hb dX4_count_162 rfl (lv_at hl 0 rfl) ?_
                      refine va_get (D := G.1) (ci := 4) (v := .ref (α 0)) (C := RX4) (T := TX4) (N := 6) hx hb hts hinX4 hown hK.1 hP 0 rfl rfl 0 (by decide) (hts (.fieldLink RX4 12 "GrooveTurns" "disc" "LGrooveTurns$Disc;") (by decide +kernel)) (fun _ h9 => h9) rfl dX4_count_163 ?_
                      refine va_get (D := G.1) (ci := 0) (v := .int (d_rd σ)) (C := RX0) (T := TX0) (N := 9) hx hb hts hinX0 hown hK.1 hP 7 rfl rfl 6 (by decide) (hts (.fieldLink RX4 153 "GrooveTurns$Disc" "reads" "I") (by decide +kernel)) (fun _ h9 => h9) rfl dX4_count_166 ?_
                      rw [show s_X4_count ρ ϖ σ τ hs p1 = (d_rd σ) from by rw [s_X4_count]; rw [if_neg c_1, if_pos c_22, if_neg c_23, if_neg c_24, if_neg c_25, if_neg c_26, if_neg c_27, if_neg c_29, if_neg c_31, if_pos c_34]]
                      exact W.iret hx hb hr (fun t ht hW => ⟨rfl, ht⟩) (fun _ h => nomatch h) dX4_count_169
                    · skip
                      have hok := hok.2 c_34
                      by_cases c_35 : p1 = 13
                      · skip
                        have hok := hok.1 c_35
                        refine lv_tableIn (tgt := 170) (off := 148) hx hb dX4_count_22 (by rw [c_35]; decide) (by rw [c_35]; decide) (by rw [c_35]; rfl) (by decide) ?_
                        have h_36 := hok
                        refine lv_aload_n hx hb dX4_count_170 rfl (lv_at hl 0 rfl) ?_
                        refine va_get (D := G.1) (ci := 4) (v := .ref (α 0)) (C := RX4) (T := TX4) (N := 6) hx hb hts hinX4 hown hK.1 hP 0 rfl rfl 0 (by decide) (hts (.fieldLink RX4 12 "GrooveTurns" "disc" "LGrooveTurns$Disc;") (by decide +kernel)) (fun _ h9 => h9) rfl dX4_count_171 ?_
                        refine lv_iconst (v := 0) hx hb dX4_count_174 (by decide) ?_
                        refine lv_iconst (v := 2) hx hb dX4_count_175 (by decide) ?_
                        refine rdV (As := [.int 0, .int 2]) (rest := []) (c_X0_writingsOnTracks l G α σ 0 2 h_36) hF (cwV 2 hts gX4_count_X0_writingsOnTracks rfl rfl rfl (by decide +kernel) ⟨Nat.le_of_ble_eq_true rfl, Nat.le_of_ble_eq_true rfl⟩) (va_recv hK.1 hP (ci := 0) (q0 := 7) rfl rfl) hK (hP.sub [7, 8, 9, 10, 11, 12] rfl) rfl hl.1 rfl (Nat.le_of_ble_eq_true rfl) dX4_count_176 ⟨Nat.zero_le _, Nat.zero_le _⟩ ?_
                        rw [show s_X4_count ρ ϖ σ τ hs p1 = (s_X0_writingsOnTracks σ 0 2) from by rw [s_X4_count]; rw [if_neg c_1, if_pos c_22, if_neg c_23, if_neg c_24, if_neg c_25, if_neg c_26, if_neg c_27, if_neg c_29, if_neg c_31, if_neg c_34, if_pos c_35]]
                        exact W.iret hx hb hr (fun t ht hW => ⟨rfl, ht⟩) (fun _ h => nomatch h) dX4_count_179
                      · skip
                        have hok := hok.2 c_35
                        by_cases c_37 : p1 = 14
                        · skip
                          have hok := hok.1 c_37
                          refine lv_tableIn (tgt := 180) (off := 158) hx hb dX4_count_22 (by rw [c_37]; decide) (by rw [c_37]; decide) (by rw [c_37]; rfl) (by decide) ?_
                          have h_38 := hok
                          refine lv_aload_n hx hb dX4_count_180 rfl (lv_at hl 0 rfl) ?_
                          refine va_get (D := G.1) (ci := 4) (v := .ref (α 0)) (C := RX4) (T := TX4) (N := 6) hx hb hts hinX4 hown hK.1 hP 0 rfl rfl 0 (by decide) (hts (.fieldLink RX4 12 "GrooveTurns" "disc" "LGrooveTurns$Disc;") (by decide +kernel)) (fun _ h9 => h9) rfl dX4_count_181 ?_
                          refine lv_iconst (v := 1) hx hb dX4_count_184 (by decide) ?_
                          refine lv_iconst (v := 2) hx hb dX4_count_185 (by decide) ?_
                          refine rdV (As := [.int 1, .int 2]) (rest := []) (c_X0_writingsOnTracks l G α σ 1 2 h_38) hF (cwV 2 hts gX4_count_X0_writingsOnTracks rfl rfl rfl (by decide +kernel) ⟨Nat.le_of_ble_eq_true rfl, Nat.le_of_ble_eq_true rfl⟩) (va_recv hK.1 hP (ci := 0) (q0 := 7) rfl rfl) hK (hP.sub [7, 8, 9, 10, 11, 12] rfl) rfl hl.1 rfl (Nat.le_of_ble_eq_true rfl) dX4_count_186 ⟨Nat.zero_le _, Nat.zero_le _⟩ ?_
                          rw [show s_X4_count ρ ϖ σ τ hs p1 = (s_X0_writingsOnTracks σ 1 2) from by rw [s_X4_count]; rw [if_neg c_1, if_pos c_22, if_neg c_23, if_neg c_24, if_neg c_25, if_neg c_26, if_neg c_27, if_neg c_29, if_neg c_31, if_neg c_34, if_neg c_35, if_pos c_37]]
                          exact W.iret hx hb hr (fun t ht hW => ⟨rfl, ht⟩) (fun _ h => nomatch h) dX4_count_189
                        · skip
                          have hok := hok.2 c_37
                          by_cases c_39 : p1 = 15
                          · skip
                            have hok := hok.1 c_39
                            refine lv_tableIn (tgt := 190) (off := 168) hx hb dX4_count_22 (by rw [c_39]; decide) (by rw [c_39]; decide) (by rw [c_39]; rfl) (by decide) ?_
                            have h_40 := hok
                            refine lv_aload_n hx hb dX4_count_190 rfl (lv_at hl 0 rfl) ?_
                            refine va_get (D := G.1) (ci := 4) (v := .ref (α 0)) (C := RX4) (T := TX4) (N := 6) hx hb hts hinX4 hown hK.1 hP 0 rfl rfl 0 (by decide) (hts (.fieldLink RX4 12 "GrooveTurns" "disc" "LGrooveTurns$Disc;") (by decide +kernel)) (fun _ h9 => h9) rfl dX4_count_191 ?_
                            refine rdV (As := []) (rest := []) (c_X0_greatestBlur l G α σ h_40) hF (cwV 0 hts gX4_count_X0_greatestBlur rfl rfl rfl (by decide +kernel) ⟨Nat.le_of_ble_eq_true rfl, Nat.le_of_ble_eq_true rfl⟩) (va_recv hK.1 hP (ci := 0) (q0 := 7) rfl rfl) hK (hP.sub [7, 8, 9, 10, 11, 12] rfl) rfl hl.1 rfl (Nat.le_of_ble_eq_true rfl) dX4_count_194 ⟨Nat.zero_le _, Nat.zero_le _⟩ ?_
                            rw [show s_X4_count ρ ϖ σ τ hs p1 = (s_X0_greatestBlur σ) from by rw [s_X4_count]; rw [if_neg c_1, if_pos c_22, if_neg c_23, if_neg c_24, if_neg c_25, if_neg c_26, if_neg c_27, if_neg c_29, if_neg c_31, if_neg c_34, if_neg c_35, if_neg c_37, if_pos c_39]]
                            exact W.iret hx hb hr (fun t ht hW => ⟨rfl, ht⟩) (fun _ h => nomatch h) dX4_count_197
                          · skip
                            by_cases c_41 : p1 = 16
                            · skip
                              refine lv_tableIn (tgt := 198) (off := 176) hx hb dX4_count_22 (by rw [c_41]; decide) (by rw [c_41]; decide) (by rw [c_41]; rfl) (by decide) ?_
                              refine lv_aload_n hx hb dX4_count_198 rfl (lv_at hl 0 rfl) ?_
                              refine va_get (D := G.1) (ci := 4) (v := .ref (π 0)) (C := RX4) (T := TX4) (N := 6) hx hb hts hinX4 hown hK.1 hP 0 rfl rfl 2 (by decide) (hts (.fieldLink RX4 22 "GrooveTurns" "pad" "LGrooveTurns$Pad;") (by decide +kernel)) (fun _ h9 => h9) rfl dX4_count_199 ?_
                              refine va_get (D := G.1) (ci := 2) (v := .int (p_le ϖ)) (C := RX2) (T := TX2) (N := 2) hx hb hts hinX2 hown hK.1 hP 5 rfl rfl 1 (by decide) (hts (.fieldLink RX4 159 "GrooveTurns$Pad" "length" "I") (by decide +kernel)) (fun _ h9 => h9) rfl dX4_count_202 ?_
                              rw [show s_X4_count ρ ϖ σ τ hs p1 = (p_le ϖ) from by rw [s_X4_count]; rw [if_neg c_1, if_pos c_22, if_neg c_23, if_neg c_24, if_neg c_25, if_neg c_26, if_neg c_27, if_neg c_29, if_neg c_31, if_neg c_34, if_neg c_35, if_neg c_37, if_neg c_39, if_pos c_41]]
                              exact W.iret hx hb hr (fun t ht hW => ⟨rfl, ht⟩) (fun _ h => nomatch h) dX4_count_205
                            · skip
                              by_cases c_42 : p1 = 17
                              · skip
                                refine lv_tableIn (tgt := 206) (off := 184) hx hb dX4_count_22 (by rw [c_42]; decide) (by rw [c_42]; decide) (by rw [c_42]; rfl) (by decide) ?_
                                refine lv_aload_n hx hb dX4_count_206 rfl (lv_at hl 0 rfl) ?_
                                refine va_get (D := G.1) (ci := 4) (v := .ref (η 0)) (C := RX4) (T := TX4) (N := 6) hx hb hts hinX4 hown hK.1 hP 0 rfl rfl 4 (by decide) (hts (.fieldLink RX4 36 "GrooveTurns" "history" "LGrooveTurns$History;") (by decide +kernel)) (fun _ h9 => h9) rfl dX4_count_207 ?_
                                refine va_get (D := G.1) (ci := 1) (v := .int (h_sz hs)) (C := RX1) (T := TX1) (N := 3) hx hb hts hinX1 hown hK.1 hP 19 rfl rfl 2 (by decide) (hts (.fieldLink RX4 162 "GrooveTurns$History" "size" "I") (by decide +kernel)) (fun _ h9 => h9) rfl dX4_count_210 ?_
                                rw [show s_X4_count ρ ϖ σ τ hs p1 = (h_sz hs) from by rw [s_X4_count]; rw [if_neg c_1, if_pos c_22, if_neg c_23, if_neg c_24, if_neg c_25, if_neg c_26, if_neg c_27, if_neg c_29, if_neg c_31, if_neg c_34, if_neg c_35, if_neg c_37, if_neg c_39, if_neg c_41, if_pos c_42]]
                                exact W.iret hx hb hr (fun t ht hW => ⟨rfl, ht⟩) (fun _ h => nomatch h) dX4_count_213
                              · skip
                                have h9_0 : ¬ p1.toInt = 5 := lv_neT c_23 (by decide)
                                have h9_1 : ¬ p1.toInt = 6 := lv_neT c_24 (by decide)
                                have h9_2 : ¬ p1.toInt = 7 := lv_neT c_25 (by decide)
                                have h9_3 : ¬ p1.toInt = 8 := lv_neT c_26 (by decide)
                                have h9_4 : ¬ p1.toInt = 9 := lv_neT c_27 (by decide)
                                have h9_5 : ¬ p1.toInt = 10 := lv_neT c_29 (by decide)
                                have h9_6 : ¬ p1.toInt = 11 := lv_neT c_31 (by decide)
                                have h9_7 : ¬ p1.toInt = 12 := lv_neT c_34 (by decide)
                                have h9_8 : ¬ p1.toInt = 13 := lv_neT c_35 (by decide)
                                have h9_9 : ¬ p1.toInt = 14 := lv_neT c_37 (by decide)
                                have h9_10 : ¬ p1.toInt = 15 := lv_neT c_39 (by decide)
                                have h9_11 : ¬ p1.toInt = 16 := lv_neT c_41 (by decide)
                                have h9_12 : ¬ p1.toInt = 17 := lv_neT c_42 (by decide)
                                refine lv_tableOut (tgt := 214) hx hb dX4_count_22 (sw_out (fun k9 h9 h8 => by omega)) (by decide) ?_
                                refine lv_bipush (v := (-2)) hx hb dX4_count_214 (by decide) ?_
                                rw [show s_X4_count ρ ϖ σ τ hs p1 = (-2) from by rw [s_X4_count]; rw [if_neg c_1, if_pos c_22, if_neg c_23, if_neg c_24, if_neg c_25, if_neg c_26, if_neg c_27, if_neg c_29, if_neg c_31, if_neg c_34, if_neg c_35, if_neg c_37, if_neg c_39, if_neg c_41, if_neg c_42]]
                                exact W.iret hx hb hr (fun t ht hW => ⟨rfl, ht⟩) (fun _ h => nomatch h) dX4_count_216
    · skip
      refine lv_aload_n hx hb dX4_count_12 rfl (lv_at hl 0 rfl) ?_
      refine va_get (D := G.1) (ci := 4) (v := .ref (α 0)) (C := RX4) (T := TX4) (N := 6) hx hb hts hinX4 hown hK.1 hP 0 rfl rfl 0 (by decide) (hts (.fieldLink RX4 12 "GrooveTurns" "disc" "LGrooveTurns$Disc;") (by decide +kernel)) (fun _ h9 => h9) rfl dX4_count_13 ?_
      refine lv_iload_n hx hb dX4_count_16 rfl (lv_at hl 1 rfl) ?_
      refine rdV (As := [.int p1]) (rest := []) (c_X0_settingOf l G α σ p1) hF (cwV 1 hts gX4_count_X0_settingOf rfl rfl rfl (by decide +kernel) ⟨Nat.le_of_ble_eq_true rfl, Nat.le_of_ble_eq_true rfl⟩) (va_recv hK.1 hP (ci := 0) (q0 := 7) rfl rfl) hK (hP.sub [7, 8, 9, 10, 11, 12] rfl) rfl hl.1 rfl (Nat.le_of_ble_eq_true rfl) dX4_count_17 ⟨Nat.zero_le _, Nat.zero_le _⟩ ?_
      rw [show s_X4_count ρ ϖ σ τ hs p1 = (s_X0_settingOf σ p1) from by rw [s_X4_count]; rw [if_neg c_1, if_neg c_22]]
      exact W.iret hx hb hr (fun t ht hW => ⟨rfl, ht⟩) (fun _ h => nomatch h) dX4_count_20
def s_X4_ticksFor (ρ : QS) (ϖ : PS) (σ : DS) (τ : DS) (hs : HS) (p1 : Int32) (p2 : Int32) : Int32 := (if (s_X4_isAddress p1) = 0 then (-1) else (if p2 = 0 then (s_X0_ticksTo σ (s_X0_sectorFor σ p1)) else (s_X0_ticksTo σ (s_X0_sectorToWrite σ p1))))
set_option maxHeartbeats 4000000 in
set_option maxRecDepth 100000 in
theorem c_X4_ticksFor (l : Launch) (G : GG) (γ : Nat) (κ : Nat → Nat) (π : Nat → Nat) (α : Nat → Nat) (β : Nat → Nat) (η : Nat → Nat) (ς : Nat) (ρ : QS) (ϖ : PS) (σ : DS) (τ : DS) (hs : HS) (p1 : Int32) (p2 : Int32) : Rd G l yX4_ticksFor wsX4_ticksFor 4 86 [.ref γ, .int p1, .int p2] ((gW γ (α 0) (β 0) (π 0) (κ 0) (η 0) ς) ++ ((qW G.2.1 κ ρ) ++ ((pW G.2.1 π ϖ) ++ ((dW G.2.1 α σ) ++ ((dW G.2.1 β τ) ++ (hW G.2.2 η hs)))))) (.int (s_X4_ticksFor ρ ϖ σ τ hs p1 p2)) := by
  refine Met.ofW (cc := cX4_ticksFor) (maxL := 3) (ret := (some .int)) (by decide) rfl ?_
  intro p e s m args below meth c s₁ B hml hv
  obtain ⟨rfl, hP, hK⟩ := hv
  have C0 : cA p s m meth c ([.ref γ, .int p1, .int p2] : List Value).toArray cX4_ticksFor 3 (some .int) wsX4_ticksFor RX4 := ⟨B.exec, B.bytes, B.returns, hml, findClass_of_methodNamed B.named, atoms_spec (ws := wsX4_ticksFor) B.pre, B.notSynchronized⟩
  obtain ⟨hx, hb, hr, hml, hown, hts, hlocks⟩ := id C0
  have hF : CallFix p m c cX4_ticksFor 3 s _ wsX4_ticksFor RX4 := ⟨hx, hb, hml, hown, hts⟩
  have hinX4 : ∀ w ∈ wsX40, w ∈ wsX4_ticksFor := by decide +kernel
  have hl := lv_entry ([.ref γ, .int p1, .int p2]) (n := 3) (Nat.le_of_ble_eq_true rfl)
  rw [lg_entry_eq]
  generalize (lg_sl ([.ref γ, .int p1, .int p2]) ++ List.replicate (3 - (lg_sl ([.ref γ, .int p1, .int p2])).length) Slot.unset).toArray = ls at hl ⊢
  have hl : lv_has ls 3 [(0, .ref γ), (1, .int p1), (2, .int p2)] := hl
  refine lv_iload_n hx hb dX4_ticksFor_0 rfl (lv_at hl 1 rfl) ?_
  refine rdS (As := [.int p1]) (rest := []) (c_X4_isAddress l G p1) hF (va_cwS 1 hts gX4_ticksFor_X4_isAddress rfl rfl rfl (by decide +kernel) ⟨Nat.le_of_ble_eq_true rfl, Nat.le_of_ble_eq_true rfl⟩) hK va_P0 rfl hl.1 rfl (Nat.le_of_ble_eq_true rfl) dX4_ticksFor_1 ⟨Nat.zero_le _, Nat.zero_le _⟩ ?_
  refine lv_if_ne (tgt := 9) hx hb dX4_ticksFor_4 (by decide) (fun (c_1 : ¬ (s_X4_isAddress p1) = 0) => ?_) (fun (c_1 : (s_X4_isAddress p1) = 0) => ?_)
  · skip
    refine lv_aload_n hx hb dX4_ticksFor_9 rfl (lv_at hl 0 rfl) ?_
    refine va_get (D := G.1) (ci := 4) (v := .ref (α 0)) (C := RX4) (T := TX4) (N := 6) hx hb hts hinX4 hown hK.1 hP 0 rfl rfl 0 (by decide) (hts (.fieldLink RX4 12 "GrooveTurns" "disc" "LGrooveTurns$Disc;") (by decide +kernel)) (fun _ h9 => h9) rfl dX4_ticksFor_10 ?_
    refine lv_iload_n hx hb dX4_ticksFor_13 rfl (lv_at hl 2 rfl) ?_
    refine lv_if_eq (tgt := 28) hx hb dX4_ticksFor_14 (by decide) (fun (c_2 : p2 = 0) => ?_) (fun (c_2 : ¬ p2 = 0) => ?_)
    · skip
      refine lv_aload_n hx hb dX4_ticksFor_28 rfl (lv_at hl 0 rfl) ?_
      refine va_get (D := G.1) (ci := 4) (v := .ref (α 0)) (C := RX4) (T := TX4) (N := 6) hx hb hts hinX4 hown hK.1 hP 0 rfl rfl 0 (by decide) (hts (.fieldLink RX4 12 "GrooveTurns" "disc" "LGrooveTurns$Disc;") (by decide +kernel)) (fun _ h9 => h9) rfl dX4_ticksFor_29 ?_
      refine lv_iload_n hx hb dX4_ticksFor_32 rfl (lv_at hl 1 rfl) ?_
      refine rdV (As := [.int p1]) (rest := [.ref (α 0)]) (c_X0_sectorFor l G α σ p1) hF (cwV 1 hts gX4_ticksFor_X0_sectorFor rfl rfl rfl (by decide +kernel) ⟨Nat.le_of_ble_eq_true rfl, Nat.le_of_ble_eq_true rfl⟩) (va_recv hK.1 hP (ci := 0) (q0 := 7) rfl rfl) hK (hP.sub [7, 8, 9, 10, 11, 12] rfl) rfl hl.1 rfl (Nat.le_of_ble_eq_true rfl) dX4_ticksFor_33 ⟨Nat.zero_le _, Nat.zero_le _⟩ ?_
      refine rdV (As := [.int (s_X0_sectorFor σ p1)]) (rest := []) (c_X0_ticksTo l G α σ (s_X0_sectorFor σ p1)) hF (cwV 1 hts gX4_ticksFor_X0_ticksTo rfl rfl rfl (by decide +kernel) ⟨Nat.le_of_ble_eq_true rfl, Nat.le_of_ble_eq_true rfl⟩) (va_recv hK.1 hP (ci := 0) (q0 := 7) rfl rfl) hK (hP.sub [7, 8, 9, 10, 11, 12] rfl) rfl hl.1 rfl (Nat.le_of_ble_eq_true rfl) dX4_ticksFor_36 ⟨Nat.zero_le _, Nat.zero_le _⟩ ?_
      rw [show s_X4_ticksFor ρ ϖ σ τ hs p1 p2 = (s_X0_ticksTo σ (s_X0_sectorFor σ p1)) from by rw [s_X4_ticksFor]; rw [if_neg c_1, if_pos c_2]]
      exact W.iret hx hb hr (fun t ht hW => ⟨rfl, ht⟩) (fun _ h => nomatch h) dX4_ticksFor_39
    · skip
      refine lv_aload_n hx hb dX4_ticksFor_17 rfl (lv_at hl 0 rfl) ?_
      refine va_get (D := G.1) (ci := 4) (v := .ref (α 0)) (C := RX4) (T := TX4) (N := 6) hx hb hts hinX4 hown hK.1 hP 0 rfl rfl 0 (by decide) (hts (.fieldLink RX4 12 "GrooveTurns" "disc" "LGrooveTurns$Disc;") (by decide +kernel)) (fun _ h9 => h9) rfl dX4_ticksFor_18 ?_
      refine lv_iload_n hx hb dX4_ticksFor_21 rfl (lv_at hl 1 rfl) ?_
      refine rdV (As := [.int p1]) (rest := [.ref (α 0)]) (c_X0_sectorToWrite l G α σ p1) hF (cwV 1 hts gX4_ticksFor_X0_sectorToWrite rfl rfl rfl (by decide +kernel) ⟨Nat.le_of_ble_eq_true rfl, Nat.le_of_ble_eq_true rfl⟩) (va_recv hK.1 hP (ci := 0) (q0 := 7) rfl rfl) hK (hP.sub [7, 8, 9, 10, 11, 12] rfl) rfl hl.1 rfl (Nat.le_of_ble_eq_true rfl) dX4_ticksFor_22 ⟨Nat.zero_le _, Nat.zero_le _⟩ ?_
      refine lv_goto (tgt := 36) hx hb dX4_ticksFor_25 (by decide) ?_
      refine rdV (As := [.int (s_X0_sectorToWrite σ p1)]) (rest := []) (c_X0_ticksTo l G α σ (s_X0_sectorToWrite σ p1)) hF (cwV 1 hts gX4_ticksFor_X0_ticksTo rfl rfl rfl (by decide +kernel) ⟨Nat.le_of_ble_eq_true rfl, Nat.le_of_ble_eq_true rfl⟩) (va_recv hK.1 hP (ci := 0) (q0 := 7) rfl rfl) hK (hP.sub [7, 8, 9, 10, 11, 12] rfl) rfl hl.1 rfl (Nat.le_of_ble_eq_true rfl) dX4_ticksFor_36 ⟨Nat.zero_le _, Nat.zero_le _⟩ ?_
      rw [show s_X4_ticksFor ρ ϖ σ τ hs p1 p2 = (s_X0_ticksTo σ (s_X0_sectorToWrite σ p1)) from by rw [s_X4_ticksFor]; rw [if_neg c_1, if_neg c_2]]
      exact W.iret hx hb hr (fun t ht hW => ⟨rfl, ht⟩) (fun _ h => nomatch h) dX4_ticksFor_39
  · skip
    refine lv_iconst (v := (-1)) hx hb dX4_ticksFor_7 (by decide) ?_
    rw [show s_X4_ticksFor ρ ϖ σ τ hs p1 p2 = (-1) from by rw [s_X4_ticksFor]; rw [if_pos c_1]]
    exact W.iret hx hb hr (fun t ht hW => ⟨rfl, ht⟩) (fun _ h => nomatch h) dX4_ticksFor_8
def L1_X4_worst (ρ : QS) (ϖ : PS) (σ : DS) (τ : DS) (hs : HS) : Nat → Int32 → Int32 → Int32 → Int32
  | 0, v1_1, v1_2, v1_3 => 0
  | n + 1, v1_1, v1_2, v1_3 => (if 192 ≤ v1_3 then v1_1 else (if (s_X0_isReadable σ (s_X0_sectorFor σ v1_3)) = 0 then (L1_X4_worst ρ ϖ σ τ hs n v1_1 v1_2 (v1_3 + 1)) else (if (s_X0_blurOf σ (s_X0_sectorFor σ v1_3)) ≤ v1_2 then (L1_X4_worst ρ ϖ σ τ hs n v1_1 v1_2 (v1_3 + 1)) else (L1_X4_worst ρ ϖ σ τ hs n v1_3 (s_X0_blurOf σ (s_X0_sectorFor σ v1_3)) (v1_3 + 1)))))
def okL1_X4_worst (ρ : QS) (ϖ : PS) (σ : DS) (τ : DS) (hs : HS) : Nat → Int32 → Int32 → Int32 → Prop
  | 0, _, _, _ => False
  | n + 1, v1_1, v1_2, v1_3 => (192 ≤ v1_3 → True) ∧ (¬ 192 ≤ v1_3 → (((s_X0_isReadable σ (s_X0_sectorFor σ v1_3)) = 0 → (okL1_X4_worst ρ ϖ σ τ hs n v1_1 v1_2 (v1_3 + 1))) ∧ (¬ (s_X0_isReadable σ (s_X0_sectorFor σ v1_3)) = 0 → (((s_X0_blurOf σ (s_X0_sectorFor σ v1_3)) ≤ v1_2 → (okL1_X4_worst ρ ϖ σ τ hs n v1_1 v1_2 (v1_3 + 1))) ∧ (¬ (s_X0_blurOf σ (s_X0_sectorFor σ v1_3)) ≤ v1_2 → (okL1_X4_worst ρ ϖ σ τ hs n v1_3 (s_X0_blurOf σ (s_X0_sectorFor σ v1_3)) (v1_3 + 1)))))))
def s_X4_worst (ρ : QS) (ϖ : PS) (σ : DS) (τ : DS) (hs : HS) : Int32 := (L1_X4_worst ρ ϖ σ τ hs FU (-6) (-1) 0)
def ok_X4_worst (ρ : QS) (ϖ : PS) (σ : DS) (τ : DS) (hs : HS) : Prop := okL1_X4_worst ρ ϖ σ τ hs FU (-6) (-1) 0
set_option maxHeartbeats 4000000 in
set_option maxRecDepth 100000 in
theorem wL1_X4_worst {p : Program} {e : Env} {s : State} {m : MethodId} {args : Array Value} {below : List Frame} {meth : Method} {c : Code} (l : Launch) (G : GG) (γ : Nat) (κ : Nat → Nat) (π : Nat → Nat) (α : Nat → Nat) (β : Nat → Nat) (η : Nat → Nat) (ς : Nat) (ρ : QS) (ϖ : PS) (σ : DS) (τ : DS) (hs : HS) (hP : va_P G.1 vwCl ((gW γ (α 0) (β 0) (π 0) (κ 0) (η 0) ς) ++ ((qW G.2.1 κ ρ) ++ ((pW G.2.1 π ϖ) ++ ((dW G.2.1 α σ) ++ ((dW G.2.1 β τ) ++ (hW G.2.2 η hs)))))) s.heap) (C0 : cA p s m meth c args cX4_worst 5 (some .int) wsX4_worst RX4) (hK : cK G s) : ∀ (n : Nat) (v1_1 : Int32) (v1_2 : Int32) (v1_3 : Int32)  (hok : okL1_X4_worst ρ ϖ σ τ hs n v1_1 v1_2 v1_3) (ls : Array Slot), lv_has ls 5 [(0, .ref γ), (1, .int v1_1), (2, .int v1_2), (3, .int v1_3)] → W p l e (rmm 3 63) s m args below meth c s.heap [] 0 0 (MQ below (QR (some (.int (L1_X4_worst ρ ϖ σ τ hs n v1_1 v1_2 v1_3)))) args s 0 0 (fun _ => False)) (F0 m 7 ls []) := by
  obtain ⟨hx, hb, hr, hml, hown, hts, hlocks⟩ := id C0
  have hF : CallFix p m c cX4_worst 5 s args wsX4_worst RX4 := ⟨hx, hb, hml, hown, hts⟩
  have hinX4 : ∀ w ∈ wsX40, w ∈ wsX4_worst := by decide +kernel
  intro n
  induction n with
  | zero =>
    intro v1_1 v1_2 v1_3 hok
    exact hok.elim
  | succ n ih =>
    intro v1_1 v1_2 v1_3 hok ls hl
    have hok : (192 ≤ v1_3 → True) ∧ (¬ 192 ≤ v1_3 → (((s_X0_isReadable σ (s_X0_sectorFor σ v1_3)) = 0 → (okL1_X4_worst ρ ϖ σ τ hs n v1_1 v1_2 (v1_3 + 1))) ∧ (¬ (s_X0_isReadable σ (s_X0_sectorFor σ v1_3)) = 0 → (((s_X0_blurOf σ (s_X0_sectorFor σ v1_3)) ≤ v1_2 → (okL1_X4_worst ρ ϖ σ τ hs n v1_1 v1_2 (v1_3 + 1))) ∧ (¬ (s_X0_blurOf σ (s_X0_sectorFor σ v1_3)) ≤ v1_2 → (okL1_X4_worst ρ ϖ σ τ hs n v1_3 (s_X0_blurOf σ (s_X0_sectorFor σ v1_3)) (v1_3 + 1))))))) := hok
    refine lv_iload_n hx hb dX4_worst_7 rfl (lv_at hl 3 rfl) ?_
    refine lv_sipush (v := 192) hx hb dX4_worst_8 (by decide) ?_
    refine lv_icmp_ge (tgt := 67) hx hb dX4_worst_11 (by decide) (fun (c_1 : 192 ≤ v1_3) => ?_) (fun (c_1 : ¬ 192 ≤ v1_3) => ?_)
    · skip
      refine lv_iload_n hx hb dX4_worst_67 rfl (lv_at hl 1 rfl) ?_
      rw [show (L1_X4_worst ρ ϖ σ τ hs (n + 1) v1_1 v1_2 v1_3) = v1_1 from by rw [L1_X4_worst]; rw [if_pos c_1]]
      exact W.iret hx hb hr (fun t ht hW => ⟨rfl, ht⟩) (fun _ h => nomatch h) dX4_worst_68
    · skip
      have hok := hok.2 c_1
      refine lv_aload_n hx hb dX4_worst_14 rfl (lv_at hl 0 rfl) ?_
      refine va_get (D := G.1) (ci := 4) (v := .ref (α 0)) (C := RX4) (T := TX4) (N := 6) hx hb hts hinX4 hown hK.1 hP 0 rfl rfl 0 (by decide) (hts (.fieldLink RX4 12 "GrooveTurns" "disc" "LGrooveTurns$Disc;") (by decide +kernel)) (fun _ h9 => h9) rfl dX4_worst_15 ?_
      refine lv_iload_n hx hb dX4_worst_18 rfl (lv_at hl 3 rfl) ?_
      refine rdV (As := [.int v1_3]) (rest := []) (c_X0_sectorFor l G α σ v1_3) hF (cwV 1 hts gX4_worst_X0_sectorFor rfl rfl rfl (by decide +kernel) ⟨Nat.le_of_ble_eq_true rfl, Nat.le_of_ble_eq_true rfl⟩) (va_recv hK.1 hP (ci := 0) (q0 := 7) rfl rfl) hK (hP.sub [7, 8, 9, 10, 11, 12] rfl) rfl hl.1 rfl (Nat.le_of_ble_eq_true rfl) dX4_worst_19 ⟨Nat.zero_le _, Nat.zero_le _⟩ ?_
      refine lv_istore (lv' := [(4, .int (s_X0_sectorFor σ v1_3)), (0, .ref γ), (1, .int v1_1), (2, .int v1_2), (3, .int v1_3)]) hx hb dX4_worst_22 hl (by decide) rfl (fun ls hl => ?_)
      refine lv_aload_n hx hb dX4_worst_24 rfl (lv_at hl 1 rfl) ?_
      refine va_get (D := G.1) (ci := 4) (v := .ref (α 0)) (C := RX4) (T := TX4) (N := 6) hx hb hts hinX4 hown hK.1 hP 0 rfl rfl 0 (by decide) (hts (.fieldLink RX4 12 "GrooveTurns" "disc" "LGrooveTurns$Disc;") (by decide +kernel)) (fun _ h9 => h9) rfl dX4_worst_25 ?_
      refine lv_iload hx hb dX4_worst_28 (lv_at hl 0 rfl) ?_
      refine rdV (As := [.int (s_X0_sectorFor σ v1_3)]) (rest := []) (c_X0_isReadable l G α σ (s_X0_sectorFor σ v1_3)) hF (cwV 1 hts gX4_worst_X0_isReadable rfl rfl rfl (by decide +kernel) ⟨Nat.le_of_ble_eq_true rfl, Nat.le_of_ble_eq_true rfl⟩) (va_recv hK.1 hP (ci := 0) (q0 := 7) rfl rfl) hK (hP.sub [7, 8, 9, 10, 11, 12] rfl) rfl hl.1 rfl (Nat.le_of_ble_eq_true rfl) dX4_worst_30 ⟨Nat.zero_le _, Nat.zero_le _⟩ ?_
      refine lv_if_eq (tgt := 61) hx hb dX4_worst_33 (by decide) (fun (c_2 : (s_X0_isReadable σ (s_X0_sectorFor σ v1_3)) = 0) => ?_) (fun (c_2 : ¬ (s_X0_isReadable σ (s_X0_sectorFor σ v1_3)) = 0) => ?_)
      · skip
        have hok := hok.1 c_2
        refine lv_iinc (v := (v1_3 + 1)) (lv' := [(3, .int (v1_3 + 1)), (4, .int (s_X0_sectorFor σ v1_3)), (0, .ref γ), (1, .int v1_1), (2, .int v1_2)]) hx hb dX4_worst_61 hl (k := 4) rfl rfl (by decide) rfl (fun ls hl => ?_)
        refine lv_goto (tgt := 7) hx hb dX4_worst_64 (by decide) ?_
        rw [show (L1_X4_worst ρ ϖ σ τ hs (n + 1) v1_1 v1_2 v1_3) = (L1_X4_worst ρ ϖ σ τ hs n v1_1 v1_2 (v1_3 + 1)) from by rw [L1_X4_worst]; rw [if_neg c_1, if_pos c_2]]
        exact ih v1_1 v1_2 (v1_3 + 1) hok ls (lv_sub hl [2, 3, 4, 0] rfl)
      · skip
        have hok := hok.2 c_2
        refine lv_aload_n hx hb dX4_worst_36 rfl (lv_at hl 1 rfl) ?_
        refine va_get (D := G.1) (ci := 4) (v := .ref (α 0)) (C := RX4) (T := TX4) (N := 6) hx hb hts hinX4 hown hK.1 hP 0 rfl rfl 0 (by decide) (hts (.fieldLink RX4 12 "GrooveTurns" "disc" "LGrooveTurns$Disc;") (by decide +kernel)) (fun _ h9 => h9) rfl dX4_worst_37 ?_
        refine lv_iload hx hb dX4_worst_40 (lv_at hl 0 rfl) ?_
        refine rdV (As := [.int (s_X0_sectorFor σ v1_3)]) (rest := []) (c_X0_blurOf l G α σ (s_X0_sectorFor σ v1_3)) hF (cwV 1 hts gX4_worst_X0_blurOf rfl rfl rfl (by decide +kernel) ⟨Nat.le_of_ble_eq_true rfl, Nat.le_of_ble_eq_true rfl⟩) (va_recv hK.1 hP (ci := 0) (q0 := 7) rfl rfl) hK (hP.sub [7, 8, 9, 10, 11, 12] rfl) rfl hl.1 rfl (Nat.le_of_ble_eq_true rfl) dX4_worst_42 ⟨Nat.zero_le _, Nat.zero_le _⟩ ?_
        refine lv_iload_n hx hb dX4_worst_45 rfl (lv_at hl 3 rfl) ?_
        refine lv_icmp_le (tgt := 61) hx hb dX4_worst_46 (by decide) (fun (c_3 : (s_X0_blurOf σ (s_X0_sectorFor σ v1_3)) ≤ v1_2) => ?_) (fun (c_3 : ¬ (s_X0_blurOf σ (s_X0_sectorFor σ v1_3)) ≤ v1_2) => ?_)
        · skip
          have hok := hok.1 c_3
          refine lv_iinc (v := (v1_3 + 1)) (lv' := [(3, .int (v1_3 + 1)), (4, .int (s_X0_sectorFor σ v1_3)), (0, .ref γ), (1, .int v1_1), (2, .int v1_2)]) hx hb dX4_worst_61 hl (k := 4) rfl rfl (by decide) rfl (fun ls hl => ?_)
          refine lv_goto (tgt := 7) hx hb dX4_worst_64 (by decide) ?_
          rw [show (L1_X4_worst ρ ϖ σ τ hs (n + 1) v1_1 v1_2 v1_3) = (L1_X4_worst ρ ϖ σ τ hs n v1_1 v1_2 (v1_3 + 1)) from by rw [L1_X4_worst]; rw [if_neg c_1, if_neg c_2, if_pos c_3]]
          exact ih v1_1 v1_2 (v1_3 + 1) hok ls (lv_sub hl [2, 3, 4, 0] rfl)
        · skip
          have hok := hok.2 c_3
          refine lv_iload_n hx hb dX4_worst_49 rfl (lv_at hl 4 rfl) ?_
          refine lv_istore_n (lv' := [(1, .int v1_3), (4, .int (s_X0_sectorFor σ v1_3)), (0, .ref γ), (2, .int v1_2), (3, .int v1_3)]) hx hb dX4_worst_50 rfl hl (by decide) rfl (fun ls hl => ?_)
          refine lv_aload_n hx hb dX4_worst_51 rfl (lv_at hl 2 rfl) ?_
          refine va_get (D := G.1) (ci := 4) (v := .ref (α 0)) (C := RX4) (T := TX4) (N := 6) hx hb hts hinX4 hown hK.1 hP 0 rfl rfl 0 (by decide) (hts (.fieldLink RX4 12 "GrooveTurns" "disc" "LGrooveTurns$Disc;") (by decide +kernel)) (fun _ h9 => h9) rfl dX4_worst_52 ?_
          refine lv_iload hx hb dX4_worst_55 (lv_at hl 1 rfl) ?_
          refine rdV (As := [.int (s_X0_sectorFor σ v1_3)]) (rest := []) (c_X0_blurOf l G α σ (s_X0_sectorFor σ v1_3)) hF (cwV 1 hts gX4_worst_X0_blurOf rfl rfl rfl (by decide +kernel) ⟨Nat.le_of_ble_eq_true rfl, Nat.le_of_ble_eq_true rfl⟩) (va_recv hK.1 hP (ci := 0) (q0 := 7) rfl rfl) hK (hP.sub [7, 8, 9, 10, 11, 12] rfl) rfl hl.1 rfl (Nat.le_of_ble_eq_true rfl) dX4_worst_57 ⟨Nat.zero_le _, Nat.zero_le _⟩ ?_
          refine lv_istore_n (lv' := [(2, .int (s_X0_blurOf σ (s_X0_sectorFor σ v1_3))), (1, .int v1_3), (4, .int (s_X0_sectorFor σ v1_3)), (0, .ref γ), (3, .int v1_3)]) hx hb dX4_worst_60 rfl hl (by decide) rfl (fun ls hl => ?_)
          refine lv_iinc (v := (v1_3 + 1)) (lv' := [(3, .int (v1_3 + 1)), (2, .int (s_X0_blurOf σ (s_X0_sectorFor σ v1_3))), (1, .int v1_3), (4, .int (s_X0_sectorFor σ v1_3)), (0, .ref γ)]) hx hb dX4_worst_61 hl (k := 4) rfl rfl (by decide) rfl (fun ls hl => ?_)
          refine lv_goto (tgt := 7) hx hb dX4_worst_64 (by decide) ?_
          rw [show (L1_X4_worst ρ ϖ σ τ hs (n + 1) v1_1 v1_2 v1_3) = (L1_X4_worst ρ ϖ σ τ hs n v1_3 (s_X0_blurOf σ (s_X0_sectorFor σ v1_3)) (v1_3 + 1)) from by rw [L1_X4_worst]; rw [if_neg c_1, if_neg c_2, if_neg c_3]]
          exact ih v1_3 (s_X0_blurOf σ (s_X0_sectorFor σ v1_3)) (v1_3 + 1) hok ls (lv_sub hl [4, 2, 1, 0] rfl)
set_option maxHeartbeats 4000000 in
set_option maxRecDepth 100000 in
theorem c_X4_worst (l : Launch) (G : GG) (γ : Nat) (κ : Nat → Nat) (π : Nat → Nat) (α : Nat → Nat) (β : Nat → Nat) (η : Nat → Nat) (ς : Nat) (ρ : QS) (ϖ : PS) (σ : DS) (τ : DS) (hs : HS) (hok : ok_X4_worst ρ ϖ σ τ hs) : Rd G l yX4_worst wsX4_worst 3 63 [.ref γ] ((gW γ (α 0) (β 0) (π 0) (κ 0) (η 0) ς) ++ ((qW G.2.1 κ ρ) ++ ((pW G.2.1 π ϖ) ++ ((dW G.2.1 α σ) ++ ((dW G.2.1 β τ) ++ (hW G.2.2 η hs)))))) (.int (s_X4_worst ρ ϖ σ τ hs)) := by
  refine Met.ofW (cc := cX4_worst) (maxL := 5) (ret := (some .int)) (by decide) rfl ?_
  intro p e s m args below meth c s₁ B hml hv
  obtain ⟨rfl, hP, hK⟩ := hv
  have C0 : cA p s m meth c ([.ref γ] : List Value).toArray cX4_worst 5 (some .int) wsX4_worst RX4 := ⟨B.exec, B.bytes, B.returns, hml, findClass_of_methodNamed B.named, atoms_spec (ws := wsX4_worst) B.pre, B.notSynchronized⟩
  obtain ⟨hx, hb, hr, hml, hown, hts, hlocks⟩ := id C0
  have hF : CallFix p m c cX4_worst 5 s _ wsX4_worst RX4 := ⟨hx, hb, hml, hown, hts⟩
  have hinX4 : ∀ w ∈ wsX40, w ∈ wsX4_worst := by decide +kernel
  have hl := lv_entry ([.ref γ]) (n := 5) (Nat.le_of_ble_eq_true rfl)
  rw [lg_entry_eq]
  generalize (lg_sl ([.ref γ]) ++ List.replicate (5 - (lg_sl ([.ref γ])).length) Slot.unset).toArray = ls at hl ⊢
  have hl : lv_has ls 5 [(0, .ref γ)] := hl
  have hok : okL1_X4_worst ρ ϖ σ τ hs FU (-6) (-1) 0 := hok
  refine lv_bipush (v := (-6)) hx hb dX4_worst_0 (by decide) ?_
  refine lv_istore_n (lv' := [(1, .int (-6)), (0, .ref γ)]) hx hb dX4_worst_2 rfl hl (by decide) rfl (fun ls hl => ?_)
  refine lv_iconst (v := (-1)) hx hb dX4_worst_3 (by decide) ?_
  refine lv_istore_n (lv' := [(2, .int (-1)), (1, .int (-6)), (0, .ref γ)]) hx hb dX4_worst_4 rfl hl (by decide) rfl (fun ls hl => ?_)
  refine lv_iconst (v := 0) hx hb dX4_worst_5 (by decide) ?_
  refine lv_istore_n (lv' := [(3, .int 0), (2, .int (-1)), (1, .int (-6)), (0, .ref γ)]) hx hb dX4_worst_6 rfl hl (by decide) rfl (fun ls hl => ?_)
  rw [show s_X4_worst ρ ϖ σ τ hs = (L1_X4_worst ρ ϖ σ τ hs FU (-6) (-1) 0) from by rw [s_X4_worst]]
  exact wL1_X4_worst l G γ κ π α β η ς ρ ϖ σ τ hs hP C0 hK FU (-6) (-1) 0 hok ls (lv_sub hl [3, 2, 1, 0] rfl)
theorem pm6_201345_1 (A0 A1 A2 A3 A4 A5 : va_W) : List.Perm (A0 ++ (A1 ++ (A2 ++ (A3 ++ (A4 ++ A5))))) (A2 ++ (A0 ++ (A1 ++ (A3 ++ (A4 ++ A5))))) := by
  haveI : DecidableEq (Nat × va_E) := fun _ _ => Classical.propDecidable _
  exact List.perm_iff_count.mpr (fun a => by simp only [List.count_append]; omega)
def s_X4_put (ρ : QS) (ϖ : PS) (σ : DS) (τ : DS) (hs : HS) (p1 : Int64) : Int32 × PS := (if 1 ≤ (s_X4_signsIn p1) then (if ((p_le ϖ) + (s_X4_signsIn p1)) ≤ 60 then ((p_le (s_X2_append ϖ p1 (s_X4_signsIn p1))), (s_X2_append ϖ p1 (s_X4_signsIn p1))) else ((-4), ϖ)) else ((-2), ϖ))
def ok_X4_put (ρ : QS) (ϖ : PS) (σ : DS) (τ : DS) (hs : HS) (p1 : Int64) : Prop := (ok_X4_signsIn p1) ∧ ((1 ≤ (s_X4_signsIn p1) → ((((p_le ϖ) + (s_X4_signsIn p1)) ≤ 60 → (ok_X2_append ϖ p1 (s_X4_signsIn p1))) ∧ (¬ ((p_le ϖ) + (s_X4_signsIn p1)) ≤ 60 → True))) ∧ (¬ 1 ≤ (s_X4_signsIn p1) → True))
set_option maxHeartbeats 4000000 in
set_option maxRecDepth 100000 in
theorem c_X4_put (l : Launch) (G : GG) (γ : Nat) (κ : Nat → Nat) (π : Nat → Nat) (α : Nat → Nat) (β : Nat → Nat) (η : Nat → Nat) (ς : Nat) (ρ : QS) (ϖ : PS) (σ : DS) (τ : DS) (hs : HS) (p1 : Int64) (hok : ok_X4_put ρ ϖ σ τ hs p1) : Wr G l yX4_put wsX4_put 2 46 [.ref γ, .long p1] ((gW γ (α 0) (β 0) (π 0) (κ 0) (η 0) ς) ++ ((qW G.2.1 κ ρ) ++ ((pW G.2.1 π ϖ) ++ ((dW G.2.1 α σ) ++ ((dW G.2.1 β τ) ++ (hW G.2.2 η hs)))))) (some (.int (s_X4_put ρ ϖ σ τ hs p1).1)) ((gW γ (α 0) (β 0) (π 0) (κ 0) (η 0) ς) ++ ((qW G.2.1 κ ρ) ++ ((pW G.2.1 π ((s_X4_put ρ ϖ σ τ hs p1).2)) ++ ((dW G.2.1 α σ) ++ ((dW G.2.1 β τ) ++ (hW G.2.2 η hs)))))) := by
  refine Met.ofW (cc := cX4_put) (maxL := 4) (ret := (some .int)) (by decide) rfl ?_
  intro p e s m args below meth c s₁ B hml hv
  obtain ⟨rfl, hP, hK, hD0⟩ := hv
  have C0 : cA p s m meth c ([.ref γ, .long p1] : List Value).toArray cX4_put 4 (some .int) wsX4_put RX4 := ⟨B.exec, B.bytes, B.returns, hml, findClass_of_methodNamed B.named, atoms_spec (ws := wsX4_put) B.pre, B.notSynchronized⟩
  obtain ⟨hx, hb, hr, hml, hown, hts, hlocks⟩ := id C0
  have hF : CallFix p m c cX4_put 4 s _ wsX4_put RX4 := ⟨hx, hb, hml, hown, hts⟩
  have hinX2 : ∀ w ∈ wsX20, w ∈ wsX4_put := by decide +kernel
  have hinX4 : ∀ w ∈ wsX40, w ∈ wsX4_put := by decide +kernel
  obtain ⟨w0, hw0⟩ : ∃ w0 : va_W, w0 = ((gW γ (α 0) (β 0) (π 0) (κ 0) (η 0) ς) ++ ((qW G.2.1 κ ρ) ++ ((pW G.2.1 π ϖ) ++ ((dW G.2.1 α σ) ++ ((dW G.2.1 β τ) ++ (hW G.2.2 η hs)))))) := ⟨_, rfl⟩
  have hD : va_D (inW w0) ((gW γ (α 0) (β 0) (π 0) (κ 0) (η 0) ς) ++ ((qW G.2.1 κ ρ) ++ ((pW G.2.1 π ϖ) ++ ((dW G.2.1 α σ) ++ ((dW G.2.1 β τ) ++ (hW G.2.2 η hs)))))) := by rw [hw0]; exact inW.D hD0
  have hS : va_S (inW w0) s.heap s.heap [] := va_S.rf
  rw [show QW G ((gW γ (α 0) (β 0) (π 0) (κ 0) (η 0) ς) ++ ((qW G.2.1 κ ρ) ++ ((pW G.2.1 π ϖ) ++ ((dW G.2.1 α σ) ++ ((dW G.2.1 β τ) ++ (hW G.2.2 η hs)))))) = QW G w0 from by rw [hw0], show inW ((gW γ (α 0) (β 0) (π 0) (κ 0) (η 0) ς) ++ ((qW G.2.1 κ ρ) ++ ((pW G.2.1 π ϖ) ++ ((dW G.2.1 α σ) ++ ((dW G.2.1 β τ) ++ (hW G.2.2 η hs)))))) = inW w0 from by rw [hw0]]
  have hl := lv_entry ([.ref γ, .long p1]) (n := 4) (Nat.le_of_ble_eq_true rfl)
  rw [lg_entry_eq]
  generalize (lg_sl ([.ref γ, .long p1]) ++ List.replicate (4 - (lg_sl ([.ref γ, .long p1])).length) Slot.unset).toArray = ls at hl ⊢
  have hl : lv_has ls 4 [(0, .ref γ), (1, .long p1)] := hl
  have hok : (ok_X4_signsIn p1) ∧ ((1 ≤ (s_X4_signsIn p1) → ((((p_le ϖ) + (s_X4_signsIn p1)) ≤ 60 → (ok_X2_append ϖ p1 (s_X4_signsIn p1))) ∧ (¬ ((p_le ϖ) + (s_X4_signsIn p1)) ≤ 60 → True))) ∧ (¬ 1 ≤ (s_X4_signsIn p1) → True)) := hok
  obtain ⟨h_1, hok⟩ := hok
  refine lv_lload_n hx hb dX4_put_0 rfl (lv_at hl 1 rfl) ?_
  refine rdS (As := [.long p1]) (rest := []) (c_X4_signsIn l G p1 h_1) hF (va_cwS 1 hts gX4_put_X4_signsIn rfl rfl rfl (by decide +kernel) ⟨Nat.le_of_ble_eq_true rfl, Nat.le_of_ble_eq_true rfl⟩) hK va_P0 rfl hl.1 rfl (Nat.le_of_ble_eq_true rfl) dX4_put_1 ⟨Nat.zero_le _, Nat.zero_le _⟩ ?_
  refine lv_istore_n (lv' := [(3, .int (s_X4_signsIn p1)), (0, .ref γ), (1, .long p1)]) hx hb dX4_put_4 rfl hl (by decide) rfl (fun ls hl => ?_)
  refine lv_iload_n hx hb dX4_put_5 rfl (lv_at hl 0 rfl) ?_
  refine lv_iconst (v := 1) hx hb dX4_put_6 (by decide) ?_
  refine lv_icmp_ge (tgt := 13) hx hb dX4_put_7 (by decide) (fun (c_2 : 1 ≤ (s_X4_signsIn p1)) => ?_) (fun (c_2 : ¬ 1 ≤ (s_X4_signsIn p1)) => ?_)
  · skip
    have hok := hok.1 c_2
    refine lv_aload_n hx hb dX4_put_13 rfl (lv_at hl 1 rfl) ?_
    refine va_get (D := G.1) (ci := 4) (v := .ref (π 0)) (C := RX4) (T := TX4) (N := 6) hx hb hts hinX4 hown hK.1 hP 0 rfl rfl 2 (by decide) (hts (.fieldLink RX4 22 "GrooveTurns" "pad" "LGrooveTurns$Pad;") (by decide +kernel)) (fun _ h9 => h9) rfl dX4_put_14 ?_
    refine va_get (D := G.1) (ci := 2) (v := .int (p_le ϖ)) (C := RX2) (T := TX2) (N := 2) hx hb hts hinX2 hown hK.1 hP 5 rfl rfl 1 (by decide) (hts (.fieldLink RX4 159 "GrooveTurns$Pad" "length" "I") (by decide +kernel)) (fun _ h9 => h9) rfl dX4_put_17 ?_
    refine lv_iload_n hx hb dX4_put_20 rfl (lv_at hl 0 rfl) ?_
    refine lv_iadd hx hb dX4_put_21 ?_
    refine lv_bipush (v := 60) hx hb dX4_put_22 (by decide) ?_
    refine lv_icmp_le (tgt := 30) hx hb dX4_put_24 (by decide) (fun (c_3 : ((p_le ϖ) + (s_X4_signsIn p1)) ≤ 60) => ?_) (fun (c_3 : ¬ ((p_le ϖ) + (s_X4_signsIn p1)) ≤ 60) => ?_)
    · skip
      have hok := hok.1 c_3
      have h_4 := hok
      refine lv_aload_n hx hb dX4_put_30 rfl (lv_at hl 1 rfl) ?_
      refine va_get (D := G.1) (ci := 4) (v := .ref (π 0)) (C := RX4) (T := TX4) (N := 6) hx hb hts hinX4 hown hK.1 hP 0 rfl rfl 2 (by decide) (hts (.fieldLink RX4 22 "GrooveTurns" "pad" "LGrooveTurns$Pad;") (by decide +kernel)) (fun _ h9 => h9) rfl dX4_put_31 ?_
      refine lv_lload_n hx hb dX4_put_34 rfl (lv_at hl 2 rfl) ?_
      refine lv_iload_n hx hb dX4_put_35 rfl (lv_at hl 0 rfl) ?_
      refine wrVP (W1 := ((gW γ (α 0) (β 0) (π 0) (κ 0) (η 0) ς) ++ ((qW G.2.1 κ ρ) ++ ((pW G.2.1 π (s_X2_append ϖ p1 (s_X4_signsIn p1))) ++ ((dW G.2.1 α σ) ++ ((dW G.2.1 β τ) ++ (hW G.2.2 η hs))))))) (As := [.long p1, .int (s_X4_signsIn p1)]) (rest := []) (c_X2_append l G π ϖ p1 (s_X4_signsIn p1) h_4) hF (cwV 2 hts gX4_put_X2_append rfl rfl rfl (by decide +kernel) ⟨Nat.le_of_ble_eq_true rfl, Nat.le_of_ble_eq_true rfl⟩) (va_recv hK.1 hP (ci := 2) (q0 := 5) rfl rfl) hK hP hD hS (pm6_201345_1 _ _ _ _ _ _) (pm6_201345_1 _ _ _ _ _ _).symm ((fst_P _ _)) rfl hl.1 rfl (Nat.le_of_ble_eq_true rfl) dX4_put_36 ⟨Nat.zero_le _, Nat.zero_le _⟩ (fun H locs hP hD hS => ?_)
      have hP : va_P G.1 vwCl ((gW γ (α 0) (β 0) (π 0) (κ 0) (η 0) ς) ++ ((qW G.2.1 κ ρ) ++ ((pW G.2.1 π (s_X2_append ϖ p1 (s_X4_signsIn p1))) ++ ((dW G.2.1 α σ) ++ ((dW G.2.1 β τ) ++ (hW G.2.2 η hs)))))) H := hP
      have hD : va_D (inW w0) ((gW γ (α 0) (β 0) (π 0) (κ 0) (η 0) ς) ++ ((qW G.2.1 κ ρ) ++ ((pW G.2.1 π (s_X2_append ϖ p1 (s_X4_signsIn p1))) ++ ((dW G.2.1 α σ) ++ ((dW G.2.1 β τ) ++ (hW G.2.2 η hs)))))) := hD
      refine lv_aload_n hx hb dX4_put_39 rfl (lv_at hl 1 rfl) ?_
      refine va_get (D := G.1) (ci := 4) (v := .ref (π 0)) (C := RX4) (T := TX4) (N := 6) hx hb hts hinX4 hown hK.1 hP 0 rfl rfl 2 (by decide) (hts (.fieldLink RX4 22 "GrooveTurns" "pad" "LGrooveTurns$Pad;") (by decide +kernel)) (fun _ h9 => h9) rfl dX4_put_40 ?_
      refine va_get (D := G.1) (ci := 2) (v := .int (p_le (s_X2_append ϖ p1 (s_X4_signsIn p1)))) (C := RX2) (T := TX2) (N := 2) hx hb hts hinX2 hown hK.1 hP 5 rfl rfl 1 (by decide) (hts (.fieldLink RX4 159 "GrooveTurns$Pad" "length" "I") (by decide +kernel)) (fun _ h9 => h9) rfl dX4_put_43 ?_
      have E9 : s_X4_put ρ ϖ σ τ hs p1 = ((p_le (s_X2_append ϖ p1 (s_X4_signsIn p1))), (s_X2_append ϖ p1 (s_X4_signsIn p1))) := by rw [s_X4_put]; rw [if_pos c_2, if_pos c_3]
      rw [pr1 E9, pr2 E9]
      exact W.iret hx hb hr (fun t ht hW => ⟨rfl, by rw [ht]; exact hP, hS.F ht⟩) hS.2.2 dX4_put_46
    · skip
      refine lv_bipush (v := (-4)) hx hb dX4_put_27 (by decide) ?_
      have E9 : s_X4_put ρ ϖ σ τ hs p1 = ((-4), ϖ) := by rw [s_X4_put]; rw [if_pos c_2, if_neg c_3]
      rw [pr1 E9, pr2 E9]
      exact W.iret hx hb hr (fun t ht hW => ⟨rfl, by rw [ht]; exact hP, hS.F ht⟩) hS.2.2 dX4_put_29
  · skip
    refine lv_bipush (v := (-2)) hx hb dX4_put_10 (by decide) ?_
    have E9 : s_X4_put ρ ϖ σ τ hs p1 = ((-2), ϖ) := by rw [s_X4_put]; rw [if_neg c_2]
    rw [pr1 E9, pr2 E9]
    exact W.iret hx hb hr (fun t ht hW => ⟨rfl, by rw [ht]; exact hP, hS.F ht⟩) hS.2.2 dX4_put_12
def s_X4_wipe (ρ : QS) (ϖ : PS) (σ : DS) (τ : DS) (hs : HS) : Int32 × PS := ((p_le ϖ), (s_X2_clear ϖ))
set_option maxHeartbeats 4000000 in
set_option maxRecDepth 100000 in
theorem c_X4_wipe (l : Launch) (G : GG) (γ : Nat) (κ : Nat → Nat) (π : Nat → Nat) (α : Nat → Nat) (β : Nat → Nat) (η : Nat → Nat) (ς : Nat) (ρ : QS) (ϖ : PS) (σ : DS) (τ : DS) (hs : HS) : Wr G l yX4_wipe wsX4_wipe 1 20 [.ref γ] ((gW γ (α 0) (β 0) (π 0) (κ 0) (η 0) ς) ++ ((qW G.2.1 κ ρ) ++ ((pW G.2.1 π ϖ) ++ ((dW G.2.1 α σ) ++ ((dW G.2.1 β τ) ++ (hW G.2.2 η hs)))))) (some (.int (s_X4_wipe ρ ϖ σ τ hs).1)) ((gW γ (α 0) (β 0) (π 0) (κ 0) (η 0) ς) ++ ((qW G.2.1 κ ρ) ++ ((pW G.2.1 π ((s_X4_wipe ρ ϖ σ τ hs).2)) ++ ((dW G.2.1 α σ) ++ ((dW G.2.1 β τ) ++ (hW G.2.2 η hs)))))) := by
  refine Met.ofW (cc := cX4_wipe) (maxL := 2) (ret := (some .int)) (by decide) rfl ?_
  intro p e s m args below meth c s₁ B hml hv
  obtain ⟨rfl, hP, hK, hD0⟩ := hv
  have C0 : cA p s m meth c ([.ref γ] : List Value).toArray cX4_wipe 2 (some .int) wsX4_wipe RX4 := ⟨B.exec, B.bytes, B.returns, hml, findClass_of_methodNamed B.named, atoms_spec (ws := wsX4_wipe) B.pre, B.notSynchronized⟩
  obtain ⟨hx, hb, hr, hml, hown, hts, hlocks⟩ := id C0
  have hF : CallFix p m c cX4_wipe 2 s _ wsX4_wipe RX4 := ⟨hx, hb, hml, hown, hts⟩
  have hinX2 : ∀ w ∈ wsX20, w ∈ wsX4_wipe := by decide +kernel
  have hinX4 : ∀ w ∈ wsX40, w ∈ wsX4_wipe := by decide +kernel
  obtain ⟨w0, hw0⟩ : ∃ w0 : va_W, w0 = ((gW γ (α 0) (β 0) (π 0) (κ 0) (η 0) ς) ++ ((qW G.2.1 κ ρ) ++ ((pW G.2.1 π ϖ) ++ ((dW G.2.1 α σ) ++ ((dW G.2.1 β τ) ++ (hW G.2.2 η hs)))))) := ⟨_, rfl⟩
  have hD : va_D (inW w0) ((gW γ (α 0) (β 0) (π 0) (κ 0) (η 0) ς) ++ ((qW G.2.1 κ ρ) ++ ((pW G.2.1 π ϖ) ++ ((dW G.2.1 α σ) ++ ((dW G.2.1 β τ) ++ (hW G.2.2 η hs)))))) := by rw [hw0]; exact inW.D hD0
  have hS : va_S (inW w0) s.heap s.heap [] := va_S.rf
  rw [show QW G ((gW γ (α 0) (β 0) (π 0) (κ 0) (η 0) ς) ++ ((qW G.2.1 κ ρ) ++ ((pW G.2.1 π ϖ) ++ ((dW G.2.1 α σ) ++ ((dW G.2.1 β τ) ++ (hW G.2.2 η hs)))))) = QW G w0 from by rw [hw0], show inW ((gW γ (α 0) (β 0) (π 0) (κ 0) (η 0) ς) ++ ((qW G.2.1 κ ρ) ++ ((pW G.2.1 π ϖ) ++ ((dW G.2.1 α σ) ++ ((dW G.2.1 β τ) ++ (hW G.2.2 η hs)))))) = inW w0 from by rw [hw0]]
  have hl := lv_entry ([.ref γ]) (n := 2) (Nat.le_of_ble_eq_true rfl)
  rw [lg_entry_eq]
  generalize (lg_sl ([.ref γ]) ++ List.replicate (2 - (lg_sl ([.ref γ])).length) Slot.unset).toArray = ls at hl ⊢
  have hl : lv_has ls 2 [(0, .ref γ)] := hl
  refine lv_aload_n hx hb dX4_wipe_0 rfl (lv_at hl 0 rfl) ?_
  refine va_get (D := G.1) (ci := 4) (v := .ref (π 0)) (C := RX4) (T := TX4) (N := 6) hx hb hts hinX4 hown hK.1 hP 0 rfl rfl 2 (by decide) (hts (.fieldLink RX4 22 "GrooveTurns" "pad" "LGrooveTurns$Pad;") (by decide +kernel)) (fun _ h9 => h9) rfl dX4_wipe_1 ?_
  refine va_get (D := G.1) (ci := 2) (v := .int (p_le ϖ)) (C := RX2) (T := TX2) (N := 2) hx hb hts hinX2 hown hK.1 hP 5 rfl rfl 1 (by decide) (hts (.fieldLink RX4 159 "GrooveTurns$Pad" "length" "I") (by decide +kernel)) (fun _ h9 => h9) rfl dX4_wipe_4 ?_
  refine lv_istore_n (lv' := [(1, .int (p_le ϖ)), (0, .ref γ)]) hx hb dX4_wipe_7 rfl hl (by decide) rfl (fun ls hl => ?_)
  refine lv_aload_n hx hb dX4_wipe_8 rfl (lv_at hl 1 rfl) ?_
  refine va_get (D := G.1) (ci := 4) (v := .ref (π 0)) (C := RX4) (T := TX4) (N := 6) hx hb hts hinX4 hown hK.1 hP 0 rfl rfl 2 (by decide) (hts (.fieldLink RX4 22 "GrooveTurns" "pad" "LGrooveTurns$Pad;") (by decide +kernel)) (fun _ h9 => h9) rfl dX4_wipe_9 ?_
  refine wrVP (W1 := ((gW γ (α 0) (β 0) (π 0) (κ 0) (η 0) ς) ++ ((qW G.2.1 κ ρ) ++ ((pW G.2.1 π (s_X2_clear ϖ)) ++ ((dW G.2.1 α σ) ++ ((dW G.2.1 β τ) ++ (hW G.2.2 η hs))))))) (As := []) (rest := []) (c_X2_clear l G π ϖ) hF (cwV 0 hts gX4_wipe_X2_clear rfl rfl rfl (by decide +kernel) ⟨Nat.le_of_ble_eq_true rfl, Nat.le_of_ble_eq_true rfl⟩) (va_recv hK.1 hP (ci := 2) (q0 := 5) rfl rfl) hK hP hD hS (pm6_201345_1 _ _ _ _ _ _) (pm6_201345_1 _ _ _ _ _ _).symm ((fst_P _ _)) rfl hl.1 rfl (Nat.le_of_ble_eq_true rfl) dX4_wipe_12 ⟨Nat.zero_le _, Nat.zero_le _⟩ (fun H locs hP hD hS => ?_)
  have hP : va_P G.1 vwCl ((gW γ (α 0) (β 0) (π 0) (κ 0) (η 0) ς) ++ ((qW G.2.1 κ ρ) ++ ((pW G.2.1 π (s_X2_clear ϖ)) ++ ((dW G.2.1 α σ) ++ ((dW G.2.1 β τ) ++ (hW G.2.2 η hs)))))) H := hP
  have hD : va_D (inW w0) ((gW γ (α 0) (β 0) (π 0) (κ 0) (η 0) ς) ++ ((qW G.2.1 κ ρ) ++ ((pW G.2.1 π (s_X2_clear ϖ)) ++ ((dW G.2.1 α σ) ++ ((dW G.2.1 β τ) ++ (hW G.2.2 η hs)))))) := hD
  refine lv_iload_n hx hb dX4_wipe_15 rfl (lv_at hl 0 rfl) ?_
  have E9 : s_X4_wipe ρ ϖ σ τ hs = ((p_le ϖ), (s_X2_clear ϖ)) := by rw [s_X4_wipe]
  rw [pr1 E9, pr2 E9]
  exact W.iret hx hb hr (fun t ht hW => ⟨rfl, by rw [ht]; exact hP, hS.F ht⟩) hS.2.2 dX4_wipe_16
theorem pm6_120345_2 (A0 A1 A2 A3 A4 A5 : va_W) : List.Perm (A0 ++ (A1 ++ (A2 ++ (A3 ++ (A4 ++ A5))))) ((A1 ++ A2) ++ (A0 ++ (A3 ++ (A4 ++ A5)))) := by
  haveI : DecidableEq (Nat × va_E) := fun _ _ => Classical.propDecidable _
  exact List.perm_iff_count.mpr (fun a => by simp only [List.count_append]; omega)
def s_X4_fault (ρ : QS) (ϖ : PS) (σ : DS) (τ : DS) (hs : HS) : Int32 × QS := (((s_X3_parse ρ ϖ).1), ((s_X3_parse ρ ϖ).2))
def ok_X4_fault (ρ : QS) (ϖ : PS) (σ : DS) (τ : DS) (hs : HS) : Prop := ok_X3_parse ρ ϖ
set_option maxHeartbeats 4000000 in
set_option maxRecDepth 100000 in
theorem c_X4_fault (l : Launch) (G : GG) (γ : Nat) (κ : Nat → Nat) (π : Nat → Nat) (α : Nat → Nat) (β : Nat → Nat) (η : Nat → Nat) (ς : Nat) (ρ : QS) (ϖ : PS) (σ : DS) (τ : DS) (hs : HS) (hok : ok_X4_fault ρ ϖ σ τ hs) : Wr G l yX4_fault wsX4_fault 5 106 [.ref γ] ((gW γ (α 0) (β 0) (π 0) (κ 0) (η 0) ς) ++ ((qW G.2.1 κ ρ) ++ ((pW G.2.1 π ϖ) ++ ((dW G.2.1 α σ) ++ ((dW G.2.1 β τ) ++ (hW G.2.2 η hs)))))) (some (.int (s_X4_fault ρ ϖ σ τ hs).1)) ((gW γ (α 0) (β 0) (π 0) (κ 0) (η 0) ς) ++ ((qW G.2.1 κ ((s_X4_fault ρ ϖ σ τ hs).2)) ++ ((pW G.2.1 π ϖ) ++ ((dW G.2.1 α σ) ++ ((dW G.2.1 β τ) ++ (hW G.2.2 η hs)))))) := by
  refine Met.ofW (cc := cX4_fault) (maxL := 1) (ret := (some .int)) (by decide) rfl ?_
  intro p e s m args below meth c s₁ B hml hv
  obtain ⟨rfl, hP, hK, hD0⟩ := hv
  have C0 : cA p s m meth c ([.ref γ] : List Value).toArray cX4_fault 1 (some .int) wsX4_fault RX4 := ⟨B.exec, B.bytes, B.returns, hml, findClass_of_methodNamed B.named, atoms_spec (ws := wsX4_fault) B.pre, B.notSynchronized⟩
  obtain ⟨hx, hb, hr, hml, hown, hts, hlocks⟩ := id C0
  have hF : CallFix p m c cX4_fault 1 s _ wsX4_fault RX4 := ⟨hx, hb, hml, hown, hts⟩
  have hinX4 : ∀ w ∈ wsX40, w ∈ wsX4_fault := by decide +kernel
  obtain ⟨w0, hw0⟩ : ∃ w0 : va_W, w0 = ((gW γ (α 0) (β 0) (π 0) (κ 0) (η 0) ς) ++ ((qW G.2.1 κ ρ) ++ ((pW G.2.1 π ϖ) ++ ((dW G.2.1 α σ) ++ ((dW G.2.1 β τ) ++ (hW G.2.2 η hs)))))) := ⟨_, rfl⟩
  have hD : va_D (inW w0) ((gW γ (α 0) (β 0) (π 0) (κ 0) (η 0) ς) ++ ((qW G.2.1 κ ρ) ++ ((pW G.2.1 π ϖ) ++ ((dW G.2.1 α σ) ++ ((dW G.2.1 β τ) ++ (hW G.2.2 η hs)))))) := by rw [hw0]; exact inW.D hD0
  have hS : va_S (inW w0) s.heap s.heap [] := va_S.rf
  rw [show QW G ((gW γ (α 0) (β 0) (π 0) (κ 0) (η 0) ς) ++ ((qW G.2.1 κ ρ) ++ ((pW G.2.1 π ϖ) ++ ((dW G.2.1 α σ) ++ ((dW G.2.1 β τ) ++ (hW G.2.2 η hs)))))) = QW G w0 from by rw [hw0], show inW ((gW γ (α 0) (β 0) (π 0) (κ 0) (η 0) ς) ++ ((qW G.2.1 κ ρ) ++ ((pW G.2.1 π ϖ) ++ ((dW G.2.1 α σ) ++ ((dW G.2.1 β τ) ++ (hW G.2.2 η hs)))))) = inW w0 from by rw [hw0]]
  have hl := lv_entry ([.ref γ]) (n := 1) (Nat.le_of_ble_eq_true rfl)
  rw [lg_entry_eq]
  generalize (lg_sl ([.ref γ]) ++ List.replicate (1 - (lg_sl ([.ref γ])).length) Slot.unset).toArray = ls at hl ⊢
  have hl : lv_has ls 1 [(0, .ref γ)] := hl
  have hok : ok_X3_parse ρ ϖ := hok
  have h_1 := hok
  refine lv_aload_n hx hb dX4_fault_0 rfl (lv_at hl 0 rfl) ?_
  refine va_get (D := G.1) (ci := 4) (v := .ref (κ 0)) (C := RX4) (T := TX4) (N := 6) hx hb hts hinX4 hown hK.1 hP 0 rfl rfl 3 (by decide) (hts (.fieldLink RX4 29 "GrooveTurns" "requests" "LGrooveTurns$Requests;") (by decide +kernel)) (fun _ h9 => h9) rfl dX4_fault_1 ?_
  refine lv_aload_n hx hb dX4_fault_4 rfl (lv_at hl 0 rfl) ?_
  refine va_get (D := G.1) (ci := 4) (v := .ref (π 0)) (C := RX4) (T := TX4) (N := 6) hx hb hts hinX4 hown hK.1 hP 0 rfl rfl 2 (by decide) (hts (.fieldLink RX4 22 "GrooveTurns" "pad" "LGrooveTurns$Pad;") (by decide +kernel)) (fun _ h9 => h9) rfl dX4_fault_5 ?_
  refine wrVP (W1 := ((gW γ (α 0) (β 0) (π 0) (κ 0) (η 0) ς) ++ ((qW G.2.1 κ ((s_X3_parse ρ ϖ).2)) ++ ((pW G.2.1 π ϖ) ++ ((dW G.2.1 α σ) ++ ((dW G.2.1 β τ) ++ (hW G.2.2 η hs))))))) (As := [.ref (π 0)]) (rest := []) (c_X3_parse l G κ π ρ ϖ h_1) hF (cwV 1 hts gX4_fault_X3_parse rfl rfl rfl (by decide +kernel) ⟨Nat.le_of_ble_eq_true rfl, Nat.le_of_ble_eq_true rfl⟩) (va_recv hK.1 hP (ci := 3) (q0 := 1) rfl rfl) hK hP hD hS (pm6_120345_2 _ _ _ _ _ _) (pm6_120345_2 _ _ _ _ _ _).symm ((fst_app (fst_Q _ _) (fst_P _ _))) rfl hl.1 rfl (Nat.le_of_ble_eq_true rfl) dX4_fault_8 ⟨Nat.zero_le _, Nat.zero_le _⟩ (fun H locs hP hD hS => ?_)
  have hP : va_P G.1 vwCl ((gW γ (α 0) (β 0) (π 0) (κ 0) (η 0) ς) ++ ((qW G.2.1 κ ((s_X3_parse ρ ϖ).2)) ++ ((pW G.2.1 π ϖ) ++ ((dW G.2.1 α σ) ++ ((dW G.2.1 β τ) ++ (hW G.2.2 η hs)))))) H := hP
  have hD : va_D (inW w0) ((gW γ (α 0) (β 0) (π 0) (κ 0) (η 0) ς) ++ ((qW G.2.1 κ ((s_X3_parse ρ ϖ).2)) ++ ((pW G.2.1 π ϖ) ++ ((dW G.2.1 α σ) ++ ((dW G.2.1 β τ) ++ (hW G.2.2 η hs)))))) := hD
  have E9 : s_X4_fault ρ ϖ σ τ hs = (((s_X3_parse ρ ϖ).1), ((s_X3_parse ρ ϖ).2)) := by rw [s_X4_fault]
  rw [pr1 E9, pr2 E9]
  exact W.iret hx hb hr (fun t ht hW => ⟨rfl, by rw [ht]; exact hP, hS.F ht⟩) hS.2.2 dX4_fault_11
theorem pm6_034125_3 (A0 A1 A2 A3 A4 A5 : va_W) : List.Perm (A0 ++ (A1 ++ (A2 ++ (A3 ++ (A4 ++ A5))))) ((A0 ++ (A3 ++ A4)) ++ (A1 ++ (A2 ++ A5))) := by
  haveI : DecidableEq (Nat × va_E) := fun _ _ => Classical.propDecidable _
  exact List.perm_iff_count.mpr (fun a => by simp only [List.count_append]; omega)
theorem pm6_140235_2 (A0 A1 A2 A3 A4 A5 : va_W) : List.Perm (A0 ++ (A1 ++ (A2 ++ (A3 ++ (A4 ++ A5))))) ((A1 ++ A4) ++ (A0 ++ (A2 ++ (A3 ++ A5)))) := by
  haveI : DecidableEq (Nat × va_E) := fun _ _ => Classical.propDecidable _
  exact List.perm_iff_count.mpr (fun a => by simp only [List.count_append]; omega)
theorem pm6_401235_1 (A0 A1 A2 A3 A4 A5 : va_W) : List.Perm (A0 ++ (A1 ++ (A2 ++ (A3 ++ (A4 ++ A5))))) (A4 ++ (A0 ++ (A1 ++ (A2 ++ (A3 ++ A5))))) := by
  haveI : DecidableEq (Nat × va_E) := fun _ _ => Classical.propDecidable _
  exact List.perm_iff_count.mpr (fun a => by simp only [List.count_append]; omega)
def L1_X4_untilLost (ρ : QS) (ϖ : PS) (σ : DS) (τ : DS) (hs : HS) (p1 : Int32) (p2 : Int32) : Nat → Int32 → DS → Int32 × DS
  | 0, v1_5, τ1_4 => (0, τ1_4)
  | n + 1, v1_5, τ1_4 => (if 500 < v1_5 then ((-6), τ1_4) else (if (s_X0_isReadable (s_X0_fill τ1_4 (s_X0_sectorToWrite τ1_4 p1) p1 0) (s_X0_sectorFor σ p2)) = 0 then (v1_5, (s_X0_fill τ1_4 (s_X0_sectorToWrite τ1_4 p1) p1 0)) else (L1_X4_untilLost ρ ϖ σ τ hs p1 p2 n (v1_5 + 1) (s_X0_fill τ1_4 (s_X0_sectorToWrite τ1_4 p1) p1 0))))
def okL1_X4_untilLost (ρ : QS) (ϖ : PS) (σ : DS) (τ : DS) (hs : HS) (p1 : Int32) (p2 : Int32) : Nat → Int32 → DS → Prop
  | 0, _, _ => False
  | n + 1, v1_5, τ1_4 => (500 < v1_5 → True) ∧ (¬ 500 < v1_5 → (((s_X0_isReadable (s_X0_fill τ1_4 (s_X0_sectorToWrite τ1_4 p1) p1 0) (s_X0_sectorFor σ p2)) = 0 → True) ∧ (¬ (s_X0_isReadable (s_X0_fill τ1_4 (s_X0_sectorToWrite τ1_4 p1) p1 0) (s_X0_sectorFor σ p2)) = 0 → (okL1_X4_untilLost ρ ϖ σ τ hs p1 p2 n (v1_5 + 1) (s_X0_fill τ1_4 (s_X0_sectorToWrite τ1_4 p1) p1 0)))))
def s_X4_untilLost (ρ : QS) (ϖ : PS) (σ : DS) (τ : DS) (hs : HS) (p1 : Int32) (p2 : Int32) : Int32 × DS := (if (s_X4_isAddress p1) = 0 then ((-1), τ) else (if (s_X4_isAddress p2) = 0 then ((-1), τ) else (if p1 = p2 then ((-2), τ) else (if (s_X0_isReadable σ (s_X0_sectorFor σ p2)) = 0 then ((-5), τ) else (L1_X4_untilLost ρ ϖ σ τ hs p1 p2 FU 1 (s_X4_freshTrial σ τ))))))
def ok_X4_untilLost (ρ : QS) (ϖ : PS) (σ : DS) (τ : DS) (hs : HS) (p1 : Int32) (p2 : Int32) : Prop := ((s_X4_isAddress p1) = 0 → True) ∧ (¬ (s_X4_isAddress p1) = 0 → (((s_X4_isAddress p2) = 0 → True) ∧ (¬ (s_X4_isAddress p2) = 0 → ((p1 = p2 → True) ∧ (¬ p1 = p2 → (((s_X0_isReadable σ (s_X0_sectorFor σ p2)) = 0 → True) ∧ (¬ (s_X0_isReadable σ (s_X0_sectorFor σ p2)) = 0 → (okL1_X4_untilLost ρ ϖ σ τ hs p1 p2 FU 1 (s_X4_freshTrial σ τ)))))))))
set_option maxHeartbeats 4000000 in
set_option maxRecDepth 100000 in
theorem wL1_X4_untilLost {p : Program} {e : Env} {s : State} {m : MethodId} {args : Array Value} {below : List Frame} {meth : Method} {c : Code} {w0 : va_W} (l : Launch) (G : GG) (γ : Nat) (κ : Nat → Nat) (π : Nat → Nat) (α : Nat → Nat) (β : Nat → Nat) (η : Nat → Nat) (ς : Nat) (ρ : QS) (ϖ : PS) (σ : DS) (τ : DS) (hs : HS) (p1 : Int32) (p2 : Int32) (C0 : cA p s m meth c args cX4_untilLost 6 (some .int) wsX4_untilLost RX4) (hK : cK G s) : ∀ (n : Nat) (v1_5 : Int32) (τ1_4 : DS)  (hok : okL1_X4_untilLost ρ ϖ σ τ hs p1 p2 n v1_5 τ1_4) (H : Heap) (locs : List Loc), va_P G.1 vwCl ((gW γ (α 0) (β 0) (π 0) (κ 0) (η 0) ς) ++ ((qW G.2.1 κ ρ) ++ ((pW G.2.1 π ϖ) ++ ((dW G.2.1 α σ) ++ ((dW G.2.1 β τ1_4) ++ (hW G.2.2 η hs)))))) H → va_D (inW w0) ((gW γ (α 0) (β 0) (π 0) (κ 0) (η 0) ς) ++ ((qW G.2.1 κ ρ) ++ ((pW G.2.1 π ϖ) ++ ((dW G.2.1 α σ) ++ ((dW G.2.1 β τ1_4) ++ (hW G.2.2 η hs)))))) → va_S (inW w0) s.heap H locs → ∀ (ls : Array Slot), lv_has ls 6 [(0, .ref γ), (1, .int p1), (2, .int p2), (3, .int (s_X0_sectorFor σ p2)), (4, .ref (β 0)), (5, .int v1_5)] → W p l e (rmm 4 122) s m args below meth c H locs 0 0 (MQ below (QW G w0 ((gW γ (α 0) (β 0) (π 0) (κ 0) (η 0) ς) ++ ((qW G.2.1 κ ρ) ++ ((pW G.2.1 π ϖ) ++ ((dW G.2.1 α σ) ++ ((dW G.2.1 β ((L1_X4_untilLost ρ ϖ σ τ hs p1 p2 n v1_5 τ1_4).2)) ++ (hW G.2.2 η hs)))))) (some (.int (L1_X4_untilLost ρ ϖ σ τ hs p1 p2 n v1_5 τ1_4).1))) args s 0 0 (inW w0)) (F0 m 56 ls []) := by
  obtain ⟨hx, hb, hr, hml, hown, hts, hlocks⟩ := id C0
  have hF : CallFix p m c cX4_untilLost 6 s args wsX4_untilLost RX4 := ⟨hx, hb, hml, hown, hts⟩
  have hinX4 : ∀ w ∈ wsX40, w ∈ wsX4_untilLost := by decide +kernel
  intro n
  induction n with
  | zero =>
    intro v1_5 τ1_4 hok
    exact hok.elim
  | succ n ih =>
    intro v1_5 τ1_4 hok H locs hP hD hS ls hl
    have hok : (500 < v1_5 → True) ∧ (¬ 500 < v1_5 → (((s_X0_isReadable (s_X0_fill τ1_4 (s_X0_sectorToWrite τ1_4 p1) p1 0) (s_X0_sectorFor σ p2)) = 0 → True) ∧ (¬ (s_X0_isReadable (s_X0_fill τ1_4 (s_X0_sectorToWrite τ1_4 p1) p1 0) (s_X0_sectorFor σ p2)) = 0 → (okL1_X4_untilLost ρ ϖ σ τ hs p1 p2 n (v1_5 + 1) (s_X0_fill τ1_4 (s_X0_sectorToWrite τ1_4 p1) p1 0))))) := hok
    refine lv_iload hx hb dX4_untilLost_56 (lv_at hl 5 rfl) ?_
    refine lv_sipush (v := 500) hx hb dX4_untilLost_58 (by decide) ?_
    refine lv_icmp_gt (tgt := 95) hx hb dX4_untilLost_61 (by decide) (fun (c_5 : 500 < v1_5) => ?_) (fun (c_5 : ¬ 500 < v1_5) => ?_)
    · skip
      refine lv_bipush (v := (-6)) hx hb dX4_untilLost_95 (by decide) ?_
      have E9 : (L1_X4_untilLost ρ ϖ σ τ hs p1 p2 (n + 1) v1_5 τ1_4) = ((-6), τ1_4) := by rw [L1_X4_untilLost]; rw [if_pos c_5]
      rw [pr1 E9, pr2 E9]
      exact W.iret hx hb hr (fun t ht hW => ⟨rfl, by rw [ht]; exact hP, hS.F ht⟩) hS.2.2 dX4_untilLost_97
    · skip
      have hok := hok.2 c_5
      refine lv_aload hx hb dX4_untilLost_64 (lv_at hl 4 rfl) ?_
      refine lv_aload hx hb dX4_untilLost_66 (lv_at hl 4 rfl) ?_
      refine lv_iload_n hx hb dX4_untilLost_68 rfl (lv_at hl 1 rfl) ?_
      refine rdV (As := [.int p1]) (rest := [.ref (β 0)]) (c_X0_sectorToWrite l G β τ1_4 p1) hF (cwV 1 hts gX4_untilLost_X0_sectorToWrite rfl rfl rfl (by decide +kernel) ⟨Nat.le_of_ble_eq_true rfl, Nat.le_of_ble_eq_true rfl⟩) (va_recv hK.1 hP (ci := 0) (q0 := 13) rfl rfl) hK (hP.sub [13, 14, 15, 16, 17, 18] rfl) rfl hl.1 rfl (Nat.le_of_ble_eq_true rfl) dX4_untilLost_69 ⟨Nat.zero_le _, Nat.zero_le _⟩ ?_
      refine lv_iload_n hx hb dX4_untilLost_72 rfl (lv_at hl 1 rfl) ?_
      refine lv_iconst (v := 0) hx hb dX4_untilLost_73 (by decide) ?_
      refine wrVP (W1 := ((gW γ (α 0) (β 0) (π 0) (κ 0) (η 0) ς) ++ ((qW G.2.1 κ ρ) ++ ((pW G.2.1 π ϖ) ++ ((dW G.2.1 α σ) ++ ((dW G.2.1 β (s_X0_fill τ1_4 (s_X0_sectorToWrite τ1_4 p1) p1 0)) ++ (hW G.2.2 η hs))))))) (As := [.int (s_X0_sectorToWrite τ1_4 p1), .int p1, .int 0]) (rest := []) (c_X0_fill l G β τ1_4 (s_X0_sectorToWrite τ1_4 p1) p1 0) hF (cwV 3 hts gX4_untilLost_X0_fill rfl rfl rfl (by decide +kernel) ⟨Nat.le_of_ble_eq_true rfl, Nat.le_of_ble_eq_true rfl⟩) (va_recv hK.1 hP (ci := 0) (q0 := 13) rfl rfl) hK hP hD hS (pm6_401235_1 _ _ _ _ _ _) (pm6_401235_1 _ _ _ _ _ _).symm ((fst_D _ _)) rfl hl.1 rfl (Nat.le_of_ble_eq_true rfl) dX4_untilLost_74 ⟨Nat.zero_le _, Nat.zero_le _⟩ (fun H locs hP hD hS => ?_)
      have hP : va_P G.1 vwCl ((gW γ (α 0) (β 0) (π 0) (κ 0) (η 0) ς) ++ ((qW G.2.1 κ ρ) ++ ((pW G.2.1 π ϖ) ++ ((dW G.2.1 α σ) ++ ((dW G.2.1 β (s_X0_fill τ1_4 (s_X0_sectorToWrite τ1_4 p1) p1 0)) ++ (hW G.2.2 η hs)))))) H := hP
      have hD : va_D (inW w0) ((gW γ (α 0) (β 0) (π 0) (κ 0) (η 0) ς) ++ ((qW G.2.1 κ ρ) ++ ((pW G.2.1 π ϖ) ++ ((dW G.2.1 α σ) ++ ((dW G.2.1 β (s_X0_fill τ1_4 (s_X0_sectorToWrite τ1_4 p1) p1 0)) ++ (hW G.2.2 η hs)))))) := hD
      refine lv_aload hx hb dX4_untilLost_77 (lv_at hl 4 rfl) ?_
      refine lv_iload_n hx hb dX4_untilLost_79 rfl (lv_at hl 3 rfl) ?_
      refine rdV (As := [.int (s_X0_sectorFor σ p2)]) (rest := []) (c_X0_isReadable l G β (s_X0_fill τ1_4 (s_X0_sectorToWrite τ1_4 p1) p1 0) (s_X0_sectorFor σ p2)) hF (cwV 1 hts gX4_untilLost_X0_isReadable rfl rfl rfl (by decide +kernel) ⟨Nat.le_of_ble_eq_true rfl, Nat.le_of_ble_eq_true rfl⟩) (va_recv hK.1 hP (ci := 0) (q0 := 13) rfl rfl) hK (hP.sub [13, 14, 15, 16, 17, 18] rfl) rfl hl.1 rfl (Nat.le_of_ble_eq_true rfl) dX4_untilLost_80 ⟨Nat.zero_le _, Nat.zero_le _⟩ ?_
      refine lv_if_ne (tgt := 89) hx hb dX4_untilLost_83 (by decide) (fun (c_6 : ¬ (s_X0_isReadable (s_X0_fill τ1_4 (s_X0_sectorToWrite τ1_4 p1) p1 0) (s_X0_sectorFor σ p2)) = 0) => ?_) (fun (c_6 : (s_X0_isReadable (s_X0_fill τ1_4 (s_X0_sectorToWrite τ1_4 p1) p1 0) (s_X0_sectorFor σ p2)) = 0) => ?_)
      · skip
        have hok := hok.2 c_6
        refine lv_iinc (v := (v1_5 + 1)) (lv' := [(5, .int (v1_5 + 1)), (0, .ref γ), (1, .int p1), (2, .int p2), (3, .int (s_X0_sectorFor σ p2)), (4, .ref (β 0))]) hx hb dX4_untilLost_89 hl (k := 5) rfl rfl (by decide) rfl (fun ls hl => ?_)
        refine lv_goto (tgt := 56) hx hb dX4_untilLost_92 (by decide) ?_
        rw [show (L1_X4_untilLost ρ ϖ σ τ hs p1 p2 (n + 1) v1_5 τ1_4) = (L1_X4_untilLost ρ ϖ σ τ hs p1 p2 n (v1_5 + 1) (s_X0_fill τ1_4 (s_X0_sectorToWrite τ1_4 p1) p1 0)) from by rw [L1_X4_untilLost]; rw [if_neg c_5, if_neg c_6]]
        exact ih (v1_5 + 1) (s_X0_fill τ1_4 (s_X0_sectorToWrite τ1_4 p1) p1 0) hok _ _ hP hD hS ls (lv_sub hl [1, 2, 3, 4, 5, 0] rfl)
      · skip
        refine lv_iload hx hb dX4_untilLost_86 (lv_at hl 5 rfl) ?_
        have E9 : (L1_X4_untilLost ρ ϖ σ τ hs p1 p2 (n + 1) v1_5 τ1_4) = (v1_5, (s_X0_fill τ1_4 (s_X0_sectorToWrite τ1_4 p1) p1 0)) := by rw [L1_X4_untilLost]; rw [if_neg c_5, if_pos c_6]
        rw [pr1 E9, pr2 E9]
        exact W.iret hx hb hr (fun t ht hW => ⟨rfl, by rw [ht]; exact hP, hS.F ht⟩) hS.2.2 dX4_untilLost_88
set_option maxHeartbeats 4000000 in
set_option maxRecDepth 100000 in
theorem c_X4_untilLost (l : Launch) (G : GG) (γ : Nat) (κ : Nat → Nat) (π : Nat → Nat) (α : Nat → Nat) (β : Nat → Nat) (η : Nat → Nat) (ς : Nat) (ρ : QS) (ϖ : PS) (σ : DS) (τ : DS) (hs : HS) (p1 : Int32) (p2 : Int32) (hok : ok_X4_untilLost ρ ϖ σ τ hs p1 p2) : Wr G l yX4_untilLost wsX4_untilLost 4 122 [.ref γ, .int p1, .int p2] ((gW γ (α 0) (β 0) (π 0) (κ 0) (η 0) ς) ++ ((qW G.2.1 κ ρ) ++ ((pW G.2.1 π ϖ) ++ ((dW G.2.1 α σ) ++ ((dW G.2.1 β τ) ++ (hW G.2.2 η hs)))))) (some (.int (s_X4_untilLost ρ ϖ σ τ hs p1 p2).1)) ((gW γ (α 0) (β 0) (π 0) (κ 0) (η 0) ς) ++ ((qW G.2.1 κ ρ) ++ ((pW G.2.1 π ϖ) ++ ((dW G.2.1 α σ) ++ ((dW G.2.1 β ((s_X4_untilLost ρ ϖ σ τ hs p1 p2).2)) ++ (hW G.2.2 η hs)))))) := by
  refine Met.ofW (cc := cX4_untilLost) (maxL := 6) (ret := (some .int)) (by decide) rfl ?_
  intro p e s m args below meth c s₁ B hml hv
  obtain ⟨rfl, hP, hK, hD0⟩ := hv
  have C0 : cA p s m meth c ([.ref γ, .int p1, .int p2] : List Value).toArray cX4_untilLost 6 (some .int) wsX4_untilLost RX4 := ⟨B.exec, B.bytes, B.returns, hml, findClass_of_methodNamed B.named, atoms_spec (ws := wsX4_untilLost) B.pre, B.notSynchronized⟩
  obtain ⟨hx, hb, hr, hml, hown, hts, hlocks⟩ := id C0
  have hF : CallFix p m c cX4_untilLost 6 s _ wsX4_untilLost RX4 := ⟨hx, hb, hml, hown, hts⟩
  have hinX4 : ∀ w ∈ wsX40, w ∈ wsX4_untilLost := by decide +kernel
  obtain ⟨w0, hw0⟩ : ∃ w0 : va_W, w0 = ((gW γ (α 0) (β 0) (π 0) (κ 0) (η 0) ς) ++ ((qW G.2.1 κ ρ) ++ ((pW G.2.1 π ϖ) ++ ((dW G.2.1 α σ) ++ ((dW G.2.1 β τ) ++ (hW G.2.2 η hs)))))) := ⟨_, rfl⟩
  have hD : va_D (inW w0) ((gW γ (α 0) (β 0) (π 0) (κ 0) (η 0) ς) ++ ((qW G.2.1 κ ρ) ++ ((pW G.2.1 π ϖ) ++ ((dW G.2.1 α σ) ++ ((dW G.2.1 β τ) ++ (hW G.2.2 η hs)))))) := by rw [hw0]; exact inW.D hD0
  have hS : va_S (inW w0) s.heap s.heap [] := va_S.rf
  rw [show QW G ((gW γ (α 0) (β 0) (π 0) (κ 0) (η 0) ς) ++ ((qW G.2.1 κ ρ) ++ ((pW G.2.1 π ϖ) ++ ((dW G.2.1 α σ) ++ ((dW G.2.1 β τ) ++ (hW G.2.2 η hs)))))) = QW G w0 from by rw [hw0], show inW ((gW γ (α 0) (β 0) (π 0) (κ 0) (η 0) ς) ++ ((qW G.2.1 κ ρ) ++ ((pW G.2.1 π ϖ) ++ ((dW G.2.1 α σ) ++ ((dW G.2.1 β τ) ++ (hW G.2.2 η hs)))))) = inW w0 from by rw [hw0]]
  have hl := lv_entry ([.ref γ, .int p1, .int p2]) (n := 6) (Nat.le_of_ble_eq_true rfl)
  rw [lg_entry_eq]
  generalize (lg_sl ([.ref γ, .int p1, .int p2]) ++ List.replicate (6 - (lg_sl ([.ref γ, .int p1, .int p2])).length) Slot.unset).toArray = ls at hl ⊢
  have hl : lv_has ls 6 [(0, .ref γ), (1, .int p1), (2, .int p2)] := hl
  have hok : ((s_X4_isAddress p1) = 0 → True) ∧ (¬ (s_X4_isAddress p1) = 0 → (((s_X4_isAddress p2) = 0 → True) ∧ (¬ (s_X4_isAddress p2) = 0 → ((p1 = p2 → True) ∧ (¬ p1 = p2 → (((s_X0_isReadable σ (s_X0_sectorFor σ p2)) = 0 → True) ∧ (¬ (s_X0_isReadable σ (s_X0_sectorFor σ p2)) = 0 → (okL1_X4_untilLost ρ ϖ σ τ hs p1 p2 FU 1 (s_X4_freshTrial σ τ))))))))) := hok
  refine lv_iload_n hx hb dX4_untilLost_0 rfl (lv_at hl 1 rfl) ?_
  refine rdS (As := [.int p1]) (rest := []) (c_X4_isAddress l G p1) hF (va_cwS 1 hts gX4_untilLost_X4_isAddress rfl rfl rfl (by decide +kernel) ⟨Nat.le_of_ble_eq_true rfl, Nat.le_of_ble_eq_true rfl⟩) hK va_P0 rfl hl.1 rfl (Nat.le_of_ble_eq_true rfl) dX4_untilLost_1 ⟨Nat.zero_le _, Nat.zero_le _⟩ ?_
  refine lv_if_eq (tgt := 14) hx hb dX4_untilLost_4 (by decide) (fun (c_1 : (s_X4_isAddress p1) = 0) => ?_) (fun (c_1 : ¬ (s_X4_isAddress p1) = 0) => ?_)
  · skip
    refine lv_iconst (v := (-1)) hx hb dX4_untilLost_14 (by decide) ?_
    have E9 : s_X4_untilLost ρ ϖ σ τ hs p1 p2 = ((-1), τ) := by rw [s_X4_untilLost]; rw [if_pos c_1]
    rw [pr1 E9, pr2 E9]
    exact W.iret hx hb hr (fun t ht hW => ⟨rfl, by rw [ht]; exact hP, hS.F ht⟩) hS.2.2 dX4_untilLost_15
  · skip
    have hok := hok.2 c_1
    refine lv_iload_n hx hb dX4_untilLost_7 rfl (lv_at hl 2 rfl) ?_
    refine rdS (As := [.int p2]) (rest := []) (c_X4_isAddress l G p2) hF (va_cwS 1 hts gX4_untilLost_X4_isAddress rfl rfl rfl (by decide +kernel) ⟨Nat.le_of_ble_eq_true rfl, Nat.le_of_ble_eq_true rfl⟩) hK va_P0 rfl hl.1 rfl (Nat.le_of_ble_eq_true rfl) dX4_untilLost_8 ⟨Nat.zero_le _, Nat.zero_le _⟩ ?_
    refine lv_if_ne (tgt := 16) hx hb dX4_untilLost_11 (by decide) (fun (c_2 : ¬ (s_X4_isAddress p2) = 0) => ?_) (fun (c_2 : (s_X4_isAddress p2) = 0) => ?_)
    · skip
      have hok := hok.2 c_2
      refine lv_iload_n hx hb dX4_untilLost_16 rfl (lv_at hl 1 rfl) ?_
      refine lv_iload_n hx hb dX4_untilLost_17 rfl (lv_at hl 2 rfl) ?_
      refine lv_icmp_ne (tgt := 24) hx hb dX4_untilLost_18 (by decide) (fun (c_3 : ¬ p1 = p2) => ?_) (fun (c_3 : p1 = p2) => ?_)
      · skip
        have hok := hok.2 c_3
        refine lv_aload_n hx hb dX4_untilLost_24 rfl (lv_at hl 0 rfl) ?_
        refine va_get (D := G.1) (ci := 4) (v := .ref (α 0)) (C := RX4) (T := TX4) (N := 6) hx hb hts hinX4 hown hK.1 hP 0 rfl rfl 0 (by decide) (hts (.fieldLink RX4 12 "GrooveTurns" "disc" "LGrooveTurns$Disc;") (by decide +kernel)) (fun _ h9 => h9) rfl dX4_untilLost_25 ?_
        refine lv_iload_n hx hb dX4_untilLost_28 rfl (lv_at hl 2 rfl) ?_
        refine rdV (As := [.int p2]) (rest := []) (c_X0_sectorFor l G α σ p2) hF (cwV 1 hts gX4_untilLost_X0_sectorFor rfl rfl rfl (by decide +kernel) ⟨Nat.le_of_ble_eq_true rfl, Nat.le_of_ble_eq_true rfl⟩) (va_recv hK.1 hP (ci := 0) (q0 := 7) rfl rfl) hK (hP.sub [7, 8, 9, 10, 11, 12] rfl) rfl hl.1 rfl (Nat.le_of_ble_eq_true rfl) dX4_untilLost_29 ⟨Nat.zero_le _, Nat.zero_le _⟩ ?_
        refine lv_istore_n (lv' := [(3, .int (s_X0_sectorFor σ p2)), (0, .ref γ), (1, .int p1), (2, .int p2)]) hx hb dX4_untilLost_32 rfl hl (by decide) rfl (fun ls hl => ?_)
        refine lv_aload_n hx hb dX4_untilLost_33 rfl (lv_at hl 1 rfl) ?_
        refine va_get (D := G.1) (ci := 4) (v := .ref (α 0)) (C := RX4) (T := TX4) (N := 6) hx hb hts hinX4 hown hK.1 hP 0 rfl rfl 0 (by decide) (hts (.fieldLink RX4 12 "GrooveTurns" "disc" "LGrooveTurns$Disc;") (by decide +kernel)) (fun _ h9 => h9) rfl dX4_untilLost_34 ?_
        refine lv_iload_n hx hb dX4_untilLost_37 rfl (lv_at hl 0 rfl) ?_
        refine rdV (As := [.int (s_X0_sectorFor σ p2)]) (rest := []) (c_X0_isReadable l G α σ (s_X0_sectorFor σ p2)) hF (cwV 1 hts gX4_untilLost_X0_isReadable rfl rfl rfl (by decide +kernel) ⟨Nat.le_of_ble_eq_true rfl, Nat.le_of_ble_eq_true rfl⟩) (va_recv hK.1 hP (ci := 0) (q0 := 7) rfl rfl) hK (hP.sub [7, 8, 9, 10, 11, 12] rfl) rfl hl.1 rfl (Nat.le_of_ble_eq_true rfl) dX4_untilLost_38 ⟨Nat.zero_le _, Nat.zero_le _⟩ ?_
        refine lv_if_ne (tgt := 47) hx hb dX4_untilLost_41 (by decide) (fun (c_4 : ¬ (s_X0_isReadable σ (s_X0_sectorFor σ p2)) = 0) => ?_) (fun (c_4 : (s_X0_isReadable σ (s_X0_sectorFor σ p2)) = 0) => ?_)
        · skip
          have hok := hok.2 c_4
          refine lv_aload_n hx hb dX4_untilLost_47 rfl (lv_at hl 1 rfl) ?_
          refine wrVP (W1 := ((gW γ (α 0) (β 0) (π 0) (κ 0) (η 0) ς) ++ ((qW G.2.1 κ ρ) ++ ((pW G.2.1 π ϖ) ++ ((dW G.2.1 α σ) ++ ((dW G.2.1 β (s_X4_freshTrial σ τ)) ++ (hW G.2.2 η hs))))))) (As := []) (rest := []) (c_X4_freshTrial l G γ α β π κ η ς σ τ) hF (cwV 0 hts gX4_untilLost_X4_freshTrial rfl rfl rfl (by decide +kernel) ⟨Nat.le_of_ble_eq_true rfl, Nat.le_of_ble_eq_true rfl⟩) (va_recv hK.1 hP (ci := 4) (q0 := 0) rfl rfl) hK hP hD hS (pm6_034125_3 _ _ _ _ _ _) (pm6_034125_3 _ _ _ _ _ _).symm ((fst_app (fst_G) (fst_app (fst_D _ _) (fst_D _ _)))) rfl hl.1 rfl (Nat.le_of_ble_eq_true rfl) dX4_untilLost_48 ⟨Nat.zero_le _, Nat.zero_le _⟩ (fun H locs hP hD hS => ?_)
          have hP : va_P G.1 vwCl ((gW γ (α 0) (β 0) (π 0) (κ 0) (η 0) ς) ++ ((qW G.2.1 κ ρ) ++ ((pW G.2.1 π ϖ) ++ ((dW G.2.1 α σ) ++ ((dW G.2.1 β (s_X4_freshTrial σ τ)) ++ (hW G.2.2 η hs)))))) H := hP
          have hD : va_D (inW w0) ((gW γ (α 0) (β 0) (π 0) (κ 0) (η 0) ς) ++ ((qW G.2.1 κ ρ) ++ ((pW G.2.1 π ϖ) ++ ((dW G.2.1 α σ) ++ ((dW G.2.1 β (s_X4_freshTrial σ τ)) ++ (hW G.2.2 η hs)))))) := hD
          refine lv_astore (lv' := [(4, .ref (β 0)), (3, .int (s_X0_sectorFor σ p2)), (0, .ref γ), (1, .int p1), (2, .int p2)]) hx hb dX4_untilLost_51 hl (by decide) rfl (fun ls hl => ?_)
          refine lv_iconst (v := 1) hx hb dX4_untilLost_53 (by decide) ?_
          refine lv_istore (lv' := [(5, .int 1), (4, .ref (β 0)), (3, .int (s_X0_sectorFor σ p2)), (0, .ref γ), (1, .int p1), (2, .int p2)]) hx hb dX4_untilLost_54 hl (by decide) rfl (fun ls hl => ?_)
          rw [show s_X4_untilLost ρ ϖ σ τ hs p1 p2 = (L1_X4_untilLost ρ ϖ σ τ hs p1 p2 FU 1 (s_X4_freshTrial σ τ)) from by rw [s_X4_untilLost]; rw [if_neg c_1, if_neg c_2, if_neg c_3, if_neg c_4]]
          exact wL1_X4_untilLost l G γ κ π α β η ς ρ ϖ σ τ hs p1 p2 C0 hK FU 1 (s_X4_freshTrial σ τ) hok _ _ hP hD hS ls (lv_sub hl [3, 4, 5, 2, 1, 0] rfl)
        · skip
          refine lv_bipush (v := (-5)) hx hb dX4_untilLost_44 (by decide) ?_
          have E9 : s_X4_untilLost ρ ϖ σ τ hs p1 p2 = ((-5), τ) := by rw [s_X4_untilLost]; rw [if_neg c_1, if_neg c_2, if_neg c_3, if_pos c_4]
          rw [pr1 E9, pr2 E9]
          exact W.iret hx hb hr (fun t ht hW => ⟨rfl, by rw [ht]; exact hP, hS.F ht⟩) hS.2.2 dX4_untilLost_46
      · skip
        refine lv_bipush (v := (-2)) hx hb dX4_untilLost_21 (by decide) ?_
        have E9 : s_X4_untilLost ρ ϖ σ τ hs p1 p2 = ((-2), τ) := by rw [s_X4_untilLost]; rw [if_neg c_1, if_neg c_2, if_pos c_3]
        rw [pr1 E9, pr2 E9]
        exact W.iret hx hb hr (fun t ht hW => ⟨rfl, by rw [ht]; exact hP, hS.F ht⟩) hS.2.2 dX4_untilLost_23
    · skip
      refine lv_iconst (v := (-1)) hx hb dX4_untilLost_14 (by decide) ?_
      have E9 : s_X4_untilLost ρ ϖ σ τ hs p1 p2 = ((-1), τ) := by rw [s_X4_untilLost]; rw [if_neg c_1, if_pos c_2]
      rw [pr1 E9, pr2 E9]
      exact W.iret hx hb hr (fun t ht hW => ⟨rfl, by rw [ht]; exact hP, hS.F ht⟩) hS.2.2 dX4_untilLost_15
