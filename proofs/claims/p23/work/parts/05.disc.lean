def s_X0_sectorFor (σ : DS) (p1 : Int32) : Int32 := (s_X4_at 192 (d_se σ) p1)
set_option maxHeartbeats 4000000 in
set_option maxRecDepth 100000 in
theorem c_X0_sectorFor (l : Launch) (G : GG) (α : Nat → Nat) (σ : DS) (p1 : Int32) : Rd G l yX0_sectorFor wsX0_sectorFor 1 21 [.ref (α 0), .int p1] (dW G.2.1 α σ) (.int (s_X0_sectorFor σ p1)) := by
  refine Met.ofW (cc := cX0_sectorFor) (maxL := 2) (ret := (some .int)) (by decide) rfl ?_
  intro p e s m args below meth c s₁ B hml hv
  obtain ⟨rfl, hP, hK⟩ := hv
  have C0 : cA p s m meth c ([.ref (α 0), .int p1] : List Value).toArray cX0_sectorFor 2 (some .int) wsX0_sectorFor RX0 := ⟨B.exec, B.bytes, B.returns, hml, findClass_of_methodNamed B.named, atoms_spec (ws := wsX0_sectorFor) B.pre, B.notSynchronized⟩
  obtain ⟨hx, hb, hr, hml, hown, hts, hlocks⟩ := id C0
  have hF : CallFix p m c cX0_sectorFor 2 s _ wsX0_sectorFor RX0 := ⟨hx, hb, hml, hown, hts⟩
  have hinX0 : ∀ w ∈ wsX00, w ∈ wsX0_sectorFor := by decide +kernel
  have hl := lv_entry ([.ref (α 0), .int p1]) (n := 2) (Nat.le_of_ble_eq_true rfl)
  rw [lg_entry_eq]
  generalize (lg_sl ([.ref (α 0), .int p1]) ++ List.replicate (2 - (lg_sl ([.ref (α 0), .int p1])).length) Slot.unset).toArray = ls at hl ⊢
  have hl : lv_has ls 2 [(0, .ref (α 0)), (1, .int p1)] := hl
  refine lv_aload_n hx hb dX0_sectorFor_0 rfl (lv_at hl 0 rfl) ?_
  refine get_D_sectors hx hb hts hinX0 hown hK hP (hts (.fieldLink RX0 27 "GrooveTurns$Disc" "sectors" "[I") (by decide +kernel)) dX0_sectorFor_1 ?_
  refine lv_iload_n hx hb dX0_sectorFor_4 rfl (lv_at hl 1 rfl) ?_
  refine rdN (As := [.ref (α 5), .int p1]) (rest := []) (c_X4_at l G (α 5) 192 (d_se σ) p1 (by decide)) hF (va_cnB (host := RX4) 2 hts gX0_sectorFor_X4_at_n53 rfl rfl rfl (hK.nest 6 rfl) (hts (.initialized RX4) (by decide +kernel)) (by decide +kernel) ⟨Nat.le_of_ble_eq_true rfl, Nat.le_of_ble_eq_true rfl⟩) (hts (.static yX4_at) (by decide +kernel)) hK (cell_D_se hP) rfl hl.1 rfl (Nat.le_of_ble_eq_true rfl) dX0_sectorFor_5 ⟨Nat.zero_le _, Nat.zero_le _⟩ ?_
  rw [show s_X0_sectorFor σ p1 = (s_X4_at 192 (d_se σ) p1) from by rw [s_X0_sectorFor]]
  exact W.iret hx hb hr (fun t ht hW => ⟨rfl, ht⟩) (fun _ h => nomatch h) dX0_sectorFor_8
def s_X0_numberIn (σ : DS) (p1 : Int32) : Int32 := (s_X4_at 204 (d_nu σ) p1)
set_option maxHeartbeats 4000000 in
set_option maxRecDepth 100000 in
theorem c_X0_numberIn (l : Launch) (G : GG) (α : Nat → Nat) (σ : DS) (p1 : Int32) : Rd G l yX0_numberIn wsX0_numberIn 1 21 [.ref (α 0), .int p1] (dW G.2.1 α σ) (.int (s_X0_numberIn σ p1)) := by
  refine Met.ofW (cc := cX0_numberIn) (maxL := 2) (ret := (some .int)) (by decide) rfl ?_
  intro p e s m args below meth c s₁ B hml hv
  obtain ⟨rfl, hP, hK⟩ := hv
  have C0 : cA p s m meth c ([.ref (α 0), .int p1] : List Value).toArray cX0_numberIn 2 (some .int) wsX0_numberIn RX0 := ⟨B.exec, B.bytes, B.returns, hml, findClass_of_methodNamed B.named, atoms_spec (ws := wsX0_numberIn) B.pre, B.notSynchronized⟩
  obtain ⟨hx, hb, hr, hml, hown, hts, hlocks⟩ := id C0
  have hF : CallFix p m c cX0_numberIn 2 s _ wsX0_numberIn RX0 := ⟨hx, hb, hml, hown, hts⟩
  have hinX0 : ∀ w ∈ wsX00, w ∈ wsX0_numberIn := by decide +kernel
  have hl := lv_entry ([.ref (α 0), .int p1]) (n := 2) (Nat.le_of_ble_eq_true rfl)
  rw [lg_entry_eq]
  generalize (lg_sl ([.ref (α 0), .int p1]) ++ List.replicate (2 - (lg_sl ([.ref (α 0), .int p1])).length) Slot.unset).toArray = ls at hl ⊢
  have hl : lv_has ls 2 [(0, .ref (α 0)), (1, .int p1)] := hl
  refine lv_aload_n hx hb dX0_numberIn_0 rfl (lv_at hl 0 rfl) ?_
  refine get_D_numbers hx hb hts hinX0 hown hK hP (hts (.fieldLink RX0 18 "GrooveTurns$Disc" "numbers" "[I") (by decide +kernel)) dX0_numberIn_1 ?_
  refine lv_iload_n hx hb dX0_numberIn_4 rfl (lv_at hl 1 rfl) ?_
  refine rdN (As := [.ref (α 2), .int p1]) (rest := []) (c_X4_at l G (α 2) 204 (d_nu σ) p1 (by decide)) hF (va_cnB (host := RX4) 2 hts gX0_numberIn_X4_at_n53 rfl rfl rfl (hK.nest 6 rfl) (hts (.initialized RX4) (by decide +kernel)) (by decide +kernel) ⟨Nat.le_of_ble_eq_true rfl, Nat.le_of_ble_eq_true rfl⟩) (hts (.static yX4_at) (by decide +kernel)) hK (cell_D_nu hP) rfl hl.1 rfl (Nat.le_of_ble_eq_true rfl) dX0_numberIn_5 ⟨Nat.zero_le _, Nat.zero_le _⟩ ?_
  rw [show s_X0_numberIn σ p1 = (s_X4_at 204 (d_nu σ) p1) from by rw [s_X0_numberIn]]
  exact W.iret hx hb hr (fun t ht hW => ⟨rfl, ht⟩) (fun _ h => nomatch h) dX0_numberIn_8
def s_X0_blurOf (σ : DS) (p1 : Int32) : Int32 := (s_X4_at 204 (d_bl σ) p1)
set_option maxHeartbeats 4000000 in
set_option maxRecDepth 100000 in
theorem c_X0_blurOf (l : Launch) (G : GG) (α : Nat → Nat) (σ : DS) (p1 : Int32) : Rd G l yX0_blurOf wsX0_blurOf 1 21 [.ref (α 0), .int p1] (dW G.2.1 α σ) (.int (s_X0_blurOf σ p1)) := by
  refine Met.ofW (cc := cX0_blurOf) (maxL := 2) (ret := (some .int)) (by decide) rfl ?_
  intro p e s m args below meth c s₁ B hml hv
  obtain ⟨rfl, hP, hK⟩ := hv
  have C0 : cA p s m meth c ([.ref (α 0), .int p1] : List Value).toArray cX0_blurOf 2 (some .int) wsX0_blurOf RX0 := ⟨B.exec, B.bytes, B.returns, hml, findClass_of_methodNamed B.named, atoms_spec (ws := wsX0_blurOf) B.pre, B.notSynchronized⟩
  obtain ⟨hx, hb, hr, hml, hown, hts, hlocks⟩ := id C0
  have hF : CallFix p m c cX0_blurOf 2 s _ wsX0_blurOf RX0 := ⟨hx, hb, hml, hown, hts⟩
  have hinX0 : ∀ w ∈ wsX00, w ∈ wsX0_blurOf := by decide +kernel
  have hl := lv_entry ([.ref (α 0), .int p1]) (n := 2) (Nat.le_of_ble_eq_true rfl)
  rw [lg_entry_eq]
  generalize (lg_sl ([.ref (α 0), .int p1]) ++ List.replicate (2 - (lg_sl ([.ref (α 0), .int p1])).length) Slot.unset).toArray = ls at hl ⊢
  have hl : lv_has ls 2 [(0, .ref (α 0)), (1, .int p1)] := hl
  refine lv_aload_n hx hb dX0_blurOf_0 rfl (lv_at hl 0 rfl) ?_
  refine get_D_blurs hx hb hts hinX0 hown hK hP (hts (.fieldLink RX0 21 "GrooveTurns$Disc" "blurs" "[I") (by decide +kernel)) dX0_blurOf_1 ?_
  refine lv_iload_n hx hb dX0_blurOf_4 rfl (lv_at hl 1 rfl) ?_
  refine rdN (As := [.ref (α 3), .int p1]) (rest := []) (c_X4_at l G (α 3) 204 (d_bl σ) p1 (by decide)) hF (va_cnB (host := RX4) 2 hts gX0_blurOf_X4_at_n53 rfl rfl rfl (hK.nest 6 rfl) (hts (.initialized RX4) (by decide +kernel)) (by decide +kernel) ⟨Nat.le_of_ble_eq_true rfl, Nat.le_of_ble_eq_true rfl⟩) (hts (.static yX4_at) (by decide +kernel)) hK (cell_D_bl hP) rfl hl.1 rfl (Nat.le_of_ble_eq_true rfl) dX0_blurOf_5 ⟨Nat.zero_le _, Nat.zero_le _⟩ ?_
  rw [show s_X0_blurOf σ p1 = (s_X4_at 204 (d_bl σ) p1) from by rw [s_X0_blurOf]]
  exact W.iret hx hb hr (fun t ht hW => ⟨rfl, ht⟩) (fun _ h => nomatch h) dX0_blurOf_8
def s_X0_writingsOf (σ : DS) (p1 : Int32) : Int32 := (s_X4_at 204 (d_wr σ) p1)
set_option maxHeartbeats 4000000 in
set_option maxRecDepth 100000 in
theorem c_X0_writingsOf (l : Launch) (G : GG) (α : Nat → Nat) (σ : DS) (p1 : Int32) : Rd G l yX0_writingsOf wsX0_writingsOf 1 21 [.ref (α 0), .int p1] (dW G.2.1 α σ) (.int (s_X0_writingsOf σ p1)) := by
  refine Met.ofW (cc := cX0_writingsOf) (maxL := 2) (ret := (some .int)) (by decide) rfl ?_
  intro p e s m args below meth c s₁ B hml hv
  obtain ⟨rfl, hP, hK⟩ := hv
  have C0 : cA p s m meth c ([.ref (α 0), .int p1] : List Value).toArray cX0_writingsOf 2 (some .int) wsX0_writingsOf RX0 := ⟨B.exec, B.bytes, B.returns, hml, findClass_of_methodNamed B.named, atoms_spec (ws := wsX0_writingsOf) B.pre, B.notSynchronized⟩
  obtain ⟨hx, hb, hr, hml, hown, hts, hlocks⟩ := id C0
  have hF : CallFix p m c cX0_writingsOf 2 s _ wsX0_writingsOf RX0 := ⟨hx, hb, hml, hown, hts⟩
  have hinX0 : ∀ w ∈ wsX00, w ∈ wsX0_writingsOf := by decide +kernel
  have hl := lv_entry ([.ref (α 0), .int p1]) (n := 2) (Nat.le_of_ble_eq_true rfl)
  rw [lg_entry_eq]
  generalize (lg_sl ([.ref (α 0), .int p1]) ++ List.replicate (2 - (lg_sl ([.ref (α 0), .int p1])).length) Slot.unset).toArray = ls at hl ⊢
  have hl : lv_has ls 2 [(0, .ref (α 0)), (1, .int p1)] := hl
  refine lv_aload_n hx hb dX0_writingsOf_0 rfl (lv_at hl 0 rfl) ?_
  refine get_D_writings hx hb hts hinX0 hown hK hP (hts (.fieldLink RX0 24 "GrooveTurns$Disc" "writings" "[I") (by decide +kernel)) dX0_writingsOf_1 ?_
  refine lv_iload_n hx hb dX0_writingsOf_4 rfl (lv_at hl 1 rfl) ?_
  refine rdN (As := [.ref (α 4), .int p1]) (rest := []) (c_X4_at l G (α 4) 204 (d_wr σ) p1 (by decide)) hF (va_cnB (host := RX4) 2 hts gX0_writingsOf_X4_at_n53 rfl rfl rfl (hK.nest 6 rfl) (hts (.initialized RX4) (by decide +kernel)) (by decide +kernel) ⟨Nat.le_of_ble_eq_true rfl, Nat.le_of_ble_eq_true rfl⟩) (hts (.static yX4_at) (by decide +kernel)) hK (cell_D_wr hP) rfl hl.1 rfl (Nat.le_of_ble_eq_true rfl) dX0_writingsOf_5 ⟨Nat.zero_le _, Nat.zero_le _⟩ ?_
  rw [show s_X0_writingsOf σ p1 = (s_X4_at 204 (d_wr σ) p1) from by rw [s_X0_writingsOf]]
  exact W.iret hx hb hr (fun t ht hW => ⟨rfl, ht⟩) (fun _ h => nomatch h) dX0_writingsOf_8
def s_X0_settingOf (σ : DS) (p1 : Int32) : Int32 := (s_X4_at 5 (d_st σ) p1)
set_option maxHeartbeats 4000000 in
set_option maxRecDepth 100000 in
theorem c_X0_settingOf (l : Launch) (G : GG) (α : Nat → Nat) (σ : DS) (p1 : Int32) : Rd G l yX0_settingOf wsX0_settingOf 1 21 [.ref (α 0), .int p1] (dW G.2.1 α σ) (.int (s_X0_settingOf σ p1)) := by
  refine Met.ofW (cc := cX0_settingOf) (maxL := 2) (ret := (some .int)) (by decide) rfl ?_
  intro p e s m args below meth c s₁ B hml hv
  obtain ⟨rfl, hP, hK⟩ := hv
  have C0 : cA p s m meth c ([.ref (α 0), .int p1] : List Value).toArray cX0_settingOf 2 (some .int) wsX0_settingOf RX0 := ⟨B.exec, B.bytes, B.returns, hml, findClass_of_methodNamed B.named, atoms_spec (ws := wsX0_settingOf) B.pre, B.notSynchronized⟩
  obtain ⟨hx, hb, hr, hml, hown, hts, hlocks⟩ := id C0
  have hF : CallFix p m c cX0_settingOf 2 s _ wsX0_settingOf RX0 := ⟨hx, hb, hml, hown, hts⟩
  have hinX0 : ∀ w ∈ wsX00, w ∈ wsX0_settingOf := by decide +kernel
  have hl := lv_entry ([.ref (α 0), .int p1]) (n := 2) (Nat.le_of_ble_eq_true rfl)
  rw [lg_entry_eq]
  generalize (lg_sl ([.ref (α 0), .int p1]) ++ List.replicate (2 - (lg_sl ([.ref (α 0), .int p1])).length) Slot.unset).toArray = ls at hl ⊢
  have hl : lv_has ls 2 [(0, .ref (α 0)), (1, .int p1)] := hl
  refine lv_aload_n hx hb dX0_settingOf_0 rfl (lv_at hl 0 rfl) ?_
  refine get_D_settings hx hb hts hinX0 hown hK hP (hts (.fieldLink RX0 13 "GrooveTurns$Disc" "settings" "[I") (by decide +kernel)) dX0_settingOf_1 ?_
  refine lv_iload_n hx hb dX0_settingOf_4 rfl (lv_at hl 1 rfl) ?_
  refine rdN (As := [.ref (α 1), .int p1]) (rest := []) (c_X4_at l G (α 1) 5 (d_st σ) p1 (by decide)) hF (va_cnB (host := RX4) 2 hts gX0_settingOf_X4_at_n53 rfl rfl rfl (hK.nest 6 rfl) (hts (.initialized RX4) (by decide +kernel)) (by decide +kernel) ⟨Nat.le_of_ble_eq_true rfl, Nat.le_of_ble_eq_true rfl⟩) (hts (.static yX4_at) (by decide +kernel)) hK (cell_D_st hP) rfl hl.1 rfl (Nat.le_of_ble_eq_true rfl) dX0_settingOf_5 ⟨Nat.zero_le _, Nat.zero_le _⟩ ?_
  rw [show s_X0_settingOf σ p1 = (s_X4_at 5 (d_st σ) p1) from by rw [s_X0_settingOf]]
  exact W.iret hx hb hr (fun t ht hW => ⟨rfl, ht⟩) (fun _ h => nomatch h) dX0_settingOf_8
def s_X0_holdsNumber (σ : DS) (p1 : Int32) : Int32 := (if (s_X4_at 204 (d_nu σ) p1) = (-6) then 0 else 1)
theorem b_X0_holdsNumber (σ : DS) (p1 : Int32) : (s_X0_holdsNumber σ p1) = 0 ∨ (s_X0_holdsNumber σ p1) = 1 := by
  unfold s_X0_holdsNumber
  by_cases c_1 : (s_X4_at 204 (d_nu σ) p1) = (-6)
  · skip
    rw [if_pos c_1]
    exact Or.inl rfl
  · skip
    rw [if_neg c_1]
    exact Or.inr rfl
set_option maxHeartbeats 4000000 in
set_option maxRecDepth 100000 in
theorem c_X0_holdsNumber (l : Launch) (G : GG) (α : Nat → Nat) (σ : DS) (p1 : Int32) : Rd G l yX0_holdsNumber wsX0_holdsNumber 1 21 [.ref (α 0), .int p1] (dW G.2.1 α σ) (.int (s_X0_holdsNumber σ p1)) := by
  refine Met.ofW (cc := cX0_holdsNumber) (maxL := 2) (ret := (some .boolean)) (by decide) rfl ?_
  intro p e s m args below meth c s₁ B hml hv
  obtain ⟨rfl, hP, hK⟩ := hv
  have C0 : cA p s m meth c ([.ref (α 0), .int p1] : List Value).toArray cX0_holdsNumber 2 (some .boolean) wsX0_holdsNumber RX0 := ⟨B.exec, B.bytes, B.returns, hml, findClass_of_methodNamed B.named, atoms_spec (ws := wsX0_holdsNumber) B.pre, B.notSynchronized⟩
  obtain ⟨hx, hb, hr, hml, hown, hts, hlocks⟩ := id C0
  have hF : CallFix p m c cX0_holdsNumber 2 s _ wsX0_holdsNumber RX0 := ⟨hx, hb, hml, hown, hts⟩
  have hinX0 : ∀ w ∈ wsX00, w ∈ wsX0_holdsNumber := by decide +kernel
  have hl := lv_entry ([.ref (α 0), .int p1]) (n := 2) (Nat.le_of_ble_eq_true rfl)
  rw [lg_entry_eq]
  generalize (lg_sl ([.ref (α 0), .int p1]) ++ List.replicate (2 - (lg_sl ([.ref (α 0), .int p1])).length) Slot.unset).toArray = ls at hl ⊢
  have hl : lv_has ls 2 [(0, .ref (α 0)), (1, .int p1)] := hl
  refine lv_aload_n hx hb dX0_holdsNumber_0 rfl (lv_at hl 0 rfl) ?_
  refine get_D_numbers hx hb hts hinX0 hown hK hP (hts (.fieldLink RX0 18 "GrooveTurns$Disc" "numbers" "[I") (by decide +kernel)) dX0_holdsNumber_1 ?_
  refine lv_iload_n hx hb dX0_holdsNumber_4 rfl (lv_at hl 1 rfl) ?_
  refine rdN (As := [.ref (α 2), .int p1]) (rest := []) (c_X4_at l G (α 2) 204 (d_nu σ) p1 (by decide)) hF (va_cnB (host := RX4) 2 hts gX0_holdsNumber_X4_at_n53 rfl rfl rfl (hK.nest 6 rfl) (hts (.initialized RX4) (by decide +kernel)) (by decide +kernel) ⟨Nat.le_of_ble_eq_true rfl, Nat.le_of_ble_eq_true rfl⟩) (hts (.static yX4_at) (by decide +kernel)) hK (cell_D_nu hP) rfl hl.1 rfl (Nat.le_of_ble_eq_true rfl) dX0_holdsNumber_5 ⟨Nat.zero_le _, Nat.zero_le _⟩ ?_
  refine lv_bipush (v := (-6)) hx hb dX0_holdsNumber_8 (by decide) ?_
  refine lv_icmp_eq (tgt := 17) hx hb dX0_holdsNumber_10 (by decide) (fun (c_1 : (s_X4_at 204 (d_nu σ) p1) = (-6)) => ?_) (fun (c_1 : ¬ (s_X4_at 204 (d_nu σ) p1) = (-6)) => ?_)
  · skip
    refine lv_iconst (v := 0) hx hb dX0_holdsNumber_17 (by decide) ?_
    rw [show s_X0_holdsNumber σ p1 = 0 from by rw [s_X0_holdsNumber]; rw [if_pos c_1]]
    exact W.zret (ty := .boolean) hx hb hr rfl (fun t ht hW => ⟨rfl, ht⟩) (fun _ h => nomatch h) dX0_holdsNumber_18
  · skip
    refine lv_iconst (v := 1) hx hb dX0_holdsNumber_13 (by decide) ?_
    refine lv_goto (tgt := 18) hx hb dX0_holdsNumber_14 (by decide) ?_
    rw [show s_X0_holdsNumber σ p1 = 1 from by rw [s_X0_holdsNumber]; rw [if_neg c_1]]
    exact W.zret (ty := .boolean) hx hb hr rfl (fun t ht hW => ⟨rfl, ht⟩) (fun _ h => nomatch h) dX0_holdsNumber_18
def s_X0_sparesLeft (σ : DS) : Int32 := (12 - (d_sp σ))
set_option maxHeartbeats 4000000 in
set_option maxRecDepth 100000 in
theorem c_X0_sparesLeft (l : Launch) (G : GG) (α : Nat → Nat) (σ : DS) : Rd G l yX0_sparesLeft wsX0_sparesLeft 0 0 [.ref (α 0)] (dW G.2.1 α σ) (.int (s_X0_sparesLeft σ)) := by
  refine Met.ofW (cc := cX0_sparesLeft) (maxL := 1) (ret := (some .int)) (by decide) rfl ?_
  intro p e s m args below meth c s₁ B hml hv
  obtain ⟨rfl, hP, hK⟩ := hv
  have C0 : cA p s m meth c ([.ref (α 0)] : List Value).toArray cX0_sparesLeft 1 (some .int) wsX0_sparesLeft RX0 := ⟨B.exec, B.bytes, B.returns, hml, findClass_of_methodNamed B.named, atoms_spec (ws := wsX0_sparesLeft) B.pre, B.notSynchronized⟩
  obtain ⟨hx, hb, hr, hml, hown, hts, hlocks⟩ := id C0
  have hF : CallFix p m c cX0_sparesLeft 1 s _ wsX0_sparesLeft RX0 := ⟨hx, hb, hml, hown, hts⟩
  have hinX0 : ∀ w ∈ wsX00, w ∈ wsX0_sparesLeft := by decide +kernel
  have hl := lv_entry ([.ref (α 0)]) (n := 1) (Nat.le_of_ble_eq_true rfl)
  rw [lg_entry_eq]
  generalize (lg_sl ([.ref (α 0)]) ++ List.replicate (1 - (lg_sl ([.ref (α 0)])).length) Slot.unset).toArray = ls at hl ⊢
  have hl : lv_has ls 1 [(0, .ref (α 0))] := hl
  refine lv_bipush (v := 12) hx hb dX0_sparesLeft_0 (by decide) ?_
  refine lv_aload_n hx hb dX0_sparesLeft_2 rfl (lv_at hl 0 rfl) ?_
  refine get_D_sparesTaken hx hb hts hinX0 hown hK hP (hts (.fieldLink RX0 30 "GrooveTurns$Disc" "sparesTaken" "I") (by decide +kernel)) dX0_sparesLeft_3 ?_
  refine lv_isub hx hb dX0_sparesLeft_6 ?_
  rw [show s_X0_sparesLeft σ = (12 - (d_sp σ)) from by rw [s_X0_sparesLeft]]
  exact W.iret hx hb hr (fun t ht hW => ⟨rfl, ht⟩) (fun _ h => nomatch h) dX0_sparesLeft_7
def s_X0_sectorUnderHead (σ : DS) : Int32 := (jrem (d_tk σ) 12)
set_option maxHeartbeats 4000000 in
set_option maxRecDepth 100000 in
theorem c_X0_sectorUnderHead (l : Launch) (G : GG) (α : Nat → Nat) (σ : DS) : Rd G l yX0_sectorUnderHead wsX0_sectorUnderHead 0 0 [.ref (α 0)] (dW G.2.1 α σ) (.int (s_X0_sectorUnderHead σ)) := by
  refine Met.ofW (cc := cX0_sectorUnderHead) (maxL := 1) (ret := (some .int)) (by decide) rfl ?_
  intro p e s m args below meth c s₁ B hml hv
  obtain ⟨rfl, hP, hK⟩ := hv
  have C0 : cA p s m meth c ([.ref (α 0)] : List Value).toArray cX0_sectorUnderHead 1 (some .int) wsX0_sectorUnderHead RX0 := ⟨B.exec, B.bytes, B.returns, hml, findClass_of_methodNamed B.named, atoms_spec (ws := wsX0_sectorUnderHead) B.pre, B.notSynchronized⟩
  obtain ⟨hx, hb, hr, hml, hown, hts, hlocks⟩ := id C0
  have hF : CallFix p m c cX0_sectorUnderHead 1 s _ wsX0_sectorUnderHead RX0 := ⟨hx, hb, hml, hown, hts⟩
  have hinX0 : ∀ w ∈ wsX00, w ∈ wsX0_sectorUnderHead := by decide +kernel
  have hl := lv_entry ([.ref (α 0)]) (n := 1) (Nat.le_of_ble_eq_true rfl)
  rw [lg_entry_eq]
  generalize (lg_sl ([.ref (α 0)]) ++ List.replicate (1 - (lg_sl ([.ref (α 0)])).length) Slot.unset).toArray = ls at hl ⊢
  have hl : lv_has ls 1 [(0, .ref (α 0))] := hl
  refine lv_aload_n hx hb dX0_sectorUnderHead_0 rfl (lv_at hl 0 rfl) ?_
  refine get_D_ticks hx hb hts hinX0 hown hK hP (hts (.fieldLink RX0 37 "GrooveTurns$Disc" "ticks" "I") (by decide +kernel)) dX0_sectorUnderHead_1 ?_
  refine lv_bipush (v := 12) hx hb dX0_sectorUnderHead_4 (by decide) ?_
  refine lv_irem hx hb dX0_sectorUnderHead_6 (by decide) ?_
  rw [show s_X0_sectorUnderHead σ = (jrem (d_tk σ) 12) from by rw [s_X0_sectorUnderHead]]
  exact W.iret hx hb hr (fun t ht hW => ⟨rfl, ht⟩) (fun _ h => nomatch h) dX0_sectorUnderHead_7
def s_X0_hasTime (σ : DS) (p1 : Int32) : Int32 := (if (9999999 - (d_tk σ)) < p1 then 0 else 1)
theorem b_X0_hasTime (σ : DS) (p1 : Int32) : (s_X0_hasTime σ p1) = 0 ∨ (s_X0_hasTime σ p1) = 1 := by
  unfold s_X0_hasTime
  by_cases c_1 : (9999999 - (d_tk σ)) < p1
  · skip
    rw [if_pos c_1]
    exact Or.inl rfl
  · skip
    rw [if_neg c_1]
    exact Or.inr rfl
set_option maxHeartbeats 4000000 in
set_option maxRecDepth 100000 in
theorem c_X0_hasTime (l : Launch) (G : GG) (α : Nat → Nat) (σ : DS) (p1 : Int32) : Rd G l yX0_hasTime wsX0_hasTime 0 0 [.ref (α 0), .int p1] (dW G.2.1 α σ) (.int (s_X0_hasTime σ p1)) := by
  refine Met.ofW (cc := cX0_hasTime) (maxL := 2) (ret := (some .boolean)) (by decide) rfl ?_
  intro p e s m args below meth c s₁ B hml hv
  obtain ⟨rfl, hP, hK⟩ := hv
  have C0 : cA p s m meth c ([.ref (α 0), .int p1] : List Value).toArray cX0_hasTime 2 (some .boolean) wsX0_hasTime RX0 := ⟨B.exec, B.bytes, B.returns, hml, findClass_of_methodNamed B.named, atoms_spec (ws := wsX0_hasTime) B.pre, B.notSynchronized⟩
  obtain ⟨hx, hb, hr, hml, hown, hts, hlocks⟩ := id C0
  have hF : CallFix p m c cX0_hasTime 2 s _ wsX0_hasTime RX0 := ⟨hx, hb, hml, hown, hts⟩
  have hinX0 : ∀ w ∈ wsX00, w ∈ wsX0_hasTime := by decide +kernel
  have hl := lv_entry ([.ref (α 0), .int p1]) (n := 2) (Nat.le_of_ble_eq_true rfl)
  rw [lg_entry_eq]
  generalize (lg_sl ([.ref (α 0), .int p1]) ++ List.replicate (2 - (lg_sl ([.ref (α 0), .int p1])).length) Slot.unset).toArray = ls at hl ⊢
  have hl : lv_has ls 2 [(0, .ref (α 0)), (1, .int p1)] := hl
  refine lv_iload_n hx hb dX0_hasTime_0 rfl (lv_at hl 1 rfl) ?_
  refine lv_ldc (v := 9999999) hx hb hown (hts (.constant RX0 137 (9999999)) (by decide +kernel)) dX0_hasTime_1 ?_
  refine lv_aload_n hx hb dX0_hasTime_3 rfl (lv_at hl 0 rfl) ?_
  refine get_D_ticks hx hb hts hinX0 hown hK hP (hts (.fieldLink RX0 37 "GrooveTurns$Disc" "ticks" "I") (by decide +kernel)) dX0_hasTime_4 ?_
  refine lv_isub hx hb dX0_hasTime_7 ?_
  refine lv_icmp_gt (tgt := 15) hx hb dX0_hasTime_8 (by decide) (fun (c_1 : (9999999 - (d_tk σ)) < p1) => ?_) (fun (c_1 : ¬ (9999999 - (d_tk σ)) < p1) => ?_)
  · skip
    refine lv_iconst (v := 0) hx hb dX0_hasTime_15 (by decide) ?_
    rw [show s_X0_hasTime σ p1 = 0 from by rw [s_X0_hasTime]; rw [if_pos c_1]]
    exact W.zret (ty := .boolean) hx hb hr rfl (fun t ht hW => ⟨rfl, ht⟩) (fun _ h => nomatch h) dX0_hasTime_16
  · skip
    refine lv_iconst (v := 1) hx hb dX0_hasTime_11 (by decide) ?_
    refine lv_goto (tgt := 16) hx hb dX0_hasTime_12 (by decide) ?_
    rw [show s_X0_hasTime σ p1 = 1 from by rw [s_X0_hasTime]; rw [if_neg c_1]]
    exact W.zret (ty := .boolean) hx hb hr rfl (fun t ht hW => ⟨rfl, ht⟩) (fun _ h => nomatch h) dX0_hasTime_16
def s_X0_isReadable (σ : DS) (p1 : Int32) : Int32 := (if (s_X0_holdsNumber σ p1) = 0 then 0 else (if (s_X0_settingOf σ 2) ≤ (s_X0_blurOf σ p1) then 0 else 1))
theorem b_X0_isReadable (σ : DS) (p1 : Int32) : (s_X0_isReadable σ p1) = 0 ∨ (s_X0_isReadable σ p1) = 1 := by
  unfold s_X0_isReadable
  by_cases c_1 : (s_X0_holdsNumber σ p1) = 0
  · skip
    rw [if_pos c_1]
    exact Or.inl rfl
  · skip
    by_cases c_2 : (s_X0_settingOf σ 2) ≤ (s_X0_blurOf σ p1)
    · skip
      rw [if_neg c_1, if_pos c_2]
      exact Or.inl rfl
    · skip
      rw [if_neg c_1, if_neg c_2]
      exact Or.inr rfl
set_option maxHeartbeats 4000000 in
set_option maxRecDepth 100000 in
theorem c_X0_isReadable (l : Launch) (G : GG) (α : Nat → Nat) (σ : DS) (p1 : Int32) : Rd G l yX0_isReadable wsX0_isReadable 2 42 [.ref (α 0), .int p1] (dW G.2.1 α σ) (.int (s_X0_isReadable σ p1)) := by
  refine Met.ofW (cc := cX0_isReadable) (maxL := 2) (ret := (some .boolean)) (by decide) rfl ?_
  intro p e s m args below meth c s₁ B hml hv
  obtain ⟨rfl, hP, hK⟩ := hv
  have C0 : cA p s m meth c ([.ref (α 0), .int p1] : List Value).toArray cX0_isReadable 2 (some .boolean) wsX0_isReadable RX0 := ⟨B.exec, B.bytes, B.returns, hml, findClass_of_methodNamed B.named, atoms_spec (ws := wsX0_isReadable) B.pre, B.notSynchronized⟩
  obtain ⟨hx, hb, hr, hml, hown, hts, hlocks⟩ := id C0
  have hF : CallFix p m c cX0_isReadable 2 s _ wsX0_isReadable RX0 := ⟨hx, hb, hml, hown, hts⟩
  have hl := lv_entry ([.ref (α 0), .int p1]) (n := 2) (Nat.le_of_ble_eq_true rfl)
  rw [lg_entry_eq]
  generalize (lg_sl ([.ref (α 0), .int p1]) ++ List.replicate (2 - (lg_sl ([.ref (α 0), .int p1])).length) Slot.unset).toArray = ls at hl ⊢
  have hl : lv_has ls 2 [(0, .ref (α 0)), (1, .int p1)] := hl
  refine lv_aload_n hx hb dX0_isReadable_0 rfl (lv_at hl 0 rfl) ?_
  refine lv_iload_n hx hb dX0_isReadable_1 rfl (lv_at hl 1 rfl) ?_
  refine rdV (As := [.int p1]) (rest := []) (c_X0_holdsNumber l G α σ p1) hF (cwV 1 hts gX0_isReadable_X0_holdsNumber rfl rfl rfl (by decide +kernel) ⟨Nat.le_of_ble_eq_true rfl, Nat.le_of_ble_eq_true rfl⟩) (rcv_D hK hP) hK hP rfl hl.1 rfl (Nat.le_of_ble_eq_true rfl) dX0_isReadable_2 ⟨Nat.zero_le _, Nat.zero_le _⟩ ?_
  refine lv_if_eq (tgt := 25) hx hb dX0_isReadable_5 (by decide) (fun (c_1 : (s_X0_holdsNumber σ p1) = 0) => ?_) (fun (c_1 : ¬ (s_X0_holdsNumber σ p1) = 0) => ?_)
  · skip
    refine lv_iconst (v := 0) hx hb dX0_isReadable_25 (by decide) ?_
    rw [show s_X0_isReadable σ p1 = 0 from by rw [s_X0_isReadable]; rw [if_pos c_1]]
    exact W.zret (ty := .boolean) hx hb hr rfl (fun t ht hW => ⟨rfl, ht⟩) (fun _ h => nomatch h) dX0_isReadable_26
  · skip
    refine lv_aload_n hx hb dX0_isReadable_8 rfl (lv_at hl 0 rfl) ?_
    refine lv_iload_n hx hb dX0_isReadable_9 rfl (lv_at hl 1 rfl) ?_
    refine rdV (As := [.int p1]) (rest := []) (c_X0_blurOf l G α σ p1) hF (cwV 1 hts gX0_isReadable_X0_blurOf rfl rfl rfl (by decide +kernel) ⟨Nat.le_of_ble_eq_true rfl, Nat.le_of_ble_eq_true rfl⟩) (rcv_D hK hP) hK hP rfl hl.1 rfl (Nat.le_of_ble_eq_true rfl) dX0_isReadable_10 ⟨Nat.zero_le _, Nat.zero_le _⟩ ?_
    refine lv_aload_n hx hb dX0_isReadable_13 rfl (lv_at hl 0 rfl) ?_
    refine lv_iconst (v := 2) hx hb dX0_isReadable_14 (by decide) ?_
    refine rdV (As := [.int 2]) (rest := [.int (s_X0_blurOf σ p1)]) (c_X0_settingOf l G α σ 2) hF (cwV 1 hts gX0_isReadable_X0_settingOf rfl rfl rfl (by decide +kernel) ⟨Nat.le_of_ble_eq_true rfl, Nat.le_of_ble_eq_true rfl⟩) (rcv_D hK hP) hK hP rfl hl.1 rfl (Nat.le_of_ble_eq_true rfl) dX0_isReadable_15 ⟨Nat.zero_le _, Nat.zero_le _⟩ ?_
    refine lv_icmp_ge (tgt := 25) hx hb dX0_isReadable_18 (by decide) (fun (c_2 : (s_X0_settingOf σ 2) ≤ (s_X0_blurOf σ p1)) => ?_) (fun (c_2 : ¬ (s_X0_settingOf σ 2) ≤ (s_X0_blurOf σ p1)) => ?_)
    · skip
      refine lv_iconst (v := 0) hx hb dX0_isReadable_25 (by decide) ?_
      rw [show s_X0_isReadable σ p1 = 0 from by rw [s_X0_isReadable]; rw [if_neg c_1, if_pos c_2]]
      exact W.zret (ty := .boolean) hx hb hr rfl (fun t ht hW => ⟨rfl, ht⟩) (fun _ h => nomatch h) dX0_isReadable_26
    · skip
      refine lv_iconst (v := 1) hx hb dX0_isReadable_21 (by decide) ?_
      refine lv_goto (tgt := 26) hx hb dX0_isReadable_22 (by decide) ?_
      rw [show s_X0_isReadable σ p1 = 1 from by rw [s_X0_isReadable]; rw [if_neg c_1, if_neg c_2]]
      exact W.zret (ty := .boolean) hx hb hr rfl (fun t ht hW => ⟨rfl, ht⟩) (fun _ h => nomatch h) dX0_isReadable_26
def s_X0_sectorToWrite (σ : DS) (p1 : Int32) : Int32 := (if (s_X0_writingsOf σ (s_X0_sectorFor σ p1)) < (s_X0_settingOf σ 3) then (s_X0_sectorFor σ p1) else (if (s_X0_sparesLeft σ) ≤ 0 then (s_X0_sectorFor σ p1) else (192 + (d_sp σ))))
set_option maxHeartbeats 4000000 in
set_option maxRecDepth 100000 in
theorem c_X0_sectorToWrite (l : Launch) (G : GG) (α : Nat → Nat) (σ : DS) (p1 : Int32) : Rd G l yX0_sectorToWrite wsX0_sectorToWrite 2 42 [.ref (α 0), .int p1] (dW G.2.1 α σ) (.int (s_X0_sectorToWrite σ p1)) := by
  refine Met.ofW (cc := cX0_sectorToWrite) (maxL := 4) (ret := (some .int)) (by decide) rfl ?_
  intro p e s m args below meth c s₁ B hml hv
  obtain ⟨rfl, hP, hK⟩ := hv
  have C0 : cA p s m meth c ([.ref (α 0), .int p1] : List Value).toArray cX0_sectorToWrite 4 (some .int) wsX0_sectorToWrite RX0 := ⟨B.exec, B.bytes, B.returns, hml, findClass_of_methodNamed B.named, atoms_spec (ws := wsX0_sectorToWrite) B.pre, B.notSynchronized⟩
  obtain ⟨hx, hb, hr, hml, hown, hts, hlocks⟩ := id C0
  have hF : CallFix p m c cX0_sectorToWrite 4 s _ wsX0_sectorToWrite RX0 := ⟨hx, hb, hml, hown, hts⟩
  have hinX0 : ∀ w ∈ wsX00, w ∈ wsX0_sectorToWrite := by decide +kernel
  have hl := lv_entry ([.ref (α 0), .int p1]) (n := 4) (Nat.le_of_ble_eq_true rfl)
  rw [lg_entry_eq]
  generalize (lg_sl ([.ref (α 0), .int p1]) ++ List.replicate (4 - (lg_sl ([.ref (α 0), .int p1])).length) Slot.unset).toArray = ls at hl ⊢
  have hl : lv_has ls 4 [(0, .ref (α 0)), (1, .int p1)] := hl
  refine lv_aload_n hx hb dX0_sectorToWrite_0 rfl (lv_at hl 0 rfl) ?_
  refine lv_iload_n hx hb dX0_sectorToWrite_1 rfl (lv_at hl 1 rfl) ?_
  refine rdV (As := [.int p1]) (rest := []) (c_X0_sectorFor l G α σ p1) hF (cwV 1 hts gX0_sectorToWrite_X0_sectorFor rfl rfl rfl (by decide +kernel) ⟨Nat.le_of_ble_eq_true rfl, Nat.le_of_ble_eq_true rfl⟩) (rcv_D hK hP) hK hP rfl hl.1 rfl (Nat.le_of_ble_eq_true rfl) dX0_sectorToWrite_2 ⟨Nat.zero_le _, Nat.zero_le _⟩ ?_
  refine lv_istore_n (lv' := [(2, .int (s_X0_sectorFor σ p1)), (0, .ref (α 0)), (1, .int p1)]) hx hb dX0_sectorToWrite_5 rfl hl (by decide) rfl (fun ls hl => ?_)
  refine lv_aload_n hx hb dX0_sectorToWrite_6 rfl (lv_at hl 1 rfl) ?_
  refine lv_iload_n hx hb dX0_sectorToWrite_7 rfl (lv_at hl 0 rfl) ?_
  refine rdV (As := [.int (s_X0_sectorFor σ p1)]) (rest := []) (c_X0_writingsOf l G α σ (s_X0_sectorFor σ p1)) hF (cwV 1 hts gX0_sectorToWrite_X0_writingsOf rfl rfl rfl (by decide +kernel) ⟨Nat.le_of_ble_eq_true rfl, Nat.le_of_ble_eq_true rfl⟩) (rcv_D hK hP) hK hP rfl hl.1 rfl (Nat.le_of_ble_eq_true rfl) dX0_sectorToWrite_8 ⟨Nat.zero_le _, Nat.zero_le _⟩ ?_
  refine lv_aload_n hx hb dX0_sectorToWrite_11 rfl (lv_at hl 1 rfl) ?_
  refine lv_iconst (v := 3) hx hb dX0_sectorToWrite_12 (by decide) ?_
  refine rdV (As := [.int 3]) (rest := [.int (s_X0_writingsOf σ (s_X0_sectorFor σ p1))]) (c_X0_settingOf l G α σ 3) hF (cwV 1 hts gX0_sectorToWrite_X0_settingOf rfl rfl rfl (by decide +kernel) ⟨Nat.le_of_ble_eq_true rfl, Nat.le_of_ble_eq_true rfl⟩) (rcv_D hK hP) hK hP rfl hl.1 rfl (Nat.le_of_ble_eq_true rfl) dX0_sectorToWrite_13 ⟨Nat.zero_le _, Nat.zero_le _⟩ ?_
  refine lv_icmp_lt (tgt := 23) hx hb dX0_sectorToWrite_16 (by decide) (fun (c_1 : (s_X0_writingsOf σ (s_X0_sectorFor σ p1)) < (s_X0_settingOf σ 3)) => ?_) (fun (c_1 : ¬ (s_X0_writingsOf σ (s_X0_sectorFor σ p1)) < (s_X0_settingOf σ 3)) => ?_)
  · skip
    refine lv_iconst (v := 0) hx hb dX0_sectorToWrite_23 (by decide) ?_
    refine lv_istore_n (lv' := [(3, .int 0), (2, .int (s_X0_sectorFor σ p1)), (0, .ref (α 0)), (1, .int p1)]) hx hb dX0_sectorToWrite_24 rfl hl (by decide) rfl (fun ls hl => ?_)
    refine lv_iload_n hx hb dX0_sectorToWrite_25 rfl (lv_at hl 0 rfl) ?_
    refine lv_if_eq (tgt := 47) hx hb dX0_sectorToWrite_26 (by decide) (fun (c_2 : 0 = 0) => ?_) (fun (c_2 : ¬ 0 = 0) => ?_)
    · skip
      refine lv_iload_n hx hb dX0_sectorToWrite_47 rfl (lv_at hl 1 rfl) ?_
      rw [show s_X0_sectorToWrite σ p1 = (s_X0_sectorFor σ p1) from by rw [s_X0_sectorToWrite]; rw [if_pos c_1]]
      exact W.iret hx hb hr (fun t ht hW => ⟨rfl, ht⟩) (fun _ h => nomatch h) dX0_sectorToWrite_48
    · skip
      exact absurd (by decide) c_2
  · skip
    refine lv_iconst (v := 1) hx hb dX0_sectorToWrite_19 (by decide) ?_
    refine lv_goto (tgt := 24) hx hb dX0_sectorToWrite_20 (by decide) ?_
    refine lv_istore_n (lv' := [(3, .int 1), (2, .int (s_X0_sectorFor σ p1)), (0, .ref (α 0)), (1, .int p1)]) hx hb dX0_sectorToWrite_24 rfl hl (by decide) rfl (fun ls hl => ?_)
    refine lv_iload_n hx hb dX0_sectorToWrite_25 rfl (lv_at hl 0 rfl) ?_
    refine lv_if_eq (tgt := 47) hx hb dX0_sectorToWrite_26 (by decide) (fun (c_3 : 1 = 0) => ?_) (fun (c_3 : ¬ 1 = 0) => ?_)
    · skip
      exact absurd c_3 (by decide)
    · skip
      refine lv_aload_n hx hb dX0_sectorToWrite_29 rfl (lv_at hl 2 rfl) ?_
      refine rdV (As := []) (rest := []) (c_X0_sparesLeft l G α σ) hF (cwV 0 hts gX0_sectorToWrite_X0_sparesLeft rfl rfl rfl (by decide +kernel) ⟨Nat.le_of_ble_eq_true rfl, Nat.le_of_ble_eq_true rfl⟩) (rcv_D hK hP) hK hP rfl hl.1 rfl (Nat.le_of_ble_eq_true rfl) dX0_sectorToWrite_30 ⟨Nat.zero_le _, Nat.zero_le _⟩ ?_
      refine lv_if_le (tgt := 47) hx hb dX0_sectorToWrite_33 (by decide) (fun (c_4 : (s_X0_sparesLeft σ) ≤ 0) => ?_) (fun (c_4 : ¬ (s_X0_sparesLeft σ) ≤ 0) => ?_)
      · skip
        refine lv_iload_n hx hb dX0_sectorToWrite_47 rfl (lv_at hl 1 rfl) ?_
        rw [show s_X0_sectorToWrite σ p1 = (s_X0_sectorFor σ p1) from by rw [s_X0_sectorToWrite]; rw [if_neg c_1, if_pos c_4]]
        exact W.iret hx hb hr (fun t ht hW => ⟨rfl, ht⟩) (fun _ h => nomatch h) dX0_sectorToWrite_48
      · skip
        refine lv_sipush (v := 192) hx hb dX0_sectorToWrite_36 (by decide) ?_
        refine lv_aload_n hx hb dX0_sectorToWrite_39 rfl (lv_at hl 2 rfl) ?_
        refine get_D_sparesTaken hx hb hts hinX0 hown hK hP (hts (.fieldLink RX0 30 "GrooveTurns$Disc" "sparesTaken" "I") (by decide +kernel)) dX0_sectorToWrite_40 ?_
        refine lv_iadd hx hb dX0_sectorToWrite_43 ?_
        refine lv_goto (tgt := 48) hx hb dX0_sectorToWrite_44 (by decide) ?_
        rw [show s_X0_sectorToWrite σ p1 = (192 + (d_sp σ)) from by rw [s_X0_sectorToWrite]; rw [if_neg c_1, if_neg c_4]]
        exact W.iret hx hb hr (fun t ht hW => ⟨rfl, ht⟩) (fun _ h => nomatch h) dX0_sectorToWrite_48
def s_X0_ticksToTrack (σ : DS) (p1 : Int32) : Int32 := ((s_X0_settingOf σ 4) * (jabs (p1 - (d_hd σ))))
set_option maxHeartbeats 4000000 in
set_option maxRecDepth 100000 in
theorem c_X0_ticksToTrack (l : Launch) (G : GG) (α : Nat → Nat) (σ : DS) (p1 : Int32) : Rd G l yX0_ticksToTrack wsX0_ticksToTrack 2 42 [.ref (α 0), .int p1] (dW G.2.1 α σ) (.int (s_X0_ticksToTrack σ p1)) := by
  refine Met.ofW (cc := cX0_ticksToTrack) (maxL := 2) (ret := (some .int)) (by decide) rfl ?_
  intro p e s m args below meth c s₁ B hml hv
  obtain ⟨rfl, hP, hK⟩ := hv
  have C0 : cA p s m meth c ([.ref (α 0), .int p1] : List Value).toArray cX0_ticksToTrack 2 (some .int) wsX0_ticksToTrack RX0 := ⟨B.exec, B.bytes, B.returns, hml, findClass_of_methodNamed B.named, atoms_spec (ws := wsX0_ticksToTrack) B.pre, B.notSynchronized⟩
  obtain ⟨hx, hb, hr, hml, hown, hts, hlocks⟩ := id C0
  have hF : CallFix p m c cX0_ticksToTrack 2 s _ wsX0_ticksToTrack RX0 := ⟨hx, hb, hml, hown, hts⟩
  have hinX0 : ∀ w ∈ wsX00, w ∈ wsX0_ticksToTrack := by decide +kernel
  have hl := lv_entry ([.ref (α 0), .int p1]) (n := 2) (Nat.le_of_ble_eq_true rfl)
  rw [lg_entry_eq]
  generalize (lg_sl ([.ref (α 0), .int p1]) ++ List.replicate (2 - (lg_sl ([.ref (α 0), .int p1])).length) Slot.unset).toArray = ls at hl ⊢
  have hl : lv_has ls 2 [(0, .ref (α 0)), (1, .int p1)] := hl
  refine lv_aload_n hx hb dX0_ticksToTrack_0 rfl (lv_at hl 0 rfl) ?_
  refine lv_iconst (v := 4) hx hb dX0_ticksToTrack_1 (by decide) ?_
  refine rdV (As := [.int 4]) (rest := []) (c_X0_settingOf l G α σ 4) hF (cwV 1 hts gX0_ticksToTrack_X0_settingOf rfl rfl rfl (by decide +kernel) ⟨Nat.le_of_ble_eq_true rfl, Nat.le_of_ble_eq_true rfl⟩) (rcv_D hK hP) hK hP rfl hl.1 rfl (Nat.le_of_ble_eq_true rfl) dX0_ticksToTrack_2 ⟨Nat.zero_le _, Nat.zero_le _⟩ ?_
  refine lv_iload_n hx hb dX0_ticksToTrack_5 rfl (lv_at hl 1 rfl) ?_
  refine lv_aload_n hx hb dX0_ticksToTrack_6 rfl (lv_at hl 0 rfl) ?_
  refine get_D_head hx hb hts hinX0 hown hK hP (hts (.fieldLink RX0 40 "GrooveTurns$Disc" "head" "I") (by decide +kernel)) dX0_ticksToTrack_7 ?_
  refine lv_isub hx hb dX0_ticksToTrack_10 ?_
  refine va_mabs hx hb (by rw [hml]; exact hl.1.symm) hown (hts (.methodLink RX0 134 Lib.Math.abs.name) (by decide +kernel)) (hts (.static Lib.Math.abs.name) (by decide +kernel)) (hts (.initialized "java/lang/Math") (by decide +kernel)) (hts (.code Lib.Math.abs.name Lib.Math.abs.code 1 (some .int)) (by decide +kernel)) (Nat.le_of_ble_eq_true rfl) (Nat.le_of_ble_eq_true rfl) (Nat.zero_le _) (Nat.zero_le _) dX0_ticksToTrack_11 ?_
  refine lv_imul hx hb dX0_ticksToTrack_14 ?_
  rw [show s_X0_ticksToTrack σ p1 = ((s_X0_settingOf σ 4) * (jabs (p1 - (d_hd σ)))) from by rw [s_X0_ticksToTrack]]
  exact W.iret hx hb hr (fun t ht hW => ⟨rfl, ht⟩) (fun _ h => nomatch h) dX0_ticksToTrack_15
def s_X0_ticksTo (σ : DS) (p1 : Int32) : Int32 := (((s_X0_ticksToTrack σ (s_X4_trackOf p1)) + (s_J9_floorMod (p1 - ((d_tk σ) + (s_X0_ticksToTrack σ (s_X4_trackOf p1)))))) + 1)
set_option maxHeartbeats 4000000 in
set_option maxRecDepth 100000 in
theorem c_X0_ticksTo (l : Launch) (G : GG) (α : Nat → Nat) (σ : DS) (p1 : Int32) : Rd G l yX0_ticksTo wsX0_ticksTo 3 63 [.ref (α 0), .int p1] (dW G.2.1 α σ) (.int (s_X0_ticksTo σ p1)) := by
  refine Met.ofW (cc := cX0_ticksTo) (maxL := 4) (ret := (some .int)) (by decide) rfl ?_
  intro p e s m args below meth c s₁ B hml hv
  obtain ⟨rfl, hP, hK⟩ := hv
  have C0 : cA p s m meth c ([.ref (α 0), .int p1] : List Value).toArray cX0_ticksTo 4 (some .int) wsX0_ticksTo RX0 := ⟨B.exec, B.bytes, B.returns, hml, findClass_of_methodNamed B.named, atoms_spec (ws := wsX0_ticksTo) B.pre, B.notSynchronized⟩
  obtain ⟨hx, hb, hr, hml, hown, hts, hlocks⟩ := id C0
  have hF : CallFix p m c cX0_ticksTo 4 s _ wsX0_ticksTo RX0 := ⟨hx, hb, hml, hown, hts⟩
  have hinX0 : ∀ w ∈ wsX00, w ∈ wsX0_ticksTo := by decide +kernel
  have hl := lv_entry ([.ref (α 0), .int p1]) (n := 4) (Nat.le_of_ble_eq_true rfl)
  rw [lg_entry_eq]
  generalize (lg_sl ([.ref (α 0), .int p1]) ++ List.replicate (4 - (lg_sl ([.ref (α 0), .int p1])).length) Slot.unset).toArray = ls at hl ⊢
  have hl : lv_has ls 4 [(0, .ref (α 0)), (1, .int p1)] := hl
  refine lv_aload_n hx hb dX0_ticksTo_0 rfl (lv_at hl 0 rfl) ?_
  refine lv_iload_n hx hb dX0_ticksTo_1 rfl (lv_at hl 1 rfl) ?_
  refine rdN (As := [.int p1]) (rest := [.ref (α 0)]) (c_X4_trackOf l G p1) hF (va_cnB (host := RX4) 1 hts gX0_ticksTo_X4_trackOf_n75 rfl rfl rfl (hK.nest 8 rfl) (hts (.initialized RX4) (by decide +kernel)) (by decide +kernel) ⟨Nat.le_of_ble_eq_true rfl, Nat.le_of_ble_eq_true rfl⟩) (hts (.static yX4_trackOf) (by decide +kernel)) hK va_P0 rfl hl.1 rfl (Nat.le_of_ble_eq_true rfl) dX0_ticksTo_2 ⟨Nat.zero_le _, Nat.zero_le _⟩ ?_
  refine rdV (As := [.int (s_X4_trackOf p1)]) (rest := []) (c_X0_ticksToTrack l G α σ (s_X4_trackOf p1)) hF (cwV 1 hts gX0_ticksTo_X0_ticksToTrack rfl rfl rfl (by decide +kernel) ⟨Nat.le_of_ble_eq_true rfl, Nat.le_of_ble_eq_true rfl⟩) (rcv_D hK hP) hK hP rfl hl.1 rfl (Nat.le_of_ble_eq_true rfl) dX0_ticksTo_5 ⟨Nat.zero_le _, Nat.zero_le _⟩ ?_
  refine lv_istore_n (lv' := [(2, .int (s_X0_ticksToTrack σ (s_X4_trackOf p1))), (0, .ref (α 0)), (1, .int p1)]) hx hb dX0_ticksTo_8 rfl hl (by decide) rfl (fun ls hl => ?_)
  refine lv_iload_n hx hb dX0_ticksTo_9 rfl (lv_at hl 2 rfl) ?_
  refine lv_aload_n hx hb dX0_ticksTo_10 rfl (lv_at hl 1 rfl) ?_
  refine get_D_ticks hx hb hts hinX0 hown hK hP (hts (.fieldLink RX0 37 "GrooveTurns$Disc" "ticks" "I") (by decide +kernel)) dX0_ticksTo_11 ?_
  refine lv_iload_n hx hb dX0_ticksTo_14 rfl (lv_at hl 0 rfl) ?_
  refine lv_iadd hx hb dX0_ticksTo_15 ?_
  refine lv_isub hx hb dX0_ticksTo_16 ?_
  refine lv_bipush (v := 12) hx hb dX0_ticksTo_17 (by decide) ?_
  refine rdS (As := [.int (p1 - ((d_tk σ) + (s_X0_ticksToTrack σ (s_X4_trackOf p1)))), .int 12]) (rest := []) (c_J9_floorMod l G (p1 - ((d_tk σ) + (s_X0_ticksToTrack σ (s_X4_trackOf p1))))) hF (va_cwS 2 hts gX0_ticksTo_J9_floorMod_7cf53 rfl rfl rfl (by decide +kernel) ⟨Nat.le_of_ble_eq_true rfl, Nat.le_of_ble_eq_true rfl⟩) hK va_P0 rfl hl.1 rfl (Nat.le_of_ble_eq_true rfl) dX0_ticksTo_19 ⟨Nat.zero_le _, Nat.zero_le _⟩ ?_
  refine lv_istore_n (lv' := [(3, .int (s_J9_floorMod (p1 - ((d_tk σ) + (s_X0_ticksToTrack σ (s_X4_trackOf p1)))))), (2, .int (s_X0_ticksToTrack σ (s_X4_trackOf p1))), (0, .ref (α 0)), (1, .int p1)]) hx hb dX0_ticksTo_22 rfl hl (by decide) rfl (fun ls hl => ?_)
  refine lv_iload_n hx hb dX0_ticksTo_23 rfl (lv_at hl 1 rfl) ?_
  refine lv_iload_n hx hb dX0_ticksTo_24 rfl (lv_at hl 0 rfl) ?_
  refine lv_iadd hx hb dX0_ticksTo_25 ?_
  refine lv_iconst (v := 1) hx hb dX0_ticksTo_26 (by decide) ?_
  refine lv_iadd hx hb dX0_ticksTo_27 ?_
  rw [show s_X0_ticksTo σ p1 = (((s_X0_ticksToTrack σ (s_X4_trackOf p1)) + (s_J9_floorMod (p1 - ((d_tk σ) + (s_X0_ticksToTrack σ (s_X4_trackOf p1)))))) + 1) from by rw [s_X0_ticksTo]]
  exact W.iret hx hb hr (fun t ht hW => ⟨rfl, ht⟩) (fun _ h => nomatch h) dX0_ticksTo_28
def s_X0_isOnTracksInUse (σ : DS) (p1 : Int32) : Int32 := (if (s_X4_isAddress p1) = 0 then 0 else (if (s_X4_at 192 (d_se σ) p1) = p1 then 1 else 0))
theorem b_X0_isOnTracksInUse (σ : DS) (p1 : Int32) : (s_X0_isOnTracksInUse σ p1) = 0 ∨ (s_X0_isOnTracksInUse σ p1) = 1 := by
  unfold s_X0_isOnTracksInUse
  by_cases c_1 : (s_X4_isAddress p1) = 0
  · skip
    rw [if_pos c_1]
    exact Or.inl rfl
  · skip
    by_cases c_2 : (s_X4_at 192 (d_se σ) p1) = p1
    · skip
      rw [if_neg c_1, if_pos c_2]
      exact Or.inr rfl
    · skip
      rw [if_neg c_1, if_neg c_2]
      exact Or.inl rfl
set_option maxHeartbeats 4000000 in
set_option maxRecDepth 100000 in
theorem c_X0_isOnTracksInUse (l : Launch) (G : GG) (α : Nat → Nat) (σ : DS) (p1 : Int32) : Rd G l yX0_isOnTracksInUse wsX0_isOnTracksInUse 1 21 [.ref (α 0), .int p1] (dW G.2.1 α σ) (.int (s_X0_isOnTracksInUse σ p1)) := by
  refine Met.ofW (cc := cX0_isOnTracksInUse) (maxL := 2) (ret := (some .boolean)) (by decide) rfl ?_
  intro p e s m args below meth c s₁ B hml hv
  obtain ⟨rfl, hP, hK⟩ := hv
  have C0 : cA p s m meth c ([.ref (α 0), .int p1] : List Value).toArray cX0_isOnTracksInUse 2 (some .boolean) wsX0_isOnTracksInUse RX0 := ⟨B.exec, B.bytes, B.returns, hml, findClass_of_methodNamed B.named, atoms_spec (ws := wsX0_isOnTracksInUse) B.pre, B.notSynchronized⟩
  obtain ⟨hx, hb, hr, hml, hown, hts, hlocks⟩ := id C0
  have hF : CallFix p m c cX0_isOnTracksInUse 2 s _ wsX0_isOnTracksInUse RX0 := ⟨hx, hb, hml, hown, hts⟩
  have hinX0 : ∀ w ∈ wsX00, w ∈ wsX0_isOnTracksInUse := by decide +kernel
  have hl := lv_entry ([.ref (α 0), .int p1]) (n := 2) (Nat.le_of_ble_eq_true rfl)
  rw [lg_entry_eq]
  generalize (lg_sl ([.ref (α 0), .int p1]) ++ List.replicate (2 - (lg_sl ([.ref (α 0), .int p1])).length) Slot.unset).toArray = ls at hl ⊢
  have hl : lv_has ls 2 [(0, .ref (α 0)), (1, .int p1)] := hl
  refine lv_iload_n hx hb dX0_isOnTracksInUse_0 rfl (lv_at hl 1 rfl) ?_
  refine rdN (As := [.int p1]) (rest := []) (c_X4_isAddress l G p1) hF (va_cnB (host := RX4) 1 hts gX0_isOnTracksInUse_X4_isAddress_n125 rfl rfl rfl (hK.nest 4 rfl) (hts (.initialized RX4) (by decide +kernel)) (by decide +kernel) ⟨Nat.le_of_ble_eq_true rfl, Nat.le_of_ble_eq_true rfl⟩) (hts (.static yX4_isAddress) (by decide +kernel)) hK va_P0 rfl hl.1 rfl (Nat.le_of_ble_eq_true rfl) dX0_isOnTracksInUse_1 ⟨Nat.zero_le _, Nat.zero_le _⟩ ?_
  refine lv_if_eq (tgt := 23) hx hb dX0_isOnTracksInUse_4 (by decide) (fun (c_1 : (s_X4_isAddress p1) = 0) => ?_) (fun (c_1 : ¬ (s_X4_isAddress p1) = 0) => ?_)
  · skip
    refine lv_iconst (v := 0) hx hb dX0_isOnTracksInUse_23 (by decide) ?_
    rw [show s_X0_isOnTracksInUse σ p1 = 0 from by rw [s_X0_isOnTracksInUse]; rw [if_pos c_1]]
    exact W.zret (ty := .boolean) hx hb hr rfl (fun t ht hW => ⟨rfl, ht⟩) (fun _ h => nomatch h) dX0_isOnTracksInUse_24
  · skip
    refine lv_aload_n hx hb dX0_isOnTracksInUse_7 rfl (lv_at hl 0 rfl) ?_
    refine get_D_sectors hx hb hts hinX0 hown hK hP (hts (.fieldLink RX0 27 "GrooveTurns$Disc" "sectors" "[I") (by decide +kernel)) dX0_isOnTracksInUse_8 ?_
    refine lv_iload_n hx hb dX0_isOnTracksInUse_11 rfl (lv_at hl 1 rfl) ?_
    refine rdN (As := [.ref (α 5), .int p1]) (rest := []) (c_X4_at l G (α 5) 192 (d_se σ) p1 (by decide)) hF (va_cnB (host := RX4) 2 hts gX0_isOnTracksInUse_X4_at_n53 rfl rfl rfl (hK.nest 6 rfl) (hts (.initialized RX4) (by decide +kernel)) (by decide +kernel) ⟨Nat.le_of_ble_eq_true rfl, Nat.le_of_ble_eq_true rfl⟩) (hts (.static yX4_at) (by decide +kernel)) hK (cell_D_se hP) rfl hl.1 rfl (Nat.le_of_ble_eq_true rfl) dX0_isOnTracksInUse_12 ⟨Nat.zero_le _, Nat.zero_le _⟩ ?_
    refine lv_iload_n hx hb dX0_isOnTracksInUse_15 rfl (lv_at hl 1 rfl) ?_
    refine lv_icmp_ne (tgt := 23) hx hb dX0_isOnTracksInUse_16 (by decide) (fun (c_2 : ¬ (s_X4_at 192 (d_se σ) p1) = p1) => ?_) (fun (c_2 : (s_X4_at 192 (d_se σ) p1) = p1) => ?_)
    · skip
      refine lv_iconst (v := 0) hx hb dX0_isOnTracksInUse_23 (by decide) ?_
      rw [show s_X0_isOnTracksInUse σ p1 = 0 from by rw [s_X0_isOnTracksInUse]; rw [if_neg c_1, if_neg c_2]]
      exact W.zret (ty := .boolean) hx hb hr rfl (fun t ht hW => ⟨rfl, ht⟩) (fun _ h => nomatch h) dX0_isOnTracksInUse_24
    · skip
      refine lv_iconst (v := 1) hx hb dX0_isOnTracksInUse_19 (by decide) ?_
      refine lv_goto (tgt := 24) hx hb dX0_isOnTracksInUse_20 (by decide) ?_
      rw [show s_X0_isOnTracksInUse σ p1 = 1 from by rw [s_X0_isOnTracksInUse]; rw [if_neg c_1, if_pos c_2]]
      exact W.zret (ty := .boolean) hx hb hr rfl (fun t ht hW => ⟨rfl, ht⟩) (fun _ h => nomatch h) dX0_isOnTracksInUse_24
def s_X0_pass (σ : DS) (p1 : Int32) (p2 : Int32) : DS := (d_hd' (d_tk' σ ((d_tk σ) + p1)) p2)
set_option maxHeartbeats 4000000 in
set_option maxRecDepth 100000 in
theorem c_X0_pass (l : Launch) (G : GG) (α : Nat → Nat) (σ : DS) (p1 : Int32) (p2 : Int32) : Wr G l yX0_pass wsX0_pass 0 0 [.ref (α 0), .int p1, .int p2] (dW G.2.1 α σ) none (dW G.2.1 α (s_X0_pass σ p1 p2)) := by
  refine Met.ofW (cc := cX0_pass) (maxL := 3) (ret := none) (by decide) rfl ?_
  intro p e s m args below meth c s₁ B hml hv
  obtain ⟨rfl, hP, hK, hD0⟩ := hv
  have C0 : cA p s m meth c ([.ref (α 0), .int p1, .int p2] : List Value).toArray cX0_pass 3 none wsX0_pass RX0 := ⟨B.exec, B.bytes, B.returns, hml, findClass_of_methodNamed B.named, atoms_spec (ws := wsX0_pass) B.pre, B.notSynchronized⟩
  obtain ⟨hx, hb, hr, hml, hown, hts, hlocks⟩ := id C0
  have hF : CallFix p m c cX0_pass 3 s _ wsX0_pass RX0 := ⟨hx, hb, hml, hown, hts⟩
  have hinX0 : ∀ w ∈ wsX00, w ∈ wsX0_pass := by decide +kernel
  obtain ⟨w0, hw0⟩ : ∃ w0 : va_W, w0 = (dW G.2.1 α σ) := ⟨_, rfl⟩
  have hD : va_D (inW w0) (dW G.2.1 α σ) := by rw [hw0]; exact inW.D hD0
  have hS : va_S (inW w0) s.heap s.heap [] := va_S.rf
  rw [show QW G (dW G.2.1 α σ) = QW G w0 from by rw [hw0], show inW (dW G.2.1 α σ) = inW w0 from by rw [hw0]]
  have hl := lv_entry ([.ref (α 0), .int p1, .int p2]) (n := 3) (Nat.le_of_ble_eq_true rfl)
  rw [lg_entry_eq]
  generalize (lg_sl ([.ref (α 0), .int p1, .int p2]) ++ List.replicate (3 - (lg_sl ([.ref (α 0), .int p1, .int p2])).length) Slot.unset).toArray = ls at hl ⊢
  have hl : lv_has ls 3 [(0, .ref (α 0)), (1, .int p1), (2, .int p2)] := hl
  refine lv_aload_n hx hb dX0_pass_0 rfl (lv_at hl 0 rfl) ?_
  refine lv_dup hx hb dX0_pass_1 rfl ?_
  refine get_D_ticks hx hb hts hinX0 hown hK hP (hts (.fieldLink RX0 37 "GrooveTurns$Disc" "ticks" "I") (by decide +kernel)) dX0_pass_2 ?_
  refine lv_iload_n hx hb dX0_pass_5 rfl (lv_at hl 1 rfl) ?_
  refine lv_iadd hx hb dX0_pass_6 ?_
  refine put_D_ticks hx hb hts hinX0 hown hK hP hD hS (hts (.fieldLink RX0 37 "GrooveTurns$Disc" "ticks" "I") (by decide +kernel)) dX0_pass_7 (fun H locs hP hD hS => ?_)
  have hP : va_P G.1 vwCl (dW G.2.1 α (d_tk' σ ((d_tk σ) + p1))) H := hP
  have hD : va_D (inW w0) (dW G.2.1 α (d_tk' σ ((d_tk σ) + p1))) := hD
  refine lv_aload_n hx hb dX0_pass_10 rfl (lv_at hl 0 rfl) ?_
  refine lv_iload_n hx hb dX0_pass_11 rfl (lv_at hl 2 rfl) ?_
  refine put_D_head hx hb hts hinX0 hown hK hP hD hS (hts (.fieldLink RX0 40 "GrooveTurns$Disc" "head" "I") (by decide +kernel)) dX0_pass_12 (fun H locs hP hD hS => ?_)
  have hP : va_P G.1 vwCl (dW G.2.1 α (d_hd' (d_tk' σ ((d_tk σ) + p1)) p2)) H := hP
  have hD : va_D (inW w0) (dW G.2.1 α (d_hd' (d_tk' σ ((d_tk σ) + p1)) p2)) := hD
  rw [show s_X0_pass σ p1 p2 = (d_hd' (d_tk' σ ((d_tk σ) + p1)) p2) from by rw [s_X0_pass]]
  exact W.vret hx hb hr (fun t ht hW => ⟨rfl, by rw [ht]; exact hP, hS.F ht⟩) hS.2.2 dX0_pass_15
def s_X0_exchangeSetting (σ : DS) (p1 : Int32) (p2 : Int32) : Int32 × DS := ((s_X4_at 5 (d_st σ) p1), (d_st' σ (s_X4_lay 5 (d_st σ) p1 p2)))
set_option maxHeartbeats 4000000 in
set_option maxRecDepth 100000 in
theorem c_X0_exchangeSetting (l : Launch) (G : GG) (α : Nat → Nat) (σ : DS) (p1 : Int32) (p2 : Int32) : Wr G l yX0_exchangeSetting wsX0_exchangeSetting 1 22 [.ref (α 0), .int p1, .int p2] (dW G.2.1 α σ) (some (.int (s_X0_exchangeSetting σ p1 p2).1)) (dW G.2.1 α ((s_X0_exchangeSetting σ p1 p2).2)) := by
  refine Met.ofW (cc := cX0_exchangeSetting) (maxL := 4) (ret := (some .int)) (by decide) rfl ?_
  intro p e s m args below meth c s₁ B hml hv
  obtain ⟨rfl, hP, hK, hD0⟩ := hv
  have C0 : cA p s m meth c ([.ref (α 0), .int p1, .int p2] : List Value).toArray cX0_exchangeSetting 4 (some .int) wsX0_exchangeSetting RX0 := ⟨B.exec, B.bytes, B.returns, hml, findClass_of_methodNamed B.named, atoms_spec (ws := wsX0_exchangeSetting) B.pre, B.notSynchronized⟩
  obtain ⟨hx, hb, hr, hml, hown, hts, hlocks⟩ := id C0
  have hF : CallFix p m c cX0_exchangeSetting 4 s _ wsX0_exchangeSetting RX0 := ⟨hx, hb, hml, hown, hts⟩
  have hinX0 : ∀ w ∈ wsX00, w ∈ wsX0_exchangeSetting := by decide +kernel
  obtain ⟨w0, hw0⟩ : ∃ w0 : va_W, w0 = (dW G.2.1 α σ) := ⟨_, rfl⟩
  have hD : va_D (inW w0) (dW G.2.1 α σ) := by rw [hw0]; exact inW.D hD0
  have hS : va_S (inW w0) s.heap s.heap [] := va_S.rf
  rw [show QW G (dW G.2.1 α σ) = QW G w0 from by rw [hw0], show inW (dW G.2.1 α σ) = inW w0 from by rw [hw0]]
  have hl := lv_entry ([.ref (α 0), .int p1, .int p2]) (n := 4) (Nat.le_of_ble_eq_true rfl)
  rw [lg_entry_eq]
  generalize (lg_sl ([.ref (α 0), .int p1, .int p2]) ++ List.replicate (4 - (lg_sl ([.ref (α 0), .int p1, .int p2])).length) Slot.unset).toArray = ls at hl ⊢
  have hl : lv_has ls 4 [(0, .ref (α 0)), (1, .int p1), (2, .int p2)] := hl
  refine lv_aload_n hx hb dX0_exchangeSetting_0 rfl (lv_at hl 0 rfl) ?_
  refine get_D_settings hx hb hts hinX0 hown hK hP (hts (.fieldLink RX0 13 "GrooveTurns$Disc" "settings" "[I") (by decide +kernel)) dX0_exchangeSetting_1 ?_
  refine lv_iload_n hx hb dX0_exchangeSetting_4 rfl (lv_at hl 1 rfl) ?_
  refine rdN (As := [.ref (α 1), .int p1]) (rest := []) (c_X4_at l G (α 1) 5 (d_st σ) p1 (by decide)) hF (va_cnB (host := RX4) 2 hts gX0_exchangeSetting_X4_at_n53 rfl rfl rfl (hK.nest 6 rfl) (hts (.initialized RX4) (by decide +kernel)) (by decide +kernel) ⟨Nat.le_of_ble_eq_true rfl, Nat.le_of_ble_eq_true rfl⟩) (hts (.static yX4_at) (by decide +kernel)) hK (cell_D_st hP) rfl hl.1 rfl (Nat.le_of_ble_eq_true rfl) dX0_exchangeSetting_5 ⟨Nat.zero_le _, Nat.zero_le _⟩ ?_
  refine lv_istore_n (lv' := [(3, .int (s_X4_at 5 (d_st σ) p1)), (0, .ref (α 0)), (1, .int p1), (2, .int p2)]) hx hb dX0_exchangeSetting_8 rfl hl (by decide) rfl (fun ls hl => ?_)
  refine lv_aload_n hx hb dX0_exchangeSetting_9 rfl (lv_at hl 1 rfl) ?_
  refine get_D_settings hx hb hts hinX0 hown hK hP (hts (.fieldLink RX0 13 "GrooveTurns$Disc" "settings" "[I") (by decide +kernel)) dX0_exchangeSetting_10 ?_
  refine lv_iload_n hx hb dX0_exchangeSetting_13 rfl (lv_at hl 2 rfl) ?_
  refine lv_iload_n hx hb dX0_exchangeSetting_14 rfl (lv_at hl 3 rfl) ?_
  refine wrN (As := [.ref (α 1), .int p1, .int p2]) (rest := []) (c_X4_lay l G (α 1) 5 (d_st σ) p1 p2 (by decide)) hF (va_cnB (host := RX4) 3 hts gX0_exchangeSetting_X4_lay_n57 rfl rfl rfl (hK.nest 7 rfl) (hts (.initialized RX4) (by decide +kernel)) (by decide +kernel) ⟨Nat.le_of_ble_eq_true rfl, Nat.le_of_ble_eq_true rfl⟩) (hts (.static yX4_lay) (by decide +kernel)) hK hP hD hS [1] (pl_D_st _ _ _) (pf_D_st _ _ _) rfl (by decide) rfl hl.1 rfl (Nat.le_of_ble_eq_true rfl) dX0_exchangeSetting_15 ⟨Nat.zero_le _, Nat.zero_le _⟩ (fun H locs hP hD hS => ?_)
  rw [pset_D_st] at hP hD
  have hP : va_P G.1 vwCl (dW G.2.1 α (d_st' σ (s_X4_lay 5 (d_st σ) p1 p2))) H := hP
  have hD : va_D (inW w0) (dW G.2.1 α (d_st' σ (s_X4_lay 5 (d_st σ) p1 p2))) := hD
  refine lv_iload_n hx hb dX0_exchangeSetting_18 rfl (lv_at hl 0 rfl) ?_
  have E9 : s_X0_exchangeSetting σ p1 p2 = ((s_X4_at 5 (d_st σ) p1), (d_st' σ (s_X4_lay 5 (d_st σ) p1 p2))) := by rw [s_X0_exchangeSetting]
  rw [pr1 E9, pr2 E9]
  exact W.iret hx hb hr (fun t ht hW => ⟨rfl, by rw [ht]; exact hP, hS.F ht⟩) hS.2.2 dX0_exchangeSetting_19
def t1_X0_blurBy (σ : DS) (p1 : Int32) (p2 : Int32) : DS := (d_bl' σ (s_X4_lay 204 (d_bl σ) p1 (jmin 99 ((s_X0_blurOf σ p1) + p2))))
def s_X0_blurBy (σ : DS) (p1 : Int32) (p2 : Int32) : DS := (if (s_X0_isOnTracksInUse σ p1) = 0 then σ else (if (s_X0_holdsNumber σ p1) = 0 then σ else (t1_X0_blurBy σ p1 p2)))
set_option maxHeartbeats 4000000 in
set_option maxRecDepth 100000 in
theorem c_X0_blurBy (l : Launch) (G : GG) (α : Nat → Nat) (σ : DS) (p1 : Int32) (p2 : Int32) : Wr G l yX0_blurBy wsX0_blurBy 2 42 [.ref (α 0), .int p1, .int p2] (dW G.2.1 α σ) none (dW G.2.1 α (s_X0_blurBy σ p1 p2)) := by
  refine Met.ofW (cc := cX0_blurBy) (maxL := 3) (ret := none) (by decide) rfl ?_
  intro p e s m args below meth c s₁ B hml hv
  obtain ⟨rfl, hP, hK, hD0⟩ := hv
  have C0 : cA p s m meth c ([.ref (α 0), .int p1, .int p2] : List Value).toArray cX0_blurBy 3 none wsX0_blurBy RX0 := ⟨B.exec, B.bytes, B.returns, hml, findClass_of_methodNamed B.named, atoms_spec (ws := wsX0_blurBy) B.pre, B.notSynchronized⟩
  obtain ⟨hx, hb, hr, hml, hown, hts, hlocks⟩ := id C0
  have hF : CallFix p m c cX0_blurBy 3 s _ wsX0_blurBy RX0 := ⟨hx, hb, hml, hown, hts⟩
  have hinX0 : ∀ w ∈ wsX00, w ∈ wsX0_blurBy := by decide +kernel
  obtain ⟨w0, hw0⟩ : ∃ w0 : va_W, w0 = (dW G.2.1 α σ) := ⟨_, rfl⟩
  have hD : va_D (inW w0) (dW G.2.1 α σ) := by rw [hw0]; exact inW.D hD0
  have hS : va_S (inW w0) s.heap s.heap [] := va_S.rf
  rw [show QW G (dW G.2.1 α σ) = QW G w0 from by rw [hw0], show inW (dW G.2.1 α σ) = inW w0 from by rw [hw0]]
  have hl := lv_entry ([.ref (α 0), .int p1, .int p2]) (n := 3) (Nat.le_of_ble_eq_true rfl)
  rw [lg_entry_eq]
  generalize (lg_sl ([.ref (α 0), .int p1, .int p2]) ++ List.replicate (3 - (lg_sl ([.ref (α 0), .int p1, .int p2])).length) Slot.unset).toArray = ls at hl ⊢
  have hl : lv_has ls 3 [(0, .ref (α 0)), (1, .int p1), (2, .int p2)] := hl
  refine lv_aload_n hx hb dX0_blurBy_0 rfl (lv_at hl 0 rfl) ?_
  refine lv_iload_n hx hb dX0_blurBy_1 rfl (lv_at hl 1 rfl) ?_
  refine rdV (As := [.int p1]) (rest := []) (c_X0_isOnTracksInUse l G α σ p1) hF (cwV 1 hts gX0_blurBy_X0_isOnTracksInUse rfl rfl rfl (by decide +kernel) ⟨Nat.le_of_ble_eq_true rfl, Nat.le_of_ble_eq_true rfl⟩) (rcv_D hK hP) hK hP rfl hl.1 rfl (Nat.le_of_ble_eq_true rfl) dX0_blurBy_2 ⟨Nat.zero_le _, Nat.zero_le _⟩ ?_
  refine lv_if_eq (tgt := 36) hx hb dX0_blurBy_5 (by decide) (fun (c_1 : (s_X0_isOnTracksInUse σ p1) = 0) => ?_) (fun (c_1 : ¬ (s_X0_isOnTracksInUse σ p1) = 0) => ?_)
  · skip
    rw [show s_X0_blurBy σ p1 p2 = σ from by rw [s_X0_blurBy]; rw [if_pos c_1]]
    exact W.vret hx hb hr (fun t ht hW => ⟨rfl, by rw [ht]; exact hP, hS.F ht⟩) hS.2.2 dX0_blurBy_36
  · skip
    refine lv_aload_n hx hb dX0_blurBy_8 rfl (lv_at hl 0 rfl) ?_
    refine lv_iload_n hx hb dX0_blurBy_9 rfl (lv_at hl 1 rfl) ?_
    refine rdV (As := [.int p1]) (rest := []) (c_X0_holdsNumber l G α σ p1) hF (cwV 1 hts gX0_blurBy_X0_holdsNumber rfl rfl rfl (by decide +kernel) ⟨Nat.le_of_ble_eq_true rfl, Nat.le_of_ble_eq_true rfl⟩) (rcv_D hK hP) hK hP rfl hl.1 rfl (Nat.le_of_ble_eq_true rfl) dX0_blurBy_10 ⟨Nat.zero_le _, Nat.zero_le _⟩ ?_
    refine lv_if_eq (tgt := 36) hx hb dX0_blurBy_13 (by decide) (fun (c_2 : (s_X0_holdsNumber σ p1) = 0) => ?_) (fun (c_2 : ¬ (s_X0_holdsNumber σ p1) = 0) => ?_)
    · skip
      rw [show s_X0_blurBy σ p1 p2 = σ from by rw [s_X0_blurBy]; rw [if_neg c_1, if_pos c_2]]
      exact W.vret hx hb hr (fun t ht hW => ⟨rfl, by rw [ht]; exact hP, hS.F ht⟩) hS.2.2 dX0_blurBy_36
    · skip
      refine lv_aload_n hx hb dX0_blurBy_16 rfl (lv_at hl 0 rfl) ?_
      refine get_D_blurs hx hb hts hinX0 hown hK hP (hts (.fieldLink RX0 21 "GrooveTurns$Disc" "blurs" "[I") (by decide +kernel)) dX0_blurBy_17 ?_
      refine lv_iload_n hx hb dX0_blurBy_20 rfl (lv_at hl 1 rfl) ?_
      refine lv_bipush (v := 99) hx hb dX0_blurBy_21 (by decide) ?_
      refine lv_aload_n hx hb dX0_blurBy_23 rfl (lv_at hl 0 rfl) ?_
      refine lv_iload_n hx hb dX0_blurBy_24 rfl (lv_at hl 1 rfl) ?_
      refine rdV (As := [.int p1]) (rest := [.int 99, .int p1, .ref (α 3)]) (c_X0_blurOf l G α σ p1) hF (cwV 1 hts gX0_blurBy_X0_blurOf rfl rfl rfl (by decide +kernel) ⟨Nat.le_of_ble_eq_true rfl, Nat.le_of_ble_eq_true rfl⟩) (rcv_D hK hP) hK hP rfl hl.1 rfl (Nat.le_of_ble_eq_true rfl) dX0_blurBy_25 ⟨Nat.zero_le _, Nat.zero_le _⟩ ?_
      refine lv_iload_n hx hb dX0_blurBy_28 rfl (lv_at hl 2 rfl) ?_
      refine lv_iadd hx hb dX0_blurBy_29 ?_
      refine va_mmin hx hb (by rw [hml]; exact hl.1.symm) hown (hts (.methodLink RX0 119 Lib.Math.min.name) (by decide +kernel)) (hts (.static Lib.Math.min.name) (by decide +kernel)) (hts (.initialized "java/lang/Math") (by decide +kernel)) (hts (.code Lib.Math.min.name Lib.Math.min.code 2 (some .int)) (by decide +kernel)) (Nat.le_of_ble_eq_true rfl) (Nat.le_of_ble_eq_true rfl) (Nat.zero_le _) (Nat.zero_le _) dX0_blurBy_30 ?_
      refine wrN (As := [.ref (α 3), .int p1, .int (jmin 99 ((s_X0_blurOf σ p1) + p2))]) (rest := []) (c_X4_lay l G (α 3) 204 (d_bl σ) p1 (jmin 99 ((s_X0_blurOf σ p1) + p2)) (by decide)) hF (va_cnB (host := RX4) 3 hts gX0_blurBy_X4_lay_n57 rfl rfl rfl (hK.nest 7 rfl) (hts (.initialized RX4) (by decide +kernel)) (by decide +kernel) ⟨Nat.le_of_ble_eq_true rfl, Nat.le_of_ble_eq_true rfl⟩) (hts (.static yX4_lay) (by decide +kernel)) hK hP hD hS [3] (pl_D_bl _ _ _) (pf_D_bl _ _ _) rfl (by decide) rfl hl.1 rfl (Nat.le_of_ble_eq_true rfl) dX0_blurBy_33 ⟨Nat.zero_le _, Nat.zero_le _⟩ (fun H locs hP hD hS => ?_)
      rw [pset_D_bl] at hP hD
      have hP : va_P G.1 vwCl (dW G.2.1 α (t1_X0_blurBy σ p1 p2)) H := hP
      have hD : va_D (inW w0) (dW G.2.1 α (t1_X0_blurBy σ p1 p2)) := hD
      rw [show s_X0_blurBy σ p1 p2 = (t1_X0_blurBy σ p1 p2) from by rw [s_X0_blurBy]; rw [if_neg c_1, if_neg c_2]]
      exact W.vret hx hb hr (fun t ht hW => ⟨rfl, by rw [ht]; exact hP, hS.F ht⟩) hS.2.2 dX0_blurBy_36
def t1_X0_fill (σ : DS) (p1 : Int32) (p2 : Int32) (p3 : Int32) : DS := (d_bl' (d_nu' σ (s_X4_lay 204 (d_nu σ) p1 p3)) (s_X4_lay 204 (d_bl σ) p1 0))
def t2_X0_fill (σ : DS) (p1 : Int32) (p2 : Int32) (p3 : Int32) : DS := (d_wr' (t1_X0_fill σ p1 p2 p3) (s_X4_lay 204 (d_wr (t1_X0_fill σ p1 p2 p3)) p1 ((s_X0_writingsOf (t1_X0_fill σ p1 p2 p3) p1) + 1)))
def t3_X0_fill (σ : DS) (p1 : Int32) (p2 : Int32) (p3 : Int32) : DS := (s_X0_blurBy (t2_X0_fill σ p1 p2 p3) (p1 - 12) (s_X0_settingOf (t2_X0_fill σ p1 p2 p3) 0))
def t4_X0_fill (σ : DS) (p1 : Int32) (p2 : Int32) (p3 : Int32) : DS := (s_X0_blurBy (t3_X0_fill σ p1 p2 p3) (p1 + 12) (s_X0_settingOf (t3_X0_fill σ p1 p2 p3) 0))
def t5_X0_fill (σ : DS) (p1 : Int32) (p2 : Int32) (p3 : Int32) : DS := (s_X0_blurBy (t4_X0_fill σ p1 p2 p3) (p1 - 24) (s_X0_settingOf (t4_X0_fill σ p1 p2 p3) 1))
def t6_X0_fill (σ : DS) (p1 : Int32) (p2 : Int32) (p3 : Int32) : DS := (s_X0_blurBy (t5_X0_fill σ p1 p2 p3) (p1 + 24) (s_X0_settingOf (t5_X0_fill σ p1 p2 p3) 1))
def t7_X0_fill (σ : DS) (p1 : Int32) (p2 : Int32) (p3 : Int32) : DS := (d_sp' (d_se' (d_nu' σ (s_X4_lay 204 (d_nu σ) p1 p3)) (s_X4_lay 192 (d_se σ) p2 p1)) ((d_sp σ) + 1))
def t8_X0_fill (σ : DS) (p1 : Int32) (p2 : Int32) (p3 : Int32) : DS := (d_bl' (t7_X0_fill σ p1 p2 p3) (s_X4_lay 204 (d_bl (t7_X0_fill σ p1 p2 p3)) p1 0))
def t9_X0_fill (σ : DS) (p1 : Int32) (p2 : Int32) (p3 : Int32) : DS := (d_wr' (t8_X0_fill σ p1 p2 p3) (s_X4_lay 204 (d_wr (t8_X0_fill σ p1 p2 p3)) p1 ((s_X0_writingsOf (t8_X0_fill σ p1 p2 p3) p1) + 1)))
def t10_X0_fill (σ : DS) (p1 : Int32) (p2 : Int32) (p3 : Int32) : DS := (s_X0_blurBy (t9_X0_fill σ p1 p2 p3) (p1 - 12) (s_X0_settingOf (t9_X0_fill σ p1 p2 p3) 0))
def t11_X0_fill (σ : DS) (p1 : Int32) (p2 : Int32) (p3 : Int32) : DS := (s_X0_blurBy (t10_X0_fill σ p1 p2 p3) (p1 + 12) (s_X0_settingOf (t10_X0_fill σ p1 p2 p3) 0))
def t12_X0_fill (σ : DS) (p1 : Int32) (p2 : Int32) (p3 : Int32) : DS := (s_X0_blurBy (t11_X0_fill σ p1 p2 p3) (p1 - 24) (s_X0_settingOf (t11_X0_fill σ p1 p2 p3) 1))
def t13_X0_fill (σ : DS) (p1 : Int32) (p2 : Int32) (p3 : Int32) : DS := (s_X0_blurBy (t12_X0_fill σ p1 p2 p3) (p1 + 24) (s_X0_settingOf (t12_X0_fill σ p1 p2 p3) 1))
def s_X0_fill (σ : DS) (p1 : Int32) (p2 : Int32) (p3 : Int32) : DS := (if p1 = (s_X0_sectorFor σ p2) then (if (s_X4_isSpare p1) = 0 then (t6_X0_fill σ p1 p2 p3) else (t2_X0_fill σ p1 p2 p3)) else (if (s_X4_isSpare p1) = 0 then (t13_X0_fill σ p1 p2 p3) else (t9_X0_fill σ p1 p2 p3)))
set_option maxHeartbeats 4000000 in
set_option maxRecDepth 100000 in
theorem c_X0_fill (l : Launch) (G : GG) (α : Nat → Nat) (σ : DS) (p1 : Int32) (p2 : Int32) (p3 : Int32) : Wr G l yX0_fill wsX0_fill 3 64 [.ref (α 0), .int p1, .int p2, .int p3] (dW G.2.1 α σ) none (dW G.2.1 α (s_X0_fill σ p1 p2 p3)) := by
  refine Met.ofW (cc := cX0_fill) (maxL := 4) (ret := none) (by decide) rfl ?_
  intro p e s m args below meth c s₁ B hml hv
  obtain ⟨rfl, hP, hK, hD0⟩ := hv
  have C0 : cA p s m meth c ([.ref (α 0), .int p1, .int p2, .int p3] : List Value).toArray cX0_fill 4 none wsX0_fill RX0 := ⟨B.exec, B.bytes, B.returns, hml, findClass_of_methodNamed B.named, atoms_spec (ws := wsX0_fill) B.pre, B.notSynchronized⟩
  obtain ⟨hx, hb, hr, hml, hown, hts, hlocks⟩ := id C0
  have hF : CallFix p m c cX0_fill 4 s _ wsX0_fill RX0 := ⟨hx, hb, hml, hown, hts⟩
  have hinX0 : ∀ w ∈ wsX00, w ∈ wsX0_fill := by decide +kernel
  obtain ⟨w0, hw0⟩ : ∃ w0 : va_W, w0 = (dW G.2.1 α σ) := ⟨_, rfl⟩
  have hD : va_D (inW w0) (dW G.2.1 α σ) := by rw [hw0]; exact inW.D hD0
  have hS : va_S (inW w0) s.heap s.heap [] := va_S.rf
  rw [show QW G (dW G.2.1 α σ) = QW G w0 from by rw [hw0], show inW (dW G.2.1 α σ) = inW w0 from by rw [hw0]]
  have hl := lv_entry ([.ref (α 0), .int p1, .int p2, .int p3]) (n := 4) (Nat.le_of_ble_eq_true rfl)
  rw [lg_entry_eq]
  generalize (lg_sl ([.ref (α 0), .int p1, .int p2, .int p3]) ++ List.replicate (4 - (lg_sl ([.ref (α 0), .int p1, .int p2, .int p3])).length) Slot.unset).toArray = ls at hl ⊢
  have hl : lv_has ls 4 [(0, .ref (α 0)), (1, .int p1), (2, .int p2), (3, .int p3)] := hl
  refine lv_iload_n hx hb dX0_fill_0 rfl (lv_at hl 1 rfl) ?_
  refine lv_aload_n hx hb dX0_fill_1 rfl (lv_at hl 0 rfl) ?_
  refine lv_iload_n hx hb dX0_fill_2 rfl (lv_at hl 2 rfl) ?_
  refine rdV (As := [.int p2]) (rest := [.int p1]) (c_X0_sectorFor l G α σ p2) hF (cwV 1 hts gX0_fill_X0_sectorFor rfl rfl rfl (by decide +kernel) ⟨Nat.le_of_ble_eq_true rfl, Nat.le_of_ble_eq_true rfl⟩) (rcv_D hK hP) hK hP rfl hl.1 rfl (Nat.le_of_ble_eq_true rfl) dX0_fill_3 ⟨Nat.zero_le _, Nat.zero_le _⟩ ?_
  refine lv_icmp_eq (tgt := 28) hx hb dX0_fill_6 (by decide) (fun (c_1 : p1 = (s_X0_sectorFor σ p2)) => ?_) (fun (c_1 : ¬ p1 = (s_X0_sectorFor σ p2)) => ?_)
  · skip
    refine lv_aload_n hx hb dX0_fill_28 rfl (lv_at hl 0 rfl) ?_
    refine get_D_numbers hx hb hts hinX0 hown hK hP (hts (.fieldLink RX0 18 "GrooveTurns$Disc" "numbers" "[I") (by decide +kernel)) dX0_fill_29 ?_
    refine lv_iload_n hx hb dX0_fill_32 rfl (lv_at hl 1 rfl) ?_
    refine lv_iload_n hx hb dX0_fill_33 rfl (lv_at hl 3 rfl) ?_
    refine wrN (As := [.ref (α 2), .int p1, .int p3]) (rest := []) (c_X4_lay l G (α 2) 204 (d_nu σ) p1 p3 (by decide)) hF (va_cnB (host := RX4) 3 hts gX0_fill_X4_lay_n57 rfl rfl rfl (hK.nest 7 rfl) (hts (.initialized RX4) (by decide +kernel)) (by decide +kernel) ⟨Nat.le_of_ble_eq_true rfl, Nat.le_of_ble_eq_true rfl⟩) (hts (.static yX4_lay) (by decide +kernel)) hK hP hD hS [2] (pl_D_nu _ _ _) (pf_D_nu _ _ _) rfl (by decide) rfl hl.1 rfl (Nat.le_of_ble_eq_true rfl) dX0_fill_34 ⟨Nat.zero_le _, Nat.zero_le _⟩ (fun H locs hP hD hS => ?_)
    rw [pset_D_nu] at hP hD
    have hP : va_P G.1 vwCl (dW G.2.1 α (d_nu' σ (s_X4_lay 204 (d_nu σ) p1 p3))) H := hP
    have hD : va_D (inW w0) (dW G.2.1 α (d_nu' σ (s_X4_lay 204 (d_nu σ) p1 p3))) := hD
    refine lv_aload_n hx hb dX0_fill_37 rfl (lv_at hl 0 rfl) ?_
    refine get_D_blurs hx hb hts hinX0 hown hK hP (hts (.fieldLink RX0 21 "GrooveTurns$Disc" "blurs" "[I") (by decide +kernel)) dX0_fill_38 ?_
    refine lv_iload_n hx hb dX0_fill_41 rfl (lv_at hl 1 rfl) ?_
    refine lv_iconst (v := 0) hx hb dX0_fill_42 (by decide) ?_
    refine wrN (As := [.ref (α 3), .int p1, .int 0]) (rest := []) (c_X4_lay l G (α 3) 204 (d_bl σ) p1 0 (by decide)) hF (va_cnB (host := RX4) 3 hts gX0_fill_X4_lay_n57 rfl rfl rfl (hK.nest 7 rfl) (hts (.initialized RX4) (by decide +kernel)) (by decide +kernel) ⟨Nat.le_of_ble_eq_true rfl, Nat.le_of_ble_eq_true rfl⟩) (hts (.static yX4_lay) (by decide +kernel)) hK hP hD hS [3] (pl_D_bl _ _ _) (pf_D_bl _ _ _) rfl (by decide) rfl hl.1 rfl (Nat.le_of_ble_eq_true rfl) dX0_fill_43 ⟨Nat.zero_le _, Nat.zero_le _⟩ (fun H locs hP hD hS => ?_)
    rw [pset_D_bl] at hP hD
    have hP : va_P G.1 vwCl (dW G.2.1 α (t1_X0_fill σ p1 p2 p3)) H := hP
    have hD : va_D (inW w0) (dW G.2.1 α (t1_X0_fill σ p1 p2 p3)) := hD
    refine lv_aload_n hx hb dX0_fill_46 rfl (lv_at hl 0 rfl) ?_
    refine get_D_writings hx hb hts hinX0 hown hK hP (hts (.fieldLink RX0 24 "GrooveTurns$Disc" "writings" "[I") (by decide +kernel)) dX0_fill_47 ?_
    refine lv_iload_n hx hb dX0_fill_50 rfl (lv_at hl 1 rfl) ?_
    refine lv_aload_n hx hb dX0_fill_51 rfl (lv_at hl 0 rfl) ?_
    refine lv_iload_n hx hb dX0_fill_52 rfl (lv_at hl 1 rfl) ?_
    refine rdV (As := [.int p1]) (rest := [.int p1, .ref (α 4)]) (c_X0_writingsOf l G α (t1_X0_fill σ p1 p2 p3) p1) hF (cwV 1 hts gX0_fill_X0_writingsOf rfl rfl rfl (by decide +kernel) ⟨Nat.le_of_ble_eq_true rfl, Nat.le_of_ble_eq_true rfl⟩) (rcv_D hK hP) hK hP rfl hl.1 rfl (Nat.le_of_ble_eq_true rfl) dX0_fill_53 ⟨Nat.zero_le _, Nat.zero_le _⟩ ?_
    refine lv_iconst (v := 1) hx hb dX0_fill_56 (by decide) ?_
    refine lv_iadd hx hb dX0_fill_57 ?_
    refine wrN (As := [.ref (α 4), .int p1, .int ((s_X0_writingsOf (t1_X0_fill σ p1 p2 p3) p1) + 1)]) (rest := []) (c_X4_lay l G (α 4) 204 (d_wr (t1_X0_fill σ p1 p2 p3)) p1 ((s_X0_writingsOf (t1_X0_fill σ p1 p2 p3) p1) + 1) (by decide)) hF (va_cnB (host := RX4) 3 hts gX0_fill_X4_lay_n57 rfl rfl rfl (hK.nest 7 rfl) (hts (.initialized RX4) (by decide +kernel)) (by decide +kernel) ⟨Nat.le_of_ble_eq_true rfl, Nat.le_of_ble_eq_true rfl⟩) (hts (.static yX4_lay) (by decide +kernel)) hK hP hD hS [4] (pl_D_wr _ _ _) (pf_D_wr _ _ _) rfl (by decide) rfl hl.1 rfl (Nat.le_of_ble_eq_true rfl) dX0_fill_58 ⟨Nat.zero_le _, Nat.zero_le _⟩ (fun H locs hP hD hS => ?_)
    rw [pset_D_wr] at hP hD
    have hP : va_P G.1 vwCl (dW G.2.1 α (t2_X0_fill σ p1 p2 p3)) H := hP
    have hD : va_D (inW w0) (dW G.2.1 α (t2_X0_fill σ p1 p2 p3)) := hD
    refine lv_iload_n hx hb dX0_fill_61 rfl (lv_at hl 1 rfl) ?_
    refine rdN (As := [.int p1]) (rest := []) (c_X4_isSpare l G p1) hF (va_cnB (host := RX4) 1 hts gX0_fill_X4_isSpare_n101 rfl rfl rfl (hK.nest 3 rfl) (hts (.initialized RX4) (by decide +kernel)) (by decide +kernel) ⟨Nat.le_of_ble_eq_true rfl, Nat.le_of_ble_eq_true rfl⟩) (hts (.static yX4_isSpare) (by decide +kernel)) hK va_P0 rfl hl.1 rfl (Nat.le_of_ble_eq_true rfl) dX0_fill_62 ⟨Nat.zero_le _, Nat.zero_le _⟩ ?_
    refine lv_if_ne (tgt := 120) hx hb dX0_fill_65 (by decide) (fun (c_2 : ¬ (s_X4_isSpare p1) = 0) => ?_) (fun (c_2 : (s_X4_isSpare p1) = 0) => ?_)
    · skip
      rw [show s_X0_fill σ p1 p2 p3 = (t2_X0_fill σ p1 p2 p3) from by rw [s_X0_fill]; rw [if_pos c_1, if_neg c_2]]
      exact W.vret hx hb hr (fun t ht hW => ⟨rfl, by rw [ht]; exact hP, hS.F ht⟩) hS.2.2 dX0_fill_120
    · skip
      refine lv_aload_n hx hb dX0_fill_68 rfl (lv_at hl 0 rfl) ?_
      refine lv_iload_n hx hb dX0_fill_69 rfl (lv_at hl 1 rfl) ?_
      refine lv_bipush (v := 12) hx hb dX0_fill_70 (by decide) ?_
      refine lv_isub hx hb dX0_fill_72 ?_
      refine lv_aload_n hx hb dX0_fill_73 rfl (lv_at hl 0 rfl) ?_
      refine lv_iconst (v := 0) hx hb dX0_fill_74 (by decide) ?_
      refine rdV (As := [.int 0]) (rest := [.int (p1 - 12), .ref (α 0)]) (c_X0_settingOf l G α (t2_X0_fill σ p1 p2 p3) 0) hF (cwV 1 hts gX0_fill_X0_settingOf rfl rfl rfl (by decide +kernel) ⟨Nat.le_of_ble_eq_true rfl, Nat.le_of_ble_eq_true rfl⟩) (rcv_D hK hP) hK hP rfl hl.1 rfl (Nat.le_of_ble_eq_true rfl) dX0_fill_75 ⟨Nat.zero_le _, Nat.zero_le _⟩ ?_
      refine wrV0 (As := [.int (p1 - 12), .int (s_X0_settingOf (t2_X0_fill σ p1 p2 p3) 0)]) (rest := []) (c_X0_blurBy l G α (t2_X0_fill σ p1 p2 p3) (p1 - 12) (s_X0_settingOf (t2_X0_fill σ p1 p2 p3) 0)) hF (cwV 2 hts gX0_fill_X0_blurBy rfl rfl rfl (by decide +kernel) ⟨Nat.le_of_ble_eq_true rfl, Nat.le_of_ble_eq_true rfl⟩) (rcv_D hK hP) hK hP hD hS (fst_D _ _) rfl hl.1 rfl (Nat.le_of_ble_eq_true rfl) dX0_fill_78 ⟨Nat.zero_le _, Nat.zero_le _⟩ (fun H locs hP hD hS => ?_)
      have hP : va_P G.1 vwCl (dW G.2.1 α (t3_X0_fill σ p1 p2 p3)) H := hP
      have hD : va_D (inW w0) (dW G.2.1 α (t3_X0_fill σ p1 p2 p3)) := hD
      refine lv_aload_n hx hb dX0_fill_81 rfl (lv_at hl 0 rfl) ?_
      refine lv_iload_n hx hb dX0_fill_82 rfl (lv_at hl 1 rfl) ?_
      refine lv_bipush (v := 12) hx hb dX0_fill_83 (by decide) ?_
      refine lv_iadd hx hb dX0_fill_85 ?_
      refine lv_aload_n hx hb dX0_fill_86 rfl (lv_at hl 0 rfl) ?_
      refine lv_iconst (v := 0) hx hb dX0_fill_87 (by decide) ?_
      refine rdV (As := [.int 0]) (rest := [.int (p1 + 12), .ref (α 0)]) (c_X0_settingOf l G α (t3_X0_fill σ p1 p2 p3) 0) hF (cwV 1 hts gX0_fill_X0_settingOf rfl rfl rfl (by decide +kernel) ⟨Nat.le_of_ble_eq_true rfl, Nat.le_of_ble_eq_true rfl⟩) (rcv_D hK hP) hK hP rfl hl.1 rfl (Nat.le_of_ble_eq_true rfl) dX0_fill_88 ⟨Nat.zero_le _, Nat.zero_le _⟩ ?_
      refine wrV0 (As := [.int (p1 + 12), .int (s_X0_settingOf (t3_X0_fill σ p1 p2 p3) 0)]) (rest := []) (c_X0_blurBy l G α (t3_X0_fill σ p1 p2 p3) (p1 + 12) (s_X0_settingOf (t3_X0_fill σ p1 p2 p3) 0)) hF (cwV 2 hts gX0_fill_X0_blurBy rfl rfl rfl (by decide +kernel) ⟨Nat.le_of_ble_eq_true rfl, Nat.le_of_ble_eq_true rfl⟩) (rcv_D hK hP) hK hP hD hS (fst_D _ _) rfl hl.1 rfl (Nat.le_of_ble_eq_true rfl) dX0_fill_91 ⟨Nat.zero_le _, Nat.zero_le _⟩ (fun H locs hP hD hS => ?_)
      have hP : va_P G.1 vwCl (dW G.2.1 α (t4_X0_fill σ p1 p2 p3)) H := hP
      have hD : va_D (inW w0) (dW G.2.1 α (t4_X0_fill σ p1 p2 p3)) := hD
      refine lv_aload_n hx hb dX0_fill_94 rfl (lv_at hl 0 rfl) ?_
      refine lv_iload_n hx hb dX0_fill_95 rfl (lv_at hl 1 rfl) ?_
      refine lv_bipush (v := 24) hx hb dX0_fill_96 (by decide) ?_
      refine lv_isub hx hb dX0_fill_98 ?_
      refine lv_aload_n hx hb dX0_fill_99 rfl (lv_at hl 0 rfl) ?_
      refine lv_iconst (v := 1) hx hb dX0_fill_100 (by decide) ?_
      refine rdV (As := [.int 1]) (rest := [.int (p1 - 24), .ref (α 0)]) (c_X0_settingOf l G α (t4_X0_fill σ p1 p2 p3) 1) hF (cwV 1 hts gX0_fill_X0_settingOf rfl rfl rfl (by decide +kernel) ⟨Nat.le_of_ble_eq_true rfl, Nat.le_of_ble_eq_true rfl⟩) (rcv_D hK hP) hK hP rfl hl.1 rfl (Nat.le_of_ble_eq_true rfl) dX0_fill_101 ⟨Nat.zero_le _, Nat.zero_le _⟩ ?_
      refine wrV0 (As := [.int (p1 - 24), .int (s_X0_settingOf (t4_X0_fill σ p1 p2 p3) 1)]) (rest := []) (c_X0_blurBy l G α (t4_X0_fill σ p1 p2 p3) (p1 - 24) (s_X0_settingOf (t4_X0_fill σ p1 p2 p3) 1)) hF (cwV 2 hts gX0_fill_X0_blurBy rfl rfl rfl (by decide +kernel) ⟨Nat.le_of_ble_eq_true rfl, Nat.le_of_ble_eq_true rfl⟩) (rcv_D hK hP) hK hP hD hS (fst_D _ _) rfl hl.1 rfl (Nat.le_of_ble_eq_true rfl) dX0_fill_104 ⟨Nat.zero_le _, Nat.zero_le _⟩ (fun H locs hP hD hS => ?_)
      have hP : va_P G.1 vwCl (dW G.2.1 α (t5_X0_fill σ p1 p2 p3)) H := hP
      have hD : va_D (inW w0) (dW G.2.1 α (t5_X0_fill σ p1 p2 p3)) := hD
      refine lv_aload_n hx hb dX0_fill_107 rfl (lv_at hl 0 rfl) ?_
      refine lv_iload_n hx hb dX0_fill_108 rfl (lv_at hl 1 rfl) ?_
      refine lv_bipush (v := 24) hx hb dX0_fill_109 (by decide) ?_
      refine lv_iadd hx hb dX0_fill_111 ?_
      refine lv_aload_n hx hb dX0_fill_112 rfl (lv_at hl 0 rfl) ?_
      refine lv_iconst (v := 1) hx hb dX0_fill_113 (by decide) ?_
      refine rdV (As := [.int 1]) (rest := [.int (p1 + 24), .ref (α 0)]) (c_X0_settingOf l G α (t5_X0_fill σ p1 p2 p3) 1) hF (cwV 1 hts gX0_fill_X0_settingOf rfl rfl rfl (by decide +kernel) ⟨Nat.le_of_ble_eq_true rfl, Nat.le_of_ble_eq_true rfl⟩) (rcv_D hK hP) hK hP rfl hl.1 rfl (Nat.le_of_ble_eq_true rfl) dX0_fill_114 ⟨Nat.zero_le _, Nat.zero_le _⟩ ?_
      refine wrV0 (As := [.int (p1 + 24), .int (s_X0_settingOf (t5_X0_fill σ p1 p2 p3) 1)]) (rest := []) (c_X0_blurBy l G α (t5_X0_fill σ p1 p2 p3) (p1 + 24) (s_X0_settingOf (t5_X0_fill σ p1 p2 p3) 1)) hF (cwV 2 hts gX0_fill_X0_blurBy rfl rfl rfl (by decide +kernel) ⟨Nat.le_of_ble_eq_true rfl, Nat.le_of_ble_eq_true rfl⟩) (rcv_D hK hP) hK hP hD hS (fst_D _ _) rfl hl.1 rfl (Nat.le_of_ble_eq_true rfl) dX0_fill_117 ⟨Nat.zero_le _, Nat.zero_le _⟩ (fun H locs hP hD hS => ?_)
      have hP : va_P G.1 vwCl (dW G.2.1 α (t6_X0_fill σ p1 p2 p3)) H := hP
      have hD : va_D (inW w0) (dW G.2.1 α (t6_X0_fill σ p1 p2 p3)) := hD
      rw [show s_X0_fill σ p1 p2 p3 = (t6_X0_fill σ p1 p2 p3) from by rw [s_X0_fill]; rw [if_pos c_1, if_pos c_2]]
      exact W.vret hx hb hr (fun t ht hW => ⟨rfl, by rw [ht]; exact hP, hS.F ht⟩) hS.2.2 dX0_fill_120
  · skip
    refine lv_aload_n hx hb dX0_fill_9 rfl (lv_at hl 0 rfl) ?_
    refine get_D_sectors hx hb hts hinX0 hown hK hP (hts (.fieldLink RX0 27 "GrooveTurns$Disc" "sectors" "[I") (by decide +kernel)) dX0_fill_10 ?_
    refine lv_iload_n hx hb dX0_fill_13 rfl (lv_at hl 2 rfl) ?_
    refine lv_iload_n hx hb dX0_fill_14 rfl (lv_at hl 1 rfl) ?_
    refine wrN (As := [.ref (α 5), .int p2, .int p1]) (rest := []) (c_X4_lay l G (α 5) 192 (d_se σ) p2 p1 (by decide)) hF (va_cnB (host := RX4) 3 hts gX0_fill_X4_lay_n57 rfl rfl rfl (hK.nest 7 rfl) (hts (.initialized RX4) (by decide +kernel)) (by decide +kernel) ⟨Nat.le_of_ble_eq_true rfl, Nat.le_of_ble_eq_true rfl⟩) (hts (.static yX4_lay) (by decide +kernel)) hK hP hD hS [5] (pl_D_se _ _ _) (pf_D_se _ _ _) rfl (by decide) rfl hl.1 rfl (Nat.le_of_ble_eq_true rfl) dX0_fill_15 ⟨Nat.zero_le _, Nat.zero_le _⟩ (fun H locs hP hD hS => ?_)
    rw [pset_D_se] at hP hD
    have hP : va_P G.1 vwCl (dW G.2.1 α (d_se' σ (s_X4_lay 192 (d_se σ) p2 p1))) H := hP
    have hD : va_D (inW w0) (dW G.2.1 α (d_se' σ (s_X4_lay 192 (d_se σ) p2 p1))) := hD
    refine lv_aload_n hx hb dX0_fill_18 rfl (lv_at hl 0 rfl) ?_
    refine lv_dup hx hb dX0_fill_19 rfl ?_
    refine get_D_sparesTaken hx hb hts hinX0 hown hK hP (hts (.fieldLink RX0 30 "GrooveTurns$Disc" "sparesTaken" "I") (by decide +kernel)) dX0_fill_20 ?_
    refine lv_iconst (v := 1) hx hb dX0_fill_23 (by decide) ?_
    refine lv_iadd hx hb dX0_fill_24 ?_
    refine put_D_sparesTaken hx hb hts hinX0 hown hK hP hD hS (hts (.fieldLink RX0 30 "GrooveTurns$Disc" "sparesTaken" "I") (by decide +kernel)) dX0_fill_25 (fun H locs hP hD hS => ?_)
    have hP : va_P G.1 vwCl (dW G.2.1 α (d_sp' (d_se' σ (s_X4_lay 192 (d_se σ) p2 p1)) ((d_sp σ) + 1))) H := hP
    have hD : va_D (inW w0) (dW G.2.1 α (d_sp' (d_se' σ (s_X4_lay 192 (d_se σ) p2 p1)) ((d_sp σ) + 1))) := hD
    refine lv_aload_n hx hb dX0_fill_28 rfl (lv_at hl 0 rfl) ?_
    refine get_D_numbers hx hb hts hinX0 hown hK hP (hts (.fieldLink RX0 18 "GrooveTurns$Disc" "numbers" "[I") (by decide +kernel)) dX0_fill_29 ?_
    refine lv_iload_n hx hb dX0_fill_32 rfl (lv_at hl 1 rfl) ?_
    refine lv_iload_n hx hb dX0_fill_33 rfl (lv_at hl 3 rfl) ?_
    refine wrN (As := [.ref (α 2), .int p1, .int p3]) (rest := []) (c_X4_lay l G (α 2) 204 (d_nu σ) p1 p3 (by decide)) hF (va_cnB (host := RX4) 3 hts gX0_fill_X4_lay_n57 rfl rfl rfl (hK.nest 7 rfl) (hts (.initialized RX4) (by decide +kernel)) (by decide +kernel) ⟨Nat.le_of_ble_eq_true rfl, Nat.le_of_ble_eq_true rfl⟩) (hts (.static yX4_lay) (by decide +kernel)) hK hP hD hS [2] (pl_D_nu _ _ _) (pf_D_nu _ _ _) rfl (by decide) rfl hl.1 rfl (Nat.le_of_ble_eq_true rfl) dX0_fill_34 ⟨Nat.zero_le _, Nat.zero_le _⟩ (fun H locs hP hD hS => ?_)
    rw [pset_D_nu] at hP hD
    have hP : va_P G.1 vwCl (dW G.2.1 α (t7_X0_fill σ p1 p2 p3)) H := hP
    have hD : va_D (inW w0) (dW G.2.1 α (t7_X0_fill σ p1 p2 p3)) := hD
    refine lv_aload_n hx hb dX0_fill_37 rfl (lv_at hl 0 rfl) ?_
    refine get_D_blurs hx hb hts hinX0 hown hK hP (hts (.fieldLink RX0 21 "GrooveTurns$Disc" "blurs" "[I") (by decide +kernel)) dX0_fill_38 ?_
    refine lv_iload_n hx hb dX0_fill_41 rfl (lv_at hl 1 rfl) ?_
    refine lv_iconst (v := 0) hx hb dX0_fill_42 (by decide) ?_
    refine wrN (As := [.ref (α 3), .int p1, .int 0]) (rest := []) (c_X4_lay l G (α 3) 204 (d_bl (t7_X0_fill σ p1 p2 p3)) p1 0 (by decide)) hF (va_cnB (host := RX4) 3 hts gX0_fill_X4_lay_n57 rfl rfl rfl (hK.nest 7 rfl) (hts (.initialized RX4) (by decide +kernel)) (by decide +kernel) ⟨Nat.le_of_ble_eq_true rfl, Nat.le_of_ble_eq_true rfl⟩) (hts (.static yX4_lay) (by decide +kernel)) hK hP hD hS [3] (pl_D_bl _ _ _) (pf_D_bl _ _ _) rfl (by decide) rfl hl.1 rfl (Nat.le_of_ble_eq_true rfl) dX0_fill_43 ⟨Nat.zero_le _, Nat.zero_le _⟩ (fun H locs hP hD hS => ?_)
    rw [pset_D_bl] at hP hD
    have hP : va_P G.1 vwCl (dW G.2.1 α (t8_X0_fill σ p1 p2 p3)) H := hP
    have hD : va_D (inW w0) (dW G.2.1 α (t8_X0_fill σ p1 p2 p3)) := hD
    refine lv_aload_n hx hb dX0_fill_46 rfl (lv_at hl 0 rfl) ?_
    refine get_D_writings hx hb hts hinX0 hown hK hP (hts (.fieldLink RX0 24 "GrooveTurns$Disc" "writings" "[I") (by decide +kernel)) dX0_fill_47 ?_
    refine lv_iload_n hx hb dX0_fill_50 rfl (lv_at hl 1 rfl) ?_
    refine lv_aload_n hx hb dX0_fill_51 rfl (lv_at hl 0 rfl) ?_
    refine lv_iload_n hx hb dX0_fill_52 rfl (lv_at hl 1 rfl) ?_
    refine rdV (As := [.int p1]) (rest := [.int p1, .ref (α 4)]) (c_X0_writingsOf l G α (t8_X0_fill σ p1 p2 p3) p1) hF (cwV 1 hts gX0_fill_X0_writingsOf rfl rfl rfl (by decide +kernel) ⟨Nat.le_of_ble_eq_true rfl, Nat.le_of_ble_eq_true rfl⟩) (rcv_D hK hP) hK hP rfl hl.1 rfl (Nat.le_of_ble_eq_true rfl) dX0_fill_53 ⟨Nat.zero_le _, Nat.zero_le _⟩ ?_
    refine lv_iconst (v := 1) hx hb dX0_fill_56 (by decide) ?_
    refine lv_iadd hx hb dX0_fill_57 ?_
    refine wrN (As := [.ref (α 4), .int p1, .int ((s_X0_writingsOf (t8_X0_fill σ p1 p2 p3) p1) + 1)]) (rest := []) (c_X4_lay l G (α 4) 204 (d_wr (t8_X0_fill σ p1 p2 p3)) p1 ((s_X0_writingsOf (t8_X0_fill σ p1 p2 p3) p1) + 1) (by decide)) hF (va_cnB (host := RX4) 3 hts gX0_fill_X4_lay_n57 rfl rfl rfl (hK.nest 7 rfl) (hts (.initialized RX4) (by decide +kernel)) (by decide +kernel) ⟨Nat.le_of_ble_eq_true rfl, Nat.le_of_ble_eq_true rfl⟩) (hts (.static yX4_lay) (by decide +kernel)) hK hP hD hS [4] (pl_D_wr _ _ _) (pf_D_wr _ _ _) rfl (by decide) rfl hl.1 rfl (Nat.le_of_ble_eq_true rfl) dX0_fill_58 ⟨Nat.zero_le _, Nat.zero_le _⟩ (fun H locs hP hD hS => ?_)
    rw [pset_D_wr] at hP hD
    have hP : va_P G.1 vwCl (dW G.2.1 α (t9_X0_fill σ p1 p2 p3)) H := hP
    have hD : va_D (inW w0) (dW G.2.1 α (t9_X0_fill σ p1 p2 p3)) := hD
    refine lv_iload_n hx hb dX0_fill_61 rfl (lv_at hl 1 rfl) ?_
    refine rdN (As := [.int p1]) (rest := []) (c_X4_isSpare l G p1) hF (va_cnB (host := RX4) 1 hts gX0_fill_X4_isSpare_n101 rfl rfl rfl (hK.nest 3 rfl) (hts (.initialized RX4) (by decide +kernel)) (by decide +kernel) ⟨Nat.le_of_ble_eq_true rfl, Nat.le_of_ble_eq_true rfl⟩) (hts (.static yX4_isSpare) (by decide +kernel)) hK va_P0 rfl hl.1 rfl (Nat.le_of_ble_eq_true rfl) dX0_fill_62 ⟨Nat.zero_le _, Nat.zero_le _⟩ ?_
    refine lv_if_ne (tgt := 120) hx hb dX0_fill_65 (by decide) (fun (c_3 : ¬ (s_X4_isSpare p1) = 0) => ?_) (fun (c_3 : (s_X4_isSpare p1) = 0) => ?_)
    · skip
      rw [show s_X0_fill σ p1 p2 p3 = (t9_X0_fill σ p1 p2 p3) from by rw [s_X0_fill]; rw [if_neg c_1, if_neg c_3]]
      exact W.vret hx hb hr (fun t ht hW => ⟨rfl, by rw [ht]; exact hP, hS.F ht⟩) hS.2.2 dX0_fill_120
    · skip
      refine lv_aload_n hx hb dX0_fill_68 rfl (lv_at hl 0 rfl) ?_
      refine lv_iload_n hx hb dX0_fill_69 rfl (lv_at hl 1 rfl) ?_
      refine lv_bipush (v := 12) hx hb dX0_fill_70 (by decide) ?_
      refine lv_isub hx hb dX0_fill_72 ?_
      refine lv_aload_n hx hb dX0_fill_73 rfl (lv_at hl 0 rfl) ?_
      refine lv_iconst (v := 0) hx hb dX0_fill_74 (by decide) ?_
      refine rdV (As := [.int 0]) (rest := [.int (p1 - 12), .ref (α 0)]) (c_X0_settingOf l G α (t9_X0_fill σ p1 p2 p3) 0) hF (cwV 1 hts gX0_fill_X0_settingOf rfl rfl rfl (by decide +kernel) ⟨Nat.le_of_ble_eq_true rfl, Nat.le_of_ble_eq_true rfl⟩) (rcv_D hK hP) hK hP rfl hl.1 rfl (Nat.le_of_ble_eq_true rfl) dX0_fill_75 ⟨Nat.zero_le _, Nat.zero_le _⟩ ?_
      refine wrV0 (As := [.int (p1 - 12), .int (s_X0_settingOf (t9_X0_fill σ p1 p2 p3) 0)]) (rest := []) (c_X0_blurBy l G α (t9_X0_fill σ p1 p2 p3) (p1 - 12) (s_X0_settingOf (t9_X0_fill σ p1 p2 p3) 0)) hF (cwV 2 hts gX0_fill_X0_blurBy rfl rfl rfl (by decide +kernel) ⟨Nat.le_of_ble_eq_true rfl, Nat.le_of_ble_eq_true rfl⟩) (rcv_D hK hP) hK hP hD hS (fst_D _ _) rfl hl.1 rfl (Nat.le_of_ble_eq_true rfl) dX0_fill_78 ⟨Nat.zero_le _, Nat.zero_le _⟩ (fun H locs hP hD hS => ?_)
      have hP : va_P G.1 vwCl (dW G.2.1 α (t10_X0_fill σ p1 p2 p3)) H := hP
      have hD : va_D (inW w0) (dW G.2.1 α (t10_X0_fill σ p1 p2 p3)) := hD
      refine lv_aload_n hx hb dX0_fill_81 rfl (lv_at hl 0 rfl) ?_
      refine lv_iload_n hx hb dX0_fill_82 rfl (lv_at hl 1 rfl) ?_
      refine lv_bipush (v := 12) hx hb dX0_fill_83 (by decide) ?_
      refine lv_iadd hx hb dX0_fill_85 ?_
      refine lv_aload_n hx hb dX0_fill_86 rfl (lv_at hl 0 rfl) ?_
      refine lv_iconst (v := 0) hx hb dX0_fill_87 (by decide) ?_
      refine rdV (As := [.int 0]) (rest := [.int (p1 + 12), .ref (α 0)]) (c_X0_settingOf l G α (t10_X0_fill σ p1 p2 p3) 0) hF (cwV 1 hts gX0_fill_X0_settingOf rfl rfl rfl (by decide +kernel) ⟨Nat.le_of_ble_eq_true rfl, Nat.le_of_ble_eq_true rfl⟩) (rcv_D hK hP) hK hP rfl hl.1 rfl (Nat.le_of_ble_eq_true rfl) dX0_fill_88 ⟨Nat.zero_le _, Nat.zero_le _⟩ ?_
      refine wrV0 (As := [.int (p1 + 12), .int (s_X0_settingOf (t10_X0_fill σ p1 p2 p3) 0)]) (rest := []) (c_X0_blurBy l G α (t10_X0_fill σ p1 p2 p3) (p1 + 12) (s_X0_settingOf (t10_X0_fill σ p1 p2 p3) 0)) hF (cwV 2 hts gX0_fill_X0_blurBy rfl rfl rfl (by decide +kernel) ⟨Nat.le_of_ble_eq_true rfl, Nat.le_of_ble_eq_true rfl⟩) (rcv_D hK hP) hK hP hD hS (fst_D _ _) rfl hl.1 rfl (Nat.le_of_ble_eq_true rfl) dX0_fill_91 ⟨Nat.zero_le _, Nat.zero_le _⟩ (fun H locs hP hD hS => ?_)
      have hP : va_P G.1 vwCl (dW G.2.1 α (t11_X0_fill σ p1 p2 p3)) H := hP
      have hD : va_D (inW w0) (dW G.2.1 α (t11_X0_fill σ p1 p2 p3)) := hD
      refine lv_aload_n hx hb dX0_fill_94 rfl (lv_at hl 0 rfl) ?_
      refine lv_iload_n hx hb dX0_fill_95 rfl (lv_at hl 1 rfl) ?_
      refine lv_bipush (v := 24) hx hb dX0_fill_96 (by decide) ?_
      refine lv_isub hx hb dX0_fill_98 ?_
      refine lv_aload_n hx hb dX0_fill_99 rfl (lv_at hl 0 rfl) ?_
      refine lv_iconst (v := 1) hx hb dX0_fill_100 (by decide) ?_
      refine rdV (As := [.int 1]) (rest := [.int (p1 - 24), .ref (α 0)]) (c_X0_settingOf l G α (t11_X0_fill σ p1 p2 p3) 1) hF (cwV 1 hts gX0_fill_X0_settingOf rfl rfl rfl (by decide +kernel) ⟨Nat.le_of_ble_eq_true rfl, Nat.le_of_ble_eq_true rfl⟩) (rcv_D hK hP) hK hP rfl hl.1 rfl (Nat.le_of_ble_eq_true rfl) dX0_fill_101 ⟨Nat.zero_le _, Nat.zero_le _⟩ ?_
      refine wrV0 (As := [.int (p1 - 24), .int (s_X0_settingOf (t11_X0_fill σ p1 p2 p3) 1)]) (rest := []) (c_X0_blurBy l G α (t11_X0_fill σ p1 p2 p3) (p1 - 24) (s_X0_settingOf (t11_X0_fill σ p1 p2 p3) 1)) hF (cwV 2 hts gX0_fill_X0_blurBy rfl rfl rfl (by decide +kernel) ⟨Nat.le_of_ble_eq_true rfl, Nat.le_of_ble_eq_true rfl⟩) (rcv_D hK hP) hK hP hD hS (fst_D _ _) rfl hl.1 rfl (Nat.le_of_ble_eq_true rfl) dX0_fill_104 ⟨Nat.zero_le _, Nat.zero_le _⟩ (fun H locs hP hD hS => ?_)
      have hP : va_P G.1 vwCl (dW G.2.1 α (t12_X0_fill σ p1 p2 p3)) H := hP
      have hD : va_D (inW w0) (dW G.2.1 α (t12_X0_fill σ p1 p2 p3)) := hD
      refine lv_aload_n hx hb dX0_fill_107 rfl (lv_at hl 0 rfl) ?_
      refine lv_iload_n hx hb dX0_fill_108 rfl (lv_at hl 1 rfl) ?_
      refine lv_bipush (v := 24) hx hb dX0_fill_109 (by decide) ?_
      refine lv_iadd hx hb dX0_fill_111 ?_
      refine lv_aload_n hx hb dX0_fill_112 rfl (lv_at hl 0 rfl) ?_
      refine lv_iconst (v := 1) hx hb dX0_fill_113 (by decide) ?_
      refine rdV (As := [.int 1]) (rest := [.int (p1 + 24), .ref (α 0)]) (c_X0_settingOf l G α (t12_X0_fill σ p1 p2 p3) 1) hF (cwV 1 hts gX0_fill_X0_settingOf rfl rfl rfl (by decide +kernel) ⟨Nat.le_of_ble_eq_true rfl, Nat.le_of_ble_eq_true rfl⟩) (rcv_D hK hP) hK hP rfl hl.1 rfl (Nat.le_of_ble_eq_true rfl) dX0_fill_114 ⟨Nat.zero_le _, Nat.zero_le _⟩ ?_
      refine wrV0 (As := [.int (p1 + 24), .int (s_X0_settingOf (t12_X0_fill σ p1 p2 p3) 1)]) (rest := []) (c_X0_blurBy l G α (t12_X0_fill σ p1 p2 p3) (p1 + 24) (s_X0_settingOf (t12_X0_fill σ p1 p2 p3) 1)) hF (cwV 2 hts gX0_fill_X0_blurBy rfl rfl rfl (by decide +kernel) ⟨Nat.le_of_ble_eq_true rfl, Nat.le_of_ble_eq_true rfl⟩) (rcv_D hK hP) hK hP hD hS (fst_D _ _) rfl hl.1 rfl (Nat.le_of_ble_eq_true rfl) dX0_fill_117 ⟨Nat.zero_le _, Nat.zero_le _⟩ (fun H locs hP hD hS => ?_)
      have hP : va_P G.1 vwCl (dW G.2.1 α (t13_X0_fill σ p1 p2 p3)) H := hP
      have hD : va_D (inW w0) (dW G.2.1 α (t13_X0_fill σ p1 p2 p3)) := hD
      rw [show s_X0_fill σ p1 p2 p3 = (t13_X0_fill σ p1 p2 p3) from by rw [s_X0_fill]; rw [if_neg c_1, if_pos c_3]]
      exact W.vret hx hb hr (fun t ht hW => ⟨rfl, by rw [ht]; exact hP, hS.F ht⟩) hS.2.2 dX0_fill_120
def t1_X0_writeTo (σ : DS) (p1 : Int32) (p2 : Int32) : DS := (s_X0_pass (s_X0_fill σ (s_X0_sectorToWrite σ p1) p1 p2) (s_X0_ticksTo σ (s_X0_sectorToWrite σ p1)) (s_X4_trackOf (s_X0_sectorToWrite σ p1)))
def s_X0_writeTo (σ : DS) (p1 : Int32) (p2 : Int32) : Int32 × DS := (if (s_X0_hasTime σ (s_X0_ticksTo σ (s_X0_sectorToWrite σ p1))) = 0 then ((-4), σ) else ((s_X0_ticksTo σ (s_X0_sectorToWrite σ p1)), (t1_X0_writeTo σ p1 p2)))
set_option maxHeartbeats 4000000 in
set_option maxRecDepth 100000 in
theorem c_X0_writeTo (l : Launch) (G : GG) (α : Nat → Nat) (σ : DS) (p1 : Int32) (p2 : Int32) : Wr G l yX0_writeTo wsX0_writeTo 4 87 [.ref (α 0), .int p1, .int p2] (dW G.2.1 α σ) (some (.int (s_X0_writeTo σ p1 p2).1)) (dW G.2.1 α ((s_X0_writeTo σ p1 p2).2)) := by
  refine Met.ofW (cc := cX0_writeTo) (maxL := 5) (ret := (some .int)) (by decide) rfl ?_
  intro p e s m args below meth c s₁ B hml hv
  obtain ⟨rfl, hP, hK, hD0⟩ := hv
  have C0 : cA p s m meth c ([.ref (α 0), .int p1, .int p2] : List Value).toArray cX0_writeTo 5 (some .int) wsX0_writeTo RX0 := ⟨B.exec, B.bytes, B.returns, hml, findClass_of_methodNamed B.named, atoms_spec (ws := wsX0_writeTo) B.pre, B.notSynchronized⟩
  obtain ⟨hx, hb, hr, hml, hown, hts, hlocks⟩ := id C0
  have hF : CallFix p m c cX0_writeTo 5 s _ wsX0_writeTo RX0 := ⟨hx, hb, hml, hown, hts⟩
  obtain ⟨w0, hw0⟩ : ∃ w0 : va_W, w0 = (dW G.2.1 α σ) := ⟨_, rfl⟩
  have hD : va_D (inW w0) (dW G.2.1 α σ) := by rw [hw0]; exact inW.D hD0
  have hS : va_S (inW w0) s.heap s.heap [] := va_S.rf
  rw [show QW G (dW G.2.1 α σ) = QW G w0 from by rw [hw0], show inW (dW G.2.1 α σ) = inW w0 from by rw [hw0]]
  have hl := lv_entry ([.ref (α 0), .int p1, .int p2]) (n := 5) (Nat.le_of_ble_eq_true rfl)
  rw [lg_entry_eq]
  generalize (lg_sl ([.ref (α 0), .int p1, .int p2]) ++ List.replicate (5 - (lg_sl ([.ref (α 0), .int p1, .int p2])).length) Slot.unset).toArray = ls at hl ⊢
  have hl : lv_has ls 5 [(0, .ref (α 0)), (1, .int p1), (2, .int p2)] := hl
  refine lv_aload_n hx hb dX0_writeTo_0 rfl (lv_at hl 0 rfl) ?_
  refine lv_iload_n hx hb dX0_writeTo_1 rfl (lv_at hl 1 rfl) ?_
  refine rdV (As := [.int p1]) (rest := []) (c_X0_sectorToWrite l G α σ p1) hF (cwV 1 hts gX0_writeTo_X0_sectorToWrite rfl rfl rfl (by decide +kernel) ⟨Nat.le_of_ble_eq_true rfl, Nat.le_of_ble_eq_true rfl⟩) (rcv_D hK hP) hK hP rfl hl.1 rfl (Nat.le_of_ble_eq_true rfl) dX0_writeTo_2 ⟨Nat.zero_le _, Nat.zero_le _⟩ ?_
  refine lv_istore_n (lv' := [(3, .int (s_X0_sectorToWrite σ p1)), (0, .ref (α 0)), (1, .int p1), (2, .int p2)]) hx hb dX0_writeTo_5 rfl hl (by decide) rfl (fun ls hl => ?_)
  refine lv_aload_n hx hb dX0_writeTo_6 rfl (lv_at hl 1 rfl) ?_
  refine lv_iload_n hx hb dX0_writeTo_7 rfl (lv_at hl 0 rfl) ?_
  refine rdV (As := [.int (s_X0_sectorToWrite σ p1)]) (rest := []) (c_X0_ticksTo l G α σ (s_X0_sectorToWrite σ p1)) hF (cwV 1 hts gX0_writeTo_X0_ticksTo rfl rfl rfl (by decide +kernel) ⟨Nat.le_of_ble_eq_true rfl, Nat.le_of_ble_eq_true rfl⟩) (rcv_D hK hP) hK hP rfl hl.1 rfl (Nat.le_of_ble_eq_true rfl) dX0_writeTo_8 ⟨Nat.zero_le _, Nat.zero_le _⟩ ?_
  refine lv_istore (lv' := [(4, .int (s_X0_ticksTo σ (s_X0_sectorToWrite σ p1))), (3, .int (s_X0_sectorToWrite σ p1)), (0, .ref (α 0)), (1, .int p1), (2, .int p2)]) hx hb dX0_writeTo_11 hl (by decide) rfl (fun ls hl => ?_)
  refine lv_aload_n hx hb dX0_writeTo_13 rfl (lv_at hl 2 rfl) ?_
  refine lv_iload hx hb dX0_writeTo_14 (lv_at hl 0 rfl) ?_
  refine rdV (As := [.int (s_X0_ticksTo σ (s_X0_sectorToWrite σ p1))]) (rest := []) (c_X0_hasTime l G α σ (s_X0_ticksTo σ (s_X0_sectorToWrite σ p1))) hF (cwV 1 hts gX0_writeTo_X0_hasTime rfl rfl rfl (by decide +kernel) ⟨Nat.le_of_ble_eq_true rfl, Nat.le_of_ble_eq_true rfl⟩) (rcv_D hK hP) hK hP rfl hl.1 rfl (Nat.le_of_ble_eq_true rfl) dX0_writeTo_16 ⟨Nat.zero_le _, Nat.zero_le _⟩ ?_
  refine lv_if_ne (tgt := 25) hx hb dX0_writeTo_19 (by decide) (fun (c_1 : ¬ (s_X0_hasTime σ (s_X0_ticksTo σ (s_X0_sectorToWrite σ p1))) = 0) => ?_) (fun (c_1 : (s_X0_hasTime σ (s_X0_ticksTo σ (s_X0_sectorToWrite σ p1))) = 0) => ?_)
  · skip
    refine lv_aload_n hx hb dX0_writeTo_25 rfl (lv_at hl 2 rfl) ?_
    refine lv_iload_n hx hb dX0_writeTo_26 rfl (lv_at hl 1 rfl) ?_
    refine lv_iload_n hx hb dX0_writeTo_27 rfl (lv_at hl 3 rfl) ?_
    refine lv_iload_n hx hb dX0_writeTo_28 rfl (lv_at hl 4 rfl) ?_
    refine wrV0 (As := [.int (s_X0_sectorToWrite σ p1), .int p1, .int p2]) (rest := []) (c_X0_fill l G α σ (s_X0_sectorToWrite σ p1) p1 p2) hF (cwV 3 hts gX0_writeTo_X0_fill rfl rfl rfl (by decide +kernel) ⟨Nat.le_of_ble_eq_true rfl, Nat.le_of_ble_eq_true rfl⟩) (rcv_D hK hP) hK hP hD hS (fst_D _ _) rfl hl.1 rfl (Nat.le_of_ble_eq_true rfl) dX0_writeTo_29 ⟨Nat.zero_le _, Nat.zero_le _⟩ (fun H locs hP hD hS => ?_)
    have hP : va_P G.1 vwCl (dW G.2.1 α (s_X0_fill σ (s_X0_sectorToWrite σ p1) p1 p2)) H := hP
    have hD : va_D (inW w0) (dW G.2.1 α (s_X0_fill σ (s_X0_sectorToWrite σ p1) p1 p2)) := hD
    refine lv_aload_n hx hb dX0_writeTo_32 rfl (lv_at hl 2 rfl) ?_
    refine lv_iload hx hb dX0_writeTo_33 (lv_at hl 0 rfl) ?_
    refine lv_iload_n hx hb dX0_writeTo_35 rfl (lv_at hl 1 rfl) ?_
    refine rdN (As := [.int (s_X0_sectorToWrite σ p1)]) (rest := [.int (s_X0_ticksTo σ (s_X0_sectorToWrite σ p1)), .ref (α 0)]) (c_X4_trackOf l G (s_X0_sectorToWrite σ p1)) hF (va_cnB (host := RX4) 1 hts gX0_writeTo_X4_trackOf_n75 rfl rfl rfl (hK.nest 8 rfl) (hts (.initialized RX4) (by decide +kernel)) (by decide +kernel) ⟨Nat.le_of_ble_eq_true rfl, Nat.le_of_ble_eq_true rfl⟩) (hts (.static yX4_trackOf) (by decide +kernel)) hK va_P0 rfl hl.1 rfl (Nat.le_of_ble_eq_true rfl) dX0_writeTo_36 ⟨Nat.zero_le _, Nat.zero_le _⟩ ?_
    refine wrV0 (As := [.int (s_X0_ticksTo σ (s_X0_sectorToWrite σ p1)), .int (s_X4_trackOf (s_X0_sectorToWrite σ p1))]) (rest := []) (c_X0_pass l G α (s_X0_fill σ (s_X0_sectorToWrite σ p1) p1 p2) (s_X0_ticksTo σ (s_X0_sectorToWrite σ p1)) (s_X4_trackOf (s_X0_sectorToWrite σ p1))) hF (cwV 2 hts gX0_writeTo_X0_pass rfl rfl rfl (by decide +kernel) ⟨Nat.le_of_ble_eq_true rfl, Nat.le_of_ble_eq_true rfl⟩) (rcv_D hK hP) hK hP hD hS (fst_D _ _) rfl hl.1 rfl (Nat.le_of_ble_eq_true rfl) dX0_writeTo_39 ⟨Nat.zero_le _, Nat.zero_le _⟩ (fun H locs hP hD hS => ?_)
    have hP : va_P G.1 vwCl (dW G.2.1 α (t1_X0_writeTo σ p1 p2)) H := hP
    have hD : va_D (inW w0) (dW G.2.1 α (t1_X0_writeTo σ p1 p2)) := hD
    refine lv_iload hx hb dX0_writeTo_42 (lv_at hl 0 rfl) ?_
    have E9 : s_X0_writeTo σ p1 p2 = ((s_X0_ticksTo σ (s_X0_sectorToWrite σ p1)), (t1_X0_writeTo σ p1 p2)) := by rw [s_X0_writeTo]; rw [if_neg c_1]
    rw [pr1 E9, pr2 E9]
    exact W.iret hx hb hr (fun t ht hW => ⟨rfl, by rw [ht]; exact hP, hS.F ht⟩) hS.2.2 dX0_writeTo_44
  · skip
    refine lv_bipush (v := (-4)) hx hb dX0_writeTo_22 (by decide) ?_
    have E9 : s_X0_writeTo σ p1 p2 = ((-4), σ) := by rw [s_X0_writeTo]; rw [if_pos c_1]
    rw [pr1 E9, pr2 E9]
    exact W.iret hx hb hr (fun t ht hW => ⟨rfl, by rw [ht]; exact hP, hS.F ht⟩) hS.2.2 dX0_writeTo_24
def t1_X0_readFrom (σ : DS) (p1 : Int32) : DS := (s_X0_pass σ (s_X0_ticksTo σ (s_X0_sectorFor σ p1)) (s_X4_trackOf (s_X0_sectorFor σ p1)))
def s_X0_readFrom (σ : DS) (p1 : Int32) : Int32 × DS := (if (s_X0_isReadable σ (s_X0_sectorFor σ p1)) = 0 then ((-5), σ) else (if (s_X0_hasTime σ (s_X0_ticksTo σ (s_X0_sectorFor σ p1))) = 0 then ((-4), σ) else ((s_X0_numberIn (d_rd' (t1_X0_readFrom σ p1) ((d_rd (t1_X0_readFrom σ p1)) + 1)) (s_X0_sectorFor σ p1)), (d_rd' (t1_X0_readFrom σ p1) ((d_rd (t1_X0_readFrom σ p1)) + 1)))))
set_option maxHeartbeats 4000000 in
set_option maxRecDepth 100000 in
theorem c_X0_readFrom (l : Launch) (G : GG) (α : Nat → Nat) (σ : DS) (p1 : Int32) : Wr G l yX0_readFrom wsX0_readFrom 4 86 [.ref (α 0), .int p1] (dW G.2.1 α σ) (some (.int (s_X0_readFrom σ p1).1)) (dW G.2.1 α ((s_X0_readFrom σ p1).2)) := by
  refine Met.ofW (cc := cX0_readFrom) (maxL := 4) (ret := (some .int)) (by decide) rfl ?_
  intro p e s m args below meth c s₁ B hml hv
  obtain ⟨rfl, hP, hK, hD0⟩ := hv
  have C0 : cA p s m meth c ([.ref (α 0), .int p1] : List Value).toArray cX0_readFrom 4 (some .int) wsX0_readFrom RX0 := ⟨B.exec, B.bytes, B.returns, hml, findClass_of_methodNamed B.named, atoms_spec (ws := wsX0_readFrom) B.pre, B.notSynchronized⟩
  obtain ⟨hx, hb, hr, hml, hown, hts, hlocks⟩ := id C0
  have hF : CallFix p m c cX0_readFrom 4 s _ wsX0_readFrom RX0 := ⟨hx, hb, hml, hown, hts⟩
  have hinX0 : ∀ w ∈ wsX00, w ∈ wsX0_readFrom := by decide +kernel
  obtain ⟨w0, hw0⟩ : ∃ w0 : va_W, w0 = (dW G.2.1 α σ) := ⟨_, rfl⟩
  have hD : va_D (inW w0) (dW G.2.1 α σ) := by rw [hw0]; exact inW.D hD0
  have hS : va_S (inW w0) s.heap s.heap [] := va_S.rf
  rw [show QW G (dW G.2.1 α σ) = QW G w0 from by rw [hw0], show inW (dW G.2.1 α σ) = inW w0 from by rw [hw0]]
  have hl := lv_entry ([.ref (α 0), .int p1]) (n := 4) (Nat.le_of_ble_eq_true rfl)
  rw [lg_entry_eq]
  generalize (lg_sl ([.ref (α 0), .int p1]) ++ List.replicate (4 - (lg_sl ([.ref (α 0), .int p1])).length) Slot.unset).toArray = ls at hl ⊢
  have hl : lv_has ls 4 [(0, .ref (α 0)), (1, .int p1)] := hl
  refine lv_aload_n hx hb dX0_readFrom_0 rfl (lv_at hl 0 rfl) ?_
  refine lv_iload_n hx hb dX0_readFrom_1 rfl (lv_at hl 1 rfl) ?_
  refine rdV (As := [.int p1]) (rest := []) (c_X0_sectorFor l G α σ p1) hF (cwV 1 hts gX0_readFrom_X0_sectorFor rfl rfl rfl (by decide +kernel) ⟨Nat.le_of_ble_eq_true rfl, Nat.le_of_ble_eq_true rfl⟩) (rcv_D hK hP) hK hP rfl hl.1 rfl (Nat.le_of_ble_eq_true rfl) dX0_readFrom_2 ⟨Nat.zero_le _, Nat.zero_le _⟩ ?_
  refine lv_istore_n (lv' := [(2, .int (s_X0_sectorFor σ p1)), (0, .ref (α 0)), (1, .int p1)]) hx hb dX0_readFrom_5 rfl hl (by decide) rfl (fun ls hl => ?_)
  refine lv_aload_n hx hb dX0_readFrom_6 rfl (lv_at hl 1 rfl) ?_
  refine lv_iload_n hx hb dX0_readFrom_7 rfl (lv_at hl 0 rfl) ?_
  refine rdV (As := [.int (s_X0_sectorFor σ p1)]) (rest := []) (c_X0_isReadable l G α σ (s_X0_sectorFor σ p1)) hF (cwV 1 hts gX0_readFrom_X0_isReadable rfl rfl rfl (by decide +kernel) ⟨Nat.le_of_ble_eq_true rfl, Nat.le_of_ble_eq_true rfl⟩) (rcv_D hK hP) hK hP rfl hl.1 rfl (Nat.le_of_ble_eq_true rfl) dX0_readFrom_8 ⟨Nat.zero_le _, Nat.zero_le _⟩ ?_
  refine lv_if_ne (tgt := 17) hx hb dX0_readFrom_11 (by decide) (fun (c_1 : ¬ (s_X0_isReadable σ (s_X0_sectorFor σ p1)) = 0) => ?_) (fun (c_1 : (s_X0_isReadable σ (s_X0_sectorFor σ p1)) = 0) => ?_)
  · skip
    refine lv_aload_n hx hb dX0_readFrom_17 rfl (lv_at hl 1 rfl) ?_
    refine lv_iload_n hx hb dX0_readFrom_18 rfl (lv_at hl 0 rfl) ?_
    refine rdV (As := [.int (s_X0_sectorFor σ p1)]) (rest := []) (c_X0_ticksTo l G α σ (s_X0_sectorFor σ p1)) hF (cwV 1 hts gX0_readFrom_X0_ticksTo rfl rfl rfl (by decide +kernel) ⟨Nat.le_of_ble_eq_true rfl, Nat.le_of_ble_eq_true rfl⟩) (rcv_D hK hP) hK hP rfl hl.1 rfl (Nat.le_of_ble_eq_true rfl) dX0_readFrom_19 ⟨Nat.zero_le _, Nat.zero_le _⟩ ?_
    refine lv_istore_n (lv' := [(3, .int (s_X0_ticksTo σ (s_X0_sectorFor σ p1))), (2, .int (s_X0_sectorFor σ p1)), (0, .ref (α 0)), (1, .int p1)]) hx hb dX0_readFrom_22 rfl hl (by decide) rfl (fun ls hl => ?_)
    refine lv_aload_n hx hb dX0_readFrom_23 rfl (lv_at hl 2 rfl) ?_
    refine lv_iload_n hx hb dX0_readFrom_24 rfl (lv_at hl 0 rfl) ?_
    refine rdV (As := [.int (s_X0_ticksTo σ (s_X0_sectorFor σ p1))]) (rest := []) (c_X0_hasTime l G α σ (s_X0_ticksTo σ (s_X0_sectorFor σ p1))) hF (cwV 1 hts gX0_readFrom_X0_hasTime rfl rfl rfl (by decide +kernel) ⟨Nat.le_of_ble_eq_true rfl, Nat.le_of_ble_eq_true rfl⟩) (rcv_D hK hP) hK hP rfl hl.1 rfl (Nat.le_of_ble_eq_true rfl) dX0_readFrom_25 ⟨Nat.zero_le _, Nat.zero_le _⟩ ?_
    refine lv_if_ne (tgt := 34) hx hb dX0_readFrom_28 (by decide) (fun (c_2 : ¬ (s_X0_hasTime σ (s_X0_ticksTo σ (s_X0_sectorFor σ p1))) = 0) => ?_) (fun (c_2 : (s_X0_hasTime σ (s_X0_ticksTo σ (s_X0_sectorFor σ p1))) = 0) => ?_)
    · skip
      refine lv_aload_n hx hb dX0_readFrom_34 rfl (lv_at hl 2 rfl) ?_
      refine lv_iload_n hx hb dX0_readFrom_35 rfl (lv_at hl 0 rfl) ?_
      refine lv_iload_n hx hb dX0_readFrom_36 rfl (lv_at hl 1 rfl) ?_
      refine rdN (As := [.int (s_X0_sectorFor σ p1)]) (rest := [.int (s_X0_ticksTo σ (s_X0_sectorFor σ p1)), .ref (α 0)]) (c_X4_trackOf l G (s_X0_sectorFor σ p1)) hF (va_cnB (host := RX4) 1 hts gX0_readFrom_X4_trackOf_n75 rfl rfl rfl (hK.nest 8 rfl) (hts (.initialized RX4) (by decide +kernel)) (by decide +kernel) ⟨Nat.le_of_ble_eq_true rfl, Nat.le_of_ble_eq_true rfl⟩) (hts (.static yX4_trackOf) (by decide +kernel)) hK va_P0 rfl hl.1 rfl (Nat.le_of_ble_eq_true rfl) dX0_readFrom_37 ⟨Nat.zero_le _, Nat.zero_le _⟩ ?_
      refine wrV0 (As := [.int (s_X0_ticksTo σ (s_X0_sectorFor σ p1)), .int (s_X4_trackOf (s_X0_sectorFor σ p1))]) (rest := []) (c_X0_pass l G α σ (s_X0_ticksTo σ (s_X0_sectorFor σ p1)) (s_X4_trackOf (s_X0_sectorFor σ p1))) hF (cwV 2 hts gX0_readFrom_X0_pass rfl rfl rfl (by decide +kernel) ⟨Nat.le_of_ble_eq_true rfl, Nat.le_of_ble_eq_true rfl⟩) (rcv_D hK hP) hK hP hD hS (fst_D _ _) rfl hl.1 rfl (Nat.le_of_ble_eq_true rfl) dX0_readFrom_40 ⟨Nat.zero_le _, Nat.zero_le _⟩ (fun H locs hP hD hS => ?_)
      have hP : va_P G.1 vwCl (dW G.2.1 α (t1_X0_readFrom σ p1)) H := hP
      have hD : va_D (inW w0) (dW G.2.1 α (t1_X0_readFrom σ p1)) := hD
      refine lv_aload_n hx hb dX0_readFrom_43 rfl (lv_at hl 2 rfl) ?_
      refine lv_dup hx hb dX0_readFrom_44 rfl ?_
      refine get_D_reads hx hb hts hinX0 hown hK hP (hts (.fieldLink RX0 34 "GrooveTurns$Disc" "reads" "I") (by decide +kernel)) dX0_readFrom_45 ?_
      refine lv_iconst (v := 1) hx hb dX0_readFrom_48 (by decide) ?_
      refine lv_iadd hx hb dX0_readFrom_49 ?_
      refine put_D_reads hx hb hts hinX0 hown hK hP hD hS (hts (.fieldLink RX0 34 "GrooveTurns$Disc" "reads" "I") (by decide +kernel)) dX0_readFrom_50 (fun H locs hP hD hS => ?_)
      have hP : va_P G.1 vwCl (dW G.2.1 α (d_rd' (t1_X0_readFrom σ p1) ((d_rd (t1_X0_readFrom σ p1)) + 1))) H := hP
      have hD : va_D (inW w0) (dW G.2.1 α (d_rd' (t1_X0_readFrom σ p1) ((d_rd (t1_X0_readFrom σ p1)) + 1))) := hD
      refine lv_aload_n hx hb dX0_readFrom_53 rfl (lv_at hl 2 rfl) ?_
      refine lv_iload_n hx hb dX0_readFrom_54 rfl (lv_at hl 1 rfl) ?_
      refine rdV (As := [.int (s_X0_sectorFor σ p1)]) (rest := []) (c_X0_numberIn l G α (d_rd' (t1_X0_readFrom σ p1) ((d_rd (t1_X0_readFrom σ p1)) + 1)) (s_X0_sectorFor σ p1)) hF (cwV 1 hts gX0_readFrom_X0_numberIn rfl rfl rfl (by decide +kernel) ⟨Nat.le_of_ble_eq_true rfl, Nat.le_of_ble_eq_true rfl⟩) (rcv_D hK hP) hK hP rfl hl.1 rfl (Nat.le_of_ble_eq_true rfl) dX0_readFrom_55 ⟨Nat.zero_le _, Nat.zero_le _⟩ ?_
      have E9 : s_X0_readFrom σ p1 = ((s_X0_numberIn (d_rd' (t1_X0_readFrom σ p1) ((d_rd (t1_X0_readFrom σ p1)) + 1)) (s_X0_sectorFor σ p1)), (d_rd' (t1_X0_readFrom σ p1) ((d_rd (t1_X0_readFrom σ p1)) + 1))) := by rw [s_X0_readFrom]; rw [if_neg c_1, if_neg c_2]
      rw [pr1 E9, pr2 E9]
      exact W.iret hx hb hr (fun t ht hW => ⟨rfl, by rw [ht]; exact hP, hS.F ht⟩) hS.2.2 dX0_readFrom_58
    · skip
      refine lv_bipush (v := (-4)) hx hb dX0_readFrom_31 (by decide) ?_
      have E9 : s_X0_readFrom σ p1 = ((-4), σ) := by rw [s_X0_readFrom]; rw [if_neg c_1, if_pos c_2]
      rw [pr1 E9, pr2 E9]
      exact W.iret hx hb hr (fun t ht hW => ⟨rfl, by rw [ht]; exact hP, hS.F ht⟩) hS.2.2 dX0_readFrom_33
  · skip
    refine lv_bipush (v := (-5)) hx hb dX0_readFrom_14 (by decide) ?_
    have E9 : s_X0_readFrom σ p1 = ((-5), σ) := by rw [s_X0_readFrom]; rw [if_pos c_1]
    rw [pr1 E9, pr2 E9]
    exact W.iret hx hb hr (fun t ht hW => ⟨rfl, by rw [ht]; exact hP, hS.F ht⟩) hS.2.2 dX0_readFrom_16
def s_X0_moveHead (σ : DS) (p1 : Int32) : Int32 × DS := (if (s_X0_hasTime σ (s_X0_ticksToTrack σ p1)) = 0 then ((-4), σ) else ((s_X0_ticksToTrack σ p1), (s_X0_pass σ (s_X0_ticksToTrack σ p1) p1)))
set_option maxHeartbeats 4000000 in
set_option maxRecDepth 100000 in
theorem c_X0_moveHead (l : Launch) (G : GG) (α : Nat → Nat) (σ : DS) (p1 : Int32) : Wr G l yX0_moveHead wsX0_moveHead 3 63 [.ref (α 0), .int p1] (dW G.2.1 α σ) (some (.int (s_X0_moveHead σ p1).1)) (dW G.2.1 α ((s_X0_moveHead σ p1).2)) := by
  refine Met.ofW (cc := cX0_moveHead) (maxL := 3) (ret := (some .int)) (by decide) rfl ?_
  intro p e s m args below meth c s₁ B hml hv
  obtain ⟨rfl, hP, hK, hD0⟩ := hv
  have C0 : cA p s m meth c ([.ref (α 0), .int p1] : List Value).toArray cX0_moveHead 3 (some .int) wsX0_moveHead RX0 := ⟨B.exec, B.bytes, B.returns, hml, findClass_of_methodNamed B.named, atoms_spec (ws := wsX0_moveHead) B.pre, B.notSynchronized⟩
  obtain ⟨hx, hb, hr, hml, hown, hts, hlocks⟩ := id C0
  have hF : CallFix p m c cX0_moveHead 3 s _ wsX0_moveHead RX0 := ⟨hx, hb, hml, hown, hts⟩
  obtain ⟨w0, hw0⟩ : ∃ w0 : va_W, w0 = (dW G.2.1 α σ) := ⟨_, rfl⟩
  have hD : va_D (inW w0) (dW G.2.1 α σ) := by rw [hw0]; exact inW.D hD0
  have hS : va_S (inW w0) s.heap s.heap [] := va_S.rf
  rw [show QW G (dW G.2.1 α σ) = QW G w0 from by rw [hw0], show inW (dW G.2.1 α σ) = inW w0 from by rw [hw0]]
  have hl := lv_entry ([.ref (α 0), .int p1]) (n := 3) (Nat.le_of_ble_eq_true rfl)
  rw [lg_entry_eq]
  generalize (lg_sl ([.ref (α 0), .int p1]) ++ List.replicate (3 - (lg_sl ([.ref (α 0), .int p1])).length) Slot.unset).toArray = ls at hl ⊢
  have hl : lv_has ls 3 [(0, .ref (α 0)), (1, .int p1)] := hl
  refine lv_aload_n hx hb dX0_moveHead_0 rfl (lv_at hl 0 rfl) ?_
  refine lv_iload_n hx hb dX0_moveHead_1 rfl (lv_at hl 1 rfl) ?_
  refine rdV (As := [.int p1]) (rest := []) (c_X0_ticksToTrack l G α σ p1) hF (cwV 1 hts gX0_moveHead_X0_ticksToTrack rfl rfl rfl (by decide +kernel) ⟨Nat.le_of_ble_eq_true rfl, Nat.le_of_ble_eq_true rfl⟩) (rcv_D hK hP) hK hP rfl hl.1 rfl (Nat.le_of_ble_eq_true rfl) dX0_moveHead_2 ⟨Nat.zero_le _, Nat.zero_le _⟩ ?_
  refine lv_istore_n (lv' := [(2, .int (s_X0_ticksToTrack σ p1)), (0, .ref (α 0)), (1, .int p1)]) hx hb dX0_moveHead_5 rfl hl (by decide) rfl (fun ls hl => ?_)
  refine lv_aload_n hx hb dX0_moveHead_6 rfl (lv_at hl 1 rfl) ?_
  refine lv_iload_n hx hb dX0_moveHead_7 rfl (lv_at hl 0 rfl) ?_
  refine rdV (As := [.int (s_X0_ticksToTrack σ p1)]) (rest := []) (c_X0_hasTime l G α σ (s_X0_ticksToTrack σ p1)) hF (cwV 1 hts gX0_moveHead_X0_hasTime rfl rfl rfl (by decide +kernel) ⟨Nat.le_of_ble_eq_true rfl, Nat.le_of_ble_eq_true rfl⟩) (rcv_D hK hP) hK hP rfl hl.1 rfl (Nat.le_of_ble_eq_true rfl) dX0_moveHead_8 ⟨Nat.zero_le _, Nat.zero_le _⟩ ?_
  refine lv_if_ne (tgt := 17) hx hb dX0_moveHead_11 (by decide) (fun (c_1 : ¬ (s_X0_hasTime σ (s_X0_ticksToTrack σ p1)) = 0) => ?_) (fun (c_1 : (s_X0_hasTime σ (s_X0_ticksToTrack σ p1)) = 0) => ?_)
  · skip
    refine lv_aload_n hx hb dX0_moveHead_17 rfl (lv_at hl 1 rfl) ?_
    refine lv_iload_n hx hb dX0_moveHead_18 rfl (lv_at hl 0 rfl) ?_
    refine lv_iload_n hx hb dX0_moveHead_19 rfl (lv_at hl 2 rfl) ?_
    refine wrV0 (As := [.int (s_X0_ticksToTrack σ p1), .int p1]) (rest := []) (c_X0_pass l G α σ (s_X0_ticksToTrack σ p1) p1) hF (cwV 2 hts gX0_moveHead_X0_pass rfl rfl rfl (by decide +kernel) ⟨Nat.le_of_ble_eq_true rfl, Nat.le_of_ble_eq_true rfl⟩) (rcv_D hK hP) hK hP hD hS (fst_D _ _) rfl hl.1 rfl (Nat.le_of_ble_eq_true rfl) dX0_moveHead_20 ⟨Nat.zero_le _, Nat.zero_le _⟩ (fun H locs hP hD hS => ?_)
    have hP : va_P G.1 vwCl (dW G.2.1 α (s_X0_pass σ (s_X0_ticksToTrack σ p1) p1)) H := hP
    have hD : va_D (inW w0) (dW G.2.1 α (s_X0_pass σ (s_X0_ticksToTrack σ p1) p1)) := hD
    refine lv_iload_n hx hb dX0_moveHead_23 rfl (lv_at hl 0 rfl) ?_
    have E9 : s_X0_moveHead σ p1 = ((s_X0_ticksToTrack σ p1), (s_X0_pass σ (s_X0_ticksToTrack σ p1) p1)) := by rw [s_X0_moveHead]; rw [if_neg c_1]
    rw [pr1 E9, pr2 E9]
    exact W.iret hx hb hr (fun t ht hW => ⟨rfl, by rw [ht]; exact hP, hS.F ht⟩) hS.2.2 dX0_moveHead_24
  · skip
    refine lv_bipush (v := (-4)) hx hb dX0_moveHead_14 (by decide) ?_
    have E9 : s_X0_moveHead σ p1 = ((-4), σ) := by rw [s_X0_moveHead]; rw [if_pos c_1]
    rw [pr1 E9, pr2 E9]
    exact W.iret hx hb hr (fun t ht hW => ⟨rfl, by rw [ht]; exact hP, hS.F ht⟩) hS.2.2 dX0_moveHead_16
def s_X0_waitFor (σ : DS) (p1 : Int32) : Int32 × DS := (if (s_X0_hasTime σ p1) = 0 then ((-4), σ) else ((s_X0_sectorUnderHead (s_X0_pass σ p1 (d_hd σ))), (s_X0_pass σ p1 (d_hd σ))))
set_option maxHeartbeats 4000000 in
set_option maxRecDepth 100000 in
theorem c_X0_waitFor (l : Launch) (G : GG) (α : Nat → Nat) (σ : DS) (p1 : Int32) : Wr G l yX0_waitFor wsX0_waitFor 1 22 [.ref (α 0), .int p1] (dW G.2.1 α σ) (some (.int (s_X0_waitFor σ p1).1)) (dW G.2.1 α ((s_X0_waitFor σ p1).2)) := by
  refine Met.ofW (cc := cX0_waitFor) (maxL := 2) (ret := (some .int)) (by decide) rfl ?_
  intro p e s m args below meth c s₁ B hml hv
  obtain ⟨rfl, hP, hK, hD0⟩ := hv
  have C0 : cA p s m meth c ([.ref (α 0), .int p1] : List Value).toArray cX0_waitFor 2 (some .int) wsX0_waitFor RX0 := ⟨B.exec, B.bytes, B.returns, hml, findClass_of_methodNamed B.named, atoms_spec (ws := wsX0_waitFor) B.pre, B.notSynchronized⟩
  obtain ⟨hx, hb, hr, hml, hown, hts, hlocks⟩ := id C0
  have hF : CallFix p m c cX0_waitFor 2 s _ wsX0_waitFor RX0 := ⟨hx, hb, hml, hown, hts⟩
  have hinX0 : ∀ w ∈ wsX00, w ∈ wsX0_waitFor := by decide +kernel
  obtain ⟨w0, hw0⟩ : ∃ w0 : va_W, w0 = (dW G.2.1 α σ) := ⟨_, rfl⟩
  have hD : va_D (inW w0) (dW G.2.1 α σ) := by rw [hw0]; exact inW.D hD0
  have hS : va_S (inW w0) s.heap s.heap [] := va_S.rf
  rw [show QW G (dW G.2.1 α σ) = QW G w0 from by rw [hw0], show inW (dW G.2.1 α σ) = inW w0 from by rw [hw0]]
  have hl := lv_entry ([.ref (α 0), .int p1]) (n := 2) (Nat.le_of_ble_eq_true rfl)
  rw [lg_entry_eq]
  generalize (lg_sl ([.ref (α 0), .int p1]) ++ List.replicate (2 - (lg_sl ([.ref (α 0), .int p1])).length) Slot.unset).toArray = ls at hl ⊢
  have hl : lv_has ls 2 [(0, .ref (α 0)), (1, .int p1)] := hl
  refine lv_aload_n hx hb dX0_waitFor_0 rfl (lv_at hl 0 rfl) ?_
  refine lv_iload_n hx hb dX0_waitFor_1 rfl (lv_at hl 1 rfl) ?_
  refine rdV (As := [.int p1]) (rest := []) (c_X0_hasTime l G α σ p1) hF (cwV 1 hts gX0_waitFor_X0_hasTime rfl rfl rfl (by decide +kernel) ⟨Nat.le_of_ble_eq_true rfl, Nat.le_of_ble_eq_true rfl⟩) (rcv_D hK hP) hK hP rfl hl.1 rfl (Nat.le_of_ble_eq_true rfl) dX0_waitFor_2 ⟨Nat.zero_le _, Nat.zero_le _⟩ ?_
  refine lv_if_ne (tgt := 11) hx hb dX0_waitFor_5 (by decide) (fun (c_1 : ¬ (s_X0_hasTime σ p1) = 0) => ?_) (fun (c_1 : (s_X0_hasTime σ p1) = 0) => ?_)
  · skip
    refine lv_aload_n hx hb dX0_waitFor_11 rfl (lv_at hl 0 rfl) ?_
    refine lv_iload_n hx hb dX0_waitFor_12 rfl (lv_at hl 1 rfl) ?_
    refine lv_aload_n hx hb dX0_waitFor_13 rfl (lv_at hl 0 rfl) ?_
    refine get_D_head hx hb hts hinX0 hown hK hP (hts (.fieldLink RX0 40 "GrooveTurns$Disc" "head" "I") (by decide +kernel)) dX0_waitFor_14 ?_
    refine wrV0 (As := [.int p1, .int (d_hd σ)]) (rest := []) (c_X0_pass l G α σ p1 (d_hd σ)) hF (cwV 2 hts gX0_waitFor_X0_pass rfl rfl rfl (by decide +kernel) ⟨Nat.le_of_ble_eq_true rfl, Nat.le_of_ble_eq_true rfl⟩) (rcv_D hK hP) hK hP hD hS (fst_D _ _) rfl hl.1 rfl (Nat.le_of_ble_eq_true rfl) dX0_waitFor_17 ⟨Nat.zero_le _, Nat.zero_le _⟩ (fun H locs hP hD hS => ?_)
    have hP : va_P G.1 vwCl (dW G.2.1 α (s_X0_pass σ p1 (d_hd σ))) H := hP
    have hD : va_D (inW w0) (dW G.2.1 α (s_X0_pass σ p1 (d_hd σ))) := hD
    refine lv_aload_n hx hb dX0_waitFor_20 rfl (lv_at hl 0 rfl) ?_
    refine rdV (As := []) (rest := []) (c_X0_sectorUnderHead l G α (s_X0_pass σ p1 (d_hd σ))) hF (cwV 0 hts gX0_waitFor_X0_sectorUnderHead rfl rfl rfl (by decide +kernel) ⟨Nat.le_of_ble_eq_true rfl, Nat.le_of_ble_eq_true rfl⟩) (rcv_D hK hP) hK hP rfl hl.1 rfl (Nat.le_of_ble_eq_true rfl) dX0_waitFor_21 ⟨Nat.zero_le _, Nat.zero_le _⟩ ?_
    have E9 : s_X0_waitFor σ p1 = ((s_X0_sectorUnderHead (s_X0_pass σ p1 (d_hd σ))), (s_X0_pass σ p1 (d_hd σ))) := by rw [s_X0_waitFor]; rw [if_neg c_1]
    rw [pr1 E9, pr2 E9]
    exact W.iret hx hb hr (fun t ht hW => ⟨rfl, by rw [ht]; exact hP, hS.F ht⟩) hS.2.2 dX0_waitFor_24
  · skip
    refine lv_bipush (v := (-4)) hx hb dX0_waitFor_8 (by decide) ?_
    have E9 : s_X0_waitFor σ p1 = ((-4), σ) := by rw [s_X0_waitFor]; rw [if_pos c_1]
    rw [pr1 E9, pr2 E9]
    exact W.iret hx hb hr (fun t ht hW => ⟨rfl, by rw [ht]; exact hP, hS.F ht⟩) hS.2.2 dX0_waitFor_10
