def s_X3_isDigit (p0 : Int32) : Int32 := (if p0 < 48 then 0 else (if 57 < p0 then 0 else 1))
theorem b_X3_isDigit (p0 : Int32) : (s_X3_isDigit p0) = 0 ∨ (s_X3_isDigit p0) = 1 := by
  unfold s_X3_isDigit
  by_cases c_1 : p0 < 48
  · skip
    rw [if_pos c_1]
    exact Or.inl rfl
  · skip
    by_cases c_2 : 57 < p0
    · skip
      rw [if_neg c_1, if_pos c_2]
      exact Or.inl rfl
    · skip
      rw [if_neg c_1, if_neg c_2]
      exact Or.inr rfl
set_option maxHeartbeats 4000000 in
set_option maxRecDepth 100000 in
theorem c_X3_isDigit (l : Launch) (G : GG) (p0 : Int32) : Rd G l yX3_isDigit wsX3_isDigit 0 0 [.int p0] [] (.int (s_X3_isDigit p0)) := by
  refine Met.ofW (cc := cX3_isDigit) (maxL := 1) (ret := (some .boolean)) (by decide) rfl ?_
  intro p e s m args below meth c s₁ B hml hv
  obtain ⟨rfl, hP, hK⟩ := hv
  have C0 : cA p s m meth c ([.int p0] : List Value).toArray cX3_isDigit 1 (some .boolean) wsX3_isDigit RX3 := ⟨B.exec, B.bytes, B.returns, hml, findClass_of_methodNamed B.named, atoms_spec (ws := wsX3_isDigit) B.pre, B.notSynchronized⟩
  obtain ⟨hx, hb, hr, hml, hown, hts, hlocks⟩ := id C0
  have hF : CallFix p m c cX3_isDigit 1 s _ wsX3_isDigit RX3 := ⟨hx, hb, hml, hown, hts⟩
  have hl := lv_entry ([.int p0]) (n := 1) (Nat.le_of_ble_eq_true rfl)
  rw [lg_entry_eq]
  generalize (lg_sl ([.int p0]) ++ List.replicate (1 - (lg_sl ([.int p0])).length) Slot.unset).toArray = ls at hl ⊢
  have hl : lv_has ls 1 [(0, .int p0)] := hl
  refine lv_iload_n hx hb dX3_isDigit_0 rfl (lv_at hl 0 rfl) ?_
  refine lv_bipush (v := 48) hx hb dX3_isDigit_1 (by decide) ?_
  refine lv_icmp_lt (tgt := 16) hx hb dX3_isDigit_3 (by decide) (fun (c_1 : p0 < 48) => ?_) (fun (c_1 : ¬ p0 < 48) => ?_)
  · skip
    refine lv_iconst (v := 0) hx hb dX3_isDigit_16 (by decide) ?_
    rw [show s_X3_isDigit p0 = 0 from by rw [s_X3_isDigit]; rw [if_pos c_1]]
    exact W.zret (ty := .boolean) hx hb hr rfl (fun t ht hW => ⟨rfl, ht⟩) (fun _ h => nomatch h) dX3_isDigit_17
  · skip
    refine lv_iload_n hx hb dX3_isDigit_6 rfl (lv_at hl 0 rfl) ?_
    refine lv_bipush (v := 57) hx hb dX3_isDigit_7 (by decide) ?_
    refine lv_icmp_gt (tgt := 16) hx hb dX3_isDigit_9 (by decide) (fun (c_2 : 57 < p0) => ?_) (fun (c_2 : ¬ 57 < p0) => ?_)
    · skip
      refine lv_iconst (v := 0) hx hb dX3_isDigit_16 (by decide) ?_
      rw [show s_X3_isDigit p0 = 0 from by rw [s_X3_isDigit]; rw [if_neg c_1, if_pos c_2]]
      exact W.zret (ty := .boolean) hx hb hr rfl (fun t ht hW => ⟨rfl, ht⟩) (fun _ h => nomatch h) dX3_isDigit_17
    · skip
      refine lv_iconst (v := 1) hx hb dX3_isDigit_12 (by decide) ?_
      refine lv_goto (tgt := 17) hx hb dX3_isDigit_13 (by decide) ?_
      rw [show s_X3_isDigit p0 = 1 from by rw [s_X3_isDigit]; rw [if_neg c_1, if_neg c_2]]
      exact W.zret (ty := .boolean) hx hb hr rfl (fun t ht hW => ⟨rfl, ht⟩) (fun _ h => nomatch h) dX3_isDigit_17
def s_X3_isWriting (σ : QS) (p1 : Int32) : Int32 := (if (s_X4_at 21 (q_nu σ) p1) = (-6) then 0 else 1)
theorem b_X3_isWriting (σ : QS) (p1 : Int32) : (s_X3_isWriting σ p1) = 0 ∨ (s_X3_isWriting σ p1) = 1 := by
  unfold s_X3_isWriting
  by_cases c_1 : (s_X4_at 21 (q_nu σ) p1) = (-6)
  · skip
    rw [if_pos c_1]
    exact Or.inl rfl
  · skip
    rw [if_neg c_1]
    exact Or.inr rfl
set_option maxHeartbeats 4000000 in
set_option maxRecDepth 100000 in
theorem c_X3_isWriting (l : Launch) (G : GG) (α : Nat → Nat) (σ : QS) (p1 : Int32) : Rd G l yX3_isWriting wsX3_isWriting 1 21 [.ref (α 0), .int p1] (qW G.2.1 α σ) (.int (s_X3_isWriting σ p1)) := by
  refine Met.ofW (cc := cX3_isWriting) (maxL := 2) (ret := (some .boolean)) (by decide) rfl ?_
  intro p e s m args below meth c s₁ B hml hv
  obtain ⟨rfl, hP, hK⟩ := hv
  have C0 : cA p s m meth c ([.ref (α 0), .int p1] : List Value).toArray cX3_isWriting 2 (some .boolean) wsX3_isWriting RX3 := ⟨B.exec, B.bytes, B.returns, hml, findClass_of_methodNamed B.named, atoms_spec (ws := wsX3_isWriting) B.pre, B.notSynchronized⟩
  obtain ⟨hx, hb, hr, hml, hown, hts, hlocks⟩ := id C0
  have hF : CallFix p m c cX3_isWriting 2 s _ wsX3_isWriting RX3 := ⟨hx, hb, hml, hown, hts⟩
  have hinX3 : ∀ w ∈ wsX30, w ∈ wsX3_isWriting := by decide +kernel
  have hl := lv_entry ([.ref (α 0), .int p1]) (n := 2) (Nat.le_of_ble_eq_true rfl)
  rw [lg_entry_eq]
  generalize (lg_sl ([.ref (α 0), .int p1]) ++ List.replicate (2 - (lg_sl ([.ref (α 0), .int p1])).length) Slot.unset).toArray = ls at hl ⊢
  have hl : lv_has ls 2 [(0, .ref (α 0)), (1, .int p1)] := hl
  refine lv_aload_n hx hb dX3_isWriting_0 rfl (lv_at hl 0 rfl) ?_
  refine get_Q_numbers hx hb hts hinX3 hown hK hP (hts (.fieldLink RX3 15 "GrooveTurns$Requests" "numbers" "[I") (by decide +kernel)) dX3_isWriting_1 ?_
  refine lv_iload_n hx hb dX3_isWriting_4 rfl (lv_at hl 1 rfl) ?_
  refine rdN (As := [.ref (α 2), .int p1]) (rest := []) (c_X4_at l G (α 2) 21 (q_nu σ) p1 (by decide)) hF (va_cnB (host := RX4) 2 hts gX3_isWriting_X4_at_n68 rfl rfl rfl (hK.nest 12 rfl) (hts (.initialized RX4) (by decide +kernel)) (by decide +kernel) ⟨Nat.le_of_ble_eq_true rfl, Nat.le_of_ble_eq_true rfl⟩) (hts (.static yX4_at) (by decide +kernel)) hK (cell_Q_nu hP) rfl hl.1 rfl (Nat.le_of_ble_eq_true rfl) dX3_isWriting_5 ⟨Nat.zero_le _, Nat.zero_le _⟩ ?_
  refine lv_bipush (v := (-6)) hx hb dX3_isWriting_8 (by decide) ?_
  refine lv_icmp_eq (tgt := 17) hx hb dX3_isWriting_10 (by decide) (fun (c_1 : (s_X4_at 21 (q_nu σ) p1) = (-6)) => ?_) (fun (c_1 : ¬ (s_X4_at 21 (q_nu σ) p1) = (-6)) => ?_)
  · skip
    refine lv_iconst (v := 0) hx hb dX3_isWriting_17 (by decide) ?_
    rw [show s_X3_isWriting σ p1 = 0 from by rw [s_X3_isWriting]; rw [if_pos c_1]]
    exact W.zret (ty := .boolean) hx hb hr rfl (fun t ht hW => ⟨rfl, ht⟩) (fun _ h => nomatch h) dX3_isWriting_18
  · skip
    refine lv_iconst (v := 1) hx hb dX3_isWriting_13 (by decide) ?_
    refine lv_goto (tgt := 18) hx hb dX3_isWriting_14 (by decide) ?_
    rw [show s_X3_isWriting σ p1 = 1 from by rw [s_X3_isWriting]; rw [if_neg c_1]]
    exact W.zret (ty := .boolean) hx hb hr rfl (fun t ht hW => ⟨rfl, ht⟩) (fun _ h => nomatch h) dX3_isWriting_18
def s_X3_takesMark (σ : QS) (p1 : Int32) (p2 : Int32) (p3 : Int32) : Int32 × QS := (if p1 = p2 then (1, (q_pl' σ p3)) else (0, σ))
theorem b_X3_takesMark (σ : QS) (p1 : Int32) (p2 : Int32) (p3 : Int32) : (s_X3_takesMark σ p1 p2 p3).1 = 0 ∨ (s_X3_takesMark σ p1 p2 p3).1 = 1 := by
  unfold s_X3_takesMark
  by_cases c_1 : p1 = p2
  · skip
    rw [if_pos c_1]
    exact Or.inr rfl
  · skip
    rw [if_neg c_1]
    exact Or.inl rfl
set_option maxHeartbeats 4000000 in
set_option maxRecDepth 100000 in
theorem c_X3_takesMark (l : Launch) (G : GG) (α : Nat → Nat) (σ : QS) (p1 : Int32) (p2 : Int32) (p3 : Int32) : Wr G l yX3_takesMark wsX3_takesMark 0 0 [.ref (α 0), .int p1, .int p2, .int p3] (qW G.2.1 α σ) (some (.int (s_X3_takesMark σ p1 p2 p3).1)) (qW G.2.1 α ((s_X3_takesMark σ p1 p2 p3).2)) := by
  refine Met.ofW (cc := cX3_takesMark) (maxL := 4) (ret := (some .boolean)) (by decide) rfl ?_
  intro p e s m args below meth c s₁ B hml hv
  obtain ⟨rfl, hP, hK, hD0⟩ := hv
  have C0 : cA p s m meth c ([.ref (α 0), .int p1, .int p2, .int p3] : List Value).toArray cX3_takesMark 4 (some .boolean) wsX3_takesMark RX3 := ⟨B.exec, B.bytes, B.returns, hml, findClass_of_methodNamed B.named, atoms_spec (ws := wsX3_takesMark) B.pre, B.notSynchronized⟩
  obtain ⟨hx, hb, hr, hml, hown, hts, hlocks⟩ := id C0
  have hF : CallFix p m c cX3_takesMark 4 s _ wsX3_takesMark RX3 := ⟨hx, hb, hml, hown, hts⟩
  have hinX3 : ∀ w ∈ wsX30, w ∈ wsX3_takesMark := by decide +kernel
  obtain ⟨w0, hw0⟩ : ∃ w0 : va_W, w0 = (qW G.2.1 α σ) := ⟨_, rfl⟩
  have hD : va_D (inW w0) (qW G.2.1 α σ) := by rw [hw0]; exact inW.D hD0
  have hS : va_S (inW w0) s.heap s.heap [] := va_S.rf
  rw [show QW G (qW G.2.1 α σ) = QW G w0 from by rw [hw0], show inW (qW G.2.1 α σ) = inW w0 from by rw [hw0]]
  have hl := lv_entry ([.ref (α 0), .int p1, .int p2, .int p3]) (n := 4) (Nat.le_of_ble_eq_true rfl)
  rw [lg_entry_eq]
  generalize (lg_sl ([.ref (α 0), .int p1, .int p2, .int p3]) ++ List.replicate (4 - (lg_sl ([.ref (α 0), .int p1, .int p2, .int p3])).length) Slot.unset).toArray = ls at hl ⊢
  have hl : lv_has ls 4 [(0, .ref (α 0)), (1, .int p1), (2, .int p2), (3, .int p3)] := hl
  refine lv_iload_n hx hb dX3_takesMark_0 rfl (lv_at hl 1 rfl) ?_
  refine lv_iload_n hx hb dX3_takesMark_1 rfl (lv_at hl 2 rfl) ?_
  refine lv_icmp_eq (tgt := 7) hx hb dX3_takesMark_2 (by decide) (fun (c_1 : p1 = p2) => ?_) (fun (c_1 : ¬ p1 = p2) => ?_)
  · skip
    refine lv_aload_n hx hb dX3_takesMark_7 rfl (lv_at hl 0 rfl) ?_
    refine lv_iload_n hx hb dX3_takesMark_8 rfl (lv_at hl 3 rfl) ?_
    refine put_Q_place hx hb hts hinX3 hown hK hP hD hS (hts (.fieldLink RX3 25 "GrooveTurns$Requests" "place" "I") (by decide +kernel)) dX3_takesMark_9 (fun H locs hP hD hS => ?_)
    have hP : va_P G.1 vwCl (qW G.2.1 α (q_pl' σ p3)) H := hP
    have hD : va_D (inW w0) (qW G.2.1 α (q_pl' σ p3)) := hD
    refine lv_iconst (v := 1) hx hb dX3_takesMark_12 (by decide) ?_
    have E9 : s_X3_takesMark σ p1 p2 p3 = (1, (q_pl' σ p3)) := by rw [s_X3_takesMark]; rw [if_pos c_1]
    rw [pr1 E9, pr2 E9]
    exact W.zret (ty := .boolean) hx hb hr rfl (fun t ht hW => ⟨rfl, by rw [ht]; exact hP, hS.F ht⟩) hS.2.2 dX3_takesMark_13
  · skip
    refine lv_iconst (v := 0) hx hb dX3_takesMark_5 (by decide) ?_
    have E9 : s_X3_takesMark σ p1 p2 p3 = (0, σ) := by rw [s_X3_takesMark]; rw [if_neg c_1]
    rw [pr1 E9, pr2 E9]
    exact W.zret (ty := .boolean) hx hb hr rfl (fun t ht hW => ⟨rfl, by rw [ht]; exact hP, hS.F ht⟩) hS.2.2 dX3_takesMark_6
def t1_X3_takesKind (σ : QS) (p1 : Int32) : QS := (q_sz' (q_nu' σ (s_X4_lay 21 (q_nu σ) (q_sz σ) 0)) ((q_sz σ) + 1))
def t2_X3_takesKind (σ : QS) (p1 : Int32) : QS := (q_sz' (q_nu' σ (s_X4_lay 21 (q_nu σ) (q_sz σ) (-6))) ((q_sz σ) + 1))
def s_X3_takesKind (σ : QS) (p1 : Int32) : Int32 × QS := (if p1 = 119 then (1, (q_pl' (t1_X3_takesKind σ p1) 1)) else (if p1 = 114 then (1, (q_pl' (t2_X3_takesKind σ p1) 1)) else (0, σ)))
theorem b_X3_takesKind (σ : QS) (p1 : Int32) : (s_X3_takesKind σ p1).1 = 0 ∨ (s_X3_takesKind σ p1).1 = 1 := by
  unfold s_X3_takesKind
  by_cases c_1 : p1 = 119
  · skip
    rw [if_pos c_1]
    exact Or.inr rfl
  · skip
    by_cases c_3 : p1 = 114
    · skip
      rw [if_neg c_1, if_pos c_3]
      exact Or.inr rfl
    · skip
      rw [if_neg c_1, if_neg c_3]
      exact Or.inl rfl
set_option maxHeartbeats 4000000 in
set_option maxRecDepth 100000 in
theorem c_X3_takesKind (l : Launch) (G : GG) (α : Nat → Nat) (σ : QS) (p1 : Int32) : Wr G l yX3_takesKind wsX3_takesKind 1 22 [.ref (α 0), .int p1] (qW G.2.1 α σ) (some (.int (s_X3_takesKind σ p1).1)) (qW G.2.1 α ((s_X3_takesKind σ p1).2)) := by
  refine Met.ofW (cc := cX3_takesKind) (maxL := 2) (ret := (some .boolean)) (by decide) rfl ?_
  intro p e s m args below meth c s₁ B hml hv
  obtain ⟨rfl, hP, hK, hD0⟩ := hv
  have C0 : cA p s m meth c ([.ref (α 0), .int p1] : List Value).toArray cX3_takesKind 2 (some .boolean) wsX3_takesKind RX3 := ⟨B.exec, B.bytes, B.returns, hml, findClass_of_methodNamed B.named, atoms_spec (ws := wsX3_takesKind) B.pre, B.notSynchronized⟩
  obtain ⟨hx, hb, hr, hml, hown, hts, hlocks⟩ := id C0
  have hF : CallFix p m c cX3_takesKind 2 s _ wsX3_takesKind RX3 := ⟨hx, hb, hml, hown, hts⟩
  have hinX3 : ∀ w ∈ wsX30, w ∈ wsX3_takesKind := by decide +kernel
  obtain ⟨w0, hw0⟩ : ∃ w0 : va_W, w0 = (qW G.2.1 α σ) := ⟨_, rfl⟩
  have hD : va_D (inW w0) (qW G.2.1 α σ) := by rw [hw0]; exact inW.D hD0
  have hS : va_S (inW w0) s.heap s.heap [] := va_S.rf
  rw [show QW G (qW G.2.1 α σ) = QW G w0 from by rw [hw0], show inW (qW G.2.1 α σ) = inW w0 from by rw [hw0]]
  have hl := lv_entry ([.ref (α 0), .int p1]) (n := 2) (Nat.le_of_ble_eq_true rfl)
  rw [lg_entry_eq]
  generalize (lg_sl ([.ref (α 0), .int p1]) ++ List.replicate (2 - (lg_sl ([.ref (α 0), .int p1])).length) Slot.unset).toArray = ls at hl ⊢
  have hl : lv_has ls 2 [(0, .ref (α 0)), (1, .int p1)] := hl
  refine lv_iload_n hx hb dX3_takesKind_0 rfl (lv_at hl 1 rfl) ?_
  refine lv_bipush (v := 119) hx hb dX3_takesKind_1 (by decide) ?_
  refine lv_icmp_eq (tgt := 14) hx hb dX3_takesKind_3 (by decide) (fun (c_1 : p1 = 119) => ?_) (fun (c_1 : ¬ p1 = 119) => ?_)
  · skip
    refine lv_aload_n hx hb dX3_takesKind_14 rfl (lv_at hl 0 rfl) ?_
    refine get_Q_numbers hx hb hts hinX3 hown hK hP (hts (.fieldLink RX3 15 "GrooveTurns$Requests" "numbers" "[I") (by decide +kernel)) dX3_takesKind_15 ?_
    refine lv_aload_n hx hb dX3_takesKind_18 rfl (lv_at hl 0 rfl) ?_
    refine get_Q_size hx hb hts hinX3 hown hK hP (hts (.fieldLink RX3 21 "GrooveTurns$Requests" "size" "I") (by decide +kernel)) dX3_takesKind_19 ?_
    refine lv_iload_n hx hb dX3_takesKind_22 rfl (lv_at hl 1 rfl) ?_
    refine lv_bipush (v := 119) hx hb dX3_takesKind_23 (by decide) ?_
    refine lv_icmp_ne (tgt := 32) hx hb dX3_takesKind_25 (by decide) (fun (c_2 : ¬ p1 = 119) => ?_) (fun (c_2 : p1 = 119) => ?_)
    · skip
      exact absurd c_1 c_2
    · skip
      refine lv_iconst (v := 0) hx hb dX3_takesKind_28 (by decide) ?_
      refine lv_goto (tgt := 34) hx hb dX3_takesKind_29 (by decide) ?_
      refine wrN (As := [.ref (α 2), .int (q_sz σ), .int 0]) (rest := []) (c_X4_lay l G (α 2) 21 (q_nu σ) (q_sz σ) 0 (by decide)) hF (va_cnB (host := RX4) 3 hts gX3_takesKind_X4_lay_n61 rfl rfl rfl (hK.nest 11 rfl) (hts (.initialized RX4) (by decide +kernel)) (by decide +kernel) ⟨Nat.le_of_ble_eq_true rfl, Nat.le_of_ble_eq_true rfl⟩) (hts (.static yX4_lay) (by decide +kernel)) hK hP hD hS [2] (pl_Q_nu _ _ _) (pf_Q_nu _ _ _) rfl (by decide) rfl hl.1 rfl (Nat.le_of_ble_eq_true rfl) dX3_takesKind_34 ⟨Nat.zero_le _, Nat.zero_le _⟩ (fun H locs hP hD hS => ?_)
      rw [pset_Q_nu] at hP hD
      have hP : va_P G.1 vwCl (qW G.2.1 α (q_nu' σ (s_X4_lay 21 (q_nu σ) (q_sz σ) 0))) H := hP
      have hD : va_D (inW w0) (qW G.2.1 α (q_nu' σ (s_X4_lay 21 (q_nu σ) (q_sz σ) 0))) := hD
      refine lv_aload_n hx hb dX3_takesKind_37 rfl (lv_at hl 0 rfl) ?_
      refine lv_dup hx hb dX3_takesKind_38 rfl ?_
      refine get_Q_size hx hb hts hinX3 hown hK hP (hts (.fieldLink RX3 21 "GrooveTurns$Requests" "size" "I") (by decide +kernel)) dX3_takesKind_39 ?_
      refine lv_iconst (v := 1) hx hb dX3_takesKind_42 (by decide) ?_
      refine lv_iadd hx hb dX3_takesKind_43 ?_
      refine put_Q_size hx hb hts hinX3 hown hK hP hD hS (hts (.fieldLink RX3 21 "GrooveTurns$Requests" "size" "I") (by decide +kernel)) dX3_takesKind_44 (fun H locs hP hD hS => ?_)
      have hP : va_P G.1 vwCl (qW G.2.1 α (t1_X3_takesKind σ p1)) H := hP
      have hD : va_D (inW w0) (qW G.2.1 α (t1_X3_takesKind σ p1)) := hD
      refine lv_aload_n hx hb dX3_takesKind_47 rfl (lv_at hl 0 rfl) ?_
      refine lv_iconst (v := 1) hx hb dX3_takesKind_48 (by decide) ?_
      refine put_Q_place hx hb hts hinX3 hown hK hP hD hS (hts (.fieldLink RX3 25 "GrooveTurns$Requests" "place" "I") (by decide +kernel)) dX3_takesKind_49 (fun H locs hP hD hS => ?_)
      have hP : va_P G.1 vwCl (qW G.2.1 α (q_pl' (t1_X3_takesKind σ p1) 1)) H := hP
      have hD : va_D (inW w0) (qW G.2.1 α (q_pl' (t1_X3_takesKind σ p1) 1)) := hD
      refine lv_iconst (v := 1) hx hb dX3_takesKind_52 (by decide) ?_
      have E9 : s_X3_takesKind σ p1 = (1, (q_pl' (t1_X3_takesKind σ p1) 1)) := by rw [s_X3_takesKind]; rw [if_pos c_1]
      rw [pr1 E9, pr2 E9]
      exact W.zret (ty := .boolean) hx hb hr rfl (fun t ht hW => ⟨rfl, by rw [ht]; exact hP, hS.F ht⟩) hS.2.2 dX3_takesKind_53
  · skip
    refine lv_iload_n hx hb dX3_takesKind_6 rfl (lv_at hl 1 rfl) ?_
    refine lv_bipush (v := 114) hx hb dX3_takesKind_7 (by decide) ?_
    refine lv_icmp_eq (tgt := 14) hx hb dX3_takesKind_9 (by decide) (fun (c_3 : p1 = 114) => ?_) (fun (c_3 : ¬ p1 = 114) => ?_)
    · skip
      refine lv_aload_n hx hb dX3_takesKind_14 rfl (lv_at hl 0 rfl) ?_
      refine get_Q_numbers hx hb hts hinX3 hown hK hP (hts (.fieldLink RX3 15 "GrooveTurns$Requests" "numbers" "[I") (by decide +kernel)) dX3_takesKind_15 ?_
      refine lv_aload_n hx hb dX3_takesKind_18 rfl (lv_at hl 0 rfl) ?_
      refine get_Q_size hx hb hts hinX3 hown hK hP (hts (.fieldLink RX3 21 "GrooveTurns$Requests" "size" "I") (by decide +kernel)) dX3_takesKind_19 ?_
      refine lv_iload_n hx hb dX3_takesKind_22 rfl (lv_at hl 1 rfl) ?_
      refine lv_bipush (v := 119) hx hb dX3_takesKind_23 (by decide) ?_
      refine lv_icmp_ne (tgt := 32) hx hb dX3_takesKind_25 (by decide) (fun (c_4 : ¬ p1 = 119) => ?_) (fun (c_4 : p1 = 119) => ?_)
      · skip
        refine lv_bipush (v := (-6)) hx hb dX3_takesKind_32 (by decide) ?_
        refine wrN (As := [.ref (α 2), .int (q_sz σ), .int (-6)]) (rest := []) (c_X4_lay l G (α 2) 21 (q_nu σ) (q_sz σ) (-6) (by decide)) hF (va_cnB (host := RX4) 3 hts gX3_takesKind_X4_lay_n61 rfl rfl rfl (hK.nest 11 rfl) (hts (.initialized RX4) (by decide +kernel)) (by decide +kernel) ⟨Nat.le_of_ble_eq_true rfl, Nat.le_of_ble_eq_true rfl⟩) (hts (.static yX4_lay) (by decide +kernel)) hK hP hD hS [2] (pl_Q_nu _ _ _) (pf_Q_nu _ _ _) rfl (by decide) rfl hl.1 rfl (Nat.le_of_ble_eq_true rfl) dX3_takesKind_34 ⟨Nat.zero_le _, Nat.zero_le _⟩ (fun H locs hP hD hS => ?_)
        rw [pset_Q_nu] at hP hD
        have hP : va_P G.1 vwCl (qW G.2.1 α (q_nu' σ (s_X4_lay 21 (q_nu σ) (q_sz σ) (-6)))) H := hP
        have hD : va_D (inW w0) (qW G.2.1 α (q_nu' σ (s_X4_lay 21 (q_nu σ) (q_sz σ) (-6)))) := hD
        refine lv_aload_n hx hb dX3_takesKind_37 rfl (lv_at hl 0 rfl) ?_
        refine lv_dup hx hb dX3_takesKind_38 rfl ?_
        refine get_Q_size hx hb hts hinX3 hown hK hP (hts (.fieldLink RX3 21 "GrooveTurns$Requests" "size" "I") (by decide +kernel)) dX3_takesKind_39 ?_
        refine lv_iconst (v := 1) hx hb dX3_takesKind_42 (by decide) ?_
        refine lv_iadd hx hb dX3_takesKind_43 ?_
        refine put_Q_size hx hb hts hinX3 hown hK hP hD hS (hts (.fieldLink RX3 21 "GrooveTurns$Requests" "size" "I") (by decide +kernel)) dX3_takesKind_44 (fun H locs hP hD hS => ?_)
        have hP : va_P G.1 vwCl (qW G.2.1 α (t2_X3_takesKind σ p1)) H := hP
        have hD : va_D (inW w0) (qW G.2.1 α (t2_X3_takesKind σ p1)) := hD
        refine lv_aload_n hx hb dX3_takesKind_47 rfl (lv_at hl 0 rfl) ?_
        refine lv_iconst (v := 1) hx hb dX3_takesKind_48 (by decide) ?_
        refine put_Q_place hx hb hts hinX3 hown hK hP hD hS (hts (.fieldLink RX3 25 "GrooveTurns$Requests" "place" "I") (by decide +kernel)) dX3_takesKind_49 (fun H locs hP hD hS => ?_)
        have hP : va_P G.1 vwCl (qW G.2.1 α (q_pl' (t2_X3_takesKind σ p1) 1)) H := hP
        have hD : va_D (inW w0) (qW G.2.1 α (q_pl' (t2_X3_takesKind σ p1) 1)) := hD
        refine lv_iconst (v := 1) hx hb dX3_takesKind_52 (by decide) ?_
        have E9 : s_X3_takesKind σ p1 = (1, (q_pl' (t2_X3_takesKind σ p1) 1)) := by rw [s_X3_takesKind]; rw [if_neg c_1, if_pos c_3]
        rw [pr1 E9, pr2 E9]
        exact W.zret (ty := .boolean) hx hb hr rfl (fun t ht hW => ⟨rfl, by rw [ht]; exact hP, hS.F ht⟩) hS.2.2 dX3_takesKind_53
      · skip
        exact absurd c_4 c_1
    · skip
      refine lv_iconst (v := 0) hx hb dX3_takesKind_12 (by decide) ?_
      have E9 : s_X3_takesKind σ p1 = (0, σ) := by rw [s_X3_takesKind]; rw [if_neg c_1, if_neg c_3]
      rw [pr1 E9, pr2 E9]
      exact W.zret (ty := .boolean) hx hb hr rfl (fun t ht hW => ⟨rfl, by rw [ht]; exact hP, hS.F ht⟩) hS.2.2 dX3_takesKind_13
def t1_X3_takesFirstDigit_ad (σ : QS) (p1 : Int32) (p3 : Int32) : QS := (q_pl' (q_ad' σ (s_X4_lay 21 (q_ad σ) ((q_sz σ) - 1) (p1 - 48))) p3)
def s_X3_takesFirstDigit_ad (σ : QS) (p1 : Int32) (p3 : Int32) : Int32 × QS := (if (s_X3_isDigit p1) = 0 then (0, σ) else (1, (t1_X3_takesFirstDigit_ad σ p1 p3)))
theorem b_X3_takesFirstDigit_ad (σ : QS) (p1 : Int32) (p3 : Int32) : (s_X3_takesFirstDigit_ad σ p1 p3).1 = 0 ∨ (s_X3_takesFirstDigit_ad σ p1 p3).1 = 1 := by
  unfold s_X3_takesFirstDigit_ad
  by_cases c_1 : (s_X3_isDigit p1) = 0
  · skip
    rw [if_pos c_1]
    exact Or.inl rfl
  · skip
    rw [if_neg c_1]
    exact Or.inr rfl
set_option maxHeartbeats 4000000 in
set_option maxRecDepth 100000 in
theorem c_X3_takesFirstDigit_ad (l : Launch) (G : GG) (α : Nat → Nat) (σ : QS) (p1 : Int32) (p3 : Int32) : Wr G l yX3_takesFirstDigit wsX3_takesFirstDigit 1 22 [.ref (α 0), .int p1, .ref (α 1), .int p3] (qW G.2.1 α σ) (some (.int (s_X3_takesFirstDigit_ad σ p1 p3).1)) (qW G.2.1 α ((s_X3_takesFirstDigit_ad σ p1 p3).2)) := by
  refine Met.ofW (cc := cX3_takesFirstDigit) (maxL := 4) (ret := (some .boolean)) (by decide) rfl ?_
  intro p e s m args below meth c s₁ B hml hv
  obtain ⟨rfl, hP, hK, hD0⟩ := hv
  have C0 : cA p s m meth c ([.ref (α 0), .int p1, .ref (α 1), .int p3] : List Value).toArray cX3_takesFirstDigit 4 (some .boolean) wsX3_takesFirstDigit RX3 := ⟨B.exec, B.bytes, B.returns, hml, findClass_of_methodNamed B.named, atoms_spec (ws := wsX3_takesFirstDigit) B.pre, B.notSynchronized⟩
  obtain ⟨hx, hb, hr, hml, hown, hts, hlocks⟩ := id C0
  have hF : CallFix p m c cX3_takesFirstDigit 4 s _ wsX3_takesFirstDigit RX3 := ⟨hx, hb, hml, hown, hts⟩
  have hinX3 : ∀ w ∈ wsX30, w ∈ wsX3_takesFirstDigit := by decide +kernel
  obtain ⟨w0, hw0⟩ : ∃ w0 : va_W, w0 = (qW G.2.1 α σ) := ⟨_, rfl⟩
  have hD : va_D (inW w0) (qW G.2.1 α σ) := by rw [hw0]; exact inW.D hD0
  have hS : va_S (inW w0) s.heap s.heap [] := va_S.rf
  rw [show QW G (qW G.2.1 α σ) = QW G w0 from by rw [hw0], show inW (qW G.2.1 α σ) = inW w0 from by rw [hw0]]
  have hl := lv_entry ([.ref (α 0), .int p1, .ref (α 1), .int p3]) (n := 4) (Nat.le_of_ble_eq_true rfl)
  rw [lg_entry_eq]
  generalize (lg_sl ([.ref (α 0), .int p1, .ref (α 1), .int p3]) ++ List.replicate (4 - (lg_sl ([.ref (α 0), .int p1, .ref (α 1), .int p3])).length) Slot.unset).toArray = ls at hl ⊢
  have hl : lv_has ls 4 [(0, .ref (α 0)), (1, .int p1), (2, .ref (α 1)), (3, .int p3)] := hl
  refine lv_iload_n hx hb dX3_takesFirstDigit_0 rfl (lv_at hl 1 rfl) ?_
  refine rdS (As := [.int p1]) (rest := []) (c_X3_isDigit l G p1) hF (va_cwS 1 hts gX3_takesFirstDigit_X3_isDigit rfl rfl rfl (by decide +kernel) ⟨Nat.le_of_ble_eq_true rfl, Nat.le_of_ble_eq_true rfl⟩) hK va_P0 rfl hl.1 rfl (Nat.le_of_ble_eq_true rfl) dX3_takesFirstDigit_1 ⟨Nat.zero_le _, Nat.zero_le _⟩ ?_
  refine lv_if_ne (tgt := 9) hx hb dX3_takesFirstDigit_4 (by decide) (fun (c_1 : ¬ (s_X3_isDigit p1) = 0) => ?_) (fun (c_1 : (s_X3_isDigit p1) = 0) => ?_)
  · skip
    refine lv_aload_n hx hb dX3_takesFirstDigit_9 rfl (lv_at hl 2 rfl) ?_
    refine lv_aload_n hx hb dX3_takesFirstDigit_10 rfl (lv_at hl 0 rfl) ?_
    refine get_Q_size hx hb hts hinX3 hown hK hP (hts (.fieldLink RX3 21 "GrooveTurns$Requests" "size" "I") (by decide +kernel)) dX3_takesFirstDigit_11 ?_
    refine lv_iconst (v := 1) hx hb dX3_takesFirstDigit_14 (by decide) ?_
    refine lv_isub hx hb dX3_takesFirstDigit_15 ?_
    refine lv_iload_n hx hb dX3_takesFirstDigit_16 rfl (lv_at hl 1 rfl) ?_
    refine lv_bipush (v := 48) hx hb dX3_takesFirstDigit_17 (by decide) ?_
    refine lv_isub hx hb dX3_takesFirstDigit_19 ?_
    refine wrN (As := [.ref (α 1), .int ((q_sz σ) - 1), .int (p1 - 48)]) (rest := []) (c_X4_lay l G (α 1) 21 (q_ad σ) ((q_sz σ) - 1) (p1 - 48) (by decide)) hF (va_cnB (host := RX4) 3 hts gX3_takesFirstDigit_X4_lay_n61 rfl rfl rfl (hK.nest 11 rfl) (hts (.initialized RX4) (by decide +kernel)) (by decide +kernel) ⟨Nat.le_of_ble_eq_true rfl, Nat.le_of_ble_eq_true rfl⟩) (hts (.static yX4_lay) (by decide +kernel)) hK hP hD hS [1] (pl_Q_ad _ _ _) (pf_Q_ad _ _ _) rfl (by decide) rfl hl.1 rfl (Nat.le_of_ble_eq_true rfl) dX3_takesFirstDigit_20 ⟨Nat.zero_le _, Nat.zero_le _⟩ (fun H locs hP hD hS => ?_)
    rw [pset_Q_ad] at hP hD
    have hP : va_P G.1 vwCl (qW G.2.1 α (q_ad' σ (s_X4_lay 21 (q_ad σ) ((q_sz σ) - 1) (p1 - 48)))) H := hP
    have hD : va_D (inW w0) (qW G.2.1 α (q_ad' σ (s_X4_lay 21 (q_ad σ) ((q_sz σ) - 1) (p1 - 48)))) := hD
    refine lv_aload_n hx hb dX3_takesFirstDigit_23 rfl (lv_at hl 0 rfl) ?_
    refine lv_iload_n hx hb dX3_takesFirstDigit_24 rfl (lv_at hl 3 rfl) ?_
    refine put_Q_place hx hb hts hinX3 hown hK hP hD hS (hts (.fieldLink RX3 25 "GrooveTurns$Requests" "place" "I") (by decide +kernel)) dX3_takesFirstDigit_25 (fun H locs hP hD hS => ?_)
    have hP : va_P G.1 vwCl (qW G.2.1 α (t1_X3_takesFirstDigit_ad σ p1 p3)) H := hP
    have hD : va_D (inW w0) (qW G.2.1 α (t1_X3_takesFirstDigit_ad σ p1 p3)) := hD
    refine lv_iconst (v := 1) hx hb dX3_takesFirstDigit_28 (by decide) ?_
    have E9 : s_X3_takesFirstDigit_ad σ p1 p3 = (1, (t1_X3_takesFirstDigit_ad σ p1 p3)) := by rw [s_X3_takesFirstDigit_ad]; rw [if_neg c_1]
    rw [pr1 E9, pr2 E9]
    exact W.zret (ty := .boolean) hx hb hr rfl (fun t ht hW => ⟨rfl, by rw [ht]; exact hP, hS.F ht⟩) hS.2.2 dX3_takesFirstDigit_29
  · skip
    refine lv_iconst (v := 0) hx hb dX3_takesFirstDigit_7 (by decide) ?_
    have E9 : s_X3_takesFirstDigit_ad σ p1 p3 = (0, σ) := by rw [s_X3_takesFirstDigit_ad]; rw [if_pos c_1]
    rw [pr1 E9, pr2 E9]
    exact W.zret (ty := .boolean) hx hb hr rfl (fun t ht hW => ⟨rfl, by rw [ht]; exact hP, hS.F ht⟩) hS.2.2 dX3_takesFirstDigit_8
def t1_X3_takesFirstDigit_nu (σ : QS) (p1 : Int32) (p3 : Int32) : QS := (q_pl' (q_nu' σ (s_X4_lay 21 (q_nu σ) ((q_sz σ) - 1) (p1 - 48))) p3)
def s_X3_takesFirstDigit_nu (σ : QS) (p1 : Int32) (p3 : Int32) : Int32 × QS := (if (s_X3_isDigit p1) = 0 then (0, σ) else (1, (t1_X3_takesFirstDigit_nu σ p1 p3)))
theorem b_X3_takesFirstDigit_nu (σ : QS) (p1 : Int32) (p3 : Int32) : (s_X3_takesFirstDigit_nu σ p1 p3).1 = 0 ∨ (s_X3_takesFirstDigit_nu σ p1 p3).1 = 1 := by
  unfold s_X3_takesFirstDigit_nu
  by_cases c_1 : (s_X3_isDigit p1) = 0
  · skip
    rw [if_pos c_1]
    exact Or.inl rfl
  · skip
    rw [if_neg c_1]
    exact Or.inr rfl
set_option maxHeartbeats 4000000 in
set_option maxRecDepth 100000 in
theorem c_X3_takesFirstDigit_nu (l : Launch) (G : GG) (α : Nat → Nat) (σ : QS) (p1 : Int32) (p3 : Int32) : Wr G l yX3_takesFirstDigit wsX3_takesFirstDigit 1 22 [.ref (α 0), .int p1, .ref (α 2), .int p3] (qW G.2.1 α σ) (some (.int (s_X3_takesFirstDigit_nu σ p1 p3).1)) (qW G.2.1 α ((s_X3_takesFirstDigit_nu σ p1 p3).2)) := by
  refine Met.ofW (cc := cX3_takesFirstDigit) (maxL := 4) (ret := (some .boolean)) (by decide) rfl ?_
  intro p e s m args below meth c s₁ B hml hv
  obtain ⟨rfl, hP, hK, hD0⟩ := hv
  have C0 : cA p s m meth c ([.ref (α 0), .int p1, .ref (α 2), .int p3] : List Value).toArray cX3_takesFirstDigit 4 (some .boolean) wsX3_takesFirstDigit RX3 := ⟨B.exec, B.bytes, B.returns, hml, findClass_of_methodNamed B.named, atoms_spec (ws := wsX3_takesFirstDigit) B.pre, B.notSynchronized⟩
  obtain ⟨hx, hb, hr, hml, hown, hts, hlocks⟩ := id C0
  have hF : CallFix p m c cX3_takesFirstDigit 4 s _ wsX3_takesFirstDigit RX3 := ⟨hx, hb, hml, hown, hts⟩
  have hinX3 : ∀ w ∈ wsX30, w ∈ wsX3_takesFirstDigit := by decide +kernel
  obtain ⟨w0, hw0⟩ : ∃ w0 : va_W, w0 = (qW G.2.1 α σ) := ⟨_, rfl⟩
  have hD : va_D (inW w0) (qW G.2.1 α σ) := by rw [hw0]; exact inW.D hD0
  have hS : va_S (inW w0) s.heap s.heap [] := va_S.rf
  rw [show QW G (qW G.2.1 α σ) = QW G w0 from by rw [hw0], show inW (qW G.2.1 α σ) = inW w0 from by rw [hw0]]
  have hl := lv_entry ([.ref (α 0), .int p1, .ref (α 2), .int p3]) (n := 4) (Nat.le_of_ble_eq_true rfl)
  rw [lg_entry_eq]
  generalize (lg_sl ([.ref (α 0), .int p1, .ref (α 2), .int p3]) ++ List.replicate (4 - (lg_sl ([.ref (α 0), .int p1, .ref (α 2), .int p3])).length) Slot.unset).toArray = ls at hl ⊢
  have hl : lv_has ls 4 [(0, .ref (α 0)), (1, .int p1), (2, .ref (α 2)), (3, .int p3)] := hl
  refine lv_iload_n hx hb dX3_takesFirstDigit_0 rfl (lv_at hl 1 rfl) ?_
  refine rdS (As := [.int p1]) (rest := []) (c_X3_isDigit l G p1) hF (va_cwS 1 hts gX3_takesFirstDigit_X3_isDigit rfl rfl rfl (by decide +kernel) ⟨Nat.le_of_ble_eq_true rfl, Nat.le_of_ble_eq_true rfl⟩) hK va_P0 rfl hl.1 rfl (Nat.le_of_ble_eq_true rfl) dX3_takesFirstDigit_1 ⟨Nat.zero_le _, Nat.zero_le _⟩ ?_
  refine lv_if_ne (tgt := 9) hx hb dX3_takesFirstDigit_4 (by decide) (fun (c_1 : ¬ (s_X3_isDigit p1) = 0) => ?_) (fun (c_1 : (s_X3_isDigit p1) = 0) => ?_)
  · skip
    refine lv_aload_n hx hb dX3_takesFirstDigit_9 rfl (lv_at hl 2 rfl) ?_
    refine lv_aload_n hx hb dX3_takesFirstDigit_10 rfl (lv_at hl 0 rfl) ?_
    refine get_Q_size hx hb hts hinX3 hown hK hP (hts (.fieldLink RX3 21 "GrooveTurns$Requests" "size" "I") (by decide +kernel)) dX3_takesFirstDigit_11 ?_
    refine lv_iconst (v := 1) hx hb dX3_takesFirstDigit_14 (by decide) ?_
    refine lv_isub hx hb dX3_takesFirstDigit_15 ?_
    refine lv_iload_n hx hb dX3_takesFirstDigit_16 rfl (lv_at hl 1 rfl) ?_
    refine lv_bipush (v := 48) hx hb dX3_takesFirstDigit_17 (by decide) ?_
    refine lv_isub hx hb dX3_takesFirstDigit_19 ?_
    refine wrN (As := [.ref (α 2), .int ((q_sz σ) - 1), .int (p1 - 48)]) (rest := []) (c_X4_lay l G (α 2) 21 (q_nu σ) ((q_sz σ) - 1) (p1 - 48) (by decide)) hF (va_cnB (host := RX4) 3 hts gX3_takesFirstDigit_X4_lay_n61 rfl rfl rfl (hK.nest 11 rfl) (hts (.initialized RX4) (by decide +kernel)) (by decide +kernel) ⟨Nat.le_of_ble_eq_true rfl, Nat.le_of_ble_eq_true rfl⟩) (hts (.static yX4_lay) (by decide +kernel)) hK hP hD hS [2] (pl_Q_nu _ _ _) (pf_Q_nu _ _ _) rfl (by decide) rfl hl.1 rfl (Nat.le_of_ble_eq_true rfl) dX3_takesFirstDigit_20 ⟨Nat.zero_le _, Nat.zero_le _⟩ (fun H locs hP hD hS => ?_)
    rw [pset_Q_nu] at hP hD
    have hP : va_P G.1 vwCl (qW G.2.1 α (q_nu' σ (s_X4_lay 21 (q_nu σ) ((q_sz σ) - 1) (p1 - 48)))) H := hP
    have hD : va_D (inW w0) (qW G.2.1 α (q_nu' σ (s_X4_lay 21 (q_nu σ) ((q_sz σ) - 1) (p1 - 48)))) := hD
    refine lv_aload_n hx hb dX3_takesFirstDigit_23 rfl (lv_at hl 0 rfl) ?_
    refine lv_iload_n hx hb dX3_takesFirstDigit_24 rfl (lv_at hl 3 rfl) ?_
    refine put_Q_place hx hb hts hinX3 hown hK hP hD hS (hts (.fieldLink RX3 25 "GrooveTurns$Requests" "place" "I") (by decide +kernel)) dX3_takesFirstDigit_25 (fun H locs hP hD hS => ?_)
    have hP : va_P G.1 vwCl (qW G.2.1 α (t1_X3_takesFirstDigit_nu σ p1 p3)) H := hP
    have hD : va_D (inW w0) (qW G.2.1 α (t1_X3_takesFirstDigit_nu σ p1 p3)) := hD
    refine lv_iconst (v := 1) hx hb dX3_takesFirstDigit_28 (by decide) ?_
    have E9 : s_X3_takesFirstDigit_nu σ p1 p3 = (1, (t1_X3_takesFirstDigit_nu σ p1 p3)) := by rw [s_X3_takesFirstDigit_nu]; rw [if_neg c_1]
    rw [pr1 E9, pr2 E9]
    exact W.zret (ty := .boolean) hx hb hr rfl (fun t ht hW => ⟨rfl, by rw [ht]; exact hP, hS.F ht⟩) hS.2.2 dX3_takesFirstDigit_29
  · skip
    refine lv_iconst (v := 0) hx hb dX3_takesFirstDigit_7 (by decide) ?_
    have E9 : s_X3_takesFirstDigit_nu σ p1 p3 = (0, σ) := by rw [s_X3_takesFirstDigit_nu]; rw [if_pos c_1]
    rw [pr1 E9, pr2 E9]
    exact W.zret (ty := .boolean) hx hb hr rfl (fun t ht hW => ⟨rfl, by rw [ht]; exact hP, hS.F ht⟩) hS.2.2 dX3_takesFirstDigit_8
def t1_X3_takesDigit_ad (σ : QS) (p1 : Int32) (p3 : Int32) : QS := (q_ad' σ (s_X4_lay 21 (q_ad σ) ((q_sz σ) - 1) (((s_X4_at 21 (q_ad σ) ((q_sz σ) - 1)) * 10) + (p1 - 48))))
def s_X3_takesDigit_ad (σ : QS) (p1 : Int32) (p3 : Int32) : Int32 × QS := (if (s_X3_isDigit p1) = 0 then (0, σ) else (if (s_X4_at 21 (q_ad σ) ((q_sz σ) - 1)) = 0 then (0, σ) else (if (((s_X4_at 21 (q_ad σ) ((q_sz σ) - 1)) * 10) + (p1 - 48)) ≤ p3 then (1, (t1_X3_takesDigit_ad σ p1 p3)) else (0, σ))))
theorem b_X3_takesDigit_ad (σ : QS) (p1 : Int32) (p3 : Int32) : (s_X3_takesDigit_ad σ p1 p3).1 = 0 ∨ (s_X3_takesDigit_ad σ p1 p3).1 = 1 := by
  unfold s_X3_takesDigit_ad
  by_cases c_1 : (s_X3_isDigit p1) = 0
  · skip
    rw [if_pos c_1]
    exact Or.inl rfl
  · skip
    by_cases c_2 : (s_X4_at 21 (q_ad σ) ((q_sz σ) - 1)) = 0
    · skip
      rw [if_neg c_1, if_pos c_2]
      exact Or.inl rfl
    · skip
      by_cases c_3 : (((s_X4_at 21 (q_ad σ) ((q_sz σ) - 1)) * 10) + (p1 - 48)) ≤ p3
      · skip
        rw [if_neg c_1, if_neg c_2, if_pos c_3]
        exact Or.inr rfl
      · skip
        rw [if_neg c_1, if_neg c_2, if_neg c_3]
        exact Or.inl rfl
set_option maxHeartbeats 4000000 in
set_option maxRecDepth 100000 in
theorem c_X3_takesDigit_ad (l : Launch) (G : GG) (α : Nat → Nat) (σ : QS) (p1 : Int32) (p3 : Int32) : Wr G l yX3_takesDigit wsX3_takesDigit 1 22 [.ref (α 0), .int p1, .ref (α 1), .int p3] (qW G.2.1 α σ) (some (.int (s_X3_takesDigit_ad σ p1 p3).1)) (qW G.2.1 α ((s_X3_takesDigit_ad σ p1 p3).2)) := by
  refine Met.ofW (cc := cX3_takesDigit) (maxL := 6) (ret := (some .boolean)) (by decide) rfl ?_
  intro p e s m args below meth c s₁ B hml hv
  obtain ⟨rfl, hP, hK, hD0⟩ := hv
  have C0 : cA p s m meth c ([.ref (α 0), .int p1, .ref (α 1), .int p3] : List Value).toArray cX3_takesDigit 6 (some .boolean) wsX3_takesDigit RX3 := ⟨B.exec, B.bytes, B.returns, hml, findClass_of_methodNamed B.named, atoms_spec (ws := wsX3_takesDigit) B.pre, B.notSynchronized⟩
  obtain ⟨hx, hb, hr, hml, hown, hts, hlocks⟩ := id C0
  have hF : CallFix p m c cX3_takesDigit 6 s _ wsX3_takesDigit RX3 := ⟨hx, hb, hml, hown, hts⟩
  have hinX3 : ∀ w ∈ wsX30, w ∈ wsX3_takesDigit := by decide +kernel
  obtain ⟨w0, hw0⟩ : ∃ w0 : va_W, w0 = (qW G.2.1 α σ) := ⟨_, rfl⟩
  have hD : va_D (inW w0) (qW G.2.1 α σ) := by rw [hw0]; exact inW.D hD0
  have hS : va_S (inW w0) s.heap s.heap [] := va_S.rf
  rw [show QW G (qW G.2.1 α σ) = QW G w0 from by rw [hw0], show inW (qW G.2.1 α σ) = inW w0 from by rw [hw0]]
  have hl := lv_entry ([.ref (α 0), .int p1, .ref (α 1), .int p3]) (n := 6) (Nat.le_of_ble_eq_true rfl)
  rw [lg_entry_eq]
  generalize (lg_sl ([.ref (α 0), .int p1, .ref (α 1), .int p3]) ++ List.replicate (6 - (lg_sl ([.ref (α 0), .int p1, .ref (α 1), .int p3])).length) Slot.unset).toArray = ls at hl ⊢
  have hl : lv_has ls 6 [(0, .ref (α 0)), (1, .int p1), (2, .ref (α 1)), (3, .int p3)] := hl
  refine lv_aload_n hx hb dX3_takesDigit_0 rfl (lv_at hl 2 rfl) ?_
  refine lv_aload_n hx hb dX3_takesDigit_1 rfl (lv_at hl 0 rfl) ?_
  refine get_Q_size hx hb hts hinX3 hown hK hP (hts (.fieldLink RX3 21 "GrooveTurns$Requests" "size" "I") (by decide +kernel)) dX3_takesDigit_2 ?_
  refine lv_iconst (v := 1) hx hb dX3_takesDigit_5 (by decide) ?_
  refine lv_isub hx hb dX3_takesDigit_6 ?_
  refine rdN (As := [.ref (α 1), .int ((q_sz σ) - 1)]) (rest := []) (c_X4_at l G (α 1) 21 (q_ad σ) ((q_sz σ) - 1) (by decide)) hF (va_cnB (host := RX4) 2 hts gX3_takesDigit_X4_at_n68 rfl rfl rfl (hK.nest 12 rfl) (hts (.initialized RX4) (by decide +kernel)) (by decide +kernel) ⟨Nat.le_of_ble_eq_true rfl, Nat.le_of_ble_eq_true rfl⟩) (hts (.static yX4_at) (by decide +kernel)) hK (cell_Q_ad hP) rfl hl.1 rfl (Nat.le_of_ble_eq_true rfl) dX3_takesDigit_7 ⟨Nat.zero_le _, Nat.zero_le _⟩ ?_
  refine lv_istore (lv' := [(4, .int (s_X4_at 21 (q_ad σ) ((q_sz σ) - 1))), (0, .ref (α 0)), (1, .int p1), (2, .ref (α 1)), (3, .int p3)]) hx hb dX3_takesDigit_10 hl (by decide) rfl (fun ls hl => ?_)
  refine lv_iload hx hb dX3_takesDigit_12 (lv_at hl 0 rfl) ?_
  refine lv_bipush (v := 10) hx hb dX3_takesDigit_14 (by decide) ?_
  refine lv_imul hx hb dX3_takesDigit_16 ?_
  refine lv_iload_n hx hb dX3_takesDigit_17 rfl (lv_at hl 2 rfl) ?_
  refine lv_bipush (v := 48) hx hb dX3_takesDigit_18 (by decide) ?_
  refine lv_isub hx hb dX3_takesDigit_20 ?_
  refine lv_iadd hx hb dX3_takesDigit_21 ?_
  refine lv_istore (lv' := [(5, .int (((s_X4_at 21 (q_ad σ) ((q_sz σ) - 1)) * 10) + (p1 - 48))), (4, .int (s_X4_at 21 (q_ad σ) ((q_sz σ) - 1))), (0, .ref (α 0)), (1, .int p1), (2, .ref (α 1)), (3, .int p3)]) hx hb dX3_takesDigit_22 hl (by decide) rfl (fun ls hl => ?_)
  refine lv_iload_n hx hb dX3_takesDigit_24 rfl (lv_at hl 3 rfl) ?_
  refine rdS (As := [.int p1]) (rest := []) (c_X3_isDigit l G p1) hF (va_cwS 1 hts gX3_takesDigit_X3_isDigit rfl rfl rfl (by decide +kernel) ⟨Nat.le_of_ble_eq_true rfl, Nat.le_of_ble_eq_true rfl⟩) hK va_P0 rfl hl.1 rfl (Nat.le_of_ble_eq_true rfl) dX3_takesDigit_25 ⟨Nat.zero_le _, Nat.zero_le _⟩ ?_
  refine lv_if_eq (tgt := 42) hx hb dX3_takesDigit_28 (by decide) (fun (c_1 : (s_X3_isDigit p1) = 0) => ?_) (fun (c_1 : ¬ (s_X3_isDigit p1) = 0) => ?_)
  · skip
    refine lv_iconst (v := 0) hx hb dX3_takesDigit_42 (by decide) ?_
    have E9 : s_X3_takesDigit_ad σ p1 p3 = (0, σ) := by rw [s_X3_takesDigit_ad]; rw [if_pos c_1]
    rw [pr1 E9, pr2 E9]
    exact W.zret (ty := .boolean) hx hb hr rfl (fun t ht hW => ⟨rfl, by rw [ht]; exact hP, hS.F ht⟩) hS.2.2 dX3_takesDigit_43
  · skip
    refine lv_iload hx hb dX3_takesDigit_31 (lv_at hl 1 rfl) ?_
    refine lv_if_eq (tgt := 42) hx hb dX3_takesDigit_33 (by decide) (fun (c_2 : (s_X4_at 21 (q_ad σ) ((q_sz σ) - 1)) = 0) => ?_) (fun (c_2 : ¬ (s_X4_at 21 (q_ad σ) ((q_sz σ) - 1)) = 0) => ?_)
    · skip
      refine lv_iconst (v := 0) hx hb dX3_takesDigit_42 (by decide) ?_
      have E9 : s_X3_takesDigit_ad σ p1 p3 = (0, σ) := by rw [s_X3_takesDigit_ad]; rw [if_neg c_1, if_pos c_2]
      rw [pr1 E9, pr2 E9]
      exact W.zret (ty := .boolean) hx hb hr rfl (fun t ht hW => ⟨rfl, by rw [ht]; exact hP, hS.F ht⟩) hS.2.2 dX3_takesDigit_43
    · skip
      refine lv_iload hx hb dX3_takesDigit_36 (lv_at hl 0 rfl) ?_
      refine lv_iload_n hx hb dX3_takesDigit_38 rfl (lv_at hl 5 rfl) ?_
      refine lv_icmp_le (tgt := 44) hx hb dX3_takesDigit_39 (by decide) (fun (c_3 : (((s_X4_at 21 (q_ad σ) ((q_sz σ) - 1)) * 10) + (p1 - 48)) ≤ p3) => ?_) (fun (c_3 : ¬ (((s_X4_at 21 (q_ad σ) ((q_sz σ) - 1)) * 10) + (p1 - 48)) ≤ p3) => ?_)
      · skip
        refine lv_aload_n hx hb dX3_takesDigit_44 rfl (lv_at hl 4 rfl) ?_
        refine lv_aload_n hx hb dX3_takesDigit_45 rfl (lv_at hl 2 rfl) ?_
        refine get_Q_size hx hb hts hinX3 hown hK hP (hts (.fieldLink RX3 21 "GrooveTurns$Requests" "size" "I") (by decide +kernel)) dX3_takesDigit_46 ?_
        refine lv_iconst (v := 1) hx hb dX3_takesDigit_49 (by decide) ?_
        refine lv_isub hx hb dX3_takesDigit_50 ?_
        refine lv_iload hx hb dX3_takesDigit_51 (lv_at hl 0 rfl) ?_
        refine wrN (As := [.ref (α 1), .int ((q_sz σ) - 1), .int (((s_X4_at 21 (q_ad σ) ((q_sz σ) - 1)) * 10) + (p1 - 48))]) (rest := []) (c_X4_lay l G (α 1) 21 (q_ad σ) ((q_sz σ) - 1) (((s_X4_at 21 (q_ad σ) ((q_sz σ) - 1)) * 10) + (p1 - 48)) (by decide)) hF (va_cnB (host := RX4) 3 hts gX3_takesDigit_X4_lay_n61 rfl rfl rfl (hK.nest 11 rfl) (hts (.initialized RX4) (by decide +kernel)) (by decide +kernel) ⟨Nat.le_of_ble_eq_true rfl, Nat.le_of_ble_eq_true rfl⟩) (hts (.static yX4_lay) (by decide +kernel)) hK hP hD hS [1] (pl_Q_ad _ _ _) (pf_Q_ad _ _ _) rfl (by decide) rfl hl.1 rfl (Nat.le_of_ble_eq_true rfl) dX3_takesDigit_53 ⟨Nat.zero_le _, Nat.zero_le _⟩ (fun H locs hP hD hS => ?_)
        rw [pset_Q_ad] at hP hD
        have hP : va_P G.1 vwCl (qW G.2.1 α (t1_X3_takesDigit_ad σ p1 p3)) H := hP
        have hD : va_D (inW w0) (qW G.2.1 α (t1_X3_takesDigit_ad σ p1 p3)) := hD
        refine lv_iconst (v := 1) hx hb dX3_takesDigit_56 (by decide) ?_
        have E9 : s_X3_takesDigit_ad σ p1 p3 = (1, (t1_X3_takesDigit_ad σ p1 p3)) := by rw [s_X3_takesDigit_ad]; rw [if_neg c_1, if_neg c_2, if_pos c_3]
        rw [pr1 E9, pr2 E9]
        exact W.zret (ty := .boolean) hx hb hr rfl (fun t ht hW => ⟨rfl, by rw [ht]; exact hP, hS.F ht⟩) hS.2.2 dX3_takesDigit_57
      · skip
        refine lv_iconst (v := 0) hx hb dX3_takesDigit_42 (by decide) ?_
        have E9 : s_X3_takesDigit_ad σ p1 p3 = (0, σ) := by rw [s_X3_takesDigit_ad]; rw [if_neg c_1, if_neg c_2, if_neg c_3]
        rw [pr1 E9, pr2 E9]
        exact W.zret (ty := .boolean) hx hb hr rfl (fun t ht hW => ⟨rfl, by rw [ht]; exact hP, hS.F ht⟩) hS.2.2 dX3_takesDigit_43
def t1_X3_takesDigit_nu (σ : QS) (p1 : Int32) (p3 : Int32) : QS := (q_nu' σ (s_X4_lay 21 (q_nu σ) ((q_sz σ) - 1) (((s_X4_at 21 (q_nu σ) ((q_sz σ) - 1)) * 10) + (p1 - 48))))
def s_X3_takesDigit_nu (σ : QS) (p1 : Int32) (p3 : Int32) : Int32 × QS := (if (s_X3_isDigit p1) = 0 then (0, σ) else (if (s_X4_at 21 (q_nu σ) ((q_sz σ) - 1)) = 0 then (0, σ) else (if (((s_X4_at 21 (q_nu σ) ((q_sz σ) - 1)) * 10) + (p1 - 48)) ≤ p3 then (1, (t1_X3_takesDigit_nu σ p1 p3)) else (0, σ))))
theorem b_X3_takesDigit_nu (σ : QS) (p1 : Int32) (p3 : Int32) : (s_X3_takesDigit_nu σ p1 p3).1 = 0 ∨ (s_X3_takesDigit_nu σ p1 p3).1 = 1 := by
  unfold s_X3_takesDigit_nu
  by_cases c_1 : (s_X3_isDigit p1) = 0
  · skip
    rw [if_pos c_1]
    exact Or.inl rfl
  · skip
    by_cases c_2 : (s_X4_at 21 (q_nu σ) ((q_sz σ) - 1)) = 0
    · skip
      rw [if_neg c_1, if_pos c_2]
      exact Or.inl rfl
    · skip
      by_cases c_3 : (((s_X4_at 21 (q_nu σ) ((q_sz σ) - 1)) * 10) + (p1 - 48)) ≤ p3
      · skip
        rw [if_neg c_1, if_neg c_2, if_pos c_3]
        exact Or.inr rfl
      · skip
        rw [if_neg c_1, if_neg c_2, if_neg c_3]
        exact Or.inl rfl
set_option maxHeartbeats 4000000 in
set_option maxRecDepth 100000 in
theorem c_X3_takesDigit_nu (l : Launch) (G : GG) (α : Nat → Nat) (σ : QS) (p1 : Int32) (p3 : Int32) : Wr G l yX3_takesDigit wsX3_takesDigit 1 22 [.ref (α 0), .int p1, .ref (α 2), .int p3] (qW G.2.1 α σ) (some (.int (s_X3_takesDigit_nu σ p1 p3).1)) (qW G.2.1 α ((s_X3_takesDigit_nu σ p1 p3).2)) := by
  refine Met.ofW (cc := cX3_takesDigit) (maxL := 6) (ret := (some .boolean)) (by decide) rfl ?_
  intro p e s m args below meth c s₁ B hml hv
  obtain ⟨rfl, hP, hK, hD0⟩ := hv
  have C0 : cA p s m meth c ([.ref (α 0), .int p1, .ref (α 2), .int p3] : List Value).toArray cX3_takesDigit 6 (some .boolean) wsX3_takesDigit RX3 := ⟨B.exec, B.bytes, B.returns, hml, findClass_of_methodNamed B.named, atoms_spec (ws := wsX3_takesDigit) B.pre, B.notSynchronized⟩
  obtain ⟨hx, hb, hr, hml, hown, hts, hlocks⟩ := id C0
  have hF : CallFix p m c cX3_takesDigit 6 s _ wsX3_takesDigit RX3 := ⟨hx, hb, hml, hown, hts⟩
  have hinX3 : ∀ w ∈ wsX30, w ∈ wsX3_takesDigit := by decide +kernel
  obtain ⟨w0, hw0⟩ : ∃ w0 : va_W, w0 = (qW G.2.1 α σ) := ⟨_, rfl⟩
  have hD : va_D (inW w0) (qW G.2.1 α σ) := by rw [hw0]; exact inW.D hD0
  have hS : va_S (inW w0) s.heap s.heap [] := va_S.rf
  rw [show QW G (qW G.2.1 α σ) = QW G w0 from by rw [hw0], show inW (qW G.2.1 α σ) = inW w0 from by rw [hw0]]
  have hl := lv_entry ([.ref (α 0), .int p1, .ref (α 2), .int p3]) (n := 6) (Nat.le_of_ble_eq_true rfl)
  rw [lg_entry_eq]
  generalize (lg_sl ([.ref (α 0), .int p1, .ref (α 2), .int p3]) ++ List.replicate (6 - (lg_sl ([.ref (α 0), .int p1, .ref (α 2), .int p3])).length) Slot.unset).toArray = ls at hl ⊢
  have hl : lv_has ls 6 [(0, .ref (α 0)), (1, .int p1), (2, .ref (α 2)), (3, .int p3)] := hl
  refine lv_aload_n hx hb dX3_takesDigit_0 rfl (lv_at hl 2 rfl) ?_
  refine lv_aload_n hx hb dX3_takesDigit_1 rfl (lv_at hl 0 rfl) ?_
  refine get_Q_size hx hb hts hinX3 hown hK hP (hts (.fieldLink RX3 21 "GrooveTurns$Requests" "size" "I") (by decide +kernel)) dX3_takesDigit_2 ?_
  refine lv_iconst (v := 1) hx hb dX3_takesDigit_5 (by decide) ?_
  refine lv_isub hx hb dX3_takesDigit_6 ?_
  refine rdN (As := [.ref (α 2), .int ((q_sz σ) - 1)]) (rest := []) (c_X4_at l G (α 2) 21 (q_nu σ) ((q_sz σ) - 1) (by decide)) hF (va_cnB (host := RX4) 2 hts gX3_takesDigit_X4_at_n68 rfl rfl rfl (hK.nest 12 rfl) (hts (.initialized RX4) (by decide +kernel)) (by decide +kernel) ⟨Nat.le_of_ble_eq_true rfl, Nat.le_of_ble_eq_true rfl⟩) (hts (.static yX4_at) (by decide +kernel)) hK (cell_Q_nu hP) rfl hl.1 rfl (Nat.le_of_ble_eq_true rfl) dX3_takesDigit_7 ⟨Nat.zero_le _, Nat.zero_le _⟩ ?_
  refine lv_istore (lv' := [(4, .int (s_X4_at 21 (q_nu σ) ((q_sz σ) - 1))), (0, .ref (α 0)), (1, .int p1), (2, .ref (α 2)), (3, .int p3)]) hx hb dX3_takesDigit_10 hl (by decide) rfl (fun ls hl => ?_)
  refine lv_iload hx hb dX3_takesDigit_12 (lv_at hl 0 rfl) ?_
  refine lv_bipush (v := 10) hx hb dX3_takesDigit_14 (by decide) ?_
  refine lv_imul hx hb dX3_takesDigit_16 ?_
  refine lv_iload_n hx hb dX3_takesDigit_17 rfl (lv_at hl 2 rfl) ?_
  refine lv_bipush (v := 48) hx hb dX3_takesDigit_18 (by decide) ?_
  refine lv_isub hx hb dX3_takesDigit_20 ?_
  refine lv_iadd hx hb dX3_takesDigit_21 ?_
  refine lv_istore (lv' := [(5, .int (((s_X4_at 21 (q_nu σ) ((q_sz σ) - 1)) * 10) + (p1 - 48))), (4, .int (s_X4_at 21 (q_nu σ) ((q_sz σ) - 1))), (0, .ref (α 0)), (1, .int p1), (2, .ref (α 2)), (3, .int p3)]) hx hb dX3_takesDigit_22 hl (by decide) rfl (fun ls hl => ?_)
  refine lv_iload_n hx hb dX3_takesDigit_24 rfl (lv_at hl 3 rfl) ?_
  refine rdS (As := [.int p1]) (rest := []) (c_X3_isDigit l G p1) hF (va_cwS 1 hts gX3_takesDigit_X3_isDigit rfl rfl rfl (by decide +kernel) ⟨Nat.le_of_ble_eq_true rfl, Nat.le_of_ble_eq_true rfl⟩) hK va_P0 rfl hl.1 rfl (Nat.le_of_ble_eq_true rfl) dX3_takesDigit_25 ⟨Nat.zero_le _, Nat.zero_le _⟩ ?_
  refine lv_if_eq (tgt := 42) hx hb dX3_takesDigit_28 (by decide) (fun (c_1 : (s_X3_isDigit p1) = 0) => ?_) (fun (c_1 : ¬ (s_X3_isDigit p1) = 0) => ?_)
  · skip
    refine lv_iconst (v := 0) hx hb dX3_takesDigit_42 (by decide) ?_
    have E9 : s_X3_takesDigit_nu σ p1 p3 = (0, σ) := by rw [s_X3_takesDigit_nu]; rw [if_pos c_1]
    rw [pr1 E9, pr2 E9]
    exact W.zret (ty := .boolean) hx hb hr rfl (fun t ht hW => ⟨rfl, by rw [ht]; exact hP, hS.F ht⟩) hS.2.2 dX3_takesDigit_43
  · skip
    refine lv_iload hx hb dX3_takesDigit_31 (lv_at hl 1 rfl) ?_
    refine lv_if_eq (tgt := 42) hx hb dX3_takesDigit_33 (by decide) (fun (c_2 : (s_X4_at 21 (q_nu σ) ((q_sz σ) - 1)) = 0) => ?_) (fun (c_2 : ¬ (s_X4_at 21 (q_nu σ) ((q_sz σ) - 1)) = 0) => ?_)
    · skip
      refine lv_iconst (v := 0) hx hb dX3_takesDigit_42 (by decide) ?_
      have E9 : s_X3_takesDigit_nu σ p1 p3 = (0, σ) := by rw [s_X3_takesDigit_nu]; rw [if_neg c_1, if_pos c_2]
      rw [pr1 E9, pr2 E9]
      exact W.zret (ty := .boolean) hx hb hr rfl (fun t ht hW => ⟨rfl, by rw [ht]; exact hP, hS.F ht⟩) hS.2.2 dX3_takesDigit_43
    · skip
      refine lv_iload hx hb dX3_takesDigit_36 (lv_at hl 0 rfl) ?_
      refine lv_iload_n hx hb dX3_takesDigit_38 rfl (lv_at hl 5 rfl) ?_
      refine lv_icmp_le (tgt := 44) hx hb dX3_takesDigit_39 (by decide) (fun (c_3 : (((s_X4_at 21 (q_nu σ) ((q_sz σ) - 1)) * 10) + (p1 - 48)) ≤ p3) => ?_) (fun (c_3 : ¬ (((s_X4_at 21 (q_nu σ) ((q_sz σ) - 1)) * 10) + (p1 - 48)) ≤ p3) => ?_)
      · skip
        refine lv_aload_n hx hb dX3_takesDigit_44 rfl (lv_at hl 4 rfl) ?_
        refine lv_aload_n hx hb dX3_takesDigit_45 rfl (lv_at hl 2 rfl) ?_
        refine get_Q_size hx hb hts hinX3 hown hK hP (hts (.fieldLink RX3 21 "GrooveTurns$Requests" "size" "I") (by decide +kernel)) dX3_takesDigit_46 ?_
        refine lv_iconst (v := 1) hx hb dX3_takesDigit_49 (by decide) ?_
        refine lv_isub hx hb dX3_takesDigit_50 ?_
        refine lv_iload hx hb dX3_takesDigit_51 (lv_at hl 0 rfl) ?_
        refine wrN (As := [.ref (α 2), .int ((q_sz σ) - 1), .int (((s_X4_at 21 (q_nu σ) ((q_sz σ) - 1)) * 10) + (p1 - 48))]) (rest := []) (c_X4_lay l G (α 2) 21 (q_nu σ) ((q_sz σ) - 1) (((s_X4_at 21 (q_nu σ) ((q_sz σ) - 1)) * 10) + (p1 - 48)) (by decide)) hF (va_cnB (host := RX4) 3 hts gX3_takesDigit_X4_lay_n61 rfl rfl rfl (hK.nest 11 rfl) (hts (.initialized RX4) (by decide +kernel)) (by decide +kernel) ⟨Nat.le_of_ble_eq_true rfl, Nat.le_of_ble_eq_true rfl⟩) (hts (.static yX4_lay) (by decide +kernel)) hK hP hD hS [2] (pl_Q_nu _ _ _) (pf_Q_nu _ _ _) rfl (by decide) rfl hl.1 rfl (Nat.le_of_ble_eq_true rfl) dX3_takesDigit_53 ⟨Nat.zero_le _, Nat.zero_le _⟩ (fun H locs hP hD hS => ?_)
        rw [pset_Q_nu] at hP hD
        have hP : va_P G.1 vwCl (qW G.2.1 α (t1_X3_takesDigit_nu σ p1 p3)) H := hP
        have hD : va_D (inW w0) (qW G.2.1 α (t1_X3_takesDigit_nu σ p1 p3)) := hD
        refine lv_iconst (v := 1) hx hb dX3_takesDigit_56 (by decide) ?_
        have E9 : s_X3_takesDigit_nu σ p1 p3 = (1, (t1_X3_takesDigit_nu σ p1 p3)) := by rw [s_X3_takesDigit_nu]; rw [if_neg c_1, if_neg c_2, if_pos c_3]
        rw [pr1 E9, pr2 E9]
        exact W.zret (ty := .boolean) hx hb hr rfl (fun t ht hW => ⟨rfl, by rw [ht]; exact hP, hS.F ht⟩) hS.2.2 dX3_takesDigit_57
      · skip
        refine lv_iconst (v := 0) hx hb dX3_takesDigit_42 (by decide) ?_
        have E9 : s_X3_takesDigit_nu σ p1 p3 = (0, σ) := by rw [s_X3_takesDigit_nu]; rw [if_neg c_1, if_neg c_2, if_neg c_3]
        rw [pr1 E9, pr2 E9]
        exact W.zret (ty := .boolean) hx hb hr rfl (fun t ht hW => ⟨rfl, by rw [ht]; exact hP, hS.F ht⟩) hS.2.2 dX3_takesDigit_43
def s_X3_takesEndOfAddress (σ : QS) (p1 : Int32) : Int32 × QS := (if (s_X3_isWriting σ ((q_sz σ) - 1)) = 0 then (((s_X3_takesMark σ p1 59 0).1), ((s_X3_takesMark σ p1 59 0).2)) else (((s_X3_takesMark σ p1 61 3).1), ((s_X3_takesMark σ p1 61 3).2)))
theorem b_X3_takesEndOfAddress (σ : QS) (p1 : Int32) : (s_X3_takesEndOfAddress σ p1).1 = 0 ∨ (s_X3_takesEndOfAddress σ p1).1 = 1 := by
  unfold s_X3_takesEndOfAddress
  by_cases c_1 : (s_X3_isWriting σ ((q_sz σ) - 1)) = 0
  · skip
    rw [if_pos c_1]
    exact b_X3_takesMark σ p1 59 0
  · skip
    rw [if_neg c_1]
    exact b_X3_takesMark σ p1 61 3
set_option maxHeartbeats 4000000 in
set_option maxRecDepth 100000 in
theorem c_X3_takesEndOfAddress (l : Launch) (G : GG) (α : Nat → Nat) (σ : QS) (p1 : Int32) : Wr G l yX3_takesEndOfAddress wsX3_takesEndOfAddress 2 42 [.ref (α 0), .int p1] (qW G.2.1 α σ) (some (.int (s_X3_takesEndOfAddress σ p1).1)) (qW G.2.1 α ((s_X3_takesEndOfAddress σ p1).2)) := by
  refine Met.ofW (cc := cX3_takesEndOfAddress) (maxL := 2) (ret := (some .boolean)) (by decide) rfl ?_
  intro p e s m args below meth c s₁ B hml hv
  obtain ⟨rfl, hP, hK, hD0⟩ := hv
  have C0 : cA p s m meth c ([.ref (α 0), .int p1] : List Value).toArray cX3_takesEndOfAddress 2 (some .boolean) wsX3_takesEndOfAddress RX3 := ⟨B.exec, B.bytes, B.returns, hml, findClass_of_methodNamed B.named, atoms_spec (ws := wsX3_takesEndOfAddress) B.pre, B.notSynchronized⟩
  obtain ⟨hx, hb, hr, hml, hown, hts, hlocks⟩ := id C0
  have hF : CallFix p m c cX3_takesEndOfAddress 2 s _ wsX3_takesEndOfAddress RX3 := ⟨hx, hb, hml, hown, hts⟩
  have hinX3 : ∀ w ∈ wsX30, w ∈ wsX3_takesEndOfAddress := by decide +kernel
  obtain ⟨w0, hw0⟩ : ∃ w0 : va_W, w0 = (qW G.2.1 α σ) := ⟨_, rfl⟩
  have hD : va_D (inW w0) (qW G.2.1 α σ) := by rw [hw0]; exact inW.D hD0
  have hS : va_S (inW w0) s.heap s.heap [] := va_S.rf
  rw [show QW G (qW G.2.1 α σ) = QW G w0 from by rw [hw0], show inW (qW G.2.1 α σ) = inW w0 from by rw [hw0]]
  have hl := lv_entry ([.ref (α 0), .int p1]) (n := 2) (Nat.le_of_ble_eq_true rfl)
  rw [lg_entry_eq]
  generalize (lg_sl ([.ref (α 0), .int p1]) ++ List.replicate (2 - (lg_sl ([.ref (α 0), .int p1])).length) Slot.unset).toArray = ls at hl ⊢
  have hl : lv_has ls 2 [(0, .ref (α 0)), (1, .int p1)] := hl
  refine lv_aload_n hx hb dX3_takesEndOfAddress_0 rfl (lv_at hl 0 rfl) ?_
  refine lv_aload_n hx hb dX3_takesEndOfAddress_1 rfl (lv_at hl 0 rfl) ?_
  refine get_Q_size hx hb hts hinX3 hown hK hP (hts (.fieldLink RX3 21 "GrooveTurns$Requests" "size" "I") (by decide +kernel)) dX3_takesEndOfAddress_2 ?_
  refine lv_iconst (v := 1) hx hb dX3_takesEndOfAddress_5 (by decide) ?_
  refine lv_isub hx hb dX3_takesEndOfAddress_6 ?_
  refine rdV (As := [.int ((q_sz σ) - 1)]) (rest := []) (c_X3_isWriting l G α σ ((q_sz σ) - 1)) hF (cwV 1 hts gX3_takesEndOfAddress_X3_isWriting rfl rfl rfl (by decide +kernel) ⟨Nat.le_of_ble_eq_true rfl, Nat.le_of_ble_eq_true rfl⟩) (rcv_Q hK hP) hK hP rfl hl.1 rfl (Nat.le_of_ble_eq_true rfl) dX3_takesEndOfAddress_7 ⟨Nat.zero_le _, Nat.zero_le _⟩ ?_
  refine lv_if_eq (tgt := 24) hx hb dX3_takesEndOfAddress_10 (by decide) (fun (c_1 : (s_X3_isWriting σ ((q_sz σ) - 1)) = 0) => ?_) (fun (c_1 : ¬ (s_X3_isWriting σ ((q_sz σ) - 1)) = 0) => ?_)
  · skip
    refine lv_aload_n hx hb dX3_takesEndOfAddress_24 rfl (lv_at hl 0 rfl) ?_
    refine lv_iload_n hx hb dX3_takesEndOfAddress_25 rfl (lv_at hl 1 rfl) ?_
    refine lv_bipush (v := 59) hx hb dX3_takesEndOfAddress_26 (by decide) ?_
    refine lv_iconst (v := 0) hx hb dX3_takesEndOfAddress_28 (by decide) ?_
    refine wrV0 (As := [.int p1, .int 59, .int 0]) (rest := []) (c_X3_takesMark l G α σ p1 59 0) hF (cwV 3 hts gX3_takesEndOfAddress_X3_takesMark rfl rfl rfl (by decide +kernel) ⟨Nat.le_of_ble_eq_true rfl, Nat.le_of_ble_eq_true rfl⟩) (rcv_Q hK hP) hK hP hD hS (fst_Q _ _) rfl hl.1 rfl (Nat.le_of_ble_eq_true rfl) dX3_takesEndOfAddress_29 ⟨Nat.zero_le _, Nat.zero_le _⟩ (fun H locs hP hD hS => ?_)
    have hP : va_P G.1 vwCl (qW G.2.1 α ((s_X3_takesMark σ p1 59 0).2)) H := hP
    have hD : va_D (inW w0) (qW G.2.1 α ((s_X3_takesMark σ p1 59 0).2)) := hD
    have E9 : s_X3_takesEndOfAddress σ p1 = (((s_X3_takesMark σ p1 59 0).1), ((s_X3_takesMark σ p1 59 0).2)) := by rw [s_X3_takesEndOfAddress]; rw [if_pos c_1]
    rw [pr1 E9, pr2 E9]
    exact W.zret (ty := .boolean) hx hb hr (nbool (b_X3_takesMark _ _ _ _)) (fun t ht hW => ⟨rfl, by rw [ht]; exact hP, hS.F ht⟩) hS.2.2 dX3_takesEndOfAddress_32
  · skip
    refine lv_aload_n hx hb dX3_takesEndOfAddress_13 rfl (lv_at hl 0 rfl) ?_
    refine lv_iload_n hx hb dX3_takesEndOfAddress_14 rfl (lv_at hl 1 rfl) ?_
    refine lv_bipush (v := 61) hx hb dX3_takesEndOfAddress_15 (by decide) ?_
    refine lv_iconst (v := 3) hx hb dX3_takesEndOfAddress_17 (by decide) ?_
    refine wrV0 (As := [.int p1, .int 61, .int 3]) (rest := []) (c_X3_takesMark l G α σ p1 61 3) hF (cwV 3 hts gX3_takesEndOfAddress_X3_takesMark rfl rfl rfl (by decide +kernel) ⟨Nat.le_of_ble_eq_true rfl, Nat.le_of_ble_eq_true rfl⟩) (rcv_Q hK hP) hK hP hD hS (fst_Q _ _) rfl hl.1 rfl (Nat.le_of_ble_eq_true rfl) dX3_takesEndOfAddress_18 ⟨Nat.zero_le _, Nat.zero_le _⟩ (fun H locs hP hD hS => ?_)
    have hP : va_P G.1 vwCl (qW G.2.1 α ((s_X3_takesMark σ p1 61 3).2)) H := hP
    have hD : va_D (inW w0) (qW G.2.1 α ((s_X3_takesMark σ p1 61 3).2)) := hD
    refine lv_goto (tgt := 32) hx hb dX3_takesEndOfAddress_21 (by decide) ?_
    have E9 : s_X3_takesEndOfAddress σ p1 = (((s_X3_takesMark σ p1 61 3).1), ((s_X3_takesMark σ p1 61 3).2)) := by rw [s_X3_takesEndOfAddress]; rw [if_neg c_1]
    rw [pr1 E9, pr2 E9]
    exact W.zret (ty := .boolean) hx hb hr (nbool (b_X3_takesMark _ _ _ _)) (fun t ht hW => ⟨rfl, by rw [ht]; exact hP, hS.F ht⟩) hS.2.2 dX3_takesEndOfAddress_32
def t1_X3_takes (σ : QS) (p1 : Int32) : QS := ((s_X3_takesEndOfAddress ((s_X3_takesDigit_ad σ p1 191).2) p1).2)
def s_X3_takes (σ : QS) (p1 : Int32) : Int32 × QS := (if (q_pl σ) = 0 then (((s_X3_takesKind σ p1).1), ((s_X3_takesKind σ p1).2)) else (if (q_pl σ) = 1 then (((s_X3_takesFirstDigit_ad σ p1 2).1), ((s_X3_takesFirstDigit_ad σ p1 2).2)) else (if (q_pl σ) = 2 then (if ((s_X3_takesDigit_ad σ p1 191).1) = 0 then (if ((s_X3_takesEndOfAddress ((s_X3_takesDigit_ad σ p1 191).2) p1).1) = 0 then (0, (t1_X3_takes σ p1)) else (1, (t1_X3_takes σ p1))) else (1, ((s_X3_takesDigit_ad σ p1 191).2))) else (if (q_pl σ) = 3 then (((s_X3_takesFirstDigit_nu σ p1 4).1), ((s_X3_takesFirstDigit_nu σ p1 4).2)) else (if ((s_X3_takesDigit_nu σ p1 255).1) = 0 then (if ((s_X3_takesMark ((s_X3_takesDigit_nu σ p1 255).2) p1 59 0).1) = 0 then (0, ((s_X3_takesMark ((s_X3_takesDigit_nu σ p1 255).2) p1 59 0).2)) else (1, ((s_X3_takesMark ((s_X3_takesDigit_nu σ p1 255).2) p1 59 0).2))) else (1, ((s_X3_takesDigit_nu σ p1 255).2)))))))
theorem b_X3_takes (σ : QS) (p1 : Int32) : (s_X3_takes σ p1).1 = 0 ∨ (s_X3_takes σ p1).1 = 1 := by
  unfold s_X3_takes
  by_cases c_1 : (q_pl σ) = 0
  · skip
    rw [if_pos c_1]
    exact b_X3_takesKind σ p1
  · skip
    by_cases c_2 : (q_pl σ) = 1
    · skip
      rw [if_neg c_1, if_pos c_2]
      exact b_X3_takesFirstDigit_ad σ p1 2
    · skip
      by_cases c_3 : (q_pl σ) = 2
      · skip
        by_cases c_4 : ((s_X3_takesDigit_ad σ p1 191).1) = 0
        · skip
          by_cases c_5 : ((s_X3_takesEndOfAddress ((s_X3_takesDigit_ad σ p1 191).2) p1).1) = 0
          · skip
            rw [if_neg c_1, if_neg c_2, if_pos c_3, if_pos c_4, if_pos c_5]
            exact Or.inl rfl
          · skip
            rw [if_neg c_1, if_neg c_2, if_pos c_3, if_pos c_4, if_neg c_5]
            exact Or.inr rfl
        · skip
          rw [if_neg c_1, if_neg c_2, if_pos c_3, if_neg c_4]
          exact Or.inr rfl
      · skip
        by_cases c_6 : (q_pl σ) = 3
        · skip
          rw [if_neg c_1, if_neg c_2, if_neg c_3, if_pos c_6]
          exact b_X3_takesFirstDigit_nu σ p1 4
        · skip
          by_cases c_7 : ((s_X3_takesDigit_nu σ p1 255).1) = 0
          · skip
            by_cases c_8 : ((s_X3_takesMark ((s_X3_takesDigit_nu σ p1 255).2) p1 59 0).1) = 0
            · skip
              rw [if_neg c_1, if_neg c_2, if_neg c_3, if_neg c_6, if_pos c_7, if_pos c_8]
              exact Or.inl rfl
            · skip
              rw [if_neg c_1, if_neg c_2, if_neg c_3, if_neg c_6, if_pos c_7, if_neg c_8]
              exact Or.inr rfl
          · skip
            rw [if_neg c_1, if_neg c_2, if_neg c_3, if_neg c_6, if_neg c_7]
            exact Or.inr rfl
set_option maxHeartbeats 4000000 in
set_option maxRecDepth 100000 in
theorem c_X3_takes (l : Launch) (G : GG) (α : Nat → Nat) (σ : QS) (p1 : Int32) : Wr G l yX3_takes wsX3_takes 3 63 [.ref (α 0), .int p1] (qW G.2.1 α σ) (some (.int (s_X3_takes σ p1).1)) (qW G.2.1 α ((s_X3_takes σ p1).2)) := by
  refine Met.ofW (cc := cX3_takes) (maxL := 2) (ret := (some .boolean)) (by decide) rfl ?_
  intro p e s m args below meth c s₁ B hml hv
  obtain ⟨rfl, hP, hK, hD0⟩ := hv
  have C0 : cA p s m meth c ([.ref (α 0), .int p1] : List Value).toArray cX3_takes 2 (some .boolean) wsX3_takes RX3 := ⟨B.exec, B.bytes, B.returns, hml, findClass_of_methodNamed B.named, atoms_spec (ws := wsX3_takes) B.pre, B.notSynchronized⟩
  obtain ⟨hx, hb, hr, hml, hown, hts, hlocks⟩ := id C0
  have hF : CallFix p m c cX3_takes 2 s _ wsX3_takes RX3 := ⟨hx, hb, hml, hown, hts⟩
  have hinX3 : ∀ w ∈ wsX30, w ∈ wsX3_takes := by decide +kernel
  obtain ⟨w0, hw0⟩ : ∃ w0 : va_W, w0 = (qW G.2.1 α σ) := ⟨_, rfl⟩
  have hD : va_D (inW w0) (qW G.2.1 α σ) := by rw [hw0]; exact inW.D hD0
  have hS : va_S (inW w0) s.heap s.heap [] := va_S.rf
  rw [show QW G (qW G.2.1 α σ) = QW G w0 from by rw [hw0], show inW (qW G.2.1 α σ) = inW w0 from by rw [hw0]]
  have hl := lv_entry ([.ref (α 0), .int p1]) (n := 2) (Nat.le_of_ble_eq_true rfl)
  rw [lg_entry_eq]
  generalize (lg_sl ([.ref (α 0), .int p1]) ++ List.replicate (2 - (lg_sl ([.ref (α 0), .int p1])).length) Slot.unset).toArray = ls at hl ⊢
  have hl : lv_has ls 2 [(0, .ref (α 0)), (1, .int p1)] := hl
  refine lv_aload_n hx hb dX3_takes_0 rfl (lv_at hl 0 rfl) ?_
  refine get_Q_place hx hb hts hinX3 hown hK hP (hts (.fieldLink RX3 25 "GrooveTurns$Requests" "place" "I") (by decide +kernel)) dX3_takes_1 ?_
  by_cases c_1 : (q_pl σ) = 0
  · skip
    refine lv_tableIn (tgt := 36) (off := 32) hx hb dX3_takes_4 (by rw [c_1]; decide) (by rw [c_1]; decide) (by rw [c_1]; rfl) (by decide) ?_
    refine lv_aload_n hx hb dX3_takes_36 rfl (lv_at hl 0 rfl) ?_
    refine lv_iload_n hx hb dX3_takes_37 rfl (lv_at hl 1 rfl) ?_
    refine wrV0 (As := [.int p1]) (rest := []) (c_X3_takesKind l G α σ p1) hF (cwV 1 hts gX3_takes_X3_takesKind rfl rfl rfl (by decide +kernel) ⟨Nat.le_of_ble_eq_true rfl, Nat.le_of_ble_eq_true rfl⟩) (rcv_Q hK hP) hK hP hD hS (fst_Q _ _) rfl hl.1 rfl (Nat.le_of_ble_eq_true rfl) dX3_takes_38 ⟨Nat.zero_le _, Nat.zero_le _⟩ (fun H locs hP hD hS => ?_)
    have hP : va_P G.1 vwCl (qW G.2.1 α ((s_X3_takesKind σ p1).2)) H := hP
    have hD : va_D (inW w0) (qW G.2.1 α ((s_X3_takesKind σ p1).2)) := hD
    have E9 : s_X3_takes σ p1 = (((s_X3_takesKind σ p1).1), ((s_X3_takesKind σ p1).2)) := by rw [s_X3_takes]; rw [if_pos c_1]
    rw [pr1 E9, pr2 E9]
    exact W.zret (ty := .boolean) hx hb hr (nbool (b_X3_takesKind _ _)) (fun t ht hW => ⟨rfl, by rw [ht]; exact hP, hS.F ht⟩) hS.2.2 dX3_takes_41
  · skip
    by_cases c_2 : (q_pl σ) = 1
    · skip
      refine lv_tableIn (tgt := 42) (off := 38) hx hb dX3_takes_4 (by rw [c_2]; decide) (by rw [c_2]; decide) (by rw [c_2]; rfl) (by decide) ?_
      refine lv_aload_n hx hb dX3_takes_42 rfl (lv_at hl 0 rfl) ?_
      refine lv_iload_n hx hb dX3_takes_43 rfl (lv_at hl 1 rfl) ?_
      refine lv_aload_n hx hb dX3_takes_44 rfl (lv_at hl 0 rfl) ?_
      refine get_Q_addresses hx hb hts hinX3 hown hK hP (hts (.fieldLink RX3 9 "GrooveTurns$Requests" "addresses" "[I") (by decide +kernel)) dX3_takes_45 ?_
      refine lv_iconst (v := 2) hx hb dX3_takes_48 (by decide) ?_
      refine wrV0 (As := [.int p1, .ref (α 1), .int 2]) (rest := []) (c_X3_takesFirstDigit_ad l G α σ p1 2) hF (cwV 3 hts gX3_takes_X3_takesFirstDigit rfl rfl rfl (by decide +kernel) ⟨Nat.le_of_ble_eq_true rfl, Nat.le_of_ble_eq_true rfl⟩) (rcv_Q hK hP) hK hP hD hS (fst_Q _ _) rfl hl.1 rfl (Nat.le_of_ble_eq_true rfl) dX3_takes_49 ⟨Nat.zero_le _, Nat.zero_le _⟩ (fun H locs hP hD hS => ?_)
      have hP : va_P G.1 vwCl (qW G.2.1 α ((s_X3_takesFirstDigit_ad σ p1 2).2)) H := hP
      have hD : va_D (inW w0) (qW G.2.1 α ((s_X3_takesFirstDigit_ad σ p1 2).2)) := hD
      have E9 : s_X3_takes σ p1 = (((s_X3_takesFirstDigit_ad σ p1 2).1), ((s_X3_takesFirstDigit_ad σ p1 2).2)) := by rw [s_X3_takes]; rw [if_neg c_1, if_pos c_2]
      rw [pr1 E9, pr2 E9]
      exact W.zret (ty := .boolean) hx hb hr (nbool (b_X3_takesFirstDigit_ad _ _ _)) (fun t ht hW => ⟨rfl, by rw [ht]; exact hP, hS.F ht⟩) hS.2.2 dX3_takes_52
    · skip
      by_cases c_3 : (q_pl σ) = 2
      · skip
        refine lv_tableIn (tgt := 53) (off := 49) hx hb dX3_takes_4 (by rw [c_3]; decide) (by rw [c_3]; decide) (by rw [c_3]; rfl) (by decide) ?_
        refine lv_aload_n hx hb dX3_takes_53 rfl (lv_at hl 0 rfl) ?_
        refine lv_iload_n hx hb dX3_takes_54 rfl (lv_at hl 1 rfl) ?_
        refine lv_aload_n hx hb dX3_takes_55 rfl (lv_at hl 0 rfl) ?_
        refine get_Q_addresses hx hb hts hinX3 hown hK hP (hts (.fieldLink RX3 9 "GrooveTurns$Requests" "addresses" "[I") (by decide +kernel)) dX3_takes_56 ?_
        refine lv_sipush (v := 191) hx hb dX3_takes_59 (by decide) ?_
        refine wrV0 (As := [.int p1, .ref (α 1), .int 191]) (rest := []) (c_X3_takesDigit_ad l G α σ p1 191) hF (cwV 3 hts gX3_takes_X3_takesDigit rfl rfl rfl (by decide +kernel) ⟨Nat.le_of_ble_eq_true rfl, Nat.le_of_ble_eq_true rfl⟩) (rcv_Q hK hP) hK hP hD hS (fst_Q _ _) rfl hl.1 rfl (Nat.le_of_ble_eq_true rfl) dX3_takes_62 ⟨Nat.zero_le _, Nat.zero_le _⟩ (fun H locs hP hD hS => ?_)
        have hP : va_P G.1 vwCl (qW G.2.1 α ((s_X3_takesDigit_ad σ p1 191).2)) H := hP
        have hD : va_D (inW w0) (qW G.2.1 α ((s_X3_takesDigit_ad σ p1 191).2)) := hD
        refine lv_if_ne (tgt := 76) hx hb dX3_takes_65 (by decide) (fun (c_4 : ¬ ((s_X3_takesDigit_ad σ p1 191).1) = 0) => ?_) (fun (c_4 : ((s_X3_takesDigit_ad σ p1 191).1) = 0) => ?_)
        · skip
          refine lv_iconst (v := 1) hx hb dX3_takes_76 (by decide) ?_
          refine lv_goto (tgt := 81) hx hb dX3_takes_77 (by decide) ?_
          have E9 : s_X3_takes σ p1 = (1, ((s_X3_takesDigit_ad σ p1 191).2)) := by rw [s_X3_takes]; rw [if_neg c_1, if_neg c_2, if_pos c_3, if_neg c_4]
          rw [pr1 E9, pr2 E9]
          exact W.zret (ty := .boolean) hx hb hr rfl (fun t ht hW => ⟨rfl, by rw [ht]; exact hP, hS.F ht⟩) hS.2.2 dX3_takes_81
        · skip
          refine lv_aload_n hx hb dX3_takes_68 rfl (lv_at hl 0 rfl) ?_
          refine lv_iload_n hx hb dX3_takes_69 rfl (lv_at hl 1 rfl) ?_
          refine wrV0 (As := [.int p1]) (rest := []) (c_X3_takesEndOfAddress l G α ((s_X3_takesDigit_ad σ p1 191).2) p1) hF (cwV 1 hts gX3_takes_X3_takesEndOfAddress rfl rfl rfl (by decide +kernel) ⟨Nat.le_of_ble_eq_true rfl, Nat.le_of_ble_eq_true rfl⟩) (rcv_Q hK hP) hK hP hD hS (fst_Q _ _) rfl hl.1 rfl (Nat.le_of_ble_eq_true rfl) dX3_takes_70 ⟨Nat.zero_le _, Nat.zero_le _⟩ (fun H locs hP hD hS => ?_)
          have hP : va_P G.1 vwCl (qW G.2.1 α (t1_X3_takes σ p1)) H := hP
          have hD : va_D (inW w0) (qW G.2.1 α (t1_X3_takes σ p1)) := hD
          refine lv_if_eq (tgt := 80) hx hb dX3_takes_73 (by decide) (fun (c_5 : ((s_X3_takesEndOfAddress ((s_X3_takesDigit_ad σ p1 191).2) p1).1) = 0) => ?_) (fun (c_5 : ¬ ((s_X3_takesEndOfAddress ((s_X3_takesDigit_ad σ p1 191).2) p1).1) = 0) => ?_)
          · skip
            refine lv_iconst (v := 0) hx hb dX3_takes_80 (by decide) ?_
            have E9 : s_X3_takes σ p1 = (0, (t1_X3_takes σ p1)) := by rw [s_X3_takes]; rw [if_neg c_1, if_neg c_2, if_pos c_3, if_pos c_4, if_pos c_5]
            rw [pr1 E9, pr2 E9]
            exact W.zret (ty := .boolean) hx hb hr rfl (fun t ht hW => ⟨rfl, by rw [ht]; exact hP, hS.F ht⟩) hS.2.2 dX3_takes_81
          · skip
            refine lv_iconst (v := 1) hx hb dX3_takes_76 (by decide) ?_
            refine lv_goto (tgt := 81) hx hb dX3_takes_77 (by decide) ?_
            have E9 : s_X3_takes σ p1 = (1, (t1_X3_takes σ p1)) := by rw [s_X3_takes]; rw [if_neg c_1, if_neg c_2, if_pos c_3, if_pos c_4, if_neg c_5]
            rw [pr1 E9, pr2 E9]
            exact W.zret (ty := .boolean) hx hb hr rfl (fun t ht hW => ⟨rfl, by rw [ht]; exact hP, hS.F ht⟩) hS.2.2 dX3_takes_81
      · skip
        by_cases c_6 : (q_pl σ) = 3
        · skip
          refine lv_tableIn (tgt := 82) (off := 78) hx hb dX3_takes_4 (by rw [c_6]; decide) (by rw [c_6]; decide) (by rw [c_6]; rfl) (by decide) ?_
          refine lv_aload_n hx hb dX3_takes_82 rfl (lv_at hl 0 rfl) ?_
          refine lv_iload_n hx hb dX3_takes_83 rfl (lv_at hl 1 rfl) ?_
          refine lv_aload_n hx hb dX3_takes_84 rfl (lv_at hl 0 rfl) ?_
          refine get_Q_numbers hx hb hts hinX3 hown hK hP (hts (.fieldLink RX3 15 "GrooveTurns$Requests" "numbers" "[I") (by decide +kernel)) dX3_takes_85 ?_
          refine lv_iconst (v := 4) hx hb dX3_takes_88 (by decide) ?_
          refine wrV0 (As := [.int p1, .ref (α 2), .int 4]) (rest := []) (c_X3_takesFirstDigit_nu l G α σ p1 4) hF (cwV 3 hts gX3_takes_X3_takesFirstDigit rfl rfl rfl (by decide +kernel) ⟨Nat.le_of_ble_eq_true rfl, Nat.le_of_ble_eq_true rfl⟩) (rcv_Q hK hP) hK hP hD hS (fst_Q _ _) rfl hl.1 rfl (Nat.le_of_ble_eq_true rfl) dX3_takes_89 ⟨Nat.zero_le _, Nat.zero_le _⟩ (fun H locs hP hD hS => ?_)
          have hP : va_P G.1 vwCl (qW G.2.1 α ((s_X3_takesFirstDigit_nu σ p1 4).2)) H := hP
          have hD : va_D (inW w0) (qW G.2.1 α ((s_X3_takesFirstDigit_nu σ p1 4).2)) := hD
          have E9 : s_X3_takes σ p1 = (((s_X3_takesFirstDigit_nu σ p1 4).1), ((s_X3_takesFirstDigit_nu σ p1 4).2)) := by rw [s_X3_takes]; rw [if_neg c_1, if_neg c_2, if_neg c_3, if_pos c_6]
          rw [pr1 E9, pr2 E9]
          exact W.zret (ty := .boolean) hx hb hr (nbool (b_X3_takesFirstDigit_nu _ _ _)) (fun t ht hW => ⟨rfl, by rw [ht]; exact hP, hS.F ht⟩) hS.2.2 dX3_takes_92
        · skip
          have h9_0 : ¬ (q_pl σ).toInt = 0 := lv_neT c_1 (by decide)
          have h9_1 : ¬ (q_pl σ).toInt = 1 := lv_neT c_2 (by decide)
          have h9_2 : ¬ (q_pl σ).toInt = 2 := lv_neT c_3 (by decide)
          have h9_3 : ¬ (q_pl σ).toInt = 3 := lv_neT c_6 (by decide)
          refine lv_tableOut (tgt := 93) hx hb dX3_takes_4 (sw_out (fun k9 h9 h8 => by omega)) (by decide) ?_
          refine lv_aload_n hx hb dX3_takes_93 rfl (lv_at hl 0 rfl) ?_
          refine lv_iload_n hx hb dX3_takes_94 rfl (lv_at hl 1 rfl) ?_
          refine lv_aload_n hx hb dX3_takes_95 rfl (lv_at hl 0 rfl) ?_
          refine get_Q_numbers hx hb hts hinX3 hown hK hP (hts (.fieldLink RX3 15 "GrooveTurns$Requests" "numbers" "[I") (by decide +kernel)) dX3_takes_96 ?_
          refine lv_sipush (v := 255) hx hb dX3_takes_99 (by decide) ?_
          refine wrV0 (As := [.int p1, .ref (α 2), .int 255]) (rest := []) (c_X3_takesDigit_nu l G α σ p1 255) hF (cwV 3 hts gX3_takes_X3_takesDigit rfl rfl rfl (by decide +kernel) ⟨Nat.le_of_ble_eq_true rfl, Nat.le_of_ble_eq_true rfl⟩) (rcv_Q hK hP) hK hP hD hS (fst_Q _ _) rfl hl.1 rfl (Nat.le_of_ble_eq_true rfl) dX3_takes_102 ⟨Nat.zero_le _, Nat.zero_le _⟩ (fun H locs hP hD hS => ?_)
          have hP : va_P G.1 vwCl (qW G.2.1 α ((s_X3_takesDigit_nu σ p1 255).2)) H := hP
          have hD : va_D (inW w0) (qW G.2.1 α ((s_X3_takesDigit_nu σ p1 255).2)) := hD
          refine lv_if_ne (tgt := 119) hx hb dX3_takes_105 (by decide) (fun (c_7 : ¬ ((s_X3_takesDigit_nu σ p1 255).1) = 0) => ?_) (fun (c_7 : ((s_X3_takesDigit_nu σ p1 255).1) = 0) => ?_)
          · skip
            refine lv_iconst (v := 1) hx hb dX3_takes_119 (by decide) ?_
            refine lv_goto (tgt := 124) hx hb dX3_takes_120 (by decide) ?_
            have E9 : s_X3_takes σ p1 = (1, ((s_X3_takesDigit_nu σ p1 255).2)) := by rw [s_X3_takes]; rw [if_neg c_1, if_neg c_2, if_neg c_3, if_neg c_6, if_neg c_7]
            rw [pr1 E9, pr2 E9]
            exact W.zret (ty := .boolean) hx hb hr rfl (fun t ht hW => ⟨rfl, by rw [ht]; exact hP, hS.F ht⟩) hS.2.2 dX3_takes_124
          · skip
            refine lv_aload_n hx hb dX3_takes_108 rfl (lv_at hl 0 rfl) ?_
            refine lv_iload_n hx hb dX3_takes_109 rfl (lv_at hl 1 rfl) ?_
            refine lv_bipush (v := 59) hx hb dX3_takes_110 (by decide) ?_
            refine lv_iconst (v := 0) hx hb dX3_takes_112 (by decide) ?_
            refine wrV0 (As := [.int p1, .int 59, .int 0]) (rest := []) (c_X3_takesMark l G α ((s_X3_takesDigit_nu σ p1 255).2) p1 59 0) hF (cwV 3 hts gX3_takes_X3_takesMark rfl rfl rfl (by decide +kernel) ⟨Nat.le_of_ble_eq_true rfl, Nat.le_of_ble_eq_true rfl⟩) (rcv_Q hK hP) hK hP hD hS (fst_Q _ _) rfl hl.1 rfl (Nat.le_of_ble_eq_true rfl) dX3_takes_113 ⟨Nat.zero_le _, Nat.zero_le _⟩ (fun H locs hP hD hS => ?_)
            have hP : va_P G.1 vwCl (qW G.2.1 α ((s_X3_takesMark ((s_X3_takesDigit_nu σ p1 255).2) p1 59 0).2)) H := hP
            have hD : va_D (inW w0) (qW G.2.1 α ((s_X3_takesMark ((s_X3_takesDigit_nu σ p1 255).2) p1 59 0).2)) := hD
            refine lv_if_eq (tgt := 123) hx hb dX3_takes_116 (by decide) (fun (c_8 : ((s_X3_takesMark ((s_X3_takesDigit_nu σ p1 255).2) p1 59 0).1) = 0) => ?_) (fun (c_8 : ¬ ((s_X3_takesMark ((s_X3_takesDigit_nu σ p1 255).2) p1 59 0).1) = 0) => ?_)
            · skip
              refine lv_iconst (v := 0) hx hb dX3_takes_123 (by decide) ?_
              have E9 : s_X3_takes σ p1 = (0, ((s_X3_takesMark ((s_X3_takesDigit_nu σ p1 255).2) p1 59 0).2)) := by rw [s_X3_takes]; rw [if_neg c_1, if_neg c_2, if_neg c_3, if_neg c_6, if_pos c_7, if_pos c_8]
              rw [pr1 E9, pr2 E9]
              exact W.zret (ty := .boolean) hx hb hr rfl (fun t ht hW => ⟨rfl, by rw [ht]; exact hP, hS.F ht⟩) hS.2.2 dX3_takes_124
            · skip
              refine lv_iconst (v := 1) hx hb dX3_takes_119 (by decide) ?_
              refine lv_goto (tgt := 124) hx hb dX3_takes_120 (by decide) ?_
              have E9 : s_X3_takes σ p1 = (1, ((s_X3_takesMark ((s_X3_takesDigit_nu σ p1 255).2) p1 59 0).2)) := by rw [s_X3_takes]; rw [if_neg c_1, if_neg c_2, if_neg c_3, if_neg c_6, if_pos c_7, if_neg c_8]
              rw [pr1 E9, pr2 E9]
              exact W.zret (ty := .boolean) hx hb hr rfl (fun t ht hW => ⟨rfl, by rw [ht]; exact hP, hS.F ht⟩) hS.2.2 dX3_takes_124
def L1_X3_parse (ρ : QS) (π : PS) : Nat → Int32 → QS → Int32 × QS
  | 0, v1_2, τ1_0 => (0, τ1_0)
  | n + 1, v1_2, τ1_0 => (if (p_le π) ≤ v1_2 then (if (q_pl τ1_0) = 4 then ((-6), τ1_0) else (if (q_pl τ1_0) = 2 then (if (s_X3_isWriting τ1_0 ((q_sz τ1_0) - 1)) = 0 then ((-6), τ1_0) else ((p_le π), τ1_0)) else ((p_le π), τ1_0))) else (if ((s_X3_takes τ1_0 (s_X2_signAt π v1_2)).1) = 0 then (v1_2, ((s_X3_takes τ1_0 (s_X2_signAt π v1_2)).2)) else (L1_X3_parse ρ π n (v1_2 + 1) ((s_X3_takes τ1_0 (s_X2_signAt π v1_2)).2))))
def okL1_X3_parse (ρ : QS) (π : PS) : Nat → Int32 → QS → Prop
  | 0, _, _ => False
  | n + 1, v1_2, τ1_0 => ((p_le π) ≤ v1_2 → True) ∧ (¬ (p_le π) ≤ v1_2 → ((((s_X3_takes τ1_0 (s_X2_signAt π v1_2)).1) = 0 → True) ∧ (¬ ((s_X3_takes τ1_0 (s_X2_signAt π v1_2)).1) = 0 → (okL1_X3_parse ρ π n (v1_2 + 1) ((s_X3_takes τ1_0 (s_X2_signAt π v1_2)).2)))))
def s_X3_parse (ρ : QS) (π : PS) : Int32 × QS := (L1_X3_parse ρ π FU 0 (q_pl' (q_sz' ρ 0) 0))
def ok_X3_parse (ρ : QS) (π : PS) : Prop := okL1_X3_parse ρ π FU 0 (q_pl' (q_sz' ρ 0) 0)
set_option maxHeartbeats 4000000 in
set_option maxRecDepth 100000 in
theorem wL1_X3_parse {p : Program} {e : Env} {s : State} {m : MethodId} {args : Array Value} {below : List Frame} {meth : Method} {c : Code} {w0 : va_W} (l : Launch) (G : GG) (α : Nat → Nat) (β : Nat → Nat) (ρ : QS) (π : PS) (C0 : cA p s m meth c args cX3_parse 3 (some .int) wsX3_parse RX3) (hK : cK G s) : ∀ (n : Nat) (v1_2 : Int32) (τ1_0 : QS)  (hok : okL1_X3_parse ρ π n v1_2 τ1_0) (H : Heap) (locs : List Loc), va_P G.1 vwCl ((qW G.2.1 α τ1_0) ++ (pW G.2.1 β π)) H → va_D (inW w0) ((qW G.2.1 α τ1_0) ++ (pW G.2.1 β π)) → va_S (inW w0) s.heap H locs → ∀ (ls : Array Slot), lv_has ls 3 [(0, .ref (α 0)), (1, .ref (β 0)), (2, .int v1_2)] → W p l e (rmm 4 84) s m args below meth c H locs 0 0 (MQ below (QW G w0 ((qW G.2.1 α ((L1_X3_parse ρ π n v1_2 τ1_0).2)) ++ (pW G.2.1 β π)) (some (.int (L1_X3_parse ρ π n v1_2 τ1_0).1))) args s 0 0 (inW w0)) (F0 m 12 ls []) := by
  obtain ⟨hx, hb, hr, hml, hown, hts, hlocks⟩ := id C0
  have hF : CallFix p m c cX3_parse 3 s args wsX3_parse RX3 := ⟨hx, hb, hml, hown, hts⟩
  have hinX2 : ∀ w ∈ wsX20, w ∈ wsX3_parse := by decide +kernel
  have hinX3 : ∀ w ∈ wsX30, w ∈ wsX3_parse := by decide +kernel
  intro n
  induction n with
  | zero =>
    intro v1_2 τ1_0 hok
    exact hok.elim
  | succ n ih =>
    intro v1_2 τ1_0 hok H locs hP hD hS ls hl
    have hok : ((p_le π) ≤ v1_2 → True) ∧ (¬ (p_le π) ≤ v1_2 → ((((s_X3_takes τ1_0 (s_X2_signAt π v1_2)).1) = 0 → True) ∧ (¬ ((s_X3_takes τ1_0 (s_X2_signAt π v1_2)).1) = 0 → (okL1_X3_parse ρ π n (v1_2 + 1) ((s_X3_takes τ1_0 (s_X2_signAt π v1_2)).2))))) := hok
    refine lv_iload_n hx hb dX3_parse_12 rfl (lv_at hl 2 rfl) ?_
    refine lv_aload_n hx hb dX3_parse_13 rfl (lv_at hl 1 rfl) ?_
    refine va_get (D := G.1) (ci := 2) (v := .int (p_le π)) (C := RX2) (T := TX2) (N := 2) hx hb hts hinX2 hown hK.1 hP 4 rfl rfl 1 (by decide) (hts (.fieldLink RX3 28 "GrooveTurns$Pad" "length" "I") (by decide +kernel)) (fun _ h9 => h9) rfl dX3_parse_14 ?_
    refine lv_icmp_ge (tgt := 40) hx hb dX3_parse_17 (by decide) (fun (c_1 : (p_le π) ≤ v1_2) => ?_) (fun (c_1 : ¬ (p_le π) ≤ v1_2) => ?_)
    · skip
      refine lv_aload_n hx hb dX3_parse_40 rfl (lv_at hl 0 rfl) ?_
      refine va_get (D := G.1) (ci := 3) (v := .int (q_pl τ1_0)) (C := RX3) (T := TX3) (N := 5) hx hb hts hinX3 hown hK.1 hP 0 rfl rfl 4 (by decide) (hts (.fieldLink RX3 25 "GrooveTurns$Requests" "place" "I") (by decide +kernel)) (fun _ h9 => h9) rfl dX3_parse_41 ?_
      refine lv_iconst (v := 4) hx hb dX3_parse_44 (by decide) ?_
      refine lv_icmp_eq (tgt := 69) hx hb dX3_parse_45 (by decide) (fun (c_2 : (q_pl τ1_0) = 4) => ?_) (fun (c_2 : ¬ (q_pl τ1_0) = 4) => ?_)
      · skip
        refine lv_iconst (v := 1) hx hb dX3_parse_69 (by decide) ?_
        refine lv_goto (tgt := 74) hx hb dX3_parse_70 (by decide) ?_
        refine lv_istore_n (lv' := [(2, .int 1), (0, .ref (α 0)), (1, .ref (β 0))]) hx hb dX3_parse_74 rfl hl (by decide) rfl (fun ls hl => ?_)
        refine lv_iload_n hx hb dX3_parse_75 rfl (lv_at hl 0 rfl) ?_
        refine lv_if_eq (tgt := 84) hx hb dX3_parse_76 (by decide) (fun (c_3 : 1 = 0) => ?_) (fun (c_3 : ¬ 1 = 0) => ?_)
        · skip
          exact absurd c_3 (by decide)
        · skip
          refine lv_bipush (v := (-6)) hx hb dX3_parse_79 (by decide) ?_
          refine lv_goto (tgt := 88) hx hb dX3_parse_81 (by decide) ?_
          have E9 : (L1_X3_parse ρ π (n + 1) v1_2 τ1_0) = ((-6), τ1_0) := by rw [L1_X3_parse]; rw [if_pos c_1, if_pos c_2]
          rw [pr1 E9, pr2 E9]
          exact W.iret hx hb hr (fun t ht hW => ⟨rfl, by rw [ht]; exact hP, hS.F ht⟩) hS.2.2 dX3_parse_88
      · skip
        refine lv_aload_n hx hb dX3_parse_48 rfl (lv_at hl 0 rfl) ?_
        refine va_get (D := G.1) (ci := 3) (v := .int (q_pl τ1_0)) (C := RX3) (T := TX3) (N := 5) hx hb hts hinX3 hown hK.1 hP 0 rfl rfl 4 (by decide) (hts (.fieldLink RX3 25 "GrooveTurns$Requests" "place" "I") (by decide +kernel)) (fun _ h9 => h9) rfl dX3_parse_49 ?_
        refine lv_iconst (v := 2) hx hb dX3_parse_52 (by decide) ?_
        refine lv_icmp_ne (tgt := 73) hx hb dX3_parse_53 (by decide) (fun (c_4 : ¬ (q_pl τ1_0) = 2) => ?_) (fun (c_4 : (q_pl τ1_0) = 2) => ?_)
        · skip
          refine lv_iconst (v := 0) hx hb dX3_parse_73 (by decide) ?_
          refine lv_istore_n (lv' := [(2, .int 0), (0, .ref (α 0)), (1, .ref (β 0))]) hx hb dX3_parse_74 rfl hl (by decide) rfl (fun ls hl => ?_)
          refine lv_iload_n hx hb dX3_parse_75 rfl (lv_at hl 0 rfl) ?_
          refine lv_if_eq (tgt := 84) hx hb dX3_parse_76 (by decide) (fun (c_5 : 0 = 0) => ?_) (fun (c_5 : ¬ 0 = 0) => ?_)
          · skip
            refine lv_aload_n hx hb dX3_parse_84 rfl (lv_at hl 2 rfl) ?_
            refine va_get (D := G.1) (ci := 2) (v := .int (p_le π)) (C := RX2) (T := TX2) (N := 2) hx hb hts hinX2 hown hK.1 hP 4 rfl rfl 1 (by decide) (hts (.fieldLink RX3 28 "GrooveTurns$Pad" "length" "I") (by decide +kernel)) (fun _ h9 => h9) rfl dX3_parse_85 ?_
            have E9 : (L1_X3_parse ρ π (n + 1) v1_2 τ1_0) = ((p_le π), τ1_0) := by rw [L1_X3_parse]; rw [if_pos c_1, if_neg c_2, if_neg c_4]
            rw [pr1 E9, pr2 E9]
            exact W.iret hx hb hr (fun t ht hW => ⟨rfl, by rw [ht]; exact hP, hS.F ht⟩) hS.2.2 dX3_parse_88
          · skip
            exact absurd (by decide) c_5
        · skip
          refine lv_aload_n hx hb dX3_parse_56 rfl (lv_at hl 0 rfl) ?_
          refine lv_aload_n hx hb dX3_parse_57 rfl (lv_at hl 0 rfl) ?_
          refine va_get (D := G.1) (ci := 3) (v := .int (q_sz τ1_0)) (C := RX3) (T := TX3) (N := 5) hx hb hts hinX3 hown hK.1 hP 0 rfl rfl 3 (by decide) (hts (.fieldLink RX3 21 "GrooveTurns$Requests" "size" "I") (by decide +kernel)) (fun _ h9 => h9) rfl dX3_parse_58 ?_
          refine lv_iconst (v := 1) hx hb dX3_parse_61 (by decide) ?_
          refine lv_isub hx hb dX3_parse_62 ?_
          refine rdV (As := [.int ((q_sz τ1_0) - 1)]) (rest := []) (c_X3_isWriting l G α τ1_0 ((q_sz τ1_0) - 1)) hF (cwV 1 hts gX3_parse_X3_isWriting rfl rfl rfl (by decide +kernel) ⟨Nat.le_of_ble_eq_true rfl, Nat.le_of_ble_eq_true rfl⟩) (rcv_Q hK (va_PL hP)) hK (va_PL hP) rfl hl.1 rfl (Nat.le_of_ble_eq_true rfl) dX3_parse_63 ⟨Nat.zero_le _, Nat.zero_le _⟩ ?_
          refine lv_if_ne (tgt := 73) hx hb dX3_parse_66 (by decide) (fun (c_6 : ¬ (s_X3_isWriting τ1_0 ((q_sz τ1_0) - 1)) = 0) => ?_) (fun (c_6 : (s_X3_isWriting τ1_0 ((q_sz τ1_0) - 1)) = 0) => ?_)
          · skip
            refine lv_iconst (v := 0) hx hb dX3_parse_73 (by decide) ?_
            refine lv_istore_n (lv' := [(2, .int 0), (0, .ref (α 0)), (1, .ref (β 0))]) hx hb dX3_parse_74 rfl hl (by decide) rfl (fun ls hl => ?_)
            refine lv_iload_n hx hb dX3_parse_75 rfl (lv_at hl 0 rfl) ?_
            refine lv_if_eq (tgt := 84) hx hb dX3_parse_76 (by decide) (fun (c_7 : 0 = 0) => ?_) (fun (c_7 : ¬ 0 = 0) => ?_)
            · skip
              refine lv_aload_n hx hb dX3_parse_84 rfl (lv_at hl 2 rfl) ?_
              refine va_get (D := G.1) (ci := 2) (v := .int (p_le π)) (C := RX2) (T := TX2) (N := 2) hx hb hts hinX2 hown hK.1 hP 4 rfl rfl 1 (by decide) (hts (.fieldLink RX3 28 "GrooveTurns$Pad" "length" "I") (by decide +kernel)) (fun _ h9 => h9) rfl dX3_parse_85 ?_
              have E9 : (L1_X3_parse ρ π (n + 1) v1_2 τ1_0) = ((p_le π), τ1_0) := by rw [L1_X3_parse]; rw [if_pos c_1, if_neg c_2, if_pos c_4, if_neg c_6]
              rw [pr1 E9, pr2 E9]
              exact W.iret hx hb hr (fun t ht hW => ⟨rfl, by rw [ht]; exact hP, hS.F ht⟩) hS.2.2 dX3_parse_88
            · skip
              exact absurd (by decide) c_7
          · skip
            refine lv_iconst (v := 1) hx hb dX3_parse_69 (by decide) ?_
            refine lv_goto (tgt := 74) hx hb dX3_parse_70 (by decide) ?_
            refine lv_istore_n (lv' := [(2, .int 1), (0, .ref (α 0)), (1, .ref (β 0))]) hx hb dX3_parse_74 rfl hl (by decide) rfl (fun ls hl => ?_)
            refine lv_iload_n hx hb dX3_parse_75 rfl (lv_at hl 0 rfl) ?_
            refine lv_if_eq (tgt := 84) hx hb dX3_parse_76 (by decide) (fun (c_8 : 1 = 0) => ?_) (fun (c_8 : ¬ 1 = 0) => ?_)
            · skip
              exact absurd c_8 (by decide)
            · skip
              refine lv_bipush (v := (-6)) hx hb dX3_parse_79 (by decide) ?_
              refine lv_goto (tgt := 88) hx hb dX3_parse_81 (by decide) ?_
              have E9 : (L1_X3_parse ρ π (n + 1) v1_2 τ1_0) = ((-6), τ1_0) := by rw [L1_X3_parse]; rw [if_pos c_1, if_neg c_2, if_pos c_4, if_pos c_6]
              rw [pr1 E9, pr2 E9]
              exact W.iret hx hb hr (fun t ht hW => ⟨rfl, by rw [ht]; exact hP, hS.F ht⟩) hS.2.2 dX3_parse_88
    · skip
      have hok := hok.2 c_1
      refine lv_aload_n hx hb dX3_parse_20 rfl (lv_at hl 0 rfl) ?_
      refine lv_aload_n hx hb dX3_parse_21 rfl (lv_at hl 1 rfl) ?_
      refine lv_iload_n hx hb dX3_parse_22 rfl (lv_at hl 2 rfl) ?_
      refine rdV (As := [.int v1_2]) (rest := [.ref (α 0)]) (c_X2_signAt l G β π v1_2) hF (cwV 1 hts gX3_parse_X2_signAt rfl rfl rfl (by decide +kernel) ⟨Nat.le_of_ble_eq_true rfl, Nat.le_of_ble_eq_true rfl⟩) (rcv_P hK (va_PR hP)) hK (va_PR hP) rfl hl.1 rfl (Nat.le_of_ble_eq_true rfl) dX3_parse_23 ⟨Nat.zero_le _, Nat.zero_le _⟩ ?_
      refine wrVL (As := [.int (s_X2_signAt π v1_2)]) (rest := []) (c_X3_takes l G α τ1_0 (s_X2_signAt π v1_2)) hF (cwV 1 hts gX3_parse_X3_takes rfl rfl rfl (by decide +kernel) ⟨Nat.le_of_ble_eq_true rfl, Nat.le_of_ble_eq_true rfl⟩) (rcv_Q hK (va_PL hP)) hK hP hD hS (fst_Q _ _) rfl hl.1 rfl (Nat.le_of_ble_eq_true rfl) dX3_parse_26 ⟨Nat.zero_le _, Nat.zero_le _⟩ (fun H locs hP hD hS => ?_)
      have hP : va_P G.1 vwCl ((qW G.2.1 α ((s_X3_takes τ1_0 (s_X2_signAt π v1_2)).2)) ++ (pW G.2.1 β π)) H := hP
      have hD : va_D (inW w0) ((qW G.2.1 α ((s_X3_takes τ1_0 (s_X2_signAt π v1_2)).2)) ++ (pW G.2.1 β π)) := hD
      refine lv_if_ne (tgt := 34) hx hb dX3_parse_29 (by decide) (fun (c_9 : ¬ ((s_X3_takes τ1_0 (s_X2_signAt π v1_2)).1) = 0) => ?_) (fun (c_9 : ((s_X3_takes τ1_0 (s_X2_signAt π v1_2)).1) = 0) => ?_)
      · skip
        have hok := hok.2 c_9
        refine lv_iinc (v := (v1_2 + 1)) (lv' := [(2, .int (v1_2 + 1)), (0, .ref (α 0)), (1, .ref (β 0))]) hx hb dX3_parse_34 hl (k := 2) rfl rfl (by decide) rfl (fun ls hl => ?_)
        refine lv_goto (tgt := 12) hx hb dX3_parse_37 (by decide) ?_
        rw [show (L1_X3_parse ρ π (n + 1) v1_2 τ1_0) = (L1_X3_parse ρ π n (v1_2 + 1) ((s_X3_takes τ1_0 (s_X2_signAt π v1_2)).2)) from by rw [L1_X3_parse]; rw [if_neg c_1, if_neg c_9]]
        exact ih (v1_2 + 1) ((s_X3_takes τ1_0 (s_X2_signAt π v1_2)).2) hok _ _ hP hD hS ls (lv_sub hl [1, 2, 0] rfl)
      · skip
        refine lv_iload_n hx hb dX3_parse_32 rfl (lv_at hl 2 rfl) ?_
        have E9 : (L1_X3_parse ρ π (n + 1) v1_2 τ1_0) = (v1_2, ((s_X3_takes τ1_0 (s_X2_signAt π v1_2)).2)) := by rw [L1_X3_parse]; rw [if_neg c_1, if_pos c_9]
        rw [pr1 E9, pr2 E9]
        exact W.iret hx hb hr (fun t ht hW => ⟨rfl, by rw [ht]; exact hP, hS.F ht⟩) hS.2.2 dX3_parse_33
set_option maxHeartbeats 4000000 in
set_option maxRecDepth 100000 in
theorem c_X3_parse (l : Launch) (G : GG) (α : Nat → Nat) (β : Nat → Nat) (ρ : QS) (π : PS) (hok : ok_X3_parse ρ π) : Wr G l yX3_parse wsX3_parse 4 84 [.ref (α 0), .ref (β 0)] ((qW G.2.1 α ρ) ++ (pW G.2.1 β π)) (some (.int (s_X3_parse ρ π).1)) ((qW G.2.1 α ((s_X3_parse ρ π).2)) ++ (pW G.2.1 β π)) := by
  refine Met.ofW (cc := cX3_parse) (maxL := 3) (ret := (some .int)) (by decide) rfl ?_
  intro p e s m args below meth c s₁ B hml hv
  obtain ⟨rfl, hP, hK, hD0⟩ := hv
  have C0 : cA p s m meth c ([.ref (α 0), .ref (β 0)] : List Value).toArray cX3_parse 3 (some .int) wsX3_parse RX3 := ⟨B.exec, B.bytes, B.returns, hml, findClass_of_methodNamed B.named, atoms_spec (ws := wsX3_parse) B.pre, B.notSynchronized⟩
  obtain ⟨hx, hb, hr, hml, hown, hts, hlocks⟩ := id C0
  have hF : CallFix p m c cX3_parse 3 s _ wsX3_parse RX3 := ⟨hx, hb, hml, hown, hts⟩
  have hinX2 : ∀ w ∈ wsX20, w ∈ wsX3_parse := by decide +kernel
  have hinX3 : ∀ w ∈ wsX30, w ∈ wsX3_parse := by decide +kernel
  obtain ⟨w0, hw0⟩ : ∃ w0 : va_W, w0 = ((qW G.2.1 α ρ) ++ (pW G.2.1 β π)) := ⟨_, rfl⟩
  have hD : va_D (inW w0) ((qW G.2.1 α ρ) ++ (pW G.2.1 β π)) := by rw [hw0]; exact inW.D hD0
  have hS : va_S (inW w0) s.heap s.heap [] := va_S.rf
  rw [show QW G ((qW G.2.1 α ρ) ++ (pW G.2.1 β π)) = QW G w0 from by rw [hw0], show inW ((qW G.2.1 α ρ) ++ (pW G.2.1 β π)) = inW w0 from by rw [hw0]]
  have hl := lv_entry ([.ref (α 0), .ref (β 0)]) (n := 3) (Nat.le_of_ble_eq_true rfl)
  rw [lg_entry_eq]
  generalize (lg_sl ([.ref (α 0), .ref (β 0)]) ++ List.replicate (3 - (lg_sl ([.ref (α 0), .ref (β 0)])).length) Slot.unset).toArray = ls at hl ⊢
  have hl : lv_has ls 3 [(0, .ref (α 0)), (1, .ref (β 0))] := hl
  have hok : okL1_X3_parse ρ π FU 0 (q_pl' (q_sz' ρ 0) 0) := hok
  refine lv_aload_n hx hb dX3_parse_0 rfl (lv_at hl 0 rfl) ?_
  refine lv_iconst (v := 0) hx hb dX3_parse_1 (by decide) ?_
  refine va_put (D := G.1) (ci := 3) (v := .int 0) (ty := .int) (C := RX3) (T := TX3) (N := 5) hx hb hts hinX3 tyX3 tyX3_ok nmX3 hown hK.1 hP hD hS 0 rfl rfl 3 (by decide) (hts (.fieldLink RX3 21 "GrooveTurns$Requests" "size" "I") (by decide +kernel)) (fun _ h9 => h9) rfl (by decide +kernel) rfl rfl (Nat.le_of_ble_eq_true rfl) dX3_parse_2 (fun H locs hP hD hS => ?_)
  have hP : va_P G.1 vwCl ((qW G.2.1 α (q_sz' ρ 0)) ++ (pW G.2.1 β π)) H := hP
  have hD : va_D (inW w0) ((qW G.2.1 α (q_sz' ρ 0)) ++ (pW G.2.1 β π)) := hD
  refine lv_aload_n hx hb dX3_parse_5 rfl (lv_at hl 0 rfl) ?_
  refine lv_iconst (v := 0) hx hb dX3_parse_6 (by decide) ?_
  refine va_put (D := G.1) (ci := 3) (v := .int 0) (ty := .int) (C := RX3) (T := TX3) (N := 5) hx hb hts hinX3 tyX3 tyX3_ok nmX3 hown hK.1 hP hD hS 0 rfl rfl 4 (by decide) (hts (.fieldLink RX3 25 "GrooveTurns$Requests" "place" "I") (by decide +kernel)) (fun _ h9 => h9) rfl (by decide +kernel) rfl rfl (Nat.le_of_ble_eq_true rfl) dX3_parse_7 (fun H locs hP hD hS => ?_)
  have hP : va_P G.1 vwCl ((qW G.2.1 α (q_pl' (q_sz' ρ 0) 0)) ++ (pW G.2.1 β π)) H := hP
  have hD : va_D (inW w0) ((qW G.2.1 α (q_pl' (q_sz' ρ 0) 0)) ++ (pW G.2.1 β π)) := hD
  refine lv_iconst (v := 0) hx hb dX3_parse_10 (by decide) ?_
  refine lv_istore_n (lv' := [(2, .int 0), (0, .ref (α 0)), (1, .ref (β 0))]) hx hb dX3_parse_11 rfl hl (by decide) rfl (fun ls hl => ?_)
  rw [show s_X3_parse ρ π = (L1_X3_parse ρ π FU 0 (q_pl' (q_sz' ρ 0) 0)) from by rw [s_X3_parse]]
  exact wL1_X3_parse l G α β ρ π C0 hK FU 0 (q_pl' (q_sz' ρ 0) 0) hok _ _ hP hD hS ls (lv_sub hl [1, 2, 0] rfl)
def t1_X3_doOne (ρ : QS) (σ : DS) (p2 : Int32) : DS := ((s_X0_writeTo σ (s_X4_at 21 (q_ad ρ) p2) (s_X4_at 21 (q_nu ρ) p2)).2)
def s_X3_doOne (ρ : QS) (σ : DS) (p2 : Int32) : Int32 × DS := (if (s_X3_isWriting ρ p2) = 0 then (if 0 ≤ ((s_X0_readFrom σ (s_X4_at 21 (q_ad ρ) p2)).1) then (1, ((s_X0_readFrom σ (s_X4_at 21 (q_ad ρ) p2)).2)) else (0, ((s_X0_readFrom σ (s_X4_at 21 (q_ad ρ) p2)).2))) else (if 0 ≤ ((s_X0_writeTo σ (s_X4_at 21 (q_ad ρ) p2) (s_X4_at 21 (q_nu ρ) p2)).1) then (1, (t1_X3_doOne ρ σ p2)) else (0, (t1_X3_doOne ρ σ p2))))
set_option maxHeartbeats 4000000 in
set_option maxRecDepth 100000 in
theorem c_X3_doOne (l : Launch) (G : GG) (α : Nat → Nat) (β : Nat → Nat) (ρ : QS) (σ : DS) (p2 : Int32) : Wr G l yX3_doOne wsX3_doOne 5 111 [.ref (α 0), .ref (β 0), .int p2] ((qW G.2.1 α ρ) ++ (dW G.2.1 β σ)) (some (.int (s_X3_doOne ρ σ p2).1)) ((qW G.2.1 α ρ) ++ (dW G.2.1 β ((s_X3_doOne ρ σ p2).2))) := by
  refine Met.ofW (cc := cX3_doOne) (maxL := 5) (ret := (some .int)) (by decide) rfl ?_
  intro p e s m args below meth c s₁ B hml hv
  obtain ⟨rfl, hP, hK, hD0⟩ := hv
  have C0 : cA p s m meth c ([.ref (α 0), .ref (β 0), .int p2] : List Value).toArray cX3_doOne 5 (some .int) wsX3_doOne RX3 := ⟨B.exec, B.bytes, B.returns, hml, findClass_of_methodNamed B.named, atoms_spec (ws := wsX3_doOne) B.pre, B.notSynchronized⟩
  obtain ⟨hx, hb, hr, hml, hown, hts, hlocks⟩ := id C0
  have hF : CallFix p m c cX3_doOne 5 s _ wsX3_doOne RX3 := ⟨hx, hb, hml, hown, hts⟩
  have hinX3 : ∀ w ∈ wsX30, w ∈ wsX3_doOne := by decide +kernel
  obtain ⟨w0, hw0⟩ : ∃ w0 : va_W, w0 = ((qW G.2.1 α ρ) ++ (dW G.2.1 β σ)) := ⟨_, rfl⟩
  have hD : va_D (inW w0) ((qW G.2.1 α ρ) ++ (dW G.2.1 β σ)) := by rw [hw0]; exact inW.D hD0
  have hS : va_S (inW w0) s.heap s.heap [] := va_S.rf
  rw [show QW G ((qW G.2.1 α ρ) ++ (dW G.2.1 β σ)) = QW G w0 from by rw [hw0], show inW ((qW G.2.1 α ρ) ++ (dW G.2.1 β σ)) = inW w0 from by rw [hw0]]
  have hl := lv_entry ([.ref (α 0), .ref (β 0), .int p2]) (n := 5) (Nat.le_of_ble_eq_true rfl)
  rw [lg_entry_eq]
  generalize (lg_sl ([.ref (α 0), .ref (β 0), .int p2]) ++ List.replicate (5 - (lg_sl ([.ref (α 0), .ref (β 0), .int p2])).length) Slot.unset).toArray = ls at hl ⊢
  have hl : lv_has ls 5 [(0, .ref (α 0)), (1, .ref (β 0)), (2, .int p2)] := hl
  refine lv_aload_n hx hb dX3_doOne_0 rfl (lv_at hl 0 rfl) ?_
  refine va_get (D := G.1) (ci := 3) (v := .ref (α 1)) (C := RX3) (T := TX3) (N := 5) hx hb hts hinX3 hown hK.1 hP 0 rfl rfl 0 (by decide) (hts (.fieldLink RX3 9 "GrooveTurns$Requests" "addresses" "[I") (by decide +kernel)) (fun _ h9 => h9) rfl dX3_doOne_1 ?_
  refine lv_iload_n hx hb dX3_doOne_4 rfl (lv_at hl 2 rfl) ?_
  refine rdN (As := [.ref (α 1), .int p2]) (rest := []) (c_X4_at l G (α 1) 21 (q_ad ρ) p2 (by decide)) hF (va_cnB (host := RX4) 2 hts gX3_doOne_X4_at_n68 rfl rfl rfl (hK.nest 12 rfl) (hts (.initialized RX4) (by decide +kernel)) (by decide +kernel) ⟨Nat.le_of_ble_eq_true rfl, Nat.le_of_ble_eq_true rfl⟩) (hts (.static yX4_at) (by decide +kernel)) hK (cell_Q_ad (va_PL hP)) rfl hl.1 rfl (Nat.le_of_ble_eq_true rfl) dX3_doOne_5 ⟨Nat.zero_le _, Nat.zero_le _⟩ ?_
  refine lv_istore_n (lv' := [(3, .int (s_X4_at 21 (q_ad ρ) p2)), (0, .ref (α 0)), (1, .ref (β 0)), (2, .int p2)]) hx hb dX3_doOne_8 rfl hl (by decide) rfl (fun ls hl => ?_)
  refine lv_aload_n hx hb dX3_doOne_9 rfl (lv_at hl 1 rfl) ?_
  refine lv_iload_n hx hb dX3_doOne_10 rfl (lv_at hl 3 rfl) ?_
  refine rdV (As := [.int p2]) (rest := []) (c_X3_isWriting l G α ρ p2) hF (cwV 1 hts gX3_doOne_X3_isWriting rfl rfl rfl (by decide +kernel) ⟨Nat.le_of_ble_eq_true rfl, Nat.le_of_ble_eq_true rfl⟩) (rcv_Q hK (va_PL hP)) hK (va_PL hP) rfl hl.1 rfl (Nat.le_of_ble_eq_true rfl) dX3_doOne_11 ⟨Nat.zero_le _, Nat.zero_le _⟩ ?_
  refine lv_if_eq (tgt := 33) hx hb dX3_doOne_14 (by decide) (fun (c_1 : (s_X3_isWriting ρ p2) = 0) => ?_) (fun (c_1 : ¬ (s_X3_isWriting ρ p2) = 0) => ?_)
  · skip
    refine lv_aload_n hx hb dX3_doOne_33 rfl (lv_at hl 2 rfl) ?_
    refine lv_iload_n hx hb dX3_doOne_34 rfl (lv_at hl 0 rfl) ?_
    refine wrVR (As := [.int (s_X4_at 21 (q_ad ρ) p2)]) (rest := []) (c_X0_readFrom l G β σ (s_X4_at 21 (q_ad ρ) p2)) hF (cwV 1 hts gX3_doOne_X0_readFrom rfl rfl rfl (by decide +kernel) ⟨Nat.le_of_ble_eq_true rfl, Nat.le_of_ble_eq_true rfl⟩) (rcv_D hK (va_PR hP)) hK hP hD hS (fst_D _ _) rfl hl.1 rfl (Nat.le_of_ble_eq_true rfl) dX3_doOne_35 ⟨Nat.zero_le _, Nat.zero_le _⟩ (fun H locs hP hD hS => ?_)
    have hP : va_P G.1 vwCl ((qW G.2.1 α ρ) ++ (dW G.2.1 β ((s_X0_readFrom σ (s_X4_at 21 (q_ad ρ) p2)).2))) H := hP
    have hD : va_D (inW w0) ((qW G.2.1 α ρ) ++ (dW G.2.1 β ((s_X0_readFrom σ (s_X4_at 21 (q_ad ρ) p2)).2))) := hD
    refine lv_istore (lv' := [(4, .int ((s_X0_readFrom σ (s_X4_at 21 (q_ad ρ) p2)).1)), (3, .int (s_X4_at 21 (q_ad ρ) p2)), (0, .ref (α 0)), (1, .ref (β 0)), (2, .int p2)]) hx hb dX3_doOne_38 hl (by decide) rfl (fun ls hl => ?_)
    refine lv_iload hx hb dX3_doOne_40 (lv_at hl 0 rfl) ?_
    refine lv_if_ge (tgt := 49) hx hb dX3_doOne_42 (by decide) (fun (c_2 : 0 ≤ ((s_X0_readFrom σ (s_X4_at 21 (q_ad ρ) p2)).1)) => ?_) (fun (c_2 : ¬ 0 ≤ ((s_X0_readFrom σ (s_X4_at 21 (q_ad ρ) p2)).1)) => ?_)
    · skip
      refine lv_iconst (v := 1) hx hb dX3_doOne_49 (by decide) ?_
      have E9 : s_X3_doOne ρ σ p2 = (1, ((s_X0_readFrom σ (s_X4_at 21 (q_ad ρ) p2)).2)) := by rw [s_X3_doOne]; rw [if_pos c_1, if_pos c_2]
      rw [pr1 E9, pr2 E9]
      exact W.iret hx hb hr (fun t ht hW => ⟨rfl, by rw [ht]; exact hP, hS.F ht⟩) hS.2.2 dX3_doOne_50
    · skip
      refine lv_iconst (v := 0) hx hb dX3_doOne_45 (by decide) ?_
      refine lv_goto (tgt := 50) hx hb dX3_doOne_46 (by decide) ?_
      have E9 : s_X3_doOne ρ σ p2 = (0, ((s_X0_readFrom σ (s_X4_at 21 (q_ad ρ) p2)).2)) := by rw [s_X3_doOne]; rw [if_pos c_1, if_neg c_2]
      rw [pr1 E9, pr2 E9]
      exact W.iret hx hb hr (fun t ht hW => ⟨rfl, by rw [ht]; exact hP, hS.F ht⟩) hS.2.2 dX3_doOne_50
  · skip
    refine lv_aload_n hx hb dX3_doOne_17 rfl (lv_at hl 2 rfl) ?_
    refine lv_iload_n hx hb dX3_doOne_18 rfl (lv_at hl 0 rfl) ?_
    refine lv_aload_n hx hb dX3_doOne_19 rfl (lv_at hl 1 rfl) ?_
    refine va_get (D := G.1) (ci := 3) (v := .ref (α 2)) (C := RX3) (T := TX3) (N := 5) hx hb hts hinX3 hown hK.1 hP 0 rfl rfl 1 (by decide) (hts (.fieldLink RX3 15 "GrooveTurns$Requests" "numbers" "[I") (by decide +kernel)) (fun _ h9 => h9) rfl dX3_doOne_20 ?_
    refine lv_iload_n hx hb dX3_doOne_23 rfl (lv_at hl 3 rfl) ?_
    refine rdN (As := [.ref (α 2), .int p2]) (rest := [.int (s_X4_at 21 (q_ad ρ) p2), .ref (β 0)]) (c_X4_at l G (α 2) 21 (q_nu ρ) p2 (by decide)) hF (va_cnB (host := RX4) 2 hts gX3_doOne_X4_at_n68 rfl rfl rfl (hK.nest 12 rfl) (hts (.initialized RX4) (by decide +kernel)) (by decide +kernel) ⟨Nat.le_of_ble_eq_true rfl, Nat.le_of_ble_eq_true rfl⟩) (hts (.static yX4_at) (by decide +kernel)) hK (cell_Q_nu (va_PL hP)) rfl hl.1 rfl (Nat.le_of_ble_eq_true rfl) dX3_doOne_24 ⟨Nat.zero_le _, Nat.zero_le _⟩ ?_
    refine wrVR (As := [.int (s_X4_at 21 (q_ad ρ) p2), .int (s_X4_at 21 (q_nu ρ) p2)]) (rest := []) (c_X0_writeTo l G β σ (s_X4_at 21 (q_ad ρ) p2) (s_X4_at 21 (q_nu ρ) p2)) hF (cwV 2 hts gX3_doOne_X0_writeTo rfl rfl rfl (by decide +kernel) ⟨Nat.le_of_ble_eq_true rfl, Nat.le_of_ble_eq_true rfl⟩) (rcv_D hK (va_PR hP)) hK hP hD hS (fst_D _ _) rfl hl.1 rfl (Nat.le_of_ble_eq_true rfl) dX3_doOne_27 ⟨Nat.zero_le _, Nat.zero_le _⟩ (fun H locs hP hD hS => ?_)
    have hP : va_P G.1 vwCl ((qW G.2.1 α ρ) ++ (dW G.2.1 β (t1_X3_doOne ρ σ p2))) H := hP
    have hD : va_D (inW w0) ((qW G.2.1 α ρ) ++ (dW G.2.1 β (t1_X3_doOne ρ σ p2))) := hD
    refine lv_goto (tgt := 38) hx hb dX3_doOne_30 (by decide) ?_
    refine lv_istore (lv' := [(4, .int ((s_X0_writeTo σ (s_X4_at 21 (q_ad ρ) p2) (s_X4_at 21 (q_nu ρ) p2)).1)), (3, .int (s_X4_at 21 (q_ad ρ) p2)), (0, .ref (α 0)), (1, .ref (β 0)), (2, .int p2)]) hx hb dX3_doOne_38 hl (by decide) rfl (fun ls hl => ?_)
    refine lv_iload hx hb dX3_doOne_40 (lv_at hl 0 rfl) ?_
    refine lv_if_ge (tgt := 49) hx hb dX3_doOne_42 (by decide) (fun (c_3 : 0 ≤ ((s_X0_writeTo σ (s_X4_at 21 (q_ad ρ) p2) (s_X4_at 21 (q_nu ρ) p2)).1)) => ?_) (fun (c_3 : ¬ 0 ≤ ((s_X0_writeTo σ (s_X4_at 21 (q_ad ρ) p2) (s_X4_at 21 (q_nu ρ) p2)).1)) => ?_)
    · skip
      refine lv_iconst (v := 1) hx hb dX3_doOne_49 (by decide) ?_
      have E9 : s_X3_doOne ρ σ p2 = (1, (t1_X3_doOne ρ σ p2)) := by rw [s_X3_doOne]; rw [if_neg c_1, if_pos c_3]
      rw [pr1 E9, pr2 E9]
      exact W.iret hx hb hr (fun t ht hW => ⟨rfl, by rw [ht]; exact hP, hS.F ht⟩) hS.2.2 dX3_doOne_50
    · skip
      refine lv_iconst (v := 0) hx hb dX3_doOne_45 (by decide) ?_
      refine lv_goto (tgt := 50) hx hb dX3_doOne_46 (by decide) ?_
      have E9 : s_X3_doOne ρ σ p2 = (0, (t1_X3_doOne ρ σ p2)) := by rw [s_X3_doOne]; rw [if_neg c_1, if_neg c_3]
      rw [pr1 E9, pr2 E9]
      exact W.iret hx hb hr (fun t ht hW => ⟨rfl, by rw [ht]; exact hP, hS.F ht⟩) hS.2.2 dX3_doOne_50
def t1_X3_noteTracks (ρ : QS) (σ : DS) (p2 : Int32) (v1_3 : Int32) (τ1_0 : QS) : QS := (q_tr' τ1_0 (s_X4_lay 21 (q_tr τ1_0) v1_3 (s_X4_trackOf (s_X0_sectorFor σ (s_X4_at 21 (q_ad τ1_0) v1_3)))))
def L1_X3_noteTracks (ρ : QS) (σ : DS) (p2 : Int32) : Nat → Int32 → QS → QS
  | 0, v1_3, τ1_0 => τ1_0
  | n + 1, v1_3, τ1_0 => (if (q_sz τ1_0) ≤ v1_3 then τ1_0 else (if p2 = 0 then (L1_X3_noteTracks ρ σ p2 n (v1_3 + 1) (q_tr' τ1_0 (s_X4_lay 21 (q_tr τ1_0) v1_3 0))) else (L1_X3_noteTracks ρ σ p2 n (v1_3 + 1) (t1_X3_noteTracks ρ σ p2 v1_3 τ1_0))))
def okL1_X3_noteTracks (ρ : QS) (σ : DS) (p2 : Int32) : Nat → Int32 → QS → Prop
  | 0, _, _ => False
  | n + 1, v1_3, τ1_0 => ((q_sz τ1_0) ≤ v1_3 → True) ∧ (¬ (q_sz τ1_0) ≤ v1_3 → ((p2 = 0 → (okL1_X3_noteTracks ρ σ p2 n (v1_3 + 1) (q_tr' τ1_0 (s_X4_lay 21 (q_tr τ1_0) v1_3 0)))) ∧ (¬ p2 = 0 → (okL1_X3_noteTracks ρ σ p2 n (v1_3 + 1) (t1_X3_noteTracks ρ σ p2 v1_3 τ1_0)))))
def s_X3_noteTracks (ρ : QS) (σ : DS) (p2 : Int32) : QS := (L1_X3_noteTracks ρ σ p2 FU 0 ρ)
def ok_X3_noteTracks (ρ : QS) (σ : DS) (p2 : Int32) : Prop := okL1_X3_noteTracks ρ σ p2 FU 0 ρ
set_option maxHeartbeats 4000000 in
set_option maxRecDepth 100000 in
theorem wL1_X3_noteTracks {p : Program} {e : Env} {s : State} {m : MethodId} {args : Array Value} {below : List Frame} {meth : Method} {c : Code} {w0 : va_W} (l : Launch) (G : GG) (α : Nat → Nat) (β : Nat → Nat) (ρ : QS) (σ : DS) (p2 : Int32) (C0 : cA p s m meth c args cX3_noteTracks 5 none wsX3_noteTracks RX3) (hK : cK G s) : ∀ (n : Nat) (v1_3 : Int32) (τ1_0 : QS)  (hok : okL1_X3_noteTracks ρ σ p2 n v1_3 τ1_0) (H : Heap) (locs : List Loc), va_P G.1 vwCl ((qW G.2.1 α τ1_0) ++ (dW G.2.1 β σ)) H → va_D (inW w0) ((qW G.2.1 α τ1_0) ++ (dW G.2.1 β σ)) → va_S (inW w0) s.heap H locs → ∀ (ls : Array Slot), lv_has ls 5 [(0, .ref (α 0)), (1, .ref (β 0)), (2, .int p2), (3, .int v1_3)] → W p l e (rmm 2 42) s m args below meth c H locs 0 0 (MQ below (QW G w0 ((qW G.2.1 α (L1_X3_noteTracks ρ σ p2 n v1_3 τ1_0)) ++ (dW G.2.1 β σ)) none) args s 0 0 (inW w0)) (F0 m 2 ls []) := by
  obtain ⟨hx, hb, hr, hml, hown, hts, hlocks⟩ := id C0
  have hF : CallFix p m c cX3_noteTracks 5 s args wsX3_noteTracks RX3 := ⟨hx, hb, hml, hown, hts⟩
  have hinX3 : ∀ w ∈ wsX30, w ∈ wsX3_noteTracks := by decide +kernel
  intro n
  induction n with
  | zero =>
    intro v1_3 τ1_0 hok
    exact hok.elim
  | succ n ih =>
    intro v1_3 τ1_0 hok H locs hP hD hS ls hl
    have hok : ((q_sz τ1_0) ≤ v1_3 → True) ∧ (¬ (q_sz τ1_0) ≤ v1_3 → ((p2 = 0 → (okL1_X3_noteTracks ρ σ p2 n (v1_3 + 1) (q_tr' τ1_0 (s_X4_lay 21 (q_tr τ1_0) v1_3 0)))) ∧ (¬ p2 = 0 → (okL1_X3_noteTracks ρ σ p2 n (v1_3 + 1) (t1_X3_noteTracks ρ σ p2 v1_3 τ1_0))))) := hok
    refine lv_iload_n hx hb dX3_noteTracks_2 rfl (lv_at hl 3 rfl) ?_
    refine lv_aload_n hx hb dX3_noteTracks_3 rfl (lv_at hl 0 rfl) ?_
    refine va_get (D := G.1) (ci := 3) (v := .int (q_sz τ1_0)) (C := RX3) (T := TX3) (N := 5) hx hb hts hinX3 hown hK.1 hP 0 rfl rfl 3 (by decide) (hts (.fieldLink RX3 21 "GrooveTurns$Requests" "size" "I") (by decide +kernel)) (fun _ h9 => h9) rfl dX3_noteTracks_4 ?_
    refine lv_icmp_ge (tgt := 51) hx hb dX3_noteTracks_7 (by decide) (fun (c_1 : (q_sz τ1_0) ≤ v1_3) => ?_) (fun (c_1 : ¬ (q_sz τ1_0) ≤ v1_3) => ?_)
    · skip
      rw [show (L1_X3_noteTracks ρ σ p2 (n + 1) v1_3 τ1_0) = τ1_0 from by rw [L1_X3_noteTracks]; rw [if_pos c_1]]
      exact W.vret hx hb hr (fun t ht hW => ⟨rfl, by rw [ht]; exact hP, hS.F ht⟩) hS.2.2 dX3_noteTracks_51
    · skip
      have hok := hok.2 c_1
      refine lv_aload_n hx hb dX3_noteTracks_10 rfl (lv_at hl 1 rfl) ?_
      refine lv_aload_n hx hb dX3_noteTracks_11 rfl (lv_at hl 0 rfl) ?_
      refine va_get (D := G.1) (ci := 3) (v := .ref (α 1)) (C := RX3) (T := TX3) (N := 5) hx hb hts hinX3 hown hK.1 hP 0 rfl rfl 0 (by decide) (hts (.fieldLink RX3 9 "GrooveTurns$Requests" "addresses" "[I") (by decide +kernel)) (fun _ h9 => h9) rfl dX3_noteTracks_12 ?_
      refine lv_iload_n hx hb dX3_noteTracks_15 rfl (lv_at hl 3 rfl) ?_
      refine rdN (As := [.ref (α 1), .int v1_3]) (rest := [.ref (β 0)]) (c_X4_at l G (α 1) 21 (q_ad τ1_0) v1_3 (by decide)) hF (va_cnB (host := RX4) 2 hts gX3_noteTracks_X4_at_n68 rfl rfl rfl (hK.nest 12 rfl) (hts (.initialized RX4) (by decide +kernel)) (by decide +kernel) ⟨Nat.le_of_ble_eq_true rfl, Nat.le_of_ble_eq_true rfl⟩) (hts (.static yX4_at) (by decide +kernel)) hK (cell_Q_ad (va_PL hP)) rfl hl.1 rfl (Nat.le_of_ble_eq_true rfl) dX3_noteTracks_16 ⟨Nat.zero_le _, Nat.zero_le _⟩ ?_
      refine rdV (As := [.int (s_X4_at 21 (q_ad τ1_0) v1_3)]) (rest := []) (c_X0_sectorFor l G β σ (s_X4_at 21 (q_ad τ1_0) v1_3)) hF (cwV 1 hts gX3_noteTracks_X0_sectorFor rfl rfl rfl (by decide +kernel) ⟨Nat.le_of_ble_eq_true rfl, Nat.le_of_ble_eq_true rfl⟩) (rcv_D hK (va_PR hP)) hK (va_PR hP) rfl hl.1 rfl (Nat.le_of_ble_eq_true rfl) dX3_noteTracks_19 ⟨Nat.zero_le _, Nat.zero_le _⟩ ?_
      refine rdN (As := [.int (s_X0_sectorFor σ (s_X4_at 21 (q_ad τ1_0) v1_3))]) (rest := []) (c_X4_trackOf l G (s_X0_sectorFor σ (s_X4_at 21 (q_ad τ1_0) v1_3))) hF (va_cnB (host := RX4) 1 hts gX3_noteTracks_X4_trackOf_n85 rfl rfl rfl (hK.nest 13 rfl) (hts (.initialized RX4) (by decide +kernel)) (by decide +kernel) ⟨Nat.le_of_ble_eq_true rfl, Nat.le_of_ble_eq_true rfl⟩) (hts (.static yX4_trackOf) (by decide +kernel)) hK va_P0 rfl hl.1 rfl (Nat.le_of_ble_eq_true rfl) dX3_noteTracks_22 ⟨Nat.zero_le _, Nat.zero_le _⟩ ?_
      refine lv_istore (lv' := [(4, .int (s_X4_trackOf (s_X0_sectorFor σ (s_X4_at 21 (q_ad τ1_0) v1_3)))), (0, .ref (α 0)), (1, .ref (β 0)), (2, .int p2), (3, .int v1_3)]) hx hb dX3_noteTracks_25 hl (by decide) rfl (fun ls hl => ?_)
      refine lv_aload_n hx hb dX3_noteTracks_27 rfl (lv_at hl 1 rfl) ?_
      refine va_get (D := G.1) (ci := 3) (v := .ref (α 3)) (C := RX3) (T := TX3) (N := 5) hx hb hts hinX3 hown hK.1 hP 0 rfl rfl 2 (by decide) (hts (.fieldLink RX3 18 "GrooveTurns$Requests" "tracks" "[I") (by decide +kernel)) (fun _ h9 => h9) rfl dX3_noteTracks_28 ?_
      refine lv_iload_n hx hb dX3_noteTracks_31 rfl (lv_at hl 4 rfl) ?_
      refine lv_iload_n hx hb dX3_noteTracks_32 rfl (lv_at hl 3 rfl) ?_
      refine lv_if_eq (tgt := 41) hx hb dX3_noteTracks_33 (by decide) (fun (c_2 : p2 = 0) => ?_) (fun (c_2 : ¬ p2 = 0) => ?_)
      · skip
        have hok := hok.1 c_2
        refine lv_iconst (v := 0) hx hb dX3_noteTracks_41 (by decide) ?_
        refine wrN (As := [.ref (α 3), .int v1_3, .int 0]) (rest := []) (c_X4_lay l G (α 3) 21 (q_tr τ1_0) v1_3 0 (by decide)) hF (va_cnB (host := RX4) 3 hts gX3_noteTracks_X4_lay_n61 rfl rfl rfl (hK.nest 11 rfl) (hts (.initialized RX4) (by decide +kernel)) (by decide +kernel) ⟨Nat.le_of_ble_eq_true rfl, Nat.le_of_ble_eq_true rfl⟩) (hts (.static yX4_lay) (by decide +kernel)) hK hP hD hS [3] rfl rfl rfl (by decide) rfl hl.1 rfl (Nat.le_of_ble_eq_true rfl) dX3_noteTracks_42 ⟨Nat.zero_le _, Nat.zero_le _⟩ (fun H locs hP hD hS => ?_)
        have hP : va_P G.1 vwCl ((qW G.2.1 α (q_tr' τ1_0 (s_X4_lay 21 (q_tr τ1_0) v1_3 0))) ++ (dW G.2.1 β σ)) H := hP
        have hD : va_D (inW w0) ((qW G.2.1 α (q_tr' τ1_0 (s_X4_lay 21 (q_tr τ1_0) v1_3 0))) ++ (dW G.2.1 β σ)) := hD
        refine lv_iinc (v := (v1_3 + 1)) (lv' := [(3, .int (v1_3 + 1)), (4, .int (s_X4_trackOf (s_X0_sectorFor σ (s_X4_at 21 (q_ad τ1_0) v1_3)))), (0, .ref (α 0)), (1, .ref (β 0)), (2, .int p2)]) hx hb dX3_noteTracks_45 hl (k := 4) rfl rfl (by decide) rfl (fun ls hl => ?_)
        refine lv_goto (tgt := 2) hx hb dX3_noteTracks_48 (by decide) ?_
        rw [show (L1_X3_noteTracks ρ σ p2 (n + 1) v1_3 τ1_0) = (L1_X3_noteTracks ρ σ p2 n (v1_3 + 1) (q_tr' τ1_0 (s_X4_lay 21 (q_tr τ1_0) v1_3 0))) from by rw [L1_X3_noteTracks]; rw [if_neg c_1, if_pos c_2]]
        exact ih (v1_3 + 1) (q_tr' τ1_0 (s_X4_lay 21 (q_tr τ1_0) v1_3 0)) hok _ _ hP hD hS ls (lv_sub hl [2, 3, 4, 0] rfl)
      · skip
        have hok := hok.2 c_2
        refine lv_iload hx hb dX3_noteTracks_36 (lv_at hl 0 rfl) ?_
        refine lv_goto (tgt := 42) hx hb dX3_noteTracks_38 (by decide) ?_
        refine wrN (As := [.ref (α 3), .int v1_3, .int (s_X4_trackOf (s_X0_sectorFor σ (s_X4_at 21 (q_ad τ1_0) v1_3)))]) (rest := []) (c_X4_lay l G (α 3) 21 (q_tr τ1_0) v1_3 (s_X4_trackOf (s_X0_sectorFor σ (s_X4_at 21 (q_ad τ1_0) v1_3))) (by decide)) hF (va_cnB (host := RX4) 3 hts gX3_noteTracks_X4_lay_n61 rfl rfl rfl (hK.nest 11 rfl) (hts (.initialized RX4) (by decide +kernel)) (by decide +kernel) ⟨Nat.le_of_ble_eq_true rfl, Nat.le_of_ble_eq_true rfl⟩) (hts (.static yX4_lay) (by decide +kernel)) hK hP hD hS [3] rfl rfl rfl (by decide) rfl hl.1 rfl (Nat.le_of_ble_eq_true rfl) dX3_noteTracks_42 ⟨Nat.zero_le _, Nat.zero_le _⟩ (fun H locs hP hD hS => ?_)
        have hP : va_P G.1 vwCl ((qW G.2.1 α (t1_X3_noteTracks ρ σ p2 v1_3 τ1_0)) ++ (dW G.2.1 β σ)) H := hP
        have hD : va_D (inW w0) ((qW G.2.1 α (t1_X3_noteTracks ρ σ p2 v1_3 τ1_0)) ++ (dW G.2.1 β σ)) := hD
        refine lv_iinc (v := (v1_3 + 1)) (lv' := [(3, .int (v1_3 + 1)), (4, .int (s_X4_trackOf (s_X0_sectorFor σ (s_X4_at 21 (q_ad τ1_0) v1_3)))), (0, .ref (α 0)), (1, .ref (β 0)), (2, .int p2)]) hx hb dX3_noteTracks_45 hl (k := 4) rfl rfl (by decide) rfl (fun ls hl => ?_)
        refine lv_goto (tgt := 2) hx hb dX3_noteTracks_48 (by decide) ?_
        rw [show (L1_X3_noteTracks ρ σ p2 (n + 1) v1_3 τ1_0) = (L1_X3_noteTracks ρ σ p2 n (v1_3 + 1) (t1_X3_noteTracks ρ σ p2 v1_3 τ1_0)) from by rw [L1_X3_noteTracks]; rw [if_neg c_1, if_neg c_2]]
        exact ih (v1_3 + 1) (t1_X3_noteTracks ρ σ p2 v1_3 τ1_0) hok _ _ hP hD hS ls (lv_sub hl [2, 3, 4, 0] rfl)
set_option maxHeartbeats 4000000 in
set_option maxRecDepth 100000 in
theorem c_X3_noteTracks (l : Launch) (G : GG) (α : Nat → Nat) (β : Nat → Nat) (ρ : QS) (σ : DS) (p2 : Int32) (hok : ok_X3_noteTracks ρ σ p2) : Wr G l yX3_noteTracks wsX3_noteTracks 2 42 [.ref (α 0), .ref (β 0), .int p2] ((qW G.2.1 α ρ) ++ (dW G.2.1 β σ)) none ((qW G.2.1 α (s_X3_noteTracks ρ σ p2)) ++ (dW G.2.1 β σ)) := by
  refine Met.ofW (cc := cX3_noteTracks) (maxL := 5) (ret := none) (by decide) rfl ?_
  intro p e s m args below meth c s₁ B hml hv
  obtain ⟨rfl, hP, hK, hD0⟩ := hv
  have C0 : cA p s m meth c ([.ref (α 0), .ref (β 0), .int p2] : List Value).toArray cX3_noteTracks 5 none wsX3_noteTracks RX3 := ⟨B.exec, B.bytes, B.returns, hml, findClass_of_methodNamed B.named, atoms_spec (ws := wsX3_noteTracks) B.pre, B.notSynchronized⟩
  obtain ⟨hx, hb, hr, hml, hown, hts, hlocks⟩ := id C0
  have hF : CallFix p m c cX3_noteTracks 5 s _ wsX3_noteTracks RX3 := ⟨hx, hb, hml, hown, hts⟩
  have hinX3 : ∀ w ∈ wsX30, w ∈ wsX3_noteTracks := by decide +kernel
  obtain ⟨w0, hw0⟩ : ∃ w0 : va_W, w0 = ((qW G.2.1 α ρ) ++ (dW G.2.1 β σ)) := ⟨_, rfl⟩
  have hD : va_D (inW w0) ((qW G.2.1 α ρ) ++ (dW G.2.1 β σ)) := by rw [hw0]; exact inW.D hD0
  have hS : va_S (inW w0) s.heap s.heap [] := va_S.rf
  rw [show QW G ((qW G.2.1 α ρ) ++ (dW G.2.1 β σ)) = QW G w0 from by rw [hw0], show inW ((qW G.2.1 α ρ) ++ (dW G.2.1 β σ)) = inW w0 from by rw [hw0]]
  have hl := lv_entry ([.ref (α 0), .ref (β 0), .int p2]) (n := 5) (Nat.le_of_ble_eq_true rfl)
  rw [lg_entry_eq]
  generalize (lg_sl ([.ref (α 0), .ref (β 0), .int p2]) ++ List.replicate (5 - (lg_sl ([.ref (α 0), .ref (β 0), .int p2])).length) Slot.unset).toArray = ls at hl ⊢
  have hl : lv_has ls 5 [(0, .ref (α 0)), (1, .ref (β 0)), (2, .int p2)] := hl
  have hok : okL1_X3_noteTracks ρ σ p2 FU 0 ρ := hok
  refine lv_iconst (v := 0) hx hb dX3_noteTracks_0 (by decide) ?_
  refine lv_istore_n (lv' := [(3, .int 0), (0, .ref (α 0)), (1, .ref (β 0)), (2, .int p2)]) hx hb dX3_noteTracks_1 rfl hl (by decide) rfl (fun ls hl => ?_)
  rw [show s_X3_noteTracks ρ σ p2 = (L1_X3_noteTracks ρ σ p2 FU 0 ρ) from by rw [s_X3_noteTracks]]
  exact wL1_X3_noteTracks l G α β ρ σ p2 C0 hK FU 0 ρ hok _ _ hP hD hS ls (lv_sub hl [1, 2, 3, 0] rfl)
def L2_X3_doOn (ρ : QS) (σ : DS) (p2 : Int32) (v1_3 : Int32) (v1_4 : Int32) (τ1_1 : DS) (K : Int32 → Int32 → DS → Int32 × QS × DS) : Nat → Int32 → Int32 → DS → Int32 × QS × DS
  | 0, v2_3, v2_5, τ2_1 => (0, ((s_X3_noteTracks ρ σ p2), τ2_1))
  | n + 1, v2_3, v2_5, τ2_1 => (if (q_sz (s_X3_noteTracks ρ σ p2)) ≤ v2_5 then (K v2_3 (v1_4 + 1) τ2_1) else (if (s_X4_at 21 (q_tr (s_X3_noteTracks ρ σ p2)) v2_5) = v1_4 then (L2_X3_doOn ρ σ p2 v1_3 v1_4 τ1_1 K n (v2_3 + ((s_X3_doOne (s_X3_noteTracks ρ σ p2) τ2_1 v2_5).1)) (v2_5 + 1) ((s_X3_doOne (s_X3_noteTracks ρ σ p2) τ2_1 v2_5).2)) else (L2_X3_doOn ρ σ p2 v1_3 v1_4 τ1_1 K n v2_3 (v2_5 + 1) τ2_1)))
def okL2_X3_doOn (ρ : QS) (σ : DS) (p2 : Int32) (v1_3 : Int32) (v1_4 : Int32) (τ1_1 : DS) (K : Int32 → Int32 → DS → Prop) : Nat → Int32 → Int32 → DS → Prop
  | 0, _, _, _ => False
  | n + 1, v2_3, v2_5, τ2_1 => ((q_sz (s_X3_noteTracks ρ σ p2)) ≤ v2_5 → (K v2_3 (v1_4 + 1) τ2_1)) ∧ (¬ (q_sz (s_X3_noteTracks ρ σ p2)) ≤ v2_5 → (((s_X4_at 21 (q_tr (s_X3_noteTracks ρ σ p2)) v2_5) = v1_4 → (okL2_X3_doOn ρ σ p2 v1_3 v1_4 τ1_1 K n (v2_3 + ((s_X3_doOne (s_X3_noteTracks ρ σ p2) τ2_1 v2_5).1)) (v2_5 + 1) ((s_X3_doOne (s_X3_noteTracks ρ σ p2) τ2_1 v2_5).2))) ∧ (¬ (s_X4_at 21 (q_tr (s_X3_noteTracks ρ σ p2)) v2_5) = v1_4 → (okL2_X3_doOn ρ σ p2 v1_3 v1_4 τ1_1 K n v2_3 (v2_5 + 1) τ2_1))))
def L1_X3_doOn (ρ : QS) (σ : DS) (p2 : Int32) : Nat → Int32 → Int32 → DS → Int32 × QS × DS
  | 0, v1_3, v1_4, τ1_1 => (0, ((s_X3_noteTracks ρ σ p2), τ1_1))
  | n + 1, v1_3, v1_4, τ1_1 => (if 16 < v1_4 then (v1_3, ((s_X3_noteTracks ρ σ p2), τ1_1)) else (L2_X3_doOn ρ σ p2 v1_3 v1_4 τ1_1 (fun kv1_3 kv1_4 kτ1_1 => (L1_X3_doOn ρ σ p2 n kv1_3 kv1_4 kτ1_1)) FU v1_3 0 τ1_1))
def okL1_X3_doOn (ρ : QS) (σ : DS) (p2 : Int32) : Nat → Int32 → Int32 → DS → Prop
  | 0, _, _, _ => False
  | n + 1, v1_3, v1_4, τ1_1 => (16 < v1_4 → True) ∧ (¬ 16 < v1_4 → (okL2_X3_doOn ρ σ p2 v1_3 v1_4 τ1_1 (fun kv1_3 kv1_4 kτ1_1 => okL1_X3_doOn ρ σ p2 n kv1_3 kv1_4 kτ1_1) FU v1_3 0 τ1_1))
def s_X3_doOn (ρ : QS) (σ : DS) (p2 : Int32) : Int32 × QS × DS := (L1_X3_doOn ρ σ p2 FU 0 0 σ)
def ok_X3_doOn (ρ : QS) (σ : DS) (p2 : Int32) : Prop := (ok_X3_noteTracks ρ σ p2) ∧ (okL1_X3_doOn ρ σ p2 FU 0 0 σ)
set_option maxHeartbeats 4000000 in
set_option maxRecDepth 100000 in
theorem wL2_X3_doOn {p : Program} {e : Env} {s : State} {m : MethodId} {args : Array Value} {below : List Frame} {meth : Method} {c : Code} {w0 : va_W} (l : Launch) (G : GG) (α : Nat → Nat) (β : Nat → Nat) (ρ : QS) (σ : DS) (p2 : Int32) (v1_3 : Int32) (v1_4 : Int32) (τ1_1 : DS) (C0 : cA p s m meth c args cX3_doOn 6 (some .int) wsX3_doOn RX3) (hK : cK G s) (K : Int32 → Int32 → DS → Int32 × QS × DS) (okK : Int32 → Int32 → DS → Prop) (hKK : ∀ (v1_3 : Int32) (v1_4 : Int32) (τ1_1 : DS)  (hok : okK v1_3 v1_4 τ1_1) (H : Heap) (locs : List Loc), va_P G.1 vwCl ((qW G.2.1 α (s_X3_noteTracks ρ σ p2)) ++ (dW G.2.1 β τ1_1)) H → va_D (inW w0) ((qW G.2.1 α (s_X3_noteTracks ρ σ p2)) ++ (dW G.2.1 β τ1_1)) → va_S (inW w0) s.heap H locs → ∀ (ls : Array Slot), lv_has ls 6 [(0, .ref (α 0)), (1, .ref (β 0)), (2, .int p2), (3, .int v1_3), (4, .int v1_4)] → W p l e (rmm 6 135) s m args below meth c H locs 0 0 (MQ below (QW G w0 ((qW G.2.1 α ((K v1_3 v1_4 τ1_1).2.1)) ++ (dW G.2.1 β ((K v1_3 v1_4 τ1_1).2.2))) (some (.int (K v1_3 v1_4 τ1_1).1))) args s 0 0 (inW w0)) (F0 m 11 ls [])) : ∀ (n : Nat) (v2_3 : Int32) (v2_5 : Int32) (τ2_1 : DS)  (hok : okL2_X3_doOn ρ σ p2 v1_3 v1_4 τ1_1 okK n v2_3 v2_5 τ2_1) (H : Heap) (locs : List Loc), va_P G.1 vwCl ((qW G.2.1 α (s_X3_noteTracks ρ σ p2)) ++ (dW G.2.1 β τ2_1)) H → va_D (inW w0) ((qW G.2.1 α (s_X3_noteTracks ρ σ p2)) ++ (dW G.2.1 β τ2_1)) → va_S (inW w0) s.heap H locs → ∀ (ls : Array Slot), lv_has ls 6 [(0, .ref (α 0)), (1, .ref (β 0)), (2, .int p2), (3, .int v2_3), (4, .int v1_4), (5, .int v2_5)] → W p l e (rmm 6 135) s m args below meth c H locs 0 0 (MQ below (QW G w0 ((qW G.2.1 α ((L2_X3_doOn ρ σ p2 v1_3 v1_4 τ1_1 K n v2_3 v2_5 τ2_1).2.1)) ++ (dW G.2.1 β ((L2_X3_doOn ρ σ p2 v1_3 v1_4 τ1_1 K n v2_3 v2_5 τ2_1).2.2))) (some (.int (L2_X3_doOn ρ σ p2 v1_3 v1_4 τ1_1 K n v2_3 v2_5 τ2_1).1))) args s 0 0 (inW w0)) (F0 m 21 ls []) := by
  obtain ⟨hx, hb, hr, hml, hown, hts, hlocks⟩ := id C0
  have hF : CallFix p m c cX3_doOn 6 s args wsX3_doOn RX3 := ⟨hx, hb, hml, hown, hts⟩
  have hinX3 : ∀ w ∈ wsX30, w ∈ wsX3_doOn := by decide +kernel
  intro n
  induction n with
  | zero =>
    intro v2_3 v2_5 τ2_1 hok
    exact hok.elim
  | succ n ih =>
    intro v2_3 v2_5 τ2_1 hok H locs hP hD hS ls hl
    have hok : ((q_sz (s_X3_noteTracks ρ σ p2)) ≤ v2_5 → (okK v2_3 (v1_4 + 1) τ2_1)) ∧ (¬ (q_sz (s_X3_noteTracks ρ σ p2)) ≤ v2_5 → (((s_X4_at 21 (q_tr (s_X3_noteTracks ρ σ p2)) v2_5) = v1_4 → (okL2_X3_doOn ρ σ p2 v1_3 v1_4 τ1_1 okK n (v2_3 + ((s_X3_doOne (s_X3_noteTracks ρ σ p2) τ2_1 v2_5).1)) (v2_5 + 1) ((s_X3_doOne (s_X3_noteTracks ρ σ p2) τ2_1 v2_5).2))) ∧ (¬ (s_X4_at 21 (q_tr (s_X3_noteTracks ρ σ p2)) v2_5) = v1_4 → (okL2_X3_doOn ρ σ p2 v1_3 v1_4 τ1_1 okK n v2_3 (v2_5 + 1) τ2_1)))) := hok
    refine lv_iload hx hb dX3_doOn_21 (lv_at hl 5 rfl) ?_
    refine lv_aload_n hx hb dX3_doOn_23 rfl (lv_at hl 0 rfl) ?_
    refine va_get (D := G.1) (ci := 3) (v := .int (q_sz (s_X3_noteTracks ρ σ p2))) (C := RX3) (T := TX3) (N := 5) hx hb hts hinX3 hown hK.1 hP 0 rfl rfl 3 (by decide) (hts (.fieldLink RX3 21 "GrooveTurns$Requests" "size" "I") (by decide +kernel)) (fun _ h9 => h9) rfl dX3_doOn_24 ?_
    refine lv_icmp_ge (tgt := 60) hx hb dX3_doOn_27 (by decide) (fun (c_3 : (q_sz (s_X3_noteTracks ρ σ p2)) ≤ v2_5) => ?_) (fun (c_3 : ¬ (q_sz (s_X3_noteTracks ρ σ p2)) ≤ v2_5) => ?_)
    · skip
      have hok := hok.1 c_3
      refine lv_iinc (v := (v1_4 + 1)) (lv' := [(4, .int (v1_4 + 1)), (0, .ref (α 0)), (1, .ref (β 0)), (2, .int p2), (3, .int v2_3), (5, .int v2_5)]) hx hb dX3_doOn_60 hl (k := 4) rfl rfl (by decide) rfl (fun ls hl => ?_)
      refine lv_goto (tgt := 11) hx hb dX3_doOn_63 (by decide) ?_
      rw [show (L2_X3_doOn ρ σ p2 v1_3 v1_4 τ1_1 K (n + 1) v2_3 v2_5 τ2_1) = (K v2_3 (v1_4 + 1) τ2_1) from by rw [L2_X3_doOn]; rw [if_pos c_3]]
      exact hKK v2_3 (v1_4 + 1) τ2_1 hok _ _ hP hD hS ls (lv_sub hl [1, 2, 3, 4, 0] rfl)
    · skip
      have hok := hok.2 c_3
      refine lv_aload_n hx hb dX3_doOn_30 rfl (lv_at hl 0 rfl) ?_
      refine va_get (D := G.1) (ci := 3) (v := .ref (α 3)) (C := RX3) (T := TX3) (N := 5) hx hb hts hinX3 hown hK.1 hP 0 rfl rfl 2 (by decide) (hts (.fieldLink RX3 18 "GrooveTurns$Requests" "tracks" "[I") (by decide +kernel)) (fun _ h9 => h9) rfl dX3_doOn_31 ?_
      refine lv_iload hx hb dX3_doOn_34 (lv_at hl 5 rfl) ?_
      refine rdN (As := [.ref (α 3), .int v2_5]) (rest := []) (c_X4_at l G (α 3) 21 (q_tr (s_X3_noteTracks ρ σ p2)) v2_5 (by decide)) hF (va_cnB (host := RX4) 2 hts gX3_doOn_X4_at_n68 rfl rfl rfl (hK.nest 12 rfl) (hts (.initialized RX4) (by decide +kernel)) (by decide +kernel) ⟨Nat.le_of_ble_eq_true rfl, Nat.le_of_ble_eq_true rfl⟩) (hts (.static yX4_at) (by decide +kernel)) hK (cell_Q_tr (va_PL hP)) rfl hl.1 rfl (Nat.le_of_ble_eq_true rfl) dX3_doOn_36 ⟨Nat.zero_le _, Nat.zero_le _⟩ ?_
      refine lv_iload hx hb dX3_doOn_39 (lv_at hl 4 rfl) ?_
      refine lv_icmp_ne (tgt := 54) hx hb dX3_doOn_41 (by decide) (fun (c_4 : ¬ (s_X4_at 21 (q_tr (s_X3_noteTracks ρ σ p2)) v2_5) = v1_4) => ?_) (fun (c_4 : (s_X4_at 21 (q_tr (s_X3_noteTracks ρ σ p2)) v2_5) = v1_4) => ?_)
      · skip
        have hok := hok.2 c_4
        refine lv_iinc (v := (v2_5 + 1)) (lv' := [(5, .int (v2_5 + 1)), (0, .ref (α 0)), (1, .ref (β 0)), (2, .int p2), (3, .int v2_3), (4, .int v1_4)]) hx hb dX3_doOn_54 hl (k := 5) rfl rfl (by decide) rfl (fun ls hl => ?_)
        refine lv_goto (tgt := 21) hx hb dX3_doOn_57 (by decide) ?_
        rw [show (L2_X3_doOn ρ σ p2 v1_3 v1_4 τ1_1 K (n + 1) v2_3 v2_5 τ2_1) = (L2_X3_doOn ρ σ p2 v1_3 v1_4 τ1_1 K n v2_3 (v2_5 + 1) τ2_1) from by rw [L2_X3_doOn]; rw [if_neg c_3, if_neg c_4]]
        exact ih v2_3 (v2_5 + 1) τ2_1 hok _ _ hP hD hS ls (lv_sub hl [1, 2, 3, 4, 5, 0] rfl)
      · skip
        have hok := hok.1 c_4
        refine lv_iload_n hx hb dX3_doOn_44 rfl (lv_at hl 3 rfl) ?_
        refine lv_aload_n hx hb dX3_doOn_45 rfl (lv_at hl 0 rfl) ?_
        refine lv_aload_n hx hb dX3_doOn_46 rfl (lv_at hl 1 rfl) ?_
        refine lv_iload hx hb dX3_doOn_47 (lv_at hl 5 rfl) ?_
        refine wrV0 (As := [.ref (β 0), .int v2_5]) (rest := [.int v2_3]) (c_X3_doOne l G α β (s_X3_noteTracks ρ σ p2) τ2_1 v2_5) hF (cwV 2 hts gX3_doOn_X3_doOne rfl rfl rfl (by decide +kernel) ⟨Nat.le_of_ble_eq_true rfl, Nat.le_of_ble_eq_true rfl⟩) (rcv_Q hK (va_PL hP)) hK hP hD hS rfl rfl hl.1 rfl (Nat.le_of_ble_eq_true rfl) dX3_doOn_49 ⟨Nat.zero_le _, Nat.zero_le _⟩ (fun H locs hP hD hS => ?_)
        have hP : va_P G.1 vwCl ((qW G.2.1 α (s_X3_noteTracks ρ σ p2)) ++ (dW G.2.1 β ((s_X3_doOne (s_X3_noteTracks ρ σ p2) τ2_1 v2_5).2))) H := hP
        have hD : va_D (inW w0) ((qW G.2.1 α (s_X3_noteTracks ρ σ p2)) ++ (dW G.2.1 β ((s_X3_doOne (s_X3_noteTracks ρ σ p2) τ2_1 v2_5).2))) := hD
        refine lv_iadd hx hb dX3_doOn_52 ?_
        refine lv_istore_n (lv' := [(3, .int (v2_3 + ((s_X3_doOne (s_X3_noteTracks ρ σ p2) τ2_1 v2_5).1))), (0, .ref (α 0)), (1, .ref (β 0)), (2, .int p2), (4, .int v1_4), (5, .int v2_5)]) hx hb dX3_doOn_53 rfl hl (by decide) rfl (fun ls hl => ?_)
        refine lv_iinc (v := (v2_5 + 1)) (lv' := [(5, .int (v2_5 + 1)), (3, .int (v2_3 + ((s_X3_doOne (s_X3_noteTracks ρ σ p2) τ2_1 v2_5).1))), (0, .ref (α 0)), (1, .ref (β 0)), (2, .int p2), (4, .int v1_4)]) hx hb dX3_doOn_54 hl (k := 5) rfl rfl (by decide) rfl (fun ls hl => ?_)
        refine lv_goto (tgt := 21) hx hb dX3_doOn_57 (by decide) ?_
        rw [show (L2_X3_doOn ρ σ p2 v1_3 v1_4 τ1_1 K (n + 1) v2_3 v2_5 τ2_1) = (L2_X3_doOn ρ σ p2 v1_3 v1_4 τ1_1 K n (v2_3 + ((s_X3_doOne (s_X3_noteTracks ρ σ p2) τ2_1 v2_5).1)) (v2_5 + 1) ((s_X3_doOne (s_X3_noteTracks ρ σ p2) τ2_1 v2_5).2)) from by rw [L2_X3_doOn]; rw [if_neg c_3, if_pos c_4]]
        exact ih (v2_3 + ((s_X3_doOne (s_X3_noteTracks ρ σ p2) τ2_1 v2_5).1)) (v2_5 + 1) ((s_X3_doOne (s_X3_noteTracks ρ σ p2) τ2_1 v2_5).2) hok _ _ hP hD hS ls (lv_sub hl [2, 3, 4, 1, 5, 0] rfl)
set_option maxHeartbeats 4000000 in
set_option maxRecDepth 100000 in
theorem wL1_X3_doOn {p : Program} {e : Env} {s : State} {m : MethodId} {args : Array Value} {below : List Frame} {meth : Method} {c : Code} {w0 : va_W} (l : Launch) (G : GG) (α : Nat → Nat) (β : Nat → Nat) (ρ : QS) (σ : DS) (p2 : Int32) (C0 : cA p s m meth c args cX3_doOn 6 (some .int) wsX3_doOn RX3) (hK : cK G s) : ∀ (n : Nat) (v1_3 : Int32) (v1_4 : Int32) (τ1_1 : DS)  (hok : okL1_X3_doOn ρ σ p2 n v1_3 v1_4 τ1_1) (H : Heap) (locs : List Loc), va_P G.1 vwCl ((qW G.2.1 α (s_X3_noteTracks ρ σ p2)) ++ (dW G.2.1 β τ1_1)) H → va_D (inW w0) ((qW G.2.1 α (s_X3_noteTracks ρ σ p2)) ++ (dW G.2.1 β τ1_1)) → va_S (inW w0) s.heap H locs → ∀ (ls : Array Slot), lv_has ls 6 [(0, .ref (α 0)), (1, .ref (β 0)), (2, .int p2), (3, .int v1_3), (4, .int v1_4)] → W p l e (rmm 6 135) s m args below meth c H locs 0 0 (MQ below (QW G w0 ((qW G.2.1 α ((L1_X3_doOn ρ σ p2 n v1_3 v1_4 τ1_1).2.1)) ++ (dW G.2.1 β ((L1_X3_doOn ρ σ p2 n v1_3 v1_4 τ1_1).2.2))) (some (.int (L1_X3_doOn ρ σ p2 n v1_3 v1_4 τ1_1).1))) args s 0 0 (inW w0)) (F0 m 11 ls []) := by
  obtain ⟨hx, hb, hr, hml, hown, hts, hlocks⟩ := id C0
  have hF : CallFix p m c cX3_doOn 6 s args wsX3_doOn RX3 := ⟨hx, hb, hml, hown, hts⟩
  have hinX3 : ∀ w ∈ wsX30, w ∈ wsX3_doOn := by decide +kernel
  intro n
  induction n with
  | zero =>
    intro v1_3 v1_4 τ1_1 hok
    exact hok.elim
  | succ n ih =>
    intro v1_3 v1_4 τ1_1 hok H locs hP hD hS ls hl
    have hok : (16 < v1_4 → True) ∧ (¬ 16 < v1_4 → (okL2_X3_doOn ρ σ p2 v1_3 v1_4 τ1_1 (fun kv1_3 kv1_4 kτ1_1 => okL1_X3_doOn ρ σ p2 n kv1_3 kv1_4 kτ1_1) FU v1_3 0 τ1_1)) := hok
    refine lv_iload hx hb dX3_doOn_11 (lv_at hl 4 rfl) ?_
    refine lv_bipush (v := 16) hx hb dX3_doOn_13 (by decide) ?_
    refine lv_icmp_gt (tgt := 66) hx hb dX3_doOn_15 (by decide) (fun (c_2 : 16 < v1_4) => ?_) (fun (c_2 : ¬ 16 < v1_4) => ?_)
    · skip
      refine lv_iload_n hx hb dX3_doOn_66 rfl (lv_at hl 3 rfl) ?_
      have E9 : (L1_X3_doOn ρ σ p2 (n + 1) v1_3 v1_4 τ1_1) = (v1_3, ((s_X3_noteTracks ρ σ p2), τ1_1)) := by rw [L1_X3_doOn]; rw [if_pos c_2]
      rw [pr1 E9, pr1 (pr2 E9), pr2 (pr2 E9)]
      exact W.iret hx hb hr (fun t ht hW => ⟨rfl, by rw [ht]; exact hP, hS.F ht⟩) hS.2.2 dX3_doOn_67
    · skip
      have hok := hok.2 c_2
      refine lv_iconst (v := 0) hx hb dX3_doOn_18 (by decide) ?_
      refine lv_istore (lv' := [(5, .int 0), (0, .ref (α 0)), (1, .ref (β 0)), (2, .int p2), (3, .int v1_3), (4, .int v1_4)]) hx hb dX3_doOn_19 hl (by decide) rfl (fun ls hl => ?_)
      rw [show (L1_X3_doOn ρ σ p2 (n + 1) v1_3 v1_4 τ1_1) = (L2_X3_doOn ρ σ p2 v1_3 v1_4 τ1_1 (fun kv1_3 kv1_4 kτ1_1 => (L1_X3_doOn ρ σ p2 n kv1_3 kv1_4 kτ1_1)) FU v1_3 0 τ1_1) from by rw [L1_X3_doOn]; rw [if_neg c_2]]
      exact wL2_X3_doOn l G α β ρ σ p2 v1_3 v1_4 τ1_1 C0 hK (fun kv1_3 kv1_4 kτ1_1 => (L1_X3_doOn ρ σ p2 n kv1_3 kv1_4 kτ1_1)) (fun kv1_3 kv1_4 kτ1_1 => okL1_X3_doOn ρ σ p2 n kv1_3 kv1_4 kτ1_1) ih FU v1_3 0 τ1_1 hok _ _ hP hD hS ls (lv_sub hl [1, 2, 3, 4, 5, 0] rfl)
set_option maxHeartbeats 4000000 in
set_option maxRecDepth 100000 in
theorem c_X3_doOn (l : Launch) (G : GG) (α : Nat → Nat) (β : Nat → Nat) (ρ : QS) (σ : DS) (p2 : Int32) (hok : ok_X3_doOn ρ σ p2) : Wr G l yX3_doOn wsX3_doOn 6 135 [.ref (α 0), .ref (β 0), .int p2] ((qW G.2.1 α ρ) ++ (dW G.2.1 β σ)) (some (.int (s_X3_doOn ρ σ p2).1)) ((qW G.2.1 α ((s_X3_doOn ρ σ p2).2.1)) ++ (dW G.2.1 β ((s_X3_doOn ρ σ p2).2.2))) := by
  refine Met.ofW (cc := cX3_doOn) (maxL := 6) (ret := (some .int)) (by decide) rfl ?_
  intro p e s m args below meth c s₁ B hml hv
  obtain ⟨rfl, hP, hK, hD0⟩ := hv
  have C0 : cA p s m meth c ([.ref (α 0), .ref (β 0), .int p2] : List Value).toArray cX3_doOn 6 (some .int) wsX3_doOn RX3 := ⟨B.exec, B.bytes, B.returns, hml, findClass_of_methodNamed B.named, atoms_spec (ws := wsX3_doOn) B.pre, B.notSynchronized⟩
  obtain ⟨hx, hb, hr, hml, hown, hts, hlocks⟩ := id C0
  have hF : CallFix p m c cX3_doOn 6 s _ wsX3_doOn RX3 := ⟨hx, hb, hml, hown, hts⟩
  have hinX3 : ∀ w ∈ wsX30, w ∈ wsX3_doOn := by decide +kernel
  obtain ⟨w0, hw0⟩ : ∃ w0 : va_W, w0 = ((qW G.2.1 α ρ) ++ (dW G.2.1 β σ)) := ⟨_, rfl⟩
  have hD : va_D (inW w0) ((qW G.2.1 α ρ) ++ (dW G.2.1 β σ)) := by rw [hw0]; exact inW.D hD0
  have hS : va_S (inW w0) s.heap s.heap [] := va_S.rf
  rw [show QW G ((qW G.2.1 α ρ) ++ (dW G.2.1 β σ)) = QW G w0 from by rw [hw0], show inW ((qW G.2.1 α ρ) ++ (dW G.2.1 β σ)) = inW w0 from by rw [hw0]]
  have hl := lv_entry ([.ref (α 0), .ref (β 0), .int p2]) (n := 6) (Nat.le_of_ble_eq_true rfl)
  rw [lg_entry_eq]
  generalize (lg_sl ([.ref (α 0), .ref (β 0), .int p2]) ++ List.replicate (6 - (lg_sl ([.ref (α 0), .ref (β 0), .int p2])).length) Slot.unset).toArray = ls at hl ⊢
  have hl : lv_has ls 6 [(0, .ref (α 0)), (1, .ref (β 0)), (2, .int p2)] := hl
  have hok : (ok_X3_noteTracks ρ σ p2) ∧ (okL1_X3_doOn ρ σ p2 FU 0 0 σ) := hok
  obtain ⟨h_1, hok⟩ := hok
  refine lv_aload_n hx hb dX3_doOn_0 rfl (lv_at hl 0 rfl) ?_
  refine lv_aload_n hx hb dX3_doOn_1 rfl (lv_at hl 1 rfl) ?_
  refine lv_iload_n hx hb dX3_doOn_2 rfl (lv_at hl 2 rfl) ?_
  refine wrV0 (As := [.ref (β 0), .int p2]) (rest := []) (c_X3_noteTracks l G α β ρ σ p2 h_1) hF (cwV 2 hts gX3_doOn_X3_noteTracks rfl rfl rfl (by decide +kernel) ⟨Nat.le_of_ble_eq_true rfl, Nat.le_of_ble_eq_true rfl⟩) (rcv_Q hK (va_PL hP)) hK hP hD hS rfl rfl hl.1 rfl (Nat.le_of_ble_eq_true rfl) dX3_doOn_3 ⟨Nat.zero_le _, Nat.zero_le _⟩ (fun H locs hP hD hS => ?_)
  have hP : va_P G.1 vwCl ((qW G.2.1 α (s_X3_noteTracks ρ σ p2)) ++ (dW G.2.1 β σ)) H := hP
  have hD : va_D (inW w0) ((qW G.2.1 α (s_X3_noteTracks ρ σ p2)) ++ (dW G.2.1 β σ)) := hD
  refine lv_iconst (v := 0) hx hb dX3_doOn_6 (by decide) ?_
  refine lv_istore_n (lv' := [(3, .int 0), (0, .ref (α 0)), (1, .ref (β 0)), (2, .int p2)]) hx hb dX3_doOn_7 rfl hl (by decide) rfl (fun ls hl => ?_)
  refine lv_iconst (v := 0) hx hb dX3_doOn_8 (by decide) ?_
  refine lv_istore (lv' := [(4, .int 0), (3, .int 0), (0, .ref (α 0)), (1, .ref (β 0)), (2, .int p2)]) hx hb dX3_doOn_9 hl (by decide) rfl (fun ls hl => ?_)
  rw [show s_X3_doOn ρ σ p2 = (L1_X3_doOn ρ σ p2 FU 0 0 σ) from by rw [s_X3_doOn]]
  exact wL1_X3_doOn l G α β ρ σ p2 C0 hK FU 0 0 σ hok _ _ hP hD hS ls (lv_sub hl [2, 3, 4, 1, 0] rfl)
