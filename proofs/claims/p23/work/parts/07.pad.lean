def t1_X2_append (σ : PS) (p1 : Int64) (p3 : Int32) (v1_4 : Int32) (τ1_0 : PS) : PS := (p_si' τ1_0 (s_X4_lay 60 (p_si τ1_0) (p_le τ1_0) ((jus p1 (8 * v1_4)) &&& 255).toInt32))
def t2_X2_append (σ : PS) (p1 : Int64) (p3 : Int32) (v1_4 : Int32) (τ1_0 : PS) : PS := (p_le' (t1_X2_append σ p1 p3 v1_4 τ1_0) ((p_le (t1_X2_append σ p1 p3 v1_4 τ1_0)) + 1))
def L1_X2_append (σ : PS) (p1 : Int64) (p3 : Int32) : Nat → Int32 → PS → PS
  | 0, v1_4, τ1_0 => τ1_0
  | n + 1, v1_4, τ1_0 => (if v1_4 < 0 then τ1_0 else (L1_X2_append σ p1 p3 n (v1_4 + (-1)) (t2_X2_append σ p1 p3 v1_4 τ1_0)))
def okL1_X2_append (σ : PS) (p1 : Int64) (p3 : Int32) : Nat → Int32 → PS → Prop
  | 0, _, _ => False
  | n + 1, v1_4, τ1_0 => (v1_4 < 0 → True) ∧ (¬ v1_4 < 0 → (okL1_X2_append σ p1 p3 n (v1_4 + (-1)) (t2_X2_append σ p1 p3 v1_4 τ1_0)))
def s_X2_append (σ : PS) (p1 : Int64) (p3 : Int32) : PS := (L1_X2_append σ p1 p3 FU (p3 - 1) σ)
def ok_X2_append (σ : PS) (p1 : Int64) (p3 : Int32) : Prop := okL1_X2_append σ p1 p3 FU (p3 - 1) σ
set_option maxHeartbeats 4000000 in
set_option maxRecDepth 100000 in
theorem wL1_X2_append {p : Program} {e : Env} {s : State} {m : MethodId} {args : Array Value} {below : List Frame} {meth : Method} {c : Code} {w0 : va_W} (l : Launch) (G : GG) (α : Nat → Nat) (σ : PS) (p1 : Int64) (p3 : Int32) (C0 : cA p s m meth c args cX2_append 5 none wsX2_append RX2) (hK : cK G s) : ∀ (n : Nat) (v1_4 : Int32) (τ1_0 : PS)  (hok : okL1_X2_append σ p1 p3 n v1_4 τ1_0) (H : Heap) (locs : List Loc), va_P G.1 vwCl (pW G.2.1 α τ1_0) H → va_D (inW w0) (pW G.2.1 α τ1_0) → va_S (inW w0) s.heap H locs → ∀ (ls : Array Slot), lv_has ls 5 [(0, .ref (α 0)), (1, .long p1), (3, .int p3), (4, .int v1_4)] → W p l e (rmm 1 22) s m args below meth c H locs 0 0 (MQ below (QW G w0 (pW G.2.1 α (L1_X2_append σ p1 p3 n v1_4 τ1_0)) none) args s 0 0 (inW w0)) (F0 m 5 ls []) := by
  obtain ⟨hx, hb, hr, hml, hown, hts, hlocks⟩ := id C0
  have hF : CallFix p m c cX2_append 5 s args wsX2_append RX2 := ⟨hx, hb, hml, hown, hts⟩
  have hinX2 : ∀ w ∈ wsX20, w ∈ wsX2_append := by decide +kernel
  intro n
  induction n with
  | zero =>
    intro v1_4 τ1_0 hok
    exact hok.elim
  | succ n ih =>
    intro v1_4 τ1_0 hok H locs hP hD hS ls hl
    have hok : (v1_4 < 0 → True) ∧ (¬ v1_4 < 0 → (okL1_X2_append σ p1 p3 n (v1_4 + (-1)) (t2_X2_append σ p1 p3 v1_4 τ1_0))) := hok
    refine lv_iload hx hb dX2_append_5 (lv_at hl 3 rfl) ?_
    refine lv_if_lt (tgt := 49) hx hb dX2_append_7 (by decide) (fun (c_1 : v1_4 < 0) => ?_) (fun (c_1 : ¬ v1_4 < 0) => ?_)
    · skip
      rw [show (L1_X2_append σ p1 p3 (n + 1) v1_4 τ1_0) = τ1_0 from by rw [L1_X2_append]; rw [if_pos c_1]]
      exact W.vret hx hb hr (fun t ht hW => ⟨rfl, by rw [ht]; exact hP, hS.F ht⟩) hS.2.2 dX2_append_49
    · skip
      have hok := hok.2 c_1
      refine lv_aload_n hx hb dX2_append_10 rfl (lv_at hl 0 rfl) ?_
      refine get_P_signs hx hb hts hinX2 hown hK hP (hts (.fieldLink RX2 9 "GrooveTurns$Pad" "signs" "[I") (by decide +kernel)) dX2_append_11 ?_
      refine lv_aload_n hx hb dX2_append_14 rfl (lv_at hl 0 rfl) ?_
      refine get_P_length hx hb hts hinX2 hown hK hP (hts (.fieldLink RX2 15 "GrooveTurns$Pad" "length" "I") (by decide +kernel)) dX2_append_15 ?_
      refine lv_lload_n hx hb dX2_append_18 rfl (lv_at hl 1 rfl) ?_
      refine lv_bipush (v := 8) hx hb dX2_append_19 (by decide) ?_
      refine lv_iload hx hb dX2_append_21 (lv_at hl 3 rfl) ?_
      refine lv_imul hx hb dX2_append_23 ?_
      refine lv_lushr (v := (jus p1 (8 * v1_4))) hx hb dX2_append_24 rfl ?_
      refine lv_ldc2 (v := 255) hx hb hown (hts (.constantLong RX2 19 (255)) (by decide +kernel)) dX2_append_25 ?_
      refine lv_land hx hb dX2_append_28 ?_
      refine lv_l2i (v := ((jus p1 (8 * v1_4)) &&& 255).toInt32) hx hb dX2_append_29 rfl ?_
      refine wrN (As := [.ref (α 1), .int (p_le τ1_0), .int ((jus p1 (8 * v1_4)) &&& 255).toInt32]) (rest := []) (c_X4_lay l G (α 1) 60 (p_si τ1_0) (p_le τ1_0) ((jus p1 (8 * v1_4)) &&& 255).toInt32 (by decide)) hF (va_cnB (host := RX4) 3 hts gX2_append_X4_lay_n21 rfl rfl rfl (hK.nest 9 rfl) (hts (.initialized RX4) (by decide +kernel)) (by decide +kernel) ⟨Nat.le_of_ble_eq_true rfl, Nat.le_of_ble_eq_true rfl⟩) (hts (.static yX4_lay) (by decide +kernel)) hK hP hD hS [1] (pl_P_si _ _ _) (pf_P_si _ _ _) rfl (by decide) rfl hl.1 rfl (Nat.le_of_ble_eq_true rfl) dX2_append_30 ⟨Nat.zero_le _, Nat.zero_le _⟩ (fun H locs hP hD hS => ?_)
      rw [pset_P_si] at hP hD
      have hP : va_P G.1 vwCl (pW G.2.1 α (t1_X2_append σ p1 p3 v1_4 τ1_0)) H := hP
      have hD : va_D (inW w0) (pW G.2.1 α (t1_X2_append σ p1 p3 v1_4 τ1_0)) := hD
      refine lv_aload_n hx hb dX2_append_33 rfl (lv_at hl 0 rfl) ?_
      refine lv_dup hx hb dX2_append_34 rfl ?_
      refine get_P_length hx hb hts hinX2 hown hK hP (hts (.fieldLink RX2 15 "GrooveTurns$Pad" "length" "I") (by decide +kernel)) dX2_append_35 ?_
      refine lv_iconst (v := 1) hx hb dX2_append_38 (by decide) ?_
      refine lv_iadd hx hb dX2_append_39 ?_
      refine put_P_length hx hb hts hinX2 hown hK hP hD hS (hts (.fieldLink RX2 15 "GrooveTurns$Pad" "length" "I") (by decide +kernel)) dX2_append_40 (fun H locs hP hD hS => ?_)
      have hP : va_P G.1 vwCl (pW G.2.1 α (t2_X2_append σ p1 p3 v1_4 τ1_0)) H := hP
      have hD : va_D (inW w0) (pW G.2.1 α (t2_X2_append σ p1 p3 v1_4 τ1_0)) := hD
      refine lv_iinc (v := (v1_4 + (-1))) (lv' := [(4, .int (v1_4 + (-1))), (0, .ref (α 0)), (1, .long p1), (3, .int p3)]) hx hb dX2_append_43 hl (k := 3) rfl rfl (by decide) rfl (fun ls hl => ?_)
      refine lv_goto (tgt := 5) hx hb dX2_append_46 (by decide) ?_
      rw [show (L1_X2_append σ p1 p3 (n + 1) v1_4 τ1_0) = (L1_X2_append σ p1 p3 n (v1_4 + (-1)) (t2_X2_append σ p1 p3 v1_4 τ1_0)) from by rw [L1_X2_append]; rw [if_neg c_1]]
      exact ih (v1_4 + (-1)) (t2_X2_append σ p1 p3 v1_4 τ1_0) hok _ _ hP hD hS ls (lv_sub hl [1, 2, 3, 0] rfl)
set_option maxHeartbeats 4000000 in
set_option maxRecDepth 100000 in
theorem c_X2_append (l : Launch) (G : GG) (α : Nat → Nat) (σ : PS) (p1 : Int64) (p3 : Int32) (hok : ok_X2_append σ p1 p3) : Wr G l yX2_append wsX2_append 1 22 [.ref (α 0), .long p1, .int p3] (pW G.2.1 α σ) none (pW G.2.1 α (s_X2_append σ p1 p3)) := by
  refine Met.ofW (cc := cX2_append) (maxL := 5) (ret := none) (by decide) rfl ?_
  intro p e s m args below meth c s₁ B hml hv
  obtain ⟨rfl, hP, hK, hD0⟩ := hv
  have C0 : cA p s m meth c ([.ref (α 0), .long p1, .int p3] : List Value).toArray cX2_append 5 none wsX2_append RX2 := ⟨B.exec, B.bytes, B.returns, hml, findClass_of_methodNamed B.named, atoms_spec (ws := wsX2_append) B.pre, B.notSynchronized⟩
  obtain ⟨hx, hb, hr, hml, hown, hts, hlocks⟩ := id C0
  have hF : CallFix p m c cX2_append 5 s _ wsX2_append RX2 := ⟨hx, hb, hml, hown, hts⟩
  have hinX2 : ∀ w ∈ wsX20, w ∈ wsX2_append := by decide +kernel
  obtain ⟨w0, hw0⟩ : ∃ w0 : va_W, w0 = (pW G.2.1 α σ) := ⟨_, rfl⟩
  have hD : va_D (inW w0) (pW G.2.1 α σ) := by rw [hw0]; exact inW.D hD0
  have hS : va_S (inW w0) s.heap s.heap [] := va_S.rf
  rw [show QW G (pW G.2.1 α σ) = QW G w0 from by rw [hw0], show inW (pW G.2.1 α σ) = inW w0 from by rw [hw0]]
  have hl := lv_entry ([.ref (α 0), .long p1, .int p3]) (n := 5) (Nat.le_of_ble_eq_true rfl)
  rw [lg_entry_eq]
  generalize (lg_sl ([.ref (α 0), .long p1, .int p3]) ++ List.replicate (5 - (lg_sl ([.ref (α 0), .long p1, .int p3])).length) Slot.unset).toArray = ls at hl ⊢
  have hl : lv_has ls 5 [(0, .ref (α 0)), (1, .long p1), (3, .int p3)] := hl
  have hok : okL1_X2_append σ p1 p3 FU (p3 - 1) σ := hok
  refine lv_iload_n hx hb dX2_append_0 rfl (lv_at hl 2 rfl) ?_
  refine lv_iconst (v := 1) hx hb dX2_append_1 (by decide) ?_
  refine lv_isub hx hb dX2_append_2 ?_
  refine lv_istore (lv' := [(4, .int (p3 - 1)), (0, .ref (α 0)), (1, .long p1), (3, .int p3)]) hx hb dX2_append_3 hl (by decide) rfl (fun ls hl => ?_)
  rw [show s_X2_append σ p1 p3 = (L1_X2_append σ p1 p3 FU (p3 - 1) σ) from by rw [s_X2_append]]
  exact wL1_X2_append l G α σ p1 p3 C0 hK FU (p3 - 1) σ hok _ _ hP hD hS ls (lv_sub hl [1, 2, 3, 0] rfl)
def s_X2_clear (σ : PS) : PS := (p_le' σ 0)
set_option maxHeartbeats 4000000 in
set_option maxRecDepth 100000 in
theorem c_X2_clear (l : Launch) (G : GG) (α : Nat → Nat) (σ : PS) : Wr G l yX2_clear wsX2_clear 0 0 [.ref (α 0)] (pW G.2.1 α σ) none (pW G.2.1 α (s_X2_clear σ)) := by
  refine Met.ofW (cc := cX2_clear) (maxL := 1) (ret := none) (by decide) rfl ?_
  intro p e s m args below meth c s₁ B hml hv
  obtain ⟨rfl, hP, hK, hD0⟩ := hv
  have C0 : cA p s m meth c ([.ref (α 0)] : List Value).toArray cX2_clear 1 none wsX2_clear RX2 := ⟨B.exec, B.bytes, B.returns, hml, findClass_of_methodNamed B.named, atoms_spec (ws := wsX2_clear) B.pre, B.notSynchronized⟩
  obtain ⟨hx, hb, hr, hml, hown, hts, hlocks⟩ := id C0
  have hF : CallFix p m c cX2_clear 1 s _ wsX2_clear RX2 := ⟨hx, hb, hml, hown, hts⟩
  have hinX2 : ∀ w ∈ wsX20, w ∈ wsX2_clear := by decide +kernel
  obtain ⟨w0, hw0⟩ : ∃ w0 : va_W, w0 = (pW G.2.1 α σ) := ⟨_, rfl⟩
  have hD : va_D (inW w0) (pW G.2.1 α σ) := by rw [hw0]; exact inW.D hD0
  have hS : va_S (inW w0) s.heap s.heap [] := va_S.rf
  rw [show QW G (pW G.2.1 α σ) = QW G w0 from by rw [hw0], show inW (pW G.2.1 α σ) = inW w0 from by rw [hw0]]
  have hl := lv_entry ([.ref (α 0)]) (n := 1) (Nat.le_of_ble_eq_true rfl)
  rw [lg_entry_eq]
  generalize (lg_sl ([.ref (α 0)]) ++ List.replicate (1 - (lg_sl ([.ref (α 0)])).length) Slot.unset).toArray = ls at hl ⊢
  have hl : lv_has ls 1 [(0, .ref (α 0))] := hl
  refine lv_aload_n hx hb dX2_clear_0 rfl (lv_at hl 0 rfl) ?_
  refine lv_iconst (v := 0) hx hb dX2_clear_1 (by decide) ?_
  refine put_P_length hx hb hts hinX2 hown hK hP hD hS (hts (.fieldLink RX2 15 "GrooveTurns$Pad" "length" "I") (by decide +kernel)) dX2_clear_2 (fun H locs hP hD hS => ?_)
  have hP : va_P G.1 vwCl (pW G.2.1 α (p_le' σ 0)) H := hP
  have hD : va_D (inW w0) (pW G.2.1 α (p_le' σ 0)) := hD
  rw [show s_X2_clear σ = (p_le' σ 0) from by rw [s_X2_clear]]
  exact W.vret hx hb hr (fun t ht hW => ⟨rfl, by rw [ht]; exact hP, hS.F ht⟩) hS.2.2 dX2_clear_5
def s_X2_signAt (σ : PS) (p1 : Int32) : Int32 := (s_X4_at 60 (p_si σ) p1)
set_option maxHeartbeats 4000000 in
set_option maxRecDepth 100000 in
theorem c_X2_signAt (l : Launch) (G : GG) (α : Nat → Nat) (σ : PS) (p1 : Int32) : Rd G l yX2_signAt wsX2_signAt 1 21 [.ref (α 0), .int p1] (pW G.2.1 α σ) (.int (s_X2_signAt σ p1)) := by
  refine Met.ofW (cc := cX2_signAt) (maxL := 2) (ret := (some .int)) (by decide) rfl ?_
  intro p e s m args below meth c s₁ B hml hv
  obtain ⟨rfl, hP, hK⟩ := hv
  have C0 : cA p s m meth c ([.ref (α 0), .int p1] : List Value).toArray cX2_signAt 2 (some .int) wsX2_signAt RX2 := ⟨B.exec, B.bytes, B.returns, hml, findClass_of_methodNamed B.named, atoms_spec (ws := wsX2_signAt) B.pre, B.notSynchronized⟩
  obtain ⟨hx, hb, hr, hml, hown, hts, hlocks⟩ := id C0
  have hF : CallFix p m c cX2_signAt 2 s _ wsX2_signAt RX2 := ⟨hx, hb, hml, hown, hts⟩
  have hinX2 : ∀ w ∈ wsX20, w ∈ wsX2_signAt := by decide +kernel
  have hl := lv_entry ([.ref (α 0), .int p1]) (n := 2) (Nat.le_of_ble_eq_true rfl)
  rw [lg_entry_eq]
  generalize (lg_sl ([.ref (α 0), .int p1]) ++ List.replicate (2 - (lg_sl ([.ref (α 0), .int p1])).length) Slot.unset).toArray = ls at hl ⊢
  have hl : lv_has ls 2 [(0, .ref (α 0)), (1, .int p1)] := hl
  refine lv_aload_n hx hb dX2_signAt_0 rfl (lv_at hl 0 rfl) ?_
  refine get_P_signs hx hb hts hinX2 hown hK hP (hts (.fieldLink RX2 9 "GrooveTurns$Pad" "signs" "[I") (by decide +kernel)) dX2_signAt_1 ?_
  refine lv_iload_n hx hb dX2_signAt_4 rfl (lv_at hl 1 rfl) ?_
  refine rdN (As := [.ref (α 1), .int p1]) (rest := []) (c_X4_at l G (α 1) 60 (p_si σ) p1 (by decide)) hF (va_cnB (host := RX4) 2 hts gX2_signAt_X4_at_n25 rfl rfl rfl (hK.nest 10 rfl) (hts (.initialized RX4) (by decide +kernel)) (by decide +kernel) ⟨Nat.le_of_ble_eq_true rfl, Nat.le_of_ble_eq_true rfl⟩) (hts (.static yX4_at) (by decide +kernel)) hK (cell_P_si hP) rfl hl.1 rfl (Nat.le_of_ble_eq_true rfl) dX2_signAt_5 ⟨Nat.zero_le _, Nat.zero_le _⟩ ?_
  rw [show s_X2_signAt σ p1 = (s_X4_at 60 (p_si σ) p1) from by rw [s_X2_signAt]]
  exact W.iret hx hb hr (fun t ht hW => ⟨rfl, ht⟩) (fun _ h => nomatch h) dX2_signAt_8
