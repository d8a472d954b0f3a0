def s_X0_isWithin (p0 : Int32) (p1 : Int32) (p2 : Int32) : Int32 := (if (s_X4_trackOf p0) < p1 then 0 else (if p2 < (s_X4_trackOf p0) then 0 else 1))
theorem b_X0_isWithin (p0 : Int32) (p1 : Int32) (p2 : Int32) : (s_X0_isWithin p0 p1 p2) = 0 ∨ (s_X0_isWithin p0 p1 p2) = 1 := by
  unfold s_X0_isWithin
  by_cases c_1 : (s_X4_trackOf p0) < p1
  · skip
    rw [if_pos c_1]
    exact Or.inl rfl
  · skip
    by_cases c_2 : p2 < (s_X4_trackOf p0)
    · skip
      rw [if_neg c_1, if_pos c_2]
      exact Or.inl rfl
    · skip
      rw [if_neg c_1, if_neg c_2]
      exact Or.inr rfl
set_option maxHeartbeats 4000000 in
set_option maxRecDepth 100000 in
theorem c_X0_isWithin (l : Launch) (G : GG) (p0 : Int32) (p1 : Int32) (p2 : Int32) : Rd G l yX0_isWithin wsX0_isWithin 1 20 [.int p0, .int p1, .int p2] [] (.int (s_X0_isWithin p0 p1 p2)) := by
  refine Met.ofW (cc := cX0_isWithin) (maxL := 3) (ret := (some .boolean)) (by decide) rfl ?_
  intro p e s m args below meth c s₁ B hml hv
  obtain ⟨rfl, hP, hK⟩ := hv
  have C0 : cA p s m meth c ([.int p0, .int p1, .int p2] : List Value).toArray cX0_isWithin 3 (some .boolean) wsX0_isWithin RX0 := ⟨B.exec, B.bytes, B.returns, hml, findClass_of_methodNamed B.named, atoms_spec (ws := wsX0_isWithin) B.pre, B.notSynchronized⟩
  obtain ⟨hx, hb, hr, hml, hown, hts, hlocks⟩ := id C0
  have hF : CallFix p m c cX0_isWithin 3 s _ wsX0_isWithin RX0 := ⟨hx, hb, hml, hown, hts⟩
  have hl := lv_entry ([.int p0, .int p1, .int p2]) (n := 3) (Nat.le_of_ble_eq_true rfl)
  rw [lg_entry_eq]
  generalize (lg_sl ([.int p0, .int p1, .int p2]) ++ List.replicate (3 - (lg_sl ([.int p0, .int p1, .int p2])).length) Slot.unset).toArray = ls at hl ⊢
  have hl : lv_has ls 3 [(0, .int p0), (1, .int p1), (2, .int p2)] := hl
  refine lv_iload_n hx hb dX0_isWithin_0 rfl (lv_at hl 0 rfl) ?_
  refine rdN (As := [.int p0]) (rest := []) (c_X4_trackOf l G p0) hF (va_cnB (host := RX4) 1 hts gX0_isWithin_X4_trackOf_n75 rfl rfl rfl (hK.nest 8 rfl) (hts (.initialized RX4) (by decide +kernel)) (by decide +kernel) ⟨Nat.le_of_ble_eq_true rfl, Nat.le_of_ble_eq_true rfl⟩) (hts (.static yX4_trackOf) (by decide +kernel)) hK va_P0 rfl hl.1 rfl (Nat.le_of_ble_eq_true rfl) dX0_isWithin_1 ⟨Nat.zero_le _, Nat.zero_le _⟩ ?_
  refine lv_iload_n hx hb dX0_isWithin_4 rfl (lv_at hl 1 rfl) ?_
  refine lv_icmp_lt (tgt := 20) hx hb dX0_isWithin_5 (by decide) (fun (c_1 : (s_X4_trackOf p0) < p1) => ?_) (fun (c_1 : ¬ (s_X4_trackOf p0) < p1) => ?_)
  · skip
    refine lv_iconst (v := 0) hx hb dX0_isWithin_20 (by decide) ?_
    rw [show s_X0_isWithin p0 p1 p2 = 0 from by rw [s_X0_isWithin]; rw [if_pos c_1]]
    exact W.zret (ty := .boolean) hx hb hr rfl (fun t ht hW => ⟨rfl, ht⟩) (fun _ h => nomatch h) dX0_isWithin_21
  · skip
    refine lv_iload_n hx hb dX0_isWithin_8 rfl (lv_at hl 0 rfl) ?_
    refine rdN (As := [.int p0]) (rest := []) (c_X4_trackOf l G p0) hF (va_cnB (host := RX4) 1 hts gX0_isWithin_X4_trackOf_n75 rfl rfl rfl (hK.nest 8 rfl) (hts (.initialized RX4) (by decide +kernel)) (by decide +kernel) ⟨Nat.le_of_ble_eq_true rfl, Nat.le_of_ble_eq_true rfl⟩) (hts (.static yX4_trackOf) (by decide +kernel)) hK va_P0 rfl hl.1 rfl (Nat.le_of_ble_eq_true rfl) dX0_isWithin_9 ⟨Nat.zero_le _, Nat.zero_le _⟩ ?_
    refine lv_iload_n hx hb dX0_isWithin_12 rfl (lv_at hl 2 rfl) ?_
    refine lv_icmp_gt (tgt := 20) hx hb dX0_isWithin_13 (by decide) (fun (c_2 : p2 < (s_X4_trackOf p0)) => ?_) (fun (c_2 : ¬ p2 < (s_X4_trackOf p0)) => ?_)
    · skip
      refine lv_iconst (v := 0) hx hb dX0_isWithin_20 (by decide) ?_
      rw [show s_X0_isWithin p0 p1 p2 = 0 from by rw [s_X0_isWithin]; rw [if_neg c_1, if_pos c_2]]
      exact W.zret (ty := .boolean) hx hb hr rfl (fun t ht hW => ⟨rfl, ht⟩) (fun _ h => nomatch h) dX0_isWithin_21
    · skip
      refine lv_iconst (v := 1) hx hb dX0_isWithin_16 (by decide) ?_
      refine lv_goto (tgt := 21) hx hb dX0_isWithin_17 (by decide) ?_
      rw [show s_X0_isWithin p0 p1 p2 = 1 from by rw [s_X0_isWithin]; rw [if_neg c_1, if_neg c_2]]
      exact W.zret (ty := .boolean) hx hb hr rfl (fun t ht hW => ⟨rfl, ht⟩) (fun _ h => nomatch h) dX0_isWithin_21
def L1_X0_sumOnTrack (f : NI) (p1 : Int32) : Nat → Int32 → Int32 → Int32
  | 0, v1_2, v1_3 => 0
  | n + 1, v1_2, v1_3 => (if 12 ≤ v1_3 then v1_2 else (L1_X0_sumOnTrack f p1 n (v1_2 + (s_X4_at 204 f ((p1 * 12) + v1_3))) (v1_3 + 1)))
def okL1_X0_sumOnTrack (f : NI) (p1 : Int32) : Nat → Int32 → Int32 → Prop
  | 0, _, _ => False
  | n + 1, v1_2, v1_3 => (12 ≤ v1_3 → True) ∧ (¬ 12 ≤ v1_3 → (okL1_X0_sumOnTrack f p1 n (v1_2 + (s_X4_at 204 f ((p1 * 12) + v1_3))) (v1_3 + 1)))
def s_X0_sumOnTrack (f : NI) (p1 : Int32) : Int32 := (L1_X0_sumOnTrack f p1 FU 0 0)
def ok_X0_sumOnTrack (f : NI) (p1 : Int32) : Prop := okL1_X0_sumOnTrack f p1 FU 0 0
set_option maxHeartbeats 4000000 in
set_option maxRecDepth 100000 in
theorem wL1_X0_sumOnTrack {p : Program} {e : Env} {s : State} {m : MethodId} {args : Array Value} {below : List Frame} {meth : Method} {c : Code} (l : Launch) (G : GG) (q : Nat) (f : NI) (p1 : Int32) (hP : va_P G.1 vwCl (aW G.2.1 q 204 f) s.heap) (C0 : cA p s m meth c args cX0_sumOnTrack 4 (some .int) wsX0_sumOnTrack RX0) (hK : cK G s) : ∀ (n : Nat) (v1_2 : Int32) (v1_3 : Int32)  (hok : okL1_X0_sumOnTrack f p1 n v1_2 v1_3) (ls : Array Slot), lv_has ls 4 [(0, .ref q), (1, .int p1), (2, .int v1_2), (3, .int v1_3)] → W p l e (rmm 1 21) s m args below meth c s.heap [] 0 0 (MQ below (QR (some (.int (L1_X0_sumOnTrack f p1 n v1_2 v1_3)))) args s 0 0 (fun _ => False)) (F0 m 4 ls []) := by
  obtain ⟨hx, hb, hr, hml, hown, hts, hlocks⟩ := id C0
  have hF : CallFix p m c cX0_sumOnTrack 4 s args wsX0_sumOnTrack RX0 := ⟨hx, hb, hml, hown, hts⟩
  intro n
  induction n with
  | zero =>
    intro v1_2 v1_3 hok
    exact hok.elim
  | succ n ih =>
    intro v1_2 v1_3 hok ls hl
    have hok : (12 ≤ v1_3 → True) ∧ (¬ 12 ≤ v1_3 → (okL1_X0_sumOnTrack f p1 n (v1_2 + (s_X4_at 204 f ((p1 * 12) + v1_3))) (v1_3 + 1))) := hok
    refine lv_iload_n hx hb dX0_sumOnTrack_4 rfl (lv_at hl 3 rfl) ?_
    refine lv_bipush (v := 12) hx hb dX0_sumOnTrack_5 (by decide) ?_
    refine lv_icmp_ge (tgt := 29) hx hb dX0_sumOnTrack_7 (by decide) (fun (c_1 : 12 ≤ v1_3) => ?_) (fun (c_1 : ¬ 12 ≤ v1_3) => ?_)
    · skip
      refine lv_iload_n hx hb dX0_sumOnTrack_29 rfl (lv_at hl 2 rfl) ?_
      rw [show (L1_X0_sumOnTrack f p1 (n + 1) v1_2 v1_3) = v1_2 from by rw [L1_X0_sumOnTrack]; rw [if_pos c_1]]
      exact W.iret hx hb hr (fun t ht hW => ⟨rfl, ht⟩) (fun _ h => nomatch h) dX0_sumOnTrack_30
    · skip
      have hok := hok.2 c_1
      refine lv_iload_n hx hb dX0_sumOnTrack_10 rfl (lv_at hl 2 rfl) ?_
      refine lv_aload_n hx hb dX0_sumOnTrack_11 rfl (lv_at hl 0 rfl) ?_
      refine lv_iload_n hx hb dX0_sumOnTrack_12 rfl (lv_at hl 1 rfl) ?_
      refine lv_bipush (v := 12) hx hb dX0_sumOnTrack_13 (by decide) ?_
      refine lv_imul hx hb dX0_sumOnTrack_15 ?_
      refine lv_iload_n hx hb dX0_sumOnTrack_16 rfl (lv_at hl 3 rfl) ?_
      refine lv_iadd hx hb dX0_sumOnTrack_17 ?_
      refine rdN (As := [.ref q, .int ((p1 * 12) + v1_3)]) (rest := [.int v1_2]) (c_X4_at l G q 204 f ((p1 * 12) + v1_3) (by decide)) hF (va_cnB (host := RX4) 2 hts gX0_sumOnTrack_X4_at_n53 rfl rfl rfl (hK.nest 6 rfl) (hts (.initialized RX4) (by decide +kernel)) (by decide +kernel) ⟨Nat.le_of_ble_eq_true rfl, Nat.le_of_ble_eq_true rfl⟩) (hts (.static yX4_at) (by decide +kernel)) hK hP rfl hl.1 rfl (Nat.le_of_ble_eq_true rfl) dX0_sumOnTrack_18 ⟨Nat.zero_le _, Nat.zero_le _⟩ ?_
      refine lv_iadd hx hb dX0_sumOnTrack_21 ?_
      refine lv_istore_n (lv' := [(2, .int (v1_2 + (s_X4_at 204 f ((p1 * 12) + v1_3)))), (0, .ref q), (1, .int p1), (3, .int v1_3)]) hx hb dX0_sumOnTrack_22 rfl hl (by decide) rfl (fun ls hl => ?_)
      refine lv_iinc (v := (v1_3 + 1)) (lv' := [(3, .int (v1_3 + 1)), (2, .int (v1_2 + (s_X4_at 204 f ((p1 * 12) + v1_3)))), (0, .ref q), (1, .int p1)]) hx hb dX0_sumOnTrack_23 hl (k := 3) rfl rfl (by decide) rfl (fun ls hl => ?_)
      refine lv_goto (tgt := 4) hx hb dX0_sumOnTrack_26 (by decide) ?_
      rw [show (L1_X0_sumOnTrack f p1 (n + 1) v1_2 v1_3) = (L1_X0_sumOnTrack f p1 n (v1_2 + (s_X4_at 204 f ((p1 * 12) + v1_3))) (v1_3 + 1)) from by rw [L1_X0_sumOnTrack]; rw [if_neg c_1]]
      exact ih (v1_2 + (s_X4_at 204 f ((p1 * 12) + v1_3))) (v1_3 + 1) hok ls (lv_sub hl [2, 3, 1, 0] rfl)
set_option maxHeartbeats 4000000 in
set_option maxRecDepth 100000 in
theorem c_X0_sumOnTrack (l : Launch) (G : GG) (q : Nat) (f : NI) (p1 : Int32) (hok : ok_X0_sumOnTrack f p1) : Rd G l yX0_sumOnTrack wsX0_sumOnTrack 1 21 [.ref q, .int p1] (aW G.2.1 q 204 f) (.int (s_X0_sumOnTrack f p1)) := by
  refine Met.ofW (cc := cX0_sumOnTrack) (maxL := 4) (ret := (some .int)) (by decide) rfl ?_
  intro p e s m args below meth c s₁ B hml hv
  obtain ⟨rfl, hP, hK⟩ := hv
  have C0 : cA p s m meth c ([.ref q, .int p1] : List Value).toArray cX0_sumOnTrack 4 (some .int) wsX0_sumOnTrack RX0 := ⟨B.exec, B.bytes, B.returns, hml, findClass_of_methodNamed B.named, atoms_spec (ws := wsX0_sumOnTrack) B.pre, B.notSynchronized⟩
  obtain ⟨hx, hb, hr, hml, hown, hts, hlocks⟩ := id C0
  have hF : CallFix p m c cX0_sumOnTrack 4 s _ wsX0_sumOnTrack RX0 := ⟨hx, hb, hml, hown, hts⟩
  have hl := lv_entry ([.ref q, .int p1]) (n := 4) (Nat.le_of_ble_eq_true rfl)
  rw [lg_entry_eq]
  generalize (lg_sl ([.ref q, .int p1]) ++ List.replicate (4 - (lg_sl ([.ref q, .int p1])).length) Slot.unset).toArray = ls at hl ⊢
  have hl : lv_has ls 4 [(0, .ref q), (1, .int p1)] := hl
  have hok : okL1_X0_sumOnTrack f p1 FU 0 0 := hok
  refine lv_iconst (v := 0) hx hb dX0_sumOnTrack_0 (by decide) ?_
  refine lv_istore_n (lv' := [(2, .int 0), (0, .ref q), (1, .int p1)]) hx hb dX0_sumOnTrack_1 rfl hl (by decide) rfl (fun ls hl => ?_)
  refine lv_iconst (v := 0) hx hb dX0_sumOnTrack_2 (by decide) ?_
  refine lv_istore_n (lv' := [(3, .int 0), (2, .int 0), (0, .ref q), (1, .int p1)]) hx hb dX0_sumOnTrack_3 rfl hl (by decide) rfl (fun ls hl => ?_)
  rw [show s_X0_sumOnTrack f p1 = (L1_X0_sumOnTrack f p1 FU 0 0) from by rw [s_X0_sumOnTrack]]
  exact wL1_X0_sumOnTrack l G q f p1 hP C0 hK FU 0 0 hok ls (lv_sub hl [2, 3, 1, 0] rfl)
def s_X0_blurOnTrack (σ : DS) (p1 : Int32) : Int32 := (s_X0_sumOnTrack (d_bl σ) p1)
def ok_X0_blurOnTrack (σ : DS) (p1 : Int32) : Prop := ok_X0_sumOnTrack (d_bl σ) p1
set_option maxHeartbeats 4000000 in
set_option maxRecDepth 100000 in
theorem c_X0_blurOnTrack (l : Launch) (G : GG) (α : Nat → Nat) (σ : DS) (p1 : Int32) (hok : ok_X0_blurOnTrack σ p1) : Rd G l yX0_blurOnTrack wsX0_blurOnTrack 2 44 [.ref (α 0), .int p1] (dW G.2.1 α σ) (.int (s_X0_blurOnTrack σ p1)) := by
  refine Met.ofW (cc := cX0_blurOnTrack) (maxL := 2) (ret := (some .int)) (by decide) rfl ?_
  intro p e s m args below meth c s₁ B hml hv
  obtain ⟨rfl, hP, hK⟩ := hv
  have C0 : cA p s m meth c ([.ref (α 0), .int p1] : List Value).toArray cX0_blurOnTrack 2 (some .int) wsX0_blurOnTrack RX0 := ⟨B.exec, B.bytes, B.returns, hml, findClass_of_methodNamed B.named, atoms_spec (ws := wsX0_blurOnTrack) B.pre, B.notSynchronized⟩
  obtain ⟨hx, hb, hr, hml, hown, hts, hlocks⟩ := id C0
  have hF : CallFix p m c cX0_blurOnTrack 2 s _ wsX0_blurOnTrack RX0 := ⟨hx, hb, hml, hown, hts⟩
  have hinX0 : ∀ w ∈ wsX00, w ∈ wsX0_blurOnTrack := by decide +kernel
  have hl := lv_entry ([.ref (α 0), .int p1]) (n := 2) (Nat.le_of_ble_eq_true rfl)
  rw [lg_entry_eq]
  generalize (lg_sl ([.ref (α 0), .int p1]) ++ List.replicate (2 - (lg_sl ([.ref (α 0), .int p1])).length) Slot.unset).toArray = ls at hl ⊢
  have hl : lv_has ls 2 [(0, .ref (α 0)), (1, .int p1)] := hl
  have hok : ok_X0_sumOnTrack (d_bl σ) p1 := hok
  have h_1 := hok
  refine lv_aload_n hx hb dX0_blurOnTrack_0 rfl (lv_at hl 0 rfl) ?_
  refine get_D_blurs hx hb hts hinX0 hown hK hP (hts (.fieldLink RX0 21 "GrooveTurns$Disc" "blurs" "[I") (by decide +kernel)) dX0_blurOnTrack_1 ?_
  refine lv_iload_n hx hb dX0_blurOnTrack_4 rfl (lv_at hl 1 rfl) ?_
  refine rdS (As := [.ref (α 3), .int p1]) (rest := []) (c_X0_sumOnTrack l G (α 3) (d_bl σ) p1 h_1) hF (va_cwS 2 hts gX0_blurOnTrack_X0_sumOnTrack rfl rfl rfl (by decide +kernel) ⟨Nat.le_of_ble_eq_true rfl, Nat.le_of_ble_eq_true rfl⟩) hK (cell_D_bl hP) rfl hl.1 rfl (Nat.le_of_ble_eq_true rfl) dX0_blurOnTrack_5 ⟨Nat.zero_le _, Nat.zero_le _⟩ ?_
  rw [show s_X0_blurOnTrack σ p1 = (s_X0_sumOnTrack (d_bl σ) p1) from by rw [s_X0_blurOnTrack]]
  exact W.iret hx hb hr (fun t ht hW => ⟨rfl, ht⟩) (fun _ h => nomatch h) dX0_blurOnTrack_8
def s_X0_writingsOnTrack (σ : DS) (p1 : Int32) : Int32 := (s_X0_sumOnTrack (d_wr σ) p1)
def ok_X0_writingsOnTrack (σ : DS) (p1 : Int32) : Prop := ok_X0_sumOnTrack (d_wr σ) p1
set_option maxHeartbeats 4000000 in
set_option maxRecDepth 100000 in
theorem c_X0_writingsOnTrack (l : Launch) (G : GG) (α : Nat → Nat) (σ : DS) (p1 : Int32) (hok : ok_X0_writingsOnTrack σ p1) : Rd G l yX0_writingsOnTrack wsX0_writingsOnTrack 2 44 [.ref (α 0), .int p1] (dW G.2.1 α σ) (.int (s_X0_writingsOnTrack σ p1)) := by
  refine Met.ofW (cc := cX0_writingsOnTrack) (maxL := 2) (ret := (some .int)) (by decide) rfl ?_
  intro p e s m args below meth c s₁ B hml hv
  obtain ⟨rfl, hP, hK⟩ := hv
  have C0 : cA p s m meth c ([.ref (α 0), .int p1] : List Value).toArray cX0_writingsOnTrack 2 (some .int) wsX0_writingsOnTrack RX0 := ⟨B.exec, B.bytes, B.returns, hml, findClass_of_methodNamed B.named, atoms_spec (ws := wsX0_writingsOnTrack) B.pre, B.notSynchronized⟩
  obtain ⟨hx, hb, hr, hml, hown, hts, hlocks⟩ := id C0
  have hF : CallFix p m c cX0_writingsOnTrack 2 s _ wsX0_writingsOnTrack RX0 := ⟨hx, hb, hml, hown, hts⟩
  have hinX0 : ∀ w ∈ wsX00, w ∈ wsX0_writingsOnTrack := by decide +kernel
  have hl := lv_entry ([.ref (α 0), .int p1]) (n := 2) (Nat.le_of_ble_eq_true rfl)
  rw [lg_entry_eq]
  generalize (lg_sl ([.ref (α 0), .int p1]) ++ List.replicate (2 - (lg_sl ([.ref (α 0), .int p1])).length) Slot.unset).toArray = ls at hl ⊢
  have hl : lv_has ls 2 [(0, .ref (α 0)), (1, .int p1)] := hl
  have hok : ok_X0_sumOnTrack (d_wr σ) p1 := hok
  have h_1 := hok
  refine lv_aload_n hx hb dX0_writingsOnTrack_0 rfl (lv_at hl 0 rfl) ?_
  refine get_D_writings hx hb hts hinX0 hown hK hP (hts (.fieldLink RX0 24 "GrooveTurns$Disc" "writings" "[I") (by decide +kernel)) dX0_writingsOnTrack_1 ?_
  refine lv_iload_n hx hb dX0_writingsOnTrack_4 rfl (lv_at hl 1 rfl) ?_
  refine rdS (As := [.ref (α 4), .int p1]) (rest := []) (c_X0_sumOnTrack l G (α 4) (d_wr σ) p1 h_1) hF (va_cwS 2 hts gX0_writingsOnTrack_X0_sumOnTrack rfl rfl rfl (by decide +kernel) ⟨Nat.le_of_ble_eq_true rfl, Nat.le_of_ble_eq_true rfl⟩) hK (cell_D_wr hP) rfl hl.1 rfl (Nat.le_of_ble_eq_true rfl) dX0_writingsOnTrack_5 ⟨Nat.zero_le _, Nat.zero_le _⟩ ?_
  rw [show s_X0_writingsOnTrack σ p1 = (s_X0_sumOnTrack (d_wr σ) p1) from by rw [s_X0_writingsOnTrack]]
  exact W.iret hx hb hr (fun t ht hW => ⟨rfl, ht⟩) (fun _ h => nomatch h) dX0_writingsOnTrack_8
def L1_X0_filledOn (σ : DS) (p1 : Int32) (p2 : Int32) : Nat → Int32 → Int32 → Int32
  | 0, v1_3, v1_4 => 0
  | n + 1, v1_3, v1_4 => (if 192 ≤ v1_4 then v1_3 else (if (s_X0_isWithin (s_X0_sectorFor σ v1_4) p1 p2) = 0 then (L1_X0_filledOn σ p1 p2 n v1_3 (v1_4 + 1)) else (if (s_X0_holdsNumber σ (s_X0_sectorFor σ v1_4)) = 0 then (L1_X0_filledOn σ p1 p2 n v1_3 (v1_4 + 1)) else (L1_X0_filledOn σ p1 p2 n (v1_3 + 1) (v1_4 + 1)))))
def okL1_X0_filledOn (σ : DS) (p1 : Int32) (p2 : Int32) : Nat → Int32 → Int32 → Prop
  | 0, _, _ => False
  | n + 1, v1_3, v1_4 => (192 ≤ v1_4 → True) ∧ (¬ 192 ≤ v1_4 → (((s_X0_isWithin (s_X0_sectorFor σ v1_4) p1 p2) = 0 → (okL1_X0_filledOn σ p1 p2 n v1_3 (v1_4 + 1))) ∧ (¬ (s_X0_isWithin (s_X0_sectorFor σ v1_4) p1 p2) = 0 → (((s_X0_holdsNumber σ (s_X0_sectorFor σ v1_4)) = 0 → (okL1_X0_filledOn σ p1 p2 n v1_3 (v1_4 + 1))) ∧ (¬ (s_X0_holdsNumber σ (s_X0_sectorFor σ v1_4)) = 0 → (okL1_X0_filledOn σ p1 p2 n (v1_3 + 1) (v1_4 + 1)))))))
def s_X0_filledOn (σ : DS) (p1 : Int32) (p2 : Int32) : Int32 := (L1_X0_filledOn σ p1 p2 FU 0 0)
def ok_X0_filledOn (σ : DS) (p1 : Int32) (p2 : Int32) : Prop := okL1_X0_filledOn σ p1 p2 FU 0 0
set_option maxHeartbeats 4000000 in
set_option maxRecDepth 100000 in
theorem wL1_X0_filledOn {p : Program} {e : Env} {s : State} {m : MethodId} {args : Array Value} {below : List Frame} {meth : Method} {c : Code} (l : Launch) (G : GG) (α : Nat → Nat) (σ : DS) (p1 : Int32) (p2 : Int32) (hP : va_P G.1 vwCl (dW G.2.1 α σ) s.heap) (C0 : cA p s m meth c args cX0_filledOn 6 (some .int) wsX0_filledOn RX0) (hK : cK G s) : ∀ (n : Nat) (v1_3 : Int32) (v1_4 : Int32)  (hok : okL1_X0_filledOn σ p1 p2 n v1_3 v1_4) (ls : Array Slot), lv_has ls 6 [(0, .ref (α 0)), (1, .int p1), (2, .int p2), (3, .int v1_3), (4, .int v1_4)] → W p l e (rmm 2 42) s m args below meth c s.heap [] 0 0 (MQ below (QR (some (.int (L1_X0_filledOn σ p1 p2 n v1_3 v1_4)))) args s 0 0 (fun _ => False)) (F0 m 5 ls []) := by
  obtain ⟨hx, hb, hr, hml, hown, hts, hlocks⟩ := id C0
  have hF : CallFix p m c cX0_filledOn 6 s args wsX0_filledOn RX0 := ⟨hx, hb, hml, hown, hts⟩
  intro n
  induction n with
  | zero =>
    intro v1_3 v1_4 hok
    exact hok.elim
  | succ n ih =>
    intro v1_3 v1_4 hok ls hl
    have hok : (192 ≤ v1_4 → True) ∧ (¬ 192 ≤ v1_4 → (((s_X0_isWithin (s_X0_sectorFor σ v1_4) p1 p2) = 0 → (okL1_X0_filledOn σ p1 p2 n v1_3 (v1_4 + 1))) ∧ (¬ (s_X0_isWithin (s_X0_sectorFor σ v1_4) p1 p2) = 0 → (((s_X0_holdsNumber σ (s_X0_sectorFor σ v1_4)) = 0 → (okL1_X0_filledOn σ p1 p2 n v1_3 (v1_4 + 1))) ∧ (¬ (s_X0_holdsNumber σ (s_X0_sectorFor σ v1_4)) = 0 → (okL1_X0_filledOn σ p1 p2 n (v1_3 + 1) (v1_4 + 1))))))) := hok
    refine lv_iload hx hb dX0_filledOn_5 (lv_at hl 4 rfl) ?_
    refine lv_sipush (v := 192) hx hb dX0_filledOn_7 (by decide) ?_
    refine lv_icmp_ge (tgt := 49) hx hb dX0_filledOn_10 (by decide) (fun (c_1 : 192 ≤ v1_4) => ?_) (fun (c_1 : ¬ 192 ≤ v1_4) => ?_)
    · skip
      refine lv_iload_n hx hb dX0_filledOn_49 rfl (lv_at hl 3 rfl) ?_
      rw [show (L1_X0_filledOn σ p1 p2 (n + 1) v1_3 v1_4) = v1_3 from by rw [L1_X0_filledOn]; rw [if_pos c_1]]
      exact W.iret hx hb hr (fun t ht hW => ⟨rfl, ht⟩) (fun _ h => nomatch h) dX0_filledOn_50
    · skip
      have hok := hok.2 c_1
      refine lv_aload_n hx hb dX0_filledOn_13 rfl (lv_at hl 0 rfl) ?_
      refine lv_iload hx hb dX0_filledOn_14 (lv_at hl 4 rfl) ?_
      refine rdV (As := [.int v1_4]) (rest := []) (c_X0_sectorFor l G α σ v1_4) hF (cwV 1 hts gX0_filledOn_X0_sectorFor rfl rfl rfl (by decide +kernel) ⟨Nat.le_of_ble_eq_true rfl, Nat.le_of_ble_eq_true rfl⟩) (rcv_D hK hP) hK hP rfl hl.1 rfl (Nat.le_of_ble_eq_true rfl) dX0_filledOn_16 ⟨Nat.zero_le _, Nat.zero_le _⟩ ?_
      refine lv_istore (lv' := [(5, .int (s_X0_sectorFor σ v1_4)), (0, .ref (α 0)), (1, .int p1), (2, .int p2), (3, .int v1_3), (4, .int v1_4)]) hx hb dX0_filledOn_19 hl (by decide) rfl (fun ls hl => ?_)
      refine lv_iload hx hb dX0_filledOn_21 (lv_at hl 0 rfl) ?_
      refine lv_iload_n hx hb dX0_filledOn_23 rfl (lv_at hl 2 rfl) ?_
      refine lv_iload_n hx hb dX0_filledOn_24 rfl (lv_at hl 3 rfl) ?_
      refine rdS (As := [.int (s_X0_sectorFor σ v1_4), .int p1, .int p2]) (rest := []) (c_X0_isWithin l G (s_X0_sectorFor σ v1_4) p1 p2) hF (va_cwS 3 hts gX0_filledOn_X0_isWithin rfl rfl rfl (by decide +kernel) ⟨Nat.le_of_ble_eq_true rfl, Nat.le_of_ble_eq_true rfl⟩) hK va_P0 rfl hl.1 rfl (Nat.le_of_ble_eq_true rfl) dX0_filledOn_25 ⟨Nat.zero_le _, Nat.zero_le _⟩ ?_
      refine lv_if_eq (tgt := 43) hx hb dX0_filledOn_28 (by decide) (fun (c_2 : (s_X0_isWithin (s_X0_sectorFor σ v1_4) p1 p2) = 0) => ?_) (fun (c_2 : ¬ (s_X0_isWithin (s_X0_sectorFor σ v1_4) p1 p2) = 0) => ?_)
      · skip
        have hok := hok.1 c_2
        refine lv_iinc (v := (v1_4 + 1)) (lv' := [(4, .int (v1_4 + 1)), (5, .int (s_X0_sectorFor σ v1_4)), (0, .ref (α 0)), (1, .int p1), (2, .int p2), (3, .int v1_3)]) hx hb dX0_filledOn_43 hl (k := 5) rfl rfl (by decide) rfl (fun ls hl => ?_)
        refine lv_goto (tgt := 5) hx hb dX0_filledOn_46 (by decide) ?_
        rw [show (L1_X0_filledOn σ p1 p2 (n + 1) v1_3 v1_4) = (L1_X0_filledOn σ p1 p2 n v1_3 (v1_4 + 1)) from by rw [L1_X0_filledOn]; rw [if_neg c_1, if_pos c_2]]
        exact ih v1_3 (v1_4 + 1) hok ls (lv_sub hl [2, 3, 4, 5, 0] rfl)
      · skip
        have hok := hok.2 c_2
        refine lv_aload_n hx hb dX0_filledOn_31 rfl (lv_at hl 1 rfl) ?_
        refine lv_iload hx hb dX0_filledOn_32 (lv_at hl 0 rfl) ?_
        refine rdV (As := [.int (s_X0_sectorFor σ v1_4)]) (rest := []) (c_X0_holdsNumber l G α σ (s_X0_sectorFor σ v1_4)) hF (cwV 1 hts gX0_filledOn_X0_holdsNumber rfl rfl rfl (by decide +kernel) ⟨Nat.le_of_ble_eq_true rfl, Nat.le_of_ble_eq_true rfl⟩) (rcv_D hK hP) hK hP rfl hl.1 rfl (Nat.le_of_ble_eq_true rfl) dX0_filledOn_34 ⟨Nat.zero_le _, Nat.zero_le _⟩ ?_
        refine lv_if_eq (tgt := 43) hx hb dX0_filledOn_37 (by decide) (fun (c_3 : (s_X0_holdsNumber σ (s_X0_sectorFor σ v1_4)) = 0) => ?_) (fun (c_3 : ¬ (s_X0_holdsNumber σ (s_X0_sectorFor σ v1_4)) = 0) => ?_)
        · skip
          have hok := hok.1 c_3
          refine lv_iinc (v := (v1_4 + 1)) (lv' := [(4, .int (v1_4 + 1)), (5, .int (s_X0_sectorFor σ v1_4)), (0, .ref (α 0)), (1, .int p1), (2, .int p2), (3, .int v1_3)]) hx hb dX0_filledOn_43 hl (k := 5) rfl rfl (by decide) rfl (fun ls hl => ?_)
          refine lv_goto (tgt := 5) hx hb dX0_filledOn_46 (by decide) ?_
          rw [show (L1_X0_filledOn σ p1 p2 (n + 1) v1_3 v1_4) = (L1_X0_filledOn σ p1 p2 n v1_3 (v1_4 + 1)) from by rw [L1_X0_filledOn]; rw [if_neg c_1, if_neg c_2, if_pos c_3]]
          exact ih v1_3 (v1_4 + 1) hok ls (lv_sub hl [2, 3, 4, 5, 0] rfl)
        · skip
          have hok := hok.2 c_3
          refine lv_iinc (v := (v1_3 + 1)) (lv' := [(3, .int (v1_3 + 1)), (5, .int (s_X0_sectorFor σ v1_4)), (0, .ref (α 0)), (1, .int p1), (2, .int p2), (4, .int v1_4)]) hx hb dX0_filledOn_40 hl (k := 4) rfl rfl (by decide) rfl (fun ls hl => ?_)
          refine lv_iinc (v := (v1_4 + 1)) (lv' := [(4, .int (v1_4 + 1)), (3, .int (v1_3 + 1)), (5, .int (s_X0_sectorFor σ v1_4)), (0, .ref (α 0)), (1, .int p1), (2, .int p2)]) hx hb dX0_filledOn_43 hl (k := 5) rfl rfl (by decide) rfl (fun ls hl => ?_)
          refine lv_goto (tgt := 5) hx hb dX0_filledOn_46 (by decide) ?_
          rw [show (L1_X0_filledOn σ p1 p2 (n + 1) v1_3 v1_4) = (L1_X0_filledOn σ p1 p2 n (v1_3 + 1) (v1_4 + 1)) from by rw [L1_X0_filledOn]; rw [if_neg c_1, if_neg c_2, if_neg c_3]]
          exact ih (v1_3 + 1) (v1_4 + 1) hok ls (lv_sub hl [3, 4, 5, 1, 0] rfl)
set_option maxHeartbeats 4000000 in
set_option maxRecDepth 100000 in
theorem c_X0_filledOn (l : Launch) (G : GG) (α : Nat → Nat) (σ : DS) (p1 : Int32) (p2 : Int32) (hok : ok_X0_filledOn σ p1 p2) : Rd G l yX0_filledOn wsX0_filledOn 2 42 [.ref (α 0), .int p1, .int p2] (dW G.2.1 α σ) (.int (s_X0_filledOn σ p1 p2)) := by
  refine Met.ofW (cc := cX0_filledOn) (maxL := 6) (ret := (some .int)) (by decide) rfl ?_
  intro p e s m args below meth c s₁ B hml hv
  obtain ⟨rfl, hP, hK⟩ := hv
  have C0 : cA p s m meth c ([.ref (α 0), .int p1, .int p2] : List Value).toArray cX0_filledOn 6 (some .int) wsX0_filledOn RX0 := ⟨B.exec, B.bytes, B.returns, hml, findClass_of_methodNamed B.named, atoms_spec (ws := wsX0_filledOn) B.pre, B.notSynchronized⟩
  obtain ⟨hx, hb, hr, hml, hown, hts, hlocks⟩ := id C0
  have hF : CallFix p m c cX0_filledOn 6 s _ wsX0_filledOn RX0 := ⟨hx, hb, hml, hown, hts⟩
  have hl := lv_entry ([.ref (α 0), .int p1, .int p2]) (n := 6) (Nat.le_of_ble_eq_true rfl)
  rw [lg_entry_eq]
  generalize (lg_sl ([.ref (α 0), .int p1, .int p2]) ++ List.replicate (6 - (lg_sl ([.ref (α 0), .int p1, .int p2])).length) Slot.unset).toArray = ls at hl ⊢
  have hl : lv_has ls 6 [(0, .ref (α 0)), (1, .int p1), (2, .int p2)] := hl
  have hok : okL1_X0_filledOn σ p1 p2 FU 0 0 := hok
  refine lv_iconst (v := 0) hx hb dX0_filledOn_0 (by decide) ?_
  refine lv_istore_n (lv' := [(3, .int 0), (0, .ref (α 0)), (1, .int p1), (2, .int p2)]) hx hb dX0_filledOn_1 rfl hl (by decide) rfl (fun ls hl => ?_)
  refine lv_iconst (v := 0) hx hb dX0_filledOn_2 (by decide) ?_
  refine lv_istore (lv' := [(4, .int 0), (3, .int 0), (0, .ref (α 0)), (1, .int p1), (2, .int p2)]) hx hb dX0_filledOn_3 hl (by decide) rfl (fun ls hl => ?_)
  rw [show s_X0_filledOn σ p1 p2 = (L1_X0_filledOn σ p1 p2 FU 0 0) from by rw [s_X0_filledOn]]
  exact wL1_X0_filledOn l G α σ p1 p2 hP C0 hK FU 0 0 hok ls (lv_sub hl [2, 3, 4, 1, 0] rfl)
def L1_X0_unreadableOn (σ : DS) (p1 : Int32) (p2 : Int32) : Nat → Int32 → Int32 → Int32
  | 0, v1_3, v1_4 => 0
  | n + 1, v1_3, v1_4 => (if 192 ≤ v1_4 then v1_3 else (if (s_X0_isWithin (s_X0_sectorFor σ v1_4) p1 p2) = 0 then (L1_X0_unreadableOn σ p1 p2 n v1_3 (v1_4 + 1)) else (if (s_X0_holdsNumber σ (s_X0_sectorFor σ v1_4)) = 0 then (L1_X0_unreadableOn σ p1 p2 n v1_3 (v1_4 + 1)) else (if (s_X0_isReadable σ (s_X0_sectorFor σ v1_4)) = 0 then (L1_X0_unreadableOn σ p1 p2 n (v1_3 + 1) (v1_4 + 1)) else (L1_X0_unreadableOn σ p1 p2 n v1_3 (v1_4 + 1))))))
def okL1_X0_unreadableOn (σ : DS) (p1 : Int32) (p2 : Int32) : Nat → Int32 → Int32 → Prop
  | 0, _, _ => False
  | n + 1, v1_3, v1_4 => (192 ≤ v1_4 → True) ∧ (¬ 192 ≤ v1_4 → (((s_X0_isWithin (s_X0_sectorFor σ v1_4) p1 p2) = 0 → (okL1_X0_unreadableOn σ p1 p2 n v1_3 (v1_4 + 1))) ∧ (¬ (s_X0_isWithin (s_X0_sectorFor σ v1_4) p1 p2) = 0 → (((s_X0_holdsNumber σ (s_X0_sectorFor σ v1_4)) = 0 → (okL1_X0_unreadableOn σ p1 p2 n v1_3 (v1_4 + 1))) ∧ (¬ (s_X0_holdsNumber σ (s_X0_sectorFor σ v1_4)) = 0 → (((s_X0_isReadable σ (s_X0_sectorFor σ v1_4)) = 0 → (okL1_X0_unreadableOn σ p1 p2 n (v1_3 + 1) (v1_4 + 1))) ∧ (¬ (s_X0_isReadable σ (s_X0_sectorFor σ v1_4)) = 0 → (okL1_X0_unreadableOn σ p1 p2 n v1_3 (v1_4 + 1)))))))))
def s_X0_unreadableOn (σ : DS) (p1 : Int32) (p2 : Int32) : Int32 := (L1_X0_unreadableOn σ p1 p2 FU 0 0)
def ok_X0_unreadableOn (σ : DS) (p1 : Int32) (p2 : Int32) : Prop := okL1_X0_unreadableOn σ p1 p2 FU 0 0
set_option maxHeartbeats 4000000 in
set_option maxRecDepth 100000 in
theorem wL1_X0_unreadableOn {p : Program} {e : Env} {s : State} {m : MethodId} {args : Array Value} {below : List Frame} {meth : Method} {c : Code} (l : Launch) (G : GG) (α : Nat → Nat) (σ : DS) (p1 : Int32) (p2 : Int32) (hP : va_P G.1 vwCl (dW G.2.1 α σ) s.heap) (C0 : cA p s m meth c args cX0_unreadableOn 6 (some .int) wsX0_unreadableOn RX0) (hK : cK G s) : ∀ (n : Nat) (v1_3 : Int32) (v1_4 : Int32)  (hok : okL1_X0_unreadableOn σ p1 p2 n v1_3 v1_4) (ls : Array Slot), lv_has ls 6 [(0, .ref (α 0)), (1, .int p1), (2, .int p2), (3, .int v1_3), (4, .int v1_4)] → W p l e (rmm 3 63) s m args below meth c s.heap [] 0 0 (MQ below (QR (some (.int (L1_X0_unreadableOn σ p1 p2 n v1_3 v1_4)))) args s 0 0 (fun _ => False)) (F0 m 5 ls []) := by
  obtain ⟨hx, hb, hr, hml, hown, hts, hlocks⟩ := id C0
  have hF : CallFix p m c cX0_unreadableOn 6 s args wsX0_unreadableOn RX0 := ⟨hx, hb, hml, hown, hts⟩
  intro n
  induction n with
  | zero =>
    intro v1_3 v1_4 hok
    exact hok.elim
  | succ n ih =>
    intro v1_3 v1_4 hok ls hl
    have hok : (192 ≤ v1_4 → True) ∧ (¬ 192 ≤ v1_4 → (((s_X0_isWithin (s_X0_sectorFor σ v1_4) p1 p2) = 0 → (okL1_X0_unreadableOn σ p1 p2 n v1_3 (v1_4 + 1))) ∧ (¬ (s_X0_isWithin (s_X0_sectorFor σ v1_4) p1 p2) = 0 → (((s_X0_holdsNumber σ (s_X0_sectorFor σ v1_4)) = 0 → (okL1_X0_unreadableOn σ p1 p2 n v1_3 (v1_4 + 1))) ∧ (¬ (s_X0_holdsNumber σ (s_X0_sectorFor σ v1_4)) = 0 → (((s_X0_isReadable σ (s_X0_sectorFor σ v1_4)) = 0 → (okL1_X0_unreadableOn σ p1 p2 n (v1_3 + 1) (v1_4 + 1))) ∧ (¬ (s_X0_isReadable σ (s_X0_sectorFor σ v1_4)) = 0 → (okL1_X0_unreadableOn σ p1 p2 n v1_3 (v1_4 + 1))))))))) := hok
    refine lv_iload hx hb dX0_unreadableOn_5 (lv_at hl 4 rfl) ?_
    refine lv_sipush (v := 192) hx hb dX0_unreadableOn_7 (by decide) ?_
    refine lv_icmp_ge (tgt := 58) hx hb dX0_unreadableOn_10 (by decide) (fun (c_1 : 192 ≤ v1_4) => ?_) (fun (c_1 : ¬ 192 ≤ v1_4) => ?_)
    · skip
      refine lv_iload_n hx hb dX0_unreadableOn_58 rfl (lv_at hl 3 rfl) ?_
      rw [show (L1_X0_unreadableOn σ p1 p2 (n + 1) v1_3 v1_4) = v1_3 from by rw [L1_X0_unreadableOn]; rw [if_pos c_1]]
      exact W.iret hx hb hr (fun t ht hW => ⟨rfl, ht⟩) (fun _ h => nomatch h) dX0_unreadableOn_59
    · skip
      have hok := hok.2 c_1
      refine lv_aload_n hx hb dX0_unreadableOn_13 rfl (lv_at hl 0 rfl) ?_
      refine lv_iload hx hb dX0_unreadableOn_14 (lv_at hl 4 rfl) ?_
      refine rdV (As := [.int v1_4]) (rest := []) (c_X0_sectorFor l G α σ v1_4) hF (cwV 1 hts gX0_unreadableOn_X0_sectorFor rfl rfl rfl (by decide +kernel) ⟨Nat.le_of_ble_eq_true rfl, Nat.le_of_ble_eq_true rfl⟩) (rcv_D hK hP) hK hP rfl hl.1 rfl (Nat.le_of_ble_eq_true rfl) dX0_unreadableOn_16 ⟨Nat.zero_le _, Nat.zero_le _⟩ ?_
      refine lv_istore (lv' := [(5, .int (s_X0_sectorFor σ v1_4)), (0, .ref (α 0)), (1, .int p1), (2, .int p2), (3, .int v1_3), (4, .int v1_4)]) hx hb dX0_unreadableOn_19 hl (by decide) rfl (fun ls hl => ?_)
      refine lv_iload hx hb dX0_unreadableOn_21 (lv_at hl 0 rfl) ?_
      refine lv_iload_n hx hb dX0_unreadableOn_23 rfl (lv_at hl 2 rfl) ?_
      refine lv_iload_n hx hb dX0_unreadableOn_24 rfl (lv_at hl 3 rfl) ?_
      refine rdS (As := [.int (s_X0_sectorFor σ v1_4), .int p1, .int p2]) (rest := []) (c_X0_isWithin l G (s_X0_sectorFor σ v1_4) p1 p2) hF (va_cwS 3 hts gX0_unreadableOn_X0_isWithin rfl rfl rfl (by decide +kernel) ⟨Nat.le_of_ble_eq_true rfl, Nat.le_of_ble_eq_true rfl⟩) hK va_P0 rfl hl.1 rfl (Nat.le_of_ble_eq_true rfl) dX0_unreadableOn_25 ⟨Nat.zero_le _, Nat.zero_le _⟩ ?_
      refine lv_if_eq (tgt := 52) hx hb dX0_unreadableOn_28 (by decide) (fun (c_2 : (s_X0_isWithin (s_X0_sectorFor σ v1_4) p1 p2) = 0) => ?_) (fun (c_2 : ¬ (s_X0_isWithin (s_X0_sectorFor σ v1_4) p1 p2) = 0) => ?_)
      · skip
        have hok := hok.1 c_2
        refine lv_iinc (v := (v1_4 + 1)) (lv' := [(4, .int (v1_4 + 1)), (5, .int (s_X0_sectorFor σ v1_4)), (0, .ref (α 0)), (1, .int p1), (2, .int p2), (3, .int v1_3)]) hx hb dX0_unreadableOn_52 hl (k := 5) rfl rfl (by decide) rfl (fun ls hl => ?_)
        refine lv_goto (tgt := 5) hx hb dX0_unreadableOn_55 (by decide) ?_
        rw [show (L1_X0_unreadableOn σ p1 p2 (n + 1) v1_3 v1_4) = (L1_X0_unreadableOn σ p1 p2 n v1_3 (v1_4 + 1)) from by rw [L1_X0_unreadableOn]; rw [if_neg c_1, if_pos c_2]]
        exact ih v1_3 (v1_4 + 1) hok ls (lv_sub hl [2, 3, 4, 5, 0] rfl)
      · skip
        have hok := hok.2 c_2
        refine lv_aload_n hx hb dX0_unreadableOn_31 rfl (lv_at hl 1 rfl) ?_
        refine lv_iload hx hb dX0_unreadableOn_32 (lv_at hl 0 rfl) ?_
        refine rdV (As := [.int (s_X0_sectorFor σ v1_4)]) (rest := []) (c_X0_holdsNumber l G α σ (s_X0_sectorFor σ v1_4)) hF (cwV 1 hts gX0_unreadableOn_X0_holdsNumber rfl rfl rfl (by decide +kernel) ⟨Nat.le_of_ble_eq_true rfl, Nat.le_of_ble_eq_true rfl⟩) (rcv_D hK hP) hK hP rfl hl.1 rfl (Nat.le_of_ble_eq_true rfl) dX0_unreadableOn_34 ⟨Nat.zero_le _, Nat.zero_le _⟩ ?_
        refine lv_if_eq (tgt := 52) hx hb dX0_unreadableOn_37 (by decide) (fun (c_3 : (s_X0_holdsNumber σ (s_X0_sectorFor σ v1_4)) = 0) => ?_) (fun (c_3 : ¬ (s_X0_holdsNumber σ (s_X0_sectorFor σ v1_4)) = 0) => ?_)
        · skip
          have hok := hok.1 c_3
          refine lv_iinc (v := (v1_4 + 1)) (lv' := [(4, .int (v1_4 + 1)), (5, .int (s_X0_sectorFor σ v1_4)), (0, .ref (α 0)), (1, .int p1), (2, .int p2), (3, .int v1_3)]) hx hb dX0_unreadableOn_52 hl (k := 5) rfl rfl (by decide) rfl (fun ls hl => ?_)
          refine lv_goto (tgt := 5) hx hb dX0_unreadableOn_55 (by decide) ?_
          rw [show (L1_X0_unreadableOn σ p1 p2 (n + 1) v1_3 v1_4) = (L1_X0_unreadableOn σ p1 p2 n v1_3 (v1_4 + 1)) from by rw [L1_X0_unreadableOn]; rw [if_neg c_1, if_neg c_2, if_pos c_3]]
          exact ih v1_3 (v1_4 + 1) hok ls (lv_sub hl [2, 3, 4, 5, 0] rfl)
        · skip
          have hok := hok.2 c_3
          refine lv_aload_n hx hb dX0_unreadableOn_40 rfl (lv_at hl 1 rfl) ?_
          refine lv_iload hx hb dX0_unreadableOn_41 (lv_at hl 0 rfl) ?_
          refine rdV (As := [.int (s_X0_sectorFor σ v1_4)]) (rest := []) (c_X0_isReadable l G α σ (s_X0_sectorFor σ v1_4)) hF (cwV 1 hts gX0_unreadableOn_X0_isReadable rfl rfl rfl (by decide +kernel) ⟨Nat.le_of_ble_eq_true rfl, Nat.le_of_ble_eq_true rfl⟩) (rcv_D hK hP) hK hP rfl hl.1 rfl (Nat.le_of_ble_eq_true rfl) dX0_unreadableOn_43 ⟨Nat.zero_le _, Nat.zero_le _⟩ ?_
          refine lv_if_ne (tgt := 52) hx hb dX0_unreadableOn_46 (by decide) (fun (c_4 : ¬ (s_X0_isReadable σ (s_X0_sectorFor σ v1_4)) = 0) => ?_) (fun (c_4 : (s_X0_isReadable σ (s_X0_sectorFor σ v1_4)) = 0) => ?_)
          · skip
            have hok := hok.2 c_4
            refine lv_iinc (v := (v1_4 + 1)) (lv' := [(4, .int (v1_4 + 1)), (5, .int (s_X0_sectorFor σ v1_4)), (0, .ref (α 0)), (1, .int p1), (2, .int p2), (3, .int v1_3)]) hx hb dX0_unreadableOn_52 hl (k := 5) rfl rfl (by decide) rfl (fun ls hl => ?_)
            refine lv_goto (tgt := 5) hx hb dX0_unreadableOn_55 (by decide) ?_
            rw [show (L1_X0_unreadableOn σ p1 p2 (n + 1) v1_3 v1_4) = (L1_X0_unreadableOn σ p1 p2 n v1_3 (v1_4 + 1)) from by rw [L1_X0_unreadableOn]; rw [if_neg c_1, if_neg c_2, if_neg c_3, if_neg c_4]]
            exact ih v1_3 (v1_4 + 1) hok ls (lv_sub hl [2, 3, 4, 5, 0] rfl)
          · skip
            have hok := hok.1 c_4
            refine lv_iinc (v := (v1_3 + 1)) (lv' := [(3, .int (v1_3 + 1)), (5, .int (s_X0_sectorFor σ v1_4)), (0, .ref (α 0)), (1, .int p1), (2, .int p2), (4, .int v1_4)]) hx hb dX0_unreadableOn_49 hl (k := 4) rfl rfl (by decide) rfl (fun ls hl => ?_)
            refine lv_iinc (v := (v1_4 + 1)) (lv' := [(4, .int (v1_4 + 1)), (3, .int (v1_3 + 1)), (5, .int (s_X0_sectorFor σ v1_4)), (0, .ref (α 0)), (1, .int p1), (2, .int p2)]) hx hb dX0_unreadableOn_52 hl (k := 5) rfl rfl (by decide) rfl (fun ls hl => ?_)
            refine lv_goto (tgt := 5) hx hb dX0_unreadableOn_55 (by decide) ?_
            rw [show (L1_X0_unreadableOn σ p1 p2 (n + 1) v1_3 v1_4) = (L1_X0_unreadableOn σ p1 p2 n (v1_3 + 1) (v1_4 + 1)) from by rw [L1_X0_unreadableOn]; rw [if_neg c_1, if_neg c_2, if_neg c_3, if_pos c_4]]
            exact ih (v1_3 + 1) (v1_4 + 1) hok ls (lv_sub hl [3, 4, 5, 1, 0] rfl)
set_option maxHeartbeats 4000000 in
set_option maxRecDepth 100000 in
theorem c_X0_unreadableOn (l : Launch) (G : GG) (α : Nat → Nat) (σ : DS) (p1 : Int32) (p2 : Int32) (hok : ok_X0_unreadableOn σ p1 p2) : Rd G l yX0_unreadableOn wsX0_unreadableOn 3 63 [.ref (α 0), .int p1, .int p2] (dW G.2.1 α σ) (.int (s_X0_unreadableOn σ p1 p2)) := by
  refine Met.ofW (cc := cX0_unreadableOn) (maxL := 6) (ret := (some .int)) (by decide) rfl ?_
  intro p e s m args below meth c s₁ B hml hv
  obtain ⟨rfl, hP, hK⟩ := hv
  have C0 : cA p s m meth c ([.ref (α 0), .int p1, .int p2] : List Value).toArray cX0_unreadableOn 6 (some .int) wsX0_unreadableOn RX0 := ⟨B.exec, B.bytes, B.returns, hml, findClass_of_methodNamed B.named, atoms_spec (ws := wsX0_unreadableOn) B.pre, B.notSynchronized⟩
  obtain ⟨hx, hb, hr, hml, hown, hts, hlocks⟩ := id C0
  have hF : CallFix p m c cX0_unreadableOn 6 s _ wsX0_unreadableOn RX0 := ⟨hx, hb, hml, hown, hts⟩
  have hl := lv_entry ([.ref (α 0), .int p1, .int p2]) (n := 6) (Nat.le_of_ble_eq_true rfl)
  rw [lg_entry_eq]
  generalize (lg_sl ([.ref (α 0), .int p1, .int p2]) ++ List.replicate (6 - (lg_sl ([.ref (α 0), .int p1, .int p2])).length) Slot.unset).toArray = ls at hl ⊢
  have hl : lv_has ls 6 [(0, .ref (α 0)), (1, .int p1), (2, .int p2)] := hl
  have hok : okL1_X0_unreadableOn σ p1 p2 FU 0 0 := hok
  refine lv_iconst (v := 0) hx hb dX0_unreadableOn_0 (by decide) ?_
  refine lv_istore_n (lv' := [(3, .int 0), (0, .ref (α 0)), (1, .int p1), (2, .int p2)]) hx hb dX0_unreadableOn_1 rfl hl (by decide) rfl (fun ls hl => ?_)
  refine lv_iconst (v := 0) hx hb dX0_unreadableOn_2 (by decide) ?_
  refine lv_istore (lv' := [(4, .int 0), (3, .int 0), (0, .ref (α 0)), (1, .int p1), (2, .int p2)]) hx hb dX0_unreadableOn_3 hl (by decide) rfl (fun ls hl => ?_)
  rw [show s_X0_unreadableOn σ p1 p2 = (L1_X0_unreadableOn σ p1 p2 FU 0 0) from by rw [s_X0_unreadableOn]]
  exact wL1_X0_unreadableOn l G α σ p1 p2 hP C0 hK FU 0 0 hok ls (lv_sub hl [2, 3, 4, 1, 0] rfl)
def L1_X0_writingsOnTracks (σ : DS) (p1 : Int32) (p2 : Int32) : Nat → Int32 → Int32 → Int32
  | 0, v1_3, v1_4 => 0
  | n + 1, v1_3, v1_4 => (if 16 ≤ v1_4 then v1_3 else (if p2 ≤ 0 then (L1_X0_writingsOnTracks σ p1 p2 n v1_3 (v1_4 + 1)) else (if (jrem v1_4 p2) = p1 then (L1_X0_writingsOnTracks σ p1 p2 n (v1_3 + (s_X0_writingsOnTrack σ v1_4)) (v1_4 + 1)) else (L1_X0_writingsOnTracks σ p1 p2 n v1_3 (v1_4 + 1)))))
def okL1_X0_writingsOnTracks (σ : DS) (p1 : Int32) (p2 : Int32) : Nat → Int32 → Int32 → Prop
  | 0, _, _ => False
  | n + 1, v1_3, v1_4 => (16 ≤ v1_4 → True) ∧ (¬ 16 ≤ v1_4 → ((p2 ≤ 0 → (okL1_X0_writingsOnTracks σ p1 p2 n v1_3 (v1_4 + 1))) ∧ (¬ p2 ≤ 0 → (((jrem v1_4 p2) = p1 → ((ok_X0_writingsOnTrack σ v1_4) ∧ (okL1_X0_writingsOnTracks σ p1 p2 n (v1_3 + (s_X0_writingsOnTrack σ v1_4)) (v1_4 + 1)))) ∧ (¬ (jrem v1_4 p2) = p1 → (okL1_X0_writingsOnTracks σ p1 p2 n v1_3 (v1_4 + 1)))))))
def s_X0_writingsOnTracks (σ : DS) (p1 : Int32) (p2 : Int32) : Int32 := (L1_X0_writingsOnTracks σ p1 p2 FU 0 0)
def ok_X0_writingsOnTracks (σ : DS) (p1 : Int32) (p2 : Int32) : Prop := okL1_X0_writingsOnTracks σ p1 p2 FU 0 0
set_option maxHeartbeats 4000000 in
set_option maxRecDepth 100000 in
theorem wL1_X0_writingsOnTracks {p : Program} {e : Env} {s : State} {m : MethodId} {args : Array Value} {below : List Frame} {meth : Method} {c : Code} (l : Launch) (G : GG) (α : Nat → Nat) (σ : DS) (p1 : Int32) (p2 : Int32) (hP : va_P G.1 vwCl (dW G.2.1 α σ) s.heap) (C0 : cA p s m meth c args cX0_writingsOnTracks 5 (some .int) wsX0_writingsOnTracks RX0) (hK : cK G s) : ∀ (n : Nat) (v1_3 : Int32) (v1_4 : Int32)  (hok : okL1_X0_writingsOnTracks σ p1 p2 n v1_3 v1_4) (ls : Array Slot), lv_has ls 5 [(0, .ref (α 0)), (1, .int p1), (2, .int p2), (3, .int v1_3), (4, .int v1_4)] → W p l e (rmm 3 65) s m args below meth c s.heap [] 0 0 (MQ below (QR (some (.int (L1_X0_writingsOnTracks σ p1 p2 n v1_3 v1_4)))) args s 0 0 (fun _ => False)) (F0 m 5 ls []) := by
  obtain ⟨hx, hb, hr, hml, hown, hts, hlocks⟩ := id C0
  have hF : CallFix p m c cX0_writingsOnTracks 5 s args wsX0_writingsOnTracks RX0 := ⟨hx, hb, hml, hown, hts⟩
  intro n
  induction n with
  | zero =>
    intro v1_3 v1_4 hok
    exact hok.elim
  | succ n ih =>
    intro v1_3 v1_4 hok ls hl
    have hok : (16 ≤ v1_4 → True) ∧ (¬ 16 ≤ v1_4 → ((p2 ≤ 0 → (okL1_X0_writingsOnTracks σ p1 p2 n v1_3 (v1_4 + 1))) ∧ (¬ p2 ≤ 0 → (((jrem v1_4 p2) = p1 → ((ok_X0_writingsOnTrack σ v1_4) ∧ (okL1_X0_writingsOnTracks σ p1 p2 n (v1_3 + (s_X0_writingsOnTrack σ v1_4)) (v1_4 + 1)))) ∧ (¬ (jrem v1_4 p2) = p1 → (okL1_X0_writingsOnTracks σ p1 p2 n v1_3 (v1_4 + 1))))))) := hok
    refine lv_iload hx hb dX0_writingsOnTracks_5 (lv_at hl 4 rfl) ?_
    refine lv_bipush (v := 16) hx hb dX0_writingsOnTracks_7 (by decide) ?_
    refine lv_icmp_ge (tgt := 39) hx hb dX0_writingsOnTracks_9 (by decide) (fun (c_1 : 16 ≤ v1_4) => ?_) (fun (c_1 : ¬ 16 ≤ v1_4) => ?_)
    · skip
      refine lv_iload_n hx hb dX0_writingsOnTracks_39 rfl (lv_at hl 3 rfl) ?_
      rw [show (L1_X0_writingsOnTracks σ p1 p2 (n + 1) v1_3 v1_4) = v1_3 from by rw [L1_X0_writingsOnTracks]; rw [if_pos c_1]]
      exact W.iret hx hb hr (fun t ht hW => ⟨rfl, ht⟩) (fun _ h => nomatch h) dX0_writingsOnTracks_40
    · skip
      have hok := hok.2 c_1
      refine lv_iload_n hx hb dX0_writingsOnTracks_12 rfl (lv_at hl 2 rfl) ?_
      refine lv_if_le (tgt := 33) hx hb dX0_writingsOnTracks_13 (by decide) (fun (c_2 : p2 ≤ 0) => ?_) (fun (c_2 : ¬ p2 ≤ 0) => ?_)
      · skip
        have hok := hok.1 c_2
        refine lv_iinc (v := (v1_4 + 1)) (lv' := [(4, .int (v1_4 + 1)), (0, .ref (α 0)), (1, .int p1), (2, .int p2), (3, .int v1_3)]) hx hb dX0_writingsOnTracks_33 hl (k := 4) rfl rfl (by decide) rfl (fun ls hl => ?_)
        refine lv_goto (tgt := 5) hx hb dX0_writingsOnTracks_36 (by decide) ?_
        rw [show (L1_X0_writingsOnTracks σ p1 p2 (n + 1) v1_3 v1_4) = (L1_X0_writingsOnTracks σ p1 p2 n v1_3 (v1_4 + 1)) from by rw [L1_X0_writingsOnTracks]; rw [if_neg c_1, if_pos c_2]]
        exact ih v1_3 (v1_4 + 1) hok ls (lv_sub hl [1, 2, 3, 4, 0] rfl)
      · skip
        have hok := hok.2 c_2
        refine lv_iload hx hb dX0_writingsOnTracks_16 (lv_at hl 4 rfl) ?_
        refine lv_iload_n hx hb dX0_writingsOnTracks_18 rfl (lv_at hl 2 rfl) ?_
        refine lv_irem hx hb dX0_writingsOnTracks_19 (nz_of c_2) ?_
        refine lv_iload_n hx hb dX0_writingsOnTracks_20 rfl (lv_at hl 1 rfl) ?_
        refine lv_icmp_ne (tgt := 33) hx hb dX0_writingsOnTracks_21 (by decide) (fun (c_3 : ¬ (jrem v1_4 p2) = p1) => ?_) (fun (c_3 : (jrem v1_4 p2) = p1) => ?_)
        · skip
          have hok := hok.2 c_3
          refine lv_iinc (v := (v1_4 + 1)) (lv' := [(4, .int (v1_4 + 1)), (0, .ref (α 0)), (1, .int p1), (2, .int p2), (3, .int v1_3)]) hx hb dX0_writingsOnTracks_33 hl (k := 4) rfl rfl (by decide) rfl (fun ls hl => ?_)
          refine lv_goto (tgt := 5) hx hb dX0_writingsOnTracks_36 (by decide) ?_
          rw [show (L1_X0_writingsOnTracks σ p1 p2 (n + 1) v1_3 v1_4) = (L1_X0_writingsOnTracks σ p1 p2 n v1_3 (v1_4 + 1)) from by rw [L1_X0_writingsOnTracks]; rw [if_neg c_1, if_neg c_2, if_neg c_3]]
          exact ih v1_3 (v1_4 + 1) hok ls (lv_sub hl [1, 2, 3, 4, 0] rfl)
        · skip
          have hok := hok.1 c_3
          obtain ⟨h_4, hok⟩ := hok
          refine lv_iload_n hx hb dX0_writingsOnTracks_24 rfl (lv_at hl 3 rfl) ?_
          refine lv_aload_n hx hb dX0_writingsOnTracks_25 rfl (lv_at hl 0 rfl) ?_
          refine lv_iload hx hb dX0_writingsOnTracks_26 (lv_at hl 4 rfl) ?_
          refine rdV (As := [.int v1_4]) (rest := [.int v1_3]) (c_X0_writingsOnTrack l G α σ v1_4 h_4) hF (cwV 1 hts gX0_writingsOnTracks_X0_writingsOnTrack rfl rfl rfl (by decide +kernel) ⟨Nat.le_of_ble_eq_true rfl, Nat.le_of_ble_eq_true rfl⟩) (rcv_D hK hP) hK hP rfl hl.1 rfl (Nat.le_of_ble_eq_true rfl) dX0_writingsOnTracks_28 ⟨Nat.zero_le _, Nat.zero_le _⟩ ?_
          refine lv_iadd hx hb dX0_writingsOnTracks_31 ?_
          refine lv_istore_n (lv' := [(3, .int (v1_3 + (s_X0_writingsOnTrack σ v1_4))), (0, .ref (α 0)), (1, .int p1), (2, .int p2), (4, .int v1_4)]) hx hb dX0_writingsOnTracks_32 rfl hl (by decide) rfl (fun ls hl => ?_)
          refine lv_iinc (v := (v1_4 + 1)) (lv' := [(4, .int (v1_4 + 1)), (3, .int (v1_3 + (s_X0_writingsOnTrack σ v1_4))), (0, .ref (α 0)), (1, .int p1), (2, .int p2)]) hx hb dX0_writingsOnTracks_33 hl (k := 4) rfl rfl (by decide) rfl (fun ls hl => ?_)
          refine lv_goto (tgt := 5) hx hb dX0_writingsOnTracks_36 (by decide) ?_
          rw [show (L1_X0_writingsOnTracks σ p1 p2 (n + 1) v1_3 v1_4) = (L1_X0_writingsOnTracks σ p1 p2 n (v1_3 + (s_X0_writingsOnTrack σ v1_4)) (v1_4 + 1)) from by rw [L1_X0_writingsOnTracks]; rw [if_neg c_1, if_neg c_2, if_pos c_3]]
          exact ih (v1_3 + (s_X0_writingsOnTrack σ v1_4)) (v1_4 + 1) hok ls (lv_sub hl [2, 3, 4, 1, 0] rfl)
set_option maxHeartbeats 4000000 in
set_option maxRecDepth 100000 in
theorem c_X0_writingsOnTracks (l : Launch) (G : GG) (α : Nat → Nat) (σ : DS) (p1 : Int32) (p2 : Int32) (hok : ok_X0_writingsOnTracks σ p1 p2) : Rd G l yX0_writingsOnTracks wsX0_writingsOnTracks 3 65 [.ref (α 0), .int p1, .int p2] (dW G.2.1 α σ) (.int (s_X0_writingsOnTracks σ p1 p2)) := by
  refine Met.ofW (cc := cX0_writingsOnTracks) (maxL := 5) (ret := (some .int)) (by decide) rfl ?_
  intro p e s m args below meth c s₁ B hml hv
  obtain ⟨rfl, hP, hK⟩ := hv
  have C0 : cA p s m meth c ([.ref (α 0), .int p1, .int p2] : List Value).toArray cX0_writingsOnTracks 5 (some .int) wsX0_writingsOnTracks RX0 := ⟨B.exec, B.bytes, B.returns, hml, findClass_of_methodNamed B.named, atoms_spec (ws := wsX0_writingsOnTracks) B.pre, B.notSynchronized⟩
  obtain ⟨hx, hb, hr, hml, hown, hts, hlocks⟩ := id C0
  have hF : CallFix p m c cX0_writingsOnTracks 5 s _ wsX0_writingsOnTracks RX0 := ⟨hx, hb, hml, hown, hts⟩
  have hl := lv_entry ([.ref (α 0), .int p1, .int p2]) (n := 5) (Nat.le_of_ble_eq_true rfl)
  rw [lg_entry_eq]
  generalize (lg_sl ([.ref (α 0), .int p1, .int p2]) ++ List.replicate (5 - (lg_sl ([.ref (α 0), .int p1, .int p2])).length) Slot.unset).toArray = ls at hl ⊢
  have hl : lv_has ls 5 [(0, .ref (α 0)), (1, .int p1), (2, .int p2)] := hl
  have hok : okL1_X0_writingsOnTracks σ p1 p2 FU 0 0 := hok
  refine lv_iconst (v := 0) hx hb dX0_writingsOnTracks_0 (by decide) ?_
  refine lv_istore_n (lv' := [(3, .int 0), (0, .ref (α 0)), (1, .int p1), (2, .int p2)]) hx hb dX0_writingsOnTracks_1 rfl hl (by decide) rfl (fun ls hl => ?_)
  refine lv_iconst (v := 0) hx hb dX0_writingsOnTracks_2 (by decide) ?_
  refine lv_istore (lv' := [(4, .int 0), (3, .int 0), (0, .ref (α 0)), (1, .int p1), (2, .int p2)]) hx hb dX0_writingsOnTracks_3 hl (by decide) rfl (fun ls hl => ?_)
  rw [show s_X0_writingsOnTracks σ p1 p2 = (L1_X0_writingsOnTracks σ p1 p2 FU 0 0) from by rw [s_X0_writingsOnTracks]]
  exact wL1_X0_writingsOnTracks l G α σ p1 p2 hP C0 hK FU 0 0 hok ls (lv_sub hl [2, 3, 4, 1, 0] rfl)
def L1_X0_greatestBlur (σ : DS) : Nat → Int32 → Int32 → Int32
  | 0, v1_1, v1_2 => 0
  | n + 1, v1_1, v1_2 => (if 192 ≤ v1_2 then v1_1 else (L1_X0_greatestBlur σ n (jmax v1_1 (s_X0_blurOf σ (s_X0_sectorFor σ v1_2))) (v1_2 + 1)))
def okL1_X0_greatestBlur (σ : DS) : Nat → Int32 → Int32 → Prop
  | 0, _, _ => False
  | n + 1, v1_1, v1_2 => (192 ≤ v1_2 → True) ∧ (¬ 192 ≤ v1_2 → (okL1_X0_greatestBlur σ n (jmax v1_1 (s_X0_blurOf σ (s_X0_sectorFor σ v1_2))) (v1_2 + 1)))
def s_X0_greatestBlur (σ : DS) : Int32 := (L1_X0_greatestBlur σ FU 0 0)
def ok_X0_greatestBlur (σ : DS) : Prop := okL1_X0_greatestBlur σ FU 0 0
set_option maxHeartbeats 4000000 in
set_option maxRecDepth 100000 in
theorem wL1_X0_greatestBlur {p : Program} {e : Env} {s : State} {m : MethodId} {args : Array Value} {below : List Frame} {meth : Method} {c : Code} (l : Launch) (G : GG) (α : Nat → Nat) (σ : DS) (hP : va_P G.1 vwCl (dW G.2.1 α σ) s.heap) (C0 : cA p s m meth c args cX0_greatestBlur 3 (some .int) wsX0_greatestBlur RX0) (hK : cK G s) : ∀ (n : Nat) (v1_1 : Int32) (v1_2 : Int32)  (hok : okL1_X0_greatestBlur σ n v1_1 v1_2) (ls : Array Slot), lv_has ls 3 [(0, .ref (α 0)), (1, .int v1_1), (2, .int v1_2)] → W p l e (rmm 2 42) s m args below meth c s.heap [] 0 0 (MQ below (QR (some (.int (L1_X0_greatestBlur σ n v1_1 v1_2)))) args s 0 0 (fun _ => False)) (F0 m 4 ls []) := by
  obtain ⟨hx, hb, hr, hml, hown, hts, hlocks⟩ := id C0
  have hF : CallFix p m c cX0_greatestBlur 3 s args wsX0_greatestBlur RX0 := ⟨hx, hb, hml, hown, hts⟩
  intro n
  induction n with
  | zero =>
    intro v1_1 v1_2 hok
    exact hok.elim
  | succ n ih =>
    intro v1_1 v1_2 hok ls hl
    have hok : (192 ≤ v1_2 → True) ∧ (¬ 192 ≤ v1_2 → (okL1_X0_greatestBlur σ n (jmax v1_1 (s_X0_blurOf σ (s_X0_sectorFor σ v1_2))) (v1_2 + 1))) := hok
    refine lv_iload_n hx hb dX0_greatestBlur_4 rfl (lv_at hl 2 rfl) ?_
    refine lv_sipush (v := 192) hx hb dX0_greatestBlur_5 (by decide) ?_
    refine lv_icmp_ge (tgt := 31) hx hb dX0_greatestBlur_8 (by decide) (fun (c_1 : 192 ≤ v1_2) => ?_) (fun (c_1 : ¬ 192 ≤ v1_2) => ?_)
    · skip
      refine lv_iload_n hx hb dX0_greatestBlur_31 rfl (lv_at hl 1 rfl) ?_
      rw [show (L1_X0_greatestBlur σ (n + 1) v1_1 v1_2) = v1_1 from by rw [L1_X0_greatestBlur]; rw [if_pos c_1]]
      exact W.iret hx hb hr (fun t ht hW => ⟨rfl, ht⟩) (fun _ h => nomatch h) dX0_greatestBlur_32
    · skip
      have hok := hok.2 c_1
      refine lv_iload_n hx hb dX0_greatestBlur_11 rfl (lv_at hl 1 rfl) ?_
      refine lv_aload_n hx hb dX0_greatestBlur_12 rfl (lv_at hl 0 rfl) ?_
      refine lv_aload_n hx hb dX0_greatestBlur_13 rfl (lv_at hl 0 rfl) ?_
      refine lv_iload_n hx hb dX0_greatestBlur_14 rfl (lv_at hl 2 rfl) ?_
      refine rdV (As := [.int v1_2]) (rest := [.ref (α 0), .int v1_1]) (c_X0_sectorFor l G α σ v1_2) hF (cwV 1 hts gX0_greatestBlur_X0_sectorFor rfl rfl rfl (by decide +kernel) ⟨Nat.le_of_ble_eq_true rfl, Nat.le_of_ble_eq_true rfl⟩) (rcv_D hK hP) hK hP rfl hl.1 rfl (Nat.le_of_ble_eq_true rfl) dX0_greatestBlur_15 ⟨Nat.zero_le _, Nat.zero_le _⟩ ?_
      refine rdV (As := [.int (s_X0_sectorFor σ v1_2)]) (rest := [.int v1_1]) (c_X0_blurOf l G α σ (s_X0_sectorFor σ v1_2)) hF (cwV 1 hts gX0_greatestBlur_X0_blurOf rfl rfl rfl (by decide +kernel) ⟨Nat.le_of_ble_eq_true rfl, Nat.le_of_ble_eq_true rfl⟩) (rcv_D hK hP) hK hP rfl hl.1 rfl (Nat.le_of_ble_eq_true rfl) dX0_greatestBlur_18 ⟨Nat.zero_le _, Nat.zero_le _⟩ ?_
      refine va_mmax hx hb (by rw [hml]; exact hl.1.symm) hown (hts (.methodLink RX0 148 Lib.Math.max.name) (by decide +kernel)) (hts (.static Lib.Math.max.name) (by decide +kernel)) (hts (.initialized "java/lang/Math") (by decide +kernel)) (hts (.code Lib.Math.max.name Lib.Math.max.code 2 (some .int)) (by decide +kernel)) (Nat.le_of_ble_eq_true rfl) (Nat.le_of_ble_eq_true rfl) (Nat.zero_le _) (Nat.zero_le _) dX0_greatestBlur_21 ?_
      refine lv_istore_n (lv' := [(1, .int (jmax v1_1 (s_X0_blurOf σ (s_X0_sectorFor σ v1_2)))), (0, .ref (α 0)), (2, .int v1_2)]) hx hb dX0_greatestBlur_24 rfl hl (by decide) rfl (fun ls hl => ?_)
      refine lv_iinc (v := (v1_2 + 1)) (lv' := [(2, .int (v1_2 + 1)), (1, .int (jmax v1_1 (s_X0_blurOf σ (s_X0_sectorFor σ v1_2)))), (0, .ref (α 0))]) hx hb dX0_greatestBlur_25 hl (k := 2) rfl rfl (by decide) rfl (fun ls hl => ?_)
      refine lv_goto (tgt := 4) hx hb dX0_greatestBlur_28 (by decide) ?_
      rw [show (L1_X0_greatestBlur σ (n + 1) v1_1 v1_2) = (L1_X0_greatestBlur σ n (jmax v1_1 (s_X0_blurOf σ (s_X0_sectorFor σ v1_2))) (v1_2 + 1)) from by rw [L1_X0_greatestBlur]; rw [if_neg c_1]]
      exact ih (jmax v1_1 (s_X0_blurOf σ (s_X0_sectorFor σ v1_2))) (v1_2 + 1) hok ls (lv_sub hl [2, 1, 0] rfl)
set_option maxHeartbeats 4000000 in
set_option maxRecDepth 100000 in
theorem c_X0_greatestBlur (l : Launch) (G : GG) (α : Nat → Nat) (σ : DS) (hok : ok_X0_greatestBlur σ) : Rd G l yX0_greatestBlur wsX0_greatestBlur 2 42 [.ref (α 0)] (dW G.2.1 α σ) (.int (s_X0_greatestBlur σ)) := by
  refine Met.ofW (cc := cX0_greatestBlur) (maxL := 3) (ret := (some .int)) (by decide) rfl ?_
  intro p e s m args below meth c s₁ B hml hv
  obtain ⟨rfl, hP, hK⟩ := hv
  have C0 : cA p s m meth c ([.ref (α 0)] : List Value).toArray cX0_greatestBlur 3 (some .int) wsX0_greatestBlur RX0 := ⟨B.exec, B.bytes, B.returns, hml, findClass_of_methodNamed B.named, atoms_spec (ws := wsX0_greatestBlur) B.pre, B.notSynchronized⟩
  obtain ⟨hx, hb, hr, hml, hown, hts, hlocks⟩ := id C0
  have hF : CallFix p m c cX0_greatestBlur 3 s _ wsX0_greatestBlur RX0 := ⟨hx, hb, hml, hown, hts⟩
  have hl := lv_entry ([.ref (α 0)]) (n := 3) (Nat.le_of_ble_eq_true rfl)
  rw [lg_entry_eq]
  generalize (lg_sl ([.ref (α 0)]) ++ List.replicate (3 - (lg_sl ([.ref (α 0)])).length) Slot.unset).toArray = ls at hl ⊢
  have hl : lv_has ls 3 [(0, .ref (α 0))] := hl
  have hok : okL1_X0_greatestBlur σ FU 0 0 := hok
  refine lv_iconst (v := 0) hx hb dX0_greatestBlur_0 (by decide) ?_
  refine lv_istore_n (lv' := [(1, .int 0), (0, .ref (α 0))]) hx hb dX0_greatestBlur_1 rfl hl (by decide) rfl (fun ls hl => ?_)
  refine lv_iconst (v := 0) hx hb dX0_greatestBlur_2 (by decide) ?_
  refine lv_istore_n (lv' := [(2, .int 0), (1, .int 0), (0, .ref (α 0))]) hx hb dX0_greatestBlur_3 rfl hl (by decide) rfl (fun ls hl => ?_)
  rw [show s_X0_greatestBlur σ = (L1_X0_greatestBlur σ FU 0 0) from by rw [s_X0_greatestBlur]]
  exact wL1_X0_greatestBlur l G α σ hP C0 hK FU 0 0 hok ls (lv_sub hl [2, 1, 0] rfl)
