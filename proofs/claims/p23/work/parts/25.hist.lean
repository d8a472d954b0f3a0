/-! the history: a ring of discs -/
theorem fst_H {c : ClassId} {α : Nat → Nat} (σ τ : HS) : (hW c α τ).map (·.1) = (hW c α σ).map (·.1) := rfl
theorem six_lt {k : Nat} (hk : k < 6) : nI k < 6 := (nI_ltI (b := 6) (by omega) (by decide)).mpr hk
theorem clampk {k : Nat} (hk : k < 6) : (nI k).toNatClampNeg = k := nI_clamp (by omega)
set_option maxHeartbeats 4000000 in
set_option maxRecDepth 100000 in
theorem c_X1_exchange (l : Launch) (G : GG) (η : Nat → Nat) (ring : Nat → Option Nat) (o n : Int32) (d : Nat) (fs : List Value) (k : Nat) (hk : k < 6) : Wr G l yX1_exchange wsX1_exchange 0 0 [.ref (η 0), .int (nI k), .ref d] ((hW G.2.2 η (ring, o, n)) ++ [(d, .inr (0, fs))]) (some (va_rf (ring k))) ((hW G.2.2 η (va_up ring k (some d), o, n)) ++ [(d, .inr (0, fs))]) := by
  refine Met.ofW (cc := cX1_exchange) (maxL := 4) (ret := (some (.object "GrooveTurns$Disc"))) (by decide) rfl ?_
  intro p e s m args below meth c s₁ B hml hv
  obtain ⟨rfl, hP, hK, hD0⟩ := hv
  have C0 : cA p s m meth c ([.ref (η 0), .int (nI k), .ref d] : List Value).toArray cX1_exchange 4 (some (.object "GrooveTurns$Disc")) wsX1_exchange RX1 := ⟨B.exec, B.bytes, B.returns, hml, findClass_of_methodNamed B.named, atoms_spec (ws := wsX1_exchange) B.pre, B.notSynchronized⟩
  obtain ⟨hx, hb, hr, hml, hown, hts, hlocks⟩ := id C0
  have hinX1 : ∀ w ∈ wsX10, w ∈ wsX1_exchange := by decide +kernel
  obtain ⟨w0, hw0⟩ : ∃ w0 : va_W, w0 = ((hW G.2.2 η (ring, o, n)) ++ [(d, .inr (0, fs))]) := ⟨_, rfl⟩
  have hD : va_D (inW w0) ((hW G.2.2 η (ring, o, n)) ++ [(d, .inr (0, fs))]) := by rw [hw0]; exact inW.D hD0
  have hS : va_S (inW w0) s.heap s.heap [] := va_S.rf
  rw [show QW G ((hW G.2.2 η (ring, o, n)) ++ [(d, .inr (0, fs))]) = QW G w0 from by rw [hw0], show inW ((hW G.2.2 η (ring, o, n)) ++ [(d, .inr (0, fs))]) = inW w0 from by rw [hw0]]
  have hl := lv_entry ([.ref (η 0), .int (nI k), .ref d]) (n := 4) (Nat.le_of_ble_eq_true rfl)
  rw [lg_entry_eq]
  generalize (lg_sl ([.ref (η 0), .int (nI k), .ref d]) ++ List.replicate (4 - (lg_sl ([.ref (η 0), .int (nI k), .ref d])).length) Slot.unset).toArray = ls at hl ⊢
  have hl : lv_has ls 4 [(0, .ref (η 0)), (1, .int (nI k)), (2, .ref d)] := hl
  have hi : vp_in (nI k) 6 := vp_in_nI hk (by decide)
  refine lv_iload_n hx hb dX1_exchange_0 rfl (lv_at hl 1 rfl) ?_
  refine lv_if_lt (tgt := 13) hx hb dX1_exchange_1 (by decide) (fun c_1 => absurd c_1 (nI_pos (by omega))) (fun c_1 => ?_)
  refine lv_iload_n hx hb dX1_exchange_4 rfl (lv_at hl 1 rfl) ?_
  refine lv_aload_n hx hb dX1_exchange_5 rfl (lv_at hl 0 rfl) ?_
  refine va_get (D := G.1) (ci := 1) (v := .ref (η 1)) (C := RX1) (T := TX1) (N := 3) hx hb hts hinX1 hown hK.1 hP 0 rfl rfl 0 (by decide) (hts (.fieldLink RX1 11 "GrooveTurns$History" "ring" "[LGrooveTurns$Disc;") (by decide +kernel)) (fun _ h9 => h9) rfl dX1_exchange_6 ?_
  refine va_alen (v := 6) hx hb hK.1 hP 1 1 rfl rfl rfl dX1_exchange_9 ?_
  refine lv_icmp_lt (tgt := 15) hx hb dX1_exchange_10 (by decide) (fun c_2 => ?_) (fun c_2 => absurd (six_lt hk) c_2)
  refine lv_aload_n hx hb dX1_exchange_15 rfl (lv_at hl 0 rfl) ?_
  refine va_get (D := G.1) (ci := 1) (v := .ref (η 1)) (C := RX1) (T := TX1) (N := 3) hx hb hts hinX1 hown hK.1 hP 0 rfl rfl 0 (by decide) (hts (.fieldLink RX1 11 "GrooveTurns$History" "ring" "[LGrooveTurns$Disc;") (by decide +kernel)) (fun _ h9 => h9) rfl dX1_exchange_16 ?_
  refine lv_iload_n hx hb dX1_exchange_19 rfl (lv_at hl 1 rfl) ?_
  refine va_aldq hx hb hK.1 hP 1 1 rfl rfl hi dX1_exchange_20 ?_
  rw [clampk hk]
  have key : ∀ ls : Array Slot, lv_has ls 4 [(3, va_rf (ring k)), (0, .ref (η 0)), (1, .int (nI k)), (2, .ref d)] → ls[3]? = some (.val (va_rf (ring k))) := fun ls h => lv_at h 0 rfl
  have fin : ∀ ls : Array Slot, lv_has ls 4 [(3, va_rf (ring k)), (0, .ref (η 0)), (1, .int (nI k)), (2, .ref d)] → W p l e (headSpec wsX1_exchange (rmm 0 0)).room s m ([.ref (η 0), .int (nI k), .ref d] : List Value).toArray below meth c s.heap [] 0 0 (MQ below (QW G w0 ((hW G.2.2 η (va_up ring k (some d), o, n)) ++ [(d, .inr (0, fs))]) (some (va_rf (ring k)))) ([.ref (η 0), .int (nI k), .ref d] : List Value).toArray s 0 0 (inW w0)) (F0 m 22 ls []) := by
    intro ls hl
    refine lv_aload_n hx hb dX1_exchange_22 rfl (lv_at hl 1 rfl) ?_
    refine va_get (D := G.1) (ci := 1) (v := .ref (η 1)) (C := RX1) (T := TX1) (N := 3) hx hb hts hinX1 hown hK.1 hP 0 rfl rfl 0 (by decide) (hts (.fieldLink RX1 11 "GrooveTurns$History" "ring" "[LGrooveTurns$Disc;") (by decide +kernel)) (fun _ h9 => h9) rfl dX1_exchange_23 ?_
    refine lv_iload_n hx hb dX1_exchange_26 rfl (lv_at hl 2 rfl) ?_
    refine lv_aload_n hx hb dX1_exchange_27 rfl (lv_at hl 3 rfl) ?_
    refine va_astq (r := (RX0, TX0, 9)) hx hb hK.1 hP hD hS 1 1 2 0 rfl rfl rfl rfl hi dX1_exchange_28 (fun H locs hP hD hS => ?_)
    rw [clampk hk] at hP hD
    have hP : va_P G.1 vwCl ((hW G.2.2 η (va_up ring k (some d), o, n)) ++ [(d, .inr (0, fs))]) H := hP
    cases hq : ring k with
    | none =>
      rw [hq] at hl
      refine lv_aload_nN hx hb dX1_exchange_29 rfl (lv_at hl 0 rfl) ?_
      exact W.aret hx hb hr (Or.inl ⟨_, rfl⟩) (Or.inl rfl) (fun t ht hW => ⟨rfl, by rw [ht]; exact hP, hS.F ht⟩) hS.2.2 dX1_exchange_30
    | some a =>
      rw [hq] at hl
      refine lv_aload_n hx hb dX1_exchange_29 rfl (lv_at hl 0 rfl) ?_
      exact W.aret hx hb hr (Or.inl ⟨_, rfl⟩) (Or.inr ⟨_, rfl⟩) (fun t ht hW => ⟨rfl, by rw [ht]; exact hP, hS.F ht⟩) hS.2.2 dX1_exchange_30
  cases hq : ring k with
  | none =>
    rw [hq] at fin
    rw [show ((ring, o, n) : HS).1 k = none from hq]
    exact lv_astore_nN (lv' := [(3, .null), (0, .ref (η 0)), (1, .int (nI k)), (2, .ref d)]) hx hb dX1_exchange_21 rfl hl (by decide) rfl (fun ls hl => fin ls hl)
  | some a =>
    rw [hq] at fin
    rw [show ((ring, o, n) : HS).1 k = some a from hq]
    exact lv_astore_n (lv' := [(3, .ref a), (0, .ref (η 0)), (1, .int (nI k)), (2, .ref d)]) hx hb dX1_exchange_21 rfl hl (by decide) rfl (fun ls hl => fin ls hl)
theorem rf_or (x : Option Nat) : va_rf x = .null ∨ ∃ a, va_rf x = .ref a := by
  cases x with
  | none => exact Or.inl rfl
  | some a => exact Or.inr ⟨a, rfl⟩
theorem rem6 (a : Nat) (h : a < 100) : nI a - nI a / 6 * 6 = nI (a % 6) := pk_rem (a := a) (d := 6) (by omega) (by decide) (by decide)
theorem rem6a {o n : Nat} (h : o + n < 100) : (nI o + nI n) - (nI o + nI n) / 6 * 6 = nI ((o + n) % 6) := by rw [nI_add]; exact rem6 _ h
theorem lit1a (n : Nat) : nI n + 1 = nI (n + 1) := nI_1 n
set_option maxHeartbeats 4000000 in
set_option maxRecDepth 100000 in
theorem c_X1_keep (l : Launch) (G : GG) (η : Nat → Nat) (ring : Nat → Option Nat) (o n : Nat) (d : Nat) (fs : List Value) (ho : o < 6) (hn : n ≤ 6) : Wr G l yX1_keep wsX1_keep 1 30 [.ref (η 0), .ref d] ((hW G.2.2 η (ring, nI o, nI n)) ++ [(d, .inr (0, fs))]) (some (va_rf (ring ((o + n) % 6)))) ((hW G.2.2 η (va_up ring ((o + n) % 6) (some d), (if n < 6 then nI o else nI ((o + 1) % 6)), (if n < 6 then nI (n + 1) else nI n))) ++ [(d, .inr (0, fs))]) := by
  refine Met.ofW (cc := cX1_keep) (maxL := 3) (ret := (some (.object "GrooveTurns$Disc"))) (by decide) rfl ?_
  intro p e s m args below meth c s₁ B hml hv
  obtain ⟨rfl, hP, hK, hD0⟩ := hv
  have C0 : cA p s m meth c ([.ref (η 0), .ref d] : List Value).toArray cX1_keep 3 (some (.object "GrooveTurns$Disc")) wsX1_keep RX1 := ⟨B.exec, B.bytes, B.returns, hml, findClass_of_methodNamed B.named, atoms_spec (ws := wsX1_keep) B.pre, B.notSynchronized⟩
  obtain ⟨hx, hb, hr, hml, hown, hts, hlocks⟩ := id C0
  have hF : CallFix p m c cX1_keep 3 s _ wsX1_keep RX1 := ⟨hx, hb, hml, hown, hts⟩
  have hinX1 : ∀ w ∈ wsX10, w ∈ wsX1_keep := by decide +kernel
  obtain ⟨w0, hw0⟩ : ∃ w0 : va_W, w0 = ((hW G.2.2 η (ring, nI o, nI n)) ++ [(d, .inr (0, fs))]) := ⟨_, rfl⟩
  have hD : va_D (inW w0) ((hW G.2.2 η (ring, nI o, nI n)) ++ [(d, .inr (0, fs))]) := by rw [hw0]; exact inW.D hD0
  have hS : va_S (inW w0) s.heap s.heap [] := va_S.rf
  rw [show QW G ((hW G.2.2 η (ring, nI o, nI n)) ++ [(d, .inr (0, fs))]) = QW G w0 from by rw [hw0], show inW ((hW G.2.2 η (ring, nI o, nI n)) ++ [(d, .inr (0, fs))]) = inW w0 from by rw [hw0]]
  have hl := lv_entry ([.ref (η 0), .ref d]) (n := 3) (Nat.le_of_ble_eq_true rfl)
  rw [lg_entry_eq]
  generalize (lg_sl ([.ref (η 0), .ref d]) ++ List.replicate (3 - (lg_sl ([.ref (η 0), .ref d])).length) Slot.unset).toArray = ls at hl ⊢
  have hl : lv_has ls 3 [(0, .ref (η 0)), (1, .ref d)] := hl
  have hk6 : (o + n) % 6 < 6 := Nat.mod_lt _ (by decide)
  refine lv_aload_n hx hb dX1_keep_0 rfl (lv_at hl 0 rfl) ?_
  refine va_get (D := G.1) (ci := 1) (v := .int (nI o)) (C := RX1) (T := TX1) (N := 3) hx hb hts hinX1 hown hK.1 hP 0 rfl rfl 1 (by decide) (hts (.fieldLink RX1 17 "GrooveTurns$History" "oldest" "I") (by decide +kernel)) (fun _ h9 => h9) rfl dX1_keep_1 ?_
  refine lv_aload_n hx hb dX1_keep_4 rfl (lv_at hl 0 rfl) ?_
  refine va_get (D := G.1) (ci := 1) (v := .int (nI n)) (C := RX1) (T := TX1) (N := 3) hx hb hts hinX1 hown hK.1 hP 0 rfl rfl 2 (by decide) (hts (.fieldLink RX1 21 "GrooveTurns$History" "size" "I") (by decide +kernel)) (fun _ h9 => h9) rfl dX1_keep_5 ?_
  refine lv_iadd hx hb dX1_keep_8 ?_
  refine lv_bipush (v := 6) hx hb dX1_keep_9 (by decide) ?_
  refine lv_irem hx hb dX1_keep_11 (by decide) ?_
  rw [rem6a (by omega)]
  refine lv_istore_n (lv' := [(2, .int (nI ((o + n) % 6))), (0, .ref (η 0)), (1, .ref d)]) hx hb dX1_keep_12 rfl hl (by decide) rfl (fun ls hl => ?_)
  refine lv_aload_n hx hb dX1_keep_13 rfl (lv_at hl 1 rfl) ?_
  refine va_get (D := G.1) (ci := 1) (v := .int (nI n)) (C := RX1) (T := TX1) (N := 3) hx hb hts hinX1 hown hK.1 hP 0 rfl rfl 2 (by decide) (hts (.fieldLink RX1 21 "GrooveTurns$History" "size" "I") (by decide +kernel)) (fun _ h9 => h9) rfl dX1_keep_14 ?_
  refine lv_bipush (v := 6) hx hb dX1_keep_17 (by decide) ?_
  refine lv_icmp_ge (tgt := 35) hx hb dX1_keep_19 (by decide) (fun c_1 => ?_) (fun c_1 => ?_)
  · have hlt : ¬ n < 6 := fun h => absurd (six_lt h) (Int32.not_lt.mpr c_1)
    rw [if_neg hlt, if_neg hlt]
    refine lv_aload_n hx hb dX1_keep_35 rfl (lv_at hl 1 rfl) ?_
    refine lv_aload_n hx hb dX1_keep_36 rfl (lv_at hl 1 rfl) ?_
    refine va_get (D := G.1) (ci := 1) (v := .int (nI o)) (C := RX1) (T := TX1) (N := 3) hx hb hts hinX1 hown hK.1 hP 0 rfl rfl 1 (by decide) (hts (.fieldLink RX1 17 "GrooveTurns$History" "oldest" "I") (by decide +kernel)) (fun _ h9 => h9) rfl dX1_keep_37 ?_
    refine lv_iconst (v := 1) hx hb dX1_keep_40 (by decide) ?_
    refine lv_iadd hx hb dX1_keep_41 ?_
    refine lv_bipush (v := 6) hx hb dX1_keep_42 (by decide) ?_
    refine lv_irem hx hb dX1_keep_44 (by decide) ?_
    rw [lit1a, rem6 _ (by omega)]
    refine va_put (D := G.1) (ci := 1) (v := .int (nI ((o + 1) % 6))) (ty := .int) (C := RX1) (T := TX1) (N := 3) hx hb hts hinX1 tyX1 tyX1_ok nmX1 hown hK.1 hP hD hS 0 rfl rfl 1 (by decide) (hts (.fieldLink RX1 17 "GrooveTurns$History" "oldest" "I") (by decide +kernel)) (fun _ h9 => h9) rfl (by decide +kernel) rfl rfl (Nat.le_of_ble_eq_true rfl) dX1_keep_45 (fun H locs hP hD hS => ?_)
    have hP : va_P G.1 vwCl ((hW G.2.2 η (ring, nI ((o + 1) % 6), nI n)) ++ [(d, .inr (0, fs))]) H := hP
    have hD : va_D (inW w0) ((hW G.2.2 η (ring, nI ((o + 1) % 6), nI n)) ++ [(d, .inr (0, fs))]) := hD
    refine lv_aload_n hx hb dX1_keep_48 rfl (lv_at hl 1 rfl) ?_
    refine lv_iload_n hx hb dX1_keep_49 rfl (lv_at hl 0 rfl) ?_
    refine lv_aload_n hx hb dX1_keep_50 rfl (lv_at hl 2 rfl) ?_
    refine wrV0 (As := [.int (nI ((o + n) % 6)), .ref d]) (rest := []) (c_X1_exchange l G η ring (nI ((o + 1) % 6)) (nI n) d fs ((o + n) % 6) (hk6)) hF (cwV 2 hts gX1_keep_X1_exchange rfl rfl rfl (by decide +kernel) ⟨Nat.le_of_ble_eq_true rfl, Nat.le_of_ble_eq_true rfl⟩) (va_recv hK.1 hP (ci := 1) (q0 := 0) rfl rfl) hK hP hD hS (fst_app (fst_H _ _) rfl) rfl hl.1 rfl (Nat.le_of_ble_eq_true rfl) dX1_keep_51 ⟨Nat.zero_le _, Nat.zero_le _⟩ (fun H locs hP hD hS => ?_)
    exact W.aret hx hb hr (Or.inl ⟨_, rfl⟩) (rf_or _) (fun t ht hW => ⟨rfl, by rw [ht]; exact hP, hS.F ht⟩) hS.2.2 dX1_keep_54
  · have hlt : n < 6 := by
      rcases Nat.lt_or_ge n 6 with h | h
      · exact h
      · exact absurd (show (6 : Int32) ≤ nI n from (nI_leI (a := 6) (by decide) (by omega)).mpr h) c_1
    rw [if_pos hlt, if_pos hlt]
    refine lv_aload_n hx hb dX1_keep_22 rfl (lv_at hl 1 rfl) ?_
    refine lv_dup hx hb dX1_keep_23 rfl ?_
    refine va_get (D := G.1) (ci := 1) (v := .int (nI n)) (C := RX1) (T := TX1) (N := 3) hx hb hts hinX1 hown hK.1 hP 0 rfl rfl 2 (by decide) (hts (.fieldLink RX1 21 "GrooveTurns$History" "size" "I") (by decide +kernel)) (fun _ h9 => h9) rfl dX1_keep_24 ?_
    refine lv_iconst (v := 1) hx hb dX1_keep_27 (by decide) ?_
    refine lv_iadd hx hb dX1_keep_28 ?_
    rw [lit1a]
    refine va_put (D := G.1) (ci := 1) (v := .int (nI (n + 1))) (ty := .int) (C := RX1) (T := TX1) (N := 3) hx hb hts hinX1 tyX1 tyX1_ok nmX1 hown hK.1 hP hD hS 0 rfl rfl 2 (by decide) (hts (.fieldLink RX1 21 "GrooveTurns$History" "size" "I") (by decide +kernel)) (fun _ h9 => h9) rfl (by decide +kernel) rfl rfl (Nat.le_of_ble_eq_true rfl) dX1_keep_29 (fun H locs hP hD hS => ?_)
    have hP : va_P G.1 vwCl ((hW G.2.2 η (ring, nI o, nI (n + 1))) ++ [(d, .inr (0, fs))]) H := hP
    have hD : va_D (inW w0) ((hW G.2.2 η (ring, nI o, nI (n + 1))) ++ [(d, .inr (0, fs))]) := hD
    refine lv_goto (tgt := 48) hx hb dX1_keep_32 (by decide) ?_
    refine lv_aload_n hx hb dX1_keep_48 rfl (lv_at hl 1 rfl) ?_
    refine lv_iload_n hx hb dX1_keep_49 rfl (lv_at hl 0 rfl) ?_
    refine lv_aload_n hx hb dX1_keep_50 rfl (lv_at hl 2 rfl) ?_
    refine wrV0 (As := [.int (nI ((o + n) % 6)), .ref d]) (rest := []) (c_X1_exchange l G η ring (nI o) (nI (n + 1)) d fs ((o + n) % 6) (hk6)) hF (cwV 2 hts gX1_keep_X1_exchange rfl rfl rfl (by decide +kernel) ⟨Nat.le_of_ble_eq_true rfl, Nat.le_of_ble_eq_true rfl⟩) (va_recv hK.1 hP (ci := 1) (q0 := 0) rfl rfl) hK hP hD hS (fst_app (fst_H _ _) rfl) rfl hl.1 rfl (Nat.le_of_ble_eq_true rfl) dX1_keep_51 ⟨Nat.zero_le _, Nat.zero_le _⟩ (fun H locs hP hD hS => ?_)
    exact W.aret hx hb hr (Or.inl ⟨_, rfl⟩) (rf_or _) (fun t ht hW => ⟨rfl, by rw [ht]; exact hP, hS.F ht⟩) hS.2.2 dX1_keep_54
theorem nopred (k : Nat) : nI (k + 1) - 1 = nI k := nI_pred k
