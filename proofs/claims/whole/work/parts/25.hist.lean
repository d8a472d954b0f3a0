/-! the history: a ring of discs -/
theorem fst_H {c : ClassId} {α : Nat → Nat} (σ τ : HS) : (hW c α τ).map (·.1) = (hW c α σ).map (·.1) := rfl
theorem six_lt {k : Nat} (hk : k < 6) : nI k < 6 := (nI_ltI (b := 6) (by omega) (by decide)).mpr hk
theorem clampk {k : Nat} (hk : k < 6) : (nI k).toNatClampNeg = k := nI_clamp (by omega)
set_option maxHeartbeats 4000000 in
set_option maxRecDepth 100000 in
theorem c_X1_exchange (l : Launch) (G : GG) (η : Nat → Nat) (ring : Nat → Option Nat) (o n : Int32) (d : Nat) (fs : List Value) (k : Nat) (hk : k < 6) : Wr G l yX1_exchange wsX1_exchange 0 0 [.ref (η 0), .int (nI k), .ref d] ((hW G.2.2 η (ring, o, n)) ++ [(d, .inr (0, fs))]) (some (va_rf (ring k))) ((hW G.2.2 η (va_up ring k (some d), o, n)) ++ [(d, .inr (0, fs))]) := by
  refine Met.ofW (cc := cX1_exchange) (maxL := 4) (ret := (some (.object "GrooveTurns$Disc"))) (by decide) rfl ?_
  intro p e s m args below meth c s₁ B hml hv
  obtain ⟨rfl, hP, hK, hD0⟩ := hv
  have C0 : cA p s m meth c ([.ref (η 0), .int (nI k), .ref d] : List Value).toArray cX1_exchange 4 (some (.object "GrooveTurns$Disc")) wsX1_exchange RX1 := ⟨B.exec, B.bytes, B.returns, hml, findClass_of_methodNamed B.named, atoms_spec (ws := wsX1_exchange) B.pre, B.notSynchronized⟩
  obtain ⟨hx, hb, hr, hml, hown, hts, hlocks⟩ := id C0
  have hinX1 : ∀ w ∈ wsX10, w ∈ wsX1_exchange := by decide +kernel
  obtain ⟨w0, hw0⟩ : ∃ w0 : va_W, w0 = ((hW G.2.2 η (ring, o, n)) ++ [(d, .inr (0, fs))]) := ⟨_, rfl⟩
  have hD : va_D (inW w0) ((hW G.2.2 η (ring, o, n)) ++ [(d, .inr (0, fs))]) := by rw [hw0]; exact inW.D hD0
  have hS : va_S (inW w0) s.heap s.heap [] := va_S.rf
  rw [show QW G ((hW G.2.2 η (ring, o, n)) ++ [(d, .inr (0, fs))]) = QW G w0 from by rw [hw0], show inW ((hW G.2.2 η (ring, o, n)) ++ [(d, .inr (0, fs))]) = inW w0 from by rw [hw0]]
  have hl := lv_entry ([.ref (η 0), .int (nI k), .ref d]) (n := 4) (Nat.le_of_ble_eq_true rfl)
  rw [lg_entry_eq]
  generalize (lg_sl ([.ref (η 0), .int (nI k), .ref d]) ++ List.replicate (4 - (lg_sl ([.ref (η 0), .int (nI k), .ref d])).length) Slot.unset).toArray = ls at hl ⊢
  have hl : lv_has ls 4 [(0, .ref (η 0)), (1, .int (nI k)), (2, .ref d)] := hl
  have hi : vp_in (nI k) 6 := vp_in_nI hk (by decide)
  refine lv_iload_n hx hb dX1_exchange_0 rfl (lv_at hl 1 rfl) ?_
  refine lv_if_lt (tgt := 13) hx hb dX1_exchange_1 (by decide) (fun c_1 => absurd c_1 (nI_pos (by omega))) (fun c_1 => ?_)
  refine lv_iload_n hx hb dX1_exchange_4 rfl (lv_at hl 1 rfl) ?_
  refine lv_aload_n hx hb dX1_exchange_5 rfl (lv_at hl 0 rfl) ?_
  refine va_get (D := G.1) (ci := 1) (v := .ref (η 1)) (C := RX1) (T := TX1) (N := 3) hx hb hts hinX1 hown hK.1 hP 0 rfl rfl 0 (by decide) (hts (.fieldLink RX1 11 "GrooveTurns$History" "ring" "[LGrooveTurns$Disc;") (by decide +kernel)) (fun _ h9 => h9) rfl dX1_exchange_6 ?_
  refine va_alen (v := 6) hx hb hK.1 hP 1 1 rfl rfl rfl dX1_exchange_9 ?_
  refine lv_icmp_lt (tgt := 15) hx hb dX1_exchange_10 (by decide) (fun c_2 => ?_) (fun c_2 => absurd (six_lt hk) c_2)
  refine lv_aload_n hx hb dX1_exchange_15 rfl (lv_at hl 0 rfl) ?_
  refine va_get (D := G.1) (ci := 1) (v := .ref (η 1)) (C := RX1) (T := TX1) (N := 3) hx hb hts hinX1 hown hK.1 hP 0 rfl rfl 0 (by decide) (hts (.fieldLink RX1 11 "GrooveTurns$History" "ring" "[LGrooveTurns$Disc;") (by decide +kernel)) (fun _ h9 => h9) rfl dX1_exchange_16 ?_
  refine lv_iload_n hx hb dX1_exchange_19 rfl (lv_at hl 1 rfl) ?_
  refine va_aldq hx hb hK.1 hP 1 1 rfl rfl hi dX1_exchange_20 ?_
  rw [clampk hk]
  have key : ∀ ls : Array Slot, lv_has ls 4 [(3, va_rf (ring k)), (0, .ref (η 0)), (1, .int (nI k)), (2, .ref d)] → ls[3]? = some (.val (va_rf (ring k))) := fun ls h => lv_at h 0 rfl
  have fin : ∀ ls : Array Slot, lv_has ls 4 [(3, va_rf (ring k)), (0, .ref (η 0)), (1, .int (nI k)), (2, .ref d)] → W p l e (headSpec wsX1_exchange (rmm 0 0)).room s m ([.ref (η 0), .int (nI k), .ref d] : List Value).toArray below meth c s.heap [] 0 0 (MQ below (QW G w0 ((hW G.2.2 η (va_up ring k (some d), o, n)) ++ [(d, .inr (0, fs))]) (some (va_rf (ring k)))) ([.ref (η 0), .int (nI k), .ref d] : List Value).toArray s 0 0 (inW w0)) (F0 m 22 ls []) := by
    intro ls hl
    refine lv_aload_n hx hb dX1_exchange_22 rfl (lv_at hl 1 rfl) ?_
    refine va_get (D := G.1) (ci := 1) (v := .ref (η 1)) (C := RX1) (T := TX1) (N := 3) hx hb hts hinX1 hown hK.1 hP 0 rfl rfl 0 (by decide) (hts (.fieldLink RX1 11 "GrooveTurns$History" "ring" "[LGrooveTurns$Disc;") (by decide +kernel)) (fun _ h9 => h9) rfl dX1_exchange_23 ?_
    refine lv_iload_n hx hb dX1_exchange_26 rfl (lv_at hl 2 rfl) ?_
    refine lv_aload_n hx hb dX1_exchange_27 rfl (lv_at hl 3 rfl) ?_
    refine va_astq (r := (RX0, TX0, 9)) hx hb hK.1 hP hD hS 1 1 2 0 rfl rfl rfl rfl hi dX1_exchange_28 (fun H locs hP hD hS => ?_)
    rw [clampk hk] at hP hD
    have hP : va_P G.1 vwCl ((hW G.2.2 η (va_up ring k (some d), o, n)) ++ [(d, .inr (0, fs))]) H := hP
    cases hq : ring k with
    | none =>
      rw [hq] at hl
      refine lv_aload_nN hx hb dX1_exchange_29 rfl (lv_at hl 0 rfl) ?_
      exact W.aret hx hb hr (Or.inl ⟨_, rfl⟩) (Or.inl rfl) (fun t ht hW => ⟨rfl, by rw [ht]; exact hP, hS.F ht⟩) hS.2.2 dX1_exchange_30
    | some a =>
      rw [hq] at hl
      refine lv_aload_n hx hb dX1_exchange_29 rfl (lv_at hl 0 rfl) ?_
      exact W.aret hx hb hr (Or.inl ⟨_, rfl⟩) (Or.inr ⟨_, rfl⟩) (fun t ht hW => ⟨rfl, by rw [ht]; exact hP, hS.F ht⟩) hS.2.2 dX1_exchange_30
  cases hq : ring k with
  | none =>
    rw [hq] at fin
    rw [show ((ring, o, n) : HS).1 k = none from hq]
    exact lv_astore_nN (lv' := [(3, .null), (0, .ref (η 0)), (1, .int (nI k)), (2, .ref d)]) hx hb dX1_exchange_21 rfl hl (by decide) rfl (fun ls hl => fin ls hl)
  | some a =>
    rw [hq] at fin
    rw [show ((ring, o, n) : HS).1 k = some a from hq]
    exact lv_astore_n (lv' := [(3, .ref a), (0, .ref (η 0)), (1, .int (nI k)), (2, .ref d)]) hx hb dX1_exchange_21 rfl hl (by decide) rfl (fun ls hl => fin ls hl)
