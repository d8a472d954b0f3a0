/-! the slots; the constructor, undo, save, restore -/
abbrev sW (cR : ClassId) (ς : Nat) (sl : Nat → Option Nat) : va_W := [(ς, .inl (cR, 2, .inr (.inr (.inr (.inr sl)))))]
theorem two_lt {k : Nat} (hk : k < 2) : nI k < 2 := (nI_ltI (b := 2) (by omega) (by decide)).mpr hk
theorem pm4_32 (g s a b : va_W) : (g ++ (s ++ (a ++ b))).Perm ((b ++ a) ++ (g ++ s)) := by
  haveI : DecidableEq (Nat × va_E) := fun _ _ => Classical.propDecidable _
  exact List.perm_iff_count.mpr (fun a => by simp only [List.count_append]; omega)
theorem pm6_r (g h s a b c : va_W) : (g ++ (h ++ (s ++ (a ++ (b ++ c))))).Perm ((b ++ c) ++ (g ++ (h ++ (s ++ a)))) := by
  haveI : DecidableEq (Nat × va_E) := fun _ _ => Classical.propDecidable _
  exact List.perm_iff_count.mpr (fun a => by simp only [List.count_append]; omega)
theorem pmR (g h s c r b z : va_W) : (g ++ (h ++ (s ++ ((c ++ r) ++ (b ++ z))))).Perm ((s ++ (r ++ (b ++ z))) ++ (g ++ (h ++ c))) := by
  haveI : DecidableEq (Nat × va_E) := fun _ _ => Classical.propDecidable _
  exact List.perm_iff_count.mpr (fun a => by simp only [List.count_append]; omega)
theorem pmRX (s c r b z : va_W) : ((s ++ (r ++ (b ++ z))) ++ c).Perm (s ++ ((c ++ r) ++ (b ++ z))) := by
  haveI : DecidableEq (Nat × va_E) := fun _ _ => Classical.propDecidable _
  exact List.perm_iff_count.mpr (fun a => by simp only [List.count_append]; omega)
set_option maxHeartbeats 4000000 in
set_option maxRecDepth 100000 in
theorem c_X4_save_bad (l : Launch) (G : GG) (γ : Nat) (d t pd rq hi ς : Nat) (sl : Nat → Option Nat) (k : Int32) (hk : k < 0 ∨ 2 ≤ k) : Rd G l yX4_save wsX4_save 0 0 [.ref γ, .int k] (gW γ d t pd rq hi ς ++ sW G.2.2 ς sl) (.int (-2)) := by
  refine Met.ofW (cc := cX4_save) (maxL := 3) (ret := (some .int)) (by decide) rfl ?_
  intro p e s m args below meth c s₁ B hml hv
  obtain ⟨rfl, hP, hK⟩ := hv
  have C0 : cA p s m meth c ([.ref γ, .int k] : List Value).toArray cX4_save 3 (some .int) wsX4_save RX4 := ⟨B.exec, B.bytes, B.returns, hml, findClass_of_methodNamed B.named, atoms_spec (ws := wsX4_save) B.pre, B.notSynchronized⟩
  obtain ⟨hx, hb, hr, hml, hown, hts, hlocks⟩ := id C0
  have hF : CallFix p m c cX4_save 3 s _ wsX4_save RX4 := ⟨hx, hb, hml, hown, hts⟩
  have hinX4 : ∀ w ∈ wsX40, w ∈ wsX4_save := by decide +kernel
  have hl := lv_entry ([.ref γ, .int k]) (n := 3) (Nat.le_of_ble_eq_true rfl)
  rw [lg_entry_eq]
  generalize (lg_sl ([.ref γ, .int k]) ++ List.replicate (3 - (lg_sl ([.ref γ, .int k])).length) Slot.unset).toArray = ls at hl ⊢
  have hl : lv_has ls 3 [(0, .ref γ), (1, .int k)] := hl
  refine lv_iload_n hx hb dX4_save_0 rfl (lv_at hl 1 rfl) ?_
  refine lv_if_lt (tgt := 13) hx hb dX4_save_1 (by decide) (fun (c_1 : k < 0) => ?_) (fun (c_1 : ¬ k < 0) => ?_)
  · skip
    refine lv_bipush (v := (-2)) hx hb dX4_save_13 (by decide) ?_
    exact W.iret hx hb hr (fun t ht hW => ⟨rfl, ht⟩) (fun _ h => nomatch h) dX4_save_15
  · skip
    refine lv_iload_n hx hb dX4_save_4 rfl (lv_at hl 1 rfl) ?_
    refine lv_aload_n hx hb dX4_save_5 rfl (lv_at hl 0 rfl) ?_
    refine va_get (D := G.1) (ci := 4) (v := .ref ς) (C := RX4) (T := TX4) (N := 6) hx hb hts hinX4 hown hK.1 hP 0 rfl rfl 5 (by decide) (hts (.fieldLink RX4 40 "GrooveTurns" "slots" "[LGrooveTurns$Disc;") (by decide +kernel)) (fun _ h9 => h9) rfl dX4_save_6 ?_
    refine va_alen (v := 2) hx hb hK.1 hP 1 1 rfl rfl rfl dX4_save_9 ?_
    refine lv_icmp_lt (tgt := 16) hx hb dX4_save_10 (by decide) (fun (c_2 : k < 2) => absurd c_2 (Int32.not_lt.mpr (hk.resolve_left c_1))) (fun (c_2 : ¬ k < 2) => ?_)
    refine lv_bipush (v := (-2)) hx hb dX4_save_13 (by decide) ?_
    exact W.iret hx hb hr (fun t ht hW => ⟨rfl, ht⟩) (fun _ h => nomatch h) dX4_save_15
set_option maxHeartbeats 4000000 in
set_option maxRecDepth 100000 in
theorem c_X4_restore_bad (l : Launch) (G : GG) (γ : Nat) (d t pd rq hi ς : Nat) (sl : Nat → Option Nat) (k : Int32) (hk : k < 0 ∨ 2 ≤ k) : Rd G l yX4_restore wsX4_restore 0 0 [.ref γ, .int k] (gW γ d t pd rq hi ς ++ sW G.2.2 ς sl) (.int (-2)) := by
  refine Met.ofW (cc := cX4_restore) (maxL := 3) (ret := (some .int)) (by decide) rfl ?_
  intro p e s m args below meth c s₁ B hml hv
  obtain ⟨rfl, hP, hK⟩ := hv
  have C0 : cA p s m meth c ([.ref γ, .int k] : List Value).toArray cX4_restore 3 (some .int) wsX4_restore RX4 := ⟨B.exec, B.bytes, B.returns, hml, findClass_of_methodNamed B.named, atoms_spec (ws := wsX4_restore) B.pre, B.notSynchronized⟩
  obtain ⟨hx, hb, hr, hml, hown, hts, hlocks⟩ := id C0
  have hF : CallFix p m c cX4_restore 3 s _ wsX4_restore RX4 := ⟨hx, hb, hml, hown, hts⟩
  have hinX4 : ∀ w ∈ wsX40, w ∈ wsX4_restore := by decide +kernel
  have hl := lv_entry ([.ref γ, .int k]) (n := 3) (Nat.le_of_ble_eq_true rfl)
  rw [lg_entry_eq]
  generalize (lg_sl ([.ref γ, .int k]) ++ List.replicate (3 - (lg_sl ([.ref γ, .int k])).length) Slot.unset).toArray = ls at hl ⊢
  have hl : lv_has ls 3 [(0, .ref γ), (1, .int k)] := hl
  refine lv_iload_n hx hb dX4_restore_0 rfl (lv_at hl 1 rfl) ?_
  refine lv_if_lt (tgt := 13) hx hb dX4_restore_1 (by decide) (fun (c_1 : k < 0) => ?_) (fun (c_1 : ¬ k < 0) => ?_)
  · skip
    refine lv_bipush (v := (-2)) hx hb dX4_restore_13 (by decide) ?_
    exact W.iret hx hb hr (fun t ht hW => ⟨rfl, ht⟩) (fun _ h => nomatch h) dX4_restore_15
  · skip
    refine lv_iload_n hx hb dX4_restore_4 rfl (lv_at hl 1 rfl) ?_
    refine lv_aload_n hx hb dX4_restore_5 rfl (lv_at hl 0 rfl) ?_
    refine va_get (D := G.1) (ci := 4) (v := .ref ς) (C := RX4) (T := TX4) (N := 6) hx hb hts hinX4 hown hK.1 hP 0 rfl rfl 5 (by decide) (hts (.fieldLink RX4 40 "GrooveTurns" "slots" "[LGrooveTurns$Disc;") (by decide +kernel)) (fun _ h9 => h9) rfl dX4_restore_6 ?_
    refine va_alen (v := 2) hx hb hK.1 hP 1 1 rfl rfl rfl dX4_restore_9 ?_
    refine lv_icmp_lt (tgt := 16) hx hb dX4_restore_10 (by decide) (fun (c_2 : k < 2) => absurd c_2 (Int32.not_lt.mpr (hk.resolve_left c_1))) (fun (c_2 : ¬ k < 2) => ?_)
    refine lv_bipush (v := (-2)) hx hb dX4_restore_13 (by decide) ?_
    exact W.iret hx hb hr (fun t ht hW => ⟨rfl, ht⟩) (fun _ h => nomatch h) dX4_restore_15
set_option maxHeartbeats 4000000 in
set_option maxRecDepth 100000 in
theorem c_X4_restore_none (l : Launch) (G : GG) (γ : Nat) (d t pd rq hi ς : Nat) (sl : Nat → Option Nat) (k : Nat) (hk : k < 2) (hq : sl k = none) : Rd G l yX4_restore wsX4_restore 0 0 [.ref γ, .int (nI k)] (gW γ d t pd rq hi ς ++ sW G.2.2 ς sl) (.int (-5)) := by
  refine Met.ofW (cc := cX4_restore) (maxL := 3) (ret := (some .int)) (by decide) rfl ?_
  intro p e s m args below meth c s₁ B hml hv
  obtain ⟨rfl, hP, hK⟩ := hv
  have C0 : cA p s m meth c ([.ref γ, .int (nI k)] : List Value).toArray cX4_restore 3 (some .int) wsX4_restore RX4 := ⟨B.exec, B.bytes, B.returns, hml, findClass_of_methodNamed B.named, atoms_spec (ws := wsX4_restore) B.pre, B.notSynchronized⟩
  obtain ⟨hx, hb, hr, hml, hown, hts, hlocks⟩ := id C0
  have hF : CallFix p m c cX4_restore 3 s _ wsX4_restore RX4 := ⟨hx, hb, hml, hown, hts⟩
  have hinX4 : ∀ w ∈ wsX40, w ∈ wsX4_restore := by decide +kernel
  have hl := lv_entry ([.ref γ, .int (nI k)]) (n := 3) (Nat.le_of_ble_eq_true rfl)
  rw [lg_entry_eq]
  generalize (lg_sl ([.ref γ, .int (nI k)]) ++ List.replicate (3 - (lg_sl ([.ref γ, .int (nI k)])).length) Slot.unset).toArray = ls at hl ⊢
  have hl : lv_has ls 3 [(0, .ref γ), (1, .int (nI k))] := hl
  refine lv_iload_n hx hb dX4_restore_0 rfl (lv_at hl 1 rfl) ?_
  refine lv_if_lt (tgt := 13) hx hb dX4_restore_1 (by decide) (fun c_1 => absurd c_1 (nI_pos (by omega))) (fun c_1 => ?_)
  refine lv_iload_n hx hb dX4_restore_4 rfl (lv_at hl 1 rfl) ?_
  refine lv_aload_n hx hb dX4_restore_5 rfl (lv_at hl 0 rfl) ?_
  refine va_get (D := G.1) (ci := 4) (v := .ref ς) (C := RX4) (T := TX4) (N := 6) hx hb hts hinX4 hown hK.1 hP 0 rfl rfl 5 (by decide) (hts (.fieldLink RX4 40 "GrooveTurns" "slots" "[LGrooveTurns$Disc;") (by decide +kernel)) (fun _ h9 => h9) rfl dX4_restore_6 ?_
  refine va_alen (v := 2) hx hb hK.1 hP 1 1 rfl rfl rfl dX4_restore_9 ?_
  refine lv_icmp_lt (tgt := 16) hx hb dX4_restore_10 (by decide) (fun c_2 => ?_) (fun c_2 => absurd (two_lt hk) c_2)
  refine lv_aload_n hx hb dX4_restore_16 rfl (lv_at hl 0 rfl) ?_
  refine va_get (D := G.1) (ci := 4) (v := .ref ς) (C := RX4) (T := TX4) (N := 6) hx hb hts hinX4 hown hK.1 hP 0 rfl rfl 5 (by decide) (hts (.fieldLink RX4 40 "GrooveTurns" "slots" "[LGrooveTurns$Disc;") (by decide +kernel)) (fun _ h9 => h9) rfl dX4_restore_17 ?_
  refine lv_iload_n hx hb dX4_restore_20 rfl (lv_at hl 1 rfl) ?_
  refine va_aldq hx hb hK.1 hP 1 1 rfl rfl (vp_in_nI hk (by decide)) dX4_restore_21 ?_
  rw [clampk (show k < 6 by omega), hq]
  refine lv_astore_nN (lv' := [(2, .null), (0, .ref γ), (1, .int (nI k))]) hx hb dX4_restore_22 rfl hl (by decide) rfl (fun ls hl => ?_)
  refine lv_aload_nN hx hb dX4_restore_23 rfl (lv_at hl 0 rfl) ?_
  refine lv_ifnonnullN hx hb dX4_restore_24 ?_
  refine lv_bipush (v := (-5)) hx hb dX4_restore_27 (by decide) ?_
  exact W.iret hx hb hr (fun t ht hW => ⟨rfl, ht⟩) (fun _ h => nomatch h) dX4_restore_29
set_option maxHeartbeats 4000000 in
set_option maxRecDepth 100000 in
theorem c_X4_restore (l : Launch) (G : GG) (γ : Nat) (α β δ η : Nat → Nat) (pd rq ς : Nat) (sl : Nat → Option Nat) (σ τ υ : DS) (ring : Nat → Option Nat) (o n : Nat) (k : Nat) (tb : Nat × Nat × Nat) (ho : o < 6) (hn : n ≤ 6) (hin0 : ok_X0_init (d_st' dPre firstS)) (hk : k < 2) (hq : sl k = some (δ 0)) (hf : ok_X0_filledOn (s_X0_becomeLike τ υ) 0 16) : Nw G l yX4_restore wsX4_restore 5 133 6 818 [.ref γ, .int (nI k)] (gW γ (α 0) (β 0) pd rq (η 0) ς ++ (hW G.2.2 η (ring, nI o, nI n) ++ (sW G.2.2 ς sl ++ (dW G.2.1 α σ ++ (dW G.2.1 β (τ) ++ dW G.2.1 δ υ))))) (sT tb) (some (.int (s_X0_filledOn (s_X0_becomeLike τ υ) 0 16))) (AP G γ η ring o n (α 0) (β 0) pd rq ς (sW G.2.2 ς sl ++ (dW G.2.1 α σ ++ (dW G.2.1 β (s_X0_becomeLike τ υ) ++ dW G.2.1 δ υ))) (s_X0_filledOn (s_X0_becomeLike τ υ) 0 16)) := by
  intro sz
  refine Met.ofW (cc := cX4_restore) (maxL := 3) (ret := (some .int)) (by decide) rfl ?_
  intro p e s m args below meth c s₁ B hml hv
  obtain ⟨rfl, hsz, hP, hK, hD0, hT⟩ := hv
  have C0 : cA p s m meth c ([.ref γ, .int (nI k)] : List Value).toArray cX4_restore 3 (some .int) wsX4_restore RX4 := ⟨B.exec, B.bytes, B.returns, hml, findClass_of_methodNamed B.named, atoms_spec (ws := wsX4_restore) B.pre, B.notSynchronized⟩
  obtain ⟨hx, hb, hr, hml, hown, hts, hlocks⟩ := id C0
  have hF : CallFix p m c cX4_restore 3 s _ wsX4_restore RX4 := ⟨hx, hb, hml, hown, hts⟩
  have hinX4 : ∀ w ∈ wsX40, w ∈ wsX4_restore := by decide +kernel
  subst hsz
  obtain ⟨w0, hw0⟩ : ∃ w0 : va_W, w0 = gW γ (α 0) (β 0) pd rq (η 0) ς ++ (hW G.2.2 η (ring, nI o, nI n) ++ (sW G.2.2 ς sl ++ (dW G.2.1 α σ ++ (dW G.2.1 β (τ) ++ dW G.2.1 δ υ)))) := ⟨_, rfl⟩
  have hD : va_D (va_A w0 s.heap.size) (gW γ (α 0) (β 0) pd rq (η 0) ς ++ (hW G.2.2 η (ring, nI o, nI n) ++ (sW G.2.2 ς sl ++ (dW G.2.1 α σ ++ (dW G.2.1 β (τ) ++ dW G.2.1 δ υ))))) := by rw [hw0]; exact hD0.self
  have hA : ∀ q : Nat, s.heap.size ≤ q → va_A w0 s.heap.size q := fun q h => Or.inr h
  rw [← hw0] at hT
  rw [show QN G (gW γ (α 0) (β 0) pd rq (η 0) ς ++ (hW G.2.2 η (ring, nI o, nI n) ++ (sW G.2.2 ς sl ++ (dW G.2.1 α σ ++ (dW G.2.1 β (τ) ++ dW G.2.1 δ υ))))) = QN G w0 from by rw [hw0], show va_A (gW γ (α 0) (β 0) pd rq (η 0) ς ++ (hW G.2.2 η (ring, nI o, nI n) ++ (sW G.2.2 ς sl ++ (dW G.2.1 α σ ++ (dW G.2.1 β (τ) ++ dW G.2.1 δ υ))))) s.heap.size = va_A w0 s.heap.size from by rw [hw0]]
  have hS : va_S (va_A w0 s.heap.size) s.heap s.heap [] := va_S.rf
  have hl := lv_entry ([.ref γ, .int (nI k)]) (n := 3) (Nat.le_of_ble_eq_true rfl)
  rw [lg_entry_eq]
  generalize (lg_sl ([.ref γ, .int (nI k)]) ++ List.replicate (3 - (lg_sl ([.ref γ, .int (nI k)])).length) Slot.unset).toArray = ls at hl ⊢
  have hl : lv_has ls 3 [(0, .ref γ), (1, .int (nI k))] := hl
  refine lv_iload_n hx hb dX4_restore_0 rfl (lv_at hl 1 rfl) ?_
  refine lv_if_lt (tgt := 13) hx hb dX4_restore_1 (by decide) (fun c_1 => absurd c_1 (nI_pos (by omega))) (fun c_1 => ?_)
  refine lv_iload_n hx hb dX4_restore_4 rfl (lv_at hl 1 rfl) ?_
  refine lv_aload_n hx hb dX4_restore_5 rfl (lv_at hl 0 rfl) ?_
  refine va_get (D := G.1) (ci := 4) (v := .ref ς) (C := RX4) (T := TX4) (N := 6) hx hb hts hinX4 hown hK.1 hP 0 rfl rfl 5 (by decide) (hts (.fieldLink RX4 40 "GrooveTurns" "slots" "[LGrooveTurns$Disc;") (by decide +kernel)) (fun _ h9 => h9) rfl dX4_restore_6 ?_
  refine va_alen (v := 2) hx hb hK.1 hP 3 1 rfl rfl rfl dX4_restore_9 ?_
  refine lv_icmp_lt (tgt := 16) hx hb dX4_restore_10 (by decide) (fun c_2 => ?_) (fun c_2 => absurd (two_lt hk) c_2)
  refine lv_aload_n hx hb dX4_restore_16 rfl (lv_at hl 0 rfl) ?_
  refine va_get (D := G.1) (ci := 4) (v := .ref ς) (C := RX4) (T := TX4) (N := 6) hx hb hts hinX4 hown hK.1 hP 0 rfl rfl 5 (by decide) (hts (.fieldLink RX4 40 "GrooveTurns" "slots" "[LGrooveTurns$Disc;") (by decide +kernel)) (fun _ h9 => h9) rfl dX4_restore_17 ?_
  refine lv_iload_n hx hb dX4_restore_20 rfl (lv_at hl 1 rfl) ?_
  refine va_aldq hx hb hK.1 hP 3 1 rfl rfl (vp_in_nI hk (by decide)) dX4_restore_21 ?_
  rw [clampk (show k < 6 by omega), hq]
  refine lv_astore_n (lv' := [(2, .ref (δ 0)), (0, .ref γ), (1, .int (nI k))]) hx hb dX4_restore_22 rfl hl (by decide) rfl (fun ls hl => ?_)
  refine lv_aload_n hx hb dX4_restore_23 rfl (lv_at hl 0 rfl) ?_
  refine lv_ifnonnull (tgt := 30) hx hb dX4_restore_24 (by decide) ?_
  refine lv_aload_n hx hb dX4_restore_30 rfl (lv_at hl 1 rfl) ?_
  refine va_get (D := G.1) (ci := 4) (v := .ref (β 0)) (C := RX4) (T := TX4) (N := 6) hx hb hts hinX4 hown hK.1 hP 0 rfl rfl 1 (by decide) (hts (.fieldLink RX4 16 "GrooveTurns" "trial" "LGrooveTurns$Disc;") (by decide +kernel)) (fun _ h9 => h9) rfl dX4_restore_31 ?_
  refine lv_aload_n hx hb dX4_restore_34 rfl (lv_at hl 0 rfl) ?_
  refine wrVP (W1 := gW γ (α 0) (β 0) pd rq (η 0) ς ++ (hW G.2.2 η (ring, nI o, nI n) ++ (sW G.2.2 ς sl ++ (dW G.2.1 α σ ++ (dW G.2.1 β (s_X0_becomeLike τ υ) ++ dW G.2.1 δ υ))))) (As := [.ref (δ 0)]) (rest := []) (c_X0_becomeLike l G β δ τ υ) hF (cwV 1 hts gX4_restore_X0_becomeLike rfl rfl rfl (by decide +kernel) ⟨Nat.le_of_ble_eq_true rfl, Nat.le_of_ble_eq_true rfl⟩) (va_recv hK.1 hP (ci := 0) (q0 := 10) rfl rfl) hK hP hD hS (pm6_r _ _ _ _ _ _) (pm6_r _ _ _ _ _ _).symm (fst_app (fst_D _ _) (fst_D _ _)) rfl hl.1 rfl (Nat.le_of_ble_eq_true rfl) dX4_restore_35 ⟨Nat.zero_le _, Nat.zero_le _⟩ (fun H locs hP hD hS => ?_)
  have hP : va_P G.1 vwCl (gW γ (α 0) (β 0) pd rq (η 0) ς ++ (hW G.2.2 η (ring, nI o, nI n) ++ (sW G.2.2 ς sl ++ (dW G.2.1 α σ ++ (dW G.2.1 β (s_X0_becomeLike τ υ) ++ dW G.2.1 δ υ))))) H := hP
  have hD : va_D (va_A w0 s.heap.size) (gW γ (α 0) (β 0) pd rq (η 0) ς ++ (hW G.2.2 η (ring, nI o, nI n) ++ (sW G.2.2 ς sl ++ (dW G.2.1 α σ ++ (dW G.2.1 β (s_X0_becomeLike τ υ) ++ dW G.2.1 δ υ))))) := hD
  refine lv_aload_n hx hb dX4_restore_38 rfl (lv_at hl 1 rfl) ?_
  refine lv_aload_n hx hb dX4_restore_39 rfl (lv_at hl 1 rfl) ?_
  refine va_get (D := G.1) (ci := 4) (v := .ref (β 0)) (C := RX4) (T := TX4) (N := 6) hx hb hts hinX4 hown hK.1 hP 0 rfl rfl 1 (by decide) (hts (.fieldLink RX4 16 "GrooveTurns" "trial" "LGrooveTurns$Disc;") (by decide +kernel)) (fun _ h9 => h9) rfl dX4_restore_40 ?_
  refine lv_iconst (v := 0) hx hb dX4_restore_43 (by decide) ?_
  refine lv_bipush (v := 16) hx hb dX4_restore_44 (by decide) ?_
  refine rdV (As := [.int 0, .int 16]) (rest := [.ref γ]) (c_X0_filledOn l G β (s_X0_becomeLike τ υ) 0 16 hf) hF (cwV 2 hts gX4_restore_X0_filledOn rfl rfl rfl (by decide +kernel) ⟨Nat.le_of_ble_eq_true rfl, Nat.le_of_ble_eq_true rfl⟩) (va_recv hK.1 hP (ci := 0) (q0 := 10) rfl rfl) hK (hP.sub [10, 11, 12, 13, 14, 15] rfl) rfl hl.1 rfl (Nat.le_of_ble_eq_true rfl) dX4_restore_46 ⟨Nat.zero_le _, Nat.zero_le _⟩ ?_
  refine nwVP (As := [.int (s_X0_filledOn (s_X0_becomeLike τ υ) 0 16)]) (rest := []) (c_X4_adopt l G γ η ring o n (α 0) (β 0) pd rq ς (dF α σ) (s_X0_filledOn (s_X0_becomeLike τ υ) 0 16) tb ho hn hin0) sT.blind hF (cwV 1 hts gX4_restore_X4_adopt rfl rfl rfl (by decide +kernel) ⟨Nat.le_of_ble_eq_true rfl, Nat.le_of_ble_eq_true rfl⟩) (va_recv hK.1 hP (ci := 4) (q0 := 0) rfl rfl) hK hP hD hS hA (pmR (gW γ (α 0) (β 0) pd rq (η 0) ς) (hW G.2.2 η (ring, nI o, nI n)) (sW G.2.2 ς sl) [(α 0, .inr (0, dF α σ))] (dR G.2.1 α σ) (dW G.2.1 β (s_X0_becomeLike τ υ)) (dW G.2.1 δ υ)) (fun U hU hW hF => hT.to hS hF hU hW) rfl hl.1 rfl (Nat.le_of_ble_eq_true rfl) dX4_restore_49 ⟨Nat.le_of_ble_eq_true rfl, Nat.le_of_ble_eq_true rfl⟩ (fun w1 H locs hB hP hD hS => ?_)
  obtain ⟨w2, hB2, hpm⟩ := hB.mv (pmRX (sW G.2.2 ς sl) [(α 0, .inr (0, dF α σ))] (dR G.2.1 α σ) (dW G.2.1 β (s_X0_becomeLike τ υ)) (dW G.2.1 δ υ))
  exact W.iret hx hb hr (fun t ht hW => ⟨rfl, ⟨w2, hB2, by rw [ht]; exact hP.perm hpm, hD.perm hpm⟩, hS.F ht⟩) hS.2.2 dX4_restore_52
set_option maxHeartbeats 4000000 in
set_option maxRecDepth 100000 in
theorem c_X4_save_old (l : Launch) (G : GG) (γ : Nat) (α δ : Nat → Nat) (t pd rq hi ς : Nat) (sl : Nat → Option Nat) (σ τ : DS) (k : Nat) (hk : k < 2) (hq : sl k = some (δ 0)) (hf : ok_X0_filledOn σ 0 16) : Wr G l yX4_save wsX4_save 4 111 [.ref γ, .int (nI k)] (gW γ (α 0) t pd rq hi ς ++ (sW G.2.2 ς (sl) ++ (dW G.2.1 α σ ++ dW G.2.1 δ (τ)))) (some (.int (s_X0_filledOn σ 0 16))) (gW γ (α 0) t pd rq hi ς ++ (sW G.2.2 ς (sl) ++ (dW G.2.1 α σ ++ dW G.2.1 δ (s_X0_becomeLike τ σ)))) := by
  refine Met.ofW (cc := cX4_save) (maxL := 3) (ret := (some .int)) (by decide) rfl ?_
  intro p e s m args below meth c s₁ B hml hv
  obtain ⟨rfl, hP, hK, hD0⟩ := hv
  have C0 : cA p s m meth c ([.ref γ, .int (nI k)] : List Value).toArray cX4_save 3 (some .int) wsX4_save RX4 := ⟨B.exec, B.bytes, B.returns, hml, findClass_of_methodNamed B.named, atoms_spec (ws := wsX4_save) B.pre, B.notSynchronized⟩
  obtain ⟨hx, hb, hr, hml, hown, hts, hlocks⟩ := id C0
  have hF : CallFix p m c cX4_save 3 s _ wsX4_save RX4 := ⟨hx, hb, hml, hown, hts⟩
  have hinX4 : ∀ w ∈ wsX40, w ∈ wsX4_save := by decide +kernel
  obtain ⟨w0, hw0⟩ : ∃ w0 : va_W, w0 = gW γ (α 0) t pd rq hi ς ++ (sW G.2.2 ς (sl) ++ (dW G.2.1 α σ ++ dW G.2.1 δ (τ))) := ⟨_, rfl⟩
  have hD : va_D (inW w0) (gW γ (α 0) t pd rq hi ς ++ (sW G.2.2 ς (sl) ++ (dW G.2.1 α σ ++ dW G.2.1 δ (τ)))) := by rw [hw0]; exact inW.D hD0
  have hS : va_S (inW w0) s.heap s.heap [] := va_S.rf
  rw [show QW G (gW γ (α 0) t pd rq hi ς ++ (sW G.2.2 ς (sl) ++ (dW G.2.1 α σ ++ dW G.2.1 δ (τ)))) = QW G w0 from by rw [hw0], show inW (gW γ (α 0) t pd rq hi ς ++ (sW G.2.2 ς (sl) ++ (dW G.2.1 α σ ++ dW G.2.1 δ (τ)))) = inW w0 from by rw [hw0]]
  have hl := lv_entry ([.ref γ, .int (nI k)]) (n := 3) (Nat.le_of_ble_eq_true rfl)
  rw [lg_entry_eq]
  generalize (lg_sl ([.ref γ, .int (nI k)]) ++ List.replicate (3 - (lg_sl ([.ref γ, .int (nI k)])).length) Slot.unset).toArray = ls at hl ⊢
  have hl : lv_has ls 3 [(0, .ref γ), (1, .int (nI k))] := hl
  refine lv_iload_n hx hb dX4_save_0 rfl (lv_at hl 1 rfl) ?_
  refine lv_if_lt (tgt := 13) hx hb dX4_save_1 (by decide) (fun c_1 => absurd c_1 (nI_pos (by omega))) (fun c_1 => ?_)
  refine lv_iload_n hx hb dX4_save_4 rfl (lv_at hl 1 rfl) ?_
  refine lv_aload_n hx hb dX4_save_5 rfl (lv_at hl 0 rfl) ?_
  refine va_get (D := G.1) (ci := 4) (v := .ref ς) (C := RX4) (T := TX4) (N := 6) hx hb hts hinX4 hown hK.1 hP 0 rfl rfl 5 (by decide) (hts (.fieldLink RX4 40 "GrooveTurns" "slots" "[LGrooveTurns$Disc;") (by decide +kernel)) (fun _ h9 => h9) rfl dX4_save_6 ?_
  refine va_alen (v := 2) hx hb hK.1 hP 1 1 rfl rfl rfl dX4_save_9 ?_
  refine lv_icmp_lt (tgt := 16) hx hb dX4_save_10 (by decide) (fun c_2 => ?_) (fun c_2 => absurd (two_lt hk) c_2)
  refine lv_aload_n hx hb dX4_save_16 rfl (lv_at hl 0 rfl) ?_
  refine va_get (D := G.1) (ci := 4) (v := .ref ς) (C := RX4) (T := TX4) (N := 6) hx hb hts hinX4 hown hK.1 hP 0 rfl rfl 5 (by decide) (hts (.fieldLink RX4 40 "GrooveTurns" "slots" "[LGrooveTurns$Disc;") (by decide +kernel)) (fun _ h9 => h9) rfl dX4_save_17 ?_
  refine lv_iload_n hx hb dX4_save_20 rfl (lv_at hl 1 rfl) ?_
  refine va_aldq hx hb hK.1 hP 1 1 rfl rfl (vp_in_nI hk (by decide)) dX4_save_21 ?_
  rw [clampk (show k < 6 by omega), hq]
  refine lv_astore_n (lv' := [(2, .ref (δ 0)), (0, .ref γ), (1, .int (nI k))]) hx hb dX4_save_22 rfl hl (by decide) rfl (fun ls hl => ?_)
  refine lv_aload_n hx hb dX4_save_23 rfl (lv_at hl 0 rfl) ?_
  refine lv_ifnonnull (tgt := 42) hx hb dX4_save_24 (by decide) ?_
  refine lv_aload_n hx hb dX4_save_42 rfl (lv_at hl 0 rfl) ?_
  refine lv_aload_n hx hb dX4_save_43 rfl (lv_at hl 1 rfl) ?_
  refine va_get (D := G.1) (ci := 4) (v := .ref (α 0)) (C := RX4) (T := TX4) (N := 6) hx hb hts hinX4 hown hK.1 hP 0 rfl rfl 0 (by decide) (hts (.fieldLink RX4 12 "GrooveTurns" "disc" "LGrooveTurns$Disc;") (by decide +kernel)) (fun _ h9 => h9) rfl dX4_save_44 ?_
  refine wrVP (W1 := gW γ (α 0) t pd rq hi ς ++ (sW G.2.2 ς (sl) ++ (dW G.2.1 α σ ++ dW G.2.1 δ (s_X0_becomeLike τ σ)))) (As := [.ref (α 0)]) (rest := []) (c_X0_becomeLike l G δ α (τ) σ) hF (cwV 1 hts gX4_save_X0_becomeLike rfl rfl rfl (by decide +kernel) ⟨Nat.le_of_ble_eq_true rfl, Nat.le_of_ble_eq_true rfl⟩) (va_recv hK.1 hP (ci := 0) (q0 := 8) rfl rfl) hK hP hD hS (pm4_32 _ _ _ _) (pm4_32 _ _ _ _).symm (fst_app (fst_D _ _) (fst_D _ _)) rfl hl.1 rfl (Nat.le_of_ble_eq_true rfl) dX4_save_47 ⟨Nat.le_of_ble_eq_true rfl, Nat.le_of_ble_eq_true rfl⟩ (fun H locs hP hD hS => ?_)
  have hP : va_P G.1 vwCl (gW γ (α 0) t pd rq hi ς ++ (sW G.2.2 ς (sl) ++ (dW G.2.1 α σ ++ dW G.2.1 δ (s_X0_becomeLike τ σ)))) H := hP
  have hD : va_D (inW w0) (gW γ (α 0) t pd rq hi ς ++ (sW G.2.2 ς (sl) ++ (dW G.2.1 α σ ++ dW G.2.1 δ (s_X0_becomeLike τ σ)))) := hD
  refine lv_aload_n hx hb dX4_save_50 rfl (lv_at hl 1 rfl) ?_
  refine va_get (D := G.1) (ci := 4) (v := .ref (α 0)) (C := RX4) (T := TX4) (N := 6) hx hb hts hinX4 hown hK.1 hP 0 rfl rfl 0 (by decide) (hts (.fieldLink RX4 12 "GrooveTurns" "disc" "LGrooveTurns$Disc;") (by decide +kernel)) (fun _ h9 => h9) rfl dX4_save_51 ?_
  refine lv_iconst (v := 0) hx hb dX4_save_54 (by decide) ?_
  refine lv_bipush (v := 16) hx hb dX4_save_55 (by decide) ?_
  refine rdV (As := [.int 0, .int 16]) (rest := []) (c_X0_filledOn l G α σ 0 16 hf) hF (cwV 2 hts gX4_save_X0_filledOn rfl rfl rfl (by decide +kernel) ⟨Nat.le_of_ble_eq_true rfl, Nat.le_of_ble_eq_true rfl⟩) (va_recv hK.1 hP (ci := 0) (q0 := 2) rfl rfl) hK (hP.sub [2, 3, 4, 5, 6, 7] rfl) rfl hl.1 rfl (Nat.le_of_ble_eq_true rfl) dX4_save_57 ⟨Nat.le_of_ble_eq_true rfl, Nat.le_of_ble_eq_true rfl⟩ ?_
  exact W.iret hx hb hr (fun t ht hW => ⟨rfl, by rw [ht]; exact hP, hS.F ht⟩) hS.2.2 dX4_save_60
set_option maxHeartbeats 4000000 in
set_option maxRecDepth 100000 in
theorem c_X4_save_new (l : Launch) (G : GG) (γ : Nat) (α : Nat → Nat) (t pd rq hi ς : Nat) (sl : Nat → Option Nat) (σ : DS) (k : Nat) (tb : Nat × Nat × Nat) (hin0 : ok_X0_init (d_st' dPre firstS)) (hk : k < 2) (hq : sl k = none) (hf : ok_X0_filledOn σ 0 16) : Nw G l yX4_save wsX4_save 4 111 6 818 [.ref γ, .int (nI k)] (gW γ (α 0) t pd rq hi ς ++ (sW G.2.2 ς sl ++ dW G.2.1 α σ)) (sT tb) (some (.int (s_X0_filledOn σ 0 16))) (fun w1 => ∃ δ : Nat → Nat, w1 = gW γ (α 0) t pd rq hi ς ++ (sW G.2.2 ς (va_up sl k (some (δ 0))) ++ (dW G.2.1 α σ ++ dW G.2.1 δ (s_X0_becomeLike dNew σ)))) := by
  intro sz
  refine Met.ofW (cc := cX4_save) (maxL := 3) (ret := (some .int)) (by decide) rfl ?_
  intro p e s m args below meth c s₁ B hml hv
  obtain ⟨rfl, hsz, hP, hK, hD0, hT⟩ := hv
  have C0 : cA p s m meth c ([.ref γ, .int (nI k)] : List Value).toArray cX4_save 3 (some .int) wsX4_save RX4 := ⟨B.exec, B.bytes, B.returns, hml, findClass_of_methodNamed B.named, atoms_spec (ws := wsX4_save) B.pre, B.notSynchronized⟩
  obtain ⟨hx, hb, hr, hml, hown, hts, hlocks⟩ := id C0
  have hF : CallFix p m c cX4_save 3 s _ wsX4_save RX4 := ⟨hx, hb, hml, hown, hts⟩
  have hinX0 : ∀ w ∈ wsX00, w ∈ wsX4_save := by decide +kernel
  have hinX4 : ∀ w ∈ wsX40, w ∈ wsX4_save := by decide +kernel
  subst hsz
  obtain ⟨w0, hw0⟩ : ∃ w0 : va_W, w0 = gW γ (α 0) t pd rq hi ς ++ (sW G.2.2 ς sl ++ dW G.2.1 α σ) := ⟨_, rfl⟩
  have hD : va_D (va_A w0 s.heap.size) (gW γ (α 0) t pd rq hi ς ++ (sW G.2.2 ς sl ++ dW G.2.1 α σ)) := by rw [hw0]; exact hD0.self
  have hA : ∀ q : Nat, s.heap.size ≤ q → va_A w0 s.heap.size q := fun q h => Or.inr h
  rw [← hw0] at hT
  rw [show QN G (gW γ (α 0) t pd rq hi ς ++ (sW G.2.2 ς sl ++ dW G.2.1 α σ)) = QN G w0 from by rw [hw0], show va_A (gW γ (α 0) t pd rq hi ς ++ (sW G.2.2 ς sl ++ dW G.2.1 α σ)) s.heap.size = va_A w0 s.heap.size from by rw [hw0]]
  have hS : va_S (va_A w0 s.heap.size) s.heap s.heap [] := va_S.rf
  have hl := lv_entry ([.ref γ, .int (nI k)]) (n := 3) (Nat.le_of_ble_eq_true rfl)
  rw [lg_entry_eq]
  generalize (lg_sl ([.ref γ, .int (nI k)]) ++ List.replicate (3 - (lg_sl ([.ref γ, .int (nI k)])).length) Slot.unset).toArray = ls at hl ⊢
  have hl : lv_has ls 3 [(0, .ref γ), (1, .int (nI k))] := hl
  refine lv_iload_n hx hb dX4_save_0 rfl (lv_at hl 1 rfl) ?_
  refine lv_if_lt (tgt := 13) hx hb dX4_save_1 (by decide) (fun c_1 => absurd c_1 (nI_pos (by omega))) (fun c_1 => ?_)
  refine lv_iload_n hx hb dX4_save_4 rfl (lv_at hl 1 rfl) ?_
  refine lv_aload_n hx hb dX4_save_5 rfl (lv_at hl 0 rfl) ?_
  refine va_get (D := G.1) (ci := 4) (v := .ref ς) (C := RX4) (T := TX4) (N := 6) hx hb hts hinX4 hown hK.1 hP 0 rfl rfl 5 (by decide) (hts (.fieldLink RX4 40 "GrooveTurns" "slots" "[LGrooveTurns$Disc;") (by decide +kernel)) (fun _ h9 => h9) rfl dX4_save_6 ?_
  refine va_alen (v := 2) hx hb hK.1 hP 1 1 rfl rfl rfl dX4_save_9 ?_
  refine lv_icmp_lt (tgt := 16) hx hb dX4_save_10 (by decide) (fun c_2 => ?_) (fun c_2 => absurd (two_lt hk) c_2)
  refine lv_aload_n hx hb dX4_save_16 rfl (lv_at hl 0 rfl) ?_
  refine va_get (D := G.1) (ci := 4) (v := .ref ς) (C := RX4) (T := TX4) (N := 6) hx hb hts hinX4 hown hK.1 hP 0 rfl rfl 5 (by decide) (hts (.fieldLink RX4 40 "GrooveTurns" "slots" "[LGrooveTurns$Disc;") (by decide +kernel)) (fun _ h9 => h9) rfl dX4_save_17 ?_
  refine lv_iload_n hx hb dX4_save_20 rfl (lv_at hl 1 rfl) ?_
  refine va_aldq hx hb hK.1 hP 1 1 rfl rfl (vp_in_nI hk (by decide)) dX4_save_21 ?_
  rw [clampk (show k < 6 by omega), hq]
  refine lv_astore_nN (lv' := [(2, .null), (0, .ref γ), (1, .int (nI k))]) hx hb dX4_save_22 rfl hl (by decide) rfl (fun ls hl => ?_)
  refine lv_aload_nN hx hb dX4_save_23 rfl (lv_at hl 0 rfl) ?_
  refine lv_ifnonnullN hx hb dX4_save_24 ?_
  refine va_new (D := G.1) (ci := 0) (fs := [.null, .null, .null, .null, .null, .int 0, .int 0, .int 0, .int 0]) (C := RX0) (T := TX0) (N := 9) hx hb hts hinX0 tyX0 tyX0_ok hown (hts (.classLink RX4 9 RX0) (by decide +kernel)) (hts (.instantiable RX0 9) (by decide +kernel)) (hts (.initialized RX0) (by decide +kernel)) hK.1 hP hD hS hA rfl (fun j hj => by rcases (show j = 0 ∨ j = 1 ∨ j = 2 ∨ j = 3 ∨ j = 4 ∨ j = 5 ∨ j = 6 ∨ j = 7 ∨ j = 8 by omega) with rfl | rfl | rfl | rfl | rfl | rfl | rfl | rfl | rfl <;> rfl) (Nat.le_of_ble_eq_true rfl) (Nat.le_of_ble_eq_true rfl) dX4_save_27 (fun g H hP hD hS => ?_)
  refine lv_dup hx hb dX4_save_30 rfl ?_
  refine nwI (As := []) (rest := [.ref g]) (w := w0_X0 g) (c_X0_init l G g tb hin0) sT.blind hF (cwI 0 hts gX4_save_X0_init rfl rfl rfl (hts (.initialized RX0) (by decide +kernel)) (hts (.methodLink RX4 11 yX0_init) (by decide +kernel)) (hts (.instanceMethod yX0_init) (by decide +kernel)) rfl (by decide +kernel) ⟨Nat.le_of_ble_eq_true rfl, Nat.le_of_ble_eq_true rfl⟩) hK hP hD hS hA (fun U hU hW hF => hT.to hS hF hU hW) rfl hl.1 rfl (Nat.le_of_ble_eq_true rfl) dX4_save_31 ⟨Nat.le_of_ble_eq_true rfl, Nat.le_of_ble_eq_true rfl⟩ (fun w1 H locs hB hP hD hS => ?_)
  obtain ⟨δ, rfl, rfl⟩ := hB
  have hP : va_P G.1 vwCl (gW γ (α 0) t pd rq hi ς ++ (sW G.2.2 ς (sl) ++ (dW G.2.1 α σ ++ dW G.2.1 δ (dNew)))) H := hP
  have hD : va_D (va_A w0 s.heap.size) (gW γ (α 0) t pd rq hi ς ++ (sW G.2.2 ς (sl) ++ (dW G.2.1 α σ ++ dW G.2.1 δ (dNew)))) := hD
  refine lv_astore_n (lv' := [(2, .ref (δ 0)), (0, .ref γ), (1, .int (nI k))]) hx hb dX4_save_34 rfl hl (by decide) rfl (fun ls hl => ?_)
  refine lv_aload_n hx hb dX4_save_35 rfl (lv_at hl 1 rfl) ?_
  refine va_get (D := G.1) (ci := 4) (v := .ref ς) (C := RX4) (T := TX4) (N := 6) hx hb hts hinX4 hown hK.1 hP 0 rfl rfl 5 (by decide) (hts (.fieldLink RX4 40 "GrooveTurns" "slots" "[LGrooveTurns$Disc;") (by decide +kernel)) (fun _ h9 => h9) rfl dX4_save_36 ?_
  refine lv_iload_n hx hb dX4_save_39 rfl (lv_at hl 2 rfl) ?_
  refine lv_aload_n hx hb dX4_save_40 rfl (lv_at hl 0 rfl) ?_
  refine va_astq (r := (RX0, TX0, 9)) hx hb hK.1 hP hD hS 1 1 8 0 rfl rfl rfl rfl (vp_in_nI hk (by decide)) dX4_save_41 (fun H locs hP hD hS => ?_)
  rw [clampk (show k < 6 by omega)] at hP hD
  have hP : va_P G.1 vwCl (gW γ (α 0) t pd rq hi ς ++ (sW G.2.2 ς (va_up sl k (some (δ 0))) ++ (dW G.2.1 α σ ++ dW G.2.1 δ (dNew)))) H := hP
  have hD : va_D (va_A w0 s.heap.size) (gW γ (α 0) t pd rq hi ς ++ (sW G.2.2 ς (va_up sl k (some (δ 0))) ++ (dW G.2.1 α σ ++ dW G.2.1 δ (dNew)))) := hD
  refine lv_aload_n hx hb dX4_save_42 rfl (lv_at hl 0 rfl) ?_
  refine lv_aload_n hx hb dX4_save_43 rfl (lv_at hl 1 rfl) ?_
  refine va_get (D := G.1) (ci := 4) (v := .ref (α 0)) (C := RX4) (T := TX4) (N := 6) hx hb hts hinX4 hown hK.1 hP 0 rfl rfl 0 (by decide) (hts (.fieldLink RX4 12 "GrooveTurns" "disc" "LGrooveTurns$Disc;") (by decide +kernel)) (fun _ h9 => h9) rfl dX4_save_44 ?_
  refine wrVP (W1 := gW γ (α 0) t pd rq hi ς ++ (sW G.2.2 ς (va_up sl k (some (δ 0))) ++ (dW G.2.1 α σ ++ dW G.2.1 δ (s_X0_becomeLike dNew σ)))) (As := [.ref (α 0)]) (rest := []) (c_X0_becomeLike l G δ α (dNew) σ) hF (cwV 1 hts gX4_save_X0_becomeLike rfl rfl rfl (by decide +kernel) ⟨Nat.le_of_ble_eq_true rfl, Nat.le_of_ble_eq_true rfl⟩) (va_recv hK.1 hP (ci := 0) (q0 := 8) rfl rfl) hK hP hD hS (pm4_32 _ _ _ _) (pm4_32 _ _ _ _).symm (fst_app (fst_D _ _) (fst_D _ _)) rfl hl.1 rfl (Nat.le_of_ble_eq_true rfl) dX4_save_47 ⟨Nat.le_of_ble_eq_true rfl, Nat.le_of_ble_eq_true rfl⟩ (fun H locs hP hD hS => ?_)
  have hP : va_P G.1 vwCl (gW γ (α 0) t pd rq hi ς ++ (sW G.2.2 ς (va_up sl k (some (δ 0))) ++ (dW G.2.1 α σ ++ dW G.2.1 δ (s_X0_becomeLike dNew σ)))) H := hP
  have hD : va_D (va_A w0 s.heap.size) (gW γ (α 0) t pd rq hi ς ++ (sW G.2.2 ς (va_up sl k (some (δ 0))) ++ (dW G.2.1 α σ ++ dW G.2.1 δ (s_X0_becomeLike dNew σ)))) := hD
  refine lv_aload_n hx hb dX4_save_50 rfl (lv_at hl 1 rfl) ?_
  refine va_get (D := G.1) (ci := 4) (v := .ref (α 0)) (C := RX4) (T := TX4) (N := 6) hx hb hts hinX4 hown hK.1 hP 0 rfl rfl 0 (by decide) (hts (.fieldLink RX4 12 "GrooveTurns" "disc" "LGrooveTurns$Disc;") (by decide +kernel)) (fun _ h9 => h9) rfl dX4_save_51 ?_
  refine lv_iconst (v := 0) hx hb dX4_save_54 (by decide) ?_
  refine lv_bipush (v := 16) hx hb dX4_save_55 (by decide) ?_
  refine rdV (As := [.int 0, .int 16]) (rest := []) (c_X0_filledOn l G α σ 0 16 hf) hF (cwV 2 hts gX4_save_X0_filledOn rfl rfl rfl (by decide +kernel) ⟨Nat.le_of_ble_eq_true rfl, Nat.le_of_ble_eq_true rfl⟩) (va_recv hK.1 hP (ci := 0) (q0 := 2) rfl rfl) hK (hP.sub [2, 3, 4, 5, 6, 7] rfl) rfl hl.1 rfl (Nat.le_of_ble_eq_true rfl) dX4_save_57 ⟨Nat.le_of_ble_eq_true rfl, Nat.le_of_ble_eq_true rfl⟩ ?_
  exact W.iret hx hb hr (fun t ht hW => ⟨rfl, ⟨_, ⟨δ, rfl⟩, by rw [ht]; exact hP, hD⟩, hS.F ht⟩) hS.2.2 dX4_save_60
def iT (tb : Nat × Nat × Nat) : (Nat → Prop) → State → Prop := fun A U => sT tb A U ∧ va_AO RX0 U
theorem iT.blind {tb : Nat × Nat × Nat} : FB2 (iT tb) := fun A U g mk a h => ⟨sT.blind A U g mk a h.1, h.2⟩
abbrev w0_X4 (g : Nat) : va_W := [(g, .inr (4, [.null, .null, .null, .null, .null, .null]))]
set_option maxHeartbeats 4000000 in
set_option maxRecDepth 100000 in
theorem c_X4_init (l : Launch) (G : GG) (γ : Nat) (tb : Nat × Nat × Nat) (hin0 : ok_X0_init (d_st' dPre firstS)) : Nw G l yX4_init wsX4_init 4 111 21 1777 [.ref γ] (w0_X4 γ) (iT tb) none (fun w1 => ∃ (α β π κ η : Nat → Nat) (ς : Nat), w1 = gW γ (α 0) (β 0) (π 0) (κ 0) (η 0) ς ++ (dW G.2.1 α dNew ++ (dW G.2.1 β dNew ++ (pW G.2.1 π p0 ++ (qW G.2.1 κ q0 ++ (hW G.2.2 η h0 ++ sW G.2.2 ς (fun _ => none))))))) := by
  intro sz
  refine Met.ofW (cc := cX4_init) (maxL := 1) (ret := none) (by decide) rfl ?_
  intro p e s m args below meth c s₁ B hml hv
  obtain ⟨rfl, hsz, hP, hK, hD0, hT⟩ := hv
  have C0 : cA p s m meth c ([.ref γ] : List Value).toArray cX4_init 1 none wsX4_init RX4 := ⟨B.exec, B.bytes, B.returns, hml, findClass_of_methodNamed B.named, atoms_spec (ws := wsX4_init) B.pre, B.notSynchronized⟩
  obtain ⟨hx, hb, hr, hml, hown, hts, hlocks⟩ := id C0
  have hF : CallFix p m c cX4_init 1 s _ wsX4_init RX4 := ⟨hx, hb, hml, hown, hts⟩
  have hin : meth.name = "<init>" := (name_of_methodNamed B.named B.method).1
  have hinX0 : ∀ w ∈ wsX00, w ∈ wsX4_init := by decide +kernel
  have hinX1 : ∀ w ∈ wsX10, w ∈ wsX4_init := by decide +kernel
  have hinX2 : ∀ w ∈ wsX20, w ∈ wsX4_init := by decide +kernel
  have hinX3 : ∀ w ∈ wsX30, w ∈ wsX4_init := by decide +kernel
  have hinX4 : ∀ w ∈ wsX40, w ∈ wsX4_init := by decide +kernel
  subst hsz
  obtain ⟨w0, hw0⟩ : ∃ w0 : va_W, w0 = w0_X4 γ := ⟨_, rfl⟩
  have hD : va_D (va_A w0 s.heap.size) (w0_X4 γ) := by rw [hw0]; exact hD0.self
  have hA : ∀ q : Nat, s.heap.size ≤ q → va_A w0 s.heap.size q := fun q h => Or.inr h
  rw [← hw0] at hT
  rw [show QN G (w0_X4 γ) = QN G w0 from by rw [hw0], show va_A (w0_X4 γ) s.heap.size = va_A w0 s.heap.size from by rw [hw0]]
  have hS : va_S (va_A w0 s.heap.size) s.heap s.heap [] := va_S.rf
  have hl := lv_entry ([.ref γ]) (n := 1) (Nat.le_of_ble_eq_true rfl)
  rw [lg_entry_eq]
  generalize (lg_sl ([.ref γ]) ++ List.replicate (1 - (lg_sl ([.ref γ])).length) Slot.unset).toArray = ls at hl ⊢
  have hl : lv_has ls 1 [(0, .ref γ)] := hl
  refine lv_aload_n hx hb dX4_init_0 rfl (lv_at hl 0 rfl) ?_
  refine W.objInit hx hb hown (hts (.methodLink RX4 3 objectInit) (by decide +kernel)) (hts (.instanceMethod objectInit) (by decide +kernel)) (hts (.code objectInit ⟨#[0xb1]⟩ 1 none) (by decide +kernel)) rfl (by rw [hml]; exact hl.1) rfl dX4_init_1 (Nat.le_of_ble_eq_true rfl) (Nat.le_of_ble_eq_true rfl) ?_
  refine W.eq (g2 := F0 m 4 ls []) rfl ?_
  refine lv_aload_n hx hb dX4_init_4 rfl (lv_at hl 0 rfl) ?_
  refine va_new (D := G.1) (ci := 0) (fs := [.null, .null, .null, .null, .null, .int 0, .int 0, .int 0, .int 0]) (C := RX0) (T := TX0) (N := 9) hx hb hts hinX0 tyX0 tyX0_ok hown (hts (.classLink RX4 9 RX0) (by decide +kernel)) (hts (.instantiable RX0 9) (by decide +kernel)) (hts (.initialized RX0) (by decide +kernel)) hK.1 hP hD hS hA rfl (fun j hj => by rcases (show j = 0 ∨ j = 1 ∨ j = 2 ∨ j = 3 ∨ j = 4 ∨ j = 5 ∨ j = 6 ∨ j = 7 ∨ j = 8 by omega) with rfl | rfl | rfl | rfl | rfl | rfl | rfl | rfl | rfl <;> rfl) (Nat.le_of_ble_eq_true rfl) (Nat.le_of_ble_eq_true rfl) dX4_init_5 (fun g H hP hD hS => ?_)
  refine lv_dup hx hb dX4_init_8 rfl ?_
  refine nwI (As := []) (rest := [.ref g, .ref γ]) (w := w0_X0 g) (c_X0_init l G g tb hin0) sT.blind hF (cwI 0 hts gX4_init_X0_init rfl rfl rfl (hts (.initialized RX0) (by decide +kernel)) (hts (.methodLink RX4 11 yX0_init) (by decide +kernel)) (hts (.instanceMethod yX0_init) (by decide +kernel)) rfl (by decide +kernel) ⟨Nat.le_of_ble_eq_true rfl, Nat.le_of_ble_eq_true rfl⟩) hK hP hD hS hA (fun U hU hW hF => hT.1.to hS hF hU hW) rfl hl.1 rfl (Nat.le_of_ble_eq_true rfl) dX4_init_9 ⟨Nat.le_of_ble_eq_true rfl, Nat.le_of_ble_eq_true rfl⟩ (fun w1 H locs hB hP hD hS => ?_)
  obtain ⟨α, rfl, rfl⟩ := hB
  have hP : va_P G.1 vwCl (([(γ, .inr (4, [.null, .null, .null, .null, .null, .null]))] : va_W) ++ (dW G.2.1 α dNew)) H := hP
  have hD : va_D (va_A w0 s.heap.size) (([(γ, .inr (4, [.null, .null, .null, .null, .null, .null]))] : va_W) ++ (dW G.2.1 α dNew)) := hD
  refine va_put (D := G.1) (ci := 4) (v := .ref (α 0)) (ty := .object "GrooveTurns$Disc") (C := RX4) (T := TX4) (N := 6) hx hb hts hinX4 tyX4 tyX4_ok nmX4 hown hK.1 hP hD hS 0 rfl rfl 0 (by decide) (hts (.fieldLink RX4 12 "GrooveTurns" "disc" "LGrooveTurns$Disc;") (by decide +kernel)) (fun _ h9 => h9) rfl (by decide +kernel) rfl rfl (Nat.le_of_ble_eq_true rfl) dX4_init_12 (fun H locs hP hD hS => ?_)
  have hP : va_P G.1 vwCl (([(γ, .inr (4, [.ref (α 0), .null, .null, .null, .null, .null]))] : va_W) ++ (dW G.2.1 α dNew)) H := hP
  have hD : va_D (va_A w0 s.heap.size) (([(γ, .inr (4, [.ref (α 0), .null, .null, .null, .null, .null]))] : va_W) ++ (dW G.2.1 α dNew)) := hD
  refine lv_aload_n hx hb dX4_init_15 rfl (lv_at hl 0 rfl) ?_
  refine va_new (D := G.1) (ci := 0) (fs := [.null, .null, .null, .null, .null, .int 0, .int 0, .int 0, .int 0]) (C := RX0) (T := TX0) (N := 9) hx hb hts hinX0 tyX0 tyX0_ok hown (hts (.classLink RX4 9 RX0) (by decide +kernel)) (hts (.instantiable RX0 9) (by decide +kernel)) (hts (.initialized RX0) (by decide +kernel)) hK.1 hP hD hS hA rfl (fun j hj => by rcases (show j = 0 ∨ j = 1 ∨ j = 2 ∨ j = 3 ∨ j = 4 ∨ j = 5 ∨ j = 6 ∨ j = 7 ∨ j = 8 by omega) with rfl | rfl | rfl | rfl | rfl | rfl | rfl | rfl | rfl <;> rfl) (Nat.le_of_ble_eq_true rfl) (Nat.le_of_ble_eq_true rfl) dX4_init_16 (fun g H hP hD hS => ?_)
  refine lv_dup hx hb dX4_init_19 rfl ?_
  refine nwI (As := []) (rest := [.ref g, .ref γ]) (w := w0_X0 g) (c_X0_init l G g tb hin0) sT.blind hF (cwI 0 hts gX4_init_X0_init rfl rfl rfl (hts (.initialized RX0) (by decide +kernel)) (hts (.methodLink RX4 11 yX0_init) (by decide +kernel)) (hts (.instanceMethod yX0_init) (by decide +kernel)) rfl (by decide +kernel) ⟨Nat.le_of_ble_eq_true rfl, Nat.le_of_ble_eq_true rfl⟩) hK hP hD hS hA (fun U hU hW hF => hT.1.to hS hF hU hW) rfl hl.1 rfl (Nat.le_of_ble_eq_true rfl) dX4_init_20 ⟨Nat.le_of_ble_eq_true rfl, Nat.le_of_ble_eq_true rfl⟩ (fun w1 H locs hB hP hD hS => ?_)
  obtain ⟨β, rfl, rfl⟩ := hB
  have hP : va_P G.1 vwCl (([(γ, .inr (4, [.ref (α 0), .null, .null, .null, .null, .null]))] : va_W) ++ (dW G.2.1 α dNew ++ (dW G.2.1 β dNew))) H := hP
  have hD : va_D (va_A w0 s.heap.size) (([(γ, .inr (4, [.ref (α 0), .null, .null, .null, .null, .null]))] : va_W) ++ (dW G.2.1 α dNew ++ (dW G.2.1 β dNew))) := hD
  refine va_put (D := G.1) (ci := 4) (v := .ref (β 0)) (ty := .object "GrooveTurns$Disc") (C := RX4) (T := TX4) (N := 6) hx hb hts hinX4 tyX4 tyX4_ok nmX4 hown hK.1 hP hD hS 0 rfl rfl 1 (by decide) (hts (.fieldLink RX4 16 "GrooveTurns" "trial" "LGrooveTurns$Disc;") (by decide +kernel)) (fun _ h9 => h9) rfl (by decide +kernel) rfl rfl (Nat.le_of_ble_eq_true rfl) dX4_init_23 (fun H locs hP hD hS => ?_)
  have hP : va_P G.1 vwCl (([(γ, .inr (4, [.ref (α 0), .ref (β 0), .null, .null, .null, .null]))] : va_W) ++ (dW G.2.1 α dNew ++ (dW G.2.1 β dNew))) H := hP
  have hD : va_D (va_A w0 s.heap.size) (([(γ, .inr (4, [.ref (α 0), .ref (β 0), .null, .null, .null, .null]))] : va_W) ++ (dW G.2.1 α dNew ++ (dW G.2.1 β dNew))) := hD
  refine lv_aload_n hx hb dX4_init_26 rfl (lv_at hl 0 rfl) ?_
  refine va_new (D := G.1) (ci := 2) (fs := [.null, .int 0]) (C := RX2) (T := TX2) (N := 2) hx hb hts hinX2 tyX2 tyX2_ok hown (hts (.classLink RX4 19 RX2) (by decide +kernel)) (hts (.instantiable RX2 2) (by decide +kernel)) (hts (.initialized RX2) (by decide +kernel)) hK.1 hP hD hS hA rfl (fun j hj => by rcases (show j = 0 ∨ j = 1 by omega) with rfl | rfl <;> rfl) (Nat.le_of_ble_eq_true rfl) (Nat.le_of_ble_eq_true rfl) dX4_init_27 (fun g H hP hD hS => ?_)
  refine lv_dup hx hb dX4_init_30 rfl ?_
  refine nwIN (As := []) (rest := [.ref g, .ref γ]) (w := w0_X2 g) (c_X2_init l G g) nT.blind hF ⟨va_cnB (host := RX4) 0 hts gX4_init_X2_init_n21 rfl rfl rfl (hK.nest 0 rfl) (hts (.initialized RX2) (by decide +kernel)) (by decide +kernel) ⟨Nat.le_of_ble_eq_true rfl, Nat.le_of_ble_eq_true rfl⟩, rfl, hts (.instanceMethod yX2_init) (by decide +kernel)⟩ hK hP hD hS hA (fun U hU hW hF => trivial) rfl hl.1 rfl (Nat.le_of_ble_eq_true rfl) dX4_init_31 ⟨Nat.le_of_ble_eq_true rfl, Nat.le_of_ble_eq_true rfl⟩ (fun w1 H locs hB hP hD hS => ?_)
  obtain ⟨π, rfl, rfl⟩ := hB
  have hP : va_P G.1 vwCl (([(γ, .inr (4, [.ref (α 0), .ref (β 0), .null, .null, .null, .null]))] : va_W) ++ (dW G.2.1 α dNew ++ (dW G.2.1 β dNew ++ (pW G.2.1 π p0)))) H := hP
  have hD : va_D (va_A w0 s.heap.size) (([(γ, .inr (4, [.ref (α 0), .ref (β 0), .null, .null, .null, .null]))] : va_W) ++ (dW G.2.1 α dNew ++ (dW G.2.1 β dNew ++ (pW G.2.1 π p0)))) := hD
  refine va_putF (D := G.1) (ci := 4) (v := .ref (π 0)) (ty := .object "GrooveTurns$Pad") (C := RX4) (T := TX4) (N := 6) hx hb hts hinX4 tyX4 tyX4_ok nmX4 hown hK.1 hP hD hS 0 rfl rfl 2 (by decide) (hts (.fieldLink RX4 22 "GrooveTurns" "pad" "LGrooveTurns$Pad;") (by decide +kernel)) (fun _ h9 => h9) rfl hin rfl (by decide +kernel) rfl rfl (Nat.le_of_ble_eq_true rfl) dX4_init_34 (fun H locs hP hD hS => ?_)
  have hP : va_P G.1 vwCl (([(γ, .inr (4, [.ref (α 0), .ref (β 0), .ref (π 0), .null, .null, .null]))] : va_W) ++ (dW G.2.1 α dNew ++ (dW G.2.1 β dNew ++ (pW G.2.1 π p0)))) H := hP
  have hD : va_D (va_A w0 s.heap.size) (([(γ, .inr (4, [.ref (α 0), .ref (β 0), .ref (π 0), .null, .null, .null]))] : va_W) ++ (dW G.2.1 α dNew ++ (dW G.2.1 β dNew ++ (pW G.2.1 π p0)))) := hD
  refine lv_aload_n hx hb dX4_init_37 rfl (lv_at hl 0 rfl) ?_
  refine va_new (D := G.1) (ci := 3) (fs := [.null, .null, .null, .int 0, .int 0]) (C := RX3) (T := TX3) (N := 5) hx hb hts hinX3 tyX3 tyX3_ok hown (hts (.classLink RX4 26 RX3) (by decide +kernel)) (hts (.instantiable RX3 5) (by decide +kernel)) (hts (.initialized RX3) (by decide +kernel)) hK.1 hP hD hS hA rfl (fun j hj => by rcases (show j = 0 ∨ j = 1 ∨ j = 2 ∨ j = 3 ∨ j = 4 by omega) with rfl | rfl | rfl | rfl | rfl <;> rfl) (Nat.le_of_ble_eq_true rfl) (Nat.le_of_ble_eq_true rfl) dX4_init_38 (fun g H hP hD hS => ?_)
  refine lv_dup hx hb dX4_init_41 rfl ?_
  refine nwIN (As := []) (rest := [.ref g, .ref γ]) (w := w0_X3 g) (c_X3_init l G g) nT.blind hF ⟨va_cnB (host := RX4) 0 hts gX4_init_X3_init_n28 rfl rfl rfl (hK.nest 1 rfl) (hts (.initialized RX3) (by decide +kernel)) (by decide +kernel) ⟨Nat.le_of_ble_eq_true rfl, Nat.le_of_ble_eq_true rfl⟩, rfl, hts (.instanceMethod yX3_init) (by decide +kernel)⟩ hK hP hD hS hA (fun U hU hW hF => trivial) rfl hl.1 rfl (Nat.le_of_ble_eq_true rfl) dX4_init_42 ⟨Nat.le_of_ble_eq_true rfl, Nat.le_of_ble_eq_true rfl⟩ (fun w1 H locs hB hP hD hS => ?_)
  obtain ⟨κ, rfl, rfl⟩ := hB
  have hP : va_P G.1 vwCl (([(γ, .inr (4, [.ref (α 0), .ref (β 0), .ref (π 0), .null, .null, .null]))] : va_W) ++ (dW G.2.1 α dNew ++ (dW G.2.1 β dNew ++ (pW G.2.1 π p0 ++ (qW G.2.1 κ q0))))) H := hP
  have hD : va_D (va_A w0 s.heap.size) (([(γ, .inr (4, [.ref (α 0), .ref (β 0), .ref (π 0), .null, .null, .null]))] : va_W) ++ (dW G.2.1 α dNew ++ (dW G.2.1 β dNew ++ (pW G.2.1 π p0 ++ (qW G.2.1 κ q0))))) := hD
  refine va_putF (D := G.1) (ci := 4) (v := .ref (κ 0)) (ty := .object "GrooveTurns$Requests") (C := RX4) (T := TX4) (N := 6) hx hb hts hinX4 tyX4 tyX4_ok nmX4 hown hK.1 hP hD hS 0 rfl rfl 3 (by decide) (hts (.fieldLink RX4 29 "GrooveTurns" "requests" "LGrooveTurns$Requests;") (by decide +kernel)) (fun _ h9 => h9) rfl hin rfl (by decide +kernel) rfl rfl (Nat.le_of_ble_eq_true rfl) dX4_init_45 (fun H locs hP hD hS => ?_)
  have hP : va_P G.1 vwCl (([(γ, .inr (4, [.ref (α 0), .ref (β 0), .ref (π 0), .ref (κ 0), .null, .null]))] : va_W) ++ (dW G.2.1 α dNew ++ (dW G.2.1 β dNew ++ (pW G.2.1 π p0 ++ (qW G.2.1 κ q0))))) H := hP
  have hD : va_D (va_A w0 s.heap.size) (([(γ, .inr (4, [.ref (α 0), .ref (β 0), .ref (π 0), .ref (κ 0), .null, .null]))] : va_W) ++ (dW G.2.1 α dNew ++ (dW G.2.1 β dNew ++ (pW G.2.1 π p0 ++ (qW G.2.1 κ q0))))) := hD
  refine lv_aload_n hx hb dX4_init_48 rfl (lv_at hl 0 rfl) ?_
  refine va_new (D := G.1) (ci := 1) (fs := [.null, .int 0, .int 0]) (C := RX1) (T := TX1) (N := 3) hx hb hts hinX1 tyX1 tyX1_ok hown (hts (.classLink RX4 33 RX1) (by decide +kernel)) (hts (.instantiable RX1 3) (by decide +kernel)) (hts (.initialized RX1) (by decide +kernel)) hK.1 hP hD hS hA rfl (fun j hj => by rcases (show j = 0 ∨ j = 1 ∨ j = 2 by omega) with rfl | rfl | rfl <;> rfl) (Nat.le_of_ble_eq_true rfl) (Nat.le_of_ble_eq_true rfl) dX4_init_49 (fun g H hP hD hS => ?_)
  refine lv_dup hx hb dX4_init_52 rfl ?_
  refine nwIN (As := []) (rest := [.ref g, .ref γ]) (w := w0_X1 g) (c_X1_init l G g) tAO.blind hF ⟨va_cnB (host := RX4) 0 hts gX4_init_X1_init_n35 rfl rfl rfl (hK.nest 2 rfl) (hts (.initialized RX1) (by decide +kernel)) (by decide +kernel) ⟨Nat.le_of_ble_eq_true rfl, Nat.le_of_ble_eq_true rfl⟩, rfl, hts (.instanceMethod yX1_init) (by decide +kernel)⟩ hK hP hD hS hA (fun U hU hW hF => va_AO.moved hW.alike hT.2) rfl hl.1 rfl (Nat.le_of_ble_eq_true rfl) dX4_init_53 ⟨Nat.le_of_ble_eq_true rfl, Nat.le_of_ble_eq_true rfl⟩ (fun w1 H locs hB hP hD hS => ?_)
  obtain ⟨η, rfl, rfl⟩ := hB
  have hP : va_P G.1 vwCl (([(γ, .inr (4, [.ref (α 0), .ref (β 0), .ref (π 0), .ref (κ 0), .null, .null]))] : va_W) ++ (dW G.2.1 α dNew ++ (dW G.2.1 β dNew ++ (pW G.2.1 π p0 ++ (qW G.2.1 κ q0 ++ (hW G.2.2 η h0)))))) H := hP
  have hD : va_D (va_A w0 s.heap.size) (([(γ, .inr (4, [.ref (α 0), .ref (β 0), .ref (π 0), .ref (κ 0), .null, .null]))] : va_W) ++ (dW G.2.1 α dNew ++ (dW G.2.1 β dNew ++ (pW G.2.1 π p0 ++ (qW G.2.1 κ q0 ++ (hW G.2.2 η h0)))))) := hD
  refine va_putF (D := G.1) (ci := 4) (v := .ref (η 0)) (ty := .object "GrooveTurns$History") (C := RX4) (T := TX4) (N := 6) hx hb hts hinX4 tyX4 tyX4_ok nmX4 hown hK.1 hP hD hS 0 rfl rfl 4 (by decide) (hts (.fieldLink RX4 36 "GrooveTurns" "history" "LGrooveTurns$History;") (by decide +kernel)) (fun _ h9 => h9) rfl hin rfl (by decide +kernel) rfl rfl (Nat.le_of_ble_eq_true rfl) dX4_init_56 (fun H locs hP hD hS => ?_)
  have hP : va_P G.1 vwCl (([(γ, .inr (4, [.ref (α 0), .ref (β 0), .ref (π 0), .ref (κ 0), .ref (η 0), .null]))] : va_W) ++ (dW G.2.1 α dNew ++ (dW G.2.1 β dNew ++ (pW G.2.1 π p0 ++ (qW G.2.1 κ q0 ++ (hW G.2.2 η h0)))))) H := hP
  have hD : va_D (va_A w0 s.heap.size) (([(γ, .inr (4, [.ref (α 0), .ref (β 0), .ref (π 0), .ref (κ 0), .ref (η 0), .null]))] : va_W) ++ (dW G.2.1 α dNew ++ (dW G.2.1 β dNew ++ (pW G.2.1 π p0 ++ (qW G.2.1 κ q0 ++ (hW G.2.2 η h0)))))) := hD
  refine lv_aload_n hx hb dX4_init_59 rfl (lv_at hl 0 rfl) ?_
  refine lv_iconst (v := 2) hx hb dX4_init_60 (by decide) ?_
  refine va_newd (N := 2) hx hb hown (hts (.classLink RX4 9 RX0) (by decide +kernel)) hT.2 hK hP hD hS hA (by decide) (by decide) (by decide) (Nat.le_of_ble_eq_true rfl) (Nat.le_of_ble_eq_true rfl) dX4_init_61 (fun ς H hP hD hS => ?_)
  have hP : va_P G.1 vwCl (([(γ, .inr (4, [.ref (α 0), .ref (β 0), .ref (π 0), .ref (κ 0), .ref (η 0), .null]))] : va_W) ++ (dW G.2.1 α dNew ++ (dW G.2.1 β dNew ++ (pW G.2.1 π p0 ++ (qW G.2.1 κ q0 ++ (hW G.2.2 η h0 ++ (sW G.2.2 ς (fun _ => none)))))))) H := hP
  have hD : va_D (va_A w0 s.heap.size) (([(γ, .inr (4, [.ref (α 0), .ref (β 0), .ref (π 0), .ref (κ 0), .ref (η 0), .null]))] : va_W) ++ (dW G.2.1 α dNew ++ (dW G.2.1 β dNew ++ (pW G.2.1 π p0 ++ (qW G.2.1 κ q0 ++ (hW G.2.2 η h0 ++ (sW G.2.2 ς (fun _ => none)))))))) := hD
  refine va_putF (D := G.1) (ci := 4) (v := .ref ς) (ty := .array (.object "GrooveTurns$Disc")) (C := RX4) (T := TX4) (N := 6) hx hb hts hinX4 tyX4 tyX4_ok nmX4 hown hK.1 hP hD hS 0 rfl rfl 5 (by decide) (hts (.fieldLink RX4 40 "GrooveTurns" "slots" "[LGrooveTurns$Disc;") (by decide +kernel)) (fun _ h9 => h9) rfl hin rfl (by decide +kernel) rfl rfl (Nat.le_of_ble_eq_true rfl) dX4_init_64 (fun H locs hP hD hS => ?_)
  have hP : va_P G.1 vwCl (([(γ, .inr (4, [.ref (α 0), .ref (β 0), .ref (π 0), .ref (κ 0), .ref (η 0), .ref ς]))] : va_W) ++ (dW G.2.1 α dNew ++ (dW G.2.1 β dNew ++ (pW G.2.1 π p0 ++ (qW G.2.1 κ q0 ++ (hW G.2.2 η h0 ++ (sW G.2.2 ς (fun _ => none)))))))) H := hP
  have hD : va_D (va_A w0 s.heap.size) (([(γ, .inr (4, [.ref (α 0), .ref (β 0), .ref (π 0), .ref (κ 0), .ref (η 0), .ref ς]))] : va_W) ++ (dW G.2.1 α dNew ++ (dW G.2.1 β dNew ++ (pW G.2.1 π p0 ++ (qW G.2.1 κ q0 ++ (hW G.2.2 η h0 ++ (sW G.2.2 ς (fun _ => none)))))))) := hD
  exact W.vret hx hb hr (fun t ht hW => ⟨rfl, ⟨_, ⟨α, β, π, κ, η, ς, rfl⟩, by rw [ht]; exact hP, hD⟩, hS.F ht⟩) hS.2.2 dX4_init_67
