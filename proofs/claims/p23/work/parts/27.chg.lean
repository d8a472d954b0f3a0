theorem pmA (g q p c r b h : va_W) : (g ++ (q ++ (p ++ ((c ++ r) ++ (b ++ h))))).Perm ((q ++ (p ++ (r ++ b))) ++ (g ++ (h ++ c))) := by
  haveI : DecidableEq (Nat × va_E) := fun _ _ => Classical.propDecidable _
  exact List.perm_iff_count.mpr (fun a => by simp only [List.count_append]; omega)
theorem pmX (q p c r b : va_W) : ((q ++ (p ++ (r ++ b))) ++ c).Perm (q ++ (p ++ ((c ++ r) ++ b))) := by
  haveI : DecidableEq (Nat × va_E) := fun _ _ => Classical.propDecidable _
  exact List.perm_iff_count.mpr (fun a => by simp only [List.count_append]; omega)
theorem pmE (g q p a b h : va_W) : (g ++ (q ++ (p ++ (a ++ (b ++ h))))).Perm (g ++ (h ++ (q ++ (p ++ (a ++ b))))) := by
  haveI : DecidableEq (Nat × va_E) := fun _ _ => Classical.propDecidable _
  exact List.perm_iff_count.mpr (fun a => by simp only [List.count_append]; omega)
theorem va_D0 {A : Nat → Prop} : va_D A [] := ⟨fun i j p q h => by simp at h, fun k q h => by simp at h⟩
theorem inW0 {q : Nat} (h : inW [] q) : False := by
  obtain ⟨k, e, h⟩ := h
  simp at h
def s_X4_set (ρ : QS) (ϖ : PS) (σ : DS) (τ : DS) (hs : HS) (p1 : Int32) (p2 : Int32) : Int32 × DS := (if p1 < 0 then ((-2), τ) else (if p1 < 5 then (if p2 < (s_X4_at 5 lowS p1) then ((-2), τ) else (if p2 ≤ (s_X4_at 5 highS p1) then (((s_X0_exchangeSetting (s_X4_freshTrial σ τ) p1 p2).1), ((s_X0_exchangeSetting (s_X4_freshTrial σ τ) p1 p2).2)) else ((-2), τ))) else ((-2), τ)))
set_option maxHeartbeats 4000000 in
set_option maxRecDepth 100000 in
theorem c_X4_set (l : Launch) (G : GG) (γ : Nat) (κ : Nat → Nat) (π : Nat → Nat) (α : Nat → Nat) (β : Nat → Nat) (η : Nat → Nat) (ς : Nat) (ρ : QS) (ϖ : PS) (σ : DS) (τ : DS) (ring : Nat → Option Nat) (o n : Nat) (p1 : Int32) (p2 : Int32) (tb : Nat × Nat × Nat) (ho : o < 6) (hn : n ≤ 6) (hin0 : ok_X0_init (d_st' dPre firstS)) : Nw G l yX4_set wsX4_set 5 133 6 818 [.ref γ, .int p1, .int p2] ((gW γ (α 0) (β 0) (π 0) (κ 0) (η 0) ς) ++ ((qW G.2.1 κ ρ) ++ ((pW G.2.1 π ϖ) ++ ((dW G.2.1 α σ) ++ ((dW G.2.1 β τ) ++ (hW G.2.2 η (ring, nI o, nI n))))))) (sT tb) (some (.int (s_X4_set ρ ϖ σ τ (ring, nI o, nI n) p1 p2).1)) (AP G γ η ring o n (α 0) (β 0) (π 0) (κ 0) ς ((qW G.2.1 κ ρ) ++ ((pW G.2.1 π ϖ) ++ ((dW G.2.1 α σ) ++ (dW G.2.1 β ((s_X4_set ρ ϖ σ τ (ring, nI o, nI n) p1 p2).2))))) (s_X4_set ρ ϖ σ τ (ring, nI o, nI n) p1 p2).1) := by
  intro sz
  refine Met.ofW (cc := cX4_set) (maxL := 3) (ret := (some .int)) (by decide) rfl ?_
  intro p e s m args below meth c s₁ B hml hv
  obtain ⟨rfl, hsz, hP, hK, hD0, hT⟩ := hv
  have C0 : cA p s m meth c ([.ref γ, .int p1, .int p2] : List Value).toArray cX4_set 3 (some .int) wsX4_set RX4 := ⟨B.exec, B.bytes, B.returns, hml, findClass_of_methodNamed B.named, atoms_spec (ws := wsX4_set) B.pre, B.notSynchronized⟩
  obtain ⟨hx, hb, hr, hml, hown, hts, hlocks⟩ := id C0
  have hF : CallFix p m c cX4_set 3 s _ wsX4_set RX4 := ⟨hx, hb, hml, hown, hts⟩
  subst hsz
  obtain ⟨w0, hw0⟩ : ∃ w0 : va_W, w0 = ((gW γ (α 0) (β 0) (π 0) (κ 0) (η 0) ς) ++ ((qW G.2.1 κ ρ) ++ ((pW G.2.1 π ϖ) ++ ((dW G.2.1 α σ) ++ ((dW G.2.1 β τ) ++ (hW G.2.2 η (ring, nI o, nI n))))))) := ⟨_, rfl⟩
  have hD : va_D (va_A w0 s.heap.size) ((gW γ (α 0) (β 0) (π 0) (κ 0) (η 0) ς) ++ ((qW G.2.1 κ ρ) ++ ((pW G.2.1 π ϖ) ++ ((dW G.2.1 α σ) ++ ((dW G.2.1 β τ) ++ (hW G.2.2 η (ring, nI o, nI n))))))) := by rw [hw0]; exact hD0.self
  have hA : ∀ q : Nat, s.heap.size ≤ q → va_A w0 s.heap.size q := fun q h => Or.inr h
  rw [← hw0] at hT
  rw [show QN G ((gW γ (α 0) (β 0) (π 0) (κ 0) (η 0) ς) ++ ((qW G.2.1 κ ρ) ++ ((pW G.2.1 π ϖ) ++ ((dW G.2.1 α σ) ++ ((dW G.2.1 β τ) ++ (hW G.2.2 η (ring, nI o, nI n))))))) = QN G w0 from by rw [hw0], show va_A ((gW γ (α 0) (β 0) (π 0) (κ 0) (η 0) ς) ++ ((qW G.2.1 κ ρ) ++ ((pW G.2.1 π ϖ) ++ ((dW G.2.1 α σ) ++ ((dW G.2.1 β τ) ++ (hW G.2.2 η (ring, nI o, nI n))))))) s.heap.size = va_A w0 s.heap.size from by rw [hw0]]
  have hS : va_S (va_A w0 s.heap.size) s.heap s.heap [] := va_S.rf
  have hl := lv_entry ([.ref γ, .int p1, .int p2]) (n := 3) (Nat.le_of_ble_eq_true rfl)
  rw [lg_entry_eq]
  generalize (lg_sl ([.ref γ, .int p1, .int p2]) ++ List.replicate (3 - (lg_sl ([.ref γ, .int p1, .int p2])).length) Slot.unset).toArray = ls at hl ⊢
  have hl : lv_has ls 3 [(0, .ref γ), (1, .int p1), (2, .int p2)] := hl
  refine lv_iload_n hx hb dX4_set_0 rfl (lv_at hl 1 rfl) ?_
  refine lv_if_lt (tgt := 12) hx hb dX4_set_1 (by decide) (fun (c_1 : p1 < 0) => ?_) (fun (c_1 : ¬ p1 < 0) => ?_)
  · skip
    refine lv_bipush (v := (-2)) hx hb dX4_set_12 (by decide) ?_
    have E9 : s_X4_set ρ ϖ σ τ (ring, nI o, nI n) p1 p2 = ((-2), τ) := by rw [s_X4_set]; rw [if_pos c_1]
    rw [pr1 E9, pr2 E9]
    refine W.widen (k := 6) (n := 818) (Nat.zero_le _) (Nat.zero_le _) ?_
    exact W.iret hx hb hr (fun t ht hW => ⟨rfl, ⟨_, Or.inl ⟨(by decide), rfl⟩, by rw [ht]; exact hP.perm (pmE _ _ _ _ _ _), hD.perm (pmE _ _ _ _ _ _)⟩, hS.F ht⟩) hS.2.2 dX4_set_14
  · skip
    refine lv_iload_n hx hb dX4_set_4 rfl (lv_at hl 1 rfl) ?_
    refine va_gets hx hb hT.1.1 hS hown (hts (.fieldLink RX4 44 "GrooveTurns" "FIRST_SETTINGS" "[I") (by decide +kernel)) (fun _ h9 => h9) dX4_set_5 ?_
    refine va_tlen (v := 5) hx hb hT.1.2 hS rfl dX4_set_8 ?_
    refine lv_icmp_lt (tgt := 15) hx hb dX4_set_9 (by decide) (fun (c_2 : p1 < 5) => ?_) (fun (c_2 : ¬ p1 < 5) => ?_)
    · skip
      refine lv_iload_n hx hb dX4_set_15 rfl (lv_at hl 2 rfl) ?_
      refine va_gets hx hb hT.2.1.1 hS hown (hts (.fieldLink RX4 48 "GrooveTurns" "LOWEST_SETTINGS" "[I") (by decide +kernel)) (fun _ h9 => h9) dX4_set_16 ?_
      refine lv_iload_n hx hb dX4_set_19 rfl (lv_at hl 1 rfl) ?_
      refine rd_go (rest := [.int p2]) (va_runS (As := [.ref tb.2.1, .int p1]) hF (c_X4_atT l G tb.2.1 5 lowS p1 (by decide)) (va_cwS 2 hts gX4_set_X4_at rfl rfl rfl (by decide +kernel) ⟨Nat.le_of_ble_eq_true rfl, Nat.le_of_ble_eq_true rfl⟩) ⟨PT.blind, fun U hU hW => ⟨rfl, va_P0, hK.warm hW, va_D0, hT.2.1.2.to hS (fun q h9 => (inW0 h9).elim) hU hW⟩⟩ rfl rfl hl.1 rfl (lv_room (Nat.le_of_ble_eq_true rfl)) dX4_set_20 ⟨Nat.zero_le _, Nat.zero_le _⟩) ?_
      refine lv_icmp_lt (tgt := 37) hx hb dX4_set_23 (by decide) (fun (c_3 : p2 < (s_X4_at 5 lowS p1)) => ?_) (fun (c_3 : ¬ p2 < (s_X4_at 5 lowS p1)) => ?_)
      · skip
        refine lv_bipush (v := (-2)) hx hb dX4_set_37 (by decide) ?_
        have E9 : s_X4_set ρ ϖ σ τ (ring, nI o, nI n) p1 p2 = ((-2), τ) := by rw [s_X4_set]; rw [if_neg c_1, if_pos c_2, if_pos c_3]
        rw [pr1 E9, pr2 E9]
        refine W.widen (k := 6) (n := 818) (Nat.zero_le _) (Nat.zero_le _) ?_
        exact W.iret hx hb hr (fun t ht hW => ⟨rfl, ⟨_, Or.inl ⟨(by decide), rfl⟩, by rw [ht]; exact hP.perm (pmE _ _ _ _ _ _), hD.perm (pmE _ _ _ _ _ _)⟩, hS.F ht⟩) hS.2.2 dX4_set_39
      · skip
        refine lv_iload_n hx hb dX4_set_26 rfl (lv_at hl 2 rfl) ?_
        refine va_gets hx hb hT.2.2.1 hS hown (hts (.fieldLink RX4 55 "GrooveTurns" "HIGHEST_SETTINGS" "[I") (by decide +kernel)) (fun _ h9 => h9) dX4_set_27 ?_
        refine lv_iload_n hx hb dX4_set_30 rfl (lv_at hl 1 rfl) ?_
        refine rd_go (rest := [.int p2]) (va_runS (As := [.ref tb.2.2, .int p1]) hF (c_X4_atT l G tb.2.2 5 highS p1 (by decide)) (va_cwS 2 hts gX4_set_X4_at rfl rfl rfl (by decide +kernel) ⟨Nat.le_of_ble_eq_true rfl, Nat.le_of_ble_eq_true rfl⟩) ⟨PT.blind, fun U hU hW => ⟨rfl, va_P0, hK.warm hW, va_D0, hT.2.2.2.to hS (fun q h9 => (inW0 h9).elim) hU hW⟩⟩ rfl rfl hl.1 rfl (lv_room (Nat.le_of_ble_eq_true rfl)) dX4_set_31 ⟨Nat.zero_le _, Nat.zero_le _⟩) ?_
        refine lv_icmp_le (tgt := 40) hx hb dX4_set_34 (by decide) (fun (c_4 : p2 ≤ (s_X4_at 5 highS p1)) => ?_) (fun (c_4 : ¬ p2 ≤ (s_X4_at 5 highS p1)) => ?_)
        · skip
          refine lv_aload_n hx hb dX4_set_40 rfl (lv_at hl 0 rfl) ?_
          refine lv_aload_n hx hb dX4_set_41 rfl (lv_at hl 0 rfl) ?_
          refine wrVP (W1 := ((gW γ (α 0) (β 0) (π 0) (κ 0) (η 0) ς) ++ ((qW G.2.1 κ ρ) ++ ((pW G.2.1 π ϖ) ++ ((dW G.2.1 α σ) ++ ((dW G.2.1 β (s_X4_freshTrial σ τ)) ++ (hW G.2.2 η (ring, nI o, nI n)))))))) (As := []) (rest := [.ref γ]) (c_X4_freshTrial l G γ α β π κ η ς σ τ) hF (cwV 0 hts gX4_set_X4_freshTrial rfl rfl rfl (by decide +kernel) ⟨Nat.le_of_ble_eq_true rfl, Nat.le_of_ble_eq_true rfl⟩) (va_recv hK.1 hP (ci := 4) (q0 := 0) rfl rfl) hK hP hD hS (pm6_034125_3 _ _ _ _ _ _) (pm6_034125_3 _ _ _ _ _ _).symm ((fst_app (fst_G) (fst_app (fst_D _ _) (fst_D _ _)))) rfl hl.1 rfl (Nat.le_of_ble_eq_true rfl) dX4_set_42 ⟨Nat.zero_le _, Nat.zero_le _⟩ (fun H locs hP hD hS => ?_)
          have hP : va_P G.1 vwCl ((gW γ (α 0) (β 0) (π 0) (κ 0) (η 0) ς) ++ ((qW G.2.1 κ ρ) ++ ((pW G.2.1 π ϖ) ++ ((dW G.2.1 α σ) ++ ((dW G.2.1 β (s_X4_freshTrial σ τ)) ++ (hW G.2.2 η (ring, nI o, nI n))))))) H := hP
          have hD : va_D (va_A w0 s.heap.size) ((gW γ (α 0) (β 0) (π 0) (κ 0) (η 0) ς) ++ ((qW G.2.1 κ ρ) ++ ((pW G.2.1 π ϖ) ++ ((dW G.2.1 α σ) ++ ((dW G.2.1 β (s_X4_freshTrial σ τ)) ++ (hW G.2.2 η (ring, nI o, nI n))))))) := hD
          refine lv_iload_n hx hb dX4_set_45 rfl (lv_at hl 1 rfl) ?_
          refine lv_iload_n hx hb dX4_set_46 rfl (lv_at hl 2 rfl) ?_
          refine wrVP (W1 := ((gW γ (α 0) (β 0) (π 0) (κ 0) (η 0) ς) ++ ((qW G.2.1 κ ρ) ++ ((pW G.2.1 π ϖ) ++ ((dW G.2.1 α σ) ++ ((dW G.2.1 β ((s_X0_exchangeSetting (s_X4_freshTrial σ τ) p1 p2).2)) ++ (hW G.2.2 η (ring, nI o, nI n)))))))) (As := [.int p1, .int p2]) (rest := [.ref γ]) (c_X0_exchangeSetting l G β (s_X4_freshTrial σ τ) p1 p2) hF (cwV 2 hts gX4_set_X0_exchangeSetting rfl rfl rfl (by decide +kernel) ⟨Nat.le_of_ble_eq_true rfl, Nat.le_of_ble_eq_true rfl⟩) (va_recv hK.1 hP (ci := 0) (q0 := 13) rfl rfl) hK hP hD hS (pm6_401235_1 _ _ _ _ _ _) (pm6_401235_1 _ _ _ _ _ _).symm ((fst_D _ _)) rfl hl.1 rfl (Nat.le_of_ble_eq_true rfl) dX4_set_47 ⟨Nat.zero_le _, Nat.zero_le _⟩ (fun H locs hP hD hS => ?_)
          have hP : va_P G.1 vwCl ((gW γ (α 0) (β 0) (π 0) (κ 0) (η 0) ς) ++ ((qW G.2.1 κ ρ) ++ ((pW G.2.1 π ϖ) ++ ((dW G.2.1 α σ) ++ ((dW G.2.1 β ((s_X0_exchangeSetting (s_X4_freshTrial σ τ) p1 p2).2)) ++ (hW G.2.2 η (ring, nI o, nI n))))))) H := hP
          have hD : va_D (va_A w0 s.heap.size) ((gW γ (α 0) (β 0) (π 0) (κ 0) (η 0) ς) ++ ((qW G.2.1 κ ρ) ++ ((pW G.2.1 π ϖ) ++ ((dW G.2.1 α σ) ++ ((dW G.2.1 β ((s_X0_exchangeSetting (s_X4_freshTrial σ τ) p1 p2).2)) ++ (hW G.2.2 η (ring, nI o, nI n))))))) := hD
          refine nwVP (As := [.int ((s_X0_exchangeSetting (s_X4_freshTrial σ τ) p1 p2).1)]) (rest := []) (c_X4_adopt l G γ η ring o n (α 0) (β 0) (π 0) (κ 0) ς (dF α σ) ((s_X0_exchangeSetting (s_X4_freshTrial σ τ) p1 p2).1) tb ho hn hin0) sT.blind hF (cwV 1 hts gX4_set_X4_adopt rfl rfl rfl (by decide +kernel) ⟨Nat.le_of_ble_eq_true rfl, Nat.le_of_ble_eq_true rfl⟩) (va_recv hK.1 hP (ci := 4) (q0 := 0) rfl rfl) hK hP hD hS hA (pmA (gW γ (α 0) (β 0) (π 0) (κ 0) (η 0) ς) (qW G.2.1 κ ρ) (pW G.2.1 π ϖ) [(α 0, .inr (0, dF α σ))] (dR G.2.1 α σ) (dW G.2.1 β ((s_X0_exchangeSetting (s_X4_freshTrial σ τ) p1 p2).2)) (hW G.2.2 η (ring, nI o, nI n))) (fun U hU hW hF => hT.to hS hF hU hW) rfl hl.1 rfl (Nat.le_of_ble_eq_true rfl) dX4_set_50 ⟨Nat.le_of_ble_eq_true rfl, Nat.le_of_ble_eq_true rfl⟩ (fun w1 H locs hB hP hD hS => ?_)
          obtain ⟨w2, hB2, hpm⟩ := hB.mv (pmX (qW G.2.1 κ ρ) (pW G.2.1 π ϖ) [(α 0, .inr (0, dF α σ))] (dR G.2.1 α σ) (dW G.2.1 β ((s_X0_exchangeSetting (s_X4_freshTrial σ τ) p1 p2).2)))
          have E9 : s_X4_set ρ ϖ σ τ (ring, nI o, nI n) p1 p2 = (((s_X0_exchangeSetting (s_X4_freshTrial σ τ) p1 p2).1), ((s_X0_exchangeSetting (s_X4_freshTrial σ τ) p1 p2).2)) := by rw [s_X4_set]; rw [if_neg c_1, if_pos c_2, if_neg c_3, if_pos c_4]
          rw [pr1 E9, pr2 E9]
          exact W.iret hx hb hr (fun t ht hW => ⟨rfl, ⟨w2, hB2, by rw [ht]; exact hP.perm hpm, hD.perm hpm⟩, hS.F ht⟩) hS.2.2 dX4_set_53
        · skip
          refine lv_bipush (v := (-2)) hx hb dX4_set_37 (by decide) ?_
          have E9 : s_X4_set ρ ϖ σ τ (ring, nI o, nI n) p1 p2 = ((-2), τ) := by rw [s_X4_set]; rw [if_neg c_1, if_pos c_2, if_neg c_3, if_neg c_4]
          rw [pr1 E9, pr2 E9]
          refine W.widen (k := 6) (n := 818) (Nat.zero_le _) (Nat.zero_le _) ?_
          exact W.iret hx hb hr (fun t ht hW => ⟨rfl, ⟨_, Or.inl ⟨(by decide), rfl⟩, by rw [ht]; exact hP.perm (pmE _ _ _ _ _ _), hD.perm (pmE _ _ _ _ _ _)⟩, hS.F ht⟩) hS.2.2 dX4_set_39
    · skip
      refine lv_bipush (v := (-2)) hx hb dX4_set_12 (by decide) ?_
      have E9 : s_X4_set ρ ϖ σ τ (ring, nI o, nI n) p1 p2 = ((-2), τ) := by rw [s_X4_set]; rw [if_neg c_1, if_neg c_2]
      rw [pr1 E9, pr2 E9]
      refine W.widen (k := 6) (n := 818) (Nat.zero_le _) (Nat.zero_le _) ?_
      exact W.iret hx hb hr (fun t ht hW => ⟨rfl, ⟨_, Or.inl ⟨(by decide), rfl⟩, by rw [ht]; exact hP.perm (pmE _ _ _ _ _ _), hD.perm (pmE _ _ _ _ _ _)⟩, hS.F ht⟩) hS.2.2 dX4_set_14
def s_X4_write (ρ : QS) (ϖ : PS) (σ : DS) (τ : DS) (hs : HS) (p1 : Int32) (p2 : Int32) : Int32 × DS := (if (s_X4_isAddress p1) = 0 then ((-1), τ) else (if p2 < 0 then ((-2), τ) else (if p2 ≤ 255 then (((s_X0_writeTo (s_X4_freshTrial σ τ) p1 p2).1), ((s_X0_writeTo (s_X4_freshTrial σ τ) p1 p2).2)) else ((-2), τ))))
set_option maxHeartbeats 4000000 in
set_option maxRecDepth 100000 in
theorem c_X4_write (l : Launch) (G : GG) (γ : Nat) (κ : Nat → Nat) (π : Nat → Nat) (α : Nat → Nat) (β : Nat → Nat) (η : Nat → Nat) (ς : Nat) (ρ : QS) (ϖ : PS) (σ : DS) (τ : DS) (ring : Nat → Option Nat) (o n : Nat) (p1 : Int32) (p2 : Int32) (tb : Nat × Nat × Nat) (ho : o < 6) (hn : n ≤ 6) (hin0 : ok_X0_init (d_st' dPre firstS)) : Nw G l yX4_write wsX4_write 5 133 6 818 [.ref γ, .int p1, .int p2] ((gW γ (α 0) (β 0) (π 0) (κ 0) (η 0) ς) ++ ((qW G.2.1 κ ρ) ++ ((pW G.2.1 π ϖ) ++ ((dW G.2.1 α σ) ++ ((dW G.2.1 β τ) ++ (hW G.2.2 η (ring, nI o, nI n))))))) (sT tb) (some (.int (s_X4_write ρ ϖ σ τ (ring, nI o, nI n) p1 p2).1)) (AP G γ η ring o n (α 0) (β 0) (π 0) (κ 0) ς ((qW G.2.1 κ ρ) ++ ((pW G.2.1 π ϖ) ++ ((dW G.2.1 α σ) ++ (dW G.2.1 β ((s_X4_write ρ ϖ σ τ (ring, nI o, nI n) p1 p2).2))))) (s_X4_write ρ ϖ σ τ (ring, nI o, nI n) p1 p2).1) := by
  intro sz
  refine Met.ofW (cc := cX4_write) (maxL := 3) (ret := (some .int)) (by decide) rfl ?_
  intro p e s m args below meth c s₁ B hml hv
  obtain ⟨rfl, hsz, hP, hK, hD0, hT⟩ := hv
  have C0 : cA p s m meth c ([.ref γ, .int p1, .int p2] : List Value).toArray cX4_write 3 (some .int) wsX4_write RX4 := ⟨B.exec, B.bytes, B.returns, hml, findClass_of_methodNamed B.named, atoms_spec (ws := wsX4_write) B.pre, B.notSynchronized⟩
  obtain ⟨hx, hb, hr, hml, hown, hts, hlocks⟩ := id C0
  have hF : CallFix p m c cX4_write 3 s _ wsX4_write RX4 := ⟨hx, hb, hml, hown, hts⟩
  subst hsz
  obtain ⟨w0, hw0⟩ : ∃ w0 : va_W, w0 = ((gW γ (α 0) (β 0) (π 0) (κ 0) (η 0) ς) ++ ((qW G.2.1 κ ρ) ++ ((pW G.2.1 π ϖ) ++ ((dW G.2.1 α σ) ++ ((dW G.2.1 β τ) ++ (hW G.2.2 η (ring, nI o, nI n))))))) := ⟨_, rfl⟩
  have hD : va_D (va_A w0 s.heap.size) ((gW γ (α 0) (β 0) (π 0) (κ 0) (η 0) ς) ++ ((qW G.2.1 κ ρ) ++ ((pW G.2.1 π ϖ) ++ ((dW G.2.1 α σ) ++ ((dW G.2.1 β τ) ++ (hW G.2.2 η (ring, nI o, nI n))))))) := by rw [hw0]; exact hD0.self
  have hA : ∀ q : Nat, s.heap.size ≤ q → va_A w0 s.heap.size q := fun q h => Or.inr h
  rw [← hw0] at hT
  rw [show QN G ((gW γ (α 0) (β 0) (π 0) (κ 0) (η 0) ς) ++ ((qW G.2.1 κ ρ) ++ ((pW G.2.1 π ϖ) ++ ((dW G.2.1 α σ) ++ ((dW G.2.1 β τ) ++ (hW G.2.2 η (ring, nI o, nI n))))))) = QN G w0 from by rw [hw0], show va_A ((gW γ (α 0) (β 0) (π 0) (κ 0) (η 0) ς) ++ ((qW G.2.1 κ ρ) ++ ((pW G.2.1 π ϖ) ++ ((dW G.2.1 α σ) ++ ((dW G.2.1 β τ) ++ (hW G.2.2 η (ring, nI o, nI n))))))) s.heap.size = va_A w0 s.heap.size from by rw [hw0]]
  have hS : va_S (va_A w0 s.heap.size) s.heap s.heap [] := va_S.rf
  have hl := lv_entry ([.ref γ, .int p1, .int p2]) (n := 3) (Nat.le_of_ble_eq_true rfl)
  rw [lg_entry_eq]
  generalize (lg_sl ([.ref γ, .int p1, .int p2]) ++ List.replicate (3 - (lg_sl ([.ref γ, .int p1, .int p2])).length) Slot.unset).toArray = ls at hl ⊢
  have hl : lv_has ls 3 [(0, .ref γ), (1, .int p1), (2, .int p2)] := hl
  refine lv_iload_n hx hb dX4_write_0 rfl (lv_at hl 1 rfl) ?_
  refine rdS (As := [.int p1]) (rest := []) (c_X4_isAddress l G p1) hF (va_cwS 1 hts gX4_write_X4_isAddress rfl rfl rfl (by decide +kernel) ⟨Nat.le_of_ble_eq_true rfl, Nat.le_of_ble_eq_true rfl⟩) hK va_P0 rfl hl.1 rfl (Nat.le_of_ble_eq_true rfl) dX4_write_1 ⟨Nat.zero_le _, Nat.zero_le _⟩ ?_
  refine lv_if_ne (tgt := 9) hx hb dX4_write_4 (by decide) (fun (c_1 : ¬ (s_X4_isAddress p1) = 0) => ?_) (fun (c_1 : (s_X4_isAddress p1) = 0) => ?_)
  · skip
    refine lv_iload_n hx hb dX4_write_9 rfl (lv_at hl 2 rfl) ?_
    refine lv_if_lt (tgt := 20) hx hb dX4_write_10 (by decide) (fun (c_2 : p2 < 0) => ?_) (fun (c_2 : ¬ p2 < 0) => ?_)
    · skip
      refine lv_bipush (v := (-2)) hx hb dX4_write_20 (by decide) ?_
      have E9 : s_X4_write ρ ϖ σ τ (ring, nI o, nI n) p1 p2 = ((-2), τ) := by rw [s_X4_write]; rw [if_neg c_1, if_pos c_2]
      rw [pr1 E9, pr2 E9]
      refine W.widen (k := 6) (n := 818) (Nat.zero_le _) (Nat.zero_le _) ?_
      exact W.iret hx hb hr (fun t ht hW => ⟨rfl, ⟨_, Or.inl ⟨(by decide), rfl⟩, by rw [ht]; exact hP.perm (pmE _ _ _ _ _ _), hD.perm (pmE _ _ _ _ _ _)⟩, hS.F ht⟩) hS.2.2 dX4_write_22
    · skip
      refine lv_iload_n hx hb dX4_write_13 rfl (lv_at hl 2 rfl) ?_
      refine lv_sipush (v := 255) hx hb dX4_write_14 (by decide) ?_
      refine lv_icmp_le (tgt := 23) hx hb dX4_write_17 (by decide) (fun (c_3 : p2 ≤ 255) => ?_) (fun (c_3 : ¬ p2 ≤ 255) => ?_)
      · skip
        refine lv_aload_n hx hb dX4_write_23 rfl (lv_at hl 0 rfl) ?_
        refine lv_aload_n hx hb dX4_write_24 rfl (lv_at hl 0 rfl) ?_
        refine wrVP (W1 := ((gW γ (α 0) (β 0) (π 0) (κ 0) (η 0) ς) ++ ((qW G.2.1 κ ρ) ++ ((pW G.2.1 π ϖ) ++ ((dW G.2.1 α σ) ++ ((dW G.2.1 β (s_X4_freshTrial σ τ)) ++ (hW G.2.2 η (ring, nI o, nI n)))))))) (As := []) (rest := [.ref γ]) (c_X4_freshTrial l G γ α β π κ η ς σ τ) hF (cwV 0 hts gX4_write_X4_freshTrial rfl rfl rfl (by decide +kernel) ⟨Nat.le_of_ble_eq_true rfl, Nat.le_of_ble_eq_true rfl⟩) (va_recv hK.1 hP (ci := 4) (q0 := 0) rfl rfl) hK hP hD hS (pm6_034125_3 _ _ _ _ _ _) (pm6_034125_3 _ _ _ _ _ _).symm ((fst_app (fst_G) (fst_app (fst_D _ _) (fst_D _ _)))) rfl hl.1 rfl (Nat.le_of_ble_eq_true rfl) dX4_write_25 ⟨Nat.zero_le _, Nat.zero_le _⟩ (fun H locs hP hD hS => ?_)
        have hP : va_P G.1 vwCl ((gW γ (α 0) (β 0) (π 0) (κ 0) (η 0) ς) ++ ((qW G.2.1 κ ρ) ++ ((pW G.2.1 π ϖ) ++ ((dW G.2.1 α σ) ++ ((dW G.2.1 β (s_X4_freshTrial σ τ)) ++ (hW G.2.2 η (ring, nI o, nI n))))))) H := hP
        have hD : va_D (va_A w0 s.heap.size) ((gW γ (α 0) (β 0) (π 0) (κ 0) (η 0) ς) ++ ((qW G.2.1 κ ρ) ++ ((pW G.2.1 π ϖ) ++ ((dW G.2.1 α σ) ++ ((dW G.2.1 β (s_X4_freshTrial σ τ)) ++ (hW G.2.2 η (ring, nI o, nI n))))))) := hD
        refine lv_iload_n hx hb dX4_write_28 rfl (lv_at hl 1 rfl) ?_
        refine lv_iload_n hx hb dX4_write_29 rfl (lv_at hl 2 rfl) ?_
        refine wrVP (W1 := ((gW γ (α 0) (β 0) (π 0) (κ 0) (η 0) ς) ++ ((qW G.2.1 κ ρ) ++ ((pW G.2.1 π ϖ) ++ ((dW G.2.1 α σ) ++ ((dW G.2.1 β ((s_X0_writeTo (s_X4_freshTrial σ τ) p1 p2).2)) ++ (hW G.2.2 η (ring, nI o, nI n)))))))) (As := [.int p1, .int p2]) (rest := [.ref γ]) (c_X0_writeTo l G β (s_X4_freshTrial σ τ) p1 p2) hF (cwV 2 hts gX4_write_X0_writeTo rfl rfl rfl (by decide +kernel) ⟨Nat.le_of_ble_eq_true rfl, Nat.le_of_ble_eq_true rfl⟩) (va_recv hK.1 hP (ci := 0) (q0 := 13) rfl rfl) hK hP hD hS (pm6_401235_1 _ _ _ _ _ _) (pm6_401235_1 _ _ _ _ _ _).symm ((fst_D _ _)) rfl hl.1 rfl (Nat.le_of_ble_eq_true rfl) dX4_write_30 ⟨Nat.zero_le _, Nat.zero_le _⟩ (fun H locs hP hD hS => ?_)
        have hP : va_P G.1 vwCl ((gW γ (α 0) (β 0) (π 0) (κ 0) (η 0) ς) ++ ((qW G.2.1 κ ρ) ++ ((pW G.2.1 π ϖ) ++ ((dW G.2.1 α σ) ++ ((dW G.2.1 β ((s_X0_writeTo (s_X4_freshTrial σ τ) p1 p2).2)) ++ (hW G.2.2 η (ring, nI o, nI n))))))) H := hP
        have hD : va_D (va_A w0 s.heap.size) ((gW γ (α 0) (β 0) (π 0) (κ 0) (η 0) ς) ++ ((qW G.2.1 κ ρ) ++ ((pW G.2.1 π ϖ) ++ ((dW G.2.1 α σ) ++ ((dW G.2.1 β ((s_X0_writeTo (s_X4_freshTrial σ τ) p1 p2).2)) ++ (hW G.2.2 η (ring, nI o, nI n))))))) := hD
        refine nwVP (As := [.int ((s_X0_writeTo (s_X4_freshTrial σ τ) p1 p2).1)]) (rest := []) (c_X4_adopt l G γ η ring o n (α 0) (β 0) (π 0) (κ 0) ς (dF α σ) ((s_X0_writeTo (s_X4_freshTrial σ τ) p1 p2).1) tb ho hn hin0) sT.blind hF (cwV 1 hts gX4_write_X4_adopt rfl rfl rfl (by decide +kernel) ⟨Nat.le_of_ble_eq_true rfl, Nat.le_of_ble_eq_true rfl⟩) (va_recv hK.1 hP (ci := 4) (q0 := 0) rfl rfl) hK hP hD hS hA (pmA (gW γ (α 0) (β 0) (π 0) (κ 0) (η 0) ς) (qW G.2.1 κ ρ) (pW G.2.1 π ϖ) [(α 0, .inr (0, dF α σ))] (dR G.2.1 α σ) (dW G.2.1 β ((s_X0_writeTo (s_X4_freshTrial σ τ) p1 p2).2)) (hW G.2.2 η (ring, nI o, nI n))) (fun U hU hW hF => hT.to hS hF hU hW) rfl hl.1 rfl (Nat.le_of_ble_eq_true rfl) dX4_write_33 ⟨Nat.le_of_ble_eq_true rfl, Nat.le_of_ble_eq_true rfl⟩ (fun w1 H locs hB hP hD hS => ?_)
        obtain ⟨w2, hB2, hpm⟩ := hB.mv (pmX (qW G.2.1 κ ρ) (pW G.2.1 π ϖ) [(α 0, .inr (0, dF α σ))] (dR G.2.1 α σ) (dW G.2.1 β ((s_X0_writeTo (s_X4_freshTrial σ τ) p1 p2).2)))
        have E9 : s_X4_write ρ ϖ σ τ (ring, nI o, nI n) p1 p2 = (((s_X0_writeTo (s_X4_freshTrial σ τ) p1 p2).1), ((s_X0_writeTo (s_X4_freshTrial σ τ) p1 p2).2)) := by rw [s_X4_write]; rw [if_neg c_1, if_neg c_2, if_pos c_3]
        rw [pr1 E9, pr2 E9]
        exact W.iret hx hb hr (fun t ht hW => ⟨rfl, ⟨w2, hB2, by rw [ht]; exact hP.perm hpm, hD.perm hpm⟩, hS.F ht⟩) hS.2.2 dX4_write_36
      · skip
        refine lv_bipush (v := (-2)) hx hb dX4_write_20 (by decide) ?_
        have E9 : s_X4_write ρ ϖ σ τ (ring, nI o, nI n) p1 p2 = ((-2), τ) := by rw [s_X4_write]; rw [if_neg c_1, if_neg c_2, if_neg c_3]
        rw [pr1 E9, pr2 E9]
        refine W.widen (k := 6) (n := 818) (Nat.zero_le _) (Nat.zero_le _) ?_
        exact W.iret hx hb hr (fun t ht hW => ⟨rfl, ⟨_, Or.inl ⟨(by decide), rfl⟩, by rw [ht]; exact hP.perm (pmE _ _ _ _ _ _), hD.perm (pmE _ _ _ _ _ _)⟩, hS.F ht⟩) hS.2.2 dX4_write_22
  · skip
    refine lv_iconst (v := (-1)) hx hb dX4_write_7 (by decide) ?_
    have E9 : s_X4_write ρ ϖ σ τ (ring, nI o, nI n) p1 p2 = ((-1), τ) := by rw [s_X4_write]; rw [if_pos c_1]
    rw [pr1 E9, pr2 E9]
    refine W.widen (k := 6) (n := 818) (Nat.zero_le _) (Nat.zero_le _) ?_
    exact W.iret hx hb hr (fun t ht hW => ⟨rfl, ⟨_, Or.inl ⟨(by decide), rfl⟩, by rw [ht]; exact hP.perm (pmE _ _ _ _ _ _), hD.perm (pmE _ _ _ _ _ _)⟩, hS.F ht⟩) hS.2.2 dX4_write_8
def s_X4_read (ρ : QS) (ϖ : PS) (σ : DS) (τ : DS) (hs : HS) (p1 : Int32) : Int32 × DS := (if (s_X4_isAddress p1) = 0 then ((-1), τ) else (((s_X0_readFrom (s_X4_freshTrial σ τ) p1).1), ((s_X0_readFrom (s_X4_freshTrial σ τ) p1).2)))
set_option maxHeartbeats 4000000 in
set_option maxRecDepth 100000 in
theorem c_X4_read (l : Launch) (G : GG) (γ : Nat) (κ : Nat → Nat) (π : Nat → Nat) (α : Nat → Nat) (β : Nat → Nat) (η : Nat → Nat) (ς : Nat) (ρ : QS) (ϖ : PS) (σ : DS) (τ : DS) (ring : Nat → Option Nat) (o n : Nat) (p1 : Int32) (tb : Nat × Nat × Nat) (ho : o < 6) (hn : n ≤ 6) (hin0 : ok_X0_init (d_st' dPre firstS)) : Nw G l yX4_read wsX4_read 5 133 6 818 [.ref γ, .int p1] ((gW γ (α 0) (β 0) (π 0) (κ 0) (η 0) ς) ++ ((qW G.2.1 κ ρ) ++ ((pW G.2.1 π ϖ) ++ ((dW G.2.1 α σ) ++ ((dW G.2.1 β τ) ++ (hW G.2.2 η (ring, nI o, nI n))))))) (sT tb) (some (.int (s_X4_read ρ ϖ σ τ (ring, nI o, nI n) p1).1)) (AP G γ η ring o n (α 0) (β 0) (π 0) (κ 0) ς ((qW G.2.1 κ ρ) ++ ((pW G.2.1 π ϖ) ++ ((dW G.2.1 α σ) ++ (dW G.2.1 β ((s_X4_read ρ ϖ σ τ (ring, nI o, nI n) p1).2))))) (s_X4_read ρ ϖ σ τ (ring, nI o, nI n) p1).1) := by
  intro sz
  refine Met.ofW (cc := cX4_read) (maxL := 2) (ret := (some .int)) (by decide) rfl ?_
  intro p e s m args below meth c s₁ B hml hv
  obtain ⟨rfl, hsz, hP, hK, hD0, hT⟩ := hv
  have C0 : cA p s m meth c ([.ref γ, .int p1] : List Value).toArray cX4_read 2 (some .int) wsX4_read RX4 := ⟨B.exec, B.bytes, B.returns, hml, findClass_of_methodNamed B.named, atoms_spec (ws := wsX4_read) B.pre, B.notSynchronized⟩
  obtain ⟨hx, hb, hr, hml, hown, hts, hlocks⟩ := id C0
  have hF : CallFix p m c cX4_read 2 s _ wsX4_read RX4 := ⟨hx, hb, hml, hown, hts⟩
  subst hsz
  obtain ⟨w0, hw0⟩ : ∃ w0 : va_W, w0 = ((gW γ (α 0) (β 0) (π 0) (κ 0) (η 0) ς) ++ ((qW G.2.1 κ ρ) ++ ((pW G.2.1 π ϖ) ++ ((dW G.2.1 α σ) ++ ((dW G.2.1 β τ) ++ (hW G.2.2 η (ring, nI o, nI n))))))) := ⟨_, rfl⟩
  have hD : va_D (va_A w0 s.heap.size) ((gW γ (α 0) (β 0) (π 0) (κ 0) (η 0) ς) ++ ((qW G.2.1 κ ρ) ++ ((pW G.2.1 π ϖ) ++ ((dW G.2.1 α σ) ++ ((dW G.2.1 β τ) ++ (hW G.2.2 η (ring, nI o, nI n))))))) := by rw [hw0]; exact hD0.self
  have hA : ∀ q : Nat, s.heap.size ≤ q → va_A w0 s.heap.size q := fun q h => Or.inr h
  rw [← hw0] at hT
  rw [show QN G ((gW γ (α 0) (β 0) (π 0) (κ 0) (η 0) ς) ++ ((qW G.2.1 κ ρ) ++ ((pW G.2.1 π ϖ) ++ ((dW G.2.1 α σ) ++ ((dW G.2.1 β τ) ++ (hW G.2.2 η (ring, nI o, nI n))))))) = QN G w0 from by rw [hw0], show va_A ((gW γ (α 0) (β 0) (π 0) (κ 0) (η 0) ς) ++ ((qW G.2.1 κ ρ) ++ ((pW G.2.1 π ϖ) ++ ((dW G.2.1 α σ) ++ ((dW G.2.1 β τ) ++ (hW G.2.2 η (ring, nI o, nI n))))))) s.heap.size = va_A w0 s.heap.size from by rw [hw0]]
  have hS : va_S (va_A w0 s.heap.size) s.heap s.heap [] := va_S.rf
  have hl := lv_entry ([.ref γ, .int p1]) (n := 2) (Nat.le_of_ble_eq_true rfl)
  rw [lg_entry_eq]
  generalize (lg_sl ([.ref γ, .int p1]) ++ List.replicate (2 - (lg_sl ([.ref γ, .int p1])).length) Slot.unset).toArray = ls at hl ⊢
  have hl : lv_has ls 2 [(0, .ref γ), (1, .int p1)] := hl
  refine lv_iload_n hx hb dX4_read_0 rfl (lv_at hl 1 rfl) ?_
  refine rdS (As := [.int p1]) (rest := []) (c_X4_isAddress l G p1) hF (va_cwS 1 hts gX4_read_X4_isAddress rfl rfl rfl (by decide +kernel) ⟨Nat.le_of_ble_eq_true rfl, Nat.le_of_ble_eq_true rfl⟩) hK va_P0 rfl hl.1 rfl (Nat.le_of_ble_eq_true rfl) dX4_read_1 ⟨Nat.zero_le _, Nat.zero_le _⟩ ?_
  refine lv_if_ne (tgt := 9) hx hb dX4_read_4 (by decide) (fun (c_1 : ¬ (s_X4_isAddress p1) = 0) => ?_) (fun (c_1 : (s_X4_isAddress p1) = 0) => ?_)
  · skip
    refine lv_aload_n hx hb dX4_read_9 rfl (lv_at hl 0 rfl) ?_
    refine lv_aload_n hx hb dX4_read_10 rfl (lv_at hl 0 rfl) ?_
    refine wrVP (W1 := ((gW γ (α 0) (β 0) (π 0) (κ 0) (η 0) ς) ++ ((qW G.2.1 κ ρ) ++ ((pW G.2.1 π ϖ) ++ ((dW G.2.1 α σ) ++ ((dW G.2.1 β (s_X4_freshTrial σ τ)) ++ (hW G.2.2 η (ring, nI o, nI n)))))))) (As := []) (rest := [.ref γ]) (c_X4_freshTrial l G γ α β π κ η ς σ τ) hF (cwV 0 hts gX4_read_X4_freshTrial rfl rfl rfl (by decide +kernel) ⟨Nat.le_of_ble_eq_true rfl, Nat.le_of_ble_eq_true rfl⟩) (va_recv hK.1 hP (ci := 4) (q0 := 0) rfl rfl) hK hP hD hS (pm6_034125_3 _ _ _ _ _ _) (pm6_034125_3 _ _ _ _ _ _).symm ((fst_app (fst_G) (fst_app (fst_D _ _) (fst_D _ _)))) rfl hl.1 rfl (Nat.le_of_ble_eq_true rfl) dX4_read_11 ⟨Nat.zero_le _, Nat.zero_le _⟩ (fun H locs hP hD hS => ?_)
    have hP : va_P G.1 vwCl ((gW γ (α 0) (β 0) (π 0) (κ 0) (η 0) ς) ++ ((qW G.2.1 κ ρ) ++ ((pW G.2.1 π ϖ) ++ ((dW G.2.1 α σ) ++ ((dW G.2.1 β (s_X4_freshTrial σ τ)) ++ (hW G.2.2 η (ring, nI o, nI n))))))) H := hP
    have hD : va_D (va_A w0 s.heap.size) ((gW γ (α 0) (β 0) (π 0) (κ 0) (η 0) ς) ++ ((qW G.2.1 κ ρ) ++ ((pW G.2.1 π ϖ) ++ ((dW G.2.1 α σ) ++ ((dW G.2.1 β (s_X4_freshTrial σ τ)) ++ (hW G.2.2 η (ring, nI o, nI n))))))) := hD
    refine lv_iload_n hx hb dX4_read_14 rfl (lv_at hl 1 rfl) ?_
    refine wrVP (W1 := ((gW γ (α 0) (β 0) (π 0) (κ 0) (η 0) ς) ++ ((qW G.2.1 κ ρ) ++ ((pW G.2.1 π ϖ) ++ ((dW G.2.1 α σ) ++ ((dW G.2.1 β ((s_X0_readFrom (s_X4_freshTrial σ τ) p1).2)) ++ (hW G.2.2 η (ring, nI o, nI n)))))))) (As := [.int p1]) (rest := [.ref γ]) (c_X0_readFrom l G β (s_X4_freshTrial σ τ) p1) hF (cwV 1 hts gX4_read_X0_readFrom rfl rfl rfl (by decide +kernel) ⟨Nat.le_of_ble_eq_true rfl, Nat.le_of_ble_eq_true rfl⟩) (va_recv hK.1 hP (ci := 0) (q0 := 13) rfl rfl) hK hP hD hS (pm6_401235_1 _ _ _ _ _ _) (pm6_401235_1 _ _ _ _ _ _).symm ((fst_D _ _)) rfl hl.1 rfl (Nat.le_of_ble_eq_true rfl) dX4_read_15 ⟨Nat.zero_le _, Nat.zero_le _⟩ (fun H locs hP hD hS => ?_)
    have hP : va_P G.1 vwCl ((gW γ (α 0) (β 0) (π 0) (κ 0) (η 0) ς) ++ ((qW G.2.1 κ ρ) ++ ((pW G.2.1 π ϖ) ++ ((dW G.2.1 α σ) ++ ((dW G.2.1 β ((s_X0_readFrom (s_X4_freshTrial σ τ) p1).2)) ++ (hW G.2.2 η (ring, nI o, nI n))))))) H := hP
    have hD : va_D (va_A w0 s.heap.size) ((gW γ (α 0) (β 0) (π 0) (κ 0) (η 0) ς) ++ ((qW G.2.1 κ ρ) ++ ((pW G.2.1 π ϖ) ++ ((dW G.2.1 α σ) ++ ((dW G.2.1 β ((s_X0_readFrom (s_X4_freshTrial σ τ) p1).2)) ++ (hW G.2.2 η (ring, nI o, nI n))))))) := hD
    refine nwVP (As := [.int ((s_X0_readFrom (s_X4_freshTrial σ τ) p1).1)]) (rest := []) (c_X4_adopt l G γ η ring o n (α 0) (β 0) (π 0) (κ 0) ς (dF α σ) ((s_X0_readFrom (s_X4_freshTrial σ τ) p1).1) tb ho hn hin0) sT.blind hF (cwV 1 hts gX4_read_X4_adopt rfl rfl rfl (by decide +kernel) ⟨Nat.le_of_ble_eq_true rfl, Nat.le_of_ble_eq_true rfl⟩) (va_recv hK.1 hP (ci := 4) (q0 := 0) rfl rfl) hK hP hD hS hA (pmA (gW γ (α 0) (β 0) (π 0) (κ 0) (η 0) ς) (qW G.2.1 κ ρ) (pW G.2.1 π ϖ) [(α 0, .inr (0, dF α σ))] (dR G.2.1 α σ) (dW G.2.1 β ((s_X0_readFrom (s_X4_freshTrial σ τ) p1).2)) (hW G.2.2 η (ring, nI o, nI n))) (fun U hU hW hF => hT.to hS hF hU hW) rfl hl.1 rfl (Nat.le_of_ble_eq_true rfl) dX4_read_18 ⟨Nat.le_of_ble_eq_true rfl, Nat.le_of_ble_eq_true rfl⟩ (fun w1 H locs hB hP hD hS => ?_)
    obtain ⟨w2, hB2, hpm⟩ := hB.mv (pmX (qW G.2.1 κ ρ) (pW G.2.1 π ϖ) [(α 0, .inr (0, dF α σ))] (dR G.2.1 α σ) (dW G.2.1 β ((s_X0_readFrom (s_X4_freshTrial σ τ) p1).2)))
    have E9 : s_X4_read ρ ϖ σ τ (ring, nI o, nI n) p1 = (((s_X0_readFrom (s_X4_freshTrial σ τ) p1).1), ((s_X0_readFrom (s_X4_freshTrial σ τ) p1).2)) := by rw [s_X4_read]; rw [if_neg c_1]
    rw [pr1 E9, pr2 E9]
    exact W.iret hx hb hr (fun t ht hW => ⟨rfl, ⟨w2, hB2, by rw [ht]; exact hP.perm hpm, hD.perm hpm⟩, hS.F ht⟩) hS.2.2 dX4_read_21
  · skip
    refine lv_iconst (v := (-1)) hx hb dX4_read_7 (by decide) ?_
    have E9 : s_X4_read ρ ϖ σ τ (ring, nI o, nI n) p1 = ((-1), τ) := by rw [s_X4_read]; rw [if_pos c_1]
    rw [pr1 E9, pr2 E9]
    refine W.widen (k := 6) (n := 818) (Nat.zero_le _) (Nat.zero_le _) ?_
    exact W.iret hx hb hr (fun t ht hW => ⟨rfl, ⟨_, Or.inl ⟨(by decide), rfl⟩, by rw [ht]; exact hP.perm (pmE _ _ _ _ _ _), hD.perm (pmE _ _ _ _ _ _)⟩, hS.F ht⟩) hS.2.2 dX4_read_8
def t1_X4_refresh (ρ : QS) (ϖ : PS) (σ : DS) (τ : DS) (hs : HS) (p1 : Int32) : DS := ((s_X0_writeTo ((s_X0_readFrom (s_X4_freshTrial σ τ) p1).2) p1 ((s_X0_readFrom (s_X4_freshTrial σ τ) p1).1)).2)
def s_X4_refresh (ρ : QS) (ϖ : PS) (σ : DS) (τ : DS) (hs : HS) (p1 : Int32) : Int32 × DS := (if (s_X4_isAddress p1) = 0 then ((-1), τ) else (if 0 ≤ ((s_X0_readFrom (s_X4_freshTrial σ τ) p1).1) then (if 0 ≤ ((s_X0_writeTo ((s_X0_readFrom (s_X4_freshTrial σ τ) p1).2) p1 ((s_X0_readFrom (s_X4_freshTrial σ τ) p1).1)).1) then ((s_X0_blurOf σ (s_X0_sectorFor σ p1)), (t1_X4_refresh ρ ϖ σ τ hs p1)) else (((s_X0_writeTo ((s_X0_readFrom (s_X4_freshTrial σ τ) p1).2) p1 ((s_X0_readFrom (s_X4_freshTrial σ τ) p1).1)).1), (t1_X4_refresh ρ ϖ σ τ hs p1))) else (((s_X0_readFrom (s_X4_freshTrial σ τ) p1).1), ((s_X0_readFrom (s_X4_freshTrial σ τ) p1).2))))
set_option maxHeartbeats 4000000 in
set_option maxRecDepth 100000 in
theorem c_X4_refresh (l : Launch) (G : GG) (γ : Nat) (κ : Nat → Nat) (π : Nat → Nat) (α : Nat → Nat) (β : Nat → Nat) (η : Nat → Nat) (ς : Nat) (ρ : QS) (ϖ : PS) (σ : DS) (τ : DS) (ring : Nat → Option Nat) (o n : Nat) (p1 : Int32) (tb : Nat × Nat × Nat) (ho : o < 6) (hn : n ≤ 6) (hin0 : ok_X0_init (d_st' dPre firstS)) : Nw G l yX4_refresh wsX4_refresh 5 133 6 818 [.ref γ, .int p1] ((gW γ (α 0) (β 0) (π 0) (κ 0) (η 0) ς) ++ ((qW G.2.1 κ ρ) ++ ((pW G.2.1 π ϖ) ++ ((dW G.2.1 α σ) ++ ((dW G.2.1 β τ) ++ (hW G.2.2 η (ring, nI o, nI n))))))) (sT tb) (some (.int (s_X4_refresh ρ ϖ σ τ (ring, nI o, nI n) p1).1)) (AP G γ η ring o n (α 0) (β 0) (π 0) (κ 0) ς ((qW G.2.1 κ ρ) ++ ((pW G.2.1 π ϖ) ++ ((dW G.2.1 α σ) ++ (dW G.2.1 β ((s_X4_refresh ρ ϖ σ τ (ring, nI o, nI n) p1).2))))) (s_X4_refresh ρ ϖ σ τ (ring, nI o, nI n) p1).1) := by
  intro sz
  refine Met.ofW (cc := cX4_refresh) (maxL := 6) (ret := (some .int)) (by decide) rfl ?_
  intro p e s m args below meth c s₁ B hml hv
  obtain ⟨rfl, hsz, hP, hK, hD0, hT⟩ := hv
  have C0 : cA p s m meth c ([.ref γ, .int p1] : List Value).toArray cX4_refresh 6 (some .int) wsX4_refresh RX4 := ⟨B.exec, B.bytes, B.returns, hml, findClass_of_methodNamed B.named, atoms_spec (ws := wsX4_refresh) B.pre, B.notSynchronized⟩
  obtain ⟨hx, hb, hr, hml, hown, hts, hlocks⟩ := id C0
  have hF : CallFix p m c cX4_refresh 6 s _ wsX4_refresh RX4 := ⟨hx, hb, hml, hown, hts⟩
  have hinX4 : ∀ w ∈ wsX40, w ∈ wsX4_refresh := by decide +kernel
  subst hsz
  obtain ⟨w0, hw0⟩ : ∃ w0 : va_W, w0 = ((gW γ (α 0) (β 0) (π 0) (κ 0) (η 0) ς) ++ ((qW G.2.1 κ ρ) ++ ((pW G.2.1 π ϖ) ++ ((dW G.2.1 α σ) ++ ((dW G.2.1 β τ) ++ (hW G.2.2 η (ring, nI o, nI n))))))) := ⟨_, rfl⟩
  have hD : va_D (va_A w0 s.heap.size) ((gW γ (α 0) (β 0) (π 0) (κ 0) (η 0) ς) ++ ((qW G.2.1 κ ρ) ++ ((pW G.2.1 π ϖ) ++ ((dW G.2.1 α σ) ++ ((dW G.2.1 β τ) ++ (hW G.2.2 η (ring, nI o, nI n))))))) := by rw [hw0]; exact hD0.self
  have hA : ∀ q : Nat, s.heap.size ≤ q → va_A w0 s.heap.size q := fun q h => Or.inr h
  rw [← hw0] at hT
  rw [show QN G ((gW γ (α 0) (β 0) (π 0) (κ 0) (η 0) ς) ++ ((qW G.2.1 κ ρ) ++ ((pW G.2.1 π ϖ) ++ ((dW G.2.1 α σ) ++ ((dW G.2.1 β τ) ++ (hW G.2.2 η (ring, nI o, nI n))))))) = QN G w0 from by rw [hw0], show va_A ((gW γ (α 0) (β 0) (π 0) (κ 0) (η 0) ς) ++ ((qW G.2.1 κ ρ) ++ ((pW G.2.1 π ϖ) ++ ((dW G.2.1 α σ) ++ ((dW G.2.1 β τ) ++ (hW G.2.2 η (ring, nI o, nI n))))))) s.heap.size = va_A w0 s.heap.size from by rw [hw0]]
  have hS : va_S (va_A w0 s.heap.size) s.heap s.heap [] := va_S.rf
  have hl := lv_entry ([.ref γ, .int p1]) (n := 6) (Nat.le_of_ble_eq_true rfl)
  rw [lg_entry_eq]
  generalize (lg_sl ([.ref γ, .int p1]) ++ List.replicate (6 - (lg_sl ([.ref γ, .int p1])).length) Slot.unset).toArray = ls at hl ⊢
  have hl : lv_has ls 6 [(0, .ref γ), (1, .int p1)] := hl
  refine lv_iload_n hx hb dX4_refresh_0 rfl (lv_at hl 1 rfl) ?_
  refine rdS (As := [.int p1]) (rest := []) (c_X4_isAddress l G p1) hF (va_cwS 1 hts gX4_refresh_X4_isAddress rfl rfl rfl (by decide +kernel) ⟨Nat.le_of_ble_eq_true rfl, Nat.le_of_ble_eq_true rfl⟩) hK va_P0 rfl hl.1 rfl (Nat.le_of_ble_eq_true rfl) dX4_refresh_1 ⟨Nat.zero_le _, Nat.zero_le _⟩ ?_
  refine lv_if_ne (tgt := 9) hx hb dX4_refresh_4 (by decide) (fun (c_1 : ¬ (s_X4_isAddress p1) = 0) => ?_) (fun (c_1 : (s_X4_isAddress p1) = 0) => ?_)
  · skip
    refine lv_aload_n hx hb dX4_refresh_9 rfl (lv_at hl 0 rfl) ?_
    refine va_get (D := G.1) (ci := 4) (v := .ref (α 0)) (C := RX4) (T := TX4) (N := 6) hx hb hts hinX4 hown hK.1 hP 0 rfl rfl 0 (by decide) (hts (.fieldLink RX4 12 "GrooveTurns" "disc" "LGrooveTurns$Disc;") (by decide +kernel)) (fun _ h9 => h9) rfl dX4_refresh_10 ?_
    refine lv_aload_n hx hb dX4_refresh_13 rfl (lv_at hl 0 rfl) ?_
    refine va_get (D := G.1) (ci := 4) (v := .ref (α 0)) (C := RX4) (T := TX4) (N := 6) hx hb hts hinX4 hown hK.1 hP 0 rfl rfl 0 (by decide) (hts (.fieldLink RX4 12 "GrooveTurns" "disc" "LGrooveTurns$Disc;") (by decide +kernel)) (fun _ h9 => h9) rfl dX4_refresh_14 ?_
    refine lv_iload_n hx hb dX4_refresh_17 rfl (lv_at hl 1 rfl) ?_
    refine rdV (As := [.int p1]) (rest := [.ref (α 0)]) (c_X0_sectorFor l G α σ p1) hF (cwV 1 hts gX4_refresh_X0_sectorFor rfl rfl rfl (by decide +kernel) ⟨Nat.le_of_ble_eq_true rfl, Nat.le_of_ble_eq_true rfl⟩) (va_recv hK.1 hP (ci := 0) (q0 := 7) rfl rfl) hK (hP.sub [7, 8, 9, 10, 11, 12] rfl) rfl hl.1 rfl (Nat.le_of_ble_eq_true rfl) dX4_refresh_18 ⟨Nat.zero_le _, Nat.zero_le _⟩ ?_
    refine rdV (As := [.int (s_X0_sectorFor σ p1)]) (rest := []) (c_X0_blurOf l G α σ (s_X0_sectorFor σ p1)) hF (cwV 1 hts gX4_refresh_X0_blurOf rfl rfl rfl (by decide +kernel) ⟨Nat.le_of_ble_eq_true rfl, Nat.le_of_ble_eq_true rfl⟩) (va_recv hK.1 hP (ci := 0) (q0 := 7) rfl rfl) hK (hP.sub [7, 8, 9, 10, 11, 12] rfl) rfl hl.1 rfl (Nat.le_of_ble_eq_true rfl) dX4_refresh_21 ⟨Nat.zero_le _, Nat.zero_le _⟩ ?_
    refine lv_istore_n (lv' := [(2, .int (s_X0_blurOf σ (s_X0_sectorFor σ p1))), (0, .ref γ), (1, .int p1)]) hx hb dX4_refresh_24 rfl hl (by decide) rfl (fun ls hl => ?_)
    refine lv_aload_n hx hb dX4_refresh_25 rfl (lv_at hl 1 rfl) ?_
    refine wrVP (W1 := ((gW γ (α 0) (β 0) (π 0) (κ 0) (η 0) ς) ++ ((qW G.2.1 κ ρ) ++ ((pW G.2.1 π ϖ) ++ ((dW G.2.1 α σ) ++ ((dW G.2.1 β (s_X4_freshTrial σ τ)) ++ (hW G.2.2 η (ring, nI o, nI n)))))))) (As := []) (rest := []) (c_X4_freshTrial l G γ α β π κ η ς σ τ) hF (cwV 0 hts gX4_refresh_X4_freshTrial rfl rfl rfl (by decide +kernel) ⟨Nat.le_of_ble_eq_true rfl, Nat.le_of_ble_eq_true rfl⟩) (va_recv hK.1 hP (ci := 4) (q0 := 0) rfl rfl) hK hP hD hS (pm6_034125_3 _ _ _ _ _ _) (pm6_034125_3 _ _ _ _ _ _).symm ((fst_app (fst_G) (fst_app (fst_D _ _) (fst_D _ _)))) rfl hl.1 rfl (Nat.le_of_ble_eq_true rfl) dX4_refresh_26 ⟨Nat.zero_le _, Nat.zero_le _⟩ (fun H locs hP hD hS => ?_)
    have hP : va_P G.1 vwCl ((gW γ (α 0) (β 0) (π 0) (κ 0) (η 0) ς) ++ ((qW G.2.1 κ ρ) ++ ((pW G.2.1 π ϖ) ++ ((dW G.2.1 α σ) ++ ((dW G.2.1 β (s_X4_freshTrial σ τ)) ++ (hW G.2.2 η (ring, nI o, nI n))))))) H := hP
    have hD : va_D (va_A w0 s.heap.size) ((gW γ (α 0) (β 0) (π 0) (κ 0) (η 0) ς) ++ ((qW G.2.1 κ ρ) ++ ((pW G.2.1 π ϖ) ++ ((dW G.2.1 α σ) ++ ((dW G.2.1 β (s_X4_freshTrial σ τ)) ++ (hW G.2.2 η (ring, nI o, nI n))))))) := hD
    refine lv_astore_n (lv' := [(3, .ref (β 0)), (2, .int (s_X0_blurOf σ (s_X0_sectorFor σ p1))), (0, .ref γ), (1, .int p1)]) hx hb dX4_refresh_29 rfl hl (by decide) rfl (fun ls hl => ?_)
    refine lv_aload_n hx hb dX4_refresh_30 rfl (lv_at hl 0 rfl) ?_
    refine lv_iload_n hx hb dX4_refresh_31 rfl (lv_at hl 3 rfl) ?_
    refine wrVP (W1 := ((gW γ (α 0) (β 0) (π 0) (κ 0) (η 0) ς) ++ ((qW G.2.1 κ ρ) ++ ((pW G.2.1 π ϖ) ++ ((dW G.2.1 α σ) ++ ((dW G.2.1 β ((s_X0_readFrom (s_X4_freshTrial σ τ) p1).2)) ++ (hW G.2.2 η (ring, nI o, nI n)))))))) (As := [.int p1]) (rest := []) (c_X0_readFrom l G β (s_X4_freshTrial σ τ) p1) hF (cwV 1 hts gX4_refresh_X0_readFrom rfl rfl rfl (by decide +kernel) ⟨Nat.le_of_ble_eq_true rfl, Nat.le_of_ble_eq_true rfl⟩) (va_recv hK.1 hP (ci := 0) (q0 := 13) rfl rfl) hK hP hD hS (pm6_401235_1 _ _ _ _ _ _) (pm6_401235_1 _ _ _ _ _ _).symm ((fst_D _ _)) rfl hl.1 rfl (Nat.le_of_ble_eq_true rfl) dX4_refresh_32 ⟨Nat.zero_le _, Nat.zero_le _⟩ (fun H locs hP hD hS => ?_)
    have hP : va_P G.1 vwCl ((gW γ (α 0) (β 0) (π 0) (κ 0) (η 0) ς) ++ ((qW G.2.1 κ ρ) ++ ((pW G.2.1 π ϖ) ++ ((dW G.2.1 α σ) ++ ((dW G.2.1 β ((s_X0_readFrom (s_X4_freshTrial σ τ) p1).2)) ++ (hW G.2.2 η (ring, nI o, nI n))))))) H := hP
    have hD : va_D (va_A w0 s.heap.size) ((gW γ (α 0) (β 0) (π 0) (κ 0) (η 0) ς) ++ ((qW G.2.1 κ ρ) ++ ((pW G.2.1 π ϖ) ++ ((dW G.2.1 α σ) ++ ((dW G.2.1 β ((s_X0_readFrom (s_X4_freshTrial σ τ) p1).2)) ++ (hW G.2.2 η (ring, nI o, nI n))))))) := hD
    refine lv_istore (lv' := [(4, .int ((s_X0_readFrom (s_X4_freshTrial σ τ) p1).1)), (3, .ref (β 0)), (2, .int (s_X0_blurOf σ (s_X0_sectorFor σ p1))), (0, .ref γ), (1, .int p1)]) hx hb dX4_refresh_35 hl (by decide) rfl (fun ls hl => ?_)
    refine lv_iload hx hb dX4_refresh_37 (lv_at hl 0 rfl) ?_
    refine lv_if_ge (tgt := 45) hx hb dX4_refresh_39 (by decide) (fun (c_2 : 0 ≤ ((s_X0_readFrom (s_X4_freshTrial σ τ) p1).1)) => ?_) (fun (c_2 : ¬ 0 ≤ ((s_X0_readFrom (s_X4_freshTrial σ τ) p1).1)) => ?_)
    · skip
      refine lv_aload_n hx hb dX4_refresh_45 rfl (lv_at hl 1 rfl) ?_
      refine lv_iload_n hx hb dX4_refresh_46 rfl (lv_at hl 4 rfl) ?_
      refine lv_iload hx hb dX4_refresh_47 (lv_at hl 0 rfl) ?_
      refine wrVP (W1 := ((gW γ (α 0) (β 0) (π 0) (κ 0) (η 0) ς) ++ ((qW G.2.1 κ ρ) ++ ((pW G.2.1 π ϖ) ++ ((dW G.2.1 α σ) ++ ((dW G.2.1 β ((s_X0_writeTo ((s_X0_readFrom (s_X4_freshTrial σ τ) p1).2) p1 ((s_X0_readFrom (s_X4_freshTrial σ τ) p1).1)).2)) ++ (hW G.2.2 η (ring, nI o, nI n)))))))) (As := [.int p1, .int ((s_X0_readFrom (s_X4_freshTrial σ τ) p1).1)]) (rest := []) (c_X0_writeTo l G β ((s_X0_readFrom (s_X4_freshTrial σ τ) p1).2) p1 ((s_X0_readFrom (s_X4_freshTrial σ τ) p1).1)) hF (cwV 2 hts gX4_refresh_X0_writeTo rfl rfl rfl (by decide +kernel) ⟨Nat.le_of_ble_eq_true rfl, Nat.le_of_ble_eq_true rfl⟩) (va_recv hK.1 hP (ci := 0) (q0 := 13) rfl rfl) hK hP hD hS (pm6_401235_1 _ _ _ _ _ _) (pm6_401235_1 _ _ _ _ _ _).symm ((fst_D _ _)) rfl hl.1 rfl (Nat.le_of_ble_eq_true rfl) dX4_refresh_49 ⟨Nat.zero_le _, Nat.zero_le _⟩ (fun H locs hP hD hS => ?_)
      have hP : va_P G.1 vwCl ((gW γ (α 0) (β 0) (π 0) (κ 0) (η 0) ς) ++ ((qW G.2.1 κ ρ) ++ ((pW G.2.1 π ϖ) ++ ((dW G.2.1 α σ) ++ ((dW G.2.1 β (t1_X4_refresh ρ ϖ σ τ (ring, nI o, nI n) p1)) ++ (hW G.2.2 η (ring, nI o, nI n))))))) H := hP
      have hD : va_D (va_A w0 s.heap.size) ((gW γ (α 0) (β 0) (π 0) (κ 0) (η 0) ς) ++ ((qW G.2.1 κ ρ) ++ ((pW G.2.1 π ϖ) ++ ((dW G.2.1 α σ) ++ ((dW G.2.1 β (t1_X4_refresh ρ ϖ σ τ (ring, nI o, nI n) p1)) ++ (hW G.2.2 η (ring, nI o, nI n))))))) := hD
      refine lv_istore (lv' := [(5, .int ((s_X0_writeTo ((s_X0_readFrom (s_X4_freshTrial σ τ) p1).2) p1 ((s_X0_readFrom (s_X4_freshTrial σ τ) p1).1)).1)), (4, .int ((s_X0_readFrom (s_X4_freshTrial σ τ) p1).1)), (3, .ref (β 0)), (2, .int (s_X0_blurOf σ (s_X0_sectorFor σ p1))), (0, .ref γ), (1, .int p1)]) hx hb dX4_refresh_52 hl (by decide) rfl (fun ls hl => ?_)
      refine lv_iload hx hb dX4_refresh_54 (lv_at hl 0 rfl) ?_
      refine lv_if_ge (tgt := 64) hx hb dX4_refresh_56 (by decide) (fun (c_3 : 0 ≤ ((s_X0_writeTo ((s_X0_readFrom (s_X4_freshTrial σ τ) p1).2) p1 ((s_X0_readFrom (s_X4_freshTrial σ τ) p1).1)).1)) => ?_) (fun (c_3 : ¬ 0 ≤ ((s_X0_writeTo ((s_X0_readFrom (s_X4_freshTrial σ τ) p1).2) p1 ((s_X0_readFrom (s_X4_freshTrial σ τ) p1).1)).1)) => ?_)
      · skip
        refine lv_aload_n hx hb dX4_refresh_64 rfl (lv_at hl 4 rfl) ?_
        refine lv_iload_n hx hb dX4_refresh_65 rfl (lv_at hl 3 rfl) ?_
        refine nwVP (As := [.int (s_X0_blurOf σ (s_X0_sectorFor σ p1))]) (rest := []) (c_X4_adopt l G γ η ring o n (α 0) (β 0) (π 0) (κ 0) ς (dF α σ) (s_X0_blurOf σ (s_X0_sectorFor σ p1)) tb ho hn hin0) sT.blind hF (cwV 1 hts gX4_refresh_X4_adopt rfl rfl rfl (by decide +kernel) ⟨Nat.le_of_ble_eq_true rfl, Nat.le_of_ble_eq_true rfl⟩) (va_recv hK.1 hP (ci := 4) (q0 := 0) rfl rfl) hK hP hD hS hA (pmA (gW γ (α 0) (β 0) (π 0) (κ 0) (η 0) ς) (qW G.2.1 κ ρ) (pW G.2.1 π ϖ) [(α 0, .inr (0, dF α σ))] (dR G.2.1 α σ) (dW G.2.1 β (t1_X4_refresh ρ ϖ σ τ (ring, nI o, nI n) p1)) (hW G.2.2 η (ring, nI o, nI n))) (fun U hU hW hF => hT.to hS hF hU hW) rfl hl.1 rfl (Nat.le_of_ble_eq_true rfl) dX4_refresh_66 ⟨Nat.le_of_ble_eq_true rfl, Nat.le_of_ble_eq_true rfl⟩ (fun w1 H locs hB hP hD hS => ?_)
        obtain ⟨w2, hB2, hpm⟩ := hB.mv (pmX (qW G.2.1 κ ρ) (pW G.2.1 π ϖ) [(α 0, .inr (0, dF α σ))] (dR G.2.1 α σ) (dW G.2.1 β (t1_X4_refresh ρ ϖ σ τ (ring, nI o, nI n) p1)))
        have E9 : s_X4_refresh ρ ϖ σ τ (ring, nI o, nI n) p1 = ((s_X0_blurOf σ (s_X0_sectorFor σ p1)), (t1_X4_refresh ρ ϖ σ τ (ring, nI o, nI n) p1)) := by rw [s_X4_refresh]; rw [if_neg c_1, if_pos c_2, if_pos c_3]
        rw [pr1 E9, pr2 E9]
        exact W.iret hx hb hr (fun t ht hW => ⟨rfl, ⟨w2, hB2, by rw [ht]; exact hP.perm hpm, hD.perm hpm⟩, hS.F ht⟩) hS.2.2 dX4_refresh_69
      · skip
        refine lv_iload hx hb dX4_refresh_59 (lv_at hl 0 rfl) ?_
        refine lv_goto (tgt := 69) hx hb dX4_refresh_61 (by decide) ?_
        have E9 : s_X4_refresh ρ ϖ σ τ (ring, nI o, nI n) p1 = (((s_X0_writeTo ((s_X0_readFrom (s_X4_freshTrial σ τ) p1).2) p1 ((s_X0_readFrom (s_X4_freshTrial σ τ) p1).1)).1), (t1_X4_refresh ρ ϖ σ τ (ring, nI o, nI n) p1)) := by rw [s_X4_refresh]; rw [if_neg c_1, if_pos c_2, if_neg c_3]
        rw [pr1 E9, pr2 E9]
        refine W.widen (k := 6) (n := 818) (Nat.zero_le _) (Nat.zero_le _) ?_
        exact W.iret hx hb hr (fun t ht hW => ⟨rfl, ⟨_, Or.inl ⟨(Int32.not_le.mp c_3), rfl⟩, by rw [ht]; exact hP.perm (pmE _ _ _ _ _ _), hD.perm (pmE _ _ _ _ _ _)⟩, hS.F ht⟩) hS.2.2 dX4_refresh_69
    · skip
      refine lv_iload hx hb dX4_refresh_42 (lv_at hl 0 rfl) ?_
      have E9 : s_X4_refresh ρ ϖ σ τ (ring, nI o, nI n) p1 = (((s_X0_readFrom (s_X4_freshTrial σ τ) p1).1), ((s_X0_readFrom (s_X4_freshTrial σ τ) p1).2)) := by rw [s_X4_refresh]; rw [if_neg c_1, if_neg c_2]
      rw [pr1 E9, pr2 E9]
      refine W.widen (k := 6) (n := 818) (Nat.zero_le _) (Nat.zero_le _) ?_
      exact W.iret hx hb hr (fun t ht hW => ⟨rfl, ⟨_, Or.inl ⟨(Int32.not_le.mp c_2), rfl⟩, by rw [ht]; exact hP.perm (pmE _ _ _ _ _ _), hD.perm (pmE _ _ _ _ _ _)⟩, hS.F ht⟩) hS.2.2 dX4_refresh_44
  · skip
    refine lv_iconst (v := (-1)) hx hb dX4_refresh_7 (by decide) ?_
    have E9 : s_X4_refresh ρ ϖ σ τ (ring, nI o, nI n) p1 = ((-1), τ) := by rw [s_X4_refresh]; rw [if_pos c_1]
    rw [pr1 E9, pr2 E9]
    refine W.widen (k := 6) (n := 818) (Nat.zero_le _) (Nat.zero_le _) ?_
    exact W.iret hx hb hr (fun t ht hW => ⟨rfl, ⟨_, Or.inl ⟨(by decide), rfl⟩, by rw [ht]; exact hP.perm (pmE _ _ _ _ _ _), hD.perm (pmE _ _ _ _ _ _)⟩, hS.F ht⟩) hS.2.2 dX4_refresh_8
def s_X4_seek (ρ : QS) (ϖ : PS) (σ : DS) (τ : DS) (hs : HS) (p1 : Int32) : Int32 × DS := (if (s_X4_isTrack p1) = 0 then ((-1), τ) else (((s_X0_moveHead (s_X4_freshTrial σ τ) p1).1), ((s_X0_moveHead (s_X4_freshTrial σ τ) p1).2)))
set_option maxHeartbeats 4000000 in
set_option maxRecDepth 100000 in
theorem c_X4_seek (l : Launch) (G : GG) (γ : Nat) (κ : Nat → Nat) (π : Nat → Nat) (α : Nat → Nat) (β : Nat → Nat) (η : Nat → Nat) (ς : Nat) (ρ : QS) (ϖ : PS) (σ : DS) (τ : DS) (ring : Nat → Option Nat) (o n : Nat) (p1 : Int32) (tb : Nat × Nat × Nat) (ho : o < 6) (hn : n ≤ 6) (hin0 : ok_X0_init (d_st' dPre firstS)) : Nw G l yX4_seek wsX4_seek 5 133 6 818 [.ref γ, .int p1] ((gW γ (α 0) (β 0) (π 0) (κ 0) (η 0) ς) ++ ((qW G.2.1 κ ρ) ++ ((pW G.2.1 π ϖ) ++ ((dW G.2.1 α σ) ++ ((dW G.2.1 β τ) ++ (hW G.2.2 η (ring, nI o, nI n))))))) (sT tb) (some (.int (s_X4_seek ρ ϖ σ τ (ring, nI o, nI n) p1).1)) (AP G γ η ring o n (α 0) (β 0) (π 0) (κ 0) ς ((qW G.2.1 κ ρ) ++ ((pW G.2.1 π ϖ) ++ ((dW G.2.1 α σ) ++ (dW G.2.1 β ((s_X4_seek ρ ϖ σ τ (ring, nI o, nI n) p1).2))))) (s_X4_seek ρ ϖ σ τ (ring, nI o, nI n) p1).1) := by
  intro sz
  refine Met.ofW (cc := cX4_seek) (maxL := 2) (ret := (some .int)) (by decide) rfl ?_
  intro p e s m args below meth c s₁ B hml hv
  obtain ⟨rfl, hsz, hP, hK, hD0, hT⟩ := hv
  have C0 : cA p s m meth c ([.ref γ, .int p1] : List Value).toArray cX4_seek 2 (some .int) wsX4_seek RX4 := ⟨B.exec, B.bytes, B.returns, hml, findClass_of_methodNamed B.named, atoms_spec (ws := wsX4_seek) B.pre, B.notSynchronized⟩
  obtain ⟨hx, hb, hr, hml, hown, hts, hlocks⟩ := id C0
  have hF : CallFix p m c cX4_seek 2 s _ wsX4_seek RX4 := ⟨hx, hb, hml, hown, hts⟩
  subst hsz
  obtain ⟨w0, hw0⟩ : ∃ w0 : va_W, w0 = ((gW γ (α 0) (β 0) (π 0) (κ 0) (η 0) ς) ++ ((qW G.2.1 κ ρ) ++ ((pW G.2.1 π ϖ) ++ ((dW G.2.1 α σ) ++ ((dW G.2.1 β τ) ++ (hW G.2.2 η (ring, nI o, nI n))))))) := ⟨_, rfl⟩
  have hD : va_D (va_A w0 s.heap.size) ((gW γ (α 0) (β 0) (π 0) (κ 0) (η 0) ς) ++ ((qW G.2.1 κ ρ) ++ ((pW G.2.1 π ϖ) ++ ((dW G.2.1 α σ) ++ ((dW G.2.1 β τ) ++ (hW G.2.2 η (ring, nI o, nI n))))))) := by rw [hw0]; exact hD0.self
  have hA : ∀ q : Nat, s.heap.size ≤ q → va_A w0 s.heap.size q := fun q h => Or.inr h
  rw [← hw0] at hT
  rw [show QN G ((gW γ (α 0) (β 0) (π 0) (κ 0) (η 0) ς) ++ ((qW G.2.1 κ ρ) ++ ((pW G.2.1 π ϖ) ++ ((dW G.2.1 α σ) ++ ((dW G.2.1 β τ) ++ (hW G.2.2 η (ring, nI o, nI n))))))) = QN G w0 from by rw [hw0], show va_A ((gW γ (α 0) (β 0) (π 0) (κ 0) (η 0) ς) ++ ((qW G.2.1 κ ρ) ++ ((pW G.2.1 π ϖ) ++ ((dW G.2.1 α σ) ++ ((dW G.2.1 β τ) ++ (hW G.2.2 η (ring, nI o, nI n))))))) s.heap.size = va_A w0 s.heap.size from by rw [hw0]]
  have hS : va_S (va_A w0 s.heap.size) s.heap s.heap [] := va_S.rf
  have hl := lv_entry ([.ref γ, .int p1]) (n := 2) (Nat.le_of_ble_eq_true rfl)
  rw [lg_entry_eq]
  generalize (lg_sl ([.ref γ, .int p1]) ++ List.replicate (2 - (lg_sl ([.ref γ, .int p1])).length) Slot.unset).toArray = ls at hl ⊢
  have hl : lv_has ls 2 [(0, .ref γ), (1, .int p1)] := hl
  refine lv_iload_n hx hb dX4_seek_0 rfl (lv_at hl 1 rfl) ?_
  refine rdS (As := [.int p1]) (rest := []) (c_X4_isTrack l G p1) hF (va_cwS 1 hts gX4_seek_X4_isTrack rfl rfl rfl (by decide +kernel) ⟨Nat.le_of_ble_eq_true rfl, Nat.le_of_ble_eq_true rfl⟩) hK va_P0 rfl hl.1 rfl (Nat.le_of_ble_eq_true rfl) dX4_seek_1 ⟨Nat.zero_le _, Nat.zero_le _⟩ ?_
  refine lv_if_ne (tgt := 9) hx hb dX4_seek_4 (by decide) (fun (c_1 : ¬ (s_X4_isTrack p1) = 0) => ?_) (fun (c_1 : (s_X4_isTrack p1) = 0) => ?_)
  · skip
    refine lv_aload_n hx hb dX4_seek_9 rfl (lv_at hl 0 rfl) ?_
    refine lv_aload_n hx hb dX4_seek_10 rfl (lv_at hl 0 rfl) ?_
    refine wrVP (W1 := ((gW γ (α 0) (β 0) (π 0) (κ 0) (η 0) ς) ++ ((qW G.2.1 κ ρ) ++ ((pW G.2.1 π ϖ) ++ ((dW G.2.1 α σ) ++ ((dW G.2.1 β (s_X4_freshTrial σ τ)) ++ (hW G.2.2 η (ring, nI o, nI n)))))))) (As := []) (rest := [.ref γ]) (c_X4_freshTrial l G γ α β π κ η ς σ τ) hF (cwV 0 hts gX4_seek_X4_freshTrial rfl rfl rfl (by decide +kernel) ⟨Nat.le_of_ble_eq_true rfl, Nat.le_of_ble_eq_true rfl⟩) (va_recv hK.1 hP (ci := 4) (q0 := 0) rfl rfl) hK hP hD hS (pm6_034125_3 _ _ _ _ _ _) (pm6_034125_3 _ _ _ _ _ _).symm ((fst_app (fst_G) (fst_app (fst_D _ _) (fst_D _ _)))) rfl hl.1 rfl (Nat.le_of_ble_eq_true rfl) dX4_seek_11 ⟨Nat.zero_le _, Nat.zero_le _⟩ (fun H locs hP hD hS => ?_)
    have hP : va_P G.1 vwCl ((gW γ (α 0) (β 0) (π 0) (κ 0) (η 0) ς) ++ ((qW G.2.1 κ ρ) ++ ((pW G.2.1 π ϖ) ++ ((dW G.2.1 α σ) ++ ((dW G.2.1 β (s_X4_freshTrial σ τ)) ++ (hW G.2.2 η (ring, nI o, nI n))))))) H := hP
    have hD : va_D (va_A w0 s.heap.size) ((gW γ (α 0) (β 0) (π 0) (κ 0) (η 0) ς) ++ ((qW G.2.1 κ ρ) ++ ((pW G.2.1 π ϖ) ++ ((dW G.2.1 α σ) ++ ((dW G.2.1 β (s_X4_freshTrial σ τ)) ++ (hW G.2.2 η (ring, nI o, nI n))))))) := hD
    refine lv_iload_n hx hb dX4_seek_14 rfl (lv_at hl 1 rfl) ?_
    refine wrVP (W1 := ((gW γ (α 0) (β 0) (π 0) (κ 0) (η 0) ς) ++ ((qW G.2.1 κ ρ) ++ ((pW G.2.1 π ϖ) ++ ((dW G.2.1 α σ) ++ ((dW G.2.1 β ((s_X0_moveHead (s_X4_freshTrial σ τ) p1).2)) ++ (hW G.2.2 η (ring, nI o, nI n)))))))) (As := [.int p1]) (rest := [.ref γ]) (c_X0_moveHead l G β (s_X4_freshTrial σ τ) p1) hF (cwV 1 hts gX4_seek_X0_moveHead rfl rfl rfl (by decide +kernel) ⟨Nat.le_of_ble_eq_true rfl, Nat.le_of_ble_eq_true rfl⟩) (va_recv hK.1 hP (ci := 0) (q0 := 13) rfl rfl) hK hP hD hS (pm6_401235_1 _ _ _ _ _ _) (pm6_401235_1 _ _ _ _ _ _).symm ((fst_D _ _)) rfl hl.1 rfl (Nat.le_of_ble_eq_true rfl) dX4_seek_15 ⟨Nat.zero_le _, Nat.zero_le _⟩ (fun H locs hP hD hS => ?_)
    have hP : va_P G.1 vwCl ((gW γ (α 0) (β 0) (π 0) (κ 0) (η 0) ς) ++ ((qW G.2.1 κ ρ) ++ ((pW G.2.1 π ϖ) ++ ((dW G.2.1 α σ) ++ ((dW G.2.1 β ((s_X0_moveHead (s_X4_freshTrial σ τ) p1).2)) ++ (hW G.2.2 η (ring, nI o, nI n))))))) H := hP
    have hD : va_D (va_A w0 s.heap.size) ((gW γ (α 0) (β 0) (π 0) (κ 0) (η 0) ς) ++ ((qW G.2.1 κ ρ) ++ ((pW G.2.1 π ϖ) ++ ((dW G.2.1 α σ) ++ ((dW G.2.1 β ((s_X0_moveHead (s_X4_freshTrial σ τ) p1).2)) ++ (hW G.2.2 η (ring, nI o, nI n))))))) := hD
    refine nwVP (As := [.int ((s_X0_moveHead (s_X4_freshTrial σ τ) p1).1)]) (rest := []) (c_X4_adopt l G γ η ring o n (α 0) (β 0) (π 0) (κ 0) ς (dF α σ) ((s_X0_moveHead (s_X4_freshTrial σ τ) p1).1) tb ho hn hin0) sT.blind hF (cwV 1 hts gX4_seek_X4_adopt rfl rfl rfl (by decide +kernel) ⟨Nat.le_of_ble_eq_true rfl, Nat.le_of_ble_eq_true rfl⟩) (va_recv hK.1 hP (ci := 4) (q0 := 0) rfl rfl) hK hP hD hS hA (pmA (gW γ (α 0) (β 0) (π 0) (κ 0) (η 0) ς) (qW G.2.1 κ ρ) (pW G.2.1 π ϖ) [(α 0, .inr (0, dF α σ))] (dR G.2.1 α σ) (dW G.2.1 β ((s_X0_moveHead (s_X4_freshTrial σ τ) p1).2)) (hW G.2.2 η (ring, nI o, nI n))) (fun U hU hW hF => hT.to hS hF hU hW) rfl hl.1 rfl (Nat.le_of_ble_eq_true rfl) dX4_seek_18 ⟨Nat.le_of_ble_eq_true rfl, Nat.le_of_ble_eq_true rfl⟩ (fun w1 H locs hB hP hD hS => ?_)
    obtain ⟨w2, hB2, hpm⟩ := hB.mv (pmX (qW G.2.1 κ ρ) (pW G.2.1 π ϖ) [(α 0, .inr (0, dF α σ))] (dR G.2.1 α σ) (dW G.2.1 β ((s_X0_moveHead (s_X4_freshTrial σ τ) p1).2)))
    have E9 : s_X4_seek ρ ϖ σ τ (ring, nI o, nI n) p1 = (((s_X0_moveHead (s_X4_freshTrial σ τ) p1).1), ((s_X0_moveHead (s_X4_freshTrial σ τ) p1).2)) := by rw [s_X4_seek]; rw [if_neg c_1]
    rw [pr1 E9, pr2 E9]
    exact W.iret hx hb hr (fun t ht hW => ⟨rfl, ⟨w2, hB2, by rw [ht]; exact hP.perm hpm, hD.perm hpm⟩, hS.F ht⟩) hS.2.2 dX4_seek_21
  · skip
    refine lv_iconst (v := (-1)) hx hb dX4_seek_7 (by decide) ?_
    have E9 : s_X4_seek ρ ϖ σ τ (ring, nI o, nI n) p1 = ((-1), τ) := by rw [s_X4_seek]; rw [if_pos c_1]
    rw [pr1 E9, pr2 E9]
    refine W.widen (k := 6) (n := 818) (Nat.zero_le _) (Nat.zero_le _) ?_
    exact W.iret hx hb hr (fun t ht hW => ⟨rfl, ⟨_, Or.inl ⟨(by decide), rfl⟩, by rw [ht]; exact hP.perm (pmE _ _ _ _ _ _), hD.perm (pmE _ _ _ _ _ _)⟩, hS.F ht⟩) hS.2.2 dX4_seek_8
def s_X4_idle (ρ : QS) (ϖ : PS) (σ : DS) (τ : DS) (hs : HS) (p1 : Int32) : Int32 × DS := (if p1 < 1 then ((-2), τ) else (if p1 ≤ 9999 then (((s_X0_waitFor (s_X4_freshTrial σ τ) p1).1), ((s_X0_waitFor (s_X4_freshTrial σ τ) p1).2)) else ((-2), τ)))
set_option maxHeartbeats 4000000 in
set_option maxRecDepth 100000 in
theorem c_X4_idle (l : Launch) (G : GG) (γ : Nat) (κ : Nat → Nat) (π : Nat → Nat) (α : Nat → Nat) (β : Nat → Nat) (η : Nat → Nat) (ς : Nat) (ρ : QS) (ϖ : PS) (σ : DS) (τ : DS) (ring : Nat → Option Nat) (o n : Nat) (p1 : Int32) (tb : Nat × Nat × Nat) (ho : o < 6) (hn : n ≤ 6) (hin0 : ok_X0_init (d_st' dPre firstS)) : Nw G l yX4_idle wsX4_idle 5 133 6 818 [.ref γ, .int p1] ((gW γ (α 0) (β 0) (π 0) (κ 0) (η 0) ς) ++ ((qW G.2.1 κ ρ) ++ ((pW G.2.1 π ϖ) ++ ((dW G.2.1 α σ) ++ ((dW G.2.1 β τ) ++ (hW G.2.2 η (ring, nI o, nI n))))))) (sT tb) (some (.int (s_X4_idle ρ ϖ σ τ (ring, nI o, nI n) p1).1)) (AP G γ η ring o n (α 0) (β 0) (π 0) (κ 0) ς ((qW G.2.1 κ ρ) ++ ((pW G.2.1 π ϖ) ++ ((dW G.2.1 α σ) ++ (dW G.2.1 β ((s_X4_idle ρ ϖ σ τ (ring, nI o, nI n) p1).2))))) (s_X4_idle ρ ϖ σ τ (ring, nI o, nI n) p1).1) := by
  intro sz
  refine Met.ofW (cc := cX4_idle) (maxL := 2) (ret := (some .int)) (by decide) rfl ?_
  intro p e s m args below meth c s₁ B hml hv
  obtain ⟨rfl, hsz, hP, hK, hD0, hT⟩ := hv
  have C0 : cA p s m meth c ([.ref γ, .int p1] : List Value).toArray cX4_idle 2 (some .int) wsX4_idle RX4 := ⟨B.exec, B.bytes, B.returns, hml, findClass_of_methodNamed B.named, atoms_spec (ws := wsX4_idle) B.pre, B.notSynchronized⟩
  obtain ⟨hx, hb, hr, hml, hown, hts, hlocks⟩ := id C0
  have hF : CallFix p m c cX4_idle 2 s _ wsX4_idle RX4 := ⟨hx, hb, hml, hown, hts⟩
  subst hsz
  obtain ⟨w0, hw0⟩ : ∃ w0 : va_W, w0 = ((gW γ (α 0) (β 0) (π 0) (κ 0) (η 0) ς) ++ ((qW G.2.1 κ ρ) ++ ((pW G.2.1 π ϖ) ++ ((dW G.2.1 α σ) ++ ((dW G.2.1 β τ) ++ (hW G.2.2 η (ring, nI o, nI n))))))) := ⟨_, rfl⟩
  have hD : va_D (va_A w0 s.heap.size) ((gW γ (α 0) (β 0) (π 0) (κ 0) (η 0) ς) ++ ((qW G.2.1 κ ρ) ++ ((pW G.2.1 π ϖ) ++ ((dW G.2.1 α σ) ++ ((dW G.2.1 β τ) ++ (hW G.2.2 η (ring, nI o, nI n))))))) := by rw [hw0]; exact hD0.self
  have hA : ∀ q : Nat, s.heap.size ≤ q → va_A w0 s.heap.size q := fun q h => Or.inr h
  rw [← hw0] at hT
  rw [show QN G ((gW γ (α 0) (β 0) (π 0) (κ 0) (η 0) ς) ++ ((qW G.2.1 κ ρ) ++ ((pW G.2.1 π ϖ) ++ ((dW G.2.1 α σ) ++ ((dW G.2.1 β τ) ++ (hW G.2.2 η (ring, nI o, nI n))))))) = QN G w0 from by rw [hw0], show va_A ((gW γ (α 0) (β 0) (π 0) (κ 0) (η 0) ς) ++ ((qW G.2.1 κ ρ) ++ ((pW G.2.1 π ϖ) ++ ((dW G.2.1 α σ) ++ ((dW G.2.1 β τ) ++ (hW G.2.2 η (ring, nI o, nI n))))))) s.heap.size = va_A w0 s.heap.size from by rw [hw0]]
  have hS : va_S (va_A w0 s.heap.size) s.heap s.heap [] := va_S.rf
  have hl := lv_entry ([.ref γ, .int p1]) (n := 2) (Nat.le_of_ble_eq_true rfl)
  rw [lg_entry_eq]
  generalize (lg_sl ([.ref γ, .int p1]) ++ List.replicate (2 - (lg_sl ([.ref γ, .int p1])).length) Slot.unset).toArray = ls at hl ⊢
  have hl : lv_has ls 2 [(0, .ref γ), (1, .int p1)] := hl
  refine lv_iload_n hx hb dX4_idle_0 rfl (lv_at hl 1 rfl) ?_
  refine lv_iconst (v := 1) hx hb dX4_idle_1 (by decide) ?_
  refine lv_icmp_lt (tgt := 12) hx hb dX4_idle_2 (by decide) (fun (c_1 : p1 < 1) => ?_) (fun (c_1 : ¬ p1 < 1) => ?_)
  · skip
    refine lv_bipush (v := (-2)) hx hb dX4_idle_12 (by decide) ?_
    have E9 : s_X4_idle ρ ϖ σ τ (ring, nI o, nI n) p1 = ((-2), τ) := by rw [s_X4_idle]; rw [if_pos c_1]
    rw [pr1 E9, pr2 E9]
    refine W.widen (k := 6) (n := 818) (Nat.zero_le _) (Nat.zero_le _) ?_
    exact W.iret hx hb hr (fun t ht hW => ⟨rfl, ⟨_, Or.inl ⟨(by decide), rfl⟩, by rw [ht]; exact hP.perm (pmE _ _ _ _ _ _), hD.perm (pmE _ _ _ _ _ _)⟩, hS.F ht⟩) hS.2.2 dX4_idle_14
  · skip
    refine lv_iload_n hx hb dX4_idle_5 rfl (lv_at hl 1 rfl) ?_
    refine lv_sipush (v := 9999) hx hb dX4_idle_6 (by decide) ?_
    refine lv_icmp_le (tgt := 15) hx hb dX4_idle_9 (by decide) (fun (c_2 : p1 ≤ 9999) => ?_) (fun (c_2 : ¬ p1 ≤ 9999) => ?_)
    · skip
      refine lv_aload_n hx hb dX4_idle_15 rfl (lv_at hl 0 rfl) ?_
      refine lv_aload_n hx hb dX4_idle_16 rfl (lv_at hl 0 rfl) ?_
      refine wrVP (W1 := ((gW γ (α 0) (β 0) (π 0) (κ 0) (η 0) ς) ++ ((qW G.2.1 κ ρ) ++ ((pW G.2.1 π ϖ) ++ ((dW G.2.1 α σ) ++ ((dW G.2.1 β (s_X4_freshTrial σ τ)) ++ (hW G.2.2 η (ring, nI o, nI n)))))))) (As := []) (rest := [.ref γ]) (c_X4_freshTrial l G γ α β π κ η ς σ τ) hF (cwV 0 hts gX4_idle_X4_freshTrial rfl rfl rfl (by decide +kernel) ⟨Nat.le_of_ble_eq_true rfl, Nat.le_of_ble_eq_true rfl⟩) (va_recv hK.1 hP (ci := 4) (q0 := 0) rfl rfl) hK hP hD hS (pm6_034125_3 _ _ _ _ _ _) (pm6_034125_3 _ _ _ _ _ _).symm ((fst_app (fst_G) (fst_app (fst_D _ _) (fst_D _ _)))) rfl hl.1 rfl (Nat.le_of_ble_eq_true rfl) dX4_idle_17 ⟨Nat.zero_le _, Nat.zero_le _⟩ (fun H locs hP hD hS => ?_)
      have hP : va_P G.1 vwCl ((gW γ (α 0) (β 0) (π 0) (κ 0) (η 0) ς) ++ ((qW G.2.1 κ ρ) ++ ((pW G.2.1 π ϖ) ++ ((dW G.2.1 α σ) ++ ((dW G.2.1 β (s_X4_freshTrial σ τ)) ++ (hW G.2.2 η (ring, nI o, nI n))))))) H := hP
      have hD : va_D (va_A w0 s.heap.size) ((gW γ (α 0) (β 0) (π 0) (κ 0) (η 0) ς) ++ ((qW G.2.1 κ ρ) ++ ((pW G.2.1 π ϖ) ++ ((dW G.2.1 α σ) ++ ((dW G.2.1 β (s_X4_freshTrial σ τ)) ++ (hW G.2.2 η (ring, nI o, nI n))))))) := hD
      refine lv_iload_n hx hb dX4_idle_20 rfl (lv_at hl 1 rfl) ?_
      refine wrVP (W1 := ((gW γ (α 0) (β 0) (π 0) (κ 0) (η 0) ς) ++ ((qW G.2.1 κ ρ) ++ ((pW G.2.1 π ϖ) ++ ((dW G.2.1 α σ) ++ ((dW G.2.1 β ((s_X0_waitFor (s_X4_freshTrial σ τ) p1).2)) ++ (hW G.2.2 η (ring, nI o, nI n)))))))) (As := [.int p1]) (rest := [.ref γ]) (c_X0_waitFor l G β (s_X4_freshTrial σ τ) p1) hF (cwV 1 hts gX4_idle_X0_waitFor rfl rfl rfl (by decide +kernel) ⟨Nat.le_of_ble_eq_true rfl, Nat.le_of_ble_eq_true rfl⟩) (va_recv hK.1 hP (ci := 0) (q0 := 13) rfl rfl) hK hP hD hS (pm6_401235_1 _ _ _ _ _ _) (pm6_401235_1 _ _ _ _ _ _).symm ((fst_D _ _)) rfl hl.1 rfl (Nat.le_of_ble_eq_true rfl) dX4_idle_21 ⟨Nat.zero_le _, Nat.zero_le _⟩ (fun H locs hP hD hS => ?_)
      have hP : va_P G.1 vwCl ((gW γ (α 0) (β 0) (π 0) (κ 0) (η 0) ς) ++ ((qW G.2.1 κ ρ) ++ ((pW G.2.1 π ϖ) ++ ((dW G.2.1 α σ) ++ ((dW G.2.1 β ((s_X0_waitFor (s_X4_freshTrial σ τ) p1).2)) ++ (hW G.2.2 η (ring, nI o, nI n))))))) H := hP
      have hD : va_D (va_A w0 s.heap.size) ((gW γ (α 0) (β 0) (π 0) (κ 0) (η 0) ς) ++ ((qW G.2.1 κ ρ) ++ ((pW G.2.1 π ϖ) ++ ((dW G.2.1 α σ) ++ ((dW G.2.1 β ((s_X0_waitFor (s_X4_freshTrial σ τ) p1).2)) ++ (hW G.2.2 η (ring, nI o, nI n))))))) := hD
      refine nwVP (As := [.int ((s_X0_waitFor (s_X4_freshTrial σ τ) p1).1)]) (rest := []) (c_X4_adopt l G γ η ring o n (α 0) (β 0) (π 0) (κ 0) ς (dF α σ) ((s_X0_waitFor (s_X4_freshTrial σ τ) p1).1) tb ho hn hin0) sT.blind hF (cwV 1 hts gX4_idle_X4_adopt rfl rfl rfl (by decide +kernel) ⟨Nat.le_of_ble_eq_true rfl, Nat.le_of_ble_eq_true rfl⟩) (va_recv hK.1 hP (ci := 4) (q0 := 0) rfl rfl) hK hP hD hS hA (pmA (gW γ (α 0) (β 0) (π 0) (κ 0) (η 0) ς) (qW G.2.1 κ ρ) (pW G.2.1 π ϖ) [(α 0, .inr (0, dF α σ))] (dR G.2.1 α σ) (dW G.2.1 β ((s_X0_waitFor (s_X4_freshTrial σ τ) p1).2)) (hW G.2.2 η (ring, nI o, nI n))) (fun U hU hW hF => hT.to hS hF hU hW) rfl hl.1 rfl (Nat.le_of_ble_eq_true rfl) dX4_idle_24 ⟨Nat.le_of_ble_eq_true rfl, Nat.le_of_ble_eq_true rfl⟩ (fun w1 H locs hB hP hD hS => ?_)
      obtain ⟨w2, hB2, hpm⟩ := hB.mv (pmX (qW G.2.1 κ ρ) (pW G.2.1 π ϖ) [(α 0, .inr (0, dF α σ))] (dR G.2.1 α σ) (dW G.2.1 β ((s_X0_waitFor (s_X4_freshTrial σ τ) p1).2)))
      have E9 : s_X4_idle ρ ϖ σ τ (ring, nI o, nI n) p1 = (((s_X0_waitFor (s_X4_freshTrial σ τ) p1).1), ((s_X0_waitFor (s_X4_freshTrial σ τ) p1).2)) := by rw [s_X4_idle]; rw [if_neg c_1, if_pos c_2]
      rw [pr1 E9, pr2 E9]
      exact W.iret hx hb hr (fun t ht hW => ⟨rfl, ⟨w2, hB2, by rw [ht]; exact hP.perm hpm, hD.perm hpm⟩, hS.F ht⟩) hS.2.2 dX4_idle_27
    · skip
      refine lv_bipush (v := (-2)) hx hb dX4_idle_12 (by decide) ?_
      have E9 : s_X4_idle ρ ϖ σ τ (ring, nI o, nI n) p1 = ((-2), τ) := by rw [s_X4_idle]; rw [if_neg c_1, if_neg c_2]
      rw [pr1 E9, pr2 E9]
      refine W.widen (k := 6) (n := 818) (Nat.zero_le _) (Nat.zero_le _) ?_
      exact W.iret hx hb hr (fun t ht hW => ⟨rfl, ⟨_, Or.inl ⟨(by decide), rfl⟩, by rw [ht]; exact hP.perm (pmE _ _ _ _ _ _), hD.perm (pmE _ _ _ _ _ _)⟩, hS.F ht⟩) hS.2.2 dX4_idle_14
def t1_X4_run (ρ : QS) (ϖ : PS) (σ : DS) (τ : DS) (hs : HS) (p1 : Int32) : QS := (((s_X3_doOn ((s_X3_parse ρ ϖ).2) (s_X4_freshTrial σ τ) p1).2).1)
def t2_X4_run (ρ : QS) (ϖ : PS) (σ : DS) (τ : DS) (hs : HS) (p1 : Int32) : DS := (((s_X3_doOn ((s_X3_parse ρ ϖ).2) (s_X4_freshTrial σ τ) p1).2).2)
def s_X4_run (ρ : QS) (ϖ : PS) (σ : DS) (τ : DS) (hs : HS) (p1 : Int32) : Int32 × QS × PS × DS := (if ((s_X3_parse ρ ϖ).1) = (-6) then (((s_X3_doOn ((s_X3_parse ρ ϖ).2) (s_X4_freshTrial σ τ) p1).1), ((t1_X4_run ρ ϖ σ τ hs p1), (s_X2_clear ϖ), (t2_X4_run ρ ϖ σ τ hs p1))) else ((-3), (((s_X3_parse ρ ϖ).2), ϖ, τ)))
def ok_X4_run (ρ : QS) (ϖ : PS) (σ : DS) (τ : DS) (hs : HS) (p1 : Int32) : Prop := (ok_X3_parse ρ ϖ) ∧ ((((s_X3_parse ρ ϖ).1) = (-6) → (ok_X3_doOn ((s_X3_parse ρ ϖ).2) (s_X4_freshTrial σ τ) p1)) ∧ (¬ ((s_X3_parse ρ ϖ).1) = (-6) → True))
set_option maxHeartbeats 4000000 in
set_option maxRecDepth 100000 in
theorem c_X4_run (l : Launch) (G : GG) (γ : Nat) (κ : Nat → Nat) (π : Nat → Nat) (α : Nat → Nat) (β : Nat → Nat) (η : Nat → Nat) (ς : Nat) (ρ : QS) (ϖ : PS) (σ : DS) (τ : DS) (ring : Nat → Option Nat) (o n : Nat) (p1 : Int32) (tb : Nat × Nat × Nat) (ho : o < 6) (hn : n ≤ 6) (hin0 : ok_X0_init (d_st' dPre firstS)) (hok : ok_X4_run ρ ϖ σ τ (ring, nI o, nI n) p1) : Nw G l yX4_run wsX4_run 7 160 6 818 [.ref γ, .int p1] ((gW γ (α 0) (β 0) (π 0) (κ 0) (η 0) ς) ++ ((qW G.2.1 κ ρ) ++ ((pW G.2.1 π ϖ) ++ ((dW G.2.1 α σ) ++ ((dW G.2.1 β τ) ++ (hW G.2.2 η (ring, nI o, nI n))))))) (sT tb) (some (.int (s_X4_run ρ ϖ σ τ (ring, nI o, nI n) p1).1)) (AP G γ η ring o n (α 0) (β 0) (π 0) (κ 0) ς ((qW G.2.1 κ ((s_X4_run ρ ϖ σ τ (ring, nI o, nI n) p1).2.1)) ++ ((pW G.2.1 π ((s_X4_run ρ ϖ σ τ (ring, nI o, nI n) p1).2.2.1)) ++ ((dW G.2.1 α σ) ++ (dW G.2.1 β ((s_X4_run ρ ϖ σ τ (ring, nI o, nI n) p1).2.2.2))))) (s_X4_run ρ ϖ σ τ (ring, nI o, nI n) p1).1) := by
  intro sz
  refine Met.ofW (cc := cX4_run) (maxL := 3) (ret := (some .int)) (by decide) rfl ?_
  intro p e s m args below meth c s₁ B hml hv
  obtain ⟨rfl, hsz, hP, hK, hD0, hT⟩ := hv
  have C0 : cA p s m meth c ([.ref γ, .int p1] : List Value).toArray cX4_run 3 (some .int) wsX4_run RX4 := ⟨B.exec, B.bytes, B.returns, hml, findClass_of_methodNamed B.named, atoms_spec (ws := wsX4_run) B.pre, B.notSynchronized⟩
  obtain ⟨hx, hb, hr, hml, hown, hts, hlocks⟩ := id C0
  have hF : CallFix p m c cX4_run 3 s _ wsX4_run RX4 := ⟨hx, hb, hml, hown, hts⟩
  have hinX4 : ∀ w ∈ wsX40, w ∈ wsX4_run := by decide +kernel
  subst hsz
  obtain ⟨w0, hw0⟩ : ∃ w0 : va_W, w0 = ((gW γ (α 0) (β 0) (π 0) (κ 0) (η 0) ς) ++ ((qW G.2.1 κ ρ) ++ ((pW G.2.1 π ϖ) ++ ((dW G.2.1 α σ) ++ ((dW G.2.1 β τ) ++ (hW G.2.2 η (ring, nI o, nI n))))))) := ⟨_, rfl⟩
  have hD : va_D (va_A w0 s.heap.size) ((gW γ (α 0) (β 0) (π 0) (κ 0) (η 0) ς) ++ ((qW G.2.1 κ ρ) ++ ((pW G.2.1 π ϖ) ++ ((dW G.2.1 α σ) ++ ((dW G.2.1 β τ) ++ (hW G.2.2 η (ring, nI o, nI n))))))) := by rw [hw0]; exact hD0.self
  have hA : ∀ q : Nat, s.heap.size ≤ q → va_A w0 s.heap.size q := fun q h => Or.inr h
  rw [← hw0] at hT
  rw [show QN G ((gW γ (α 0) (β 0) (π 0) (κ 0) (η 0) ς) ++ ((qW G.2.1 κ ρ) ++ ((pW G.2.1 π ϖ) ++ ((dW G.2.1 α σ) ++ ((dW G.2.1 β τ) ++ (hW G.2.2 η (ring, nI o, nI n))))))) = QN G w0 from by rw [hw0], show va_A ((gW γ (α 0) (β 0) (π 0) (κ 0) (η 0) ς) ++ ((qW G.2.1 κ ρ) ++ ((pW G.2.1 π ϖ) ++ ((dW G.2.1 α σ) ++ ((dW G.2.1 β τ) ++ (hW G.2.2 η (ring, nI o, nI n))))))) s.heap.size = va_A w0 s.heap.size from by rw [hw0]]
  have hS : va_S (va_A w0 s.heap.size) s.heap s.heap [] := va_S.rf
  have hl := lv_entry ([.ref γ, .int p1]) (n := 3) (Nat.le_of_ble_eq_true rfl)
  rw [lg_entry_eq]
  generalize (lg_sl ([.ref γ, .int p1]) ++ List.replicate (3 - (lg_sl ([.ref γ, .int p1])).length) Slot.unset).toArray = ls at hl ⊢
  have hl : lv_has ls 3 [(0, .ref γ), (1, .int p1)] := hl
  have hok : (ok_X3_parse ρ ϖ) ∧ ((((s_X3_parse ρ ϖ).1) = (-6) → (ok_X3_doOn ((s_X3_parse ρ ϖ).2) (s_X4_freshTrial σ τ) p1)) ∧ (¬ ((s_X3_parse ρ ϖ).1) = (-6) → True)) := hok
  obtain ⟨h_1, hok⟩ := hok
  refine lv_aload_n hx hb dX4_run_0 rfl (lv_at hl 0 rfl) ?_
  refine va_get (D := G.1) (ci := 4) (v := .ref (κ 0)) (C := RX4) (T := TX4) (N := 6) hx hb hts hinX4 hown hK.1 hP 0 rfl rfl 3 (by decide) (hts (.fieldLink RX4 29 "GrooveTurns" "requests" "LGrooveTurns$Requests;") (by decide +kernel)) (fun _ h9 => h9) rfl dX4_run_1 ?_
  refine lv_aload_n hx hb dX4_run_4 rfl (lv_at hl 0 rfl) ?_
  refine va_get (D := G.1) (ci := 4) (v := .ref (π 0)) (C := RX4) (T := TX4) (N := 6) hx hb hts hinX4 hown hK.1 hP 0 rfl rfl 2 (by decide) (hts (.fieldLink RX4 22 "GrooveTurns" "pad" "LGrooveTurns$Pad;") (by decide +kernel)) (fun _ h9 => h9) rfl dX4_run_5 ?_
  refine wrVP (W1 := ((gW γ (α 0) (β 0) (π 0) (κ 0) (η 0) ς) ++ ((qW G.2.1 κ ((s_X3_parse ρ ϖ).2)) ++ ((pW G.2.1 π ϖ) ++ ((dW G.2.1 α σ) ++ ((dW G.2.1 β τ) ++ (hW G.2.2 η (ring, nI o, nI n)))))))) (As := [.ref (π 0)]) (rest := []) (c_X3_parse l G κ π ρ ϖ h_1) hF (cwV 1 hts gX4_run_X3_parse rfl rfl rfl (by decide +kernel) ⟨Nat.le_of_ble_eq_true rfl, Nat.le_of_ble_eq_true rfl⟩) (va_recv hK.1 hP (ci := 3) (q0 := 1) rfl rfl) hK hP hD hS (pm6_120345_2 _ _ _ _ _ _) (pm6_120345_2 _ _ _ _ _ _).symm ((fst_app (fst_Q _ _) (fst_P _ _))) rfl hl.1 rfl (Nat.le_of_ble_eq_true rfl) dX4_run_8 ⟨Nat.zero_le _, Nat.zero_le _⟩ (fun H locs hP hD hS => ?_)
  have hP : va_P G.1 vwCl ((gW γ (α 0) (β 0) (π 0) (κ 0) (η 0) ς) ++ ((qW G.2.1 κ ((s_X3_parse ρ ϖ).2)) ++ ((pW G.2.1 π ϖ) ++ ((dW G.2.1 α σ) ++ ((dW G.2.1 β τ) ++ (hW G.2.2 η (ring, nI o, nI n))))))) H := hP
  have hD : va_D (va_A w0 s.heap.size) ((gW γ (α 0) (β 0) (π 0) (κ 0) (η 0) ς) ++ ((qW G.2.1 κ ((s_X3_parse ρ ϖ).2)) ++ ((pW G.2.1 π ϖ) ++ ((dW G.2.1 α σ) ++ ((dW G.2.1 β τ) ++ (hW G.2.2 η (ring, nI o, nI n))))))) := hD
  refine lv_bipush (v := (-6)) hx hb dX4_run_11 (by decide) ?_
  refine lv_icmp_eq (tgt := 19) hx hb dX4_run_13 (by decide) (fun (c_2 : ((s_X3_parse ρ ϖ).1) = (-6)) => ?_) (fun (c_2 : ¬ ((s_X3_parse ρ ϖ).1) = (-6)) => ?_)
  · skip
    have hok := hok.1 c_2
    have h_3 := hok
    refine lv_aload_n hx hb dX4_run_19 rfl (lv_at hl 0 rfl) ?_
    refine va_get (D := G.1) (ci := 4) (v := .ref (κ 0)) (C := RX4) (T := TX4) (N := 6) hx hb hts hinX4 hown hK.1 hP 0 rfl rfl 3 (by decide) (hts (.fieldLink RX4 29 "GrooveTurns" "requests" "LGrooveTurns$Requests;") (by decide +kernel)) (fun _ h9 => h9) rfl dX4_run_20 ?_
    refine lv_aload_n hx hb dX4_run_23 rfl (lv_at hl 0 rfl) ?_
    refine wrVP (W1 := ((gW γ (α 0) (β 0) (π 0) (κ 0) (η 0) ς) ++ ((qW G.2.1 κ ((s_X3_parse ρ ϖ).2)) ++ ((pW G.2.1 π ϖ) ++ ((dW G.2.1 α σ) ++ ((dW G.2.1 β (s_X4_freshTrial σ τ)) ++ (hW G.2.2 η (ring, nI o, nI n)))))))) (As := []) (rest := [.ref (κ 0)]) (c_X4_freshTrial l G γ α β π κ η ς σ τ) hF (cwV 0 hts gX4_run_X4_freshTrial rfl rfl rfl (by decide +kernel) ⟨Nat.le_of_ble_eq_true rfl, Nat.le_of_ble_eq_true rfl⟩) (va_recv hK.1 hP (ci := 4) (q0 := 0) rfl rfl) hK hP hD hS (pm6_034125_3 _ _ _ _ _ _) (pm6_034125_3 _ _ _ _ _ _).symm ((fst_app (fst_G) (fst_app (fst_D _ _) (fst_D _ _)))) rfl hl.1 rfl (Nat.le_of_ble_eq_true rfl) dX4_run_24 ⟨Nat.zero_le _, Nat.zero_le _⟩ (fun H locs hP hD hS => ?_)
    have hP : va_P G.1 vwCl ((gW γ (α 0) (β 0) (π 0) (κ 0) (η 0) ς) ++ ((qW G.2.1 κ ((s_X3_parse ρ ϖ).2)) ++ ((pW G.2.1 π ϖ) ++ ((dW G.2.1 α σ) ++ ((dW G.2.1 β (s_X4_freshTrial σ τ)) ++ (hW G.2.2 η (ring, nI o, nI n))))))) H := hP
    have hD : va_D (va_A w0 s.heap.size) ((gW γ (α 0) (β 0) (π 0) (κ 0) (η 0) ς) ++ ((qW G.2.1 κ ((s_X3_parse ρ ϖ).2)) ++ ((pW G.2.1 π ϖ) ++ ((dW G.2.1 α σ) ++ ((dW G.2.1 β (s_X4_freshTrial σ τ)) ++ (hW G.2.2 η (ring, nI o, nI n))))))) := hD
    refine lv_iload_n hx hb dX4_run_27 rfl (lv_at hl 1 rfl) ?_
    refine wrVP (W1 := ((gW γ (α 0) (β 0) (π 0) (κ 0) (η 0) ς) ++ ((qW G.2.1 κ (((s_X3_doOn ((s_X3_parse ρ ϖ).2) (s_X4_freshTrial σ τ) p1).2).1)) ++ ((pW G.2.1 π ϖ) ++ ((dW G.2.1 α σ) ++ ((dW G.2.1 β (((s_X3_doOn ((s_X3_parse ρ ϖ).2) (s_X4_freshTrial σ τ) p1).2).2)) ++ (hW G.2.2 η (ring, nI o, nI n)))))))) (As := [.ref (β 0), .int p1]) (rest := []) (c_X3_doOn l G κ β ((s_X3_parse ρ ϖ).2) (s_X4_freshTrial σ τ) p1 h_3) hF (cwV 2 hts gX4_run_X3_doOn rfl rfl rfl (by decide +kernel) ⟨Nat.le_of_ble_eq_true rfl, Nat.le_of_ble_eq_true rfl⟩) (va_recv hK.1 hP (ci := 3) (q0 := 1) rfl rfl) hK hP hD hS (pm6_140235_2 _ _ _ _ _ _) (pm6_140235_2 _ _ _ _ _ _).symm ((fst_app (fst_Q _ _) (fst_D _ _))) rfl hl.1 rfl (Nat.le_of_ble_eq_true rfl) dX4_run_28 ⟨Nat.zero_le _, Nat.zero_le _⟩ (fun H locs hP hD hS => ?_)
    have hP : va_P G.1 vwCl ((gW γ (α 0) (β 0) (π 0) (κ 0) (η 0) ς) ++ ((qW G.2.1 κ (t1_X4_run ρ ϖ σ τ (ring, nI o, nI n) p1)) ++ ((pW G.2.1 π ϖ) ++ ((dW G.2.1 α σ) ++ ((dW G.2.1 β (t2_X4_run ρ ϖ σ τ (ring, nI o, nI n) p1)) ++ (hW G.2.2 η (ring, nI o, nI n))))))) H := hP
    have hD : va_D (va_A w0 s.heap.size) ((gW γ (α 0) (β 0) (π 0) (κ 0) (η 0) ς) ++ ((qW G.2.1 κ (t1_X4_run ρ ϖ σ τ (ring, nI o, nI n) p1)) ++ ((pW G.2.1 π ϖ) ++ ((dW G.2.1 α σ) ++ ((dW G.2.1 β (t2_X4_run ρ ϖ σ τ (ring, nI o, nI n) p1)) ++ (hW G.2.2 η (ring, nI o, nI n))))))) := hD
    refine lv_istore_n (lv' := [(2, .int ((s_X3_doOn ((s_X3_parse ρ ϖ).2) (s_X4_freshTrial σ τ) p1).1)), (0, .ref γ), (1, .int p1)]) hx hb dX4_run_31 rfl hl (by decide) rfl (fun ls hl => ?_)
    refine lv_aload_n hx hb dX4_run_32 rfl (lv_at hl 1 rfl) ?_
    refine va_get (D := G.1) (ci := 4) (v := .ref (π 0)) (C := RX4) (T := TX4) (N := 6) hx hb hts hinX4 hown hK.1 hP 0 rfl rfl 2 (by decide) (hts (.fieldLink RX4 22 "GrooveTurns" "pad" "LGrooveTurns$Pad;") (by decide +kernel)) (fun _ h9 => h9) rfl dX4_run_33 ?_
    refine wrVP (W1 := ((gW γ (α 0) (β 0) (π 0) (κ 0) (η 0) ς) ++ ((qW G.2.1 κ (t1_X4_run ρ ϖ σ τ (ring, nI o, nI n) p1)) ++ ((pW G.2.1 π (s_X2_clear ϖ)) ++ ((dW G.2.1 α σ) ++ ((dW G.2.1 β (t2_X4_run ρ ϖ σ τ (ring, nI o, nI n) p1)) ++ (hW G.2.2 η (ring, nI o, nI n)))))))) (As := []) (rest := []) (c_X2_clear l G π ϖ) hF (cwV 0 hts gX4_run_X2_clear rfl rfl rfl (by decide +kernel) ⟨Nat.le_of_ble_eq_true rfl, Nat.le_of_ble_eq_true rfl⟩) (va_recv hK.1 hP (ci := 2) (q0 := 5) rfl rfl) hK hP hD hS (pm6_201345_1 _ _ _ _ _ _) (pm6_201345_1 _ _ _ _ _ _).symm ((fst_P _ _)) rfl hl.1 rfl (Nat.le_of_ble_eq_true rfl) dX4_run_36 ⟨Nat.zero_le _, Nat.zero_le _⟩ (fun H locs hP hD hS => ?_)
    have hP : va_P G.1 vwCl ((gW γ (α 0) (β 0) (π 0) (κ 0) (η 0) ς) ++ ((qW G.2.1 κ (t1_X4_run ρ ϖ σ τ (ring, nI o, nI n) p1)) ++ ((pW G.2.1 π (s_X2_clear ϖ)) ++ ((dW G.2.1 α σ) ++ ((dW G.2.1 β (t2_X4_run ρ ϖ σ τ (ring, nI o, nI n) p1)) ++ (hW G.2.2 η (ring, nI o, nI n))))))) H := hP
    have hD : va_D (va_A w0 s.heap.size) ((gW γ (α 0) (β 0) (π 0) (κ 0) (η 0) ς) ++ ((qW G.2.1 κ (t1_X4_run ρ ϖ σ τ (ring, nI o, nI n) p1)) ++ ((pW G.2.1 π (s_X2_clear ϖ)) ++ ((dW G.2.1 α σ) ++ ((dW G.2.1 β (t2_X4_run ρ ϖ σ τ (ring, nI o, nI n) p1)) ++ (hW G.2.2 η (ring, nI o, nI n))))))) := hD
    refine lv_aload_n hx hb dX4_run_39 rfl (lv_at hl 1 rfl) ?_
    refine lv_iload_n hx hb dX4_run_40 rfl (lv_at hl 0 rfl) ?_
    refine nwVP (As := [.int ((s_X3_doOn ((s_X3_parse ρ ϖ).2) (s_X4_freshTrial σ τ) p1).1)]) (rest := []) (c_X4_adopt l G γ η ring o n (α 0) (β 0) (π 0) (κ 0) ς (dF α σ) ((s_X3_doOn ((s_X3_parse ρ ϖ).2) (s_X4_freshTrial σ τ) p1).1) tb ho hn hin0) sT.blind hF (cwV 1 hts gX4_run_X4_adopt rfl rfl rfl (by decide +kernel) ⟨Nat.le_of_ble_eq_true rfl, Nat.le_of_ble_eq_true rfl⟩) (va_recv hK.1 hP (ci := 4) (q0 := 0) rfl rfl) hK hP hD hS hA (pmA (gW γ (α 0) (β 0) (π 0) (κ 0) (η 0) ς) (qW G.2.1 κ (t1_X4_run ρ ϖ σ τ (ring, nI o, nI n) p1)) (pW G.2.1 π (s_X2_clear ϖ)) [(α 0, .inr (0, dF α σ))] (dR G.2.1 α σ) (dW G.2.1 β (t2_X4_run ρ ϖ σ τ (ring, nI o, nI n) p1)) (hW G.2.2 η (ring, nI o, nI n))) (fun U hU hW hF => hT.to hS hF hU hW) rfl hl.1 rfl (Nat.le_of_ble_eq_true rfl) dX4_run_41 ⟨Nat.le_of_ble_eq_true rfl, Nat.le_of_ble_eq_true rfl⟩ (fun w1 H locs hB hP hD hS => ?_)
    obtain ⟨w2, hB2, hpm⟩ := hB.mv (pmX (qW G.2.1 κ (t1_X4_run ρ ϖ σ τ (ring, nI o, nI n) p1)) (pW G.2.1 π (s_X2_clear ϖ)) [(α 0, .inr (0, dF α σ))] (dR G.2.1 α σ) (dW G.2.1 β (t2_X4_run ρ ϖ σ τ (ring, nI o, nI n) p1)))
    have E9 : s_X4_run ρ ϖ σ τ (ring, nI o, nI n) p1 = (((s_X3_doOn ((s_X3_parse ρ ϖ).2) (s_X4_freshTrial σ τ) p1).1), ((t1_X4_run ρ ϖ σ τ (ring, nI o, nI n) p1), (s_X2_clear ϖ), (t2_X4_run ρ ϖ σ τ (ring, nI o, nI n) p1))) := by rw [s_X4_run]; rw [if_pos c_2]
    rw [pr1 E9, pr1 (pr2 E9), pr1 (pr2 (pr2 E9)), pr2 (pr2 (pr2 E9))]
    exact W.iret hx hb hr (fun t ht hW => ⟨rfl, ⟨w2, hB2, by rw [ht]; exact hP.perm hpm, hD.perm hpm⟩, hS.F ht⟩) hS.2.2 dX4_run_44
  · skip
    refine lv_bipush (v := (-3)) hx hb dX4_run_16 (by decide) ?_
    have E9 : s_X4_run ρ ϖ σ τ (ring, nI o, nI n) p1 = ((-3), (((s_X3_parse ρ ϖ).2), ϖ, τ)) := by rw [s_X4_run]; rw [if_neg c_2]
    rw [pr1 E9, pr1 (pr2 E9), pr1 (pr2 (pr2 E9)), pr2 (pr2 (pr2 E9))]
    refine W.widen (k := 6) (n := 818) (Nat.zero_le _) (Nat.zero_le _) ?_
    exact W.iret hx hb hr (fun t ht hW => ⟨rfl, ⟨_, Or.inl ⟨(by decide), rfl⟩, by rw [ht]; exact hP.perm (pmE _ _ _ _ _ _), hD.perm (pmE _ _ _ _ _ _)⟩, hS.F ht⟩) hS.2.2 dX4_run_18
