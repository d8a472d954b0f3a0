def s_X5_in (p0 : Int64) (p2 : Int64) (p4 : Int64) : Int32 := (if (lg_cmp p0 p2) < 0 then 0 else (if 0 < (lg_cmp p0 p4) then 0 else 1))
theorem b_X5_in (p0 : Int64) (p2 : Int64) (p4 : Int64) : (s_X5_in p0 p2 p4) = 0 ∨ (s_X5_in p0 p2 p4) = 1 := by
  unfold s_X5_in
  by_cases c_1 : (lg_cmp p0 p2) < 0
  · skip
    rw [if_pos c_1]
    exact Or.inl rfl
  · skip
    by_cases c_2 : 0 < (lg_cmp p0 p4)
    · skip
      rw [if_neg c_1, if_pos c_2]
      exact Or.inl rfl
    · skip
      rw [if_neg c_1, if_neg c_2]
      exact Or.inr rfl
set_option maxHeartbeats 4000000 in
set_option maxRecDepth 100000 in
theorem c_X5_in (l : Launch) (G : GG) (p0 : Int64) (p2 : Int64) (p4 : Int64) : Rd G l yX5_in wsX5_in 0 0 [.long p0, .long p2, .long p4] [] (.int (s_X5_in p0 p2 p4)) := by
  refine Met.ofW (cc := cX5_in) (maxL := 6) (ret := (some .boolean)) (by decide) rfl ?_
  intro p e s m args below meth c s₁ B hml hv
  obtain ⟨rfl, hP, hK⟩ := hv
  have C0 : cA p s m meth c ([.long p0, .long p2, .long p4] : List Value).toArray cX5_in 6 (some .boolean) wsX5_in RX5 := ⟨B.exec, B.bytes, B.returns, hml, findClass_of_methodNamed B.named, atoms_spec (ws := wsX5_in) B.pre, B.notSynchronized⟩
  obtain ⟨hx, hb, hr, hml, hown, hts, hlocks⟩ := id C0
  have hF : CallFix p m c cX5_in 6 s _ wsX5_in RX5 := ⟨hx, hb, hml, hown, hts⟩
  have hl := lv_entry ([.long p0, .long p2, .long p4]) (n := 6) (Nat.le_of_ble_eq_true rfl)
  rw [lg_entry_eq]
  generalize (lg_sl ([.long p0, .long p2, .long p4]) ++ List.replicate (6 - (lg_sl ([.long p0, .long p2, .long p4])).length) Slot.unset).toArray = ls at hl ⊢
  have hl : lv_has ls 6 [(0, .long p0), (2, .long p2), (4, .long p4)] := hl
  refine lv_lload_n hx hb dX5_in_0 rfl (lv_at hl 0 rfl) ?_
  refine lv_lload_n hx hb dX5_in_1 rfl (lv_at hl 1 rfl) ?_
  refine W.lcmp hx hb dX5_in_2 ?_
  refine lv_if_lt (tgt := 17) hx hb dX5_in_3 (by decide) (fun (c_1 : (lg_cmp p0 p2) < 0) => ?_) (fun (c_1 : ¬ (lg_cmp p0 p2) < 0) => ?_)
  · skip
    refine lv_iconst (v := 0) hx hb dX5_in_17 (by decide) ?_
    rw [show s_X5_in p0 p2 p4 = 0 from by rw [s_X5_in]; rw [if_pos c_1]]
    exact W.zret (ty := .boolean) hx hb hr rfl (fun t ht hW => ⟨rfl, ht⟩) (fun _ h => nomatch h) dX5_in_18
  · skip
    refine lv_lload_n hx hb dX5_in_6 rfl (lv_at hl 0 rfl) ?_
    refine lv_lload hx hb dX5_in_7 (lv_at hl 2 rfl) ?_
    refine W.lcmp hx hb dX5_in_9 ?_
    refine lv_if_gt (tgt := 17) hx hb dX5_in_10 (by decide) (fun (c_2 : 0 < (lg_cmp p0 p4)) => ?_) (fun (c_2 : ¬ 0 < (lg_cmp p0 p4)) => ?_)
    · skip
      refine lv_iconst (v := 0) hx hb dX5_in_17 (by decide) ?_
      rw [show s_X5_in p0 p2 p4 = 0 from by rw [s_X5_in]; rw [if_neg c_1, if_pos c_2]]
      exact W.zret (ty := .boolean) hx hb hr rfl (fun t ht hW => ⟨rfl, ht⟩) (fun _ h => nomatch h) dX5_in_18
    · skip
      refine lv_iconst (v := 1) hx hb dX5_in_13 (by decide) ?_
      refine lv_goto (tgt := 18) hx hb dX5_in_14 (by decide) ?_
      rw [show s_X5_in p0 p2 p4 = 1 from by rw [s_X5_in]; rw [if_neg c_1, if_neg c_2]]
      exact W.zret (ty := .boolean) hx hb hr rfl (fun t ht hW => ⟨rfl, ht⟩) (fun _ h => nomatch h) dX5_in_18
def s_X5_isAddress (p0 : Int32) : Int32 := (s_X5_in p0.toInt64 0 191)
theorem b_X5_isAddress (p0 : Int32) : (s_X5_isAddress p0) = 0 ∨ (s_X5_isAddress p0) = 1 := by
  unfold s_X5_isAddress
  exact b_X5_in p0.toInt64 0 191
set_option maxHeartbeats 4000000 in
set_option maxRecDepth 100000 in
theorem c_X5_isAddress (l : Launch) (G : GG) (p0 : Int32) : Rd G l yX5_isAddress wsX5_isAddress 1 25 [.int p0] [] (.int (s_X5_isAddress p0)) := by
  refine Met.ofW (cc := cX5_isAddress) (maxL := 1) (ret := (some .boolean)) (by decide) rfl ?_
  intro p e s m args below meth c s₁ B hml hv
  obtain ⟨rfl, hP, hK⟩ := hv
  have C0 : cA p s m meth c ([.int p0] : List Value).toArray cX5_isAddress 1 (some .boolean) wsX5_isAddress RX5 := ⟨B.exec, B.bytes, B.returns, hml, findClass_of_methodNamed B.named, atoms_spec (ws := wsX5_isAddress) B.pre, B.notSynchronized⟩
  obtain ⟨hx, hb, hr, hml, hown, hts, hlocks⟩ := id C0
  have hF : CallFix p m c cX5_isAddress 1 s _ wsX5_isAddress RX5 := ⟨hx, hb, hml, hown, hts⟩
  have hl := lv_entry ([.int p0]) (n := 1) (Nat.le_of_ble_eq_true rfl)
  rw [lg_entry_eq]
  generalize (lg_sl ([.int p0]) ++ List.replicate (1 - (lg_sl ([.int p0])).length) Slot.unset).toArray = ls at hl ⊢
  have hl : lv_has ls 1 [(0, .int p0)] := hl
  refine lv_iload_n hx hb dX5_isAddress_0 rfl (lv_at hl 0 rfl) ?_
  refine lv_i2l (v := p0.toInt64) hx hb dX5_isAddress_1 rfl ?_
  refine lv_lconst (v := 0) hx hb dX5_isAddress_2 (by decide) ?_
  refine lv_ldc2 (v := 191) hx hb hown (hts (.constantLong RX5 47 (191)) (by decide +kernel)) dX5_isAddress_3 ?_
  refine rdS (As := [.long p0.toInt64, .long 0, .long 191]) (rest := []) (c_X5_in l G p0.toInt64 0 191) hF (va_cwS 3 hts gX5_isAddress_X5_in rfl rfl rfl (by decide +kernel) ⟨Nat.le_of_ble_eq_true rfl, Nat.le_of_ble_eq_true rfl⟩) hK va_P0 rfl hl.1 rfl (Nat.le_of_ble_eq_true rfl) dX5_isAddress_6 ⟨Nat.zero_le _, Nat.zero_le _⟩ ?_
  rw [show s_X5_isAddress p0 = (s_X5_in p0.toInt64 0 191) from by rw [s_X5_isAddress]]
  exact W.zret (ty := .boolean) hx hb hr (nbool (b_X5_in _ _ _)) (fun t ht hW => ⟨rfl, ht⟩) (fun _ h => nomatch h) dX5_isAddress_9
def s_X5_isSlot (p0 : Int32) : Int32 := (if p0 = 0 then 1 else (if p0 = 1 then 1 else 0))
theorem b_X5_isSlot (p0 : Int32) : (s_X5_isSlot p0) = 0 ∨ (s_X5_isSlot p0) = 1 := by
  unfold s_X5_isSlot
  by_cases c_1 : p0 = 0
  · skip
    rw [if_pos c_1]
    exact Or.inr rfl
  · skip
    by_cases c_2 : p0 = 1
    · skip
      rw [if_neg c_1, if_pos c_2]
      exact Or.inr rfl
    · skip
      rw [if_neg c_1, if_neg c_2]
      exact Or.inl rfl
set_option maxHeartbeats 4000000 in
set_option maxRecDepth 100000 in
theorem c_X5_isSlot (l : Launch) (G : GG) (p0 : Int32) : Rd G l yX5_isSlot wsX5_isSlot 0 0 [.int p0] [] (.int (s_X5_isSlot p0)) := by
  refine Met.ofW (cc := cX5_isSlot) (maxL := 1) (ret := (some .boolean)) (by decide) rfl ?_
  intro p e s m args below meth c s₁ B hml hv
  obtain ⟨rfl, hP, hK⟩ := hv
  have C0 : cA p s m meth c ([.int p0] : List Value).toArray cX5_isSlot 1 (some .boolean) wsX5_isSlot RX5 := ⟨B.exec, B.bytes, B.returns, hml, findClass_of_methodNamed B.named, atoms_spec (ws := wsX5_isSlot) B.pre, B.notSynchronized⟩
  obtain ⟨hx, hb, hr, hml, hown, hts, hlocks⟩ := id C0
  have hF : CallFix p m c cX5_isSlot 1 s _ wsX5_isSlot RX5 := ⟨hx, hb, hml, hown, hts⟩
  have hl := lv_entry ([.int p0]) (n := 1) (Nat.le_of_ble_eq_true rfl)
  rw [lg_entry_eq]
  generalize (lg_sl ([.int p0]) ++ List.replicate (1 - (lg_sl ([.int p0])).length) Slot.unset).toArray = ls at hl ⊢
  have hl : lv_has ls 1 [(0, .int p0)] := hl
  refine lv_iload_n hx hb dX5_isSlot_0 rfl (lv_at hl 0 rfl) ?_
  refine lv_if_eq (tgt := 9) hx hb dX5_isSlot_1 (by decide) (fun (c_1 : p0 = 0) => ?_) (fun (c_1 : ¬ p0 = 0) => ?_)
  · skip
    refine lv_iconst (v := 1) hx hb dX5_isSlot_9 (by decide) ?_
    refine lv_goto (tgt := 14) hx hb dX5_isSlot_10 (by decide) ?_
    rw [show s_X5_isSlot p0 = 1 from by rw [s_X5_isSlot]; rw [if_pos c_1]]
    exact W.zret (ty := .boolean) hx hb hr rfl (fun t ht hW => ⟨rfl, ht⟩) (fun _ h => nomatch h) dX5_isSlot_14
  · skip
    refine lv_iload_n hx hb dX5_isSlot_4 rfl (lv_at hl 0 rfl) ?_
    refine lv_iconst (v := 1) hx hb dX5_isSlot_5 (by decide) ?_
    refine lv_icmp_ne (tgt := 13) hx hb dX5_isSlot_6 (by decide) (fun (c_2 : ¬ p0 = 1) => ?_) (fun (c_2 : p0 = 1) => ?_)
    · skip
      refine lv_iconst (v := 0) hx hb dX5_isSlot_13 (by decide) ?_
      rw [show s_X5_isSlot p0 = 0 from by rw [s_X5_isSlot]; rw [if_neg c_1, if_neg c_2]]
      exact W.zret (ty := .boolean) hx hb hr rfl (fun t ht hW => ⟨rfl, ht⟩) (fun _ h => nomatch h) dX5_isSlot_14
    · skip
      refine lv_iconst (v := 1) hx hb dX5_isSlot_9 (by decide) ?_
      refine lv_goto (tgt := 14) hx hb dX5_isSlot_10 (by decide) ?_
      rw [show s_X5_isSlot p0 = 1 from by rw [s_X5_isSlot]; rw [if_neg c_1, if_pos c_2]]
      exact W.zret (ty := .boolean) hx hb hr rfl (fun t ht hW => ⟨rfl, ht⟩) (fun _ h => nomatch h) dX5_isSlot_14
def s_X5_sectorOf (σ : MS) (p1 : Int32) : Int32 := (if ((m_al σ) (624 + p1).toNatClampNeg) = (-6) then p1 else (192 + ((m_al σ) (624 + p1).toNatClampNeg)))
def ok_X5_sectorOf (σ : MS) (p1 : Int32) : Prop := vp_in (624 + p1) 816
set_option maxHeartbeats 4000000 in
set_option maxRecDepth 100000 in
theorem c_X5_sectorOf (l : Launch) (G : GG) (α : Nat → Nat) (σ : MS) (p1 : Int32) (hok : ok_X5_sectorOf σ p1) : Rd G l yX5_sectorOf wsX5_sectorOf 0 0 [.ref (α 0), .int p1] (mW G.2.1 α σ) (.int (s_X5_sectorOf σ p1)) := by
  refine Met.ofW (cc := cX5_sectorOf) (maxL := 2) (ret := (some .int)) (by decide) rfl ?_
  intro p e s m args below meth c s₁ B hml hv
  obtain ⟨rfl, hP, hK⟩ := hv
  have C0 : cA p s m meth c ([.ref (α 0), .int p1] : List Value).toArray cX5_sectorOf 2 (some .int) wsX5_sectorOf RX5 := ⟨B.exec, B.bytes, B.returns, hml, findClass_of_methodNamed B.named, atoms_spec (ws := wsX5_sectorOf) B.pre, B.notSynchronized⟩
  obtain ⟨hx, hb, hr, hml, hown, hts, hlocks⟩ := id C0
  have hF : CallFix p m c cX5_sectorOf 2 s _ wsX5_sectorOf RX5 := ⟨hx, hb, hml, hown, hts⟩
  have hinX5 : ∀ w ∈ wsX50, w ∈ wsX5_sectorOf := by decide +kernel
  have hl := lv_entry ([.ref (α 0), .int p1]) (n := 2) (Nat.le_of_ble_eq_true rfl)
  rw [lg_entry_eq]
  generalize (lg_sl ([.ref (α 0), .int p1]) ++ List.replicate (2 - (lg_sl ([.ref (α 0), .int p1])).length) Slot.unset).toArray = ls at hl ⊢
  have hl : lv_has ls 2 [(0, .ref (α 0)), (1, .int p1)] := hl
  have hok : vp_in (624 + p1) 816 := hok
  have h_1 := hok
  refine lv_aload_n hx hb dX5_sectorOf_0 rfl (lv_at hl 0 rfl) ?_
  refine get_M_all hx hb hts hinX5 hown hK hP (hts (.fieldLink RX5 7 "GrooveTurnsModel" "all" "[I") (by decide +kernel)) dX5_sectorOf_1 ?_
  refine lv_sipush (v := 624) hx hb dX5_sectorOf_4 (by decide) ?_
  refine lv_iload_n hx hb dX5_sectorOf_7 rfl (lv_at hl 1 rfl) ?_
  refine lv_iadd hx hb dX5_sectorOf_8 ?_
  refine ld_M_al hx hb hK hP h_1 dX5_sectorOf_9 ?_
  refine lv_bipush (v := (-6)) hx hb dX5_sectorOf_10 (by decide) ?_
  refine lv_icmp_ne (tgt := 19) hx hb dX5_sectorOf_12 (by decide) (fun (c_2 : ¬ ((m_al σ) (624 + p1).toNatClampNeg) = (-6)) => ?_) (fun (c_2 : ((m_al σ) (624 + p1).toNatClampNeg) = (-6)) => ?_)
  · skip
    refine lv_sipush (v := 192) hx hb dX5_sectorOf_19 (by decide) ?_
    refine lv_aload_n hx hb dX5_sectorOf_22 rfl (lv_at hl 0 rfl) ?_
    refine get_M_all hx hb hts hinX5 hown hK hP (hts (.fieldLink RX5 7 "GrooveTurnsModel" "all" "[I") (by decide +kernel)) dX5_sectorOf_23 ?_
    refine lv_sipush (v := 624) hx hb dX5_sectorOf_26 (by decide) ?_
    refine lv_iload_n hx hb dX5_sectorOf_29 rfl (lv_at hl 1 rfl) ?_
    refine lv_iadd hx hb dX5_sectorOf_30 ?_
    refine ld_M_al hx hb hK hP h_1 dX5_sectorOf_31 ?_
    refine lv_iadd hx hb dX5_sectorOf_32 ?_
    rw [show s_X5_sectorOf σ p1 = (192 + ((m_al σ) (624 + p1).toNatClampNeg)) from by rw [s_X5_sectorOf]; rw [if_neg c_2]]
    exact W.iret hx hb hr (fun t ht hW => ⟨rfl, ht⟩) (fun _ h => nomatch h) dX5_sectorOf_33
  · skip
    refine lv_iload_n hx hb dX5_sectorOf_15 rfl (lv_at hl 1 rfl) ?_
    refine lv_goto (tgt := 33) hx hb dX5_sectorOf_16 (by decide) ?_
    rw [show s_X5_sectorOf σ p1 = p1 from by rw [s_X5_sectorOf]; rw [if_pos c_2]]
    exact W.iret hx hb hr (fun t ht hW => ⟨rfl, ht⟩) (fun _ h => nomatch h) dX5_sectorOf_33
def s_X5_holds (σ : MS) (p1 : Int32) : Int32 := (if ((m_al σ) (12 + (s_X5_sectorOf σ p1)).toNatClampNeg) = (-6) then 0 else 1)
def ok_X5_holds (σ : MS) (p1 : Int32) : Prop := (ok_X5_sectorOf σ p1) ∧ (vp_in (12 + (s_X5_sectorOf σ p1)) 816)
theorem b_X5_holds (σ : MS) (p1 : Int32) : (s_X5_holds σ p1) = 0 ∨ (s_X5_holds σ p1) = 1 := by
  unfold s_X5_holds
  by_cases c_3 : ((m_al σ) (12 + (s_X5_sectorOf σ p1)).toNatClampNeg) = (-6)
  · skip
    rw [if_pos c_3]
    exact Or.inl rfl
  · skip
    rw [if_neg c_3]
    exact Or.inr rfl
set_option maxHeartbeats 4000000 in
set_option maxRecDepth 100000 in
theorem c_X5_holds (l : Launch) (G : GG) (α : Nat → Nat) (σ : MS) (p1 : Int32) (hok : ok_X5_holds σ p1) : Rd G l yX5_holds wsX5_holds 1 21 [.ref (α 0), .int p1] (mW G.2.1 α σ) (.int (s_X5_holds σ p1)) := by
  refine Met.ofW (cc := cX5_holds) (maxL := 2) (ret := (some .boolean)) (by decide) rfl ?_
  intro p e s m args below meth c s₁ B hml hv
  obtain ⟨rfl, hP, hK⟩ := hv
  have C0 : cA p s m meth c ([.ref (α 0), .int p1] : List Value).toArray cX5_holds 2 (some .boolean) wsX5_holds RX5 := ⟨B.exec, B.bytes, B.returns, hml, findClass_of_methodNamed B.named, atoms_spec (ws := wsX5_holds) B.pre, B.notSynchronized⟩
  obtain ⟨hx, hb, hr, hml, hown, hts, hlocks⟩ := id C0
  have hF : CallFix p m c cX5_holds 2 s _ wsX5_holds RX5 := ⟨hx, hb, hml, hown, hts⟩
  have hinX5 : ∀ w ∈ wsX50, w ∈ wsX5_holds := by decide +kernel
  have hl := lv_entry ([.ref (α 0), .int p1]) (n := 2) (Nat.le_of_ble_eq_true rfl)
  rw [lg_entry_eq]
  generalize (lg_sl ([.ref (α 0), .int p1]) ++ List.replicate (2 - (lg_sl ([.ref (α 0), .int p1])).length) Slot.unset).toArray = ls at hl ⊢
  have hl : lv_has ls 2 [(0, .ref (α 0)), (1, .int p1)] := hl
  have hok : (ok_X5_sectorOf σ p1) ∧ (vp_in (12 + (s_X5_sectorOf σ p1)) 816) := hok
  obtain ⟨h_1, hok⟩ := hok
  refine lv_aload_n hx hb dX5_holds_0 rfl (lv_at hl 0 rfl) ?_
  refine get_M_all hx hb hts hinX5 hown hK hP (hts (.fieldLink RX5 7 "GrooveTurnsModel" "all" "[I") (by decide +kernel)) dX5_holds_1 ?_
  refine lv_bipush (v := 12) hx hb dX5_holds_4 (by decide) ?_
  refine lv_aload_n hx hb dX5_holds_6 rfl (lv_at hl 0 rfl) ?_
  refine lv_iload_n hx hb dX5_holds_7 rfl (lv_at hl 1 rfl) ?_
  refine rdV (As := [.int p1]) (rest := [.int 12, .ref (α 1)]) (c_X5_sectorOf l G α σ p1 h_1) hF (cwV 1 hts gX5_holds_X5_sectorOf rfl rfl rfl (by decide +kernel) ⟨Nat.le_of_ble_eq_true rfl, Nat.le_of_ble_eq_true rfl⟩) (rcv_M hK hP) hK hP rfl hl.1 rfl (Nat.le_of_ble_eq_true rfl) dX5_holds_8 ⟨Nat.zero_le _, Nat.zero_le _⟩ ?_
  have h_2 := hok
  refine lv_iadd hx hb dX5_holds_11 ?_
  refine ld_M_al hx hb hK hP h_2 dX5_holds_12 ?_
  refine lv_bipush (v := (-6)) hx hb dX5_holds_13 (by decide) ?_
  refine lv_icmp_eq (tgt := 22) hx hb dX5_holds_15 (by decide) (fun (c_3 : ((m_al σ) (12 + (s_X5_sectorOf σ p1)).toNatClampNeg) = (-6)) => ?_) (fun (c_3 : ¬ ((m_al σ) (12 + (s_X5_sectorOf σ p1)).toNatClampNeg) = (-6)) => ?_)
  · skip
    refine lv_iconst (v := 0) hx hb dX5_holds_22 (by decide) ?_
    rw [show s_X5_holds σ p1 = 0 from by rw [s_X5_holds]; rw [if_pos c_3]]
    exact W.zret (ty := .boolean) hx hb hr rfl (fun t ht hW => ⟨rfl, ht⟩) (fun _ h => nomatch h) dX5_holds_23
  · skip
    refine lv_iconst (v := 1) hx hb dX5_holds_18 (by decide) ?_
    refine lv_goto (tgt := 23) hx hb dX5_holds_19 (by decide) ?_
    rw [show s_X5_holds σ p1 = 1 from by rw [s_X5_holds]; rw [if_neg c_3]]
    exact W.zret (ty := .boolean) hx hb hr rfl (fun t ht hW => ⟨rfl, ht⟩) (fun _ h => nomatch h) dX5_holds_23
def s_X5_canBeRead (σ : MS) (p1 : Int32) : Int32 := (if (s_X5_holds σ p1) = 0 then 0 else (if ((m_al σ) (2 : Int32).toNatClampNeg) ≤ ((m_al σ) (216 + (s_X5_sectorOf σ p1)).toNatClampNeg) then 0 else 1))
def ok_X5_canBeRead (σ : MS) (p1 : Int32) : Prop := (ok_X5_holds σ p1) ∧ (((s_X5_holds σ p1) = 0 → True) ∧ (¬ (s_X5_holds σ p1) = 0 → ((ok_X5_sectorOf σ p1) ∧ (vp_in (216 + (s_X5_sectorOf σ p1)) 816))))
theorem b_X5_canBeRead (σ : MS) (p1 : Int32) : (s_X5_canBeRead σ p1) = 0 ∨ (s_X5_canBeRead σ p1) = 1 := by
  unfold s_X5_canBeRead
  by_cases c_2 : (s_X5_holds σ p1) = 0
  · skip
    rw [if_pos c_2]
    exact Or.inl rfl
  · skip
    by_cases c_5 : ((m_al σ) (2 : Int32).toNatClampNeg) ≤ ((m_al σ) (216 + (s_X5_sectorOf σ p1)).toNatClampNeg)
    · skip
      rw [if_neg c_2, if_pos c_5]
      exact Or.inl rfl
    · skip
      rw [if_neg c_2, if_neg c_5]
      exact Or.inr rfl
set_option maxHeartbeats 4000000 in
set_option maxRecDepth 100000 in
theorem c_X5_canBeRead (l : Launch) (G : GG) (α : Nat → Nat) (σ : MS) (p1 : Int32) (hok : ok_X5_canBeRead σ p1) : Rd G l yX5_canBeRead wsX5_canBeRead 2 42 [.ref (α 0), .int p1] (mW G.2.1 α σ) (.int (s_X5_canBeRead σ p1)) := by
  refine Met.ofW (cc := cX5_canBeRead) (maxL := 2) (ret := (some .boolean)) (by decide) rfl ?_
  intro p e s m args below meth c s₁ B hml hv
  obtain ⟨rfl, hP, hK⟩ := hv
  have C0 : cA p s m meth c ([.ref (α 0), .int p1] : List Value).toArray cX5_canBeRead 2 (some .boolean) wsX5_canBeRead RX5 := ⟨B.exec, B.bytes, B.returns, hml, findClass_of_methodNamed B.named, atoms_spec (ws := wsX5_canBeRead) B.pre, B.notSynchronized⟩
  obtain ⟨hx, hb, hr, hml, hown, hts, hlocks⟩ := id C0
  have hF : CallFix p m c cX5_canBeRead 2 s _ wsX5_canBeRead RX5 := ⟨hx, hb, hml, hown, hts⟩
  have hinX5 : ∀ w ∈ wsX50, w ∈ wsX5_canBeRead := by decide +kernel
  have hl := lv_entry ([.ref (α 0), .int p1]) (n := 2) (Nat.le_of_ble_eq_true rfl)
  rw [lg_entry_eq]
  generalize (lg_sl ([.ref (α 0), .int p1]) ++ List.replicate (2 - (lg_sl ([.ref (α 0), .int p1])).length) Slot.unset).toArray = ls at hl ⊢
  have hl : lv_has ls 2 [(0, .ref (α 0)), (1, .int p1)] := hl
  have hok : (ok_X5_holds σ p1) ∧ (((s_X5_holds σ p1) = 0 → True) ∧ (¬ (s_X5_holds σ p1) = 0 → ((ok_X5_sectorOf σ p1) ∧ (vp_in (216 + (s_X5_sectorOf σ p1)) 816)))) := hok
  obtain ⟨h_1, hok⟩ := hok
  refine lv_aload_n hx hb dX5_canBeRead_0 rfl (lv_at hl 0 rfl) ?_
  refine lv_iload_n hx hb dX5_canBeRead_1 rfl (lv_at hl 1 rfl) ?_
  refine rdV (As := [.int p1]) (rest := []) (c_X5_holds l G α σ p1 h_1) hF (cwV 1 hts gX5_canBeRead_X5_holds rfl rfl rfl (by decide +kernel) ⟨Nat.le_of_ble_eq_true rfl, Nat.le_of_ble_eq_true rfl⟩) (rcv_M hK hP) hK hP rfl hl.1 rfl (Nat.le_of_ble_eq_true rfl) dX5_canBeRead_2 ⟨Nat.zero_le _, Nat.zero_le _⟩ ?_
  refine lv_if_eq (tgt := 35) hx hb dX5_canBeRead_5 (by decide) (fun (c_2 : (s_X5_holds σ p1) = 0) => ?_) (fun (c_2 : ¬ (s_X5_holds σ p1) = 0) => ?_)
  · skip
    refine lv_iconst (v := 0) hx hb dX5_canBeRead_35 (by decide) ?_
    rw [show s_X5_canBeRead σ p1 = 0 from by rw [s_X5_canBeRead]; rw [if_pos c_2]]
    exact W.zret (ty := .boolean) hx hb hr rfl (fun t ht hW => ⟨rfl, ht⟩) (fun _ h => nomatch h) dX5_canBeRead_36
  · skip
    have hok := hok.2 c_2
    obtain ⟨h_3, hok⟩ := hok
    refine lv_aload_n hx hb dX5_canBeRead_8 rfl (lv_at hl 0 rfl) ?_
    refine get_M_all hx hb hts hinX5 hown hK hP (hts (.fieldLink RX5 7 "GrooveTurnsModel" "all" "[I") (by decide +kernel)) dX5_canBeRead_9 ?_
    refine lv_sipush (v := 216) hx hb dX5_canBeRead_12 (by decide) ?_
    refine lv_aload_n hx hb dX5_canBeRead_15 rfl (lv_at hl 0 rfl) ?_
    refine lv_iload_n hx hb dX5_canBeRead_16 rfl (lv_at hl 1 rfl) ?_
    refine rdV (As := [.int p1]) (rest := [.int 216, .ref (α 1)]) (c_X5_sectorOf l G α σ p1 h_3) hF (cwV 1 hts gX5_canBeRead_X5_sectorOf rfl rfl rfl (by decide +kernel) ⟨Nat.le_of_ble_eq_true rfl, Nat.le_of_ble_eq_true rfl⟩) (rcv_M hK hP) hK hP rfl hl.1 rfl (Nat.le_of_ble_eq_true rfl) dX5_canBeRead_17 ⟨Nat.zero_le _, Nat.zero_le _⟩ ?_
    have h_4 := hok
    refine lv_iadd hx hb dX5_canBeRead_20 ?_
    refine ld_M_al hx hb hK hP h_4 dX5_canBeRead_21 ?_
    refine lv_aload_n hx hb dX5_canBeRead_22 rfl (lv_at hl 0 rfl) ?_
    refine get_M_all hx hb hts hinX5 hown hK hP (hts (.fieldLink RX5 7 "GrooveTurnsModel" "all" "[I") (by decide +kernel)) dX5_canBeRead_23 ?_
    refine lv_iconst (v := 2) hx hb dX5_canBeRead_26 (by decide) ?_
    refine ld_M_al hx hb hK hP (by unfold vp_in; decide) dX5_canBeRead_27 ?_
    refine lv_icmp_ge (tgt := 35) hx hb dX5_canBeRead_28 (by decide) (fun (c_5 : ((m_al σ) (2 : Int32).toNatClampNeg) ≤ ((m_al σ) (216 + (s_X5_sectorOf σ p1)).toNatClampNeg)) => ?_) (fun (c_5 : ¬ ((m_al σ) (2 : Int32).toNatClampNeg) ≤ ((m_al σ) (216 + (s_X5_sectorOf σ p1)).toNatClampNeg)) => ?_)
    · skip
      refine lv_iconst (v := 0) hx hb dX5_canBeRead_35 (by decide) ?_
      rw [show s_X5_canBeRead σ p1 = 0 from by rw [s_X5_canBeRead]; rw [if_neg c_2, if_pos c_5]]
      exact W.zret (ty := .boolean) hx hb hr rfl (fun t ht hW => ⟨rfl, ht⟩) (fun _ h => nomatch h) dX5_canBeRead_36
    · skip
      refine lv_iconst (v := 1) hx hb dX5_canBeRead_31 (by decide) ?_
      refine lv_goto (tgt := 36) hx hb dX5_canBeRead_32 (by decide) ?_
      rw [show s_X5_canBeRead σ p1 = 1 from by rw [s_X5_canBeRead]; rw [if_neg c_2, if_neg c_5]]
      exact W.zret (ty := .boolean) hx hb hr rfl (fun t ht hW => ⟨rfl, ht⟩) (fun _ h => nomatch h) dX5_canBeRead_36
def s_X5_sectorToWrite (σ : MS) (p1 : Int32) : Int32 := (if ((m_al σ) (420 + (s_X5_sectorOf σ p1)).toNatClampNeg) < ((m_al σ) (3 : Int32).toNatClampNeg) then (s_X5_sectorOf σ p1) else (if ((m_al σ) (7 : Int32).toNatClampNeg) ≤ 0 then (s_X5_sectorOf σ p1) else (204 - ((m_al σ) (7 : Int32).toNatClampNeg))))
def ok_X5_sectorToWrite (σ : MS) (p1 : Int32) : Prop := (ok_X5_sectorOf σ p1) ∧ (vp_in (420 + (s_X5_sectorOf σ p1)) 816)
set_option maxHeartbeats 4000000 in
set_option maxRecDepth 100000 in
theorem c_X5_sectorToWrite (l : Launch) (G : GG) (α : Nat → Nat) (σ : MS) (p1 : Int32) (hok : ok_X5_sectorToWrite σ p1) : Rd G l yX5_sectorToWrite wsX5_sectorToWrite 1 21 [.ref (α 0), .int p1] (mW G.2.1 α σ) (.int (s_X5_sectorToWrite σ p1)) := by
  refine Met.ofW (cc := cX5_sectorToWrite) (maxL := 4) (ret := (some .int)) (by decide) rfl ?_
  intro p e s m args below meth c s₁ B hml hv
  obtain ⟨rfl, hP, hK⟩ := hv
  have C0 : cA p s m meth c ([.ref (α 0), .int p1] : List Value).toArray cX5_sectorToWrite 4 (some .int) wsX5_sectorToWrite RX5 := ⟨B.exec, B.bytes, B.returns, hml, findClass_of_methodNamed B.named, atoms_spec (ws := wsX5_sectorToWrite) B.pre, B.notSynchronized⟩
  obtain ⟨hx, hb, hr, hml, hown, hts, hlocks⟩ := id C0
  have hF : CallFix p m c cX5_sectorToWrite 4 s _ wsX5_sectorToWrite RX5 := ⟨hx, hb, hml, hown, hts⟩
  have hinX5 : ∀ w ∈ wsX50, w ∈ wsX5_sectorToWrite := by decide +kernel
  have hl := lv_entry ([.ref (α 0), .int p1]) (n := 4) (Nat.le_of_ble_eq_true rfl)
  rw [lg_entry_eq]
  generalize (lg_sl ([.ref (α 0), .int p1]) ++ List.replicate (4 - (lg_sl ([.ref (α 0), .int p1])).length) Slot.unset).toArray = ls at hl ⊢
  have hl : lv_has ls 4 [(0, .ref (α 0)), (1, .int p1)] := hl
  have hok : (ok_X5_sectorOf σ p1) ∧ (vp_in (420 + (s_X5_sectorOf σ p1)) 816) := hok
  obtain ⟨h_1, hok⟩ := hok
  refine lv_aload_n hx hb dX5_sectorToWrite_0 rfl (lv_at hl 0 rfl) ?_
  refine lv_iload_n hx hb dX5_sectorToWrite_1 rfl (lv_at hl 1 rfl) ?_
  refine rdV (As := [.int p1]) (rest := []) (c_X5_sectorOf l G α σ p1 h_1) hF (cwV 1 hts gX5_sectorToWrite_X5_sectorOf rfl rfl rfl (by decide +kernel) ⟨Nat.le_of_ble_eq_true rfl, Nat.le_of_ble_eq_true rfl⟩) (rcv_M hK hP) hK hP rfl hl.1 rfl (Nat.le_of_ble_eq_true rfl) dX5_sectorToWrite_2 ⟨Nat.zero_le _, Nat.zero_le _⟩ ?_
  have h_2 := hok
  refine lv_istore_n (lv' := [(2, .int (s_X5_sectorOf σ p1)), (0, .ref (α 0)), (1, .int p1)]) hx hb dX5_sectorToWrite_5 rfl hl (by decide) rfl (fun ls hl => ?_)
  refine lv_aload_n hx hb dX5_sectorToWrite_6 rfl (lv_at hl 1 rfl) ?_
  refine get_M_all hx hb hts hinX5 hown hK hP (hts (.fieldLink RX5 7 "GrooveTurnsModel" "all" "[I") (by decide +kernel)) dX5_sectorToWrite_7 ?_
  refine lv_sipush (v := 420) hx hb dX5_sectorToWrite_10 (by decide) ?_
  refine lv_iload_n hx hb dX5_sectorToWrite_13 rfl (lv_at hl 0 rfl) ?_
  refine lv_iadd hx hb dX5_sectorToWrite_14 ?_
  refine ld_M_al hx hb hK hP h_2 dX5_sectorToWrite_15 ?_
  refine lv_aload_n hx hb dX5_sectorToWrite_16 rfl (lv_at hl 1 rfl) ?_
  refine get_M_all hx hb hts hinX5 hown hK hP (hts (.fieldLink RX5 7 "GrooveTurnsModel" "all" "[I") (by decide +kernel)) dX5_sectorToWrite_17 ?_
  refine lv_iconst (v := 3) hx hb dX5_sectorToWrite_20 (by decide) ?_
  refine ld_M_al hx hb hK hP (by unfold vp_in; decide) dX5_sectorToWrite_21 ?_
  refine lv_icmp_lt (tgt := 39) hx hb dX5_sectorToWrite_22 (by decide) (fun (c_3 : ((m_al σ) (420 + (s_X5_sectorOf σ p1)).toNatClampNeg) < ((m_al σ) (3 : Int32).toNatClampNeg)) => ?_) (fun (c_3 : ¬ ((m_al σ) (420 + (s_X5_sectorOf σ p1)).toNatClampNeg) < ((m_al σ) (3 : Int32).toNatClampNeg)) => ?_)
  · skip
    refine lv_iconst (v := 0) hx hb dX5_sectorToWrite_39 (by decide) ?_
    refine lv_istore_n (lv' := [(3, .int 0), (2, .int (s_X5_sectorOf σ p1)), (0, .ref (α 0)), (1, .int p1)]) hx hb dX5_sectorToWrite_40 rfl hl (by decide) rfl (fun ls hl => ?_)
    refine lv_iload_n hx hb dX5_sectorToWrite_41 rfl (lv_at hl 0 rfl) ?_
    refine lv_if_eq (tgt := 59) hx hb dX5_sectorToWrite_42 (by decide) (fun (c_4 : 0 = 0) => ?_) (fun (c_4 : ¬ 0 = 0) => ?_)
    · skip
      refine lv_iload_n hx hb dX5_sectorToWrite_59 rfl (lv_at hl 1 rfl) ?_
      rw [show s_X5_sectorToWrite σ p1 = (s_X5_sectorOf σ p1) from by rw [s_X5_sectorToWrite]; rw [if_pos c_3]]
      exact W.iret hx hb hr (fun t ht hW => ⟨rfl, ht⟩) (fun _ h => nomatch h) dX5_sectorToWrite_60
    · skip
      exact absurd (by decide) c_4
  · skip
    refine lv_aload_n hx hb dX5_sectorToWrite_25 rfl (lv_at hl 1 rfl) ?_
    refine get_M_all hx hb hts hinX5 hown hK hP (hts (.fieldLink RX5 7 "GrooveTurnsModel" "all" "[I") (by decide +kernel)) dX5_sectorToWrite_26 ?_
    refine lv_bipush (v := 7) hx hb dX5_sectorToWrite_29 (by decide) ?_
    refine ld_M_al hx hb hK hP (by unfold vp_in; decide) dX5_sectorToWrite_31 ?_
    refine lv_if_le (tgt := 39) hx hb dX5_sectorToWrite_32 (by decide) (fun (c_5 : ((m_al σ) (7 : Int32).toNatClampNeg) ≤ 0) => ?_) (fun (c_5 : ¬ ((m_al σ) (7 : Int32).toNatClampNeg) ≤ 0) => ?_)
    · skip
      refine lv_iconst (v := 0) hx hb dX5_sectorToWrite_39 (by decide) ?_
      refine lv_istore_n (lv' := [(3, .int 0), (2, .int (s_X5_sectorOf σ p1)), (0, .ref (α 0)), (1, .int p1)]) hx hb dX5_sectorToWrite_40 rfl hl (by decide) rfl (fun ls hl => ?_)
      refine lv_iload_n hx hb dX5_sectorToWrite_41 rfl (lv_at hl 0 rfl) ?_
      refine lv_if_eq (tgt := 59) hx hb dX5_sectorToWrite_42 (by decide) (fun (c_6 : 0 = 0) => ?_) (fun (c_6 : ¬ 0 = 0) => ?_)
      · skip
        refine lv_iload_n hx hb dX5_sectorToWrite_59 rfl (lv_at hl 1 rfl) ?_
        rw [show s_X5_sectorToWrite σ p1 = (s_X5_sectorOf σ p1) from by rw [s_X5_sectorToWrite]; rw [if_neg c_3, if_pos c_5]]
        exact W.iret hx hb hr (fun t ht hW => ⟨rfl, ht⟩) (fun _ h => nomatch h) dX5_sectorToWrite_60
      · skip
        exact absurd (by decide) c_6
    · skip
      refine lv_iconst (v := 1) hx hb dX5_sectorToWrite_35 (by decide) ?_
      refine lv_goto (tgt := 40) hx hb dX5_sectorToWrite_36 (by decide) ?_
      refine lv_istore_n (lv' := [(3, .int 1), (2, .int (s_X5_sectorOf σ p1)), (0, .ref (α 0)), (1, .int p1)]) hx hb dX5_sectorToWrite_40 rfl hl (by decide) rfl (fun ls hl => ?_)
      refine lv_iload_n hx hb dX5_sectorToWrite_41 rfl (lv_at hl 0 rfl) ?_
      refine lv_if_eq (tgt := 59) hx hb dX5_sectorToWrite_42 (by decide) (fun (c_7 : 1 = 0) => ?_) (fun (c_7 : ¬ 1 = 0) => ?_)
      · skip
        exact absurd c_7 (by decide)
      · skip
        refine lv_sipush (v := 204) hx hb dX5_sectorToWrite_45 (by decide) ?_
        refine lv_aload_n hx hb dX5_sectorToWrite_48 rfl (lv_at hl 2 rfl) ?_
        refine get_M_all hx hb hts hinX5 hown hK hP (hts (.fieldLink RX5 7 "GrooveTurnsModel" "all" "[I") (by decide +kernel)) dX5_sectorToWrite_49 ?_
        refine lv_bipush (v := 7) hx hb dX5_sectorToWrite_52 (by decide) ?_
        refine ld_M_al hx hb hK hP (by unfold vp_in; decide) dX5_sectorToWrite_54 ?_
        refine lv_isub hx hb dX5_sectorToWrite_55 ?_
        refine lv_goto (tgt := 60) hx hb dX5_sectorToWrite_56 (by decide) ?_
        rw [show s_X5_sectorToWrite σ p1 = (204 - ((m_al σ) (7 : Int32).toNatClampNeg)) from by rw [s_X5_sectorToWrite]; rw [if_neg c_3, if_neg c_5]]
        exact W.iret hx hb hr (fun t ht hW => ⟨rfl, ht⟩) (fun _ h => nomatch h) dX5_sectorToWrite_60
def s_X5_takes (σ : MS) (p1 : Int32) : Int32 := (if 0 ≤ ((p1 / 12) - ((m_al σ) (6 : Int32).toNatClampNeg)) then (((((m_al σ) (4 : Int32).toNatClampNeg) * ((p1 / 12) - ((m_al σ) (6 : Int32).toNatClampNeg))) + (jrem (((jrem p1 12) + 12) - (jrem (((m_al σ) (5 : Int32).toNatClampNeg) + (((m_al σ) (4 : Int32).toNatClampNeg) * ((p1 / 12) - ((m_al σ) (6 : Int32).toNatClampNeg)))) 12)) 12)) + 1) else (((((m_al σ) (4 : Int32).toNatClampNeg) * (-((p1 / 12) - ((m_al σ) (6 : Int32).toNatClampNeg)))) + (jrem (((jrem p1 12) + 12) - (jrem (((m_al σ) (5 : Int32).toNatClampNeg) + (((m_al σ) (4 : Int32).toNatClampNeg) * (-((p1 / 12) - ((m_al σ) (6 : Int32).toNatClampNeg))))) 12)) 12)) + 1))
set_option maxHeartbeats 4000000 in
set_option maxRecDepth 100000 in
theorem c_X5_takes (l : Launch) (G : GG) (α : Nat → Nat) (σ : MS) (p1 : Int32) : Rd G l yX5_takes wsX5_takes 0 0 [.ref (α 0), .int p1] (mW G.2.1 α σ) (.int (s_X5_takes σ p1)) := by
  refine Met.ofW (cc := cX5_takes) (maxL := 5) (ret := (some .int)) (by decide) rfl ?_
  intro p e s m args below meth c s₁ B hml hv
  obtain ⟨rfl, hP, hK⟩ := hv
  have C0 : cA p s m meth c ([.ref (α 0), .int p1] : List Value).toArray cX5_takes 5 (some .int) wsX5_takes RX5 := ⟨B.exec, B.bytes, B.returns, hml, findClass_of_methodNamed B.named, atoms_spec (ws := wsX5_takes) B.pre, B.notSynchronized⟩
  obtain ⟨hx, hb, hr, hml, hown, hts, hlocks⟩ := id C0
  have hF : CallFix p m c cX5_takes 5 s _ wsX5_takes RX5 := ⟨hx, hb, hml, hown, hts⟩
  have hinX5 : ∀ w ∈ wsX50, w ∈ wsX5_takes := by decide +kernel
  have hl := lv_entry ([.ref (α 0), .int p1]) (n := 5) (Nat.le_of_ble_eq_true rfl)
  rw [lg_entry_eq]
  generalize (lg_sl ([.ref (α 0), .int p1]) ++ List.replicate (5 - (lg_sl ([.ref (α 0), .int p1])).length) Slot.unset).toArray = ls at hl ⊢
  have hl : lv_has ls 5 [(0, .ref (α 0)), (1, .int p1)] := hl
  refine lv_iload_n hx hb dX5_takes_0 rfl (lv_at hl 1 rfl) ?_
  refine lv_bipush (v := 12) hx hb dX5_takes_1 (by decide) ?_
  refine lv_idiv hx hb dX5_takes_3 (by decide) ?_
  refine lv_aload_n hx hb dX5_takes_4 rfl (lv_at hl 0 rfl) ?_
  refine get_M_all hx hb hts hinX5 hown hK hP (hts (.fieldLink RX5 7 "GrooveTurnsModel" "all" "[I") (by decide +kernel)) dX5_takes_5 ?_
  refine lv_bipush (v := 6) hx hb dX5_takes_8 (by decide) ?_
  refine ld_M_al hx hb hK hP (by unfold vp_in; decide) dX5_takes_10 ?_
  refine lv_isub hx hb dX5_takes_11 ?_
  refine lv_istore_n (lv' := [(2, .int ((p1 / 12) - ((m_al σ) (6 : Int32).toNatClampNeg))), (0, .ref (α 0)), (1, .int p1)]) hx hb dX5_takes_12 rfl hl (by decide) rfl (fun ls hl => ?_)
  refine lv_aload_n hx hb dX5_takes_13 rfl (lv_at hl 1 rfl) ?_
  refine get_M_all hx hb hts hinX5 hown hK hP (hts (.fieldLink RX5 7 "GrooveTurnsModel" "all" "[I") (by decide +kernel)) dX5_takes_14 ?_
  refine lv_iconst (v := 4) hx hb dX5_takes_17 (by decide) ?_
  refine ld_M_al hx hb hK hP (by unfold vp_in; decide) dX5_takes_18 ?_
  refine lv_iload_n hx hb dX5_takes_19 rfl (lv_at hl 0 rfl) ?_
  refine lv_if_ge (tgt := 28) hx hb dX5_takes_20 (by decide) (fun (c_1 : 0 ≤ ((p1 / 12) - ((m_al σ) (6 : Int32).toNatClampNeg))) => ?_) (fun (c_1 : ¬ 0 ≤ ((p1 / 12) - ((m_al σ) (6 : Int32).toNatClampNeg))) => ?_)
  · skip
    refine lv_iload_n hx hb dX5_takes_28 rfl (lv_at hl 0 rfl) ?_
    refine lv_imul hx hb dX5_takes_29 ?_
    refine lv_istore_n (lv' := [(3, .int (((m_al σ) (4 : Int32).toNatClampNeg) * ((p1 / 12) - ((m_al σ) (6 : Int32).toNatClampNeg)))), (2, .int ((p1 / 12) - ((m_al σ) (6 : Int32).toNatClampNeg))), (0, .ref (α 0)), (1, .int p1)]) hx hb dX5_takes_30 rfl hl (by decide) rfl (fun ls hl => ?_)
    refine lv_iload_n hx hb dX5_takes_31 rfl (lv_at hl 3 rfl) ?_
    refine lv_bipush (v := 12) hx hb dX5_takes_32 (by decide) ?_
    refine lv_irem hx hb dX5_takes_34 (by decide) ?_
    refine lv_bipush (v := 12) hx hb dX5_takes_35 (by decide) ?_
    refine lv_iadd hx hb dX5_takes_37 ?_
    refine lv_aload_n hx hb dX5_takes_38 rfl (lv_at hl 2 rfl) ?_
    refine get_M_all hx hb hts hinX5 hown hK hP (hts (.fieldLink RX5 7 "GrooveTurnsModel" "all" "[I") (by decide +kernel)) dX5_takes_39 ?_
    refine lv_iconst (v := 5) hx hb dX5_takes_42 (by decide) ?_
    refine ld_M_al hx hb hK hP (by unfold vp_in; decide) dX5_takes_43 ?_
    refine lv_iload_n hx hb dX5_takes_44 rfl (lv_at hl 0 rfl) ?_
    refine lv_iadd hx hb dX5_takes_45 ?_
    refine lv_bipush (v := 12) hx hb dX5_takes_46 (by decide) ?_
    refine lv_irem hx hb dX5_takes_48 (by decide) ?_
    refine lv_isub hx hb dX5_takes_49 ?_
    refine lv_bipush (v := 12) hx hb dX5_takes_50 (by decide) ?_
    refine lv_irem hx hb dX5_takes_52 (by decide) ?_
    refine lv_istore (lv' := [(4, .int (jrem (((jrem p1 12) + 12) - (jrem (((m_al σ) (5 : Int32).toNatClampNeg) + (((m_al σ) (4 : Int32).toNatClampNeg) * ((p1 / 12) - ((m_al σ) (6 : Int32).toNatClampNeg)))) 12)) 12)), (3, .int (((m_al σ) (4 : Int32).toNatClampNeg) * ((p1 / 12) - ((m_al σ) (6 : Int32).toNatClampNeg)))), (2, .int ((p1 / 12) - ((m_al σ) (6 : Int32).toNatClampNeg))), (0, .ref (α 0)), (1, .int p1)]) hx hb dX5_takes_53 hl (by decide) rfl (fun ls hl => ?_)
    refine lv_iload_n hx hb dX5_takes_55 rfl (lv_at hl 1 rfl) ?_
    refine lv_iload hx hb dX5_takes_56 (lv_at hl 0 rfl) ?_
    refine lv_iadd hx hb dX5_takes_58 ?_
    refine lv_iconst (v := 1) hx hb dX5_takes_59 (by decide) ?_
    refine lv_iadd hx hb dX5_takes_60 ?_
    rw [show s_X5_takes σ p1 = (((((m_al σ) (4 : Int32).toNatClampNeg) * ((p1 / 12) - ((m_al σ) (6 : Int32).toNatClampNeg))) + (jrem (((jrem p1 12) + 12) - (jrem (((m_al σ) (5 : Int32).toNatClampNeg) + (((m_al σ) (4 : Int32).toNatClampNeg) * ((p1 / 12) - ((m_al σ) (6 : Int32).toNatClampNeg)))) 12)) 12)) + 1) from by rw [s_X5_takes]; rw [if_pos c_1]]
    exact W.iret hx hb hr (fun t ht hW => ⟨rfl, ht⟩) (fun _ h => nomatch h) dX5_takes_61
  · skip
    refine lv_iload_n hx hb dX5_takes_23 rfl (lv_at hl 0 rfl) ?_
    refine lv_ineg hx hb dX5_takes_24 ?_
    refine lv_goto (tgt := 29) hx hb dX5_takes_25 (by decide) ?_
    refine lv_imul hx hb dX5_takes_29 ?_
    refine lv_istore_n (lv' := [(3, .int (((m_al σ) (4 : Int32).toNatClampNeg) * (-((p1 / 12) - ((m_al σ) (6 : Int32).toNatClampNeg))))), (2, .int ((p1 / 12) - ((m_al σ) (6 : Int32).toNatClampNeg))), (0, .ref (α 0)), (1, .int p1)]) hx hb dX5_takes_30 rfl hl (by decide) rfl (fun ls hl => ?_)
    refine lv_iload_n hx hb dX5_takes_31 rfl (lv_at hl 3 rfl) ?_
    refine lv_bipush (v := 12) hx hb dX5_takes_32 (by decide) ?_
    refine lv_irem hx hb dX5_takes_34 (by decide) ?_
    refine lv_bipush (v := 12) hx hb dX5_takes_35 (by decide) ?_
    refine lv_iadd hx hb dX5_takes_37 ?_
    refine lv_aload_n hx hb dX5_takes_38 rfl (lv_at hl 2 rfl) ?_
    refine get_M_all hx hb hts hinX5 hown hK hP (hts (.fieldLink RX5 7 "GrooveTurnsModel" "all" "[I") (by decide +kernel)) dX5_takes_39 ?_
    refine lv_iconst (v := 5) hx hb dX5_takes_42 (by decide) ?_
    refine ld_M_al hx hb hK hP (by unfold vp_in; decide) dX5_takes_43 ?_
    refine lv_iload_n hx hb dX5_takes_44 rfl (lv_at hl 0 rfl) ?_
    refine lv_iadd hx hb dX5_takes_45 ?_
    refine lv_bipush (v := 12) hx hb dX5_takes_46 (by decide) ?_
    refine lv_irem hx hb dX5_takes_48 (by decide) ?_
    refine lv_isub hx hb dX5_takes_49 ?_
    refine lv_bipush (v := 12) hx hb dX5_takes_50 (by decide) ?_
    refine lv_irem hx hb dX5_takes_52 (by decide) ?_
    refine lv_istore (lv' := [(4, .int (jrem (((jrem p1 12) + 12) - (jrem (((m_al σ) (5 : Int32).toNatClampNeg) + (((m_al σ) (4 : Int32).toNatClampNeg) * (-((p1 / 12) - ((m_al σ) (6 : Int32).toNatClampNeg))))) 12)) 12)), (3, .int (((m_al σ) (4 : Int32).toNatClampNeg) * (-((p1 / 12) - ((m_al σ) (6 : Int32).toNatClampNeg))))), (2, .int ((p1 / 12) - ((m_al σ) (6 : Int32).toNatClampNeg))), (0, .ref (α 0)), (1, .int p1)]) hx hb dX5_takes_53 hl (by decide) rfl (fun ls hl => ?_)
    refine lv_iload_n hx hb dX5_takes_55 rfl (lv_at hl 1 rfl) ?_
    refine lv_iload hx hb dX5_takes_56 (lv_at hl 0 rfl) ?_
    refine lv_iadd hx hb dX5_takes_58 ?_
    refine lv_iconst (v := 1) hx hb dX5_takes_59 (by decide) ?_
    refine lv_iadd hx hb dX5_takes_60 ?_
    rw [show s_X5_takes σ p1 = (((((m_al σ) (4 : Int32).toNatClampNeg) * (-((p1 / 12) - ((m_al σ) (6 : Int32).toNatClampNeg)))) + (jrem (((jrem p1 12) + 12) - (jrem (((m_al σ) (5 : Int32).toNatClampNeg) + (((m_al σ) (4 : Int32).toNatClampNeg) * (-((p1 / 12) - ((m_al σ) (6 : Int32).toNatClampNeg))))) 12)) 12)) + 1) from by rw [s_X5_takes]; rw [if_neg c_1]]
    exact W.iret hx hb hr (fun t ht hW => ⟨rfl, ht⟩) (fun _ h => nomatch h) dX5_takes_61
def t1_X5_goes (σ : MS) (p1 : Int32) : MS := (m_al' σ (upd (jinc (m_al σ) 5 (s_X5_takes σ p1)) (6 : Int32).toNatClampNeg (p1 / 12)))
def s_X5_goes (σ : MS) (p1 : Int32) : MS := (t1_X5_goes σ p1)
set_option maxHeartbeats 4000000 in
set_option maxRecDepth 100000 in
theorem c_X5_goes (l : Launch) (G : GG) (α : Nat → Nat) (σ : MS) (p1 : Int32) : Wr G l yX5_goes wsX5_goes 1 24 [.ref (α 0), .int p1] (mW G.2.1 α σ) none (mW G.2.1 α (s_X5_goes σ p1)) := by
  refine Met.ofW (cc := cX5_goes) (maxL := 2) (ret := none) (by decide) rfl ?_
  intro p e s m args below meth c s₁ B hml hv
  obtain ⟨rfl, hP, hK, hD0⟩ := hv
  have C0 : cA p s m meth c ([.ref (α 0), .int p1] : List Value).toArray cX5_goes 2 none wsX5_goes RX5 := ⟨B.exec, B.bytes, B.returns, hml, findClass_of_methodNamed B.named, atoms_spec (ws := wsX5_goes) B.pre, B.notSynchronized⟩
  obtain ⟨hx, hb, hr, hml, hown, hts, hlocks⟩ := id C0
  have hF : CallFix p m c cX5_goes 2 s _ wsX5_goes RX5 := ⟨hx, hb, hml, hown, hts⟩
  have hinX5 : ∀ w ∈ wsX50, w ∈ wsX5_goes := by decide +kernel
  obtain ⟨w0, hw0⟩ : ∃ w0 : va_W, w0 = (mW G.2.1 α σ) := ⟨_, rfl⟩
  have hD : va_D (inW w0) (mW G.2.1 α σ) := by rw [hw0]; exact inW.D hD0
  have hS : va_S (inW w0) s.heap s.heap [] := va_S.rf
  rw [show QW G (mW G.2.1 α σ) = QW G w0 from by rw [hw0], show inW (mW G.2.1 α σ) = inW w0 from by rw [hw0]]
  have hl := lv_entry ([.ref (α 0), .int p1]) (n := 2) (Nat.le_of_ble_eq_true rfl)
  rw [lg_entry_eq]
  generalize (lg_sl ([.ref (α 0), .int p1]) ++ List.replicate (2 - (lg_sl ([.ref (α 0), .int p1])).length) Slot.unset).toArray = ls at hl ⊢
  have hl : lv_has ls 2 [(0, .ref (α 0)), (1, .int p1)] := hl
  refine lv_aload_n hx hb dX5_goes_0 rfl (lv_at hl 0 rfl) ?_
  refine get_M_all hx hb hts hinX5 hown hK hP (hts (.fieldLink RX5 7 "GrooveTurnsModel" "all" "[I") (by decide +kernel)) dX5_goes_1 ?_
  refine lv_iconst (v := 5) hx hb dX5_goes_4 (by decide) ?_
  refine lv_dup2_11 hx hb dX5_goes_5 rfl rfl ?_
  refine ld_M_al hx hb hK hP (by unfold vp_in; decide) dX5_goes_6 ?_
  refine lv_aload_n hx hb dX5_goes_7 rfl (lv_at hl 0 rfl) ?_
  refine lv_iload_n hx hb dX5_goes_8 rfl (lv_at hl 1 rfl) ?_
  refine rdV (As := [.int p1]) (rest := [.int ((m_al σ) (5 : Int32).toNatClampNeg), .int 5, .ref (α 1)]) (c_X5_takes l G α σ p1) hF (cwV 1 hts gX5_goes_X5_takes rfl rfl rfl (by decide +kernel) ⟨Nat.le_of_ble_eq_true rfl, Nat.le_of_ble_eq_true rfl⟩) (rcv_M hK hP) hK hP rfl hl.1 rfl (Nat.le_of_ble_eq_true rfl) dX5_goes_9 ⟨Nat.zero_le _, Nat.zero_le _⟩ ?_
  refine lv_iadd hx hb dX5_goes_12 ?_
  refine st_M_al hx hb hK hP hD hS (by unfold vp_in; decide) dX5_goes_13 (fun H locs hP hD hS => ?_)
  have hP : va_P G.1 vwCl (mW G.2.1 α (m_al' σ (jinc (m_al σ) 5 (s_X5_takes σ p1)))) H := hP
  have hD : va_D (inW w0) (mW G.2.1 α (m_al' σ (jinc (m_al σ) 5 (s_X5_takes σ p1)))) := hD
  refine lv_aload_n hx hb dX5_goes_14 rfl (lv_at hl 0 rfl) ?_
  refine get_M_all hx hb hts hinX5 hown hK hP (hts (.fieldLink RX5 7 "GrooveTurnsModel" "all" "[I") (by decide +kernel)) dX5_goes_15 ?_
  refine lv_bipush (v := 6) hx hb dX5_goes_18 (by decide) ?_
  refine lv_iload_n hx hb dX5_goes_20 rfl (lv_at hl 1 rfl) ?_
  refine lv_bipush (v := 12) hx hb dX5_goes_21 (by decide) ?_
  refine lv_idiv hx hb dX5_goes_23 (by decide) ?_
  refine st_M_al hx hb hK hP hD hS (by unfold vp_in; decide) dX5_goes_24 (fun H locs hP hD hS => ?_)
  have hP : va_P G.1 vwCl (mW G.2.1 α (t1_X5_goes σ p1)) H := hP
  have hD : va_D (inW w0) (mW G.2.1 α (t1_X5_goes σ p1)) := hD
  rw [show s_X5_goes σ p1 = (t1_X5_goes σ p1) from by rw [s_X5_goes]]
  exact W.vret hx hb hr (fun t ht hW => ⟨rfl, by rw [ht]; exact hP, hS.F ht⟩) hS.2.2 dX5_goes_25
def s_X5_heats (σ : MS) (p1 : Int32) (p2 : Int32) : MS := (if (s_X5_isAddress p1) = 0 then σ else (if ((m_al σ) (624 + p1).toNatClampNeg) = (-6) then (if ((m_al σ) (12 + p1).toNatClampNeg) = (-6) then σ else (if (((m_al σ) (216 + p1).toNatClampNeg) + p2) ≤ 99 then (m_al' σ (jinc (m_al σ) (216 + p1) p2)) else (m_al' σ (upd (m_al σ) (216 + p1).toNatClampNeg 99)))) else σ))
def ok_X5_heats (σ : MS) (p1 : Int32) (p2 : Int32) : Prop := ((s_X5_isAddress p1) = 0 → True) ∧ (¬ (s_X5_isAddress p1) = 0 → ((vp_in (624 + p1) 816) ∧ ((((m_al σ) (624 + p1).toNatClampNeg) = (-6) → ((vp_in (12 + p1) 816) ∧ ((((m_al σ) (12 + p1).toNatClampNeg) = (-6) → True) ∧ (¬ ((m_al σ) (12 + p1).toNatClampNeg) = (-6) → (vp_in (216 + p1) 816))))) ∧ (¬ ((m_al σ) (624 + p1).toNatClampNeg) = (-6) → True))))
set_option maxHeartbeats 4000000 in
set_option maxRecDepth 100000 in
theorem c_X5_heats (l : Launch) (G : GG) (α : Nat → Nat) (σ : MS) (p1 : Int32) (p2 : Int32) (hok : ok_X5_heats σ p1 p2) : Wr G l yX5_heats wsX5_heats 2 45 [.ref (α 0), .int p1, .int p2] (mW G.2.1 α σ) none (mW G.2.1 α (s_X5_heats σ p1 p2)) := by
  refine Met.ofW (cc := cX5_heats) (maxL := 4) (ret := none) (by decide) rfl ?_
  intro p e s m args below meth c s₁ B hml hv
  obtain ⟨rfl, hP, hK, hD0⟩ := hv
  have C0 : cA p s m meth c ([.ref (α 0), .int p1, .int p2] : List Value).toArray cX5_heats 4 none wsX5_heats RX5 := ⟨B.exec, B.bytes, B.returns, hml, findClass_of_methodNamed B.named, atoms_spec (ws := wsX5_heats) B.pre, B.notSynchronized⟩
  obtain ⟨hx, hb, hr, hml, hown, hts, hlocks⟩ := id C0
  have hF : CallFix p m c cX5_heats 4 s _ wsX5_heats RX5 := ⟨hx, hb, hml, hown, hts⟩
  have hinX5 : ∀ w ∈ wsX50, w ∈ wsX5_heats := by decide +kernel
  obtain ⟨w0, hw0⟩ : ∃ w0 : va_W, w0 = (mW G.2.1 α σ) := ⟨_, rfl⟩
  have hD : va_D (inW w0) (mW G.2.1 α σ) := by rw [hw0]; exact inW.D hD0
  have hS : va_S (inW w0) s.heap s.heap [] := va_S.rf
  rw [show QW G (mW G.2.1 α σ) = QW G w0 from by rw [hw0], show inW (mW G.2.1 α σ) = inW w0 from by rw [hw0]]
  have hl := lv_entry ([.ref (α 0), .int p1, .int p2]) (n := 4) (Nat.le_of_ble_eq_true rfl)
  rw [lg_entry_eq]
  generalize (lg_sl ([.ref (α 0), .int p1, .int p2]) ++ List.replicate (4 - (lg_sl ([.ref (α 0), .int p1, .int p2])).length) Slot.unset).toArray = ls at hl ⊢
  have hl : lv_has ls 4 [(0, .ref (α 0)), (1, .int p1), (2, .int p2)] := hl
  have hok : ((s_X5_isAddress p1) = 0 → True) ∧ (¬ (s_X5_isAddress p1) = 0 → ((vp_in (624 + p1) 816) ∧ ((((m_al σ) (624 + p1).toNatClampNeg) = (-6) → ((vp_in (12 + p1) 816) ∧ ((((m_al σ) (12 + p1).toNatClampNeg) = (-6) → True) ∧ (¬ ((m_al σ) (12 + p1).toNatClampNeg) = (-6) → (vp_in (216 + p1) 816))))) ∧ (¬ ((m_al σ) (624 + p1).toNatClampNeg) = (-6) → True)))) := hok
  refine lv_iload_n hx hb dX5_heats_0 rfl (lv_at hl 1 rfl) ?_
  refine rdS (As := [.int p1]) (rest := []) (c_X5_isAddress l G p1) hF (va_cwS 1 hts gX5_heats_X5_isAddress rfl rfl rfl (by decide +kernel) ⟨Nat.le_of_ble_eq_true rfl, Nat.le_of_ble_eq_true rfl⟩) hK va_P0 rfl hl.1 rfl (Nat.le_of_ble_eq_true rfl) dX5_heats_1 ⟨Nat.zero_le _, Nat.zero_le _⟩ ?_
  refine lv_if_eq (tgt := 71) hx hb dX5_heats_4 (by decide) (fun (c_1 : (s_X5_isAddress p1) = 0) => ?_) (fun (c_1 : ¬ (s_X5_isAddress p1) = 0) => ?_)
  · skip
    rw [show s_X5_heats σ p1 p2 = σ from by rw [s_X5_heats]; rw [if_pos c_1]]
    exact W.vret hx hb hr (fun t ht hW => ⟨rfl, by rw [ht]; exact hP, hS.F ht⟩) hS.2.2 dX5_heats_71
  · skip
    have hok := hok.2 c_1
    obtain ⟨h_2, hok⟩ := hok
    refine lv_aload_n hx hb dX5_heats_7 rfl (lv_at hl 0 rfl) ?_
    refine get_M_all hx hb hts hinX5 hown hK hP (hts (.fieldLink RX5 7 "GrooveTurnsModel" "all" "[I") (by decide +kernel)) dX5_heats_8 ?_
    refine lv_sipush (v := 624) hx hb dX5_heats_11 (by decide) ?_
    refine lv_iload_n hx hb dX5_heats_14 rfl (lv_at hl 1 rfl) ?_
    refine lv_iadd hx hb dX5_heats_15 ?_
    refine ld_M_al hx hb hK hP h_2 dX5_heats_16 ?_
    refine lv_bipush (v := (-6)) hx hb dX5_heats_17 (by decide) ?_
    refine lv_icmp_ne (tgt := 71) hx hb dX5_heats_19 (by decide) (fun (c_3 : ¬ ((m_al σ) (624 + p1).toNatClampNeg) = (-6)) => ?_) (fun (c_3 : ((m_al σ) (624 + p1).toNatClampNeg) = (-6)) => ?_)
    · skip
      rw [show s_X5_heats σ p1 p2 = σ from by rw [s_X5_heats]; rw [if_neg c_1, if_neg c_3]]
      exact W.vret hx hb hr (fun t ht hW => ⟨rfl, by rw [ht]; exact hP, hS.F ht⟩) hS.2.2 dX5_heats_71
    · skip
      have hok := hok.1 c_3
      obtain ⟨h_4, hok⟩ := hok
      refine lv_aload_n hx hb dX5_heats_22 rfl (lv_at hl 0 rfl) ?_
      refine get_M_all hx hb hts hinX5 hown hK hP (hts (.fieldLink RX5 7 "GrooveTurnsModel" "all" "[I") (by decide +kernel)) dX5_heats_23 ?_
      refine lv_bipush (v := 12) hx hb dX5_heats_26 (by decide) ?_
      refine lv_iload_n hx hb dX5_heats_28 rfl (lv_at hl 1 rfl) ?_
      refine lv_iadd hx hb dX5_heats_29 ?_
      refine ld_M_al hx hb hK hP h_4 dX5_heats_30 ?_
      refine lv_bipush (v := (-6)) hx hb dX5_heats_31 (by decide) ?_
      refine lv_icmp_eq (tgt := 71) hx hb dX5_heats_33 (by decide) (fun (c_5 : ((m_al σ) (12 + p1).toNatClampNeg) = (-6)) => ?_) (fun (c_5 : ¬ ((m_al σ) (12 + p1).toNatClampNeg) = (-6)) => ?_)
      · skip
        rw [show s_X5_heats σ p1 p2 = σ from by rw [s_X5_heats]; rw [if_neg c_1, if_pos c_3, if_pos c_5]]
        exact W.vret hx hb hr (fun t ht hW => ⟨rfl, by rw [ht]; exact hP, hS.F ht⟩) hS.2.2 dX5_heats_71
      · skip
        have hok := hok.2 c_5
        have h_6 := hok
        refine lv_aload_n hx hb dX5_heats_36 rfl (lv_at hl 0 rfl) ?_
        refine get_M_all hx hb hts hinX5 hown hK hP (hts (.fieldLink RX5 7 "GrooveTurnsModel" "all" "[I") (by decide +kernel)) dX5_heats_37 ?_
        refine lv_sipush (v := 216) hx hb dX5_heats_40 (by decide) ?_
        refine lv_iload_n hx hb dX5_heats_43 rfl (lv_at hl 1 rfl) ?_
        refine lv_iadd hx hb dX5_heats_44 ?_
        refine ld_M_al hx hb hK hP h_6 dX5_heats_45 ?_
        refine lv_iload_n hx hb dX5_heats_46 rfl (lv_at hl 2 rfl) ?_
        refine lv_iadd hx hb dX5_heats_47 ?_
        refine lv_istore_n (lv' := [(3, .int (((m_al σ) (216 + p1).toNatClampNeg) + p2)), (0, .ref (α 0)), (1, .int p1), (2, .int p2)]) hx hb dX5_heats_48 rfl hl (by decide) rfl (fun ls hl => ?_)
        refine lv_aload_n hx hb dX5_heats_49 rfl (lv_at hl 1 rfl) ?_
        refine get_M_all hx hb hts hinX5 hown hK hP (hts (.fieldLink RX5 7 "GrooveTurnsModel" "all" "[I") (by decide +kernel)) dX5_heats_50 ?_
        refine lv_sipush (v := 216) hx hb dX5_heats_53 (by decide) ?_
        refine lv_iload_n hx hb dX5_heats_56 rfl (lv_at hl 2 rfl) ?_
        refine lv_iadd hx hb dX5_heats_57 ?_
        refine lv_iload_n hx hb dX5_heats_58 rfl (lv_at hl 0 rfl) ?_
        refine lv_bipush (v := 99) hx hb dX5_heats_59 (by decide) ?_
        refine lv_icmp_le (tgt := 69) hx hb dX5_heats_61 (by decide) (fun (c_7 : (((m_al σ) (216 + p1).toNatClampNeg) + p2) ≤ 99) => ?_) (fun (c_7 : ¬ (((m_al σ) (216 + p1).toNatClampNeg) + p2) ≤ 99) => ?_)
        · skip
          refine lv_iload_n hx hb dX5_heats_69 rfl (lv_at hl 0 rfl) ?_
          refine st_M_al hx hb hK hP hD hS h_6 dX5_heats_70 (fun H locs hP hD hS => ?_)
          have hP : va_P G.1 vwCl (mW G.2.1 α (m_al' σ (jinc (m_al σ) (216 + p1) p2))) H := hP
          have hD : va_D (inW w0) (mW G.2.1 α (m_al' σ (jinc (m_al σ) (216 + p1) p2))) := hD
          rw [show s_X5_heats σ p1 p2 = (m_al' σ (jinc (m_al σ) (216 + p1) p2)) from by rw [s_X5_heats]; rw [if_neg c_1, if_pos c_3, if_neg c_5, if_pos c_7]]
          exact W.vret hx hb hr (fun t ht hW => ⟨rfl, by rw [ht]; exact hP, hS.F ht⟩) hS.2.2 dX5_heats_71
        · skip
          refine lv_bipush (v := 99) hx hb dX5_heats_64 (by decide) ?_
          refine lv_goto (tgt := 70) hx hb dX5_heats_66 (by decide) ?_
          refine st_M_al hx hb hK hP hD hS h_6 dX5_heats_70 (fun H locs hP hD hS => ?_)
          have hP : va_P G.1 vwCl (mW G.2.1 α (m_al' σ (upd (m_al σ) (216 + p1).toNatClampNeg 99))) H := hP
          have hD : va_D (inW w0) (mW G.2.1 α (m_al' σ (upd (m_al σ) (216 + p1).toNatClampNeg 99))) := hD
          rw [show s_X5_heats σ p1 p2 = (m_al' σ (upd (m_al σ) (216 + p1).toNatClampNeg 99)) from by rw [s_X5_heats]; rw [if_neg c_1, if_pos c_3, if_neg c_5, if_neg c_7]]
          exact W.vret hx hb hr (fun t ht hW => ⟨rfl, by rw [ht]; exact hP, hS.F ht⟩) hS.2.2 dX5_heats_71
def t1_X5_puts (σ : MS) (p1 : Int32) (p2 : Int32) : MS := (m_al' σ (upd (m_al σ) (12 + (s_X5_sectorToWrite σ p1)).toNatClampNeg p2))
def t2_X5_puts (σ : MS) (p1 : Int32) (p2 : Int32) : MS := (m_al' (t1_X5_puts σ p1 p2) (upd (m_al (t1_X5_puts σ p1 p2)) (216 + (s_X5_sectorToWrite σ p1)).toNatClampNeg 0))
def t3_X5_puts (σ : MS) (p1 : Int32) (p2 : Int32) : MS := (m_al' (t2_X5_puts σ p1 p2) (jinc (m_al (t2_X5_puts σ p1 p2)) (420 + (s_X5_sectorToWrite σ p1)) 1))
def t4_X5_puts (σ : MS) (p1 : Int32) (p2 : Int32) : MS := (m_al' (t3_X5_puts σ p1 p2) (jinc (m_al (t3_X5_puts σ p1 p2)) 8 1))
def t5_X5_puts (σ : MS) (p1 : Int32) (p2 : Int32) : MS := (s_X5_heats (t4_X5_puts σ p1 p2) ((s_X5_sectorToWrite σ p1) - 12) ((m_al (t4_X5_puts σ p1 p2)) (0 : Int32).toNatClampNeg))
def t6_X5_puts (σ : MS) (p1 : Int32) (p2 : Int32) : MS := (s_X5_heats (t5_X5_puts σ p1 p2) ((s_X5_sectorToWrite σ p1) + 12) ((m_al (t5_X5_puts σ p1 p2)) (0 : Int32).toNatClampNeg))
def t7_X5_puts (σ : MS) (p1 : Int32) (p2 : Int32) : MS := (s_X5_heats (t6_X5_puts σ p1 p2) ((s_X5_sectorToWrite σ p1) - 24) ((m_al (t6_X5_puts σ p1 p2)) (1 : Int32).toNatClampNeg))
def t8_X5_puts (σ : MS) (p1 : Int32) (p2 : Int32) : MS := (s_X5_heats (t7_X5_puts σ p1 p2) ((s_X5_sectorToWrite σ p1) + 24) ((m_al (t7_X5_puts σ p1 p2)) (1 : Int32).toNatClampNeg))
def t9_X5_puts (σ : MS) (p1 : Int32) (p2 : Int32) : MS := (m_al' (t8_X5_puts σ p1 p2) (jinc (m_al (t8_X5_puts σ p1 p2)) 10 0))
def t10_X5_puts (σ : MS) (p1 : Int32) (p2 : Int32) : MS := (m_al' (t9_X5_puts σ p1 p2) (jinc (m_al (t9_X5_puts σ p1 p2)) 11 (jrem ((s_X5_sectorToWrite σ p1) / 12) 2)))
def t11_X5_puts (σ : MS) (p1 : Int32) (p2 : Int32) : MS := (m_al' (t8_X5_puts σ p1 p2) (jinc (m_al (t8_X5_puts σ p1 p2)) 10 1))
def t12_X5_puts (σ : MS) (p1 : Int32) (p2 : Int32) : MS := (m_al' (t11_X5_puts σ p1 p2) (jinc (m_al (t11_X5_puts σ p1 p2)) 11 (jrem ((s_X5_sectorToWrite σ p1) / 12) 2)))
def t13_X5_puts (σ : MS) (p1 : Int32) (p2 : Int32) : MS := (m_al' σ (upd (m_al σ) (624 + p1).toNatClampNeg ((s_X5_sectorToWrite σ p1) - 192)))
def t14_X5_puts (σ : MS) (p1 : Int32) (p2 : Int32) : MS := (m_al' (t13_X5_puts σ p1 p2) (upd (m_al (t13_X5_puts σ p1 p2)) (7 : Int32).toNatClampNeg (((m_al (t13_X5_puts σ p1 p2)) (7 : Int32).toNatClampNeg) - 1)))
def t15_X5_puts (σ : MS) (p1 : Int32) (p2 : Int32) : MS := (m_al' (t14_X5_puts σ p1 p2) (upd (m_al (t14_X5_puts σ p1 p2)) (12 + (s_X5_sectorToWrite σ p1)).toNatClampNeg p2))
def t16_X5_puts (σ : MS) (p1 : Int32) (p2 : Int32) : MS := (m_al' (t15_X5_puts σ p1 p2) (upd (m_al (t15_X5_puts σ p1 p2)) (216 + (s_X5_sectorToWrite σ p1)).toNatClampNeg 0))
def t17_X5_puts (σ : MS) (p1 : Int32) (p2 : Int32) : MS := (m_al' (t16_X5_puts σ p1 p2) (jinc (m_al (t16_X5_puts σ p1 p2)) (420 + (s_X5_sectorToWrite σ p1)) 1))
def t18_X5_puts (σ : MS) (p1 : Int32) (p2 : Int32) : MS := (m_al' (t17_X5_puts σ p1 p2) (jinc (m_al (t17_X5_puts σ p1 p2)) 8 1))
def t19_X5_puts (σ : MS) (p1 : Int32) (p2 : Int32) : MS := (s_X5_heats (t18_X5_puts σ p1 p2) ((s_X5_sectorToWrite σ p1) - 12) ((m_al (t18_X5_puts σ p1 p2)) (0 : Int32).toNatClampNeg))
def t20_X5_puts (σ : MS) (p1 : Int32) (p2 : Int32) : MS := (s_X5_heats (t19_X5_puts σ p1 p2) ((s_X5_sectorToWrite σ p1) + 12) ((m_al (t19_X5_puts σ p1 p2)) (0 : Int32).toNatClampNeg))
def t21_X5_puts (σ : MS) (p1 : Int32) (p2 : Int32) : MS := (s_X5_heats (t20_X5_puts σ p1 p2) ((s_X5_sectorToWrite σ p1) - 24) ((m_al (t20_X5_puts σ p1 p2)) (1 : Int32).toNatClampNeg))
def t22_X5_puts (σ : MS) (p1 : Int32) (p2 : Int32) : MS := (s_X5_heats (t21_X5_puts σ p1 p2) ((s_X5_sectorToWrite σ p1) + 24) ((m_al (t21_X5_puts σ p1 p2)) (1 : Int32).toNatClampNeg))
def t23_X5_puts (σ : MS) (p1 : Int32) (p2 : Int32) : MS := (m_al' (t22_X5_puts σ p1 p2) (jinc (m_al (t22_X5_puts σ p1 p2)) 10 0))
def t24_X5_puts (σ : MS) (p1 : Int32) (p2 : Int32) : MS := (m_al' (t23_X5_puts σ p1 p2) (jinc (m_al (t23_X5_puts σ p1 p2)) 11 (jrem ((s_X5_sectorToWrite σ p1) / 12) 2)))
def t25_X5_puts (σ : MS) (p1 : Int32) (p2 : Int32) : MS := (m_al' (t22_X5_puts σ p1 p2) (jinc (m_al (t22_X5_puts σ p1 p2)) 10 1))
def t26_X5_puts (σ : MS) (p1 : Int32) (p2 : Int32) : MS := (m_al' (t25_X5_puts σ p1 p2) (jinc (m_al (t25_X5_puts σ p1 p2)) 11 (jrem ((s_X5_sectorToWrite σ p1) / 12) 2)))
def s_X5_puts (σ : MS) (p1 : Int32) (p2 : Int32) : MS := (if (s_X5_sectorToWrite σ p1) = (s_X5_sectorOf σ p1) then (if 192 ≤ (s_X5_sectorToWrite σ p1) then (t4_X5_puts σ p1 p2) else (if (jrem ((s_X5_sectorToWrite σ p1) / 12) 2) = 0 then (t12_X5_puts σ p1 p2) else (t10_X5_puts σ p1 p2))) else (if 192 ≤ (s_X5_sectorToWrite σ p1) then (t18_X5_puts σ p1 p2) else (if (jrem ((s_X5_sectorToWrite σ p1) / 12) 2) = 0 then (t26_X5_puts σ p1 p2) else (t24_X5_puts σ p1 p2))))
def ok_X5_puts (σ : MS) (p1 : Int32) (p2 : Int32) : Prop := (ok_X5_sectorToWrite σ p1) ∧ ((ok_X5_sectorOf σ p1) ∧ (((s_X5_sectorToWrite σ p1) = (s_X5_sectorOf σ p1) → ((vp_in (12 + (s_X5_sectorToWrite σ p1)) 816) ∧ ((vp_in (216 + (s_X5_sectorToWrite σ p1)) 816) ∧ ((vp_in (420 + (s_X5_sectorToWrite σ p1)) 816) ∧ ((192 ≤ (s_X5_sectorToWrite σ p1) → True) ∧ (¬ 192 ≤ (s_X5_sectorToWrite σ p1) → ((ok_X5_heats (t4_X5_puts σ p1 p2) ((s_X5_sectorToWrite σ p1) - 12) ((m_al (t4_X5_puts σ p1 p2)) (0 : Int32).toNatClampNeg)) ∧ ((ok_X5_heats (t5_X5_puts σ p1 p2) ((s_X5_sectorToWrite σ p1) + 12) ((m_al (t5_X5_puts σ p1 p2)) (0 : Int32).toNatClampNeg)) ∧ ((ok_X5_heats (t6_X5_puts σ p1 p2) ((s_X5_sectorToWrite σ p1) - 24) ((m_al (t6_X5_puts σ p1 p2)) (1 : Int32).toNatClampNeg)) ∧ (ok_X5_heats (t7_X5_puts σ p1 p2) ((s_X5_sectorToWrite σ p1) + 24) ((m_al (t7_X5_puts σ p1 p2)) (1 : Int32).toNatClampNeg))))))))))) ∧ (¬ (s_X5_sectorToWrite σ p1) = (s_X5_sectorOf σ p1) → ((vp_in (624 + p1) 816) ∧ ((vp_in (12 + (s_X5_sectorToWrite σ p1)) 816) ∧ ((vp_in (216 + (s_X5_sectorToWrite σ p1)) 816) ∧ ((vp_in (420 + (s_X5_sectorToWrite σ p1)) 816) ∧ ((192 ≤ (s_X5_sectorToWrite σ p1) → True) ∧ (¬ 192 ≤ (s_X5_sectorToWrite σ p1) → ((ok_X5_heats (t18_X5_puts σ p1 p2) ((s_X5_sectorToWrite σ p1) - 12) ((m_al (t18_X5_puts σ p1 p2)) (0 : Int32).toNatClampNeg)) ∧ ((ok_X5_heats (t19_X5_puts σ p1 p2) ((s_X5_sectorToWrite σ p1) + 12) ((m_al (t19_X5_puts σ p1 p2)) (0 : Int32).toNatClampNeg)) ∧ ((ok_X5_heats (t20_X5_puts σ p1 p2) ((s_X5_sectorToWrite σ p1) - 24) ((m_al (t20_X5_puts σ p1 p2)) (1 : Int32).toNatClampNeg)) ∧ (ok_X5_heats (t21_X5_puts σ p1 p2) ((s_X5_sectorToWrite σ p1) + 24) ((m_al (t21_X5_puts σ p1 p2)) (1 : Int32).toNatClampNeg))))))))))))))
set_option maxHeartbeats 4000000 in
set_option maxRecDepth 100000 in
theorem c_X5_puts (l : Launch) (G : GG) (α : Nat → Nat) (σ : MS) (p1 : Int32) (p2 : Int32) (hok : ok_X5_puts σ p1 p2) : Wr G l yX5_puts wsX5_puts 3 68 [.ref (α 0), .int p1, .int p2] (mW G.2.1 α σ) none (mW G.2.1 α (s_X5_puts σ p1 p2)) := by
  refine Met.ofW (cc := cX5_puts) (maxL := 4) (ret := none) (by decide) rfl ?_
  intro p e s m args below meth c s₁ B hml hv
  obtain ⟨rfl, hP, hK, hD0⟩ := hv
  have C0 : cA p s m meth c ([.ref (α 0), .int p1, .int p2] : List Value).toArray cX5_puts 4 none wsX5_puts RX5 := ⟨B.exec, B.bytes, B.returns, hml, findClass_of_methodNamed B.named, atoms_spec (ws := wsX5_puts) B.pre, B.notSynchronized⟩
  obtain ⟨hx, hb, hr, hml, hown, hts, hlocks⟩ := id C0
  have hF : CallFix p m c cX5_puts 4 s _ wsX5_puts RX5 := ⟨hx, hb, hml, hown, hts⟩
  have hinX5 : ∀ w ∈ wsX50, w ∈ wsX5_puts := by decide +kernel
  obtain ⟨w0, hw0⟩ : ∃ w0 : va_W, w0 = (mW G.2.1 α σ) := ⟨_, rfl⟩
  have hD : va_D (inW w0) (mW G.2.1 α σ) := by rw [hw0]; exact inW.D hD0
  have hS : va_S (inW w0) s.heap s.heap [] := va_S.rf
  rw [show QW G (mW G.2.1 α σ) = QW G w0 from by rw [hw0], show inW (mW G.2.1 α σ) = inW w0 from by rw [hw0]]
  have hl := lv_entry ([.ref (α 0), .int p1, .int p2]) (n := 4) (Nat.le_of_ble_eq_true rfl)
  rw [lg_entry_eq]
  generalize (lg_sl ([.ref (α 0), .int p1, .int p2]) ++ List.replicate (4 - (lg_sl ([.ref (α 0), .int p1, .int p2])).length) Slot.unset).toArray = ls at hl ⊢
  have hl : lv_has ls 4 [(0, .ref (α 0)), (1, .int p1), (2, .int p2)] := hl
  have hok : (ok_X5_sectorToWrite σ p1) ∧ ((ok_X5_sectorOf σ p1) ∧ (((s_X5_sectorToWrite σ p1) = (s_X5_sectorOf σ p1) → ((vp_in (12 + (s_X5_sectorToWrite σ p1)) 816) ∧ ((vp_in (216 + (s_X5_sectorToWrite σ p1)) 816) ∧ ((vp_in (420 + (s_X5_sectorToWrite σ p1)) 816) ∧ ((192 ≤ (s_X5_sectorToWrite σ p1) → True) ∧ (¬ 192 ≤ (s_X5_sectorToWrite σ p1) → ((ok_X5_heats (t4_X5_puts σ p1 p2) ((s_X5_sectorToWrite σ p1) - 12) ((m_al (t4_X5_puts σ p1 p2)) (0 : Int32).toNatClampNeg)) ∧ ((ok_X5_heats (t5_X5_puts σ p1 p2) ((s_X5_sectorToWrite σ p1) + 12) ((m_al (t5_X5_puts σ p1 p2)) (0 : Int32).toNatClampNeg)) ∧ ((ok_X5_heats (t6_X5_puts σ p1 p2) ((s_X5_sectorToWrite σ p1) - 24) ((m_al (t6_X5_puts σ p1 p2)) (1 : Int32).toNatClampNeg)) ∧ (ok_X5_heats (t7_X5_puts σ p1 p2) ((s_X5_sectorToWrite σ p1) + 24) ((m_al (t7_X5_puts σ p1 p2)) (1 : Int32).toNatClampNeg))))))))))) ∧ (¬ (s_X5_sectorToWrite σ p1) = (s_X5_sectorOf σ p1) → ((vp_in (624 + p1) 816) ∧ ((vp_in (12 + (s_X5_sectorToWrite σ p1)) 816) ∧ ((vp_in (216 + (s_X5_sectorToWrite σ p1)) 816) ∧ ((vp_in (420 + (s_X5_sectorToWrite σ p1)) 816) ∧ ((192 ≤ (s_X5_sectorToWrite σ p1) → True) ∧ (¬ 192 ≤ (s_X5_sectorToWrite σ p1) → ((ok_X5_heats (t18_X5_puts σ p1 p2) ((s_X5_sectorToWrite σ p1) - 12) ((m_al (t18_X5_puts σ p1 p2)) (0 : Int32).toNatClampNeg)) ∧ ((ok_X5_heats (t19_X5_puts σ p1 p2) ((s_X5_sectorToWrite σ p1) + 12) ((m_al (t19_X5_puts σ p1 p2)) (0 : Int32).toNatClampNeg)) ∧ ((ok_X5_heats (t20_X5_puts σ p1 p2) ((s_X5_sectorToWrite σ p1) - 24) ((m_al (t20_X5_puts σ p1 p2)) (1 : Int32).toNatClampNeg)) ∧ (ok_X5_heats (t21_X5_puts σ p1 p2) ((s_X5_sectorToWrite σ p1) + 24) ((m_al (t21_X5_puts σ p1 p2)) (1 : Int32).toNatClampNeg)))))))))))))) := hok
  obtain ⟨h_1, hok⟩ := hok
  refine lv_aload_n hx hb dX5_puts_0 rfl (lv_at hl 0 rfl) ?_
  refine lv_iload_n hx hb dX5_puts_1 rfl (lv_at hl 1 rfl) ?_
  refine rdV (As := [.int p1]) (rest := []) (c_X5_sectorToWrite l G α σ p1 h_1) hF (cwV 1 hts gX5_puts_X5_sectorToWrite rfl rfl rfl (by decide +kernel) ⟨Nat.le_of_ble_eq_true rfl, Nat.le_of_ble_eq_true rfl⟩) (rcv_M hK hP) hK hP rfl hl.1 rfl (Nat.le_of_ble_eq_true rfl) dX5_puts_2 ⟨Nat.zero_le _, Nat.zero_le _⟩ ?_
  obtain ⟨h_2, hok⟩ := hok
  refine lv_istore_n (lv' := [(3, .int (s_X5_sectorToWrite σ p1)), (0, .ref (α 0)), (1, .int p1), (2, .int p2)]) hx hb dX5_puts_5 rfl hl (by decide) rfl (fun ls hl => ?_)
  refine lv_iload_n hx hb dX5_puts_6 rfl (lv_at hl 0 rfl) ?_
  refine lv_aload_n hx hb dX5_puts_7 rfl (lv_at hl 1 rfl) ?_
  refine lv_iload_n hx hb dX5_puts_8 rfl (lv_at hl 2 rfl) ?_
  refine rdV (As := [.int p1]) (rest := [.int (s_X5_sectorToWrite σ p1)]) (c_X5_sectorOf l G α σ p1 h_2) hF (cwV 1 hts gX5_puts_X5_sectorOf rfl rfl rfl (by decide +kernel) ⟨Nat.le_of_ble_eq_true rfl, Nat.le_of_ble_eq_true rfl⟩) (rcv_M hK hP) hK hP rfl hl.1 rfl (Nat.le_of_ble_eq_true rfl) dX5_puts_9 ⟨Nat.zero_le _, Nat.zero_le _⟩ ?_
  refine lv_icmp_eq (tgt := 41) hx hb dX5_puts_12 (by decide) (fun (c_3 : (s_X5_sectorToWrite σ p1) = (s_X5_sectorOf σ p1)) => ?_) (fun (c_3 : ¬ (s_X5_sectorToWrite σ p1) = (s_X5_sectorOf σ p1)) => ?_)
  · skip
    have hok := hok.1 c_3
    obtain ⟨h_4, hok⟩ := hok
    refine lv_aload_n hx hb dX5_puts_41 rfl (lv_at hl 1 rfl) ?_
    refine get_M_all hx hb hts hinX5 hown hK hP (hts (.fieldLink RX5 7 "GrooveTurnsModel" "all" "[I") (by decide +kernel)) dX5_puts_42 ?_
    refine lv_bipush (v := 12) hx hb dX5_puts_45 (by decide) ?_
    refine lv_iload_n hx hb dX5_puts_47 rfl (lv_at hl 0 rfl) ?_
    refine lv_iadd hx hb dX5_puts_48 ?_
    refine lv_iload_n hx hb dX5_puts_49 rfl (lv_at hl 3 rfl) ?_
    refine st_M_al hx hb hK hP hD hS h_4 dX5_puts_50 (fun H locs hP hD hS => ?_)
    have hP : va_P G.1 vwCl (mW G.2.1 α (t1_X5_puts σ p1 p2)) H := hP
    have hD : va_D (inW w0) (mW G.2.1 α (t1_X5_puts σ p1 p2)) := hD
    obtain ⟨h_5, hok⟩ := hok
    refine lv_aload_n hx hb dX5_puts_51 rfl (lv_at hl 1 rfl) ?_
    refine get_M_all hx hb hts hinX5 hown hK hP (hts (.fieldLink RX5 7 "GrooveTurnsModel" "all" "[I") (by decide +kernel)) dX5_puts_52 ?_
    refine lv_sipush (v := 216) hx hb dX5_puts_55 (by decide) ?_
    refine lv_iload_n hx hb dX5_puts_58 rfl (lv_at hl 0 rfl) ?_
    refine lv_iadd hx hb dX5_puts_59 ?_
    refine lv_iconst (v := 0) hx hb dX5_puts_60 (by decide) ?_
    refine st_M_al hx hb hK hP hD hS h_5 dX5_puts_61 (fun H locs hP hD hS => ?_)
    have hP : va_P G.1 vwCl (mW G.2.1 α (t2_X5_puts σ p1 p2)) H := hP
    have hD : va_D (inW w0) (mW G.2.1 α (t2_X5_puts σ p1 p2)) := hD
    obtain ⟨h_6, hok⟩ := hok
    refine lv_aload_n hx hb dX5_puts_62 rfl (lv_at hl 1 rfl) ?_
    refine get_M_all hx hb hts hinX5 hown hK hP (hts (.fieldLink RX5 7 "GrooveTurnsModel" "all" "[I") (by decide +kernel)) dX5_puts_63 ?_
    refine lv_sipush (v := 420) hx hb dX5_puts_66 (by decide) ?_
    refine lv_iload_n hx hb dX5_puts_69 rfl (lv_at hl 0 rfl) ?_
    refine lv_iadd hx hb dX5_puts_70 ?_
    refine lv_dup2_11 hx hb dX5_puts_71 rfl rfl ?_
    refine ld_M_al hx hb hK hP h_6 dX5_puts_72 ?_
    refine lv_iconst (v := 1) hx hb dX5_puts_73 (by decide) ?_
    refine lv_iadd hx hb dX5_puts_74 ?_
    refine st_M_al hx hb hK hP hD hS h_6 dX5_puts_75 (fun H locs hP hD hS => ?_)
    have hP : va_P G.1 vwCl (mW G.2.1 α (t3_X5_puts σ p1 p2)) H := hP
    have hD : va_D (inW w0) (mW G.2.1 α (t3_X5_puts σ p1 p2)) := hD
    refine lv_aload_n hx hb dX5_puts_76 rfl (lv_at hl 1 rfl) ?_
    refine get_M_all hx hb hts hinX5 hown hK hP (hts (.fieldLink RX5 7 "GrooveTurnsModel" "all" "[I") (by decide +kernel)) dX5_puts_77 ?_
    refine lv_bipush (v := 8) hx hb dX5_puts_80 (by decide) ?_
    refine lv_dup2_11 hx hb dX5_puts_82 rfl rfl ?_
    refine ld_M_al hx hb hK hP (by unfold vp_in; decide) dX5_puts_83 ?_
    refine lv_iconst (v := 1) hx hb dX5_puts_84 (by decide) ?_
    refine lv_iadd hx hb dX5_puts_85 ?_
    refine st_M_al hx hb hK hP hD hS (by unfold vp_in; decide) dX5_puts_86 (fun H locs hP hD hS => ?_)
    have hP : va_P G.1 vwCl (mW G.2.1 α (t4_X5_puts σ p1 p2)) H := hP
    have hD : va_D (inW w0) (mW G.2.1 α (t4_X5_puts σ p1 p2)) := hD
    refine lv_iload_n hx hb dX5_puts_87 rfl (lv_at hl 0 rfl) ?_
    refine lv_sipush (v := 192) hx hb dX5_puts_88 (by decide) ?_
    refine lv_icmp_ge (tgt := 190) hx hb dX5_puts_91 (by decide) (fun (c_7 : 192 ≤ (s_X5_sectorToWrite σ p1)) => ?_) (fun (c_7 : ¬ 192 ≤ (s_X5_sectorToWrite σ p1)) => ?_)
    · skip
      rw [show s_X5_puts σ p1 p2 = (t4_X5_puts σ p1 p2) from by rw [s_X5_puts]; rw [if_pos c_3, if_pos c_7]]
      exact W.vret hx hb hr (fun t ht hW => ⟨rfl, by rw [ht]; exact hP, hS.F ht⟩) hS.2.2 dX5_puts_190
    · skip
      have hok := hok.2 c_7
      obtain ⟨h_8, hok⟩ := hok
      refine lv_aload_n hx hb dX5_puts_94 rfl (lv_at hl 1 rfl) ?_
      refine lv_iload_n hx hb dX5_puts_95 rfl (lv_at hl 0 rfl) ?_
      refine lv_bipush (v := 12) hx hb dX5_puts_96 (by decide) ?_
      refine lv_isub hx hb dX5_puts_98 ?_
      refine lv_aload_n hx hb dX5_puts_99 rfl (lv_at hl 1 rfl) ?_
      refine get_M_all hx hb hts hinX5 hown hK hP (hts (.fieldLink RX5 7 "GrooveTurnsModel" "all" "[I") (by decide +kernel)) dX5_puts_100 ?_
      refine lv_iconst (v := 0) hx hb dX5_puts_103 (by decide) ?_
      refine ld_M_al hx hb hK hP (by unfold vp_in; decide) dX5_puts_104 ?_
      refine wrV0 (As := [.int ((s_X5_sectorToWrite σ p1) - 12), .int ((m_al (t4_X5_puts σ p1 p2)) (0 : Int32).toNatClampNeg)]) (rest := []) (c_X5_heats l G α (t4_X5_puts σ p1 p2) ((s_X5_sectorToWrite σ p1) - 12) ((m_al (t4_X5_puts σ p1 p2)) (0 : Int32).toNatClampNeg) h_8) hF (cwV 2 hts gX5_puts_X5_heats rfl rfl rfl (by decide +kernel) ⟨Nat.le_of_ble_eq_true rfl, Nat.le_of_ble_eq_true rfl⟩) (rcv_M hK hP) hK hP hD hS (fst_M _ _) rfl hl.1 rfl (Nat.le_of_ble_eq_true rfl) dX5_puts_105 ⟨Nat.zero_le _, Nat.zero_le _⟩ (fun H locs hP hD hS => ?_)
      have hP : va_P G.1 vwCl (mW G.2.1 α (t5_X5_puts σ p1 p2)) H := hP
      have hD : va_D (inW w0) (mW G.2.1 α (t5_X5_puts σ p1 p2)) := hD
      obtain ⟨h_9, hok⟩ := hok
      refine lv_aload_n hx hb dX5_puts_108 rfl (lv_at hl 1 rfl) ?_
      refine lv_iload_n hx hb dX5_puts_109 rfl (lv_at hl 0 rfl) ?_
      refine lv_bipush (v := 12) hx hb dX5_puts_110 (by decide) ?_
      refine lv_iadd hx hb dX5_puts_112 ?_
      refine lv_aload_n hx hb dX5_puts_113 rfl (lv_at hl 1 rfl) ?_
      refine get_M_all hx hb hts hinX5 hown hK hP (hts (.fieldLink RX5 7 "GrooveTurnsModel" "all" "[I") (by decide +kernel)) dX5_puts_114 ?_
      refine lv_iconst (v := 0) hx hb dX5_puts_117 (by decide) ?_
      refine ld_M_al hx hb hK hP (by unfold vp_in; decide) dX5_puts_118 ?_
      refine wrV0 (As := [.int ((s_X5_sectorToWrite σ p1) + 12), .int ((m_al (t5_X5_puts σ p1 p2)) (0 : Int32).toNatClampNeg)]) (rest := []) (c_X5_heats l G α (t5_X5_puts σ p1 p2) ((s_X5_sectorToWrite σ p1) + 12) ((m_al (t5_X5_puts σ p1 p2)) (0 : Int32).toNatClampNeg) h_9) hF (cwV 2 hts gX5_puts_X5_heats rfl rfl rfl (by decide +kernel) ⟨Nat.le_of_ble_eq_true rfl, Nat.le_of_ble_eq_true rfl⟩) (rcv_M hK hP) hK hP hD hS (fst_M _ _) rfl hl.1 rfl (Nat.le_of_ble_eq_true rfl) dX5_puts_119 ⟨Nat.zero_le _, Nat.zero_le _⟩ (fun H locs hP hD hS => ?_)
      have hP : va_P G.1 vwCl (mW G.2.1 α (t6_X5_puts σ p1 p2)) H := hP
      have hD : va_D (inW w0) (mW G.2.1 α (t6_X5_puts σ p1 p2)) := hD
      obtain ⟨h_10, hok⟩ := hok
      refine lv_aload_n hx hb dX5_puts_122 rfl (lv_at hl 1 rfl) ?_
      refine lv_iload_n hx hb dX5_puts_123 rfl (lv_at hl 0 rfl) ?_
      refine lv_bipush (v := 24) hx hb dX5_puts_124 (by decide) ?_
      refine lv_isub hx hb dX5_puts_126 ?_
      refine lv_aload_n hx hb dX5_puts_127 rfl (lv_at hl 1 rfl) ?_
      refine get_M_all hx hb hts hinX5 hown hK hP (hts (.fieldLink RX5 7 "GrooveTurnsModel" "all" "[I") (by decide +kernel)) dX5_puts_128 ?_
      refine lv_iconst (v := 1) hx hb dX5_puts_131 (by decide) ?_
      refine ld_M_al hx hb hK hP (by unfold vp_in; decide) dX5_puts_132 ?_
      refine wrV0 (As := [.int ((s_X5_sectorToWrite σ p1) - 24), .int ((m_al (t6_X5_puts σ p1 p2)) (1 : Int32).toNatClampNeg)]) (rest := []) (c_X5_heats l G α (t6_X5_puts σ p1 p2) ((s_X5_sectorToWrite σ p1) - 24) ((m_al (t6_X5_puts σ p1 p2)) (1 : Int32).toNatClampNeg) h_10) hF (cwV 2 hts gX5_puts_X5_heats rfl rfl rfl (by decide +kernel) ⟨Nat.le_of_ble_eq_true rfl, Nat.le_of_ble_eq_true rfl⟩) (rcv_M hK hP) hK hP hD hS (fst_M _ _) rfl hl.1 rfl (Nat.le_of_ble_eq_true rfl) dX5_puts_133 ⟨Nat.zero_le _, Nat.zero_le _⟩ (fun H locs hP hD hS => ?_)
      have hP : va_P G.1 vwCl (mW G.2.1 α (t7_X5_puts σ p1 p2)) H := hP
      have hD : va_D (inW w0) (mW G.2.1 α (t7_X5_puts σ p1 p2)) := hD
      have h_11 := hok
      refine lv_aload_n hx hb dX5_puts_136 rfl (lv_at hl 1 rfl) ?_
      refine lv_iload_n hx hb dX5_puts_137 rfl (lv_at hl 0 rfl) ?_
      refine lv_bipush (v := 24) hx hb dX5_puts_138 (by decide) ?_
      refine lv_iadd hx hb dX5_puts_140 ?_
      refine lv_aload_n hx hb dX5_puts_141 rfl (lv_at hl 1 rfl) ?_
      refine get_M_all hx hb hts hinX5 hown hK hP (hts (.fieldLink RX5 7 "GrooveTurnsModel" "all" "[I") (by decide +kernel)) dX5_puts_142 ?_
      refine lv_iconst (v := 1) hx hb dX5_puts_145 (by decide) ?_
      refine ld_M_al hx hb hK hP (by unfold vp_in; decide) dX5_puts_146 ?_
      refine wrV0 (As := [.int ((s_X5_sectorToWrite σ p1) + 24), .int ((m_al (t7_X5_puts σ p1 p2)) (1 : Int32).toNatClampNeg)]) (rest := []) (c_X5_heats l G α (t7_X5_puts σ p1 p2) ((s_X5_sectorToWrite σ p1) + 24) ((m_al (t7_X5_puts σ p1 p2)) (1 : Int32).toNatClampNeg) h_11) hF (cwV 2 hts gX5_puts_X5_heats rfl rfl rfl (by decide +kernel) ⟨Nat.le_of_ble_eq_true rfl, Nat.le_of_ble_eq_true rfl⟩) (rcv_M hK hP) hK hP hD hS (fst_M _ _) rfl hl.1 rfl (Nat.le_of_ble_eq_true rfl) dX5_puts_147 ⟨Nat.zero_le _, Nat.zero_le _⟩ (fun H locs hP hD hS => ?_)
      have hP : va_P G.1 vwCl (mW G.2.1 α (t8_X5_puts σ p1 p2)) H := hP
      have hD : va_D (inW w0) (mW G.2.1 α (t8_X5_puts σ p1 p2)) := hD
      refine lv_aload_n hx hb dX5_puts_150 rfl (lv_at hl 1 rfl) ?_
      refine get_M_all hx hb hts hinX5 hown hK hP (hts (.fieldLink RX5 7 "GrooveTurnsModel" "all" "[I") (by decide +kernel)) dX5_puts_151 ?_
      refine lv_bipush (v := 10) hx hb dX5_puts_154 (by decide) ?_
      refine lv_dup2_11 hx hb dX5_puts_156 rfl rfl ?_
      refine ld_M_al hx hb hK hP (by unfold vp_in; decide) dX5_puts_157 ?_
      refine lv_iload_n hx hb dX5_puts_158 rfl (lv_at hl 0 rfl) ?_
      refine lv_bipush (v := 12) hx hb dX5_puts_159 (by decide) ?_
      refine lv_idiv hx hb dX5_puts_161 (by decide) ?_
      refine lv_iconst (v := 2) hx hb dX5_puts_162 (by decide) ?_
      refine lv_irem hx hb dX5_puts_163 (by decide) ?_
      refine lv_if_ne (tgt := 171) hx hb dX5_puts_164 (by decide) (fun (c_12 : ¬ (jrem ((s_X5_sectorToWrite σ p1) / 12) 2) = 0) => ?_) (fun (c_12 : (jrem ((s_X5_sectorToWrite σ p1) / 12) 2) = 0) => ?_)
      · skip
        refine lv_iconst (v := 0) hx hb dX5_puts_171 (by decide) ?_
        refine lv_iadd hx hb dX5_puts_172 ?_
        refine st_M_al hx hb hK hP hD hS (by unfold vp_in; decide) dX5_puts_173 (fun H locs hP hD hS => ?_)
        have hP : va_P G.1 vwCl (mW G.2.1 α (t9_X5_puts σ p1 p2)) H := hP
        have hD : va_D (inW w0) (mW G.2.1 α (t9_X5_puts σ p1 p2)) := hD
        refine lv_aload_n hx hb dX5_puts_174 rfl (lv_at hl 1 rfl) ?_
        refine get_M_all hx hb hts hinX5 hown hK hP (hts (.fieldLink RX5 7 "GrooveTurnsModel" "all" "[I") (by decide +kernel)) dX5_puts_175 ?_
        refine lv_bipush (v := 11) hx hb dX5_puts_178 (by decide) ?_
        refine lv_dup2_11 hx hb dX5_puts_180 rfl rfl ?_
        refine ld_M_al hx hb hK hP (by unfold vp_in; decide) dX5_puts_181 ?_
        refine lv_iload_n hx hb dX5_puts_182 rfl (lv_at hl 0 rfl) ?_
        refine lv_bipush (v := 12) hx hb dX5_puts_183 (by decide) ?_
        refine lv_idiv hx hb dX5_puts_185 (by decide) ?_
        refine lv_iconst (v := 2) hx hb dX5_puts_186 (by decide) ?_
        refine lv_irem hx hb dX5_puts_187 (by decide) ?_
        refine lv_iadd hx hb dX5_puts_188 ?_
        refine st_M_al hx hb hK hP hD hS (by unfold vp_in; decide) dX5_puts_189 (fun H locs hP hD hS => ?_)
        have hP : va_P G.1 vwCl (mW G.2.1 α (t10_X5_puts σ p1 p2)) H := hP
        have hD : va_D (inW w0) (mW G.2.1 α (t10_X5_puts σ p1 p2)) := hD
        rw [show s_X5_puts σ p1 p2 = (t10_X5_puts σ p1 p2) from by rw [s_X5_puts]; rw [if_pos c_3, if_neg c_7, if_neg c_12]]
        exact W.vret hx hb hr (fun t ht hW => ⟨rfl, by rw [ht]; exact hP, hS.F ht⟩) hS.2.2 dX5_puts_190
      · skip
        refine lv_iconst (v := 1) hx hb dX5_puts_167 (by decide) ?_
        refine lv_goto (tgt := 172) hx hb dX5_puts_168 (by decide) ?_
        refine lv_iadd hx hb dX5_puts_172 ?_
        refine st_M_al hx hb hK hP hD hS (by unfold vp_in; decide) dX5_puts_173 (fun H locs hP hD hS => ?_)
        have hP : va_P G.1 vwCl (mW G.2.1 α (t11_X5_puts σ p1 p2)) H := hP
        have hD : va_D (inW w0) (mW G.2.1 α (t11_X5_puts σ p1 p2)) := hD
        refine lv_aload_n hx hb dX5_puts_174 rfl (lv_at hl 1 rfl) ?_
        refine get_M_all hx hb hts hinX5 hown hK hP (hts (.fieldLink RX5 7 "GrooveTurnsModel" "all" "[I") (by decide +kernel)) dX5_puts_175 ?_
        refine lv_bipush (v := 11) hx hb dX5_puts_178 (by decide) ?_
        refine lv_dup2_11 hx hb dX5_puts_180 rfl rfl ?_
        refine ld_M_al hx hb hK hP (by unfold vp_in; decide) dX5_puts_181 ?_
        refine lv_iload_n hx hb dX5_puts_182 rfl (lv_at hl 0 rfl) ?_
        refine lv_bipush (v := 12) hx hb dX5_puts_183 (by decide) ?_
        refine lv_idiv hx hb dX5_puts_185 (by decide) ?_
        refine lv_iconst (v := 2) hx hb dX5_puts_186 (by decide) ?_
        refine lv_irem hx hb dX5_puts_187 (by decide) ?_
        refine lv_iadd hx hb dX5_puts_188 ?_
        refine st_M_al hx hb hK hP hD hS (by unfold vp_in; decide) dX5_puts_189 (fun H locs hP hD hS => ?_)
        have hP : va_P G.1 vwCl (mW G.2.1 α (t12_X5_puts σ p1 p2)) H := hP
        have hD : va_D (inW w0) (mW G.2.1 α (t12_X5_puts σ p1 p2)) := hD
        rw [show s_X5_puts σ p1 p2 = (t12_X5_puts σ p1 p2) from by rw [s_X5_puts]; rw [if_pos c_3, if_neg c_7, if_pos c_12]]
        exact W.vret hx hb hr (fun t ht hW => ⟨rfl, by rw [ht]; exact hP, hS.F ht⟩) hS.2.2 dX5_puts_190
  · skip
    have hok := hok.2 c_3
    obtain ⟨h_13, hok⟩ := hok
    refine lv_aload_n hx hb dX5_puts_15 rfl (lv_at hl 1 rfl) ?_
    refine get_M_all hx hb hts hinX5 hown hK hP (hts (.fieldLink RX5 7 "GrooveTurnsModel" "all" "[I") (by decide +kernel)) dX5_puts_16 ?_
    refine lv_sipush (v := 624) hx hb dX5_puts_19 (by decide) ?_
    refine lv_iload_n hx hb dX5_puts_22 rfl (lv_at hl 2 rfl) ?_
    refine lv_iadd hx hb dX5_puts_23 ?_
    refine lv_iload_n hx hb dX5_puts_24 rfl (lv_at hl 0 rfl) ?_
    refine lv_sipush (v := 192) hx hb dX5_puts_25 (by decide) ?_
    refine lv_isub hx hb dX5_puts_28 ?_
    refine st_M_al hx hb hK hP hD hS h_13 dX5_puts_29 (fun H locs hP hD hS => ?_)
    have hP : va_P G.1 vwCl (mW G.2.1 α (t13_X5_puts σ p1 p2)) H := hP
    have hD : va_D (inW w0) (mW G.2.1 α (t13_X5_puts σ p1 p2)) := hD
    obtain ⟨h_14, hok⟩ := hok
    refine lv_aload_n hx hb dX5_puts_30 rfl (lv_at hl 1 rfl) ?_
    refine get_M_all hx hb hts hinX5 hown hK hP (hts (.fieldLink RX5 7 "GrooveTurnsModel" "all" "[I") (by decide +kernel)) dX5_puts_31 ?_
    refine lv_bipush (v := 7) hx hb dX5_puts_34 (by decide) ?_
    refine lv_dup2_11 hx hb dX5_puts_36 rfl rfl ?_
    refine ld_M_al hx hb hK hP (by unfold vp_in; decide) dX5_puts_37 ?_
    refine lv_iconst (v := 1) hx hb dX5_puts_38 (by decide) ?_
    refine lv_isub hx hb dX5_puts_39 ?_
    refine st_M_al hx hb hK hP hD hS (by unfold vp_in; decide) dX5_puts_40 (fun H locs hP hD hS => ?_)
    have hP : va_P G.1 vwCl (mW G.2.1 α (t14_X5_puts σ p1 p2)) H := hP
    have hD : va_D (inW w0) (mW G.2.1 α (t14_X5_puts σ p1 p2)) := hD
    refine lv_aload_n hx hb dX5_puts_41 rfl (lv_at hl 1 rfl) ?_
    refine get_M_all hx hb hts hinX5 hown hK hP (hts (.fieldLink RX5 7 "GrooveTurnsModel" "all" "[I") (by decide +kernel)) dX5_puts_42 ?_
    refine lv_bipush (v := 12) hx hb dX5_puts_45 (by decide) ?_
    refine lv_iload_n hx hb dX5_puts_47 rfl (lv_at hl 0 rfl) ?_
    refine lv_iadd hx hb dX5_puts_48 ?_
    refine lv_iload_n hx hb dX5_puts_49 rfl (lv_at hl 3 rfl) ?_
    refine st_M_al hx hb hK hP hD hS h_14 dX5_puts_50 (fun H locs hP hD hS => ?_)
    have hP : va_P G.1 vwCl (mW G.2.1 α (t15_X5_puts σ p1 p2)) H := hP
    have hD : va_D (inW w0) (mW G.2.1 α (t15_X5_puts σ p1 p2)) := hD
    obtain ⟨h_15, hok⟩ := hok
    refine lv_aload_n hx hb dX5_puts_51 rfl (lv_at hl 1 rfl) ?_
    refine get_M_all hx hb hts hinX5 hown hK hP (hts (.fieldLink RX5 7 "GrooveTurnsModel" "all" "[I") (by decide +kernel)) dX5_puts_52 ?_
    refine lv_sipush (v := 216) hx hb dX5_puts_55 (by decide) ?_
    refine lv_iload_n hx hb dX5_puts_58 rfl (lv_at hl 0 rfl) ?_
    refine lv_iadd hx hb dX5_puts_59 ?_
    refine lv_iconst (v := 0) hx hb dX5_puts_60 (by decide) ?_
    refine st_M_al hx hb hK hP hD hS h_15 dX5_puts_61 (fun H locs hP hD hS => ?_)
    have hP : va_P G.1 vwCl (mW G.2.1 α (t16_X5_puts σ p1 p2)) H := hP
    have hD : va_D (inW w0) (mW G.2.1 α (t16_X5_puts σ p1 p2)) := hD
    obtain ⟨h_16, hok⟩ := hok
    refine lv_aload_n hx hb dX5_puts_62 rfl (lv_at hl 1 rfl) ?_
    refine get_M_all hx hb hts hinX5 hown hK hP (hts (.fieldLink RX5 7 "GrooveTurnsModel" "all" "[I") (by decide +kernel)) dX5_puts_63 ?_
    refine lv_sipush (v := 420) hx hb dX5_puts_66 (by decide) ?_
    refine lv_iload_n hx hb dX5_puts_69 rfl (lv_at hl 0 rfl) ?_
    refine lv_iadd hx hb dX5_puts_70 ?_
    refine lv_dup2_11 hx hb dX5_puts_71 rfl rfl ?_
    refine ld_M_al hx hb hK hP h_16 dX5_puts_72 ?_
    refine lv_iconst (v := 1) hx hb dX5_puts_73 (by decide) ?_
    refine lv_iadd hx hb dX5_puts_74 ?_
    refine st_M_al hx hb hK hP hD hS h_16 dX5_puts_75 (fun H locs hP hD hS => ?_)
    have hP : va_P G.1 vwCl (mW G.2.1 α (t17_X5_puts σ p1 p2)) H := hP
    have hD : va_D (inW w0) (mW G.2.1 α (t17_X5_puts σ p1 p2)) := hD
    refine lv_aload_n hx hb dX5_puts_76 rfl (lv_at hl 1 rfl) ?_
    refine get_M_all hx hb hts hinX5 hown hK hP (hts (.fieldLink RX5 7 "GrooveTurnsModel" "all" "[I") (by decide +kernel)) dX5_puts_77 ?_
    refine lv_bipush (v := 8) hx hb dX5_puts_80 (by decide) ?_
    refine lv_dup2_11 hx hb dX5_puts_82 rfl rfl ?_
    refine ld_M_al hx hb hK hP (by unfold vp_in; decide) dX5_puts_83 ?_
    refine lv_iconst (v := 1) hx hb dX5_puts_84 (by decide) ?_
    refine lv_iadd hx hb dX5_puts_85 ?_
    refine st_M_al hx hb hK hP hD hS (by unfold vp_in; decide) dX5_puts_86 (fun H locs hP hD hS => ?_)
    have hP : va_P G.1 vwCl (mW G.2.1 α (t18_X5_puts σ p1 p2)) H := hP
    have hD : va_D (inW w0) (mW G.2.1 α (t18_X5_puts σ p1 p2)) := hD
    refine lv_iload_n hx hb dX5_puts_87 rfl (lv_at hl 0 rfl) ?_
    refine lv_sipush (v := 192) hx hb dX5_puts_88 (by decide) ?_
    refine lv_icmp_ge (tgt := 190) hx hb dX5_puts_91 (by decide) (fun (c_17 : 192 ≤ (s_X5_sectorToWrite σ p1)) => ?_) (fun (c_17 : ¬ 192 ≤ (s_X5_sectorToWrite σ p1)) => ?_)
    · skip
      rw [show s_X5_puts σ p1 p2 = (t18_X5_puts σ p1 p2) from by rw [s_X5_puts]; rw [if_neg c_3, if_pos c_17]]
      exact W.vret hx hb hr (fun t ht hW => ⟨rfl, by rw [ht]; exact hP, hS.F ht⟩) hS.2.2 dX5_puts_190
    · skip
      have hok := hok.2 c_17
      obtain ⟨h_18, hok⟩ := hok
      refine lv_aload_n hx hb dX5_puts_94 rfl (lv_at hl 1 rfl) ?_
      refine lv_iload_n hx hb dX5_puts_95 rfl (lv_at hl 0 rfl) ?_
      refine lv_bipush (v := 12) hx hb dX5_puts_96 (by decide) ?_
      refine lv_isub hx hb dX5_puts_98 ?_
      refine lv_aload_n hx hb dX5_puts_99 rfl (lv_at hl 1 rfl) ?_
      refine get_M_all hx hb hts hinX5 hown hK hP (hts (.fieldLink RX5 7 "GrooveTurnsModel" "all" "[I") (by decide +kernel)) dX5_puts_100 ?_
      refine lv_iconst (v := 0) hx hb dX5_puts_103 (by decide) ?_
      refine ld_M_al hx hb hK hP (by unfold vp_in; decide) dX5_puts_104 ?_
      refine wrV0 (As := [.int ((s_X5_sectorToWrite σ p1) - 12), .int ((m_al (t18_X5_puts σ p1 p2)) (0 : Int32).toNatClampNeg)]) (rest := []) (c_X5_heats l G α (t18_X5_puts σ p1 p2) ((s_X5_sectorToWrite σ p1) - 12) ((m_al (t18_X5_puts σ p1 p2)) (0 : Int32).toNatClampNeg) h_18) hF (cwV 2 hts gX5_puts_X5_heats rfl rfl rfl (by decide +kernel) ⟨Nat.le_of_ble_eq_true rfl, Nat.le_of_ble_eq_true rfl⟩) (rcv_M hK hP) hK hP hD hS (fst_M _ _) rfl hl.1 rfl (Nat.le_of_ble_eq_true rfl) dX5_puts_105 ⟨Nat.zero_le _, Nat.zero_le _⟩ (fun H locs hP hD hS => ?_)
      have hP : va_P G.1 vwCl (mW G.2.1 α (t19_X5_puts σ p1 p2)) H := hP
      have hD : va_D (inW w0) (mW G.2.1 α (t19_X5_puts σ p1 p2)) := hD
      obtain ⟨h_19, hok⟩ := hok
      refine lv_aload_n hx hb dX5_puts_108 rfl (lv_at hl 1 rfl) ?_
      refine lv_iload_n hx hb dX5_puts_109 rfl (lv_at hl 0 rfl) ?_
      refine lv_bipush (v := 12) hx hb dX5_puts_110 (by decide) ?_
      refine lv_iadd hx hb dX5_puts_112 ?_
      refine lv_aload_n hx hb dX5_puts_113 rfl (lv_at hl 1 rfl) ?_
      refine get_M_all hx hb hts hinX5 hown hK hP (hts (.fieldLink RX5 7 "GrooveTurnsModel" "all" "[I") (by decide +kernel)) dX5_puts_114 ?_
      refine lv_iconst (v := 0) hx hb dX5_puts_117 (by decide) ?_
      refine ld_M_al hx hb hK hP (by unfold vp_in; decide) dX5_puts_118 ?_
      refine wrV0 (As := [.int ((s_X5_sectorToWrite σ p1) + 12), .int ((m_al (t19_X5_puts σ p1 p2)) (0 : Int32).toNatClampNeg)]) (rest := []) (c_X5_heats l G α (t19_X5_puts σ p1 p2) ((s_X5_sectorToWrite σ p1) + 12) ((m_al (t19_X5_puts σ p1 p2)) (0 : Int32).toNatClampNeg) h_19) hF (cwV 2 hts gX5_puts_X5_heats rfl rfl rfl (by decide +kernel) ⟨Nat.le_of_ble_eq_true rfl, Nat.le_of_ble_eq_true rfl⟩) (rcv_M hK hP) hK hP hD hS (fst_M _ _) rfl hl.1 rfl (Nat.le_of_ble_eq_true rfl) dX5_puts_119 ⟨Nat.zero_le _, Nat.zero_le _⟩ (fun H locs hP hD hS => ?_)
      have hP : va_P G.1 vwCl (mW G.2.1 α (t20_X5_puts σ p1 p2)) H := hP
      have hD : va_D (inW w0) (mW G.2.1 α (t20_X5_puts σ p1 p2)) := hD
      obtain ⟨h_20, hok⟩ := hok
      refine lv_aload_n hx hb dX5_puts_122 rfl (lv_at hl 1 rfl) ?_
      refine lv_iload_n hx hb dX5_puts_123 rfl (lv_at hl 0 rfl) ?_
      refine lv_bipush (v := 24) hx hb dX5_puts_124 (by decide) ?_
      refine lv_isub hx hb dX5_puts_126 ?_
      refine lv_aload_n hx hb dX5_puts_127 rfl (lv_at hl 1 rfl) ?_
      refine get_M_all hx hb hts hinX5 hown hK hP (hts (.fieldLink RX5 7 "GrooveTurnsModel" "all" "[I") (by decide +kernel)) dX5_puts_128 ?_
      refine lv_iconst (v := 1) hx hb dX5_puts_131 (by decide) ?_
      refine ld_M_al hx hb hK hP (by unfold vp_in; decide) dX5_puts_132 ?_
      refine wrV0 (As := [.int ((s_X5_sectorToWrite σ p1) - 24), .int ((m_al (t20_X5_puts σ p1 p2)) (1 : Int32).toNatClampNeg)]) (rest := []) (c_X5_heats l G α (t20_X5_puts σ p1 p2) ((s_X5_sectorToWrite σ p1) - 24) ((m_al (t20_X5_puts σ p1 p2)) (1 : Int32).toNatClampNeg) h_20) hF (cwV 2 hts gX5_puts_X5_heats rfl rfl rfl (by decide +kernel) ⟨Nat.le_of_ble_eq_true rfl, Nat.le_of_ble_eq_true rfl⟩) (rcv_M hK hP) hK hP hD hS (fst_M _ _) rfl hl.1 rfl (Nat.le_of_ble_eq_true rfl) dX5_puts_133 ⟨Nat.zero_le _, Nat.zero_le _⟩ (fun H locs hP hD hS => ?_)
      have hP : va_P G.1 vwCl (mW G.2.1 α (t21_X5_puts σ p1 p2)) H := hP
      have hD : va_D (inW w0) (mW G.2.1 α (t21_X5_puts σ p1 p2)) := hD
      have h_21 := hok
      refine lv_aload_n hx hb dX5_puts_136 rfl (lv_at hl 1 rfl) ?_
      refine lv_iload_n hx hb dX5_puts_137 rfl (lv_at hl 0 rfl) ?_
      refine lv_bipush (v := 24) hx hb dX5_puts_138 (by decide) ?_
      refine lv_iadd hx hb dX5_puts_140 ?_
      refine lv_aload_n hx hb dX5_puts_141 rfl (lv_at hl 1 rfl) ?_
      refine get_M_all hx hb hts hinX5 hown hK hP (hts (.fieldLink RX5 7 "GrooveTurnsModel" "all" "[I") (by decide +kernel)) dX5_puts_142 ?_
      refine lv_iconst (v := 1) hx hb dX5_puts_145 (by decide) ?_
      refine ld_M_al hx hb hK hP (by unfold vp_in; decide) dX5_puts_146 ?_
      refine wrV0 (As := [.int ((s_X5_sectorToWrite σ p1) + 24), .int ((m_al (t21_X5_puts σ p1 p2)) (1 : Int32).toNatClampNeg)]) (rest := []) (c_X5_heats l G α (t21_X5_puts σ p1 p2) ((s_X5_sectorToWrite σ p1) + 24) ((m_al (t21_X5_puts σ p1 p2)) (1 : Int32).toNatClampNeg) h_21) hF (cwV 2 hts gX5_puts_X5_heats rfl rfl rfl (by decide +kernel) ⟨Nat.le_of_ble_eq_true rfl, Nat.le_of_ble_eq_true rfl⟩) (rcv_M hK hP) hK hP hD hS (fst_M _ _) rfl hl.1 rfl (Nat.le_of_ble_eq_true rfl) dX5_puts_147 ⟨Nat.zero_le _, Nat.zero_le _⟩ (fun H locs hP hD hS => ?_)
      have hP : va_P G.1 vwCl (mW G.2.1 α (t22_X5_puts σ p1 p2)) H := hP
      have hD : va_D (inW w0) (mW G.2.1 α (t22_X5_puts σ p1 p2)) := hD
      refine lv_aload_n hx hb dX5_puts_150 rfl (lv_at hl 1 rfl) ?_
      refine get_M_all hx hb hts hinX5 hown hK hP (hts (.fieldLink RX5 7 "GrooveTurnsModel" "all" "[I") (by decide +kernel)) dX5_puts_151 ?_
      refine lv_bipush (v := 10) hx hb dX5_puts_154 (by decide) ?_
      refine lv_dup2_11 hx hb dX5_puts_156 rfl rfl ?_
      refine ld_M_al hx hb hK hP (by unfold vp_in; decide) dX5_puts_157 ?_
      refine lv_iload_n hx hb dX5_puts_158 rfl (lv_at hl 0 rfl) ?_
      refine lv_bipush (v := 12) hx hb dX5_puts_159 (by decide) ?_
      refine lv_idiv hx hb dX5_puts_161 (by decide) ?_
      refine lv_iconst (v := 2) hx hb dX5_puts_162 (by decide) ?_
      refine lv_irem hx hb dX5_puts_163 (by decide) ?_
      refine lv_if_ne (tgt := 171) hx hb dX5_puts_164 (by decide) (fun (c_22 : ¬ (jrem ((s_X5_sectorToWrite σ p1) / 12) 2) = 0) => ?_) (fun (c_22 : (jrem ((s_X5_sectorToWrite σ p1) / 12) 2) = 0) => ?_)
      · skip
        refine lv_iconst (v := 0) hx hb dX5_puts_171 (by decide) ?_
        refine lv_iadd hx hb dX5_puts_172 ?_
        refine st_M_al hx hb hK hP hD hS (by unfold vp_in; decide) dX5_puts_173 (fun H locs hP hD hS => ?_)
        have hP : va_P G.1 vwCl (mW G.2.1 α (t23_X5_puts σ p1 p2)) H := hP
        have hD : va_D (inW w0) (mW G.2.1 α (t23_X5_puts σ p1 p2)) := hD
        refine lv_aload_n hx hb dX5_puts_174 rfl (lv_at hl 1 rfl) ?_
        refine get_M_all hx hb hts hinX5 hown hK hP (hts (.fieldLink RX5 7 "GrooveTurnsModel" "all" "[I") (by decide +kernel)) dX5_puts_175 ?_
        refine lv_bipush (v := 11) hx hb dX5_puts_178 (by decide) ?_
        refine lv_dup2_11 hx hb dX5_puts_180 rfl rfl ?_
        refine ld_M_al hx hb hK hP (by unfold vp_in; decide) dX5_puts_181 ?_
        refine lv_iload_n hx hb dX5_puts_182 rfl (lv_at hl 0 rfl) ?_
        refine lv_bipush (v := 12) hx hb dX5_puts_183 (by decide) ?_
        refine lv_idiv hx hb dX5_puts_185 (by decide) ?_
        refine lv_iconst (v := 2) hx hb dX5_puts_186 (by decide) ?_
        refine lv_irem hx hb dX5_puts_187 (by decide) ?_
        refine lv_iadd hx hb dX5_puts_188 ?_
        refine st_M_al hx hb hK hP hD hS (by unfold vp_in; decide) dX5_puts_189 (fun H locs hP hD hS => ?_)
        have hP : va_P G.1 vwCl (mW G.2.1 α (t24_X5_puts σ p1 p2)) H := hP
        have hD : va_D (inW w0) (mW G.2.1 α (t24_X5_puts σ p1 p2)) := hD
        rw [show s_X5_puts σ p1 p2 = (t24_X5_puts σ p1 p2) from by rw [s_X5_puts]; rw [if_neg c_3, if_neg c_17, if_neg c_22]]
        exact W.vret hx hb hr (fun t ht hW => ⟨rfl, by rw [ht]; exact hP, hS.F ht⟩) hS.2.2 dX5_puts_190
      · skip
        refine lv_iconst (v := 1) hx hb dX5_puts_167 (by decide) ?_
        refine lv_goto (tgt := 172) hx hb dX5_puts_168 (by decide) ?_
        refine lv_iadd hx hb dX5_puts_172 ?_
        refine st_M_al hx hb hK hP hD hS (by unfold vp_in; decide) dX5_puts_173 (fun H locs hP hD hS => ?_)
        have hP : va_P G.1 vwCl (mW G.2.1 α (t25_X5_puts σ p1 p2)) H := hP
        have hD : va_D (inW w0) (mW G.2.1 α (t25_X5_puts σ p1 p2)) := hD
        refine lv_aload_n hx hb dX5_puts_174 rfl (lv_at hl 1 rfl) ?_
        refine get_M_all hx hb hts hinX5 hown hK hP (hts (.fieldLink RX5 7 "GrooveTurnsModel" "all" "[I") (by decide +kernel)) dX5_puts_175 ?_
        refine lv_bipush (v := 11) hx hb dX5_puts_178 (by decide) ?_
        refine lv_dup2_11 hx hb dX5_puts_180 rfl rfl ?_
        refine ld_M_al hx hb hK hP (by unfold vp_in; decide) dX5_puts_181 ?_
        refine lv_iload_n hx hb dX5_puts_182 rfl (lv_at hl 0 rfl) ?_
        refine lv_bipush (v := 12) hx hb dX5_puts_183 (by decide) ?_
        refine lv_idiv hx hb dX5_puts_185 (by decide) ?_
        refine lv_iconst (v := 2) hx hb dX5_puts_186 (by decide) ?_
        refine lv_irem hx hb dX5_puts_187 (by decide) ?_
        refine lv_iadd hx hb dX5_puts_188 ?_
        refine st_M_al hx hb hK hP hD hS (by unfold vp_in; decide) dX5_puts_189 (fun H locs hP hD hS => ?_)
        have hP : va_P G.1 vwCl (mW G.2.1 α (t26_X5_puts σ p1 p2)) H := hP
        have hD : va_D (inW w0) (mW G.2.1 α (t26_X5_puts σ p1 p2)) := hD
        rw [show s_X5_puts σ p1 p2 = (t26_X5_puts σ p1 p2) from by rw [s_X5_puts]; rw [if_neg c_3, if_neg c_17, if_pos c_22]]
        exact W.vret hx hb hr (fun t ht hW => ⟨rfl, by rw [ht]; exact hP, hS.F ht⟩) hS.2.2 dX5_puts_190
def s_X5_doWrite (σ : MS) (p1 : Int32) (p2 : Int32) : Int32 × MS := (if (((m_al σ) (5 : Int32).toNatClampNeg) + (s_X5_takes σ (s_X5_sectorToWrite σ p1))) ≤ 9999999 then ((s_X5_takes σ (s_X5_sectorToWrite σ p1)), (s_X5_puts (s_X5_goes σ (s_X5_sectorToWrite σ p1)) p1 p2)) else ((-4), σ))
def ok_X5_doWrite (σ : MS) (p1 : Int32) (p2 : Int32) : Prop := (ok_X5_sectorToWrite σ p1) ∧ (((((m_al σ) (5 : Int32).toNatClampNeg) + (s_X5_takes σ (s_X5_sectorToWrite σ p1))) ≤ 9999999 → (ok_X5_puts (s_X5_goes σ (s_X5_sectorToWrite σ p1)) p1 p2)) ∧ (¬ (((m_al σ) (5 : Int32).toNatClampNeg) + (s_X5_takes σ (s_X5_sectorToWrite σ p1))) ≤ 9999999 → True))
set_option maxHeartbeats 4000000 in
set_option maxRecDepth 100000 in
theorem c_X5_doWrite (l : Launch) (G : GG) (α : Nat → Nat) (σ : MS) (p1 : Int32) (p2 : Int32) (hok : ok_X5_doWrite σ p1 p2) : Wr G l yX5_doWrite wsX5_doWrite 4 91 [.ref (α 0), .int p1, .int p2] (mW G.2.1 α σ) (some (.int (s_X5_doWrite σ p1 p2).1)) (mW G.2.1 α ((s_X5_doWrite σ p1 p2).2)) := by
  refine Met.ofW (cc := cX5_doWrite) (maxL := 5) (ret := (some .int)) (by decide) rfl ?_
  intro p e s m args below meth c s₁ B hml hv
  obtain ⟨rfl, hP, hK, hD0⟩ := hv
  have C0 : cA p s m meth c ([.ref (α 0), .int p1, .int p2] : List Value).toArray cX5_doWrite 5 (some .int) wsX5_doWrite RX5 := ⟨B.exec, B.bytes, B.returns, hml, findClass_of_methodNamed B.named, atoms_spec (ws := wsX5_doWrite) B.pre, B.notSynchronized⟩
  obtain ⟨hx, hb, hr, hml, hown, hts, hlocks⟩ := id C0
  have hF : CallFix p m c cX5_doWrite 5 s _ wsX5_doWrite RX5 := ⟨hx, hb, hml, hown, hts⟩
  have hinX5 : ∀ w ∈ wsX50, w ∈ wsX5_doWrite := by decide +kernel
  obtain ⟨w0, hw0⟩ : ∃ w0 : va_W, w0 = (mW G.2.1 α σ) := ⟨_, rfl⟩
  have hD : va_D (inW w0) (mW G.2.1 α σ) := by rw [hw0]; exact inW.D hD0
  have hS : va_S (inW w0) s.heap s.heap [] := va_S.rf
  rw [show QW G (mW G.2.1 α σ) = QW G w0 from by rw [hw0], show inW (mW G.2.1 α σ) = inW w0 from by rw [hw0]]
  have hl := lv_entry ([.ref (α 0), .int p1, .int p2]) (n := 5) (Nat.le_of_ble_eq_true rfl)
  rw [lg_entry_eq]
  generalize (lg_sl ([.ref (α 0), .int p1, .int p2]) ++ List.replicate (5 - (lg_sl ([.ref (α 0), .int p1, .int p2])).length) Slot.unset).toArray = ls at hl ⊢
  have hl : lv_has ls 5 [(0, .ref (α 0)), (1, .int p1), (2, .int p2)] := hl
  have hok : (ok_X5_sectorToWrite σ p1) ∧ (((((m_al σ) (5 : Int32).toNatClampNeg) + (s_X5_takes σ (s_X5_sectorToWrite σ p1))) ≤ 9999999 → (ok_X5_puts (s_X5_goes σ (s_X5_sectorToWrite σ p1)) p1 p2)) ∧ (¬ (((m_al σ) (5 : Int32).toNatClampNeg) + (s_X5_takes σ (s_X5_sectorToWrite σ p1))) ≤ 9999999 → True)) := hok
  obtain ⟨h_1, hok⟩ := hok
  refine lv_aload_n hx hb dX5_doWrite_0 rfl (lv_at hl 0 rfl) ?_
  refine lv_iload_n hx hb dX5_doWrite_1 rfl (lv_at hl 1 rfl) ?_
  refine rdV (As := [.int p1]) (rest := []) (c_X5_sectorToWrite l G α σ p1 h_1) hF (cwV 1 hts gX5_doWrite_X5_sectorToWrite rfl rfl rfl (by decide +kernel) ⟨Nat.le_of_ble_eq_true rfl, Nat.le_of_ble_eq_true rfl⟩) (rcv_M hK hP) hK hP rfl hl.1 rfl (Nat.le_of_ble_eq_true rfl) dX5_doWrite_2 ⟨Nat.zero_le _, Nat.zero_le _⟩ ?_
  refine lv_istore_n (lv' := [(3, .int (s_X5_sectorToWrite σ p1)), (0, .ref (α 0)), (1, .int p1), (2, .int p2)]) hx hb dX5_doWrite_5 rfl hl (by decide) rfl (fun ls hl => ?_)
  refine lv_aload_n hx hb dX5_doWrite_6 rfl (lv_at hl 1 rfl) ?_
  refine lv_iload_n hx hb dX5_doWrite_7 rfl (lv_at hl 0 rfl) ?_
  refine rdV (As := [.int (s_X5_sectorToWrite σ p1)]) (rest := []) (c_X5_takes l G α σ (s_X5_sectorToWrite σ p1)) hF (cwV 1 hts gX5_doWrite_X5_takes rfl rfl rfl (by decide +kernel) ⟨Nat.le_of_ble_eq_true rfl, Nat.le_of_ble_eq_true rfl⟩) (rcv_M hK hP) hK hP rfl hl.1 rfl (Nat.le_of_ble_eq_true rfl) dX5_doWrite_8 ⟨Nat.zero_le _, Nat.zero_le _⟩ ?_
  refine lv_istore (lv' := [(4, .int (s_X5_takes σ (s_X5_sectorToWrite σ p1))), (3, .int (s_X5_sectorToWrite σ p1)), (0, .ref (α 0)), (1, .int p1), (2, .int p2)]) hx hb dX5_doWrite_11 hl (by decide) rfl (fun ls hl => ?_)
  refine lv_aload_n hx hb dX5_doWrite_13 rfl (lv_at hl 2 rfl) ?_
  refine get_M_all hx hb hts hinX5 hown hK hP (hts (.fieldLink RX5 7 "GrooveTurnsModel" "all" "[I") (by decide +kernel)) dX5_doWrite_14 ?_
  refine lv_iconst (v := 5) hx hb dX5_doWrite_17 (by decide) ?_
  refine ld_M_al hx hb hK hP (by unfold vp_in; decide) dX5_doWrite_18 ?_
  refine lv_iload hx hb dX5_doWrite_19 (lv_at hl 0 rfl) ?_
  refine lv_iadd hx hb dX5_doWrite_21 ?_
  refine lv_ldc (v := 9999999) hx hb hown (hts (.constant RX5 74 (9999999)) (by decide +kernel)) dX5_doWrite_22 ?_
  refine lv_icmp_le (tgt := 30) hx hb dX5_doWrite_24 (by decide) (fun (c_2 : (((m_al σ) (5 : Int32).toNatClampNeg) + (s_X5_takes σ (s_X5_sectorToWrite σ p1))) ≤ 9999999) => ?_) (fun (c_2 : ¬ (((m_al σ) (5 : Int32).toNatClampNeg) + (s_X5_takes σ (s_X5_sectorToWrite σ p1))) ≤ 9999999) => ?_)
  · skip
    have hok := hok.1 c_2
    have h_3 := hok
    refine lv_aload_n hx hb dX5_doWrite_30 rfl (lv_at hl 2 rfl) ?_
    refine lv_iload_n hx hb dX5_doWrite_31 rfl (lv_at hl 1 rfl) ?_
    refine wrV0 (As := [.int (s_X5_sectorToWrite σ p1)]) (rest := []) (c_X5_goes l G α σ (s_X5_sectorToWrite σ p1)) hF (cwV 1 hts gX5_doWrite_X5_goes rfl rfl rfl (by decide +kernel) ⟨Nat.le_of_ble_eq_true rfl, Nat.le_of_ble_eq_true rfl⟩) (rcv_M hK hP) hK hP hD hS (fst_M _ _) rfl hl.1 rfl (Nat.le_of_ble_eq_true rfl) dX5_doWrite_32 ⟨Nat.zero_le _, Nat.zero_le _⟩ (fun H locs hP hD hS => ?_)
    have hP : va_P G.1 vwCl (mW G.2.1 α (s_X5_goes σ (s_X5_sectorToWrite σ p1))) H := hP
    have hD : va_D (inW w0) (mW G.2.1 α (s_X5_goes σ (s_X5_sectorToWrite σ p1))) := hD
    refine lv_aload_n hx hb dX5_doWrite_35 rfl (lv_at hl 2 rfl) ?_
    refine lv_iload_n hx hb dX5_doWrite_36 rfl (lv_at hl 3 rfl) ?_
    refine lv_iload_n hx hb dX5_doWrite_37 rfl (lv_at hl 4 rfl) ?_
    refine wrV0 (As := [.int p1, .int p2]) (rest := []) (c_X5_puts l G α (s_X5_goes σ (s_X5_sectorToWrite σ p1)) p1 p2 h_3) hF (cwV 2 hts gX5_doWrite_X5_puts rfl rfl rfl (by decide +kernel) ⟨Nat.le_of_ble_eq_true rfl, Nat.le_of_ble_eq_true rfl⟩) (rcv_M hK hP) hK hP hD hS (fst_M _ _) rfl hl.1 rfl (Nat.le_of_ble_eq_true rfl) dX5_doWrite_38 ⟨Nat.zero_le _, Nat.zero_le _⟩ (fun H locs hP hD hS => ?_)
    have hP : va_P G.1 vwCl (mW G.2.1 α (s_X5_puts (s_X5_goes σ (s_X5_sectorToWrite σ p1)) p1 p2)) H := hP
    have hD : va_D (inW w0) (mW G.2.1 α (s_X5_puts (s_X5_goes σ (s_X5_sectorToWrite σ p1)) p1 p2)) := hD
    refine lv_iload hx hb dX5_doWrite_41 (lv_at hl 0 rfl) ?_
    have E9 : s_X5_doWrite σ p1 p2 = ((s_X5_takes σ (s_X5_sectorToWrite σ p1)), (s_X5_puts (s_X5_goes σ (s_X5_sectorToWrite σ p1)) p1 p2)) := by rw [s_X5_doWrite]; rw [if_pos c_2]
    rw [pr1 E9, pr2 E9]
    exact W.iret hx hb hr (fun t ht hW => ⟨rfl, by rw [ht]; exact hP, hS.F ht⟩) hS.2.2 dX5_doWrite_43
  · skip
    refine lv_bipush (v := (-4)) hx hb dX5_doWrite_27 (by decide) ?_
    have E9 : s_X5_doWrite σ p1 p2 = ((-4), σ) := by rw [s_X5_doWrite]; rw [if_neg c_2]
    rw [pr1 E9, pr2 E9]
    exact W.iret hx hb hr (fun t ht hW => ⟨rfl, by rw [ht]; exact hP, hS.F ht⟩) hS.2.2 dX5_doWrite_29
def t1_X5_doRead (σ : MS) (p1 : Int32) : MS := (m_al' (s_X5_goes σ (s_X5_sectorOf σ p1)) (jinc (m_al (s_X5_goes σ (s_X5_sectorOf σ p1))) 9 1))
def s_X5_doRead (σ : MS) (p1 : Int32) : Int32 × MS := (if (s_X5_canBeRead σ p1) = 0 then ((-5), σ) else (if (((m_al σ) (5 : Int32).toNatClampNeg) + (s_X5_takes σ (s_X5_sectorOf σ p1))) ≤ 9999999 then (((m_al (t1_X5_doRead σ p1)) (12 + (s_X5_sectorOf σ p1)).toNatClampNeg), (t1_X5_doRead σ p1)) else ((-4), σ)))
def ok_X5_doRead (σ : MS) (p1 : Int32) : Prop := (ok_X5_canBeRead σ p1) ∧ (((s_X5_canBeRead σ p1) = 0 → True) ∧ (¬ (s_X5_canBeRead σ p1) = 0 → ((ok_X5_sectorOf σ p1) ∧ (((((m_al σ) (5 : Int32).toNatClampNeg) + (s_X5_takes σ (s_X5_sectorOf σ p1))) ≤ 9999999 → (vp_in (12 + (s_X5_sectorOf σ p1)) 816)) ∧ (¬ (((m_al σ) (5 : Int32).toNatClampNeg) + (s_X5_takes σ (s_X5_sectorOf σ p1))) ≤ 9999999 → True)))))
set_option maxHeartbeats 4000000 in
set_option maxRecDepth 100000 in
theorem c_X5_doRead (l : Launch) (G : GG) (α : Nat → Nat) (σ : MS) (p1 : Int32) (hok : ok_X5_doRead σ p1) : Wr G l yX5_doRead wsX5_doRead 3 63 [.ref (α 0), .int p1] (mW G.2.1 α σ) (some (.int (s_X5_doRead σ p1).1)) (mW G.2.1 α ((s_X5_doRead σ p1).2)) := by
  refine Met.ofW (cc := cX5_doRead) (maxL := 3) (ret := (some .int)) (by decide) rfl ?_
  intro p e s m args below meth c s₁ B hml hv
  obtain ⟨rfl, hP, hK, hD0⟩ := hv
  have C0 : cA p s m meth c ([.ref (α 0), .int p1] : List Value).toArray cX5_doRead 3 (some .int) wsX5_doRead RX5 := ⟨B.exec, B.bytes, B.returns, hml, findClass_of_methodNamed B.named, atoms_spec (ws := wsX5_doRead) B.pre, B.notSynchronized⟩
  obtain ⟨hx, hb, hr, hml, hown, hts, hlocks⟩ := id C0
  have hF : CallFix p m c cX5_doRead 3 s _ wsX5_doRead RX5 := ⟨hx, hb, hml, hown, hts⟩
  have hinX5 : ∀ w ∈ wsX50, w ∈ wsX5_doRead := by decide +kernel
  obtain ⟨w0, hw0⟩ : ∃ w0 : va_W, w0 = (mW G.2.1 α σ) := ⟨_, rfl⟩
  have hD : va_D (inW w0) (mW G.2.1 α σ) := by rw [hw0]; exact inW.D hD0
  have hS : va_S (inW w0) s.heap s.heap [] := va_S.rf
  rw [show QW G (mW G.2.1 α σ) = QW G w0 from by rw [hw0], show inW (mW G.2.1 α σ) = inW w0 from by rw [hw0]]
  have hl := lv_entry ([.ref (α 0), .int p1]) (n := 3) (Nat.le_of_ble_eq_true rfl)
  rw [lg_entry_eq]
  generalize (lg_sl ([.ref (α 0), .int p1]) ++ List.replicate (3 - (lg_sl ([.ref (α 0), .int p1])).length) Slot.unset).toArray = ls at hl ⊢
  have hl : lv_has ls 3 [(0, .ref (α 0)), (1, .int p1)] := hl
  have hok : (ok_X5_canBeRead σ p1) ∧ (((s_X5_canBeRead σ p1) = 0 → True) ∧ (¬ (s_X5_canBeRead σ p1) = 0 → ((ok_X5_sectorOf σ p1) ∧ (((((m_al σ) (5 : Int32).toNatClampNeg) + (s_X5_takes σ (s_X5_sectorOf σ p1))) ≤ 9999999 → (vp_in (12 + (s_X5_sectorOf σ p1)) 816)) ∧ (¬ (((m_al σ) (5 : Int32).toNatClampNeg) + (s_X5_takes σ (s_X5_sectorOf σ p1))) ≤ 9999999 → True))))) := hok
  obtain ⟨h_1, hok⟩ := hok
  refine lv_aload_n hx hb dX5_doRead_0 rfl (lv_at hl 0 rfl) ?_
  refine lv_iload_n hx hb dX5_doRead_1 rfl (lv_at hl 1 rfl) ?_
  refine rdV (As := [.int p1]) (rest := []) (c_X5_canBeRead l G α σ p1 h_1) hF (cwV 1 hts gX5_doRead_X5_canBeRead rfl rfl rfl (by decide +kernel) ⟨Nat.le_of_ble_eq_true rfl, Nat.le_of_ble_eq_true rfl⟩) (rcv_M hK hP) hK hP rfl hl.1 rfl (Nat.le_of_ble_eq_true rfl) dX5_doRead_2 ⟨Nat.zero_le _, Nat.zero_le _⟩ ?_
  refine lv_if_ne (tgt := 11) hx hb dX5_doRead_5 (by decide) (fun (c_2 : ¬ (s_X5_canBeRead σ p1) = 0) => ?_) (fun (c_2 : (s_X5_canBeRead σ p1) = 0) => ?_)
  · skip
    have hok := hok.2 c_2
    obtain ⟨h_3, hok⟩ := hok
    refine lv_aload_n hx hb dX5_doRead_11 rfl (lv_at hl 0 rfl) ?_
    refine lv_iload_n hx hb dX5_doRead_12 rfl (lv_at hl 1 rfl) ?_
    refine rdV (As := [.int p1]) (rest := []) (c_X5_sectorOf l G α σ p1 h_3) hF (cwV 1 hts gX5_doRead_X5_sectorOf rfl rfl rfl (by decide +kernel) ⟨Nat.le_of_ble_eq_true rfl, Nat.le_of_ble_eq_true rfl⟩) (rcv_M hK hP) hK hP rfl hl.1 rfl (Nat.le_of_ble_eq_true rfl) dX5_doRead_13 ⟨Nat.zero_le _, Nat.zero_le _⟩ ?_
    refine lv_istore_n (lv' := [(2, .int (s_X5_sectorOf σ p1)), (0, .ref (α 0)), (1, .int p1)]) hx hb dX5_doRead_16 rfl hl (by decide) rfl (fun ls hl => ?_)
    refine lv_aload_n hx hb dX5_doRead_17 rfl (lv_at hl 1 rfl) ?_
    refine get_M_all hx hb hts hinX5 hown hK hP (hts (.fieldLink RX5 7 "GrooveTurnsModel" "all" "[I") (by decide +kernel)) dX5_doRead_18 ?_
    refine lv_iconst (v := 5) hx hb dX5_doRead_21 (by decide) ?_
    refine ld_M_al hx hb hK hP (by unfold vp_in; decide) dX5_doRead_22 ?_
    refine lv_aload_n hx hb dX5_doRead_23 rfl (lv_at hl 1 rfl) ?_
    refine lv_iload_n hx hb dX5_doRead_24 rfl (lv_at hl 0 rfl) ?_
    refine rdV (As := [.int (s_X5_sectorOf σ p1)]) (rest := [.int ((m_al σ) (5 : Int32).toNatClampNeg)]) (c_X5_takes l G α σ (s_X5_sectorOf σ p1)) hF (cwV 1 hts gX5_doRead_X5_takes rfl rfl rfl (by decide +kernel) ⟨Nat.le_of_ble_eq_true rfl, Nat.le_of_ble_eq_true rfl⟩) (rcv_M hK hP) hK hP rfl hl.1 rfl (Nat.le_of_ble_eq_true rfl) dX5_doRead_25 ⟨Nat.zero_le _, Nat.zero_le _⟩ ?_
    refine lv_iadd hx hb dX5_doRead_28 ?_
    refine lv_ldc (v := 9999999) hx hb hown (hts (.constant RX5 74 (9999999)) (by decide +kernel)) dX5_doRead_29 ?_
    refine lv_icmp_le (tgt := 37) hx hb dX5_doRead_31 (by decide) (fun (c_4 : (((m_al σ) (5 : Int32).toNatClampNeg) + (s_X5_takes σ (s_X5_sectorOf σ p1))) ≤ 9999999) => ?_) (fun (c_4 : ¬ (((m_al σ) (5 : Int32).toNatClampNeg) + (s_X5_takes σ (s_X5_sectorOf σ p1))) ≤ 9999999) => ?_)
    · skip
      have hok := hok.1 c_4
      have h_5 := hok
      refine lv_aload_n hx hb dX5_doRead_37 rfl (lv_at hl 1 rfl) ?_
      refine lv_iload_n hx hb dX5_doRead_38 rfl (lv_at hl 0 rfl) ?_
      refine wrV0 (As := [.int (s_X5_sectorOf σ p1)]) (rest := []) (c_X5_goes l G α σ (s_X5_sectorOf σ p1)) hF (cwV 1 hts gX5_doRead_X5_goes rfl rfl rfl (by decide +kernel) ⟨Nat.le_of_ble_eq_true rfl, Nat.le_of_ble_eq_true rfl⟩) (rcv_M hK hP) hK hP hD hS (fst_M _ _) rfl hl.1 rfl (Nat.le_of_ble_eq_true rfl) dX5_doRead_39 ⟨Nat.zero_le _, Nat.zero_le _⟩ (fun H locs hP hD hS => ?_)
      have hP : va_P G.1 vwCl (mW G.2.1 α (s_X5_goes σ (s_X5_sectorOf σ p1))) H := hP
      have hD : va_D (inW w0) (mW G.2.1 α (s_X5_goes σ (s_X5_sectorOf σ p1))) := hD
      refine lv_aload_n hx hb dX5_doRead_42 rfl (lv_at hl 1 rfl) ?_
      refine get_M_all hx hb hts hinX5 hown hK hP (hts (.fieldLink RX5 7 "GrooveTurnsModel" "all" "[I") (by decide +kernel)) dX5_doRead_43 ?_
      refine lv_bipush (v := 9) hx hb dX5_doRead_46 (by decide) ?_
      refine lv_dup2_11 hx hb dX5_doRead_48 rfl rfl ?_
      refine ld_M_al hx hb hK hP (by unfold vp_in; decide) dX5_doRead_49 ?_
      refine lv_iconst (v := 1) hx hb dX5_doRead_50 (by decide) ?_
      refine lv_iadd hx hb dX5_doRead_51 ?_
      refine st_M_al hx hb hK hP hD hS (by unfold vp_in; decide) dX5_doRead_52 (fun H locs hP hD hS => ?_)
      have hP : va_P G.1 vwCl (mW G.2.1 α (t1_X5_doRead σ p1)) H := hP
      have hD : va_D (inW w0) (mW G.2.1 α (t1_X5_doRead σ p1)) := hD
      refine lv_aload_n hx hb dX5_doRead_53 rfl (lv_at hl 1 rfl) ?_
      refine get_M_all hx hb hts hinX5 hown hK hP (hts (.fieldLink RX5 7 "GrooveTurnsModel" "all" "[I") (by decide +kernel)) dX5_doRead_54 ?_
      refine lv_bipush (v := 12) hx hb dX5_doRead_57 (by decide) ?_
      refine lv_iload_n hx hb dX5_doRead_59 rfl (lv_at hl 0 rfl) ?_
      refine lv_iadd hx hb dX5_doRead_60 ?_
      refine ld_M_al hx hb hK hP h_5 dX5_doRead_61 ?_
      have E9 : s_X5_doRead σ p1 = (((m_al (t1_X5_doRead σ p1)) (12 + (s_X5_sectorOf σ p1)).toNatClampNeg), (t1_X5_doRead σ p1)) := by rw [s_X5_doRead]; rw [if_neg c_2, if_pos c_4]
      rw [pr1 E9, pr2 E9]
      exact W.iret hx hb hr (fun t ht hW => ⟨rfl, by rw [ht]; exact hP, hS.F ht⟩) hS.2.2 dX5_doRead_62
    · skip
      refine lv_bipush (v := (-4)) hx hb dX5_doRead_34 (by decide) ?_
      have E9 : s_X5_doRead σ p1 = ((-4), σ) := by rw [s_X5_doRead]; rw [if_neg c_2, if_neg c_4]
      rw [pr1 E9, pr2 E9]
      exact W.iret hx hb hr (fun t ht hW => ⟨rfl, by rw [ht]; exact hP, hS.F ht⟩) hS.2.2 dX5_doRead_36
  · skip
    refine lv_bipush (v := (-5)) hx hb dX5_doRead_8 (by decide) ?_
    have E9 : s_X5_doRead σ p1 = ((-5), σ) := by rw [s_X5_doRead]; rw [if_pos c_2]
    rw [pr1 E9, pr2 E9]
    exact W.iret hx hb hr (fun t ht hW => ⟨rfl, by rw [ht]; exact hP, hS.F ht⟩) hS.2.2 dX5_doRead_10
def t1_X5_doRefresh (σ : MS) (p1 : Int32) : MS := ((s_X5_doWrite ((s_X5_doRead σ p1).2) p1 ((s_X5_doRead σ p1).1)).2)
def s_X5_doRefresh (σ : MS) (p1 : Int32) : Int32 × MS := (if 0 ≤ ((s_X5_doRead σ p1).1) then (if 0 ≤ ((s_X5_doWrite ((s_X5_doRead σ p1).2) p1 ((s_X5_doRead σ p1).1)).1) then (((m_al σ) (216 + (s_X5_sectorOf σ p1)).toNatClampNeg), (t1_X5_doRefresh σ p1)) else (((s_X5_doWrite ((s_X5_doRead σ p1).2) p1 ((s_X5_doRead σ p1).1)).1), (t1_X5_doRefresh σ p1))) else (((s_X5_doRead σ p1).1), ((s_X5_doRead σ p1).2)))
def ok_X5_doRefresh (σ : MS) (p1 : Int32) : Prop := (ok_X5_sectorOf σ p1) ∧ ((vp_in (216 + (s_X5_sectorOf σ p1)) 816) ∧ ((ok_X5_doRead σ p1) ∧ ((0 ≤ ((s_X5_doRead σ p1).1) → (ok_X5_doWrite ((s_X5_doRead σ p1).2) p1 ((s_X5_doRead σ p1).1))) ∧ (¬ 0 ≤ ((s_X5_doRead σ p1).1) → True))))
set_option maxHeartbeats 4000000 in
set_option maxRecDepth 100000 in
theorem c_X5_doRefresh (l : Launch) (G : GG) (α : Nat → Nat) (σ : MS) (p1 : Int32) (hok : ok_X5_doRefresh σ p1) : Wr G l yX5_doRefresh wsX5_doRefresh 5 115 [.ref (α 0), .int p1] (mW G.2.1 α σ) (some (.int (s_X5_doRefresh σ p1).1)) (mW G.2.1 α ((s_X5_doRefresh σ p1).2)) := by
  refine Met.ofW (cc := cX5_doRefresh) (maxL := 5) (ret := (some .int)) (by decide) rfl ?_
  intro p e s m args below meth c s₁ B hml hv
  obtain ⟨rfl, hP, hK, hD0⟩ := hv
  have C0 : cA p s m meth c ([.ref (α 0), .int p1] : List Value).toArray cX5_doRefresh 5 (some .int) wsX5_doRefresh RX5 := ⟨B.exec, B.bytes, B.returns, hml, findClass_of_methodNamed B.named, atoms_spec (ws := wsX5_doRefresh) B.pre, B.notSynchronized⟩
  obtain ⟨hx, hb, hr, hml, hown, hts, hlocks⟩ := id C0
  have hF : CallFix p m c cX5_doRefresh 5 s _ wsX5_doRefresh RX5 := ⟨hx, hb, hml, hown, hts⟩
  have hinX5 : ∀ w ∈ wsX50, w ∈ wsX5_doRefresh := by decide +kernel
  obtain ⟨w0, hw0⟩ : ∃ w0 : va_W, w0 = (mW G.2.1 α σ) := ⟨_, rfl⟩
  have hD : va_D (inW w0) (mW G.2.1 α σ) := by rw [hw0]; exact inW.D hD0
  have hS : va_S (inW w0) s.heap s.heap [] := va_S.rf
  rw [show QW G (mW G.2.1 α σ) = QW G w0 from by rw [hw0], show inW (mW G.2.1 α σ) = inW w0 from by rw [hw0]]
  have hl := lv_entry ([.ref (α 0), .int p1]) (n := 5) (Nat.le_of_ble_eq_true rfl)
  rw [lg_entry_eq]
  generalize (lg_sl ([.ref (α 0), .int p1]) ++ List.replicate (5 - (lg_sl ([.ref (α 0), .int p1])).length) Slot.unset).toArray = ls at hl ⊢
  have hl : lv_has ls 5 [(0, .ref (α 0)), (1, .int p1)] := hl
  have hok : (ok_X5_sectorOf σ p1) ∧ ((vp_in (216 + (s_X5_sectorOf σ p1)) 816) ∧ ((ok_X5_doRead σ p1) ∧ ((0 ≤ ((s_X5_doRead σ p1).1) → (ok_X5_doWrite ((s_X5_doRead σ p1).2) p1 ((s_X5_doRead σ p1).1))) ∧ (¬ 0 ≤ ((s_X5_doRead σ p1).1) → True)))) := hok
  obtain ⟨h_1, hok⟩ := hok
  refine lv_aload_n hx hb dX5_doRefresh_0 rfl (lv_at hl 0 rfl) ?_
  refine get_M_all hx hb hts hinX5 hown hK hP (hts (.fieldLink RX5 7 "GrooveTurnsModel" "all" "[I") (by decide +kernel)) dX5_doRefresh_1 ?_
  refine lv_sipush (v := 216) hx hb dX5_doRefresh_4 (by decide) ?_
  refine lv_aload_n hx hb dX5_doRefresh_7 rfl (lv_at hl 0 rfl) ?_
  refine lv_iload_n hx hb dX5_doRefresh_8 rfl (lv_at hl 1 rfl) ?_
  refine rdV (As := [.int p1]) (rest := [.int 216, .ref (α 1)]) (c_X5_sectorOf l G α σ p1 h_1) hF (cwV 1 hts gX5_doRefresh_X5_sectorOf rfl rfl rfl (by decide +kernel) ⟨Nat.le_of_ble_eq_true rfl, Nat.le_of_ble_eq_true rfl⟩) (rcv_M hK hP) hK hP rfl hl.1 rfl (Nat.le_of_ble_eq_true rfl) dX5_doRefresh_9 ⟨Nat.zero_le _, Nat.zero_le _⟩ ?_
  obtain ⟨h_2, hok⟩ := hok
  refine lv_iadd hx hb dX5_doRefresh_12 ?_
  refine ld_M_al hx hb hK hP h_2 dX5_doRefresh_13 ?_
  obtain ⟨h_3, hok⟩ := hok
  refine lv_istore_n (lv' := [(2, .int ((m_al σ) (216 + (s_X5_sectorOf σ p1)).toNatClampNeg)), (0, .ref (α 0)), (1, .int p1)]) hx hb dX5_doRefresh_14 rfl hl (by decide) rfl (fun ls hl => ?_)
  refine lv_aload_n hx hb dX5_doRefresh_15 rfl (lv_at hl 1 rfl) ?_
  refine lv_iload_n hx hb dX5_doRefresh_16 rfl (lv_at hl 2 rfl) ?_
  refine wrV0 (As := [.int p1]) (rest := []) (c_X5_doRead l G α σ p1 h_3) hF (cwV 1 hts gX5_doRefresh_X5_doRead rfl rfl rfl (by decide +kernel) ⟨Nat.le_of_ble_eq_true rfl, Nat.le_of_ble_eq_true rfl⟩) (rcv_M hK hP) hK hP hD hS (fst_M _ _) rfl hl.1 rfl (Nat.le_of_ble_eq_true rfl) dX5_doRefresh_17 ⟨Nat.zero_le _, Nat.zero_le _⟩ (fun H locs hP hD hS => ?_)
  have hP : va_P G.1 vwCl (mW G.2.1 α ((s_X5_doRead σ p1).2)) H := hP
  have hD : va_D (inW w0) (mW G.2.1 α ((s_X5_doRead σ p1).2)) := hD
  refine lv_istore_n (lv' := [(3, .int ((s_X5_doRead σ p1).1)), (2, .int ((m_al σ) (216 + (s_X5_sectorOf σ p1)).toNatClampNeg)), (0, .ref (α 0)), (1, .int p1)]) hx hb dX5_doRefresh_20 rfl hl (by decide) rfl (fun ls hl => ?_)
  refine lv_iload_n hx hb dX5_doRefresh_21 rfl (lv_at hl 0 rfl) ?_
  refine lv_if_ge (tgt := 27) hx hb dX5_doRefresh_22 (by decide) (fun (c_4 : 0 ≤ ((s_X5_doRead σ p1).1)) => ?_) (fun (c_4 : ¬ 0 ≤ ((s_X5_doRead σ p1).1)) => ?_)
  · skip
    have hok := hok.1 c_4
    have h_5 := hok
    refine lv_aload_n hx hb dX5_doRefresh_27 rfl (lv_at hl 2 rfl) ?_
    refine lv_iload_n hx hb dX5_doRefresh_28 rfl (lv_at hl 3 rfl) ?_
    refine lv_iload_n hx hb dX5_doRefresh_29 rfl (lv_at hl 0 rfl) ?_
    refine wrV0 (As := [.int p1, .int ((s_X5_doRead σ p1).1)]) (rest := []) (c_X5_doWrite l G α ((s_X5_doRead σ p1).2) p1 ((s_X5_doRead σ p1).1) h_5) hF (cwV 2 hts gX5_doRefresh_X5_doWrite rfl rfl rfl (by decide +kernel) ⟨Nat.le_of_ble_eq_true rfl, Nat.le_of_ble_eq_true rfl⟩) (rcv_M hK hP) hK hP hD hS (fst_M _ _) rfl hl.1 rfl (Nat.le_of_ble_eq_true rfl) dX5_doRefresh_30 ⟨Nat.zero_le _, Nat.zero_le _⟩ (fun H locs hP hD hS => ?_)
    have hP : va_P G.1 vwCl (mW G.2.1 α (t1_X5_doRefresh σ p1)) H := hP
    have hD : va_D (inW w0) (mW G.2.1 α (t1_X5_doRefresh σ p1)) := hD
    refine lv_istore (lv' := [(4, .int ((s_X5_doWrite ((s_X5_doRead σ p1).2) p1 ((s_X5_doRead σ p1).1)).1)), (3, .int ((s_X5_doRead σ p1).1)), (2, .int ((m_al σ) (216 + (s_X5_sectorOf σ p1)).toNatClampNeg)), (0, .ref (α 0)), (1, .int p1)]) hx hb dX5_doRefresh_33 hl (by decide) rfl (fun ls hl => ?_)
    refine lv_iload hx hb dX5_doRefresh_35 (lv_at hl 0 rfl) ?_
    refine lv_if_ge (tgt := 45) hx hb dX5_doRefresh_37 (by decide) (fun (c_6 : 0 ≤ ((s_X5_doWrite ((s_X5_doRead σ p1).2) p1 ((s_X5_doRead σ p1).1)).1)) => ?_) (fun (c_6 : ¬ 0 ≤ ((s_X5_doWrite ((s_X5_doRead σ p1).2) p1 ((s_X5_doRead σ p1).1)).1)) => ?_)
    · skip
      refine lv_iload_n hx hb dX5_doRefresh_45 rfl (lv_at hl 2 rfl) ?_
      have E9 : s_X5_doRefresh σ p1 = (((m_al σ) (216 + (s_X5_sectorOf σ p1)).toNatClampNeg), (t1_X5_doRefresh σ p1)) := by rw [s_X5_doRefresh]; rw [if_pos c_4, if_pos c_6]
      rw [pr1 E9, pr2 E9]
      exact W.iret hx hb hr (fun t ht hW => ⟨rfl, by rw [ht]; exact hP, hS.F ht⟩) hS.2.2 dX5_doRefresh_46
    · skip
      refine lv_iload hx hb dX5_doRefresh_40 (lv_at hl 0 rfl) ?_
      refine lv_goto (tgt := 46) hx hb dX5_doRefresh_42 (by decide) ?_
      have E9 : s_X5_doRefresh σ p1 = (((s_X5_doWrite ((s_X5_doRead σ p1).2) p1 ((s_X5_doRead σ p1).1)).1), (t1_X5_doRefresh σ p1)) := by rw [s_X5_doRefresh]; rw [if_pos c_4, if_neg c_6]
      rw [pr1 E9, pr2 E9]
      exact W.iret hx hb hr (fun t ht hW => ⟨rfl, by rw [ht]; exact hP, hS.F ht⟩) hS.2.2 dX5_doRefresh_46
  · skip
    refine lv_iload_n hx hb dX5_doRefresh_25 rfl (lv_at hl 0 rfl) ?_
    have E9 : s_X5_doRefresh σ p1 = (((s_X5_doRead σ p1).1), ((s_X5_doRead σ p1).2)) := by rw [s_X5_doRefresh]; rw [if_neg c_4]
    rw [pr1 E9, pr2 E9]
    exact W.iret hx hb hr (fun t ht hW => ⟨rfl, by rw [ht]; exact hP, hS.F ht⟩) hS.2.2 dX5_doRefresh_26
def s_X5_isSetting (p0 : Int32) (p1 : Int32) : Int32 := (if p0 = 0 then (s_X5_in p1.toInt64 0 20) else (if p0 = 1 then (s_X5_in p1.toInt64 0 20) else (if p0 = 2 then (s_X5_in p1.toInt64 5 99) else (if p0 = 3 then (s_X5_in p1.toInt64 1 99) else (if p0 = 4 then (s_X5_in p1.toInt64 0 20) else 0)))))
theorem b_X5_isSetting (p0 : Int32) (p1 : Int32) : (s_X5_isSetting p0 p1) = 0 ∨ (s_X5_isSetting p0 p1) = 1 := by
  unfold s_X5_isSetting
  by_cases c_1 : p0 = 0
  · skip
    rw [if_pos c_1]
    exact b_X5_in p1.toInt64 0 20
  · skip
    by_cases c_2 : p0 = 1
    · skip
      rw [if_neg c_1, if_pos c_2]
      exact b_X5_in p1.toInt64 0 20
    · skip
      by_cases c_3 : p0 = 2
      · skip
        rw [if_neg c_1, if_neg c_2, if_pos c_3]
        exact b_X5_in p1.toInt64 5 99
      · skip
        by_cases c_4 : p0 = 3
        · skip
          rw [if_neg c_1, if_neg c_2, if_neg c_3, if_pos c_4]
          exact b_X5_in p1.toInt64 1 99
        · skip
          by_cases c_5 : p0 = 4
          · skip
            rw [if_neg c_1, if_neg c_2, if_neg c_3, if_neg c_4, if_pos c_5]
            exact b_X5_in p1.toInt64 0 20
          · skip
            rw [if_neg c_1, if_neg c_2, if_neg c_3, if_neg c_4, if_neg c_5]
            exact Or.inl rfl
set_option maxHeartbeats 4000000 in
set_option maxRecDepth 100000 in
theorem c_X5_isSetting (l : Launch) (G : GG) (p0 : Int32) (p1 : Int32) : Rd G l yX5_isSetting wsX5_isSetting 1 25 [.int p0, .int p1] [] (.int (s_X5_isSetting p0 p1)) := by
  refine Met.ofW (cc := cX5_isSetting) (maxL := 2) (ret := (some .boolean)) (by decide) rfl ?_
  intro p e s m args below meth c s₁ B hml hv
  obtain ⟨rfl, hP, hK⟩ := hv
  have C0 : cA p s m meth c ([.int p0, .int p1] : List Value).toArray cX5_isSetting 2 (some .boolean) wsX5_isSetting RX5 := ⟨B.exec, B.bytes, B.returns, hml, findClass_of_methodNamed B.named, atoms_spec (ws := wsX5_isSetting) B.pre, B.notSynchronized⟩
  obtain ⟨hx, hb, hr, hml, hown, hts, hlocks⟩ := id C0
  have hF : CallFix p m c cX5_isSetting 2 s _ wsX5_isSetting RX5 := ⟨hx, hb, hml, hown, hts⟩
  have hl := lv_entry ([.int p0, .int p1]) (n := 2) (Nat.le_of_ble_eq_true rfl)
  rw [lg_entry_eq]
  generalize (lg_sl ([.int p0, .int p1]) ++ List.replicate (2 - (lg_sl ([.int p0, .int p1])).length) Slot.unset).toArray = ls at hl ⊢
  have hl : lv_has ls 2 [(0, .int p0), (1, .int p1)] := hl
  refine lv_iload_n hx hb dX5_isSetting_0 rfl (lv_at hl 0 rfl) ?_
  by_cases c_1 : p0 = 0
  · skip
    refine lv_tableIn (tgt := 36) (off := 35) hx hb dX5_isSetting_1 (by rw [c_1]; decide) (by rw [c_1]; decide) (by rw [c_1]; rfl) (by decide) ?_
    refine lv_iload_n hx hb dX5_isSetting_36 rfl (lv_at hl 1 rfl) ?_
    refine lv_i2l (v := p1.toInt64) hx hb dX5_isSetting_37 rfl ?_
    refine lv_lconst (v := 0) hx hb dX5_isSetting_38 (by decide) ?_
    refine lv_ldc2 (v := 20) hx hb hown (hts (.constantLong RX5 92 (20)) (by decide +kernel)) dX5_isSetting_39 ?_
    refine rdS (As := [.long p1.toInt64, .long 0, .long 20]) (rest := []) (c_X5_in l G p1.toInt64 0 20) hF (va_cwS 3 hts gX5_isSetting_X5_in rfl rfl rfl (by decide +kernel) ⟨Nat.le_of_ble_eq_true rfl, Nat.le_of_ble_eq_true rfl⟩) hK va_P0 rfl hl.1 rfl (Nat.le_of_ble_eq_true rfl) dX5_isSetting_42 ⟨Nat.zero_le _, Nat.zero_le _⟩ ?_
    rw [show s_X5_isSetting p0 p1 = (s_X5_in p1.toInt64 0 20) from by rw [s_X5_isSetting]; rw [if_pos c_1]]
    exact W.zret (ty := .boolean) hx hb hr (nbool (b_X5_in _ _ _)) (fun t ht hW => ⟨rfl, ht⟩) (fun _ h => nomatch h) dX5_isSetting_45
  · skip
    by_cases c_2 : p0 = 1
    · skip
      refine lv_tableIn (tgt := 36) (off := 35) hx hb dX5_isSetting_1 (by rw [c_2]; decide) (by rw [c_2]; decide) (by rw [c_2]; rfl) (by decide) ?_
      refine lv_iload_n hx hb dX5_isSetting_36 rfl (lv_at hl 1 rfl) ?_
      refine lv_i2l (v := p1.toInt64) hx hb dX5_isSetting_37 rfl ?_
      refine lv_lconst (v := 0) hx hb dX5_isSetting_38 (by decide) ?_
      refine lv_ldc2 (v := 20) hx hb hown (hts (.constantLong RX5 92 (20)) (by decide +kernel)) dX5_isSetting_39 ?_
      refine rdS (As := [.long p1.toInt64, .long 0, .long 20]) (rest := []) (c_X5_in l G p1.toInt64 0 20) hF (va_cwS 3 hts gX5_isSetting_X5_in rfl rfl rfl (by decide +kernel) ⟨Nat.le_of_ble_eq_true rfl, Nat.le_of_ble_eq_true rfl⟩) hK va_P0 rfl hl.1 rfl (Nat.le_of_ble_eq_true rfl) dX5_isSetting_42 ⟨Nat.zero_le _, Nat.zero_le _⟩ ?_
      rw [show s_X5_isSetting p0 p1 = (s_X5_in p1.toInt64 0 20) from by rw [s_X5_isSetting]; rw [if_neg c_1, if_pos c_2]]
      exact W.zret (ty := .boolean) hx hb hr (nbool (b_X5_in _ _ _)) (fun t ht hW => ⟨rfl, ht⟩) (fun _ h => nomatch h) dX5_isSetting_45
    · skip
      by_cases c_3 : p0 = 2
      · skip
        refine lv_tableIn (tgt := 46) (off := 45) hx hb dX5_isSetting_1 (by rw [c_3]; decide) (by rw [c_3]; decide) (by rw [c_3]; rfl) (by decide) ?_
        refine lv_iload_n hx hb dX5_isSetting_46 rfl (lv_at hl 1 rfl) ?_
        refine lv_i2l (v := p1.toInt64) hx hb dX5_isSetting_47 rfl ?_
        refine lv_ldc2 (v := 5) hx hb hown (hts (.constantLong RX5 94 (5)) (by decide +kernel)) dX5_isSetting_48 ?_
        refine lv_ldc2 (v := 99) hx hb hown (hts (.constantLong RX5 96 (99)) (by decide +kernel)) dX5_isSetting_51 ?_
        refine rdS (As := [.long p1.toInt64, .long 5, .long 99]) (rest := []) (c_X5_in l G p1.toInt64 5 99) hF (va_cwS 3 hts gX5_isSetting_X5_in rfl rfl rfl (by decide +kernel) ⟨Nat.le_of_ble_eq_true rfl, Nat.le_of_ble_eq_true rfl⟩) hK va_P0 rfl hl.1 rfl (Nat.le_of_ble_eq_true rfl) dX5_isSetting_54 ⟨Nat.zero_le _, Nat.zero_le _⟩ ?_
        rw [show s_X5_isSetting p0 p1 = (s_X5_in p1.toInt64 5 99) from by rw [s_X5_isSetting]; rw [if_neg c_1, if_neg c_2, if_pos c_3]]
        exact W.zret (ty := .boolean) hx hb hr (nbool (b_X5_in _ _ _)) (fun t ht hW => ⟨rfl, ht⟩) (fun _ h => nomatch h) dX5_isSetting_57
      · skip
        by_cases c_4 : p0 = 3
        · skip
          refine lv_tableIn (tgt := 58) (off := 57) hx hb dX5_isSetting_1 (by rw [c_4]; decide) (by rw [c_4]; decide) (by rw [c_4]; rfl) (by decide) ?_
          refine lv_iload_n hx hb dX5_isSetting_58 rfl (lv_at hl 1 rfl) ?_
          refine lv_i2l (v := p1.toInt64) hx hb dX5_isSetting_59 rfl ?_
          refine lv_lconst (v := 1) hx hb dX5_isSetting_60 (by decide) ?_
          refine lv_ldc2 (v := 99) hx hb hown (hts (.constantLong RX5 96 (99)) (by decide +kernel)) dX5_isSetting_61 ?_
          refine rdS (As := [.long p1.toInt64, .long 1, .long 99]) (rest := []) (c_X5_in l G p1.toInt64 1 99) hF (va_cwS 3 hts gX5_isSetting_X5_in rfl rfl rfl (by decide +kernel) ⟨Nat.le_of_ble_eq_true rfl, Nat.le_of_ble_eq_true rfl⟩) hK va_P0 rfl hl.1 rfl (Nat.le_of_ble_eq_true rfl) dX5_isSetting_64 ⟨Nat.zero_le _, Nat.zero_le _⟩ ?_
          rw [show s_X5_isSetting p0 p1 = (s_X5_in p1.toInt64 1 99) from by rw [s_X5_isSetting]; rw [if_neg c_1, if_neg c_2, if_neg c_3, if_pos c_4]]
          exact W.zret (ty := .boolean) hx hb hr (nbool (b_X5_in _ _ _)) (fun t ht hW => ⟨rfl, ht⟩) (fun _ h => nomatch h) dX5_isSetting_67
        · skip
          by_cases c_5 : p0 = 4
          · skip
            refine lv_tableIn (tgt := 36) (off := 35) hx hb dX5_isSetting_1 (by rw [c_5]; decide) (by rw [c_5]; decide) (by rw [c_5]; rfl) (by decide) ?_
            refine lv_iload_n hx hb dX5_isSetting_36 rfl (lv_at hl 1 rfl) ?_
            refine lv_i2l (v := p1.toInt64) hx hb dX5_isSetting_37 rfl ?_
            refine lv_lconst (v := 0) hx hb dX5_isSetting_38 (by decide) ?_
            refine lv_ldc2 (v := 20) hx hb hown (hts (.constantLong RX5 92 (20)) (by decide +kernel)) dX5_isSetting_39 ?_
            refine rdS (As := [.long p1.toInt64, .long 0, .long 20]) (rest := []) (c_X5_in l G p1.toInt64 0 20) hF (va_cwS 3 hts gX5_isSetting_X5_in rfl rfl rfl (by decide +kernel) ⟨Nat.le_of_ble_eq_true rfl, Nat.le_of_ble_eq_true rfl⟩) hK va_P0 rfl hl.1 rfl (Nat.le_of_ble_eq_true rfl) dX5_isSetting_42 ⟨Nat.zero_le _, Nat.zero_le _⟩ ?_
            rw [show s_X5_isSetting p0 p1 = (s_X5_in p1.toInt64 0 20) from by rw [s_X5_isSetting]; rw [if_neg c_1, if_neg c_2, if_neg c_3, if_neg c_4, if_pos c_5]]
            exact W.zret (ty := .boolean) hx hb hr (nbool (b_X5_in _ _ _)) (fun t ht hW => ⟨rfl, ht⟩) (fun _ h => nomatch h) dX5_isSetting_45
          · skip
            have h9_0 : ¬ p0.toInt = 0 := lv_neT c_1 (by decide)
            have h9_1 : ¬ p0.toInt = 1 := lv_neT c_2 (by decide)
            have h9_2 : ¬ p0.toInt = 2 := lv_neT c_3 (by decide)
            have h9_3 : ¬ p0.toInt = 3 := lv_neT c_4 (by decide)
            have h9_4 : ¬ p0.toInt = 4 := lv_neT c_5 (by decide)
            refine lv_tableOut (tgt := 68) hx hb dX5_isSetting_1 (sw_out (fun k9 h9 h8 => by omega)) (by decide) ?_
            refine lv_iconst (v := 0) hx hb dX5_isSetting_68 (by decide) ?_
            rw [show s_X5_isSetting p0 p1 = 0 from by rw [s_X5_isSetting]; rw [if_neg c_1, if_neg c_2, if_neg c_3, if_neg c_4, if_neg c_5]]
            exact W.zret (ty := .boolean) hx hb hr rfl (fun t ht hW => ⟨rfl, ht⟩) (fun _ h => nomatch h) dX5_isSetting_69
