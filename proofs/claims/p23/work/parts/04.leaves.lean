def s_X4_at (n : Nat) (f : NI) (p1 : Int32) : Int32 := (if p1 < 0 then 0 else (if (nI n) ≤ p1 then 0 else (f p1.toNatClampNeg)))
set_option maxHeartbeats 4000000 in
set_option maxRecDepth 100000 in
theorem c_X4_at (l : Launch) (G : GG) (q : Nat) (n : Nat) (f : NI) (p1 : Int32) (hn : n < 2147483648) : Rd G l yX4_at wsX4_at 0 0 [.ref q, .int p1] (aW G.2.1 q n f) (.int (s_X4_at n f p1)) := by
  refine Met.ofW (cc := cX4_at) (maxL := 2) (ret := (some .int)) (by decide) rfl ?_
  intro p e s m args below meth c s₁ B hml hv
  obtain ⟨rfl, hP, hK⟩ := hv
  have C0 : cA p s m meth c ([.ref q, .int p1] : List Value).toArray cX4_at 2 (some .int) wsX4_at RX4 := ⟨B.exec, B.bytes, B.returns, hml, findClass_of_methodNamed B.named, atoms_spec (ws := wsX4_at) B.pre, B.notSynchronized⟩
  obtain ⟨hx, hb, hr, hml, hown, hts, hlocks⟩ := id C0
  have hF : CallFix p m c cX4_at 2 s _ wsX4_at RX4 := ⟨hx, hb, hml, hown, hts⟩
  have hl := lv_entry ([.ref q, .int p1]) (n := 2) (Nat.le_of_ble_eq_true rfl)
  rw [lg_entry_eq]
  generalize (lg_sl ([.ref q, .int p1]) ++ List.replicate (2 - (lg_sl ([.ref q, .int p1])).length) Slot.unset).toArray = ls at hl ⊢
  have hl : lv_has ls 2 [(0, .ref q), (1, .int p1)] := hl
  refine lv_iload_n hx hb dX4_at_0 rfl (lv_at hl 1 rfl) ?_
  refine lv_if_lt (tgt := 16) hx hb dX4_at_1 (by decide) (fun (c_1 : p1 < 0) => ?_) (fun (c_1 : ¬ p1 < 0) => ?_)
  · skip
    refine lv_iconst (v := 0) hx hb dX4_at_16 (by decide) ?_
    rw [show s_X4_at n f p1 = 0 from by rw [s_X4_at]; rw [if_pos c_1]]
    exact W.iret hx hb hr (fun t ht hW => ⟨rfl, ht⟩) (fun _ h => nomatch h) dX4_at_17
  · skip
    refine lv_iload_n hx hb dX4_at_4 rfl (lv_at hl 1 rfl) ?_
    refine lv_aload_n hx hb dX4_at_5 rfl (lv_at hl 0 rfl) ?_
    refine va_alen (v := (nI n)) hx hb hK.1 hP 0 0 rfl rfl rfl dX4_at_6 ?_
    refine lv_icmp_ge (tgt := 16) hx hb dX4_at_7 (by decide) (fun (c_2 : (nI n) ≤ p1) => ?_) (fun (c_2 : ¬ (nI n) ≤ p1) => ?_)
    · skip
      refine lv_iconst (v := 0) hx hb dX4_at_16 (by decide) ?_
      rw [show s_X4_at n f p1 = 0 from by rw [s_X4_at]; rw [if_neg c_1, if_pos c_2]]
      exact W.iret hx hb hr (fun t ht hW => ⟨rfl, ht⟩) (fun _ h => nomatch h) dX4_at_17
    · skip
      refine lv_aload_n hx hb dX4_at_10 rfl (lv_at hl 0 rfl) ?_
      refine lv_iload_n hx hb dX4_at_11 rfl (lv_at hl 1 rfl) ?_
      refine va_iald (cA := G.2.1) (n := n) (f := f) hx hb hK.1 hP 0 0 rfl rfl (at_in c_1 c_2 hn) dX4_at_12 ?_
      refine lv_goto (tgt := 17) hx hb dX4_at_13 (by decide) ?_
      rw [show s_X4_at n f p1 = (f p1.toNatClampNeg) from by rw [s_X4_at]; rw [if_neg c_1, if_neg c_2]]
      exact W.iret hx hb hr (fun t ht hW => ⟨rfl, ht⟩) (fun _ h => nomatch h) dX4_at_17
def s_X4_lay (n : Nat) (f : NI) (p1 : Int32) (p2 : Int32) : NI := (if p1 < 0 then f else (if (nI n) ≤ p1 then f else (upd f p1.toNatClampNeg p2)))
set_option maxHeartbeats 4000000 in
set_option maxRecDepth 100000 in
theorem c_X4_lay (l : Launch) (G : GG) (q : Nat) (n : Nat) (f : NI) (p1 : Int32) (p2 : Int32) (hn : n < 2147483648) : Wr G l yX4_lay wsX4_lay 0 0 [.ref q, .int p1, .int p2] (aW G.2.1 q n f) none (aW G.2.1 q n (s_X4_lay n f p1 p2)) := by
  refine Met.ofW (cc := cX4_lay) (maxL := 3) (ret := none) (by decide) rfl ?_
  intro p e s m args below meth c s₁ B hml hv
  obtain ⟨rfl, hP, hK, hD0⟩ := hv
  have C0 : cA p s m meth c ([.ref q, .int p1, .int p2] : List Value).toArray cX4_lay 3 none wsX4_lay RX4 := ⟨B.exec, B.bytes, B.returns, hml, findClass_of_methodNamed B.named, atoms_spec (ws := wsX4_lay) B.pre, B.notSynchronized⟩
  obtain ⟨hx, hb, hr, hml, hown, hts, hlocks⟩ := id C0
  have hF : CallFix p m c cX4_lay 3 s _ wsX4_lay RX4 := ⟨hx, hb, hml, hown, hts⟩
  obtain ⟨w0, hw0⟩ : ∃ w0 : va_W, w0 = (aW G.2.1 q n f) := ⟨_, rfl⟩
  have hD : va_D (inW w0) (aW G.2.1 q n f) := by rw [hw0]; exact inW.D hD0
  have hS : va_S (inW w0) s.heap s.heap [] := va_S.rf
  rw [show QW G (aW G.2.1 q n f) = QW G w0 from by rw [hw0], show inW (aW G.2.1 q n f) = inW w0 from by rw [hw0]]
  have hl := lv_entry ([.ref q, .int p1, .int p2]) (n := 3) (Nat.le_of_ble_eq_true rfl)
  rw [lg_entry_eq]
  generalize (lg_sl ([.ref q, .int p1, .int p2]) ++ List.replicate (3 - (lg_sl ([.ref q, .int p1, .int p2])).length) Slot.unset).toArray = ls at hl ⊢
  have hl : lv_has ls 3 [(0, .ref q), (1, .int p1), (2, .int p2)] := hl
  refine lv_iload_n hx hb dX4_lay_0 rfl (lv_at hl 1 rfl) ?_
  refine lv_if_lt (tgt := 14) hx hb dX4_lay_1 (by decide) (fun (c_1 : p1 < 0) => ?_) (fun (c_1 : ¬ p1 < 0) => ?_)
  · skip
    rw [show s_X4_lay n f p1 p2 = f from by rw [s_X4_lay]; rw [if_pos c_1]]
    exact W.vret hx hb hr (fun t ht hW => ⟨rfl, by rw [ht]; exact hP, hS.F ht⟩) hS.2.2 dX4_lay_14
  · skip
    refine lv_iload_n hx hb dX4_lay_4 rfl (lv_at hl 1 rfl) ?_
    refine lv_aload_n hx hb dX4_lay_5 rfl (lv_at hl 0 rfl) ?_
    refine va_alen (v := (nI n)) hx hb hK.1 hP 0 0 rfl rfl rfl dX4_lay_6 ?_
    refine lv_icmp_ge (tgt := 14) hx hb dX4_lay_7 (by decide) (fun (c_2 : (nI n) ≤ p1) => ?_) (fun (c_2 : ¬ (nI n) ≤ p1) => ?_)
    · skip
      rw [show s_X4_lay n f p1 p2 = f from by rw [s_X4_lay]; rw [if_neg c_1, if_pos c_2]]
      exact W.vret hx hb hr (fun t ht hW => ⟨rfl, by rw [ht]; exact hP, hS.F ht⟩) hS.2.2 dX4_lay_14
    · skip
      refine lv_aload_n hx hb dX4_lay_10 rfl (lv_at hl 0 rfl) ?_
      refine lv_iload_n hx hb dX4_lay_11 rfl (lv_at hl 1 rfl) ?_
      refine lv_iload_n hx hb dX4_lay_12 rfl (lv_at hl 2 rfl) ?_
      refine va_iast (cA := G.2.1) (n := n) (f := f) hx hb hK.1 hP hD hS 0 0 rfl rfl (at_in c_1 c_2 hn) dX4_lay_13 (fun H locs hP hD hS => ?_)
      have hP : va_P G.1 vwCl (aW G.2.1 q n (upd f p1.toNatClampNeg p2)) H := hP
      have hD : va_D (inW w0) (aW G.2.1 q n (upd f p1.toNatClampNeg p2)) := hD
      rw [show s_X4_lay n f p1 p2 = (upd f p1.toNatClampNeg p2) from by rw [s_X4_lay]; rw [if_neg c_1, if_neg c_2]]
      exact W.vret hx hb hr (fun t ht hW => ⟨rfl, by rw [ht]; exact hP, hS.F ht⟩) hS.2.2 dX4_lay_14
def s_X4_trackOf (p0 : Int32) : Int32 := (p0 / 12)
set_option maxHeartbeats 4000000 in
set_option maxRecDepth 100000 in
theorem c_X4_trackOf (l : Launch) (G : GG) (p0 : Int32) : Rd G l yX4_trackOf wsX4_trackOf 0 0 [.int p0] [] (.int (s_X4_trackOf p0)) := by
  refine Met.ofW (cc := cX4_trackOf) (maxL := 1) (ret := (some .int)) (by decide) rfl ?_
  intro p e s m args below meth c s₁ B hml hv
  obtain ⟨rfl, hP, hK⟩ := hv
  have C0 : cA p s m meth c ([.int p0] : List Value).toArray cX4_trackOf 1 (some .int) wsX4_trackOf RX4 := ⟨B.exec, B.bytes, B.returns, hml, findClass_of_methodNamed B.named, atoms_spec (ws := wsX4_trackOf) B.pre, B.notSynchronized⟩
  obtain ⟨hx, hb, hr, hml, hown, hts, hlocks⟩ := id C0
  have hF : CallFix p m c cX4_trackOf 1 s _ wsX4_trackOf RX4 := ⟨hx, hb, hml, hown, hts⟩
  have hl := lv_entry ([.int p0]) (n := 1) (Nat.le_of_ble_eq_true rfl)
  rw [lg_entry_eq]
  generalize (lg_sl ([.int p0]) ++ List.replicate (1 - (lg_sl ([.int p0])).length) Slot.unset).toArray = ls at hl ⊢
  have hl : lv_has ls 1 [(0, .int p0)] := hl
  refine lv_iload_n hx hb dX4_trackOf_0 rfl (lv_at hl 0 rfl) ?_
  refine lv_bipush (v := 12) hx hb dX4_trackOf_1 (by decide) ?_
  refine lv_idiv hx hb dX4_trackOf_3 (by decide) ?_
  rw [show s_X4_trackOf p0 = (p0 / 12) from by rw [s_X4_trackOf]]
  exact W.iret hx hb hr (fun t ht hW => ⟨rfl, ht⟩) (fun _ h => nomatch h) dX4_trackOf_4
def s_X4_isAddress (p0 : Int32) : Int32 := (if p0 < 0 then 0 else (if 192 ≤ p0 then 0 else 1))
theorem b_X4_isAddress (p0 : Int32) : (s_X4_isAddress p0) = 0 ∨ (s_X4_isAddress p0) = 1 := by
  unfold s_X4_isAddress
  by_cases c_1 : p0 < 0
  · skip
    rw [if_pos c_1]
    exact Or.inl rfl
  · skip
    by_cases c_2 : 192 ≤ p0
    · skip
      rw [if_neg c_1, if_pos c_2]
      exact Or.inl rfl
    · skip
      rw [if_neg c_1, if_neg c_2]
      exact Or.inr rfl
set_option maxHeartbeats 4000000 in
set_option maxRecDepth 100000 in
theorem c_X4_isAddress (l : Launch) (G : GG) (p0 : Int32) : Rd G l yX4_isAddress wsX4_isAddress 0 0 [.int p0] [] (.int (s_X4_isAddress p0)) := by
  refine Met.ofW (cc := cX4_isAddress) (maxL := 1) (ret := (some .boolean)) (by decide) rfl ?_
  intro p e s m args below meth c s₁ B hml hv
  obtain ⟨rfl, hP, hK⟩ := hv
  have C0 : cA p s m meth c ([.int p0] : List Value).toArray cX4_isAddress 1 (some .boolean) wsX4_isAddress RX4 := ⟨B.exec, B.bytes, B.returns, hml, findClass_of_methodNamed B.named, atoms_spec (ws := wsX4_isAddress) B.pre, B.notSynchronized⟩
  obtain ⟨hx, hb, hr, hml, hown, hts, hlocks⟩ := id C0
  have hF : CallFix p m c cX4_isAddress 1 s _ wsX4_isAddress RX4 := ⟨hx, hb, hml, hown, hts⟩
  have hl := lv_entry ([.int p0]) (n := 1) (Nat.le_of_ble_eq_true rfl)
  rw [lg_entry_eq]
  generalize (lg_sl ([.int p0]) ++ List.replicate (1 - (lg_sl ([.int p0])).length) Slot.unset).toArray = ls at hl ⊢
  have hl : lv_has ls 1 [(0, .int p0)] := hl
  refine lv_iload_n hx hb dX4_isAddress_0 rfl (lv_at hl 0 rfl) ?_
  refine lv_if_lt (tgt := 15) hx hb dX4_isAddress_1 (by decide) (fun (c_1 : p0 < 0) => ?_) (fun (c_1 : ¬ p0 < 0) => ?_)
  · skip
    refine lv_iconst (v := 0) hx hb dX4_isAddress_15 (by decide) ?_
    rw [show s_X4_isAddress p0 = 0 from by rw [s_X4_isAddress]; rw [if_pos c_1]]
    exact W.zret (ty := .boolean) hx hb hr rfl (fun t ht hW => ⟨rfl, ht⟩) (fun _ h => nomatch h) dX4_isAddress_16
  · skip
    refine lv_iload_n hx hb dX4_isAddress_4 rfl (lv_at hl 0 rfl) ?_
    refine lv_sipush (v := 192) hx hb dX4_isAddress_5 (by decide) ?_
    refine lv_icmp_ge (tgt := 15) hx hb dX4_isAddress_8 (by decide) (fun (c_2 : 192 ≤ p0) => ?_) (fun (c_2 : ¬ 192 ≤ p0) => ?_)
    · skip
      refine lv_iconst (v := 0) hx hb dX4_isAddress_15 (by decide) ?_
      rw [show s_X4_isAddress p0 = 0 from by rw [s_X4_isAddress]; rw [if_neg c_1, if_pos c_2]]
      exact W.zret (ty := .boolean) hx hb hr rfl (fun t ht hW => ⟨rfl, ht⟩) (fun _ h => nomatch h) dX4_isAddress_16
    · skip
      refine lv_iconst (v := 1) hx hb dX4_isAddress_11 (by decide) ?_
      refine lv_goto (tgt := 16) hx hb dX4_isAddress_12 (by decide) ?_
      rw [show s_X4_isAddress p0 = 1 from by rw [s_X4_isAddress]; rw [if_neg c_1, if_neg c_2]]
      exact W.zret (ty := .boolean) hx hb hr rfl (fun t ht hW => ⟨rfl, ht⟩) (fun _ h => nomatch h) dX4_isAddress_16
def s_X4_isSpare (p0 : Int32) : Int32 := (if p0 < 192 then 0 else 1)
theorem b_X4_isSpare (p0 : Int32) : (s_X4_isSpare p0) = 0 ∨ (s_X4_isSpare p0) = 1 := by
  unfold s_X4_isSpare
  by_cases c_1 : p0 < 192
  · skip
    rw [if_pos c_1]
    exact Or.inl rfl
  · skip
    rw [if_neg c_1]
    exact Or.inr rfl
set_option maxHeartbeats 4000000 in
set_option maxRecDepth 100000 in
theorem c_X4_isSpare (l : Launch) (G : GG) (p0 : Int32) : Rd G l yX4_isSpare wsX4_isSpare 0 0 [.int p0] [] (.int (s_X4_isSpare p0)) := by
  refine Met.ofW (cc := cX4_isSpare) (maxL := 1) (ret := (some .boolean)) (by decide) rfl ?_
  intro p e s m args below meth c s₁ B hml hv
  obtain ⟨rfl, hP, hK⟩ := hv
  have C0 : cA p s m meth c ([.int p0] : List Value).toArray cX4_isSpare 1 (some .boolean) wsX4_isSpare RX4 := ⟨B.exec, B.bytes, B.returns, hml, findClass_of_methodNamed B.named, atoms_spec (ws := wsX4_isSpare) B.pre, B.notSynchronized⟩
  obtain ⟨hx, hb, hr, hml, hown, hts, hlocks⟩ := id C0
  have hF : CallFix p m c cX4_isSpare 1 s _ wsX4_isSpare RX4 := ⟨hx, hb, hml, hown, hts⟩
  have hl := lv_entry ([.int p0]) (n := 1) (Nat.le_of_ble_eq_true rfl)
  rw [lg_entry_eq]
  generalize (lg_sl ([.int p0]) ++ List.replicate (1 - (lg_sl ([.int p0])).length) Slot.unset).toArray = ls at hl ⊢
  have hl : lv_has ls 1 [(0, .int p0)] := hl
  refine lv_iload_n hx hb dX4_isSpare_0 rfl (lv_at hl 0 rfl) ?_
  refine lv_sipush (v := 192) hx hb dX4_isSpare_1 (by decide) ?_
  refine lv_icmp_lt (tgt := 11) hx hb dX4_isSpare_4 (by decide) (fun (c_1 : p0 < 192) => ?_) (fun (c_1 : ¬ p0 < 192) => ?_)
  · skip
    refine lv_iconst (v := 0) hx hb dX4_isSpare_11 (by decide) ?_
    rw [show s_X4_isSpare p0 = 0 from by rw [s_X4_isSpare]; rw [if_pos c_1]]
    exact W.zret (ty := .boolean) hx hb hr rfl (fun t ht hW => ⟨rfl, ht⟩) (fun _ h => nomatch h) dX4_isSpare_12
  · skip
    refine lv_iconst (v := 1) hx hb dX4_isSpare_7 (by decide) ?_
    refine lv_goto (tgt := 12) hx hb dX4_isSpare_8 (by decide) ?_
    rw [show s_X4_isSpare p0 = 1 from by rw [s_X4_isSpare]; rw [if_neg c_1]]
    exact W.zret (ty := .boolean) hx hb hr rfl (fun t ht hW => ⟨rfl, ht⟩) (fun _ h => nomatch h) dX4_isSpare_12
def s_X4_isTrack (p0 : Int32) : Int32 := (if p0 < 0 then 0 else (if 16 < p0 then 0 else 1))
theorem b_X4_isTrack (p0 : Int32) : (s_X4_isTrack p0) = 0 ∨ (s_X4_isTrack p0) = 1 := by
  unfold s_X4_isTrack
  by_cases c_1 : p0 < 0
  · skip
    rw [if_pos c_1]
    exact Or.inl rfl
  · skip
    by_cases c_2 : 16 < p0
    · skip
      rw [if_neg c_1, if_pos c_2]
      exact Or.inl rfl
    · skip
      rw [if_neg c_1, if_neg c_2]
      exact Or.inr rfl
set_option maxHeartbeats 4000000 in
set_option maxRecDepth 100000 in
theorem c_X4_isTrack (l : Launch) (G : GG) (p0 : Int32) : Rd G l yX4_isTrack wsX4_isTrack 0 0 [.int p0] [] (.int (s_X4_isTrack p0)) := by
  refine Met.ofW (cc := cX4_isTrack) (maxL := 1) (ret := (some .boolean)) (by decide) rfl ?_
  intro p e s m args below meth c s₁ B hml hv
  obtain ⟨rfl, hP, hK⟩ := hv
  have C0 : cA p s m meth c ([.int p0] : List Value).toArray cX4_isTrack 1 (some .boolean) wsX4_isTrack RX4 := ⟨B.exec, B.bytes, B.returns, hml, findClass_of_methodNamed B.named, atoms_spec (ws := wsX4_isTrack) B.pre, B.notSynchronized⟩
  obtain ⟨hx, hb, hr, hml, hown, hts, hlocks⟩ := id C0
  have hF : CallFix p m c cX4_isTrack 1 s _ wsX4_isTrack RX4 := ⟨hx, hb, hml, hown, hts⟩
  have hl := lv_entry ([.int p0]) (n := 1) (Nat.le_of_ble_eq_true rfl)
  rw [lg_entry_eq]
  generalize (lg_sl ([.int p0]) ++ List.replicate (1 - (lg_sl ([.int p0])).length) Slot.unset).toArray = ls at hl ⊢
  have hl : lv_has ls 1 [(0, .int p0)] := hl
  refine lv_iload_n hx hb dX4_isTrack_0 rfl (lv_at hl 0 rfl) ?_
  refine lv_if_lt (tgt := 14) hx hb dX4_isTrack_1 (by decide) (fun (c_1 : p0 < 0) => ?_) (fun (c_1 : ¬ p0 < 0) => ?_)
  · skip
    refine lv_iconst (v := 0) hx hb dX4_isTrack_14 (by decide) ?_
    rw [show s_X4_isTrack p0 = 0 from by rw [s_X4_isTrack]; rw [if_pos c_1]]
    exact W.zret (ty := .boolean) hx hb hr rfl (fun t ht hW => ⟨rfl, ht⟩) (fun _ h => nomatch h) dX4_isTrack_15
  · skip
    refine lv_iload_n hx hb dX4_isTrack_4 rfl (lv_at hl 0 rfl) ?_
    refine lv_bipush (v := 16) hx hb dX4_isTrack_5 (by decide) ?_
    refine lv_icmp_gt (tgt := 14) hx hb dX4_isTrack_7 (by decide) (fun (c_2 : 16 < p0) => ?_) (fun (c_2 : ¬ 16 < p0) => ?_)
    · skip
      refine lv_iconst (v := 0) hx hb dX4_isTrack_14 (by decide) ?_
      rw [show s_X4_isTrack p0 = 0 from by rw [s_X4_isTrack]; rw [if_neg c_1, if_pos c_2]]
      exact W.zret (ty := .boolean) hx hb hr rfl (fun t ht hW => ⟨rfl, ht⟩) (fun _ h => nomatch h) dX4_isTrack_15
    · skip
      refine lv_iconst (v := 1) hx hb dX4_isTrack_10 (by decide) ?_
      refine lv_goto (tgt := 15) hx hb dX4_isTrack_11 (by decide) ?_
      rw [show s_X4_isTrack p0 = 1 from by rw [s_X4_isTrack]; rw [if_neg c_1, if_neg c_2]]
      exact W.zret (ty := .boolean) hx hb hr rfl (fun t ht hW => ⟨rfl, ht⟩) (fun _ h => nomatch h) dX4_isTrack_15
def L1_X4_signsIn (p0 : Int64) : Nat → Int64 → Int32 → Int32
  | 0, v1_2, v1_4 => 0
  | n + 1, v1_2, v1_4 => (if (lg_cmp v1_2 0) = 0 then v1_4 else (if 8 ≤ v1_4 then v1_4 else (if (lg_cmp (v1_2 &&& 255) 33) < 0 then (-2) else (if (lg_cmp (v1_2 &&& 255) 126) ≤ 0 then (L1_X4_signsIn p0 n (jus v1_2 8) (v1_4 + 1)) else (-2)))))
def okL1_X4_signsIn (p0 : Int64) : Nat → Int64 → Int32 → Prop
  | 0, _, _ => False
  | n + 1, v1_2, v1_4 => ((lg_cmp v1_2 0) = 0 → True) ∧ (¬ (lg_cmp v1_2 0) = 0 → ((8 ≤ v1_4 → True) ∧ (¬ 8 ≤ v1_4 → (((lg_cmp (v1_2 &&& 255) 33) < 0 → True) ∧ (¬ (lg_cmp (v1_2 &&& 255) 33) < 0 → (((lg_cmp (v1_2 &&& 255) 126) ≤ 0 → (okL1_X4_signsIn p0 n (jus v1_2 8) (v1_4 + 1))) ∧ (¬ (lg_cmp (v1_2 &&& 255) 126) ≤ 0 → True)))))))
def s_X4_signsIn (p0 : Int64) : Int32 := (L1_X4_signsIn p0 FU p0 0)
def ok_X4_signsIn (p0 : Int64) : Prop := okL1_X4_signsIn p0 FU p0 0
set_option maxHeartbeats 4000000 in
set_option maxRecDepth 100000 in
theorem wL1_X4_signsIn {p : Program} {e : Env} {s : State} {m : MethodId} {args : Array Value} {below : List Frame} {meth : Method} {c : Code} (l : Launch) (G : GG) (p0 : Int64) (hP : va_P G.1 vwCl [] s.heap) (C0 : cA p s m meth c args cX4_signsIn 7 (some .int) wsX4_signsIn RX4) (hK : cK G s) : ∀ (n : Nat) (v1_2 : Int64) (v1_4 : Int32)  (hok : okL1_X4_signsIn p0 n v1_2 v1_4) (ls : Array Slot), lv_has ls 7 [(0, .long p0), (2, .long v1_2), (4, .int v1_4)] → W p l e (rmm 0 0) s m args below meth c s.heap [] 0 0 (MQ below (QR (some (.int (L1_X4_signsIn p0 n v1_2 v1_4)))) args s 0 0 (fun _ => False)) (F0 m 5 ls []) := by
  obtain ⟨hx, hb, hr, hml, hown, hts, hlocks⟩ := id C0
  have hF : CallFix p m c cX4_signsIn 7 s args wsX4_signsIn RX4 := ⟨hx, hb, hml, hown, hts⟩
  intro n
  induction n with
  | zero =>
    intro v1_2 v1_4 hok
    exact hok.elim
  | succ n ih =>
    intro v1_2 v1_4 hok ls hl
    have hok : ((lg_cmp v1_2 0) = 0 → True) ∧ (¬ (lg_cmp v1_2 0) = 0 → ((8 ≤ v1_4 → True) ∧ (¬ 8 ≤ v1_4 → (((lg_cmp (v1_2 &&& 255) 33) < 0 → True) ∧ (¬ (lg_cmp (v1_2 &&& 255) 33) < 0 → (((lg_cmp (v1_2 &&& 255) 126) ≤ 0 → (okL1_X4_signsIn p0 n (jus v1_2 8) (v1_4 + 1))) ∧ (¬ (lg_cmp (v1_2 &&& 255) 126) ≤ 0 → True))))))) := hok
    refine lv_lload_n hx hb dX4_signsIn_5 rfl (lv_at hl 1 rfl) ?_
    refine lv_lconst (v := 0) hx hb dX4_signsIn_6 (by decide) ?_
    refine W.lcmp hx hb dX4_signsIn_7 ?_
    refine lv_if_eq (tgt := 57) hx hb dX4_signsIn_8 (by decide) (fun (c_1 : (lg_cmp v1_2 0) = 0) => ?_) (fun (c_1 : ¬ (lg_cmp v1_2 0) = 0) => ?_)
    · skip
      refine lv_iload hx hb dX4_signsIn_57 (lv_at hl 2 rfl) ?_
      rw [show (L1_X4_signsIn p0 (n + 1) v1_2 v1_4) = v1_4 from by rw [L1_X4_signsIn]; rw [if_pos c_1]]
      exact W.iret hx hb hr (fun t ht hW => ⟨rfl, ht⟩) (fun _ h => nomatch h) dX4_signsIn_59
    · skip
      have hok := hok.2 c_1
      refine lv_iload hx hb dX4_signsIn_11 (lv_at hl 2 rfl) ?_
      refine lv_bipush (v := 8) hx hb dX4_signsIn_13 (by decide) ?_
      refine lv_icmp_ge (tgt := 57) hx hb dX4_signsIn_15 (by decide) (fun (c_2 : 8 ≤ v1_4) => ?_) (fun (c_2 : ¬ 8 ≤ v1_4) => ?_)
      · skip
        refine lv_iload hx hb dX4_signsIn_57 (lv_at hl 2 rfl) ?_
        rw [show (L1_X4_signsIn p0 (n + 1) v1_2 v1_4) = v1_4 from by rw [L1_X4_signsIn]; rw [if_neg c_1, if_pos c_2]]
        exact W.iret hx hb hr (fun t ht hW => ⟨rfl, ht⟩) (fun _ h => nomatch h) dX4_signsIn_59
      · skip
        have hok := hok.2 c_2
        refine lv_lload_n hx hb dX4_signsIn_18 rfl (lv_at hl 1 rfl) ?_
        refine lv_ldc2 (v := 255) hx hb hown (hts (.constantLong RX4 194 (255)) (by decide +kernel)) dX4_signsIn_19 ?_
        refine lv_land hx hb dX4_signsIn_22 ?_
        refine lv_lstore (lv' := [(5, .long (v1_2 &&& 255)), (0, .long p0), (2, .long v1_2), (4, .int v1_4)]) hx hb dX4_signsIn_23 hl (by decide) rfl (fun ls hl => ?_)
        refine lv_lload hx hb dX4_signsIn_25 (lv_at hl 0 rfl) ?_
        refine lv_ldc2 (v := 33) hx hb hown (hts (.constantLong RX4 196 (33)) (by decide +kernel)) dX4_signsIn_27 ?_
        refine W.lcmp hx hb dX4_signsIn_30 ?_
        refine lv_if_lt (tgt := 43) hx hb dX4_signsIn_31 (by decide) (fun (c_3 : (lg_cmp (v1_2 &&& 255) 33) < 0) => ?_) (fun (c_3 : ¬ (lg_cmp (v1_2 &&& 255) 33) < 0) => ?_)
        · skip
          refine lv_bipush (v := (-2)) hx hb dX4_signsIn_43 (by decide) ?_
          rw [show (L1_X4_signsIn p0 (n + 1) v1_2 v1_4) = (-2) from by rw [L1_X4_signsIn]; rw [if_neg c_1, if_neg c_2, if_pos c_3]]
          exact W.iret hx hb hr (fun t ht hW => ⟨rfl, ht⟩) (fun _ h => nomatch h) dX4_signsIn_45
        · skip
          have hok := hok.2 c_3
          refine lv_lload hx hb dX4_signsIn_34 (lv_at hl 0 rfl) ?_
          refine lv_ldc2 (v := 126) hx hb hown (hts (.constantLong RX4 198 (126)) (by decide +kernel)) dX4_signsIn_36 ?_
          refine W.lcmp hx hb dX4_signsIn_39 ?_
          refine lv_if_le (tgt := 46) hx hb dX4_signsIn_40 (by decide) (fun (c_4 : (lg_cmp (v1_2 &&& 255) 126) ≤ 0) => ?_) (fun (c_4 : ¬ (lg_cmp (v1_2 &&& 255) 126) ≤ 0) => ?_)
          · skip
            have hok := hok.1 c_4
            refine lv_lload_n hx hb dX4_signsIn_46 rfl (lv_at hl 2 rfl) ?_
            refine lv_bipush (v := 8) hx hb dX4_signsIn_47 (by decide) ?_
            refine lv_lushr (v := (jus v1_2 8)) hx hb dX4_signsIn_49 rfl ?_
            refine lv_lstore_n (lv' := [(2, .long (jus v1_2 8)), (5, .long (v1_2 &&& 255)), (0, .long p0), (4, .int v1_4)]) hx hb dX4_signsIn_50 rfl hl (by decide) rfl (fun ls hl => ?_)
            refine lv_iinc (v := (v1_4 + 1)) (lv' := [(4, .int (v1_4 + 1)), (2, .long (jus v1_2 8)), (5, .long (v1_2 &&& 255)), (0, .long p0)]) hx hb dX4_signsIn_51 hl (k := 3) rfl rfl (by decide) rfl (fun ls hl => ?_)
            refine lv_goto (tgt := 5) hx hb dX4_signsIn_54 (by decide) ?_
            rw [show (L1_X4_signsIn p0 (n + 1) v1_2 v1_4) = (L1_X4_signsIn p0 n (jus v1_2 8) (v1_4 + 1)) from by rw [L1_X4_signsIn]; rw [if_neg c_1, if_neg c_2, if_neg c_3, if_pos c_4]]
            exact ih (jus v1_2 8) (v1_4 + 1) hok ls (lv_sub hl [3, 1, 0] rfl)
          · skip
            refine lv_bipush (v := (-2)) hx hb dX4_signsIn_43 (by decide) ?_
            rw [show (L1_X4_signsIn p0 (n + 1) v1_2 v1_4) = (-2) from by rw [L1_X4_signsIn]; rw [if_neg c_1, if_neg c_2, if_neg c_3, if_neg c_4]]
            exact W.iret hx hb hr (fun t ht hW => ⟨rfl, ht⟩) (fun _ h => nomatch h) dX4_signsIn_45
set_option maxHeartbeats 4000000 in
set_option maxRecDepth 100000 in
theorem c_X4_signsIn (l : Launch) (G : GG) (p0 : Int64) (hok : ok_X4_signsIn p0) : Rd G l yX4_signsIn wsX4_signsIn 0 0 [.long p0] [] (.int (s_X4_signsIn p0)) := by
  refine Met.ofW (cc := cX4_signsIn) (maxL := 7) (ret := (some .int)) (by decide) rfl ?_
  intro p e s m args below meth c s₁ B hml hv
  obtain ⟨rfl, hP, hK⟩ := hv
  have C0 : cA p s m meth c ([.long p0] : List Value).toArray cX4_signsIn 7 (some .int) wsX4_signsIn RX4 := ⟨B.exec, B.bytes, B.returns, hml, findClass_of_methodNamed B.named, atoms_spec (ws := wsX4_signsIn) B.pre, B.notSynchronized⟩
  obtain ⟨hx, hb, hr, hml, hown, hts, hlocks⟩ := id C0
  have hF : CallFix p m c cX4_signsIn 7 s _ wsX4_signsIn RX4 := ⟨hx, hb, hml, hown, hts⟩
  have hl := lv_entry ([.long p0]) (n := 7) (Nat.le_of_ble_eq_true rfl)
  rw [lg_entry_eq]
  generalize (lg_sl ([.long p0]) ++ List.replicate (7 - (lg_sl ([.long p0])).length) Slot.unset).toArray = ls at hl ⊢
  have hl : lv_has ls 7 [(0, .long p0)] := hl
  have hok : okL1_X4_signsIn p0 FU p0 0 := hok
  refine lv_lload_n hx hb dX4_signsIn_0 rfl (lv_at hl 0 rfl) ?_
  refine lv_lstore_n (lv' := [(2, .long p0), (0, .long p0)]) hx hb dX4_signsIn_1 rfl hl (by decide) rfl (fun ls hl => ?_)
  refine lv_iconst (v := 0) hx hb dX4_signsIn_2 (by decide) ?_
  refine lv_istore (lv' := [(4, .int 0), (2, .long p0), (0, .long p0)]) hx hb dX4_signsIn_3 hl (by decide) rfl (fun ls hl => ?_)
  rw [show s_X4_signsIn p0 = (L1_X4_signsIn p0 FU p0 0) from by rw [s_X4_signsIn]]
  exact wL1_X4_signsIn l G p0 hP C0 hK FU p0 0 hok ls (lv_sub hl [2, 1, 0] rfl)
def s_J9_floorMod (p0 : Int32) : Int32 := (if 0 ≤ (p0 ^^^ 12) then (jrem p0 12) else (if (jrem p0 12) = 0 then (jrem p0 12) else ((jrem p0 12) + 12)))
set_option maxHeartbeats 4000000 in
set_option maxRecDepth 100000 in
theorem c_J9_floorMod (l : Launch) (G : GG) (p0 : Int32) : Rd G l yJ9_floorMod_7cf53 wsJ9_floorMod_7cf53 0 0 [.int p0, .int 12] [] (.int (s_J9_floorMod p0)) := by
  refine va_MetF (cc := cJ9_floorMod_7cf53) (maxL := 3) (ret := (some .int)) (by decide +kernel) rfl ?_
  intro p e s m args below meth c s₁ B hml hv
  obtain ⟨rfl, hP, hK⟩ := hv
  have C0 : cA p s m meth c ([.int p0, .int 12] : List Value).toArray cJ9_floorMod_7cf53 3 (some .int) wsJ9_floorMod_7cf53 RJ9 := ⟨B.exec, B.bytes, B.returns, hml, findClass_of_methodNamed B.named, atoms_spec (ws := wsJ9_floorMod_7cf53) B.pre, B.notSynchronized⟩
  obtain ⟨hx, hb, hr, hml, hown, hts, hlocks⟩ := id C0
  have hF : CallFix p m c cJ9_floorMod_7cf53 3 s _ wsJ9_floorMod_7cf53 RJ9 := ⟨hx, hb, hml, hown, hts⟩
  have hl := lv_entry ([.int p0, .int 12]) (n := 3) (Nat.le_of_ble_eq_true rfl)
  rw [lg_entry_eq]
  generalize (lg_sl ([.int p0, .int 12]) ++ List.replicate (3 - (lg_sl ([.int p0, .int 12])).length) Slot.unset).toArray = ls at hl ⊢
  have hl : lv_has ls 3 [(0, .int p0), (1, .int 12)] := hl
  refine lv_iload_n hx hb dJ9_floorMod_7cf53_0 rfl (lv_at hl 0 rfl) ?_
  refine lv_iload_n hx hb dJ9_floorMod_7cf53_1 rfl (lv_at hl 1 rfl) ?_
  refine lv_irem hx hb dJ9_floorMod_7cf53_2 (by decide) ?_
  refine lv_istore_n (lv' := [(2, .int (jrem p0 12)), (0, .int p0), (1, .int 12)]) hx hb dJ9_floorMod_7cf53_3 rfl hl (by decide) rfl (fun ls hl => ?_)
  refine lv_iload_n hx hb dJ9_floorMod_7cf53_4 rfl (lv_at hl 1 rfl) ?_
  refine lv_iload_n hx hb dJ9_floorMod_7cf53_5 rfl (lv_at hl 2 rfl) ?_
  refine lv_ixor hx hb dJ9_floorMod_7cf53_6 ?_
  refine lv_if_ge (tgt := 18) hx hb dJ9_floorMod_7cf53_7 (by decide) (fun (c_1 : 0 ≤ (p0 ^^^ 12)) => ?_) (fun (c_1 : ¬ 0 ≤ (p0 ^^^ 12)) => ?_)
  · skip
    refine lv_iload_n hx hb dJ9_floorMod_7cf53_18 rfl (lv_at hl 0 rfl) ?_
    rw [show s_J9_floorMod p0 = (jrem p0 12) from by rw [s_J9_floorMod]; rw [if_pos c_1]]
    exact W.iret hx hb hr (fun t ht hW => ⟨rfl, ht⟩) (fun _ h => nomatch h) dJ9_floorMod_7cf53_19
  · skip
    refine lv_iload_n hx hb dJ9_floorMod_7cf53_10 rfl (lv_at hl 0 rfl) ?_
    refine lv_if_eq (tgt := 18) hx hb dJ9_floorMod_7cf53_11 (by decide) (fun (c_2 : (jrem p0 12) = 0) => ?_) (fun (c_2 : ¬ (jrem p0 12) = 0) => ?_)
    · skip
      refine lv_iload_n hx hb dJ9_floorMod_7cf53_18 rfl (lv_at hl 0 rfl) ?_
      rw [show s_J9_floorMod p0 = (jrem p0 12) from by rw [s_J9_floorMod]; rw [if_neg c_1, if_pos c_2]]
      exact W.iret hx hb hr (fun t ht hW => ⟨rfl, ht⟩) (fun _ h => nomatch h) dJ9_floorMod_7cf53_19
    · skip
      refine lv_iload_n hx hb dJ9_floorMod_7cf53_14 rfl (lv_at hl 0 rfl) ?_
      refine lv_iload_n hx hb dJ9_floorMod_7cf53_15 rfl (lv_at hl 2 rfl) ?_
      refine lv_iadd hx hb dJ9_floorMod_7cf53_16 ?_
      rw [show s_J9_floorMod p0 = ((jrem p0 12) + 12) from by rw [s_J9_floorMod]; rw [if_neg c_1, if_neg c_2]]
      exact W.iret hx hb hr (fun t ht hW => ⟨rfl, ht⟩) (fun _ h => nomatch h) dJ9_floorMod_7cf53_17
