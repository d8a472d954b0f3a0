/-! calls at the law's level -/
section LCL
variable {p : Program} {l : Launch} {e : Env} {R : Room} {s : State} {m : MethodId} {args : Array Value} {below : List Frame} {meth : Method} {c : Code} {H : Heap} {locs : List Loc} {cells slots : Nat} {Q : State → Prop}
variable {y : MethodName} {bytes cc : ByteArray} {maxL nL n index nf nl mc ms : Nat} {ret : Option FieldType} {ws : List Cond} {Ts : List Cond} {own C host : String} {b : Nat} {As rest st0 : List Value} {ls : Array Slot} {pc : Nat} {G : GG} {w w1 W0 WA WB : va_W} {v : Value} {vo : Option Value} {H0 : Heap} {A A' : Nat → Prop} {aa : Array Value} {T : (Nat → Prop) → State → Prop} {B : va_W → Prop} {tb : Nat × Nat × Nat}
theorem rdTV (hC : RdT G l y ws nf nl (.ref b :: As) w tb v) (S : CallFix p m c cc nL s args Ts own) (cw : CallW R s args own C index y bytes maxL ret ws (rmm nf nl) 0 0 n) (hv : ∃ cell : Cell, H[b]? = some cell ∧ cell.vm.isStatics = false ∧ s.vm.findClass C = some cell.cls) (hK : cK G s) (hw : va_P G.1 vwCl w H) (hT : sT tb A s) (hS : va_S A s.heap H locs)
    (hn : As.length = n) (hsz : ls.size = nL) (hst : st0 = As.reverse ++ .ref b :: rest) (hW : (rest.map fun v => v.category).sum ≤ 8) (hdg : decode cc pc = .ok (.invokevirtual index, 3)) (hf : cells ≤ R.cells ∧ slots ≤ R.slots)
    (kk : W p l e R s m args below meth c H locs cells slots Q (F0 m (pc + 3) ls (v :: rest))) : W p l e R s m args below meth c H locs cells slots Q (F0 m pc ls st0) :=
  rd_go (va_runV S hC cw ⟨PRT.blind sT.blind, hv, fun U hU hW => ⟨rfl, by rw [hU]; exact hw, hK.warm hW, hT.to hS (fun _ h => h.elim) hU hW⟩⟩ rfl hn hsz hst (lv_room hW) hdg hf) kk
theorem rdTS (hC : RdT G l y ws nf nl As w tb v) (S : CallFix p m c cc nL s args Ts own) (cw : CallB R s args own index y bytes maxL ret ws (rmm nf nl) 0 0 n ∧ (Cond.static y).before args s = true) (hK : cK G s) (hw : va_P G.1 vwCl w H) (hT : sT tb A s) (hS : va_S A s.heap H locs)
    (hn : As.length = n) (hsz : ls.size = nL) (hst : st0 = As.reverse ++ rest) (hW : (rest.map fun v => v.category).sum ≤ 8) (hdg : decode cc pc = .ok (.invokestatic index, 3)) (hf : cells ≤ R.cells ∧ slots ≤ R.slots)
    (kk : W p l e R s m args below meth c H locs cells slots Q (F0 m (pc + 3) ls (v :: rest))) : W p l e R s m args below meth c H locs cells slots Q (F0 m pc ls st0) :=
  rd_go (va_runS S hC cw ⟨PRT.blind sT.blind, fun U hU hW => ⟨rfl, by rw [hU]; exact hw, hK.warm hW, hT.to hS (fun _ h => h.elim) hU hW⟩⟩ rfl hn hsz hst (lv_room hW) hdg hf) kk
theorem nwSP (hC : Nw G l y ws nf nl mc ms As w T vo B) (hTb : FB2 T) (S : CallFix p m c cc nL s args Ts own) (cw : CallB R s args own index y bytes maxL ret ws (rmN nf nl mc ms) mc ms n ∧ (Cond.static y).before args s = true) (hK : cK G s) (hP : va_P G.1 vwCl W0 H) (hD : va_D A W0) (hS : va_S A H0 H locs) (hA : ∀ q, H0.size ≤ q → A q) (pm : W0.Perm (WA ++ w)) (hT : ∀ U : State, U.heap = H → s.WarmedH U.vm → (∀ q, va_A w H.size q → A q) → T (va_A w H.size) U)
    (hn : As.length = n) (hsz : ls.size = nL) (hst : st0 = As.reverse ++ rest) (hW : (rest.map fun v => v.category).sum ≤ 8) (hdg : decode cc pc = .ok (.invokestatic index, 3)) (hf : cells + mc ≤ R.cells ∧ slots + ms ≤ R.slots)
    (kk : ∀ (w1 : va_W) (H1 : Heap) (locs1 : List Loc), B w1 → va_P G.1 vwCl (WA ++ w1) H1 → va_D A (WA ++ w1) → va_S A H0 H1 locs1 → W p l e R s m args below meth c H1 locs1 (cells + mc) (slots + ms) Q (F0 m (pc + 3) ls (vo.toList ++ rest))) : W p l e R s m args below meth c H locs cells slots Q (F0 m pc ls st0) := by
  have hP := hP.perm pm
  have hD := hD.perm pm
  have hF := va_A_sub hD hS hA (w := w) in_R
  exact nw_go (va_runS S (hC H.size) cw ⟨PN.blind hTb, fun U hU hW => ⟨rfl, by rw [hU], by rw [hU]; exact va_PR hP, hK.warm hW, (va_DR hD).weaken (fun _ _ _ _ => trivial), hT U hU hW hF⟩⟩ rfl hn hsz hst (lv_room hW) hdg hf) hF hS
    (fun w1 H1 locs1 hB hp hd hk hS1 => by
      obtain ⟨h1, h2⟩ := repNR hP hD hk hF hp hd
      exact kk w1 H1 locs1 hB h1 h2 hS1)
/-! the same with the world whole, on the left, on the right; the static tables asked for -/
theorem nwV0 (hC : Nw G l y ws nf nl mc ms (.ref b :: As) w (sT tb) vo B) (S : CallFix p m c cc nL s args Ts own) (cw : CallW R s args own C index y bytes maxL ret ws (rmN nf nl mc ms) mc ms n) (hv : ∃ cell : Cell, H[b]? = some cell ∧ cell.vm.isStatics = false ∧ s.vm.findClass C = some cell.cls) (hK : cK G s) (hP : va_P G.1 vwCl w H) (hD : va_D A w) (hS : va_S A s.heap H locs) (hA : ∀ q, s.heap.size ≤ q → A q) (hT : sT tb A s)
    (hn : As.length = n) (hsz : ls.size = nL) (hst : st0 = As.reverse ++ .ref b :: rest) (hW : (rest.map fun v => v.category).sum ≤ 8) (hdg : decode cc pc = .ok (.invokevirtual index, 3)) (hf : cells + mc ≤ R.cells ∧ slots + ms ≤ R.slots)
    (kk : ∀ (w1 : va_W) (H1 : Heap) (locs1 : List Loc), B w1 → va_P G.1 vwCl w1 H1 → va_D A w1 → va_S A s.heap H1 locs1 → W p l e R s m args below meth c H1 locs1 (cells + mc) (slots + ms) Q (F0 m (pc + 3) ls (vo.toList ++ rest))) : W p l e R s m args below meth c H locs cells slots Q (F0 m pc ls st0) :=
  nwVP (WA := []) hC sT.blind S cw hv hK hP hD hS hA (List.Perm.refl w) (fun U hU hW hF => hT.to hS hF hU hW) hn hsz hst hW hdg hf kk
theorem nwVL (hC : Nw G l y ws nf nl mc ms (.ref b :: As) w (sT tb) vo B) (S : CallFix p m c cc nL s args Ts own) (cw : CallW R s args own C index y bytes maxL ret ws (rmN nf nl mc ms) mc ms n) (hv : ∃ cell : Cell, H[b]? = some cell ∧ cell.vm.isStatics = false ∧ s.vm.findClass C = some cell.cls) (hK : cK G s) (hP : va_P G.1 vwCl (w ++ WB) H) (hD : va_D A (w ++ WB)) (hS : va_S A s.heap H locs) (hA : ∀ q, s.heap.size ≤ q → A q) (hT : sT tb A s)
    (hn : As.length = n) (hsz : ls.size = nL) (hst : st0 = As.reverse ++ .ref b :: rest) (hW : (rest.map fun v => v.category).sum ≤ 8) (hdg : decode cc pc = .ok (.invokevirtual index, 3)) (hf : cells + mc ≤ R.cells ∧ slots + ms ≤ R.slots)
    (kk : ∀ (w1 : va_W) (H1 : Heap) (locs1 : List Loc), B w1 → va_P G.1 vwCl (w1 ++ WB) H1 → va_D A (w1 ++ WB) → va_S A s.heap H1 locs1 → W p l e R s m args below meth c H1 locs1 (cells + mc) (slots + ms) Q (F0 m (pc + 3) ls (vo.toList ++ rest))) : W p l e R s m args below meth c H locs cells slots Q (F0 m pc ls st0) :=
  nwVP (WA := WB) hC sT.blind S cw hv hK hP hD hS hA List.perm_append_comm (fun U hU hW hF => hT.to hS hF hU hW) hn hsz hst hW hdg hf (fun w1 H1 locs1 hB hP hD hS => kk w1 H1 locs1 hB (hP.perm List.perm_append_comm) (hD.perm List.perm_append_comm) hS)
theorem nwVR (hC : Nw G l y ws nf nl mc ms (.ref b :: As) w (sT tb) vo B) (S : CallFix p m c cc nL s args Ts own) (cw : CallW R s args own C index y bytes maxL ret ws (rmN nf nl mc ms) mc ms n) (hv : ∃ cell : Cell, H[b]? = some cell ∧ cell.vm.isStatics = false ∧ s.vm.findClass C = some cell.cls) (hK : cK G s) (hP : va_P G.1 vwCl (WA ++ w) H) (hD : va_D A (WA ++ w)) (hS : va_S A s.heap H locs) (hA : ∀ q, s.heap.size ≤ q → A q) (hT : sT tb A s)
    (hn : As.length = n) (hsz : ls.size = nL) (hst : st0 = As.reverse ++ .ref b :: rest) (hW : (rest.map fun v => v.category).sum ≤ 8) (hdg : decode cc pc = .ok (.invokevirtual index, 3)) (hf : cells + mc ≤ R.cells ∧ slots + ms ≤ R.slots)
    (kk : ∀ (w1 : va_W) (H1 : Heap) (locs1 : List Loc), B w1 → va_P G.1 vwCl (WA ++ w1) H1 → va_D A (WA ++ w1) → va_S A s.heap H1 locs1 → W p l e R s m args below meth c H1 locs1 (cells + mc) (slots + ms) Q (F0 m (pc + 3) ls (vo.toList ++ rest))) : W p l e R s m args below meth c H locs cells slots Q (F0 m pc ls st0) :=
  nwVP (WA := WA) hC sT.blind S cw hv hK hP hD hS hA (List.Perm.refl _) (fun U hU hW hF => hT.to hS hF hU hW) hn hsz hst hW hdg hf kk
theorem nwS0 (hC : Nw G l y ws nf nl mc ms As w (sT tb) vo B) (S : CallFix p m c cc nL s args Ts own) (cw : CallB R s args own index y bytes maxL ret ws (rmN nf nl mc ms) mc ms n ∧ (Cond.static y).before args s = true) (hK : cK G s) (hP : va_P G.1 vwCl w H) (hD : va_D A w) (hS : va_S A s.heap H locs) (hA : ∀ q, s.heap.size ≤ q → A q) (hT : sT tb A s)
    (hn : As.length = n) (hsz : ls.size = nL) (hst : st0 = As.reverse ++ rest) (hW : (rest.map fun v => v.category).sum ≤ 8) (hdg : decode cc pc = .ok (.invokestatic index, 3)) (hf : cells + mc ≤ R.cells ∧ slots + ms ≤ R.slots)
    (kk : ∀ (w1 : va_W) (H1 : Heap) (locs1 : List Loc), B w1 → va_P G.1 vwCl w1 H1 → va_D A w1 → va_S A s.heap H1 locs1 → W p l e R s m args below meth c H1 locs1 (cells + mc) (slots + ms) Q (F0 m (pc + 3) ls (vo.toList ++ rest))) : W p l e R s m args below meth c H locs cells slots Q (F0 m pc ls st0) :=
  nwSP (WA := []) hC sT.blind S cw hK hP hD hS hA (List.Perm.refl w) (fun U hU hW hF => hT.to hS hF hU hW) hn hsz hst hW hdg hf kk
theorem nwSL (hC : Nw G l y ws nf nl mc ms As w (sT tb) vo B) (S : CallFix p m c cc nL s args Ts own) (cw : CallB R s args own index y bytes maxL ret ws (rmN nf nl mc ms) mc ms n ∧ (Cond.static y).before args s = true) (hK : cK G s) (hP : va_P G.1 vwCl (w ++ WB) H) (hD : va_D A (w ++ WB)) (hS : va_S A s.heap H locs) (hA : ∀ q, s.heap.size ≤ q → A q) (hT : sT tb A s)
    (hn : As.length = n) (hsz : ls.size = nL) (hst : st0 = As.reverse ++ rest) (hW : (rest.map fun v => v.category).sum ≤ 8) (hdg : decode cc pc = .ok (.invokestatic index, 3)) (hf : cells + mc ≤ R.cells ∧ slots + ms ≤ R.slots)
    (kk : ∀ (w1 : va_W) (H1 : Heap) (locs1 : List Loc), B w1 → va_P G.1 vwCl (w1 ++ WB) H1 → va_D A (w1 ++ WB) → va_S A s.heap H1 locs1 → W p l e R s m args below meth c H1 locs1 (cells + mc) (slots + ms) Q (F0 m (pc + 3) ls (vo.toList ++ rest))) : W p l e R s m args below meth c H locs cells slots Q (F0 m pc ls st0) :=
  nwSP (WA := WB) hC sT.blind S cw hK hP hD hS hA List.perm_append_comm (fun U hU hW hF => hT.to hS hF hU hW) hn hsz hst hW hdg hf (fun w1 H1 locs1 hB hP hD hS => kk w1 H1 locs1 hB (hP.perm List.perm_append_comm) (hD.perm List.perm_append_comm) hS)
theorem nwSR (hC : Nw G l y ws nf nl mc ms As w (sT tb) vo B) (S : CallFix p m c cc nL s args Ts own) (cw : CallB R s args own index y bytes maxL ret ws (rmN nf nl mc ms) mc ms n ∧ (Cond.static y).before args s = true) (hK : cK G s) (hP : va_P G.1 vwCl (WA ++ w) H) (hD : va_D A (WA ++ w)) (hS : va_S A s.heap H locs) (hA : ∀ q, s.heap.size ≤ q → A q) (hT : sT tb A s)
    (hn : As.length = n) (hsz : ls.size = nL) (hst : st0 = As.reverse ++ rest) (hW : (rest.map fun v => v.category).sum ≤ 8) (hdg : decode cc pc = .ok (.invokestatic index, 3)) (hf : cells + mc ≤ R.cells ∧ slots + ms ≤ R.slots)
    (kk : ∀ (w1 : va_W) (H1 : Heap) (locs1 : List Loc), B w1 → va_P G.1 vwCl (WA ++ w1) H1 → va_D A (WA ++ w1) → va_S A s.heap H1 locs1 → W p l e R s m args below meth c H1 locs1 (cells + mc) (slots + ms) Q (F0 m (pc + 3) ls (vo.toList ++ rest))) : W p l e R s m args below meth c H locs cells slots Q (F0 m pc ls st0) :=
  nwSP (WA := WA) hC sT.blind S cw hK hP hD hS hA (List.Perm.refl _) (fun U hU hW hF => hT.to hS hF hU hW) hn hsz hst hW hdg hf kk
end LCL
/-! up, cell -/
def vUp (x n : Int32) : Int32 := jrem (x &&& 2147483647) n
theorem and31 (x : Int32) : ∃ j, j < 2147483648 ∧ x &&& 2147483647 = nI j := by
  refine ⟨(x &&& 2147483647).toNatClampNeg, ?_, ?_⟩
  · have h1 : (x &&& 2147483647).toInt < 2147483648 := by
      have := Int32.toInt_lt (x &&& 2147483647)
      omega
    have h2 : ((x &&& 2147483647).toNatClampNeg : Int) = max 0 (x &&& 2147483647).toInt := by
      show (((x &&& 2147483647).toInt.toNat : Nat) : Int) = _
      omega
    omega
  · have h0 : 0 ≤ (x &&& 2147483647).toInt := by
      have hm : (x &&& 2147483647).toBitVec.msb = false := by
        rw [Int32.toBitVec_and, BitVec.msb_and, show (2147483647 : Int32).toBitVec.msb = false from by decide, Bool.and_false]
      rw [BitVec.msb_eq_toInt, decide_eq_false_iff_not] at hm
      exact Int.not_lt.mp hm
    have h1 : (x &&& 2147483647).toInt < 2147483648 := by
      have := Int32.toInt_lt (x &&& 2147483647)
      omega
    apply Int32.toInt_inj.mp
    have h2 : ((x &&& 2147483647).toNatClampNeg : Int) = (x &&& 2147483647).toInt := by
      show (((x &&& 2147483647).toInt.toNat : Nat) : Int) = _
      omega
    rw [nI_toInt (by omega), h2]
theorem vUpI (x : Int32) {n : Nat} (h0 : 0 < n) (hn : n < 1000000) : ∃ j, j < n ∧ vUp x (nI n) = nI j := by
  obtain ⟨j, hj, e⟩ := and31 x
  refine ⟨j % n, Nat.mod_lt _ h0, ?_⟩
  unfold vUp
  rw [e]
  exact pk_rem (a := j) (d := n) (by omega) (by omega) (by omega)
set_option maxHeartbeats 4000000 in
set_option maxRecDepth 100000 in
theorem c_L_up (l : Launch) (G : GG) (x n : Int32) (hn : ¬ n = 0) : Rd G l yL_up wsL_up 0 0 [.int x, .int n] [] (.int (vUp x n)) := by
  refine Met.ofW (cc := cL_up) (maxL := 2) (ret := (some .int)) (by decide) rfl ?_
  intro p e s m args below meth c s₁ B hml hv
  obtain ⟨rfl, hP, hK⟩ := hv
  have C0 : cA p s m meth c ([.int x, .int n] : List Value).toArray cL_up 2 (some .int) wsL_up RL := ⟨B.exec, B.bytes, B.returns, hml, findClass_of_methodNamed B.named, atoms_spec (ws := wsL_up) B.pre, B.notSynchronized⟩
  obtain ⟨hx, hb, hr, hml, hown, hts, hlocks⟩ := id C0
  have hl := lv_entry ([.int x, .int n]) (n := 2) (Nat.le_of_ble_eq_true rfl)
  rw [lg_entry_eq]
  generalize (lg_sl ([.int x, .int n]) ++ List.replicate (2 - (lg_sl ([.int x, .int n])).length) Slot.unset).toArray = ls at hl ⊢
  have hl : lv_has ls 2 [(0, .int x), (1, .int n)] := hl
  refine lv_iload_n hx hb dL_up_0 rfl (lv_at hl 0 rfl) ?_
  refine lv_ldc (v := 2147483647) hx hb hown (hts (.constant RL 8 (2147483647)) (by decide +kernel)) dL_up_1 ?_
  refine lv_iand hx hb dL_up_3 ?_
  refine lv_iload_n hx hb dL_up_4 rfl (lv_at hl 1 rfl) ?_
  refine lv_irem hx hb dL_up_5 hn ?_
  exact W.iret hx hb hr (fun t ht hW => ⟨rfl, ht⟩) (fun _ h => nomatch h) dL_up_6
def vCell (L : Nat) (xs : Nat → Int32) (k : Int32) : Int32 := if nI L ≤ k then 2144462787 * (k + 1373) else xs k.toNatClampNeg
def PX (b L : Nat) (xs : Nat → Int32) (k : Int32) : Array Value → State → Prop := va_Pc [.ref b, .int k] (fun U => va_X b L xs U U.heap ∧ b < U.heap.size)
theorem PX.blind {b L : Nat} {xs : Nat → Int32} {k : Int32} : FrameBlind (PX b L xs k) := fun a U g mk h => by
  obtain ⟨q0, q1, q2⟩ := h
  exact ⟨q0, va_X.moved (Vm.Alike.refl U.vm) q1, q2⟩
set_option maxHeartbeats 4000000 in
set_option maxRecDepth 100000 in
theorem c_L_cell (l : Launch) (b L : Nat) (xs : Nat → Int32) (hL : L ≤ 260) (k : Nat) (hk : k < 1000) : Met l yL_cell wsL_cell (rmm 0 0) (PX b L xs (nI k)) (QR (some (.int (vCell L xs (nI k))))) 0 0 (fun _ => False) := by
  refine Met.ofW (cc := cL_cell) (maxL := 2) (ret := (some .int)) (by decide) rfl ?_
  intro p e s m args below meth c s₁ B hml hv
  obtain ⟨rfl, hX, hbl⟩ := hv
  have C0 : cA p s m meth c ([.ref b, .int (nI k)] : List Value).toArray cL_cell 2 (some .int) wsL_cell RL := ⟨B.exec, B.bytes, B.returns, hml, findClass_of_methodNamed B.named, atoms_spec (ws := wsL_cell) B.pre, B.notSynchronized⟩
  obtain ⟨hx, hb, hr, hml, hown, hts, hlocks⟩ := id C0
  have hS : va_S (fun _ => False) s.heap s.heap [] := va_S.rf
  have hbA : ¬ (fun _ : Nat => False) b := fun h => h
  have hl := lv_entry ([.ref b, .int (nI k)]) (n := 2) (Nat.le_of_ble_eq_true rfl)
  rw [lg_entry_eq]
  generalize (lg_sl ([.ref b, .int (nI k)]) ++ List.replicate (2 - (lg_sl ([.ref b, .int (nI k)])).length) Slot.unset).toArray = ls at hl ⊢
  have hl : lv_has ls 2 [(0, .ref b), (1, .int (nI k))] := hl
  refine lv_iload_n hx hb dL_cell_0 rfl (lv_at hl 1 rfl) ?_
  refine lv_aload_n hx hb dL_cell_1 rfl (lv_at hl 0 rfl) ?_
  refine va_slen hx hb hX hbl hbA hS dL_cell_2 ?_
  refine lv_icmp_ge (tgt := 12) hx hb dL_cell_3 (by decide) (fun c_1 => ?_) (fun c_1 => ?_)
  · rw [show vCell L xs (nI k) = 2144462787 * (nI k + 1373) from if_pos c_1]
    refine lv_ldc (v := 2144462787) hx hb hown (hts (.constant RL 7 (2144462787)) (by decide +kernel)) dL_cell_12 ?_
    refine lv_iload_n hx hb dL_cell_14 rfl (lv_at hl 1 rfl) ?_
    refine lv_sipush (v := 1373) hx hb dL_cell_15 (by decide) ?_
    refine lv_iadd hx hb dL_cell_18 ?_
    refine lv_imul hx hb dL_cell_19 ?_
    exact W.iret hx hb hr (fun t ht hW => ⟨rfl, ht⟩) (fun _ h => nomatch h) dL_cell_20
  · rw [show vCell L xs (nI k) = xs (nI k).toNatClampNeg from if_neg c_1]
    have hkL : k < L := by
      rcases Nat.lt_or_ge k L with h | h
      · exact h
      · exact absurd (show nI L ≤ nI k from nI_le h (by omega)) c_1
    refine lv_aload_n hx hb dL_cell_6 rfl (lv_at hl 0 rfl) ?_
    refine lv_iload_n hx hb dL_cell_7 rfl (lv_at hl 1 rfl) ?_
    refine va_sld hx hb hX hbl hbA hS (vp_in_nI hkL (by omega)) dL_cell_8 ?_
    refine lv_goto (tgt := 20) hx hb dL_cell_9 (by decide) ?_
    exact W.iret hx hb hr (fun t ht hW => ⟨rfl, ht⟩) (fun _ h => nomatch h) dL_cell_20
