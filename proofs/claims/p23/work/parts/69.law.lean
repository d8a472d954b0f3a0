/-! THE CLAIM OUT OF ONE WALK OF THE LAW'S BODY. Your part is whole_start (and what it stands on); all else here is the same for every law, but numbers. -/
def R_law : String := "GrooveTurnsLaw"
def lw_P (b : Addr) (xs : List Int32) (args : Array Value) (s : State) : Prop := args = #[.ref b] ∧ s.IntsAt b xs ∧ xs.length ≤ 260 ∧ (Jvm.Cond.and given_1 narrow_1).before args s = true
def lw_Q (_ : Array Value) (s : State) (o : Outcome) (t : State) : Prop := o = .returned (some (.int 1)) ∧ Framed s o t [] 600000 7302250
def lw_Z (below : List Frame) (a : Array Value) (s : State) : State → Prop := fun t => ∃ o, t.status = .running ∧ Ended t below o ∧ lw_Q a s o t
/-- the law's own end, with 1 on the stack, nothing written that was there before, its room as the claim has it -/
theorem lw_ret {p : Program} {l : Launch} {e : Env} {s : State} {m : MethodId} {below : List Frame} {meth : Method} {c : Code} {b : Nat} (hx : p.tables.exec = Jvm.exec) (hb : c.code = code) (hr : meth.sig.returnType = ret) (hlocks : meth.locks = false) {pc : Nat} {H : Heap} {ls : Array Slot} (hdg : decode code pc = .ok (.ireturn, 1)) : W p l e room_1 s m #[Value.ref b] below meth c H [] 600000 7302250 (lw_Z below #[Value.ref b] s) (F0 m pc ls [.int 1]) := by
  intro T hT X
  obtain ⟨fs, hret, hrun, hended, hW, hframe⟩ := X.leave (v := some (.int 1)) (hlocks := hlocks) (fun h => by rw [hr] at h; cases h)
  have hmeth' : T.vm.method? m = some meth := X.method'
  refine ⟨T.setFrames fs, ?_, .returned (some (.int 1)), hrun, hended, rfl, ⟨_, rfl⟩, hW, hframe⟩
  jvm_step X.here [X.here.top, hx, hb, hdg, hmeth', hr, ret, narrow_b1]
  (try refine ⟨rfl, ?_⟩); (try refine ⟨rfl, ?_⟩)
  first | (intro acts; rw [hret _ acts rfl rfl rfl]) | rw [hret _ _ rfl rfl rfl]
  exact Steps.refl _
/-- what holds at the law's entry: the machine, the code, the tables' words (any of lw_tbl by 'hts w (by decide +kernel)'), the script of L ints xs at the cell b, what the Statement gives of the start (any of its parts by flat_of_before) -/
def lw_At (p : Program) (s : State) (m : MethodId) (meth : Method) (c : Code) (b L : Nat) (xs : Nat → Int32) : Prop :=
  p.tables.exec = Jvm.exec ∧ c.code = code ∧ meth.sig.returnType = ret ∧ c.maxLocals = 5 ∧ s.vm.findClass R_law = some m.cls ∧ (∀ w ∈ lw_tbl, w.before #[Value.ref b] s = true) ∧ va_X b L xs s s.heap ∧ b < s.heap.size ∧ meth.locks = false ∧ (Jvm.Cond.and given_1 narrow_1).before #[Value.ref b] s = true
/-! the law: two new objects, sixty steps, and the end -/
theorem newDv : Dv (10000 * 0) dNew := by
  obtain ⟨⟨nu, se, e, h1, h2⟩, -⟩ := newD
  rw [e]
  have z : ∀ n, n ≤ 192 → cnS se n = 0 := by
    intro n
    induction n with
    | zero => intro _; rfl
    | succ n ih =>
      intro h
      unfold cnS
      rw [ih (by omega), h2 n (by omega), if_pos rfl]
  refine ⟨⟨4, by omega, rfl⟩, ⟨1, by omega, rfl⟩, ⟨30, by omega, by omega, rfl⟩, ⟨20, by omega, by omega, rfl⟩, ⟨2, by omega, rfl⟩, ⟨0, by omega, rfl⟩, ⟨0, by omega, rfl⟩, fun c hc => Or.inl ⟨h1 c hc, rfl, rfl⟩, fun c hc => ⟨0, by omega, rfl⟩, 0, by omega, rfl, fun a ha => Or.inl (h2 a ha), fun j _ hj => h1 _ (by omega), fun a b ha hb q => ?_, Nat.le_of_eq (z 192 (by omega))⟩
  have q1 : se a = se b := q
  rw [h2 a ha, h2 b hb] at q1
  exact nI_inj (by omega) (by omega) q1
theorem pmN {g a b p q h s x y : va_W} (hx : x = []) (hy : y = []) : (g ++ (a ++ (b ++ (p ++ (q ++ (h ++ s)))))).Perm (g ++ (q ++ (p ++ (a ++ (b ++ (h ++ (s ++ (x ++ y)))))))) := by
  haveI : DecidableEq (Nat × va_E) := fun _ _ => Classical.propDecidable _
  subst hx
  subst hy
  refine List.perm_iff_count.mpr (fun e => ?_)
  simp only [List.count_append, List.count_nil]
  omega
theorem new_oi {G : GG} {γ : Nat} {w1 : va_W} (h : ∃ (α β π κ η : Nat → Nat) (ς : Nat), w1 = gW γ (α 0) (β 0) (π 0) (κ 0) (η 0) ς ++ (dW G.2.1 α dNew ++ (dW G.2.1 β dNew ++ (pW G.2.1 π p0 ++ (qW G.2.1 κ q0 ++ (hW G.2.2 η h0 ++ sW G.2.2 ς (fun _ => none))))))) : ∃ WX, OI G γ (dNew, p0, fun _ => none) WX ∧ w1.Perm WX := by
  obtain ⟨α, β, π, κ, η, ς, rfl⟩ := h
  have key : ∀ (σ : DS) (ϖ : PS), OI G γ (σ, ϖ, fun _ => none) (cW G γ α β π κ η ς q0 ϖ σ σ (fun _ => none) (fun _ => none) 0 0) := fun σ ϖ => ⟨α, β, π, κ, η, ς, q0, σ, fun _ => none, fun _ => none, 0, 0, rfl, by omega, by omega, rfl⟩
  exact ⟨_, key dNew p0, pmN (x := xR G.2.1 (fun _ => none)) (y := xS G.2.1 (fun _ => none)) rfl rfl⟩
set_option maxHeartbeats 4000000 in
set_option maxRecDepth 100000 in
theorem lp_law {p : Program} {e : Env} {s : State} {m : MethodId} {below : List Frame} {meth : Method} {c : Code} {Q : State → Prop} {b L γ γ' : Nat} {xs : Nat → Int32} {tb : Nat × Nat × Nat} (l : Launch) (G : GG) (C0 : lw_At p s m meth c b L xs) (hK : cK G s) (hT : sT tb (fun q : Nat => s.heap.size ≤ q) s) (hL : L ≤ 260) (kend : ∀ (W0 : va_W) (H : Heap) (locs : List Loc) (cells slots : Nat) (ls : Array Slot), cells ≤ 500000 → slots ≤ 6000000 → PW2 G γ γ' 600000 W0 → va_P G.1 vwCl W0 H → va_D (fun q : Nat => s.heap.size ≤ q) W0 → va_S (fun q : Nat => s.heap.size ≤ q) s.heap H locs → lv_has ls 5 [(0, .ref b), (1, .ref γ), (2, .ref γ'), (3, .int 1), (4, .int (nI 60))] → W p l e room_1 s m #[.ref b] below meth c H locs cells slots Q (F0 m 83 ls [])) : ∀ (f j : Nat) (W0 : va_W) (H : Heap) (locs : List Loc) (cells slots : Nat) (ls : Array Slot), j + f = 60 → cells + 18 * f ≤ 500000 → slots + 2454 * f ≤ 6000000 → PW2 G γ γ' (10000 * j) W0 → va_P G.1 vwCl W0 H → va_D (fun q : Nat => s.heap.size ≤ q) W0 → va_S (fun q : Nat => s.heap.size ≤ q) s.heap H locs → lv_has ls 5 [(0, .ref b), (1, .ref γ), (2, .ref γ'), (3, .int 1), (4, .int (nI j))] → W p l e room_1 s m #[.ref b] below meth c H locs cells slots Q (F0 m 21 ls []) := by
  obtain ⟨hx, hb, hr, hml, hown, hts, hX, hbl, hlocks, hgv⟩ := id C0
  have hA : ∀ q : Nat, s.heap.size ≤ q → (fun q : Nat => s.heap.size ≤ q) q := fun _ h => h
  have hbA : ¬ (fun q : Nat => s.heap.size ≤ q) b := Nat.not_le.mpr hbl
  have hF : CallFix p m c cL_law 5 s #[.ref b] lw_tbl RL := ⟨hx, hb, hml, hown, hts⟩
  have hXU : ∀ {H : Heap} {locs : List Loc} {U : State}, va_S (fun q : Nat => s.heap.size ≤ q) s.heap H locs → U.heap = H → s.WarmedH U.vm → va_X b L xs U U.heap ∧ b < U.heap.size := fun {H locs U} hS hU hW => by
    rw [hU]
    exact ⟨va_X.moved hW.alike (va_X.kept hX (hS.2.1 b hbl hbA)), Nat.lt_of_lt_of_le hbl hS.1⟩
  intro f
  induction f with
  | zero =>
    intro j W0 H locs cells slots ls hj hc hs hW0 hP hD hS hl
    have hj : j = 60 := hj
    subst hj
    refine lv_iload hx hb dL_law_21 (lv_at hl 4 rfl) ?_
    refine lv_bipush (v := 60) hx hb dL_law_23 (by decide) ?_
    refine lv_icmp_ge (tgt := 83) hx hb dL_law_25 (by decide) (fun _ => ?_) (fun h9 => absurd (show (60 : Int32) ≤ nI 60 from Int32.le_refl _) h9)
    exact kend W0 H locs cells slots ls (by omega) (by omega) hW0 hP hD hS hl
  | succ f ih =>
    intro j W0 H locs cells slots ls hj hc hs hW0 hP hD hS hl
    have hfr : cells ≤ room_1.cells ∧ slots ≤ room_1.slots := ⟨show cells ≤ 600000 from by omega, show slots ≤ 7302250 from by omega⟩
    refine lv_iload hx hb dL_law_21 (lv_at hl 4 rfl) ?_
    refine lv_bipush (v := 60) hx hb dL_law_23 (by decide) ?_
    refine lv_icmp_ge (tgt := 83) hx hb dL_law_25 (by decide) (fun h9 => absurd h9 (show ¬ (60 : Int32) ≤ nI j from nI_ge (b := 60) (by omega) (by omega))) (fun _ => ?_)
    refine lv_iload_n hx hb dL_law_28 rfl (lv_at hl 3 rfl) ?_
    refine lv_if_eq (tgt := 83) hx hb dL_law_29 (by decide) (fun h9 : (1 : Int32) = 0 => absurd h9 (show ¬ (1 : Int32) = 0 from by decide)) (fun _ => ?_)
    refine lv_aload_n hx hb dL_law_32 rfl (lv_at hl 1 rfl) ?_
    refine lv_aload_n hx hb dL_law_33 rfl (lv_at hl 2 rfl) ?_
    refine lv_aload_n hx hb dL_law_34 rfl (lv_at hl 0 rfl) ?_
    refine lv_iload hx hb dL_law_35 (lv_at hl 4 rfl) ?_
    refine rd_go (va_runS (As := [.ref b, .int (nI j)]) (rest := [.ref γ', .ref γ]) hF (c_L_cell l b L xs hL j (by omega)) (va_cwS 2 hts gL_law_L_cell rfl rfl rfl (by decide +kernel) ⟨Nat.le_of_ble_eq_true rfl, Nat.le_of_ble_eq_true rfl⟩) ⟨PX.blind, fun U hU hW => ⟨rfl, hXU hS hU hW⟩⟩ rfl rfl hl.1 rfl (lv_room (Nat.le_of_ble_eq_true rfl)) dL_law_37 hfr) ?_
    refine lv_aload_n hx hb dL_law_40 rfl (lv_at hl 0 rfl) ?_
    refine lv_iload hx hb dL_law_41 (lv_at hl 4 rfl) ?_
    refine lv_iconst (v := 1) hx hb dL_law_43 (by decide) ?_
    refine lv_iadd hx hb dL_law_44 ?_
    rw [nI_1]
    refine rd_go (va_runS (As := [.ref b, .int (nI (j + 1))]) (rest := [.int (vCell L xs (nI j)), .ref γ', .ref γ]) hF (c_L_cell l b L xs hL (j + 1) (by omega)) (va_cwS 2 hts gL_law_L_cell rfl rfl rfl (by decide +kernel) ⟨Nat.le_of_ble_eq_true rfl, Nat.le_of_ble_eq_true rfl⟩) ⟨PX.blind, fun U hU hW => ⟨rfl, hXU hS hU hW⟩⟩ rfl rfl hl.1 rfl (lv_room (Nat.le_of_ble_eq_true rfl)) dL_law_45 hfr) ?_
    refine lv_iconst (v := 2) hx hb dL_law_48 (by decide) ?_
    refine lv_ishr hx hb dL_law_49 ?_
    obtain ⟨σ, ϖ, ϖ', sl, WA, WB, rfl, hI, hI', hpl, hDv, hsl⟩ := hW0
    refine nwS0 (As := [.ref γ, .ref γ', .int (vCell L xs (nI j)), .int (vCell L xs (nI (j + 1)) >>> ((2 : Int32) &&& 31))]) (rest := []) (c_L_isStep l G tb _ _ hI hI' hpl hDv hsl (by omega)) hF (va_cwS 4 hts gL_law_L_isStep rfl rfl rfl (by decide +kernel) ⟨Nat.le_of_ble_eq_true rfl, Nat.le_of_ble_eq_true rfl⟩) hK hP hD hS hA hT rfl hl.1 rfl (Nat.le_of_ble_eq_true rfl) dL_law_50 ⟨show cells + 18 ≤ 600000 from by omega, show slots + 2454 ≤ 7302250 from by omega⟩ (fun w1 H locs hW1 hP hD hS => ?_)
    have hfr : cells + 18 ≤ room_1.cells ∧ slots + 2454 ≤ room_1.slots := ⟨show cells + 18 ≤ 600000 from by omega, show slots + 2454 ≤ 7302250 from by omega⟩
    refine lv_if_eq (tgt := 75) hx hb dL_law_53 (by decide) (fun h9 : (1 : Int32) = 0 => absurd h9 (show ¬ (1 : Int32) = 0 from by decide)) (fun _ => ?_)
    have K71 : ∀ ls : Array Slot, lv_has ls 5 [(0, .ref b), (1, .ref γ), (2, .ref γ'), (3, .int 1), (4, .int (nI j))] → W p l e room_1 s m #[.ref b] below meth c H locs (cells + 18) (slots + 2454) Q (F0 m 71 ls []) := by
      intro ls hl
      refine lv_iconst (v := 1) hx hb dL_law_71 (by decide) ?_
      refine lv_goto (tgt := 76) hx hb dL_law_72 (by decide) ?_
      refine lv_istore_n (lv' := [(3, .int 1), (0, .ref b), (1, .ref γ), (2, .ref γ'), (4, .int (nI j))]) hx hb dL_law_76 rfl hl (by decide) rfl (fun ls hl => ?_)
      refine lv_iinc (v := nI (j + 1)) (lv' := [(4, .int (nI (j + 1))), (3, .int 1), (0, .ref b), (1, .ref γ), (2, .ref γ')]) hx hb dL_law_77 hl (k := 4) rfl (nI_1 j) (by decide) rfl (fun ls hl => ?_)
      refine lv_goto (tgt := 21) hx hb dL_law_80 (by decide) ?_
      exact ih (j + 1) w1 H locs _ _ ls (by omega) (by omega) (by omega) (by rw [show 10000 * (j + 1) = 10000 * j + 10000 from by omega]; exact hW1) hP hD hS (lv_sub hl [2, 3, 4, 1, 0] rfl)
    refine lv_iload hx hb dL_law_56 (lv_at hl 4 rfl) ?_
    refine lv_bipush (v := 10) hx hb dL_law_58 (by decide) ?_
    refine lv_irem hx hb dL_law_60 (by decide) ?_
    refine lv_if_gt (tgt := 71) hx hb dL_law_61 (by decide) (fun _ => ?_) (fun _ => ?_)
    · exact K71 ls hl
    obtain ⟨σ1, ϖ1, ϖ1', sl1, WA1, WB1, rfl, hI1, hI1', hpl1, hDv1, hsl1⟩ := id hW1
    refine lv_aload_n hx hb dL_law_64 rfl (lv_at hl 1 rfl) ?_
    refine rdTS (As := [.ref γ]) (rest := []) (c_L_isWell l G tb hI1 hDv1) hF (va_cwS 1 hts gL_law_L_isWell rfl rfl rfl (by decide +kernel) ⟨Nat.le_of_ble_eq_true rfl, Nat.le_of_ble_eq_true rfl⟩) hK (va_PL hP) hT hS rfl hl.1 rfl (Nat.le_of_ble_eq_true rfl) dL_law_65 hfr ?_
    refine lv_if_eq (tgt := 75) hx hb dL_law_68 (by decide) (fun h9 : (1 : Int32) = 0 => absurd h9 (show ¬ (1 : Int32) = 0 from by decide)) (fun _ => ?_)
    exact K71 ls hl
set_option maxHeartbeats 4000000 in
set_option maxRecDepth 100000 in
theorem whole_start {p : Program} {e : Env} {s : State} {m : MethodId} {below : List Frame} {meth : Method} {c : Code} (l : Launch) (hflags : l.flags = flags0) {b L : Nat} {xs : Nat → Int32} (hL : L ≤ 260) (C0 : lw_At p s m meth c b L xs) : W p l e room_1 s m #[Value.ref b] below meth c s.heap [] 0 0 (lw_Z below #[Value.ref b] s) (entryFrame m ([Value.ref b] : List Value).toArray 5) := by
  obtain ⟨hx, hb, hr, hml, hown, hts, hX, hbl, hlocks, hgv⟩ := id C0
  have hA : ∀ q : Nat, s.heap.size ≤ q → (fun q : Nat => s.heap.size ≤ q) q := fun _ h => h
  have hbA : ¬ (fun q : Nat => s.heap.size ≤ q) b := Nat.not_le.mpr hbl
  have hF : CallFix p m c cL_law 5 s #[.ref b] lw_tbl RL := ⟨hx, hb, hml, hown, hts⟩
  have hXU : ∀ {H : Heap} {locs : List Loc} {U : State}, va_S (fun q : Nat => s.heap.size ≤ q) s.heap H locs → U.heap = H → s.WarmedH U.vm → va_X b L xs U U.heap ∧ b < U.heap.size := fun {H locs U} hS hU hW => by
    rw [hU]
    exact ⟨va_X.moved hW.alike (va_X.kept hX (hS.2.1 b hbl hbA)), Nat.lt_of_lt_of_le hbl hS.1⟩
  obtain ⟨tb, hT⟩ := tabs_of (A := fun q => s.heap.size ≤ q) hts hgv (fun a h => Nat.not_le.mpr h)
  obtain ⟨G, hK⟩ := known_of hts
  have hin0 := newD.2
  have hS : va_S (fun q : Nat => s.heap.size ≤ q) s.heap s.heap [] := va_S.rf
  have hP : va_P G.1 vwCl [] s.heap := fun k q h => by simp at h
  have hD : va_D (fun q : Nat => s.heap.size ≤ q) [] := ⟨fun i j p q h => by simp at h, fun k q h => by simp at h⟩
  have hl := lv_entry ([.ref b]) (n := 5) (Nat.le_of_ble_eq_true rfl)
  rw [lg_entry_eq]
  generalize (lg_sl ([.ref b]) ++ List.replicate (5 - (lg_sl ([.ref b])).length) Slot.unset).toArray = ls at hl ⊢
  have hl : lv_has ls 5 [(0, .ref b)] := hl
  refine va_new (D := G.1) (ci := 4) (fs := [.null, .null, .null, .null, .null, .null]) (C := RX4) (T := TX4) (N := 6) hx hb hts inX4 tyX4 tyX4_ok hown (hts _ wn_new) (hts _ wn_inst4) (hts _ wn_ini4) hK.1 hP hD hS hA rfl (fun j hj => by rcases (show j = 0 ∨ j = 1 ∨ j = 2 ∨ j = 3 ∨ j = 4 ∨ j = 5 by omega) with rfl | rfl | rfl | rfl | rfl | rfl <;> rfl) (Nat.le_of_ble_eq_true rfl) (Nat.le_of_ble_eq_true rfl) dL_law_0 (fun γ H hP hD hS => ?_)
  refine lv_dup hx hb dL_law_3 rfl ?_
  refine nwI (As := []) (rest := [.ref γ]) (WA := []) (w := w0_X4 γ) (c_X4_init l G γ tb hin0) iT.blind hF (cwI 0 hts gL_law_X4_init rfl rfl rfl (hts _ wn_ini4) (hts _ wn_mli) (hts _ wn_imi) rfl (by decide +kernel) ⟨Nat.le_of_ble_eq_true rfl, Nat.le_of_ble_eq_true rfl⟩) hK hP hD hS hA (fun U hU hW hF => ⟨hT.to hS hF hU hW, va_AO.moved hW.alike (va_AO.of (hts _ wn_over))⟩) rfl hl.1 rfl (Nat.le_of_ble_eq_true rfl) dL_law_4 ⟨Nat.le_of_ble_eq_true rfl, Nat.le_of_ble_eq_true rfl⟩ (fun w1 H locs hB hP hD hS => ?_)
  obtain ⟨WX, hWX, pm⟩ := new_oi hB
  have hP : va_P G.1 vwCl WX H := va_P.perm hP pm
  have hD : va_D (fun q : Nat => s.heap.size ≤ q) WX := va_D.perm hD pm
  refine lv_astore_n (lv' := [(1, .ref γ), (0, .ref b)]) hx hb dL_law_7 rfl hl (by decide) rfl (fun ls hl => ?_)
  refine va_new (D := G.1) (ci := 4) (fs := [.null, .null, .null, .null, .null, .null]) (C := RX4) (T := TX4) (N := 6) hx hb hts inX4 tyX4 tyX4_ok hown (hts _ wn_new) (hts _ wn_inst4) (hts _ wn_ini4) hK.1 hP hD hS hA rfl (fun j hj => by rcases (show j = 0 ∨ j = 1 ∨ j = 2 ∨ j = 3 ∨ j = 4 ∨ j = 5 by omega) with rfl | rfl | rfl | rfl | rfl | rfl <;> rfl) (Nat.le_of_ble_eq_true rfl) (Nat.le_of_ble_eq_true rfl) dL_law_8 (fun γ' H hP hD hS => ?_)
  refine lv_dup hx hb dL_law_11 rfl ?_
  refine nwI (As := []) (rest := [.ref γ']) (WA := WX) (w := w0_X4 γ') (c_X4_init l G γ' tb hin0) iT.blind hF (cwI 0 hts gL_law_X4_init rfl rfl rfl (hts _ wn_ini4) (hts _ wn_mli) (hts _ wn_imi) rfl (by decide +kernel) ⟨Nat.le_of_ble_eq_true rfl, Nat.le_of_ble_eq_true rfl⟩) hK hP hD hS hA (fun U hU hW hF => ⟨hT.to hS hF hU hW, va_AO.moved hW.alike (va_AO.of (hts _ wn_over))⟩) rfl hl.1 rfl (Nat.le_of_ble_eq_true rfl) dL_law_12 ⟨Nat.le_of_ble_eq_true rfl, Nat.le_of_ble_eq_true rfl⟩ (fun w1 H locs hB hP hD hS => ?_)
  obtain ⟨WY, hWY, pm2⟩ := new_oi hB
  have hP : va_P G.1 vwCl (WX ++ WY) H := va_P.perm hP (List.Perm.append_left _ pm2)
  have hD : va_D (fun q : Nat => s.heap.size ≤ q) (WX ++ WY) := va_D.perm hD (List.Perm.append_left _ pm2)
  refine lv_astore_n (lv' := [(2, .ref γ'), (1, .ref γ), (0, .ref b)]) hx hb dL_law_15 rfl hl (by decide) rfl (fun ls hl => ?_)
  refine lv_iconst (v := 1) hx hb dL_law_16 (by decide) ?_
  refine lv_istore_n (lv' := [(3, .int 1), (2, .ref γ'), (1, .ref γ), (0, .ref b)]) hx hb dL_law_17 rfl hl (by decide) rfl (fun ls hl => ?_)
  refine lv_iconst (v := 0) hx hb dL_law_18 (by decide) ?_
  refine lv_istore (lv' := [(4, .int 0), (3, .int 1), (2, .ref γ'), (1, .ref γ), (0, .ref b)]) hx hb dL_law_19 hl (by decide) rfl (fun ls hl => ?_)
  refine lp_law (γ := γ) (γ' := γ') l G C0 hK hT hL (fun W0 H locs cells slots ls hc hs hW0 hP hD hS hl => ?_) 60 0 (WX ++ WY) _ _ _ _ ls (by omega) (Nat.le_of_ble_eq_true rfl) (Nat.le_of_ble_eq_true rfl) ⟨dNew, p0, p0, fun _ => none, WX, WY, rfl, hWX, hWY, rfl, newDv, fun k υ q => by cases q⟩ hP hD hS (lv_sub hl [4, 3, 2, 1, 0] rfl)
  have hfr : cells ≤ room_1.cells ∧ slots ≤ room_1.slots := ⟨show cells ≤ 600000 from by omega, show slots ≤ 7302250 from by omega⟩
  obtain ⟨σ1, ϖ1, ϖ1', sl1, WA1, WB1, rfl, hI1, hI1', hpl1, hDv1, hsl1⟩ := hW0
  refine lv_iload_n hx hb dL_law_83 rfl (lv_at hl 3 rfl) ?_
  refine lv_if_eq (tgt := 112) hx hb dL_law_84 (by decide) (fun h9 : (1 : Int32) = 0 => absurd h9 (show ¬ (1 : Int32) = 0 from by decide)) (fun _ => ?_)
  refine lv_aload_n hx hb dL_law_87 rfl (lv_at hl 1 rfl) ?_
  refine rdTS (As := [.ref γ]) (rest := []) (c_L_isWell l G tb hI1 hDv1) hF (va_cwS 1 hts gL_law_L_isWell rfl rfl rfl (by decide +kernel) ⟨Nat.le_of_ble_eq_true rfl, Nat.le_of_ble_eq_true rfl⟩) hK (va_PL hP) hT hS rfl hl.1 rfl (Nat.le_of_ble_eq_true rfl) dL_law_88 hfr ?_
  refine lv_if_eq (tgt := 112) hx hb dL_law_91 (by decide) (fun h9 : (1 : Int32) = 0 => absurd h9 (show ¬ (1 : Int32) = 0 from by decide)) (fun _ => ?_)
  refine lv_aload_n hx hb dL_law_94 rfl (lv_at hl 1 rfl) ?_
  refine lv_aload_n hx hb dL_law_95 rfl (lv_at hl 2 rfl) ?_
  refine lv_aload_n hx hb dL_law_96 rfl (lv_at hl 0 rfl) ?_
  refine lv_bipush (v := nI 60) hx hb dL_law_97 (by decide) ?_
  refine rd_go (va_runS (As := [.ref b, .int (nI 60)]) (rest := [.ref γ', .ref γ]) hF (c_L_cell l b L xs hL 60 (by omega)) (va_cwS 2 hts gL_law_L_cell rfl rfl rfl (by decide +kernel) ⟨Nat.le_of_ble_eq_true rfl, Nat.le_of_ble_eq_true rfl⟩) ⟨PX.blind, fun U hU hW => ⟨rfl, hXU hS hU hW⟩⟩ rfl rfl hl.1 rfl (lv_room (Nat.le_of_ble_eq_true rfl)) dL_law_99 hfr) ?_
  refine nwS0 (As := [.ref γ, .ref γ', .int (vCell L xs (nI 60))]) (rest := []) (c_L_areAlike l G tb (V := (σ1, ϖ1, sl1)) (X := (ϖ1', sl1)) hI1 hI1') hF (va_cwS 3 hts gL_law_L_areAlike rfl rfl rfl (by decide +kernel) ⟨Nat.le_of_ble_eq_true rfl, Nat.le_of_ble_eq_true rfl⟩) hK hP hD hS hA hT rfl hl.1 rfl (Nat.le_of_ble_eq_true rfl) dL_law_102 hfr (fun w1 H locs _ hP hD hS => ?_)
  refine lv_if_eq (tgt := 112) hx hb dL_law_105 (by decide) (fun h9 : (1 : Int32) = 0 => absurd h9 (show ¬ (1 : Int32) = 0 from by decide)) (fun _ => ?_)
  refine lv_iconst (v := 1) hx hb dL_law_108 (by decide) ?_
  refine lv_goto (tgt := 113) hx hb dL_law_109 (by decide) ?_
  exact va_forget (fun q hq => hS.2.2 q hq) (W.widen (k := 600000) (n := 7302250) (by omega) (by omega) (lw_ret hx hb hr hlocks dL_law_113))
