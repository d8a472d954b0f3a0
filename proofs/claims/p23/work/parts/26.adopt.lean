/-! calls, on an object, of methods that make cells; a world in another order -/
section NWV
variable {p : Program} {l : Launch} {e : Env} {R : Room} {s : State} {m : MethodId} {args : Array Value} {below : List Frame} {meth : Method} {c : Code} {H : Heap} {locs : List Loc} {cells slots : Nat} {Q : State → Prop}
variable {y : MethodName} {bytes cc : ByteArray} {maxL nL n index nf nl mc ms : Nat} {ret : Option FieldType} {ws : List Cond} {Ts : List Cond} {own C host : String} {b : Nat} {As rest st0 : List Value} {ls : Array Slot} {pc : Nat} {G : GG} {w w1 W0 WA WB : va_W} {v : Value} {vo : Option Value} {H0 : Heap} {A : Nat → Prop} {aa : Array Value} {T : (Nat → Prop) → State → Prop} {B : va_W → Prop}
theorem nwVP (hC : Nw G l y ws nf nl mc ms (.ref b :: As) w T vo B) (hTb : FB2 T) (S : CallFix p m c cc nL s args Ts own) (cw : CallW R s args own C index y bytes maxL ret ws (rmN nf nl mc ms) mc ms n) (hv : ∃ cell : Cell, H[b]? = some cell ∧ cell.vm.isStatics = false ∧ s.vm.findClass C = some cell.cls) (hK : cK G s) (hP : va_P G.1 vwCl W0 H) (hD : va_D A W0) (hS : va_S A H0 H locs) (hA : ∀ q, H0.size ≤ q → A q) (pm : W0.Perm (WA ++ w)) (hT : ∀ U : State, U.heap = H → s.WarmedH U.vm → (∀ q, va_A w H.size q → A q) → T (va_A w H.size) U)
    (hn : As.length = n) (hsz : ls.size = nL) (hst : st0 = As.reverse ++ .ref b :: rest) (hW : (rest.map fun v => v.category).sum ≤ 8) (hdg : decode cc pc = .ok (.invokevirtual index, 3)) (hf : cells + mc ≤ R.cells ∧ slots + ms ≤ R.slots)
    (kk : ∀ (w1 : va_W) (H1 : Heap) (locs1 : List Loc), B w1 → va_P G.1 vwCl (WA ++ w1) H1 → va_D A (WA ++ w1) → va_S A H0 H1 locs1 → W p l e R s m args below meth c H1 locs1 (cells + mc) (slots + ms) Q (F0 m (pc + 3) ls (vo.toList ++ rest))) : W p l e R s m args below meth c H locs cells slots Q (F0 m pc ls st0) := by
  have hP := hP.perm pm
  have hD := hD.perm pm
  have hF := va_A_sub hD hS hA (w := w) in_R
  exact nw_go (va_runV S (hC H.size) cw ⟨PN.blind hTb, hv, fun U hU hW => ⟨rfl, by rw [hU], by rw [hU]; exact va_PR hP, hK.warm hW, (va_DR hD).weaken (fun _ _ _ _ => trivial), hT U hU hW hF⟩⟩ rfl hn hsz hst (lv_room hW) hdg hf) hF hS
    (fun w1 H1 locs1 hB hp hd hk hS1 => by
      obtain ⟨h1, h2⟩ := repNR hP hD hk hF hp hd
      exact kk w1 H1 locs1 hB h1 h2 hS1)
end NWV
/-! behind a change: what adopt makes of the world -/
def kO (o n : Nat) : Nat := if n < 6 then o else (o + 1) % 6
def kN (n : Nat) : Nat := if n < 6 then n + 1 else n
theorem kO_eq (o n : Nat) : (if n < 6 then nI o else nI ((o + 1) % 6)) = nI (kO o n) := by
  unfold kO
  split <;> rfl
theorem kN_eq (n : Nat) : (if n < 6 then nI (n + 1) else nI n) = nI (kN n) := by
  unfold kN
  split <;> rfl
def AP (G : GG) (γ : Nat) (η : Nat → Nat) (ring : Nat → Option Nat) (o n : Nat) (d t pd rq sl : Nat) (M : va_W) (a : Int32) (w1 : va_W) : Prop :=
  (a < 0 ∧ w1 = gW γ d t pd rq (η 0) sl ++ (hW G.2.2 η (ring, nI o, nI n) ++ M)) ∨
  (¬ a < 0 ∧ ∃ (q : Nat) (N : va_W), ((ring ((o + n) % 6) = some q ∧ N = []) ∨ (ring ((o + n) % 6) = none ∧ ∃ δ : Nat → Nat, δ 0 = q ∧ N = dW G.2.1 δ dNew)) ∧ w1 = gW γ t q pd rq (η 0) sl ++ (hW G.2.2 η (va_up ring ((o + n) % 6) (some d), nI (kO o n), nI (kN n)) ++ (M ++ N)))
theorem pm_mv (X g h M : va_W) : (X ++ (g ++ (h ++ M))).Perm (g ++ (h ++ (X ++ M))) := by
  haveI : DecidableEq (Nat × va_E) := fun _ _ => Classical.propDecidable _
  exact List.perm_iff_count.mpr (fun a => by simp only [List.count_append]; omega)
theorem AP.mv {G : GG} {γ : Nat} {η : Nat → Nat} {ring : Nat → Option Nat} {o n : Nat} {d t pd rq sl : Nat} {M M2 X : va_W} {a : Int32} {w1 : va_W} (h : AP G γ η ring o n d t pd rq sl M a w1) (pm : (X ++ M).Perm M2) : ∃ w2, AP G γ η ring o n d t pd rq sl M2 a w2 ∧ (X ++ w1).Perm w2 := by
  rcases h with ⟨ha, rfl⟩ | ⟨ha, q, N, hN, rfl⟩
  · exact ⟨_, Or.inl ⟨ha, rfl⟩, (pm_mv _ _ _ _).trans (List.Perm.append_left _ (List.Perm.append_left _ pm))⟩
  · refine ⟨_, Or.inr ⟨ha, q, N, hN, rfl⟩, (pm_mv _ _ _ _).trans (List.Perm.append_left _ (List.Perm.append_left _ ?_))⟩
    rw [← List.append_assoc]
    exact List.Perm.append_right _ pm
abbrev dF (α : Nat → Nat) (σ : DS) : List Value := [.ref (α 1), .ref (α 2), .ref (α 3), .ref (α 4), .ref (α 5), .int (d_sp σ), .int (d_rd σ), .int (d_tk σ), .int (d_hd σ)]
abbrev dR (cI : ClassId) (α : Nat → Nat) (σ : DS) : va_W := [(α 1, .inl (cI, 5, .inl (d_st σ))), (α 2, .inl (cI, 204, .inl (d_nu σ))), (α 3, .inl (cI, 204, .inl (d_bl σ))), (α 4, .inl (cI, 204, .inl (d_wr σ))), (α 5, .inl (cI, 192, .inl (d_se σ)))]
set_option maxHeartbeats 4000000 in
set_option maxRecDepth 100000 in
theorem c_X4_adopt (l : Launch) (G : GG) (γ : Nat) (η : Nat → Nat) (ring : Nat → Option Nat) (o n : Nat) (d t pd rq sl : Nat) (fs : List Value) (a : Int32) (tb : Nat × Nat × Nat) (ho : o < 6) (hn : n ≤ 6) (hok : ok_X0_init (d_st' dPre firstS)) : Nw G l yX4_adopt wsX4_adopt 4 111 6 818 [.ref γ, .int a] (gW γ d t pd rq (η 0) sl ++ (hW G.2.2 η (ring, nI o, nI n) ++ [(d, .inr (0, fs))])) (sT tb) (some (.int a)) (AP G γ η ring o n d t pd rq sl [(d, .inr (0, fs))] a) := by
  intro sz
  refine Met.ofW (cc := cX4_adopt) (maxL := 3) (ret := (some .int)) (by decide) rfl ?_
  intro p e s m args below meth c s₁ B hml hv
  obtain ⟨rfl, hsz, hP, hK, hD0, hT⟩ := hv
  have C0 : cA p s m meth c ([.ref γ, .int a] : List Value).toArray cX4_adopt 3 (some .int) wsX4_adopt RX4 := ⟨B.exec, B.bytes, B.returns, hml, findClass_of_methodNamed B.named, atoms_spec (ws := wsX4_adopt) B.pre, B.notSynchronized⟩
  obtain ⟨hx, hb, hr, hml, hown, hts, hlocks⟩ := id C0
  have hF : CallFix p m c cX4_adopt 3 s _ wsX4_adopt RX4 := ⟨hx, hb, hml, hown, hts⟩
  have hinX4 : ∀ w ∈ wsX40, w ∈ wsX4_adopt := by decide +kernel
  have hinX0 : ∀ w ∈ wsX00, w ∈ wsX4_adopt := by decide +kernel
  subst hsz
  obtain ⟨w0, hw0⟩ : ∃ w0 : va_W, w0 = gW γ d t pd rq (η 0) sl ++ (hW G.2.2 η (ring, nI o, nI n) ++ [(d, .inr (0, fs))]) := ⟨_, rfl⟩
  have hD : va_D (va_A w0 s.heap.size) (gW γ d t pd rq (η 0) sl ++ (hW G.2.2 η (ring, nI o, nI n) ++ [(d, .inr (0, fs))])) := by rw [hw0]; exact hD0.self
  have hA : ∀ q : Nat, s.heap.size ≤ q → va_A w0 s.heap.size q := fun q h => Or.inr h
  rw [← hw0] at hT
  rw [show QN G (gW γ d t pd rq (η 0) sl ++ (hW G.2.2 η (ring, nI o, nI n) ++ [(d, .inr (0, fs))])) = QN G w0 from by rw [hw0], show va_A (gW γ d t pd rq (η 0) sl ++ (hW G.2.2 η (ring, nI o, nI n) ++ [(d, .inr (0, fs))])) s.heap.size = va_A w0 s.heap.size from by rw [hw0]]
  have hS : va_S (va_A w0 s.heap.size) s.heap s.heap [] := va_S.rf
  have hl := lv_entry ([.ref γ, .int a]) (n := 3) (Nat.le_of_ble_eq_true rfl)
  rw [lg_entry_eq]
  generalize (lg_sl ([.ref γ, .int a]) ++ List.replicate (3 - (lg_sl ([.ref γ, .int a])).length) Slot.unset).toArray = ls at hl ⊢
  have hl : lv_has ls 3 [(0, .ref γ), (1, .int a)] := hl
  refine lv_iload_n hx hb dX4_adopt_0 rfl (lv_at hl 1 rfl) ?_
  refine lv_if_lt (tgt := 43) hx hb dX4_adopt_1 (by decide) (fun (c_1 : a < 0) => ?_) (fun (c_1 : ¬ a < 0) => ?_)
  · refine W.widen (k := 6) (n := 818) (Nat.zero_le _) (Nat.zero_le _) ?_
    refine lv_iload_n hx hb dX4_adopt_43 rfl (lv_at hl 1 rfl) ?_
    exact W.iret hx hb hr (fun t ht hW => ⟨rfl, ⟨_, Or.inl ⟨c_1, rfl⟩, by rw [ht]; exact hP, hD⟩, hS.F ht⟩) hS.2.2 dX4_adopt_44
  refine lv_aload_n hx hb dX4_adopt_4 rfl (lv_at hl 0 rfl) ?_
  refine va_get (D := G.1) (ci := 4) (v := .ref (η 0)) (C := RX4) (T := TX4) (N := 6) hx hb hts hinX4 hown hK.1 hP 0 rfl rfl 4 (by decide) (hts (.fieldLink RX4 36 "GrooveTurns" "history" "LGrooveTurns$History;") (by decide +kernel)) (fun _ h9 => h9) rfl dX4_adopt_5 ?_
  refine lv_aload_n hx hb dX4_adopt_8 rfl (lv_at hl 0 rfl) ?_
  refine va_get (D := G.1) (ci := 4) (v := .ref d) (C := RX4) (T := TX4) (N := 6) hx hb hts hinX4 hown hK.1 hP 0 rfl rfl 0 (by decide) (hts (.fieldLink RX4 12 "GrooveTurns" "disc" "LGrooveTurns$Disc;") (by decide +kernel)) (fun _ h9 => h9) rfl dX4_adopt_9 ?_
  refine wrVR (As := [.ref d]) (rest := []) (c_X1_keep l G η ring o n d fs ho hn) hF (cwV 1 hts gX4_adopt_X1_keep rfl rfl rfl (by decide +kernel) ⟨Nat.le_of_ble_eq_true rfl, Nat.le_of_ble_eq_true rfl⟩) (va_recv hK.1 hP (ci := 1) (q0 := 1) rfl rfl) hK hP hD hS (fst_app (fst_H _ _) rfl) rfl hl.1 rfl (Nat.le_of_ble_eq_true rfl) dX4_adopt_12 ⟨Nat.zero_le _, Nat.zero_le _⟩ (fun H locs hP hD hS => ?_)
  rw [kO_eq, kN_eq] at hP hD
  have hP : va_P G.1 vwCl (gW γ d t pd rq (η 0) sl ++ (hW G.2.2 η (va_up ring ((o + n) % 6) (some d), nI (kO o n), nI (kN n)) ++ [(d, .inr (0, fs))])) H := hP
  have hD : va_D (va_A w0 s.heap.size) (gW γ d t pd rq (η 0) sl ++ (hW G.2.2 η (va_up ring ((o + n) % 6) (some d), nI (kO o n), nI (kN n)) ++ [(d, .inr (0, fs))])) := hD
  cases hq : ring ((o + n) % 6) with
  | none =>
    refine lv_astore_nN (lv' := [(2, .null), (0, .ref γ), (1, .int a)]) hx hb dX4_adopt_15 rfl hl (by decide) rfl (fun ls hl => ?_)
    refine lv_aload_n hx hb dX4_adopt_16 rfl (lv_at hl 1 rfl) ?_
    refine lv_aload_n hx hb dX4_adopt_17 rfl (lv_at hl 1 rfl) ?_
    refine va_get (D := G.1) (ci := 4) (v := .ref t) (C := RX4) (T := TX4) (N := 6) hx hb hts hinX4 hown hK.1 hP 0 rfl rfl 1 (by decide) (hts (.fieldLink RX4 16 "GrooveTurns" "trial" "LGrooveTurns$Disc;") (by decide +kernel)) (fun _ h9 => h9) rfl dX4_adopt_18 ?_
    refine va_put (D := G.1) (ci := 4) (v := .ref t) (ty := .object "GrooveTurns$Disc") (C := RX4) (T := TX4) (N := 6) hx hb hts hinX4 tyX4 tyX4_ok nmX4 hown hK.1 hP hD hS 0 rfl rfl 0 (by decide) (hts (.fieldLink RX4 12 "GrooveTurns" "disc" "LGrooveTurns$Disc;") (by decide +kernel)) (fun _ h9 => h9) rfl (by decide +kernel) rfl rfl (Nat.le_of_ble_eq_true rfl) dX4_adopt_21 (fun H locs hP hD hS => ?_)
    have hP : va_P G.1 vwCl (gW γ t t pd rq (η 0) sl ++ (hW G.2.2 η (va_up ring ((o + n) % 6) (some d), nI (kO o n), nI (kN n)) ++ [(d, .inr (0, fs))])) H := hP
    have hD : va_D (va_A w0 s.heap.size) (gW γ t t pd rq (η 0) sl ++ (hW G.2.2 η (va_up ring ((o + n) % 6) (some d), nI (kO o n), nI (kN n)) ++ [(d, .inr (0, fs))])) := hD
    refine lv_aload_n hx hb dX4_adopt_24 rfl (lv_at hl 1 rfl) ?_
    refine lv_aload_nN hx hb dX4_adopt_25 rfl (lv_at hl 0 rfl) ?_
    refine lv_ifnonnullN hx hb dX4_adopt_26 ?_
    refine va_new (D := G.1) (ci := 0) (fs := [.null, .null, .null, .null, .null, .int 0, .int 0, .int 0, .int 0]) (C := RX0) (T := TX0) (N := 9) hx hb hts hinX0 tyX0 tyX0_ok hown (hts (.classLink RX4 9 RX0) (by decide +kernel)) (hts (.instantiable RX0 9) (by decide +kernel)) (hts (.initialized RX0) (by decide +kernel)) hK.1 hP hD hS hA rfl (fun j hj => by rcases (show j = 0 ∨ j = 1 ∨ j = 2 ∨ j = 3 ∨ j = 4 ∨ j = 5 ∨ j = 6 ∨ j = 7 ∨ j = 8 by omega) with rfl | rfl | rfl | rfl | rfl | rfl | rfl | rfl | rfl <;> rfl) (Nat.le_of_ble_eq_true rfl) (Nat.le_of_ble_eq_true rfl) dX4_adopt_29 (fun g H hP hD hS => ?_)
    refine lv_dup hx hb dX4_adopt_32 rfl ?_
    refine nwI (As := []) (rest := [.ref g, .ref γ]) (w := w0_X0 g) (c_X0_init l G g tb hok) sT.blind hF (cwI 0 hts gX4_adopt_X0_init rfl rfl rfl (hts (.initialized RX0) (by decide +kernel)) (hts (.methodLink RX4 11 yX0_init) (by decide +kernel)) (hts (.instanceMethod yX0_init) (by decide +kernel)) rfl (by decide +kernel) ⟨Nat.le_of_ble_eq_true rfl, Nat.le_of_ble_eq_true rfl⟩) hK hP hD hS hA (fun U hU hW hF => hT.to hS hF hU hW) rfl hl.1 rfl (Nat.le_of_ble_eq_true rfl) dX4_adopt_33 ⟨Nat.le_of_ble_eq_true rfl, Nat.le_of_ble_eq_true rfl⟩ (fun w1 H locs hB hP hD hS => ?_)
    obtain ⟨δ, hδ, rfl⟩ := hB
    have hP : va_P G.1 vwCl (gW γ t t pd rq (η 0) sl ++ (hW G.2.2 η (va_up ring ((o + n) % 6) (some d), nI (kO o n), nI (kN n)) ++ ([(d, .inr (0, fs))] ++ dW G.2.1 δ dNew))) H := hP
    have hD : va_D (va_A w0 s.heap.size) (gW γ t t pd rq (η 0) sl ++ (hW G.2.2 η (va_up ring ((o + n) % 6) (some d), nI (kO o n), nI (kN n)) ++ ([(d, .inr (0, fs))] ++ dW G.2.1 δ dNew))) := hD
    refine lv_goto (tgt := 40) hx hb dX4_adopt_36 (by decide) ?_
    refine va_put (D := G.1) (ci := 4) (v := .ref g) (ty := .object "GrooveTurns$Disc") (C := RX4) (T := TX4) (N := 6) hx hb hts hinX4 tyX4 tyX4_ok nmX4 hown hK.1 hP hD hS 0 rfl rfl 1 (by decide) (hts (.fieldLink RX4 16 "GrooveTurns" "trial" "LGrooveTurns$Disc;") (by decide +kernel)) (fun _ h9 => h9) rfl (by decide +kernel) rfl rfl (Nat.le_of_ble_eq_true rfl) dX4_adopt_40 (fun H locs hP hD hS => ?_)
    have hP : va_P G.1 vwCl (gW γ t g pd rq (η 0) sl ++ (hW G.2.2 η (va_up ring ((o + n) % 6) (some d), nI (kO o n), nI (kN n)) ++ ([(d, .inr (0, fs))] ++ dW G.2.1 δ dNew))) H := hP
    have hD : va_D (va_A w0 s.heap.size) (gW γ t g pd rq (η 0) sl ++ (hW G.2.2 η (va_up ring ((o + n) % 6) (some d), nI (kO o n), nI (kN n)) ++ ([(d, .inr (0, fs))] ++ dW G.2.1 δ dNew))) := hD
    refine lv_iload_n hx hb dX4_adopt_43 rfl (lv_at hl 2 rfl) ?_
    exact W.iret hx hb hr (fun t ht hW => ⟨rfl, ⟨_, Or.inr ⟨c_1, g, dW G.2.1 δ dNew, Or.inr ⟨hq, δ, hδ, rfl⟩, rfl⟩, by rw [ht]; exact hP, hD⟩, hS.F ht⟩) hS.2.2 dX4_adopt_44
  | some g =>
    refine lv_astore_n (lv' := [(2, .ref g), (0, .ref γ), (1, .int a)]) hx hb dX4_adopt_15 rfl hl (by decide) rfl (fun ls hl => ?_)
    refine lv_aload_n hx hb dX4_adopt_16 rfl (lv_at hl 1 rfl) ?_
    refine lv_aload_n hx hb dX4_adopt_17 rfl (lv_at hl 1 rfl) ?_
    refine va_get (D := G.1) (ci := 4) (v := .ref t) (C := RX4) (T := TX4) (N := 6) hx hb hts hinX4 hown hK.1 hP 0 rfl rfl 1 (by decide) (hts (.fieldLink RX4 16 "GrooveTurns" "trial" "LGrooveTurns$Disc;") (by decide +kernel)) (fun _ h9 => h9) rfl dX4_adopt_18 ?_
    refine va_put (D := G.1) (ci := 4) (v := .ref t) (ty := .object "GrooveTurns$Disc") (C := RX4) (T := TX4) (N := 6) hx hb hts hinX4 tyX4 tyX4_ok nmX4 hown hK.1 hP hD hS 0 rfl rfl 0 (by decide) (hts (.fieldLink RX4 12 "GrooveTurns" "disc" "LGrooveTurns$Disc;") (by decide +kernel)) (fun _ h9 => h9) rfl (by decide +kernel) rfl rfl (Nat.le_of_ble_eq_true rfl) dX4_adopt_21 (fun H locs hP hD hS => ?_)
    have hP : va_P G.1 vwCl (gW γ t t pd rq (η 0) sl ++ (hW G.2.2 η (va_up ring ((o + n) % 6) (some d), nI (kO o n), nI (kN n)) ++ [(d, .inr (0, fs))])) H := hP
    have hD : va_D (va_A w0 s.heap.size) (gW γ t t pd rq (η 0) sl ++ (hW G.2.2 η (va_up ring ((o + n) % 6) (some d), nI (kO o n), nI (kN n)) ++ [(d, .inr (0, fs))])) := hD
    refine lv_aload_n hx hb dX4_adopt_24 rfl (lv_at hl 1 rfl) ?_
    refine lv_aload_n hx hb dX4_adopt_25 rfl (lv_at hl 0 rfl) ?_
    refine lv_ifnonnull (tgt := 39) hx hb dX4_adopt_26 (by decide) ?_
    refine lv_aload_n hx hb dX4_adopt_39 rfl (lv_at hl 0 rfl) ?_
    refine va_put (D := G.1) (ci := 4) (v := .ref g) (ty := .object "GrooveTurns$Disc") (C := RX4) (T := TX4) (N := 6) hx hb hts hinX4 tyX4 tyX4_ok nmX4 hown hK.1 hP hD hS 0 rfl rfl 1 (by decide) (hts (.fieldLink RX4 16 "GrooveTurns" "trial" "LGrooveTurns$Disc;") (by decide +kernel)) (fun _ h9 => h9) rfl (by decide +kernel) rfl rfl (Nat.le_of_ble_eq_true rfl) dX4_adopt_40 (fun H locs hP hD hS => ?_)
    have hP : va_P G.1 vwCl (gW γ t g pd rq (η 0) sl ++ (hW G.2.2 η (va_up ring ((o + n) % 6) (some d), nI (kO o n), nI (kN n)) ++ ([(d, .inr (0, fs))] ++ []))) H := hP
    have hD : va_D (va_A w0 s.heap.size) (gW γ t g pd rq (η 0) sl ++ (hW G.2.2 η (va_up ring ((o + n) % 6) (some d), nI (kO o n), nI (kN n)) ++ ([(d, .inr (0, fs))] ++ []))) := hD
    refine W.widen (k := 6) (n := 818) (Nat.zero_le _) (Nat.zero_le _) ?_
    refine lv_iload_n hx hb dX4_adopt_43 rfl (lv_at hl 2 rfl) ?_
    exact W.iret hx hb hr (fun t ht hW => ⟨rfl, ⟨_, Or.inr ⟨c_1, g, [], Or.inl ⟨hq, rfl⟩, rfl⟩, by rw [ht]; exact hP, hD⟩, hS.F ht⟩) hS.2.2 dX4_adopt_44
