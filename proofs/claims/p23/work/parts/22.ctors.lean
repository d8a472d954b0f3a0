section NQ
variable {p : Program} {l : Launch} {e : Env} {R : Room} {s : State} {m : MethodId} {args : Array Value} {below : List Frame} {meth : Method} {c : Code} {H : Heap} {locs : List Loc} {cells slots : Nat} {Q : State → Prop} {cc : ByteArray} {pc : Nat} {ls : Array Slot} {rest : List Value} {A : Nat → Prop} {H0 : Heap} {G : GG}
/-- a row of discs is made -/
theorem va_newd {W0 : va_W} {own : String} {index : Nat} {k : Int32} {N : Nat} (hx : p.tables.exec = Jvm.exec) (hb : c.code = cc) (hown : s.vm.findClass own = some m.cls) (hcl : (Cond.classLink own index RX0).before args s = true) (hao : va_AO RX0 s) (hK : cK G s) (hP : va_P G.1 vwCl W0 H) (hD : va_D A W0) (hS : va_S A H0 H locs) (hA : ∀ q, H0.size ≤ q → A q) (hn : ¬ k < 0) (hN : k.toNatClampNeg = N) (hby : N * 4 ≤ 536870912) (hc : cells + 1 ≤ R.cells) (hs : slots + N ≤ R.slots) (hdg : decode cc pc = .ok (.anewarray index, 3))
    (kk : ∀ (q : Nat) (H1 : Heap), va_P G.1 vwCl (W0 ++ [(q, .inl (G.2.2, N, .inr (.inr (.inr (.inr (fun _ => none))))))]) H1 → va_D A (W0 ++ [(q, .inl (G.2.2, N, .inr (.inr (.inr (.inr (fun _ => none))))))]) → va_S A H0 H1 locs → W p l e R s m args below meth c H1 locs (cells + 1) (slots + N) Q (F0 m (pc + 3) ls (.ref q :: rest))) : W p l e R s m args below meth c H locs cells slots Q (F0 m pc ls (.int k :: rest)) := by
  refine va_newq hx hb hown hcl hao hK.1 hP hD hS hA hn hN hby hc hs hdg (fun q cA H1 hK1 hP1 hD1 hS1 => ?_)
  obtain ⟨_, _, _, _, _, e1⟩ := (hK.1.2 1 (G.2.2, .object RX0) rfl).2
  obtain ⟨_, _, _, _, _, e2⟩ := (hK1.2 2 (cA, .object RX0) rfl).2
  have e3 : cA = G.2.2 := Option.some.inj (e2.symm.trans e1)
  subst e3
  exact kk q H1 hP1 hD1 hS1
end NQ
abbrev HS : Type := (Nat → Option Nat) × Int32 × Int32
abbrev hW (cR : ClassId) (α : Nat → Nat) (η : HS) : va_W := [(α 0, .inr (1, [.ref (α 1), .int η.2.1, .int η.2.2])), (α 1, .inl (cR, 6, .inr (.inr (.inr (.inr η.1)))))]
def tAO : (Nat → Prop) → State → Prop := fun _ U => va_AO RX0 U
theorem tAO.blind : FB2 tAO := fun _ _ _ _ _ h => h
def ad (l : List Nat) : Nat → Nat := fun k => l.getD k 0
def d0 : DS := (firstS, fun _ => -6, fun _ => 0, fun _ => 0, fun a => nI a, 0, 0, 0, 0)
def q0 : QS := (fun _ => 0, fun _ => 0, fun _ => 0, 0, 0)
def p0 : PS := (fun _ => 0, 0)
def h0 : HS := (fun _ => none, 0, 0)
abbrev w0_X2 (g : Nat) : va_W := [(g, .inr (2, [.null, .int 0]))]
set_option maxHeartbeats 4000000 in
set_option maxRecDepth 100000 in
theorem c_X2_init (l : Launch) (G : GG) (g : Nat) : Nw G l yX2_init wsX2_init 1 30 1 60 [.ref g] (w0_X2 g) nT none (fun w1 => ∃ α : Nat → Nat, α 0 = g ∧ w1 = pW G.2.1 α p0) := by
  intro sz
  refine Met.ofW (cc := cX2_init) (maxL := 1) (ret := none) (by decide) rfl ?_
  intro p e s m args below meth c s₁ B hml hv
  obtain ⟨rfl, hsz, hP, hK, hD0, hT⟩ := hv
  have C0 : cA p s m meth c ([.ref g] : List Value).toArray cX2_init 1 none wsX2_init RX2 := ⟨B.exec, B.bytes, B.returns, hml, findClass_of_methodNamed B.named, atoms_spec (ws := wsX2_init) B.pre, B.notSynchronized⟩
  obtain ⟨hx, hb, hr, hml, hown, hts, hlocks⟩ := id C0
  have hin : meth.name = "<init>" := (name_of_methodNamed B.named B.method).1
  have hinX2 : ∀ w ∈ wsX20, w ∈ wsX2_init := by decide +kernel
  subst hsz
  have hD : va_D (va_A (w0_X2 g) s.heap.size) (w0_X2 g) := hD0.self
  have hA : ∀ q : Nat, s.heap.size ≤ q → va_A (w0_X2 g) s.heap.size q := fun q h => Or.inr h
  obtain ⟨wz, hwz⟩ : ∃ wz : va_W, wz = w0_X2 g := ⟨_, rfl⟩
  rw [← hwz] at hA hT
  rw [show va_A (w0_X2 g) s.heap.size = va_A wz s.heap.size from by rw [hwz]] at hD
  rw [show QN G (w0_X2 g) = QN G wz from by rw [hwz], show va_A (w0_X2 g) s.heap.size = va_A wz s.heap.size from by rw [hwz]]
  have hS : va_S (va_A wz s.heap.size) s.heap s.heap [] := va_S.rf
  have hl := lv_entry ([.ref g]) (n := 1) (Nat.le_of_ble_eq_true rfl)
  rw [lg_entry_eq]
  generalize (lg_sl ([.ref g]) ++ List.replicate (1 - (lg_sl ([.ref g])).length) Slot.unset).toArray = ls at hl ⊢
  have hl : lv_has ls 1 [(0, .ref g)] := hl
  refine lv_aload_n hx hb dX2_init_0 rfl (lv_at hl 0 rfl) ?_
  refine W.objInit hx hb hown (hts (.methodLink RX2 3 objectInit) (by decide +kernel)) (hts (.instanceMethod objectInit) (by decide +kernel)) (hts (.code objectInit ⟨#[0xb1]⟩ 1 none) (by decide +kernel)) rfl (by rw [hml]; exact hl.1) rfl dX2_init_1 (Nat.le_of_ble_eq_true rfl) (Nat.le_of_ble_eq_true rfl) ?_
  refine W.eq (g2 := F0 m 4 ls []) rfl ?_
  refine lv_aload_n hx hb dX2_init_4 rfl (lv_at hl 0 rfl) ?_
  refine lv_bipush (v := 60) hx hb dX2_init_5 (by decide) ?_
  refine va_newi (N := 60) hx hb (hts (.arrayClass .int) (by decide +kernel)) hK hP hD hS hA (by decide) (by decide) (by decide) (Nat.le_of_ble_eq_true rfl) (Nat.le_of_ble_eq_true rfl) dX2_init_7 (fun a1 H hP hD hS => ?_)
  have hP : va_P G.1 vwCl [(g, .inr (2, [.null, .int 0])), (a1, .inl (G.2.1, 60, .inl (fun _ => 0)))] H := hP
  have hD : va_D (va_A wz s.heap.size) [(g, .inr (2, [.null, .int 0])), (a1, .inl (G.2.1, 60, .inl (fun _ => 0)))] := hD
  refine va_putF (D := G.1) (ci := 2) (v := .ref a1) (ty := .array .int) (C := RX2) (T := TX2) (N := 2) hx hb hts hinX2 tyX2 tyX2_ok nmX2 hown hK.1 hP hD hS 0 rfl rfl 0 (by decide) (hts (.fieldLink RX2 9 "GrooveTurns$Pad" "signs" "[I") (by decide +kernel)) (fun _ h9 => h9) rfl hin rfl (by decide +kernel) rfl rfl (Nat.le_of_ble_eq_true rfl) dX2_init_9 (fun H locs hP hD hS => ?_)
  have hP : va_P G.1 vwCl [(g, .inr (2, [.ref a1, .int 0])), (a1, .inl (G.2.1, 60, .inl (fun _ => 0)))] H := hP
  have hD : va_D (va_A wz s.heap.size) [(g, .inr (2, [.ref a1, .int 0])), (a1, .inl (G.2.1, 60, .inl (fun _ => 0)))] := hD
  refine lv_aload_n hx hb dX2_init_12 rfl (lv_at hl 0 rfl) ?_
  refine lv_iconst (v := 0) hx hb dX2_init_13 (by decide) ?_
  refine va_put (D := G.1) (ci := 2) (v := .int 0) (ty := .int) (C := RX2) (T := TX2) (N := 2) hx hb hts hinX2 tyX2 tyX2_ok nmX2 hown hK.1 hP hD hS 0 rfl rfl 1 (by decide) (hts (.fieldLink RX2 15 "GrooveTurns$Pad" "length" "I") (by decide +kernel)) (fun _ h9 => h9) rfl (by decide +kernel) rfl rfl (Nat.le_of_ble_eq_true rfl) dX2_init_14 (fun H locs hP hD hS => ?_)
  have hP : va_P G.1 vwCl [(g, .inr (2, [.ref a1, .int 0])), (a1, .inl (G.2.1, 60, .inl (fun _ => 0)))] H := hP
  have hD : va_D (va_A wz s.heap.size) [(g, .inr (2, [.ref a1, .int 0])), (a1, .inl (G.2.1, 60, .inl (fun _ => 0)))] := hD
  exact W.vret hx hb hr (fun t ht hW => ⟨rfl, ⟨_, ⟨ad [g, a1], rfl, rfl⟩, by rw [ht]; exact hP, hD⟩, hS.F ht⟩) hS.2.2 dX2_init_17
abbrev w0_X3 (g : Nat) : va_W := [(g, .inr (3, [.null, .null, .null, .int 0, .int 0]))]
set_option maxHeartbeats 4000000 in
set_option maxRecDepth 100000 in
theorem c_X3_init (l : Launch) (G : GG) (g : Nat) : Nw G l yX3_init wsX3_init 1 30 3 63 [.ref g] (w0_X3 g) nT none (fun w1 => ∃ α : Nat → Nat, α 0 = g ∧ w1 = qW G.2.1 α q0) := by
  intro sz
  refine Met.ofW (cc := cX3_init) (maxL := 1) (ret := none) (by decide) rfl ?_
  intro p e s m args below meth c s₁ B hml hv
  obtain ⟨rfl, hsz, hP, hK, hD0, hT⟩ := hv
  have C0 : cA p s m meth c ([.ref g] : List Value).toArray cX3_init 1 none wsX3_init RX3 := ⟨B.exec, B.bytes, B.returns, hml, findClass_of_methodNamed B.named, atoms_spec (ws := wsX3_init) B.pre, B.notSynchronized⟩
  obtain ⟨hx, hb, hr, hml, hown, hts, hlocks⟩ := id C0
  have hin : meth.name = "<init>" := (name_of_methodNamed B.named B.method).1
  have hinX3 : ∀ w ∈ wsX30, w ∈ wsX3_init := by decide +kernel
  subst hsz
  have hD : va_D (va_A (w0_X3 g) s.heap.size) (w0_X3 g) := hD0.self
  have hA : ∀ q : Nat, s.heap.size ≤ q → va_A (w0_X3 g) s.heap.size q := fun q h => Or.inr h
  obtain ⟨wz, hwz⟩ : ∃ wz : va_W, wz = w0_X3 g := ⟨_, rfl⟩
  rw [← hwz] at hA hT
  rw [show va_A (w0_X3 g) s.heap.size = va_A wz s.heap.size from by rw [hwz]] at hD
  rw [show QN G (w0_X3 g) = QN G wz from by rw [hwz], show va_A (w0_X3 g) s.heap.size = va_A wz s.heap.size from by rw [hwz]]
  have hS : va_S (va_A wz s.heap.size) s.heap s.heap [] := va_S.rf
  have hl := lv_entry ([.ref g]) (n := 1) (Nat.le_of_ble_eq_true rfl)
  rw [lg_entry_eq]
  generalize (lg_sl ([.ref g]) ++ List.replicate (1 - (lg_sl ([.ref g])).length) Slot.unset).toArray = ls at hl ⊢
  have hl : lv_has ls 1 [(0, .ref g)] := hl
  refine lv_aload_n hx hb dX3_init_0 rfl (lv_at hl 0 rfl) ?_
  refine W.objInit hx hb hown (hts (.methodLink RX3 3 objectInit) (by decide +kernel)) (hts (.instanceMethod objectInit) (by decide +kernel)) (hts (.code objectInit ⟨#[0xb1]⟩ 1 none) (by decide +kernel)) rfl (by rw [hml]; exact hl.1) rfl dX3_init_1 (Nat.le_of_ble_eq_true rfl) (Nat.le_of_ble_eq_true rfl) ?_
  refine W.eq (g2 := F0 m 4 ls []) rfl ?_
  refine lv_aload_n hx hb dX3_init_4 rfl (lv_at hl 0 rfl) ?_
  refine lv_bipush (v := 21) hx hb dX3_init_5 (by decide) ?_
  refine va_newi (N := 21) hx hb (hts (.arrayClass .int) (by decide +kernel)) hK hP hD hS hA (by decide) (by decide) (by decide) (Nat.le_of_ble_eq_true rfl) (Nat.le_of_ble_eq_true rfl) dX3_init_7 (fun a1 H hP hD hS => ?_)
  have hP : va_P G.1 vwCl [(g, .inr (3, [.null, .null, .null, .int 0, .int 0])), (a1, .inl (G.2.1, 21, .inl (fun _ => 0)))] H := hP
  have hD : va_D (va_A wz s.heap.size) [(g, .inr (3, [.null, .null, .null, .int 0, .int 0])), (a1, .inl (G.2.1, 21, .inl (fun _ => 0)))] := hD
  refine va_putF (D := G.1) (ci := 3) (v := .ref a1) (ty := .array .int) (C := RX3) (T := TX3) (N := 5) hx hb hts hinX3 tyX3 tyX3_ok nmX3 hown hK.1 hP hD hS 0 rfl rfl 0 (by decide) (hts (.fieldLink RX3 9 "GrooveTurns$Requests" "addresses" "[I") (by decide +kernel)) (fun _ h9 => h9) rfl hin rfl (by decide +kernel) rfl rfl (Nat.le_of_ble_eq_true rfl) dX3_init_9 (fun H locs hP hD hS => ?_)
  have hP : va_P G.1 vwCl [(g, .inr (3, [.ref a1, .null, .null, .int 0, .int 0])), (a1, .inl (G.2.1, 21, .inl (fun _ => 0)))] H := hP
  have hD : va_D (va_A wz s.heap.size) [(g, .inr (3, [.ref a1, .null, .null, .int 0, .int 0])), (a1, .inl (G.2.1, 21, .inl (fun _ => 0)))] := hD
  refine lv_aload_n hx hb dX3_init_12 rfl (lv_at hl 0 rfl) ?_
  refine lv_bipush (v := 21) hx hb dX3_init_13 (by decide) ?_
  refine va_newi (N := 21) hx hb (hts (.arrayClass .int) (by decide +kernel)) hK hP hD hS hA (by decide) (by decide) (by decide) (Nat.le_of_ble_eq_true rfl) (Nat.le_of_ble_eq_true rfl) dX3_init_15 (fun a2 H hP hD hS => ?_)
  have hP : va_P G.1 vwCl [(g, .inr (3, [.ref a1, .null, .null, .int 0, .int 0])), (a1, .inl (G.2.1, 21, .inl (fun _ => 0))), (a2, .inl (G.2.1, 21, .inl (fun _ => 0)))] H := hP
  have hD : va_D (va_A wz s.heap.size) [(g, .inr (3, [.ref a1, .null, .null, .int 0, .int 0])), (a1, .inl (G.2.1, 21, .inl (fun _ => 0))), (a2, .inl (G.2.1, 21, .inl (fun _ => 0)))] := hD
  refine va_putF (D := G.1) (ci := 3) (v := .ref a2) (ty := .array .int) (C := RX3) (T := TX3) (N := 5) hx hb hts hinX3 tyX3 tyX3_ok nmX3 hown hK.1 hP hD hS 0 rfl rfl 1 (by decide) (hts (.fieldLink RX3 15 "GrooveTurns$Requests" "numbers" "[I") (by decide +kernel)) (fun _ h9 => h9) rfl hin rfl (by decide +kernel) rfl rfl (Nat.le_of_ble_eq_true rfl) dX3_init_17 (fun H locs hP hD hS => ?_)
  have hP : va_P G.1 vwCl [(g, .inr (3, [.ref a1, .ref a2, .null, .int 0, .int 0])), (a1, .inl (G.2.1, 21, .inl (fun _ => 0))), (a2, .inl (G.2.1, 21, .inl (fun _ => 0)))] H := hP
  have hD : va_D (va_A wz s.heap.size) [(g, .inr (3, [.ref a1, .ref a2, .null, .int 0, .int 0])), (a1, .inl (G.2.1, 21, .inl (fun _ => 0))), (a2, .inl (G.2.1, 21, .inl (fun _ => 0)))] := hD
  refine lv_aload_n hx hb dX3_init_20 rfl (lv_at hl 0 rfl) ?_
  refine lv_bipush (v := 21) hx hb dX3_init_21 (by decide) ?_
  refine va_newi (N := 21) hx hb (hts (.arrayClass .int) (by decide +kernel)) hK hP hD hS hA (by decide) (by decide) (by decide) (Nat.le_of_ble_eq_true rfl) (Nat.le_of_ble_eq_true rfl) dX3_init_23 (fun a3 H hP hD hS => ?_)
  have hP : va_P G.1 vwCl [(g, .inr (3, [.ref a1, .ref a2, .null, .int 0, .int 0])), (a1, .inl (G.2.1, 21, .inl (fun _ => 0))), (a2, .inl (G.2.1, 21, .inl (fun _ => 0))), (a3, .inl (G.2.1, 21, .inl (fun _ => 0)))] H := hP
  have hD : va_D (va_A wz s.heap.size) [(g, .inr (3, [.ref a1, .ref a2, .null, .int 0, .int 0])), (a1, .inl (G.2.1, 21, .inl (fun _ => 0))), (a2, .inl (G.2.1, 21, .inl (fun _ => 0))), (a3, .inl (G.2.1, 21, .inl (fun _ => 0)))] := hD
  refine va_putF (D := G.1) (ci := 3) (v := .ref a3) (ty := .array .int) (C := RX3) (T := TX3) (N := 5) hx hb hts hinX3 tyX3 tyX3_ok nmX3 hown hK.1 hP hD hS 0 rfl rfl 2 (by decide) (hts (.fieldLink RX3 18 "GrooveTurns$Requests" "tracks" "[I") (by decide +kernel)) (fun _ h9 => h9) rfl hin rfl (by decide +kernel) rfl rfl (Nat.le_of_ble_eq_true rfl) dX3_init_25 (fun H locs hP hD hS => ?_)
  have hP : va_P G.1 vwCl [(g, .inr (3, [.ref a1, .ref a2, .ref a3, .int 0, .int 0])), (a1, .inl (G.2.1, 21, .inl (fun _ => 0))), (a2, .inl (G.2.1, 21, .inl (fun _ => 0))), (a3, .inl (G.2.1, 21, .inl (fun _ => 0)))] H := hP
  have hD : va_D (va_A wz s.heap.size) [(g, .inr (3, [.ref a1, .ref a2, .ref a3, .int 0, .int 0])), (a1, .inl (G.2.1, 21, .inl (fun _ => 0))), (a2, .inl (G.2.1, 21, .inl (fun _ => 0))), (a3, .inl (G.2.1, 21, .inl (fun _ => 0)))] := hD
  refine lv_aload_n hx hb dX3_init_28 rfl (lv_at hl 0 rfl) ?_
  refine lv_iconst (v := 0) hx hb dX3_init_29 (by decide) ?_
  refine va_put (D := G.1) (ci := 3) (v := .int 0) (ty := .int) (C := RX3) (T := TX3) (N := 5) hx hb hts hinX3 tyX3 tyX3_ok nmX3 hown hK.1 hP hD hS 0 rfl rfl 3 (by decide) (hts (.fieldLink RX3 21 "GrooveTurns$Requests" "size" "I") (by decide +kernel)) (fun _ h9 => h9) rfl (by decide +kernel) rfl rfl (Nat.le_of_ble_eq_true rfl) dX3_init_30 (fun H locs hP hD hS => ?_)
  have hP : va_P G.1 vwCl [(g, .inr (3, [.ref a1, .ref a2, .ref a3, .int 0, .int 0])), (a1, .inl (G.2.1, 21, .inl (fun _ => 0))), (a2, .inl (G.2.1, 21, .inl (fun _ => 0))), (a3, .inl (G.2.1, 21, .inl (fun _ => 0)))] H := hP
  have hD : va_D (va_A wz s.heap.size) [(g, .inr (3, [.ref a1, .ref a2, .ref a3, .int 0, .int 0])), (a1, .inl (G.2.1, 21, .inl (fun _ => 0))), (a2, .inl (G.2.1, 21, .inl (fun _ => 0))), (a3, .inl (G.2.1, 21, .inl (fun _ => 0)))] := hD
  refine lv_aload_n hx hb dX3_init_33 rfl (lv_at hl 0 rfl) ?_
  refine lv_iconst (v := 0) hx hb dX3_init_34 (by decide) ?_
  refine va_put (D := G.1) (ci := 3) (v := .int 0) (ty := .int) (C := RX3) (T := TX3) (N := 5) hx hb hts hinX3 tyX3 tyX3_ok nmX3 hown hK.1 hP hD hS 0 rfl rfl 4 (by decide) (hts (.fieldLink RX3 25 "GrooveTurns$Requests" "place" "I") (by decide +kernel)) (fun _ h9 => h9) rfl (by decide +kernel) rfl rfl (Nat.le_of_ble_eq_true rfl) dX3_init_35 (fun H locs hP hD hS => ?_)
  have hP : va_P G.1 vwCl [(g, .inr (3, [.ref a1, .ref a2, .ref a3, .int 0, .int 0])), (a1, .inl (G.2.1, 21, .inl (fun _ => 0))), (a2, .inl (G.2.1, 21, .inl (fun _ => 0))), (a3, .inl (G.2.1, 21, .inl (fun _ => 0)))] H := hP
  have hD : va_D (va_A wz s.heap.size) [(g, .inr (3, [.ref a1, .ref a2, .ref a3, .int 0, .int 0])), (a1, .inl (G.2.1, 21, .inl (fun _ => 0))), (a2, .inl (G.2.1, 21, .inl (fun _ => 0))), (a3, .inl (G.2.1, 21, .inl (fun _ => 0)))] := hD
  exact W.vret hx hb hr (fun t ht hW => ⟨rfl, ⟨_, ⟨ad [g, a1, a2, a3], rfl, rfl⟩, by rw [ht]; exact hP, hD⟩, hS.F ht⟩) hS.2.2 dX3_init_38
abbrev w0_X1 (g : Nat) : va_W := [(g, .inr (1, [.null, .int 0, .int 0]))]
set_option maxHeartbeats 4000000 in
set_option maxRecDepth 100000 in
theorem c_X1_init (l : Launch) (G : GG) (g : Nat) : Nw G l yX1_init wsX1_init 1 30 1 6 [.ref g] (w0_X1 g) tAO none (fun w1 => ∃ α : Nat → Nat, α 0 = g ∧ w1 = hW G.2.2 α h0) := by
  intro sz
  refine Met.ofW (cc := cX1_init) (maxL := 1) (ret := none) (by decide) rfl ?_
  intro p e s m args below meth c s₁ B hml hv
  obtain ⟨rfl, hsz, hP, hK, hD0, hT⟩ := hv
  have C0 : cA p s m meth c ([.ref g] : List Value).toArray cX1_init 1 none wsX1_init RX1 := ⟨B.exec, B.bytes, B.returns, hml, findClass_of_methodNamed B.named, atoms_spec (ws := wsX1_init) B.pre, B.notSynchronized⟩
  obtain ⟨hx, hb, hr, hml, hown, hts, hlocks⟩ := id C0
  have hin : meth.name = "<init>" := (name_of_methodNamed B.named B.method).1
  have hinX1 : ∀ w ∈ wsX10, w ∈ wsX1_init := by decide +kernel
  subst hsz
  have hD : va_D (va_A (w0_X1 g) s.heap.size) (w0_X1 g) := hD0.self
  have hA : ∀ q : Nat, s.heap.size ≤ q → va_A (w0_X1 g) s.heap.size q := fun q h => Or.inr h
  obtain ⟨wz, hwz⟩ : ∃ wz : va_W, wz = w0_X1 g := ⟨_, rfl⟩
  rw [← hwz] at hA hT
  rw [show va_A (w0_X1 g) s.heap.size = va_A wz s.heap.size from by rw [hwz]] at hD
  rw [show QN G (w0_X1 g) = QN G wz from by rw [hwz], show va_A (w0_X1 g) s.heap.size = va_A wz s.heap.size from by rw [hwz]]
  have hS : va_S (va_A wz s.heap.size) s.heap s.heap [] := va_S.rf
  have hl := lv_entry ([.ref g]) (n := 1) (Nat.le_of_ble_eq_true rfl)
  rw [lg_entry_eq]
  generalize (lg_sl ([.ref g]) ++ List.replicate (1 - (lg_sl ([.ref g])).length) Slot.unset).toArray = ls at hl ⊢
  have hl : lv_has ls 1 [(0, .ref g)] := hl
  refine lv_aload_n hx hb dX1_init_0 rfl (lv_at hl 0 rfl) ?_
  refine W.objInit hx hb hown (hts (.methodLink RX1 3 objectInit) (by decide +kernel)) (hts (.instanceMethod objectInit) (by decide +kernel)) (hts (.code objectInit ⟨#[0xb1]⟩ 1 none) (by decide +kernel)) rfl (by rw [hml]; exact hl.1) rfl dX1_init_1 (Nat.le_of_ble_eq_true rfl) (Nat.le_of_ble_eq_true rfl) ?_
  refine W.eq (g2 := F0 m 4 ls []) rfl ?_
  refine lv_aload_n hx hb dX1_init_4 rfl (lv_at hl 0 rfl) ?_
  refine lv_bipush (v := 6) hx hb dX1_init_5 (by decide) ?_
  refine va_newd (N := 6) hx hb hown (hts (.classLink RX1 9 RX0) (by decide +kernel)) hT hK hP hD hS hA (by decide) (by decide) (by decide) (Nat.le_of_ble_eq_true rfl) (Nat.le_of_ble_eq_true rfl) dX1_init_7 (fun a1 H hP hD hS => ?_)
  have hP : va_P G.1 vwCl [(g, .inr (1, [.null, .int 0, .int 0])), (a1, .inl (G.2.2, 6, .inr (.inr (.inr (.inr (fun _ => none))))))] H := hP
  have hD : va_D (va_A wz s.heap.size) [(g, .inr (1, [.null, .int 0, .int 0])), (a1, .inl (G.2.2, 6, .inr (.inr (.inr (.inr (fun _ => none))))))] := hD
  refine va_putF (D := G.1) (ci := 1) (v := .ref a1) (ty := .array (.object "GrooveTurns$Disc")) (C := RX1) (T := TX1) (N := 3) hx hb hts hinX1 tyX1 tyX1_ok nmX1 hown hK.1 hP hD hS 0 rfl rfl 0 (by decide) (hts (.fieldLink RX1 11 "GrooveTurns$History" "ring" "[LGrooveTurns$Disc;") (by decide +kernel)) (fun _ h9 => h9) rfl hin rfl (by decide +kernel) rfl rfl (Nat.le_of_ble_eq_true rfl) dX1_init_10 (fun H locs hP hD hS => ?_)
  have hP : va_P G.1 vwCl [(g, .inr (1, [.ref a1, .int 0, .int 0])), (a1, .inl (G.2.2, 6, .inr (.inr (.inr (.inr (fun _ => none))))))] H := hP
  have hD : va_D (va_A wz s.heap.size) [(g, .inr (1, [.ref a1, .int 0, .int 0])), (a1, .inl (G.2.2, 6, .inr (.inr (.inr (.inr (fun _ => none))))))] := hD
  refine lv_aload_n hx hb dX1_init_13 rfl (lv_at hl 0 rfl) ?_
  refine lv_iconst (v := 0) hx hb dX1_init_14 (by decide) ?_
  refine va_put (D := G.1) (ci := 1) (v := .int 0) (ty := .int) (C := RX1) (T := TX1) (N := 3) hx hb hts hinX1 tyX1 tyX1_ok nmX1 hown hK.1 hP hD hS 0 rfl rfl 1 (by decide) (hts (.fieldLink RX1 17 "GrooveTurns$History" "oldest" "I") (by decide +kernel)) (fun _ h9 => h9) rfl (by decide +kernel) rfl rfl (Nat.le_of_ble_eq_true rfl) dX1_init_15 (fun H locs hP hD hS => ?_)
  have hP : va_P G.1 vwCl [(g, .inr (1, [.ref a1, .int 0, .int 0])), (a1, .inl (G.2.2, 6, .inr (.inr (.inr (.inr (fun _ => none))))))] H := hP
  have hD : va_D (va_A wz s.heap.size) [(g, .inr (1, [.ref a1, .int 0, .int 0])), (a1, .inl (G.2.2, 6, .inr (.inr (.inr (.inr (fun _ => none))))))] := hD
  refine lv_aload_n hx hb dX1_init_18 rfl (lv_at hl 0 rfl) ?_
  refine lv_iconst (v := 0) hx hb dX1_init_19 (by decide) ?_
  refine va_put (D := G.1) (ci := 1) (v := .int 0) (ty := .int) (C := RX1) (T := TX1) (N := 3) hx hb hts hinX1 tyX1 tyX1_ok nmX1 hown hK.1 hP hD hS 0 rfl rfl 2 (by decide) (hts (.fieldLink RX1 21 "GrooveTurns$History" "size" "I") (by decide +kernel)) (fun _ h9 => h9) rfl (by decide +kernel) rfl rfl (Nat.le_of_ble_eq_true rfl) dX1_init_20 (fun H locs hP hD hS => ?_)
  have hP : va_P G.1 vwCl [(g, .inr (1, [.ref a1, .int 0, .int 0])), (a1, .inl (G.2.2, 6, .inr (.inr (.inr (.inr (fun _ => none))))))] H := hP
  have hD : va_D (va_A wz s.heap.size) [(g, .inr (1, [.ref a1, .int 0, .int 0])), (a1, .inl (G.2.2, 6, .inr (.inr (.inr (.inr (fun _ => none))))))] := hD
  exact W.vret hx hb hr (fun t ht hW => ⟨rfl, ⟨_, ⟨ad [g, a1], rfl, rfl⟩, by rw [ht]; exact hP, hD⟩, hS.F ht⟩) hS.2.2 dX1_init_23
def dPre : DS := (fun _ => 0, fun _ => 0, fun _ => 0, fun _ => 0, fun _ => 0, 0, 0, 0, 0)
def dNew : DS := s_X0_init (d_st' dPre firstS)
theorem PT.blind {G : GG} {av : List Value} {w : va_W} {t n : Nat} {f : NI} : FrameBlind (PT G av w (tb_at t n f)) := fun a U g mk q => by
  obtain ⟨q0, q1, q2, q3, q4⟩ := q
  exact ⟨q0, q1, q2.call, q3, va_T.moved (u := U) (U := U.calling g mk a) (Vm.Alike.refl U.vm) q4⟩
abbrev w0_X0 (g : Nat) : va_W := [(g, .inr (0, [.null, .null, .null, .null, .null, .int 0, .int 0, .int 0, .int 0]))]
set_option maxHeartbeats 4000000 in
set_option maxRecDepth 100000 in
theorem c_X0_init (l : Launch) (G : GG) (g : Nat) (tb : Nat × Nat × Nat) (hok : ok_X0_init (d_st' dPre firstS)) : Nw G l yX0_init wsX0_init 3 90 5 809 [.ref g] (w0_X0 g) (sT tb) none (fun w1 => ∃ α : Nat → Nat, α 0 = g ∧ w1 = dW G.2.1 α dNew) := by
  intro sz
  refine Met.ofW (cc := cX0_init) (maxL := 2) (ret := none) (by decide) rfl ?_
  intro p e s m args below meth c s₁ B hml hv
  obtain ⟨rfl, hsz, hP, hK, hD0, hT⟩ := hv
  have C0 : cA p s m meth c ([.ref g] : List Value).toArray cX0_init 2 none wsX0_init RX0 := ⟨B.exec, B.bytes, B.returns, hml, findClass_of_methodNamed B.named, atoms_spec (ws := wsX0_init) B.pre, B.notSynchronized⟩
  obtain ⟨hx, hb, hr, hml, hown, hts, hlocks⟩ := id C0
  have hin : meth.name = "<init>" := (name_of_methodNamed B.named B.method).1
  have hinX0 : ∀ w ∈ wsX00, w ∈ wsX0_init := by decide +kernel
  subst hsz
  have hD : va_D (va_A (w0_X0 g) s.heap.size) (w0_X0 g) := hD0.self
  have hA : ∀ q : Nat, s.heap.size ≤ q → va_A (w0_X0 g) s.heap.size q := fun q h => Or.inr h
  obtain ⟨wz, hwz⟩ : ∃ wz : va_W, wz = w0_X0 g := ⟨_, rfl⟩
  rw [← hwz] at hA hT
  rw [show va_A (w0_X0 g) s.heap.size = va_A wz s.heap.size from by rw [hwz]] at hD
  rw [show QN G (w0_X0 g) = QN G wz from by rw [hwz], show va_A (w0_X0 g) s.heap.size = va_A wz s.heap.size from by rw [hwz]]
  have hS : va_S (va_A wz s.heap.size) s.heap s.heap [] := va_S.rf
  have hl := lv_entry ([.ref g]) (n := 2) (Nat.le_of_ble_eq_true rfl)
  rw [lg_entry_eq]
  generalize (lg_sl ([.ref g]) ++ List.replicate (2 - (lg_sl ([.ref g])).length) Slot.unset).toArray = ls at hl ⊢
  have hl : lv_has ls 2 [(0, .ref g)] := hl
  refine lv_aload_n hx hb dX0_init_0 rfl (lv_at hl 0 rfl) ?_
  refine W.objInit hx hb hown (hts (.methodLink RX0 3 objectInit) (by decide +kernel)) (hts (.instanceMethod objectInit) (by decide +kernel)) (hts (.code objectInit ⟨#[0xb1]⟩ 1 none) (by decide +kernel)) rfl (by rw [hml]; exact hl.1) rfl dX0_init_1 (Nat.le_of_ble_eq_true rfl) (Nat.le_of_ble_eq_true rfl) ?_
  refine W.eq (g2 := F0 m 4 ls []) rfl ?_
  refine lv_aload_n hx hb dX0_init_4 rfl (lv_at hl 0 rfl) ?_
  refine va_getsN (host := RX4) hx hb hT.1.1 hS hown (va_Nw.use rfl (hK.nest 14 rfl)) (fun _ h9 => h9) dX0_init_5 ?_
  refine va_tlen (v := 5) hx hb hT.1.2 hS rfl dX0_init_8 ?_
  refine va_newi (N := 5) hx hb (hts (.arrayClass .int) (by decide +kernel)) hK hP hD hS hA (by decide) (by decide) (by decide) (Nat.le_of_ble_eq_true rfl) (Nat.le_of_ble_eq_true rfl) dX0_init_9 (fun a1 H hP hD hS => ?_)
  have hP : va_P G.1 vwCl [(g, .inr (0, [.null, .null, .null, .null, .null, .int 0, .int 0, .int 0, .int 0])), (a1, .inl (G.2.1, 5, .inl (fun _ => 0)))] H := hP
  have hD : va_D (va_A wz s.heap.size) [(g, .inr (0, [.null, .null, .null, .null, .null, .int 0, .int 0, .int 0, .int 0])), (a1, .inl (G.2.1, 5, .inl (fun _ => 0)))] := hD
  refine va_putF (D := G.1) (ci := 0) (v := .ref a1) (ty := .array .int) (C := RX0) (T := TX0) (N := 9) hx hb hts hinX0 tyX0 tyX0_ok nmX0 hown hK.1 hP hD hS 0 rfl rfl 0 (by decide) (hts (.fieldLink RX0 13 "GrooveTurns$Disc" "settings" "[I") (by decide +kernel)) (fun _ h9 => h9) rfl hin rfl (by decide +kernel) rfl rfl (Nat.le_of_ble_eq_true rfl) dX0_init_11 (fun H locs hP hD hS => ?_)
  have hP : va_P G.1 vwCl [(g, .inr (0, [.ref a1, .null, .null, .null, .null, .int 0, .int 0, .int 0, .int 0])), (a1, .inl (G.2.1, 5, .inl (fun _ => 0)))] H := hP
  have hD : va_D (va_A wz s.heap.size) [(g, .inr (0, [.ref a1, .null, .null, .null, .null, .int 0, .int 0, .int 0, .int 0])), (a1, .inl (G.2.1, 5, .inl (fun _ => 0)))] := hD
  refine lv_aload_n hx hb dX0_init_14 rfl (lv_at hl 0 rfl) ?_
  refine lv_sipush (v := 204) hx hb dX0_init_15 (by decide) ?_
  refine va_newi (N := 204) hx hb (hts (.arrayClass .int) (by decide +kernel)) hK hP hD hS hA (by decide) (by decide) (by decide) (Nat.le_of_ble_eq_true rfl) (Nat.le_of_ble_eq_true rfl) dX0_init_18 (fun a2 H hP hD hS => ?_)
  have hP : va_P G.1 vwCl [(g, .inr (0, [.ref a1, .null, .null, .null, .null, .int 0, .int 0, .int 0, .int 0])), (a1, .inl (G.2.1, 5, .inl (fun _ => 0))), (a2, .inl (G.2.1, 204, .inl (fun _ => 0)))] H := hP
  have hD : va_D (va_A wz s.heap.size) [(g, .inr (0, [.ref a1, .null, .null, .null, .null, .int 0, .int 0, .int 0, .int 0])), (a1, .inl (G.2.1, 5, .inl (fun _ => 0))), (a2, .inl (G.2.1, 204, .inl (fun _ => 0)))] := hD
  refine va_putF (D := G.1) (ci := 0) (v := .ref a2) (ty := .array .int) (C := RX0) (T := TX0) (N := 9) hx hb hts hinX0 tyX0 tyX0_ok nmX0 hown hK.1 hP hD hS 0 rfl rfl 1 (by decide) (hts (.fieldLink RX0 18 "GrooveTurns$Disc" "numbers" "[I") (by decide +kernel)) (fun _ h9 => h9) rfl hin rfl (by decide +kernel) rfl rfl (Nat.le_of_ble_eq_true rfl) dX0_init_20 (fun H locs hP hD hS => ?_)
  have hP : va_P G.1 vwCl [(g, .inr (0, [.ref a1, .ref a2, .null, .null, .null, .int 0, .int 0, .int 0, .int 0])), (a1, .inl (G.2.1, 5, .inl (fun _ => 0))), (a2, .inl (G.2.1, 204, .inl (fun _ => 0)))] H := hP
  have hD : va_D (va_A wz s.heap.size) [(g, .inr (0, [.ref a1, .ref a2, .null, .null, .null, .int 0, .int 0, .int 0, .int 0])), (a1, .inl (G.2.1, 5, .inl (fun _ => 0))), (a2, .inl (G.2.1, 204, .inl (fun _ => 0)))] := hD
  refine lv_aload_n hx hb dX0_init_23 rfl (lv_at hl 0 rfl) ?_
  refine lv_sipush (v := 204) hx hb dX0_init_24 (by decide) ?_
  refine va_newi (N := 204) hx hb (hts (.arrayClass .int) (by decide +kernel)) hK hP hD hS hA (by decide) (by decide) (by decide) (Nat.le_of_ble_eq_true rfl) (Nat.le_of_ble_eq_true rfl) dX0_init_27 (fun a3 H hP hD hS => ?_)
  have hP : va_P G.1 vwCl [(g, .inr (0, [.ref a1, .ref a2, .null, .null, .null, .int 0, .int 0, .int 0, .int 0])), (a1, .inl (G.2.1, 5, .inl (fun _ => 0))), (a2, .inl (G.2.1, 204, .inl (fun _ => 0))), (a3, .inl (G.2.1, 204, .inl (fun _ => 0)))] H := hP
  have hD : va_D (va_A wz s.heap.size) [(g, .inr (0, [.ref a1, .ref a2, .null, .null, .null, .int 0, .int 0, .int 0, .int 0])), (a1, .inl (G.2.1, 5, .inl (fun _ => 0))), (a2, .inl (G.2.1, 204, .inl (fun _ => 0))), (a3, .inl (G.2.1, 204, .inl (fun _ => 0)))] := hD
  refine va_putF (D := G.1) (ci := 0) (v := .ref a3) (ty := .array .int) (C := RX0) (T := TX0) (N := 9) hx hb hts hinX0 tyX0 tyX0_ok nmX0 hown hK.1 hP hD hS 0 rfl rfl 2 (by decide) (hts (.fieldLink RX0 21 "GrooveTurns$Disc" "blurs" "[I") (by decide +kernel)) (fun _ h9 => h9) rfl hin rfl (by decide +kernel) rfl rfl (Nat.le_of_ble_eq_true rfl) dX0_init_29 (fun H locs hP hD hS => ?_)
  have hP : va_P G.1 vwCl [(g, .inr (0, [.ref a1, .ref a2, .ref a3, .null, .null, .int 0, .int 0, .int 0, .int 0])), (a1, .inl (G.2.1, 5, .inl (fun _ => 0))), (a2, .inl (G.2.1, 204, .inl (fun _ => 0))), (a3, .inl (G.2.1, 204, .inl (fun _ => 0)))] H := hP
  have hD : va_D (va_A wz s.heap.size) [(g, .inr (0, [.ref a1, .ref a2, .ref a3, .null, .null, .int 0, .int 0, .int 0, .int 0])), (a1, .inl (G.2.1, 5, .inl (fun _ => 0))), (a2, .inl (G.2.1, 204, .inl (fun _ => 0))), (a3, .inl (G.2.1, 204, .inl (fun _ => 0)))] := hD
  refine lv_aload_n hx hb dX0_init_32 rfl (lv_at hl 0 rfl) ?_
  refine lv_sipush (v := 204) hx hb dX0_init_33 (by decide) ?_
  refine va_newi (N := 204) hx hb (hts (.arrayClass .int) (by decide +kernel)) hK hP hD hS hA (by decide) (by decide) (by decide) (Nat.le_of_ble_eq_true rfl) (Nat.le_of_ble_eq_true rfl) dX0_init_36 (fun a4 H hP hD hS => ?_)
  have hP : va_P G.1 vwCl [(g, .inr (0, [.ref a1, .ref a2, .ref a3, .null, .null, .int 0, .int 0, .int 0, .int 0])), (a1, .inl (G.2.1, 5, .inl (fun _ => 0))), (a2, .inl (G.2.1, 204, .inl (fun _ => 0))), (a3, .inl (G.2.1, 204, .inl (fun _ => 0))), (a4, .inl (G.2.1, 204, .inl (fun _ => 0)))] H := hP
  have hD : va_D (va_A wz s.heap.size) [(g, .inr (0, [.ref a1, .ref a2, .ref a3, .null, .null, .int 0, .int 0, .int 0, .int 0])), (a1, .inl (G.2.1, 5, .inl (fun _ => 0))), (a2, .inl (G.2.1, 204, .inl (fun _ => 0))), (a3, .inl (G.2.1, 204, .inl (fun _ => 0))), (a4, .inl (G.2.1, 204, .inl (fun _ => 0)))] := hD
  refine va_putF (D := G.1) (ci := 0) (v := .ref a4) (ty := .array .int) (C := RX0) (T := TX0) (N := 9) hx hb hts hinX0 tyX0 tyX0_ok nmX0 hown hK.1 hP hD hS 0 rfl rfl 3 (by decide) (hts (.fieldLink RX0 24 "GrooveTurns$Disc" "writings" "[I") (by decide +kernel)) (fun _ h9 => h9) rfl hin rfl (by decide +kernel) rfl rfl (Nat.le_of_ble_eq_true rfl) dX0_init_38 (fun H locs hP hD hS => ?_)
  have hP : va_P G.1 vwCl [(g, .inr (0, [.ref a1, .ref a2, .ref a3, .ref a4, .null, .int 0, .int 0, .int 0, .int 0])), (a1, .inl (G.2.1, 5, .inl (fun _ => 0))), (a2, .inl (G.2.1, 204, .inl (fun _ => 0))), (a3, .inl (G.2.1, 204, .inl (fun _ => 0))), (a4, .inl (G.2.1, 204, .inl (fun _ => 0)))] H := hP
  have hD : va_D (va_A wz s.heap.size) [(g, .inr (0, [.ref a1, .ref a2, .ref a3, .ref a4, .null, .int 0, .int 0, .int 0, .int 0])), (a1, .inl (G.2.1, 5, .inl (fun _ => 0))), (a2, .inl (G.2.1, 204, .inl (fun _ => 0))), (a3, .inl (G.2.1, 204, .inl (fun _ => 0))), (a4, .inl (G.2.1, 204, .inl (fun _ => 0)))] := hD
  refine lv_aload_n hx hb dX0_init_41 rfl (lv_at hl 0 rfl) ?_
  refine lv_sipush (v := 192) hx hb dX0_init_42 (by decide) ?_
  refine va_newi (N := 192) hx hb (hts (.arrayClass .int) (by decide +kernel)) hK hP hD hS hA (by decide) (by decide) (by decide) (Nat.le_of_ble_eq_true rfl) (Nat.le_of_ble_eq_true rfl) dX0_init_45 (fun a5 H hP hD hS => ?_)
  have hP : va_P G.1 vwCl [(g, .inr (0, [.ref a1, .ref a2, .ref a3, .ref a4, .null, .int 0, .int 0, .int 0, .int 0])), (a1, .inl (G.2.1, 5, .inl (fun _ => 0))), (a2, .inl (G.2.1, 204, .inl (fun _ => 0))), (a3, .inl (G.2.1, 204, .inl (fun _ => 0))), (a4, .inl (G.2.1, 204, .inl (fun _ => 0))), (a5, .inl (G.2.1, 192, .inl (fun _ => 0)))] H := hP
  have hD : va_D (va_A wz s.heap.size) [(g, .inr (0, [.ref a1, .ref a2, .ref a3, .ref a4, .null, .int 0, .int 0, .int 0, .int 0])), (a1, .inl (G.2.1, 5, .inl (fun _ => 0))), (a2, .inl (G.2.1, 204, .inl (fun _ => 0))), (a3, .inl (G.2.1, 204, .inl (fun _ => 0))), (a4, .inl (G.2.1, 204, .inl (fun _ => 0))), (a5, .inl (G.2.1, 192, .inl (fun _ => 0)))] := hD
  refine va_putF (D := G.1) (ci := 0) (v := .ref a5) (ty := .array .int) (C := RX0) (T := TX0) (N := 9) hx hb hts hinX0 tyX0 tyX0_ok nmX0 hown hK.1 hP hD hS 0 rfl rfl 4 (by decide) (hts (.fieldLink RX0 27 "GrooveTurns$Disc" "sectors" "[I") (by decide +kernel)) (fun _ h9 => h9) rfl hin rfl (by decide +kernel) rfl rfl (Nat.le_of_ble_eq_true rfl) dX0_init_47 (fun H locs hP hD hS => ?_)
  have hP : va_P G.1 vwCl [(g, .inr (0, [.ref a1, .ref a2, .ref a3, .ref a4, .ref a5, .int 0, .int 0, .int 0, .int 0])), (a1, .inl (G.2.1, 5, .inl (fun _ => 0))), (a2, .inl (G.2.1, 204, .inl (fun _ => 0))), (a3, .inl (G.2.1, 204, .inl (fun _ => 0))), (a4, .inl (G.2.1, 204, .inl (fun _ => 0))), (a5, .inl (G.2.1, 192, .inl (fun _ => 0)))] H := hP
  have hD : va_D (va_A wz s.heap.size) [(g, .inr (0, [.ref a1, .ref a2, .ref a3, .ref a4, .ref a5, .int 0, .int 0, .int 0, .int 0])), (a1, .inl (G.2.1, 5, .inl (fun _ => 0))), (a2, .inl (G.2.1, 204, .inl (fun _ => 0))), (a3, .inl (G.2.1, 204, .inl (fun _ => 0))), (a4, .inl (G.2.1, 204, .inl (fun _ => 0))), (a5, .inl (G.2.1, 192, .inl (fun _ => 0)))] := hD
  refine lv_aload_n hx hb dX0_init_50 rfl (lv_at hl 0 rfl) ?_
  refine lv_iconst (v := 0) hx hb dX0_init_51 (by decide) ?_
  refine va_put (D := G.1) (ci := 0) (v := .int 0) (ty := .int) (C := RX0) (T := TX0) (N := 9) hx hb hts hinX0 tyX0 tyX0_ok nmX0 hown hK.1 hP hD hS 0 rfl rfl 5 (by decide) (hts (.fieldLink RX0 30 "GrooveTurns$Disc" "sparesTaken" "I") (by decide +kernel)) (fun _ h9 => h9) rfl (by decide +kernel) rfl rfl (Nat.le_of_ble_eq_true rfl) dX0_init_52 (fun H locs hP hD hS => ?_)
  have hP : va_P G.1 vwCl [(g, .inr (0, [.ref a1, .ref a2, .ref a3, .ref a4, .ref a5, .int 0, .int 0, .int 0, .int 0])), (a1, .inl (G.2.1, 5, .inl (fun _ => 0))), (a2, .inl (G.2.1, 204, .inl (fun _ => 0))), (a3, .inl (G.2.1, 204, .inl (fun _ => 0))), (a4, .inl (G.2.1, 204, .inl (fun _ => 0))), (a5, .inl (G.2.1, 192, .inl (fun _ => 0)))] H := hP
  have hD : va_D (va_A wz s.heap.size) [(g, .inr (0, [.ref a1, .ref a2, .ref a3, .ref a4, .ref a5, .int 0, .int 0, .int 0, .int 0])), (a1, .inl (G.2.1, 5, .inl (fun _ => 0))), (a2, .inl (G.2.1, 204, .inl (fun _ => 0))), (a3, .inl (G.2.1, 204, .inl (fun _ => 0))), (a4, .inl (G.2.1, 204, .inl (fun _ => 0))), (a5, .inl (G.2.1, 192, .inl (fun _ => 0)))] := hD
  refine lv_aload_n hx hb dX0_init_55 rfl (lv_at hl 0 rfl) ?_
  refine lv_iconst (v := 0) hx hb dX0_init_56 (by decide) ?_
  refine va_put (D := G.1) (ci := 0) (v := .int 0) (ty := .int) (C := RX0) (T := TX0) (N := 9) hx hb hts hinX0 tyX0 tyX0_ok nmX0 hown hK.1 hP hD hS 0 rfl rfl 6 (by decide) (hts (.fieldLink RX0 34 "GrooveTurns$Disc" "reads" "I") (by decide +kernel)) (fun _ h9 => h9) rfl (by decide +kernel) rfl rfl (Nat.le_of_ble_eq_true rfl) dX0_init_57 (fun H locs hP hD hS => ?_)
  have hP : va_P G.1 vwCl [(g, .inr (0, [.ref a1, .ref a2, .ref a3, .ref a4, .ref a5, .int 0, .int 0, .int 0, .int 0])), (a1, .inl (G.2.1, 5, .inl (fun _ => 0))), (a2, .inl (G.2.1, 204, .inl (fun _ => 0))), (a3, .inl (G.2.1, 204, .inl (fun _ => 0))), (a4, .inl (G.2.1, 204, .inl (fun _ => 0))), (a5, .inl (G.2.1, 192, .inl (fun _ => 0)))] H := hP
  have hD : va_D (va_A wz s.heap.size) [(g, .inr (0, [.ref a1, .ref a2, .ref a3, .ref a4, .ref a5, .int 0, .int 0, .int 0, .int 0])), (a1, .inl (G.2.1, 5, .inl (fun _ => 0))), (a2, .inl (G.2.1, 204, .inl (fun _ => 0))), (a3, .inl (G.2.1, 204, .inl (fun _ => 0))), (a4, .inl (G.2.1, 204, .inl (fun _ => 0))), (a5, .inl (G.2.1, 192, .inl (fun _ => 0)))] := hD
  refine lv_aload_n hx hb dX0_init_60 rfl (lv_at hl 0 rfl) ?_
  refine lv_iconst (v := 0) hx hb dX0_init_61 (by decide) ?_
  refine va_put (D := G.1) (ci := 0) (v := .int 0) (ty := .int) (C := RX0) (T := TX0) (N := 9) hx hb hts hinX0 tyX0 tyX0_ok nmX0 hown hK.1 hP hD hS 0 rfl rfl 7 (by decide) (hts (.fieldLink RX0 37 "GrooveTurns$Disc" "ticks" "I") (by decide +kernel)) (fun _ h9 => h9) rfl (by decide +kernel) rfl rfl (Nat.le_of_ble_eq_true rfl) dX0_init_62 (fun H locs hP hD hS => ?_)
  have hP : va_P G.1 vwCl [(g, .inr (0, [.ref a1, .ref a2, .ref a3, .ref a4, .ref a5, .int 0, .int 0, .int 0, .int 0])), (a1, .inl (G.2.1, 5, .inl (fun _ => 0))), (a2, .inl (G.2.1, 204, .inl (fun _ => 0))), (a3, .inl (G.2.1, 204, .inl (fun _ => 0))), (a4, .inl (G.2.1, 204, .inl (fun _ => 0))), (a5, .inl (G.2.1, 192, .inl (fun _ => 0)))] H := hP
  have hD : va_D (va_A wz s.heap.size) [(g, .inr (0, [.ref a1, .ref a2, .ref a3, .ref a4, .ref a5, .int 0, .int 0, .int 0, .int 0])), (a1, .inl (G.2.1, 5, .inl (fun _ => 0))), (a2, .inl (G.2.1, 204, .inl (fun _ => 0))), (a3, .inl (G.2.1, 204, .inl (fun _ => 0))), (a4, .inl (G.2.1, 204, .inl (fun _ => 0))), (a5, .inl (G.2.1, 192, .inl (fun _ => 0)))] := hD
  refine lv_aload_n hx hb dX0_init_65 rfl (lv_at hl 0 rfl) ?_
  refine lv_iconst (v := 0) hx hb dX0_init_66 (by decide) ?_
  refine va_put (D := G.1) (ci := 0) (v := .int 0) (ty := .int) (C := RX0) (T := TX0) (N := 9) hx hb hts hinX0 tyX0 tyX0_ok nmX0 hown hK.1 hP hD hS 0 rfl rfl 8 (by decide) (hts (.fieldLink RX0 40 "GrooveTurns$Disc" "head" "I") (by decide +kernel)) (fun _ h9 => h9) rfl (by decide +kernel) rfl rfl (Nat.le_of_ble_eq_true rfl) dX0_init_67 (fun H locs hP hD hS => ?_)
  have hP : va_P G.1 vwCl [(g, .inr (0, [.ref a1, .ref a2, .ref a3, .ref a4, .ref a5, .int 0, .int 0, .int 0, .int 0])), (a1, .inl (G.2.1, 5, .inl (fun _ => 0))), (a2, .inl (G.2.1, 204, .inl (fun _ => 0))), (a3, .inl (G.2.1, 204, .inl (fun _ => 0))), (a4, .inl (G.2.1, 204, .inl (fun _ => 0))), (a5, .inl (G.2.1, 192, .inl (fun _ => 0)))] H := hP
  have hD : va_D (va_A wz s.heap.size) [(g, .inr (0, [.ref a1, .ref a2, .ref a3, .ref a4, .ref a5, .int 0, .int 0, .int 0, .int 0])), (a1, .inl (G.2.1, 5, .inl (fun _ => 0))), (a2, .inl (G.2.1, 204, .inl (fun _ => 0))), (a3, .inl (G.2.1, 204, .inl (fun _ => 0))), (a4, .inl (G.2.1, 204, .inl (fun _ => 0))), (a5, .inl (G.2.1, 192, .inl (fun _ => 0)))] := hD
  have hF : CallFix p m c cX0_init 2 s _ wsX0_init RX0 := ⟨hx, hb, hml, hown, hts⟩
  obtain ⟨α, hα⟩ : ∃ α : Nat → Nat, α = ad [g, a1, a2, a3, a4, a5] := ⟨_, rfl⟩
  have hg : α 0 = g := by rw [hα]; rfl
  have hP8 : va_P G.1 vwCl (dW G.2.1 α dPre) H := by rw [hα]; exact hP
  have hD8 : va_D (va_A wz s.heap.size) (dW G.2.1 α dPre) := by rw [hα]; exact hD
  clear hα hP hD
  subst hg
  have hP : va_P G.1 vwCl (dW G.2.1 α dPre) H := hP8
  have hD : va_D (va_A wz s.heap.size) (dW G.2.1 α dPre) := hD8
  refine va_getsN (host := RX4) hx hb hT.1.1 hS hown (va_Nw.use rfl (hK.nest 14 rfl)) (fun _ h9 => h9) dX0_init_70 ?_
  refine lv_aload_n hx hb dX0_init_73 rfl (lv_at hl 0 rfl) ?_
  refine get_D_settings hx hb hts hinX0 hown hK hP (hts (.fieldLink RX0 13 "GrooveTurns$Disc" "settings" "[I") (by decide +kernel)) dX0_init_74 ?_
  refine wr_go (rest := []) (va_runSN (As := [.ref tb.1, .ref (α 1)]) hF (c_X4_copyRowT l G tb.1 (α 1) 5 firstS (d_st dPre) (by decide)) ⟨va_cnB (host := RX4) 2 hts gX0_init_X4_copyRow_n43 rfl rfl rfl (hK.nest 5 rfl) (hts (.initialized RX4) (by decide +kernel)) (by decide +kernel) ⟨Nat.le_of_ble_eq_true rfl, Nat.le_of_ble_eq_true rfl⟩, hts (.static yX4_copyRow) (by decide +kernel), trivial⟩ ⟨PT.blind, fun U hU hW => ⟨rfl, by rw [hU]; exact cell_D_st hP, hK.warm hW, (hD.sub [1] (by decide) (pl_D_st _ _ _)).weaken (fun _ _ _ _ => trivial), hT.1.2.to hS (inW_A hD (pl_D_st _ _ _)) hU hW⟩⟩ rfl rfl hl.1 rfl (lv_room (Nat.le_of_ble_eq_true rfl)) dX0_init_77 ⟨Nat.le_of_ble_eq_true rfl, Nat.le_of_ble_eq_true rfl⟩) hP hD hS [1] (pl_D_st _ _ _) rfl (by decide) (fun H locs hP hD hS => ?_)
  rw [pset_D_st] at hP hD
  refine g_X0_init (A := va_A wz s.heap.size) l G α (d_st' dPre firstS) C0 hK hok (fun H locs hP hD hS ls hl => ?_) H locs hP hD hS ls hl
  exact W.vret hx hb hr (fun t ht hW => ⟨rfl, ⟨_, ⟨α, rfl, rfl⟩, by rw [ht]; exact hP, hD⟩, hS.F ht⟩) hS.2.2 dX0_init_113
