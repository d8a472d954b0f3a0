def L1_X0_init (σ : DS) : Nat → Int32 → DS → DS
  | 0, v1_1, τ1_0 => τ1_0
  | n + 1, v1_1, τ1_0 => (if 192 ≤ v1_1 then τ1_0 else (L1_X0_init σ n (v1_1 + 1) (d_se' τ1_0 (upd (d_se τ1_0) v1_1.toNatClampNeg v1_1))))
def okL1_X0_init (σ : DS) : Nat → Int32 → DS → Prop
  | 0, _, _ => False
  | n + 1, v1_1, τ1_0 => (192 ≤ v1_1 → True) ∧ (¬ 192 ≤ v1_1 → ((vp_in v1_1 192) ∧ (okL1_X0_init σ n (v1_1 + 1) (d_se' τ1_0 (upd (d_se τ1_0) v1_1.toNatClampNeg v1_1)))))
def s_X0_init (σ : DS) : DS := (L1_X0_init σ FU 0 (d_nu' σ (s_J7_fill (d_nu σ) (-6))))
def ok_X0_init (σ : DS) : Prop := (ok_J7_fill (d_nu σ) (-6)) ∧ (okL1_X0_init σ FU 0 (d_nu' σ (s_J7_fill (d_nu σ) (-6))))
set_option maxHeartbeats 4000000 in
set_option maxRecDepth 100000 in
theorem wL1_X0_init {p : Program} {e : Env} {s : State} {m : MethodId} {args : Array Value} {below : List Frame} {meth : Method} {c : Code} {A : Nat → Prop} {Q : State → Prop} (l : Launch) (G : GG) (α : Nat → Nat) (σ : DS) (C0 : cA p s m meth c args cX0_init 2 none wsX0_init RX0) (hK : cK G s) : ∀ (n : Nat) (v1_1 : Int32) (τ1_0 : DS)  (hok : okL1_X0_init σ n v1_1 τ1_0) (kk : ∀ (H : Heap) (locs : List Loc), va_P G.1 vwCl (dW G.2.1 α (L1_X0_init σ n v1_1 τ1_0)) H → va_D A (dW G.2.1 α (L1_X0_init σ n v1_1 τ1_0)) → va_S A s.heap H locs → ∀ (ls : Array Slot), lv_has ls 2 [(0, .ref (α 0))] → W p l e (rmN 3 90 5 809) s m args below meth c H locs 5 809 Q (F0 m 113 ls [])) (H : Heap) (locs : List Loc), va_P G.1 vwCl (dW G.2.1 α τ1_0) H → va_D A (dW G.2.1 α τ1_0) → va_S A s.heap H locs → ∀ (ls : Array Slot), lv_has ls 2 [(0, .ref (α 0)), (1, .int v1_1)] → W p l e (rmN 3 90 5 809) s m args below meth c H locs 5 809 Q (F0 m 91 ls []) := by
  obtain ⟨hx, hb, hr, hml, hown, hts, hlocks⟩ := id C0
  have hF : CallFix p m c cX0_init 2 s args wsX0_init RX0 := ⟨hx, hb, hml, hown, hts⟩
  have hinX0 : ∀ w ∈ wsX00, w ∈ wsX0_init := by decide +kernel
  intro n
  induction n with
  | zero =>
    intro v1_1 τ1_0 hok
    exact hok.elim
  | succ n ih =>
    intro v1_1 τ1_0 hok kk H locs hP hD hS ls hl
    have hok : (192 ≤ v1_1 → True) ∧ (¬ 192 ≤ v1_1 → ((vp_in v1_1 192) ∧ (okL1_X0_init σ n (v1_1 + 1) (d_se' τ1_0 (upd (d_se τ1_0) v1_1.toNatClampNeg v1_1))))) := hok
    refine lv_iload_n hx hb dX0_init_91 rfl (lv_at hl 1 rfl) ?_
    refine lv_aload_n hx hb dX0_init_92 rfl (lv_at hl 0 rfl) ?_
    refine get_D_sectors hx hb hts hinX0 hown hK hP (hts (.fieldLink RX0 27 "GrooveTurns$Disc" "sectors" "[I") (by decide +kernel)) dX0_init_93 ?_
    refine va_alen (v := 192) hx hb hK.1 hP 5 0 rfl rfl rfl dX0_init_96 ?_
    refine lv_icmp_ge (tgt := 113) hx hb dX0_init_97 (by decide) (fun (c_2 : 192 ≤ v1_1) => ?_) (fun (c_2 : ¬ 192 ≤ v1_1) => ?_)
    · skip
      rw [show (L1_X0_init σ (n + 1) v1_1 τ1_0) = τ1_0 from by rw [L1_X0_init]; rw [if_pos c_2]] at kk
      exact kk H locs hP hD hS ls (lv_sub hl [0] rfl)
    · skip
      have hok := hok.2 c_2
      obtain ⟨h_3, hok⟩ := hok
      refine lv_aload_n hx hb dX0_init_100 rfl (lv_at hl 0 rfl) ?_
      refine get_D_sectors hx hb hts hinX0 hown hK hP (hts (.fieldLink RX0 27 "GrooveTurns$Disc" "sectors" "[I") (by decide +kernel)) dX0_init_101 ?_
      refine lv_iload_n hx hb dX0_init_104 rfl (lv_at hl 1 rfl) ?_
      refine lv_iload_n hx hb dX0_init_105 rfl (lv_at hl 1 rfl) ?_
      refine st_D_se hx hb hK hP hD hS h_3 dX0_init_106 (fun H locs hP hD hS => ?_)
      have hP : va_P G.1 vwCl (dW G.2.1 α (d_se' τ1_0 (upd (d_se τ1_0) v1_1.toNatClampNeg v1_1))) H := hP
      have hD : va_D A (dW G.2.1 α (d_se' τ1_0 (upd (d_se τ1_0) v1_1.toNatClampNeg v1_1))) := hD
      refine lv_iinc (v := (v1_1 + 1)) (lv' := [(1, .int (v1_1 + 1)), (0, .ref (α 0))]) hx hb dX0_init_107 hl (k := 1) rfl rfl (by decide) rfl (fun ls hl => ?_)
      refine lv_goto (tgt := 91) hx hb dX0_init_110 (by decide) ?_
      rw [show (L1_X0_init σ (n + 1) v1_1 τ1_0) = (L1_X0_init σ n (v1_1 + 1) (d_se' τ1_0 (upd (d_se τ1_0) v1_1.toNatClampNeg v1_1))) from by rw [L1_X0_init]; rw [if_neg c_2]] at kk
      exact ih (v1_1 + 1) (d_se' τ1_0 (upd (d_se τ1_0) v1_1.toNatClampNeg v1_1)) hok kk _ _ hP hD hS ls (lv_sub hl [1, 0] rfl)
set_option maxHeartbeats 4000000 in
set_option maxRecDepth 100000 in
theorem g_X0_init {p : Program} {e : Env} {s : State} {m : MethodId} {args : Array Value} {below : List Frame} {meth : Method} {c : Code} {A : Nat → Prop} {Q : State → Prop} (l : Launch) (G : GG) (α : Nat → Nat) (σ : DS) (C0 : cA p s m meth c args cX0_init 2 none wsX0_init RX0) (hK : cK G s) (hok : ok_X0_init σ) (kk : ∀ (H : Heap) (locs : List Loc), va_P G.1 vwCl (dW G.2.1 α (s_X0_init σ)) H → va_D A (dW G.2.1 α (s_X0_init σ)) → va_S A s.heap H locs → ∀ (ls : Array Slot), lv_has ls 2 [(0, .ref (α 0))] → W p l e (rmN 3 90 5 809) s m args below meth c H locs 5 809 Q (F0 m 113 ls [])) : ∀ (H : Heap) (locs : List Loc), va_P G.1 vwCl (dW G.2.1 α σ) H → va_D A (dW G.2.1 α σ) → va_S A s.heap H locs → ∀ (ls : Array Slot), lv_has ls 2 [(0, .ref (α 0))] → W p l e (rmN 3 90 5 809) s m args below meth c H locs 5 809 Q (F0 m 80 ls []) := by
  obtain ⟨hx, hb, hr, hml, hown, hts, hlocks⟩ := id C0
  have hF : CallFix p m c cX0_init 2 s args wsX0_init RX0 := ⟨hx, hb, hml, hown, hts⟩
  have hinX0 : ∀ w ∈ wsX00, w ∈ wsX0_init := by decide +kernel
  intro H locs hP hD hS ls hl
  have hok : (ok_J7_fill (d_nu σ) (-6)) ∧ (okL1_X0_init σ FU 0 (d_nu' σ (s_J7_fill (d_nu σ) (-6)))) := hok
  obtain ⟨h_1, hok⟩ := hok
  refine lv_aload_n hx hb dX0_init_80 rfl (lv_at hl 0 rfl) ?_
  refine get_D_numbers hx hb hts hinX0 hown hK hP (hts (.fieldLink RX0 18 "GrooveTurns$Disc" "numbers" "[I") (by decide +kernel)) dX0_init_81 ?_
  refine lv_bipush (v := (-6)) hx hb dX0_init_84 (by decide) ?_
  refine wrS (As := [.ref (α 2), .int (-6)]) (rest := []) (c_J7_fill l G (α 2) (d_nu σ) (-6) h_1) hF (va_cwS 2 hts gX0_init_J7_fill_53178 rfl rfl rfl (by decide +kernel) ⟨Nat.le_of_ble_eq_true rfl, Nat.le_of_ble_eq_true rfl⟩) hK hP hD hS [2] (pl_D_nu _ _ _) (pf_D_nu _ _ _) rfl (by decide) rfl hl.1 rfl (Nat.le_of_ble_eq_true rfl) dX0_init_86 ⟨Nat.le_of_ble_eq_true rfl, Nat.le_of_ble_eq_true rfl⟩ (fun H locs hP hD hS => ?_)
  rw [pset_D_nu] at hP hD
  have hP : va_P G.1 vwCl (dW G.2.1 α (d_nu' σ (s_J7_fill (d_nu σ) (-6)))) H := hP
  have hD : va_D A (dW G.2.1 α (d_nu' σ (s_J7_fill (d_nu σ) (-6)))) := hD
  refine lv_iconst (v := 0) hx hb dX0_init_89 (by decide) ?_
  refine lv_istore_n (lv' := [(1, .int 0), (0, .ref (α 0))]) hx hb dX0_init_90 rfl hl (by decide) rfl (fun ls hl => ?_)
  rw [show s_X0_init σ = (L1_X0_init σ FU 0 (d_nu' σ (s_J7_fill (d_nu σ) (-6)))) from by rw [s_X0_init]] at kk
  exact wL1_X0_init l G α σ C0 hK FU 0 (d_nu' σ (s_J7_fill (d_nu σ) (-6))) hok kk _ _ hP hD hS ls (lv_sub hl [1, 0] rfl)
