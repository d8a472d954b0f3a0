def t1_X5_keeps (σ : MS) (v1_1 : Int32) (τ1_0 : MS) : MS := (m_ke' τ1_0 (upd (m_ke τ1_0) v1_1.toNatClampNeg ((m_al τ1_0) v1_1.toNatClampNeg)))
def L1_X5_keeps (σ : MS) : Nat → Int32 → MS → MS
  | 0, v1_1, τ1_0 => τ1_0
  | n + 1, v1_1, τ1_0 => (if 816 ≤ v1_1 then τ1_0 else (L1_X5_keeps σ n (v1_1 + 1) (t1_X5_keeps σ v1_1 τ1_0)))
def okL1_X5_keeps (σ : MS) : Nat → Int32 → MS → Prop
  | 0, _, _ => False
  | n + 1, v1_1, τ1_0 => (816 ≤ v1_1 → True) ∧ (¬ 816 ≤ v1_1 → ((vp_in v1_1 816) ∧ (okL1_X5_keeps σ n (v1_1 + 1) (t1_X5_keeps σ v1_1 τ1_0))))
def s_X5_keeps (σ : MS) : MS := (L1_X5_keeps σ FU 0 σ)
def ok_X5_keeps (σ : MS) : Prop := okL1_X5_keeps σ FU 0 σ
set_option maxHeartbeats 4000000 in
set_option maxRecDepth 100000 in
theorem wL1_X5_keeps {p : Program} {e : Env} {s : State} {m : MethodId} {args : Array Value} {below : List Frame} {meth : Method} {c : Code} {w0 : va_W} (l : Launch) (G : GG) (α : Nat → Nat) (σ : MS) (C0 : cA p s m meth c args cX5_keeps 2 none wsX5_keeps RX5) (hK : cK G s) : ∀ (n : Nat) (v1_1 : Int32) (τ1_0 : MS)  (hok : okL1_X5_keeps σ n v1_1 τ1_0) (H : Heap) (locs : List Loc), va_P G.1 vwCl (mW G.2.1 α τ1_0) H → va_D (inW w0) (mW G.2.1 α τ1_0) → va_S (inW w0) s.heap H locs → ∀ (ls : Array Slot), lv_has ls 2 [(0, .ref (α 0)), (1, .int v1_1)] → W p l e (rmm 0 0) s m args below meth c H locs 0 0 (MQ below (QW G w0 (mW G.2.1 α (L1_X5_keeps σ n v1_1 τ1_0)) none) args s 0 0 (inW w0)) (F0 m 2 ls []) := by
  obtain ⟨hx, hb, hr, hml, hown, hts, hlocks⟩ := id C0
  have hF : CallFix p m c cX5_keeps 2 s args wsX5_keeps RX5 := ⟨hx, hb, hml, hown, hts⟩
  have hinX5 : ∀ w ∈ wsX50, w ∈ wsX5_keeps := by decide +kernel
  intro n
  induction n with
  | zero =>
    intro v1_1 τ1_0 hok
    exact hok.elim
  | succ n ih =>
    intro v1_1 τ1_0 hok H locs hP hD hS ls hl
    have hok : (816 ≤ v1_1 → True) ∧ (¬ 816 ≤ v1_1 → ((vp_in v1_1 816) ∧ (okL1_X5_keeps σ n (v1_1 + 1) (t1_X5_keeps σ v1_1 τ1_0)))) := hok
    refine lv_iload_n hx hb dX5_keeps_2 rfl (lv_at hl 1 rfl) ?_
    refine lv_sipush (v := 816) hx hb dX5_keeps_3 (by decide) ?_
    refine lv_icmp_ge (tgt := 27) hx hb dX5_keeps_6 (by decide) (fun (c_1 : 816 ≤ v1_1) => ?_) (fun (c_1 : ¬ 816 ≤ v1_1) => ?_)
    · skip
      rw [show (L1_X5_keeps σ (n + 1) v1_1 τ1_0) = τ1_0 from by rw [L1_X5_keeps]; rw [if_pos c_1]]
      exact W.vret hx hb hr (fun t ht hW => ⟨rfl, by rw [ht]; exact hP, hS.F ht⟩) hS.2.2 dX5_keeps_27
    · skip
      have hok := hok.2 c_1
      obtain ⟨h_2, hok⟩ := hok
      refine lv_aload_n hx hb dX5_keeps_9 rfl (lv_at hl 0 rfl) ?_
      refine get_M_kept hx hb hts hinX5 hown hK hP (hts (.fieldLink RX5 13 "GrooveTurnsModel" "kept" "[I") (by decide +kernel)) dX5_keeps_10 ?_
      refine lv_iload_n hx hb dX5_keeps_13 rfl (lv_at hl 1 rfl) ?_
      refine lv_aload_n hx hb dX5_keeps_14 rfl (lv_at hl 0 rfl) ?_
      refine get_M_all hx hb hts hinX5 hown hK hP (hts (.fieldLink RX5 7 "GrooveTurnsModel" "all" "[I") (by decide +kernel)) dX5_keeps_15 ?_
      refine lv_iload_n hx hb dX5_keeps_18 rfl (lv_at hl 1 rfl) ?_
      refine ld_M_al hx hb hK hP h_2 dX5_keeps_19 ?_
      refine st_M_ke hx hb hK hP hD hS h_2 dX5_keeps_20 (fun H locs hP hD hS => ?_)
      have hP : va_P G.1 vwCl (mW G.2.1 α (t1_X5_keeps σ v1_1 τ1_0)) H := hP
      have hD : va_D (inW w0) (mW G.2.1 α (t1_X5_keeps σ v1_1 τ1_0)) := hD
      refine lv_iinc (v := (v1_1 + 1)) (lv' := [(1, .int (v1_1 + 1)), (0, .ref (α 0))]) hx hb dX5_keeps_21 hl (k := 1) rfl rfl (by decide) rfl (fun ls hl => ?_)
      refine lv_goto (tgt := 2) hx hb dX5_keeps_24 (by decide) ?_
      rw [show (L1_X5_keeps σ (n + 1) v1_1 τ1_0) = (L1_X5_keeps σ n (v1_1 + 1) (t1_X5_keeps σ v1_1 τ1_0)) from by rw [L1_X5_keeps]; rw [if_neg c_1]]
      exact ih (v1_1 + 1) (t1_X5_keeps σ v1_1 τ1_0) hok _ _ hP hD hS ls (lv_sub hl [1, 0] rfl)
set_option maxHeartbeats 4000000 in
set_option maxRecDepth 100000 in
theorem c_X5_keeps (l : Launch) (G : GG) (α : Nat → Nat) (σ : MS) (hok : ok_X5_keeps σ) : Wr G l yX5_keeps wsX5_keeps 0 0 [.ref (α 0)] (mW G.2.1 α σ) none (mW G.2.1 α (s_X5_keeps σ)) := by
  refine Met.ofW (cc := cX5_keeps) (maxL := 2) (ret := none) (by decide) rfl ?_
  intro p e s m args below meth c s₁ B hml hv
  obtain ⟨rfl, hP, hK, hD0⟩ := hv
  have C0 : cA p s m meth c ([.ref (α 0)] : List Value).toArray cX5_keeps 2 none wsX5_keeps RX5 := ⟨B.exec, B.bytes, B.returns, hml, findClass_of_methodNamed B.named, atoms_spec (ws := wsX5_keeps) B.pre, B.notSynchronized⟩
  obtain ⟨hx, hb, hr, hml, hown, hts, hlocks⟩ := id C0
  have hF : CallFix p m c cX5_keeps 2 s _ wsX5_keeps RX5 := ⟨hx, hb, hml, hown, hts⟩
  have hinX5 : ∀ w ∈ wsX50, w ∈ wsX5_keeps := by decide +kernel
  obtain ⟨w0, hw0⟩ : ∃ w0 : va_W, w0 = (mW G.2.1 α σ) := ⟨_, rfl⟩
  have hD : va_D (inW w0) (mW G.2.1 α σ) := by rw [hw0]; exact inW.D hD0
  have hS : va_S (inW w0) s.heap s.heap [] := va_S.rf
  rw [show QW G (mW G.2.1 α σ) = QW G w0 from by rw [hw0], show inW (mW G.2.1 α σ) = inW w0 from by rw [hw0]]
  have hl := lv_entry ([.ref (α 0)]) (n := 2) (Nat.le_of_ble_eq_true rfl)
  rw [lg_entry_eq]
  generalize (lg_sl ([.ref (α 0)]) ++ List.replicate (2 - (lg_sl ([.ref (α 0)])).length) Slot.unset).toArray = ls at hl ⊢
  have hl : lv_has ls 2 [(0, .ref (α 0))] := hl
  have hok : okL1_X5_keeps σ FU 0 σ := hok
  refine lv_iconst (v := 0) hx hb dX5_keeps_0 (by decide) ?_
  refine lv_istore_n (lv' := [(1, .int 0), (0, .ref (α 0))]) hx hb dX5_keeps_1 rfl hl (by decide) rfl (fun ls hl => ?_)
  rw [show s_X5_keeps σ = (L1_X5_keeps σ FU 0 σ) from by rw [s_X5_keeps]]
  exact wL1_X5_keeps l G α σ C0 hK FU 0 σ hok _ _ hP hD hS ls (lv_sub hl [1, 0] rfl)
def t1_X5_comesBack (σ : MS) (v1_1 : Int32) (τ1_0 : MS) : MS := (m_al' τ1_0 (upd (m_al τ1_0) v1_1.toNatClampNeg ((m_ke τ1_0) v1_1.toNatClampNeg)))
def L1_X5_comesBack (σ : MS) : Nat → Int32 → MS → MS
  | 0, v1_1, τ1_0 => τ1_0
  | n + 1, v1_1, τ1_0 => (if 816 ≤ v1_1 then τ1_0 else (L1_X5_comesBack σ n (v1_1 + 1) (t1_X5_comesBack σ v1_1 τ1_0)))
def okL1_X5_comesBack (σ : MS) : Nat → Int32 → MS → Prop
  | 0, _, _ => False
  | n + 1, v1_1, τ1_0 => (816 ≤ v1_1 → True) ∧ (¬ 816 ≤ v1_1 → ((vp_in v1_1 816) ∧ (okL1_X5_comesBack σ n (v1_1 + 1) (t1_X5_comesBack σ v1_1 τ1_0))))
def s_X5_comesBack (σ : MS) : MS := (L1_X5_comesBack σ FU 0 σ)
def ok_X5_comesBack (σ : MS) : Prop := okL1_X5_comesBack σ FU 0 σ
set_option maxHeartbeats 4000000 in
set_option maxRecDepth 100000 in
theorem wL1_X5_comesBack {p : Program} {e : Env} {s : State} {m : MethodId} {args : Array Value} {below : List Frame} {meth : Method} {c : Code} {w0 : va_W} (l : Launch) (G : GG) (α : Nat → Nat) (σ : MS) (C0 : cA p s m meth c args cX5_comesBack 2 none wsX5_comesBack RX5) (hK : cK G s) : ∀ (n : Nat) (v1_1 : Int32) (τ1_0 : MS)  (hok : okL1_X5_comesBack σ n v1_1 τ1_0) (H : Heap) (locs : List Loc), va_P G.1 vwCl (mW G.2.1 α τ1_0) H → va_D (inW w0) (mW G.2.1 α τ1_0) → va_S (inW w0) s.heap H locs → ∀ (ls : Array Slot), lv_has ls 2 [(0, .ref (α 0)), (1, .int v1_1)] → W p l e (rmm 0 0) s m args below meth c H locs 0 0 (MQ below (QW G w0 (mW G.2.1 α (L1_X5_comesBack σ n v1_1 τ1_0)) none) args s 0 0 (inW w0)) (F0 m 2 ls []) := by
  obtain ⟨hx, hb, hr, hml, hown, hts, hlocks⟩ := id C0
  have hF : CallFix p m c cX5_comesBack 2 s args wsX5_comesBack RX5 := ⟨hx, hb, hml, hown, hts⟩
  have hinX5 : ∀ w ∈ wsX50, w ∈ wsX5_comesBack := by decide +kernel
  intro n
  induction n with
  | zero =>
    intro v1_1 τ1_0 hok
    exact hok.elim
  | succ n ih =>
    intro v1_1 τ1_0 hok H locs hP hD hS ls hl
    have hok : (816 ≤ v1_1 → True) ∧ (¬ 816 ≤ v1_1 → ((vp_in v1_1 816) ∧ (okL1_X5_comesBack σ n (v1_1 + 1) (t1_X5_comesBack σ v1_1 τ1_0)))) := hok
    refine lv_iload_n hx hb dX5_comesBack_2 rfl (lv_at hl 1 rfl) ?_
    refine lv_sipush (v := 816) hx hb dX5_comesBack_3 (by decide) ?_
    refine lv_icmp_ge (tgt := 27) hx hb dX5_comesBack_6 (by decide) (fun (c_1 : 816 ≤ v1_1) => ?_) (fun (c_1 : ¬ 816 ≤ v1_1) => ?_)
    · skip
      rw [show (L1_X5_comesBack σ (n + 1) v1_1 τ1_0) = τ1_0 from by rw [L1_X5_comesBack]; rw [if_pos c_1]]
      exact W.vret hx hb hr (fun t ht hW => ⟨rfl, by rw [ht]; exact hP, hS.F ht⟩) hS.2.2 dX5_comesBack_27
    · skip
      have hok := hok.2 c_1
      obtain ⟨h_2, hok⟩ := hok
      refine lv_aload_n hx hb dX5_comesBack_9 rfl (lv_at hl 0 rfl) ?_
      refine get_M_all hx hb hts hinX5 hown hK hP (hts (.fieldLink RX5 7 "GrooveTurnsModel" "all" "[I") (by decide +kernel)) dX5_comesBack_10 ?_
      refine lv_iload_n hx hb dX5_comesBack_13 rfl (lv_at hl 1 rfl) ?_
      refine lv_aload_n hx hb dX5_comesBack_14 rfl (lv_at hl 0 rfl) ?_
      refine get_M_kept hx hb hts hinX5 hown hK hP (hts (.fieldLink RX5 13 "GrooveTurnsModel" "kept" "[I") (by decide +kernel)) dX5_comesBack_15 ?_
      refine lv_iload_n hx hb dX5_comesBack_18 rfl (lv_at hl 1 rfl) ?_
      refine ld_M_ke hx hb hK hP h_2 dX5_comesBack_19 ?_
      refine st_M_al hx hb hK hP hD hS h_2 dX5_comesBack_20 (fun H locs hP hD hS => ?_)
      have hP : va_P G.1 vwCl (mW G.2.1 α (t1_X5_comesBack σ v1_1 τ1_0)) H := hP
      have hD : va_D (inW w0) (mW G.2.1 α (t1_X5_comesBack σ v1_1 τ1_0)) := hD
      refine lv_iinc (v := (v1_1 + 1)) (lv' := [(1, .int (v1_1 + 1)), (0, .ref (α 0))]) hx hb dX5_comesBack_21 hl (k := 1) rfl rfl (by decide) rfl (fun ls hl => ?_)
      refine lv_goto (tgt := 2) hx hb dX5_comesBack_24 (by decide) ?_
      rw [show (L1_X5_comesBack σ (n + 1) v1_1 τ1_0) = (L1_X5_comesBack σ n (v1_1 + 1) (t1_X5_comesBack σ v1_1 τ1_0)) from by rw [L1_X5_comesBack]; rw [if_neg c_1]]
      exact ih (v1_1 + 1) (t1_X5_comesBack σ v1_1 τ1_0) hok _ _ hP hD hS ls (lv_sub hl [1, 0] rfl)
set_option maxHeartbeats 4000000 in
set_option maxRecDepth 100000 in
theorem c_X5_comesBack (l : Launch) (G : GG) (α : Nat → Nat) (σ : MS) (hok : ok_X5_comesBack σ) : Wr G l yX5_comesBack wsX5_comesBack 0 0 [.ref (α 0)] (mW G.2.1 α σ) none (mW G.2.1 α (s_X5_comesBack σ)) := by
  refine Met.ofW (cc := cX5_comesBack) (maxL := 2) (ret := none) (by decide) rfl ?_
  intro p e s m args below meth c s₁ B hml hv
  obtain ⟨rfl, hP, hK, hD0⟩ := hv
  have C0 : cA p s m meth c ([.ref (α 0)] : List Value).toArray cX5_comesBack 2 none wsX5_comesBack RX5 := ⟨B.exec, B.bytes, B.returns, hml, findClass_of_methodNamed B.named, atoms_spec (ws := wsX5_comesBack) B.pre, B.notSynchronized⟩
  obtain ⟨hx, hb, hr, hml, hown, hts, hlocks⟩ := id C0
  have hF : CallFix p m c cX5_comesBack 2 s _ wsX5_comesBack RX5 := ⟨hx, hb, hml, hown, hts⟩
  have hinX5 : ∀ w ∈ wsX50, w ∈ wsX5_comesBack := by decide +kernel
  obtain ⟨w0, hw0⟩ : ∃ w0 : va_W, w0 = (mW G.2.1 α σ) := ⟨_, rfl⟩
  have hD : va_D (inW w0) (mW G.2.1 α σ) := by rw [hw0]; exact inW.D hD0
  have hS : va_S (inW w0) s.heap s.heap [] := va_S.rf
  rw [show QW G (mW G.2.1 α σ) = QW G w0 from by rw [hw0], show inW (mW G.2.1 α σ) = inW w0 from by rw [hw0]]
  have hl := lv_entry ([.ref (α 0)]) (n := 2) (Nat.le_of_ble_eq_true rfl)
  rw [lg_entry_eq]
  generalize (lg_sl ([.ref (α 0)]) ++ List.replicate (2 - (lg_sl ([.ref (α 0)])).length) Slot.unset).toArray = ls at hl ⊢
  have hl : lv_has ls 2 [(0, .ref (α 0))] := hl
  have hok : okL1_X5_comesBack σ FU 0 σ := hok
  refine lv_iconst (v := 0) hx hb dX5_comesBack_0 (by decide) ?_
  refine lv_istore_n (lv' := [(1, .int 0), (0, .ref (α 0))]) hx hb dX5_comesBack_1 rfl hl (by decide) rfl (fun ls hl => ?_)
  rw [show s_X5_comesBack σ = (L1_X5_comesBack σ FU 0 σ) from by rw [s_X5_comesBack]]
  exact wL1_X5_comesBack l G α σ C0 hK FU 0 σ hok _ _ hP hD hS ls (lv_sub hl [1, 0] rfl)
def t1_X5_records (σ : MS) (v1_1 : Int32) (τ1_0 : MS) : MS := (m_hi' τ1_0 (upd (m_hi τ1_0) ((816 * (m_hl τ1_0)) + v1_1).toNatClampNeg ((m_ke τ1_0) v1_1.toNatClampNeg)))
def t2_X5_records (σ : MS) (v2_1 : Int32) (τ2_0 : MS) : MS := (m_hi' τ2_0 (upd (m_hi τ2_0) v2_1.toNatClampNeg ((m_hi τ2_0) (v2_1 + 816).toNatClampNeg)))
def L1_X5_records (σ : MS) : Nat → Int32 → MS → MS
  | 0, v1_1, τ1_0 => τ1_0
  | n + 1, v1_1, τ1_0 => (if 816 ≤ v1_1 then (m_hl' τ1_0 ((m_hl τ1_0) + 1)) else (L1_X5_records σ n (v1_1 + 1) (t1_X5_records σ v1_1 τ1_0)))
def okL1_X5_records (σ : MS) : Nat → Int32 → MS → Prop
  | 0, _, _ => False
  | n + 1, v1_1, τ1_0 => (816 ≤ v1_1 → True) ∧ (¬ 816 ≤ v1_1 → ((vp_in v1_1 816) ∧ ((vp_in ((816 * (m_hl τ1_0)) + v1_1) 4896) ∧ (okL1_X5_records σ n (v1_1 + 1) (t1_X5_records σ v1_1 τ1_0)))))
def L2_X5_records (σ : MS) : Nat → Int32 → MS → MS
  | 0, v2_1, τ2_0 => τ2_0
  | n + 1, v2_1, τ2_0 => (if 4080 ≤ v2_1 then (L1_X5_records σ FU 0 (m_hl' τ2_0 ((m_hl τ2_0) - 1))) else (L2_X5_records σ n (v2_1 + 1) (t2_X5_records σ v2_1 τ2_0)))
def okL2_X5_records (σ : MS) : Nat → Int32 → MS → Prop
  | 0, _, _ => False
  | n + 1, v2_1, τ2_0 => (4080 ≤ v2_1 → (okL1_X5_records σ FU 0 (m_hl' τ2_0 ((m_hl τ2_0) - 1)))) ∧ (¬ 4080 ≤ v2_1 → ((vp_in (v2_1 + 816) 4896) ∧ ((vp_in v2_1 4896) ∧ (okL2_X5_records σ n (v2_1 + 1) (t2_X5_records σ v2_1 τ2_0)))))
def s_X5_records (σ : MS) : MS := (if (m_hl σ) = 6 then (L2_X5_records σ FU 0 σ) else (L1_X5_records σ FU 0 σ))
def ok_X5_records (σ : MS) : Prop := ((m_hl σ) = 6 → (okL2_X5_records σ FU 0 σ)) ∧ (¬ (m_hl σ) = 6 → (okL1_X5_records σ FU 0 σ))
set_option maxHeartbeats 4000000 in
set_option maxRecDepth 100000 in
theorem wL1_X5_records {p : Program} {e : Env} {s : State} {m : MethodId} {args : Array Value} {below : List Frame} {meth : Method} {c : Code} {w0 : va_W} (l : Launch) (G : GG) (α : Nat → Nat) (σ : MS) (C0 : cA p s m meth c args cX5_records 2 none wsX5_records RX5) (hK : cK G s) : ∀ (n : Nat) (v1_1 : Int32) (τ1_0 : MS)  (hok : okL1_X5_records σ n v1_1 τ1_0) (H : Heap) (locs : List Loc), va_P G.1 vwCl (mW G.2.1 α τ1_0) H → va_D (inW w0) (mW G.2.1 α τ1_0) → va_S (inW w0) s.heap H locs → ∀ (ls : Array Slot), lv_has ls 2 [(0, .ref (α 0)), (1, .int v1_1)] → W p l e (rmm 0 0) s m args below meth c H locs 0 0 (MQ below (QW G w0 (mW G.2.1 α (L1_X5_records σ n v1_1 τ1_0)) none) args s 0 0 (inW w0)) (F0 m 52 ls []) := by
  obtain ⟨hx, hb, hr, hml, hown, hts, hlocks⟩ := id C0
  have hF : CallFix p m c cX5_records 2 s args wsX5_records RX5 := ⟨hx, hb, hml, hown, hts⟩
  have hinX5 : ∀ w ∈ wsX50, w ∈ wsX5_records := by decide +kernel
  intro n
  induction n with
  | zero =>
    intro v1_1 τ1_0 hok
    exact hok.elim
  | succ n ih =>
    intro v1_1 τ1_0 hok H locs hP hD hS ls hl
    have hok : (816 ≤ v1_1 → True) ∧ (¬ 816 ≤ v1_1 → ((vp_in v1_1 816) ∧ ((vp_in ((816 * (m_hl τ1_0)) + v1_1) 4896) ∧ (okL1_X5_records σ n (v1_1 + 1) (t1_X5_records σ v1_1 τ1_0))))) := hok
    refine lv_iload_n hx hb dX5_records_52 rfl (lv_at hl 1 rfl) ?_
    refine lv_sipush (v := 816) hx hb dX5_records_53 (by decide) ?_
    refine lv_icmp_ge (tgt := 86) hx hb dX5_records_56 (by decide) (fun (c_2 : 816 ≤ v1_1) => ?_) (fun (c_2 : ¬ 816 ≤ v1_1) => ?_)
    · skip
      refine lv_aload_n hx hb dX5_records_86 rfl (lv_at hl 0 rfl) ?_
      refine lv_dup hx hb dX5_records_87 rfl ?_
      refine get_M_historyLong hx hb hts hinX5 hown hK hP (hts (.fieldLink RX5 37 "GrooveTurnsModel" "historyLong" "I") (by decide +kernel)) dX5_records_88 ?_
      refine lv_iconst (v := 1) hx hb dX5_records_91 (by decide) ?_
      refine lv_iadd hx hb dX5_records_92 ?_
      refine put_M_historyLong hx hb hts hinX5 hown hK hP hD hS (hts (.fieldLink RX5 37 "GrooveTurnsModel" "historyLong" "I") (by decide +kernel)) dX5_records_93 (fun H locs hP hD hS => ?_)
      have hP : va_P G.1 vwCl (mW G.2.1 α (m_hl' τ1_0 ((m_hl τ1_0) + 1))) H := hP
      have hD : va_D (inW w0) (mW G.2.1 α (m_hl' τ1_0 ((m_hl τ1_0) + 1))) := hD
      rw [show (L1_X5_records σ (n + 1) v1_1 τ1_0) = (m_hl' τ1_0 ((m_hl τ1_0) + 1)) from by rw [L1_X5_records]; rw [if_pos c_2]]
      exact W.vret hx hb hr (fun t ht hW => ⟨rfl, by rw [ht]; exact hP, hS.F ht⟩) hS.2.2 dX5_records_96
    · skip
      have hok := hok.2 c_2
      obtain ⟨h_3, hok⟩ := hok
      refine lv_aload_n hx hb dX5_records_59 rfl (lv_at hl 0 rfl) ?_
      refine get_M_history hx hb hts hinX5 hown hK hP (hts (.fieldLink RX5 16 "GrooveTurnsModel" "history" "[I") (by decide +kernel)) dX5_records_60 ?_
      refine lv_sipush (v := 816) hx hb dX5_records_63 (by decide) ?_
      refine lv_aload_n hx hb dX5_records_66 rfl (lv_at hl 0 rfl) ?_
      refine get_M_historyLong hx hb hts hinX5 hown hK hP (hts (.fieldLink RX5 37 "GrooveTurnsModel" "historyLong" "I") (by decide +kernel)) dX5_records_67 ?_
      refine lv_imul hx hb dX5_records_70 ?_
      refine lv_iload_n hx hb dX5_records_71 rfl (lv_at hl 1 rfl) ?_
      refine lv_iadd hx hb dX5_records_72 ?_
      refine lv_aload_n hx hb dX5_records_73 rfl (lv_at hl 0 rfl) ?_
      refine get_M_kept hx hb hts hinX5 hown hK hP (hts (.fieldLink RX5 13 "GrooveTurnsModel" "kept" "[I") (by decide +kernel)) dX5_records_74 ?_
      refine lv_iload_n hx hb dX5_records_77 rfl (lv_at hl 1 rfl) ?_
      refine ld_M_ke hx hb hK hP h_3 dX5_records_78 ?_
      obtain ⟨h_4, hok⟩ := hok
      refine st_M_hi hx hb hK hP hD hS h_4 dX5_records_79 (fun H locs hP hD hS => ?_)
      have hP : va_P G.1 vwCl (mW G.2.1 α (t1_X5_records σ v1_1 τ1_0)) H := hP
      have hD : va_D (inW w0) (mW G.2.1 α (t1_X5_records σ v1_1 τ1_0)) := hD
      refine lv_iinc (v := (v1_1 + 1)) (lv' := [(1, .int (v1_1 + 1)), (0, .ref (α 0))]) hx hb dX5_records_80 hl (k := 1) rfl rfl (by decide) rfl (fun ls hl => ?_)
      refine lv_goto (tgt := 52) hx hb dX5_records_83 (by decide) ?_
      rw [show (L1_X5_records σ (n + 1) v1_1 τ1_0) = (L1_X5_records σ n (v1_1 + 1) (t1_X5_records σ v1_1 τ1_0)) from by rw [L1_X5_records]; rw [if_neg c_2]]
      exact ih (v1_1 + 1) (t1_X5_records σ v1_1 τ1_0) hok _ _ hP hD hS ls (lv_sub hl [1, 0] rfl)
set_option maxHeartbeats 4000000 in
set_option maxRecDepth 100000 in
theorem wL2_X5_records {p : Program} {e : Env} {s : State} {m : MethodId} {args : Array Value} {below : List Frame} {meth : Method} {c : Code} {w0 : va_W} (l : Launch) (G : GG) (α : Nat → Nat) (σ : MS) (C0 : cA p s m meth c args cX5_records 2 none wsX5_records RX5) (hK : cK G s) : ∀ (n : Nat) (v2_1 : Int32) (τ2_0 : MS)  (hok : okL2_X5_records σ n v2_1 τ2_0) (H : Heap) (locs : List Loc), va_P G.1 vwCl (mW G.2.1 α τ2_0) H → va_D (inW w0) (mW G.2.1 α τ2_0) → va_S (inW w0) s.heap H locs → ∀ (ls : Array Slot), lv_has ls 2 [(0, .ref (α 0)), (1, .int v2_1)] → W p l e (rmm 0 0) s m args below meth c H locs 0 0 (MQ below (QW G w0 (mW G.2.1 α (L2_X5_records σ n v2_1 τ2_0)) none) args s 0 0 (inW w0)) (F0 m 11 ls []) := by
  obtain ⟨hx, hb, hr, hml, hown, hts, hlocks⟩ := id C0
  have hF : CallFix p m c cX5_records 2 s args wsX5_records RX5 := ⟨hx, hb, hml, hown, hts⟩
  have hinX5 : ∀ w ∈ wsX50, w ∈ wsX5_records := by decide +kernel
  intro n
  induction n with
  | zero =>
    intro v2_1 τ2_0 hok
    exact hok.elim
  | succ n ih =>
    intro v2_1 τ2_0 hok H locs hP hD hS ls hl
    have hok : (4080 ≤ v2_1 → (okL1_X5_records σ FU 0 (m_hl' τ2_0 ((m_hl τ2_0) - 1)))) ∧ (¬ 4080 ≤ v2_1 → ((vp_in (v2_1 + 816) 4896) ∧ ((vp_in v2_1 4896) ∧ (okL2_X5_records σ n (v2_1 + 1) (t2_X5_records σ v2_1 τ2_0))))) := hok
    refine lv_iload_n hx hb dX5_records_11 rfl (lv_at hl 1 rfl) ?_
    refine lv_sipush (v := 4080) hx hb dX5_records_12 (by decide) ?_
    refine lv_icmp_ge (tgt := 40) hx hb dX5_records_15 (by decide) (fun (c_5 : 4080 ≤ v2_1) => ?_) (fun (c_5 : ¬ 4080 ≤ v2_1) => ?_)
    · skip
      have hok := hok.1 c_5
      refine lv_aload_n hx hb dX5_records_40 rfl (lv_at hl 0 rfl) ?_
      refine lv_dup hx hb dX5_records_41 rfl ?_
      refine get_M_historyLong hx hb hts hinX5 hown hK hP (hts (.fieldLink RX5 37 "GrooveTurnsModel" "historyLong" "I") (by decide +kernel)) dX5_records_42 ?_
      refine lv_iconst (v := 1) hx hb dX5_records_45 (by decide) ?_
      refine lv_isub hx hb dX5_records_46 ?_
      refine put_M_historyLong hx hb hts hinX5 hown hK hP hD hS (hts (.fieldLink RX5 37 "GrooveTurnsModel" "historyLong" "I") (by decide +kernel)) dX5_records_47 (fun H locs hP hD hS => ?_)
      have hP : va_P G.1 vwCl (mW G.2.1 α (m_hl' τ2_0 ((m_hl τ2_0) - 1))) H := hP
      have hD : va_D (inW w0) (mW G.2.1 α (m_hl' τ2_0 ((m_hl τ2_0) - 1))) := hD
      refine lv_iconst (v := 0) hx hb dX5_records_50 (by decide) ?_
      refine lv_istore_n (lv' := [(1, .int 0), (0, .ref (α 0))]) hx hb dX5_records_51 rfl hl (by decide) rfl (fun ls hl => ?_)
      rw [show (L2_X5_records σ (n + 1) v2_1 τ2_0) = (L1_X5_records σ FU 0 (m_hl' τ2_0 ((m_hl τ2_0) - 1))) from by rw [L2_X5_records]; rw [if_pos c_5]]
      exact wL1_X5_records l G α σ C0 hK FU 0 (m_hl' τ2_0 ((m_hl τ2_0) - 1)) hok _ _ hP hD hS ls (lv_sub hl [1, 0] rfl)
    · skip
      have hok := hok.2 c_5
      obtain ⟨h_6, hok⟩ := hok
      refine lv_aload_n hx hb dX5_records_18 rfl (lv_at hl 0 rfl) ?_
      refine get_M_history hx hb hts hinX5 hown hK hP (hts (.fieldLink RX5 16 "GrooveTurnsModel" "history" "[I") (by decide +kernel)) dX5_records_19 ?_
      refine lv_iload_n hx hb dX5_records_22 rfl (lv_at hl 1 rfl) ?_
      refine lv_aload_n hx hb dX5_records_23 rfl (lv_at hl 0 rfl) ?_
      refine get_M_history hx hb hts hinX5 hown hK hP (hts (.fieldLink RX5 16 "GrooveTurnsModel" "history" "[I") (by decide +kernel)) dX5_records_24 ?_
      refine lv_iload_n hx hb dX5_records_27 rfl (lv_at hl 1 rfl) ?_
      refine lv_sipush (v := 816) hx hb dX5_records_28 (by decide) ?_
      refine lv_iadd hx hb dX5_records_31 ?_
      refine ld_M_hi hx hb hK hP h_6 dX5_records_32 ?_
      obtain ⟨h_7, hok⟩ := hok
      refine st_M_hi hx hb hK hP hD hS h_7 dX5_records_33 (fun H locs hP hD hS => ?_)
      have hP : va_P G.1 vwCl (mW G.2.1 α (t2_X5_records σ v2_1 τ2_0)) H := hP
      have hD : va_D (inW w0) (mW G.2.1 α (t2_X5_records σ v2_1 τ2_0)) := hD
      refine lv_iinc (v := (v2_1 + 1)) (lv' := [(1, .int (v2_1 + 1)), (0, .ref (α 0))]) hx hb dX5_records_34 hl (k := 1) rfl rfl (by decide) rfl (fun ls hl => ?_)
      refine lv_goto (tgt := 11) hx hb dX5_records_37 (by decide) ?_
      rw [show (L2_X5_records σ (n + 1) v2_1 τ2_0) = (L2_X5_records σ n (v2_1 + 1) (t2_X5_records σ v2_1 τ2_0)) from by rw [L2_X5_records]; rw [if_neg c_5]]
      exact ih (v2_1 + 1) (t2_X5_records σ v2_1 τ2_0) hok _ _ hP hD hS ls (lv_sub hl [1, 0] rfl)
set_option maxHeartbeats 4000000 in
set_option maxRecDepth 100000 in
theorem c_X5_records (l : Launch) (G : GG) (α : Nat → Nat) (σ : MS) (hok : ok_X5_records σ) : Wr G l yX5_records wsX5_records 0 0 [.ref (α 0)] (mW G.2.1 α σ) none (mW G.2.1 α (s_X5_records σ)) := by
  refine Met.ofW (cc := cX5_records) (maxL := 2) (ret := none) (by decide) rfl ?_
  intro p e s m args below meth c s₁ B hml hv
  obtain ⟨rfl, hP, hK, hD0⟩ := hv
  have C0 : cA p s m meth c ([.ref (α 0)] : List Value).toArray cX5_records 2 none wsX5_records RX5 := ⟨B.exec, B.bytes, B.returns, hml, findClass_of_methodNamed B.named, atoms_spec (ws := wsX5_records) B.pre, B.notSynchronized⟩
  obtain ⟨hx, hb, hr, hml, hown, hts, hlocks⟩ := id C0
  have hF : CallFix p m c cX5_records 2 s _ wsX5_records RX5 := ⟨hx, hb, hml, hown, hts⟩
  have hinX5 : ∀ w ∈ wsX50, w ∈ wsX5_records := by decide +kernel
  obtain ⟨w0, hw0⟩ : ∃ w0 : va_W, w0 = (mW G.2.1 α σ) := ⟨_, rfl⟩
  have hD : va_D (inW w0) (mW G.2.1 α σ) := by rw [hw0]; exact inW.D hD0
  have hS : va_S (inW w0) s.heap s.heap [] := va_S.rf
  rw [show QW G (mW G.2.1 α σ) = QW G w0 from by rw [hw0], show inW (mW G.2.1 α σ) = inW w0 from by rw [hw0]]
  have hl := lv_entry ([.ref (α 0)]) (n := 2) (Nat.le_of_ble_eq_true rfl)
  rw [lg_entry_eq]
  generalize (lg_sl ([.ref (α 0)]) ++ List.replicate (2 - (lg_sl ([.ref (α 0)])).length) Slot.unset).toArray = ls at hl ⊢
  have hl : lv_has ls 2 [(0, .ref (α 0))] := hl
  have hok : ((m_hl σ) = 6 → (okL2_X5_records σ FU 0 σ)) ∧ (¬ (m_hl σ) = 6 → (okL1_X5_records σ FU 0 σ)) := hok
  refine lv_aload_n hx hb dX5_records_0 rfl (lv_at hl 0 rfl) ?_
  refine get_M_historyLong hx hb hts hinX5 hown hK hP (hts (.fieldLink RX5 37 "GrooveTurnsModel" "historyLong" "I") (by decide +kernel)) dX5_records_1 ?_
  refine lv_bipush (v := 6) hx hb dX5_records_4 (by decide) ?_
  refine lv_icmp_ne (tgt := 50) hx hb dX5_records_6 (by decide) (fun (c_1 : ¬ (m_hl σ) = 6) => ?_) (fun (c_1 : (m_hl σ) = 6) => ?_)
  · skip
    have hok := hok.2 c_1
    refine lv_iconst (v := 0) hx hb dX5_records_50 (by decide) ?_
    refine lv_istore_n (lv' := [(1, .int 0), (0, .ref (α 0))]) hx hb dX5_records_51 rfl hl (by decide) rfl (fun ls hl => ?_)
    rw [show s_X5_records σ = (L1_X5_records σ FU 0 σ) from by rw [s_X5_records]; rw [if_neg c_1]]
    exact wL1_X5_records l G α σ C0 hK FU 0 σ hok _ _ hP hD hS ls (lv_sub hl [1, 0] rfl)
  · skip
    have hok := hok.1 c_1
    refine lv_iconst (v := 0) hx hb dX5_records_9 (by decide) ?_
    refine lv_istore_n (lv' := [(1, .int 0), (0, .ref (α 0))]) hx hb dX5_records_10 rfl hl (by decide) rfl (fun ls hl => ?_)
    rw [show s_X5_records σ = (L2_X5_records σ FU 0 σ) from by rw [s_X5_records]; rw [if_pos c_1]]
    exact wL2_X5_records l G α σ C0 hK FU 0 σ hok _ _ hP hD hS ls (lv_sub hl [1, 0] rfl)
def s_X5_ends (σ : MS) (p1 : Int32) : Int32 × MS := (if 0 ≤ p1 then (p1, (s_X5_records σ)) else (p1, (s_X5_comesBack σ)))
def ok_X5_ends (σ : MS) (p1 : Int32) : Prop := (0 ≤ p1 → (ok_X5_records σ)) ∧ (¬ 0 ≤ p1 → (ok_X5_comesBack σ))
set_option maxHeartbeats 4000000 in
set_option maxRecDepth 100000 in
theorem c_X5_ends (l : Launch) (G : GG) (α : Nat → Nat) (σ : MS) (p1 : Int32) (hok : ok_X5_ends σ p1) : Wr G l yX5_ends wsX5_ends 1 21 [.ref (α 0), .int p1] (mW G.2.1 α σ) (some (.int (s_X5_ends σ p1).1)) (mW G.2.1 α ((s_X5_ends σ p1).2)) := by
  refine Met.ofW (cc := cX5_ends) (maxL := 2) (ret := (some .int)) (by decide) rfl ?_
  intro p e s m args below meth c s₁ B hml hv
  obtain ⟨rfl, hP, hK, hD0⟩ := hv
  have C0 : cA p s m meth c ([.ref (α 0), .int p1] : List Value).toArray cX5_ends 2 (some .int) wsX5_ends RX5 := ⟨B.exec, B.bytes, B.returns, hml, findClass_of_methodNamed B.named, atoms_spec (ws := wsX5_ends) B.pre, B.notSynchronized⟩
  obtain ⟨hx, hb, hr, hml, hown, hts, hlocks⟩ := id C0
  have hF : CallFix p m c cX5_ends 2 s _ wsX5_ends RX5 := ⟨hx, hb, hml, hown, hts⟩
  obtain ⟨w0, hw0⟩ : ∃ w0 : va_W, w0 = (mW G.2.1 α σ) := ⟨_, rfl⟩
  have hD : va_D (inW w0) (mW G.2.1 α σ) := by rw [hw0]; exact inW.D hD0
  have hS : va_S (inW w0) s.heap s.heap [] := va_S.rf
  rw [show QW G (mW G.2.1 α σ) = QW G w0 from by rw [hw0], show inW (mW G.2.1 α σ) = inW w0 from by rw [hw0]]
  have hl := lv_entry ([.ref (α 0), .int p1]) (n := 2) (Nat.le_of_ble_eq_true rfl)
  rw [lg_entry_eq]
  generalize (lg_sl ([.ref (α 0), .int p1]) ++ List.replicate (2 - (lg_sl ([.ref (α 0), .int p1])).length) Slot.unset).toArray = ls at hl ⊢
  have hl : lv_has ls 2 [(0, .ref (α 0)), (1, .int p1)] := hl
  have hok : (0 ≤ p1 → (ok_X5_records σ)) ∧ (¬ 0 ≤ p1 → (ok_X5_comesBack σ)) := hok
  refine lv_iload_n hx hb dX5_ends_0 rfl (lv_at hl 1 rfl) ?_
  refine lv_if_ge (tgt := 11) hx hb dX5_ends_1 (by decide) (fun (c_1 : 0 ≤ p1) => ?_) (fun (c_1 : ¬ 0 ≤ p1) => ?_)
  · skip
    have hok := hok.1 c_1
    have h_2 := hok
    refine lv_aload_n hx hb dX5_ends_11 rfl (lv_at hl 0 rfl) ?_
    refine wrV0 (As := []) (rest := []) (c_X5_records l G α σ h_2) hF (cwV 0 hts gX5_ends_X5_records rfl rfl rfl (by decide +kernel) ⟨Nat.le_of_ble_eq_true rfl, Nat.le_of_ble_eq_true rfl⟩) (rcv_M hK hP) hK hP hD hS (fst_M _ _) rfl hl.1 rfl (Nat.le_of_ble_eq_true rfl) dX5_ends_12 ⟨Nat.zero_le _, Nat.zero_le _⟩ (fun H locs hP hD hS => ?_)
    have hP : va_P G.1 vwCl (mW G.2.1 α (s_X5_records σ)) H := hP
    have hD : va_D (inW w0) (mW G.2.1 α (s_X5_records σ)) := hD
    refine lv_iload_n hx hb dX5_ends_15 rfl (lv_at hl 1 rfl) ?_
    have E9 : s_X5_ends σ p1 = (p1, (s_X5_records σ)) := by rw [s_X5_ends]; rw [if_pos c_1]
    rw [pr1 E9, pr2 E9]
    exact W.iret hx hb hr (fun t ht hW => ⟨rfl, by rw [ht]; exact hP, hS.F ht⟩) hS.2.2 dX5_ends_16
  · skip
    have hok := hok.2 c_1
    have h_3 := hok
    refine lv_aload_n hx hb dX5_ends_4 rfl (lv_at hl 0 rfl) ?_
    refine wrV0 (As := []) (rest := []) (c_X5_comesBack l G α σ h_3) hF (cwV 0 hts gX5_ends_X5_comesBack rfl rfl rfl (by decide +kernel) ⟨Nat.le_of_ble_eq_true rfl, Nat.le_of_ble_eq_true rfl⟩) (rcv_M hK hP) hK hP hD hS (fst_M _ _) rfl hl.1 rfl (Nat.le_of_ble_eq_true rfl) dX5_ends_5 ⟨Nat.zero_le _, Nat.zero_le _⟩ (fun H locs hP hD hS => ?_)
    have hP : va_P G.1 vwCl (mW G.2.1 α (s_X5_comesBack σ)) H := hP
    have hD : va_D (inW w0) (mW G.2.1 α (s_X5_comesBack σ)) := hD
    refine lv_goto (tgt := 15) hx hb dX5_ends_8 (by decide) ?_
    refine lv_iload_n hx hb dX5_ends_15 rfl (lv_at hl 1 rfl) ?_
    have E9 : s_X5_ends σ p1 = (p1, (s_X5_comesBack σ)) := by rw [s_X5_ends]; rw [if_neg c_1]
    rw [pr1 E9, pr2 E9]
    exact W.iret hx hb hr (fun t ht hW => ⟨rfl, by rw [ht]; exact hP, hS.F ht⟩) hS.2.2 dX5_ends_16
def t1_X5_set (σ : MS) (p1 : Int32) (p2 : Int32) : MS := (m_al' (s_X5_keeps σ) (upd (m_al (s_X5_keeps σ)) p1.toNatClampNeg p2))
def t2_X5_set (σ : MS) (p1 : Int32) (p2 : Int32) : MS := ((s_X5_ends (t1_X5_set σ p1 p2) ((m_al (s_X5_keeps σ)) p1.toNatClampNeg)).2)
def s_X5_set (σ : MS) (p1 : Int32) (p2 : Int32) : Int32 × MS := (if (s_X5_isSetting p1 p2) = 0 then ((-2), σ) else (((s_X5_ends (t1_X5_set σ p1 p2) ((m_al (s_X5_keeps σ)) p1.toNatClampNeg)).1), (t2_X5_set σ p1 p2)))
def ok_X5_set (σ : MS) (p1 : Int32) (p2 : Int32) : Prop := ((s_X5_isSetting p1 p2) = 0 → True) ∧ (¬ (s_X5_isSetting p1 p2) = 0 → ((ok_X5_keeps σ) ∧ ((vp_in p1 816) ∧ (ok_X5_ends (t1_X5_set σ p1 p2) ((m_al (s_X5_keeps σ)) p1.toNatClampNeg)))))
set_option maxHeartbeats 4000000 in
set_option maxRecDepth 100000 in
theorem c_X5_set (l : Launch) (G : GG) (α : Nat → Nat) (σ : MS) (p1 : Int32) (p2 : Int32) (hok : ok_X5_set σ p1 p2) : Wr G l yX5_set wsX5_set 2 46 [.ref (α 0), .int p1, .int p2] (mW G.2.1 α σ) (some (.int (s_X5_set σ p1 p2).1)) (mW G.2.1 α ((s_X5_set σ p1 p2).2)) := by
  refine Met.ofW (cc := cX5_set) (maxL := 4) (ret := (some .int)) (by decide) rfl ?_
  intro p e s m args below meth c s₁ B hml hv
  obtain ⟨rfl, hP, hK, hD0⟩ := hv
  have C0 : cA p s m meth c ([.ref (α 0), .int p1, .int p2] : List Value).toArray cX5_set 4 (some .int) wsX5_set RX5 := ⟨B.exec, B.bytes, B.returns, hml, findClass_of_methodNamed B.named, atoms_spec (ws := wsX5_set) B.pre, B.notSynchronized⟩
  obtain ⟨hx, hb, hr, hml, hown, hts, hlocks⟩ := id C0
  have hF : CallFix p m c cX5_set 4 s _ wsX5_set RX5 := ⟨hx, hb, hml, hown, hts⟩
  have hinX5 : ∀ w ∈ wsX50, w ∈ wsX5_set := by decide +kernel
  obtain ⟨w0, hw0⟩ : ∃ w0 : va_W, w0 = (mW G.2.1 α σ) := ⟨_, rfl⟩
  have hD : va_D (inW w0) (mW G.2.1 α σ) := by rw [hw0]; exact inW.D hD0
  have hS : va_S (inW w0) s.heap s.heap [] := va_S.rf
  rw [show QW G (mW G.2.1 α σ) = QW G w0 from by rw [hw0], show inW (mW G.2.1 α σ) = inW w0 from by rw [hw0]]
  have hl := lv_entry ([.ref (α 0), .int p1, .int p2]) (n := 4) (Nat.le_of_ble_eq_true rfl)
  rw [lg_entry_eq]
  generalize (lg_sl ([.ref (α 0), .int p1, .int p2]) ++ List.replicate (4 - (lg_sl ([.ref (α 0), .int p1, .int p2])).length) Slot.unset).toArray = ls at hl ⊢
  have hl : lv_has ls 4 [(0, .ref (α 0)), (1, .int p1), (2, .int p2)] := hl
  have hok : ((s_X5_isSetting p1 p2) = 0 → True) ∧ (¬ (s_X5_isSetting p1 p2) = 0 → ((ok_X5_keeps σ) ∧ ((vp_in p1 816) ∧ (ok_X5_ends (t1_X5_set σ p1 p2) ((m_al (s_X5_keeps σ)) p1.toNatClampNeg))))) := hok
  refine lv_iload_n hx hb dX5_set_0 rfl (lv_at hl 1 rfl) ?_
  refine lv_iload_n hx hb dX5_set_1 rfl (lv_at hl 2 rfl) ?_
  refine rdS (As := [.int p1, .int p2]) (rest := []) (c_X5_isSetting l G p1 p2) hF (va_cwS 2 hts gX5_set_X5_isSetting rfl rfl rfl (by decide +kernel) ⟨Nat.le_of_ble_eq_true rfl, Nat.le_of_ble_eq_true rfl⟩) hK va_P0 rfl hl.1 rfl (Nat.le_of_ble_eq_true rfl) dX5_set_2 ⟨Nat.zero_le _, Nat.zero_le _⟩ ?_
  refine lv_if_ne (tgt := 11) hx hb dX5_set_5 (by decide) (fun (c_1 : ¬ (s_X5_isSetting p1 p2) = 0) => ?_) (fun (c_1 : (s_X5_isSetting p1 p2) = 0) => ?_)
  · skip
    have hok := hok.2 c_1
    obtain ⟨h_2, hok⟩ := hok
    refine lv_aload_n hx hb dX5_set_11 rfl (lv_at hl 0 rfl) ?_
    refine wrV0 (As := []) (rest := []) (c_X5_keeps l G α σ h_2) hF (cwV 0 hts gX5_set_X5_keeps rfl rfl rfl (by decide +kernel) ⟨Nat.le_of_ble_eq_true rfl, Nat.le_of_ble_eq_true rfl⟩) (rcv_M hK hP) hK hP hD hS (fst_M _ _) rfl hl.1 rfl (Nat.le_of_ble_eq_true rfl) dX5_set_12 ⟨Nat.zero_le _, Nat.zero_le _⟩ (fun H locs hP hD hS => ?_)
    have hP : va_P G.1 vwCl (mW G.2.1 α (s_X5_keeps σ)) H := hP
    have hD : va_D (inW w0) (mW G.2.1 α (s_X5_keeps σ)) := hD
    obtain ⟨h_3, hok⟩ := hok
    refine lv_aload_n hx hb dX5_set_15 rfl (lv_at hl 0 rfl) ?_
    refine get_M_all hx hb hts hinX5 hown hK hP (hts (.fieldLink RX5 7 "GrooveTurnsModel" "all" "[I") (by decide +kernel)) dX5_set_16 ?_
    refine lv_iload_n hx hb dX5_set_19 rfl (lv_at hl 1 rfl) ?_
    refine ld_M_al hx hb hK hP h_3 dX5_set_20 ?_
    have h_4 := hok
    refine lv_istore_n (lv' := [(3, .int ((m_al (s_X5_keeps σ)) p1.toNatClampNeg)), (0, .ref (α 0)), (1, .int p1), (2, .int p2)]) hx hb dX5_set_21 rfl hl (by decide) rfl (fun ls hl => ?_)
    refine lv_aload_n hx hb dX5_set_22 rfl (lv_at hl 1 rfl) ?_
    refine get_M_all hx hb hts hinX5 hown hK hP (hts (.fieldLink RX5 7 "GrooveTurnsModel" "all" "[I") (by decide +kernel)) dX5_set_23 ?_
    refine lv_iload_n hx hb dX5_set_26 rfl (lv_at hl 2 rfl) ?_
    refine lv_iload_n hx hb dX5_set_27 rfl (lv_at hl 3 rfl) ?_
    refine st_M_al hx hb hK hP hD hS h_3 dX5_set_28 (fun H locs hP hD hS => ?_)
    have hP : va_P G.1 vwCl (mW G.2.1 α (t1_X5_set σ p1 p2)) H := hP
    have hD : va_D (inW w0) (mW G.2.1 α (t1_X5_set σ p1 p2)) := hD
    refine lv_aload_n hx hb dX5_set_29 rfl (lv_at hl 1 rfl) ?_
    refine lv_iload_n hx hb dX5_set_30 rfl (lv_at hl 0 rfl) ?_
    refine wrV0 (As := [.int ((m_al (s_X5_keeps σ)) p1.toNatClampNeg)]) (rest := []) (c_X5_ends l G α (t1_X5_set σ p1 p2) ((m_al (s_X5_keeps σ)) p1.toNatClampNeg) h_4) hF (cwV 1 hts gX5_set_X5_ends rfl rfl rfl (by decide +kernel) ⟨Nat.le_of_ble_eq_true rfl, Nat.le_of_ble_eq_true rfl⟩) (rcv_M hK hP) hK hP hD hS (fst_M _ _) rfl hl.1 rfl (Nat.le_of_ble_eq_true rfl) dX5_set_31 ⟨Nat.zero_le _, Nat.zero_le _⟩ (fun H locs hP hD hS => ?_)
    have hP : va_P G.1 vwCl (mW G.2.1 α (t2_X5_set σ p1 p2)) H := hP
    have hD : va_D (inW w0) (mW G.2.1 α (t2_X5_set σ p1 p2)) := hD
    have E9 : s_X5_set σ p1 p2 = (((s_X5_ends (t1_X5_set σ p1 p2) ((m_al (s_X5_keeps σ)) p1.toNatClampNeg)).1), (t2_X5_set σ p1 p2)) := by rw [s_X5_set]; rw [if_neg c_1]
    rw [pr1 E9, pr2 E9]
    exact W.iret hx hb hr (fun t ht hW => ⟨rfl, by rw [ht]; exact hP, hS.F ht⟩) hS.2.2 dX5_set_34
  · skip
    refine lv_bipush (v := (-2)) hx hb dX5_set_8 (by decide) ?_
    have E9 : s_X5_set σ p1 p2 = ((-2), σ) := by rw [s_X5_set]; rw [if_pos c_1]
    rw [pr1 E9, pr2 E9]
    exact W.iret hx hb hr (fun t ht hW => ⟨rfl, by rw [ht]; exact hP, hS.F ht⟩) hS.2.2 dX5_set_10
def t1_X5_write (σ : MS) (p1 : Int32) (p2 : Int32) : MS := ((s_X5_ends ((s_X5_doWrite (s_X5_keeps σ) p1 p2).2) ((s_X5_doWrite (s_X5_keeps σ) p1 p2).1)).2)
def s_X5_write (σ : MS) (p1 : Int32) (p2 : Int32) : Int32 × MS := (if (s_X5_isAddress p1) = 0 then ((-1), σ) else (if (s_X5_in p2.toInt64 0 255) = 0 then ((-2), σ) else (((s_X5_ends ((s_X5_doWrite (s_X5_keeps σ) p1 p2).2) ((s_X5_doWrite (s_X5_keeps σ) p1 p2).1)).1), (t1_X5_write σ p1 p2))))
def ok_X5_write (σ : MS) (p1 : Int32) (p2 : Int32) : Prop := ((s_X5_isAddress p1) = 0 → True) ∧ (¬ (s_X5_isAddress p1) = 0 → (((s_X5_in p2.toInt64 0 255) = 0 → True) ∧ (¬ (s_X5_in p2.toInt64 0 255) = 0 → ((ok_X5_keeps σ) ∧ ((ok_X5_doWrite (s_X5_keeps σ) p1 p2) ∧ (ok_X5_ends ((s_X5_doWrite (s_X5_keeps σ) p1 p2).2) ((s_X5_doWrite (s_X5_keeps σ) p1 p2).1)))))))
set_option maxHeartbeats 4000000 in
set_option maxRecDepth 100000 in
theorem c_X5_write (l : Launch) (G : GG) (α : Nat → Nat) (σ : MS) (p1 : Int32) (p2 : Int32) (hok : ok_X5_write σ p1 p2) : Wr G l yX5_write wsX5_write 5 115 [.ref (α 0), .int p1, .int p2] (mW G.2.1 α σ) (some (.int (s_X5_write σ p1 p2).1)) (mW G.2.1 α ((s_X5_write σ p1 p2).2)) := by
  refine Met.ofW (cc := cX5_write) (maxL := 3) (ret := (some .int)) (by decide) rfl ?_
  intro p e s m args below meth c s₁ B hml hv
  obtain ⟨rfl, hP, hK, hD0⟩ := hv
  have C0 : cA p s m meth c ([.ref (α 0), .int p1, .int p2] : List Value).toArray cX5_write 3 (some .int) wsX5_write RX5 := ⟨B.exec, B.bytes, B.returns, hml, findClass_of_methodNamed B.named, atoms_spec (ws := wsX5_write) B.pre, B.notSynchronized⟩
  obtain ⟨hx, hb, hr, hml, hown, hts, hlocks⟩ := id C0
  have hF : CallFix p m c cX5_write 3 s _ wsX5_write RX5 := ⟨hx, hb, hml, hown, hts⟩
  obtain ⟨w0, hw0⟩ : ∃ w0 : va_W, w0 = (mW G.2.1 α σ) := ⟨_, rfl⟩
  have hD : va_D (inW w0) (mW G.2.1 α σ) := by rw [hw0]; exact inW.D hD0
  have hS : va_S (inW w0) s.heap s.heap [] := va_S.rf
  rw [show QW G (mW G.2.1 α σ) = QW G w0 from by rw [hw0], show inW (mW G.2.1 α σ) = inW w0 from by rw [hw0]]
  have hl := lv_entry ([.ref (α 0), .int p1, .int p2]) (n := 3) (Nat.le_of_ble_eq_true rfl)
  rw [lg_entry_eq]
  generalize (lg_sl ([.ref (α 0), .int p1, .int p2]) ++ List.replicate (3 - (lg_sl ([.ref (α 0), .int p1, .int p2])).length) Slot.unset).toArray = ls at hl ⊢
  have hl : lv_has ls 3 [(0, .ref (α 0)), (1, .int p1), (2, .int p2)] := hl
  have hok : ((s_X5_isAddress p1) = 0 → True) ∧ (¬ (s_X5_isAddress p1) = 0 → (((s_X5_in p2.toInt64 0 255) = 0 → True) ∧ (¬ (s_X5_in p2.toInt64 0 255) = 0 → ((ok_X5_keeps σ) ∧ ((ok_X5_doWrite (s_X5_keeps σ) p1 p2) ∧ (ok_X5_ends ((s_X5_doWrite (s_X5_keeps σ) p1 p2).2) ((s_X5_doWrite (s_X5_keeps σ) p1 p2).1))))))) := hok
  refine lv_iload_n hx hb dX5_write_0 rfl (lv_at hl 1 rfl) ?_
  refine rdS (As := [.int p1]) (rest := []) (c_X5_isAddress l G p1) hF (va_cwS 1 hts gX5_write_X5_isAddress rfl rfl rfl (by decide +kernel) ⟨Nat.le_of_ble_eq_true rfl, Nat.le_of_ble_eq_true rfl⟩) hK va_P0 rfl hl.1 rfl (Nat.le_of_ble_eq_true rfl) dX5_write_1 ⟨Nat.zero_le _, Nat.zero_le _⟩ ?_
  refine lv_if_ne (tgt := 9) hx hb dX5_write_4 (by decide) (fun (c_1 : ¬ (s_X5_isAddress p1) = 0) => ?_) (fun (c_1 : (s_X5_isAddress p1) = 0) => ?_)
  · skip
    have hok := hok.2 c_1
    refine lv_iload_n hx hb dX5_write_9 rfl (lv_at hl 2 rfl) ?_
    refine lv_i2l (v := p2.toInt64) hx hb dX5_write_10 rfl ?_
    refine lv_lconst (v := 0) hx hb dX5_write_11 (by decide) ?_
    refine lv_ldc2 (v := 255) hx hb hown (hts (.constantLong RX5 108 (255)) (by decide +kernel)) dX5_write_12 ?_
    refine rdS (As := [.long p2.toInt64, .long 0, .long 255]) (rest := []) (c_X5_in l G p2.toInt64 0 255) hF (va_cwS 3 hts gX5_write_X5_in rfl rfl rfl (by decide +kernel) ⟨Nat.le_of_ble_eq_true rfl, Nat.le_of_ble_eq_true rfl⟩) hK va_P0 rfl hl.1 rfl (Nat.le_of_ble_eq_true rfl) dX5_write_15 ⟨Nat.zero_le _, Nat.zero_le _⟩ ?_
    refine lv_if_ne (tgt := 24) hx hb dX5_write_18 (by decide) (fun (c_2 : ¬ (s_X5_in p2.toInt64 0 255) = 0) => ?_) (fun (c_2 : (s_X5_in p2.toInt64 0 255) = 0) => ?_)
    · skip
      have hok := hok.2 c_2
      obtain ⟨h_3, hok⟩ := hok
      refine lv_aload_n hx hb dX5_write_24 rfl (lv_at hl 0 rfl) ?_
      refine wrV0 (As := []) (rest := []) (c_X5_keeps l G α σ h_3) hF (cwV 0 hts gX5_write_X5_keeps rfl rfl rfl (by decide +kernel) ⟨Nat.le_of_ble_eq_true rfl, Nat.le_of_ble_eq_true rfl⟩) (rcv_M hK hP) hK hP hD hS (fst_M _ _) rfl hl.1 rfl (Nat.le_of_ble_eq_true rfl) dX5_write_25 ⟨Nat.zero_le _, Nat.zero_le _⟩ (fun H locs hP hD hS => ?_)
      have hP : va_P G.1 vwCl (mW G.2.1 α (s_X5_keeps σ)) H := hP
      have hD : va_D (inW w0) (mW G.2.1 α (s_X5_keeps σ)) := hD
      obtain ⟨h_4, hok⟩ := hok
      refine lv_aload_n hx hb dX5_write_28 rfl (lv_at hl 0 rfl) ?_
      refine lv_aload_n hx hb dX5_write_29 rfl (lv_at hl 0 rfl) ?_
      refine lv_iload_n hx hb dX5_write_30 rfl (lv_at hl 1 rfl) ?_
      refine lv_iload_n hx hb dX5_write_31 rfl (lv_at hl 2 rfl) ?_
      refine wrV0 (As := [.int p1, .int p2]) (rest := [.ref (α 0)]) (c_X5_doWrite l G α (s_X5_keeps σ) p1 p2 h_4) hF (cwV 2 hts gX5_write_X5_doWrite rfl rfl rfl (by decide +kernel) ⟨Nat.le_of_ble_eq_true rfl, Nat.le_of_ble_eq_true rfl⟩) (rcv_M hK hP) hK hP hD hS (fst_M _ _) rfl hl.1 rfl (Nat.le_of_ble_eq_true rfl) dX5_write_32 ⟨Nat.zero_le _, Nat.zero_le _⟩ (fun H locs hP hD hS => ?_)
      have hP : va_P G.1 vwCl (mW G.2.1 α ((s_X5_doWrite (s_X5_keeps σ) p1 p2).2)) H := hP
      have hD : va_D (inW w0) (mW G.2.1 α ((s_X5_doWrite (s_X5_keeps σ) p1 p2).2)) := hD
      have h_5 := hok
      refine wrV0 (As := [.int ((s_X5_doWrite (s_X5_keeps σ) p1 p2).1)]) (rest := []) (c_X5_ends l G α ((s_X5_doWrite (s_X5_keeps σ) p1 p2).2) ((s_X5_doWrite (s_X5_keeps σ) p1 p2).1) h_5) hF (cwV 1 hts gX5_write_X5_ends rfl rfl rfl (by decide +kernel) ⟨Nat.le_of_ble_eq_true rfl, Nat.le_of_ble_eq_true rfl⟩) (rcv_M hK hP) hK hP hD hS (fst_M _ _) rfl hl.1 rfl (Nat.le_of_ble_eq_true rfl) dX5_write_35 ⟨Nat.zero_le _, Nat.zero_le _⟩ (fun H locs hP hD hS => ?_)
      have hP : va_P G.1 vwCl (mW G.2.1 α (t1_X5_write σ p1 p2)) H := hP
      have hD : va_D (inW w0) (mW G.2.1 α (t1_X5_write σ p1 p2)) := hD
      have E9 : s_X5_write σ p1 p2 = (((s_X5_ends ((s_X5_doWrite (s_X5_keeps σ) p1 p2).2) ((s_X5_doWrite (s_X5_keeps σ) p1 p2).1)).1), (t1_X5_write σ p1 p2)) := by rw [s_X5_write]; rw [if_neg c_1, if_neg c_2]
      rw [pr1 E9, pr2 E9]
      exact W.iret hx hb hr (fun t ht hW => ⟨rfl, by rw [ht]; exact hP, hS.F ht⟩) hS.2.2 dX5_write_38
    · skip
      refine lv_bipush (v := (-2)) hx hb dX5_write_21 (by decide) ?_
      have E9 : s_X5_write σ p1 p2 = ((-2), σ) := by rw [s_X5_write]; rw [if_neg c_1, if_pos c_2]
      rw [pr1 E9, pr2 E9]
      exact W.iret hx hb hr (fun t ht hW => ⟨rfl, by rw [ht]; exact hP, hS.F ht⟩) hS.2.2 dX5_write_23
  · skip
    refine lv_iconst (v := (-1)) hx hb dX5_write_7 (by decide) ?_
    have E9 : s_X5_write σ p1 p2 = ((-1), σ) := by rw [s_X5_write]; rw [if_pos c_1]
    rw [pr1 E9, pr2 E9]
    exact W.iret hx hb hr (fun t ht hW => ⟨rfl, by rw [ht]; exact hP, hS.F ht⟩) hS.2.2 dX5_write_8
def t1_X5_read (σ : MS) (p1 : Int32) : MS := ((s_X5_ends ((s_X5_doRead (s_X5_keeps σ) p1).2) ((s_X5_doRead (s_X5_keeps σ) p1).1)).2)
def s_X5_read (σ : MS) (p1 : Int32) : Int32 × MS := (if (s_X5_isAddress p1) = 0 then ((-1), σ) else (((s_X5_ends ((s_X5_doRead (s_X5_keeps σ) p1).2) ((s_X5_doRead (s_X5_keeps σ) p1).1)).1), (t1_X5_read σ p1)))
def ok_X5_read (σ : MS) (p1 : Int32) : Prop := ((s_X5_isAddress p1) = 0 → True) ∧ (¬ (s_X5_isAddress p1) = 0 → ((ok_X5_keeps σ) ∧ ((ok_X5_doRead (s_X5_keeps σ) p1) ∧ (ok_X5_ends ((s_X5_doRead (s_X5_keeps σ) p1).2) ((s_X5_doRead (s_X5_keeps σ) p1).1)))))
set_option maxHeartbeats 4000000 in
set_option maxRecDepth 100000 in
theorem c_X5_read (l : Launch) (G : GG) (α : Nat → Nat) (σ : MS) (p1 : Int32) (hok : ok_X5_read σ p1) : Wr G l yX5_read wsX5_read 4 85 [.ref (α 0), .int p1] (mW G.2.1 α σ) (some (.int (s_X5_read σ p1).1)) (mW G.2.1 α ((s_X5_read σ p1).2)) := by
  refine Met.ofW (cc := cX5_read) (maxL := 2) (ret := (some .int)) (by decide) rfl ?_
  intro p e s m args below meth c s₁ B hml hv
  obtain ⟨rfl, hP, hK, hD0⟩ := hv
  have C0 : cA p s m meth c ([.ref (α 0), .int p1] : List Value).toArray cX5_read 2 (some .int) wsX5_read RX5 := ⟨B.exec, B.bytes, B.returns, hml, findClass_of_methodNamed B.named, atoms_spec (ws := wsX5_read) B.pre, B.notSynchronized⟩
  obtain ⟨hx, hb, hr, hml, hown, hts, hlocks⟩ := id C0
  have hF : CallFix p m c cX5_read 2 s _ wsX5_read RX5 := ⟨hx, hb, hml, hown, hts⟩
  obtain ⟨w0, hw0⟩ : ∃ w0 : va_W, w0 = (mW G.2.1 α σ) := ⟨_, rfl⟩
  have hD : va_D (inW w0) (mW G.2.1 α σ) := by rw [hw0]; exact inW.D hD0
  have hS : va_S (inW w0) s.heap s.heap [] := va_S.rf
  rw [show QW G (mW G.2.1 α σ) = QW G w0 from by rw [hw0], show inW (mW G.2.1 α σ) = inW w0 from by rw [hw0]]
  have hl := lv_entry ([.ref (α 0), .int p1]) (n := 2) (Nat.le_of_ble_eq_true rfl)
  rw [lg_entry_eq]
  generalize (lg_sl ([.ref (α 0), .int p1]) ++ List.replicate (2 - (lg_sl ([.ref (α 0), .int p1])).length) Slot.unset).toArray = ls at hl ⊢
  have hl : lv_has ls 2 [(0, .ref (α 0)), (1, .int p1)] := hl
  have hok : ((s_X5_isAddress p1) = 0 → True) ∧ (¬ (s_X5_isAddress p1) = 0 → ((ok_X5_keeps σ) ∧ ((ok_X5_doRead (s_X5_keeps σ) p1) ∧ (ok_X5_ends ((s_X5_doRead (s_X5_keeps σ) p1).2) ((s_X5_doRead (s_X5_keeps σ) p1).1))))) := hok
  refine lv_iload_n hx hb dX5_read_0 rfl (lv_at hl 1 rfl) ?_
  refine rdS (As := [.int p1]) (rest := []) (c_X5_isAddress l G p1) hF (va_cwS 1 hts gX5_read_X5_isAddress rfl rfl rfl (by decide +kernel) ⟨Nat.le_of_ble_eq_true rfl, Nat.le_of_ble_eq_true rfl⟩) hK va_P0 rfl hl.1 rfl (Nat.le_of_ble_eq_true rfl) dX5_read_1 ⟨Nat.zero_le _, Nat.zero_le _⟩ ?_
  refine lv_if_ne (tgt := 9) hx hb dX5_read_4 (by decide) (fun (c_1 : ¬ (s_X5_isAddress p1) = 0) => ?_) (fun (c_1 : (s_X5_isAddress p1) = 0) => ?_)
  · skip
    have hok := hok.2 c_1
    obtain ⟨h_2, hok⟩ := hok
    refine lv_aload_n hx hb dX5_read_9 rfl (lv_at hl 0 rfl) ?_
    refine wrV0 (As := []) (rest := []) (c_X5_keeps l G α σ h_2) hF (cwV 0 hts gX5_read_X5_keeps rfl rfl rfl (by decide +kernel) ⟨Nat.le_of_ble_eq_true rfl, Nat.le_of_ble_eq_true rfl⟩) (rcv_M hK hP) hK hP hD hS (fst_M _ _) rfl hl.1 rfl (Nat.le_of_ble_eq_true rfl) dX5_read_10 ⟨Nat.zero_le _, Nat.zero_le _⟩ (fun H locs hP hD hS => ?_)
    have hP : va_P G.1 vwCl (mW G.2.1 α (s_X5_keeps σ)) H := hP
    have hD : va_D (inW w0) (mW G.2.1 α (s_X5_keeps σ)) := hD
    obtain ⟨h_3, hok⟩ := hok
    refine lv_aload_n hx hb dX5_read_13 rfl (lv_at hl 0 rfl) ?_
    refine lv_aload_n hx hb dX5_read_14 rfl (lv_at hl 0 rfl) ?_
    refine lv_iload_n hx hb dX5_read_15 rfl (lv_at hl 1 rfl) ?_
    refine wrV0 (As := [.int p1]) (rest := [.ref (α 0)]) (c_X5_doRead l G α (s_X5_keeps σ) p1 h_3) hF (cwV 1 hts gX5_read_X5_doRead rfl rfl rfl (by decide +kernel) ⟨Nat.le_of_ble_eq_true rfl, Nat.le_of_ble_eq_true rfl⟩) (rcv_M hK hP) hK hP hD hS (fst_M _ _) rfl hl.1 rfl (Nat.le_of_ble_eq_true rfl) dX5_read_16 ⟨Nat.zero_le _, Nat.zero_le _⟩ (fun H locs hP hD hS => ?_)
    have hP : va_P G.1 vwCl (mW G.2.1 α ((s_X5_doRead (s_X5_keeps σ) p1).2)) H := hP
    have hD : va_D (inW w0) (mW G.2.1 α ((s_X5_doRead (s_X5_keeps σ) p1).2)) := hD
    have h_4 := hok
    refine wrV0 (As := [.int ((s_X5_doRead (s_X5_keeps σ) p1).1)]) (rest := []) (c_X5_ends l G α ((s_X5_doRead (s_X5_keeps σ) p1).2) ((s_X5_doRead (s_X5_keeps σ) p1).1) h_4) hF (cwV 1 hts gX5_read_X5_ends rfl rfl rfl (by decide +kernel) ⟨Nat.le_of_ble_eq_true rfl, Nat.le_of_ble_eq_true rfl⟩) (rcv_M hK hP) hK hP hD hS (fst_M _ _) rfl hl.1 rfl (Nat.le_of_ble_eq_true rfl) dX5_read_19 ⟨Nat.zero_le _, Nat.zero_le _⟩ (fun H locs hP hD hS => ?_)
    have hP : va_P G.1 vwCl (mW G.2.1 α (t1_X5_read σ p1)) H := hP
    have hD : va_D (inW w0) (mW G.2.1 α (t1_X5_read σ p1)) := hD
    have E9 : s_X5_read σ p1 = (((s_X5_ends ((s_X5_doRead (s_X5_keeps σ) p1).2) ((s_X5_doRead (s_X5_keeps σ) p1).1)).1), (t1_X5_read σ p1)) := by rw [s_X5_read]; rw [if_neg c_1]
    rw [pr1 E9, pr2 E9]
    exact W.iret hx hb hr (fun t ht hW => ⟨rfl, by rw [ht]; exact hP, hS.F ht⟩) hS.2.2 dX5_read_22
  · skip
    refine lv_iconst (v := (-1)) hx hb dX5_read_7 (by decide) ?_
    have E9 : s_X5_read σ p1 = ((-1), σ) := by rw [s_X5_read]; rw [if_pos c_1]
    rw [pr1 E9, pr2 E9]
    exact W.iret hx hb hr (fun t ht hW => ⟨rfl, by rw [ht]; exact hP, hS.F ht⟩) hS.2.2 dX5_read_8
def t1_X5_refresh (σ : MS) (p1 : Int32) : MS := ((s_X5_ends ((s_X5_doRefresh (s_X5_keeps σ) p1).2) ((s_X5_doRefresh (s_X5_keeps σ) p1).1)).2)
def s_X5_refresh (σ : MS) (p1 : Int32) : Int32 × MS := (if (s_X5_isAddress p1) = 0 then ((-1), σ) else (((s_X5_ends ((s_X5_doRefresh (s_X5_keeps σ) p1).2) ((s_X5_doRefresh (s_X5_keeps σ) p1).1)).1), (t1_X5_refresh σ p1)))
def ok_X5_refresh (σ : MS) (p1 : Int32) : Prop := ((s_X5_isAddress p1) = 0 → True) ∧ (¬ (s_X5_isAddress p1) = 0 → ((ok_X5_keeps σ) ∧ ((ok_X5_doRefresh (s_X5_keeps σ) p1) ∧ (ok_X5_ends ((s_X5_doRefresh (s_X5_keeps σ) p1).2) ((s_X5_doRefresh (s_X5_keeps σ) p1).1)))))
set_option maxHeartbeats 4000000 in
set_option maxRecDepth 100000 in
theorem c_X5_refresh (l : Launch) (G : GG) (α : Nat → Nat) (σ : MS) (p1 : Int32) (hok : ok_X5_refresh σ p1) : Wr G l yX5_refresh wsX5_refresh 6 139 [.ref (α 0), .int p1] (mW G.2.1 α σ) (some (.int (s_X5_refresh σ p1).1)) (mW G.2.1 α ((s_X5_refresh σ p1).2)) := by
  refine Met.ofW (cc := cX5_refresh) (maxL := 2) (ret := (some .int)) (by decide) rfl ?_
  intro p e s m args below meth c s₁ B hml hv
  obtain ⟨rfl, hP, hK, hD0⟩ := hv
  have C0 : cA p s m meth c ([.ref (α 0), .int p1] : List Value).toArray cX5_refresh 2 (some .int) wsX5_refresh RX5 := ⟨B.exec, B.bytes, B.returns, hml, findClass_of_methodNamed B.named, atoms_spec (ws := wsX5_refresh) B.pre, B.notSynchronized⟩
  obtain ⟨hx, hb, hr, hml, hown, hts, hlocks⟩ := id C0
  have hF : CallFix p m c cX5_refresh 2 s _ wsX5_refresh RX5 := ⟨hx, hb, hml, hown, hts⟩
  obtain ⟨w0, hw0⟩ : ∃ w0 : va_W, w0 = (mW G.2.1 α σ) := ⟨_, rfl⟩
  have hD : va_D (inW w0) (mW G.2.1 α σ) := by rw [hw0]; exact inW.D hD0
  have hS : va_S (inW w0) s.heap s.heap [] := va_S.rf
  rw [show QW G (mW G.2.1 α σ) = QW G w0 from by rw [hw0], show inW (mW G.2.1 α σ) = inW w0 from by rw [hw0]]
  have hl := lv_entry ([.ref (α 0), .int p1]) (n := 2) (Nat.le_of_ble_eq_true rfl)
  rw [lg_entry_eq]
  generalize (lg_sl ([.ref (α 0), .int p1]) ++ List.replicate (2 - (lg_sl ([.ref (α 0), .int p1])).length) Slot.unset).toArray = ls at hl ⊢
  have hl : lv_has ls 2 [(0, .ref (α 0)), (1, .int p1)] := hl
  have hok : ((s_X5_isAddress p1) = 0 → True) ∧ (¬ (s_X5_isAddress p1) = 0 → ((ok_X5_keeps σ) ∧ ((ok_X5_doRefresh (s_X5_keeps σ) p1) ∧ (ok_X5_ends ((s_X5_doRefresh (s_X5_keeps σ) p1).2) ((s_X5_doRefresh (s_X5_keeps σ) p1).1))))) := hok
  refine lv_iload_n hx hb dX5_refresh_0 rfl (lv_at hl 1 rfl) ?_
  refine rdS (As := [.int p1]) (rest := []) (c_X5_isAddress l G p1) hF (va_cwS 1 hts gX5_refresh_X5_isAddress rfl rfl rfl (by decide +kernel) ⟨Nat.le_of_ble_eq_true rfl, Nat.le_of_ble_eq_true rfl⟩) hK va_P0 rfl hl.1 rfl (Nat.le_of_ble_eq_true rfl) dX5_refresh_1 ⟨Nat.zero_le _, Nat.zero_le _⟩ ?_
  refine lv_if_ne (tgt := 9) hx hb dX5_refresh_4 (by decide) (fun (c_1 : ¬ (s_X5_isAddress p1) = 0) => ?_) (fun (c_1 : (s_X5_isAddress p1) = 0) => ?_)
  · skip
    have hok := hok.2 c_1
    obtain ⟨h_2, hok⟩ := hok
    refine lv_aload_n hx hb dX5_refresh_9 rfl (lv_at hl 0 rfl) ?_
    refine wrV0 (As := []) (rest := []) (c_X5_keeps l G α σ h_2) hF (cwV 0 hts gX5_refresh_X5_keeps rfl rfl rfl (by decide +kernel) ⟨Nat.le_of_ble_eq_true rfl, Nat.le_of_ble_eq_true rfl⟩) (rcv_M hK hP) hK hP hD hS (fst_M _ _) rfl hl.1 rfl (Nat.le_of_ble_eq_true rfl) dX5_refresh_10 ⟨Nat.zero_le _, Nat.zero_le _⟩ (fun H locs hP hD hS => ?_)
    have hP : va_P G.1 vwCl (mW G.2.1 α (s_X5_keeps σ)) H := hP
    have hD : va_D (inW w0) (mW G.2.1 α (s_X5_keeps σ)) := hD
    obtain ⟨h_3, hok⟩ := hok
    refine lv_aload_n hx hb dX5_refresh_13 rfl (lv_at hl 0 rfl) ?_
    refine lv_aload_n hx hb dX5_refresh_14 rfl (lv_at hl 0 rfl) ?_
    refine lv_iload_n hx hb dX5_refresh_15 rfl (lv_at hl 1 rfl) ?_
    refine wrV0 (As := [.int p1]) (rest := [.ref (α 0)]) (c_X5_doRefresh l G α (s_X5_keeps σ) p1 h_3) hF (cwV 1 hts gX5_refresh_X5_doRefresh rfl rfl rfl (by decide +kernel) ⟨Nat.le_of_ble_eq_true rfl, Nat.le_of_ble_eq_true rfl⟩) (rcv_M hK hP) hK hP hD hS (fst_M _ _) rfl hl.1 rfl (Nat.le_of_ble_eq_true rfl) dX5_refresh_16 ⟨Nat.zero_le _, Nat.zero_le _⟩ (fun H locs hP hD hS => ?_)
    have hP : va_P G.1 vwCl (mW G.2.1 α ((s_X5_doRefresh (s_X5_keeps σ) p1).2)) H := hP
    have hD : va_D (inW w0) (mW G.2.1 α ((s_X5_doRefresh (s_X5_keeps σ) p1).2)) := hD
    have h_4 := hok
    refine wrV0 (As := [.int ((s_X5_doRefresh (s_X5_keeps σ) p1).1)]) (rest := []) (c_X5_ends l G α ((s_X5_doRefresh (s_X5_keeps σ) p1).2) ((s_X5_doRefresh (s_X5_keeps σ) p1).1) h_4) hF (cwV 1 hts gX5_refresh_X5_ends rfl rfl rfl (by decide +kernel) ⟨Nat.le_of_ble_eq_true rfl, Nat.le_of_ble_eq_true rfl⟩) (rcv_M hK hP) hK hP hD hS (fst_M _ _) rfl hl.1 rfl (Nat.le_of_ble_eq_true rfl) dX5_refresh_19 ⟨Nat.zero_le _, Nat.zero_le _⟩ (fun H locs hP hD hS => ?_)
    have hP : va_P G.1 vwCl (mW G.2.1 α (t1_X5_refresh σ p1)) H := hP
    have hD : va_D (inW w0) (mW G.2.1 α (t1_X5_refresh σ p1)) := hD
    have E9 : s_X5_refresh σ p1 = (((s_X5_ends ((s_X5_doRefresh (s_X5_keeps σ) p1).2) ((s_X5_doRefresh (s_X5_keeps σ) p1).1)).1), (t1_X5_refresh σ p1)) := by rw [s_X5_refresh]; rw [if_neg c_1]
    rw [pr1 E9, pr2 E9]
    exact W.iret hx hb hr (fun t ht hW => ⟨rfl, by rw [ht]; exact hP, hS.F ht⟩) hS.2.2 dX5_refresh_22
  · skip
    refine lv_iconst (v := (-1)) hx hb dX5_refresh_7 (by decide) ?_
    have E9 : s_X5_refresh σ p1 = ((-1), σ) := by rw [s_X5_refresh]; rw [if_pos c_1]
    rw [pr1 E9, pr2 E9]
    exact W.iret hx hb hr (fun t ht hW => ⟨rfl, by rw [ht]; exact hP, hS.F ht⟩) hS.2.2 dX5_refresh_8
def t1_X5_seek (σ : MS) (p1 : Int32) : MS := (m_al' (s_X5_keeps σ) (jinc (m_al (s_X5_keeps σ)) 5 (((m_al σ) (4 : Int32).toNatClampNeg) * (p1 - ((m_al σ) (6 : Int32).toNatClampNeg)))))
def t2_X5_seek (σ : MS) (p1 : Int32) : MS := (m_al' (t1_X5_seek σ p1) (upd (m_al (t1_X5_seek σ p1)) (6 : Int32).toNatClampNeg p1))
def t3_X5_seek (σ : MS) (p1 : Int32) : MS := ((s_X5_ends (t2_X5_seek σ p1) (((m_al σ) (4 : Int32).toNatClampNeg) * (p1 - ((m_al σ) (6 : Int32).toNatClampNeg)))).2)
def t4_X5_seek (σ : MS) (p1 : Int32) : MS := (m_al' (s_X5_keeps σ) (jinc (m_al (s_X5_keeps σ)) 5 (((m_al σ) (4 : Int32).toNatClampNeg) * (-(p1 - ((m_al σ) (6 : Int32).toNatClampNeg))))))
def t5_X5_seek (σ : MS) (p1 : Int32) : MS := (m_al' (t4_X5_seek σ p1) (upd (m_al (t4_X5_seek σ p1)) (6 : Int32).toNatClampNeg p1))
def t6_X5_seek (σ : MS) (p1 : Int32) : MS := ((s_X5_ends (t5_X5_seek σ p1) (((m_al σ) (4 : Int32).toNatClampNeg) * (-(p1 - ((m_al σ) (6 : Int32).toNatClampNeg))))).2)
def s_X5_seek (σ : MS) (p1 : Int32) : Int32 × MS := (if (s_X5_in p1.toInt64 0 16) = 0 then ((-1), σ) else (if 0 ≤ (p1 - ((m_al σ) (6 : Int32).toNatClampNeg)) then (if (((m_al σ) (5 : Int32).toNatClampNeg) + (((m_al σ) (4 : Int32).toNatClampNeg) * (p1 - ((m_al σ) (6 : Int32).toNatClampNeg)))) ≤ 9999999 then (((s_X5_ends (t2_X5_seek σ p1) (((m_al σ) (4 : Int32).toNatClampNeg) * (p1 - ((m_al σ) (6 : Int32).toNatClampNeg)))).1), (t3_X5_seek σ p1)) else ((-4), σ)) else (if (((m_al σ) (5 : Int32).toNatClampNeg) + (((m_al σ) (4 : Int32).toNatClampNeg) * (-(p1 - ((m_al σ) (6 : Int32).toNatClampNeg))))) ≤ 9999999 then (((s_X5_ends (t5_X5_seek σ p1) (((m_al σ) (4 : Int32).toNatClampNeg) * (-(p1 - ((m_al σ) (6 : Int32).toNatClampNeg))))).1), (t6_X5_seek σ p1)) else ((-4), σ))))
def ok_X5_seek (σ : MS) (p1 : Int32) : Prop := ((s_X5_in p1.toInt64 0 16) = 0 → True) ∧ (¬ (s_X5_in p1.toInt64 0 16) = 0 → ((0 ≤ (p1 - ((m_al σ) (6 : Int32).toNatClampNeg)) → (((((m_al σ) (5 : Int32).toNatClampNeg) + (((m_al σ) (4 : Int32).toNatClampNeg) * (p1 - ((m_al σ) (6 : Int32).toNatClampNeg)))) ≤ 9999999 → ((ok_X5_keeps σ) ∧ (ok_X5_ends (t2_X5_seek σ p1) (((m_al σ) (4 : Int32).toNatClampNeg) * (p1 - ((m_al σ) (6 : Int32).toNatClampNeg)))))) ∧ (¬ (((m_al σ) (5 : Int32).toNatClampNeg) + (((m_al σ) (4 : Int32).toNatClampNeg) * (p1 - ((m_al σ) (6 : Int32).toNatClampNeg)))) ≤ 9999999 → True))) ∧ (¬ 0 ≤ (p1 - ((m_al σ) (6 : Int32).toNatClampNeg)) → (((((m_al σ) (5 : Int32).toNatClampNeg) + (((m_al σ) (4 : Int32).toNatClampNeg) * (-(p1 - ((m_al σ) (6 : Int32).toNatClampNeg))))) ≤ 9999999 → ((ok_X5_keeps σ) ∧ (ok_X5_ends (t5_X5_seek σ p1) (((m_al σ) (4 : Int32).toNatClampNeg) * (-(p1 - ((m_al σ) (6 : Int32).toNatClampNeg))))))) ∧ (¬ (((m_al σ) (5 : Int32).toNatClampNeg) + (((m_al σ) (4 : Int32).toNatClampNeg) * (-(p1 - ((m_al σ) (6 : Int32).toNatClampNeg))))) ≤ 9999999 → True)))))
set_option maxHeartbeats 4000000 in
set_option maxRecDepth 100000 in
theorem c_X5_seek (l : Launch) (G : GG) (α : Nat → Nat) (σ : MS) (p1 : Int32) (hok : ok_X5_seek σ p1) : Wr G l yX5_seek wsX5_seek 2 42 [.ref (α 0), .int p1] (mW G.2.1 α σ) (some (.int (s_X5_seek σ p1).1)) (mW G.2.1 α ((s_X5_seek σ p1).2)) := by
  refine Met.ofW (cc := cX5_seek) (maxL := 4) (ret := (some .int)) (by decide) rfl ?_
  intro p e s m args below meth c s₁ B hml hv
  obtain ⟨rfl, hP, hK, hD0⟩ := hv
  have C0 : cA p s m meth c ([.ref (α 0), .int p1] : List Value).toArray cX5_seek 4 (some .int) wsX5_seek RX5 := ⟨B.exec, B.bytes, B.returns, hml, findClass_of_methodNamed B.named, atoms_spec (ws := wsX5_seek) B.pre, B.notSynchronized⟩
  obtain ⟨hx, hb, hr, hml, hown, hts, hlocks⟩ := id C0
  have hF : CallFix p m c cX5_seek 4 s _ wsX5_seek RX5 := ⟨hx, hb, hml, hown, hts⟩
  have hinX5 : ∀ w ∈ wsX50, w ∈ wsX5_seek := by decide +kernel
  obtain ⟨w0, hw0⟩ : ∃ w0 : va_W, w0 = (mW G.2.1 α σ) := ⟨_, rfl⟩
  have hD : va_D (inW w0) (mW G.2.1 α σ) := by rw [hw0]; exact inW.D hD0
  have hS : va_S (inW w0) s.heap s.heap [] := va_S.rf
  rw [show QW G (mW G.2.1 α σ) = QW G w0 from by rw [hw0], show inW (mW G.2.1 α σ) = inW w0 from by rw [hw0]]
  have hl := lv_entry ([.ref (α 0), .int p1]) (n := 4) (Nat.le_of_ble_eq_true rfl)
  rw [lg_entry_eq]
  generalize (lg_sl ([.ref (α 0), .int p1]) ++ List.replicate (4 - (lg_sl ([.ref (α 0), .int p1])).length) Slot.unset).toArray = ls at hl ⊢
  have hl : lv_has ls 4 [(0, .ref (α 0)), (1, .int p1)] := hl
  have hok : ((s_X5_in p1.toInt64 0 16) = 0 → True) ∧ (¬ (s_X5_in p1.toInt64 0 16) = 0 → ((0 ≤ (p1 - ((m_al σ) (6 : Int32).toNatClampNeg)) → (((((m_al σ) (5 : Int32).toNatClampNeg) + (((m_al σ) (4 : Int32).toNatClampNeg) * (p1 - ((m_al σ) (6 : Int32).toNatClampNeg)))) ≤ 9999999 → ((ok_X5_keeps σ) ∧ (ok_X5_ends (t2_X5_seek σ p1) (((m_al σ) (4 : Int32).toNatClampNeg) * (p1 - ((m_al σ) (6 : Int32).toNatClampNeg)))))) ∧ (¬ (((m_al σ) (5 : Int32).toNatClampNeg) + (((m_al σ) (4 : Int32).toNatClampNeg) * (p1 - ((m_al σ) (6 : Int32).toNatClampNeg)))) ≤ 9999999 → True))) ∧ (¬ 0 ≤ (p1 - ((m_al σ) (6 : Int32).toNatClampNeg)) → (((((m_al σ) (5 : Int32).toNatClampNeg) + (((m_al σ) (4 : Int32).toNatClampNeg) * (-(p1 - ((m_al σ) (6 : Int32).toNatClampNeg))))) ≤ 9999999 → ((ok_X5_keeps σ) ∧ (ok_X5_ends (t5_X5_seek σ p1) (((m_al σ) (4 : Int32).toNatClampNeg) * (-(p1 - ((m_al σ) (6 : Int32).toNatClampNeg))))))) ∧ (¬ (((m_al σ) (5 : Int32).toNatClampNeg) + (((m_al σ) (4 : Int32).toNatClampNeg) * (-(p1 - ((m_al σ) (6 : Int32).toNatClampNeg))))) ≤ 9999999 → True))))) := hok
  refine lv_iload_n hx hb dX5_seek_0 rfl (lv_at hl 1 rfl) ?_
  refine lv_i2l (v := p1.toInt64) hx hb dX5_seek_1 rfl ?_
  refine lv_lconst (v := 0) hx hb dX5_seek_2 (by decide) ?_
  refine lv_ldc2 (v := 16) hx hb hown (hts (.constantLong RX5 113 (16)) (by decide +kernel)) dX5_seek_3 ?_
  refine rdS (As := [.long p1.toInt64, .long 0, .long 16]) (rest := []) (c_X5_in l G p1.toInt64 0 16) hF (va_cwS 3 hts gX5_seek_X5_in rfl rfl rfl (by decide +kernel) ⟨Nat.le_of_ble_eq_true rfl, Nat.le_of_ble_eq_true rfl⟩) hK va_P0 rfl hl.1 rfl (Nat.le_of_ble_eq_true rfl) dX5_seek_6 ⟨Nat.zero_le _, Nat.zero_le _⟩ ?_
  refine lv_if_ne (tgt := 14) hx hb dX5_seek_9 (by decide) (fun (c_1 : ¬ (s_X5_in p1.toInt64 0 16) = 0) => ?_) (fun (c_1 : (s_X5_in p1.toInt64 0 16) = 0) => ?_)
  · skip
    have hok := hok.2 c_1
    refine lv_iload_n hx hb dX5_seek_14 rfl (lv_at hl 1 rfl) ?_
    refine lv_aload_n hx hb dX5_seek_15 rfl (lv_at hl 0 rfl) ?_
    refine get_M_all hx hb hts hinX5 hown hK hP (hts (.fieldLink RX5 7 "GrooveTurnsModel" "all" "[I") (by decide +kernel)) dX5_seek_16 ?_
    refine lv_bipush (v := 6) hx hb dX5_seek_19 (by decide) ?_
    refine ld_M_al hx hb hK hP (by unfold vp_in; decide) dX5_seek_21 ?_
    refine lv_isub hx hb dX5_seek_22 ?_
    refine lv_istore_n (lv' := [(2, .int (p1 - ((m_al σ) (6 : Int32).toNatClampNeg))), (0, .ref (α 0)), (1, .int p1)]) hx hb dX5_seek_23 rfl hl (by decide) rfl (fun ls hl => ?_)
    refine lv_aload_n hx hb dX5_seek_24 rfl (lv_at hl 1 rfl) ?_
    refine get_M_all hx hb hts hinX5 hown hK hP (hts (.fieldLink RX5 7 "GrooveTurnsModel" "all" "[I") (by decide +kernel)) dX5_seek_25 ?_
    refine lv_iconst (v := 4) hx hb dX5_seek_28 (by decide) ?_
    refine ld_M_al hx hb hK hP (by unfold vp_in; decide) dX5_seek_29 ?_
    refine lv_iload_n hx hb dX5_seek_30 rfl (lv_at hl 0 rfl) ?_
    refine lv_if_ge (tgt := 39) hx hb dX5_seek_31 (by decide) (fun (c_2 : 0 ≤ (p1 - ((m_al σ) (6 : Int32).toNatClampNeg))) => ?_) (fun (c_2 : ¬ 0 ≤ (p1 - ((m_al σ) (6 : Int32).toNatClampNeg))) => ?_)
    · skip
      have hok := hok.1 c_2
      refine lv_iload_n hx hb dX5_seek_39 rfl (lv_at hl 0 rfl) ?_
      refine lv_imul hx hb dX5_seek_40 ?_
      refine lv_istore_n (lv' := [(3, .int (((m_al σ) (4 : Int32).toNatClampNeg) * (p1 - ((m_al σ) (6 : Int32).toNatClampNeg)))), (2, .int (p1 - ((m_al σ) (6 : Int32).toNatClampNeg))), (0, .ref (α 0)), (1, .int p1)]) hx hb dX5_seek_41 rfl hl (by decide) rfl (fun ls hl => ?_)
      refine lv_aload_n hx hb dX5_seek_42 rfl (lv_at hl 2 rfl) ?_
      refine get_M_all hx hb hts hinX5 hown hK hP (hts (.fieldLink RX5 7 "GrooveTurnsModel" "all" "[I") (by decide +kernel)) dX5_seek_43 ?_
      refine lv_iconst (v := 5) hx hb dX5_seek_46 (by decide) ?_
      refine ld_M_al hx hb hK hP (by unfold vp_in; decide) dX5_seek_47 ?_
      refine lv_iload_n hx hb dX5_seek_48 rfl (lv_at hl 0 rfl) ?_
      refine lv_iadd hx hb dX5_seek_49 ?_
      refine lv_ldc (v := 9999999) hx hb hown (hts (.constant RX5 74 (9999999)) (by decide +kernel)) dX5_seek_50 ?_
      refine lv_icmp_le (tgt := 58) hx hb dX5_seek_52 (by decide) (fun (c_3 : (((m_al σ) (5 : Int32).toNatClampNeg) + (((m_al σ) (4 : Int32).toNatClampNeg) * (p1 - ((m_al σ) (6 : Int32).toNatClampNeg)))) ≤ 9999999) => ?_) (fun (c_3 : ¬ (((m_al σ) (5 : Int32).toNatClampNeg) + (((m_al σ) (4 : Int32).toNatClampNeg) * (p1 - ((m_al σ) (6 : Int32).toNatClampNeg)))) ≤ 9999999) => ?_)
      · skip
        have hok := hok.1 c_3
        obtain ⟨h_4, hok⟩ := hok
        refine lv_aload_n hx hb dX5_seek_58 rfl (lv_at hl 2 rfl) ?_
        refine wrV0 (As := []) (rest := []) (c_X5_keeps l G α σ h_4) hF (cwV 0 hts gX5_seek_X5_keeps rfl rfl rfl (by decide +kernel) ⟨Nat.le_of_ble_eq_true rfl, Nat.le_of_ble_eq_true rfl⟩) (rcv_M hK hP) hK hP hD hS (fst_M _ _) rfl hl.1 rfl (Nat.le_of_ble_eq_true rfl) dX5_seek_59 ⟨Nat.zero_le _, Nat.zero_le _⟩ (fun H locs hP hD hS => ?_)
        have hP : va_P G.1 vwCl (mW G.2.1 α (s_X5_keeps σ)) H := hP
        have hD : va_D (inW w0) (mW G.2.1 α (s_X5_keeps σ)) := hD
        have h_5 := hok
        refine lv_aload_n hx hb dX5_seek_62 rfl (lv_at hl 2 rfl) ?_
        refine get_M_all hx hb hts hinX5 hown hK hP (hts (.fieldLink RX5 7 "GrooveTurnsModel" "all" "[I") (by decide +kernel)) dX5_seek_63 ?_
        refine lv_iconst (v := 5) hx hb dX5_seek_66 (by decide) ?_
        refine lv_dup2_11 hx hb dX5_seek_67 rfl rfl ?_
        refine ld_M_al hx hb hK hP (by unfold vp_in; decide) dX5_seek_68 ?_
        refine lv_iload_n hx hb dX5_seek_69 rfl (lv_at hl 0 rfl) ?_
        refine lv_iadd hx hb dX5_seek_70 ?_
        refine st_M_al hx hb hK hP hD hS (by unfold vp_in; decide) dX5_seek_71 (fun H locs hP hD hS => ?_)
        have hP : va_P G.1 vwCl (mW G.2.1 α (t1_X5_seek σ p1)) H := hP
        have hD : va_D (inW w0) (mW G.2.1 α (t1_X5_seek σ p1)) := hD
        refine lv_aload_n hx hb dX5_seek_72 rfl (lv_at hl 2 rfl) ?_
        refine get_M_all hx hb hts hinX5 hown hK hP (hts (.fieldLink RX5 7 "GrooveTurnsModel" "all" "[I") (by decide +kernel)) dX5_seek_73 ?_
        refine lv_bipush (v := 6) hx hb dX5_seek_76 (by decide) ?_
        refine lv_iload_n hx hb dX5_seek_78 rfl (lv_at hl 3 rfl) ?_
        refine st_M_al hx hb hK hP hD hS (by unfold vp_in; decide) dX5_seek_79 (fun H locs hP hD hS => ?_)
        have hP : va_P G.1 vwCl (mW G.2.1 α (t2_X5_seek σ p1)) H := hP
        have hD : va_D (inW w0) (mW G.2.1 α (t2_X5_seek σ p1)) := hD
        refine lv_aload_n hx hb dX5_seek_80 rfl (lv_at hl 2 rfl) ?_
        refine lv_iload_n hx hb dX5_seek_81 rfl (lv_at hl 0 rfl) ?_
        refine wrV0 (As := [.int (((m_al σ) (4 : Int32).toNatClampNeg) * (p1 - ((m_al σ) (6 : Int32).toNatClampNeg)))]) (rest := []) (c_X5_ends l G α (t2_X5_seek σ p1) (((m_al σ) (4 : Int32).toNatClampNeg) * (p1 - ((m_al σ) (6 : Int32).toNatClampNeg))) h_5) hF (cwV 1 hts gX5_seek_X5_ends rfl rfl rfl (by decide +kernel) ⟨Nat.le_of_ble_eq_true rfl, Nat.le_of_ble_eq_true rfl⟩) (rcv_M hK hP) hK hP hD hS (fst_M _ _) rfl hl.1 rfl (Nat.le_of_ble_eq_true rfl) dX5_seek_82 ⟨Nat.zero_le _, Nat.zero_le _⟩ (fun H locs hP hD hS => ?_)
        have hP : va_P G.1 vwCl (mW G.2.1 α (t3_X5_seek σ p1)) H := hP
        have hD : va_D (inW w0) (mW G.2.1 α (t3_X5_seek σ p1)) := hD
        have E9 : s_X5_seek σ p1 = (((s_X5_ends (t2_X5_seek σ p1) (((m_al σ) (4 : Int32).toNatClampNeg) * (p1 - ((m_al σ) (6 : Int32).toNatClampNeg)))).1), (t3_X5_seek σ p1)) := by rw [s_X5_seek]; rw [if_neg c_1, if_pos c_2, if_pos c_3]
        rw [pr1 E9, pr2 E9]
        exact W.iret hx hb hr (fun t ht hW => ⟨rfl, by rw [ht]; exact hP, hS.F ht⟩) hS.2.2 dX5_seek_85
      · skip
        refine lv_bipush (v := (-4)) hx hb dX5_seek_55 (by decide) ?_
        have E9 : s_X5_seek σ p1 = ((-4), σ) := by rw [s_X5_seek]; rw [if_neg c_1, if_pos c_2, if_neg c_3]
        rw [pr1 E9, pr2 E9]
        exact W.iret hx hb hr (fun t ht hW => ⟨rfl, by rw [ht]; exact hP, hS.F ht⟩) hS.2.2 dX5_seek_57
    · skip
      have hok := hok.2 c_2
      refine lv_iload_n hx hb dX5_seek_34 rfl (lv_at hl 0 rfl) ?_
      refine lv_ineg hx hb dX5_seek_35 ?_
      refine lv_goto (tgt := 40) hx hb dX5_seek_36 (by decide) ?_
      refine lv_imul hx hb dX5_seek_40 ?_
      refine lv_istore_n (lv' := [(3, .int (((m_al σ) (4 : Int32).toNatClampNeg) * (-(p1 - ((m_al σ) (6 : Int32).toNatClampNeg))))), (2, .int (p1 - ((m_al σ) (6 : Int32).toNatClampNeg))), (0, .ref (α 0)), (1, .int p1)]) hx hb dX5_seek_41 rfl hl (by decide) rfl (fun ls hl => ?_)
      refine lv_aload_n hx hb dX5_seek_42 rfl (lv_at hl 2 rfl) ?_
      refine get_M_all hx hb hts hinX5 hown hK hP (hts (.fieldLink RX5 7 "GrooveTurnsModel" "all" "[I") (by decide +kernel)) dX5_seek_43 ?_
      refine lv_iconst (v := 5) hx hb dX5_seek_46 (by decide) ?_
      refine ld_M_al hx hb hK hP (by unfold vp_in; decide) dX5_seek_47 ?_
      refine lv_iload_n hx hb dX5_seek_48 rfl (lv_at hl 0 rfl) ?_
      refine lv_iadd hx hb dX5_seek_49 ?_
      refine lv_ldc (v := 9999999) hx hb hown (hts (.constant RX5 74 (9999999)) (by decide +kernel)) dX5_seek_50 ?_
      refine lv_icmp_le (tgt := 58) hx hb dX5_seek_52 (by decide) (fun (c_6 : (((m_al σ) (5 : Int32).toNatClampNeg) + (((m_al σ) (4 : Int32).toNatClampNeg) * (-(p1 - ((m_al σ) (6 : Int32).toNatClampNeg))))) ≤ 9999999) => ?_) (fun (c_6 : ¬ (((m_al σ) (5 : Int32).toNatClampNeg) + (((m_al σ) (4 : Int32).toNatClampNeg) * (-(p1 - ((m_al σ) (6 : Int32).toNatClampNeg))))) ≤ 9999999) => ?_)
      · skip
        have hok := hok.1 c_6
        obtain ⟨h_7, hok⟩ := hok
        refine lv_aload_n hx hb dX5_seek_58 rfl (lv_at hl 2 rfl) ?_
        refine wrV0 (As := []) (rest := []) (c_X5_keeps l G α σ h_7) hF (cwV 0 hts gX5_seek_X5_keeps rfl rfl rfl (by decide +kernel) ⟨Nat.le_of_ble_eq_true rfl, Nat.le_of_ble_eq_true rfl⟩) (rcv_M hK hP) hK hP hD hS (fst_M _ _) rfl hl.1 rfl (Nat.le_of_ble_eq_true rfl) dX5_seek_59 ⟨Nat.zero_le _, Nat.zero_le _⟩ (fun H locs hP hD hS => ?_)
        have hP : va_P G.1 vwCl (mW G.2.1 α (s_X5_keeps σ)) H := hP
        have hD : va_D (inW w0) (mW G.2.1 α (s_X5_keeps σ)) := hD
        have h_8 := hok
        refine lv_aload_n hx hb dX5_seek_62 rfl (lv_at hl 2 rfl) ?_
        refine get_M_all hx hb hts hinX5 hown hK hP (hts (.fieldLink RX5 7 "GrooveTurnsModel" "all" "[I") (by decide +kernel)) dX5_seek_63 ?_
        refine lv_iconst (v := 5) hx hb dX5_seek_66 (by decide) ?_
        refine lv_dup2_11 hx hb dX5_seek_67 rfl rfl ?_
        refine ld_M_al hx hb hK hP (by unfold vp_in; decide) dX5_seek_68 ?_
        refine lv_iload_n hx hb dX5_seek_69 rfl (lv_at hl 0 rfl) ?_
        refine lv_iadd hx hb dX5_seek_70 ?_
        refine st_M_al hx hb hK hP hD hS (by unfold vp_in; decide) dX5_seek_71 (fun H locs hP hD hS => ?_)
        have hP : va_P G.1 vwCl (mW G.2.1 α (t4_X5_seek σ p1)) H := hP
        have hD : va_D (inW w0) (mW G.2.1 α (t4_X5_seek σ p1)) := hD
        refine lv_aload_n hx hb dX5_seek_72 rfl (lv_at hl 2 rfl) ?_
        refine get_M_all hx hb hts hinX5 hown hK hP (hts (.fieldLink RX5 7 "GrooveTurnsModel" "all" "[I") (by decide +kernel)) dX5_seek_73 ?_
        refine lv_bipush (v := 6) hx hb dX5_seek_76 (by decide) ?_
        refine lv_iload_n hx hb dX5_seek_78 rfl (lv_at hl 3 rfl) ?_
        refine st_M_al hx hb hK hP hD hS (by unfold vp_in; decide) dX5_seek_79 (fun H locs hP hD hS => ?_)
        have hP : va_P G.1 vwCl (mW G.2.1 α (t5_X5_seek σ p1)) H := hP
        have hD : va_D (inW w0) (mW G.2.1 α (t5_X5_seek σ p1)) := hD
        refine lv_aload_n hx hb dX5_seek_80 rfl (lv_at hl 2 rfl) ?_
        refine lv_iload_n hx hb dX5_seek_81 rfl (lv_at hl 0 rfl) ?_
        refine wrV0 (As := [.int (((m_al σ) (4 : Int32).toNatClampNeg) * (-(p1 - ((m_al σ) (6 : Int32).toNatClampNeg))))]) (rest := []) (c_X5_ends l G α (t5_X5_seek σ p1) (((m_al σ) (4 : Int32).toNatClampNeg) * (-(p1 - ((m_al σ) (6 : Int32).toNatClampNeg)))) h_8) hF (cwV 1 hts gX5_seek_X5_ends rfl rfl rfl (by decide +kernel) ⟨Nat.le_of_ble_eq_true rfl, Nat.le_of_ble_eq_true rfl⟩) (rcv_M hK hP) hK hP hD hS (fst_M _ _) rfl hl.1 rfl (Nat.le_of_ble_eq_true rfl) dX5_seek_82 ⟨Nat.zero_le _, Nat.zero_le _⟩ (fun H locs hP hD hS => ?_)
        have hP : va_P G.1 vwCl (mW G.2.1 α (t6_X5_seek σ p1)) H := hP
        have hD : va_D (inW w0) (mW G.2.1 α (t6_X5_seek σ p1)) := hD
        have E9 : s_X5_seek σ p1 = (((s_X5_ends (t5_X5_seek σ p1) (((m_al σ) (4 : Int32).toNatClampNeg) * (-(p1 - ((m_al σ) (6 : Int32).toNatClampNeg))))).1), (t6_X5_seek σ p1)) := by rw [s_X5_seek]; rw [if_neg c_1, if_neg c_2, if_pos c_6]
        rw [pr1 E9, pr2 E9]
        exact W.iret hx hb hr (fun t ht hW => ⟨rfl, by rw [ht]; exact hP, hS.F ht⟩) hS.2.2 dX5_seek_85
      · skip
        refine lv_bipush (v := (-4)) hx hb dX5_seek_55 (by decide) ?_
        have E9 : s_X5_seek σ p1 = ((-4), σ) := by rw [s_X5_seek]; rw [if_neg c_1, if_neg c_2, if_neg c_6]
        rw [pr1 E9, pr2 E9]
        exact W.iret hx hb hr (fun t ht hW => ⟨rfl, by rw [ht]; exact hP, hS.F ht⟩) hS.2.2 dX5_seek_57
  · skip
    refine lv_iconst (v := (-1)) hx hb dX5_seek_12 (by decide) ?_
    have E9 : s_X5_seek σ p1 = ((-1), σ) := by rw [s_X5_seek]; rw [if_pos c_1]
    rw [pr1 E9, pr2 E9]
    exact W.iret hx hb hr (fun t ht hW => ⟨rfl, by rw [ht]; exact hP, hS.F ht⟩) hS.2.2 dX5_seek_13
def t1_X5_idle (σ : MS) (p1 : Int32) : MS := ((s_X5_ends (m_al' (s_X5_keeps σ) (jinc (m_al (s_X5_keeps σ)) 5 p1)) (jrem ((jinc (m_al (s_X5_keeps σ)) 5 p1) (5 : Int32).toNatClampNeg) 12)).2)
def s_X5_idle (σ : MS) (p1 : Int32) : Int32 × MS := (if (s_X5_in p1.toInt64 1 9999) = 0 then ((-2), σ) else (if (((m_al σ) (5 : Int32).toNatClampNeg) + p1) ≤ 9999999 then (((s_X5_ends (m_al' (s_X5_keeps σ) (jinc (m_al (s_X5_keeps σ)) 5 p1)) (jrem ((jinc (m_al (s_X5_keeps σ)) 5 p1) (5 : Int32).toNatClampNeg) 12)).1), (t1_X5_idle σ p1)) else ((-4), σ)))
def ok_X5_idle (σ : MS) (p1 : Int32) : Prop := ((s_X5_in p1.toInt64 1 9999) = 0 → True) ∧ (¬ (s_X5_in p1.toInt64 1 9999) = 0 → (((((m_al σ) (5 : Int32).toNatClampNeg) + p1) ≤ 9999999 → ((ok_X5_keeps σ) ∧ (ok_X5_ends (m_al' (s_X5_keeps σ) (jinc (m_al (s_X5_keeps σ)) 5 p1)) (jrem ((jinc (m_al (s_X5_keeps σ)) 5 p1) (5 : Int32).toNatClampNeg) 12)))) ∧ (¬ (((m_al σ) (5 : Int32).toNatClampNeg) + p1) ≤ 9999999 → True)))
set_option maxHeartbeats 4000000 in
set_option maxRecDepth 100000 in
theorem c_X5_idle (l : Launch) (G : GG) (α : Nat → Nat) (σ : MS) (p1 : Int32) (hok : ok_X5_idle σ p1) : Wr G l yX5_idle wsX5_idle 2 42 [.ref (α 0), .int p1] (mW G.2.1 α σ) (some (.int (s_X5_idle σ p1).1)) (mW G.2.1 α ((s_X5_idle σ p1).2)) := by
  refine Met.ofW (cc := cX5_idle) (maxL := 2) (ret := (some .int)) (by decide) rfl ?_
  intro p e s m args below meth c s₁ B hml hv
  obtain ⟨rfl, hP, hK, hD0⟩ := hv
  have C0 : cA p s m meth c ([.ref (α 0), .int p1] : List Value).toArray cX5_idle 2 (some .int) wsX5_idle RX5 := ⟨B.exec, B.bytes, B.returns, hml, findClass_of_methodNamed B.named, atoms_spec (ws := wsX5_idle) B.pre, B.notSynchronized⟩
  obtain ⟨hx, hb, hr, hml, hown, hts, hlocks⟩ := id C0
  have hF : CallFix p m c cX5_idle 2 s _ wsX5_idle RX5 := ⟨hx, hb, hml, hown, hts⟩
  have hinX5 : ∀ w ∈ wsX50, w ∈ wsX5_idle := by decide +kernel
  obtain ⟨w0, hw0⟩ : ∃ w0 : va_W, w0 = (mW G.2.1 α σ) := ⟨_, rfl⟩
  have hD : va_D (inW w0) (mW G.2.1 α σ) := by rw [hw0]; exact inW.D hD0
  have hS : va_S (inW w0) s.heap s.heap [] := va_S.rf
  rw [show QW G (mW G.2.1 α σ) = QW G w0 from by rw [hw0], show inW (mW G.2.1 α σ) = inW w0 from by rw [hw0]]
  have hl := lv_entry ([.ref (α 0), .int p1]) (n := 2) (Nat.le_of_ble_eq_true rfl)
  rw [lg_entry_eq]
  generalize (lg_sl ([.ref (α 0), .int p1]) ++ List.replicate (2 - (lg_sl ([.ref (α 0), .int p1])).length) Slot.unset).toArray = ls at hl ⊢
  have hl : lv_has ls 2 [(0, .ref (α 0)), (1, .int p1)] := hl
  have hok : ((s_X5_in p1.toInt64 1 9999) = 0 → True) ∧ (¬ (s_X5_in p1.toInt64 1 9999) = 0 → (((((m_al σ) (5 : Int32).toNatClampNeg) + p1) ≤ 9999999 → ((ok_X5_keeps σ) ∧ (ok_X5_ends (m_al' (s_X5_keeps σ) (jinc (m_al (s_X5_keeps σ)) 5 p1)) (jrem ((jinc (m_al (s_X5_keeps σ)) 5 p1) (5 : Int32).toNatClampNeg) 12)))) ∧ (¬ (((m_al σ) (5 : Int32).toNatClampNeg) + p1) ≤ 9999999 → True))) := hok
  refine lv_iload_n hx hb dX5_idle_0 rfl (lv_at hl 1 rfl) ?_
  refine lv_i2l (v := p1.toInt64) hx hb dX5_idle_1 rfl ?_
  refine lv_lconst (v := 1) hx hb dX5_idle_2 (by decide) ?_
  refine lv_ldc2 (v := 9999) hx hb hown (hts (.constantLong RX5 115 (9999)) (by decide +kernel)) dX5_idle_3 ?_
  refine rdS (As := [.long p1.toInt64, .long 1, .long 9999]) (rest := []) (c_X5_in l G p1.toInt64 1 9999) hF (va_cwS 3 hts gX5_idle_X5_in rfl rfl rfl (by decide +kernel) ⟨Nat.le_of_ble_eq_true rfl, Nat.le_of_ble_eq_true rfl⟩) hK va_P0 rfl hl.1 rfl (Nat.le_of_ble_eq_true rfl) dX5_idle_6 ⟨Nat.zero_le _, Nat.zero_le _⟩ ?_
  refine lv_if_ne (tgt := 15) hx hb dX5_idle_9 (by decide) (fun (c_1 : ¬ (s_X5_in p1.toInt64 1 9999) = 0) => ?_) (fun (c_1 : (s_X5_in p1.toInt64 1 9999) = 0) => ?_)
  · skip
    have hok := hok.2 c_1
    refine lv_aload_n hx hb dX5_idle_15 rfl (lv_at hl 0 rfl) ?_
    refine get_M_all hx hb hts hinX5 hown hK hP (hts (.fieldLink RX5 7 "GrooveTurnsModel" "all" "[I") (by decide +kernel)) dX5_idle_16 ?_
    refine lv_iconst (v := 5) hx hb dX5_idle_19 (by decide) ?_
    refine ld_M_al hx hb hK hP (by unfold vp_in; decide) dX5_idle_20 ?_
    refine lv_iload_n hx hb dX5_idle_21 rfl (lv_at hl 1 rfl) ?_
    refine lv_iadd hx hb dX5_idle_22 ?_
    refine lv_ldc (v := 9999999) hx hb hown (hts (.constant RX5 74 (9999999)) (by decide +kernel)) dX5_idle_23 ?_
    refine lv_icmp_le (tgt := 31) hx hb dX5_idle_25 (by decide) (fun (c_2 : (((m_al σ) (5 : Int32).toNatClampNeg) + p1) ≤ 9999999) => ?_) (fun (c_2 : ¬ (((m_al σ) (5 : Int32).toNatClampNeg) + p1) ≤ 9999999) => ?_)
    · skip
      have hok := hok.1 c_2
      obtain ⟨h_3, hok⟩ := hok
      refine lv_aload_n hx hb dX5_idle_31 rfl (lv_at hl 0 rfl) ?_
      refine wrV0 (As := []) (rest := []) (c_X5_keeps l G α σ h_3) hF (cwV 0 hts gX5_idle_X5_keeps rfl rfl rfl (by decide +kernel) ⟨Nat.le_of_ble_eq_true rfl, Nat.le_of_ble_eq_true rfl⟩) (rcv_M hK hP) hK hP hD hS (fst_M _ _) rfl hl.1 rfl (Nat.le_of_ble_eq_true rfl) dX5_idle_32 ⟨Nat.zero_le _, Nat.zero_le _⟩ (fun H locs hP hD hS => ?_)
      have hP : va_P G.1 vwCl (mW G.2.1 α (s_X5_keeps σ)) H := hP
      have hD : va_D (inW w0) (mW G.2.1 α (s_X5_keeps σ)) := hD
      have h_4 := hok
      refine lv_aload_n hx hb dX5_idle_35 rfl (lv_at hl 0 rfl) ?_
      refine get_M_all hx hb hts hinX5 hown hK hP (hts (.fieldLink RX5 7 "GrooveTurnsModel" "all" "[I") (by decide +kernel)) dX5_idle_36 ?_
      refine lv_iconst (v := 5) hx hb dX5_idle_39 (by decide) ?_
      refine lv_dup2_11 hx hb dX5_idle_40 rfl rfl ?_
      refine ld_M_al hx hb hK hP (by unfold vp_in; decide) dX5_idle_41 ?_
      refine lv_iload_n hx hb dX5_idle_42 rfl (lv_at hl 1 rfl) ?_
      refine lv_iadd hx hb dX5_idle_43 ?_
      refine st_M_al hx hb hK hP hD hS (by unfold vp_in; decide) dX5_idle_44 (fun H locs hP hD hS => ?_)
      have hP : va_P G.1 vwCl (mW G.2.1 α (m_al' (s_X5_keeps σ) (jinc (m_al (s_X5_keeps σ)) 5 p1))) H := hP
      have hD : va_D (inW w0) (mW G.2.1 α (m_al' (s_X5_keeps σ) (jinc (m_al (s_X5_keeps σ)) 5 p1))) := hD
      refine lv_aload_n hx hb dX5_idle_45 rfl (lv_at hl 0 rfl) ?_
      refine lv_aload_n hx hb dX5_idle_46 rfl (lv_at hl 0 rfl) ?_
      refine get_M_all hx hb hts hinX5 hown hK hP (hts (.fieldLink RX5 7 "GrooveTurnsModel" "all" "[I") (by decide +kernel)) dX5_idle_47 ?_
      refine lv_iconst (v := 5) hx hb dX5_idle_50 (by decide) ?_
      refine ld_M_al hx hb hK hP (by unfold vp_in; decide) dX5_idle_51 ?_
      refine lv_bipush (v := 12) hx hb dX5_idle_52 (by decide) ?_
      refine lv_irem hx hb dX5_idle_54 (by decide) ?_
      refine wrV0 (As := [.int (jrem ((jinc (m_al (s_X5_keeps σ)) 5 p1) (5 : Int32).toNatClampNeg) 12)]) (rest := []) (c_X5_ends l G α (m_al' (s_X5_keeps σ) (jinc (m_al (s_X5_keeps σ)) 5 p1)) (jrem ((jinc (m_al (s_X5_keeps σ)) 5 p1) (5 : Int32).toNatClampNeg) 12) h_4) hF (cwV 1 hts gX5_idle_X5_ends rfl rfl rfl (by decide +kernel) ⟨Nat.le_of_ble_eq_true rfl, Nat.le_of_ble_eq_true rfl⟩) (rcv_M hK hP) hK hP hD hS (fst_M _ _) rfl hl.1 rfl (Nat.le_of_ble_eq_true rfl) dX5_idle_55 ⟨Nat.zero_le _, Nat.zero_le _⟩ (fun H locs hP hD hS => ?_)
      have hP : va_P G.1 vwCl (mW G.2.1 α (t1_X5_idle σ p1)) H := hP
      have hD : va_D (inW w0) (mW G.2.1 α (t1_X5_idle σ p1)) := hD
      have E9 : s_X5_idle σ p1 = (((s_X5_ends (m_al' (s_X5_keeps σ) (jinc (m_al (s_X5_keeps σ)) 5 p1)) (jrem ((jinc (m_al (s_X5_keeps σ)) 5 p1) (5 : Int32).toNatClampNeg) 12)).1), (t1_X5_idle σ p1)) := by rw [s_X5_idle]; rw [if_neg c_1, if_pos c_2]
      rw [pr1 E9, pr2 E9]
      exact W.iret hx hb hr (fun t ht hW => ⟨rfl, by rw [ht]; exact hP, hS.F ht⟩) hS.2.2 dX5_idle_58
    · skip
      refine lv_bipush (v := (-4)) hx hb dX5_idle_28 (by decide) ?_
      have E9 : s_X5_idle σ p1 = ((-4), σ) := by rw [s_X5_idle]; rw [if_neg c_1, if_neg c_2]
      rw [pr1 E9, pr2 E9]
      exact W.iret hx hb hr (fun t ht hW => ⟨rfl, by rw [ht]; exact hP, hS.F ht⟩) hS.2.2 dX5_idle_30
  · skip
    refine lv_bipush (v := (-2)) hx hb dX5_idle_12 (by decide) ?_
    have E9 : s_X5_idle σ p1 = ((-2), σ) := by rw [s_X5_idle]; rw [if_pos c_1]
    rw [pr1 E9, pr2 E9]
    exact W.iret hx hb hr (fun t ht hW => ⟨rfl, by rw [ht]; exact hP, hS.F ht⟩) hS.2.2 dX5_idle_14
def s_X5_sector (σ : MS) (p1 : Int32) (p2 : Int32) : Int32 := (if (s_X5_isAddress p1) = 0 then (-1) else (if p2 = 0 then ((s_X5_sectorOf σ p1) / 12) else (if p2 = 1 then (jrem (s_X5_sectorOf σ p1) 12) else (if p2 = 2 then ((m_al σ) (12 + (s_X5_sectorOf σ p1)).toNatClampNeg) else (if p2 = 3 then ((m_al σ) (216 + (s_X5_sectorOf σ p1)).toNatClampNeg) else (if p2 = 4 then ((m_al σ) (420 + (s_X5_sectorOf σ p1)).toNatClampNeg) else (if p2 = 5 then (if (s_X5_sectorOf σ p1) = p1 then 0 else 1) else (if p2 = 6 then (if (s_X5_canBeRead σ p1) = 0 then 0 else 1) else (-2)))))))))
def ok_X5_sector (σ : MS) (p1 : Int32) (p2 : Int32) : Prop := ((s_X5_isAddress p1) = 0 → True) ∧ (¬ (s_X5_isAddress p1) = 0 → ((ok_X5_sectorOf σ p1) ∧ ((p2 = 0 → True) ∧ (¬ p2 = 0 → ((p2 = 1 → True) ∧ (¬ p2 = 1 → ((p2 = 2 → (vp_in (12 + (s_X5_sectorOf σ p1)) 816)) ∧ (¬ p2 = 2 → ((p2 = 3 → (vp_in (216 + (s_X5_sectorOf σ p1)) 816)) ∧ (¬ p2 = 3 → ((p2 = 4 → (vp_in (420 + (s_X5_sectorOf σ p1)) 816)) ∧ (¬ p2 = 4 → ((p2 = 5 → True) ∧ (¬ p2 = 5 → ((p2 = 6 → (ok_X5_canBeRead σ p1)) ∧ (¬ p2 = 6 → True))))))))))))))))
set_option maxHeartbeats 4000000 in
set_option maxRecDepth 100000 in
theorem c_X5_sector (l : Launch) (G : GG) (α : Nat → Nat) (σ : MS) (p1 : Int32) (p2 : Int32) (hok : ok_X5_sector σ p1 p2) : Rd G l yX5_sector wsX5_sector 3 63 [.ref (α 0), .int p1, .int p2] (mW G.2.1 α σ) (.int (s_X5_sector σ p1 p2)) := by
  refine Met.ofW (cc := cX5_sector) (maxL := 4) (ret := (some .int)) (by decide) rfl ?_
  intro p e s m args below meth c s₁ B hml hv
  obtain ⟨rfl, hP, hK⟩ := hv
  have C0 : cA p s m meth c ([.ref (α 0), .int p1, .int p2] : List Value).toArray cX5_sector 4 (some .int) wsX5_sector RX5 := ⟨B.exec, B.bytes, B.returns, hml, findClass_of_methodNamed B.named, atoms_spec (ws := wsX5_sector) B.pre, B.notSynchronized⟩
  obtain ⟨hx, hb, hr, hml, hown, hts, hlocks⟩ := id C0
  have hF : CallFix p m c cX5_sector 4 s _ wsX5_sector RX5 := ⟨hx, hb, hml, hown, hts⟩
  have hinX5 : ∀ w ∈ wsX50, w ∈ wsX5_sector := by decide +kernel
  have hl := lv_entry ([.ref (α 0), .int p1, .int p2]) (n := 4) (Nat.le_of_ble_eq_true rfl)
  rw [lg_entry_eq]
  generalize (lg_sl ([.ref (α 0), .int p1, .int p2]) ++ List.replicate (4 - (lg_sl ([.ref (α 0), .int p1, .int p2])).length) Slot.unset).toArray = ls at hl ⊢
  have hl : lv_has ls 4 [(0, .ref (α 0)), (1, .int p1), (2, .int p2)] := hl
  have hok : ((s_X5_isAddress p1) = 0 → True) ∧ (¬ (s_X5_isAddress p1) = 0 → ((ok_X5_sectorOf σ p1) ∧ ((p2 = 0 → True) ∧ (¬ p2 = 0 → ((p2 = 1 → True) ∧ (¬ p2 = 1 → ((p2 = 2 → (vp_in (12 + (s_X5_sectorOf σ p1)) 816)) ∧ (¬ p2 = 2 → ((p2 = 3 → (vp_in (216 + (s_X5_sectorOf σ p1)) 816)) ∧ (¬ p2 = 3 → ((p2 = 4 → (vp_in (420 + (s_X5_sectorOf σ p1)) 816)) ∧ (¬ p2 = 4 → ((p2 = 5 → True) ∧ (¬ p2 = 5 → ((p2 = 6 → (ok_X5_canBeRead σ p1)) ∧ (¬ p2 = 6 → True)))))))))))))))) := hok
  refine lv_iload_n hx hb dX5_sector_0 rfl (lv_at hl 1 rfl) ?_
  refine rdS (As := [.int p1]) (rest := []) (c_X5_isAddress l G p1) hF (va_cwS 1 hts gX5_sector_X5_isAddress rfl rfl rfl (by decide +kernel) ⟨Nat.le_of_ble_eq_true rfl, Nat.le_of_ble_eq_true rfl⟩) hK va_P0 rfl hl.1 rfl (Nat.le_of_ble_eq_true rfl) dX5_sector_1 ⟨Nat.zero_le _, Nat.zero_le _⟩ ?_
  refine lv_if_ne (tgt := 9) hx hb dX5_sector_4 (by decide) (fun (c_1 : ¬ (s_X5_isAddress p1) = 0) => ?_) (fun (c_1 : (s_X5_isAddress p1) = 0) => ?_)
  · skip
    have hok := hok.2 c_1
    obtain ⟨h_2, hok⟩ := hok
    refine lv_aload_n hx hb dX5_sector_9 rfl (lv_at hl 0 rfl) ?_
    refine lv_iload_n hx hb dX5_sector_10 rfl (lv_at hl 1 rfl) ?_
    refine rdV (As := [.int p1]) (rest := []) (c_X5_sectorOf l G α σ p1 h_2) hF (cwV 1 hts gX5_sector_X5_sectorOf rfl rfl rfl (by decide +kernel) ⟨Nat.le_of_ble_eq_true rfl, Nat.le_of_ble_eq_true rfl⟩) (rcv_M hK hP) hK hP rfl hl.1 rfl (Nat.le_of_ble_eq_true rfl) dX5_sector_11 ⟨Nat.zero_le _, Nat.zero_le _⟩ ?_
    refine lv_istore_n (lv' := [(3, .int (s_X5_sectorOf σ p1)), (0, .ref (α 0)), (1, .int p1), (2, .int p2)]) hx hb dX5_sector_14 rfl hl (by decide) rfl (fun ls hl => ?_)
    refine lv_iload_n hx hb dX5_sector_15 rfl (lv_at hl 3 rfl) ?_
    by_cases c_3 : p2 = 0
    · skip
      refine lv_tableIn (tgt := 60) (off := 44) hx hb dX5_sector_16 (by rw [c_3]; decide) (by rw [c_3]; decide) (by rw [c_3]; rfl) (by decide) ?_
      refine lv_iload_n hx hb dX5_sector_60 rfl (lv_at hl 0 rfl) ?_
      refine lv_bipush (v := 12) hx hb dX5_sector_61 (by decide) ?_
      refine lv_idiv hx hb dX5_sector_63 (by decide) ?_
      rw [show s_X5_sector σ p1 p2 = ((s_X5_sectorOf σ p1) / 12) from by rw [s_X5_sector]; rw [if_neg c_1, if_pos c_3]]
      exact W.iret hx hb hr (fun t ht hW => ⟨rfl, ht⟩) (fun _ h => nomatch h) dX5_sector_64
    · skip
      have hok := hok.2 c_3
      by_cases c_4 : p2 = 1
      · skip
        refine lv_tableIn (tgt := 65) (off := 49) hx hb dX5_sector_16 (by rw [c_4]; decide) (by rw [c_4]; decide) (by rw [c_4]; rfl) (by decide) ?_
        refine lv_iload_n hx hb dX5_sector_65 rfl (lv_at hl 0 rfl) ?_
        refine lv_bipush (v := 12) hx hb dX5_sector_66 (by decide) ?_
        refine lv_irem hx hb dX5_sector_68 (by decide) ?_
        rw [show s_X5_sector σ p1 p2 = (jrem (s_X5_sectorOf σ p1) 12) from by rw [s_X5_sector]; rw [if_neg c_1, if_neg c_3, if_pos c_4]]
        exact W.iret hx hb hr (fun t ht hW => ⟨rfl, ht⟩) (fun _ h => nomatch h) dX5_sector_69
      · skip
        have hok := hok.2 c_4
        by_cases c_5 : p2 = 2
        · skip
          have hok := hok.1 c_5
          refine lv_tableIn (tgt := 70) (off := 54) hx hb dX5_sector_16 (by rw [c_5]; decide) (by rw [c_5]; decide) (by rw [c_5]; rfl) (by decide) ?_
          have h_6 := hok
          refine lv_aload_n hx hb dX5_sector_70 rfl (lv_at hl 1 rfl) ?_
          refine get_M_all hx hb hts hinX5 hown hK hP (hts (.fieldLink RX5 7 "GrooveTurnsModel" "all" "[I") (by decide +kernel)) dX5_sector_71 ?_
          refine lv_bipush (v := 12) hx hb dX5_sector_74 (by decide) ?_
          refine lv_iload_n hx hb dX5_sector_76 rfl (lv_at hl 0 rfl) ?_
          refine lv_iadd hx hb dX5_sector_77 ?_
          refine ld_M_al hx hb hK hP h_6 dX5_sector_78 ?_
          rw [show s_X5_sector σ p1 p2 = ((m_al σ) (12 + (s_X5_sectorOf σ p1)).toNatClampNeg) from by rw [s_X5_sector]; rw [if_neg c_1, if_neg c_3, if_neg c_4, if_pos c_5]]
          exact W.iret hx hb hr (fun t ht hW => ⟨rfl, ht⟩) (fun _ h => nomatch h) dX5_sector_79
        · skip
          have hok := hok.2 c_5
          by_cases c_7 : p2 = 3
          · skip
            have hok := hok.1 c_7
            refine lv_tableIn (tgt := 80) (off := 64) hx hb dX5_sector_16 (by rw [c_7]; decide) (by rw [c_7]; decide) (by rw [c_7]; rfl) (by decide) ?_
            have h_8 := hok
            refine lv_aload_n hx hb dX5_sector_80 rfl (lv_at hl 1 rfl) ?_
            refine get_M_all hx hb hts hinX5 hown hK hP (hts (.fieldLink RX5 7 "GrooveTurnsModel" "all" "[I") (by decide +kernel)) dX5_sector_81 ?_
            refine lv_sipush (v := 216) hx hb dX5_sector_84 (by decide) ?_
            refine lv_iload_n hx hb dX5_sector_87 rfl (lv_at hl 0 rfl) ?_
            refine lv_iadd hx hb dX5_sector_88 ?_
            refine ld_M_al hx hb hK hP h_8 dX5_sector_89 ?_
            rw [show s_X5_sector σ p1 p2 = ((m_al σ) (216 + (s_X5_sectorOf σ p1)).toNatClampNeg) from by rw [s_X5_sector]; rw [if_neg c_1, if_neg c_3, if_neg c_4, if_neg c_5, if_pos c_7]]
            exact W.iret hx hb hr (fun t ht hW => ⟨rfl, ht⟩) (fun _ h => nomatch h) dX5_sector_90
          · skip
            have hok := hok.2 c_7
            by_cases c_9 : p2 = 4
            · skip
              have hok := hok.1 c_9
              refine lv_tableIn (tgt := 91) (off := 75) hx hb dX5_sector_16 (by rw [c_9]; decide) (by rw [c_9]; decide) (by rw [c_9]; rfl) (by decide) ?_
              have h_10 := hok
              refine lv_aload_n hx hb dX5_sector_91 rfl (lv_at hl 1 rfl) ?_
              refine get_M_all hx hb hts hinX5 hown hK hP (hts (.fieldLink RX5 7 "GrooveTurnsModel" "all" "[I") (by decide +kernel)) dX5_sector_92 ?_
              refine lv_sipush (v := 420) hx hb dX5_sector_95 (by decide) ?_
              refine lv_iload_n hx hb dX5_sector_98 rfl (lv_at hl 0 rfl) ?_
              refine lv_iadd hx hb dX5_sector_99 ?_
              refine ld_M_al hx hb hK hP h_10 dX5_sector_100 ?_
              rw [show s_X5_sector σ p1 p2 = ((m_al σ) (420 + (s_X5_sectorOf σ p1)).toNatClampNeg) from by rw [s_X5_sector]; rw [if_neg c_1, if_neg c_3, if_neg c_4, if_neg c_5, if_neg c_7, if_pos c_9]]
              exact W.iret hx hb hr (fun t ht hW => ⟨rfl, ht⟩) (fun _ h => nomatch h) dX5_sector_101
            · skip
              have hok := hok.2 c_9
              by_cases c_11 : p2 = 5
              · skip
                refine lv_tableIn (tgt := 102) (off := 86) hx hb dX5_sector_16 (by rw [c_11]; decide) (by rw [c_11]; decide) (by rw [c_11]; rfl) (by decide) ?_
                refine lv_iload_n hx hb dX5_sector_102 rfl (lv_at hl 0 rfl) ?_
                refine lv_iload_n hx hb dX5_sector_103 rfl (lv_at hl 2 rfl) ?_
                refine lv_icmp_ne (tgt := 111) hx hb dX5_sector_104 (by decide) (fun (c_12 : ¬ (s_X5_sectorOf σ p1) = p1) => ?_) (fun (c_12 : (s_X5_sectorOf σ p1) = p1) => ?_)
                · skip
                  refine lv_iconst (v := 1) hx hb dX5_sector_111 (by decide) ?_
                  rw [show s_X5_sector σ p1 p2 = 1 from by rw [s_X5_sector]; rw [if_neg c_1, if_neg c_3, if_neg c_4, if_neg c_5, if_neg c_7, if_neg c_9, if_pos c_11, if_neg c_12]]
                  exact W.iret hx hb hr (fun t ht hW => ⟨rfl, ht⟩) (fun _ h => nomatch h) dX5_sector_112
                · skip
                  refine lv_iconst (v := 0) hx hb dX5_sector_107 (by decide) ?_
                  refine lv_goto (tgt := 112) hx hb dX5_sector_108 (by decide) ?_
                  rw [show s_X5_sector σ p1 p2 = 0 from by rw [s_X5_sector]; rw [if_neg c_1, if_neg c_3, if_neg c_4, if_neg c_5, if_neg c_7, if_neg c_9, if_pos c_11, if_pos c_12]]
                  exact W.iret hx hb hr (fun t ht hW => ⟨rfl, ht⟩) (fun _ h => nomatch h) dX5_sector_112
              · skip
                have hok := hok.2 c_11
                by_cases c_13 : p2 = 6
                · skip
                  have hok := hok.1 c_13
                  refine lv_tableIn (tgt := 113) (off := 97) hx hb dX5_sector_16 (by rw [c_13]; decide) (by rw [c_13]; decide) (by rw [c_13]; rfl) (by decide) ?_
                  have h_14 := hok
                  refine lv_aload_n hx hb dX5_sector_113 rfl (lv_at hl 1 rfl) ?_
                  refine lv_iload_n hx hb dX5_sector_114 rfl (lv_at hl 2 rfl) ?_
                  refine rdV (As := [.int p1]) (rest := []) (c_X5_canBeRead l G α σ p1 h_14) hF (cwV 1 hts gX5_sector_X5_canBeRead rfl rfl rfl (by decide +kernel) ⟨Nat.le_of_ble_eq_true rfl, Nat.le_of_ble_eq_true rfl⟩) (rcv_M hK hP) hK hP rfl hl.1 rfl (Nat.le_of_ble_eq_true rfl) dX5_sector_115 ⟨Nat.zero_le _, Nat.zero_le _⟩ ?_
                  refine lv_if_eq (tgt := 125) hx hb dX5_sector_118 (by decide) (fun (c_15 : (s_X5_canBeRead σ p1) = 0) => ?_) (fun (c_15 : ¬ (s_X5_canBeRead σ p1) = 0) => ?_)
                  · skip
                    refine lv_iconst (v := 0) hx hb dX5_sector_125 (by decide) ?_
                    rw [show s_X5_sector σ p1 p2 = 0 from by rw [s_X5_sector]; rw [if_neg c_1, if_neg c_3, if_neg c_4, if_neg c_5, if_neg c_7, if_neg c_9, if_neg c_11, if_pos c_13, if_pos c_15]]
                    exact W.iret hx hb hr (fun t ht hW => ⟨rfl, ht⟩) (fun _ h => nomatch h) dX5_sector_126
                  · skip
                    refine lv_iconst (v := 1) hx hb dX5_sector_121 (by decide) ?_
                    refine lv_goto (tgt := 126) hx hb dX5_sector_122 (by decide) ?_
                    rw [show s_X5_sector σ p1 p2 = 1 from by rw [s_X5_sector]; rw [if_neg c_1, if_neg c_3, if_neg c_4, if_neg c_5, if_neg c_7, if_neg c_9, if_neg c_11, if_pos c_13, if_neg c_15]]
                    exact W.iret hx hb hr (fun t ht hW => ⟨rfl, ht⟩) (fun _ h => nomatch h) dX5_sector_126
                · skip
                  have h9_0 : ¬ p2.toInt = 0 := lv_neT c_3 (by decide)
                  have h9_1 : ¬ p2.toInt = 1 := lv_neT c_4 (by decide)
                  have h9_2 : ¬ p2.toInt = 2 := lv_neT c_5 (by decide)
                  have h9_3 : ¬ p2.toInt = 3 := lv_neT c_7 (by decide)
                  have h9_4 : ¬ p2.toInt = 4 := lv_neT c_9 (by decide)
                  have h9_5 : ¬ p2.toInt = 5 := lv_neT c_11 (by decide)
                  have h9_6 : ¬ p2.toInt = 6 := lv_neT c_13 (by decide)
                  refine lv_tableOut (tgt := 127) hx hb dX5_sector_16 (sw_out (fun k9 h9 h8 => by omega)) (by decide) ?_
                  refine lv_bipush (v := (-2)) hx hb dX5_sector_127 (by decide) ?_
                  rw [show s_X5_sector σ p1 p2 = (-2) from by rw [s_X5_sector]; rw [if_neg c_1, if_neg c_3, if_neg c_4, if_neg c_5, if_neg c_7, if_neg c_9, if_neg c_11, if_neg c_13]]
                  exact W.iret hx hb hr (fun t ht hW => ⟨rfl, ht⟩) (fun _ h => nomatch h) dX5_sector_129
  · skip
    refine lv_iconst (v := (-1)) hx hb dX5_sector_7 (by decide) ?_
    rw [show s_X5_sector σ p1 p2 = (-1) from by rw [s_X5_sector]; rw [if_pos c_1]]
    exact W.iret hx hb hr (fun t ht hW => ⟨rfl, ht⟩) (fun _ h => nomatch h) dX5_sector_8
def t1_X5_undo (σ : MS) (v1_1 : Int32) (τ1_0 : MS) : MS := (m_al' τ1_0 (upd (m_al τ1_0) v1_1.toNatClampNeg ((m_hi τ1_0) ((816 * (m_hl τ1_0)) + v1_1).toNatClampNeg)))
def L1_X5_undo (σ : MS) : Nat → Int32 → MS → Int32 × MS
  | 0, v1_1, τ1_0 => (0, τ1_0)
  | n + 1, v1_1, τ1_0 => (if 816 ≤ v1_1 then ((m_hl τ1_0), τ1_0) else (L1_X5_undo σ n (v1_1 + 1) (t1_X5_undo σ v1_1 τ1_0)))
def okL1_X5_undo (σ : MS) : Nat → Int32 → MS → Prop
  | 0, _, _ => False
  | n + 1, v1_1, τ1_0 => (816 ≤ v1_1 → True) ∧ (¬ 816 ≤ v1_1 → ((vp_in ((816 * (m_hl τ1_0)) + v1_1) 4896) ∧ ((vp_in v1_1 816) ∧ (okL1_X5_undo σ n (v1_1 + 1) (t1_X5_undo σ v1_1 τ1_0)))))
def s_X5_undo (σ : MS) : Int32 × MS := (if (m_hl σ) = 0 then ((-5), σ) else (L1_X5_undo σ FU 0 (m_hl' σ ((m_hl σ) - 1))))
def ok_X5_undo (σ : MS) : Prop := ((m_hl σ) = 0 → True) ∧ (¬ (m_hl σ) = 0 → (okL1_X5_undo σ FU 0 (m_hl' σ ((m_hl σ) - 1))))
set_option maxHeartbeats 4000000 in
set_option maxRecDepth 100000 in
theorem wL1_X5_undo {p : Program} {e : Env} {s : State} {m : MethodId} {args : Array Value} {below : List Frame} {meth : Method} {c : Code} {w0 : va_W} (l : Launch) (G : GG) (α : Nat → Nat) (σ : MS) (C0 : cA p s m meth c args cX5_undo 2 (some .int) wsX5_undo RX5) (hK : cK G s) : ∀ (n : Nat) (v1_1 : Int32) (τ1_0 : MS)  (hok : okL1_X5_undo σ n v1_1 τ1_0) (H : Heap) (locs : List Loc), va_P G.1 vwCl (mW G.2.1 α τ1_0) H → va_D (inW w0) (mW G.2.1 α τ1_0) → va_S (inW w0) s.heap H locs → ∀ (ls : Array Slot), lv_has ls 2 [(0, .ref (α 0)), (1, .int v1_1)] → W p l e (rmm 0 0) s m args below meth c H locs 0 0 (MQ below (QW G w0 (mW G.2.1 α ((L1_X5_undo σ n v1_1 τ1_0).2)) (some (.int (L1_X5_undo σ n v1_1 τ1_0).1))) args s 0 0 (inW w0)) (F0 m 22 ls []) := by
  obtain ⟨hx, hb, hr, hml, hown, hts, hlocks⟩ := id C0
  have hF : CallFix p m c cX5_undo 2 s args wsX5_undo RX5 := ⟨hx, hb, hml, hown, hts⟩
  have hinX5 : ∀ w ∈ wsX50, w ∈ wsX5_undo := by decide +kernel
  intro n
  induction n with
  | zero =>
    intro v1_1 τ1_0 hok
    exact hok.elim
  | succ n ih =>
    intro v1_1 τ1_0 hok H locs hP hD hS ls hl
    have hok : (816 ≤ v1_1 → True) ∧ (¬ 816 ≤ v1_1 → ((vp_in ((816 * (m_hl τ1_0)) + v1_1) 4896) ∧ ((vp_in v1_1 816) ∧ (okL1_X5_undo σ n (v1_1 + 1) (t1_X5_undo σ v1_1 τ1_0))))) := hok
    refine lv_iload_n hx hb dX5_undo_22 rfl (lv_at hl 1 rfl) ?_
    refine lv_sipush (v := 816) hx hb dX5_undo_23 (by decide) ?_
    refine lv_icmp_ge (tgt := 56) hx hb dX5_undo_26 (by decide) (fun (c_2 : 816 ≤ v1_1) => ?_) (fun (c_2 : ¬ 816 ≤ v1_1) => ?_)
    · skip
      refine lv_aload_n hx hb dX5_undo_56 rfl (lv_at hl 0 rfl) ?_
      refine get_M_historyLong hx hb hts hinX5 hown hK hP (hts (.fieldLink RX5 37 "GrooveTurnsModel" "historyLong" "I") (by decide +kernel)) dX5_undo_57 ?_
      have E9 : (L1_X5_undo σ (n + 1) v1_1 τ1_0) = ((m_hl τ1_0), τ1_0) := by rw [L1_X5_undo]; rw [if_pos c_2]
      rw [pr1 E9, pr2 E9]
      exact W.iret hx hb hr (fun t ht hW => ⟨rfl, by rw [ht]; exact hP, hS.F ht⟩) hS.2.2 dX5_undo_60
    · skip
      have hok := hok.2 c_2
      obtain ⟨h_3, hok⟩ := hok
      refine lv_aload_n hx hb dX5_undo_29 rfl (lv_at hl 0 rfl) ?_
      refine get_M_all hx hb hts hinX5 hown hK hP (hts (.fieldLink RX5 7 "GrooveTurnsModel" "all" "[I") (by decide +kernel)) dX5_undo_30 ?_
      refine lv_iload_n hx hb dX5_undo_33 rfl (lv_at hl 1 rfl) ?_
      refine lv_aload_n hx hb dX5_undo_34 rfl (lv_at hl 0 rfl) ?_
      refine get_M_history hx hb hts hinX5 hown hK hP (hts (.fieldLink RX5 16 "GrooveTurnsModel" "history" "[I") (by decide +kernel)) dX5_undo_35 ?_
      refine lv_sipush (v := 816) hx hb dX5_undo_38 (by decide) ?_
      refine lv_aload_n hx hb dX5_undo_41 rfl (lv_at hl 0 rfl) ?_
      refine get_M_historyLong hx hb hts hinX5 hown hK hP (hts (.fieldLink RX5 37 "GrooveTurnsModel" "historyLong" "I") (by decide +kernel)) dX5_undo_42 ?_
      refine lv_imul hx hb dX5_undo_45 ?_
      refine lv_iload_n hx hb dX5_undo_46 rfl (lv_at hl 1 rfl) ?_
      refine lv_iadd hx hb dX5_undo_47 ?_
      refine ld_M_hi hx hb hK hP h_3 dX5_undo_48 ?_
      obtain ⟨h_4, hok⟩ := hok
      refine st_M_al hx hb hK hP hD hS h_4 dX5_undo_49 (fun H locs hP hD hS => ?_)
      have hP : va_P G.1 vwCl (mW G.2.1 α (t1_X5_undo σ v1_1 τ1_0)) H := hP
      have hD : va_D (inW w0) (mW G.2.1 α (t1_X5_undo σ v1_1 τ1_0)) := hD
      refine lv_iinc (v := (v1_1 + 1)) (lv' := [(1, .int (v1_1 + 1)), (0, .ref (α 0))]) hx hb dX5_undo_50 hl (k := 1) rfl rfl (by decide) rfl (fun ls hl => ?_)
      refine lv_goto (tgt := 22) hx hb dX5_undo_53 (by decide) ?_
      rw [show (L1_X5_undo σ (n + 1) v1_1 τ1_0) = (L1_X5_undo σ n (v1_1 + 1) (t1_X5_undo σ v1_1 τ1_0)) from by rw [L1_X5_undo]; rw [if_neg c_2]]
      exact ih (v1_1 + 1) (t1_X5_undo σ v1_1 τ1_0) hok _ _ hP hD hS ls (lv_sub hl [1, 0] rfl)
set_option maxHeartbeats 4000000 in
set_option maxRecDepth 100000 in
theorem c_X5_undo (l : Launch) (G : GG) (α : Nat → Nat) (σ : MS) (hok : ok_X5_undo σ) : Wr G l yX5_undo wsX5_undo 0 0 [.ref (α 0)] (mW G.2.1 α σ) (some (.int (s_X5_undo σ).1)) (mW G.2.1 α ((s_X5_undo σ).2)) := by
  refine Met.ofW (cc := cX5_undo) (maxL := 2) (ret := (some .int)) (by decide) rfl ?_
  intro p e s m args below meth c s₁ B hml hv
  obtain ⟨rfl, hP, hK, hD0⟩ := hv
  have C0 : cA p s m meth c ([.ref (α 0)] : List Value).toArray cX5_undo 2 (some .int) wsX5_undo RX5 := ⟨B.exec, B.bytes, B.returns, hml, findClass_of_methodNamed B.named, atoms_spec (ws := wsX5_undo) B.pre, B.notSynchronized⟩
  obtain ⟨hx, hb, hr, hml, hown, hts, hlocks⟩ := id C0
  have hF : CallFix p m c cX5_undo 2 s _ wsX5_undo RX5 := ⟨hx, hb, hml, hown, hts⟩
  have hinX5 : ∀ w ∈ wsX50, w ∈ wsX5_undo := by decide +kernel
  obtain ⟨w0, hw0⟩ : ∃ w0 : va_W, w0 = (mW G.2.1 α σ) := ⟨_, rfl⟩
  have hD : va_D (inW w0) (mW G.2.1 α σ) := by rw [hw0]; exact inW.D hD0
  have hS : va_S (inW w0) s.heap s.heap [] := va_S.rf
  rw [show QW G (mW G.2.1 α σ) = QW G w0 from by rw [hw0], show inW (mW G.2.1 α σ) = inW w0 from by rw [hw0]]
  have hl := lv_entry ([.ref (α 0)]) (n := 2) (Nat.le_of_ble_eq_true rfl)
  rw [lg_entry_eq]
  generalize (lg_sl ([.ref (α 0)]) ++ List.replicate (2 - (lg_sl ([.ref (α 0)])).length) Slot.unset).toArray = ls at hl ⊢
  have hl : lv_has ls 2 [(0, .ref (α 0))] := hl
  have hok : ((m_hl σ) = 0 → True) ∧ (¬ (m_hl σ) = 0 → (okL1_X5_undo σ FU 0 (m_hl' σ ((m_hl σ) - 1)))) := hok
  refine lv_aload_n hx hb dX5_undo_0 rfl (lv_at hl 0 rfl) ?_
  refine get_M_historyLong hx hb hts hinX5 hown hK hP (hts (.fieldLink RX5 37 "GrooveTurnsModel" "historyLong" "I") (by decide +kernel)) dX5_undo_1 ?_
  refine lv_if_ne (tgt := 10) hx hb dX5_undo_4 (by decide) (fun (c_1 : ¬ (m_hl σ) = 0) => ?_) (fun (c_1 : (m_hl σ) = 0) => ?_)
  · skip
    have hok := hok.2 c_1
    refine lv_aload_n hx hb dX5_undo_10 rfl (lv_at hl 0 rfl) ?_
    refine lv_dup hx hb dX5_undo_11 rfl ?_
    refine get_M_historyLong hx hb hts hinX5 hown hK hP (hts (.fieldLink RX5 37 "GrooveTurnsModel" "historyLong" "I") (by decide +kernel)) dX5_undo_12 ?_
    refine lv_iconst (v := 1) hx hb dX5_undo_15 (by decide) ?_
    refine lv_isub hx hb dX5_undo_16 ?_
    refine put_M_historyLong hx hb hts hinX5 hown hK hP hD hS (hts (.fieldLink RX5 37 "GrooveTurnsModel" "historyLong" "I") (by decide +kernel)) dX5_undo_17 (fun H locs hP hD hS => ?_)
    have hP : va_P G.1 vwCl (mW G.2.1 α (m_hl' σ ((m_hl σ) - 1))) H := hP
    have hD : va_D (inW w0) (mW G.2.1 α (m_hl' σ ((m_hl σ) - 1))) := hD
    refine lv_iconst (v := 0) hx hb dX5_undo_20 (by decide) ?_
    refine lv_istore_n (lv' := [(1, .int 0), (0, .ref (α 0))]) hx hb dX5_undo_21 rfl hl (by decide) rfl (fun ls hl => ?_)
    rw [show s_X5_undo σ = (L1_X5_undo σ FU 0 (m_hl' σ ((m_hl σ) - 1))) from by rw [s_X5_undo]; rw [if_neg c_1]]
    exact wL1_X5_undo l G α σ C0 hK FU 0 (m_hl' σ ((m_hl σ) - 1)) hok _ _ hP hD hS ls (lv_sub hl [1, 0] rfl)
  · skip
    refine lv_bipush (v := (-5)) hx hb dX5_undo_7 (by decide) ?_
    have E9 : s_X5_undo σ = ((-5), σ) := by rw [s_X5_undo]; rw [if_pos c_1]
    rw [pr1 E9, pr2 E9]
    exact W.iret hx hb hr (fun t ht hW => ⟨rfl, by rw [ht]; exact hP, hS.F ht⟩) hS.2.2 dX5_undo_9
