def L1_X5_charactersOf (p0 : Int64) : Nat → Int64 → Int32 → Int32
  | 0, v1_2, v1_4 => 0
  | n + 1, v1_2, v1_4 => (if 8 ≤ v1_4 then (if (lg_cmp v1_2 0) = 0 then v1_4 else 0) else (if (s_X5_in (v1_2 &&& 255) 33 126) = 0 then (if (lg_cmp v1_2 0) = 0 then v1_4 else 0) else (L1_X5_charactersOf p0 n (jus v1_2 8) (v1_4 + 1))))
def okL1_X5_charactersOf (p0 : Int64) : Nat → Int64 → Int32 → Prop
  | 0, _, _ => False
  | n + 1, v1_2, v1_4 => (8 ≤ v1_4 → True) ∧ (¬ 8 ≤ v1_4 → (((s_X5_in (v1_2 &&& 255) 33 126) = 0 → True) ∧ (¬ (s_X5_in (v1_2 &&& 255) 33 126) = 0 → (okL1_X5_charactersOf p0 n (jus v1_2 8) (v1_4 + 1)))))
def s_X5_charactersOf (p0 : Int64) : Int32 := (L1_X5_charactersOf p0 FU p0 0)
def ok_X5_charactersOf (p0 : Int64) : Prop := okL1_X5_charactersOf p0 FU p0 0
set_option maxHeartbeats 4000000 in
set_option maxRecDepth 100000 in
theorem wL1_X5_charactersOf {p : Program} {e : Env} {s : State} {m : MethodId} {args : Array Value} {below : List Frame} {meth : Method} {c : Code} (l : Launch) (G : GG) (p0 : Int64) (hP : va_P G.1 vwCl [] s.heap) (C0 : cA p s m meth c args cX5_charactersOf 5 (some .int) wsX5_charactersOf RX5) (hK : cK G s) : ∀ (n : Nat) (v1_2 : Int64) (v1_4 : Int32)  (hok : okL1_X5_charactersOf p0 n v1_2 v1_4) (ls : Array Slot), lv_has ls 5 [(0, .long p0), (2, .long v1_2), (4, .int v1_4)] → W p l e (rmm 1 25) s m args below meth c s.heap [] 0 0 (MQ below (QR (some (.int (L1_X5_charactersOf p0 n v1_2 v1_4)))) args s 0 0 (fun _ => False)) (F0 m 5 ls []) := by
  obtain ⟨hx, hb, hr, hml, hown, hts, hlocks⟩ := id C0
  have hF : CallFix p m c cX5_charactersOf 5 s args wsX5_charactersOf RX5 := ⟨hx, hb, hml, hown, hts⟩
  intro n
  induction n with
  | zero =>
    intro v1_2 v1_4 hok
    exact hok.elim
  | succ n ih =>
    intro v1_2 v1_4 hok ls hl
    have hok : (8 ≤ v1_4 → True) ∧ (¬ 8 ≤ v1_4 → (((s_X5_in (v1_2 &&& 255) 33 126) = 0 → True) ∧ (¬ (s_X5_in (v1_2 &&& 255) 33 126) = 0 → (okL1_X5_charactersOf p0 n (jus v1_2 8) (v1_4 + 1))))) := hok
    refine lv_iload hx hb dX5_charactersOf_5 (lv_at hl 2 rfl) ?_
    refine lv_bipush (v := 8) hx hb dX5_charactersOf_7 (by decide) ?_
    refine lv_icmp_ge (tgt := 40) hx hb dX5_charactersOf_9 (by decide) (fun (c_1 : 8 ≤ v1_4) => ?_) (fun (c_1 : ¬ 8 ≤ v1_4) => ?_)
    · skip
      refine lv_lload_n hx hb dX5_charactersOf_40 rfl (lv_at hl 1 rfl) ?_
      refine lv_lconst (v := 0) hx hb dX5_charactersOf_41 (by decide) ?_
      refine W.lcmp hx hb dX5_charactersOf_42 ?_
      refine lv_if_ne (tgt := 51) hx hb dX5_charactersOf_43 (by decide) (fun (c_2 : ¬ (lg_cmp v1_2 0) = 0) => ?_) (fun (c_2 : (lg_cmp v1_2 0) = 0) => ?_)
      · skip
        refine lv_iconst (v := 0) hx hb dX5_charactersOf_51 (by decide) ?_
        rw [show (L1_X5_charactersOf p0 (n + 1) v1_2 v1_4) = 0 from by rw [L1_X5_charactersOf]; rw [if_pos c_1, if_neg c_2]]
        exact W.iret hx hb hr (fun t ht hW => ⟨rfl, ht⟩) (fun _ h => nomatch h) dX5_charactersOf_52
      · skip
        refine lv_iload hx hb dX5_charactersOf_46 (lv_at hl 2 rfl) ?_
        refine lv_goto (tgt := 52) hx hb dX5_charactersOf_48 (by decide) ?_
        rw [show (L1_X5_charactersOf p0 (n + 1) v1_2 v1_4) = v1_4 from by rw [L1_X5_charactersOf]; rw [if_pos c_1, if_pos c_2]]
        exact W.iret hx hb hr (fun t ht hW => ⟨rfl, ht⟩) (fun _ h => nomatch h) dX5_charactersOf_52
    · skip
      have hok := hok.2 c_1
      refine lv_lload_n hx hb dX5_charactersOf_12 rfl (lv_at hl 1 rfl) ?_
      refine lv_ldc2 (v := 255) hx hb hown (hts (.constantLong RX5 108 (255)) (by decide +kernel)) dX5_charactersOf_13 ?_
      refine lv_land hx hb dX5_charactersOf_16 ?_
      refine lv_ldc2 (v := 33) hx hb hown (hts (.constantLong RX5 140 (33)) (by decide +kernel)) dX5_charactersOf_17 ?_
      refine lv_ldc2 (v := 126) hx hb hown (hts (.constantLong RX5 142 (126)) (by decide +kernel)) dX5_charactersOf_20 ?_
      refine rdS (As := [.long (v1_2 &&& 255), .long 33, .long 126]) (rest := []) (c_X5_in l G (v1_2 &&& 255) 33 126) hF (va_cwS 3 hts gX5_charactersOf_X5_in rfl rfl rfl (by decide +kernel) ⟨Nat.le_of_ble_eq_true rfl, Nat.le_of_ble_eq_true rfl⟩) hK va_P0 rfl hl.1 rfl (Nat.le_of_ble_eq_true rfl) dX5_charactersOf_23 ⟨Nat.zero_le _, Nat.zero_le _⟩ ?_
      refine lv_if_eq (tgt := 40) hx hb dX5_charactersOf_26 (by decide) (fun (c_3 : (s_X5_in (v1_2 &&& 255) 33 126) = 0) => ?_) (fun (c_3 : ¬ (s_X5_in (v1_2 &&& 255) 33 126) = 0) => ?_)
      · skip
        refine lv_lload_n hx hb dX5_charactersOf_40 rfl (lv_at hl 1 rfl) ?_
        refine lv_lconst (v := 0) hx hb dX5_charactersOf_41 (by decide) ?_
        refine W.lcmp hx hb dX5_charactersOf_42 ?_
        refine lv_if_ne (tgt := 51) hx hb dX5_charactersOf_43 (by decide) (fun (c_4 : ¬ (lg_cmp v1_2 0) = 0) => ?_) (fun (c_4 : (lg_cmp v1_2 0) = 0) => ?_)
        · skip
          refine lv_iconst (v := 0) hx hb dX5_charactersOf_51 (by decide) ?_
          rw [show (L1_X5_charactersOf p0 (n + 1) v1_2 v1_4) = 0 from by rw [L1_X5_charactersOf]; rw [if_neg c_1, if_pos c_3, if_neg c_4]]
          exact W.iret hx hb hr (fun t ht hW => ⟨rfl, ht⟩) (fun _ h => nomatch h) dX5_charactersOf_52
        · skip
          refine lv_iload hx hb dX5_charactersOf_46 (lv_at hl 2 rfl) ?_
          refine lv_goto (tgt := 52) hx hb dX5_charactersOf_48 (by decide) ?_
          rw [show (L1_X5_charactersOf p0 (n + 1) v1_2 v1_4) = v1_4 from by rw [L1_X5_charactersOf]; rw [if_neg c_1, if_pos c_3, if_pos c_4]]
          exact W.iret hx hb hr (fun t ht hW => ⟨rfl, ht⟩) (fun _ h => nomatch h) dX5_charactersOf_52
      · skip
        have hok := hok.2 c_3
        refine lv_lload_n hx hb dX5_charactersOf_29 rfl (lv_at hl 1 rfl) ?_
        refine lv_bipush (v := 8) hx hb dX5_charactersOf_30 (by decide) ?_
        refine lv_lushr (v := (jus v1_2 8)) hx hb dX5_charactersOf_32 rfl ?_
        refine lv_lstore_n (lv' := [(2, .long (jus v1_2 8)), (0, .long p0), (4, .int v1_4)]) hx hb dX5_charactersOf_33 rfl hl (by decide) rfl (fun ls hl => ?_)
        refine lv_iinc (v := (v1_4 + 1)) (lv' := [(4, .int (v1_4 + 1)), (2, .long (jus v1_2 8)), (0, .long p0)]) hx hb dX5_charactersOf_34 hl (k := 2) rfl rfl (by decide) rfl (fun ls hl => ?_)
        refine lv_goto (tgt := 5) hx hb dX5_charactersOf_37 (by decide) ?_
        rw [show (L1_X5_charactersOf p0 (n + 1) v1_2 v1_4) = (L1_X5_charactersOf p0 n (jus v1_2 8) (v1_4 + 1)) from by rw [L1_X5_charactersOf]; rw [if_neg c_1, if_neg c_3]]
        exact ih (jus v1_2 8) (v1_4 + 1) hok ls (lv_sub hl [2, 1, 0] rfl)
set_option maxHeartbeats 4000000 in
set_option maxRecDepth 100000 in
theorem c_X5_charactersOf (l : Launch) (G : GG) (p0 : Int64) (hok : ok_X5_charactersOf p0) : Rd G l yX5_charactersOf wsX5_charactersOf 1 25 [.long p0] [] (.int (s_X5_charactersOf p0)) := by
  refine Met.ofW (cc := cX5_charactersOf) (maxL := 5) (ret := (some .int)) (by decide) rfl ?_
  intro p e s m args below meth c s₁ B hml hv
  obtain ⟨rfl, hP, hK⟩ := hv
  have C0 : cA p s m meth c ([.long p0] : List Value).toArray cX5_charactersOf 5 (some .int) wsX5_charactersOf RX5 := ⟨B.exec, B.bytes, B.returns, hml, findClass_of_methodNamed B.named, atoms_spec (ws := wsX5_charactersOf) B.pre, B.notSynchronized⟩
  obtain ⟨hx, hb, hr, hml, hown, hts, hlocks⟩ := id C0
  have hF : CallFix p m c cX5_charactersOf 5 s _ wsX5_charactersOf RX5 := ⟨hx, hb, hml, hown, hts⟩
  have hl := lv_entry ([.long p0]) (n := 5) (Nat.le_of_ble_eq_true rfl)
  rw [lg_entry_eq]
  generalize (lg_sl ([.long p0]) ++ List.replicate (5 - (lg_sl ([.long p0])).length) Slot.unset).toArray = ls at hl ⊢
  have hl : lv_has ls 5 [(0, .long p0)] := hl
  have hok : okL1_X5_charactersOf p0 FU p0 0 := hok
  refine lv_lload_n hx hb dX5_charactersOf_0 rfl (lv_at hl 0 rfl) ?_
  refine lv_lstore_n (lv' := [(2, .long p0), (0, .long p0)]) hx hb dX5_charactersOf_1 rfl hl (by decide) rfl (fun ls hl => ?_)
  refine lv_iconst (v := 0) hx hb dX5_charactersOf_2 (by decide) ?_
  refine lv_istore (lv' := [(4, .int 0), (2, .long p0), (0, .long p0)]) hx hb dX5_charactersOf_3 hl (by decide) rfl (fun ls hl => ?_)
  rw [show s_X5_charactersOf p0 = (L1_X5_charactersOf p0 FU p0 0) from by rw [s_X5_charactersOf]]
  exact wL1_X5_charactersOf l G p0 hP C0 hK FU p0 0 hok ls (lv_sub hl [2, 1, 0] rfl)
def t1_X5_put (σ : MS) (p1 : Int64) (v1_4 : Int32) (τ1_0 : MS) : MS := (m_tx' τ1_0 (upd (m_tx τ1_0) ((m_tl τ1_0) + v1_4).toNatClampNeg ((jus p1 (8 * (((s_X5_charactersOf p1) - 1) - v1_4))) &&& 255).toInt32))
def L1_X5_put (σ : MS) (p1 : Int64) : Nat → Int32 → MS → Int32 × MS
  | 0, v1_4, τ1_0 => (0, τ1_0)
  | n + 1, v1_4, τ1_0 => (if (s_X5_charactersOf p1) ≤ v1_4 then (((m_tl τ1_0) + (s_X5_charactersOf p1)), (m_tl' τ1_0 ((m_tl τ1_0) + (s_X5_charactersOf p1)))) else (L1_X5_put σ p1 n (v1_4 + 1) (t1_X5_put σ p1 v1_4 τ1_0)))
def okL1_X5_put (σ : MS) (p1 : Int64) : Nat → Int32 → MS → Prop
  | 0, _, _ => False
  | n + 1, v1_4, τ1_0 => ((s_X5_charactersOf p1) ≤ v1_4 → True) ∧ (¬ (s_X5_charactersOf p1) ≤ v1_4 → ((vp_in ((m_tl τ1_0) + v1_4) 60) ∧ (okL1_X5_put σ p1 n (v1_4 + 1) (t1_X5_put σ p1 v1_4 τ1_0))))
def s_X5_put (σ : MS) (p1 : Int64) : Int32 × MS := (if (s_X5_charactersOf p1) = 0 then ((-2), σ) else (if ((m_tl σ) + (s_X5_charactersOf p1)) ≤ 60 then (L1_X5_put σ p1 FU 0 σ) else ((-4), σ)))
def ok_X5_put (σ : MS) (p1 : Int64) : Prop := (ok_X5_charactersOf p1) ∧ (((s_X5_charactersOf p1) = 0 → True) ∧ (¬ (s_X5_charactersOf p1) = 0 → ((((m_tl σ) + (s_X5_charactersOf p1)) ≤ 60 → (okL1_X5_put σ p1 FU 0 σ)) ∧ (¬ ((m_tl σ) + (s_X5_charactersOf p1)) ≤ 60 → True))))
set_option maxHeartbeats 4000000 in
set_option maxRecDepth 100000 in
theorem wL1_X5_put {p : Program} {e : Env} {s : State} {m : MethodId} {args : Array Value} {below : List Frame} {meth : Method} {c : Code} {w0 : va_W} (l : Launch) (G : GG) (α : Nat → Nat) (σ : MS) (p1 : Int64) (C0 : cA p s m meth c args cX5_put 5 (some .int) wsX5_put RX5) (hK : cK G s) : ∀ (n : Nat) (v1_4 : Int32) (τ1_0 : MS)  (hok : okL1_X5_put σ p1 n v1_4 τ1_0) (H : Heap) (locs : List Loc), va_P G.1 vwCl (mW G.2.1 α τ1_0) H → va_D (inW w0) (mW G.2.1 α τ1_0) → va_S (inW w0) s.heap H locs → ∀ (ls : Array Slot), lv_has ls 5 [(0, .ref (α 0)), (1, .long p1), (3, .int (s_X5_charactersOf p1)), (4, .int v1_4)] → W p l e (rmm 2 49) s m args below meth c H locs 0 0 (MQ below (QW G w0 (mW G.2.1 α ((L1_X5_put σ p1 n v1_4 τ1_0).2)) (some (.int (L1_X5_put σ p1 n v1_4 τ1_0).1))) args s 0 0 (inW w0)) (F0 m 29 ls []) := by
  obtain ⟨hx, hb, hr, hml, hown, hts, hlocks⟩ := id C0
  have hF : CallFix p m c cX5_put 5 s args wsX5_put RX5 := ⟨hx, hb, hml, hown, hts⟩
  have hinX5 : ∀ w ∈ wsX50, w ∈ wsX5_put := by decide +kernel
  intro n
  induction n with
  | zero =>
    intro v1_4 τ1_0 hok
    exact hok.elim
  | succ n ih =>
    intro v1_4 τ1_0 hok H locs hP hD hS ls hl
    have hok : ((s_X5_charactersOf p1) ≤ v1_4 → True) ∧ (¬ (s_X5_charactersOf p1) ≤ v1_4 → ((vp_in ((m_tl τ1_0) + v1_4) 60) ∧ (okL1_X5_put σ p1 n (v1_4 + 1) (t1_X5_put σ p1 v1_4 τ1_0)))) := hok
    refine lv_iload hx hb dX5_put_29 (lv_at hl 3 rfl) ?_
    refine lv_iload_n hx hb dX5_put_31 rfl (lv_at hl 2 rfl) ?_
    refine lv_icmp_ge (tgt := 69) hx hb dX5_put_32 (by decide) (fun (c_4 : (s_X5_charactersOf p1) ≤ v1_4) => ?_) (fun (c_4 : ¬ (s_X5_charactersOf p1) ≤ v1_4) => ?_)
    · skip
      refine lv_aload_n hx hb dX5_put_69 rfl (lv_at hl 0 rfl) ?_
      refine lv_dup hx hb dX5_put_70 rfl ?_
      refine get_M_textLong hx hb hts hinX5 hown hK hP (hts (.fieldLink RX5 128 "GrooveTurnsModel" "textLong" "I") (by decide +kernel)) dX5_put_71 ?_
      refine lv_iload_n hx hb dX5_put_74 rfl (lv_at hl 2 rfl) ?_
      refine lv_iadd hx hb dX5_put_75 ?_
      refine put_M_textLong hx hb hts hinX5 hown hK hP hD hS (hts (.fieldLink RX5 128 "GrooveTurnsModel" "textLong" "I") (by decide +kernel)) dX5_put_76 (fun H locs hP hD hS => ?_)
      have hP : va_P G.1 vwCl (mW G.2.1 α (m_tl' τ1_0 ((m_tl τ1_0) + (s_X5_charactersOf p1)))) H := hP
      have hD : va_D (inW w0) (mW G.2.1 α (m_tl' τ1_0 ((m_tl τ1_0) + (s_X5_charactersOf p1)))) := hD
      refine lv_aload_n hx hb dX5_put_79 rfl (lv_at hl 0 rfl) ?_
      refine get_M_textLong hx hb hts hinX5 hown hK hP (hts (.fieldLink RX5 128 "GrooveTurnsModel" "textLong" "I") (by decide +kernel)) dX5_put_80 ?_
      have E9 : (L1_X5_put σ p1 (n + 1) v1_4 τ1_0) = (((m_tl τ1_0) + (s_X5_charactersOf p1)), (m_tl' τ1_0 ((m_tl τ1_0) + (s_X5_charactersOf p1)))) := by rw [L1_X5_put]; rw [if_pos c_4]
      rw [pr1 E9, pr2 E9]
      exact W.iret hx hb hr (fun t ht hW => ⟨rfl, by rw [ht]; exact hP, hS.F ht⟩) hS.2.2 dX5_put_83
    · skip
      have hok := hok.2 c_4
      obtain ⟨h_5, hok⟩ := hok
      refine lv_aload_n hx hb dX5_put_35 rfl (lv_at hl 0 rfl) ?_
      refine get_M_text hx hb hts hinX5 hown hK hP (hts (.fieldLink RX5 25 "GrooveTurnsModel" "text" "[I") (by decide +kernel)) dX5_put_36 ?_
      refine lv_aload_n hx hb dX5_put_39 rfl (lv_at hl 0 rfl) ?_
      refine get_M_textLong hx hb hts hinX5 hown hK hP (hts (.fieldLink RX5 128 "GrooveTurnsModel" "textLong" "I") (by decide +kernel)) dX5_put_40 ?_
      refine lv_iload hx hb dX5_put_43 (lv_at hl 3 rfl) ?_
      refine lv_iadd hx hb dX5_put_45 ?_
      refine lv_lload_n hx hb dX5_put_46 rfl (lv_at hl 1 rfl) ?_
      refine lv_bipush (v := 8) hx hb dX5_put_47 (by decide) ?_
      refine lv_iload_n hx hb dX5_put_49 rfl (lv_at hl 2 rfl) ?_
      refine lv_iconst (v := 1) hx hb dX5_put_50 (by decide) ?_
      refine lv_isub hx hb dX5_put_51 ?_
      refine lv_iload hx hb dX5_put_52 (lv_at hl 3 rfl) ?_
      refine lv_isub hx hb dX5_put_54 ?_
      refine lv_imul hx hb dX5_put_55 ?_
      refine lv_lushr (v := (jus p1 (8 * (((s_X5_charactersOf p1) - 1) - v1_4)))) hx hb dX5_put_56 rfl ?_
      refine lv_ldc2 (v := 255) hx hb hown (hts (.constantLong RX5 108 (255)) (by decide +kernel)) dX5_put_57 ?_
      refine lv_land hx hb dX5_put_60 ?_
      refine lv_l2i (v := ((jus p1 (8 * (((s_X5_charactersOf p1) - 1) - v1_4))) &&& 255).toInt32) hx hb dX5_put_61 rfl ?_
      refine st_M_tx hx hb hK hP hD hS h_5 dX5_put_62 (fun H locs hP hD hS => ?_)
      have hP : va_P G.1 vwCl (mW G.2.1 α (t1_X5_put σ p1 v1_4 τ1_0)) H := hP
      have hD : va_D (inW w0) (mW G.2.1 α (t1_X5_put σ p1 v1_4 τ1_0)) := hD
      refine lv_iinc (v := (v1_4 + 1)) (lv' := [(4, .int (v1_4 + 1)), (0, .ref (α 0)), (1, .long p1), (3, .int (s_X5_charactersOf p1))]) hx hb dX5_put_63 hl (k := 3) rfl rfl (by decide) rfl (fun ls hl => ?_)
      refine lv_goto (tgt := 29) hx hb dX5_put_66 (by decide) ?_
      rw [show (L1_X5_put σ p1 (n + 1) v1_4 τ1_0) = (L1_X5_put σ p1 n (v1_4 + 1) (t1_X5_put σ p1 v1_4 τ1_0)) from by rw [L1_X5_put]; rw [if_neg c_4]]
      exact ih (v1_4 + 1) (t1_X5_put σ p1 v1_4 τ1_0) hok _ _ hP hD hS ls (lv_sub hl [1, 2, 3, 0] rfl)
set_option maxHeartbeats 4000000 in
set_option maxRecDepth 100000 in
theorem c_X5_put (l : Launch) (G : GG) (α : Nat → Nat) (σ : MS) (p1 : Int64) (hok : ok_X5_put σ p1) : Wr G l yX5_put wsX5_put 2 49 [.ref (α 0), .long p1] (mW G.2.1 α σ) (some (.int (s_X5_put σ p1).1)) (mW G.2.1 α ((s_X5_put σ p1).2)) := by
  refine Met.ofW (cc := cX5_put) (maxL := 5) (ret := (some .int)) (by decide) rfl ?_
  intro p e s m args below meth c s₁ B hml hv
  obtain ⟨rfl, hP, hK, hD0⟩ := hv
  have C0 : cA p s m meth c ([.ref (α 0), .long p1] : List Value).toArray cX5_put 5 (some .int) wsX5_put RX5 := ⟨B.exec, B.bytes, B.returns, hml, findClass_of_methodNamed B.named, atoms_spec (ws := wsX5_put) B.pre, B.notSynchronized⟩
  obtain ⟨hx, hb, hr, hml, hown, hts, hlocks⟩ := id C0
  have hF : CallFix p m c cX5_put 5 s _ wsX5_put RX5 := ⟨hx, hb, hml, hown, hts⟩
  have hinX5 : ∀ w ∈ wsX50, w ∈ wsX5_put := by decide +kernel
  obtain ⟨w0, hw0⟩ : ∃ w0 : va_W, w0 = (mW G.2.1 α σ) := ⟨_, rfl⟩
  have hD : va_D (inW w0) (mW G.2.1 α σ) := by rw [hw0]; exact inW.D hD0
  have hS : va_S (inW w0) s.heap s.heap [] := va_S.rf
  rw [show QW G (mW G.2.1 α σ) = QW G w0 from by rw [hw0], show inW (mW G.2.1 α σ) = inW w0 from by rw [hw0]]
  have hl := lv_entry ([.ref (α 0), .long p1]) (n := 5) (Nat.le_of_ble_eq_true rfl)
  rw [lg_entry_eq]
  generalize (lg_sl ([.ref (α 0), .long p1]) ++ List.replicate (5 - (lg_sl ([.ref (α 0), .long p1])).length) Slot.unset).toArray = ls at hl ⊢
  have hl : lv_has ls 5 [(0, .ref (α 0)), (1, .long p1)] := hl
  have hok : (ok_X5_charactersOf p1) ∧ (((s_X5_charactersOf p1) = 0 → True) ∧ (¬ (s_X5_charactersOf p1) = 0 → ((((m_tl σ) + (s_X5_charactersOf p1)) ≤ 60 → (okL1_X5_put σ p1 FU 0 σ)) ∧ (¬ ((m_tl σ) + (s_X5_charactersOf p1)) ≤ 60 → True)))) := hok
  obtain ⟨h_1, hok⟩ := hok
  refine lv_lload_n hx hb dX5_put_0 rfl (lv_at hl 1 rfl) ?_
  refine rdS (As := [.long p1]) (rest := []) (c_X5_charactersOf l G p1 h_1) hF (va_cwS 1 hts gX5_put_X5_charactersOf rfl rfl rfl (by decide +kernel) ⟨Nat.le_of_ble_eq_true rfl, Nat.le_of_ble_eq_true rfl⟩) hK va_P0 rfl hl.1 rfl (Nat.le_of_ble_eq_true rfl) dX5_put_1 ⟨Nat.zero_le _, Nat.zero_le _⟩ ?_
  refine lv_istore_n (lv' := [(3, .int (s_X5_charactersOf p1)), (0, .ref (α 0)), (1, .long p1)]) hx hb dX5_put_4 rfl hl (by decide) rfl (fun ls hl => ?_)
  refine lv_iload_n hx hb dX5_put_5 rfl (lv_at hl 0 rfl) ?_
  refine lv_if_ne (tgt := 12) hx hb dX5_put_6 (by decide) (fun (c_2 : ¬ (s_X5_charactersOf p1) = 0) => ?_) (fun (c_2 : (s_X5_charactersOf p1) = 0) => ?_)
  · skip
    have hok := hok.2 c_2
    refine lv_aload_n hx hb dX5_put_12 rfl (lv_at hl 1 rfl) ?_
    refine get_M_textLong hx hb hts hinX5 hown hK hP (hts (.fieldLink RX5 128 "GrooveTurnsModel" "textLong" "I") (by decide +kernel)) dX5_put_13 ?_
    refine lv_iload_n hx hb dX5_put_16 rfl (lv_at hl 0 rfl) ?_
    refine lv_iadd hx hb dX5_put_17 ?_
    refine lv_bipush (v := 60) hx hb dX5_put_18 (by decide) ?_
    refine lv_icmp_le (tgt := 26) hx hb dX5_put_20 (by decide) (fun (c_3 : ((m_tl σ) + (s_X5_charactersOf p1)) ≤ 60) => ?_) (fun (c_3 : ¬ ((m_tl σ) + (s_X5_charactersOf p1)) ≤ 60) => ?_)
    · skip
      have hok := hok.1 c_3
      refine lv_iconst (v := 0) hx hb dX5_put_26 (by decide) ?_
      refine lv_istore (lv' := [(4, .int 0), (3, .int (s_X5_charactersOf p1)), (0, .ref (α 0)), (1, .long p1)]) hx hb dX5_put_27 hl (by decide) rfl (fun ls hl => ?_)
      rw [show s_X5_put σ p1 = (L1_X5_put σ p1 FU 0 σ) from by rw [s_X5_put]; rw [if_neg c_2, if_pos c_3]]
      exact wL1_X5_put l G α σ p1 C0 hK FU 0 σ hok _ _ hP hD hS ls (lv_sub hl [2, 3, 1, 0] rfl)
    · skip
      refine lv_bipush (v := (-4)) hx hb dX5_put_23 (by decide) ?_
      have E9 : s_X5_put σ p1 = ((-4), σ) := by rw [s_X5_put]; rw [if_neg c_2, if_neg c_3]
      rw [pr1 E9, pr2 E9]
      exact W.iret hx hb hr (fun t ht hW => ⟨rfl, by rw [ht]; exact hP, hS.F ht⟩) hS.2.2 dX5_put_25
  · skip
    refine lv_bipush (v := (-2)) hx hb dX5_put_9 (by decide) ?_
    have E9 : s_X5_put σ p1 = ((-2), σ) := by rw [s_X5_put]; rw [if_pos c_2]
    rw [pr1 E9, pr2 E9]
    exact W.iret hx hb hr (fun t ht hW => ⟨rfl, by rw [ht]; exact hP, hS.F ht⟩) hS.2.2 dX5_put_11
def s_X5_wipe (σ : MS) : Int32 × MS := ((m_tl σ), (m_tl' σ 0))
set_option maxHeartbeats 4000000 in
set_option maxRecDepth 100000 in
theorem c_X5_wipe (l : Launch) (G : GG) (α : Nat → Nat) (σ : MS) : Wr G l yX5_wipe wsX5_wipe 0 0 [.ref (α 0)] (mW G.2.1 α σ) (some (.int (s_X5_wipe σ).1)) (mW G.2.1 α ((s_X5_wipe σ).2)) := by
  refine Met.ofW (cc := cX5_wipe) (maxL := 2) (ret := (some .int)) (by decide) rfl ?_
  intro p e s m args below meth c s₁ B hml hv
  obtain ⟨rfl, hP, hK, hD0⟩ := hv
  have C0 : cA p s m meth c ([.ref (α 0)] : List Value).toArray cX5_wipe 2 (some .int) wsX5_wipe RX5 := ⟨B.exec, B.bytes, B.returns, hml, findClass_of_methodNamed B.named, atoms_spec (ws := wsX5_wipe) B.pre, B.notSynchronized⟩
  obtain ⟨hx, hb, hr, hml, hown, hts, hlocks⟩ := id C0
  have hF : CallFix p m c cX5_wipe 2 s _ wsX5_wipe RX5 := ⟨hx, hb, hml, hown, hts⟩
  have hinX5 : ∀ w ∈ wsX50, w ∈ wsX5_wipe := by decide +kernel
  obtain ⟨w0, hw0⟩ : ∃ w0 : va_W, w0 = (mW G.2.1 α σ) := ⟨_, rfl⟩
  have hD : va_D (inW w0) (mW G.2.1 α σ) := by rw [hw0]; exact inW.D hD0
  have hS : va_S (inW w0) s.heap s.heap [] := va_S.rf
  rw [show QW G (mW G.2.1 α σ) = QW G w0 from by rw [hw0], show inW (mW G.2.1 α σ) = inW w0 from by rw [hw0]]
  have hl := lv_entry ([.ref (α 0)]) (n := 2) (Nat.le_of_ble_eq_true rfl)
  rw [lg_entry_eq]
  generalize (lg_sl ([.ref (α 0)]) ++ List.replicate (2 - (lg_sl ([.ref (α 0)])).length) Slot.unset).toArray = ls at hl ⊢
  have hl : lv_has ls 2 [(0, .ref (α 0))] := hl
  refine lv_aload_n hx hb dX5_wipe_0 rfl (lv_at hl 0 rfl) ?_
  refine get_M_textLong hx hb hts hinX5 hown hK hP (hts (.fieldLink RX5 128 "GrooveTurnsModel" "textLong" "I") (by decide +kernel)) dX5_wipe_1 ?_
  refine lv_istore_n (lv' := [(1, .int (m_tl σ)), (0, .ref (α 0))]) hx hb dX5_wipe_4 rfl hl (by decide) rfl (fun ls hl => ?_)
  refine lv_aload_n hx hb dX5_wipe_5 rfl (lv_at hl 1 rfl) ?_
  refine lv_iconst (v := 0) hx hb dX5_wipe_6 (by decide) ?_
  refine put_M_textLong hx hb hts hinX5 hown hK hP hD hS (hts (.fieldLink RX5 128 "GrooveTurnsModel" "textLong" "I") (by decide +kernel)) dX5_wipe_7 (fun H locs hP hD hS => ?_)
  have hP : va_P G.1 vwCl (mW G.2.1 α (m_tl' σ 0)) H := hP
  have hD : va_D (inW w0) (mW G.2.1 α (m_tl' σ 0)) := hD
  refine lv_iload_n hx hb dX5_wipe_10 rfl (lv_at hl 0 rfl) ?_
  have E9 : s_X5_wipe σ = ((m_tl σ), (m_tl' σ 0)) := by rw [s_X5_wipe]
  rw [pr1 E9, pr2 E9]
  exact W.iret hx hb hr (fun t ht hW => ⟨rfl, by rw [ht]; exact hP, hS.F ht⟩) hS.2.2 dX5_wipe_11
def s_X5_isHere (σ : MS) (p1 : Int32) (p2 : Int32) : Int32 := (if (m_tl σ) ≤ (m_so σ) then 0 else (if (s_X5_in ((m_tx σ) (m_so σ).toNatClampNeg).toInt64 p1.toInt64 p2.toInt64) = 0 then 0 else 1))
def ok_X5_isHere (σ : MS) (p1 : Int32) (p2 : Int32) : Prop := ((m_tl σ) ≤ (m_so σ) → True) ∧ (¬ (m_tl σ) ≤ (m_so σ) → (vp_in (m_so σ) 60))
theorem b_X5_isHere (σ : MS) (p1 : Int32) (p2 : Int32) : (s_X5_isHere σ p1 p2) = 0 ∨ (s_X5_isHere σ p1 p2) = 1 := by
  unfold s_X5_isHere
  by_cases c_1 : (m_tl σ) ≤ (m_so σ)
  · skip
    rw [if_pos c_1]
    exact Or.inl rfl
  · skip
    by_cases c_3 : (s_X5_in ((m_tx σ) (m_so σ).toNatClampNeg).toInt64 p1.toInt64 p2.toInt64) = 0
    · skip
      rw [if_neg c_1, if_pos c_3]
      exact Or.inl rfl
    · skip
      rw [if_neg c_1, if_neg c_3]
      exact Or.inr rfl
set_option maxHeartbeats 4000000 in
set_option maxRecDepth 100000 in
theorem c_X5_isHere (l : Launch) (G : GG) (α : Nat → Nat) (σ : MS) (p1 : Int32) (p2 : Int32) (hok : ok_X5_isHere σ p1 p2) : Rd G l yX5_isHere wsX5_isHere 1 25 [.ref (α 0), .int p1, .int p2] (mW G.2.1 α σ) (.int (s_X5_isHere σ p1 p2)) := by
  refine Met.ofW (cc := cX5_isHere) (maxL := 3) (ret := (some .boolean)) (by decide) rfl ?_
  intro p e s m args below meth c s₁ B hml hv
  obtain ⟨rfl, hP, hK⟩ := hv
  have C0 : cA p s m meth c ([.ref (α 0), .int p1, .int p2] : List Value).toArray cX5_isHere 3 (some .boolean) wsX5_isHere RX5 := ⟨B.exec, B.bytes, B.returns, hml, findClass_of_methodNamed B.named, atoms_spec (ws := wsX5_isHere) B.pre, B.notSynchronized⟩
  obtain ⟨hx, hb, hr, hml, hown, hts, hlocks⟩ := id C0
  have hF : CallFix p m c cX5_isHere 3 s _ wsX5_isHere RX5 := ⟨hx, hb, hml, hown, hts⟩
  have hinX5 : ∀ w ∈ wsX50, w ∈ wsX5_isHere := by decide +kernel
  have hl := lv_entry ([.ref (α 0), .int p1, .int p2]) (n := 3) (Nat.le_of_ble_eq_true rfl)
  rw [lg_entry_eq]
  generalize (lg_sl ([.ref (α 0), .int p1, .int p2]) ++ List.replicate (3 - (lg_sl ([.ref (α 0), .int p1, .int p2])).length) Slot.unset).toArray = ls at hl ⊢
  have hl : lv_has ls 3 [(0, .ref (α 0)), (1, .int p1), (2, .int p2)] := hl
  have hok : ((m_tl σ) ≤ (m_so σ) → True) ∧ (¬ (m_tl σ) ≤ (m_so σ) → (vp_in (m_so σ) 60)) := hok
  refine lv_aload_n hx hb dX5_isHere_0 rfl (lv_at hl 0 rfl) ?_
  refine get_M_spot hx hb hts hinX5 hown hK hP (hts (.fieldLink RX5 148 "GrooveTurnsModel" "spot" "I") (by decide +kernel)) dX5_isHere_1 ?_
  refine lv_aload_n hx hb dX5_isHere_4 rfl (lv_at hl 0 rfl) ?_
  refine get_M_textLong hx hb hts hinX5 hown hK hP (hts (.fieldLink RX5 128 "GrooveTurnsModel" "textLong" "I") (by decide +kernel)) dX5_isHere_5 ?_
  refine lv_icmp_ge (tgt := 35) hx hb dX5_isHere_8 (by decide) (fun (c_1 : (m_tl σ) ≤ (m_so σ)) => ?_) (fun (c_1 : ¬ (m_tl σ) ≤ (m_so σ)) => ?_)
  · skip
    refine lv_iconst (v := 0) hx hb dX5_isHere_35 (by decide) ?_
    rw [show s_X5_isHere σ p1 p2 = 0 from by rw [s_X5_isHere]; rw [if_pos c_1]]
    exact W.zret (ty := .boolean) hx hb hr rfl (fun t ht hW => ⟨rfl, ht⟩) (fun _ h => nomatch h) dX5_isHere_36
  · skip
    have hok := hok.2 c_1
    have h_2 := hok
    refine lv_aload_n hx hb dX5_isHere_11 rfl (lv_at hl 0 rfl) ?_
    refine get_M_text hx hb hts hinX5 hown hK hP (hts (.fieldLink RX5 25 "GrooveTurnsModel" "text" "[I") (by decide +kernel)) dX5_isHere_12 ?_
    refine lv_aload_n hx hb dX5_isHere_15 rfl (lv_at hl 0 rfl) ?_
    refine get_M_spot hx hb hts hinX5 hown hK hP (hts (.fieldLink RX5 148 "GrooveTurnsModel" "spot" "I") (by decide +kernel)) dX5_isHere_16 ?_
    refine ld_M_tx hx hb hK hP h_2 dX5_isHere_19 ?_
    refine lv_i2l (v := ((m_tx σ) (m_so σ).toNatClampNeg).toInt64) hx hb dX5_isHere_20 rfl ?_
    refine lv_iload_n hx hb dX5_isHere_21 rfl (lv_at hl 1 rfl) ?_
    refine lv_i2l (v := p1.toInt64) hx hb dX5_isHere_22 rfl ?_
    refine lv_iload_n hx hb dX5_isHere_23 rfl (lv_at hl 2 rfl) ?_
    refine lv_i2l (v := p2.toInt64) hx hb dX5_isHere_24 rfl ?_
    refine rdS (As := [.long ((m_tx σ) (m_so σ).toNatClampNeg).toInt64, .long p1.toInt64, .long p2.toInt64]) (rest := []) (c_X5_in l G ((m_tx σ) (m_so σ).toNatClampNeg).toInt64 p1.toInt64 p2.toInt64) hF (va_cwS 3 hts gX5_isHere_X5_in rfl rfl rfl (by decide +kernel) ⟨Nat.le_of_ble_eq_true rfl, Nat.le_of_ble_eq_true rfl⟩) hK va_P0 rfl hl.1 rfl (Nat.le_of_ble_eq_true rfl) dX5_isHere_25 ⟨Nat.zero_le _, Nat.zero_le _⟩ ?_
    refine lv_if_eq (tgt := 35) hx hb dX5_isHere_28 (by decide) (fun (c_3 : (s_X5_in ((m_tx σ) (m_so σ).toNatClampNeg).toInt64 p1.toInt64 p2.toInt64) = 0) => ?_) (fun (c_3 : ¬ (s_X5_in ((m_tx σ) (m_so σ).toNatClampNeg).toInt64 p1.toInt64 p2.toInt64) = 0) => ?_)
    · skip
      refine lv_iconst (v := 0) hx hb dX5_isHere_35 (by decide) ?_
      rw [show s_X5_isHere σ p1 p2 = 0 from by rw [s_X5_isHere]; rw [if_neg c_1, if_pos c_3]]
      exact W.zret (ty := .boolean) hx hb hr rfl (fun t ht hW => ⟨rfl, ht⟩) (fun _ h => nomatch h) dX5_isHere_36
    · skip
      refine lv_iconst (v := 1) hx hb dX5_isHere_31 (by decide) ?_
      refine lv_goto (tgt := 36) hx hb dX5_isHere_32 (by decide) ?_
      rw [show s_X5_isHere σ p1 p2 = 1 from by rw [s_X5_isHere]; rw [if_neg c_1, if_neg c_3]]
      exact W.zret (ty := .boolean) hx hb hr rfl (fun t ht hW => ⟨rfl, ht⟩) (fun _ h => nomatch h) dX5_isHere_36
def s_X5_takesOne (σ : MS) (p1 : Int32) : Int32 × MS := (if (s_X5_isHere σ p1 p1) = 0 then ((s_X5_isHere σ p1 p1), (m_so' σ ((m_so σ) + 0))) else ((s_X5_isHere σ p1 p1), (m_so' σ ((m_so σ) + 1))))
def ok_X5_takesOne (σ : MS) (p1 : Int32) : Prop := ok_X5_isHere σ p1 p1
theorem b_X5_takesOne (σ : MS) (p1 : Int32) : (s_X5_takesOne σ p1).1 = 0 ∨ (s_X5_takesOne σ p1).1 = 1 := by
  unfold s_X5_takesOne
  by_cases c_2 : (s_X5_isHere σ p1 p1) = 0
  · skip
    rw [if_pos c_2]
    exact b_X5_isHere σ p1 p1
  · skip
    rw [if_neg c_2]
    exact b_X5_isHere σ p1 p1
set_option maxHeartbeats 4000000 in
set_option maxRecDepth 100000 in
theorem c_X5_takesOne (l : Launch) (G : GG) (α : Nat → Nat) (σ : MS) (p1 : Int32) (hok : ok_X5_takesOne σ p1) : Wr G l yX5_takesOne wsX5_takesOne 2 47 [.ref (α 0), .int p1] (mW G.2.1 α σ) (some (.int (s_X5_takesOne σ p1).1)) (mW G.2.1 α ((s_X5_takesOne σ p1).2)) := by
  refine Met.ofW (cc := cX5_takesOne) (maxL := 3) (ret := (some .boolean)) (by decide) rfl ?_
  intro p e s m args below meth c s₁ B hml hv
  obtain ⟨rfl, hP, hK, hD0⟩ := hv
  have C0 : cA p s m meth c ([.ref (α 0), .int p1] : List Value).toArray cX5_takesOne 3 (some .boolean) wsX5_takesOne RX5 := ⟨B.exec, B.bytes, B.returns, hml, findClass_of_methodNamed B.named, atoms_spec (ws := wsX5_takesOne) B.pre, B.notSynchronized⟩
  obtain ⟨hx, hb, hr, hml, hown, hts, hlocks⟩ := id C0
  have hF : CallFix p m c cX5_takesOne 3 s _ wsX5_takesOne RX5 := ⟨hx, hb, hml, hown, hts⟩
  have hinX5 : ∀ w ∈ wsX50, w ∈ wsX5_takesOne := by decide +kernel
  obtain ⟨w0, hw0⟩ : ∃ w0 : va_W, w0 = (mW G.2.1 α σ) := ⟨_, rfl⟩
  have hD : va_D (inW w0) (mW G.2.1 α σ) := by rw [hw0]; exact inW.D hD0
  have hS : va_S (inW w0) s.heap s.heap [] := va_S.rf
  rw [show QW G (mW G.2.1 α σ) = QW G w0 from by rw [hw0], show inW (mW G.2.1 α σ) = inW w0 from by rw [hw0]]
  have hl := lv_entry ([.ref (α 0), .int p1]) (n := 3) (Nat.le_of_ble_eq_true rfl)
  rw [lg_entry_eq]
  generalize (lg_sl ([.ref (α 0), .int p1]) ++ List.replicate (3 - (lg_sl ([.ref (α 0), .int p1])).length) Slot.unset).toArray = ls at hl ⊢
  have hl : lv_has ls 3 [(0, .ref (α 0)), (1, .int p1)] := hl
  have hok : ok_X5_isHere σ p1 p1 := hok
  have h_1 := hok
  refine lv_aload_n hx hb dX5_takesOne_0 rfl (lv_at hl 0 rfl) ?_
  refine lv_iload_n hx hb dX5_takesOne_1 rfl (lv_at hl 1 rfl) ?_
  refine lv_iload_n hx hb dX5_takesOne_2 rfl (lv_at hl 1 rfl) ?_
  refine rdV (As := [.int p1, .int p1]) (rest := []) (c_X5_isHere l G α σ p1 p1 h_1) hF (cwV 2 hts gX5_takesOne_X5_isHere rfl rfl rfl (by decide +kernel) ⟨Nat.le_of_ble_eq_true rfl, Nat.le_of_ble_eq_true rfl⟩) (rcv_M hK hP) hK hP rfl hl.1 rfl (Nat.le_of_ble_eq_true rfl) dX5_takesOne_3 ⟨Nat.zero_le _, Nat.zero_le _⟩ ?_
  refine lv_istore_n (lv' := [(2, .int (s_X5_isHere σ p1 p1)), (0, .ref (α 0)), (1, .int p1)]) hx hb dX5_takesOne_6 rfl hl (by decide) rfl (fun ls hl => ?_)
  refine lv_aload_n hx hb dX5_takesOne_7 rfl (lv_at hl 1 rfl) ?_
  refine lv_dup hx hb dX5_takesOne_8 rfl ?_
  refine get_M_spot hx hb hts hinX5 hown hK hP (hts (.fieldLink RX5 148 "GrooveTurnsModel" "spot" "I") (by decide +kernel)) dX5_takesOne_9 ?_
  refine lv_iload_n hx hb dX5_takesOne_12 rfl (lv_at hl 0 rfl) ?_
  refine lv_if_eq (tgt := 20) hx hb dX5_takesOne_13 (by decide) (fun (c_2 : (s_X5_isHere σ p1 p1) = 0) => ?_) (fun (c_2 : ¬ (s_X5_isHere σ p1 p1) = 0) => ?_)
  · skip
    refine lv_iconst (v := 0) hx hb dX5_takesOne_20 (by decide) ?_
    refine lv_iadd hx hb dX5_takesOne_21 ?_
    refine put_M_spot hx hb hts hinX5 hown hK hP hD hS (hts (.fieldLink RX5 148 "GrooveTurnsModel" "spot" "I") (by decide +kernel)) dX5_takesOne_22 (fun H locs hP hD hS => ?_)
    have hP : va_P G.1 vwCl (mW G.2.1 α (m_so' σ ((m_so σ) + 0))) H := hP
    have hD : va_D (inW w0) (mW G.2.1 α (m_so' σ ((m_so σ) + 0))) := hD
    refine lv_iload_n hx hb dX5_takesOne_25 rfl (lv_at hl 0 rfl) ?_
    have E9 : s_X5_takesOne σ p1 = ((s_X5_isHere σ p1 p1), (m_so' σ ((m_so σ) + 0))) := by rw [s_X5_takesOne]; rw [if_pos c_2]
    rw [pr1 E9, pr2 E9]
    exact W.zret (ty := .boolean) hx hb hr (nbool (b_X5_isHere _ _ _)) (fun t ht hW => ⟨rfl, by rw [ht]; exact hP, hS.F ht⟩) hS.2.2 dX5_takesOne_26
  · skip
    refine lv_iconst (v := 1) hx hb dX5_takesOne_16 (by decide) ?_
    refine lv_goto (tgt := 21) hx hb dX5_takesOne_17 (by decide) ?_
    refine lv_iadd hx hb dX5_takesOne_21 ?_
    refine put_M_spot hx hb hts hinX5 hown hK hP hD hS (hts (.fieldLink RX5 148 "GrooveTurnsModel" "spot" "I") (by decide +kernel)) dX5_takesOne_22 (fun H locs hP hD hS => ?_)
    have hP : va_P G.1 vwCl (mW G.2.1 α (m_so' σ ((m_so σ) + 1))) H := hP
    have hD : va_D (inW w0) (mW G.2.1 α (m_so' σ ((m_so σ) + 1))) := hD
    refine lv_iload_n hx hb dX5_takesOne_25 rfl (lv_at hl 0 rfl) ?_
    have E9 : s_X5_takesOne σ p1 = ((s_X5_isHere σ p1 p1), (m_so' σ ((m_so σ) + 1))) := by rw [s_X5_takesOne]; rw [if_neg c_2]
    rw [pr1 E9, pr2 E9]
    exact W.zret (ty := .boolean) hx hb hr (nbool (b_X5_isHere _ _ _)) (fun t ht hW => ⟨rfl, by rw [ht]; exact hP, hS.F ht⟩) hS.2.2 dX5_takesOne_26
def L1_X5_readsNumber (σ : MS) (p1 : Int32) : Nat → Int32 → MS → Int32 × MS
  | 0, v1_2, τ1_0 => (0, τ1_0)
  | n + 1, v1_2, τ1_0 => (if v1_2 ≤ 0 then (1, (m_nm' τ1_0 v1_2)) else (if (s_X5_isHere τ1_0 48 57) = 0 then (1, (m_nm' τ1_0 v1_2)) else (if p1 < (((10 * v1_2) + ((m_tx τ1_0) (m_so τ1_0).toNatClampNeg)) - 48) then (1, (m_nm' τ1_0 v1_2)) else (L1_X5_readsNumber σ p1 n (((10 * v1_2) + ((m_tx τ1_0) (m_so τ1_0).toNatClampNeg)) - 48) (m_so' τ1_0 ((m_so τ1_0) + 1))))))
def okL1_X5_readsNumber (σ : MS) (p1 : Int32) : Nat → Int32 → MS → Prop
  | 0, _, _ => False
  | n + 1, v1_2, τ1_0 => (v1_2 ≤ 0 → True) ∧ (¬ v1_2 ≤ 0 → ((ok_X5_isHere τ1_0 48 57) ∧ (((s_X5_isHere τ1_0 48 57) = 0 → True) ∧ (¬ (s_X5_isHere τ1_0 48 57) = 0 → ((vp_in (m_so τ1_0) 60) ∧ ((p1 < (((10 * v1_2) + ((m_tx τ1_0) (m_so τ1_0).toNatClampNeg)) - 48) → True) ∧ (¬ p1 < (((10 * v1_2) + ((m_tx τ1_0) (m_so τ1_0).toNatClampNeg)) - 48) → (okL1_X5_readsNumber σ p1 n (((10 * v1_2) + ((m_tx τ1_0) (m_so τ1_0).toNatClampNeg)) - 48) (m_so' τ1_0 ((m_so τ1_0) + 1))))))))))
def s_X5_readsNumber (σ : MS) (p1 : Int32) : Int32 × MS := (if (s_X5_isHere σ 48 57) = 0 then (0, σ) else (L1_X5_readsNumber σ p1 FU (((m_tx σ) (m_so σ).toNatClampNeg) - 48) (m_so' σ ((m_so σ) + 1))))
def ok_X5_readsNumber (σ : MS) (p1 : Int32) : Prop := (ok_X5_isHere σ 48 57) ∧ (((s_X5_isHere σ 48 57) = 0 → True) ∧ (¬ (s_X5_isHere σ 48 57) = 0 → ((vp_in (m_so σ) 60) ∧ (okL1_X5_readsNumber σ p1 FU (((m_tx σ) (m_so σ).toNatClampNeg) - 48) (m_so' σ ((m_so σ) + 1))))))
set_option maxHeartbeats 4000000 in
set_option maxRecDepth 100000 in
theorem wL1_X5_readsNumber {p : Program} {e : Env} {s : State} {m : MethodId} {args : Array Value} {below : List Frame} {meth : Method} {c : Code} {w0 : va_W} (l : Launch) (G : GG) (α : Nat → Nat) (σ : MS) (p1 : Int32) (C0 : cA p s m meth c args cX5_readsNumber 3 (some .boolean) wsX5_readsNumber RX5) (hK : cK G s) : ∀ (n : Nat) (v1_2 : Int32) (τ1_0 : MS)  (hok : okL1_X5_readsNumber σ p1 n v1_2 τ1_0) (H : Heap) (locs : List Loc), va_P G.1 vwCl (mW G.2.1 α τ1_0) H → va_D (inW w0) (mW G.2.1 α τ1_0) → va_S (inW w0) s.heap H locs → ∀ (ls : Array Slot), lv_has ls 3 [(0, .ref (α 0)), (1, .int p1), (2, .int v1_2)] → W p l e (rmm 2 47) s m args below meth c H locs 0 0 (MQ below (QW G w0 (mW G.2.1 α ((L1_X5_readsNumber σ p1 n v1_2 τ1_0).2)) (some (.int (L1_X5_readsNumber σ p1 n v1_2 τ1_0).1))) args s 0 0 (inW w0)) (F0 m 36 ls []) := by
  obtain ⟨hx, hb, hr, hml, hown, hts, hlocks⟩ := id C0
  have hF : CallFix p m c cX5_readsNumber 3 s args wsX5_readsNumber RX5 := ⟨hx, hb, hml, hown, hts⟩
  have hinX5 : ∀ w ∈ wsX50, w ∈ wsX5_readsNumber := by decide +kernel
  intro n
  induction n with
  | zero =>
    intro v1_2 τ1_0 hok
    exact hok.elim
  | succ n ih =>
    intro v1_2 τ1_0 hok H locs hP hD hS ls hl
    have hok : (v1_2 ≤ 0 → True) ∧ (¬ v1_2 ≤ 0 → ((ok_X5_isHere τ1_0 48 57) ∧ (((s_X5_isHere τ1_0 48 57) = 0 → True) ∧ (¬ (s_X5_isHere τ1_0 48 57) = 0 → ((vp_in (m_so τ1_0) 60) ∧ ((p1 < (((10 * v1_2) + ((m_tx τ1_0) (m_so τ1_0).toNatClampNeg)) - 48) → True) ∧ (¬ p1 < (((10 * v1_2) + ((m_tx τ1_0) (m_so τ1_0).toNatClampNeg)) - 48) → (okL1_X5_readsNumber σ p1 n (((10 * v1_2) + ((m_tx τ1_0) (m_so τ1_0).toNatClampNeg)) - 48) (m_so' τ1_0 ((m_so τ1_0) + 1)))))))))) := hok
    refine lv_iload_n hx hb dX5_readsNumber_36 rfl (lv_at hl 2 rfl) ?_
    refine lv_if_le (tgt := 103) hx hb dX5_readsNumber_37 (by decide) (fun (c_4 : v1_2 ≤ 0) => ?_) (fun (c_4 : ¬ v1_2 ≤ 0) => ?_)
    · skip
      refine lv_aload_n hx hb dX5_readsNumber_103 rfl (lv_at hl 0 rfl) ?_
      refine lv_iload_n hx hb dX5_readsNumber_104 rfl (lv_at hl 2 rfl) ?_
      refine put_M_number hx hb hts hinX5 hown hK hP hD hS (hts (.fieldLink RX5 154 "GrooveTurnsModel" "number" "I") (by decide +kernel)) dX5_readsNumber_105 (fun H locs hP hD hS => ?_)
      have hP : va_P G.1 vwCl (mW G.2.1 α (m_nm' τ1_0 v1_2)) H := hP
      have hD : va_D (inW w0) (mW G.2.1 α (m_nm' τ1_0 v1_2)) := hD
      refine lv_iconst (v := 1) hx hb dX5_readsNumber_108 (by decide) ?_
      have E9 : (L1_X5_readsNumber σ p1 (n + 1) v1_2 τ1_0) = (1, (m_nm' τ1_0 v1_2)) := by rw [L1_X5_readsNumber]; rw [if_pos c_4]
      rw [pr1 E9, pr2 E9]
      exact W.zret (ty := .boolean) hx hb hr rfl (fun t ht hW => ⟨rfl, by rw [ht]; exact hP, hS.F ht⟩) hS.2.2 dX5_readsNumber_109
    · skip
      have hok := hok.2 c_4
      obtain ⟨h_5, hok⟩ := hok
      refine lv_aload_n hx hb dX5_readsNumber_40 rfl (lv_at hl 0 rfl) ?_
      refine lv_bipush (v := 48) hx hb dX5_readsNumber_41 (by decide) ?_
      refine lv_bipush (v := 57) hx hb dX5_readsNumber_43 (by decide) ?_
      refine rdV (As := [.int 48, .int 57]) (rest := []) (c_X5_isHere l G α τ1_0 48 57 h_5) hF (cwV 2 hts gX5_readsNumber_X5_isHere rfl rfl rfl (by decide +kernel) ⟨Nat.le_of_ble_eq_true rfl, Nat.le_of_ble_eq_true rfl⟩) (rcv_M hK hP) hK hP rfl hl.1 rfl (Nat.le_of_ble_eq_true rfl) dX5_readsNumber_45 ⟨Nat.zero_le _, Nat.zero_le _⟩ ?_
      refine lv_if_eq (tgt := 103) hx hb dX5_readsNumber_48 (by decide) (fun (c_6 : (s_X5_isHere τ1_0 48 57) = 0) => ?_) (fun (c_6 : ¬ (s_X5_isHere τ1_0 48 57) = 0) => ?_)
      · skip
        refine lv_aload_n hx hb dX5_readsNumber_103 rfl (lv_at hl 0 rfl) ?_
        refine lv_iload_n hx hb dX5_readsNumber_104 rfl (lv_at hl 2 rfl) ?_
        refine put_M_number hx hb hts hinX5 hown hK hP hD hS (hts (.fieldLink RX5 154 "GrooveTurnsModel" "number" "I") (by decide +kernel)) dX5_readsNumber_105 (fun H locs hP hD hS => ?_)
        have hP : va_P G.1 vwCl (mW G.2.1 α (m_nm' τ1_0 v1_2)) H := hP
        have hD : va_D (inW w0) (mW G.2.1 α (m_nm' τ1_0 v1_2)) := hD
        refine lv_iconst (v := 1) hx hb dX5_readsNumber_108 (by decide) ?_
        have E9 : (L1_X5_readsNumber σ p1 (n + 1) v1_2 τ1_0) = (1, (m_nm' τ1_0 v1_2)) := by rw [L1_X5_readsNumber]; rw [if_neg c_4, if_pos c_6]
        rw [pr1 E9, pr2 E9]
        exact W.zret (ty := .boolean) hx hb hr rfl (fun t ht hW => ⟨rfl, by rw [ht]; exact hP, hS.F ht⟩) hS.2.2 dX5_readsNumber_109
      · skip
        have hok := hok.2 c_6
        obtain ⟨h_7, hok⟩ := hok
        refine lv_bipush (v := 10) hx hb dX5_readsNumber_51 (by decide) ?_
        refine lv_iload_n hx hb dX5_readsNumber_53 rfl (lv_at hl 2 rfl) ?_
        refine lv_imul hx hb dX5_readsNumber_54 ?_
        refine lv_aload_n hx hb dX5_readsNumber_55 rfl (lv_at hl 0 rfl) ?_
        refine get_M_text hx hb hts hinX5 hown hK hP (hts (.fieldLink RX5 25 "GrooveTurnsModel" "text" "[I") (by decide +kernel)) dX5_readsNumber_56 ?_
        refine lv_aload_n hx hb dX5_readsNumber_59 rfl (lv_at hl 0 rfl) ?_
        refine get_M_spot hx hb hts hinX5 hown hK hP (hts (.fieldLink RX5 148 "GrooveTurnsModel" "spot" "I") (by decide +kernel)) dX5_readsNumber_60 ?_
        refine ld_M_tx hx hb hK hP h_7 dX5_readsNumber_63 ?_
        refine lv_iadd hx hb dX5_readsNumber_64 ?_
        refine lv_bipush (v := 48) hx hb dX5_readsNumber_65 (by decide) ?_
        refine lv_isub hx hb dX5_readsNumber_67 ?_
        refine lv_iload_n hx hb dX5_readsNumber_68 rfl (lv_at hl 1 rfl) ?_
        refine lv_icmp_gt (tgt := 103) hx hb dX5_readsNumber_69 (by decide) (fun (c_8 : p1 < (((10 * v1_2) + ((m_tx τ1_0) (m_so τ1_0).toNatClampNeg)) - 48)) => ?_) (fun (c_8 : ¬ p1 < (((10 * v1_2) + ((m_tx τ1_0) (m_so τ1_0).toNatClampNeg)) - 48)) => ?_)
        · skip
          refine lv_aload_n hx hb dX5_readsNumber_103 rfl (lv_at hl 0 rfl) ?_
          refine lv_iload_n hx hb dX5_readsNumber_104 rfl (lv_at hl 2 rfl) ?_
          refine put_M_number hx hb hts hinX5 hown hK hP hD hS (hts (.fieldLink RX5 154 "GrooveTurnsModel" "number" "I") (by decide +kernel)) dX5_readsNumber_105 (fun H locs hP hD hS => ?_)
          have hP : va_P G.1 vwCl (mW G.2.1 α (m_nm' τ1_0 v1_2)) H := hP
          have hD : va_D (inW w0) (mW G.2.1 α (m_nm' τ1_0 v1_2)) := hD
          refine lv_iconst (v := 1) hx hb dX5_readsNumber_108 (by decide) ?_
          have E9 : (L1_X5_readsNumber σ p1 (n + 1) v1_2 τ1_0) = (1, (m_nm' τ1_0 v1_2)) := by rw [L1_X5_readsNumber]; rw [if_neg c_4, if_neg c_6, if_pos c_8]
          rw [pr1 E9, pr2 E9]
          exact W.zret (ty := .boolean) hx hb hr rfl (fun t ht hW => ⟨rfl, by rw [ht]; exact hP, hS.F ht⟩) hS.2.2 dX5_readsNumber_109
        · skip
          have hok := hok.2 c_8
          refine lv_bipush (v := 10) hx hb dX5_readsNumber_72 (by decide) ?_
          refine lv_iload_n hx hb dX5_readsNumber_74 rfl (lv_at hl 2 rfl) ?_
          refine lv_imul hx hb dX5_readsNumber_75 ?_
          refine lv_aload_n hx hb dX5_readsNumber_76 rfl (lv_at hl 0 rfl) ?_
          refine get_M_text hx hb hts hinX5 hown hK hP (hts (.fieldLink RX5 25 "GrooveTurnsModel" "text" "[I") (by decide +kernel)) dX5_readsNumber_77 ?_
          refine lv_aload_n hx hb dX5_readsNumber_80 rfl (lv_at hl 0 rfl) ?_
          refine get_M_spot hx hb hts hinX5 hown hK hP (hts (.fieldLink RX5 148 "GrooveTurnsModel" "spot" "I") (by decide +kernel)) dX5_readsNumber_81 ?_
          refine ld_M_tx hx hb hK hP h_7 dX5_readsNumber_84 ?_
          refine lv_iadd hx hb dX5_readsNumber_85 ?_
          refine lv_bipush (v := 48) hx hb dX5_readsNumber_86 (by decide) ?_
          refine lv_isub hx hb dX5_readsNumber_88 ?_
          refine lv_istore_n (lv' := [(2, .int (((10 * v1_2) + ((m_tx τ1_0) (m_so τ1_0).toNatClampNeg)) - 48)), (0, .ref (α 0)), (1, .int p1)]) hx hb dX5_readsNumber_89 rfl hl (by decide) rfl (fun ls hl => ?_)
          refine lv_aload_n hx hb dX5_readsNumber_90 rfl (lv_at hl 1 rfl) ?_
          refine lv_dup hx hb dX5_readsNumber_91 rfl ?_
          refine get_M_spot hx hb hts hinX5 hown hK hP (hts (.fieldLink RX5 148 "GrooveTurnsModel" "spot" "I") (by decide +kernel)) dX5_readsNumber_92 ?_
          refine lv_iconst (v := 1) hx hb dX5_readsNumber_95 (by decide) ?_
          refine lv_iadd hx hb dX5_readsNumber_96 ?_
          refine put_M_spot hx hb hts hinX5 hown hK hP hD hS (hts (.fieldLink RX5 148 "GrooveTurnsModel" "spot" "I") (by decide +kernel)) dX5_readsNumber_97 (fun H locs hP hD hS => ?_)
          have hP : va_P G.1 vwCl (mW G.2.1 α (m_so' τ1_0 ((m_so τ1_0) + 1))) H := hP
          have hD : va_D (inW w0) (mW G.2.1 α (m_so' τ1_0 ((m_so τ1_0) + 1))) := hD
          refine lv_goto (tgt := 36) hx hb dX5_readsNumber_100 (by decide) ?_
          rw [show (L1_X5_readsNumber σ p1 (n + 1) v1_2 τ1_0) = (L1_X5_readsNumber σ p1 n (((10 * v1_2) + ((m_tx τ1_0) (m_so τ1_0).toNatClampNeg)) - 48) (m_so' τ1_0 ((m_so τ1_0) + 1))) from by rw [L1_X5_readsNumber]; rw [if_neg c_4, if_neg c_6, if_neg c_8]]
          exact ih (((10 * v1_2) + ((m_tx τ1_0) (m_so τ1_0).toNatClampNeg)) - 48) (m_so' τ1_0 ((m_so τ1_0) + 1)) hok _ _ hP hD hS ls (lv_sub hl [1, 2, 0] rfl)
set_option maxHeartbeats 4000000 in
set_option maxRecDepth 100000 in
theorem c_X5_readsNumber (l : Launch) (G : GG) (α : Nat → Nat) (σ : MS) (p1 : Int32) (hok : ok_X5_readsNumber σ p1) : Wr G l yX5_readsNumber wsX5_readsNumber 2 47 [.ref (α 0), .int p1] (mW G.2.1 α σ) (some (.int (s_X5_readsNumber σ p1).1)) (mW G.2.1 α ((s_X5_readsNumber σ p1).2)) := by
  refine Met.ofW (cc := cX5_readsNumber) (maxL := 3) (ret := (some .boolean)) (by decide) rfl ?_
  intro p e s m args below meth c s₁ B hml hv
  obtain ⟨rfl, hP, hK, hD0⟩ := hv
  have C0 : cA p s m meth c ([.ref (α 0), .int p1] : List Value).toArray cX5_readsNumber 3 (some .boolean) wsX5_readsNumber RX5 := ⟨B.exec, B.bytes, B.returns, hml, findClass_of_methodNamed B.named, atoms_spec (ws := wsX5_readsNumber) B.pre, B.notSynchronized⟩
  obtain ⟨hx, hb, hr, hml, hown, hts, hlocks⟩ := id C0
  have hF : CallFix p m c cX5_readsNumber 3 s _ wsX5_readsNumber RX5 := ⟨hx, hb, hml, hown, hts⟩
  have hinX5 : ∀ w ∈ wsX50, w ∈ wsX5_readsNumber := by decide +kernel
  obtain ⟨w0, hw0⟩ : ∃ w0 : va_W, w0 = (mW G.2.1 α σ) := ⟨_, rfl⟩
  have hD : va_D (inW w0) (mW G.2.1 α σ) := by rw [hw0]; exact inW.D hD0
  have hS : va_S (inW w0) s.heap s.heap [] := va_S.rf
  rw [show QW G (mW G.2.1 α σ) = QW G w0 from by rw [hw0], show inW (mW G.2.1 α σ) = inW w0 from by rw [hw0]]
  have hl := lv_entry ([.ref (α 0), .int p1]) (n := 3) (Nat.le_of_ble_eq_true rfl)
  rw [lg_entry_eq]
  generalize (lg_sl ([.ref (α 0), .int p1]) ++ List.replicate (3 - (lg_sl ([.ref (α 0), .int p1])).length) Slot.unset).toArray = ls at hl ⊢
  have hl : lv_has ls 3 [(0, .ref (α 0)), (1, .int p1)] := hl
  have hok : (ok_X5_isHere σ 48 57) ∧ (((s_X5_isHere σ 48 57) = 0 → True) ∧ (¬ (s_X5_isHere σ 48 57) = 0 → ((vp_in (m_so σ) 60) ∧ (okL1_X5_readsNumber σ p1 FU (((m_tx σ) (m_so σ).toNatClampNeg) - 48) (m_so' σ ((m_so σ) + 1)))))) := hok
  obtain ⟨h_1, hok⟩ := hok
  refine lv_aload_n hx hb dX5_readsNumber_0 rfl (lv_at hl 0 rfl) ?_
  refine lv_bipush (v := 48) hx hb dX5_readsNumber_1 (by decide) ?_
  refine lv_bipush (v := 57) hx hb dX5_readsNumber_3 (by decide) ?_
  refine rdV (As := [.int 48, .int 57]) (rest := []) (c_X5_isHere l G α σ 48 57 h_1) hF (cwV 2 hts gX5_readsNumber_X5_isHere rfl rfl rfl (by decide +kernel) ⟨Nat.le_of_ble_eq_true rfl, Nat.le_of_ble_eq_true rfl⟩) (rcv_M hK hP) hK hP rfl hl.1 rfl (Nat.le_of_ble_eq_true rfl) dX5_readsNumber_5 ⟨Nat.zero_le _, Nat.zero_le _⟩ ?_
  refine lv_if_ne (tgt := 13) hx hb dX5_readsNumber_8 (by decide) (fun (c_2 : ¬ (s_X5_isHere σ 48 57) = 0) => ?_) (fun (c_2 : (s_X5_isHere σ 48 57) = 0) => ?_)
  · skip
    have hok := hok.2 c_2
    obtain ⟨h_3, hok⟩ := hok
    refine lv_aload_n hx hb dX5_readsNumber_13 rfl (lv_at hl 0 rfl) ?_
    refine get_M_text hx hb hts hinX5 hown hK hP (hts (.fieldLink RX5 25 "GrooveTurnsModel" "text" "[I") (by decide +kernel)) dX5_readsNumber_14 ?_
    refine lv_aload_n hx hb dX5_readsNumber_17 rfl (lv_at hl 0 rfl) ?_
    refine get_M_spot hx hb hts hinX5 hown hK hP (hts (.fieldLink RX5 148 "GrooveTurnsModel" "spot" "I") (by decide +kernel)) dX5_readsNumber_18 ?_
    refine ld_M_tx hx hb hK hP h_3 dX5_readsNumber_21 ?_
    refine lv_bipush (v := 48) hx hb dX5_readsNumber_22 (by decide) ?_
    refine lv_isub hx hb dX5_readsNumber_24 ?_
    refine lv_istore_n (lv' := [(2, .int (((m_tx σ) (m_so σ).toNatClampNeg) - 48)), (0, .ref (α 0)), (1, .int p1)]) hx hb dX5_readsNumber_25 rfl hl (by decide) rfl (fun ls hl => ?_)
    refine lv_aload_n hx hb dX5_readsNumber_26 rfl (lv_at hl 1 rfl) ?_
    refine lv_dup hx hb dX5_readsNumber_27 rfl ?_
    refine get_M_spot hx hb hts hinX5 hown hK hP (hts (.fieldLink RX5 148 "GrooveTurnsModel" "spot" "I") (by decide +kernel)) dX5_readsNumber_28 ?_
    refine lv_iconst (v := 1) hx hb dX5_readsNumber_31 (by decide) ?_
    refine lv_iadd hx hb dX5_readsNumber_32 ?_
    refine put_M_spot hx hb hts hinX5 hown hK hP hD hS (hts (.fieldLink RX5 148 "GrooveTurnsModel" "spot" "I") (by decide +kernel)) dX5_readsNumber_33 (fun H locs hP hD hS => ?_)
    have hP : va_P G.1 vwCl (mW G.2.1 α (m_so' σ ((m_so σ) + 1))) H := hP
    have hD : va_D (inW w0) (mW G.2.1 α (m_so' σ ((m_so σ) + 1))) := hD
    rw [show s_X5_readsNumber σ p1 = (L1_X5_readsNumber σ p1 FU (((m_tx σ) (m_so σ).toNatClampNeg) - 48) (m_so' σ ((m_so σ) + 1))) from by rw [s_X5_readsNumber]; rw [if_neg c_2]]
    exact wL1_X5_readsNumber l G α σ p1 C0 hK FU (((m_tx σ) (m_so σ).toNatClampNeg) - 48) (m_so' σ ((m_so σ) + 1)) hok _ _ hP hD hS ls (lv_sub hl [1, 2, 0] rfl)
  · skip
    refine lv_iconst (v := 0) hx hb dX5_readsNumber_11 (by decide) ?_
    have E9 : s_X5_readsNumber σ p1 = (0, σ) := by rw [s_X5_readsNumber]; rw [if_pos c_2]
    rw [pr1 E9, pr2 E9]
    exact W.zret (ty := .boolean) hx hb hr rfl (fun t ht hW => ⟨rfl, by rw [ht]; exact hP, hS.F ht⟩) hS.2.2 dX5_readsNumber_12
def t1_X5_readsRequest (σ : MS) : MS := (m_as' ((s_X5_readsNumber ((s_X5_takesOne σ 119).2) 191).2) (upd (m_as ((s_X5_readsNumber ((s_X5_takesOne σ 119).2) 191).2)) (m_rq ((s_X5_readsNumber ((s_X5_takesOne σ 119).2) 191).2)).toNatClampNeg (m_nm ((s_X5_readsNumber ((s_X5_takesOne σ 119).2) 191).2))))
def t2_X5_readsRequest (σ : MS) : MS := (m_nu' (t1_X5_readsRequest σ) (upd (m_nu (t1_X5_readsRequest σ)) (m_rq (t1_X5_readsRequest σ)).toNatClampNeg (-1)))
def t3_X5_readsRequest (σ : MS) : MS := (m_nu' (t2_X5_readsRequest σ) (upd (m_nu (t2_X5_readsRequest σ)) (m_rq (t2_X5_readsRequest σ)).toNatClampNeg (-1)))
def t4_X5_readsRequest (σ : MS) : MS := (m_rq' (t3_X5_readsRequest σ) ((m_rq (t3_X5_readsRequest σ)) + 1))
def t5_X5_readsRequest (σ : MS) : MS := ((s_X5_readsNumber ((s_X5_takesOne (t2_X5_readsRequest σ) 61).2) 255).2)
def t6_X5_readsRequest (σ : MS) : MS := (m_nu' (t5_X5_readsRequest σ) (upd (m_nu (t5_X5_readsRequest σ)) (m_rq (t5_X5_readsRequest σ)).toNatClampNeg (m_nm (t5_X5_readsRequest σ))))
def t7_X5_readsRequest (σ : MS) : MS := (m_rq' (t6_X5_readsRequest σ) ((m_rq (t6_X5_readsRequest σ)) + 1))
def t8_X5_readsRequest (σ : MS) : MS := ((s_X5_readsNumber ((s_X5_takesOne ((s_X5_takesOne σ 119).2) 114).2) 191).2)
def t9_X5_readsRequest (σ : MS) : MS := (m_as' (t8_X5_readsRequest σ) (upd (m_as (t8_X5_readsRequest σ)) (m_rq (t8_X5_readsRequest σ)).toNatClampNeg (m_nm (t8_X5_readsRequest σ))))
def t10_X5_readsRequest (σ : MS) : MS := (m_nu' (t9_X5_readsRequest σ) (upd (m_nu (t9_X5_readsRequest σ)) (m_rq (t9_X5_readsRequest σ)).toNatClampNeg (-1)))
def t11_X5_readsRequest (σ : MS) : MS := (m_nu' (t10_X5_readsRequest σ) (upd (m_nu (t10_X5_readsRequest σ)) (m_rq (t10_X5_readsRequest σ)).toNatClampNeg (-1)))
def t12_X5_readsRequest (σ : MS) : MS := (m_rq' (t11_X5_readsRequest σ) ((m_rq (t11_X5_readsRequest σ)) + 1))
def t13_X5_readsRequest (σ : MS) : MS := ((s_X5_readsNumber ((s_X5_takesOne (t10_X5_readsRequest σ) 61).2) 255).2)
def t14_X5_readsRequest (σ : MS) : MS := (m_nu' (t13_X5_readsRequest σ) (upd (m_nu (t13_X5_readsRequest σ)) (m_rq (t13_X5_readsRequest σ)).toNatClampNeg (m_nm (t13_X5_readsRequest σ))))
def t15_X5_readsRequest (σ : MS) : MS := (m_rq' (t14_X5_readsRequest σ) ((m_rq (t14_X5_readsRequest σ)) + 1))
def s_X5_readsRequest (σ : MS) : Int32 × MS := (if ((s_X5_takesOne σ 119).1) = 0 then (if ((s_X5_takesOne ((s_X5_takesOne σ 119).2) 114).1) = 0 then (0, ((s_X5_takesOne ((s_X5_takesOne σ 119).2) 114).2)) else (if ((s_X5_readsNumber ((s_X5_takesOne ((s_X5_takesOne σ 119).2) 114).2) 191).1) = 0 then (0, (t8_X5_readsRequest σ)) else (if (s_X5_isHere σ 119 119) = 0 then (1, (t12_X5_readsRequest σ)) else (if ((s_X5_takesOne (t10_X5_readsRequest σ) 61).1) = 0 then (0, ((s_X5_takesOne (t10_X5_readsRequest σ) 61).2)) else (if ((s_X5_readsNumber ((s_X5_takesOne (t10_X5_readsRequest σ) 61).2) 255).1) = 0 then (0, (t13_X5_readsRequest σ)) else (1, (t15_X5_readsRequest σ))))))) else (if ((s_X5_readsNumber ((s_X5_takesOne σ 119).2) 191).1) = 0 then (0, ((s_X5_readsNumber ((s_X5_takesOne σ 119).2) 191).2)) else (if (s_X5_isHere σ 119 119) = 0 then (1, (t4_X5_readsRequest σ)) else (if ((s_X5_takesOne (t2_X5_readsRequest σ) 61).1) = 0 then (0, ((s_X5_takesOne (t2_X5_readsRequest σ) 61).2)) else (if ((s_X5_readsNumber ((s_X5_takesOne (t2_X5_readsRequest σ) 61).2) 255).1) = 0 then (0, (t5_X5_readsRequest σ)) else (1, (t7_X5_readsRequest σ)))))))
def ok_X5_readsRequest (σ : MS) : Prop := (ok_X5_isHere σ 119 119) ∧ ((ok_X5_takesOne σ 119) ∧ ((((s_X5_takesOne σ 119).1) = 0 → ((ok_X5_takesOne ((s_X5_takesOne σ 119).2) 114) ∧ ((((s_X5_takesOne ((s_X5_takesOne σ 119).2) 114).1) = 0 → True) ∧ (¬ ((s_X5_takesOne ((s_X5_takesOne σ 119).2) 114).1) = 0 → ((ok_X5_readsNumber ((s_X5_takesOne ((s_X5_takesOne σ 119).2) 114).2) 191) ∧ ((((s_X5_readsNumber ((s_X5_takesOne ((s_X5_takesOne σ 119).2) 114).2) 191).1) = 0 → True) ∧ (¬ ((s_X5_readsNumber ((s_X5_takesOne ((s_X5_takesOne σ 119).2) 114).2) 191).1) = 0 → ((vp_in (m_rq (t8_X5_readsRequest σ)) 30) ∧ ((vp_in (m_rq (t9_X5_readsRequest σ)) 30) ∧ (((s_X5_isHere σ 119 119) = 0 → (vp_in (m_rq (t10_X5_readsRequest σ)) 30)) ∧ (¬ (s_X5_isHere σ 119 119) = 0 → ((ok_X5_takesOne (t10_X5_readsRequest σ) 61) ∧ ((((s_X5_takesOne (t10_X5_readsRequest σ) 61).1) = 0 → True) ∧ (¬ ((s_X5_takesOne (t10_X5_readsRequest σ) 61).1) = 0 → ((ok_X5_readsNumber ((s_X5_takesOne (t10_X5_readsRequest σ) 61).2) 255) ∧ ((((s_X5_readsNumber ((s_X5_takesOne (t10_X5_readsRequest σ) 61).2) 255).1) = 0 → True) ∧ (¬ ((s_X5_readsNumber ((s_X5_takesOne (t10_X5_readsRequest σ) 61).2) 255).1) = 0 → (vp_in (m_rq (t13_X5_readsRequest σ)) 30)))))))))))))))))) ∧ (¬ ((s_X5_takesOne σ 119).1) = 0 → ((ok_X5_readsNumber ((s_X5_takesOne σ 119).2) 191) ∧ ((((s_X5_readsNumber ((s_X5_takesOne σ 119).2) 191).1) = 0 → True) ∧ (¬ ((s_X5_readsNumber ((s_X5_takesOne σ 119).2) 191).1) = 0 → ((vp_in (m_rq ((s_X5_readsNumber ((s_X5_takesOne σ 119).2) 191).2)) 30) ∧ ((vp_in (m_rq (t1_X5_readsRequest σ)) 30) ∧ (((s_X5_isHere σ 119 119) = 0 → (vp_in (m_rq (t2_X5_readsRequest σ)) 30)) ∧ (¬ (s_X5_isHere σ 119 119) = 0 → ((ok_X5_takesOne (t2_X5_readsRequest σ) 61) ∧ ((((s_X5_takesOne (t2_X5_readsRequest σ) 61).1) = 0 → True) ∧ (¬ ((s_X5_takesOne (t2_X5_readsRequest σ) 61).1) = 0 → ((ok_X5_readsNumber ((s_X5_takesOne (t2_X5_readsRequest σ) 61).2) 255) ∧ ((((s_X5_readsNumber ((s_X5_takesOne (t2_X5_readsRequest σ) 61).2) 255).1) = 0 → True) ∧ (¬ ((s_X5_readsNumber ((s_X5_takesOne (t2_X5_readsRequest σ) 61).2) 255).1) = 0 → (vp_in (m_rq (t5_X5_readsRequest σ)) 30)))))))))))))))))
theorem b_X5_readsRequest (σ : MS) : (s_X5_readsRequest σ).1 = 0 ∨ (s_X5_readsRequest σ).1 = 1 := by
  unfold s_X5_readsRequest
  by_cases c_3 : ((s_X5_takesOne σ 119).1) = 0
  · skip
    by_cases c_18 : ((s_X5_takesOne ((s_X5_takesOne σ 119).2) 114).1) = 0
    · skip
      rw [if_pos c_3, if_pos c_18]
      exact Or.inl rfl
    · skip
      by_cases c_20 : ((s_X5_readsNumber ((s_X5_takesOne ((s_X5_takesOne σ 119).2) 114).2) 191).1) = 0
      · skip
        rw [if_pos c_3, if_neg c_18, if_pos c_20]
        exact Or.inl rfl
      · skip
        by_cases c_23 : (s_X5_isHere σ 119 119) = 0
        · skip
          rw [if_pos c_3, if_neg c_18, if_neg c_20, if_pos c_23]
          exact Or.inr rfl
        · skip
          by_cases c_27 : ((s_X5_takesOne (t10_X5_readsRequest σ) 61).1) = 0
          · skip
            rw [if_pos c_3, if_neg c_18, if_neg c_20, if_neg c_23, if_pos c_27]
            exact Or.inl rfl
          · skip
            by_cases c_29 : ((s_X5_readsNumber ((s_X5_takesOne (t10_X5_readsRequest σ) 61).2) 255).1) = 0
            · skip
              rw [if_pos c_3, if_neg c_18, if_neg c_20, if_neg c_23, if_neg c_27, if_pos c_29]
              exact Or.inl rfl
            · skip
              rw [if_pos c_3, if_neg c_18, if_neg c_20, if_neg c_23, if_neg c_27, if_neg c_29]
              exact Or.inr rfl
  · skip
    by_cases c_5 : ((s_X5_readsNumber ((s_X5_takesOne σ 119).2) 191).1) = 0
    · skip
      rw [if_neg c_3, if_pos c_5]
      exact Or.inl rfl
    · skip
      by_cases c_8 : (s_X5_isHere σ 119 119) = 0
      · skip
        rw [if_neg c_3, if_neg c_5, if_pos c_8]
        exact Or.inr rfl
      · skip
        by_cases c_12 : ((s_X5_takesOne (t2_X5_readsRequest σ) 61).1) = 0
        · skip
          rw [if_neg c_3, if_neg c_5, if_neg c_8, if_pos c_12]
          exact Or.inl rfl
        · skip
          by_cases c_14 : ((s_X5_readsNumber ((s_X5_takesOne (t2_X5_readsRequest σ) 61).2) 255).1) = 0
          · skip
            rw [if_neg c_3, if_neg c_5, if_neg c_8, if_neg c_12, if_pos c_14]
            exact Or.inl rfl
          · skip
            rw [if_neg c_3, if_neg c_5, if_neg c_8, if_neg c_12, if_neg c_14]
            exact Or.inr rfl
set_option maxHeartbeats 4000000 in
set_option maxRecDepth 100000 in
theorem c_X5_readsRequest (l : Launch) (G : GG) (α : Nat → Nat) (σ : MS) (hok : ok_X5_readsRequest σ) : Wr G l yX5_readsRequest wsX5_readsRequest 3 69 [.ref (α 0)] (mW G.2.1 α σ) (some (.int (s_X5_readsRequest σ).1)) (mW G.2.1 α ((s_X5_readsRequest σ).2)) := by
  refine Met.ofW (cc := cX5_readsRequest) (maxL := 2) (ret := (some .boolean)) (by decide) rfl ?_
  intro p e s m args below meth c s₁ B hml hv
  obtain ⟨rfl, hP, hK, hD0⟩ := hv
  have C0 : cA p s m meth c ([.ref (α 0)] : List Value).toArray cX5_readsRequest 2 (some .boolean) wsX5_readsRequest RX5 := ⟨B.exec, B.bytes, B.returns, hml, findClass_of_methodNamed B.named, atoms_spec (ws := wsX5_readsRequest) B.pre, B.notSynchronized⟩
  obtain ⟨hx, hb, hr, hml, hown, hts, hlocks⟩ := id C0
  have hF : CallFix p m c cX5_readsRequest 2 s _ wsX5_readsRequest RX5 := ⟨hx, hb, hml, hown, hts⟩
  have hinX5 : ∀ w ∈ wsX50, w ∈ wsX5_readsRequest := by decide +kernel
  obtain ⟨w0, hw0⟩ : ∃ w0 : va_W, w0 = (mW G.2.1 α σ) := ⟨_, rfl⟩
  have hD : va_D (inW w0) (mW G.2.1 α σ) := by rw [hw0]; exact inW.D hD0
  have hS : va_S (inW w0) s.heap s.heap [] := va_S.rf
  rw [show QW G (mW G.2.1 α σ) = QW G w0 from by rw [hw0], show inW (mW G.2.1 α σ) = inW w0 from by rw [hw0]]
  have hl := lv_entry ([.ref (α 0)]) (n := 2) (Nat.le_of_ble_eq_true rfl)
  rw [lg_entry_eq]
  generalize (lg_sl ([.ref (α 0)]) ++ List.replicate (2 - (lg_sl ([.ref (α 0)])).length) Slot.unset).toArray = ls at hl ⊢
  have hl : lv_has ls 2 [(0, .ref (α 0))] := hl
  have hok : (ok_X5_isHere σ 119 119) ∧ ((ok_X5_takesOne σ 119) ∧ ((((s_X5_takesOne σ 119).1) = 0 → ((ok_X5_takesOne ((s_X5_takesOne σ 119).2) 114) ∧ ((((s_X5_takesOne ((s_X5_takesOne σ 119).2) 114).1) = 0 → True) ∧ (¬ ((s_X5_takesOne ((s_X5_takesOne σ 119).2) 114).1) = 0 → ((ok_X5_readsNumber ((s_X5_takesOne ((s_X5_takesOne σ 119).2) 114).2) 191) ∧ ((((s_X5_readsNumber ((s_X5_takesOne ((s_X5_takesOne σ 119).2) 114).2) 191).1) = 0 → True) ∧ (¬ ((s_X5_readsNumber ((s_X5_takesOne ((s_X5_takesOne σ 119).2) 114).2) 191).1) = 0 → ((vp_in (m_rq (t8_X5_readsRequest σ)) 30) ∧ ((vp_in (m_rq (t9_X5_readsRequest σ)) 30) ∧ (((s_X5_isHere σ 119 119) = 0 → (vp_in (m_rq (t10_X5_readsRequest σ)) 30)) ∧ (¬ (s_X5_isHere σ 119 119) = 0 → ((ok_X5_takesOne (t10_X5_readsRequest σ) 61) ∧ ((((s_X5_takesOne (t10_X5_readsRequest σ) 61).1) = 0 → True) ∧ (¬ ((s_X5_takesOne (t10_X5_readsRequest σ) 61).1) = 0 → ((ok_X5_readsNumber ((s_X5_takesOne (t10_X5_readsRequest σ) 61).2) 255) ∧ ((((s_X5_readsNumber ((s_X5_takesOne (t10_X5_readsRequest σ) 61).2) 255).1) = 0 → True) ∧ (¬ ((s_X5_readsNumber ((s_X5_takesOne (t10_X5_readsRequest σ) 61).2) 255).1) = 0 → (vp_in (m_rq (t13_X5_readsRequest σ)) 30)))))))))))))))))) ∧ (¬ ((s_X5_takesOne σ 119).1) = 0 → ((ok_X5_readsNumber ((s_X5_takesOne σ 119).2) 191) ∧ ((((s_X5_readsNumber ((s_X5_takesOne σ 119).2) 191).1) = 0 → True) ∧ (¬ ((s_X5_readsNumber ((s_X5_takesOne σ 119).2) 191).1) = 0 → ((vp_in (m_rq ((s_X5_readsNumber ((s_X5_takesOne σ 119).2) 191).2)) 30) ∧ ((vp_in (m_rq (t1_X5_readsRequest σ)) 30) ∧ (((s_X5_isHere σ 119 119) = 0 → (vp_in (m_rq (t2_X5_readsRequest σ)) 30)) ∧ (¬ (s_X5_isHere σ 119 119) = 0 → ((ok_X5_takesOne (t2_X5_readsRequest σ) 61) ∧ ((((s_X5_takesOne (t2_X5_readsRequest σ) 61).1) = 0 → True) ∧ (¬ ((s_X5_takesOne (t2_X5_readsRequest σ) 61).1) = 0 → ((ok_X5_readsNumber ((s_X5_takesOne (t2_X5_readsRequest σ) 61).2) 255) ∧ ((((s_X5_readsNumber ((s_X5_takesOne (t2_X5_readsRequest σ) 61).2) 255).1) = 0 → True) ∧ (¬ ((s_X5_readsNumber ((s_X5_takesOne (t2_X5_readsRequest σ) 61).2) 255).1) = 0 → (vp_in (m_rq (t5_X5_readsRequest σ)) 30))))))))))))))))) := hok
  obtain ⟨h_1, hok⟩ := hok
  refine lv_aload_n hx hb dX5_readsRequest_0 rfl (lv_at hl 0 rfl) ?_
  refine lv_bipush (v := 119) hx hb dX5_readsRequest_1 (by decide) ?_
  refine lv_bipush (v := 119) hx hb dX5_readsRequest_3 (by decide) ?_
  refine rdV (As := [.int 119, .int 119]) (rest := []) (c_X5_isHere l G α σ 119 119 h_1) hF (cwV 2 hts gX5_readsRequest_X5_isHere rfl rfl rfl (by decide +kernel) ⟨Nat.le_of_ble_eq_true rfl, Nat.le_of_ble_eq_true rfl⟩) (rcv_M hK hP) hK hP rfl hl.1 rfl (Nat.le_of_ble_eq_true rfl) dX5_readsRequest_5 ⟨Nat.zero_le _, Nat.zero_le _⟩ ?_
  obtain ⟨h_2, hok⟩ := hok
  refine lv_istore_n (lv' := [(1, .int (s_X5_isHere σ 119 119)), (0, .ref (α 0))]) hx hb dX5_readsRequest_8 rfl hl (by decide) rfl (fun ls hl => ?_)
  refine lv_aload_n hx hb dX5_readsRequest_9 rfl (lv_at hl 1 rfl) ?_
  refine lv_bipush (v := 119) hx hb dX5_readsRequest_10 (by decide) ?_
  refine wrV0 (As := [.int 119]) (rest := []) (c_X5_takesOne l G α σ 119 h_2) hF (cwV 1 hts gX5_readsRequest_X5_takesOne rfl rfl rfl (by decide +kernel) ⟨Nat.le_of_ble_eq_true rfl, Nat.le_of_ble_eq_true rfl⟩) (rcv_M hK hP) hK hP hD hS (fst_M _ _) rfl hl.1 rfl (Nat.le_of_ble_eq_true rfl) dX5_readsRequest_12 ⟨Nat.zero_le _, Nat.zero_le _⟩ (fun H locs hP hD hS => ?_)
  have hP : va_P G.1 vwCl (mW G.2.1 α ((s_X5_takesOne σ 119).2)) H := hP
  have hD : va_D (inW w0) (mW G.2.1 α ((s_X5_takesOne σ 119).2)) := hD
  refine lv_if_ne (tgt := 27) hx hb dX5_readsRequest_15 (by decide) (fun (c_3 : ¬ ((s_X5_takesOne σ 119).1) = 0) => ?_) (fun (c_3 : ((s_X5_takesOne σ 119).1) = 0) => ?_)
  · skip
    have hok := hok.2 c_3
    obtain ⟨h_4, hok⟩ := hok
    refine lv_aload_n hx hb dX5_readsRequest_27 rfl (lv_at hl 1 rfl) ?_
    refine lv_sipush (v := 191) hx hb dX5_readsRequest_28 (by decide) ?_
    refine wrV0 (As := [.int 191]) (rest := []) (c_X5_readsNumber l G α ((s_X5_takesOne σ 119).2) 191 h_4) hF (cwV 1 hts gX5_readsRequest_X5_readsNumber rfl rfl rfl (by decide +kernel) ⟨Nat.le_of_ble_eq_true rfl, Nat.le_of_ble_eq_true rfl⟩) (rcv_M hK hP) hK hP hD hS (fst_M _ _) rfl hl.1 rfl (Nat.le_of_ble_eq_true rfl) dX5_readsRequest_31 ⟨Nat.zero_le _, Nat.zero_le _⟩ (fun H locs hP hD hS => ?_)
    have hP : va_P G.1 vwCl (mW G.2.1 α ((s_X5_readsNumber ((s_X5_takesOne σ 119).2) 191).2)) H := hP
    have hD : va_D (inW w0) (mW G.2.1 α ((s_X5_readsNumber ((s_X5_takesOne σ 119).2) 191).2)) := hD
    refine lv_if_ne (tgt := 39) hx hb dX5_readsRequest_34 (by decide) (fun (c_5 : ¬ ((s_X5_readsNumber ((s_X5_takesOne σ 119).2) 191).1) = 0) => ?_) (fun (c_5 : ((s_X5_readsNumber ((s_X5_takesOne σ 119).2) 191).1) = 0) => ?_)
    · skip
      have hok := hok.2 c_5
      obtain ⟨h_6, hok⟩ := hok
      refine lv_aload_n hx hb dX5_readsRequest_39 rfl (lv_at hl 1 rfl) ?_
      refine get_M_asked hx hb hts hinX5 hown hK hP (hts (.fieldLink RX5 28 "GrooveTurnsModel" "asked" "[I") (by decide +kernel)) dX5_readsRequest_40 ?_
      refine lv_aload_n hx hb dX5_readsRequest_43 rfl (lv_at hl 1 rfl) ?_
      refine get_M_requests hx hb hts hinX5 hown hK hP (hts (.fieldLink RX5 163 "GrooveTurnsModel" "requests" "I") (by decide +kernel)) dX5_readsRequest_44 ?_
      refine lv_aload_n hx hb dX5_readsRequest_47 rfl (lv_at hl 1 rfl) ?_
      refine get_M_number hx hb hts hinX5 hown hK hP (hts (.fieldLink RX5 154 "GrooveTurnsModel" "number" "I") (by decide +kernel)) dX5_readsRequest_48 ?_
      refine st_M_as hx hb hK hP hD hS h_6 dX5_readsRequest_51 (fun H locs hP hD hS => ?_)
      have hP : va_P G.1 vwCl (mW G.2.1 α (t1_X5_readsRequest σ)) H := hP
      have hD : va_D (inW w0) (mW G.2.1 α (t1_X5_readsRequest σ)) := hD
      obtain ⟨h_7, hok⟩ := hok
      refine lv_aload_n hx hb dX5_readsRequest_52 rfl (lv_at hl 1 rfl) ?_
      refine get_M_numbers hx hb hts hinX5 hown hK hP (hts (.fieldLink RX5 31 "GrooveTurnsModel" "numbers" "[I") (by decide +kernel)) dX5_readsRequest_53 ?_
      refine lv_aload_n hx hb dX5_readsRequest_56 rfl (lv_at hl 1 rfl) ?_
      refine get_M_requests hx hb hts hinX5 hown hK hP (hts (.fieldLink RX5 163 "GrooveTurnsModel" "requests" "I") (by decide +kernel)) dX5_readsRequest_57 ?_
      refine lv_iconst (v := (-1)) hx hb dX5_readsRequest_60 (by decide) ?_
      refine st_M_nu hx hb hK hP hD hS h_7 dX5_readsRequest_61 (fun H locs hP hD hS => ?_)
      have hP : va_P G.1 vwCl (mW G.2.1 α (t2_X5_readsRequest σ)) H := hP
      have hD : va_D (inW w0) (mW G.2.1 α (t2_X5_readsRequest σ)) := hD
      refine lv_iload_n hx hb dX5_readsRequest_62 rfl (lv_at hl 0 rfl) ?_
      refine lv_if_eq (tgt := 87) hx hb dX5_readsRequest_63 (by decide) (fun (c_8 : (s_X5_isHere σ 119 119) = 0) => ?_) (fun (c_8 : ¬ (s_X5_isHere σ 119 119) = 0) => ?_)
      · skip
        have hok := hok.1 c_8
        refine lv_aload_n hx hb dX5_readsRequest_87 rfl (lv_at hl 1 rfl) ?_
        refine get_M_numbers hx hb hts hinX5 hown hK hP (hts (.fieldLink RX5 31 "GrooveTurnsModel" "numbers" "[I") (by decide +kernel)) dX5_readsRequest_88 ?_
        refine lv_aload_n hx hb dX5_readsRequest_91 rfl (lv_at hl 1 rfl) ?_
        refine get_M_requests hx hb hts hinX5 hown hK hP (hts (.fieldLink RX5 163 "GrooveTurnsModel" "requests" "I") (by decide +kernel)) dX5_readsRequest_92 ?_
        refine lv_iload_n hx hb dX5_readsRequest_95 rfl (lv_at hl 0 rfl) ?_
        refine lv_if_eq (tgt := 106) hx hb dX5_readsRequest_96 (by decide) (fun (c_9 : (s_X5_isHere σ 119 119) = 0) => ?_) (fun (c_9 : ¬ (s_X5_isHere σ 119 119) = 0) => ?_)
        · skip
          have h_10 := hok
          refine lv_iconst (v := (-1)) hx hb dX5_readsRequest_106 (by decide) ?_
          refine st_M_nu hx hb hK hP hD hS h_10 dX5_readsRequest_107 (fun H locs hP hD hS => ?_)
          have hP : va_P G.1 vwCl (mW G.2.1 α (t3_X5_readsRequest σ)) H := hP
          have hD : va_D (inW w0) (mW G.2.1 α (t3_X5_readsRequest σ)) := hD
          refine lv_aload_n hx hb dX5_readsRequest_108 rfl (lv_at hl 1 rfl) ?_
          refine lv_dup hx hb dX5_readsRequest_109 rfl ?_
          refine get_M_requests hx hb hts hinX5 hown hK hP (hts (.fieldLink RX5 163 "GrooveTurnsModel" "requests" "I") (by decide +kernel)) dX5_readsRequest_110 ?_
          refine lv_iconst (v := 1) hx hb dX5_readsRequest_113 (by decide) ?_
          refine lv_iadd hx hb dX5_readsRequest_114 ?_
          refine put_M_requests hx hb hts hinX5 hown hK hP hD hS (hts (.fieldLink RX5 163 "GrooveTurnsModel" "requests" "I") (by decide +kernel)) dX5_readsRequest_115 (fun H locs hP hD hS => ?_)
          have hP : va_P G.1 vwCl (mW G.2.1 α (t4_X5_readsRequest σ)) H := hP
          have hD : va_D (inW w0) (mW G.2.1 α (t4_X5_readsRequest σ)) := hD
          refine lv_iconst (v := 1) hx hb dX5_readsRequest_118 (by decide) ?_
          have E9 : s_X5_readsRequest σ = (1, (t4_X5_readsRequest σ)) := by rw [s_X5_readsRequest]; rw [if_neg c_3, if_neg c_5, if_pos c_8]
          rw [pr1 E9, pr2 E9]
          exact W.zret (ty := .boolean) hx hb hr rfl (fun t ht hW => ⟨rfl, by rw [ht]; exact hP, hS.F ht⟩) hS.2.2 dX5_readsRequest_119
        · skip
          exact absurd c_8 c_9
      · skip
        have hok := hok.2 c_8
        obtain ⟨h_11, hok⟩ := hok
        refine lv_aload_n hx hb dX5_readsRequest_66 rfl (lv_at hl 1 rfl) ?_
        refine lv_bipush (v := 61) hx hb dX5_readsRequest_67 (by decide) ?_
        refine wrV0 (As := [.int 61]) (rest := []) (c_X5_takesOne l G α (t2_X5_readsRequest σ) 61 h_11) hF (cwV 1 hts gX5_readsRequest_X5_takesOne rfl rfl rfl (by decide +kernel) ⟨Nat.le_of_ble_eq_true rfl, Nat.le_of_ble_eq_true rfl⟩) (rcv_M hK hP) hK hP hD hS (fst_M _ _) rfl hl.1 rfl (Nat.le_of_ble_eq_true rfl) dX5_readsRequest_69 ⟨Nat.zero_le _, Nat.zero_le _⟩ (fun H locs hP hD hS => ?_)
        have hP : va_P G.1 vwCl (mW G.2.1 α ((s_X5_takesOne (t2_X5_readsRequest σ) 61).2)) H := hP
        have hD : va_D (inW w0) (mW G.2.1 α ((s_X5_takesOne (t2_X5_readsRequest σ) 61).2)) := hD
        refine lv_if_eq (tgt := 85) hx hb dX5_readsRequest_72 (by decide) (fun (c_12 : ((s_X5_takesOne (t2_X5_readsRequest σ) 61).1) = 0) => ?_) (fun (c_12 : ¬ ((s_X5_takesOne (t2_X5_readsRequest σ) 61).1) = 0) => ?_)
        · skip
          refine lv_iconst (v := 0) hx hb dX5_readsRequest_85 (by decide) ?_
          have E9 : s_X5_readsRequest σ = (0, ((s_X5_takesOne (t2_X5_readsRequest σ) 61).2)) := by rw [s_X5_readsRequest]; rw [if_neg c_3, if_neg c_5, if_neg c_8, if_pos c_12]
          rw [pr1 E9, pr2 E9]
          exact W.zret (ty := .boolean) hx hb hr rfl (fun t ht hW => ⟨rfl, by rw [ht]; exact hP, hS.F ht⟩) hS.2.2 dX5_readsRequest_86
        · skip
          have hok := hok.2 c_12
          obtain ⟨h_13, hok⟩ := hok
          refine lv_aload_n hx hb dX5_readsRequest_75 rfl (lv_at hl 1 rfl) ?_
          refine lv_sipush (v := 255) hx hb dX5_readsRequest_76 (by decide) ?_
          refine wrV0 (As := [.int 255]) (rest := []) (c_X5_readsNumber l G α ((s_X5_takesOne (t2_X5_readsRequest σ) 61).2) 255 h_13) hF (cwV 1 hts gX5_readsRequest_X5_readsNumber rfl rfl rfl (by decide +kernel) ⟨Nat.le_of_ble_eq_true rfl, Nat.le_of_ble_eq_true rfl⟩) (rcv_M hK hP) hK hP hD hS (fst_M _ _) rfl hl.1 rfl (Nat.le_of_ble_eq_true rfl) dX5_readsRequest_79 ⟨Nat.zero_le _, Nat.zero_le _⟩ (fun H locs hP hD hS => ?_)
          have hP : va_P G.1 vwCl (mW G.2.1 α (t5_X5_readsRequest σ)) H := hP
          have hD : va_D (inW w0) (mW G.2.1 α (t5_X5_readsRequest σ)) := hD
          refine lv_if_ne (tgt := 87) hx hb dX5_readsRequest_82 (by decide) (fun (c_14 : ¬ ((s_X5_readsNumber ((s_X5_takesOne (t2_X5_readsRequest σ) 61).2) 255).1) = 0) => ?_) (fun (c_14 : ((s_X5_readsNumber ((s_X5_takesOne (t2_X5_readsRequest σ) 61).2) 255).1) = 0) => ?_)
          · skip
            have hok := hok.2 c_14
            refine lv_aload_n hx hb dX5_readsRequest_87 rfl (lv_at hl 1 rfl) ?_
            refine get_M_numbers hx hb hts hinX5 hown hK hP (hts (.fieldLink RX5 31 "GrooveTurnsModel" "numbers" "[I") (by decide +kernel)) dX5_readsRequest_88 ?_
            refine lv_aload_n hx hb dX5_readsRequest_91 rfl (lv_at hl 1 rfl) ?_
            refine get_M_requests hx hb hts hinX5 hown hK hP (hts (.fieldLink RX5 163 "GrooveTurnsModel" "requests" "I") (by decide +kernel)) dX5_readsRequest_92 ?_
            refine lv_iload_n hx hb dX5_readsRequest_95 rfl (lv_at hl 0 rfl) ?_
            refine lv_if_eq (tgt := 106) hx hb dX5_readsRequest_96 (by decide) (fun (c_15 : (s_X5_isHere σ 119 119) = 0) => ?_) (fun (c_15 : ¬ (s_X5_isHere σ 119 119) = 0) => ?_)
            · skip
              exact absurd c_15 c_8
            · skip
              have h_16 := hok
              refine lv_aload_n hx hb dX5_readsRequest_99 rfl (lv_at hl 1 rfl) ?_
              refine get_M_number hx hb hts hinX5 hown hK hP (hts (.fieldLink RX5 154 "GrooveTurnsModel" "number" "I") (by decide +kernel)) dX5_readsRequest_100 ?_
              refine lv_goto (tgt := 107) hx hb dX5_readsRequest_103 (by decide) ?_
              refine st_M_nu hx hb hK hP hD hS h_16 dX5_readsRequest_107 (fun H locs hP hD hS => ?_)
              have hP : va_P G.1 vwCl (mW G.2.1 α (t6_X5_readsRequest σ)) H := hP
              have hD : va_D (inW w0) (mW G.2.1 α (t6_X5_readsRequest σ)) := hD
              refine lv_aload_n hx hb dX5_readsRequest_108 rfl (lv_at hl 1 rfl) ?_
              refine lv_dup hx hb dX5_readsRequest_109 rfl ?_
              refine get_M_requests hx hb hts hinX5 hown hK hP (hts (.fieldLink RX5 163 "GrooveTurnsModel" "requests" "I") (by decide +kernel)) dX5_readsRequest_110 ?_
              refine lv_iconst (v := 1) hx hb dX5_readsRequest_113 (by decide) ?_
              refine lv_iadd hx hb dX5_readsRequest_114 ?_
              refine put_M_requests hx hb hts hinX5 hown hK hP hD hS (hts (.fieldLink RX5 163 "GrooveTurnsModel" "requests" "I") (by decide +kernel)) dX5_readsRequest_115 (fun H locs hP hD hS => ?_)
              have hP : va_P G.1 vwCl (mW G.2.1 α (t7_X5_readsRequest σ)) H := hP
              have hD : va_D (inW w0) (mW G.2.1 α (t7_X5_readsRequest σ)) := hD
              refine lv_iconst (v := 1) hx hb dX5_readsRequest_118 (by decide) ?_
              have E9 : s_X5_readsRequest σ = (1, (t7_X5_readsRequest σ)) := by rw [s_X5_readsRequest]; rw [if_neg c_3, if_neg c_5, if_neg c_8, if_neg c_12, if_neg c_14]
              rw [pr1 E9, pr2 E9]
              exact W.zret (ty := .boolean) hx hb hr rfl (fun t ht hW => ⟨rfl, by rw [ht]; exact hP, hS.F ht⟩) hS.2.2 dX5_readsRequest_119
          · skip
            refine lv_iconst (v := 0) hx hb dX5_readsRequest_85 (by decide) ?_
            have E9 : s_X5_readsRequest σ = (0, (t5_X5_readsRequest σ)) := by rw [s_X5_readsRequest]; rw [if_neg c_3, if_neg c_5, if_neg c_8, if_neg c_12, if_pos c_14]
            rw [pr1 E9, pr2 E9]
            exact W.zret (ty := .boolean) hx hb hr rfl (fun t ht hW => ⟨rfl, by rw [ht]; exact hP, hS.F ht⟩) hS.2.2 dX5_readsRequest_86
    · skip
      refine lv_iconst (v := 0) hx hb dX5_readsRequest_37 (by decide) ?_
      have E9 : s_X5_readsRequest σ = (0, ((s_X5_readsNumber ((s_X5_takesOne σ 119).2) 191).2)) := by rw [s_X5_readsRequest]; rw [if_neg c_3, if_pos c_5]
      rw [pr1 E9, pr2 E9]
      exact W.zret (ty := .boolean) hx hb hr rfl (fun t ht hW => ⟨rfl, by rw [ht]; exact hP, hS.F ht⟩) hS.2.2 dX5_readsRequest_38
  · skip
    have hok := hok.1 c_3
    obtain ⟨h_17, hok⟩ := hok
    refine lv_aload_n hx hb dX5_readsRequest_18 rfl (lv_at hl 1 rfl) ?_
    refine lv_bipush (v := 114) hx hb dX5_readsRequest_19 (by decide) ?_
    refine wrV0 (As := [.int 114]) (rest := []) (c_X5_takesOne l G α ((s_X5_takesOne σ 119).2) 114 h_17) hF (cwV 1 hts gX5_readsRequest_X5_takesOne rfl rfl rfl (by decide +kernel) ⟨Nat.le_of_ble_eq_true rfl, Nat.le_of_ble_eq_true rfl⟩) (rcv_M hK hP) hK hP hD hS (fst_M _ _) rfl hl.1 rfl (Nat.le_of_ble_eq_true rfl) dX5_readsRequest_21 ⟨Nat.zero_le _, Nat.zero_le _⟩ (fun H locs hP hD hS => ?_)
    have hP : va_P G.1 vwCl (mW G.2.1 α ((s_X5_takesOne ((s_X5_takesOne σ 119).2) 114).2)) H := hP
    have hD : va_D (inW w0) (mW G.2.1 α ((s_X5_takesOne ((s_X5_takesOne σ 119).2) 114).2)) := hD
    refine lv_if_eq (tgt := 37) hx hb dX5_readsRequest_24 (by decide) (fun (c_18 : ((s_X5_takesOne ((s_X5_takesOne σ 119).2) 114).1) = 0) => ?_) (fun (c_18 : ¬ ((s_X5_takesOne ((s_X5_takesOne σ 119).2) 114).1) = 0) => ?_)
    · skip
      refine lv_iconst (v := 0) hx hb dX5_readsRequest_37 (by decide) ?_
      have E9 : s_X5_readsRequest σ = (0, ((s_X5_takesOne ((s_X5_takesOne σ 119).2) 114).2)) := by rw [s_X5_readsRequest]; rw [if_pos c_3, if_pos c_18]
      rw [pr1 E9, pr2 E9]
      exact W.zret (ty := .boolean) hx hb hr rfl (fun t ht hW => ⟨rfl, by rw [ht]; exact hP, hS.F ht⟩) hS.2.2 dX5_readsRequest_38
    · skip
      have hok := hok.2 c_18
      obtain ⟨h_19, hok⟩ := hok
      refine lv_aload_n hx hb dX5_readsRequest_27 rfl (lv_at hl 1 rfl) ?_
      refine lv_sipush (v := 191) hx hb dX5_readsRequest_28 (by decide) ?_
      refine wrV0 (As := [.int 191]) (rest := []) (c_X5_readsNumber l G α ((s_X5_takesOne ((s_X5_takesOne σ 119).2) 114).2) 191 h_19) hF (cwV 1 hts gX5_readsRequest_X5_readsNumber rfl rfl rfl (by decide +kernel) ⟨Nat.le_of_ble_eq_true rfl, Nat.le_of_ble_eq_true rfl⟩) (rcv_M hK hP) hK hP hD hS (fst_M _ _) rfl hl.1 rfl (Nat.le_of_ble_eq_true rfl) dX5_readsRequest_31 ⟨Nat.zero_le _, Nat.zero_le _⟩ (fun H locs hP hD hS => ?_)
      have hP : va_P G.1 vwCl (mW G.2.1 α (t8_X5_readsRequest σ)) H := hP
      have hD : va_D (inW w0) (mW G.2.1 α (t8_X5_readsRequest σ)) := hD
      refine lv_if_ne (tgt := 39) hx hb dX5_readsRequest_34 (by decide) (fun (c_20 : ¬ ((s_X5_readsNumber ((s_X5_takesOne ((s_X5_takesOne σ 119).2) 114).2) 191).1) = 0) => ?_) (fun (c_20 : ((s_X5_readsNumber ((s_X5_takesOne ((s_X5_takesOne σ 119).2) 114).2) 191).1) = 0) => ?_)
      · skip
        have hok := hok.2 c_20
        obtain ⟨h_21, hok⟩ := hok
        refine lv_aload_n hx hb dX5_readsRequest_39 rfl (lv_at hl 1 rfl) ?_
        refine get_M_asked hx hb hts hinX5 hown hK hP (hts (.fieldLink RX5 28 "GrooveTurnsModel" "asked" "[I") (by decide +kernel)) dX5_readsRequest_40 ?_
        refine lv_aload_n hx hb dX5_readsRequest_43 rfl (lv_at hl 1 rfl) ?_
        refine get_M_requests hx hb hts hinX5 hown hK hP (hts (.fieldLink RX5 163 "GrooveTurnsModel" "requests" "I") (by decide +kernel)) dX5_readsRequest_44 ?_
        refine lv_aload_n hx hb dX5_readsRequest_47 rfl (lv_at hl 1 rfl) ?_
        refine get_M_number hx hb hts hinX5 hown hK hP (hts (.fieldLink RX5 154 "GrooveTurnsModel" "number" "I") (by decide +kernel)) dX5_readsRequest_48 ?_
        refine st_M_as hx hb hK hP hD hS h_21 dX5_readsRequest_51 (fun H locs hP hD hS => ?_)
        have hP : va_P G.1 vwCl (mW G.2.1 α (t9_X5_readsRequest σ)) H := hP
        have hD : va_D (inW w0) (mW G.2.1 α (t9_X5_readsRequest σ)) := hD
        obtain ⟨h_22, hok⟩ := hok
        refine lv_aload_n hx hb dX5_readsRequest_52 rfl (lv_at hl 1 rfl) ?_
        refine get_M_numbers hx hb hts hinX5 hown hK hP (hts (.fieldLink RX5 31 "GrooveTurnsModel" "numbers" "[I") (by decide +kernel)) dX5_readsRequest_53 ?_
        refine lv_aload_n hx hb dX5_readsRequest_56 rfl (lv_at hl 1 rfl) ?_
        refine get_M_requests hx hb hts hinX5 hown hK hP (hts (.fieldLink RX5 163 "GrooveTurnsModel" "requests" "I") (by decide +kernel)) dX5_readsRequest_57 ?_
        refine lv_iconst (v := (-1)) hx hb dX5_readsRequest_60 (by decide) ?_
        refine st_M_nu hx hb hK hP hD hS h_22 dX5_readsRequest_61 (fun H locs hP hD hS => ?_)
        have hP : va_P G.1 vwCl (mW G.2.1 α (t10_X5_readsRequest σ)) H := hP
        have hD : va_D (inW w0) (mW G.2.1 α (t10_X5_readsRequest σ)) := hD
        refine lv_iload_n hx hb dX5_readsRequest_62 rfl (lv_at hl 0 rfl) ?_
        refine lv_if_eq (tgt := 87) hx hb dX5_readsRequest_63 (by decide) (fun (c_23 : (s_X5_isHere σ 119 119) = 0) => ?_) (fun (c_23 : ¬ (s_X5_isHere σ 119 119) = 0) => ?_)
        · skip
          have hok := hok.1 c_23
          refine lv_aload_n hx hb dX5_readsRequest_87 rfl (lv_at hl 1 rfl) ?_
          refine get_M_numbers hx hb hts hinX5 hown hK hP (hts (.fieldLink RX5 31 "GrooveTurnsModel" "numbers" "[I") (by decide +kernel)) dX5_readsRequest_88 ?_
          refine lv_aload_n hx hb dX5_readsRequest_91 rfl (lv_at hl 1 rfl) ?_
          refine get_M_requests hx hb hts hinX5 hown hK hP (hts (.fieldLink RX5 163 "GrooveTurnsModel" "requests" "I") (by decide +kernel)) dX5_readsRequest_92 ?_
          refine lv_iload_n hx hb dX5_readsRequest_95 rfl (lv_at hl 0 rfl) ?_
          refine lv_if_eq (tgt := 106) hx hb dX5_readsRequest_96 (by decide) (fun (c_24 : (s_X5_isHere σ 119 119) = 0) => ?_) (fun (c_24 : ¬ (s_X5_isHere σ 119 119) = 0) => ?_)
          · skip
            have h_25 := hok
            refine lv_iconst (v := (-1)) hx hb dX5_readsRequest_106 (by decide) ?_
            refine st_M_nu hx hb hK hP hD hS h_25 dX5_readsRequest_107 (fun H locs hP hD hS => ?_)
            have hP : va_P G.1 vwCl (mW G.2.1 α (t11_X5_readsRequest σ)) H := hP
            have hD : va_D (inW w0) (mW G.2.1 α (t11_X5_readsRequest σ)) := hD
            refine lv_aload_n hx hb dX5_readsRequest_108 rfl (lv_at hl 1 rfl) ?_
            refine lv_dup hx hb dX5_readsRequest_109 rfl ?_
            refine get_M_requests hx hb hts hinX5 hown hK hP (hts (.fieldLink RX5 163 "GrooveTurnsModel" "requests" "I") (by decide +kernel)) dX5_readsRequest_110 ?_
            refine lv_iconst (v := 1) hx hb dX5_readsRequest_113 (by decide) ?_
            refine lv_iadd hx hb dX5_readsRequest_114 ?_
            refine put_M_requests hx hb hts hinX5 hown hK hP hD hS (hts (.fieldLink RX5 163 "GrooveTurnsModel" "requests" "I") (by decide +kernel)) dX5_readsRequest_115 (fun H locs hP hD hS => ?_)
            have hP : va_P G.1 vwCl (mW G.2.1 α (t12_X5_readsRequest σ)) H := hP
            have hD : va_D (inW w0) (mW G.2.1 α (t12_X5_readsRequest σ)) := hD
            refine lv_iconst (v := 1) hx hb dX5_readsRequest_118 (by decide) ?_
            have E9 : s_X5_readsRequest σ = (1, (t12_X5_readsRequest σ)) := by rw [s_X5_readsRequest]; rw [if_pos c_3, if_neg c_18, if_neg c_20, if_pos c_23]
            rw [pr1 E9, pr2 E9]
            exact W.zret (ty := .boolean) hx hb hr rfl (fun t ht hW => ⟨rfl, by rw [ht]; exact hP, hS.F ht⟩) hS.2.2 dX5_readsRequest_119
          · skip
            exact absurd c_23 c_24
        · skip
          have hok := hok.2 c_23
          obtain ⟨h_26, hok⟩ := hok
          refine lv_aload_n hx hb dX5_readsRequest_66 rfl (lv_at hl 1 rfl) ?_
          refine lv_bipush (v := 61) hx hb dX5_readsRequest_67 (by decide) ?_
          refine wrV0 (As := [.int 61]) (rest := []) (c_X5_takesOne l G α (t10_X5_readsRequest σ) 61 h_26) hF (cwV 1 hts gX5_readsRequest_X5_takesOne rfl rfl rfl (by decide +kernel) ⟨Nat.le_of_ble_eq_true rfl, Nat.le_of_ble_eq_true rfl⟩) (rcv_M hK hP) hK hP hD hS (fst_M _ _) rfl hl.1 rfl (Nat.le_of_ble_eq_true rfl) dX5_readsRequest_69 ⟨Nat.zero_le _, Nat.zero_le _⟩ (fun H locs hP hD hS => ?_)
          have hP : va_P G.1 vwCl (mW G.2.1 α ((s_X5_takesOne (t10_X5_readsRequest σ) 61).2)) H := hP
          have hD : va_D (inW w0) (mW G.2.1 α ((s_X5_takesOne (t10_X5_readsRequest σ) 61).2)) := hD
          refine lv_if_eq (tgt := 85) hx hb dX5_readsRequest_72 (by decide) (fun (c_27 : ((s_X5_takesOne (t10_X5_readsRequest σ) 61).1) = 0) => ?_) (fun (c_27 : ¬ ((s_X5_takesOne (t10_X5_readsRequest σ) 61).1) = 0) => ?_)
          · skip
            refine lv_iconst (v := 0) hx hb dX5_readsRequest_85 (by decide) ?_
            have E9 : s_X5_readsRequest σ = (0, ((s_X5_takesOne (t10_X5_readsRequest σ) 61).2)) := by rw [s_X5_readsRequest]; rw [if_pos c_3, if_neg c_18, if_neg c_20, if_neg c_23, if_pos c_27]
            rw [pr1 E9, pr2 E9]
            exact W.zret (ty := .boolean) hx hb hr rfl (fun t ht hW => ⟨rfl, by rw [ht]; exact hP, hS.F ht⟩) hS.2.2 dX5_readsRequest_86
          · skip
            have hok := hok.2 c_27
            obtain ⟨h_28, hok⟩ := hok
            refine lv_aload_n hx hb dX5_readsRequest_75 rfl (lv_at hl 1 rfl) ?_
            refine lv_sipush (v := 255) hx hb dX5_readsRequest_76 (by decide) ?_
            refine wrV0 (As := [.int 255]) (rest := []) (c_X5_readsNumber l G α ((s_X5_takesOne (t10_X5_readsRequest σ) 61).2) 255 h_28) hF (cwV 1 hts gX5_readsRequest_X5_readsNumber rfl rfl rfl (by decide +kernel) ⟨Nat.le_of_ble_eq_true rfl, Nat.le_of_ble_eq_true rfl⟩) (rcv_M hK hP) hK hP hD hS (fst_M _ _) rfl hl.1 rfl (Nat.le_of_ble_eq_true rfl) dX5_readsRequest_79 ⟨Nat.zero_le _, Nat.zero_le _⟩ (fun H locs hP hD hS => ?_)
            have hP : va_P G.1 vwCl (mW G.2.1 α (t13_X5_readsRequest σ)) H := hP
            have hD : va_D (inW w0) (mW G.2.1 α (t13_X5_readsRequest σ)) := hD
            refine lv_if_ne (tgt := 87) hx hb dX5_readsRequest_82 (by decide) (fun (c_29 : ¬ ((s_X5_readsNumber ((s_X5_takesOne (t10_X5_readsRequest σ) 61).2) 255).1) = 0) => ?_) (fun (c_29 : ((s_X5_readsNumber ((s_X5_takesOne (t10_X5_readsRequest σ) 61).2) 255).1) = 0) => ?_)
            · skip
              have hok := hok.2 c_29
              refine lv_aload_n hx hb dX5_readsRequest_87 rfl (lv_at hl 1 rfl) ?_
              refine get_M_numbers hx hb hts hinX5 hown hK hP (hts (.fieldLink RX5 31 "GrooveTurnsModel" "numbers" "[I") (by decide +kernel)) dX5_readsRequest_88 ?_
              refine lv_aload_n hx hb dX5_readsRequest_91 rfl (lv_at hl 1 rfl) ?_
              refine get_M_requests hx hb hts hinX5 hown hK hP (hts (.fieldLink RX5 163 "GrooveTurnsModel" "requests" "I") (by decide +kernel)) dX5_readsRequest_92 ?_
              refine lv_iload_n hx hb dX5_readsRequest_95 rfl (lv_at hl 0 rfl) ?_
              refine lv_if_eq (tgt := 106) hx hb dX5_readsRequest_96 (by decide) (fun (c_30 : (s_X5_isHere σ 119 119) = 0) => ?_) (fun (c_30 : ¬ (s_X5_isHere σ 119 119) = 0) => ?_)
              · skip
                exact absurd c_30 c_23
              · skip
                have h_31 := hok
                refine lv_aload_n hx hb dX5_readsRequest_99 rfl (lv_at hl 1 rfl) ?_
                refine get_M_number hx hb hts hinX5 hown hK hP (hts (.fieldLink RX5 154 "GrooveTurnsModel" "number" "I") (by decide +kernel)) dX5_readsRequest_100 ?_
                refine lv_goto (tgt := 107) hx hb dX5_readsRequest_103 (by decide) ?_
                refine st_M_nu hx hb hK hP hD hS h_31 dX5_readsRequest_107 (fun H locs hP hD hS => ?_)
                have hP : va_P G.1 vwCl (mW G.2.1 α (t14_X5_readsRequest σ)) H := hP
                have hD : va_D (inW w0) (mW G.2.1 α (t14_X5_readsRequest σ)) := hD
                refine lv_aload_n hx hb dX5_readsRequest_108 rfl (lv_at hl 1 rfl) ?_
                refine lv_dup hx hb dX5_readsRequest_109 rfl ?_
                refine get_M_requests hx hb hts hinX5 hown hK hP (hts (.fieldLink RX5 163 "GrooveTurnsModel" "requests" "I") (by decide +kernel)) dX5_readsRequest_110 ?_
                refine lv_iconst (v := 1) hx hb dX5_readsRequest_113 (by decide) ?_
                refine lv_iadd hx hb dX5_readsRequest_114 ?_
                refine put_M_requests hx hb hts hinX5 hown hK hP hD hS (hts (.fieldLink RX5 163 "GrooveTurnsModel" "requests" "I") (by decide +kernel)) dX5_readsRequest_115 (fun H locs hP hD hS => ?_)
                have hP : va_P G.1 vwCl (mW G.2.1 α (t15_X5_readsRequest σ)) H := hP
                have hD : va_D (inW w0) (mW G.2.1 α (t15_X5_readsRequest σ)) := hD
                refine lv_iconst (v := 1) hx hb dX5_readsRequest_118 (by decide) ?_
                have E9 : s_X5_readsRequest σ = (1, (t15_X5_readsRequest σ)) := by rw [s_X5_readsRequest]; rw [if_pos c_3, if_neg c_18, if_neg c_20, if_neg c_23, if_neg c_27, if_neg c_29]
                rw [pr1 E9, pr2 E9]
                exact W.zret (ty := .boolean) hx hb hr rfl (fun t ht hW => ⟨rfl, by rw [ht]; exact hP, hS.F ht⟩) hS.2.2 dX5_readsRequest_119
            · skip
              refine lv_iconst (v := 0) hx hb dX5_readsRequest_85 (by decide) ?_
              have E9 : s_X5_readsRequest σ = (0, (t13_X5_readsRequest σ)) := by rw [s_X5_readsRequest]; rw [if_pos c_3, if_neg c_18, if_neg c_20, if_neg c_23, if_neg c_27, if_pos c_29]
              rw [pr1 E9, pr2 E9]
              exact W.zret (ty := .boolean) hx hb hr rfl (fun t ht hW => ⟨rfl, by rw [ht]; exact hP, hS.F ht⟩) hS.2.2 dX5_readsRequest_86
      · skip
        refine lv_iconst (v := 0) hx hb dX5_readsRequest_37 (by decide) ?_
        have E9 : s_X5_readsRequest σ = (0, (t8_X5_readsRequest σ)) := by rw [s_X5_readsRequest]; rw [if_pos c_3, if_neg c_18, if_pos c_20]
        rw [pr1 E9, pr2 E9]
        exact W.zret (ty := .boolean) hx hb hr rfl (fun t ht hW => ⟨rfl, by rw [ht]; exact hP, hS.F ht⟩) hS.2.2 dX5_readsRequest_38
def L1_X5_fault (σ : MS) : Nat → Int32 → MS → Int32 × MS
  | 0, v1_1, τ1_0 => (0, τ1_0)
  | n + 1, v1_1, τ1_0 => (if v1_1 = 0 then (if (m_so τ1_0) = (m_tl τ1_0) then ((-6), τ1_0) else ((m_so τ1_0), τ1_0)) else (if ((s_X5_readsRequest τ1_0).1) = 0 then ((m_so ((s_X5_readsRequest τ1_0).2)), ((s_X5_readsRequest τ1_0).2)) else (L1_X5_fault σ n ((s_X5_takesOne ((s_X5_readsRequest τ1_0).2) 59).1) ((s_X5_takesOne ((s_X5_readsRequest τ1_0).2) 59).2))))
def okL1_X5_fault (σ : MS) : Nat → Int32 → MS → Prop
  | 0, _, _ => False
  | n + 1, v1_1, τ1_0 => (v1_1 = 0 → True) ∧ (¬ v1_1 = 0 → ((ok_X5_readsRequest τ1_0) ∧ ((((s_X5_readsRequest τ1_0).1) = 0 → True) ∧ (¬ ((s_X5_readsRequest τ1_0).1) = 0 → ((ok_X5_takesOne ((s_X5_readsRequest τ1_0).2) 59) ∧ (okL1_X5_fault σ n ((s_X5_takesOne ((s_X5_readsRequest τ1_0).2) 59).1) ((s_X5_takesOne ((s_X5_readsRequest τ1_0).2) 59).2)))))))
def s_X5_fault (σ : MS) : Int32 × MS := (L1_X5_fault σ FU 1 (m_rq' (m_so' σ 0) 0))
def ok_X5_fault (σ : MS) : Prop := okL1_X5_fault σ FU 1 (m_rq' (m_so' σ 0) 0)
set_option maxHeartbeats 4000000 in
set_option maxRecDepth 100000 in
theorem wL1_X5_fault {p : Program} {e : Env} {s : State} {m : MethodId} {args : Array Value} {below : List Frame} {meth : Method} {c : Code} {w0 : va_W} (l : Launch) (G : GG) (α : Nat → Nat) (σ : MS) (C0 : cA p s m meth c args cX5_fault 2 (some .int) wsX5_fault RX5) (hK : cK G s) : ∀ (n : Nat) (v1_1 : Int32) (τ1_0 : MS)  (hok : okL1_X5_fault σ n v1_1 τ1_0) (H : Heap) (locs : List Loc), va_P G.1 vwCl (mW G.2.1 α τ1_0) H → va_D (inW w0) (mW G.2.1 α τ1_0) → va_S (inW w0) s.heap H locs → ∀ (ls : Array Slot), lv_has ls 2 [(0, .ref (α 0)), (1, .int v1_1)] → W p l e (rmm 4 90) s m args below meth c H locs 0 0 (MQ below (QW G w0 (mW G.2.1 α ((L1_X5_fault σ n v1_1 τ1_0).2)) (some (.int (L1_X5_fault σ n v1_1 τ1_0).1))) args s 0 0 (inW w0)) (F0 m 12 ls []) := by
  obtain ⟨hx, hb, hr, hml, hown, hts, hlocks⟩ := id C0
  have hF : CallFix p m c cX5_fault 2 s args wsX5_fault RX5 := ⟨hx, hb, hml, hown, hts⟩
  have hinX5 : ∀ w ∈ wsX50, w ∈ wsX5_fault := by decide +kernel
  intro n
  induction n with
  | zero =>
    intro v1_1 τ1_0 hok
    exact hok.elim
  | succ n ih =>
    intro v1_1 τ1_0 hok H locs hP hD hS ls hl
    have hok : (v1_1 = 0 → True) ∧ (¬ v1_1 = 0 → ((ok_X5_readsRequest τ1_0) ∧ ((((s_X5_readsRequest τ1_0).1) = 0 → True) ∧ (¬ ((s_X5_readsRequest τ1_0).1) = 0 → ((ok_X5_takesOne ((s_X5_readsRequest τ1_0).2) 59) ∧ (okL1_X5_fault σ n ((s_X5_takesOne ((s_X5_readsRequest τ1_0).2) 59).1) ((s_X5_takesOne ((s_X5_readsRequest τ1_0).2) 59).2))))))) := hok
    refine lv_iload_n hx hb dX5_fault_12 rfl (lv_at hl 1 rfl) ?_
    refine lv_if_eq (tgt := 38) hx hb dX5_fault_13 (by decide) (fun (c_1 : v1_1 = 0) => ?_) (fun (c_1 : ¬ v1_1 = 0) => ?_)
    · skip
      refine lv_aload_n hx hb dX5_fault_38 rfl (lv_at hl 0 rfl) ?_
      refine get_M_spot hx hb hts hinX5 hown hK hP (hts (.fieldLink RX5 148 "GrooveTurnsModel" "spot" "I") (by decide +kernel)) dX5_fault_39 ?_
      refine lv_aload_n hx hb dX5_fault_42 rfl (lv_at hl 0 rfl) ?_
      refine get_M_textLong hx hb hts hinX5 hown hK hP (hts (.fieldLink RX5 128 "GrooveTurnsModel" "textLong" "I") (by decide +kernel)) dX5_fault_43 ?_
      refine lv_icmp_ne (tgt := 54) hx hb dX5_fault_46 (by decide) (fun (c_2 : ¬ (m_so τ1_0) = (m_tl τ1_0)) => ?_) (fun (c_2 : (m_so τ1_0) = (m_tl τ1_0)) => ?_)
      · skip
        refine lv_aload_n hx hb dX5_fault_54 rfl (lv_at hl 0 rfl) ?_
        refine get_M_spot hx hb hts hinX5 hown hK hP (hts (.fieldLink RX5 148 "GrooveTurnsModel" "spot" "I") (by decide +kernel)) dX5_fault_55 ?_
        have E9 : (L1_X5_fault σ (n + 1) v1_1 τ1_0) = ((m_so τ1_0), τ1_0) := by rw [L1_X5_fault]; rw [if_pos c_1, if_neg c_2]
        rw [pr1 E9, pr2 E9]
        exact W.iret hx hb hr (fun t ht hW => ⟨rfl, by rw [ht]; exact hP, hS.F ht⟩) hS.2.2 dX5_fault_58
      · skip
        refine lv_bipush (v := (-6)) hx hb dX5_fault_49 (by decide) ?_
        refine lv_goto (tgt := 58) hx hb dX5_fault_51 (by decide) ?_
        have E9 : (L1_X5_fault σ (n + 1) v1_1 τ1_0) = ((-6), τ1_0) := by rw [L1_X5_fault]; rw [if_pos c_1, if_pos c_2]
        rw [pr1 E9, pr2 E9]
        exact W.iret hx hb hr (fun t ht hW => ⟨rfl, by rw [ht]; exact hP, hS.F ht⟩) hS.2.2 dX5_fault_58
    · skip
      have hok := hok.2 c_1
      obtain ⟨h_3, hok⟩ := hok
      refine lv_aload_n hx hb dX5_fault_16 rfl (lv_at hl 0 rfl) ?_
      refine wrV0 (As := []) (rest := []) (c_X5_readsRequest l G α τ1_0 h_3) hF (cwV 0 hts gX5_fault_X5_readsRequest rfl rfl rfl (by decide +kernel) ⟨Nat.le_of_ble_eq_true rfl, Nat.le_of_ble_eq_true rfl⟩) (rcv_M hK hP) hK hP hD hS (fst_M _ _) rfl hl.1 rfl (Nat.le_of_ble_eq_true rfl) dX5_fault_17 ⟨Nat.zero_le _, Nat.zero_le _⟩ (fun H locs hP hD hS => ?_)
      have hP : va_P G.1 vwCl (mW G.2.1 α ((s_X5_readsRequest τ1_0).2)) H := hP
      have hD : va_D (inW w0) (mW G.2.1 α ((s_X5_readsRequest τ1_0).2)) := hD
      refine lv_if_ne (tgt := 28) hx hb dX5_fault_20 (by decide) (fun (c_4 : ¬ ((s_X5_readsRequest τ1_0).1) = 0) => ?_) (fun (c_4 : ((s_X5_readsRequest τ1_0).1) = 0) => ?_)
      · skip
        have hok := hok.2 c_4
        obtain ⟨h_5, hok⟩ := hok
        refine lv_aload_n hx hb dX5_fault_28 rfl (lv_at hl 0 rfl) ?_
        refine lv_bipush (v := 59) hx hb dX5_fault_29 (by decide) ?_
        refine wrV0 (As := [.int 59]) (rest := []) (c_X5_takesOne l G α ((s_X5_readsRequest τ1_0).2) 59 h_5) hF (cwV 1 hts gX5_fault_X5_takesOne rfl rfl rfl (by decide +kernel) ⟨Nat.le_of_ble_eq_true rfl, Nat.le_of_ble_eq_true rfl⟩) (rcv_M hK hP) hK hP hD hS (fst_M _ _) rfl hl.1 rfl (Nat.le_of_ble_eq_true rfl) dX5_fault_31 ⟨Nat.zero_le _, Nat.zero_le _⟩ (fun H locs hP hD hS => ?_)
        have hP : va_P G.1 vwCl (mW G.2.1 α ((s_X5_takesOne ((s_X5_readsRequest τ1_0).2) 59).2)) H := hP
        have hD : va_D (inW w0) (mW G.2.1 α ((s_X5_takesOne ((s_X5_readsRequest τ1_0).2) 59).2)) := hD
        refine lv_istore_n (lv' := [(1, .int ((s_X5_takesOne ((s_X5_readsRequest τ1_0).2) 59).1)), (0, .ref (α 0))]) hx hb dX5_fault_34 rfl hl (by decide) rfl (fun ls hl => ?_)
        refine lv_goto (tgt := 12) hx hb dX5_fault_35 (by decide) ?_
        rw [show (L1_X5_fault σ (n + 1) v1_1 τ1_0) = (L1_X5_fault σ n ((s_X5_takesOne ((s_X5_readsRequest τ1_0).2) 59).1) ((s_X5_takesOne ((s_X5_readsRequest τ1_0).2) 59).2)) from by rw [L1_X5_fault]; rw [if_neg c_1, if_neg c_4]]
        exact ih ((s_X5_takesOne ((s_X5_readsRequest τ1_0).2) 59).1) ((s_X5_takesOne ((s_X5_readsRequest τ1_0).2) 59).2) hok _ _ hP hD hS ls (lv_sub hl [1, 0] rfl)
      · skip
        refine lv_aload_n hx hb dX5_fault_23 rfl (lv_at hl 0 rfl) ?_
        refine get_M_spot hx hb hts hinX5 hown hK hP (hts (.fieldLink RX5 148 "GrooveTurnsModel" "spot" "I") (by decide +kernel)) dX5_fault_24 ?_
        have E9 : (L1_X5_fault σ (n + 1) v1_1 τ1_0) = ((m_so ((s_X5_readsRequest τ1_0).2)), ((s_X5_readsRequest τ1_0).2)) := by rw [L1_X5_fault]; rw [if_neg c_1, if_pos c_4]
        rw [pr1 E9, pr2 E9]
        exact W.iret hx hb hr (fun t ht hW => ⟨rfl, by rw [ht]; exact hP, hS.F ht⟩) hS.2.2 dX5_fault_27
set_option maxHeartbeats 4000000 in
set_option maxRecDepth 100000 in
theorem c_X5_fault (l : Launch) (G : GG) (α : Nat → Nat) (σ : MS) (hok : ok_X5_fault σ) : Wr G l yX5_fault wsX5_fault 4 90 [.ref (α 0)] (mW G.2.1 α σ) (some (.int (s_X5_fault σ).1)) (mW G.2.1 α ((s_X5_fault σ).2)) := by
  refine Met.ofW (cc := cX5_fault) (maxL := 2) (ret := (some .int)) (by decide) rfl ?_
  intro p e s m args below meth c s₁ B hml hv
  obtain ⟨rfl, hP, hK, hD0⟩ := hv
  have C0 : cA p s m meth c ([.ref (α 0)] : List Value).toArray cX5_fault 2 (some .int) wsX5_fault RX5 := ⟨B.exec, B.bytes, B.returns, hml, findClass_of_methodNamed B.named, atoms_spec (ws := wsX5_fault) B.pre, B.notSynchronized⟩
  obtain ⟨hx, hb, hr, hml, hown, hts, hlocks⟩ := id C0
  have hF : CallFix p m c cX5_fault 2 s _ wsX5_fault RX5 := ⟨hx, hb, hml, hown, hts⟩
  have hinX5 : ∀ w ∈ wsX50, w ∈ wsX5_fault := by decide +kernel
  obtain ⟨w0, hw0⟩ : ∃ w0 : va_W, w0 = (mW G.2.1 α σ) := ⟨_, rfl⟩
  have hD : va_D (inW w0) (mW G.2.1 α σ) := by rw [hw0]; exact inW.D hD0
  have hS : va_S (inW w0) s.heap s.heap [] := va_S.rf
  rw [show QW G (mW G.2.1 α σ) = QW G w0 from by rw [hw0], show inW (mW G.2.1 α σ) = inW w0 from by rw [hw0]]
  have hl := lv_entry ([.ref (α 0)]) (n := 2) (Nat.le_of_ble_eq_true rfl)
  rw [lg_entry_eq]
  generalize (lg_sl ([.ref (α 0)]) ++ List.replicate (2 - (lg_sl ([.ref (α 0)])).length) Slot.unset).toArray = ls at hl ⊢
  have hl : lv_has ls 2 [(0, .ref (α 0))] := hl
  have hok : okL1_X5_fault σ FU 1 (m_rq' (m_so' σ 0) 0) := hok
  refine lv_aload_n hx hb dX5_fault_0 rfl (lv_at hl 0 rfl) ?_
  refine lv_iconst (v := 0) hx hb dX5_fault_1 (by decide) ?_
  refine put_M_spot hx hb hts hinX5 hown hK hP hD hS (hts (.fieldLink RX5 148 "GrooveTurnsModel" "spot" "I") (by decide +kernel)) dX5_fault_2 (fun H locs hP hD hS => ?_)
  have hP : va_P G.1 vwCl (mW G.2.1 α (m_so' σ 0)) H := hP
  have hD : va_D (inW w0) (mW G.2.1 α (m_so' σ 0)) := hD
  refine lv_aload_n hx hb dX5_fault_5 rfl (lv_at hl 0 rfl) ?_
  refine lv_iconst (v := 0) hx hb dX5_fault_6 (by decide) ?_
  refine put_M_requests hx hb hts hinX5 hown hK hP hD hS (hts (.fieldLink RX5 163 "GrooveTurnsModel" "requests" "I") (by decide +kernel)) dX5_fault_7 (fun H locs hP hD hS => ?_)
  have hP : va_P G.1 vwCl (mW G.2.1 α (m_rq' (m_so' σ 0) 0)) H := hP
  have hD : va_D (inW w0) (mW G.2.1 α (m_rq' (m_so' σ 0) 0)) := hD
  refine lv_iconst (v := 1) hx hb dX5_fault_10 (by decide) ?_
  refine lv_istore_n (lv' := [(1, .int 1), (0, .ref (α 0))]) hx hb dX5_fault_11 rfl hl (by decide) rfl (fun ls hl => ?_)
  rw [show s_X5_fault σ = (L1_X5_fault σ FU 1 (m_rq' (m_so' σ 0) 0)) from by rw [s_X5_fault]]
  exact wL1_X5_fault l G α σ C0 hK FU 1 (m_rq' (m_so' σ 0) 0) hok _ _ hP hD hS ls (lv_sub hl [1, 0] rfl)
def t1_X5_isDone (σ : MS) (p1 : Int32) : MS := ((s_X5_doWrite σ ((m_as σ) p1.toNatClampNeg) ((m_nu σ) p1.toNatClampNeg)).2)
def s_X5_isDone (σ : MS) (p1 : Int32) : Int32 × MS := (if 0 ≤ ((m_nu σ) p1.toNatClampNeg) then (if ((s_X5_doWrite σ ((m_as σ) p1.toNatClampNeg) ((m_nu σ) p1.toNatClampNeg)).1) < 0 then (0, (t1_X5_isDone σ p1)) else (1, (t1_X5_isDone σ p1))) else (if ((s_X5_doRead σ ((m_as σ) p1.toNatClampNeg)).1) < 0 then (0, ((s_X5_doRead σ ((m_as σ) p1.toNatClampNeg)).2)) else (1, ((s_X5_doRead σ ((m_as σ) p1.toNatClampNeg)).2))))
def ok_X5_isDone (σ : MS) (p1 : Int32) : Prop := (vp_in p1 30) ∧ ((0 ≤ ((m_nu σ) p1.toNatClampNeg) → (ok_X5_doWrite σ ((m_as σ) p1.toNatClampNeg) ((m_nu σ) p1.toNatClampNeg))) ∧ (¬ 0 ≤ ((m_nu σ) p1.toNatClampNeg) → (ok_X5_doRead σ ((m_as σ) p1.toNatClampNeg))))
theorem b_X5_isDone (σ : MS) (p1 : Int32) : (s_X5_isDone σ p1).1 = 0 ∨ (s_X5_isDone σ p1).1 = 1 := by
  unfold s_X5_isDone
  by_cases c_2 : 0 ≤ ((m_nu σ) p1.toNatClampNeg)
  · skip
    by_cases c_4 : ((s_X5_doWrite σ ((m_as σ) p1.toNatClampNeg) ((m_nu σ) p1.toNatClampNeg)).1) < 0
    · skip
      rw [if_pos c_2, if_pos c_4]
      exact Or.inl rfl
    · skip
      rw [if_pos c_2, if_neg c_4]
      exact Or.inr rfl
  · skip
    by_cases c_6 : ((s_X5_doRead σ ((m_as σ) p1.toNatClampNeg)).1) < 0
    · skip
      rw [if_neg c_2, if_pos c_6]
      exact Or.inl rfl
    · skip
      rw [if_neg c_2, if_neg c_6]
      exact Or.inr rfl
set_option maxHeartbeats 4000000 in
set_option maxRecDepth 100000 in
theorem c_X5_isDone (l : Launch) (G : GG) (α : Nat → Nat) (σ : MS) (p1 : Int32) (hok : ok_X5_isDone σ p1) : Wr G l yX5_isDone wsX5_isDone 5 115 [.ref (α 0), .int p1] (mW G.2.1 α σ) (some (.int (s_X5_isDone σ p1).1)) (mW G.2.1 α ((s_X5_isDone σ p1).2)) := by
  refine Met.ofW (cc := cX5_isDone) (maxL := 3) (ret := (some .boolean)) (by decide) rfl ?_
  intro p e s m args below meth c s₁ B hml hv
  obtain ⟨rfl, hP, hK, hD0⟩ := hv
  have C0 : cA p s m meth c ([.ref (α 0), .int p1] : List Value).toArray cX5_isDone 3 (some .boolean) wsX5_isDone RX5 := ⟨B.exec, B.bytes, B.returns, hml, findClass_of_methodNamed B.named, atoms_spec (ws := wsX5_isDone) B.pre, B.notSynchronized⟩
  obtain ⟨hx, hb, hr, hml, hown, hts, hlocks⟩ := id C0
  have hF : CallFix p m c cX5_isDone 3 s _ wsX5_isDone RX5 := ⟨hx, hb, hml, hown, hts⟩
  have hinX5 : ∀ w ∈ wsX50, w ∈ wsX5_isDone := by decide +kernel
  obtain ⟨w0, hw0⟩ : ∃ w0 : va_W, w0 = (mW G.2.1 α σ) := ⟨_, rfl⟩
  have hD : va_D (inW w0) (mW G.2.1 α σ) := by rw [hw0]; exact inW.D hD0
  have hS : va_S (inW w0) s.heap s.heap [] := va_S.rf
  rw [show QW G (mW G.2.1 α σ) = QW G w0 from by rw [hw0], show inW (mW G.2.1 α σ) = inW w0 from by rw [hw0]]
  have hl := lv_entry ([.ref (α 0), .int p1]) (n := 3) (Nat.le_of_ble_eq_true rfl)
  rw [lg_entry_eq]
  generalize (lg_sl ([.ref (α 0), .int p1]) ++ List.replicate (3 - (lg_sl ([.ref (α 0), .int p1])).length) Slot.unset).toArray = ls at hl ⊢
  have hl : lv_has ls 3 [(0, .ref (α 0)), (1, .int p1)] := hl
  have hok : (vp_in p1 30) ∧ ((0 ≤ ((m_nu σ) p1.toNatClampNeg) → (ok_X5_doWrite σ ((m_as σ) p1.toNatClampNeg) ((m_nu σ) p1.toNatClampNeg))) ∧ (¬ 0 ≤ ((m_nu σ) p1.toNatClampNeg) → (ok_X5_doRead σ ((m_as σ) p1.toNatClampNeg)))) := hok
  obtain ⟨h_1, hok⟩ := hok
  refine lv_aload_n hx hb dX5_isDone_0 rfl (lv_at hl 0 rfl) ?_
  refine get_M_numbers hx hb hts hinX5 hown hK hP (hts (.fieldLink RX5 31 "GrooveTurnsModel" "numbers" "[I") (by decide +kernel)) dX5_isDone_1 ?_
  refine lv_iload_n hx hb dX5_isDone_4 rfl (lv_at hl 1 rfl) ?_
  refine ld_M_nu hx hb hK hP h_1 dX5_isDone_5 ?_
  refine lv_if_ge (tgt := 22) hx hb dX5_isDone_6 (by decide) (fun (c_2 : 0 ≤ ((m_nu σ) p1.toNatClampNeg)) => ?_) (fun (c_2 : ¬ 0 ≤ ((m_nu σ) p1.toNatClampNeg)) => ?_)
  · skip
    have hok := hok.1 c_2
    have h_3 := hok
    refine lv_aload_n hx hb dX5_isDone_22 rfl (lv_at hl 0 rfl) ?_
    refine lv_aload_n hx hb dX5_isDone_23 rfl (lv_at hl 0 rfl) ?_
    refine get_M_asked hx hb hts hinX5 hown hK hP (hts (.fieldLink RX5 28 "GrooveTurnsModel" "asked" "[I") (by decide +kernel)) dX5_isDone_24 ?_
    refine lv_iload_n hx hb dX5_isDone_27 rfl (lv_at hl 1 rfl) ?_
    refine ld_M_as hx hb hK hP h_1 dX5_isDone_28 ?_
    refine lv_aload_n hx hb dX5_isDone_29 rfl (lv_at hl 0 rfl) ?_
    refine get_M_numbers hx hb hts hinX5 hown hK hP (hts (.fieldLink RX5 31 "GrooveTurnsModel" "numbers" "[I") (by decide +kernel)) dX5_isDone_30 ?_
    refine lv_iload_n hx hb dX5_isDone_33 rfl (lv_at hl 1 rfl) ?_
    refine ld_M_nu hx hb hK hP h_1 dX5_isDone_34 ?_
    refine wrV0 (As := [.int ((m_as σ) p1.toNatClampNeg), .int ((m_nu σ) p1.toNatClampNeg)]) (rest := []) (c_X5_doWrite l G α σ ((m_as σ) p1.toNatClampNeg) ((m_nu σ) p1.toNatClampNeg) h_3) hF (cwV 2 hts gX5_isDone_X5_doWrite rfl rfl rfl (by decide +kernel) ⟨Nat.le_of_ble_eq_true rfl, Nat.le_of_ble_eq_true rfl⟩) (rcv_M hK hP) hK hP hD hS (fst_M _ _) rfl hl.1 rfl (Nat.le_of_ble_eq_true rfl) dX5_isDone_35 ⟨Nat.zero_le _, Nat.zero_le _⟩ (fun H locs hP hD hS => ?_)
    have hP : va_P G.1 vwCl (mW G.2.1 α (t1_X5_isDone σ p1)) H := hP
    have hD : va_D (inW w0) (mW G.2.1 α (t1_X5_isDone σ p1)) := hD
    refine lv_istore_n (lv' := [(2, .int ((s_X5_doWrite σ ((m_as σ) p1.toNatClampNeg) ((m_nu σ) p1.toNatClampNeg)).1)), (0, .ref (α 0)), (1, .int p1)]) hx hb dX5_isDone_38 rfl hl (by decide) rfl (fun ls hl => ?_)
    refine lv_iload_n hx hb dX5_isDone_39 rfl (lv_at hl 0 rfl) ?_
    refine lv_if_lt (tgt := 47) hx hb dX5_isDone_40 (by decide) (fun (c_4 : ((s_X5_doWrite σ ((m_as σ) p1.toNatClampNeg) ((m_nu σ) p1.toNatClampNeg)).1) < 0) => ?_) (fun (c_4 : ¬ ((s_X5_doWrite σ ((m_as σ) p1.toNatClampNeg) ((m_nu σ) p1.toNatClampNeg)).1) < 0) => ?_)
    · skip
      refine lv_iconst (v := 0) hx hb dX5_isDone_47 (by decide) ?_
      have E9 : s_X5_isDone σ p1 = (0, (t1_X5_isDone σ p1)) := by rw [s_X5_isDone]; rw [if_pos c_2, if_pos c_4]
      rw [pr1 E9, pr2 E9]
      exact W.zret (ty := .boolean) hx hb hr rfl (fun t ht hW => ⟨rfl, by rw [ht]; exact hP, hS.F ht⟩) hS.2.2 dX5_isDone_48
    · skip
      refine lv_iconst (v := 1) hx hb dX5_isDone_43 (by decide) ?_
      refine lv_goto (tgt := 48) hx hb dX5_isDone_44 (by decide) ?_
      have E9 : s_X5_isDone σ p1 = (1, (t1_X5_isDone σ p1)) := by rw [s_X5_isDone]; rw [if_pos c_2, if_neg c_4]
      rw [pr1 E9, pr2 E9]
      exact W.zret (ty := .boolean) hx hb hr rfl (fun t ht hW => ⟨rfl, by rw [ht]; exact hP, hS.F ht⟩) hS.2.2 dX5_isDone_48
  · skip
    have hok := hok.2 c_2
    have h_5 := hok
    refine lv_aload_n hx hb dX5_isDone_9 rfl (lv_at hl 0 rfl) ?_
    refine lv_aload_n hx hb dX5_isDone_10 rfl (lv_at hl 0 rfl) ?_
    refine get_M_asked hx hb hts hinX5 hown hK hP (hts (.fieldLink RX5 28 "GrooveTurnsModel" "asked" "[I") (by decide +kernel)) dX5_isDone_11 ?_
    refine lv_iload_n hx hb dX5_isDone_14 rfl (lv_at hl 1 rfl) ?_
    refine ld_M_as hx hb hK hP h_1 dX5_isDone_15 ?_
    refine wrV0 (As := [.int ((m_as σ) p1.toNatClampNeg)]) (rest := []) (c_X5_doRead l G α σ ((m_as σ) p1.toNatClampNeg) h_5) hF (cwV 1 hts gX5_isDone_X5_doRead rfl rfl rfl (by decide +kernel) ⟨Nat.le_of_ble_eq_true rfl, Nat.le_of_ble_eq_true rfl⟩) (rcv_M hK hP) hK hP hD hS (fst_M _ _) rfl hl.1 rfl (Nat.le_of_ble_eq_true rfl) dX5_isDone_16 ⟨Nat.zero_le _, Nat.zero_le _⟩ (fun H locs hP hD hS => ?_)
    have hP : va_P G.1 vwCl (mW G.2.1 α ((s_X5_doRead σ ((m_as σ) p1.toNatClampNeg)).2)) H := hP
    have hD : va_D (inW w0) (mW G.2.1 α ((s_X5_doRead σ ((m_as σ) p1.toNatClampNeg)).2)) := hD
    refine lv_goto (tgt := 38) hx hb dX5_isDone_19 (by decide) ?_
    refine lv_istore_n (lv' := [(2, .int ((s_X5_doRead σ ((m_as σ) p1.toNatClampNeg)).1)), (0, .ref (α 0)), (1, .int p1)]) hx hb dX5_isDone_38 rfl hl (by decide) rfl (fun ls hl => ?_)
    refine lv_iload_n hx hb dX5_isDone_39 rfl (lv_at hl 0 rfl) ?_
    refine lv_if_lt (tgt := 47) hx hb dX5_isDone_40 (by decide) (fun (c_6 : ((s_X5_doRead σ ((m_as σ) p1.toNatClampNeg)).1) < 0) => ?_) (fun (c_6 : ¬ ((s_X5_doRead σ ((m_as σ) p1.toNatClampNeg)).1) < 0) => ?_)
    · skip
      refine lv_iconst (v := 0) hx hb dX5_isDone_47 (by decide) ?_
      have E9 : s_X5_isDone σ p1 = (0, ((s_X5_doRead σ ((m_as σ) p1.toNatClampNeg)).2)) := by rw [s_X5_isDone]; rw [if_neg c_2, if_pos c_6]
      rw [pr1 E9, pr2 E9]
      exact W.zret (ty := .boolean) hx hb hr rfl (fun t ht hW => ⟨rfl, by rw [ht]; exact hP, hS.F ht⟩) hS.2.2 dX5_isDone_48
    · skip
      refine lv_iconst (v := 1) hx hb dX5_isDone_43 (by decide) ?_
      refine lv_goto (tgt := 48) hx hb dX5_isDone_44 (by decide) ?_
      have E9 : s_X5_isDone σ p1 = (1, ((s_X5_doRead σ ((m_as σ) p1.toNatClampNeg)).2)) := by rw [s_X5_isDone]; rw [if_neg c_2, if_neg c_6]
      rw [pr1 E9, pr2 E9]
      exact W.zret (ty := .boolean) hx hb hr rfl (fun t ht hW => ⟨rfl, by rw [ht]; exact hP, hS.F ht⟩) hS.2.2 dX5_isDone_48
def t1_X5_runs (σ : MS) (p1 : Int32) (v1_2 : Int32) (τ1_0 : MS) : MS := (m_tr' τ1_0 (upd (m_tr τ1_0) v1_2.toNatClampNeg ((s_X5_sectorOf τ1_0 ((m_as τ1_0) v1_2.toNatClampNeg)) / 12)))
def L3_X5_runs (σ : MS) (p1 : Int32) (v1_2 : Int32) (τ1_0 : MS) (v2_2 : Int32) (v2_3 : Int32) (τ2_0 : MS) (K : Int32 → Int32 → MS → Int32 × MS) : Nat → Int32 → Int32 → MS → Int32 × MS
  | 0, v3_2, v3_4, τ3_0 => (0, τ3_0)
  | n + 1, v3_2, v3_4, τ3_0 => (if (m_rq τ3_0) ≤ v3_4 then (K v3_2 (v2_3 + 1) τ3_0) else (if ((m_tr τ3_0) v3_4.toNatClampNeg) = v2_3 then (if ((s_X5_isDone τ3_0 v3_4).1) = 0 then (L3_X5_runs σ p1 v1_2 τ1_0 v2_2 v2_3 τ2_0 K n (v3_2 + 0) (v3_4 + 1) ((s_X5_isDone τ3_0 v3_4).2)) else (L3_X5_runs σ p1 v1_2 τ1_0 v2_2 v2_3 τ2_0 K n (v3_2 + 1) (v3_4 + 1) ((s_X5_isDone τ3_0 v3_4).2))) else (L3_X5_runs σ p1 v1_2 τ1_0 v2_2 v2_3 τ2_0 K n v3_2 (v3_4 + 1) τ3_0)))
def okL3_X5_runs (σ : MS) (p1 : Int32) (v1_2 : Int32) (τ1_0 : MS) (v2_2 : Int32) (v2_3 : Int32) (τ2_0 : MS) (K : Int32 → Int32 → MS → Prop) : Nat → Int32 → Int32 → MS → Prop
  | 0, _, _, _ => False
  | n + 1, v3_2, v3_4, τ3_0 => ((m_rq τ3_0) ≤ v3_4 → (K v3_2 (v2_3 + 1) τ3_0)) ∧ (¬ (m_rq τ3_0) ≤ v3_4 → ((vp_in v3_4 30) ∧ ((((m_tr τ3_0) v3_4.toNatClampNeg) = v2_3 → ((ok_X5_isDone τ3_0 v3_4) ∧ ((((s_X5_isDone τ3_0 v3_4).1) = 0 → (okL3_X5_runs σ p1 v1_2 τ1_0 v2_2 v2_3 τ2_0 K n (v3_2 + 0) (v3_4 + 1) ((s_X5_isDone τ3_0 v3_4).2))) ∧ (¬ ((s_X5_isDone τ3_0 v3_4).1) = 0 → (okL3_X5_runs σ p1 v1_2 τ1_0 v2_2 v2_3 τ2_0 K n (v3_2 + 1) (v3_4 + 1) ((s_X5_isDone τ3_0 v3_4).2)))))) ∧ (¬ ((m_tr τ3_0) v3_4.toNatClampNeg) = v2_3 → (okL3_X5_runs σ p1 v1_2 τ1_0 v2_2 v2_3 τ2_0 K n v3_2 (v3_4 + 1) τ3_0)))))
def L2_X5_runs (σ : MS) (p1 : Int32) (v1_2 : Int32) (τ1_0 : MS) : Nat → Int32 → Int32 → MS → Int32 × MS
  | 0, v2_2, v2_3, τ2_0 => (0, τ2_0)
  | n + 1, v2_2, v2_3, τ2_0 => (if 16 < v2_3 then (v2_2, τ2_0) else (L3_X5_runs σ p1 v1_2 τ1_0 v2_2 v2_3 τ2_0 (fun kv2_2 kv2_3 kτ2_0 => (L2_X5_runs σ p1 v1_2 τ1_0 n kv2_2 kv2_3 kτ2_0)) FU v2_2 0 τ2_0))
def okL2_X5_runs (σ : MS) (p1 : Int32) (v1_2 : Int32) (τ1_0 : MS) : Nat → Int32 → Int32 → MS → Prop
  | 0, _, _, _ => False
  | n + 1, v2_2, v2_3, τ2_0 => (16 < v2_3 → True) ∧ (¬ 16 < v2_3 → (okL3_X5_runs σ p1 v1_2 τ1_0 v2_2 v2_3 τ2_0 (fun kv2_2 kv2_3 kτ2_0 => okL2_X5_runs σ p1 v1_2 τ1_0 n kv2_2 kv2_3 kτ2_0) FU v2_2 0 τ2_0))
def L1_X5_runs (σ : MS) (p1 : Int32) : Nat → Int32 → MS → Int32 × MS
  | 0, v1_2, τ1_0 => (0, τ1_0)
  | n + 1, v1_2, τ1_0 => (if (m_rq τ1_0) ≤ v1_2 then (L2_X5_runs σ p1 v1_2 τ1_0 FU 0 0 τ1_0) else (if p1 = 0 then (L1_X5_runs σ p1 n (v1_2 + 1) (m_tr' τ1_0 (upd (m_tr τ1_0) v1_2.toNatClampNeg 0))) else (L1_X5_runs σ p1 n (v1_2 + 1) (t1_X5_runs σ p1 v1_2 τ1_0))))
def okL1_X5_runs (σ : MS) (p1 : Int32) : Nat → Int32 → MS → Prop
  | 0, _, _ => False
  | n + 1, v1_2, τ1_0 => ((m_rq τ1_0) ≤ v1_2 → (okL2_X5_runs σ p1 v1_2 τ1_0 FU 0 0 τ1_0)) ∧ (¬ (m_rq τ1_0) ≤ v1_2 → ((p1 = 0 → ((vp_in v1_2 30) ∧ (okL1_X5_runs σ p1 n (v1_2 + 1) (m_tr' τ1_0 (upd (m_tr τ1_0) v1_2.toNatClampNeg 0))))) ∧ (¬ p1 = 0 → ((vp_in v1_2 30) ∧ ((ok_X5_sectorOf τ1_0 ((m_as τ1_0) v1_2.toNatClampNeg)) ∧ (okL1_X5_runs σ p1 n (v1_2 + 1) (t1_X5_runs σ p1 v1_2 τ1_0)))))))
def s_X5_runs (σ : MS) (p1 : Int32) : Int32 × MS := (L1_X5_runs σ p1 FU 0 σ)
def ok_X5_runs (σ : MS) (p1 : Int32) : Prop := okL1_X5_runs σ p1 FU 0 σ
set_option maxHeartbeats 4000000 in
set_option maxRecDepth 100000 in
theorem wL3_X5_runs {p : Program} {e : Env} {s : State} {m : MethodId} {args : Array Value} {below : List Frame} {meth : Method} {c : Code} {w0 : va_W} (l : Launch) (G : GG) (α : Nat → Nat) (σ : MS) (p1 : Int32) (v1_2 : Int32) (τ1_0 : MS) (v2_2 : Int32) (v2_3 : Int32) (τ2_0 : MS) (C0 : cA p s m meth c args cX5_runs 5 (some .int) wsX5_runs RX5) (hK : cK G s) (K : Int32 → Int32 → MS → Int32 × MS) (okK : Int32 → Int32 → MS → Prop) (hKK : ∀ (v2_2 : Int32) (v2_3 : Int32) (τ2_0 : MS)  (hok : okK v2_2 v2_3 τ2_0) (H : Heap) (locs : List Loc), va_P G.1 vwCl (mW G.2.1 α τ2_0) H → va_D (inW w0) (mW G.2.1 α τ2_0) → va_S (inW w0) s.heap H locs → ∀ (ls : Array Slot), lv_has ls 5 [(0, .ref (α 0)), (1, .int p1), (2, .int v2_2), (3, .int v2_3)] → W p l e (rmm 6 137) s m args below meth c H locs 0 0 (MQ below (QW G w0 (mW G.2.1 α ((K v2_2 v2_3 τ2_0).2)) (some (.int (K v2_2 v2_3 τ2_0).1))) args s 0 0 (inW w0)) (F0 m 47 ls [])) : ∀ (n : Nat) (v3_2 : Int32) (v3_4 : Int32) (τ3_0 : MS)  (hok : okL3_X5_runs σ p1 v1_2 τ1_0 v2_2 v2_3 τ2_0 okK n v3_2 v3_4 τ3_0) (H : Heap) (locs : List Loc), va_P G.1 vwCl (mW G.2.1 α τ3_0) H → va_D (inW w0) (mW G.2.1 α τ3_0) → va_S (inW w0) s.heap H locs → ∀ (ls : Array Slot), lv_has ls 5 [(0, .ref (α 0)), (1, .int p1), (2, .int v3_2), (3, .int v2_3), (4, .int v3_4)] → W p l e (rmm 6 137) s m args below meth c H locs 0 0 (MQ below (QW G w0 (mW G.2.1 α ((L3_X5_runs σ p1 v1_2 τ1_0 v2_2 v2_3 τ2_0 K n v3_2 v3_4 τ3_0).2)) (some (.int (L3_X5_runs σ p1 v1_2 τ1_0 v2_2 v2_3 τ2_0 K n v3_2 v3_4 τ3_0).1))) args s 0 0 (inW w0)) (F0 m 56 ls []) := by
  obtain ⟨hx, hb, hr, hml, hown, hts, hlocks⟩ := id C0
  have hF : CallFix p m c cX5_runs 5 s args wsX5_runs RX5 := ⟨hx, hb, hml, hown, hts⟩
  have hinX5 : ∀ w ∈ wsX50, w ∈ wsX5_runs := by decide +kernel
  intro n
  induction n with
  | zero =>
    intro v3_2 v3_4 τ3_0 hok
    exact hok.elim
  | succ n ih =>
    intro v3_2 v3_4 τ3_0 hok H locs hP hD hS ls hl
    have hok : ((m_rq τ3_0) ≤ v3_4 → (okK v3_2 (v2_3 + 1) τ3_0)) ∧ (¬ (m_rq τ3_0) ≤ v3_4 → ((vp_in v3_4 30) ∧ ((((m_tr τ3_0) v3_4.toNatClampNeg) = v2_3 → ((ok_X5_isDone τ3_0 v3_4) ∧ ((((s_X5_isDone τ3_0 v3_4).1) = 0 → (okL3_X5_runs σ p1 v1_2 τ1_0 v2_2 v2_3 τ2_0 okK n (v3_2 + 0) (v3_4 + 1) ((s_X5_isDone τ3_0 v3_4).2))) ∧ (¬ ((s_X5_isDone τ3_0 v3_4).1) = 0 → (okL3_X5_runs σ p1 v1_2 τ1_0 v2_2 v2_3 τ2_0 okK n (v3_2 + 1) (v3_4 + 1) ((s_X5_isDone τ3_0 v3_4).2)))))) ∧ (¬ ((m_tr τ3_0) v3_4.toNatClampNeg) = v2_3 → (okL3_X5_runs σ p1 v1_2 τ1_0 v2_2 v2_3 τ2_0 okK n v3_2 (v3_4 + 1) τ3_0))))) := hok
    refine lv_iload hx hb dX5_runs_56 (lv_at hl 4 rfl) ?_
    refine lv_aload_n hx hb dX5_runs_58 rfl (lv_at hl 0 rfl) ?_
    refine get_M_requests hx hb hts hinX5 hown hK hP (hts (.fieldLink RX5 163 "GrooveTurnsModel" "requests" "I") (by decide +kernel)) dX5_runs_59 ?_
    refine lv_icmp_ge (tgt := 99) hx hb dX5_runs_62 (by decide) (fun (c_3 : (m_rq τ3_0) ≤ v3_4) => ?_) (fun (c_3 : ¬ (m_rq τ3_0) ≤ v3_4) => ?_)
    · skip
      have hok := hok.1 c_3
      refine lv_iinc (v := (v2_3 + 1)) (lv' := [(3, .int (v2_3 + 1)), (0, .ref (α 0)), (1, .int p1), (2, .int v3_2), (4, .int v3_4)]) hx hb dX5_runs_99 hl (k := 3) rfl rfl (by decide) rfl (fun ls hl => ?_)
      refine lv_goto (tgt := 47) hx hb dX5_runs_102 (by decide) ?_
      rw [show (L3_X5_runs σ p1 v1_2 τ1_0 v2_2 v2_3 τ2_0 K (n + 1) v3_2 v3_4 τ3_0) = (K v3_2 (v2_3 + 1) τ3_0) from by rw [L3_X5_runs]; rw [if_pos c_3]]
      exact hKK v3_2 (v2_3 + 1) τ3_0 hok _ _ hP hD hS ls (lv_sub hl [1, 2, 3, 0] rfl)
    · skip
      have hok := hok.2 c_3
      obtain ⟨h_4, hok⟩ := hok
      refine lv_aload_n hx hb dX5_runs_65 rfl (lv_at hl 0 rfl) ?_
      refine get_M_trackOf hx hb hts hinX5 hown hK hP (hts (.fieldLink RX5 34 "GrooveTurnsModel" "trackOf" "[I") (by decide +kernel)) dX5_runs_66 ?_
      refine lv_iload hx hb dX5_runs_69 (lv_at hl 4 rfl) ?_
      refine ld_M_tr hx hb hK hP h_4 dX5_runs_71 ?_
      refine lv_iload_n hx hb dX5_runs_72 rfl (lv_at hl 3 rfl) ?_
      refine lv_icmp_ne (tgt := 93) hx hb dX5_runs_73 (by decide) (fun (c_5 : ¬ ((m_tr τ3_0) v3_4.toNatClampNeg) = v2_3) => ?_) (fun (c_5 : ((m_tr τ3_0) v3_4.toNatClampNeg) = v2_3) => ?_)
      · skip
        have hok := hok.2 c_5
        refine lv_iinc (v := (v3_4 + 1)) (lv' := [(4, .int (v3_4 + 1)), (0, .ref (α 0)), (1, .int p1), (2, .int v3_2), (3, .int v2_3)]) hx hb dX5_runs_93 hl (k := 4) rfl rfl (by decide) rfl (fun ls hl => ?_)
        refine lv_goto (tgt := 56) hx hb dX5_runs_96 (by decide) ?_
        rw [show (L3_X5_runs σ p1 v1_2 τ1_0 v2_2 v2_3 τ2_0 K (n + 1) v3_2 v3_4 τ3_0) = (L3_X5_runs σ p1 v1_2 τ1_0 v2_2 v2_3 τ2_0 K n v3_2 (v3_4 + 1) τ3_0) from by rw [L3_X5_runs]; rw [if_neg c_3, if_neg c_5]]
        exact ih v3_2 (v3_4 + 1) τ3_0 hok _ _ hP hD hS ls (lv_sub hl [1, 2, 3, 4, 0] rfl)
      · skip
        have hok := hok.1 c_5
        obtain ⟨h_6, hok⟩ := hok
        refine lv_iload_n hx hb dX5_runs_76 rfl (lv_at hl 2 rfl) ?_
        refine lv_aload_n hx hb dX5_runs_77 rfl (lv_at hl 0 rfl) ?_
        refine lv_iload hx hb dX5_runs_78 (lv_at hl 4 rfl) ?_
        refine wrV0 (As := [.int v3_4]) (rest := [.int v3_2]) (c_X5_isDone l G α τ3_0 v3_4 h_6) hF (cwV 1 hts gX5_runs_X5_isDone rfl rfl rfl (by decide +kernel) ⟨Nat.le_of_ble_eq_true rfl, Nat.le_of_ble_eq_true rfl⟩) (rcv_M hK hP) hK hP hD hS (fst_M _ _) rfl hl.1 rfl (Nat.le_of_ble_eq_true rfl) dX5_runs_80 ⟨Nat.zero_le _, Nat.zero_le _⟩ (fun H locs hP hD hS => ?_)
        have hP : va_P G.1 vwCl (mW G.2.1 α ((s_X5_isDone τ3_0 v3_4).2)) H := hP
        have hD : va_D (inW w0) (mW G.2.1 α ((s_X5_isDone τ3_0 v3_4).2)) := hD
        refine lv_if_eq (tgt := 90) hx hb dX5_runs_83 (by decide) (fun (c_7 : ((s_X5_isDone τ3_0 v3_4).1) = 0) => ?_) (fun (c_7 : ¬ ((s_X5_isDone τ3_0 v3_4).1) = 0) => ?_)
        · skip
          have hok := hok.1 c_7
          refine lv_iconst (v := 0) hx hb dX5_runs_90 (by decide) ?_
          refine lv_iadd hx hb dX5_runs_91 ?_
          refine lv_istore_n (lv' := [(2, .int (v3_2 + 0)), (0, .ref (α 0)), (1, .int p1), (3, .int v2_3), (4, .int v3_4)]) hx hb dX5_runs_92 rfl hl (by decide) rfl (fun ls hl => ?_)
          refine lv_iinc (v := (v3_4 + 1)) (lv' := [(4, .int (v3_4 + 1)), (2, .int (v3_2 + 0)), (0, .ref (α 0)), (1, .int p1), (3, .int v2_3)]) hx hb dX5_runs_93 hl (k := 4) rfl rfl (by decide) rfl (fun ls hl => ?_)
          refine lv_goto (tgt := 56) hx hb dX5_runs_96 (by decide) ?_
          rw [show (L3_X5_runs σ p1 v1_2 τ1_0 v2_2 v2_3 τ2_0 K (n + 1) v3_2 v3_4 τ3_0) = (L3_X5_runs σ p1 v1_2 τ1_0 v2_2 v2_3 τ2_0 K n (v3_2 + 0) (v3_4 + 1) ((s_X5_isDone τ3_0 v3_4).2)) from by rw [L3_X5_runs]; rw [if_neg c_3, if_pos c_5, if_pos c_7]]
          exact ih (v3_2 + 0) (v3_4 + 1) ((s_X5_isDone τ3_0 v3_4).2) hok _ _ hP hD hS ls (lv_sub hl [2, 3, 1, 4, 0] rfl)
        · skip
          have hok := hok.2 c_7
          refine lv_iconst (v := 1) hx hb dX5_runs_86 (by decide) ?_
          refine lv_goto (tgt := 91) hx hb dX5_runs_87 (by decide) ?_
          refine lv_iadd hx hb dX5_runs_91 ?_
          refine lv_istore_n (lv' := [(2, .int (v3_2 + 1)), (0, .ref (α 0)), (1, .int p1), (3, .int v2_3), (4, .int v3_4)]) hx hb dX5_runs_92 rfl hl (by decide) rfl (fun ls hl => ?_)
          refine lv_iinc (v := (v3_4 + 1)) (lv' := [(4, .int (v3_4 + 1)), (2, .int (v3_2 + 1)), (0, .ref (α 0)), (1, .int p1), (3, .int v2_3)]) hx hb dX5_runs_93 hl (k := 4) rfl rfl (by decide) rfl (fun ls hl => ?_)
          refine lv_goto (tgt := 56) hx hb dX5_runs_96 (by decide) ?_
          rw [show (L3_X5_runs σ p1 v1_2 τ1_0 v2_2 v2_3 τ2_0 K (n + 1) v3_2 v3_4 τ3_0) = (L3_X5_runs σ p1 v1_2 τ1_0 v2_2 v2_3 τ2_0 K n (v3_2 + 1) (v3_4 + 1) ((s_X5_isDone τ3_0 v3_4).2)) from by rw [L3_X5_runs]; rw [if_neg c_3, if_pos c_5, if_neg c_7]]
          exact ih (v3_2 + 1) (v3_4 + 1) ((s_X5_isDone τ3_0 v3_4).2) hok _ _ hP hD hS ls (lv_sub hl [2, 3, 1, 4, 0] rfl)
set_option maxHeartbeats 4000000 in
set_option maxRecDepth 100000 in
theorem wL2_X5_runs {p : Program} {e : Env} {s : State} {m : MethodId} {args : Array Value} {below : List Frame} {meth : Method} {c : Code} {w0 : va_W} (l : Launch) (G : GG) (α : Nat → Nat) (σ : MS) (p1 : Int32) (v1_2 : Int32) (τ1_0 : MS) (C0 : cA p s m meth c args cX5_runs 5 (some .int) wsX5_runs RX5) (hK : cK G s) : ∀ (n : Nat) (v2_2 : Int32) (v2_3 : Int32) (τ2_0 : MS)  (hok : okL2_X5_runs σ p1 v1_2 τ1_0 n v2_2 v2_3 τ2_0) (H : Heap) (locs : List Loc), va_P G.1 vwCl (mW G.2.1 α τ2_0) H → va_D (inW w0) (mW G.2.1 α τ2_0) → va_S (inW w0) s.heap H locs → ∀ (ls : Array Slot), lv_has ls 5 [(0, .ref (α 0)), (1, .int p1), (2, .int v2_2), (3, .int v2_3)] → W p l e (rmm 6 137) s m args below meth c H locs 0 0 (MQ below (QW G w0 (mW G.2.1 α ((L2_X5_runs σ p1 v1_2 τ1_0 n v2_2 v2_3 τ2_0).2)) (some (.int (L2_X5_runs σ p1 v1_2 τ1_0 n v2_2 v2_3 τ2_0).1))) args s 0 0 (inW w0)) (F0 m 47 ls []) := by
  obtain ⟨hx, hb, hr, hml, hown, hts, hlocks⟩ := id C0
  have hF : CallFix p m c cX5_runs 5 s args wsX5_runs RX5 := ⟨hx, hb, hml, hown, hts⟩
  have hinX5 : ∀ w ∈ wsX50, w ∈ wsX5_runs := by decide +kernel
  intro n
  induction n with
  | zero =>
    intro v2_2 v2_3 τ2_0 hok
    exact hok.elim
  | succ n ih =>
    intro v2_2 v2_3 τ2_0 hok H locs hP hD hS ls hl
    have hok : (16 < v2_3 → True) ∧ (¬ 16 < v2_3 → (okL3_X5_runs σ p1 v1_2 τ1_0 v2_2 v2_3 τ2_0 (fun kv2_2 kv2_3 kτ2_0 => okL2_X5_runs σ p1 v1_2 τ1_0 n kv2_2 kv2_3 kτ2_0) FU v2_2 0 τ2_0)) := hok
    refine lv_iload_n hx hb dX5_runs_47 rfl (lv_at hl 3 rfl) ?_
    refine lv_bipush (v := 16) hx hb dX5_runs_48 (by decide) ?_
    refine lv_icmp_gt (tgt := 105) hx hb dX5_runs_50 (by decide) (fun (c_2 : 16 < v2_3) => ?_) (fun (c_2 : ¬ 16 < v2_3) => ?_)
    · skip
      refine lv_iload_n hx hb dX5_runs_105 rfl (lv_at hl 2 rfl) ?_
      have E9 : (L2_X5_runs σ p1 v1_2 τ1_0 (n + 1) v2_2 v2_3 τ2_0) = (v2_2, τ2_0) := by rw [L2_X5_runs]; rw [if_pos c_2]
      rw [pr1 E9, pr2 E9]
      exact W.iret hx hb hr (fun t ht hW => ⟨rfl, by rw [ht]; exact hP, hS.F ht⟩) hS.2.2 dX5_runs_106
    · skip
      have hok := hok.2 c_2
      refine lv_iconst (v := 0) hx hb dX5_runs_53 (by decide) ?_
      refine lv_istore (lv' := [(4, .int 0), (0, .ref (α 0)), (1, .int p1), (2, .int v2_2), (3, .int v2_3)]) hx hb dX5_runs_54 hl (by decide) rfl (fun ls hl => ?_)
      rw [show (L2_X5_runs σ p1 v1_2 τ1_0 (n + 1) v2_2 v2_3 τ2_0) = (L3_X5_runs σ p1 v1_2 τ1_0 v2_2 v2_3 τ2_0 (fun kv2_2 kv2_3 kτ2_0 => (L2_X5_runs σ p1 v1_2 τ1_0 n kv2_2 kv2_3 kτ2_0)) FU v2_2 0 τ2_0) from by rw [L2_X5_runs]; rw [if_neg c_2]]
      exact wL3_X5_runs l G α σ p1 v1_2 τ1_0 v2_2 v2_3 τ2_0 C0 hK (fun kv2_2 kv2_3 kτ2_0 => (L2_X5_runs σ p1 v1_2 τ1_0 n kv2_2 kv2_3 kτ2_0)) (fun kv2_2 kv2_3 kτ2_0 => okL2_X5_runs σ p1 v1_2 τ1_0 n kv2_2 kv2_3 kτ2_0) ih FU v2_2 0 τ2_0 hok _ _ hP hD hS ls (lv_sub hl [1, 2, 3, 4, 0] rfl)
set_option maxHeartbeats 4000000 in
set_option maxRecDepth 100000 in
theorem wL1_X5_runs {p : Program} {e : Env} {s : State} {m : MethodId} {args : Array Value} {below : List Frame} {meth : Method} {c : Code} {w0 : va_W} (l : Launch) (G : GG) (α : Nat → Nat) (σ : MS) (p1 : Int32) (C0 : cA p s m meth c args cX5_runs 5 (some .int) wsX5_runs RX5) (hK : cK G s) : ∀ (n : Nat) (v1_2 : Int32) (τ1_0 : MS)  (hok : okL1_X5_runs σ p1 n v1_2 τ1_0) (H : Heap) (locs : List Loc), va_P G.1 vwCl (mW G.2.1 α τ1_0) H → va_D (inW w0) (mW G.2.1 α τ1_0) → va_S (inW w0) s.heap H locs → ∀ (ls : Array Slot), lv_has ls 5 [(0, .ref (α 0)), (1, .int p1), (2, .int v1_2)] → W p l e (rmm 6 137) s m args below meth c H locs 0 0 (MQ below (QW G w0 (mW G.2.1 α ((L1_X5_runs σ p1 n v1_2 τ1_0).2)) (some (.int (L1_X5_runs σ p1 n v1_2 τ1_0).1))) args s 0 0 (inW w0)) (F0 m 2 ls []) := by
  obtain ⟨hx, hb, hr, hml, hown, hts, hlocks⟩ := id C0
  have hF : CallFix p m c cX5_runs 5 s args wsX5_runs RX5 := ⟨hx, hb, hml, hown, hts⟩
  have hinX5 : ∀ w ∈ wsX50, w ∈ wsX5_runs := by decide +kernel
  intro n
  induction n with
  | zero =>
    intro v1_2 τ1_0 hok
    exact hok.elim
  | succ n ih =>
    intro v1_2 τ1_0 hok H locs hP hD hS ls hl
    have hok : ((m_rq τ1_0) ≤ v1_2 → (okL2_X5_runs σ p1 v1_2 τ1_0 FU 0 0 τ1_0)) ∧ (¬ (m_rq τ1_0) ≤ v1_2 → ((p1 = 0 → ((vp_in v1_2 30) ∧ (okL1_X5_runs σ p1 n (v1_2 + 1) (m_tr' τ1_0 (upd (m_tr τ1_0) v1_2.toNatClampNeg 0))))) ∧ (¬ p1 = 0 → ((vp_in v1_2 30) ∧ ((ok_X5_sectorOf τ1_0 ((m_as τ1_0) v1_2.toNatClampNeg)) ∧ (okL1_X5_runs σ p1 n (v1_2 + 1) (t1_X5_runs σ p1 v1_2 τ1_0))))))) := hok
    refine lv_iload_n hx hb dX5_runs_2 rfl (lv_at hl 2 rfl) ?_
    refine lv_aload_n hx hb dX5_runs_3 rfl (lv_at hl 0 rfl) ?_
    refine get_M_requests hx hb hts hinX5 hown hK hP (hts (.fieldLink RX5 163 "GrooveTurnsModel" "requests" "I") (by decide +kernel)) dX5_runs_4 ?_
    refine lv_icmp_ge (tgt := 43) hx hb dX5_runs_7 (by decide) (fun (c_1 : (m_rq τ1_0) ≤ v1_2) => ?_) (fun (c_1 : ¬ (m_rq τ1_0) ≤ v1_2) => ?_)
    · skip
      have hok := hok.1 c_1
      refine lv_iconst (v := 0) hx hb dX5_runs_43 (by decide) ?_
      refine lv_istore_n (lv' := [(2, .int 0), (0, .ref (α 0)), (1, .int p1)]) hx hb dX5_runs_44 rfl hl (by decide) rfl (fun ls hl => ?_)
      refine lv_iconst (v := 0) hx hb dX5_runs_45 (by decide) ?_
      refine lv_istore_n (lv' := [(3, .int 0), (2, .int 0), (0, .ref (α 0)), (1, .int p1)]) hx hb dX5_runs_46 rfl hl (by decide) rfl (fun ls hl => ?_)
      rw [show (L1_X5_runs σ p1 (n + 1) v1_2 τ1_0) = (L2_X5_runs σ p1 v1_2 τ1_0 FU 0 0 τ1_0) from by rw [L1_X5_runs]; rw [if_pos c_1]]
      exact wL2_X5_runs l G α σ p1 v1_2 τ1_0 C0 hK FU 0 0 τ1_0 hok _ _ hP hD hS ls (lv_sub hl [2, 3, 1, 0] rfl)
    · skip
      have hok := hok.2 c_1
      refine lv_aload_n hx hb dX5_runs_10 rfl (lv_at hl 0 rfl) ?_
      refine get_M_trackOf hx hb hts hinX5 hown hK hP (hts (.fieldLink RX5 34 "GrooveTurnsModel" "trackOf" "[I") (by decide +kernel)) dX5_runs_11 ?_
      refine lv_iload_n hx hb dX5_runs_14 rfl (lv_at hl 2 rfl) ?_
      refine lv_iload_n hx hb dX5_runs_15 rfl (lv_at hl 1 rfl) ?_
      refine lv_if_eq (tgt := 35) hx hb dX5_runs_16 (by decide) (fun (c_8 : p1 = 0) => ?_) (fun (c_8 : ¬ p1 = 0) => ?_)
      · skip
        have hok := hok.1 c_8
        obtain ⟨h_9, hok⟩ := hok
        refine lv_iconst (v := 0) hx hb dX5_runs_35 (by decide) ?_
        refine st_M_tr hx hb hK hP hD hS h_9 dX5_runs_36 (fun H locs hP hD hS => ?_)
        have hP : va_P G.1 vwCl (mW G.2.1 α (m_tr' τ1_0 (upd (m_tr τ1_0) v1_2.toNatClampNeg 0))) H := hP
        have hD : va_D (inW w0) (mW G.2.1 α (m_tr' τ1_0 (upd (m_tr τ1_0) v1_2.toNatClampNeg 0))) := hD
        refine lv_iinc (v := (v1_2 + 1)) (lv' := [(2, .int (v1_2 + 1)), (0, .ref (α 0)), (1, .int p1)]) hx hb dX5_runs_37 hl (k := 2) rfl rfl (by decide) rfl (fun ls hl => ?_)
        refine lv_goto (tgt := 2) hx hb dX5_runs_40 (by decide) ?_
        rw [show (L1_X5_runs σ p1 (n + 1) v1_2 τ1_0) = (L1_X5_runs σ p1 n (v1_2 + 1) (m_tr' τ1_0 (upd (m_tr τ1_0) v1_2.toNatClampNeg 0))) from by rw [L1_X5_runs]; rw [if_neg c_1, if_pos c_8]]
        exact ih (v1_2 + 1) (m_tr' τ1_0 (upd (m_tr τ1_0) v1_2.toNatClampNeg 0)) hok _ _ hP hD hS ls (lv_sub hl [1, 2, 0] rfl)
      · skip
        have hok := hok.2 c_8
        obtain ⟨h_10, hok⟩ := hok
        refine lv_aload_n hx hb dX5_runs_19 rfl (lv_at hl 0 rfl) ?_
        refine lv_aload_n hx hb dX5_runs_20 rfl (lv_at hl 0 rfl) ?_
        refine get_M_asked hx hb hts hinX5 hown hK hP (hts (.fieldLink RX5 28 "GrooveTurnsModel" "asked" "[I") (by decide +kernel)) dX5_runs_21 ?_
        refine lv_iload_n hx hb dX5_runs_24 rfl (lv_at hl 2 rfl) ?_
        refine ld_M_as hx hb hK hP h_10 dX5_runs_25 ?_
        obtain ⟨h_11, hok⟩ := hok
        refine rdV (As := [.int ((m_as τ1_0) v1_2.toNatClampNeg)]) (rest := [.int v1_2, .ref (α 9)]) (c_X5_sectorOf l G α τ1_0 ((m_as τ1_0) v1_2.toNatClampNeg) h_11) hF (cwV 1 hts gX5_runs_X5_sectorOf rfl rfl rfl (by decide +kernel) ⟨Nat.le_of_ble_eq_true rfl, Nat.le_of_ble_eq_true rfl⟩) (rcv_M hK hP) hK hP rfl hl.1 rfl (Nat.le_of_ble_eq_true rfl) dX5_runs_26 ⟨Nat.zero_le _, Nat.zero_le _⟩ ?_
        refine lv_bipush (v := 12) hx hb dX5_runs_29 (by decide) ?_
        refine lv_idiv hx hb dX5_runs_31 (by decide) ?_
        refine lv_goto (tgt := 36) hx hb dX5_runs_32 (by decide) ?_
        refine st_M_tr hx hb hK hP hD hS h_10 dX5_runs_36 (fun H locs hP hD hS => ?_)
        have hP : va_P G.1 vwCl (mW G.2.1 α (t1_X5_runs σ p1 v1_2 τ1_0)) H := hP
        have hD : va_D (inW w0) (mW G.2.1 α (t1_X5_runs σ p1 v1_2 τ1_0)) := hD
        refine lv_iinc (v := (v1_2 + 1)) (lv' := [(2, .int (v1_2 + 1)), (0, .ref (α 0)), (1, .int p1)]) hx hb dX5_runs_37 hl (k := 2) rfl rfl (by decide) rfl (fun ls hl => ?_)
        refine lv_goto (tgt := 2) hx hb dX5_runs_40 (by decide) ?_
        rw [show (L1_X5_runs σ p1 (n + 1) v1_2 τ1_0) = (L1_X5_runs σ p1 n (v1_2 + 1) (t1_X5_runs σ p1 v1_2 τ1_0)) from by rw [L1_X5_runs]; rw [if_neg c_1, if_neg c_8]]
        exact ih (v1_2 + 1) (t1_X5_runs σ p1 v1_2 τ1_0) hok _ _ hP hD hS ls (lv_sub hl [1, 2, 0] rfl)
set_option maxHeartbeats 4000000 in
set_option maxRecDepth 100000 in
theorem c_X5_runs (l : Launch) (G : GG) (α : Nat → Nat) (σ : MS) (p1 : Int32) (hok : ok_X5_runs σ p1) : Wr G l yX5_runs wsX5_runs 6 137 [.ref (α 0), .int p1] (mW G.2.1 α σ) (some (.int (s_X5_runs σ p1).1)) (mW G.2.1 α ((s_X5_runs σ p1).2)) := by
  refine Met.ofW (cc := cX5_runs) (maxL := 5) (ret := (some .int)) (by decide) rfl ?_
  intro p e s m args below meth c s₁ B hml hv
  obtain ⟨rfl, hP, hK, hD0⟩ := hv
  have C0 : cA p s m meth c ([.ref (α 0), .int p1] : List Value).toArray cX5_runs 5 (some .int) wsX5_runs RX5 := ⟨B.exec, B.bytes, B.returns, hml, findClass_of_methodNamed B.named, atoms_spec (ws := wsX5_runs) B.pre, B.notSynchronized⟩
  obtain ⟨hx, hb, hr, hml, hown, hts, hlocks⟩ := id C0
  have hF : CallFix p m c cX5_runs 5 s _ wsX5_runs RX5 := ⟨hx, hb, hml, hown, hts⟩
  have hinX5 : ∀ w ∈ wsX50, w ∈ wsX5_runs := by decide +kernel
  obtain ⟨w0, hw0⟩ : ∃ w0 : va_W, w0 = (mW G.2.1 α σ) := ⟨_, rfl⟩
  have hD : va_D (inW w0) (mW G.2.1 α σ) := by rw [hw0]; exact inW.D hD0
  have hS : va_S (inW w0) s.heap s.heap [] := va_S.rf
  rw [show QW G (mW G.2.1 α σ) = QW G w0 from by rw [hw0], show inW (mW G.2.1 α σ) = inW w0 from by rw [hw0]]
  have hl := lv_entry ([.ref (α 0), .int p1]) (n := 5) (Nat.le_of_ble_eq_true rfl)
  rw [lg_entry_eq]
  generalize (lg_sl ([.ref (α 0), .int p1]) ++ List.replicate (5 - (lg_sl ([.ref (α 0), .int p1])).length) Slot.unset).toArray = ls at hl ⊢
  have hl : lv_has ls 5 [(0, .ref (α 0)), (1, .int p1)] := hl
  have hok : okL1_X5_runs σ p1 FU 0 σ := hok
  refine lv_iconst (v := 0) hx hb dX5_runs_0 (by decide) ?_
  refine lv_istore_n (lv' := [(2, .int 0), (0, .ref (α 0)), (1, .int p1)]) hx hb dX5_runs_1 rfl hl (by decide) rfl (fun ls hl => ?_)
  rw [show s_X5_runs σ p1 = (L1_X5_runs σ p1 FU 0 σ) from by rw [s_X5_runs]]
  exact wL1_X5_runs l G α σ p1 C0 hK FU 0 σ hok _ _ hP hD hS ls (lv_sub hl [1, 2, 0] rfl)
def t1_X5_ifRun (σ : MS) (p1 : Int32) : MS := (s_X5_comesBack ((s_X5_runs (s_X5_keeps ((s_X5_fault σ).2)) p1).2))
def s_X5_ifRun (σ : MS) (p1 : Int32) : Int32 × MS := (if ((s_X5_fault σ).1) = (-6) then ((((m_al ((s_X5_runs (s_X5_keeps ((s_X5_fault σ).2)) p1).2)) (5 : Int32).toNatClampNeg) - ((m_al (s_X5_keeps ((s_X5_fault σ).2))) (5 : Int32).toNatClampNeg)), (t1_X5_ifRun σ p1)) else ((-3), ((s_X5_fault σ).2)))
def ok_X5_ifRun (σ : MS) (p1 : Int32) : Prop := (ok_X5_fault σ) ∧ ((((s_X5_fault σ).1) = (-6) → ((ok_X5_keeps ((s_X5_fault σ).2)) ∧ ((ok_X5_runs (s_X5_keeps ((s_X5_fault σ).2)) p1) ∧ (ok_X5_comesBack ((s_X5_runs (s_X5_keeps ((s_X5_fault σ).2)) p1).2))))) ∧ (¬ ((s_X5_fault σ).1) = (-6) → True))
set_option maxHeartbeats 4000000 in
set_option maxRecDepth 100000 in
theorem c_X5_ifRun (l : Launch) (G : GG) (α : Nat → Nat) (σ : MS) (p1 : Int32) (hok : ok_X5_ifRun σ p1) : Wr G l yX5_ifRun wsX5_ifRun 7 161 [.ref (α 0), .int p1] (mW G.2.1 α σ) (some (.int (s_X5_ifRun σ p1).1)) (mW G.2.1 α ((s_X5_ifRun σ p1).2)) := by
  refine Met.ofW (cc := cX5_ifRun) (maxL := 5) (ret := (some .int)) (by decide) rfl ?_
  intro p e s m args below meth c s₁ B hml hv
  obtain ⟨rfl, hP, hK, hD0⟩ := hv
  have C0 : cA p s m meth c ([.ref (α 0), .int p1] : List Value).toArray cX5_ifRun 5 (some .int) wsX5_ifRun RX5 := ⟨B.exec, B.bytes, B.returns, hml, findClass_of_methodNamed B.named, atoms_spec (ws := wsX5_ifRun) B.pre, B.notSynchronized⟩
  obtain ⟨hx, hb, hr, hml, hown, hts, hlocks⟩ := id C0
  have hF : CallFix p m c cX5_ifRun 5 s _ wsX5_ifRun RX5 := ⟨hx, hb, hml, hown, hts⟩
  have hinX5 : ∀ w ∈ wsX50, w ∈ wsX5_ifRun := by decide +kernel
  obtain ⟨w0, hw0⟩ : ∃ w0 : va_W, w0 = (mW G.2.1 α σ) := ⟨_, rfl⟩
  have hD : va_D (inW w0) (mW G.2.1 α σ) := by rw [hw0]; exact inW.D hD0
  have hS : va_S (inW w0) s.heap s.heap [] := va_S.rf
  rw [show QW G (mW G.2.1 α σ) = QW G w0 from by rw [hw0], show inW (mW G.2.1 α σ) = inW w0 from by rw [hw0]]
  have hl := lv_entry ([.ref (α 0), .int p1]) (n := 5) (Nat.le_of_ble_eq_true rfl)
  rw [lg_entry_eq]
  generalize (lg_sl ([.ref (α 0), .int p1]) ++ List.replicate (5 - (lg_sl ([.ref (α 0), .int p1])).length) Slot.unset).toArray = ls at hl ⊢
  have hl : lv_has ls 5 [(0, .ref (α 0)), (1, .int p1)] := hl
  have hok : (ok_X5_fault σ) ∧ ((((s_X5_fault σ).1) = (-6) → ((ok_X5_keeps ((s_X5_fault σ).2)) ∧ ((ok_X5_runs (s_X5_keeps ((s_X5_fault σ).2)) p1) ∧ (ok_X5_comesBack ((s_X5_runs (s_X5_keeps ((s_X5_fault σ).2)) p1).2))))) ∧ (¬ ((s_X5_fault σ).1) = (-6) → True)) := hok
  obtain ⟨h_1, hok⟩ := hok
  refine lv_aload_n hx hb dX5_ifRun_0 rfl (lv_at hl 0 rfl) ?_
  refine wrV0 (As := []) (rest := []) (c_X5_fault l G α σ h_1) hF (cwV 0 hts gX5_ifRun_X5_fault rfl rfl rfl (by decide +kernel) ⟨Nat.le_of_ble_eq_true rfl, Nat.le_of_ble_eq_true rfl⟩) (rcv_M hK hP) hK hP hD hS (fst_M _ _) rfl hl.1 rfl (Nat.le_of_ble_eq_true rfl) dX5_ifRun_1 ⟨Nat.zero_le _, Nat.zero_le _⟩ (fun H locs hP hD hS => ?_)
  have hP : va_P G.1 vwCl (mW G.2.1 α ((s_X5_fault σ).2)) H := hP
  have hD : va_D (inW w0) (mW G.2.1 α ((s_X5_fault σ).2)) := hD
  refine lv_bipush (v := (-6)) hx hb dX5_ifRun_4 (by decide) ?_
  refine lv_icmp_eq (tgt := 12) hx hb dX5_ifRun_6 (by decide) (fun (c_2 : ((s_X5_fault σ).1) = (-6)) => ?_) (fun (c_2 : ¬ ((s_X5_fault σ).1) = (-6)) => ?_)
  · skip
    have hok := hok.1 c_2
    obtain ⟨h_3, hok⟩ := hok
    refine lv_aload_n hx hb dX5_ifRun_12 rfl (lv_at hl 0 rfl) ?_
    refine wrV0 (As := []) (rest := []) (c_X5_keeps l G α ((s_X5_fault σ).2) h_3) hF (cwV 0 hts gX5_ifRun_X5_keeps rfl rfl rfl (by decide +kernel) ⟨Nat.le_of_ble_eq_true rfl, Nat.le_of_ble_eq_true rfl⟩) (rcv_M hK hP) hK hP hD hS (fst_M _ _) rfl hl.1 rfl (Nat.le_of_ble_eq_true rfl) dX5_ifRun_13 ⟨Nat.zero_le _, Nat.zero_le _⟩ (fun H locs hP hD hS => ?_)
    have hP : va_P G.1 vwCl (mW G.2.1 α (s_X5_keeps ((s_X5_fault σ).2))) H := hP
    have hD : va_D (inW w0) (mW G.2.1 α (s_X5_keeps ((s_X5_fault σ).2))) := hD
    obtain ⟨h_4, hok⟩ := hok
    refine lv_aload_n hx hb dX5_ifRun_16 rfl (lv_at hl 0 rfl) ?_
    refine get_M_all hx hb hts hinX5 hown hK hP (hts (.fieldLink RX5 7 "GrooveTurnsModel" "all" "[I") (by decide +kernel)) dX5_ifRun_17 ?_
    refine lv_iconst (v := 5) hx hb dX5_ifRun_20 (by decide) ?_
    refine ld_M_al hx hb hK hP (by unfold vp_in; decide) dX5_ifRun_21 ?_
    refine lv_istore_n (lv' := [(2, .int ((m_al (s_X5_keeps ((s_X5_fault σ).2))) (5 : Int32).toNatClampNeg)), (0, .ref (α 0)), (1, .int p1)]) hx hb dX5_ifRun_22 rfl hl (by decide) rfl (fun ls hl => ?_)
    refine lv_aload_n hx hb dX5_ifRun_23 rfl (lv_at hl 1 rfl) ?_
    refine lv_iload_n hx hb dX5_ifRun_24 rfl (lv_at hl 2 rfl) ?_
    refine wrV0 (As := [.int p1]) (rest := []) (c_X5_runs l G α (s_X5_keeps ((s_X5_fault σ).2)) p1 h_4) hF (cwV 1 hts gX5_ifRun_X5_runs rfl rfl rfl (by decide +kernel) ⟨Nat.le_of_ble_eq_true rfl, Nat.le_of_ble_eq_true rfl⟩) (rcv_M hK hP) hK hP hD hS (fst_M _ _) rfl hl.1 rfl (Nat.le_of_ble_eq_true rfl) dX5_ifRun_25 ⟨Nat.zero_le _, Nat.zero_le _⟩ (fun H locs hP hD hS => ?_)
    have hP : va_P G.1 vwCl (mW G.2.1 α ((s_X5_runs (s_X5_keeps ((s_X5_fault σ).2)) p1).2)) H := hP
    have hD : va_D (inW w0) (mW G.2.1 α ((s_X5_runs (s_X5_keeps ((s_X5_fault σ).2)) p1).2)) := hD
    have h_5 := hok
    refine lv_istore_n (lv' := [(3, .int ((s_X5_runs (s_X5_keeps ((s_X5_fault σ).2)) p1).1)), (2, .int ((m_al (s_X5_keeps ((s_X5_fault σ).2))) (5 : Int32).toNatClampNeg)), (0, .ref (α 0)), (1, .int p1)]) hx hb dX5_ifRun_28 rfl hl (by decide) rfl (fun ls hl => ?_)
    refine lv_aload_n hx hb dX5_ifRun_29 rfl (lv_at hl 2 rfl) ?_
    refine get_M_all hx hb hts hinX5 hown hK hP (hts (.fieldLink RX5 7 "GrooveTurnsModel" "all" "[I") (by decide +kernel)) dX5_ifRun_30 ?_
    refine lv_iconst (v := 5) hx hb dX5_ifRun_33 (by decide) ?_
    refine ld_M_al hx hb hK hP (by unfold vp_in; decide) dX5_ifRun_34 ?_
    refine lv_iload_n hx hb dX5_ifRun_35 rfl (lv_at hl 1 rfl) ?_
    refine lv_isub hx hb dX5_ifRun_36 ?_
    refine lv_istore (lv' := [(4, .int (((m_al ((s_X5_runs (s_X5_keeps ((s_X5_fault σ).2)) p1).2)) (5 : Int32).toNatClampNeg) - ((m_al (s_X5_keeps ((s_X5_fault σ).2))) (5 : Int32).toNatClampNeg))), (3, .int ((s_X5_runs (s_X5_keeps ((s_X5_fault σ).2)) p1).1)), (2, .int ((m_al (s_X5_keeps ((s_X5_fault σ).2))) (5 : Int32).toNatClampNeg)), (0, .ref (α 0)), (1, .int p1)]) hx hb dX5_ifRun_37 hl (by decide) rfl (fun ls hl => ?_)
    refine lv_aload_n hx hb dX5_ifRun_39 rfl (lv_at hl 3 rfl) ?_
    refine wrV0 (As := []) (rest := []) (c_X5_comesBack l G α ((s_X5_runs (s_X5_keeps ((s_X5_fault σ).2)) p1).2) h_5) hF (cwV 0 hts gX5_ifRun_X5_comesBack rfl rfl rfl (by decide +kernel) ⟨Nat.le_of_ble_eq_true rfl, Nat.le_of_ble_eq_true rfl⟩) (rcv_M hK hP) hK hP hD hS (fst_M _ _) rfl hl.1 rfl (Nat.le_of_ble_eq_true rfl) dX5_ifRun_40 ⟨Nat.zero_le _, Nat.zero_le _⟩ (fun H locs hP hD hS => ?_)
    have hP : va_P G.1 vwCl (mW G.2.1 α (t1_X5_ifRun σ p1)) H := hP
    have hD : va_D (inW w0) (mW G.2.1 α (t1_X5_ifRun σ p1)) := hD
    refine lv_iload hx hb dX5_ifRun_43 (lv_at hl 0 rfl) ?_
    have E9 : s_X5_ifRun σ p1 = ((((m_al ((s_X5_runs (s_X5_keeps ((s_X5_fault σ).2)) p1).2)) (5 : Int32).toNatClampNeg) - ((m_al (s_X5_keeps ((s_X5_fault σ).2))) (5 : Int32).toNatClampNeg)), (t1_X5_ifRun σ p1)) := by rw [s_X5_ifRun]; rw [if_pos c_2]
    rw [pr1 E9, pr2 E9]
    exact W.iret hx hb hr (fun t ht hW => ⟨rfl, by rw [ht]; exact hP, hS.F ht⟩) hS.2.2 dX5_ifRun_45
  · skip
    refine lv_bipush (v := (-3)) hx hb dX5_ifRun_9 (by decide) ?_
    have E9 : s_X5_ifRun σ p1 = ((-3), ((s_X5_fault σ).2)) := by rw [s_X5_ifRun]; rw [if_neg c_2]
    rw [pr1 E9, pr2 E9]
    exact W.iret hx hb hr (fun t ht hW => ⟨rfl, by rw [ht]; exact hP, hS.F ht⟩) hS.2.2 dX5_ifRun_11
def t1_X5_run (σ : MS) (p1 : Int32) : MS := ((s_X5_ends ((s_X5_runs (s_X5_keeps ((s_X5_fault σ).2)) p1).2) ((s_X5_runs (s_X5_keeps ((s_X5_fault σ).2)) p1).1)).2)
def s_X5_run (σ : MS) (p1 : Int32) : Int32 × MS := (if ((s_X5_fault σ).1) = (-6) then (((s_X5_ends ((s_X5_runs (s_X5_keeps ((s_X5_fault σ).2)) p1).2) ((s_X5_runs (s_X5_keeps ((s_X5_fault σ).2)) p1).1)).1), (m_tl' (t1_X5_run σ p1) 0)) else ((-3), ((s_X5_fault σ).2)))
def ok_X5_run (σ : MS) (p1 : Int32) : Prop := (ok_X5_fault σ) ∧ ((((s_X5_fault σ).1) = (-6) → ((ok_X5_keeps ((s_X5_fault σ).2)) ∧ ((ok_X5_runs (s_X5_keeps ((s_X5_fault σ).2)) p1) ∧ (ok_X5_ends ((s_X5_runs (s_X5_keeps ((s_X5_fault σ).2)) p1).2) ((s_X5_runs (s_X5_keeps ((s_X5_fault σ).2)) p1).1))))) ∧ (¬ ((s_X5_fault σ).1) = (-6) → True))
set_option maxHeartbeats 4000000 in
set_option maxRecDepth 100000 in
theorem c_X5_run (l : Launch) (G : GG) (α : Nat → Nat) (σ : MS) (p1 : Int32) (hok : ok_X5_run σ p1) : Wr G l yX5_run wsX5_run 7 161 [.ref (α 0), .int p1] (mW G.2.1 α σ) (some (.int (s_X5_run σ p1).1)) (mW G.2.1 α ((s_X5_run σ p1).2)) := by
  refine Met.ofW (cc := cX5_run) (maxL := 3) (ret := (some .int)) (by decide) rfl ?_
  intro p e s m args below meth c s₁ B hml hv
  obtain ⟨rfl, hP, hK, hD0⟩ := hv
  have C0 : cA p s m meth c ([.ref (α 0), .int p1] : List Value).toArray cX5_run 3 (some .int) wsX5_run RX5 := ⟨B.exec, B.bytes, B.returns, hml, findClass_of_methodNamed B.named, atoms_spec (ws := wsX5_run) B.pre, B.notSynchronized⟩
  obtain ⟨hx, hb, hr, hml, hown, hts, hlocks⟩ := id C0
  have hF : CallFix p m c cX5_run 3 s _ wsX5_run RX5 := ⟨hx, hb, hml, hown, hts⟩
  have hinX5 : ∀ w ∈ wsX50, w ∈ wsX5_run := by decide +kernel
  obtain ⟨w0, hw0⟩ : ∃ w0 : va_W, w0 = (mW G.2.1 α σ) := ⟨_, rfl⟩
  have hD : va_D (inW w0) (mW G.2.1 α σ) := by rw [hw0]; exact inW.D hD0
  have hS : va_S (inW w0) s.heap s.heap [] := va_S.rf
  rw [show QW G (mW G.2.1 α σ) = QW G w0 from by rw [hw0], show inW (mW G.2.1 α σ) = inW w0 from by rw [hw0]]
  have hl := lv_entry ([.ref (α 0), .int p1]) (n := 3) (Nat.le_of_ble_eq_true rfl)
  rw [lg_entry_eq]
  generalize (lg_sl ([.ref (α 0), .int p1]) ++ List.replicate (3 - (lg_sl ([.ref (α 0), .int p1])).length) Slot.unset).toArray = ls at hl ⊢
  have hl : lv_has ls 3 [(0, .ref (α 0)), (1, .int p1)] := hl
  have hok : (ok_X5_fault σ) ∧ ((((s_X5_fault σ).1) = (-6) → ((ok_X5_keeps ((s_X5_fault σ).2)) ∧ ((ok_X5_runs (s_X5_keeps ((s_X5_fault σ).2)) p1) ∧ (ok_X5_ends ((s_X5_runs (s_X5_keeps ((s_X5_fault σ).2)) p1).2) ((s_X5_runs (s_X5_keeps ((s_X5_fault σ).2)) p1).1))))) ∧ (¬ ((s_X5_fault σ).1) = (-6) → True)) := hok
  obtain ⟨h_1, hok⟩ := hok
  refine lv_aload_n hx hb dX5_run_0 rfl (lv_at hl 0 rfl) ?_
  refine wrV0 (As := []) (rest := []) (c_X5_fault l G α σ h_1) hF (cwV 0 hts gX5_run_X5_fault rfl rfl rfl (by decide +kernel) ⟨Nat.le_of_ble_eq_true rfl, Nat.le_of_ble_eq_true rfl⟩) (rcv_M hK hP) hK hP hD hS (fst_M _ _) rfl hl.1 rfl (Nat.le_of_ble_eq_true rfl) dX5_run_1 ⟨Nat.zero_le _, Nat.zero_le _⟩ (fun H locs hP hD hS => ?_)
  have hP : va_P G.1 vwCl (mW G.2.1 α ((s_X5_fault σ).2)) H := hP
  have hD : va_D (inW w0) (mW G.2.1 α ((s_X5_fault σ).2)) := hD
  refine lv_bipush (v := (-6)) hx hb dX5_run_4 (by decide) ?_
  refine lv_icmp_eq (tgt := 12) hx hb dX5_run_6 (by decide) (fun (c_2 : ((s_X5_fault σ).1) = (-6)) => ?_) (fun (c_2 : ¬ ((s_X5_fault σ).1) = (-6)) => ?_)
  · skip
    have hok := hok.1 c_2
    obtain ⟨h_3, hok⟩ := hok
    refine lv_aload_n hx hb dX5_run_12 rfl (lv_at hl 0 rfl) ?_
    refine wrV0 (As := []) (rest := []) (c_X5_keeps l G α ((s_X5_fault σ).2) h_3) hF (cwV 0 hts gX5_run_X5_keeps rfl rfl rfl (by decide +kernel) ⟨Nat.le_of_ble_eq_true rfl, Nat.le_of_ble_eq_true rfl⟩) (rcv_M hK hP) hK hP hD hS (fst_M _ _) rfl hl.1 rfl (Nat.le_of_ble_eq_true rfl) dX5_run_13 ⟨Nat.zero_le _, Nat.zero_le _⟩ (fun H locs hP hD hS => ?_)
    have hP : va_P G.1 vwCl (mW G.2.1 α (s_X5_keeps ((s_X5_fault σ).2))) H := hP
    have hD : va_D (inW w0) (mW G.2.1 α (s_X5_keeps ((s_X5_fault σ).2))) := hD
    obtain ⟨h_4, hok⟩ := hok
    refine lv_aload_n hx hb dX5_run_16 rfl (lv_at hl 0 rfl) ?_
    refine lv_aload_n hx hb dX5_run_17 rfl (lv_at hl 0 rfl) ?_
    refine lv_iload_n hx hb dX5_run_18 rfl (lv_at hl 1 rfl) ?_
    refine wrV0 (As := [.int p1]) (rest := [.ref (α 0)]) (c_X5_runs l G α (s_X5_keeps ((s_X5_fault σ).2)) p1 h_4) hF (cwV 1 hts gX5_run_X5_runs rfl rfl rfl (by decide +kernel) ⟨Nat.le_of_ble_eq_true rfl, Nat.le_of_ble_eq_true rfl⟩) (rcv_M hK hP) hK hP hD hS (fst_M _ _) rfl hl.1 rfl (Nat.le_of_ble_eq_true rfl) dX5_run_19 ⟨Nat.zero_le _, Nat.zero_le _⟩ (fun H locs hP hD hS => ?_)
    have hP : va_P G.1 vwCl (mW G.2.1 α ((s_X5_runs (s_X5_keeps ((s_X5_fault σ).2)) p1).2)) H := hP
    have hD : va_D (inW w0) (mW G.2.1 α ((s_X5_runs (s_X5_keeps ((s_X5_fault σ).2)) p1).2)) := hD
    have h_5 := hok
    refine wrV0 (As := [.int ((s_X5_runs (s_X5_keeps ((s_X5_fault σ).2)) p1).1)]) (rest := []) (c_X5_ends l G α ((s_X5_runs (s_X5_keeps ((s_X5_fault σ).2)) p1).2) ((s_X5_runs (s_X5_keeps ((s_X5_fault σ).2)) p1).1) h_5) hF (cwV 1 hts gX5_run_X5_ends rfl rfl rfl (by decide +kernel) ⟨Nat.le_of_ble_eq_true rfl, Nat.le_of_ble_eq_true rfl⟩) (rcv_M hK hP) hK hP hD hS (fst_M _ _) rfl hl.1 rfl (Nat.le_of_ble_eq_true rfl) dX5_run_22 ⟨Nat.zero_le _, Nat.zero_le _⟩ (fun H locs hP hD hS => ?_)
    have hP : va_P G.1 vwCl (mW G.2.1 α (t1_X5_run σ p1)) H := hP
    have hD : va_D (inW w0) (mW G.2.1 α (t1_X5_run σ p1)) := hD
    refine lv_istore_n (lv' := [(2, .int ((s_X5_ends ((s_X5_runs (s_X5_keeps ((s_X5_fault σ).2)) p1).2) ((s_X5_runs (s_X5_keeps ((s_X5_fault σ).2)) p1).1)).1)), (0, .ref (α 0)), (1, .int p1)]) hx hb dX5_run_25 rfl hl (by decide) rfl (fun ls hl => ?_)
    refine lv_aload_n hx hb dX5_run_26 rfl (lv_at hl 1 rfl) ?_
    refine lv_iconst (v := 0) hx hb dX5_run_27 (by decide) ?_
    refine put_M_textLong hx hb hts hinX5 hown hK hP hD hS (hts (.fieldLink RX5 128 "GrooveTurnsModel" "textLong" "I") (by decide +kernel)) dX5_run_28 (fun H locs hP hD hS => ?_)
    have hP : va_P G.1 vwCl (mW G.2.1 α (m_tl' (t1_X5_run σ p1) 0)) H := hP
    have hD : va_D (inW w0) (mW G.2.1 α (m_tl' (t1_X5_run σ p1) 0)) := hD
    refine lv_iload_n hx hb dX5_run_31 rfl (lv_at hl 0 rfl) ?_
    have E9 : s_X5_run σ p1 = (((s_X5_ends ((s_X5_runs (s_X5_keeps ((s_X5_fault σ).2)) p1).2) ((s_X5_runs (s_X5_keeps ((s_X5_fault σ).2)) p1).1)).1), (m_tl' (t1_X5_run σ p1) 0)) := by rw [s_X5_run]; rw [if_pos c_2]
    rw [pr1 E9, pr2 E9]
    exact W.iret hx hb hr (fun t ht hW => ⟨rfl, by rw [ht]; exact hP, hS.F ht⟩) hS.2.2 dX5_run_32
  · skip
    refine lv_bipush (v := (-3)) hx hb dX5_run_9 (by decide) ?_
    have E9 : s_X5_run σ p1 = ((-3), ((s_X5_fault σ).2)) := by rw [s_X5_run]; rw [if_neg c_2]
    rw [pr1 E9, pr2 E9]
    exact W.iret hx hb hr (fun t ht hW => ⟨rfl, by rw [ht]; exact hP, hS.F ht⟩) hS.2.2 dX5_run_11
