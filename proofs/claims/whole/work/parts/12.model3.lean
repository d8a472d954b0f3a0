def L1_X5_addresses (σ : MS) (p1 : Int32) (p2 : Int32) : Nat → Int32 → Int32 → Int32
  | 0, v1_3, v1_4 => 0
  | n + 1, v1_3, v1_4 => (if 192 ≤ v1_4 then v1_3 else (if (s_X5_holds σ v1_4) = 0 then (L1_X5_addresses σ p1 p2 n (v1_3 + 0) (v1_4 + 1)) else (if p1 = (-6) then (if p2 = 0 then (L1_X5_addresses σ p1 p2 n (v1_3 + 1) (v1_4 + 1)) else (if (s_X5_canBeRead σ v1_4) = 0 then (L1_X5_addresses σ p1 p2 n (v1_3 + 1) (v1_4 + 1)) else (L1_X5_addresses σ p1 p2 n (v1_3 + 0) (v1_4 + 1)))) else (if ((s_X5_sectorOf σ v1_4) / 12) = p1 then (if p2 = 0 then (L1_X5_addresses σ p1 p2 n (v1_3 + 1) (v1_4 + 1)) else (if (s_X5_canBeRead σ v1_4) = 0 then (L1_X5_addresses σ p1 p2 n (v1_3 + 1) (v1_4 + 1)) else (L1_X5_addresses σ p1 p2 n (v1_3 + 0) (v1_4 + 1)))) else (L1_X5_addresses σ p1 p2 n (v1_3 + 0) (v1_4 + 1))))))
def okL1_X5_addresses (σ : MS) (p1 : Int32) (p2 : Int32) : Nat → Int32 → Int32 → Prop
  | 0, _, _ => False
  | n + 1, v1_3, v1_4 => (192 ≤ v1_4 → True) ∧ (¬ 192 ≤ v1_4 → ((ok_X5_holds σ v1_4) ∧ (((s_X5_holds σ v1_4) = 0 → (okL1_X5_addresses σ p1 p2 n (v1_3 + 0) (v1_4 + 1))) ∧ (¬ (s_X5_holds σ v1_4) = 0 → ((p1 = (-6) → ((p2 = 0 → (okL1_X5_addresses σ p1 p2 n (v1_3 + 1) (v1_4 + 1))) ∧ (¬ p2 = 0 → ((ok_X5_canBeRead σ v1_4) ∧ (((s_X5_canBeRead σ v1_4) = 0 → (okL1_X5_addresses σ p1 p2 n (v1_3 + 1) (v1_4 + 1))) ∧ (¬ (s_X5_canBeRead σ v1_4) = 0 → (okL1_X5_addresses σ p1 p2 n (v1_3 + 0) (v1_4 + 1)))))))) ∧ (¬ p1 = (-6) → ((ok_X5_sectorOf σ v1_4) ∧ ((((s_X5_sectorOf σ v1_4) / 12) = p1 → ((p2 = 0 → (okL1_X5_addresses σ p1 p2 n (v1_3 + 1) (v1_4 + 1))) ∧ (¬ p2 = 0 → ((ok_X5_canBeRead σ v1_4) ∧ (((s_X5_canBeRead σ v1_4) = 0 → (okL1_X5_addresses σ p1 p2 n (v1_3 + 1) (v1_4 + 1))) ∧ (¬ (s_X5_canBeRead σ v1_4) = 0 → (okL1_X5_addresses σ p1 p2 n (v1_3 + 0) (v1_4 + 1)))))))) ∧ (¬ ((s_X5_sectorOf σ v1_4) / 12) = p1 → (okL1_X5_addresses σ p1 p2 n (v1_3 + 0) (v1_4 + 1)))))))))))
def s_X5_addresses (σ : MS) (p1 : Int32) (p2 : Int32) : Int32 := (L1_X5_addresses σ p1 p2 FU 0 0)
def ok_X5_addresses (σ : MS) (p1 : Int32) (p2 : Int32) : Prop := okL1_X5_addresses σ p1 p2 FU 0 0
set_option maxHeartbeats 4000000 in
set_option maxRecDepth 100000 in
theorem wL1_X5_addresses {p : Program} {e : Env} {s : State} {m : MethodId} {args : Array Value} {below : List Frame} {meth : Method} {c : Code} (l : Launch) (G : GG) (α : Nat → Nat) (σ : MS) (p1 : Int32) (p2 : Int32) (hP : va_P G.1 vwCl (mW G.2.1 α σ) s.heap) (C0 : cA p s m meth c args cX5_addresses 6 (some .int) wsX5_addresses RX5) (hK : cK G s) : ∀ (n : Nat) (v1_3 : Int32) (v1_4 : Int32)  (hok : okL1_X5_addresses σ p1 p2 n v1_3 v1_4) (ls : Array Slot), lv_has ls 6 [(0, .ref (α 0)), (1, .int p1), (2, .int p2), (3, .int v1_3), (4, .int v1_4)] → W p l e (rmm 3 63) s m args below meth c s.heap [] 0 0 (MQ below (QR (some (.int (L1_X5_addresses σ p1 p2 n v1_3 v1_4)))) args s 0 0 (fun _ => False)) (F0 m 5 ls []) := by
  obtain ⟨hx, hb, hr, hml, hown, hts, hlocks⟩ := id C0
  have hF : CallFix p m c cX5_addresses 6 s args wsX5_addresses RX5 := ⟨hx, hb, hml, hown, hts⟩
  intro n
  induction n with
  | zero =>
    intro v1_3 v1_4 hok
    exact hok.elim
  | succ n ih =>
    intro v1_3 v1_4 hok ls hl
    have hok : (192 ≤ v1_4 → True) ∧ (¬ 192 ≤ v1_4 → ((ok_X5_holds σ v1_4) ∧ (((s_X5_holds σ v1_4) = 0 → (okL1_X5_addresses σ p1 p2 n (v1_3 + 0) (v1_4 + 1))) ∧ (¬ (s_X5_holds σ v1_4) = 0 → ((p1 = (-6) → ((p2 = 0 → (okL1_X5_addresses σ p1 p2 n (v1_3 + 1) (v1_4 + 1))) ∧ (¬ p2 = 0 → ((ok_X5_canBeRead σ v1_4) ∧ (((s_X5_canBeRead σ v1_4) = 0 → (okL1_X5_addresses σ p1 p2 n (v1_3 + 1) (v1_4 + 1))) ∧ (¬ (s_X5_canBeRead σ v1_4) = 0 → (okL1_X5_addresses σ p1 p2 n (v1_3 + 0) (v1_4 + 1)))))))) ∧ (¬ p1 = (-6) → ((ok_X5_sectorOf σ v1_4) ∧ ((((s_X5_sectorOf σ v1_4) / 12) = p1 → ((p2 = 0 → (okL1_X5_addresses σ p1 p2 n (v1_3 + 1) (v1_4 + 1))) ∧ (¬ p2 = 0 → ((ok_X5_canBeRead σ v1_4) ∧ (((s_X5_canBeRead σ v1_4) = 0 → (okL1_X5_addresses σ p1 p2 n (v1_3 + 1) (v1_4 + 1))) ∧ (¬ (s_X5_canBeRead σ v1_4) = 0 → (okL1_X5_addresses σ p1 p2 n (v1_3 + 0) (v1_4 + 1)))))))) ∧ (¬ ((s_X5_sectorOf σ v1_4) / 12) = p1 → (okL1_X5_addresses σ p1 p2 n (v1_3 + 0) (v1_4 + 1))))))))))) := hok
    refine lv_iload hx hb dX5_addresses_5 (lv_at hl 4 rfl) ?_
    refine lv_sipush (v := 192) hx hb dX5_addresses_7 (by decide) ?_
    refine lv_icmp_ge (tgt := 80) hx hb dX5_addresses_10 (by decide) (fun (c_1 : 192 ≤ v1_4) => ?_) (fun (c_1 : ¬ 192 ≤ v1_4) => ?_)
    · skip
      refine lv_iload_n hx hb dX5_addresses_80 rfl (lv_at hl 3 rfl) ?_
      rw [show (L1_X5_addresses σ p1 p2 (n + 1) v1_3 v1_4) = v1_3 from by rw [L1_X5_addresses]; rw [if_pos c_1]]
      exact W.iret hx hb hr (fun t ht hW => ⟨rfl, ht⟩) (fun _ h => nomatch h) dX5_addresses_81
    · skip
      have hok := hok.2 c_1
      obtain ⟨h_2, hok⟩ := hok
      refine lv_aload_n hx hb dX5_addresses_13 rfl (lv_at hl 0 rfl) ?_
      refine lv_iload hx hb dX5_addresses_14 (lv_at hl 4 rfl) ?_
      refine rdV (As := [.int v1_4]) (rest := []) (c_X5_holds l G α σ v1_4 h_2) hF (cwV 1 hts gX5_addresses_X5_holds rfl rfl rfl (by decide +kernel) ⟨Nat.le_of_ble_eq_true rfl, Nat.le_of_ble_eq_true rfl⟩) (rcv_M hK hP) hK hP rfl hl.1 rfl (Nat.le_of_ble_eq_true rfl) dX5_addresses_16 ⟨Nat.zero_le _, Nat.zero_le _⟩ ?_
      refine lv_if_eq (tgt := 58) hx hb dX5_addresses_19 (by decide) (fun (c_3 : (s_X5_holds σ v1_4) = 0) => ?_) (fun (c_3 : ¬ (s_X5_holds σ v1_4) = 0) => ?_)
      · skip
        have hok := hok.1 c_3
        refine lv_iconst (v := 0) hx hb dX5_addresses_58 (by decide) ?_
        refine lv_istore (lv' := [(5, .int 0), (0, .ref (α 0)), (1, .int p1), (2, .int p2), (3, .int v1_3), (4, .int v1_4)]) hx hb dX5_addresses_59 hl (by decide) rfl (fun ls hl => ?_)
        refine lv_iload_n hx hb dX5_addresses_61 rfl (lv_at hl 4 rfl) ?_
        refine lv_iload hx hb dX5_addresses_62 (lv_at hl 0 rfl) ?_
        refine lv_if_eq (tgt := 71) hx hb dX5_addresses_64 (by decide) (fun (c_4 : 0 = 0) => ?_) (fun (c_4 : ¬ 0 = 0) => ?_)
        · skip
          refine lv_iconst (v := 0) hx hb dX5_addresses_71 (by decide) ?_
          refine lv_iadd hx hb dX5_addresses_72 ?_
          refine lv_istore_n (lv' := [(3, .int (v1_3 + 0)), (5, .int 0), (0, .ref (α 0)), (1, .int p1), (2, .int p2), (4, .int v1_4)]) hx hb dX5_addresses_73 rfl hl (by decide) rfl (fun ls hl => ?_)
          refine lv_iinc (v := (v1_4 + 1)) (lv' := [(4, .int (v1_4 + 1)), (3, .int (v1_3 + 0)), (5, .int 0), (0, .ref (α 0)), (1, .int p1), (2, .int p2)]) hx hb dX5_addresses_74 hl (k := 5) rfl rfl (by decide) rfl (fun ls hl => ?_)
          refine lv_goto (tgt := 5) hx hb dX5_addresses_77 (by decide) ?_
          rw [show (L1_X5_addresses σ p1 p2 (n + 1) v1_3 v1_4) = (L1_X5_addresses σ p1 p2 n (v1_3 + 0) (v1_4 + 1)) from by rw [L1_X5_addresses]; rw [if_neg c_1, if_pos c_3]]
          exact ih (v1_3 + 0) (v1_4 + 1) hok ls (lv_sub hl [3, 4, 5, 1, 0] rfl)
        · skip
          exact absurd (by decide) c_4
      · skip
        have hok := hok.2 c_3
        refine lv_iload_n hx hb dX5_addresses_22 rfl (lv_at hl 1 rfl) ?_
        refine lv_bipush (v := (-6)) hx hb dX5_addresses_23 (by decide) ?_
        refine lv_icmp_eq (tgt := 41) hx hb dX5_addresses_25 (by decide) (fun (c_5 : p1 = (-6)) => ?_) (fun (c_5 : ¬ p1 = (-6)) => ?_)
        · skip
          have hok := hok.1 c_5
          refine lv_iload_n hx hb dX5_addresses_41 rfl (lv_at hl 2 rfl) ?_
          refine lv_if_eq (tgt := 54) hx hb dX5_addresses_42 (by decide) (fun (c_6 : p2 = 0) => ?_) (fun (c_6 : ¬ p2 = 0) => ?_)
          · skip
            have hok := hok.1 c_6
            refine lv_iconst (v := 1) hx hb dX5_addresses_54 (by decide) ?_
            refine lv_goto (tgt := 59) hx hb dX5_addresses_55 (by decide) ?_
            refine lv_istore (lv' := [(5, .int 1), (0, .ref (α 0)), (1, .int p1), (2, .int p2), (3, .int v1_3), (4, .int v1_4)]) hx hb dX5_addresses_59 hl (by decide) rfl (fun ls hl => ?_)
            refine lv_iload_n hx hb dX5_addresses_61 rfl (lv_at hl 4 rfl) ?_
            refine lv_iload hx hb dX5_addresses_62 (lv_at hl 0 rfl) ?_
            refine lv_if_eq (tgt := 71) hx hb dX5_addresses_64 (by decide) (fun (c_7 : 1 = 0) => ?_) (fun (c_7 : ¬ 1 = 0) => ?_)
            · skip
              exact absurd c_7 (by decide)
            · skip
              refine lv_iconst (v := 1) hx hb dX5_addresses_67 (by decide) ?_
              refine lv_goto (tgt := 72) hx hb dX5_addresses_68 (by decide) ?_
              refine lv_iadd hx hb dX5_addresses_72 ?_
              refine lv_istore_n (lv' := [(3, .int (v1_3 + 1)), (5, .int 1), (0, .ref (α 0)), (1, .int p1), (2, .int p2), (4, .int v1_4)]) hx hb dX5_addresses_73 rfl hl (by decide) rfl (fun ls hl => ?_)
              refine lv_iinc (v := (v1_4 + 1)) (lv' := [(4, .int (v1_4 + 1)), (3, .int (v1_3 + 1)), (5, .int 1), (0, .ref (α 0)), (1, .int p1), (2, .int p2)]) hx hb dX5_addresses_74 hl (k := 5) rfl rfl (by decide) rfl (fun ls hl => ?_)
              refine lv_goto (tgt := 5) hx hb dX5_addresses_77 (by decide) ?_
              rw [show (L1_X5_addresses σ p1 p2 (n + 1) v1_3 v1_4) = (L1_X5_addresses σ p1 p2 n (v1_3 + 1) (v1_4 + 1)) from by rw [L1_X5_addresses]; rw [if_neg c_1, if_neg c_3, if_pos c_5, if_pos c_6]]
              exact ih (v1_3 + 1) (v1_4 + 1) hok ls (lv_sub hl [3, 4, 5, 1, 0] rfl)
          · skip
            have hok := hok.2 c_6
            obtain ⟨h_8, hok⟩ := hok
            refine lv_aload_n hx hb dX5_addresses_45 rfl (lv_at hl 0 rfl) ?_
            refine lv_iload hx hb dX5_addresses_46 (lv_at hl 4 rfl) ?_
            refine rdV (As := [.int v1_4]) (rest := []) (c_X5_canBeRead l G α σ v1_4 h_8) hF (cwV 1 hts gX5_addresses_X5_canBeRead rfl rfl rfl (by decide +kernel) ⟨Nat.le_of_ble_eq_true rfl, Nat.le_of_ble_eq_true rfl⟩) (rcv_M hK hP) hK hP rfl hl.1 rfl (Nat.le_of_ble_eq_true rfl) dX5_addresses_48 ⟨Nat.zero_le _, Nat.zero_le _⟩ ?_
            refine lv_if_ne (tgt := 58) hx hb dX5_addresses_51 (by decide) (fun (c_9 : ¬ (s_X5_canBeRead σ v1_4) = 0) => ?_) (fun (c_9 : (s_X5_canBeRead σ v1_4) = 0) => ?_)
            · skip
              have hok := hok.2 c_9
              refine lv_iconst (v := 0) hx hb dX5_addresses_58 (by decide) ?_
              refine lv_istore (lv' := [(5, .int 0), (0, .ref (α 0)), (1, .int p1), (2, .int p2), (3, .int v1_3), (4, .int v1_4)]) hx hb dX5_addresses_59 hl (by decide) rfl (fun ls hl => ?_)
              refine lv_iload_n hx hb dX5_addresses_61 rfl (lv_at hl 4 rfl) ?_
              refine lv_iload hx hb dX5_addresses_62 (lv_at hl 0 rfl) ?_
              refine lv_if_eq (tgt := 71) hx hb dX5_addresses_64 (by decide) (fun (c_10 : 0 = 0) => ?_) (fun (c_10 : ¬ 0 = 0) => ?_)
              · skip
                refine lv_iconst (v := 0) hx hb dX5_addresses_71 (by decide) ?_
                refine lv_iadd hx hb dX5_addresses_72 ?_
                refine lv_istore_n (lv' := [(3, .int (v1_3 + 0)), (5, .int 0), (0, .ref (α 0)), (1, .int p1), (2, .int p2), (4, .int v1_4)]) hx hb dX5_addresses_73 rfl hl (by decide) rfl (fun ls hl => ?_)
                refine lv_iinc (v := (v1_4 + 1)) (lv' := [(4, .int (v1_4 + 1)), (3, .int (v1_3 + 0)), (5, .int 0), (0, .ref (α 0)), (1, .int p1), (2, .int p2)]) hx hb dX5_addresses_74 hl (k := 5) rfl rfl (by decide) rfl (fun ls hl => ?_)
                refine lv_goto (tgt := 5) hx hb dX5_addresses_77 (by decide) ?_
                rw [show (L1_X5_addresses σ p1 p2 (n + 1) v1_3 v1_4) = (L1_X5_addresses σ p1 p2 n (v1_3 + 0) (v1_4 + 1)) from by rw [L1_X5_addresses]; rw [if_neg c_1, if_neg c_3, if_pos c_5, if_neg c_6, if_neg c_9]]
                exact ih (v1_3 + 0) (v1_4 + 1) hok ls (lv_sub hl [3, 4, 5, 1, 0] rfl)
              · skip
                exact absurd (by decide) c_10
            · skip
              have hok := hok.1 c_9
              refine lv_iconst (v := 1) hx hb dX5_addresses_54 (by decide) ?_
              refine lv_goto (tgt := 59) hx hb dX5_addresses_55 (by decide) ?_
              refine lv_istore (lv' := [(5, .int 1), (0, .ref (α 0)), (1, .int p1), (2, .int p2), (3, .int v1_3), (4, .int v1_4)]) hx hb dX5_addresses_59 hl (by decide) rfl (fun ls hl => ?_)
              refine lv_iload_n hx hb dX5_addresses_61 rfl (lv_at hl 4 rfl) ?_
              refine lv_iload hx hb dX5_addresses_62 (lv_at hl 0 rfl) ?_
              refine lv_if_eq (tgt := 71) hx hb dX5_addresses_64 (by decide) (fun (c_11 : 1 = 0) => ?_) (fun (c_11 : ¬ 1 = 0) => ?_)
              · skip
                exact absurd c_11 (by decide)
              · skip
                refine lv_iconst (v := 1) hx hb dX5_addresses_67 (by decide) ?_
                refine lv_goto (tgt := 72) hx hb dX5_addresses_68 (by decide) ?_
                refine lv_iadd hx hb dX5_addresses_72 ?_
                refine lv_istore_n (lv' := [(3, .int (v1_3 + 1)), (5, .int 1), (0, .ref (α 0)), (1, .int p1), (2, .int p2), (4, .int v1_4)]) hx hb dX5_addresses_73 rfl hl (by decide) rfl (fun ls hl => ?_)
                refine lv_iinc (v := (v1_4 + 1)) (lv' := [(4, .int (v1_4 + 1)), (3, .int (v1_3 + 1)), (5, .int 1), (0, .ref (α 0)), (1, .int p1), (2, .int p2)]) hx hb dX5_addresses_74 hl (k := 5) rfl rfl (by decide) rfl (fun ls hl => ?_)
                refine lv_goto (tgt := 5) hx hb dX5_addresses_77 (by decide) ?_
                rw [show (L1_X5_addresses σ p1 p2 (n + 1) v1_3 v1_4) = (L1_X5_addresses σ p1 p2 n (v1_3 + 1) (v1_4 + 1)) from by rw [L1_X5_addresses]; rw [if_neg c_1, if_neg c_3, if_pos c_5, if_neg c_6, if_pos c_9]]
                exact ih (v1_3 + 1) (v1_4 + 1) hok ls (lv_sub hl [3, 4, 5, 1, 0] rfl)
        · skip
          have hok := hok.2 c_5
          obtain ⟨h_12, hok⟩ := hok
          refine lv_aload_n hx hb dX5_addresses_28 rfl (lv_at hl 0 rfl) ?_
          refine lv_iload hx hb dX5_addresses_29 (lv_at hl 4 rfl) ?_
          refine rdV (As := [.int v1_4]) (rest := []) (c_X5_sectorOf l G α σ v1_4 h_12) hF (cwV 1 hts gX5_addresses_X5_sectorOf rfl rfl rfl (by decide +kernel) ⟨Nat.le_of_ble_eq_true rfl, Nat.le_of_ble_eq_true rfl⟩) (rcv_M hK hP) hK hP rfl hl.1 rfl (Nat.le_of_ble_eq_true rfl) dX5_addresses_31 ⟨Nat.zero_le _, Nat.zero_le _⟩ ?_
          refine lv_bipush (v := 12) hx hb dX5_addresses_34 (by decide) ?_
          refine lv_idiv hx hb dX5_addresses_36 (by decide) ?_
          refine lv_iload_n hx hb dX5_addresses_37 rfl (lv_at hl 1 rfl) ?_
          refine lv_icmp_ne (tgt := 58) hx hb dX5_addresses_38 (by decide) (fun (c_13 : ¬ ((s_X5_sectorOf σ v1_4) / 12) = p1) => ?_) (fun (c_13 : ((s_X5_sectorOf σ v1_4) / 12) = p1) => ?_)
          · skip
            have hok := hok.2 c_13
            refine lv_iconst (v := 0) hx hb dX5_addresses_58 (by decide) ?_
            refine lv_istore (lv' := [(5, .int 0), (0, .ref (α 0)), (1, .int p1), (2, .int p2), (3, .int v1_3), (4, .int v1_4)]) hx hb dX5_addresses_59 hl (by decide) rfl (fun ls hl => ?_)
            refine lv_iload_n hx hb dX5_addresses_61 rfl (lv_at hl 4 rfl) ?_
            refine lv_iload hx hb dX5_addresses_62 (lv_at hl 0 rfl) ?_
            refine lv_if_eq (tgt := 71) hx hb dX5_addresses_64 (by decide) (fun (c_14 : 0 = 0) => ?_) (fun (c_14 : ¬ 0 = 0) => ?_)
            · skip
              refine lv_iconst (v := 0) hx hb dX5_addresses_71 (by decide) ?_
              refine lv_iadd hx hb dX5_addresses_72 ?_
              refine lv_istore_n (lv' := [(3, .int (v1_3 + 0)), (5, .int 0), (0, .ref (α 0)), (1, .int p1), (2, .int p2), (4, .int v1_4)]) hx hb dX5_addresses_73 rfl hl (by decide) rfl (fun ls hl => ?_)
              refine lv_iinc (v := (v1_4 + 1)) (lv' := [(4, .int (v1_4 + 1)), (3, .int (v1_3 + 0)), (5, .int 0), (0, .ref (α 0)), (1, .int p1), (2, .int p2)]) hx hb dX5_addresses_74 hl (k := 5) rfl rfl (by decide) rfl (fun ls hl => ?_)
              refine lv_goto (tgt := 5) hx hb dX5_addresses_77 (by decide) ?_
              rw [show (L1_X5_addresses σ p1 p2 (n + 1) v1_3 v1_4) = (L1_X5_addresses σ p1 p2 n (v1_3 + 0) (v1_4 + 1)) from by rw [L1_X5_addresses]; rw [if_neg c_1, if_neg c_3, if_neg c_5, if_neg c_13]]
              exact ih (v1_3 + 0) (v1_4 + 1) hok ls (lv_sub hl [3, 4, 5, 1, 0] rfl)
            · skip
              exact absurd (by decide) c_14
          · skip
            have hok := hok.1 c_13
            refine lv_iload_n hx hb dX5_addresses_41 rfl (lv_at hl 2 rfl) ?_
            refine lv_if_eq (tgt := 54) hx hb dX5_addresses_42 (by decide) (fun (c_15 : p2 = 0) => ?_) (fun (c_15 : ¬ p2 = 0) => ?_)
            · skip
              have hok := hok.1 c_15
              refine lv_iconst (v := 1) hx hb dX5_addresses_54 (by decide) ?_
              refine lv_goto (tgt := 59) hx hb dX5_addresses_55 (by decide) ?_
              refine lv_istore (lv' := [(5, .int 1), (0, .ref (α 0)), (1, .int p1), (2, .int p2), (3, .int v1_3), (4, .int v1_4)]) hx hb dX5_addresses_59 hl (by decide) rfl (fun ls hl => ?_)
              refine lv_iload_n hx hb dX5_addresses_61 rfl (lv_at hl 4 rfl) ?_
              refine lv_iload hx hb dX5_addresses_62 (lv_at hl 0 rfl) ?_
              refine lv_if_eq (tgt := 71) hx hb dX5_addresses_64 (by decide) (fun (c_16 : 1 = 0) => ?_) (fun (c_16 : ¬ 1 = 0) => ?_)
              · skip
                exact absurd c_16 (by decide)
              · skip
                refine lv_iconst (v := 1) hx hb dX5_addresses_67 (by decide) ?_
                refine lv_goto (tgt := 72) hx hb dX5_addresses_68 (by decide) ?_
                refine lv_iadd hx hb dX5_addresses_72 ?_
                refine lv_istore_n (lv' := [(3, .int (v1_3 + 1)), (5, .int 1), (0, .ref (α 0)), (1, .int p1), (2, .int p2), (4, .int v1_4)]) hx hb dX5_addresses_73 rfl hl (by decide) rfl (fun ls hl => ?_)
                refine lv_iinc (v := (v1_4 + 1)) (lv' := [(4, .int (v1_4 + 1)), (3, .int (v1_3 + 1)), (5, .int 1), (0, .ref (α 0)), (1, .int p1), (2, .int p2)]) hx hb dX5_addresses_74 hl (k := 5) rfl rfl (by decide) rfl (fun ls hl => ?_)
                refine lv_goto (tgt := 5) hx hb dX5_addresses_77 (by decide) ?_
                rw [show (L1_X5_addresses σ p1 p2 (n + 1) v1_3 v1_4) = (L1_X5_addresses σ p1 p2 n (v1_3 + 1) (v1_4 + 1)) from by rw [L1_X5_addresses]; rw [if_neg c_1, if_neg c_3, if_neg c_5, if_pos c_13, if_pos c_15]]
                exact ih (v1_3 + 1) (v1_4 + 1) hok ls (lv_sub hl [3, 4, 5, 1, 0] rfl)
            · skip
              have hok := hok.2 c_15
              obtain ⟨h_17, hok⟩ := hok
              refine lv_aload_n hx hb dX5_addresses_45 rfl (lv_at hl 0 rfl) ?_
              refine lv_iload hx hb dX5_addresses_46 (lv_at hl 4 rfl) ?_
              refine rdV (As := [.int v1_4]) (rest := []) (c_X5_canBeRead l G α σ v1_4 h_17) hF (cwV 1 hts gX5_addresses_X5_canBeRead rfl rfl rfl (by decide +kernel) ⟨Nat.le_of_ble_eq_true rfl, Nat.le_of_ble_eq_true rfl⟩) (rcv_M hK hP) hK hP rfl hl.1 rfl (Nat.le_of_ble_eq_true rfl) dX5_addresses_48 ⟨Nat.zero_le _, Nat.zero_le _⟩ ?_
              refine lv_if_ne (tgt := 58) hx hb dX5_addresses_51 (by decide) (fun (c_18 : ¬ (s_X5_canBeRead σ v1_4) = 0) => ?_) (fun (c_18 : (s_X5_canBeRead σ v1_4) = 0) => ?_)
              · skip
                have hok := hok.2 c_18
                refine lv_iconst (v := 0) hx hb dX5_addresses_58 (by decide) ?_
                refine lv_istore (lv' := [(5, .int 0), (0, .ref (α 0)), (1, .int p1), (2, .int p2), (3, .int v1_3), (4, .int v1_4)]) hx hb dX5_addresses_59 hl (by decide) rfl (fun ls hl => ?_)
                refine lv_iload_n hx hb dX5_addresses_61 rfl (lv_at hl 4 rfl) ?_
                refine lv_iload hx hb dX5_addresses_62 (lv_at hl 0 rfl) ?_
                refine lv_if_eq (tgt := 71) hx hb dX5_addresses_64 (by decide) (fun (c_19 : 0 = 0) => ?_) (fun (c_19 : ¬ 0 = 0) => ?_)
                · skip
                  refine lv_iconst (v := 0) hx hb dX5_addresses_71 (by decide) ?_
                  refine lv_iadd hx hb dX5_addresses_72 ?_
                  refine lv_istore_n (lv' := [(3, .int (v1_3 + 0)), (5, .int 0), (0, .ref (α 0)), (1, .int p1), (2, .int p2), (4, .int v1_4)]) hx hb dX5_addresses_73 rfl hl (by decide) rfl (fun ls hl => ?_)
                  refine lv_iinc (v := (v1_4 + 1)) (lv' := [(4, .int (v1_4 + 1)), (3, .int (v1_3 + 0)), (5, .int 0), (0, .ref (α 0)), (1, .int p1), (2, .int p2)]) hx hb dX5_addresses_74 hl (k := 5) rfl rfl (by decide) rfl (fun ls hl => ?_)
                  refine lv_goto (tgt := 5) hx hb dX5_addresses_77 (by decide) ?_
                  rw [show (L1_X5_addresses σ p1 p2 (n + 1) v1_3 v1_4) = (L1_X5_addresses σ p1 p2 n (v1_3 + 0) (v1_4 + 1)) from by rw [L1_X5_addresses]; rw [if_neg c_1, if_neg c_3, if_neg c_5, if_pos c_13, if_neg c_15, if_neg c_18]]
                  exact ih (v1_3 + 0) (v1_4 + 1) hok ls (lv_sub hl [3, 4, 5, 1, 0] rfl)
                · skip
                  exact absurd (by decide) c_19
              · skip
                have hok := hok.1 c_18
                refine lv_iconst (v := 1) hx hb dX5_addresses_54 (by decide) ?_
                refine lv_goto (tgt := 59) hx hb dX5_addresses_55 (by decide) ?_
                refine lv_istore (lv' := [(5, .int 1), (0, .ref (α 0)), (1, .int p1), (2, .int p2), (3, .int v1_3), (4, .int v1_4)]) hx hb dX5_addresses_59 hl (by decide) rfl (fun ls hl => ?_)
                refine lv_iload_n hx hb dX5_addresses_61 rfl (lv_at hl 4 rfl) ?_
                refine lv_iload hx hb dX5_addresses_62 (lv_at hl 0 rfl) ?_
                refine lv_if_eq (tgt := 71) hx hb dX5_addresses_64 (by decide) (fun (c_20 : 1 = 0) => ?_) (fun (c_20 : ¬ 1 = 0) => ?_)
                · skip
                  exact absurd c_20 (by decide)
                · skip
                  refine lv_iconst (v := 1) hx hb dX5_addresses_67 (by decide) ?_
                  refine lv_goto (tgt := 72) hx hb dX5_addresses_68 (by decide) ?_
                  refine lv_iadd hx hb dX5_addresses_72 ?_
                  refine lv_istore_n (lv' := [(3, .int (v1_3 + 1)), (5, .int 1), (0, .ref (α 0)), (1, .int p1), (2, .int p2), (4, .int v1_4)]) hx hb dX5_addresses_73 rfl hl (by decide) rfl (fun ls hl => ?_)
                  refine lv_iinc (v := (v1_4 + 1)) (lv' := [(4, .int (v1_4 + 1)), (3, .int (v1_3 + 1)), (5, .int 1), (0, .ref (α 0)), (1, .int p1), (2, .int p2)]) hx hb dX5_addresses_74 hl (k := 5) rfl rfl (by decide) rfl (fun ls hl => ?_)
                  refine lv_goto (tgt := 5) hx hb dX5_addresses_77 (by decide) ?_
                  rw [show (L1_X5_addresses σ p1 p2 (n + 1) v1_3 v1_4) = (L1_X5_addresses σ p1 p2 n (v1_3 + 1) (v1_4 + 1)) from by rw [L1_X5_addresses]; rw [if_neg c_1, if_neg c_3, if_neg c_5, if_pos c_13, if_neg c_15, if_pos c_18]]
                  exact ih (v1_3 + 1) (v1_4 + 1) hok ls (lv_sub hl [3, 4, 5, 1, 0] rfl)
set_option maxHeartbeats 4000000 in
set_option maxRecDepth 100000 in
theorem c_X5_addresses (l : Launch) (G : GG) (α : Nat → Nat) (σ : MS) (p1 : Int32) (p2 : Int32) (hok : ok_X5_addresses σ p1 p2) : Rd G l yX5_addresses wsX5_addresses 3 63 [.ref (α 0), .int p1, .int p2] (mW G.2.1 α σ) (.int (s_X5_addresses σ p1 p2)) := by
  refine Met.ofW (cc := cX5_addresses) (maxL := 6) (ret := (some .int)) (by decide) rfl ?_
  intro p e s m args below meth c s₁ B hml hv
  obtain ⟨rfl, hP, hK⟩ := hv
  have C0 : cA p s m meth c ([.ref (α 0), .int p1, .int p2] : List Value).toArray cX5_addresses 6 (some .int) wsX5_addresses RX5 := ⟨B.exec, B.bytes, B.returns, hml, findClass_of_methodNamed B.named, atoms_spec (ws := wsX5_addresses) B.pre, B.notSynchronized⟩
  obtain ⟨hx, hb, hr, hml, hown, hts, hlocks⟩ := id C0
  have hF : CallFix p m c cX5_addresses 6 s _ wsX5_addresses RX5 := ⟨hx, hb, hml, hown, hts⟩
  have hl := lv_entry ([.ref (α 0), .int p1, .int p2]) (n := 6) (Nat.le_of_ble_eq_true rfl)
  rw [lg_entry_eq]
  generalize (lg_sl ([.ref (α 0), .int p1, .int p2]) ++ List.replicate (6 - (lg_sl ([.ref (α 0), .int p1, .int p2])).length) Slot.unset).toArray = ls at hl ⊢
  have hl : lv_has ls 6 [(0, .ref (α 0)), (1, .int p1), (2, .int p2)] := hl
  have hok : okL1_X5_addresses σ p1 p2 FU 0 0 := hok
  refine lv_iconst (v := 0) hx hb dX5_addresses_0 (by decide) ?_
  refine lv_istore_n (lv' := [(3, .int 0), (0, .ref (α 0)), (1, .int p1), (2, .int p2)]) hx hb dX5_addresses_1 rfl hl (by decide) rfl (fun ls hl => ?_)
  refine lv_iconst (v := 0) hx hb dX5_addresses_2 (by decide) ?_
  refine lv_istore (lv' := [(4, .int 0), (3, .int 0), (0, .ref (α 0)), (1, .int p1), (2, .int p2)]) hx hb dX5_addresses_3 hl (by decide) rfl (fun ls hl => ?_)
  rw [show s_X5_addresses σ p1 p2 = (L1_X5_addresses σ p1 p2 FU 0 0) from by rw [s_X5_addresses]]
  exact wL1_X5_addresses l G α σ p1 p2 hP C0 hK FU 0 0 hok ls (lv_sub hl [2, 3, 4, 1, 0] rfl)
def L1_X5_sumOn (σ : MS) (p1 : Int32) (p2 : Int32) : Nat → Int32 → Int32 → Int32
  | 0, v1_3, v1_4 => 0
  | n + 1, v1_3, v1_4 => (if 12 ≤ v1_4 then v1_3 else (L1_X5_sumOn σ p1 p2 n (v1_3 + ((m_al σ) ((p2 + (12 * p1)) + v1_4).toNatClampNeg)) (v1_4 + 1)))
def okL1_X5_sumOn (σ : MS) (p1 : Int32) (p2 : Int32) : Nat → Int32 → Int32 → Prop
  | 0, _, _ => False
  | n + 1, v1_3, v1_4 => (12 ≤ v1_4 → True) ∧ (¬ 12 ≤ v1_4 → ((vp_in ((p2 + (12 * p1)) + v1_4) 816) ∧ (okL1_X5_sumOn σ p1 p2 n (v1_3 + ((m_al σ) ((p2 + (12 * p1)) + v1_4).toNatClampNeg)) (v1_4 + 1))))
def s_X5_sumOn (σ : MS) (p1 : Int32) (p2 : Int32) : Int32 := (L1_X5_sumOn σ p1 p2 FU 0 0)
def ok_X5_sumOn (σ : MS) (p1 : Int32) (p2 : Int32) : Prop := okL1_X5_sumOn σ p1 p2 FU 0 0
set_option maxHeartbeats 4000000 in
set_option maxRecDepth 100000 in
theorem wL1_X5_sumOn {p : Program} {e : Env} {s : State} {m : MethodId} {args : Array Value} {below : List Frame} {meth : Method} {c : Code} (l : Launch) (G : GG) (α : Nat → Nat) (σ : MS) (p1 : Int32) (p2 : Int32) (hP : va_P G.1 vwCl (mW G.2.1 α σ) s.heap) (C0 : cA p s m meth c args cX5_sumOn 5 (some .int) wsX5_sumOn RX5) (hK : cK G s) : ∀ (n : Nat) (v1_3 : Int32) (v1_4 : Int32)  (hok : okL1_X5_sumOn σ p1 p2 n v1_3 v1_4) (ls : Array Slot), lv_has ls 5 [(0, .ref (α 0)), (1, .int p1), (2, .int p2), (3, .int v1_3), (4, .int v1_4)] → W p l e (rmm 0 0) s m args below meth c s.heap [] 0 0 (MQ below (QR (some (.int (L1_X5_sumOn σ p1 p2 n v1_3 v1_4)))) args s 0 0 (fun _ => False)) (F0 m 5 ls []) := by
  obtain ⟨hx, hb, hr, hml, hown, hts, hlocks⟩ := id C0
  have hF : CallFix p m c cX5_sumOn 5 s args wsX5_sumOn RX5 := ⟨hx, hb, hml, hown, hts⟩
  have hinX5 : ∀ w ∈ wsX50, w ∈ wsX5_sumOn := by decide +kernel
  intro n
  induction n with
  | zero =>
    intro v1_3 v1_4 hok
    exact hok.elim
  | succ n ih =>
    intro v1_3 v1_4 hok ls hl
    have hok : (12 ≤ v1_4 → True) ∧ (¬ 12 ≤ v1_4 → ((vp_in ((p2 + (12 * p1)) + v1_4) 816) ∧ (okL1_X5_sumOn σ p1 p2 n (v1_3 + ((m_al σ) ((p2 + (12 * p1)) + v1_4).toNatClampNeg)) (v1_4 + 1)))) := hok
    refine lv_iload hx hb dX5_sumOn_5 (lv_at hl 4 rfl) ?_
    refine lv_bipush (v := 12) hx hb dX5_sumOn_7 (by decide) ?_
    refine lv_icmp_ge (tgt := 35) hx hb dX5_sumOn_9 (by decide) (fun (c_1 : 12 ≤ v1_4) => ?_) (fun (c_1 : ¬ 12 ≤ v1_4) => ?_)
    · skip
      refine lv_iload_n hx hb dX5_sumOn_35 rfl (lv_at hl 3 rfl) ?_
      rw [show (L1_X5_sumOn σ p1 p2 (n + 1) v1_3 v1_4) = v1_3 from by rw [L1_X5_sumOn]; rw [if_pos c_1]]
      exact W.iret hx hb hr (fun t ht hW => ⟨rfl, ht⟩) (fun _ h => nomatch h) dX5_sumOn_36
    · skip
      have hok := hok.2 c_1
      obtain ⟨h_2, hok⟩ := hok
      refine lv_iload_n hx hb dX5_sumOn_12 rfl (lv_at hl 3 rfl) ?_
      refine lv_aload_n hx hb dX5_sumOn_13 rfl (lv_at hl 0 rfl) ?_
      refine get_M_all hx hb hts hinX5 hown hK hP (hts (.fieldLink RX5 7 "GrooveTurnsModel" "all" "[I") (by decide +kernel)) dX5_sumOn_14 ?_
      refine lv_iload_n hx hb dX5_sumOn_17 rfl (lv_at hl 2 rfl) ?_
      refine lv_bipush (v := 12) hx hb dX5_sumOn_18 (by decide) ?_
      refine lv_iload_n hx hb dX5_sumOn_20 rfl (lv_at hl 1 rfl) ?_
      refine lv_imul hx hb dX5_sumOn_21 ?_
      refine lv_iadd hx hb dX5_sumOn_22 ?_
      refine lv_iload hx hb dX5_sumOn_23 (lv_at hl 4 rfl) ?_
      refine lv_iadd hx hb dX5_sumOn_25 ?_
      refine ld_M_al hx hb hK hP h_2 dX5_sumOn_26 ?_
      refine lv_iadd hx hb dX5_sumOn_27 ?_
      refine lv_istore_n (lv' := [(3, .int (v1_3 + ((m_al σ) ((p2 + (12 * p1)) + v1_4).toNatClampNeg))), (0, .ref (α 0)), (1, .int p1), (2, .int p2), (4, .int v1_4)]) hx hb dX5_sumOn_28 rfl hl (by decide) rfl (fun ls hl => ?_)
      refine lv_iinc (v := (v1_4 + 1)) (lv' := [(4, .int (v1_4 + 1)), (3, .int (v1_3 + ((m_al σ) ((p2 + (12 * p1)) + v1_4).toNatClampNeg))), (0, .ref (α 0)), (1, .int p1), (2, .int p2)]) hx hb dX5_sumOn_29 hl (k := 4) rfl rfl (by decide) rfl (fun ls hl => ?_)
      refine lv_goto (tgt := 5) hx hb dX5_sumOn_32 (by decide) ?_
      rw [show (L1_X5_sumOn σ p1 p2 (n + 1) v1_3 v1_4) = (L1_X5_sumOn σ p1 p2 n (v1_3 + ((m_al σ) ((p2 + (12 * p1)) + v1_4).toNatClampNeg)) (v1_4 + 1)) from by rw [L1_X5_sumOn]; rw [if_neg c_1]]
      exact ih (v1_3 + ((m_al σ) ((p2 + (12 * p1)) + v1_4).toNatClampNeg)) (v1_4 + 1) hok ls (lv_sub hl [2, 3, 4, 1, 0] rfl)
set_option maxHeartbeats 4000000 in
set_option maxRecDepth 100000 in
theorem c_X5_sumOn (l : Launch) (G : GG) (α : Nat → Nat) (σ : MS) (p1 : Int32) (p2 : Int32) (hok : ok_X5_sumOn σ p1 p2) : Rd G l yX5_sumOn wsX5_sumOn 0 0 [.ref (α 0), .int p1, .int p2] (mW G.2.1 α σ) (.int (s_X5_sumOn σ p1 p2)) := by
  refine Met.ofW (cc := cX5_sumOn) (maxL := 5) (ret := (some .int)) (by decide) rfl ?_
  intro p e s m args below meth c s₁ B hml hv
  obtain ⟨rfl, hP, hK⟩ := hv
  have C0 : cA p s m meth c ([.ref (α 0), .int p1, .int p2] : List Value).toArray cX5_sumOn 5 (some .int) wsX5_sumOn RX5 := ⟨B.exec, B.bytes, B.returns, hml, findClass_of_methodNamed B.named, atoms_spec (ws := wsX5_sumOn) B.pre, B.notSynchronized⟩
  obtain ⟨hx, hb, hr, hml, hown, hts, hlocks⟩ := id C0
  have hF : CallFix p m c cX5_sumOn 5 s _ wsX5_sumOn RX5 := ⟨hx, hb, hml, hown, hts⟩
  have hinX5 : ∀ w ∈ wsX50, w ∈ wsX5_sumOn := by decide +kernel
  have hl := lv_entry ([.ref (α 0), .int p1, .int p2]) (n := 5) (Nat.le_of_ble_eq_true rfl)
  rw [lg_entry_eq]
  generalize (lg_sl ([.ref (α 0), .int p1, .int p2]) ++ List.replicate (5 - (lg_sl ([.ref (α 0), .int p1, .int p2])).length) Slot.unset).toArray = ls at hl ⊢
  have hl : lv_has ls 5 [(0, .ref (α 0)), (1, .int p1), (2, .int p2)] := hl
  have hok : okL1_X5_sumOn σ p1 p2 FU 0 0 := hok
  refine lv_iconst (v := 0) hx hb dX5_sumOn_0 (by decide) ?_
  refine lv_istore_n (lv' := [(3, .int 0), (0, .ref (α 0)), (1, .int p1), (2, .int p2)]) hx hb dX5_sumOn_1 rfl hl (by decide) rfl (fun ls hl => ?_)
  refine lv_iconst (v := 0) hx hb dX5_sumOn_2 (by decide) ?_
  refine lv_istore (lv' := [(4, .int 0), (3, .int 0), (0, .ref (α 0)), (1, .int p1), (2, .int p2)]) hx hb dX5_sumOn_3 hl (by decide) rfl (fun ls hl => ?_)
  rw [show s_X5_sumOn σ p1 p2 = (L1_X5_sumOn σ p1 p2 FU 0 0) from by rw [s_X5_sumOn]]
  exact wL1_X5_sumOn l G α σ p1 p2 hP C0 hK FU 0 0 hok ls (lv_sub hl [2, 3, 4, 1, 0] rfl)
def s_X5_track (σ : MS) (p1 : Int32) (p2 : Int32) : Int32 := (if (s_X5_in p1.toInt64 0 16) = 0 then (-1) else (if p2 = 0 then (if p2 = 1 then (s_X5_addresses σ p1 1) else (s_X5_addresses σ p1 0)) else (if p2 = 1 then (s_X5_addresses σ p1 1) else (if p2 = 2 then (s_X5_sumOn σ p1 216) else (if p2 = 3 then (s_X5_sumOn σ p1 420) else (-2))))))
def ok_X5_track (σ : MS) (p1 : Int32) (p2 : Int32) : Prop := ((s_X5_in p1.toInt64 0 16) = 0 → True) ∧ (¬ (s_X5_in p1.toInt64 0 16) = 0 → ((p2 = 0 → ((p2 = 1 → (ok_X5_addresses σ p1 1)) ∧ (¬ p2 = 1 → (ok_X5_addresses σ p1 0)))) ∧ (¬ p2 = 0 → ((p2 = 1 → (ok_X5_addresses σ p1 1)) ∧ (¬ p2 = 1 → ((p2 = 2 → (ok_X5_sumOn σ p1 216)) ∧ (¬ p2 = 2 → ((p2 = 3 → (ok_X5_sumOn σ p1 420)) ∧ (¬ p2 = 3 → True)))))))))
set_option maxHeartbeats 4000000 in
set_option maxRecDepth 100000 in
theorem c_X5_track (l : Launch) (G : GG) (α : Nat → Nat) (σ : MS) (p1 : Int32) (p2 : Int32) (hok : ok_X5_track σ p1 p2) : Rd G l yX5_track wsX5_track 4 88 [.ref (α 0), .int p1, .int p2] (mW G.2.1 α σ) (.int (s_X5_track σ p1 p2)) := by
  refine Met.ofW (cc := cX5_track) (maxL := 3) (ret := (some .int)) (by decide) rfl ?_
  intro p e s m args below meth c s₁ B hml hv
  obtain ⟨rfl, hP, hK⟩ := hv
  have C0 : cA p s m meth c ([.ref (α 0), .int p1, .int p2] : List Value).toArray cX5_track 3 (some .int) wsX5_track RX5 := ⟨B.exec, B.bytes, B.returns, hml, findClass_of_methodNamed B.named, atoms_spec (ws := wsX5_track) B.pre, B.notSynchronized⟩
  obtain ⟨hx, hb, hr, hml, hown, hts, hlocks⟩ := id C0
  have hF : CallFix p m c cX5_track 3 s _ wsX5_track RX5 := ⟨hx, hb, hml, hown, hts⟩
  have hl := lv_entry ([.ref (α 0), .int p1, .int p2]) (n := 3) (Nat.le_of_ble_eq_true rfl)
  rw [lg_entry_eq]
  generalize (lg_sl ([.ref (α 0), .int p1, .int p2]) ++ List.replicate (3 - (lg_sl ([.ref (α 0), .int p1, .int p2])).length) Slot.unset).toArray = ls at hl ⊢
  have hl : lv_has ls 3 [(0, .ref (α 0)), (1, .int p1), (2, .int p2)] := hl
  have hok : ((s_X5_in p1.toInt64 0 16) = 0 → True) ∧ (¬ (s_X5_in p1.toInt64 0 16) = 0 → ((p2 = 0 → ((p2 = 1 → (ok_X5_addresses σ p1 1)) ∧ (¬ p2 = 1 → (ok_X5_addresses σ p1 0)))) ∧ (¬ p2 = 0 → ((p2 = 1 → (ok_X5_addresses σ p1 1)) ∧ (¬ p2 = 1 → ((p2 = 2 → (ok_X5_sumOn σ p1 216)) ∧ (¬ p2 = 2 → ((p2 = 3 → (ok_X5_sumOn σ p1 420)) ∧ (¬ p2 = 3 → True))))))))) := hok
  refine lv_iload_n hx hb dX5_track_0 rfl (lv_at hl 1 rfl) ?_
  refine lv_i2l (v := p1.toInt64) hx hb dX5_track_1 rfl ?_
  refine lv_lconst (v := 0) hx hb dX5_track_2 (by decide) ?_
  refine lv_ldc2 (v := 16) hx hb hown (hts (.constantLong RX5 113 (16)) (by decide +kernel)) dX5_track_3 ?_
  refine rdS (As := [.long p1.toInt64, .long 0, .long 16]) (rest := []) (c_X5_in l G p1.toInt64 0 16) hF (va_cwS 3 hts gX5_track_X5_in rfl rfl rfl (by decide +kernel) ⟨Nat.le_of_ble_eq_true rfl, Nat.le_of_ble_eq_true rfl⟩) hK va_P0 rfl hl.1 rfl (Nat.le_of_ble_eq_true rfl) dX5_track_6 ⟨Nat.zero_le _, Nat.zero_le _⟩ ?_
  refine lv_if_ne (tgt := 14) hx hb dX5_track_9 (by decide) (fun (c_1 : ¬ (s_X5_in p1.toInt64 0 16) = 0) => ?_) (fun (c_1 : (s_X5_in p1.toInt64 0 16) = 0) => ?_)
  · skip
    have hok := hok.2 c_1
    refine lv_iload_n hx hb dX5_track_14 rfl (lv_at hl 2 rfl) ?_
    by_cases c_2 : p2 = 0
    · skip
      have hok := hok.1 c_2
      refine lv_tableIn (tgt := 44) (off := 29) hx hb dX5_track_15 (by rw [c_2]; decide) (by rw [c_2]; decide) (by rw [c_2]; rfl) (by decide) ?_
      refine lv_aload_n hx hb dX5_track_44 rfl (lv_at hl 0 rfl) ?_
      refine lv_iload_n hx hb dX5_track_45 rfl (lv_at hl 1 rfl) ?_
      refine lv_iload_n hx hb dX5_track_46 rfl (lv_at hl 2 rfl) ?_
      refine lv_iconst (v := 1) hx hb dX5_track_47 (by decide) ?_
      refine lv_icmp_ne (tgt := 55) hx hb dX5_track_48 (by decide) (fun (c_3 : ¬ p2 = 1) => ?_) (fun (c_3 : p2 = 1) => ?_)
      · skip
        have hok := hok.2 c_3
        have h_4 := hok
        refine lv_iconst (v := 0) hx hb dX5_track_55 (by decide) ?_
        refine rdV (As := [.int p1, .int 0]) (rest := []) (c_X5_addresses l G α σ p1 0 h_4) hF (cwV 2 hts gX5_track_X5_addresses rfl rfl rfl (by decide +kernel) ⟨Nat.le_of_ble_eq_true rfl, Nat.le_of_ble_eq_true rfl⟩) (rcv_M hK hP) hK hP rfl hl.1 rfl (Nat.le_of_ble_eq_true rfl) dX5_track_56 ⟨Nat.zero_le _, Nat.zero_le _⟩ ?_
        rw [show s_X5_track σ p1 p2 = (s_X5_addresses σ p1 0) from by rw [s_X5_track]; rw [if_neg c_1, if_pos c_2, if_neg c_3]]
        exact W.iret hx hb hr (fun t ht hW => ⟨rfl, ht⟩) (fun _ h => nomatch h) dX5_track_59
      · skip
        have hok := hok.1 c_3
        have h_5 := hok
        refine lv_iconst (v := 1) hx hb dX5_track_51 (by decide) ?_
        refine lv_goto (tgt := 56) hx hb dX5_track_52 (by decide) ?_
        refine rdV (As := [.int p1, .int 1]) (rest := []) (c_X5_addresses l G α σ p1 1 h_5) hF (cwV 2 hts gX5_track_X5_addresses rfl rfl rfl (by decide +kernel) ⟨Nat.le_of_ble_eq_true rfl, Nat.le_of_ble_eq_true rfl⟩) (rcv_M hK hP) hK hP rfl hl.1 rfl (Nat.le_of_ble_eq_true rfl) dX5_track_56 ⟨Nat.zero_le _, Nat.zero_le _⟩ ?_
        rw [show s_X5_track σ p1 p2 = (s_X5_addresses σ p1 1) from by rw [s_X5_track]; rw [if_neg c_1, if_pos c_2, if_pos c_3]]
        exact W.iret hx hb hr (fun t ht hW => ⟨rfl, ht⟩) (fun _ h => nomatch h) dX5_track_59
    · skip
      have hok := hok.2 c_2
      by_cases c_6 : p2 = 1
      · skip
        have hok := hok.1 c_6
        refine lv_tableIn (tgt := 44) (off := 29) hx hb dX5_track_15 (by rw [c_6]; decide) (by rw [c_6]; decide) (by rw [c_6]; rfl) (by decide) ?_
        refine lv_aload_n hx hb dX5_track_44 rfl (lv_at hl 0 rfl) ?_
        refine lv_iload_n hx hb dX5_track_45 rfl (lv_at hl 1 rfl) ?_
        refine lv_iload_n hx hb dX5_track_46 rfl (lv_at hl 2 rfl) ?_
        refine lv_iconst (v := 1) hx hb dX5_track_47 (by decide) ?_
        refine lv_icmp_ne (tgt := 55) hx hb dX5_track_48 (by decide) (fun (c_7 : ¬ p2 = 1) => ?_) (fun (c_7 : p2 = 1) => ?_)
        · skip
          exact absurd c_6 c_7
        · skip
          have h_8 := hok
          refine lv_iconst (v := 1) hx hb dX5_track_51 (by decide) ?_
          refine lv_goto (tgt := 56) hx hb dX5_track_52 (by decide) ?_
          refine rdV (As := [.int p1, .int 1]) (rest := []) (c_X5_addresses l G α σ p1 1 h_8) hF (cwV 2 hts gX5_track_X5_addresses rfl rfl rfl (by decide +kernel) ⟨Nat.le_of_ble_eq_true rfl, Nat.le_of_ble_eq_true rfl⟩) (rcv_M hK hP) hK hP rfl hl.1 rfl (Nat.le_of_ble_eq_true rfl) dX5_track_56 ⟨Nat.zero_le _, Nat.zero_le _⟩ ?_
          rw [show s_X5_track σ p1 p2 = (s_X5_addresses σ p1 1) from by rw [s_X5_track]; rw [if_neg c_1, if_neg c_2, if_pos c_6]]
          exact W.iret hx hb hr (fun t ht hW => ⟨rfl, ht⟩) (fun _ h => nomatch h) dX5_track_59
      · skip
        have hok := hok.2 c_6
        by_cases c_9 : p2 = 2
        · skip
          have hok := hok.1 c_9
          refine lv_tableIn (tgt := 60) (off := 45) hx hb dX5_track_15 (by rw [c_9]; decide) (by rw [c_9]; decide) (by rw [c_9]; rfl) (by decide) ?_
          have h_10 := hok
          refine lv_aload_n hx hb dX5_track_60 rfl (lv_at hl 0 rfl) ?_
          refine lv_iload_n hx hb dX5_track_61 rfl (lv_at hl 1 rfl) ?_
          refine lv_sipush (v := 216) hx hb dX5_track_62 (by decide) ?_
          refine rdV (As := [.int p1, .int 216]) (rest := []) (c_X5_sumOn l G α σ p1 216 h_10) hF (cwV 2 hts gX5_track_X5_sumOn rfl rfl rfl (by decide +kernel) ⟨Nat.le_of_ble_eq_true rfl, Nat.le_of_ble_eq_true rfl⟩) (rcv_M hK hP) hK hP rfl hl.1 rfl (Nat.le_of_ble_eq_true rfl) dX5_track_65 ⟨Nat.zero_le _, Nat.zero_le _⟩ ?_
          rw [show s_X5_track σ p1 p2 = (s_X5_sumOn σ p1 216) from by rw [s_X5_track]; rw [if_neg c_1, if_neg c_2, if_neg c_6, if_pos c_9]]
          exact W.iret hx hb hr (fun t ht hW => ⟨rfl, ht⟩) (fun _ h => nomatch h) dX5_track_68
        · skip
          have hok := hok.2 c_9
          by_cases c_11 : p2 = 3
          · skip
            have hok := hok.1 c_11
            refine lv_tableIn (tgt := 69) (off := 54) hx hb dX5_track_15 (by rw [c_11]; decide) (by rw [c_11]; decide) (by rw [c_11]; rfl) (by decide) ?_
            have h_12 := hok
            refine lv_aload_n hx hb dX5_track_69 rfl (lv_at hl 0 rfl) ?_
            refine lv_iload_n hx hb dX5_track_70 rfl (lv_at hl 1 rfl) ?_
            refine lv_sipush (v := 420) hx hb dX5_track_71 (by decide) ?_
            refine rdV (As := [.int p1, .int 420]) (rest := []) (c_X5_sumOn l G α σ p1 420 h_12) hF (cwV 2 hts gX5_track_X5_sumOn rfl rfl rfl (by decide +kernel) ⟨Nat.le_of_ble_eq_true rfl, Nat.le_of_ble_eq_true rfl⟩) (rcv_M hK hP) hK hP rfl hl.1 rfl (Nat.le_of_ble_eq_true rfl) dX5_track_74 ⟨Nat.zero_le _, Nat.zero_le _⟩ ?_
            rw [show s_X5_track σ p1 p2 = (s_X5_sumOn σ p1 420) from by rw [s_X5_track]; rw [if_neg c_1, if_neg c_2, if_neg c_6, if_neg c_9, if_pos c_11]]
            exact W.iret hx hb hr (fun t ht hW => ⟨rfl, ht⟩) (fun _ h => nomatch h) dX5_track_77
          · skip
            have h9_0 : ¬ p2.toInt = 0 := lv_neT c_2 (by decide)
            have h9_1 : ¬ p2.toInt = 1 := lv_neT c_6 (by decide)
            have h9_2 : ¬ p2.toInt = 2 := lv_neT c_9 (by decide)
            have h9_3 : ¬ p2.toInt = 3 := lv_neT c_11 (by decide)
            refine lv_tableOut (tgt := 78) hx hb dX5_track_15 (sw_out (fun k9 h9 h8 => by omega)) (by decide) ?_
            refine lv_bipush (v := (-2)) hx hb dX5_track_78 (by decide) ?_
            rw [show s_X5_track σ p1 p2 = (-2) from by rw [s_X5_track]; rw [if_neg c_1, if_neg c_2, if_neg c_6, if_neg c_9, if_neg c_11]]
            exact W.iret hx hb hr (fun t ht hW => ⟨rfl, ht⟩) (fun _ h => nomatch h) dX5_track_80
  · skip
    refine lv_iconst (v := (-1)) hx hb dX5_track_12 (by decide) ?_
    rw [show s_X5_track σ p1 p2 = (-1) from by rw [s_X5_track]; rw [if_pos c_1]]
    exact W.iret hx hb hr (fun t ht hW => ⟨rfl, ht⟩) (fun _ h => nomatch h) dX5_track_13
def L1_X5_greatestBlur (σ : MS) : Nat → Int32 → Int32 → Int32
  | 0, v1_1, v1_2 => 0
  | n + 1, v1_1, v1_2 => (if 192 ≤ v1_2 then v1_1 else (if ((m_al σ) (216 + (s_X5_sectorOf σ v1_2)).toNatClampNeg) ≤ v1_1 then (L1_X5_greatestBlur σ n v1_1 (v1_2 + 1)) else (L1_X5_greatestBlur σ n ((m_al σ) (216 + (s_X5_sectorOf σ v1_2)).toNatClampNeg) (v1_2 + 1))))
def okL1_X5_greatestBlur (σ : MS) : Nat → Int32 → Int32 → Prop
  | 0, _, _ => False
  | n + 1, v1_1, v1_2 => (192 ≤ v1_2 → True) ∧ (¬ 192 ≤ v1_2 → ((ok_X5_sectorOf σ v1_2) ∧ ((vp_in (216 + (s_X5_sectorOf σ v1_2)) 816) ∧ ((((m_al σ) (216 + (s_X5_sectorOf σ v1_2)).toNatClampNeg) ≤ v1_1 → (okL1_X5_greatestBlur σ n v1_1 (v1_2 + 1))) ∧ (¬ ((m_al σ) (216 + (s_X5_sectorOf σ v1_2)).toNatClampNeg) ≤ v1_1 → (okL1_X5_greatestBlur σ n ((m_al σ) (216 + (s_X5_sectorOf σ v1_2)).toNatClampNeg) (v1_2 + 1)))))))
def s_X5_greatestBlur (σ : MS) : Int32 := (L1_X5_greatestBlur σ FU 0 0)
def ok_X5_greatestBlur (σ : MS) : Prop := okL1_X5_greatestBlur σ FU 0 0
set_option maxHeartbeats 4000000 in
set_option maxRecDepth 100000 in
theorem wL1_X5_greatestBlur {p : Program} {e : Env} {s : State} {m : MethodId} {args : Array Value} {below : List Frame} {meth : Method} {c : Code} (l : Launch) (G : GG) (α : Nat → Nat) (σ : MS) (hP : va_P G.1 vwCl (mW G.2.1 α σ) s.heap) (C0 : cA p s m meth c args cX5_greatestBlur 4 (some .int) wsX5_greatestBlur RX5) (hK : cK G s) : ∀ (n : Nat) (v1_1 : Int32) (v1_2 : Int32)  (hok : okL1_X5_greatestBlur σ n v1_1 v1_2) (ls : Array Slot), lv_has ls 4 [(0, .ref (α 0)), (1, .int v1_1), (2, .int v1_2)] → W p l e (rmm 1 21) s m args below meth c s.heap [] 0 0 (MQ below (QR (some (.int (L1_X5_greatestBlur σ n v1_1 v1_2)))) args s 0 0 (fun _ => False)) (F0 m 4 ls []) := by
  obtain ⟨hx, hb, hr, hml, hown, hts, hlocks⟩ := id C0
  have hF : CallFix p m c cX5_greatestBlur 4 s args wsX5_greatestBlur RX5 := ⟨hx, hb, hml, hown, hts⟩
  have hinX5 : ∀ w ∈ wsX50, w ∈ wsX5_greatestBlur := by decide +kernel
  intro n
  induction n with
  | zero =>
    intro v1_1 v1_2 hok
    exact hok.elim
  | succ n ih =>
    intro v1_1 v1_2 hok ls hl
    have hok : (192 ≤ v1_2 → True) ∧ (¬ 192 ≤ v1_2 → ((ok_X5_sectorOf σ v1_2) ∧ ((vp_in (216 + (s_X5_sectorOf σ v1_2)) 816) ∧ ((((m_al σ) (216 + (s_X5_sectorOf σ v1_2)).toNatClampNeg) ≤ v1_1 → (okL1_X5_greatestBlur σ n v1_1 (v1_2 + 1))) ∧ (¬ ((m_al σ) (216 + (s_X5_sectorOf σ v1_2)).toNatClampNeg) ≤ v1_1 → (okL1_X5_greatestBlur σ n ((m_al σ) (216 + (s_X5_sectorOf σ v1_2)).toNatClampNeg) (v1_2 + 1))))))) := hok
    refine lv_iload_n hx hb dX5_greatestBlur_4 rfl (lv_at hl 2 rfl) ?_
    refine lv_sipush (v := 192) hx hb dX5_greatestBlur_5 (by decide) ?_
    refine lv_icmp_ge (tgt := 43) hx hb dX5_greatestBlur_8 (by decide) (fun (c_1 : 192 ≤ v1_2) => ?_) (fun (c_1 : ¬ 192 ≤ v1_2) => ?_)
    · skip
      refine lv_iload_n hx hb dX5_greatestBlur_43 rfl (lv_at hl 1 rfl) ?_
      rw [show (L1_X5_greatestBlur σ (n + 1) v1_1 v1_2) = v1_1 from by rw [L1_X5_greatestBlur]; rw [if_pos c_1]]
      exact W.iret hx hb hr (fun t ht hW => ⟨rfl, ht⟩) (fun _ h => nomatch h) dX5_greatestBlur_44
    · skip
      have hok := hok.2 c_1
      obtain ⟨h_2, hok⟩ := hok
      refine lv_aload_n hx hb dX5_greatestBlur_11 rfl (lv_at hl 0 rfl) ?_
      refine get_M_all hx hb hts hinX5 hown hK hP (hts (.fieldLink RX5 7 "GrooveTurnsModel" "all" "[I") (by decide +kernel)) dX5_greatestBlur_12 ?_
      refine lv_sipush (v := 216) hx hb dX5_greatestBlur_15 (by decide) ?_
      refine lv_aload_n hx hb dX5_greatestBlur_18 rfl (lv_at hl 0 rfl) ?_
      refine lv_iload_n hx hb dX5_greatestBlur_19 rfl (lv_at hl 2 rfl) ?_
      refine rdV (As := [.int v1_2]) (rest := [.int 216, .ref (α 1)]) (c_X5_sectorOf l G α σ v1_2 h_2) hF (cwV 1 hts gX5_greatestBlur_X5_sectorOf rfl rfl rfl (by decide +kernel) ⟨Nat.le_of_ble_eq_true rfl, Nat.le_of_ble_eq_true rfl⟩) (rcv_M hK hP) hK hP rfl hl.1 rfl (Nat.le_of_ble_eq_true rfl) dX5_greatestBlur_20 ⟨Nat.zero_le _, Nat.zero_le _⟩ ?_
      obtain ⟨h_3, hok⟩ := hok
      refine lv_iadd hx hb dX5_greatestBlur_23 ?_
      refine ld_M_al hx hb hK hP h_3 dX5_greatestBlur_24 ?_
      refine lv_istore_n (lv' := [(3, .int ((m_al σ) (216 + (s_X5_sectorOf σ v1_2)).toNatClampNeg)), (0, .ref (α 0)), (1, .int v1_1), (2, .int v1_2)]) hx hb dX5_greatestBlur_25 rfl hl (by decide) rfl (fun ls hl => ?_)
      refine lv_iload_n hx hb dX5_greatestBlur_26 rfl (lv_at hl 0 rfl) ?_
      refine lv_iload_n hx hb dX5_greatestBlur_27 rfl (lv_at hl 2 rfl) ?_
      refine lv_icmp_le (tgt := 35) hx hb dX5_greatestBlur_28 (by decide) (fun (c_4 : ((m_al σ) (216 + (s_X5_sectorOf σ v1_2)).toNatClampNeg) ≤ v1_1) => ?_) (fun (c_4 : ¬ ((m_al σ) (216 + (s_X5_sectorOf σ v1_2)).toNatClampNeg) ≤ v1_1) => ?_)
      · skip
        have hok := hok.1 c_4
        refine lv_iload_n hx hb dX5_greatestBlur_35 rfl (lv_at hl 2 rfl) ?_
        refine lv_istore_n (lv' := [(1, .int v1_1), (3, .int ((m_al σ) (216 + (s_X5_sectorOf σ v1_2)).toNatClampNeg)), (0, .ref (α 0)), (2, .int v1_2)]) hx hb dX5_greatestBlur_36 rfl hl (by decide) rfl (fun ls hl => ?_)
        refine lv_iinc (v := (v1_2 + 1)) (lv' := [(2, .int (v1_2 + 1)), (1, .int v1_1), (3, .int ((m_al σ) (216 + (s_X5_sectorOf σ v1_2)).toNatClampNeg)), (0, .ref (α 0))]) hx hb dX5_greatestBlur_37 hl (k := 3) rfl rfl (by decide) rfl (fun ls hl => ?_)
        refine lv_goto (tgt := 4) hx hb dX5_greatestBlur_40 (by decide) ?_
        rw [show (L1_X5_greatestBlur σ (n + 1) v1_1 v1_2) = (L1_X5_greatestBlur σ n v1_1 (v1_2 + 1)) from by rw [L1_X5_greatestBlur]; rw [if_neg c_1, if_pos c_4]]
        exact ih v1_1 (v1_2 + 1) hok ls (lv_sub hl [3, 1, 0] rfl)
      · skip
        have hok := hok.2 c_4
        refine lv_iload_n hx hb dX5_greatestBlur_31 rfl (lv_at hl 0 rfl) ?_
        refine lv_goto (tgt := 36) hx hb dX5_greatestBlur_32 (by decide) ?_
        refine lv_istore_n (lv' := [(1, .int ((m_al σ) (216 + (s_X5_sectorOf σ v1_2)).toNatClampNeg)), (3, .int ((m_al σ) (216 + (s_X5_sectorOf σ v1_2)).toNatClampNeg)), (0, .ref (α 0)), (2, .int v1_2)]) hx hb dX5_greatestBlur_36 rfl hl (by decide) rfl (fun ls hl => ?_)
        refine lv_iinc (v := (v1_2 + 1)) (lv' := [(2, .int (v1_2 + 1)), (1, .int ((m_al σ) (216 + (s_X5_sectorOf σ v1_2)).toNatClampNeg)), (3, .int ((m_al σ) (216 + (s_X5_sectorOf σ v1_2)).toNatClampNeg)), (0, .ref (α 0))]) hx hb dX5_greatestBlur_37 hl (k := 3) rfl rfl (by decide) rfl (fun ls hl => ?_)
        refine lv_goto (tgt := 4) hx hb dX5_greatestBlur_40 (by decide) ?_
        rw [show (L1_X5_greatestBlur σ (n + 1) v1_1 v1_2) = (L1_X5_greatestBlur σ n ((m_al σ) (216 + (s_X5_sectorOf σ v1_2)).toNatClampNeg) (v1_2 + 1)) from by rw [L1_X5_greatestBlur]; rw [if_neg c_1, if_neg c_4]]
        exact ih ((m_al σ) (216 + (s_X5_sectorOf σ v1_2)).toNatClampNeg) (v1_2 + 1) hok ls (lv_sub hl [3, 1, 0] rfl)
set_option maxHeartbeats 4000000 in
set_option maxRecDepth 100000 in
theorem c_X5_greatestBlur (l : Launch) (G : GG) (α : Nat → Nat) (σ : MS) (hok : ok_X5_greatestBlur σ) : Rd G l yX5_greatestBlur wsX5_greatestBlur 1 21 [.ref (α 0)] (mW G.2.1 α σ) (.int (s_X5_greatestBlur σ)) := by
  refine Met.ofW (cc := cX5_greatestBlur) (maxL := 4) (ret := (some .int)) (by decide) rfl ?_
  intro p e s m args below meth c s₁ B hml hv
  obtain ⟨rfl, hP, hK⟩ := hv
  have C0 : cA p s m meth c ([.ref (α 0)] : List Value).toArray cX5_greatestBlur 4 (some .int) wsX5_greatestBlur RX5 := ⟨B.exec, B.bytes, B.returns, hml, findClass_of_methodNamed B.named, atoms_spec (ws := wsX5_greatestBlur) B.pre, B.notSynchronized⟩
  obtain ⟨hx, hb, hr, hml, hown, hts, hlocks⟩ := id C0
  have hF : CallFix p m c cX5_greatestBlur 4 s _ wsX5_greatestBlur RX5 := ⟨hx, hb, hml, hown, hts⟩
  have hinX5 : ∀ w ∈ wsX50, w ∈ wsX5_greatestBlur := by decide +kernel
  have hl := lv_entry ([.ref (α 0)]) (n := 4) (Nat.le_of_ble_eq_true rfl)
  rw [lg_entry_eq]
  generalize (lg_sl ([.ref (α 0)]) ++ List.replicate (4 - (lg_sl ([.ref (α 0)])).length) Slot.unset).toArray = ls at hl ⊢
  have hl : lv_has ls 4 [(0, .ref (α 0))] := hl
  have hok : okL1_X5_greatestBlur σ FU 0 0 := hok
  refine lv_iconst (v := 0) hx hb dX5_greatestBlur_0 (by decide) ?_
  refine lv_istore_n (lv' := [(1, .int 0), (0, .ref (α 0))]) hx hb dX5_greatestBlur_1 rfl hl (by decide) rfl (fun ls hl => ?_)
  refine lv_iconst (v := 0) hx hb dX5_greatestBlur_2 (by decide) ?_
  refine lv_istore_n (lv' := [(2, .int 0), (1, .int 0), (0, .ref (α 0))]) hx hb dX5_greatestBlur_3 rfl hl (by decide) rfl (fun ls hl => ?_)
  rw [show s_X5_greatestBlur σ = (L1_X5_greatestBlur σ FU 0 0) from by rw [s_X5_greatestBlur]]
  exact wL1_X5_greatestBlur l G α σ hP C0 hK FU 0 0 hok ls (lv_sub hl [2, 1, 0] rfl)
def s_X5_count (σ : MS) (p1 : Int32) : Int32 := (if p1 = 7 then (jrem ((m_al σ) (5 : Int32).toNatClampNeg) 12) else (if p1 = 8 then ((m_al σ) (7 : Int32).toNatClampNeg) else (if p1 = 9 then (if p1 = 10 then (s_X5_addresses σ (-6) 1) else (s_X5_addresses σ (-6) 0)) else (if p1 = 10 then (s_X5_addresses σ (-6) 1) else (if p1 = 11 then ((m_al σ) ((8 + p1) - 11).toNatClampNeg) else (if p1 = 12 then ((m_al σ) ((8 + p1) - 11).toNatClampNeg) else (if p1 = 13 then ((m_al σ) ((8 + p1) - 11).toNatClampNeg) else (if p1 = 14 then ((m_al σ) ((8 + p1) - 11).toNatClampNeg) else (if p1 = 15 then (s_X5_greatestBlur σ) else (if p1 = 16 then (m_tl σ) else (if p1 = 17 then (m_hl σ) else (if (s_X5_in p1.toInt64 0 6) = 0 then (-2) else ((m_al σ) p1.toNatClampNeg)))))))))))))
def ok_X5_count (σ : MS) (p1 : Int32) : Prop := (p1 = 7 → True) ∧ (¬ p1 = 7 → ((p1 = 8 → True) ∧ (¬ p1 = 8 → ((p1 = 9 → ((p1 = 10 → (ok_X5_addresses σ (-6) 1)) ∧ (¬ p1 = 10 → (ok_X5_addresses σ (-6) 0)))) ∧ (¬ p1 = 9 → ((p1 = 10 → (ok_X5_addresses σ (-6) 1)) ∧ (¬ p1 = 10 → ((p1 = 11 → (vp_in ((8 + p1) - 11) 816)) ∧ (¬ p1 = 11 → ((p1 = 12 → (vp_in ((8 + p1) - 11) 816)) ∧ (¬ p1 = 12 → ((p1 = 13 → (vp_in ((8 + p1) - 11) 816)) ∧ (¬ p1 = 13 → ((p1 = 14 → (vp_in ((8 + p1) - 11) 816)) ∧ (¬ p1 = 14 → ((p1 = 15 → (ok_X5_greatestBlur σ)) ∧ (¬ p1 = 15 → ((p1 = 16 → True) ∧ (¬ p1 = 16 → ((p1 = 17 → True) ∧ (¬ p1 = 17 → (((s_X5_in p1.toInt64 0 6) = 0 → True) ∧ (¬ (s_X5_in p1.toInt64 0 6) = 0 → (vp_in p1 816))))))))))))))))))))))))
set_option maxHeartbeats 4000000 in
set_option maxRecDepth 100000 in
theorem c_X5_count (l : Launch) (G : GG) (α : Nat → Nat) (σ : MS) (p1 : Int32) (hok : ok_X5_count σ p1) : Rd G l yX5_count wsX5_count 4 88 [.ref (α 0), .int p1] (mW G.2.1 α σ) (.int (s_X5_count σ p1)) := by
  refine Met.ofW (cc := cX5_count) (maxL := 2) (ret := (some .int)) (by decide) rfl ?_
  intro p e s m args below meth c s₁ B hml hv
  obtain ⟨rfl, hP, hK⟩ := hv
  have C0 : cA p s m meth c ([.ref (α 0), .int p1] : List Value).toArray cX5_count 2 (some .int) wsX5_count RX5 := ⟨B.exec, B.bytes, B.returns, hml, findClass_of_methodNamed B.named, atoms_spec (ws := wsX5_count) B.pre, B.notSynchronized⟩
  obtain ⟨hx, hb, hr, hml, hown, hts, hlocks⟩ := id C0
  have hF : CallFix p m c cX5_count 2 s _ wsX5_count RX5 := ⟨hx, hb, hml, hown, hts⟩
  have hinX5 : ∀ w ∈ wsX50, w ∈ wsX5_count := by decide +kernel
  have hl := lv_entry ([.ref (α 0), .int p1]) (n := 2) (Nat.le_of_ble_eq_true rfl)
  rw [lg_entry_eq]
  generalize (lg_sl ([.ref (α 0), .int p1]) ++ List.replicate (2 - (lg_sl ([.ref (α 0), .int p1])).length) Slot.unset).toArray = ls at hl ⊢
  have hl : lv_has ls 2 [(0, .ref (α 0)), (1, .int p1)] := hl
  have hok : (p1 = 7 → True) ∧ (¬ p1 = 7 → ((p1 = 8 → True) ∧ (¬ p1 = 8 → ((p1 = 9 → ((p1 = 10 → (ok_X5_addresses σ (-6) 1)) ∧ (¬ p1 = 10 → (ok_X5_addresses σ (-6) 0)))) ∧ (¬ p1 = 9 → ((p1 = 10 → (ok_X5_addresses σ (-6) 1)) ∧ (¬ p1 = 10 → ((p1 = 11 → (vp_in ((8 + p1) - 11) 816)) ∧ (¬ p1 = 11 → ((p1 = 12 → (vp_in ((8 + p1) - 11) 816)) ∧ (¬ p1 = 12 → ((p1 = 13 → (vp_in ((8 + p1) - 11) 816)) ∧ (¬ p1 = 13 → ((p1 = 14 → (vp_in ((8 + p1) - 11) 816)) ∧ (¬ p1 = 14 → ((p1 = 15 → (ok_X5_greatestBlur σ)) ∧ (¬ p1 = 15 → ((p1 = 16 → True) ∧ (¬ p1 = 16 → ((p1 = 17 → True) ∧ (¬ p1 = 17 → (((s_X5_in p1.toInt64 0 6) = 0 → True) ∧ (¬ (s_X5_in p1.toInt64 0 6) = 0 → (vp_in p1 816)))))))))))))))))))))))) := hok
  refine lv_iload_n hx hb dX5_count_0 rfl (lv_at hl 1 rfl) ?_
  by_cases c_1 : p1 = 7
  · skip
    refine lv_tableIn (tgt := 60) (off := 59) hx hb dX5_count_1 (by rw [c_1]; decide) (by rw [c_1]; decide) (by rw [c_1]; rfl) (by decide) ?_
    refine lv_aload_n hx hb dX5_count_60 rfl (lv_at hl 0 rfl) ?_
    refine get_M_all hx hb hts hinX5 hown hK hP (hts (.fieldLink RX5 7 "GrooveTurnsModel" "all" "[I") (by decide +kernel)) dX5_count_61 ?_
    refine lv_iconst (v := 5) hx hb dX5_count_64 (by decide) ?_
    refine ld_M_al hx hb hK hP (by unfold vp_in; decide) dX5_count_65 ?_
    refine lv_bipush (v := 12) hx hb dX5_count_66 (by decide) ?_
    refine lv_irem hx hb dX5_count_68 (by decide) ?_
    rw [show s_X5_count σ p1 = (jrem ((m_al σ) (5 : Int32).toNatClampNeg) 12) from by rw [s_X5_count]; rw [if_pos c_1]]
    exact W.iret hx hb hr (fun t ht hW => ⟨rfl, ht⟩) (fun _ h => nomatch h) dX5_count_69
  · skip
    have hok := hok.2 c_1
    by_cases c_2 : p1 = 8
    · skip
      refine lv_tableIn (tgt := 70) (off := 69) hx hb dX5_count_1 (by rw [c_2]; decide) (by rw [c_2]; decide) (by rw [c_2]; rfl) (by decide) ?_
      refine lv_aload_n hx hb dX5_count_70 rfl (lv_at hl 0 rfl) ?_
      refine get_M_all hx hb hts hinX5 hown hK hP (hts (.fieldLink RX5 7 "GrooveTurnsModel" "all" "[I") (by decide +kernel)) dX5_count_71 ?_
      refine lv_bipush (v := 7) hx hb dX5_count_74 (by decide) ?_
      refine ld_M_al hx hb hK hP (by unfold vp_in; decide) dX5_count_76 ?_
      rw [show s_X5_count σ p1 = ((m_al σ) (7 : Int32).toNatClampNeg) from by rw [s_X5_count]; rw [if_neg c_1, if_pos c_2]]
      exact W.iret hx hb hr (fun t ht hW => ⟨rfl, ht⟩) (fun _ h => nomatch h) dX5_count_77
    · skip
      have hok := hok.2 c_2
      by_cases c_3 : p1 = 9
      · skip
        have hok := hok.1 c_3
        refine lv_tableIn (tgt := 78) (off := 77) hx hb dX5_count_1 (by rw [c_3]; decide) (by rw [c_3]; decide) (by rw [c_3]; rfl) (by decide) ?_
        refine lv_aload_n hx hb dX5_count_78 rfl (lv_at hl 0 rfl) ?_
        refine lv_bipush (v := (-6)) hx hb dX5_count_79 (by decide) ?_
        refine lv_iload_n hx hb dX5_count_81 rfl (lv_at hl 1 rfl) ?_
        refine lv_bipush (v := 10) hx hb dX5_count_82 (by decide) ?_
        refine lv_icmp_ne (tgt := 91) hx hb dX5_count_84 (by decide) (fun (c_4 : ¬ p1 = 10) => ?_) (fun (c_4 : p1 = 10) => ?_)
        · skip
          have hok := hok.2 c_4
          have h_5 := hok
          refine lv_iconst (v := 0) hx hb dX5_count_91 (by decide) ?_
          refine rdV (As := [.int (-6), .int 0]) (rest := []) (c_X5_addresses l G α σ (-6) 0 h_5) hF (cwV 2 hts gX5_count_X5_addresses rfl rfl rfl (by decide +kernel) ⟨Nat.le_of_ble_eq_true rfl, Nat.le_of_ble_eq_true rfl⟩) (rcv_M hK hP) hK hP rfl hl.1 rfl (Nat.le_of_ble_eq_true rfl) dX5_count_92 ⟨Nat.zero_le _, Nat.zero_le _⟩ ?_
          rw [show s_X5_count σ p1 = (s_X5_addresses σ (-6) 0) from by rw [s_X5_count]; rw [if_neg c_1, if_neg c_2, if_pos c_3, if_neg c_4]]
          exact W.iret hx hb hr (fun t ht hW => ⟨rfl, ht⟩) (fun _ h => nomatch h) dX5_count_95
        · skip
          have hok := hok.1 c_4
          have h_6 := hok
          refine lv_iconst (v := 1) hx hb dX5_count_87 (by decide) ?_
          refine lv_goto (tgt := 92) hx hb dX5_count_88 (by decide) ?_
          refine rdV (As := [.int (-6), .int 1]) (rest := []) (c_X5_addresses l G α σ (-6) 1 h_6) hF (cwV 2 hts gX5_count_X5_addresses rfl rfl rfl (by decide +kernel) ⟨Nat.le_of_ble_eq_true rfl, Nat.le_of_ble_eq_true rfl⟩) (rcv_M hK hP) hK hP rfl hl.1 rfl (Nat.le_of_ble_eq_true rfl) dX5_count_92 ⟨Nat.zero_le _, Nat.zero_le _⟩ ?_
          rw [show s_X5_count σ p1 = (s_X5_addresses σ (-6) 1) from by rw [s_X5_count]; rw [if_neg c_1, if_neg c_2, if_pos c_3, if_pos c_4]]
          exact W.iret hx hb hr (fun t ht hW => ⟨rfl, ht⟩) (fun _ h => nomatch h) dX5_count_95
      · skip
        have hok := hok.2 c_3
        by_cases c_7 : p1 = 10
        · skip
          have hok := hok.1 c_7
          refine lv_tableIn (tgt := 78) (off := 77) hx hb dX5_count_1 (by rw [c_7]; decide) (by rw [c_7]; decide) (by rw [c_7]; rfl) (by decide) ?_
          refine lv_aload_n hx hb dX5_count_78 rfl (lv_at hl 0 rfl) ?_
          refine lv_bipush (v := (-6)) hx hb dX5_count_79 (by decide) ?_
          refine lv_iload_n hx hb dX5_count_81 rfl (lv_at hl 1 rfl) ?_
          refine lv_bipush (v := 10) hx hb dX5_count_82 (by decide) ?_
          refine lv_icmp_ne (tgt := 91) hx hb dX5_count_84 (by decide) (fun (c_8 : ¬ p1 = 10) => ?_) (fun (c_8 : p1 = 10) => ?_)
          · skip
            exact absurd c_7 c_8
          · skip
            have h_9 := hok
            refine lv_iconst (v := 1) hx hb dX5_count_87 (by decide) ?_
            refine lv_goto (tgt := 92) hx hb dX5_count_88 (by decide) ?_
            refine rdV (As := [.int (-6), .int 1]) (rest := []) (c_X5_addresses l G α σ (-6) 1 h_9) hF (cwV 2 hts gX5_count_X5_addresses rfl rfl rfl (by decide +kernel) ⟨Nat.le_of_ble_eq_true rfl, Nat.le_of_ble_eq_true rfl⟩) (rcv_M hK hP) hK hP rfl hl.1 rfl (Nat.le_of_ble_eq_true rfl) dX5_count_92 ⟨Nat.zero_le _, Nat.zero_le _⟩ ?_
            rw [show s_X5_count σ p1 = (s_X5_addresses σ (-6) 1) from by rw [s_X5_count]; rw [if_neg c_1, if_neg c_2, if_neg c_3, if_pos c_7]]
            exact W.iret hx hb hr (fun t ht hW => ⟨rfl, ht⟩) (fun _ h => nomatch h) dX5_count_95
        · skip
          have hok := hok.2 c_7
          by_cases c_10 : p1 = 11
          · skip
            have hok := hok.1 c_10
            refine lv_tableIn (tgt := 96) (off := 95) hx hb dX5_count_1 (by rw [c_10]; decide) (by rw [c_10]; decide) (by rw [c_10]; rfl) (by decide) ?_
            have h_11 := hok
            refine lv_aload_n hx hb dX5_count_96 rfl (lv_at hl 0 rfl) ?_
            refine get_M_all hx hb hts hinX5 hown hK hP (hts (.fieldLink RX5 7 "GrooveTurnsModel" "all" "[I") (by decide +kernel)) dX5_count_97 ?_
            refine lv_bipush (v := 8) hx hb dX5_count_100 (by decide) ?_
            refine lv_iload_n hx hb dX5_count_102 rfl (lv_at hl 1 rfl) ?_
            refine lv_iadd hx hb dX5_count_103 ?_
            refine lv_bipush (v := 11) hx hb dX5_count_104 (by decide) ?_
            refine lv_isub hx hb dX5_count_106 ?_
            refine ld_M_al hx hb hK hP h_11 dX5_count_107 ?_
            rw [show s_X5_count σ p1 = ((m_al σ) ((8 + p1) - 11).toNatClampNeg) from by rw [s_X5_count]; rw [if_neg c_1, if_neg c_2, if_neg c_3, if_neg c_7, if_pos c_10]]
            exact W.iret hx hb hr (fun t ht hW => ⟨rfl, ht⟩) (fun _ h => nomatch h) dX5_count_108
          · skip
            have hok := hok.2 c_10
            by_cases c_12 : p1 = 12
            · skip
              have hok := hok.1 c_12
              refine lv_tableIn (tgt := 96) (off := 95) hx hb dX5_count_1 (by rw [c_12]; decide) (by rw [c_12]; decide) (by rw [c_12]; rfl) (by decide) ?_
              have h_13 := hok
              refine lv_aload_n hx hb dX5_count_96 rfl (lv_at hl 0 rfl) ?_
              refine get_M_all hx hb hts hinX5 hown hK hP (hts (.fieldLink RX5 7 "GrooveTurnsModel" "all" "[I") (by decide +kernel)) dX5_count_97 ?_
              refine lv_bipush (v := 8) hx hb dX5_count_100 (by decide) ?_
              refine lv_iload_n hx hb dX5_count_102 rfl (lv_at hl 1 rfl) ?_
              refine lv_iadd hx hb dX5_count_103 ?_
              refine lv_bipush (v := 11) hx hb dX5_count_104 (by decide) ?_
              refine lv_isub hx hb dX5_count_106 ?_
              refine ld_M_al hx hb hK hP h_13 dX5_count_107 ?_
              rw [show s_X5_count σ p1 = ((m_al σ) ((8 + p1) - 11).toNatClampNeg) from by rw [s_X5_count]; rw [if_neg c_1, if_neg c_2, if_neg c_3, if_neg c_7, if_neg c_10, if_pos c_12]]
              exact W.iret hx hb hr (fun t ht hW => ⟨rfl, ht⟩) (fun _ h => nomatch h) dX5_count_108
            · skip
              have hok := hok.2 c_12
              by_cases c_14 : p1 = 13
              · skip
                have hok := hok.1 c_14
                refine lv_tableIn (tgt := 96) (off := 95) hx hb dX5_count_1 (by rw [c_14]; decide) (by rw [c_14]; decide) (by rw [c_14]; rfl) (by decide) ?_
                have h_15 := hok
                refine lv_aload_n hx hb dX5_count_96 rfl (lv_at hl 0 rfl) ?_
                refine get_M_all hx hb hts hinX5 hown hK hP (hts (.fieldLink RX5 7 "GrooveTurnsModel" "all" "[I") (by decide +kernel)) dX5_count_97 ?_
                refine lv_bipush (v := 8) hx hb dX5_count_100 (by decide) ?_
                refine lv_iload_n hx hb dX5_count_102 rfl (lv_at hl 1 rfl) ?_
                refine lv_iadd hx hb dX5_count_103 ?_
                refine lv_bipush (v := 11) hx hb dX5_count_104 (by decide) ?_
                refine lv_isub hx hb dX5_count_106 ?_
                refine ld_M_al hx hb hK hP h_15 dX5_count_107 ?_
                rw [show s_X5_count σ p1 = ((m_al σ) ((8 + p1) - 11).toNatClampNeg) from by rw [s_X5_count]; rw [if_neg c_1, if_neg c_2, if_neg c_3, if_neg c_7, if_neg c_10, if_neg c_12, if_pos c_14]]
                exact W.iret hx hb hr (fun t ht hW => ⟨rfl, ht⟩) (fun _ h => nomatch h) dX5_count_108
              · skip
                have hok := hok.2 c_14
                by_cases c_16 : p1 = 14
                · skip
                  have hok := hok.1 c_16
                  refine lv_tableIn (tgt := 96) (off := 95) hx hb dX5_count_1 (by rw [c_16]; decide) (by rw [c_16]; decide) (by rw [c_16]; rfl) (by decide) ?_
                  have h_17 := hok
                  refine lv_aload_n hx hb dX5_count_96 rfl (lv_at hl 0 rfl) ?_
                  refine get_M_all hx hb hts hinX5 hown hK hP (hts (.fieldLink RX5 7 "GrooveTurnsModel" "all" "[I") (by decide +kernel)) dX5_count_97 ?_
                  refine lv_bipush (v := 8) hx hb dX5_count_100 (by decide) ?_
                  refine lv_iload_n hx hb dX5_count_102 rfl (lv_at hl 1 rfl) ?_
                  refine lv_iadd hx hb dX5_count_103 ?_
                  refine lv_bipush (v := 11) hx hb dX5_count_104 (by decide) ?_
                  refine lv_isub hx hb dX5_count_106 ?_
                  refine ld_M_al hx hb hK hP h_17 dX5_count_107 ?_
                  rw [show s_X5_count σ p1 = ((m_al σ) ((8 + p1) - 11).toNatClampNeg) from by rw [s_X5_count]; rw [if_neg c_1, if_neg c_2, if_neg c_3, if_neg c_7, if_neg c_10, if_neg c_12, if_neg c_14, if_pos c_16]]
                  exact W.iret hx hb hr (fun t ht hW => ⟨rfl, ht⟩) (fun _ h => nomatch h) dX5_count_108
                · skip
                  have hok := hok.2 c_16
                  by_cases c_18 : p1 = 15
                  · skip
                    have hok := hok.1 c_18
                    refine lv_tableIn (tgt := 109) (off := 108) hx hb dX5_count_1 (by rw [c_18]; decide) (by rw [c_18]; decide) (by rw [c_18]; rfl) (by decide) ?_
                    have h_19 := hok
                    refine lv_aload_n hx hb dX5_count_109 rfl (lv_at hl 0 rfl) ?_
                    refine rdV (As := []) (rest := []) (c_X5_greatestBlur l G α σ h_19) hF (cwV 0 hts gX5_count_X5_greatestBlur rfl rfl rfl (by decide +kernel) ⟨Nat.le_of_ble_eq_true rfl, Nat.le_of_ble_eq_true rfl⟩) (rcv_M hK hP) hK hP rfl hl.1 rfl (Nat.le_of_ble_eq_true rfl) dX5_count_110 ⟨Nat.zero_le _, Nat.zero_le _⟩ ?_
                    rw [show s_X5_count σ p1 = (s_X5_greatestBlur σ) from by rw [s_X5_count]; rw [if_neg c_1, if_neg c_2, if_neg c_3, if_neg c_7, if_neg c_10, if_neg c_12, if_neg c_14, if_neg c_16, if_pos c_18]]
                    exact W.iret hx hb hr (fun t ht hW => ⟨rfl, ht⟩) (fun _ h => nomatch h) dX5_count_113
                  · skip
                    have hok := hok.2 c_18
                    by_cases c_20 : p1 = 16
                    · skip
                      refine lv_tableIn (tgt := 114) (off := 113) hx hb dX5_count_1 (by rw [c_20]; decide) (by rw [c_20]; decide) (by rw [c_20]; rfl) (by decide) ?_
                      refine lv_aload_n hx hb dX5_count_114 rfl (lv_at hl 0 rfl) ?_
                      refine get_M_textLong hx hb hts hinX5 hown hK hP (hts (.fieldLink RX5 128 "GrooveTurnsModel" "textLong" "I") (by decide +kernel)) dX5_count_115 ?_
                      rw [show s_X5_count σ p1 = (m_tl σ) from by rw [s_X5_count]; rw [if_neg c_1, if_neg c_2, if_neg c_3, if_neg c_7, if_neg c_10, if_neg c_12, if_neg c_14, if_neg c_16, if_neg c_18, if_pos c_20]]
                      exact W.iret hx hb hr (fun t ht hW => ⟨rfl, ht⟩) (fun _ h => nomatch h) dX5_count_118
                    · skip
                      have hok := hok.2 c_20
                      by_cases c_21 : p1 = 17
                      · skip
                        refine lv_tableIn (tgt := 119) (off := 118) hx hb dX5_count_1 (by rw [c_21]; decide) (by rw [c_21]; decide) (by rw [c_21]; rfl) (by decide) ?_
                        refine lv_aload_n hx hb dX5_count_119 rfl (lv_at hl 0 rfl) ?_
                        refine get_M_historyLong hx hb hts hinX5 hown hK hP (hts (.fieldLink RX5 37 "GrooveTurnsModel" "historyLong" "I") (by decide +kernel)) dX5_count_120 ?_
                        rw [show s_X5_count σ p1 = (m_hl σ) from by rw [s_X5_count]; rw [if_neg c_1, if_neg c_2, if_neg c_3, if_neg c_7, if_neg c_10, if_neg c_12, if_neg c_14, if_neg c_16, if_neg c_18, if_neg c_20, if_pos c_21]]
                        exact W.iret hx hb hr (fun t ht hW => ⟨rfl, ht⟩) (fun _ h => nomatch h) dX5_count_123
                      · skip
                        have hok := hok.2 c_21
                        have h9_0 : ¬ p1.toInt = 7 := lv_neT c_1 (by decide)
                        have h9_1 : ¬ p1.toInt = 8 := lv_neT c_2 (by decide)
                        have h9_2 : ¬ p1.toInt = 9 := lv_neT c_3 (by decide)
                        have h9_3 : ¬ p1.toInt = 10 := lv_neT c_7 (by decide)
                        have h9_4 : ¬ p1.toInt = 11 := lv_neT c_10 (by decide)
                        have h9_5 : ¬ p1.toInt = 12 := lv_neT c_12 (by decide)
                        have h9_6 : ¬ p1.toInt = 13 := lv_neT c_14 (by decide)
                        have h9_7 : ¬ p1.toInt = 14 := lv_neT c_16 (by decide)
                        have h9_8 : ¬ p1.toInt = 15 := lv_neT c_18 (by decide)
                        have h9_9 : ¬ p1.toInt = 16 := lv_neT c_20 (by decide)
                        have h9_10 : ¬ p1.toInt = 17 := lv_neT c_21 (by decide)
                        refine lv_tableOut (tgt := 124) hx hb dX5_count_1 (sw_out (fun k9 h9 h8 => by omega)) (by decide) ?_
                        refine lv_iload_n hx hb dX5_count_124 rfl (lv_at hl 1 rfl) ?_
                        refine lv_i2l (v := p1.toInt64) hx hb dX5_count_125 rfl ?_
                        refine lv_lconst (v := 0) hx hb dX5_count_126 (by decide) ?_
                        refine lv_ldc2 (v := 6) hx hb hown (hts (.constantLong RX5 131 (6)) (by decide +kernel)) dX5_count_127 ?_
                        refine rdS (As := [.long p1.toInt64, .long 0, .long 6]) (rest := []) (c_X5_in l G p1.toInt64 0 6) hF (va_cwS 3 hts gX5_count_X5_in rfl rfl rfl (by decide +kernel) ⟨Nat.le_of_ble_eq_true rfl, Nat.le_of_ble_eq_true rfl⟩) hK va_P0 rfl hl.1 rfl (Nat.le_of_ble_eq_true rfl) dX5_count_130 ⟨Nat.zero_le _, Nat.zero_le _⟩ ?_
                        refine lv_if_eq (tgt := 145) hx hb dX5_count_133 (by decide) (fun (c_22 : (s_X5_in p1.toInt64 0 6) = 0) => ?_) (fun (c_22 : ¬ (s_X5_in p1.toInt64 0 6) = 0) => ?_)
                        · skip
                          refine lv_bipush (v := (-2)) hx hb dX5_count_145 (by decide) ?_
                          rw [show s_X5_count σ p1 = (-2) from by rw [s_X5_count]; rw [if_neg c_1, if_neg c_2, if_neg c_3, if_neg c_7, if_neg c_10, if_neg c_12, if_neg c_14, if_neg c_16, if_neg c_18, if_neg c_20, if_neg c_21, if_pos c_22]]
                          exact W.iret hx hb hr (fun t ht hW => ⟨rfl, ht⟩) (fun _ h => nomatch h) dX5_count_147
                        · skip
                          have hok := hok.2 c_22
                          have h_23 := hok
                          refine lv_aload_n hx hb dX5_count_136 rfl (lv_at hl 0 rfl) ?_
                          refine get_M_all hx hb hts hinX5 hown hK hP (hts (.fieldLink RX5 7 "GrooveTurnsModel" "all" "[I") (by decide +kernel)) dX5_count_137 ?_
                          refine lv_iload_n hx hb dX5_count_140 rfl (lv_at hl 1 rfl) ?_
                          refine ld_M_al hx hb hK hP h_23 dX5_count_141 ?_
                          refine lv_goto (tgt := 147) hx hb dX5_count_142 (by decide) ?_
                          rw [show s_X5_count σ p1 = ((m_al σ) p1.toNatClampNeg) from by rw [s_X5_count]; rw [if_neg c_1, if_neg c_2, if_neg c_3, if_neg c_7, if_neg c_10, if_neg c_12, if_neg c_14, if_neg c_16, if_neg c_18, if_neg c_20, if_neg c_21, if_neg c_22]]
                          exact W.iret hx hb hr (fun t ht hW => ⟨rfl, ht⟩) (fun _ h => nomatch h) dX5_count_147
def s_X5_ticksFor (σ : MS) (p1 : Int32) (p2 : Int32) : Int32 := (if (s_X5_isAddress p1) = 0 then (-1) else (if p2 = 0 then (s_X5_takes σ (s_X5_sectorOf σ p1)) else (s_X5_takes σ (s_X5_sectorToWrite σ p1))))
def ok_X5_ticksFor (σ : MS) (p1 : Int32) (p2 : Int32) : Prop := ((s_X5_isAddress p1) = 0 → True) ∧ (¬ (s_X5_isAddress p1) = 0 → ((p2 = 0 → (ok_X5_sectorOf σ p1)) ∧ (¬ p2 = 0 → (ok_X5_sectorToWrite σ p1))))
set_option maxHeartbeats 4000000 in
set_option maxRecDepth 100000 in
theorem c_X5_ticksFor (l : Launch) (G : GG) (α : Nat → Nat) (σ : MS) (p1 : Int32) (p2 : Int32) (hok : ok_X5_ticksFor σ p1 p2) : Rd G l yX5_ticksFor wsX5_ticksFor 2 45 [.ref (α 0), .int p1, .int p2] (mW G.2.1 α σ) (.int (s_X5_ticksFor σ p1 p2)) := by
  refine Met.ofW (cc := cX5_ticksFor) (maxL := 3) (ret := (some .int)) (by decide) rfl ?_
  intro p e s m args below meth c s₁ B hml hv
  obtain ⟨rfl, hP, hK⟩ := hv
  have C0 : cA p s m meth c ([.ref (α 0), .int p1, .int p2] : List Value).toArray cX5_ticksFor 3 (some .int) wsX5_ticksFor RX5 := ⟨B.exec, B.bytes, B.returns, hml, findClass_of_methodNamed B.named, atoms_spec (ws := wsX5_ticksFor) B.pre, B.notSynchronized⟩
  obtain ⟨hx, hb, hr, hml, hown, hts, hlocks⟩ := id C0
  have hF : CallFix p m c cX5_ticksFor 3 s _ wsX5_ticksFor RX5 := ⟨hx, hb, hml, hown, hts⟩
  have hl := lv_entry ([.ref (α 0), .int p1, .int p2]) (n := 3) (Nat.le_of_ble_eq_true rfl)
  rw [lg_entry_eq]
  generalize (lg_sl ([.ref (α 0), .int p1, .int p2]) ++ List.replicate (3 - (lg_sl ([.ref (α 0), .int p1, .int p2])).length) Slot.unset).toArray = ls at hl ⊢
  have hl : lv_has ls 3 [(0, .ref (α 0)), (1, .int p1), (2, .int p2)] := hl
  have hok : ((s_X5_isAddress p1) = 0 → True) ∧ (¬ (s_X5_isAddress p1) = 0 → ((p2 = 0 → (ok_X5_sectorOf σ p1)) ∧ (¬ p2 = 0 → (ok_X5_sectorToWrite σ p1)))) := hok
  refine lv_iload_n hx hb dX5_ticksFor_0 rfl (lv_at hl 1 rfl) ?_
  refine rdS (As := [.int p1]) (rest := []) (c_X5_isAddress l G p1) hF (va_cwS 1 hts gX5_ticksFor_X5_isAddress rfl rfl rfl (by decide +kernel) ⟨Nat.le_of_ble_eq_true rfl, Nat.le_of_ble_eq_true rfl⟩) hK va_P0 rfl hl.1 rfl (Nat.le_of_ble_eq_true rfl) dX5_ticksFor_1 ⟨Nat.zero_le _, Nat.zero_le _⟩ ?_
  refine lv_if_eq (tgt := 31) hx hb dX5_ticksFor_4 (by decide) (fun (c_1 : (s_X5_isAddress p1) = 0) => ?_) (fun (c_1 : ¬ (s_X5_isAddress p1) = 0) => ?_)
  · skip
    refine lv_iconst (v := (-1)) hx hb dX5_ticksFor_31 (by decide) ?_
    rw [show s_X5_ticksFor σ p1 p2 = (-1) from by rw [s_X5_ticksFor]; rw [if_pos c_1]]
    exact W.iret hx hb hr (fun t ht hW => ⟨rfl, ht⟩) (fun _ h => nomatch h) dX5_ticksFor_32
  · skip
    have hok := hok.2 c_1
    refine lv_aload_n hx hb dX5_ticksFor_7 rfl (lv_at hl 0 rfl) ?_
    refine lv_iload_n hx hb dX5_ticksFor_8 rfl (lv_at hl 2 rfl) ?_
    refine lv_if_eq (tgt := 20) hx hb dX5_ticksFor_9 (by decide) (fun (c_2 : p2 = 0) => ?_) (fun (c_2 : ¬ p2 = 0) => ?_)
    · skip
      have hok := hok.1 c_2
      have h_3 := hok
      refine lv_aload_n hx hb dX5_ticksFor_20 rfl (lv_at hl 0 rfl) ?_
      refine lv_iload_n hx hb dX5_ticksFor_21 rfl (lv_at hl 1 rfl) ?_
      refine rdV (As := [.int p1]) (rest := [.ref (α 0)]) (c_X5_sectorOf l G α σ p1 h_3) hF (cwV 1 hts gX5_ticksFor_X5_sectorOf rfl rfl rfl (by decide +kernel) ⟨Nat.le_of_ble_eq_true rfl, Nat.le_of_ble_eq_true rfl⟩) (rcv_M hK hP) hK hP rfl hl.1 rfl (Nat.le_of_ble_eq_true rfl) dX5_ticksFor_22 ⟨Nat.zero_le _, Nat.zero_le _⟩ ?_
      refine rdV (As := [.int (s_X5_sectorOf σ p1)]) (rest := []) (c_X5_takes l G α σ (s_X5_sectorOf σ p1)) hF (cwV 1 hts gX5_ticksFor_X5_takes rfl rfl rfl (by decide +kernel) ⟨Nat.le_of_ble_eq_true rfl, Nat.le_of_ble_eq_true rfl⟩) (rcv_M hK hP) hK hP rfl hl.1 rfl (Nat.le_of_ble_eq_true rfl) dX5_ticksFor_25 ⟨Nat.zero_le _, Nat.zero_le _⟩ ?_
      refine lv_goto (tgt := 32) hx hb dX5_ticksFor_28 (by decide) ?_
      rw [show s_X5_ticksFor σ p1 p2 = (s_X5_takes σ (s_X5_sectorOf σ p1)) from by rw [s_X5_ticksFor]; rw [if_neg c_1, if_pos c_2]]
      exact W.iret hx hb hr (fun t ht hW => ⟨rfl, ht⟩) (fun _ h => nomatch h) dX5_ticksFor_32
    · skip
      have hok := hok.2 c_2
      have h_4 := hok
      refine lv_aload_n hx hb dX5_ticksFor_12 rfl (lv_at hl 0 rfl) ?_
      refine lv_iload_n hx hb dX5_ticksFor_13 rfl (lv_at hl 1 rfl) ?_
      refine rdV (As := [.int p1]) (rest := [.ref (α 0)]) (c_X5_sectorToWrite l G α σ p1 h_4) hF (cwV 1 hts gX5_ticksFor_X5_sectorToWrite rfl rfl rfl (by decide +kernel) ⟨Nat.le_of_ble_eq_true rfl, Nat.le_of_ble_eq_true rfl⟩) (rcv_M hK hP) hK hP rfl hl.1 rfl (Nat.le_of_ble_eq_true rfl) dX5_ticksFor_14 ⟨Nat.zero_le _, Nat.zero_le _⟩ ?_
      refine lv_goto (tgt := 25) hx hb dX5_ticksFor_17 (by decide) ?_
      refine rdV (As := [.int (s_X5_sectorToWrite σ p1)]) (rest := []) (c_X5_takes l G α σ (s_X5_sectorToWrite σ p1)) hF (cwV 1 hts gX5_ticksFor_X5_takes rfl rfl rfl (by decide +kernel) ⟨Nat.le_of_ble_eq_true rfl, Nat.le_of_ble_eq_true rfl⟩) (rcv_M hK hP) hK hP rfl hl.1 rfl (Nat.le_of_ble_eq_true rfl) dX5_ticksFor_25 ⟨Nat.zero_le _, Nat.zero_le _⟩ ?_
      refine lv_goto (tgt := 32) hx hb dX5_ticksFor_28 (by decide) ?_
      rw [show s_X5_ticksFor σ p1 p2 = (s_X5_takes σ (s_X5_sectorToWrite σ p1)) from by rw [s_X5_ticksFor]; rw [if_neg c_1, if_neg c_2]]
      exact W.iret hx hb hr (fun t ht hW => ⟨rfl, ht⟩) (fun _ h => nomatch h) dX5_ticksFor_32
def L1_X5_worst (σ : MS) : Nat → Int32 → Int32 → Int32
  | 0, v1_1, v1_2 => 0
  | n + 1, v1_1, v1_2 => (if 192 ≤ v1_2 then v1_1 else (if (s_X5_canBeRead σ v1_2) = 0 then (L1_X5_worst σ n v1_1 (v1_2 + 1)) else (if v1_1 = (-6) then (L1_X5_worst σ n v1_2 (v1_2 + 1)) else (if ((m_al σ) (216 + (s_X5_sectorOf σ v1_2)).toNatClampNeg) ≤ ((m_al σ) (216 + (s_X5_sectorOf σ v1_1)).toNatClampNeg) then (L1_X5_worst σ n v1_1 (v1_2 + 1)) else (L1_X5_worst σ n v1_2 (v1_2 + 1))))))
def okL1_X5_worst (σ : MS) : Nat → Int32 → Int32 → Prop
  | 0, _, _ => False
  | n + 1, v1_1, v1_2 => (192 ≤ v1_2 → True) ∧ (¬ 192 ≤ v1_2 → ((ok_X5_canBeRead σ v1_2) ∧ (((s_X5_canBeRead σ v1_2) = 0 → (okL1_X5_worst σ n v1_1 (v1_2 + 1))) ∧ (¬ (s_X5_canBeRead σ v1_2) = 0 → ((v1_1 = (-6) → (okL1_X5_worst σ n v1_2 (v1_2 + 1))) ∧ (¬ v1_1 = (-6) → ((ok_X5_sectorOf σ v1_2) ∧ ((vp_in (216 + (s_X5_sectorOf σ v1_2)) 816) ∧ ((ok_X5_sectorOf σ v1_1) ∧ ((vp_in (216 + (s_X5_sectorOf σ v1_1)) 816) ∧ ((((m_al σ) (216 + (s_X5_sectorOf σ v1_2)).toNatClampNeg) ≤ ((m_al σ) (216 + (s_X5_sectorOf σ v1_1)).toNatClampNeg) → (okL1_X5_worst σ n v1_1 (v1_2 + 1))) ∧ (¬ ((m_al σ) (216 + (s_X5_sectorOf σ v1_2)).toNatClampNeg) ≤ ((m_al σ) (216 + (s_X5_sectorOf σ v1_1)).toNatClampNeg) → (okL1_X5_worst σ n v1_2 (v1_2 + 1))))))))))))))
def s_X5_worst (σ : MS) : Int32 := (L1_X5_worst σ FU (-6) 0)
def ok_X5_worst (σ : MS) : Prop := okL1_X5_worst σ FU (-6) 0
set_option maxHeartbeats 4000000 in
set_option maxRecDepth 100000 in
theorem wL1_X5_worst {p : Program} {e : Env} {s : State} {m : MethodId} {args : Array Value} {below : List Frame} {meth : Method} {c : Code} (l : Launch) (G : GG) (α : Nat → Nat) (σ : MS) (hP : va_P G.1 vwCl (mW G.2.1 α σ) s.heap) (C0 : cA p s m meth c args cX5_worst 4 (some .int) wsX5_worst RX5) (hK : cK G s) : ∀ (n : Nat) (v1_1 : Int32) (v1_2 : Int32)  (hok : okL1_X5_worst σ n v1_1 v1_2) (ls : Array Slot), lv_has ls 4 [(0, .ref (α 0)), (1, .int v1_1), (2, .int v1_2)] → W p l e (rmm 3 63) s m args below meth c s.heap [] 0 0 (MQ below (QR (some (.int (L1_X5_worst σ n v1_1 v1_2)))) args s 0 0 (fun _ => False)) (F0 m 5 ls []) := by
  obtain ⟨hx, hb, hr, hml, hown, hts, hlocks⟩ := id C0
  have hF : CallFix p m c cX5_worst 4 s args wsX5_worst RX5 := ⟨hx, hb, hml, hown, hts⟩
  have hinX5 : ∀ w ∈ wsX50, w ∈ wsX5_worst := by decide +kernel
  intro n
  induction n with
  | zero =>
    intro v1_1 v1_2 hok
    exact hok.elim
  | succ n ih =>
    intro v1_1 v1_2 hok ls hl
    have hok : (192 ≤ v1_2 → True) ∧ (¬ 192 ≤ v1_2 → ((ok_X5_canBeRead σ v1_2) ∧ (((s_X5_canBeRead σ v1_2) = 0 → (okL1_X5_worst σ n v1_1 (v1_2 + 1))) ∧ (¬ (s_X5_canBeRead σ v1_2) = 0 → ((v1_1 = (-6) → (okL1_X5_worst σ n v1_2 (v1_2 + 1))) ∧ (¬ v1_1 = (-6) → ((ok_X5_sectorOf σ v1_2) ∧ ((vp_in (216 + (s_X5_sectorOf σ v1_2)) 816) ∧ ((ok_X5_sectorOf σ v1_1) ∧ ((vp_in (216 + (s_X5_sectorOf σ v1_1)) 816) ∧ ((((m_al σ) (216 + (s_X5_sectorOf σ v1_2)).toNatClampNeg) ≤ ((m_al σ) (216 + (s_X5_sectorOf σ v1_1)).toNatClampNeg) → (okL1_X5_worst σ n v1_1 (v1_2 + 1))) ∧ (¬ ((m_al σ) (216 + (s_X5_sectorOf σ v1_2)).toNatClampNeg) ≤ ((m_al σ) (216 + (s_X5_sectorOf σ v1_1)).toNatClampNeg) → (okL1_X5_worst σ n v1_2 (v1_2 + 1)))))))))))))) := hok
    refine lv_iload_n hx hb dX5_worst_5 rfl (lv_at hl 2 rfl) ?_
    refine lv_sipush (v := 192) hx hb dX5_worst_6 (by decide) ?_
    refine lv_icmp_ge (tgt := 79) hx hb dX5_worst_9 (by decide) (fun (c_1 : 192 ≤ v1_2) => ?_) (fun (c_1 : ¬ 192 ≤ v1_2) => ?_)
    · skip
      refine lv_iload_n hx hb dX5_worst_79 rfl (lv_at hl 1 rfl) ?_
      rw [show (L1_X5_worst σ (n + 1) v1_1 v1_2) = v1_1 from by rw [L1_X5_worst]; rw [if_pos c_1]]
      exact W.iret hx hb hr (fun t ht hW => ⟨rfl, ht⟩) (fun _ h => nomatch h) dX5_worst_80
    · skip
      have hok := hok.2 c_1
      obtain ⟨h_2, hok⟩ := hok
      refine lv_aload_n hx hb dX5_worst_12 rfl (lv_at hl 0 rfl) ?_
      refine lv_iload_n hx hb dX5_worst_13 rfl (lv_at hl 2 rfl) ?_
      refine rdV (As := [.int v1_2]) (rest := []) (c_X5_canBeRead l G α σ v1_2 h_2) hF (cwV 1 hts gX5_worst_X5_canBeRead rfl rfl rfl (by decide +kernel) ⟨Nat.le_of_ble_eq_true rfl, Nat.le_of_ble_eq_true rfl⟩) (rcv_M hK hP) hK hP rfl hl.1 rfl (Nat.le_of_ble_eq_true rfl) dX5_worst_14 ⟨Nat.zero_le _, Nat.zero_le _⟩ ?_
      refine lv_if_eq (tgt := 61) hx hb dX5_worst_17 (by decide) (fun (c_3 : (s_X5_canBeRead σ v1_2) = 0) => ?_) (fun (c_3 : ¬ (s_X5_canBeRead σ v1_2) = 0) => ?_)
      · skip
        have hok := hok.1 c_3
        refine lv_iconst (v := 0) hx hb dX5_worst_61 (by decide) ?_
        refine lv_istore_n (lv' := [(3, .int 0), (0, .ref (α 0)), (1, .int v1_1), (2, .int v1_2)]) hx hb dX5_worst_62 rfl hl (by decide) rfl (fun ls hl => ?_)
        refine lv_iload_n hx hb dX5_worst_63 rfl (lv_at hl 0 rfl) ?_
        refine lv_if_eq (tgt := 71) hx hb dX5_worst_64 (by decide) (fun (c_4 : 0 = 0) => ?_) (fun (c_4 : ¬ 0 = 0) => ?_)
        · skip
          refine lv_iload_n hx hb dX5_worst_71 rfl (lv_at hl 2 rfl) ?_
          refine lv_istore_n (lv' := [(1, .int v1_1), (3, .int 0), (0, .ref (α 0)), (2, .int v1_2)]) hx hb dX5_worst_72 rfl hl (by decide) rfl (fun ls hl => ?_)
          refine lv_iinc (v := (v1_2 + 1)) (lv' := [(2, .int (v1_2 + 1)), (1, .int v1_1), (3, .int 0), (0, .ref (α 0))]) hx hb dX5_worst_73 hl (k := 3) rfl rfl (by decide) rfl (fun ls hl => ?_)
          refine lv_goto (tgt := 5) hx hb dX5_worst_76 (by decide) ?_
          rw [show (L1_X5_worst σ (n + 1) v1_1 v1_2) = (L1_X5_worst σ n v1_1 (v1_2 + 1)) from by rw [L1_X5_worst]; rw [if_neg c_1, if_pos c_3]]
          exact ih v1_1 (v1_2 + 1) hok ls (lv_sub hl [3, 1, 0] rfl)
        · skip
          exact absurd (by decide) c_4
      · skip
        have hok := hok.2 c_3
        refine lv_iload_n hx hb dX5_worst_20 rfl (lv_at hl 1 rfl) ?_
        refine lv_bipush (v := (-6)) hx hb dX5_worst_21 (by decide) ?_
        refine lv_icmp_eq (tgt := 57) hx hb dX5_worst_23 (by decide) (fun (c_5 : v1_1 = (-6)) => ?_) (fun (c_5 : ¬ v1_1 = (-6)) => ?_)
        · skip
          have hok := hok.1 c_5
          refine lv_iconst (v := 1) hx hb dX5_worst_57 (by decide) ?_
          refine lv_goto (tgt := 62) hx hb dX5_worst_58 (by decide) ?_
          refine lv_istore_n (lv' := [(3, .int 1), (0, .ref (α 0)), (1, .int v1_1), (2, .int v1_2)]) hx hb dX5_worst_62 rfl hl (by decide) rfl (fun ls hl => ?_)
          refine lv_iload_n hx hb dX5_worst_63 rfl (lv_at hl 0 rfl) ?_
          refine lv_if_eq (tgt := 71) hx hb dX5_worst_64 (by decide) (fun (c_6 : 1 = 0) => ?_) (fun (c_6 : ¬ 1 = 0) => ?_)
          · skip
            exact absurd c_6 (by decide)
          · skip
            refine lv_iload_n hx hb dX5_worst_67 rfl (lv_at hl 3 rfl) ?_
            refine lv_goto (tgt := 72) hx hb dX5_worst_68 (by decide) ?_
            refine lv_istore_n (lv' := [(1, .int v1_2), (3, .int 1), (0, .ref (α 0)), (2, .int v1_2)]) hx hb dX5_worst_72 rfl hl (by decide) rfl (fun ls hl => ?_)
            refine lv_iinc (v := (v1_2 + 1)) (lv' := [(2, .int (v1_2 + 1)), (1, .int v1_2), (3, .int 1), (0, .ref (α 0))]) hx hb dX5_worst_73 hl (k := 3) rfl rfl (by decide) rfl (fun ls hl => ?_)
            refine lv_goto (tgt := 5) hx hb dX5_worst_76 (by decide) ?_
            rw [show (L1_X5_worst σ (n + 1) v1_1 v1_2) = (L1_X5_worst σ n v1_2 (v1_2 + 1)) from by rw [L1_X5_worst]; rw [if_neg c_1, if_neg c_3, if_pos c_5]]
            exact ih v1_2 (v1_2 + 1) hok ls (lv_sub hl [3, 1, 0] rfl)
        · skip
          have hok := hok.2 c_5
          obtain ⟨h_7, hok⟩ := hok
          refine lv_aload_n hx hb dX5_worst_26 rfl (lv_at hl 0 rfl) ?_
          refine get_M_all hx hb hts hinX5 hown hK hP (hts (.fieldLink RX5 7 "GrooveTurnsModel" "all" "[I") (by decide +kernel)) dX5_worst_27 ?_
          refine lv_sipush (v := 216) hx hb dX5_worst_30 (by decide) ?_
          refine lv_aload_n hx hb dX5_worst_33 rfl (lv_at hl 0 rfl) ?_
          refine lv_iload_n hx hb dX5_worst_34 rfl (lv_at hl 2 rfl) ?_
          refine rdV (As := [.int v1_2]) (rest := [.int 216, .ref (α 1)]) (c_X5_sectorOf l G α σ v1_2 h_7) hF (cwV 1 hts gX5_worst_X5_sectorOf rfl rfl rfl (by decide +kernel) ⟨Nat.le_of_ble_eq_true rfl, Nat.le_of_ble_eq_true rfl⟩) (rcv_M hK hP) hK hP rfl hl.1 rfl (Nat.le_of_ble_eq_true rfl) dX5_worst_35 ⟨Nat.zero_le _, Nat.zero_le _⟩ ?_
          obtain ⟨h_8, hok⟩ := hok
          refine lv_iadd hx hb dX5_worst_38 ?_
          refine ld_M_al hx hb hK hP h_8 dX5_worst_39 ?_
          obtain ⟨h_9, hok⟩ := hok
          refine lv_aload_n hx hb dX5_worst_40 rfl (lv_at hl 0 rfl) ?_
          refine get_M_all hx hb hts hinX5 hown hK hP (hts (.fieldLink RX5 7 "GrooveTurnsModel" "all" "[I") (by decide +kernel)) dX5_worst_41 ?_
          refine lv_sipush (v := 216) hx hb dX5_worst_44 (by decide) ?_
          refine lv_aload_n hx hb dX5_worst_47 rfl (lv_at hl 0 rfl) ?_
          refine lv_iload_n hx hb dX5_worst_48 rfl (lv_at hl 1 rfl) ?_
          refine rdV (As := [.int v1_1]) (rest := [.int 216, .ref (α 1), .int ((m_al σ) (216 + (s_X5_sectorOf σ v1_2)).toNatClampNeg)]) (c_X5_sectorOf l G α σ v1_1 h_9) hF (cwV 1 hts gX5_worst_X5_sectorOf rfl rfl rfl (by decide +kernel) ⟨Nat.le_of_ble_eq_true rfl, Nat.le_of_ble_eq_true rfl⟩) (rcv_M hK hP) hK hP rfl hl.1 rfl (Nat.le_of_ble_eq_true rfl) dX5_worst_49 ⟨Nat.zero_le _, Nat.zero_le _⟩ ?_
          obtain ⟨h_10, hok⟩ := hok
          refine lv_iadd hx hb dX5_worst_52 ?_
          refine ld_M_al hx hb hK hP h_10 dX5_worst_53 ?_
          refine lv_icmp_le (tgt := 61) hx hb dX5_worst_54 (by decide) (fun (c_11 : ((m_al σ) (216 + (s_X5_sectorOf σ v1_2)).toNatClampNeg) ≤ ((m_al σ) (216 + (s_X5_sectorOf σ v1_1)).toNatClampNeg)) => ?_) (fun (c_11 : ¬ ((m_al σ) (216 + (s_X5_sectorOf σ v1_2)).toNatClampNeg) ≤ ((m_al σ) (216 + (s_X5_sectorOf σ v1_1)).toNatClampNeg)) => ?_)
          · skip
            have hok := hok.1 c_11
            refine lv_iconst (v := 0) hx hb dX5_worst_61 (by decide) ?_
            refine lv_istore_n (lv' := [(3, .int 0), (0, .ref (α 0)), (1, .int v1_1), (2, .int v1_2)]) hx hb dX5_worst_62 rfl hl (by decide) rfl (fun ls hl => ?_)
            refine lv_iload_n hx hb dX5_worst_63 rfl (lv_at hl 0 rfl) ?_
            refine lv_if_eq (tgt := 71) hx hb dX5_worst_64 (by decide) (fun (c_12 : 0 = 0) => ?_) (fun (c_12 : ¬ 0 = 0) => ?_)
            · skip
              refine lv_iload_n hx hb dX5_worst_71 rfl (lv_at hl 2 rfl) ?_
              refine lv_istore_n (lv' := [(1, .int v1_1), (3, .int 0), (0, .ref (α 0)), (2, .int v1_2)]) hx hb dX5_worst_72 rfl hl (by decide) rfl (fun ls hl => ?_)
              refine lv_iinc (v := (v1_2 + 1)) (lv' := [(2, .int (v1_2 + 1)), (1, .int v1_1), (3, .int 0), (0, .ref (α 0))]) hx hb dX5_worst_73 hl (k := 3) rfl rfl (by decide) rfl (fun ls hl => ?_)
              refine lv_goto (tgt := 5) hx hb dX5_worst_76 (by decide) ?_
              rw [show (L1_X5_worst σ (n + 1) v1_1 v1_2) = (L1_X5_worst σ n v1_1 (v1_2 + 1)) from by rw [L1_X5_worst]; rw [if_neg c_1, if_neg c_3, if_neg c_5, if_pos c_11]]
              exact ih v1_1 (v1_2 + 1) hok ls (lv_sub hl [3, 1, 0] rfl)
            · skip
              exact absurd (by decide) c_12
          · skip
            have hok := hok.2 c_11
            refine lv_iconst (v := 1) hx hb dX5_worst_57 (by decide) ?_
            refine lv_goto (tgt := 62) hx hb dX5_worst_58 (by decide) ?_
            refine lv_istore_n (lv' := [(3, .int 1), (0, .ref (α 0)), (1, .int v1_1), (2, .int v1_2)]) hx hb dX5_worst_62 rfl hl (by decide) rfl (fun ls hl => ?_)
            refine lv_iload_n hx hb dX5_worst_63 rfl (lv_at hl 0 rfl) ?_
            refine lv_if_eq (tgt := 71) hx hb dX5_worst_64 (by decide) (fun (c_13 : 1 = 0) => ?_) (fun (c_13 : ¬ 1 = 0) => ?_)
            · skip
              exact absurd c_13 (by decide)
            · skip
              refine lv_iload_n hx hb dX5_worst_67 rfl (lv_at hl 3 rfl) ?_
              refine lv_goto (tgt := 72) hx hb dX5_worst_68 (by decide) ?_
              refine lv_istore_n (lv' := [(1, .int v1_2), (3, .int 1), (0, .ref (α 0)), (2, .int v1_2)]) hx hb dX5_worst_72 rfl hl (by decide) rfl (fun ls hl => ?_)
              refine lv_iinc (v := (v1_2 + 1)) (lv' := [(2, .int (v1_2 + 1)), (1, .int v1_2), (3, .int 1), (0, .ref (α 0))]) hx hb dX5_worst_73 hl (k := 3) rfl rfl (by decide) rfl (fun ls hl => ?_)
              refine lv_goto (tgt := 5) hx hb dX5_worst_76 (by decide) ?_
              rw [show (L1_X5_worst σ (n + 1) v1_1 v1_2) = (L1_X5_worst σ n v1_2 (v1_2 + 1)) from by rw [L1_X5_worst]; rw [if_neg c_1, if_neg c_3, if_neg c_5, if_neg c_11]]
              exact ih v1_2 (v1_2 + 1) hok ls (lv_sub hl [3, 1, 0] rfl)
set_option maxHeartbeats 4000000 in
set_option maxRecDepth 100000 in
theorem c_X5_worst (l : Launch) (G : GG) (α : Nat → Nat) (σ : MS) (hok : ok_X5_worst σ) : Rd G l yX5_worst wsX5_worst 3 63 [.ref (α 0)] (mW G.2.1 α σ) (.int (s_X5_worst σ)) := by
  refine Met.ofW (cc := cX5_worst) (maxL := 4) (ret := (some .int)) (by decide) rfl ?_
  intro p e s m args below meth c s₁ B hml hv
  obtain ⟨rfl, hP, hK⟩ := hv
  have C0 : cA p s m meth c ([.ref (α 0)] : List Value).toArray cX5_worst 4 (some .int) wsX5_worst RX5 := ⟨B.exec, B.bytes, B.returns, hml, findClass_of_methodNamed B.named, atoms_spec (ws := wsX5_worst) B.pre, B.notSynchronized⟩
  obtain ⟨hx, hb, hr, hml, hown, hts, hlocks⟩ := id C0
  have hF : CallFix p m c cX5_worst 4 s _ wsX5_worst RX5 := ⟨hx, hb, hml, hown, hts⟩
  have hinX5 : ∀ w ∈ wsX50, w ∈ wsX5_worst := by decide +kernel
  have hl := lv_entry ([.ref (α 0)]) (n := 4) (Nat.le_of_ble_eq_true rfl)
  rw [lg_entry_eq]
  generalize (lg_sl ([.ref (α 0)]) ++ List.replicate (4 - (lg_sl ([.ref (α 0)])).length) Slot.unset).toArray = ls at hl ⊢
  have hl : lv_has ls 4 [(0, .ref (α 0))] := hl
  have hok : okL1_X5_worst σ FU (-6) 0 := hok
  refine lv_bipush (v := (-6)) hx hb dX5_worst_0 (by decide) ?_
  refine lv_istore_n (lv' := [(1, .int (-6)), (0, .ref (α 0))]) hx hb dX5_worst_2 rfl hl (by decide) rfl (fun ls hl => ?_)
  refine lv_iconst (v := 0) hx hb dX5_worst_3 (by decide) ?_
  refine lv_istore_n (lv' := [(2, .int 0), (1, .int (-6)), (0, .ref (α 0))]) hx hb dX5_worst_4 rfl hl (by decide) rfl (fun ls hl => ?_)
  rw [show s_X5_worst σ = (L1_X5_worst σ FU (-6) 0) from by rw [s_X5_worst]]
  exact wL1_X5_worst l G α σ hP C0 hK FU (-6) 0 hok ls (lv_sub hl [2, 1, 0] rfl)
def L1_X5_untilLost (σ : MS) (p1 : Int32) (p2 : Int32) : Nat → Int32 → MS → Int32 × MS
  | 0, v1_3, τ1_0 => (0, τ1_0)
  | n + 1, v1_3, τ1_0 => (if (s_X5_canBeRead τ1_0 p2) = 0 then (if v1_3 ≤ 500 then (v1_3, (s_X5_comesBack τ1_0)) else ((-6), (s_X5_comesBack τ1_0))) else (if 500 < v1_3 then (if v1_3 ≤ 500 then (v1_3, (s_X5_comesBack τ1_0)) else ((-6), (s_X5_comesBack τ1_0))) else (L1_X5_untilLost σ p1 p2 n (v1_3 + 1) (s_X5_puts τ1_0 p1 0))))
def okL1_X5_untilLost (σ : MS) (p1 : Int32) (p2 : Int32) : Nat → Int32 → MS → Prop
  | 0, _, _ => False
  | n + 1, v1_3, τ1_0 => (ok_X5_canBeRead τ1_0 p2) ∧ (((s_X5_canBeRead τ1_0 p2) = 0 → (ok_X5_comesBack τ1_0)) ∧ (¬ (s_X5_canBeRead τ1_0 p2) = 0 → ((500 < v1_3 → (ok_X5_comesBack τ1_0)) ∧ (¬ 500 < v1_3 → ((ok_X5_puts τ1_0 p1 0) ∧ (okL1_X5_untilLost σ p1 p2 n (v1_3 + 1) (s_X5_puts τ1_0 p1 0)))))))
def s_X5_untilLost (σ : MS) (p1 : Int32) (p2 : Int32) : Int32 × MS := (if (s_X5_isAddress p1) = 0 then ((-1), σ) else (if (s_X5_isAddress p2) = 0 then ((-1), σ) else (if p1 = p2 then ((-2), σ) else (if (s_X5_canBeRead σ p2) = 0 then ((-5), σ) else (L1_X5_untilLost σ p1 p2 FU 0 (s_X5_keeps σ))))))
def ok_X5_untilLost (σ : MS) (p1 : Int32) (p2 : Int32) : Prop := ((s_X5_isAddress p1) = 0 → True) ∧ (¬ (s_X5_isAddress p1) = 0 → (((s_X5_isAddress p2) = 0 → True) ∧ (¬ (s_X5_isAddress p2) = 0 → ((p1 = p2 → True) ∧ (¬ p1 = p2 → ((ok_X5_canBeRead σ p2) ∧ (((s_X5_canBeRead σ p2) = 0 → True) ∧ (¬ (s_X5_canBeRead σ p2) = 0 → ((ok_X5_keeps σ) ∧ (okL1_X5_untilLost σ p1 p2 FU 0 (s_X5_keeps σ)))))))))))
set_option maxHeartbeats 4000000 in
set_option maxRecDepth 100000 in
theorem wL1_X5_untilLost {p : Program} {e : Env} {s : State} {m : MethodId} {args : Array Value} {below : List Frame} {meth : Method} {c : Code} {w0 : va_W} (l : Launch) (G : GG) (α : Nat → Nat) (σ : MS) (p1 : Int32) (p2 : Int32) (C0 : cA p s m meth c args cX5_untilLost 4 (some .int) wsX5_untilLost RX5) (hK : cK G s) : ∀ (n : Nat) (v1_3 : Int32) (τ1_0 : MS)  (hok : okL1_X5_untilLost σ p1 p2 n v1_3 τ1_0) (H : Heap) (locs : List Loc), va_P G.1 vwCl (mW G.2.1 α τ1_0) H → va_D (inW w0) (mW G.2.1 α τ1_0) → va_S (inW w0) s.heap H locs → ∀ (ls : Array Slot), lv_has ls 4 [(0, .ref (α 0)), (1, .int p1), (2, .int p2), (3, .int v1_3)] → W p l e (rmm 4 91) s m args below meth c H locs 0 0 (MQ below (QW G w0 (mW G.2.1 α ((L1_X5_untilLost σ p1 p2 n v1_3 τ1_0).2)) (some (.int (L1_X5_untilLost σ p1 p2 n v1_3 τ1_0).1))) args s 0 0 (inW w0)) (F0 m 41 ls []) := by
  obtain ⟨hx, hb, hr, hml, hown, hts, hlocks⟩ := id C0
  have hF : CallFix p m c cX5_untilLost 4 s args wsX5_untilLost RX5 := ⟨hx, hb, hml, hown, hts⟩
  intro n
  induction n with
  | zero =>
    intro v1_3 τ1_0 hok
    exact hok.elim
  | succ n ih =>
    intro v1_3 τ1_0 hok H locs hP hD hS ls hl
    have hok : (ok_X5_canBeRead τ1_0 p2) ∧ (((s_X5_canBeRead τ1_0 p2) = 0 → (ok_X5_comesBack τ1_0)) ∧ (¬ (s_X5_canBeRead τ1_0 p2) = 0 → ((500 < v1_3 → (ok_X5_comesBack τ1_0)) ∧ (¬ 500 < v1_3 → ((ok_X5_puts τ1_0 p1 0) ∧ (okL1_X5_untilLost σ p1 p2 n (v1_3 + 1) (s_X5_puts τ1_0 p1 0))))))) := hok
    obtain ⟨h_7, hok⟩ := hok
    refine lv_aload_n hx hb dX5_untilLost_41 rfl (lv_at hl 0 rfl) ?_
    refine lv_iload_n hx hb dX5_untilLost_42 rfl (lv_at hl 2 rfl) ?_
    refine rdV (As := [.int p2]) (rest := []) (c_X5_canBeRead l G α τ1_0 p2 h_7) hF (cwV 1 hts gX5_untilLost_X5_canBeRead rfl rfl rfl (by decide +kernel) ⟨Nat.le_of_ble_eq_true rfl, Nat.le_of_ble_eq_true rfl⟩) (rcv_M hK hP) hK hP rfl hl.1 rfl (Nat.le_of_ble_eq_true rfl) dX5_untilLost_43 ⟨Nat.zero_le _, Nat.zero_le _⟩ ?_
    refine lv_if_eq (tgt := 68) hx hb dX5_untilLost_46 (by decide) (fun (c_8 : (s_X5_canBeRead τ1_0 p2) = 0) => ?_) (fun (c_8 : ¬ (s_X5_canBeRead τ1_0 p2) = 0) => ?_)
    · skip
      have hok := hok.1 c_8
      have h_9 := hok
      refine lv_aload_n hx hb dX5_untilLost_68 rfl (lv_at hl 0 rfl) ?_
      refine wrV0 (As := []) (rest := []) (c_X5_comesBack l G α τ1_0 h_9) hF (cwV 0 hts gX5_untilLost_X5_comesBack rfl rfl rfl (by decide +kernel) ⟨Nat.le_of_ble_eq_true rfl, Nat.le_of_ble_eq_true rfl⟩) (rcv_M hK hP) hK hP hD hS (fst_M _ _) rfl hl.1 rfl (Nat.le_of_ble_eq_true rfl) dX5_untilLost_69 ⟨Nat.zero_le _, Nat.zero_le _⟩ (fun H locs hP hD hS => ?_)
      have hP : va_P G.1 vwCl (mW G.2.1 α (s_X5_comesBack τ1_0)) H := hP
      have hD : va_D (inW w0) (mW G.2.1 α (s_X5_comesBack τ1_0)) := hD
      refine lv_iload_n hx hb dX5_untilLost_72 rfl (lv_at hl 3 rfl) ?_
      refine lv_sipush (v := 500) hx hb dX5_untilLost_73 (by decide) ?_
      refine lv_icmp_le (tgt := 84) hx hb dX5_untilLost_76 (by decide) (fun (c_10 : v1_3 ≤ 500) => ?_) (fun (c_10 : ¬ v1_3 ≤ 500) => ?_)
      · skip
        refine lv_iload_n hx hb dX5_untilLost_84 rfl (lv_at hl 3 rfl) ?_
        have E9 : (L1_X5_untilLost σ p1 p2 (n + 1) v1_3 τ1_0) = (v1_3, (s_X5_comesBack τ1_0)) := by rw [L1_X5_untilLost]; rw [if_pos c_8, if_pos c_10]
        rw [pr1 E9, pr2 E9]
        exact W.iret hx hb hr (fun t ht hW => ⟨rfl, by rw [ht]; exact hP, hS.F ht⟩) hS.2.2 dX5_untilLost_85
      · skip
        refine lv_bipush (v := (-6)) hx hb dX5_untilLost_79 (by decide) ?_
        refine lv_goto (tgt := 85) hx hb dX5_untilLost_81 (by decide) ?_
        have E9 : (L1_X5_untilLost σ p1 p2 (n + 1) v1_3 τ1_0) = ((-6), (s_X5_comesBack τ1_0)) := by rw [L1_X5_untilLost]; rw [if_pos c_8, if_neg c_10]
        rw [pr1 E9, pr2 E9]
        exact W.iret hx hb hr (fun t ht hW => ⟨rfl, by rw [ht]; exact hP, hS.F ht⟩) hS.2.2 dX5_untilLost_85
    · skip
      have hok := hok.2 c_8
      refine lv_iload_n hx hb dX5_untilLost_49 rfl (lv_at hl 3 rfl) ?_
      refine lv_sipush (v := 500) hx hb dX5_untilLost_50 (by decide) ?_
      refine lv_icmp_gt (tgt := 68) hx hb dX5_untilLost_53 (by decide) (fun (c_11 : 500 < v1_3) => ?_) (fun (c_11 : ¬ 500 < v1_3) => ?_)
      · skip
        have hok := hok.1 c_11
        have h_12 := hok
        refine lv_aload_n hx hb dX5_untilLost_68 rfl (lv_at hl 0 rfl) ?_
        refine wrV0 (As := []) (rest := []) (c_X5_comesBack l G α τ1_0 h_12) hF (cwV 0 hts gX5_untilLost_X5_comesBack rfl rfl rfl (by decide +kernel) ⟨Nat.le_of_ble_eq_true rfl, Nat.le_of_ble_eq_true rfl⟩) (rcv_M hK hP) hK hP hD hS (fst_M _ _) rfl hl.1 rfl (Nat.le_of_ble_eq_true rfl) dX5_untilLost_69 ⟨Nat.zero_le _, Nat.zero_le _⟩ (fun H locs hP hD hS => ?_)
        have hP : va_P G.1 vwCl (mW G.2.1 α (s_X5_comesBack τ1_0)) H := hP
        have hD : va_D (inW w0) (mW G.2.1 α (s_X5_comesBack τ1_0)) := hD
        refine lv_iload_n hx hb dX5_untilLost_72 rfl (lv_at hl 3 rfl) ?_
        refine lv_sipush (v := 500) hx hb dX5_untilLost_73 (by decide) ?_
        refine lv_icmp_le (tgt := 84) hx hb dX5_untilLost_76 (by decide) (fun (c_13 : v1_3 ≤ 500) => ?_) (fun (c_13 : ¬ v1_3 ≤ 500) => ?_)
        · skip
          refine lv_iload_n hx hb dX5_untilLost_84 rfl (lv_at hl 3 rfl) ?_
          have E9 : (L1_X5_untilLost σ p1 p2 (n + 1) v1_3 τ1_0) = (v1_3, (s_X5_comesBack τ1_0)) := by rw [L1_X5_untilLost]; rw [if_neg c_8, if_pos c_11, if_pos c_13]
          rw [pr1 E9, pr2 E9]
          exact W.iret hx hb hr (fun t ht hW => ⟨rfl, by rw [ht]; exact hP, hS.F ht⟩) hS.2.2 dX5_untilLost_85
        · skip
          refine lv_bipush (v := (-6)) hx hb dX5_untilLost_79 (by decide) ?_
          refine lv_goto (tgt := 85) hx hb dX5_untilLost_81 (by decide) ?_
          have E9 : (L1_X5_untilLost σ p1 p2 (n + 1) v1_3 τ1_0) = ((-6), (s_X5_comesBack τ1_0)) := by rw [L1_X5_untilLost]; rw [if_neg c_8, if_pos c_11, if_neg c_13]
          rw [pr1 E9, pr2 E9]
          exact W.iret hx hb hr (fun t ht hW => ⟨rfl, by rw [ht]; exact hP, hS.F ht⟩) hS.2.2 dX5_untilLost_85
      · skip
        have hok := hok.2 c_11
        obtain ⟨h_14, hok⟩ := hok
        refine lv_aload_n hx hb dX5_untilLost_56 rfl (lv_at hl 0 rfl) ?_
        refine lv_iload_n hx hb dX5_untilLost_57 rfl (lv_at hl 1 rfl) ?_
        refine lv_iconst (v := 0) hx hb dX5_untilLost_58 (by decide) ?_
        refine wrV0 (As := [.int p1, .int 0]) (rest := []) (c_X5_puts l G α τ1_0 p1 0 h_14) hF (cwV 2 hts gX5_untilLost_X5_puts rfl rfl rfl (by decide +kernel) ⟨Nat.le_of_ble_eq_true rfl, Nat.le_of_ble_eq_true rfl⟩) (rcv_M hK hP) hK hP hD hS (fst_M _ _) rfl hl.1 rfl (Nat.le_of_ble_eq_true rfl) dX5_untilLost_59 ⟨Nat.zero_le _, Nat.zero_le _⟩ (fun H locs hP hD hS => ?_)
        have hP : va_P G.1 vwCl (mW G.2.1 α (s_X5_puts τ1_0 p1 0)) H := hP
        have hD : va_D (inW w0) (mW G.2.1 α (s_X5_puts τ1_0 p1 0)) := hD
        refine lv_iinc (v := (v1_3 + 1)) (lv' := [(3, .int (v1_3 + 1)), (0, .ref (α 0)), (1, .int p1), (2, .int p2)]) hx hb dX5_untilLost_62 hl (k := 3) rfl rfl (by decide) rfl (fun ls hl => ?_)
        refine lv_goto (tgt := 41) hx hb dX5_untilLost_65 (by decide) ?_
        rw [show (L1_X5_untilLost σ p1 p2 (n + 1) v1_3 τ1_0) = (L1_X5_untilLost σ p1 p2 n (v1_3 + 1) (s_X5_puts τ1_0 p1 0)) from by rw [L1_X5_untilLost]; rw [if_neg c_8, if_neg c_11]]
        exact ih (v1_3 + 1) (s_X5_puts τ1_0 p1 0) hok _ _ hP hD hS ls (lv_sub hl [1, 2, 3, 0] rfl)
set_option maxHeartbeats 4000000 in
set_option maxRecDepth 100000 in
theorem c_X5_untilLost (l : Launch) (G : GG) (α : Nat → Nat) (σ : MS) (p1 : Int32) (p2 : Int32) (hok : ok_X5_untilLost σ p1 p2) : Wr G l yX5_untilLost wsX5_untilLost 4 91 [.ref (α 0), .int p1, .int p2] (mW G.2.1 α σ) (some (.int (s_X5_untilLost σ p1 p2).1)) (mW G.2.1 α ((s_X5_untilLost σ p1 p2).2)) := by
  refine Met.ofW (cc := cX5_untilLost) (maxL := 4) (ret := (some .int)) (by decide) rfl ?_
  intro p e s m args below meth c s₁ B hml hv
  obtain ⟨rfl, hP, hK, hD0⟩ := hv
  have C0 : cA p s m meth c ([.ref (α 0), .int p1, .int p2] : List Value).toArray cX5_untilLost 4 (some .int) wsX5_untilLost RX5 := ⟨B.exec, B.bytes, B.returns, hml, findClass_of_methodNamed B.named, atoms_spec (ws := wsX5_untilLost) B.pre, B.notSynchronized⟩
  obtain ⟨hx, hb, hr, hml, hown, hts, hlocks⟩ := id C0
  have hF : CallFix p m c cX5_untilLost 4 s _ wsX5_untilLost RX5 := ⟨hx, hb, hml, hown, hts⟩
  obtain ⟨w0, hw0⟩ : ∃ w0 : va_W, w0 = (mW G.2.1 α σ) := ⟨_, rfl⟩
  have hD : va_D (inW w0) (mW G.2.1 α σ) := by rw [hw0]; exact inW.D hD0
  have hS : va_S (inW w0) s.heap s.heap [] := va_S.rf
  rw [show QW G (mW G.2.1 α σ) = QW G w0 from by rw [hw0], show inW (mW G.2.1 α σ) = inW w0 from by rw [hw0]]
  have hl := lv_entry ([.ref (α 0), .int p1, .int p2]) (n := 4) (Nat.le_of_ble_eq_true rfl)
  rw [lg_entry_eq]
  generalize (lg_sl ([.ref (α 0), .int p1, .int p2]) ++ List.replicate (4 - (lg_sl ([.ref (α 0), .int p1, .int p2])).length) Slot.unset).toArray = ls at hl ⊢
  have hl : lv_has ls 4 [(0, .ref (α 0)), (1, .int p1), (2, .int p2)] := hl
  have hok : ((s_X5_isAddress p1) = 0 → True) ∧ (¬ (s_X5_isAddress p1) = 0 → (((s_X5_isAddress p2) = 0 → True) ∧ (¬ (s_X5_isAddress p2) = 0 → ((p1 = p2 → True) ∧ (¬ p1 = p2 → ((ok_X5_canBeRead σ p2) ∧ (((s_X5_canBeRead σ p2) = 0 → True) ∧ (¬ (s_X5_canBeRead σ p2) = 0 → ((ok_X5_keeps σ) ∧ (okL1_X5_untilLost σ p1 p2 FU 0 (s_X5_keeps σ))))))))))) := hok
  refine lv_iload_n hx hb dX5_untilLost_0 rfl (lv_at hl 1 rfl) ?_
  refine rdS (As := [.int p1]) (rest := []) (c_X5_isAddress l G p1) hF (va_cwS 1 hts gX5_untilLost_X5_isAddress rfl rfl rfl (by decide +kernel) ⟨Nat.le_of_ble_eq_true rfl, Nat.le_of_ble_eq_true rfl⟩) hK va_P0 rfl hl.1 rfl (Nat.le_of_ble_eq_true rfl) dX5_untilLost_1 ⟨Nat.zero_le _, Nat.zero_le _⟩ ?_
  refine lv_if_eq (tgt := 14) hx hb dX5_untilLost_4 (by decide) (fun (c_1 : (s_X5_isAddress p1) = 0) => ?_) (fun (c_1 : ¬ (s_X5_isAddress p1) = 0) => ?_)
  · skip
    refine lv_iconst (v := (-1)) hx hb dX5_untilLost_14 (by decide) ?_
    have E9 : s_X5_untilLost σ p1 p2 = ((-1), σ) := by rw [s_X5_untilLost]; rw [if_pos c_1]
    rw [pr1 E9, pr2 E9]
    exact W.iret hx hb hr (fun t ht hW => ⟨rfl, by rw [ht]; exact hP, hS.F ht⟩) hS.2.2 dX5_untilLost_15
  · skip
    have hok := hok.2 c_1
    refine lv_iload_n hx hb dX5_untilLost_7 rfl (lv_at hl 2 rfl) ?_
    refine rdS (As := [.int p2]) (rest := []) (c_X5_isAddress l G p2) hF (va_cwS 1 hts gX5_untilLost_X5_isAddress rfl rfl rfl (by decide +kernel) ⟨Nat.le_of_ble_eq_true rfl, Nat.le_of_ble_eq_true rfl⟩) hK va_P0 rfl hl.1 rfl (Nat.le_of_ble_eq_true rfl) dX5_untilLost_8 ⟨Nat.zero_le _, Nat.zero_le _⟩ ?_
    refine lv_if_ne (tgt := 16) hx hb dX5_untilLost_11 (by decide) (fun (c_2 : ¬ (s_X5_isAddress p2) = 0) => ?_) (fun (c_2 : (s_X5_isAddress p2) = 0) => ?_)
    · skip
      have hok := hok.2 c_2
      refine lv_iload_n hx hb dX5_untilLost_16 rfl (lv_at hl 1 rfl) ?_
      refine lv_iload_n hx hb dX5_untilLost_17 rfl (lv_at hl 2 rfl) ?_
      refine lv_icmp_ne (tgt := 24) hx hb dX5_untilLost_18 (by decide) (fun (c_3 : ¬ p1 = p2) => ?_) (fun (c_3 : p1 = p2) => ?_)
      · skip
        have hok := hok.2 c_3
        obtain ⟨h_4, hok⟩ := hok
        refine lv_aload_n hx hb dX5_untilLost_24 rfl (lv_at hl 0 rfl) ?_
        refine lv_iload_n hx hb dX5_untilLost_25 rfl (lv_at hl 2 rfl) ?_
        refine rdV (As := [.int p2]) (rest := []) (c_X5_canBeRead l G α σ p2 h_4) hF (cwV 1 hts gX5_untilLost_X5_canBeRead rfl rfl rfl (by decide +kernel) ⟨Nat.le_of_ble_eq_true rfl, Nat.le_of_ble_eq_true rfl⟩) (rcv_M hK hP) hK hP rfl hl.1 rfl (Nat.le_of_ble_eq_true rfl) dX5_untilLost_26 ⟨Nat.zero_le _, Nat.zero_le _⟩ ?_
        refine lv_if_ne (tgt := 35) hx hb dX5_untilLost_29 (by decide) (fun (c_5 : ¬ (s_X5_canBeRead σ p2) = 0) => ?_) (fun (c_5 : (s_X5_canBeRead σ p2) = 0) => ?_)
        · skip
          have hok := hok.2 c_5
          obtain ⟨h_6, hok⟩ := hok
          refine lv_aload_n hx hb dX5_untilLost_35 rfl (lv_at hl 0 rfl) ?_
          refine wrV0 (As := []) (rest := []) (c_X5_keeps l G α σ h_6) hF (cwV 0 hts gX5_untilLost_X5_keeps rfl rfl rfl (by decide +kernel) ⟨Nat.le_of_ble_eq_true rfl, Nat.le_of_ble_eq_true rfl⟩) (rcv_M hK hP) hK hP hD hS (fst_M _ _) rfl hl.1 rfl (Nat.le_of_ble_eq_true rfl) dX5_untilLost_36 ⟨Nat.zero_le _, Nat.zero_le _⟩ (fun H locs hP hD hS => ?_)
          have hP : va_P G.1 vwCl (mW G.2.1 α (s_X5_keeps σ)) H := hP
          have hD : va_D (inW w0) (mW G.2.1 α (s_X5_keeps σ)) := hD
          refine lv_iconst (v := 0) hx hb dX5_untilLost_39 (by decide) ?_
          refine lv_istore_n (lv' := [(3, .int 0), (0, .ref (α 0)), (1, .int p1), (2, .int p2)]) hx hb dX5_untilLost_40 rfl hl (by decide) rfl (fun ls hl => ?_)
          rw [show s_X5_untilLost σ p1 p2 = (L1_X5_untilLost σ p1 p2 FU 0 (s_X5_keeps σ)) from by rw [s_X5_untilLost]; rw [if_neg c_1, if_neg c_2, if_neg c_3, if_neg c_5]]
          exact wL1_X5_untilLost l G α σ p1 p2 C0 hK FU 0 (s_X5_keeps σ) hok _ _ hP hD hS ls (lv_sub hl [1, 2, 3, 0] rfl)
        · skip
          refine lv_bipush (v := (-5)) hx hb dX5_untilLost_32 (by decide) ?_
          have E9 : s_X5_untilLost σ p1 p2 = ((-5), σ) := by rw [s_X5_untilLost]; rw [if_neg c_1, if_neg c_2, if_neg c_3, if_pos c_5]
          rw [pr1 E9, pr2 E9]
          exact W.iret hx hb hr (fun t ht hW => ⟨rfl, by rw [ht]; exact hP, hS.F ht⟩) hS.2.2 dX5_untilLost_34
      · skip
        refine lv_bipush (v := (-2)) hx hb dX5_untilLost_21 (by decide) ?_
        have E9 : s_X5_untilLost σ p1 p2 = ((-2), σ) := by rw [s_X5_untilLost]; rw [if_neg c_1, if_neg c_2, if_pos c_3]
        rw [pr1 E9, pr2 E9]
        exact W.iret hx hb hr (fun t ht hW => ⟨rfl, by rw [ht]; exact hP, hS.F ht⟩) hS.2.2 dX5_untilLost_23
    · skip
      refine lv_iconst (v := (-1)) hx hb dX5_untilLost_14 (by decide) ?_
      have E9 : s_X5_untilLost σ p1 p2 = ((-1), σ) := by rw [s_X5_untilLost]; rw [if_neg c_1, if_pos c_2]
      rw [pr1 E9, pr2 E9]
      exact W.iret hx hb hr (fun t ht hW => ⟨rfl, by rw [ht]; exact hP, hS.F ht⟩) hS.2.2 dX5_untilLost_15
def t1_X5_save (σ : MS) (p1 : Int32) (v1_2 : Int32) (τ1_0 : MS) : MS := (m_sl' τ1_0 (upd (m_sl τ1_0) ((816 * p1) + v1_2).toNatClampNeg ((m_al τ1_0) v1_2.toNatClampNeg)))
def L1_X5_save (σ : MS) (p1 : Int32) : Nat → Int32 → MS → Int32 × MS
  | 0, v1_2, τ1_0 => (0, τ1_0)
  | n + 1, v1_2, τ1_0 => (if 816 ≤ v1_2 then ((s_X5_addresses (m_sv' τ1_0 (upd (m_sv τ1_0) p1.toNatClampNeg 1)) (-6) 0), (m_sv' τ1_0 (upd (m_sv τ1_0) p1.toNatClampNeg 1))) else (L1_X5_save σ p1 n (v1_2 + 1) (t1_X5_save σ p1 v1_2 τ1_0)))
def okL1_X5_save (σ : MS) (p1 : Int32) : Nat → Int32 → MS → Prop
  | 0, _, _ => False
  | n + 1, v1_2, τ1_0 => (816 ≤ v1_2 → ((vp_in p1 2) ∧ (ok_X5_addresses (m_sv' τ1_0 (upd (m_sv τ1_0) p1.toNatClampNeg 1)) (-6) 0))) ∧ (¬ 816 ≤ v1_2 → ((vp_in v1_2 816) ∧ ((vp_in ((816 * p1) + v1_2) 1632) ∧ (okL1_X5_save σ p1 n (v1_2 + 1) (t1_X5_save σ p1 v1_2 τ1_0)))))
def s_X5_save (σ : MS) (p1 : Int32) : Int32 × MS := (if (s_X5_isSlot p1) = 0 then ((-2), σ) else (L1_X5_save σ p1 FU 0 σ))
def ok_X5_save (σ : MS) (p1 : Int32) : Prop := ((s_X5_isSlot p1) = 0 → True) ∧ (¬ (s_X5_isSlot p1) = 0 → (okL1_X5_save σ p1 FU 0 σ))
set_option maxHeartbeats 4000000 in
set_option maxRecDepth 100000 in
theorem wL1_X5_save {p : Program} {e : Env} {s : State} {m : MethodId} {args : Array Value} {below : List Frame} {meth : Method} {c : Code} {w0 : va_W} (l : Launch) (G : GG) (α : Nat → Nat) (σ : MS) (p1 : Int32) (C0 : cA p s m meth c args cX5_save 3 (some .int) wsX5_save RX5) (hK : cK G s) : ∀ (n : Nat) (v1_2 : Int32) (τ1_0 : MS)  (hok : okL1_X5_save σ p1 n v1_2 τ1_0) (H : Heap) (locs : List Loc), va_P G.1 vwCl (mW G.2.1 α τ1_0) H → va_D (inW w0) (mW G.2.1 α τ1_0) → va_S (inW w0) s.heap H locs → ∀ (ls : Array Slot), lv_has ls 3 [(0, .ref (α 0)), (1, .int p1), (2, .int v1_2)] → W p l e (rmm 4 88) s m args below meth c H locs 0 0 (MQ below (QW G w0 (mW G.2.1 α ((L1_X5_save σ p1 n v1_2 τ1_0).2)) (some (.int (L1_X5_save σ p1 n v1_2 τ1_0).1))) args s 0 0 (inW w0)) (F0 m 12 ls []) := by
  obtain ⟨hx, hb, hr, hml, hown, hts, hlocks⟩ := id C0
  have hF : CallFix p m c cX5_save 3 s args wsX5_save RX5 := ⟨hx, hb, hml, hown, hts⟩
  have hinX5 : ∀ w ∈ wsX50, w ∈ wsX5_save := by decide +kernel
  intro n
  induction n with
  | zero =>
    intro v1_2 τ1_0 hok
    exact hok.elim
  | succ n ih =>
    intro v1_2 τ1_0 hok H locs hP hD hS ls hl
    have hok : (816 ≤ v1_2 → ((vp_in p1 2) ∧ (ok_X5_addresses (m_sv' τ1_0 (upd (m_sv τ1_0) p1.toNatClampNeg 1)) (-6) 0))) ∧ (¬ 816 ≤ v1_2 → ((vp_in v1_2 816) ∧ ((vp_in ((816 * p1) + v1_2) 1632) ∧ (okL1_X5_save σ p1 n (v1_2 + 1) (t1_X5_save σ p1 v1_2 τ1_0))))) := hok
    refine lv_iload_n hx hb dX5_save_12 rfl (lv_at hl 2 rfl) ?_
    refine lv_sipush (v := 816) hx hb dX5_save_13 (by decide) ?_
    refine lv_icmp_ge (tgt := 43) hx hb dX5_save_16 (by decide) (fun (c_2 : 816 ≤ v1_2) => ?_) (fun (c_2 : ¬ 816 ≤ v1_2) => ?_)
    · skip
      have hok := hok.1 c_2
      obtain ⟨h_3, hok⟩ := hok
      refine lv_aload_n hx hb dX5_save_43 rfl (lv_at hl 0 rfl) ?_
      refine get_M_isSaved hx hb hts hinX5 hown hK hP (hts (.fieldLink RX5 22 "GrooveTurnsModel" "isSaved" "[I") (by decide +kernel)) dX5_save_44 ?_
      refine lv_iload_n hx hb dX5_save_47 rfl (lv_at hl 1 rfl) ?_
      refine lv_iconst (v := 1) hx hb dX5_save_48 (by decide) ?_
      refine st_M_sv hx hb hK hP hD hS h_3 dX5_save_49 (fun H locs hP hD hS => ?_)
      have hP : va_P G.1 vwCl (mW G.2.1 α (m_sv' τ1_0 (upd (m_sv τ1_0) p1.toNatClampNeg 1))) H := hP
      have hD : va_D (inW w0) (mW G.2.1 α (m_sv' τ1_0 (upd (m_sv τ1_0) p1.toNatClampNeg 1))) := hD
      have h_4 := hok
      refine lv_aload_n hx hb dX5_save_50 rfl (lv_at hl 0 rfl) ?_
      refine lv_bipush (v := (-6)) hx hb dX5_save_51 (by decide) ?_
      refine lv_iconst (v := 0) hx hb dX5_save_53 (by decide) ?_
      refine rdV (As := [.int (-6), .int 0]) (rest := []) (c_X5_addresses l G α (m_sv' τ1_0 (upd (m_sv τ1_0) p1.toNatClampNeg 1)) (-6) 0 h_4) hF (cwV 2 hts gX5_save_X5_addresses rfl rfl rfl (by decide +kernel) ⟨Nat.le_of_ble_eq_true rfl, Nat.le_of_ble_eq_true rfl⟩) (rcv_M hK hP) hK hP rfl hl.1 rfl (Nat.le_of_ble_eq_true rfl) dX5_save_54 ⟨Nat.zero_le _, Nat.zero_le _⟩ ?_
      have E9 : (L1_X5_save σ p1 (n + 1) v1_2 τ1_0) = ((s_X5_addresses (m_sv' τ1_0 (upd (m_sv τ1_0) p1.toNatClampNeg 1)) (-6) 0), (m_sv' τ1_0 (upd (m_sv τ1_0) p1.toNatClampNeg 1))) := by rw [L1_X5_save]; rw [if_pos c_2]
      rw [pr1 E9, pr2 E9]
      exact W.iret hx hb hr (fun t ht hW => ⟨rfl, by rw [ht]; exact hP, hS.F ht⟩) hS.2.2 dX5_save_57
    · skip
      have hok := hok.2 c_2
      obtain ⟨h_5, hok⟩ := hok
      refine lv_aload_n hx hb dX5_save_19 rfl (lv_at hl 0 rfl) ?_
      refine get_M_slots hx hb hts hinX5 hown hK hP (hts (.fieldLink RX5 19 "GrooveTurnsModel" "slots" "[I") (by decide +kernel)) dX5_save_20 ?_
      refine lv_sipush (v := 816) hx hb dX5_save_23 (by decide) ?_
      refine lv_iload_n hx hb dX5_save_26 rfl (lv_at hl 1 rfl) ?_
      refine lv_imul hx hb dX5_save_27 ?_
      refine lv_iload_n hx hb dX5_save_28 rfl (lv_at hl 2 rfl) ?_
      refine lv_iadd hx hb dX5_save_29 ?_
      refine lv_aload_n hx hb dX5_save_30 rfl (lv_at hl 0 rfl) ?_
      refine get_M_all hx hb hts hinX5 hown hK hP (hts (.fieldLink RX5 7 "GrooveTurnsModel" "all" "[I") (by decide +kernel)) dX5_save_31 ?_
      refine lv_iload_n hx hb dX5_save_34 rfl (lv_at hl 2 rfl) ?_
      refine ld_M_al hx hb hK hP h_5 dX5_save_35 ?_
      obtain ⟨h_6, hok⟩ := hok
      refine st_M_sl hx hb hK hP hD hS h_6 dX5_save_36 (fun H locs hP hD hS => ?_)
      have hP : va_P G.1 vwCl (mW G.2.1 α (t1_X5_save σ p1 v1_2 τ1_0)) H := hP
      have hD : va_D (inW w0) (mW G.2.1 α (t1_X5_save σ p1 v1_2 τ1_0)) := hD
      refine lv_iinc (v := (v1_2 + 1)) (lv' := [(2, .int (v1_2 + 1)), (0, .ref (α 0)), (1, .int p1)]) hx hb dX5_save_37 hl (k := 2) rfl rfl (by decide) rfl (fun ls hl => ?_)
      refine lv_goto (tgt := 12) hx hb dX5_save_40 (by decide) ?_
      rw [show (L1_X5_save σ p1 (n + 1) v1_2 τ1_0) = (L1_X5_save σ p1 n (v1_2 + 1) (t1_X5_save σ p1 v1_2 τ1_0)) from by rw [L1_X5_save]; rw [if_neg c_2]]
      exact ih (v1_2 + 1) (t1_X5_save σ p1 v1_2 τ1_0) hok _ _ hP hD hS ls (lv_sub hl [1, 2, 0] rfl)
set_option maxHeartbeats 4000000 in
set_option maxRecDepth 100000 in
theorem c_X5_save (l : Launch) (G : GG) (α : Nat → Nat) (σ : MS) (p1 : Int32) (hok : ok_X5_save σ p1) : Wr G l yX5_save wsX5_save 4 88 [.ref (α 0), .int p1] (mW G.2.1 α σ) (some (.int (s_X5_save σ p1).1)) (mW G.2.1 α ((s_X5_save σ p1).2)) := by
  refine Met.ofW (cc := cX5_save) (maxL := 3) (ret := (some .int)) (by decide) rfl ?_
  intro p e s m args below meth c s₁ B hml hv
  obtain ⟨rfl, hP, hK, hD0⟩ := hv
  have C0 : cA p s m meth c ([.ref (α 0), .int p1] : List Value).toArray cX5_save 3 (some .int) wsX5_save RX5 := ⟨B.exec, B.bytes, B.returns, hml, findClass_of_methodNamed B.named, atoms_spec (ws := wsX5_save) B.pre, B.notSynchronized⟩
  obtain ⟨hx, hb, hr, hml, hown, hts, hlocks⟩ := id C0
  have hF : CallFix p m c cX5_save 3 s _ wsX5_save RX5 := ⟨hx, hb, hml, hown, hts⟩
  have hinX5 : ∀ w ∈ wsX50, w ∈ wsX5_save := by decide +kernel
  obtain ⟨w0, hw0⟩ : ∃ w0 : va_W, w0 = (mW G.2.1 α σ) := ⟨_, rfl⟩
  have hD : va_D (inW w0) (mW G.2.1 α σ) := by rw [hw0]; exact inW.D hD0
  have hS : va_S (inW w0) s.heap s.heap [] := va_S.rf
  rw [show QW G (mW G.2.1 α σ) = QW G w0 from by rw [hw0], show inW (mW G.2.1 α σ) = inW w0 from by rw [hw0]]
  have hl := lv_entry ([.ref (α 0), .int p1]) (n := 3) (Nat.le_of_ble_eq_true rfl)
  rw [lg_entry_eq]
  generalize (lg_sl ([.ref (α 0), .int p1]) ++ List.replicate (3 - (lg_sl ([.ref (α 0), .int p1])).length) Slot.unset).toArray = ls at hl ⊢
  have hl : lv_has ls 3 [(0, .ref (α 0)), (1, .int p1)] := hl
  have hok : ((s_X5_isSlot p1) = 0 → True) ∧ (¬ (s_X5_isSlot p1) = 0 → (okL1_X5_save σ p1 FU 0 σ)) := hok
  refine lv_iload_n hx hb dX5_save_0 rfl (lv_at hl 1 rfl) ?_
  refine rdS (As := [.int p1]) (rest := []) (c_X5_isSlot l G p1) hF (va_cwS 1 hts gX5_save_X5_isSlot rfl rfl rfl (by decide +kernel) ⟨Nat.le_of_ble_eq_true rfl, Nat.le_of_ble_eq_true rfl⟩) hK va_P0 rfl hl.1 rfl (Nat.le_of_ble_eq_true rfl) dX5_save_1 ⟨Nat.zero_le _, Nat.zero_le _⟩ ?_
  refine lv_if_ne (tgt := 10) hx hb dX5_save_4 (by decide) (fun (c_1 : ¬ (s_X5_isSlot p1) = 0) => ?_) (fun (c_1 : (s_X5_isSlot p1) = 0) => ?_)
  · skip
    have hok := hok.2 c_1
    refine lv_iconst (v := 0) hx hb dX5_save_10 (by decide) ?_
    refine lv_istore_n (lv' := [(2, .int 0), (0, .ref (α 0)), (1, .int p1)]) hx hb dX5_save_11 rfl hl (by decide) rfl (fun ls hl => ?_)
    rw [show s_X5_save σ p1 = (L1_X5_save σ p1 FU 0 σ) from by rw [s_X5_save]; rw [if_neg c_1]]
    exact wL1_X5_save l G α σ p1 C0 hK FU 0 σ hok _ _ hP hD hS ls (lv_sub hl [1, 2, 0] rfl)
  · skip
    refine lv_bipush (v := (-2)) hx hb dX5_save_7 (by decide) ?_
    have E9 : s_X5_save σ p1 = ((-2), σ) := by rw [s_X5_save]; rw [if_pos c_1]
    rw [pr1 E9, pr2 E9]
    exact W.iret hx hb hr (fun t ht hW => ⟨rfl, by rw [ht]; exact hP, hS.F ht⟩) hS.2.2 dX5_save_9
def t1_X5_restore (σ : MS) (p1 : Int32) (v1_2 : Int32) (τ1_0 : MS) : MS := (m_al' τ1_0 (upd (m_al τ1_0) v1_2.toNatClampNeg ((m_sl τ1_0) ((816 * p1) + v1_2).toNatClampNeg)))
def L1_X5_restore (σ : MS) (p1 : Int32) : Nat → Int32 → MS → Int32 × MS
  | 0, v1_2, τ1_0 => (0, τ1_0)
  | n + 1, v1_2, τ1_0 => (if 816 ≤ v1_2 then (((s_X5_ends τ1_0 (s_X5_addresses τ1_0 (-6) 0)).1), ((s_X5_ends τ1_0 (s_X5_addresses τ1_0 (-6) 0)).2)) else (L1_X5_restore σ p1 n (v1_2 + 1) (t1_X5_restore σ p1 v1_2 τ1_0)))
def okL1_X5_restore (σ : MS) (p1 : Int32) : Nat → Int32 → MS → Prop
  | 0, _, _ => False
  | n + 1, v1_2, τ1_0 => (816 ≤ v1_2 → ((ok_X5_addresses τ1_0 (-6) 0) ∧ (ok_X5_ends τ1_0 (s_X5_addresses τ1_0 (-6) 0)))) ∧ (¬ 816 ≤ v1_2 → ((vp_in ((816 * p1) + v1_2) 1632) ∧ ((vp_in v1_2 816) ∧ (okL1_X5_restore σ p1 n (v1_2 + 1) (t1_X5_restore σ p1 v1_2 τ1_0)))))
def s_X5_restore (σ : MS) (p1 : Int32) : Int32 × MS := (if (s_X5_isSlot p1) = 0 then ((-2), σ) else (if ((m_sv σ) p1.toNatClampNeg) = 0 then ((-5), σ) else (L1_X5_restore σ p1 FU 0 (s_X5_keeps σ))))
def ok_X5_restore (σ : MS) (p1 : Int32) : Prop := ((s_X5_isSlot p1) = 0 → True) ∧ (¬ (s_X5_isSlot p1) = 0 → ((vp_in p1 2) ∧ ((((m_sv σ) p1.toNatClampNeg) = 0 → True) ∧ (¬ ((m_sv σ) p1.toNatClampNeg) = 0 → ((ok_X5_keeps σ) ∧ (okL1_X5_restore σ p1 FU 0 (s_X5_keeps σ)))))))
set_option maxHeartbeats 4000000 in
set_option maxRecDepth 100000 in
theorem wL1_X5_restore {p : Program} {e : Env} {s : State} {m : MethodId} {args : Array Value} {below : List Frame} {meth : Method} {c : Code} {w0 : va_W} (l : Launch) (G : GG) (α : Nat → Nat) (σ : MS) (p1 : Int32) (C0 : cA p s m meth c args cX5_restore 3 (some .int) wsX5_restore RX5) (hK : cK G s) : ∀ (n : Nat) (v1_2 : Int32) (τ1_0 : MS)  (hok : okL1_X5_restore σ p1 n v1_2 τ1_0) (H : Heap) (locs : List Loc), va_P G.1 vwCl (mW G.2.1 α τ1_0) H → va_D (inW w0) (mW G.2.1 α τ1_0) → va_S (inW w0) s.heap H locs → ∀ (ls : Array Slot), lv_has ls 3 [(0, .ref (α 0)), (1, .int p1), (2, .int v1_2)] → W p l e (rmm 4 88) s m args below meth c H locs 0 0 (MQ below (QW G w0 (mW G.2.1 α ((L1_X5_restore σ p1 n v1_2 τ1_0).2)) (some (.int (L1_X5_restore σ p1 n v1_2 τ1_0).1))) args s 0 0 (inW w0)) (F0 m 28 ls []) := by
  obtain ⟨hx, hb, hr, hml, hown, hts, hlocks⟩ := id C0
  have hF : CallFix p m c cX5_restore 3 s args wsX5_restore RX5 := ⟨hx, hb, hml, hown, hts⟩
  have hinX5 : ∀ w ∈ wsX50, w ∈ wsX5_restore := by decide +kernel
  intro n
  induction n with
  | zero =>
    intro v1_2 τ1_0 hok
    exact hok.elim
  | succ n ih =>
    intro v1_2 τ1_0 hok H locs hP hD hS ls hl
    have hok : (816 ≤ v1_2 → ((ok_X5_addresses τ1_0 (-6) 0) ∧ (ok_X5_ends τ1_0 (s_X5_addresses τ1_0 (-6) 0)))) ∧ (¬ 816 ≤ v1_2 → ((vp_in ((816 * p1) + v1_2) 1632) ∧ ((vp_in v1_2 816) ∧ (okL1_X5_restore σ p1 n (v1_2 + 1) (t1_X5_restore σ p1 v1_2 τ1_0))))) := hok
    refine lv_iload_n hx hb dX5_restore_28 rfl (lv_at hl 2 rfl) ?_
    refine lv_sipush (v := 816) hx hb dX5_restore_29 (by decide) ?_
    refine lv_icmp_ge (tgt := 59) hx hb dX5_restore_32 (by decide) (fun (c_5 : 816 ≤ v1_2) => ?_) (fun (c_5 : ¬ 816 ≤ v1_2) => ?_)
    · skip
      have hok := hok.1 c_5
      obtain ⟨h_6, hok⟩ := hok
      refine lv_aload_n hx hb dX5_restore_59 rfl (lv_at hl 0 rfl) ?_
      refine lv_aload_n hx hb dX5_restore_60 rfl (lv_at hl 0 rfl) ?_
      refine lv_bipush (v := (-6)) hx hb dX5_restore_61 (by decide) ?_
      refine lv_iconst (v := 0) hx hb dX5_restore_63 (by decide) ?_
      refine rdV (As := [.int (-6), .int 0]) (rest := [.ref (α 0)]) (c_X5_addresses l G α τ1_0 (-6) 0 h_6) hF (cwV 2 hts gX5_restore_X5_addresses rfl rfl rfl (by decide +kernel) ⟨Nat.le_of_ble_eq_true rfl, Nat.le_of_ble_eq_true rfl⟩) (rcv_M hK hP) hK hP rfl hl.1 rfl (Nat.le_of_ble_eq_true rfl) dX5_restore_64 ⟨Nat.zero_le _, Nat.zero_le _⟩ ?_
      have h_7 := hok
      refine wrV0 (As := [.int (s_X5_addresses τ1_0 (-6) 0)]) (rest := []) (c_X5_ends l G α τ1_0 (s_X5_addresses τ1_0 (-6) 0) h_7) hF (cwV 1 hts gX5_restore_X5_ends rfl rfl rfl (by decide +kernel) ⟨Nat.le_of_ble_eq_true rfl, Nat.le_of_ble_eq_true rfl⟩) (rcv_M hK hP) hK hP hD hS (fst_M _ _) rfl hl.1 rfl (Nat.le_of_ble_eq_true rfl) dX5_restore_67 ⟨Nat.zero_le _, Nat.zero_le _⟩ (fun H locs hP hD hS => ?_)
      have hP : va_P G.1 vwCl (mW G.2.1 α ((s_X5_ends τ1_0 (s_X5_addresses τ1_0 (-6) 0)).2)) H := hP
      have hD : va_D (inW w0) (mW G.2.1 α ((s_X5_ends τ1_0 (s_X5_addresses τ1_0 (-6) 0)).2)) := hD
      have E9 : (L1_X5_restore σ p1 (n + 1) v1_2 τ1_0) = (((s_X5_ends τ1_0 (s_X5_addresses τ1_0 (-6) 0)).1), ((s_X5_ends τ1_0 (s_X5_addresses τ1_0 (-6) 0)).2)) := by rw [L1_X5_restore]; rw [if_pos c_5]
      rw [pr1 E9, pr2 E9]
      exact W.iret hx hb hr (fun t ht hW => ⟨rfl, by rw [ht]; exact hP, hS.F ht⟩) hS.2.2 dX5_restore_70
    · skip
      have hok := hok.2 c_5
      obtain ⟨h_8, hok⟩ := hok
      refine lv_aload_n hx hb dX5_restore_35 rfl (lv_at hl 0 rfl) ?_
      refine get_M_all hx hb hts hinX5 hown hK hP (hts (.fieldLink RX5 7 "GrooveTurnsModel" "all" "[I") (by decide +kernel)) dX5_restore_36 ?_
      refine lv_iload_n hx hb dX5_restore_39 rfl (lv_at hl 2 rfl) ?_
      refine lv_aload_n hx hb dX5_restore_40 rfl (lv_at hl 0 rfl) ?_
      refine get_M_slots hx hb hts hinX5 hown hK hP (hts (.fieldLink RX5 19 "GrooveTurnsModel" "slots" "[I") (by decide +kernel)) dX5_restore_41 ?_
      refine lv_sipush (v := 816) hx hb dX5_restore_44 (by decide) ?_
      refine lv_iload_n hx hb dX5_restore_47 rfl (lv_at hl 1 rfl) ?_
      refine lv_imul hx hb dX5_restore_48 ?_
      refine lv_iload_n hx hb dX5_restore_49 rfl (lv_at hl 2 rfl) ?_
      refine lv_iadd hx hb dX5_restore_50 ?_
      refine ld_M_sl hx hb hK hP h_8 dX5_restore_51 ?_
      obtain ⟨h_9, hok⟩ := hok
      refine st_M_al hx hb hK hP hD hS h_9 dX5_restore_52 (fun H locs hP hD hS => ?_)
      have hP : va_P G.1 vwCl (mW G.2.1 α (t1_X5_restore σ p1 v1_2 τ1_0)) H := hP
      have hD : va_D (inW w0) (mW G.2.1 α (t1_X5_restore σ p1 v1_2 τ1_0)) := hD
      refine lv_iinc (v := (v1_2 + 1)) (lv' := [(2, .int (v1_2 + 1)), (0, .ref (α 0)), (1, .int p1)]) hx hb dX5_restore_53 hl (k := 2) rfl rfl (by decide) rfl (fun ls hl => ?_)
      refine lv_goto (tgt := 28) hx hb dX5_restore_56 (by decide) ?_
      rw [show (L1_X5_restore σ p1 (n + 1) v1_2 τ1_0) = (L1_X5_restore σ p1 n (v1_2 + 1) (t1_X5_restore σ p1 v1_2 τ1_0)) from by rw [L1_X5_restore]; rw [if_neg c_5]]
      exact ih (v1_2 + 1) (t1_X5_restore σ p1 v1_2 τ1_0) hok _ _ hP hD hS ls (lv_sub hl [1, 2, 0] rfl)
set_option maxHeartbeats 4000000 in
set_option maxRecDepth 100000 in
theorem c_X5_restore (l : Launch) (G : GG) (α : Nat → Nat) (σ : MS) (p1 : Int32) (hok : ok_X5_restore σ p1) : Wr G l yX5_restore wsX5_restore 4 88 [.ref (α 0), .int p1] (mW G.2.1 α σ) (some (.int (s_X5_restore σ p1).1)) (mW G.2.1 α ((s_X5_restore σ p1).2)) := by
  refine Met.ofW (cc := cX5_restore) (maxL := 3) (ret := (some .int)) (by decide) rfl ?_
  intro p e s m args below meth c s₁ B hml hv
  obtain ⟨rfl, hP, hK, hD0⟩ := hv
  have C0 : cA p s m meth c ([.ref (α 0), .int p1] : List Value).toArray cX5_restore 3 (some .int) wsX5_restore RX5 := ⟨B.exec, B.bytes, B.returns, hml, findClass_of_methodNamed B.named, atoms_spec (ws := wsX5_restore) B.pre, B.notSynchronized⟩
  obtain ⟨hx, hb, hr, hml, hown, hts, hlocks⟩ := id C0
  have hF : CallFix p m c cX5_restore 3 s _ wsX5_restore RX5 := ⟨hx, hb, hml, hown, hts⟩
  have hinX5 : ∀ w ∈ wsX50, w ∈ wsX5_restore := by decide +kernel
  obtain ⟨w0, hw0⟩ : ∃ w0 : va_W, w0 = (mW G.2.1 α σ) := ⟨_, rfl⟩
  have hD : va_D (inW w0) (mW G.2.1 α σ) := by rw [hw0]; exact inW.D hD0
  have hS : va_S (inW w0) s.heap s.heap [] := va_S.rf
  rw [show QW G (mW G.2.1 α σ) = QW G w0 from by rw [hw0], show inW (mW G.2.1 α σ) = inW w0 from by rw [hw0]]
  have hl := lv_entry ([.ref (α 0), .int p1]) (n := 3) (Nat.le_of_ble_eq_true rfl)
  rw [lg_entry_eq]
  generalize (lg_sl ([.ref (α 0), .int p1]) ++ List.replicate (3 - (lg_sl ([.ref (α 0), .int p1])).length) Slot.unset).toArray = ls at hl ⊢
  have hl : lv_has ls 3 [(0, .ref (α 0)), (1, .int p1)] := hl
  have hok : ((s_X5_isSlot p1) = 0 → True) ∧ (¬ (s_X5_isSlot p1) = 0 → ((vp_in p1 2) ∧ ((((m_sv σ) p1.toNatClampNeg) = 0 → True) ∧ (¬ ((m_sv σ) p1.toNatClampNeg) = 0 → ((ok_X5_keeps σ) ∧ (okL1_X5_restore σ p1 FU 0 (s_X5_keeps σ))))))) := hok
  refine lv_iload_n hx hb dX5_restore_0 rfl (lv_at hl 1 rfl) ?_
  refine rdS (As := [.int p1]) (rest := []) (c_X5_isSlot l G p1) hF (va_cwS 1 hts gX5_restore_X5_isSlot rfl rfl rfl (by decide +kernel) ⟨Nat.le_of_ble_eq_true rfl, Nat.le_of_ble_eq_true rfl⟩) hK va_P0 rfl hl.1 rfl (Nat.le_of_ble_eq_true rfl) dX5_restore_1 ⟨Nat.zero_le _, Nat.zero_le _⟩ ?_
  refine lv_if_ne (tgt := 10) hx hb dX5_restore_4 (by decide) (fun (c_1 : ¬ (s_X5_isSlot p1) = 0) => ?_) (fun (c_1 : (s_X5_isSlot p1) = 0) => ?_)
  · skip
    have hok := hok.2 c_1
    obtain ⟨h_2, hok⟩ := hok
    refine lv_aload_n hx hb dX5_restore_10 rfl (lv_at hl 0 rfl) ?_
    refine get_M_isSaved hx hb hts hinX5 hown hK hP (hts (.fieldLink RX5 22 "GrooveTurnsModel" "isSaved" "[I") (by decide +kernel)) dX5_restore_11 ?_
    refine lv_iload_n hx hb dX5_restore_14 rfl (lv_at hl 1 rfl) ?_
    refine ld_M_sv hx hb hK hP h_2 dX5_restore_15 ?_
    refine lv_if_ne (tgt := 22) hx hb dX5_restore_16 (by decide) (fun (c_3 : ¬ ((m_sv σ) p1.toNatClampNeg) = 0) => ?_) (fun (c_3 : ((m_sv σ) p1.toNatClampNeg) = 0) => ?_)
    · skip
      have hok := hok.2 c_3
      obtain ⟨h_4, hok⟩ := hok
      refine lv_aload_n hx hb dX5_restore_22 rfl (lv_at hl 0 rfl) ?_
      refine wrV0 (As := []) (rest := []) (c_X5_keeps l G α σ h_4) hF (cwV 0 hts gX5_restore_X5_keeps rfl rfl rfl (by decide +kernel) ⟨Nat.le_of_ble_eq_true rfl, Nat.le_of_ble_eq_true rfl⟩) (rcv_M hK hP) hK hP hD hS (fst_M _ _) rfl hl.1 rfl (Nat.le_of_ble_eq_true rfl) dX5_restore_23 ⟨Nat.zero_le _, Nat.zero_le _⟩ (fun H locs hP hD hS => ?_)
      have hP : va_P G.1 vwCl (mW G.2.1 α (s_X5_keeps σ)) H := hP
      have hD : va_D (inW w0) (mW G.2.1 α (s_X5_keeps σ)) := hD
      refine lv_iconst (v := 0) hx hb dX5_restore_26 (by decide) ?_
      refine lv_istore_n (lv' := [(2, .int 0), (0, .ref (α 0)), (1, .int p1)]) hx hb dX5_restore_27 rfl hl (by decide) rfl (fun ls hl => ?_)
      rw [show s_X5_restore σ p1 = (L1_X5_restore σ p1 FU 0 (s_X5_keeps σ)) from by rw [s_X5_restore]; rw [if_neg c_1, if_neg c_3]]
      exact wL1_X5_restore l G α σ p1 C0 hK FU 0 (s_X5_keeps σ) hok _ _ hP hD hS ls (lv_sub hl [1, 2, 0] rfl)
    · skip
      refine lv_bipush (v := (-5)) hx hb dX5_restore_19 (by decide) ?_
      have E9 : s_X5_restore σ p1 = ((-5), σ) := by rw [s_X5_restore]; rw [if_neg c_1, if_pos c_3]
      rw [pr1 E9, pr2 E9]
      exact W.iret hx hb hr (fun t ht hW => ⟨rfl, by rw [ht]; exact hP, hS.F ht⟩) hS.2.2 dX5_restore_21
  · skip
    refine lv_bipush (v := (-2)) hx hb dX5_restore_7 (by decide) ?_
    have E9 : s_X5_restore σ p1 = ((-2), σ) := by rw [s_X5_restore]; rw [if_pos c_1]
    rw [pr1 E9, pr2 E9]
    exact W.iret hx hb hr (fun t ht hW => ⟨rfl, by rw [ht]; exact hP, hS.F ht⟩) hS.2.2 dX5_restore_9
