/-! isWell -/
set_option maxHeartbeats 4000000 in
set_option maxRecDepth 100000 in
theorem lp1_isWell {p : Program} {e : Env} {s : State} {m : MethodId} {below : List Frame} {meth : Method} {c : Code} {Q : State → Prop} (l : Launch) (G : GG) (tb : Nat × Nat × Nat) {γ : Nat} {V : OV} {W0 : va_W} (hI : OI G γ V W0) {K : Nat} (hDv : Dv K V.1) (hP : va_P G.1 vwCl W0 s.heap) (hT : sT tb (fun _ => False) s) (hK : cK G s) (C0 : cA p s m meth c ([.ref γ] : List Value).toArray cL_isWell 12 (some .boolean) wsL_isWell RL) (kend : ∀ ls : Array Slot, lv_has ls 12 [(0, .ref γ), (1, .int (sumN (hasA V.1) 192)), (2, .int (sumN (losA V.1) 192)), (3, .int (greA V.1 192)), (4, .int (sumN (fun a => vS V.1 (nI a) 5) 192)), (5, .int (worA V.1 192)), (6, .int 1), (7, .int (nI 192))] → W p l e (headSpec wsL_isWell (rmm 5 112)).room s m ([.ref γ] : List Value).toArray below meth c s.heap [] (0) (0) Q (F0 m 289 ls [])) : ∀ (f i : Nat) (ls : Array Slot), i + f = 192 → lv_has ls 12 [(0, .ref γ), (1, .int (sumN (hasA V.1) i)), (2, .int (sumN (losA V.1) i)), (3, .int (greA V.1 i)), (4, .int (sumN (fun a => vS V.1 (nI a) 5) i)), (5, .int (worA V.1 i)), (6, .int 1), (7, .int (nI i))] → W p l e (headSpec wsL_isWell (rmm 5 112)).room s m ([.ref γ] : List Value).toArray below meth c s.heap [] (0) (0) Q (F0 m 19 ls []) := by
  obtain ⟨hx, hb, hr, hml, hown, hts, hlocks⟩ := id C0
  have hF : CallFix p m c cL_isWell 12 s ([.ref γ] : List Value).toArray wsL_isWell RL := ⟨hx, hb, hml, hown, hts⟩
  have hS : va_S (fun _ => False) s.heap s.heap [] := va_S.rf
  intro f
  induction f with
  | zero =>
    intro i ls hi hl
    have hi : i = 192 := hi
    subst hi
    refine lv_iload hx hb dL_isWell_19 (lv_at hl 7 rfl) ?_
    refine lv_sipush (v := 192) hx hb dL_isWell_21 (by decide) ?_
    refine lv_icmp_ge (tgt := 289) hx hb dL_isWell_24 (by decide) (fun _ => ?_) (fun h9 : ¬ ((192 : Int32) ≤ (nI 192)) => absurd (show (192 : Int32) ≤ (nI 192) from Int32.le_refl _) h9)
    exact kend ls hl
  | succ f ih =>
    intro i ls hi hl
    have hi9 : i < 192 := by omega
    obtain ⟨c9, hc9, ec9, hd9⟩ := secD hDv hi9
    have f2 : vS V.1 (nI i) 2 = d_nu V.1 c9 := vS2 hi9 hc9 ec9
    have f3 : vS V.1 (nI i) 3 = d_bl V.1 c9 := vS3 hi9 hc9 ec9
    have f4 : vS V.1 (nI i) 4 = d_wr V.1 c9 := vS4 hi9 hc9 ec9
    have f6 : vS V.1 (nI i) 6 = if d_nu V.1 c9 = -6 then 0 else if d_st V.1 2 ≤ d_bl V.1 c9 then 0 else 1 := vS6 hi9 hc9 ec9
    have h99 : ¬ (99 : Int32) < vS V.1 (nI i) 3 := by
      obtain ⟨x, hx9, ex⟩ := hDv.2.2.2.2.2.2.2.2.1 c9 hc9
      rw [f3, ex]
      exact nI_nlt (a := 99) (by omega) (by omega)
    have hsp : vS V.1 (nI i) 5 = 1 → vS V.1 (nI i) 0 = 16 := by
      rw [vS5 hi9 hc9 ec9, vS0 hi9 hc9 ec9]
      intro q
      have q2 : ¬ c9 < 192 := fun z => by rw [if_pos z] at q; exact absurd q (by decide)
      rw [show c9 / 12 = 16 from by omega]
      rfl
    have hns : ¬ vS V.1 (nI i) 5 = 1 → vS V.1 (nI i) 0 = nI i / 12 ∧ vS V.1 (nI i) 1 = jrem (nI i) 12 := by
      rw [vS5 hi9 hc9 ec9, vS0 hi9 hc9 ec9, vS1 hi9 hc9 ec9]
      intro q
      have q2 : c9 < 192 := Classical.byContradiction fun z => q (by rw [if_neg z])
      have q3 : c9 = i := by omega
      subst q3
      exact ⟨(dv12 (by omega)).symm, (jr12 (by omega)).symm⟩
    by_cases hn : vS V.1 (nI i) 2 = -6
    · have h6 : ¬ vS V.1 (nI i) 6 = 1 := by rw [f6, if_pos (f2.symm.trans hn)]; decide
      have hz : d_bl V.1 c9 = 0 ∧ d_wr V.1 c9 = 0 := by
        rcases hDv.2.2.2.2.2.2.2.1 c9 hc9 with ⟨-, q2, q3⟩ | ⟨v, hv, ev⟩
        · exact ⟨q2, q3⟩
        · rw [f2, ev] at hn
          exact absurd hn (n6_ne (by omega))
      have hz3 : vS V.1 (nI i) 3 = 0 := f3.trans hz.1
      have hz4 : vS V.1 (nI i) 4 = 0 := f4.trans hz.2
      refine lv_iload hx hb dL_isWell_19 (lv_at hl 7 rfl) ?_
      refine lv_sipush (v := 192) hx hb dL_isWell_21 (by decide) ?_
      refine lv_icmp_ge (tgt := 289) hx hb dL_isWell_24 (by decide) (fun h9 : (192 : Int32) ≤ (nI i) => absurd h9 (show ¬ ((192 : Int32) ≤ (nI i)) from nI_ge (b := 192) hi9 (by omega))) (fun _ => ?_)
      refine lv_aload_n hx hb dL_isWell_27 rfl (lv_at hl 0 rfl) ?_
      refine lv_iload hx hb dL_isWell_28 (lv_at hl 7 rfl) ?_
      refine lv_iconst (v := 3) hx hb dL_isWell_30 (by decide) ?_
      refine rdV (As := [.int (nI i), .int 3]) (rest := []) (o_sector l hI (nI i) 3) hF (cwV 2 hts gL_isWell_X4_sector rfl rfl rfl (by decide +kernel) ⟨Nat.le_of_ble_eq_true rfl, Nat.le_of_ble_eq_true rfl⟩) (hI.recv hK hP) hK hP rfl hl.1 rfl (Nat.le_of_ble_eq_true rfl) dL_isWell_31 ⟨Nat.le_of_ble_eq_true rfl, Nat.le_of_ble_eq_true rfl⟩ ?_
      refine lv_istore (lv' := [(8, .int (vS V.1 (nI i) 3)), (0, .ref γ), (1, .int (sumN (hasA V.1) i)), (2, .int (sumN (losA V.1) i)), (3, .int (greA V.1 i)), (4, .int (sumN (fun a => vS V.1 (nI a) 5) i)), (5, .int (worA V.1 i)), (6, .int 1), (7, .int (nI i))]) hx hb dL_isWell_34 hl (by decide) rfl (fun ls hl => ?_)
      refine lv_aload_n hx hb dL_isWell_36 rfl (lv_at hl 1 rfl) ?_
      refine lv_iload hx hb dL_isWell_37 (lv_at hl 8 rfl) ?_
      refine lv_iconst (v := 2) hx hb dL_isWell_39 (by decide) ?_
      refine rdV (As := [.int (nI i), .int 2]) (rest := []) (o_sector l hI (nI i) 2) hF (cwV 2 hts gL_isWell_X4_sector rfl rfl rfl (by decide +kernel) ⟨Nat.le_of_ble_eq_true rfl, Nat.le_of_ble_eq_true rfl⟩) (hI.recv hK hP) hK hP rfl hl.1 rfl (Nat.le_of_ble_eq_true rfl) dL_isWell_40 ⟨Nat.le_of_ble_eq_true rfl, Nat.le_of_ble_eq_true rfl⟩ ?_
      refine lv_bipush (v := (-6)) hx hb dL_isWell_43 (by decide) ?_
      refine lv_icmp_eq (tgt := 52) hx hb dL_isWell_45 (by decide) (fun _ => ?_) (fun h9 : ¬ ((vS V.1 (nI i) 2) = (-6)) => absurd (show (vS V.1 (nI i) 2) = (-6) from hn) h9)
      refine lv_iconst (v := 0) hx hb dL_isWell_52 (by decide) ?_
      refine lv_istore (lv' := [(9, .int 0), (8, .int (vS V.1 (nI i) 3)), (0, .ref γ), (1, .int (sumN (hasA V.1) i)), (2, .int (sumN (losA V.1) i)), (3, .int (greA V.1 i)), (4, .int (sumN (fun a => vS V.1 (nI a) 5) i)), (5, .int (worA V.1 i)), (6, .int 1), (7, .int (nI i))]) hx hb dL_isWell_53 hl (by decide) rfl (fun ls hl => ?_)
      refine lv_aload_n hx hb dL_isWell_55 rfl (lv_at hl 2 rfl) ?_
      refine lv_iload hx hb dL_isWell_56 (lv_at hl 9 rfl) ?_
      refine lv_bipush (v := 6) hx hb dL_isWell_58 (by decide) ?_
      refine rdV (As := [.int (nI i), .int 6]) (rest := []) (o_sector l hI (nI i) 6) hF (cwV 2 hts gL_isWell_X4_sector rfl rfl rfl (by decide +kernel) ⟨Nat.le_of_ble_eq_true rfl, Nat.le_of_ble_eq_true rfl⟩) (hI.recv hK hP) hK hP rfl hl.1 rfl (Nat.le_of_ble_eq_true rfl) dL_isWell_60 ⟨Nat.le_of_ble_eq_true rfl, Nat.le_of_ble_eq_true rfl⟩ ?_
      refine lv_iconst (v := 1) hx hb dL_isWell_63 (by decide) ?_
      refine lv_icmp_ne (tgt := 71) hx hb dL_isWell_64 (by decide) (fun _ => ?_) (fun h9 : (vS V.1 (nI i) 6) = 1 => absurd h9 (show ¬ ((vS V.1 (nI i) 6) = 1) from h6))
      refine lv_iconst (v := 0) hx hb dL_isWell_71 (by decide) ?_
      refine lv_istore (lv' := [(10, .int 0), (9, .int 0), (8, .int (vS V.1 (nI i) 3)), (0, .ref γ), (1, .int (sumN (hasA V.1) i)), (2, .int (sumN (losA V.1) i)), (3, .int (greA V.1 i)), (4, .int (sumN (fun a => vS V.1 (nI a) 5) i)), (5, .int (worA V.1 i)), (6, .int 1), (7, .int (nI i))]) hx hb dL_isWell_72 hl (by decide) rfl (fun ls hl => ?_)
      refine lv_iload_n hx hb dL_isWell_74 rfl (lv_at hl 4 rfl) ?_
      refine lv_iload hx hb dL_isWell_75 (lv_at hl 1 rfl) ?_
      refine lv_if_eq (tgt := 84) hx hb dL_isWell_77 (by decide) (fun _ => ?_) (fun h9 : ¬ ((0 : Int32) = 0) => absurd (show (0 : Int32) = 0 from (by decide)) h9)
      refine lv_iconst (v := 0) hx hb dL_isWell_84 (by decide) ?_
      refine lv_iadd hx hb dL_isWell_85 ?_
      refine lv_istore_n (lv' := [(1, .int ((sumN (hasA V.1) i) + 0)), (10, .int 0), (9, .int 0), (8, .int (vS V.1 (nI i) 3)), (0, .ref γ), (2, .int (sumN (losA V.1) i)), (3, .int (greA V.1 i)), (4, .int (sumN (fun a => vS V.1 (nI a) 5) i)), (5, .int (worA V.1 i)), (6, .int 1), (7, .int (nI i))]) hx hb dL_isWell_86 rfl hl (by decide) rfl (fun ls hl => ?_)
      refine lv_iload_n hx hb dL_isWell_87 rfl (lv_at hl 5 rfl) ?_
      refine lv_iload hx hb dL_isWell_88 (lv_at hl 2 rfl) ?_
      refine lv_if_eq (tgt := 102) hx hb dL_isWell_90 (by decide) (fun _ => ?_) (fun h9 : ¬ ((0 : Int32) = 0) => absurd (show (0 : Int32) = 0 from (by decide)) h9)
      refine lv_iconst (v := 0) hx hb dL_isWell_102 (by decide) ?_
      refine lv_iadd hx hb dL_isWell_103 ?_
      refine lv_istore_n (lv' := [(2, .int ((sumN (losA V.1) i) + 0)), (1, .int ((sumN (hasA V.1) i) + 0)), (10, .int 0), (9, .int 0), (8, .int (vS V.1 (nI i) 3)), (0, .ref γ), (3, .int (greA V.1 i)), (4, .int (sumN (fun a => vS V.1 (nI a) 5) i)), (5, .int (worA V.1 i)), (6, .int 1), (7, .int (nI i))]) hx hb dL_isWell_104 rfl hl (by decide) rfl (fun ls hl => ?_)
      refine lv_iload hx hb dL_isWell_105 (lv_at hl 4 rfl) ?_
      refine lv_iload_n hx hb dL_isWell_107 rfl (lv_at hl 6 rfl) ?_
      have K117_2 : ∀ ls : Array Slot, lv_has ls 12 [(0, .ref γ), (1, .int ((sumN (hasA V.1) i) + 0)), (2, .int ((sumN (losA V.1) i) + 0)), (3, .int (greA V.1 i)), (4, .int (sumN (fun a => vS V.1 (nI a) 5) i)), (5, .int (worA V.1 i)), (6, .int 1), (7, .int (nI i)), (8, .int (vS V.1 (nI i) 3)), (9, .int 0), (10, .int 0)] → W p l e (headSpec wsL_isWell (rmm 5 112)).room s m ([.ref γ] : List Value).toArray below meth c s.heap [] (0) (0) Q (F0 m 117 ls [.int (greA V.1 (i + 1))]) := by
        intro ls hl
        refine lv_istore_n (lv' := [(3, .int (greA V.1 (i + 1))), (0, .ref γ), (1, .int ((sumN (hasA V.1) i) + 0)), (2, .int ((sumN (losA V.1) i) + 0)), (4, .int (sumN (fun a => vS V.1 (nI a) 5) i)), (5, .int (worA V.1 i)), (6, .int 1), (7, .int (nI i)), (8, .int (vS V.1 (nI i) 3)), (9, .int 0), (10, .int 0)]) hx hb dL_isWell_117 rfl hl (by decide) rfl (fun ls hl => ?_)
        refine lv_iload hx hb dL_isWell_118 (lv_at hl 4 rfl) ?_
        refine lv_aload_n hx hb dL_isWell_120 rfl (lv_at hl 1 rfl) ?_
        refine lv_iload hx hb dL_isWell_121 (lv_at hl 7 rfl) ?_
        refine lv_iconst (v := 5) hx hb dL_isWell_123 (by decide) ?_
        refine rdV (As := [.int (nI i), .int 5]) (rest := [.int (sumN (fun a => vS V.1 (nI a) 5) i)]) (o_sector l hI (nI i) 5) hF (cwV 2 hts gL_isWell_X4_sector rfl rfl rfl (by decide +kernel) ⟨Nat.le_of_ble_eq_true rfl, Nat.le_of_ble_eq_true rfl⟩) (hI.recv hK hP) hK hP rfl hl.1 rfl (Nat.le_of_ble_eq_true rfl) dL_isWell_124 ⟨Nat.le_of_ble_eq_true rfl, Nat.le_of_ble_eq_true rfl⟩ ?_
        refine lv_iadd hx hb dL_isWell_127 ?_
        refine lv_istore (lv' := [(4, .int ((sumN (fun a => vS V.1 (nI a) 5) i) + (vS V.1 (nI i) 5))), (3, .int (greA V.1 (i + 1))), (0, .ref γ), (1, .int ((sumN (hasA V.1) i) + 0)), (2, .int ((sumN (losA V.1) i) + 0)), (5, .int (worA V.1 i)), (6, .int 1), (7, .int (nI i)), (8, .int (vS V.1 (nI i) 3)), (9, .int 0), (10, .int 0)]) hx hb dL_isWell_128 hl (by decide) rfl (fun ls hl => ?_)
        refine lv_iload hx hb dL_isWell_130 (lv_at hl 10 rfl) ?_
        refine lv_if_eq (tgt := 159) hx hb dL_isWell_132 (by decide) (fun _ => ?_) (fun h9 : ¬ ((0 : Int32) = 0) => absurd (show (0 : Int32) = 0 from (by decide)) h9)
        refine lv_iload hx hb dL_isWell_159 (lv_at hl 5 rfl) ?_
        refine lv_istore (lv' := [(5, .int (worA V.1 i)), (4, .int ((sumN (fun a => vS V.1 (nI a) 5) i) + (vS V.1 (nI i) 5))), (3, .int (greA V.1 (i + 1))), (0, .ref γ), (1, .int ((sumN (hasA V.1) i) + 0)), (2, .int ((sumN (losA V.1) i) + 0)), (6, .int 1), (7, .int (nI i)), (8, .int (vS V.1 (nI i) 3)), (9, .int 0), (10, .int 0)]) hx hb dL_isWell_161 hl (by decide) rfl (fun ls hl => ?_)
        refine lv_iload hx hb dL_isWell_163 (lv_at hl 6 rfl) ?_
        refine lv_if_eq (tgt := 280) hx hb dL_isWell_165 (by decide) (fun h9 : (1 : Int32) = 0 => absurd h9 (show ¬ ((1 : Int32) = 0) from (by decide))) (fun _ => ?_)
        refine lv_iload hx hb dL_isWell_168 (lv_at hl 10 rfl) ?_
        refine lv_iload hx hb dL_isWell_170 (lv_at hl 9 rfl) ?_
        refine lv_if_eq (tgt := 189) hx hb dL_isWell_172 (by decide) (fun _ => ?_) (fun h9 : ¬ ((0 : Int32) = 0) => absurd (show (0 : Int32) = 0 from (by decide)) h9)
        refine lv_iconst (v := 0) hx hb dL_isWell_189 (by decide) ?_
        refine lv_icmp_ne (tgt := 280) hx hb dL_isWell_190 (by decide) (fun h9 : ¬ ((0 : Int32) = 0) => absurd (show (0 : Int32) = 0 from (by decide)) h9) (fun _ => ?_)
        refine lv_iload hx hb dL_isWell_193 (lv_at hl 9 rfl) ?_
        refine lv_if_ne (tgt := 213) hx hb dL_isWell_195 (by decide) (fun h9 : ¬ ((0 : Int32) = 0) => absurd (show (0 : Int32) = 0 from (by decide)) h9) (fun _ => ?_)
        refine lv_iload hx hb dL_isWell_198 (lv_at hl 8 rfl) ?_
        refine lv_if_ne (tgt := 280) hx hb dL_isWell_200 (by decide) (fun h9 : ¬ ((vS V.1 (nI i) 3) = 0) => absurd (show (vS V.1 (nI i) 3) = 0 from hz3) h9) (fun _ => ?_)
        refine lv_aload_n hx hb dL_isWell_203 rfl (lv_at hl 3 rfl) ?_
        refine lv_iload hx hb dL_isWell_204 (lv_at hl 7 rfl) ?_
        refine lv_iconst (v := 4) hx hb dL_isWell_206 (by decide) ?_
        refine rdV (As := [.int (nI i), .int 4]) (rest := []) (o_sector l hI (nI i) 4) hF (cwV 2 hts gL_isWell_X4_sector rfl rfl rfl (by decide +kernel) ⟨Nat.le_of_ble_eq_true rfl, Nat.le_of_ble_eq_true rfl⟩) (hI.recv hK hP) hK hP rfl hl.1 rfl (Nat.le_of_ble_eq_true rfl) dL_isWell_207 ⟨Nat.le_of_ble_eq_true rfl, Nat.le_of_ble_eq_true rfl⟩ ?_
        refine lv_if_ne (tgt := 280) hx hb dL_isWell_210 (by decide) (fun h9 : ¬ ((vS V.1 (nI i) 4) = 0) => absurd (show (vS V.1 (nI i) 4) = 0 from hz4) h9) (fun _ => ?_)
        refine lv_aload_n hx hb dL_isWell_213 rfl (lv_at hl 3 rfl) ?_
        refine lv_iload hx hb dL_isWell_214 (lv_at hl 7 rfl) ?_
        refine lv_iconst (v := 5) hx hb dL_isWell_216 (by decide) ?_
        refine rdV (As := [.int (nI i), .int 5]) (rest := []) (o_sector l hI (nI i) 5) hF (cwV 2 hts gL_isWell_X4_sector rfl rfl rfl (by decide +kernel) ⟨Nat.le_of_ble_eq_true rfl, Nat.le_of_ble_eq_true rfl⟩) (hI.recv hK hP) hK hP rfl hl.1 rfl (Nat.le_of_ble_eq_true rfl) dL_isWell_217 ⟨Nat.le_of_ble_eq_true rfl, Nat.le_of_ble_eq_true rfl⟩ ?_
        refine lv_iconst (v := 1) hx hb dL_isWell_220 (by decide) ?_
        refine lv_icmp_ne (tgt := 239) hx hb dL_isWell_221 (by decide) (fun (c3 : ¬ ((vS V.1 (nI i) 5) = 1)) => ?_) (fun (c3 : (vS V.1 (nI i) 5) = 1) => ?_)
        · skip
          refine lv_aload_n hx hb dL_isWell_239 rfl (lv_at hl 3 rfl) ?_
          refine lv_iload hx hb dL_isWell_240 (lv_at hl 7 rfl) ?_
          refine lv_iconst (v := 0) hx hb dL_isWell_242 (by decide) ?_
          refine rdV (As := [.int (nI i), .int 0]) (rest := []) (o_sector l hI (nI i) 0) hF (cwV 2 hts gL_isWell_X4_sector rfl rfl rfl (by decide +kernel) ⟨Nat.le_of_ble_eq_true rfl, Nat.le_of_ble_eq_true rfl⟩) (hI.recv hK hP) hK hP rfl hl.1 rfl (Nat.le_of_ble_eq_true rfl) dL_isWell_243 ⟨Nat.le_of_ble_eq_true rfl, Nat.le_of_ble_eq_true rfl⟩ ?_
          refine lv_iload hx hb dL_isWell_246 (lv_at hl 7 rfl) ?_
          refine lv_bipush (v := 12) hx hb dL_isWell_248 (by decide) ?_
          refine lv_idiv hx hb dL_isWell_250 (by decide) ?_
          refine lv_icmp_ne (tgt := 280) hx hb dL_isWell_251 (by decide) (fun h9 : ¬ ((vS V.1 (nI i) 0) = ((nI i) / 12)) => absurd (show (vS V.1 (nI i) 0) = ((nI i) / 12) from (hns c3).1) h9) (fun _ => ?_)
          refine lv_aload_n hx hb dL_isWell_254 rfl (lv_at hl 3 rfl) ?_
          refine lv_iload hx hb dL_isWell_255 (lv_at hl 7 rfl) ?_
          refine lv_iconst (v := 1) hx hb dL_isWell_257 (by decide) ?_
          refine rdV (As := [.int (nI i), .int 1]) (rest := []) (o_sector l hI (nI i) 1) hF (cwV 2 hts gL_isWell_X4_sector rfl rfl rfl (by decide +kernel) ⟨Nat.le_of_ble_eq_true rfl, Nat.le_of_ble_eq_true rfl⟩) (hI.recv hK hP) hK hP rfl hl.1 rfl (Nat.le_of_ble_eq_true rfl) dL_isWell_258 ⟨Nat.le_of_ble_eq_true rfl, Nat.le_of_ble_eq_true rfl⟩ ?_
          refine lv_iload hx hb dL_isWell_261 (lv_at hl 7 rfl) ?_
          refine lv_bipush (v := 12) hx hb dL_isWell_263 (by decide) ?_
          refine lv_irem hx hb dL_isWell_265 (by decide) ?_
          refine lv_icmp_ne (tgt := 280) hx hb dL_isWell_266 (by decide) (fun h9 : ¬ ((vS V.1 (nI i) 1) = (jrem (nI i) 12)) => absurd (show (vS V.1 (nI i) 1) = (jrem (nI i) 12) from (hns c3).2) h9) (fun _ => ?_)
          refine lv_iload hx hb dL_isWell_269 (lv_at hl 8 rfl) ?_
          refine lv_bipush (v := 99) hx hb dL_isWell_271 (by decide) ?_
          refine lv_icmp_gt (tgt := 280) hx hb dL_isWell_273 (by decide) (fun h9 : (99 : Int32) < (vS V.1 (nI i) 3) => absurd h9 (show ¬ ((99 : Int32) < (vS V.1 (nI i) 3)) from h99)) (fun _ => ?_)
          refine lv_iconst (v := 1) hx hb dL_isWell_276 (by decide) ?_
          refine lv_goto (tgt := 281) hx hb dL_isWell_277 (by decide) ?_
          refine lv_istore (lv' := [(6, .int 1), (5, .int (worA V.1 i)), (4, .int ((sumN (fun a => vS V.1 (nI a) 5) i) + (vS V.1 (nI i) 5))), (3, .int (greA V.1 (i + 1))), (0, .ref γ), (1, .int ((sumN (hasA V.1) i) + 0)), (2, .int ((sumN (losA V.1) i) + 0)), (7, .int (nI i)), (8, .int (vS V.1 (nI i) 3)), (9, .int 0), (10, .int 0)]) hx hb dL_isWell_281 hl (by decide) rfl (fun ls hl => ?_)
          refine lv_iinc (v := (nI (i + 1))) (lv' := [(7, .int (nI (i + 1))), (6, .int 1), (5, .int (worA V.1 i)), (4, .int ((sumN (fun a => vS V.1 (nI a) 5) i) + (vS V.1 (nI i) 5))), (3, .int (greA V.1 (i + 1))), (0, .ref γ), (1, .int ((sumN (hasA V.1) i) + 0)), (2, .int ((sumN (losA V.1) i) + 0)), (8, .int (vS V.1 (nI i) 3)), (9, .int 0), (10, .int 0)]) hx hb dL_isWell_283 hl (k := 7) rfl (nI_1 i) (by decide) rfl (fun ls hl => ?_)
          refine lv_goto (tgt := 19) hx hb dL_isWell_286 (by decide) ?_
          have e1 : ((sumN (hasA V.1) i) + 0) = (sumN (hasA V.1) (i + 1)) := by show _ = sumN (hasA V.1) i + hasA V.1 i; rw [show hasA V.1 i = 0 from if_pos hn]
          have e2 : ((sumN (losA V.1) i) + 0) = (sumN (losA V.1) (i + 1)) := by show _ = sumN (losA V.1) i + losA V.1 i; rw [show losA V.1 i = 0 from if_pos hn]
          have e4 : ((sumN (fun a => vS V.1 (nI a) 5) i) + (vS V.1 (nI i) 5)) = (sumN (fun a => vS V.1 (nI a) 5) (i + 1)) := rfl
          have e5 : (worA V.1 i) = (worA V.1 (i + 1)) := (if_neg h6).symm
          rw [e1, e2, e4, e5] at hl
          exact ih (i + 1) ls (by omega) (lv_sub hl [5, 6, 7, 4, 3, 2, 1, 0] rfl)
        · skip
          refine lv_aload_n hx hb dL_isWell_224 rfl (lv_at hl 3 rfl) ?_
          refine lv_iload hx hb dL_isWell_225 (lv_at hl 7 rfl) ?_
          refine lv_iconst (v := 0) hx hb dL_isWell_227 (by decide) ?_
          refine rdV (As := [.int (nI i), .int 0]) (rest := []) (o_sector l hI (nI i) 0) hF (cwV 2 hts gL_isWell_X4_sector rfl rfl rfl (by decide +kernel) ⟨Nat.le_of_ble_eq_true rfl, Nat.le_of_ble_eq_true rfl⟩) (hI.recv hK hP) hK hP rfl hl.1 rfl (Nat.le_of_ble_eq_true rfl) dL_isWell_228 ⟨Nat.le_of_ble_eq_true rfl, Nat.le_of_ble_eq_true rfl⟩ ?_
          refine lv_bipush (v := 16) hx hb dL_isWell_231 (by decide) ?_
          refine lv_icmp_ne (tgt := 280) hx hb dL_isWell_233 (by decide) (fun h9 : ¬ ((vS V.1 (nI i) 0) = 16) => absurd (show (vS V.1 (nI i) 0) = 16 from (hsp c3)) h9) (fun _ => ?_)
          refine lv_goto (tgt := 269) hx hb dL_isWell_236 (by decide) ?_
          refine lv_iload hx hb dL_isWell_269 (lv_at hl 8 rfl) ?_
          refine lv_bipush (v := 99) hx hb dL_isWell_271 (by decide) ?_
          refine lv_icmp_gt (tgt := 280) hx hb dL_isWell_273 (by decide) (fun h9 : (99 : Int32) < (vS V.1 (nI i) 3) => absurd h9 (show ¬ ((99 : Int32) < (vS V.1 (nI i) 3)) from h99)) (fun _ => ?_)
          refine lv_iconst (v := 1) hx hb dL_isWell_276 (by decide) ?_
          refine lv_goto (tgt := 281) hx hb dL_isWell_277 (by decide) ?_
          refine lv_istore (lv' := [(6, .int 1), (5, .int (worA V.1 i)), (4, .int ((sumN (fun a => vS V.1 (nI a) 5) i) + (vS V.1 (nI i) 5))), (3, .int (greA V.1 (i + 1))), (0, .ref γ), (1, .int ((sumN (hasA V.1) i) + 0)), (2, .int ((sumN (losA V.1) i) + 0)), (7, .int (nI i)), (8, .int (vS V.1 (nI i) 3)), (9, .int 0), (10, .int 0)]) hx hb dL_isWell_281 hl (by decide) rfl (fun ls hl => ?_)
          refine lv_iinc (v := (nI (i + 1))) (lv' := [(7, .int (nI (i + 1))), (6, .int 1), (5, .int (worA V.1 i)), (4, .int ((sumN (fun a => vS V.1 (nI a) 5) i) + (vS V.1 (nI i) 5))), (3, .int (greA V.1 (i + 1))), (0, .ref γ), (1, .int ((sumN (hasA V.1) i) + 0)), (2, .int ((sumN (losA V.1) i) + 0)), (8, .int (vS V.1 (nI i) 3)), (9, .int 0), (10, .int 0)]) hx hb dL_isWell_283 hl (k := 7) rfl (nI_1 i) (by decide) rfl (fun ls hl => ?_)
          refine lv_goto (tgt := 19) hx hb dL_isWell_286 (by decide) ?_
          have e1 : ((sumN (hasA V.1) i) + 0) = (sumN (hasA V.1) (i + 1)) := by show _ = sumN (hasA V.1) i + hasA V.1 i; rw [show hasA V.1 i = 0 from if_pos hn]
          have e2 : ((sumN (losA V.1) i) + 0) = (sumN (losA V.1) (i + 1)) := by show _ = sumN (losA V.1) i + losA V.1 i; rw [show losA V.1 i = 0 from if_pos hn]
          have e4 : ((sumN (fun a => vS V.1 (nI a) 5) i) + (vS V.1 (nI i) 5)) = (sumN (fun a => vS V.1 (nI a) 5) (i + 1)) := rfl
          have e5 : (worA V.1 i) = (worA V.1 (i + 1)) := (if_neg h6).symm
          rw [e1, e2, e4, e5] at hl
          exact ih (i + 1) ls (by omega) (lv_sub hl [5, 6, 7, 4, 3, 2, 1, 0] rfl)
      refine lv_icmp_le (tgt := 116) hx hb dL_isWell_108 (by decide) (fun (c1 : (vS V.1 (nI i) 3) ≤ (greA V.1 i)) => ?_) (fun (c1 : ¬ ((vS V.1 (nI i) 3) ≤ (greA V.1 i))) => ?_)
      · skip
        refine lv_iload_n hx hb dL_isWell_116 rfl (lv_at hl 6 rfl) ?_
        have k9 := K117_2 ls (lv_sub hl [5, 1, 0, 6, 7, 8, 9, 10, 4, 3, 2] rfl)
        rw [show (greA V.1 (i + 1)) = (greA V.1 i) from by rw [show (greA V.1 (i + 1)) = (if (vS V.1 (nI i) 3) ≤ (greA V.1 i) then (greA V.1 i) else (vS V.1 (nI i) 3)) from rfl, if_pos c1]] at k9
        exact k9
      · skip
        refine lv_iload hx hb dL_isWell_111 (lv_at hl 4 rfl) ?_
        refine lv_goto (tgt := 117) hx hb dL_isWell_113 (by decide) ?_
        have k9 := K117_2 ls (lv_sub hl [5, 1, 0, 6, 7, 8, 9, 10, 4, 3, 2] rfl)
        rw [show (greA V.1 (i + 1)) = (vS V.1 (nI i) 3) from by rw [show (greA V.1 (i + 1)) = (if (vS V.1 (nI i) 3) ≤ (greA V.1 i) then (greA V.1 i) else (vS V.1 (nI i) 3)) from rfl, if_neg c1]] at k9
        exact k9
    · by_cases h6 : vS V.1 (nI i) 6 = 1
      · have hlo : ¬ vC V.1 2 ≤ vS V.1 (nI i) 3 := by
          rw [vC2, f3]
          intro q
          rw [f6, if_neg (fun z => hn (f2.trans z)), if_pos q] at h6
          exact absurd h6 (by decide)
        refine lv_iload hx hb dL_isWell_19 (lv_at hl 7 rfl) ?_
        refine lv_sipush (v := 192) hx hb dL_isWell_21 (by decide) ?_
        refine lv_icmp_ge (tgt := 289) hx hb dL_isWell_24 (by decide) (fun h9 : (192 : Int32) ≤ (nI i) => absurd h9 (show ¬ ((192 : Int32) ≤ (nI i)) from nI_ge (b := 192) hi9 (by omega))) (fun _ => ?_)
        refine lv_aload_n hx hb dL_isWell_27 rfl (lv_at hl 0 rfl) ?_
        refine lv_iload hx hb dL_isWell_28 (lv_at hl 7 rfl) ?_
        refine lv_iconst (v := 3) hx hb dL_isWell_30 (by decide) ?_
        refine rdV (As := [.int (nI i), .int 3]) (rest := []) (o_sector l hI (nI i) 3) hF (cwV 2 hts gL_isWell_X4_sector rfl rfl rfl (by decide +kernel) ⟨Nat.le_of_ble_eq_true rfl, Nat.le_of_ble_eq_true rfl⟩) (hI.recv hK hP) hK hP rfl hl.1 rfl (Nat.le_of_ble_eq_true rfl) dL_isWell_31 ⟨Nat.le_of_ble_eq_true rfl, Nat.le_of_ble_eq_true rfl⟩ ?_
        refine lv_istore (lv' := [(8, .int (vS V.1 (nI i) 3)), (0, .ref γ), (1, .int (sumN (hasA V.1) i)), (2, .int (sumN (losA V.1) i)), (3, .int (greA V.1 i)), (4, .int (sumN (fun a => vS V.1 (nI a) 5) i)), (5, .int (worA V.1 i)), (6, .int 1), (7, .int (nI i))]) hx hb dL_isWell_34 hl (by decide) rfl (fun ls hl => ?_)
        refine lv_aload_n hx hb dL_isWell_36 rfl (lv_at hl 1 rfl) ?_
        refine lv_iload hx hb dL_isWell_37 (lv_at hl 8 rfl) ?_
        refine lv_iconst (v := 2) hx hb dL_isWell_39 (by decide) ?_
        refine rdV (As := [.int (nI i), .int 2]) (rest := []) (o_sector l hI (nI i) 2) hF (cwV 2 hts gL_isWell_X4_sector rfl rfl rfl (by decide +kernel) ⟨Nat.le_of_ble_eq_true rfl, Nat.le_of_ble_eq_true rfl⟩) (hI.recv hK hP) hK hP rfl hl.1 rfl (Nat.le_of_ble_eq_true rfl) dL_isWell_40 ⟨Nat.le_of_ble_eq_true rfl, Nat.le_of_ble_eq_true rfl⟩ ?_
        refine lv_bipush (v := (-6)) hx hb dL_isWell_43 (by decide) ?_
        refine lv_icmp_eq (tgt := 52) hx hb dL_isWell_45 (by decide) (fun h9 : (vS V.1 (nI i) 2) = (-6) => absurd h9 (show ¬ ((vS V.1 (nI i) 2) = (-6)) from hn)) (fun _ => ?_)
        refine lv_iconst (v := 1) hx hb dL_isWell_48 (by decide) ?_
        refine lv_goto (tgt := 53) hx hb dL_isWell_49 (by decide) ?_
        refine lv_istore (lv' := [(9, .int 1), (8, .int (vS V.1 (nI i) 3)), (0, .ref γ), (1, .int (sumN (hasA V.1) i)), (2, .int (sumN (losA V.1) i)), (3, .int (greA V.1 i)), (4, .int (sumN (fun a => vS V.1 (nI a) 5) i)), (5, .int (worA V.1 i)), (6, .int 1), (7, .int (nI i))]) hx hb dL_isWell_53 hl (by decide) rfl (fun ls hl => ?_)
        refine lv_aload_n hx hb dL_isWell_55 rfl (lv_at hl 2 rfl) ?_
        refine lv_iload hx hb dL_isWell_56 (lv_at hl 9 rfl) ?_
        refine lv_bipush (v := 6) hx hb dL_isWell_58 (by decide) ?_
        refine rdV (As := [.int (nI i), .int 6]) (rest := []) (o_sector l hI (nI i) 6) hF (cwV 2 hts gL_isWell_X4_sector rfl rfl rfl (by decide +kernel) ⟨Nat.le_of_ble_eq_true rfl, Nat.le_of_ble_eq_true rfl⟩) (hI.recv hK hP) hK hP rfl hl.1 rfl (Nat.le_of_ble_eq_true rfl) dL_isWell_60 ⟨Nat.le_of_ble_eq_true rfl, Nat.le_of_ble_eq_true rfl⟩ ?_
        refine lv_iconst (v := 1) hx hb dL_isWell_63 (by decide) ?_
        refine lv_icmp_ne (tgt := 71) hx hb dL_isWell_64 (by decide) (fun h9 : ¬ ((vS V.1 (nI i) 6) = 1) => absurd (show (vS V.1 (nI i) 6) = 1 from h6) h9) (fun _ => ?_)
        refine lv_iconst (v := 1) hx hb dL_isWell_67 (by decide) ?_
        refine lv_goto (tgt := 72) hx hb dL_isWell_68 (by decide) ?_
        refine lv_istore (lv' := [(10, .int 1), (9, .int 1), (8, .int (vS V.1 (nI i) 3)), (0, .ref γ), (1, .int (sumN (hasA V.1) i)), (2, .int (sumN (losA V.1) i)), (3, .int (greA V.1 i)), (4, .int (sumN (fun a => vS V.1 (nI a) 5) i)), (5, .int (worA V.1 i)), (6, .int 1), (7, .int (nI i))]) hx hb dL_isWell_72 hl (by decide) rfl (fun ls hl => ?_)
        refine lv_iload_n hx hb dL_isWell_74 rfl (lv_at hl 4 rfl) ?_
        refine lv_iload hx hb dL_isWell_75 (lv_at hl 1 rfl) ?_
        refine lv_if_eq (tgt := 84) hx hb dL_isWell_77 (by decide) (fun h9 : (1 : Int32) = 0 => absurd h9 (show ¬ ((1 : Int32) = 0) from (by decide))) (fun _ => ?_)
        refine lv_iconst (v := 1) hx hb dL_isWell_80 (by decide) ?_
        refine lv_goto (tgt := 85) hx hb dL_isWell_81 (by decide) ?_
        refine lv_iadd hx hb dL_isWell_85 ?_
        refine lv_istore_n (lv' := [(1, .int ((sumN (hasA V.1) i) + 1)), (10, .int 1), (9, .int 1), (8, .int (vS V.1 (nI i) 3)), (0, .ref γ), (2, .int (sumN (losA V.1) i)), (3, .int (greA V.1 i)), (4, .int (sumN (fun a => vS V.1 (nI a) 5) i)), (5, .int (worA V.1 i)), (6, .int 1), (7, .int (nI i))]) hx hb dL_isWell_86 rfl hl (by decide) rfl (fun ls hl => ?_)
        refine lv_iload_n hx hb dL_isWell_87 rfl (lv_at hl 5 rfl) ?_
        refine lv_iload hx hb dL_isWell_88 (lv_at hl 2 rfl) ?_
        refine lv_if_eq (tgt := 102) hx hb dL_isWell_90 (by decide) (fun h9 : (1 : Int32) = 0 => absurd h9 (show ¬ ((1 : Int32) = 0) from (by decide))) (fun _ => ?_)
        refine lv_iload hx hb dL_isWell_93 (lv_at hl 1 rfl) ?_
        refine lv_if_ne (tgt := 102) hx hb dL_isWell_95 (by decide) (fun _ => ?_) (fun h9 : (1 : Int32) = 0 => absurd h9 (show ¬ ((1 : Int32) = 0) from (by decide)))
        refine lv_iconst (v := 0) hx hb dL_isWell_102 (by decide) ?_
        refine lv_iadd hx hb dL_isWell_103 ?_
        refine lv_istore_n (lv' := [(2, .int ((sumN (losA V.1) i) + 0)), (1, .int ((sumN (hasA V.1) i) + 1)), (10, .int 1), (9, .int 1), (8, .int (vS V.1 (nI i) 3)), (0, .ref γ), (3, .int (greA V.1 i)), (4, .int (sumN (fun a => vS V.1 (nI a) 5) i)), (5, .int (worA V.1 i)), (6, .int 1), (7, .int (nI i))]) hx hb dL_isWell_104 rfl hl (by decide) rfl (fun ls hl => ?_)
        refine lv_iload hx hb dL_isWell_105 (lv_at hl 4 rfl) ?_
        refine lv_iload_n hx hb dL_isWell_107 rfl (lv_at hl 6 rfl) ?_
        have K117_2 : ∀ ls : Array Slot, lv_has ls 12 [(0, .ref γ), (1, .int ((sumN (hasA V.1) i) + 1)), (2, .int ((sumN (losA V.1) i) + 0)), (3, .int (greA V.1 i)), (4, .int (sumN (fun a => vS V.1 (nI a) 5) i)), (5, .int (worA V.1 i)), (6, .int 1), (7, .int (nI i)), (8, .int (vS V.1 (nI i) 3)), (9, .int 1), (10, .int 1)] → W p l e (headSpec wsL_isWell (rmm 5 112)).room s m ([.ref γ] : List Value).toArray below meth c s.heap [] (0) (0) Q (F0 m 117 ls [.int (greA V.1 (i + 1))]) := by
          intro ls hl
          refine lv_istore_n (lv' := [(3, .int (greA V.1 (i + 1))), (0, .ref γ), (1, .int ((sumN (hasA V.1) i) + 1)), (2, .int ((sumN (losA V.1) i) + 0)), (4, .int (sumN (fun a => vS V.1 (nI a) 5) i)), (5, .int (worA V.1 i)), (6, .int 1), (7, .int (nI i)), (8, .int (vS V.1 (nI i) 3)), (9, .int 1), (10, .int 1)]) hx hb dL_isWell_117 rfl hl (by decide) rfl (fun ls hl => ?_)
          refine lv_iload hx hb dL_isWell_118 (lv_at hl 4 rfl) ?_
          refine lv_aload_n hx hb dL_isWell_120 rfl (lv_at hl 1 rfl) ?_
          refine lv_iload hx hb dL_isWell_121 (lv_at hl 7 rfl) ?_
          refine lv_iconst (v := 5) hx hb dL_isWell_123 (by decide) ?_
          refine rdV (As := [.int (nI i), .int 5]) (rest := [.int (sumN (fun a => vS V.1 (nI a) 5) i)]) (o_sector l hI (nI i) 5) hF (cwV 2 hts gL_isWell_X4_sector rfl rfl rfl (by decide +kernel) ⟨Nat.le_of_ble_eq_true rfl, Nat.le_of_ble_eq_true rfl⟩) (hI.recv hK hP) hK hP rfl hl.1 rfl (Nat.le_of_ble_eq_true rfl) dL_isWell_124 ⟨Nat.le_of_ble_eq_true rfl, Nat.le_of_ble_eq_true rfl⟩ ?_
          refine lv_iadd hx hb dL_isWell_127 ?_
          refine lv_istore (lv' := [(4, .int ((sumN (fun a => vS V.1 (nI a) 5) i) + (vS V.1 (nI i) 5))), (3, .int (greA V.1 (i + 1))), (0, .ref γ), (1, .int ((sumN (hasA V.1) i) + 1)), (2, .int ((sumN (losA V.1) i) + 0)), (5, .int (worA V.1 i)), (6, .int 1), (7, .int (nI i)), (8, .int (vS V.1 (nI i) 3)), (9, .int 1), (10, .int 1)]) hx hb dL_isWell_128 hl (by decide) rfl (fun ls hl => ?_)
          refine lv_iload hx hb dL_isWell_130 (lv_at hl 10 rfl) ?_
          refine lv_if_eq (tgt := 159) hx hb dL_isWell_132 (by decide) (fun h9 : (1 : Int32) = 0 => absurd h9 (show ¬ ((1 : Int32) = 0) from (by decide))) (fun _ => ?_)
          refine lv_iload hx hb dL_isWell_135 (lv_at hl 5 rfl) ?_
          refine lv_bipush (v := (-6)) hx hb dL_isWell_137 (by decide) ?_
          have K161_5 : ∀ ls : Array Slot, lv_has ls 12 [(0, .ref γ), (1, .int ((sumN (hasA V.1) i) + 1)), (2, .int ((sumN (losA V.1) i) + 0)), (3, .int (greA V.1 (i + 1))), (4, .int ((sumN (fun a => vS V.1 (nI a) 5) i) + (vS V.1 (nI i) 5))), (5, .int (worA V.1 i)), (6, .int 1), (7, .int (nI i)), (8, .int (vS V.1 (nI i) 3)), (9, .int 1), (10, .int 1)] → W p l e (headSpec wsL_isWell (rmm 5 112)).room s m ([.ref γ] : List Value).toArray below meth c s.heap [] (0) (0) Q (F0 m 161 ls [.int (worA V.1 (i + 1))]) := by
            intro ls hl
            refine lv_istore (lv' := [(5, .int (worA V.1 (i + 1))), (0, .ref γ), (1, .int ((sumN (hasA V.1) i) + 1)), (2, .int ((sumN (losA V.1) i) + 0)), (3, .int (greA V.1 (i + 1))), (4, .int ((sumN (fun a => vS V.1 (nI a) 5) i) + (vS V.1 (nI i) 5))), (6, .int 1), (7, .int (nI i)), (8, .int (vS V.1 (nI i) 3)), (9, .int 1), (10, .int 1)]) hx hb dL_isWell_161 hl (by decide) rfl (fun ls hl => ?_)
            refine lv_iload hx hb dL_isWell_163 (lv_at hl 6 rfl) ?_
            refine lv_if_eq (tgt := 280) hx hb dL_isWell_165 (by decide) (fun h9 : (1 : Int32) = 0 => absurd h9 (show ¬ ((1 : Int32) = 0) from (by decide))) (fun _ => ?_)
            refine lv_iload hx hb dL_isWell_168 (lv_at hl 10 rfl) ?_
            refine lv_iload hx hb dL_isWell_170 (lv_at hl 9 rfl) ?_
            refine lv_if_eq (tgt := 189) hx hb dL_isWell_172 (by decide) (fun h9 : (1 : Int32) = 0 => absurd h9 (show ¬ ((1 : Int32) = 0) from (by decide))) (fun _ => ?_)
            refine lv_iload hx hb dL_isWell_175 (lv_at hl 8 rfl) ?_
            refine lv_aload_n hx hb dL_isWell_177 rfl (lv_at hl 1 rfl) ?_
            refine lv_iconst (v := 2) hx hb dL_isWell_178 (by decide) ?_
            refine rdTV (As := [.int 2]) (rest := [.int (vS V.1 (nI i) 3), .int 1]) (o_count l tb hI 2 (by decide) (by decide)) hF (cwV 1 hts gL_isWell_X4_count rfl rfl rfl (by decide +kernel) ⟨Nat.le_of_ble_eq_true rfl, Nat.le_of_ble_eq_true rfl⟩) (hI.recv hK hP) hK hP hT hS rfl hl.1 rfl (Nat.le_of_ble_eq_true rfl) dL_isWell_179 ⟨Nat.le_of_ble_eq_true rfl, Nat.le_of_ble_eq_true rfl⟩ ?_
            refine lv_icmp_ge (tgt := 189) hx hb dL_isWell_182 (by decide) (fun h9 : (vC V.1 2) ≤ (vS V.1 (nI i) 3) => absurd h9 (show ¬ ((vC V.1 2) ≤ (vS V.1 (nI i) 3)) from hlo)) (fun _ => ?_)
            refine lv_iconst (v := 1) hx hb dL_isWell_185 (by decide) ?_
            refine lv_goto (tgt := 190) hx hb dL_isWell_186 (by decide) ?_
            refine lv_icmp_ne (tgt := 280) hx hb dL_isWell_190 (by decide) (fun h9 : ¬ ((1 : Int32) = 1) => absurd (show (1 : Int32) = 1 from (by decide)) h9) (fun _ => ?_)
            refine lv_iload hx hb dL_isWell_193 (lv_at hl 9 rfl) ?_
            refine lv_if_ne (tgt := 213) hx hb dL_isWell_195 (by decide) (fun _ => ?_) (fun h9 : (1 : Int32) = 0 => absurd h9 (show ¬ ((1 : Int32) = 0) from (by decide)))
            refine lv_aload_n hx hb dL_isWell_213 rfl (lv_at hl 1 rfl) ?_
            refine lv_iload hx hb dL_isWell_214 (lv_at hl 7 rfl) ?_
            refine lv_iconst (v := 5) hx hb dL_isWell_216 (by decide) ?_
            refine rdV (As := [.int (nI i), .int 5]) (rest := []) (o_sector l hI (nI i) 5) hF (cwV 2 hts gL_isWell_X4_sector rfl rfl rfl (by decide +kernel) ⟨Nat.le_of_ble_eq_true rfl, Nat.le_of_ble_eq_true rfl⟩) (hI.recv hK hP) hK hP rfl hl.1 rfl (Nat.le_of_ble_eq_true rfl) dL_isWell_217 ⟨Nat.le_of_ble_eq_true rfl, Nat.le_of_ble_eq_true rfl⟩ ?_
            refine lv_iconst (v := 1) hx hb dL_isWell_220 (by decide) ?_
            refine lv_icmp_ne (tgt := 239) hx hb dL_isWell_221 (by decide) (fun (c6 : ¬ ((vS V.1 (nI i) 5) = 1)) => ?_) (fun (c6 : (vS V.1 (nI i) 5) = 1) => ?_)
            · skip
              refine lv_aload_n hx hb dL_isWell_239 rfl (lv_at hl 1 rfl) ?_
              refine lv_iload hx hb dL_isWell_240 (lv_at hl 7 rfl) ?_
              refine lv_iconst (v := 0) hx hb dL_isWell_242 (by decide) ?_
              refine rdV (As := [.int (nI i), .int 0]) (rest := []) (o_sector l hI (nI i) 0) hF (cwV 2 hts gL_isWell_X4_sector rfl rfl rfl (by decide +kernel) ⟨Nat.le_of_ble_eq_true rfl, Nat.le_of_ble_eq_true rfl⟩) (hI.recv hK hP) hK hP rfl hl.1 rfl (Nat.le_of_ble_eq_true rfl) dL_isWell_243 ⟨Nat.le_of_ble_eq_true rfl, Nat.le_of_ble_eq_true rfl⟩ ?_
              refine lv_iload hx hb dL_isWell_246 (lv_at hl 7 rfl) ?_
              refine lv_bipush (v := 12) hx hb dL_isWell_248 (by decide) ?_
              refine lv_idiv hx hb dL_isWell_250 (by decide) ?_
              refine lv_icmp_ne (tgt := 280) hx hb dL_isWell_251 (by decide) (fun h9 : ¬ ((vS V.1 (nI i) 0) = ((nI i) / 12)) => absurd (show (vS V.1 (nI i) 0) = ((nI i) / 12) from (hns c6).1) h9) (fun _ => ?_)
              refine lv_aload_n hx hb dL_isWell_254 rfl (lv_at hl 1 rfl) ?_
              refine lv_iload hx hb dL_isWell_255 (lv_at hl 7 rfl) ?_
              refine lv_iconst (v := 1) hx hb dL_isWell_257 (by decide) ?_
              refine rdV (As := [.int (nI i), .int 1]) (rest := []) (o_sector l hI (nI i) 1) hF (cwV 2 hts gL_isWell_X4_sector rfl rfl rfl (by decide +kernel) ⟨Nat.le_of_ble_eq_true rfl, Nat.le_of_ble_eq_true rfl⟩) (hI.recv hK hP) hK hP rfl hl.1 rfl (Nat.le_of_ble_eq_true rfl) dL_isWell_258 ⟨Nat.le_of_ble_eq_true rfl, Nat.le_of_ble_eq_true rfl⟩ ?_
              refine lv_iload hx hb dL_isWell_261 (lv_at hl 7 rfl) ?_
              refine lv_bipush (v := 12) hx hb dL_isWell_263 (by decide) ?_
              refine lv_irem hx hb dL_isWell_265 (by decide) ?_
              refine lv_icmp_ne (tgt := 280) hx hb dL_isWell_266 (by decide) (fun h9 : ¬ ((vS V.1 (nI i) 1) = (jrem (nI i) 12)) => absurd (show (vS V.1 (nI i) 1) = (jrem (nI i) 12) from (hns c6).2) h9) (fun _ => ?_)
              refine lv_iload hx hb dL_isWell_269 (lv_at hl 8 rfl) ?_
              refine lv_bipush (v := 99) hx hb dL_isWell_271 (by decide) ?_
              refine lv_icmp_gt (tgt := 280) hx hb dL_isWell_273 (by decide) (fun h9 : (99 : Int32) < (vS V.1 (nI i) 3) => absurd h9 (show ¬ ((99 : Int32) < (vS V.1 (nI i) 3)) from h99)) (fun _ => ?_)
              refine lv_iconst (v := 1) hx hb dL_isWell_276 (by decide) ?_
              refine lv_goto (tgt := 281) hx hb dL_isWell_277 (by decide) ?_
              refine lv_istore (lv' := [(6, .int 1), (5, .int (worA V.1 (i + 1))), (0, .ref γ), (1, .int ((sumN (hasA V.1) i) + 1)), (2, .int ((sumN (losA V.1) i) + 0)), (3, .int (greA V.1 (i + 1))), (4, .int ((sumN (fun a => vS V.1 (nI a) 5) i) + (vS V.1 (nI i) 5))), (7, .int (nI i)), (8, .int (vS V.1 (nI i) 3)), (9, .int 1), (10, .int 1)]) hx hb dL_isWell_281 hl (by decide) rfl (fun ls hl => ?_)
              refine lv_iinc (v := (nI (i + 1))) (lv' := [(7, .int (nI (i + 1))), (6, .int 1), (5, .int (worA V.1 (i + 1))), (0, .ref γ), (1, .int ((sumN (hasA V.1) i) + 1)), (2, .int ((sumN (losA V.1) i) + 0)), (3, .int (greA V.1 (i + 1))), (4, .int ((sumN (fun a => vS V.1 (nI a) 5) i) + (vS V.1 (nI i) 5))), (8, .int (vS V.1 (nI i) 3)), (9, .int 1), (10, .int 1)]) hx hb dL_isWell_283 hl (k := 7) rfl (nI_1 i) (by decide) rfl (fun ls hl => ?_)
              refine lv_goto (tgt := 19) hx hb dL_isWell_286 (by decide) ?_
              have e1 : ((sumN (hasA V.1) i) + 1) = (sumN (hasA V.1) (i + 1)) := by show _ = sumN (hasA V.1) i + hasA V.1 i; rw [show hasA V.1 i = 1 from if_neg hn]
              have e2 : ((sumN (losA V.1) i) + 0) = (sumN (losA V.1) (i + 1)) := by show _ = sumN (losA V.1) i + losA V.1 i; rw [show losA V.1 i = 0 from (if_neg hn).trans (if_pos h6)]
              have e4 : ((sumN (fun a => vS V.1 (nI a) 5) i) + (vS V.1 (nI i) 5)) = (sumN (fun a => vS V.1 (nI a) 5) (i + 1)) := rfl
              rw [e1, e2, e4] at hl
              exact ih (i + 1) ls (by omega) (lv_sub hl [3, 4, 5, 6, 7, 2, 1, 0] rfl)
            · skip
              refine lv_aload_n hx hb dL_isWell_224 rfl (lv_at hl 1 rfl) ?_
              refine lv_iload hx hb dL_isWell_225 (lv_at hl 7 rfl) ?_
              refine lv_iconst (v := 0) hx hb dL_isWell_227 (by decide) ?_
              refine rdV (As := [.int (nI i), .int 0]) (rest := []) (o_sector l hI (nI i) 0) hF (cwV 2 hts gL_isWell_X4_sector rfl rfl rfl (by decide +kernel) ⟨Nat.le_of_ble_eq_true rfl, Nat.le_of_ble_eq_true rfl⟩) (hI.recv hK hP) hK hP rfl hl.1 rfl (Nat.le_of_ble_eq_true rfl) dL_isWell_228 ⟨Nat.le_of_ble_eq_true rfl, Nat.le_of_ble_eq_true rfl⟩ ?_
              refine lv_bipush (v := 16) hx hb dL_isWell_231 (by decide) ?_
              refine lv_icmp_ne (tgt := 280) hx hb dL_isWell_233 (by decide) (fun h9 : ¬ ((vS V.1 (nI i) 0) = 16) => absurd (show (vS V.1 (nI i) 0) = 16 from (hsp c6)) h9) (fun _ => ?_)
              refine lv_goto (tgt := 269) hx hb dL_isWell_236 (by decide) ?_
              refine lv_iload hx hb dL_isWell_269 (lv_at hl 8 rfl) ?_
              refine lv_bipush (v := 99) hx hb dL_isWell_271 (by decide) ?_
              refine lv_icmp_gt (tgt := 280) hx hb dL_isWell_273 (by decide) (fun h9 : (99 : Int32) < (vS V.1 (nI i) 3) => absurd h9 (show ¬ ((99 : Int32) < (vS V.1 (nI i) 3)) from h99)) (fun _ => ?_)
              refine lv_iconst (v := 1) hx hb dL_isWell_276 (by decide) ?_
              refine lv_goto (tgt := 281) hx hb dL_isWell_277 (by decide) ?_
              refine lv_istore (lv' := [(6, .int 1), (5, .int (worA V.1 (i + 1))), (0, .ref γ), (1, .int ((sumN (hasA V.1) i) + 1)), (2, .int ((sumN (losA V.1) i) + 0)), (3, .int (greA V.1 (i + 1))), (4, .int ((sumN (fun a => vS V.1 (nI a) 5) i) + (vS V.1 (nI i) 5))), (7, .int (nI i)), (8, .int (vS V.1 (nI i) 3)), (9, .int 1), (10, .int 1)]) hx hb dL_isWell_281 hl (by decide) rfl (fun ls hl => ?_)
              refine lv_iinc (v := (nI (i + 1))) (lv' := [(7, .int (nI (i + 1))), (6, .int 1), (5, .int (worA V.1 (i + 1))), (0, .ref γ), (1, .int ((sumN (hasA V.1) i) + 1)), (2, .int ((sumN (losA V.1) i) + 0)), (3, .int (greA V.1 (i + 1))), (4, .int ((sumN (fun a => vS V.1 (nI a) 5) i) + (vS V.1 (nI i) 5))), (8, .int (vS V.1 (nI i) 3)), (9, .int 1), (10, .int 1)]) hx hb dL_isWell_283 hl (k := 7) rfl (nI_1 i) (by decide) rfl (fun ls hl => ?_)
              refine lv_goto (tgt := 19) hx hb dL_isWell_286 (by decide) ?_
              have e1 : ((sumN (hasA V.1) i) + 1) = (sumN (hasA V.1) (i + 1)) := by show _ = sumN (hasA V.1) i + hasA V.1 i; rw [show hasA V.1 i = 1 from if_neg hn]
              have e2 : ((sumN (losA V.1) i) + 0) = (sumN (losA V.1) (i + 1)) := by show _ = sumN (losA V.1) i + losA V.1 i; rw [show losA V.1 i = 0 from (if_neg hn).trans (if_pos h6)]
              have e4 : ((sumN (fun a => vS V.1 (nI a) 5) i) + (vS V.1 (nI i) 5)) = (sumN (fun a => vS V.1 (nI a) 5) (i + 1)) := rfl
              rw [e1, e2, e4] at hl
              exact ih (i + 1) ls (by omega) (lv_sub hl [3, 4, 5, 6, 7, 2, 1, 0] rfl)
          refine lv_icmp_eq (tgt := 154) hx hb dL_isWell_139 (by decide) (fun (c3 : (worA V.1 i) = (-6)) => ?_) (fun (c3 : ¬ ((worA V.1 i) = (-6))) => ?_)
          · skip
            refine lv_iload hx hb dL_isWell_154 (lv_at hl 7 rfl) ?_
            refine lv_goto (tgt := 161) hx hb dL_isWell_156 (by decide) ?_
            have k9 := K161_5 ls (lv_sub hl [2, 3, 4, 1, 0, 5, 6, 7, 8, 9, 10] rfl)
            rw [show (worA V.1 (i + 1)) = (nI i) from by rw [show (worA V.1 (i + 1)) = (if (worA V.1 i) = (-6) then (nI i) else (if (vS V.1 (nI i) 3) ≤ (vS V.1 (worA V.1 i) 3) then (worA V.1 i) else (nI i))) from (if_pos h6), if_pos c3]] at k9
            exact k9
          · skip
            refine lv_iload hx hb dL_isWell_142 (lv_at hl 8 rfl) ?_
            refine lv_aload_n hx hb dL_isWell_144 rfl (lv_at hl 2 rfl) ?_
            refine lv_iload hx hb dL_isWell_145 (lv_at hl 5 rfl) ?_
            refine lv_iconst (v := 3) hx hb dL_isWell_147 (by decide) ?_
            refine rdV (As := [.int (worA V.1 i), .int 3]) (rest := [.int (vS V.1 (nI i) 3)]) (o_sector l hI (worA V.1 i) 3) hF (cwV 2 hts gL_isWell_X4_sector rfl rfl rfl (by decide +kernel) ⟨Nat.le_of_ble_eq_true rfl, Nat.le_of_ble_eq_true rfl⟩) (hI.recv hK hP) hK hP rfl hl.1 rfl (Nat.le_of_ble_eq_true rfl) dL_isWell_148 ⟨Nat.le_of_ble_eq_true rfl, Nat.le_of_ble_eq_true rfl⟩ ?_
            refine lv_icmp_le (tgt := 159) hx hb dL_isWell_151 (by decide) (fun (c4 : (vS V.1 (nI i) 3) ≤ (vS V.1 (worA V.1 i) 3)) => ?_) (fun (c4 : ¬ ((vS V.1 (nI i) 3) ≤ (vS V.1 (worA V.1 i) 3))) => ?_)
            · skip
              refine lv_iload hx hb dL_isWell_159 (lv_at hl 5 rfl) ?_
              have k9 := K161_5 ls (lv_sub hl [2, 3, 4, 1, 0, 5, 6, 7, 8, 9, 10] rfl)
              rw [show (worA V.1 (i + 1)) = (worA V.1 i) from by rw [show (worA V.1 (i + 1)) = (if (worA V.1 i) = (-6) then (nI i) else (if (vS V.1 (nI i) 3) ≤ (vS V.1 (worA V.1 i) 3) then (worA V.1 i) else (nI i))) from (if_pos h6), if_neg c3, if_pos c4]] at k9
              exact k9
            · skip
              refine lv_iload hx hb dL_isWell_154 (lv_at hl 7 rfl) ?_
              refine lv_goto (tgt := 161) hx hb dL_isWell_156 (by decide) ?_
              have k9 := K161_5 ls (lv_sub hl [2, 3, 4, 1, 0, 5, 6, 7, 8, 9, 10] rfl)
              rw [show (worA V.1 (i + 1)) = (nI i) from by rw [show (worA V.1 (i + 1)) = (if (worA V.1 i) = (-6) then (nI i) else (if (vS V.1 (nI i) 3) ≤ (vS V.1 (worA V.1 i) 3) then (worA V.1 i) else (nI i))) from (if_pos h6), if_neg c3, if_neg c4]] at k9
              exact k9
        refine lv_icmp_le (tgt := 116) hx hb dL_isWell_108 (by decide) (fun (c1 : (vS V.1 (nI i) 3) ≤ (greA V.1 i)) => ?_) (fun (c1 : ¬ ((vS V.1 (nI i) 3) ≤ (greA V.1 i))) => ?_)
        · skip
          refine lv_iload_n hx hb dL_isWell_116 rfl (lv_at hl 6 rfl) ?_
          have k9 := K117_2 ls (lv_sub hl [5, 1, 0, 6, 7, 8, 9, 10, 4, 3, 2] rfl)
          rw [show (greA V.1 (i + 1)) = (greA V.1 i) from by rw [show (greA V.1 (i + 1)) = (if (vS V.1 (nI i) 3) ≤ (greA V.1 i) then (greA V.1 i) else (vS V.1 (nI i) 3)) from rfl, if_pos c1]] at k9
          exact k9
        · skip
          refine lv_iload hx hb dL_isWell_111 (lv_at hl 4 rfl) ?_
          refine lv_goto (tgt := 117) hx hb dL_isWell_113 (by decide) ?_
          have k9 := K117_2 ls (lv_sub hl [5, 1, 0, 6, 7, 8, 9, 10, 4, 3, 2] rfl)
          rw [show (greA V.1 (i + 1)) = (vS V.1 (nI i) 3) from by rw [show (greA V.1 (i + 1)) = (if (vS V.1 (nI i) 3) ≤ (greA V.1 i) then (greA V.1 i) else (vS V.1 (nI i) 3)) from rfl, if_neg c1]] at k9
          exact k9
      · have hlo : vC V.1 2 ≤ vS V.1 (nI i) 3 := by
          rw [vC2, f3]
          refine Classical.byContradiction fun q => h6 ?_
          rw [f6, if_neg (fun z => hn (f2.trans z)), if_neg q]
        refine lv_iload hx hb dL_isWell_19 (lv_at hl 7 rfl) ?_
        refine lv_sipush (v := 192) hx hb dL_isWell_21 (by decide) ?_
        refine lv_icmp_ge (tgt := 289) hx hb dL_isWell_24 (by decide) (fun h9 : (192 : Int32) ≤ (nI i) => absurd h9 (show ¬ ((192 : Int32) ≤ (nI i)) from nI_ge (b := 192) hi9 (by omega))) (fun _ => ?_)
        refine lv_aload_n hx hb dL_isWell_27 rfl (lv_at hl 0 rfl) ?_
        refine lv_iload hx hb dL_isWell_28 (lv_at hl 7 rfl) ?_
        refine lv_iconst (v := 3) hx hb dL_isWell_30 (by decide) ?_
        refine rdV (As := [.int (nI i), .int 3]) (rest := []) (o_sector l hI (nI i) 3) hF (cwV 2 hts gL_isWell_X4_sector rfl rfl rfl (by decide +kernel) ⟨Nat.le_of_ble_eq_true rfl, Nat.le_of_ble_eq_true rfl⟩) (hI.recv hK hP) hK hP rfl hl.1 rfl (Nat.le_of_ble_eq_true rfl) dL_isWell_31 ⟨Nat.le_of_ble_eq_true rfl, Nat.le_of_ble_eq_true rfl⟩ ?_
        refine lv_istore (lv' := [(8, .int (vS V.1 (nI i) 3)), (0, .ref γ), (1, .int (sumN (hasA V.1) i)), (2, .int (sumN (losA V.1) i)), (3, .int (greA V.1 i)), (4, .int (sumN (fun a => vS V.1 (nI a) 5) i)), (5, .int (worA V.1 i)), (6, .int 1), (7, .int (nI i))]) hx hb dL_isWell_34 hl (by decide) rfl (fun ls hl => ?_)
        refine lv_aload_n hx hb dL_isWell_36 rfl (lv_at hl 1 rfl) ?_
        refine lv_iload hx hb dL_isWell_37 (lv_at hl 8 rfl) ?_
        refine lv_iconst (v := 2) hx hb dL_isWell_39 (by decide) ?_
        refine rdV (As := [.int (nI i), .int 2]) (rest := []) (o_sector l hI (nI i) 2) hF (cwV 2 hts gL_isWell_X4_sector rfl rfl rfl (by decide +kernel) ⟨Nat.le_of_ble_eq_true rfl, Nat.le_of_ble_eq_true rfl⟩) (hI.recv hK hP) hK hP rfl hl.1 rfl (Nat.le_of_ble_eq_true rfl) dL_isWell_40 ⟨Nat.le_of_ble_eq_true rfl, Nat.le_of_ble_eq_true rfl⟩ ?_
        refine lv_bipush (v := (-6)) hx hb dL_isWell_43 (by decide) ?_
        refine lv_icmp_eq (tgt := 52) hx hb dL_isWell_45 (by decide) (fun h9 : (vS V.1 (nI i) 2) = (-6) => absurd h9 (show ¬ ((vS V.1 (nI i) 2) = (-6)) from hn)) (fun _ => ?_)
        refine lv_iconst (v := 1) hx hb dL_isWell_48 (by decide) ?_
        refine lv_goto (tgt := 53) hx hb dL_isWell_49 (by decide) ?_
        refine lv_istore (lv' := [(9, .int 1), (8, .int (vS V.1 (nI i) 3)), (0, .ref γ), (1, .int (sumN (hasA V.1) i)), (2, .int (sumN (losA V.1) i)), (3, .int (greA V.1 i)), (4, .int (sumN (fun a => vS V.1 (nI a) 5) i)), (5, .int (worA V.1 i)), (6, .int 1), (7, .int (nI i))]) hx hb dL_isWell_53 hl (by decide) rfl (fun ls hl => ?_)
        refine lv_aload_n hx hb dL_isWell_55 rfl (lv_at hl 2 rfl) ?_
        refine lv_iload hx hb dL_isWell_56 (lv_at hl 9 rfl) ?_
        refine lv_bipush (v := 6) hx hb dL_isWell_58 (by decide) ?_
        refine rdV (As := [.int (nI i), .int 6]) (rest := []) (o_sector l hI (nI i) 6) hF (cwV 2 hts gL_isWell_X4_sector rfl rfl rfl (by decide +kernel) ⟨Nat.le_of_ble_eq_true rfl, Nat.le_of_ble_eq_true rfl⟩) (hI.recv hK hP) hK hP rfl hl.1 rfl (Nat.le_of_ble_eq_true rfl) dL_isWell_60 ⟨Nat.le_of_ble_eq_true rfl, Nat.le_of_ble_eq_true rfl⟩ ?_
        refine lv_iconst (v := 1) hx hb dL_isWell_63 (by decide) ?_
        refine lv_icmp_ne (tgt := 71) hx hb dL_isWell_64 (by decide) (fun _ => ?_) (fun h9 : (vS V.1 (nI i) 6) = 1 => absurd h9 (show ¬ ((vS V.1 (nI i) 6) = 1) from h6))
        refine lv_iconst (v := 0) hx hb dL_isWell_71 (by decide) ?_
        refine lv_istore (lv' := [(10, .int 0), (9, .int 1), (8, .int (vS V.1 (nI i) 3)), (0, .ref γ), (1, .int (sumN (hasA V.1) i)), (2, .int (sumN (losA V.1) i)), (3, .int (greA V.1 i)), (4, .int (sumN (fun a => vS V.1 (nI a) 5) i)), (5, .int (worA V.1 i)), (6, .int 1), (7, .int (nI i))]) hx hb dL_isWell_72 hl (by decide) rfl (fun ls hl => ?_)
        refine lv_iload_n hx hb dL_isWell_74 rfl (lv_at hl 4 rfl) ?_
        refine lv_iload hx hb dL_isWell_75 (lv_at hl 1 rfl) ?_
        refine lv_if_eq (tgt := 84) hx hb dL_isWell_77 (by decide) (fun h9 : (1 : Int32) = 0 => absurd h9 (show ¬ ((1 : Int32) = 0) from (by decide))) (fun _ => ?_)
        refine lv_iconst (v := 1) hx hb dL_isWell_80 (by decide) ?_
        refine lv_goto (tgt := 85) hx hb dL_isWell_81 (by decide) ?_
        refine lv_iadd hx hb dL_isWell_85 ?_
        refine lv_istore_n (lv' := [(1, .int ((sumN (hasA V.1) i) + 1)), (10, .int 0), (9, .int 1), (8, .int (vS V.1 (nI i) 3)), (0, .ref γ), (2, .int (sumN (losA V.1) i)), (3, .int (greA V.1 i)), (4, .int (sumN (fun a => vS V.1 (nI a) 5) i)), (5, .int (worA V.1 i)), (6, .int 1), (7, .int (nI i))]) hx hb dL_isWell_86 rfl hl (by decide) rfl (fun ls hl => ?_)
        refine lv_iload_n hx hb dL_isWell_87 rfl (lv_at hl 5 rfl) ?_
        refine lv_iload hx hb dL_isWell_88 (lv_at hl 2 rfl) ?_
        refine lv_if_eq (tgt := 102) hx hb dL_isWell_90 (by decide) (fun h9 : (1 : Int32) = 0 => absurd h9 (show ¬ ((1 : Int32) = 0) from (by decide))) (fun _ => ?_)
        refine lv_iload hx hb dL_isWell_93 (lv_at hl 1 rfl) ?_
        refine lv_if_ne (tgt := 102) hx hb dL_isWell_95 (by decide) (fun h9 : ¬ ((0 : Int32) = 0) => absurd (show (0 : Int32) = 0 from (by decide)) h9) (fun _ => ?_)
        refine lv_iconst (v := 1) hx hb dL_isWell_98 (by decide) ?_
        refine lv_goto (tgt := 103) hx hb dL_isWell_99 (by decide) ?_
        refine lv_iadd hx hb dL_isWell_103 ?_
        refine lv_istore_n (lv' := [(2, .int ((sumN (losA V.1) i) + 1)), (1, .int ((sumN (hasA V.1) i) + 1)), (10, .int 0), (9, .int 1), (8, .int (vS V.1 (nI i) 3)), (0, .ref γ), (3, .int (greA V.1 i)), (4, .int (sumN (fun a => vS V.1 (nI a) 5) i)), (5, .int (worA V.1 i)), (6, .int 1), (7, .int (nI i))]) hx hb dL_isWell_104 rfl hl (by decide) rfl (fun ls hl => ?_)
        refine lv_iload hx hb dL_isWell_105 (lv_at hl 4 rfl) ?_
        refine lv_iload_n hx hb dL_isWell_107 rfl (lv_at hl 6 rfl) ?_
        have K117_2 : ∀ ls : Array Slot, lv_has ls 12 [(0, .ref γ), (1, .int ((sumN (hasA V.1) i) + 1)), (2, .int ((sumN (losA V.1) i) + 1)), (3, .int (greA V.1 i)), (4, .int (sumN (fun a => vS V.1 (nI a) 5) i)), (5, .int (worA V.1 i)), (6, .int 1), (7, .int (nI i)), (8, .int (vS V.1 (nI i) 3)), (9, .int 1), (10, .int 0)] → W p l e (headSpec wsL_isWell (rmm 5 112)).room s m ([.ref γ] : List Value).toArray below meth c s.heap [] (0) (0) Q (F0 m 117 ls [.int (greA V.1 (i + 1))]) := by
          intro ls hl
          refine lv_istore_n (lv' := [(3, .int (greA V.1 (i + 1))), (0, .ref γ), (1, .int ((sumN (hasA V.1) i) + 1)), (2, .int ((sumN (losA V.1) i) + 1)), (4, .int (sumN (fun a => vS V.1 (nI a) 5) i)), (5, .int (worA V.1 i)), (6, .int 1), (7, .int (nI i)), (8, .int (vS V.1 (nI i) 3)), (9, .int 1), (10, .int 0)]) hx hb dL_isWell_117 rfl hl (by decide) rfl (fun ls hl => ?_)
          refine lv_iload hx hb dL_isWell_118 (lv_at hl 4 rfl) ?_
          refine lv_aload_n hx hb dL_isWell_120 rfl (lv_at hl 1 rfl) ?_
          refine lv_iload hx hb dL_isWell_121 (lv_at hl 7 rfl) ?_
          refine lv_iconst (v := 5) hx hb dL_isWell_123 (by decide) ?_
          refine rdV (As := [.int (nI i), .int 5]) (rest := [.int (sumN (fun a => vS V.1 (nI a) 5) i)]) (o_sector l hI (nI i) 5) hF (cwV 2 hts gL_isWell_X4_sector rfl rfl rfl (by decide +kernel) ⟨Nat.le_of_ble_eq_true rfl, Nat.le_of_ble_eq_true rfl⟩) (hI.recv hK hP) hK hP rfl hl.1 rfl (Nat.le_of_ble_eq_true rfl) dL_isWell_124 ⟨Nat.le_of_ble_eq_true rfl, Nat.le_of_ble_eq_true rfl⟩ ?_
          refine lv_iadd hx hb dL_isWell_127 ?_
          refine lv_istore (lv' := [(4, .int ((sumN (fun a => vS V.1 (nI a) 5) i) + (vS V.1 (nI i) 5))), (3, .int (greA V.1 (i + 1))), (0, .ref γ), (1, .int ((sumN (hasA V.1) i) + 1)), (2, .int ((sumN (losA V.1) i) + 1)), (5, .int (worA V.1 i)), (6, .int 1), (7, .int (nI i)), (8, .int (vS V.1 (nI i) 3)), (9, .int 1), (10, .int 0)]) hx hb dL_isWell_128 hl (by decide) rfl (fun ls hl => ?_)
          refine lv_iload hx hb dL_isWell_130 (lv_at hl 10 rfl) ?_
          refine lv_if_eq (tgt := 159) hx hb dL_isWell_132 (by decide) (fun _ => ?_) (fun h9 : ¬ ((0 : Int32) = 0) => absurd (show (0 : Int32) = 0 from (by decide)) h9)
          refine lv_iload hx hb dL_isWell_159 (lv_at hl 5 rfl) ?_
          refine lv_istore (lv' := [(5, .int (worA V.1 i)), (4, .int ((sumN (fun a => vS V.1 (nI a) 5) i) + (vS V.1 (nI i) 5))), (3, .int (greA V.1 (i + 1))), (0, .ref γ), (1, .int ((sumN (hasA V.1) i) + 1)), (2, .int ((sumN (losA V.1) i) + 1)), (6, .int 1), (7, .int (nI i)), (8, .int (vS V.1 (nI i) 3)), (9, .int 1), (10, .int 0)]) hx hb dL_isWell_161 hl (by decide) rfl (fun ls hl => ?_)
          refine lv_iload hx hb dL_isWell_163 (lv_at hl 6 rfl) ?_
          refine lv_if_eq (tgt := 280) hx hb dL_isWell_165 (by decide) (fun h9 : (1 : Int32) = 0 => absurd h9 (show ¬ ((1 : Int32) = 0) from (by decide))) (fun _ => ?_)
          refine lv_iload hx hb dL_isWell_168 (lv_at hl 10 rfl) ?_
          refine lv_iload hx hb dL_isWell_170 (lv_at hl 9 rfl) ?_
          refine lv_if_eq (tgt := 189) hx hb dL_isWell_172 (by decide) (fun h9 : (1 : Int32) = 0 => absurd h9 (show ¬ ((1 : Int32) = 0) from (by decide))) (fun _ => ?_)
          refine lv_iload hx hb dL_isWell_175 (lv_at hl 8 rfl) ?_
          refine lv_aload_n hx hb dL_isWell_177 rfl (lv_at hl 3 rfl) ?_
          refine lv_iconst (v := 2) hx hb dL_isWell_178 (by decide) ?_
          refine rdTV (As := [.int 2]) (rest := [.int (vS V.1 (nI i) 3), .int 0]) (o_count l tb hI 2 (by decide) (by decide)) hF (cwV 1 hts gL_isWell_X4_count rfl rfl rfl (by decide +kernel) ⟨Nat.le_of_ble_eq_true rfl, Nat.le_of_ble_eq_true rfl⟩) (hI.recv hK hP) hK hP hT hS rfl hl.1 rfl (Nat.le_of_ble_eq_true rfl) dL_isWell_179 ⟨Nat.le_of_ble_eq_true rfl, Nat.le_of_ble_eq_true rfl⟩ ?_
          refine lv_icmp_ge (tgt := 189) hx hb dL_isWell_182 (by decide) (fun _ => ?_) (fun h9 : ¬ ((vC V.1 2) ≤ (vS V.1 (nI i) 3)) => absurd (show (vC V.1 2) ≤ (vS V.1 (nI i) 3) from hlo) h9)
          refine lv_iconst (v := 0) hx hb dL_isWell_189 (by decide) ?_
          refine lv_icmp_ne (tgt := 280) hx hb dL_isWell_190 (by decide) (fun h9 : ¬ ((0 : Int32) = 0) => absurd (show (0 : Int32) = 0 from (by decide)) h9) (fun _ => ?_)
          refine lv_iload hx hb dL_isWell_193 (lv_at hl 9 rfl) ?_
          refine lv_if_ne (tgt := 213) hx hb dL_isWell_195 (by decide) (fun _ => ?_) (fun h9 : (1 : Int32) = 0 => absurd h9 (show ¬ ((1 : Int32) = 0) from (by decide)))
          refine lv_aload_n hx hb dL_isWell_213 rfl (lv_at hl 3 rfl) ?_
          refine lv_iload hx hb dL_isWell_214 (lv_at hl 7 rfl) ?_
          refine lv_iconst (v := 5) hx hb dL_isWell_216 (by decide) ?_
          refine rdV (As := [.int (nI i), .int 5]) (rest := []) (o_sector l hI (nI i) 5) hF (cwV 2 hts gL_isWell_X4_sector rfl rfl rfl (by decide +kernel) ⟨Nat.le_of_ble_eq_true rfl, Nat.le_of_ble_eq_true rfl⟩) (hI.recv hK hP) hK hP rfl hl.1 rfl (Nat.le_of_ble_eq_true rfl) dL_isWell_217 ⟨Nat.le_of_ble_eq_true rfl, Nat.le_of_ble_eq_true rfl⟩ ?_
          refine lv_iconst (v := 1) hx hb dL_isWell_220 (by decide) ?_
          refine lv_icmp_ne (tgt := 239) hx hb dL_isWell_221 (by decide) (fun (c3 : ¬ ((vS V.1 (nI i) 5) = 1)) => ?_) (fun (c3 : (vS V.1 (nI i) 5) = 1) => ?_)
          · skip
            refine lv_aload_n hx hb dL_isWell_239 rfl (lv_at hl 3 rfl) ?_
            refine lv_iload hx hb dL_isWell_240 (lv_at hl 7 rfl) ?_
            refine lv_iconst (v := 0) hx hb dL_isWell_242 (by decide) ?_
            refine rdV (As := [.int (nI i), .int 0]) (rest := []) (o_sector l hI (nI i) 0) hF (cwV 2 hts gL_isWell_X4_sector rfl rfl rfl (by decide +kernel) ⟨Nat.le_of_ble_eq_true rfl, Nat.le_of_ble_eq_true rfl⟩) (hI.recv hK hP) hK hP rfl hl.1 rfl (Nat.le_of_ble_eq_true rfl) dL_isWell_243 ⟨Nat.le_of_ble_eq_true rfl, Nat.le_of_ble_eq_true rfl⟩ ?_
            refine lv_iload hx hb dL_isWell_246 (lv_at hl 7 rfl) ?_
            refine lv_bipush (v := 12) hx hb dL_isWell_248 (by decide) ?_
            refine lv_idiv hx hb dL_isWell_250 (by decide) ?_
            refine lv_icmp_ne (tgt := 280) hx hb dL_isWell_251 (by decide) (fun h9 : ¬ ((vS V.1 (nI i) 0) = ((nI i) / 12)) => absurd (show (vS V.1 (nI i) 0) = ((nI i) / 12) from (hns c3).1) h9) (fun _ => ?_)
            refine lv_aload_n hx hb dL_isWell_254 rfl (lv_at hl 3 rfl) ?_
            refine lv_iload hx hb dL_isWell_255 (lv_at hl 7 rfl) ?_
            refine lv_iconst (v := 1) hx hb dL_isWell_257 (by decide) ?_
            refine rdV (As := [.int (nI i), .int 1]) (rest := []) (o_sector l hI (nI i) 1) hF (cwV 2 hts gL_isWell_X4_sector rfl rfl rfl (by decide +kernel) ⟨Nat.le_of_ble_eq_true rfl, Nat.le_of_ble_eq_true rfl⟩) (hI.recv hK hP) hK hP rfl hl.1 rfl (Nat.le_of_ble_eq_true rfl) dL_isWell_258 ⟨Nat.le_of_ble_eq_true rfl, Nat.le_of_ble_eq_true rfl⟩ ?_
            refine lv_iload hx hb dL_isWell_261 (lv_at hl 7 rfl) ?_
            refine lv_bipush (v := 12) hx hb dL_isWell_263 (by decide) ?_
            refine lv_irem hx hb dL_isWell_265 (by decide) ?_
            refine lv_icmp_ne (tgt := 280) hx hb dL_isWell_266 (by decide) (fun h9 : ¬ ((vS V.1 (nI i) 1) = (jrem (nI i) 12)) => absurd (show (vS V.1 (nI i) 1) = (jrem (nI i) 12) from (hns c3).2) h9) (fun _ => ?_)
            refine lv_iload hx hb dL_isWell_269 (lv_at hl 8 rfl) ?_
            refine lv_bipush (v := 99) hx hb dL_isWell_271 (by decide) ?_
            refine lv_icmp_gt (tgt := 280) hx hb dL_isWell_273 (by decide) (fun h9 : (99 : Int32) < (vS V.1 (nI i) 3) => absurd h9 (show ¬ ((99 : Int32) < (vS V.1 (nI i) 3)) from h99)) (fun _ => ?_)
            refine lv_iconst (v := 1) hx hb dL_isWell_276 (by decide) ?_
            refine lv_goto (tgt := 281) hx hb dL_isWell_277 (by decide) ?_
            refine lv_istore (lv' := [(6, .int 1), (5, .int (worA V.1 i)), (4, .int ((sumN (fun a => vS V.1 (nI a) 5) i) + (vS V.1 (nI i) 5))), (3, .int (greA V.1 (i + 1))), (0, .ref γ), (1, .int ((sumN (hasA V.1) i) + 1)), (2, .int ((sumN (losA V.1) i) + 1)), (7, .int (nI i)), (8, .int (vS V.1 (nI i) 3)), (9, .int 1), (10, .int 0)]) hx hb dL_isWell_281 hl (by decide) rfl (fun ls hl => ?_)
            refine lv_iinc (v := (nI (i + 1))) (lv' := [(7, .int (nI (i + 1))), (6, .int 1), (5, .int (worA V.1 i)), (4, .int ((sumN (fun a => vS V.1 (nI a) 5) i) + (vS V.1 (nI i) 5))), (3, .int (greA V.1 (i + 1))), (0, .ref γ), (1, .int ((sumN (hasA V.1) i) + 1)), (2, .int ((sumN (losA V.1) i) + 1)), (8, .int (vS V.1 (nI i) 3)), (9, .int 1), (10, .int 0)]) hx hb dL_isWell_283 hl (k := 7) rfl (nI_1 i) (by decide) rfl (fun ls hl => ?_)
            refine lv_goto (tgt := 19) hx hb dL_isWell_286 (by decide) ?_
            have e1 : ((sumN (hasA V.1) i) + 1) = (sumN (hasA V.1) (i + 1)) := by show _ = sumN (hasA V.1) i + hasA V.1 i; rw [show hasA V.1 i = 1 from if_neg hn]
            have e2 : ((sumN (losA V.1) i) + 1) = (sumN (losA V.1) (i + 1)) := by show _ = sumN (losA V.1) i + losA V.1 i; rw [show losA V.1 i = 1 from (if_neg hn).trans (if_neg h6)]
            have e4 : ((sumN (fun a => vS V.1 (nI a) 5) i) + (vS V.1 (nI i) 5)) = (sumN (fun a => vS V.1 (nI a) 5) (i + 1)) := rfl
            have e5 : (worA V.1 i) = (worA V.1 (i + 1)) := (if_neg h6).symm
            rw [e1, e2, e4, e5] at hl
            exact ih (i + 1) ls (by omega) (lv_sub hl [5, 6, 7, 4, 3, 2, 1, 0] rfl)
          · skip
            refine lv_aload_n hx hb dL_isWell_224 rfl (lv_at hl 3 rfl) ?_
            refine lv_iload hx hb dL_isWell_225 (lv_at hl 7 rfl) ?_
            refine lv_iconst (v := 0) hx hb dL_isWell_227 (by decide) ?_
            refine rdV (As := [.int (nI i), .int 0]) (rest := []) (o_sector l hI (nI i) 0) hF (cwV 2 hts gL_isWell_X4_sector rfl rfl rfl (by decide +kernel) ⟨Nat.le_of_ble_eq_true rfl, Nat.le_of_ble_eq_true rfl⟩) (hI.recv hK hP) hK hP rfl hl.1 rfl (Nat.le_of_ble_eq_true rfl) dL_isWell_228 ⟨Nat.le_of_ble_eq_true rfl, Nat.le_of_ble_eq_true rfl⟩ ?_
            refine lv_bipush (v := 16) hx hb dL_isWell_231 (by decide) ?_
            refine lv_icmp_ne (tgt := 280) hx hb dL_isWell_233 (by decide) (fun h9 : ¬ ((vS V.1 (nI i) 0) = 16) => absurd (show (vS V.1 (nI i) 0) = 16 from (hsp c3)) h9) (fun _ => ?_)
            refine lv_goto (tgt := 269) hx hb dL_isWell_236 (by decide) ?_
            refine lv_iload hx hb dL_isWell_269 (lv_at hl 8 rfl) ?_
            refine lv_bipush (v := 99) hx hb dL_isWell_271 (by decide) ?_
            refine lv_icmp_gt (tgt := 280) hx hb dL_isWell_273 (by decide) (fun h9 : (99 : Int32) < (vS V.1 (nI i) 3) => absurd h9 (show ¬ ((99 : Int32) < (vS V.1 (nI i) 3)) from h99)) (fun _ => ?_)
            refine lv_iconst (v := 1) hx hb dL_isWell_276 (by decide) ?_
            refine lv_goto (tgt := 281) hx hb dL_isWell_277 (by decide) ?_
            refine lv_istore (lv' := [(6, .int 1), (5, .int (worA V.1 i)), (4, .int ((sumN (fun a => vS V.1 (nI a) 5) i) + (vS V.1 (nI i) 5))), (3, .int (greA V.1 (i + 1))), (0, .ref γ), (1, .int ((sumN (hasA V.1) i) + 1)), (2, .int ((sumN (losA V.1) i) + 1)), (7, .int (nI i)), (8, .int (vS V.1 (nI i) 3)), (9, .int 1), (10, .int 0)]) hx hb dL_isWell_281 hl (by decide) rfl (fun ls hl => ?_)
            refine lv_iinc (v := (nI (i + 1))) (lv' := [(7, .int (nI (i + 1))), (6, .int 1), (5, .int (worA V.1 i)), (4, .int ((sumN (fun a => vS V.1 (nI a) 5) i) + (vS V.1 (nI i) 5))), (3, .int (greA V.1 (i + 1))), (0, .ref γ), (1, .int ((sumN (hasA V.1) i) + 1)), (2, .int ((sumN (losA V.1) i) + 1)), (8, .int (vS V.1 (nI i) 3)), (9, .int 1), (10, .int 0)]) hx hb dL_isWell_283 hl (k := 7) rfl (nI_1 i) (by decide) rfl (fun ls hl => ?_)
            refine lv_goto (tgt := 19) hx hb dL_isWell_286 (by decide) ?_
            have e1 : ((sumN (hasA V.1) i) + 1) = (sumN (hasA V.1) (i + 1)) := by show _ = sumN (hasA V.1) i + hasA V.1 i; rw [show hasA V.1 i = 1 from if_neg hn]
            have e2 : ((sumN (losA V.1) i) + 1) = (sumN (losA V.1) (i + 1)) := by show _ = sumN (losA V.1) i + losA V.1 i; rw [show losA V.1 i = 1 from (if_neg hn).trans (if_neg h6)]
            have e4 : ((sumN (fun a => vS V.1 (nI a) 5) i) + (vS V.1 (nI i) 5)) = (sumN (fun a => vS V.1 (nI a) 5) (i + 1)) := rfl
            have e5 : (worA V.1 i) = (worA V.1 (i + 1)) := (if_neg h6).symm
            rw [e1, e2, e4, e5] at hl
            exact ih (i + 1) ls (by omega) (lv_sub hl [5, 6, 7, 4, 3, 2, 1, 0] rfl)
        refine lv_icmp_le (tgt := 116) hx hb dL_isWell_108 (by decide) (fun (c1 : (vS V.1 (nI i) 3) ≤ (greA V.1 i)) => ?_) (fun (c1 : ¬ ((vS V.1 (nI i) 3) ≤ (greA V.1 i))) => ?_)
        · skip
          refine lv_iload_n hx hb dL_isWell_116 rfl (lv_at hl 6 rfl) ?_
          have k9 := K117_2 ls (lv_sub hl [5, 1, 0, 6, 7, 8, 9, 10, 4, 3, 2] rfl)
          rw [show (greA V.1 (i + 1)) = (greA V.1 i) from by rw [show (greA V.1 (i + 1)) = (if (vS V.1 (nI i) 3) ≤ (greA V.1 i) then (greA V.1 i) else (vS V.1 (nI i) 3)) from rfl, if_pos c1]] at k9
          exact k9
        · skip
          refine lv_iload hx hb dL_isWell_111 (lv_at hl 4 rfl) ?_
          refine lv_goto (tgt := 117) hx hb dL_isWell_113 (by decide) ?_
          have k9 := K117_2 ls (lv_sub hl [5, 1, 0, 6, 7, 8, 9, 10, 4, 3, 2] rfl)
          rw [show (greA V.1 (i + 1)) = (vS V.1 (nI i) 3) from by rw [show (greA V.1 (i + 1)) = (if (vS V.1 (nI i) 3) ≤ (greA V.1 i) then (greA V.1 i) else (vS V.1 (nI i) 3)) from rfl, if_neg c1]] at k9
          exact k9
set_option maxHeartbeats 4000000 in
set_option maxRecDepth 100000 in
theorem lp2_isWell {p : Program} {e : Env} {s : State} {m : MethodId} {below : List Frame} {meth : Method} {c : Code} {Q : State → Prop} (l : Launch) (G : GG) (tb : Nat × Nat × Nat) {γ : Nat} {V : OV} {W0 : va_W} (hI : OI G γ V W0) {K : Nat} (hDv : Dv K V.1) (hP : va_P G.1 vwCl W0 s.heap) (hT : sT tb (fun _ => False) s) (hK : cK G s) (C0 : cA p s m meth c ([.ref γ] : List Value).toArray cL_isWell 12 (some .boolean) wsL_isWell RL) (kend : ∀ ls : Array Slot, lv_has ls 12 [(0, .ref γ), (1, .int (sumN (hasA V.1) 192)), (2, .int (sumN (losA V.1) 192)), (3, .int (greA V.1 192)), (4, .int (sumN (fun a => vS V.1 (nI a) 5) 192)), (5, .int (worA V.1 192)), (6, .int 1), (7, .int (sumN (fun t => vT V.1 (nI t) 0) 17)), (8, .int (sumN (fun t => vT V.1 (nI t) 1) 17)), (9, .int (sumN (fun t => vT V.1 (nI t) 3) 17)), (10, .int (sumN (lanA V.1) 17)), (11, .int (nI 17))] → W p l e (headSpec wsL_isWell (rmm 5 112)).room s m ([.ref γ] : List Value).toArray below meth c s.heap [] (0) (0) Q (F0 m 383 ls [])) : ∀ (f t : Nat) (ls : Array Slot), t + f = 17 → lv_has ls 12 [(0, .ref γ), (1, .int (sumN (hasA V.1) 192)), (2, .int (sumN (losA V.1) 192)), (3, .int (greA V.1 192)), (4, .int (sumN (fun a => vS V.1 (nI a) 5) 192)), (5, .int (worA V.1 192)), (6, .int 1), (7, .int (sumN (fun t => vT V.1 (nI t) 0) t)), (8, .int (sumN (fun t => vT V.1 (nI t) 1) t)), (9, .int (sumN (fun t => vT V.1 (nI t) 3) t)), (10, .int (sumN (lanA V.1) t)), (11, .int (nI t))] → W p l e (headSpec wsL_isWell (rmm 5 112)).room s m ([.ref γ] : List Value).toArray below meth c s.heap [] (0) (0) Q (F0 m 304 ls []) := by
  obtain ⟨hx, hb, hr, hml, hown, hts, hlocks⟩ := id C0
  have hF : CallFix p m c cL_isWell 12 s ([.ref γ] : List Value).toArray wsL_isWell RL := ⟨hx, hb, hml, hown, hts⟩
  have hS : va_S (fun _ => False) s.heap s.heap [] := va_S.rf
  intro f
  induction f with
  | zero =>
    intro t ls hi hl
    have hi : t = 17 := hi
    subst hi
    refine lv_iload hx hb dL_isWell_304 (lv_at hl 11 rfl) ?_
    refine lv_bipush (v := 17) hx hb dL_isWell_306 (by decide) ?_
    refine lv_icmp_ge (tgt := 383) hx hb dL_isWell_308 (by decide) (fun _ => ?_) (fun h9 : ¬ ((17 : Int32) ≤ (nI 17)) => absurd (show (17 : Int32) ≤ (nI 17) from Int32.le_refl _) h9)
    exact kend ls hl
  | succ f ih =>
    intro t ls hi hl
    refine lv_iload hx hb dL_isWell_304 (lv_at hl 11 rfl) ?_
    refine lv_bipush (v := 17) hx hb dL_isWell_306 (by decide) ?_
    refine lv_icmp_ge (tgt := 383) hx hb dL_isWell_308 (by decide) (fun h9 : (17 : Int32) ≤ (nI t) => absurd h9 (show ¬ ((17 : Int32) ≤ (nI t)) from nI_ge (b := 17) (by omega) (by omega))) (fun _ => ?_)
    refine lv_iload hx hb dL_isWell_311 (lv_at hl 7 rfl) ?_
    refine lv_aload_n hx hb dL_isWell_313 rfl (lv_at hl 0 rfl) ?_
    refine lv_iload hx hb dL_isWell_314 (lv_at hl 11 rfl) ?_
    refine lv_iconst (v := 0) hx hb dL_isWell_316 (by decide) ?_
    refine rdV (As := [.int (nI t), .int 0]) (rest := [.int (sumN (fun t => vT V.1 (nI t) 0) t)]) (o_track l hI (nI t) 0) hF (cwV 2 hts gL_isWell_X4_track rfl rfl rfl (by decide +kernel) ⟨Nat.le_of_ble_eq_true rfl, Nat.le_of_ble_eq_true rfl⟩) (hI.recv hK hP) hK hP rfl hl.1 rfl (Nat.le_of_ble_eq_true rfl) dL_isWell_317 ⟨Nat.le_of_ble_eq_true rfl, Nat.le_of_ble_eq_true rfl⟩ ?_
    refine lv_iadd hx hb dL_isWell_320 ?_
    refine lv_istore (lv' := [(7, .int ((sumN (fun t => vT V.1 (nI t) 0) t) + (vT V.1 (nI t) 0))), (0, .ref γ), (1, .int (sumN (hasA V.1) 192)), (2, .int (sumN (losA V.1) 192)), (3, .int (greA V.1 192)), (4, .int (sumN (fun a => vS V.1 (nI a) 5) 192)), (5, .int (worA V.1 192)), (6, .int 1), (8, .int (sumN (fun t => vT V.1 (nI t) 1) t)), (9, .int (sumN (fun t => vT V.1 (nI t) 3) t)), (10, .int (sumN (lanA V.1) t)), (11, .int (nI t))]) hx hb dL_isWell_321 hl (by decide) rfl (fun ls hl => ?_)
    refine lv_iload hx hb dL_isWell_323 (lv_at hl 8 rfl) ?_
    refine lv_aload_n hx hb dL_isWell_325 rfl (lv_at hl 1 rfl) ?_
    refine lv_iload hx hb dL_isWell_326 (lv_at hl 11 rfl) ?_
    refine lv_iconst (v := 1) hx hb dL_isWell_328 (by decide) ?_
    refine rdV (As := [.int (nI t), .int 1]) (rest := [.int (sumN (fun t => vT V.1 (nI t) 1) t)]) (o_track l hI (nI t) 1) hF (cwV 2 hts gL_isWell_X4_track rfl rfl rfl (by decide +kernel) ⟨Nat.le_of_ble_eq_true rfl, Nat.le_of_ble_eq_true rfl⟩) (hI.recv hK hP) hK hP rfl hl.1 rfl (Nat.le_of_ble_eq_true rfl) dL_isWell_329 ⟨Nat.le_of_ble_eq_true rfl, Nat.le_of_ble_eq_true rfl⟩ ?_
    refine lv_iadd hx hb dL_isWell_332 ?_
    refine lv_istore (lv' := [(8, .int ((sumN (fun t => vT V.1 (nI t) 1) t) + (vT V.1 (nI t) 1))), (7, .int ((sumN (fun t => vT V.1 (nI t) 0) t) + (vT V.1 (nI t) 0))), (0, .ref γ), (1, .int (sumN (hasA V.1) 192)), (2, .int (sumN (losA V.1) 192)), (3, .int (greA V.1 192)), (4, .int (sumN (fun a => vS V.1 (nI a) 5) 192)), (5, .int (worA V.1 192)), (6, .int 1), (9, .int (sumN (fun t => vT V.1 (nI t) 3) t)), (10, .int (sumN (lanA V.1) t)), (11, .int (nI t))]) hx hb dL_isWell_333 hl (by decide) rfl (fun ls hl => ?_)
    refine lv_iload hx hb dL_isWell_335 (lv_at hl 9 rfl) ?_
    refine lv_aload_n hx hb dL_isWell_337 rfl (lv_at hl 2 rfl) ?_
    refine lv_iload hx hb dL_isWell_338 (lv_at hl 11 rfl) ?_
    refine lv_iconst (v := 3) hx hb dL_isWell_340 (by decide) ?_
    refine rdV (As := [.int (nI t), .int 3]) (rest := [.int (sumN (fun t => vT V.1 (nI t) 3) t)]) (o_track l hI (nI t) 3) hF (cwV 2 hts gL_isWell_X4_track rfl rfl rfl (by decide +kernel) ⟨Nat.le_of_ble_eq_true rfl, Nat.le_of_ble_eq_true rfl⟩) (hI.recv hK hP) hK hP rfl hl.1 rfl (Nat.le_of_ble_eq_true rfl) dL_isWell_341 ⟨Nat.le_of_ble_eq_true rfl, Nat.le_of_ble_eq_true rfl⟩ ?_
    refine lv_iadd hx hb dL_isWell_344 ?_
    refine lv_istore (lv' := [(9, .int ((sumN (fun t => vT V.1 (nI t) 3) t) + (vT V.1 (nI t) 3))), (8, .int ((sumN (fun t => vT V.1 (nI t) 1) t) + (vT V.1 (nI t) 1))), (7, .int ((sumN (fun t => vT V.1 (nI t) 0) t) + (vT V.1 (nI t) 0))), (0, .ref γ), (1, .int (sumN (hasA V.1) 192)), (2, .int (sumN (losA V.1) 192)), (3, .int (greA V.1 192)), (4, .int (sumN (fun a => vS V.1 (nI a) 5) 192)), (5, .int (worA V.1 192)), (6, .int 1), (10, .int (sumN (lanA V.1) t)), (11, .int (nI t))]) hx hb dL_isWell_345 hl (by decide) rfl (fun ls hl => ?_)
    refine lv_iload hx hb dL_isWell_347 (lv_at hl 10 rfl) ?_
    refine lv_iload hx hb dL_isWell_349 (lv_at hl 11 rfl) ?_
    refine lv_bipush (v := 16) hx hb dL_isWell_351 (by decide) ?_
    have K374_3 : ∀ ls : Array Slot, lv_has ls 12 [(0, .ref γ), (1, .int (sumN (hasA V.1) 192)), (2, .int (sumN (losA V.1) 192)), (3, .int (greA V.1 192)), (4, .int (sumN (fun a => vS V.1 (nI a) 5) 192)), (5, .int (worA V.1 192)), (6, .int 1), (7, .int ((sumN (fun t => vT V.1 (nI t) 0) t) + (vT V.1 (nI t) 0))), (8, .int ((sumN (fun t => vT V.1 (nI t) 1) t) + (vT V.1 (nI t) 1))), (9, .int ((sumN (fun t => vT V.1 (nI t) 3) t) + (vT V.1 (nI t) 3))), (10, .int (sumN (lanA V.1) t)), (11, .int (nI t))] → W p l e (headSpec wsL_isWell (rmm 5 112)).room s m ([.ref γ] : List Value).toArray below meth c s.heap [] (0) (0) Q (F0 m 374 ls [.int (lanA V.1 t), .int (sumN (lanA V.1) t)]) := by
      intro ls hl
      refine lv_iadd hx hb dL_isWell_374 ?_
      refine lv_istore (lv' := [(10, .int ((sumN (lanA V.1) t) + (lanA V.1 t))), (0, .ref γ), (1, .int (sumN (hasA V.1) 192)), (2, .int (sumN (losA V.1) 192)), (3, .int (greA V.1 192)), (4, .int (sumN (fun a => vS V.1 (nI a) 5) 192)), (5, .int (worA V.1 192)), (6, .int 1), (7, .int ((sumN (fun t => vT V.1 (nI t) 0) t) + (vT V.1 (nI t) 0))), (8, .int ((sumN (fun t => vT V.1 (nI t) 1) t) + (vT V.1 (nI t) 1))), (9, .int ((sumN (fun t => vT V.1 (nI t) 3) t) + (vT V.1 (nI t) 3))), (11, .int (nI t))]) hx hb dL_isWell_375 hl (by decide) rfl (fun ls hl => ?_)
      refine lv_iinc (v := (nI (t + 1))) (lv' := [(11, .int (nI (t + 1))), (10, .int ((sumN (lanA V.1) t) + (lanA V.1 t))), (0, .ref γ), (1, .int (sumN (hasA V.1) 192)), (2, .int (sumN (losA V.1) 192)), (3, .int (greA V.1 192)), (4, .int (sumN (fun a => vS V.1 (nI a) 5) 192)), (5, .int (worA V.1 192)), (6, .int 1), (7, .int ((sumN (fun t => vT V.1 (nI t) 0) t) + (vT V.1 (nI t) 0))), (8, .int ((sumN (fun t => vT V.1 (nI t) 1) t) + (vT V.1 (nI t) 1))), (9, .int ((sumN (fun t => vT V.1 (nI t) 3) t) + (vT V.1 (nI t) 3)))]) hx hb dL_isWell_377 hl (k := 11) rfl (nI_1 t) (by decide) rfl (fun ls hl => ?_)
      refine lv_goto (tgt := 304) hx hb dL_isWell_380 (by decide) ?_
      have e7 : ((sumN (fun t => vT V.1 (nI t) 0) t) + (vT V.1 (nI t) 0)) = (sumN (fun t => vT V.1 (nI t) 0) (t + 1)) := rfl
      have e8 : ((sumN (fun t => vT V.1 (nI t) 1) t) + (vT V.1 (nI t) 1)) = (sumN (fun t => vT V.1 (nI t) 1) (t + 1)) := rfl
      have e9 : ((sumN (fun t => vT V.1 (nI t) 3) t) + (vT V.1 (nI t) 3)) = (sumN (fun t => vT V.1 (nI t) 3) (t + 1)) := rfl
      have e10 : ((sumN (lanA V.1) t) + (lanA V.1 t)) = (sumN (lanA V.1) (t + 1)) := rfl
      rw [e7, e8, e9, e10] at hl
      exact ih (t + 1) ls (by omega) (lv_sub hl [2, 3, 4, 5, 6, 7, 8, 9, 10, 11, 1, 0] rfl)
    refine lv_icmp_ge (tgt := 373) hx hb dL_isWell_353 (by decide) (fun (c1 : 16 ≤ (nI t)) => ?_) (fun (c1 : ¬ (16 ≤ (nI t))) => ?_)
    · skip
      refine lv_iconst (v := 0) hx hb dL_isWell_373 (by decide) ?_
      have k9 := K374_3 ls (lv_sub hl [3, 4, 5, 6, 7, 8, 9, 2, 1, 0, 10, 11] rfl)
      rw [show (lanA V.1 t) = 0 from by rw [show (lanA V.1 t) = (if 16 ≤ (nI t) then 0 else (if (jrem (nI t) 2) = 0 then (vT V.1 (nI t) 3) else 0)) from rfl, if_pos c1]] at k9
      exact k9
    · skip
      refine lv_iload hx hb dL_isWell_356 (lv_at hl 11 rfl) ?_
      refine lv_iconst (v := 2) hx hb dL_isWell_358 (by decide) ?_
      refine lv_irem hx hb dL_isWell_359 (by decide) ?_
      refine lv_if_ne (tgt := 373) hx hb dL_isWell_360 (by decide) (fun (c2 : ¬ ((jrem (nI t) 2) = 0)) => ?_) (fun (c2 : (jrem (nI t) 2) = 0) => ?_)
      · skip
        refine lv_iconst (v := 0) hx hb dL_isWell_373 (by decide) ?_
        have k9 := K374_3 ls (lv_sub hl [3, 4, 5, 6, 7, 8, 9, 2, 1, 0, 10, 11] rfl)
        rw [show (lanA V.1 t) = 0 from by rw [show (lanA V.1 t) = (if 16 ≤ (nI t) then 0 else (if (jrem (nI t) 2) = 0 then (vT V.1 (nI t) 3) else 0)) from rfl, if_neg c1, if_neg c2]] at k9
        exact k9
      · skip
        refine lv_aload_n hx hb dL_isWell_363 rfl (lv_at hl 3 rfl) ?_
        refine lv_iload hx hb dL_isWell_364 (lv_at hl 11 rfl) ?_
        refine lv_iconst (v := 3) hx hb dL_isWell_366 (by decide) ?_
        refine rdV (As := [.int (nI t), .int 3]) (rest := [.int (sumN (lanA V.1) t)]) (o_track l hI (nI t) 3) hF (cwV 2 hts gL_isWell_X4_track rfl rfl rfl (by decide +kernel) ⟨Nat.le_of_ble_eq_true rfl, Nat.le_of_ble_eq_true rfl⟩) (hI.recv hK hP) hK hP rfl hl.1 rfl (Nat.le_of_ble_eq_true rfl) dL_isWell_367 ⟨Nat.le_of_ble_eq_true rfl, Nat.le_of_ble_eq_true rfl⟩ ?_
        refine lv_goto (tgt := 374) hx hb dL_isWell_370 (by decide) ?_
        have k9 := K374_3 ls (lv_sub hl [3, 4, 5, 6, 7, 8, 9, 2, 1, 0, 10, 11] rfl)
        rw [show (lanA V.1 t) = (vT V.1 (nI t) 3) from by rw [show (lanA V.1 t) = (if 16 ≤ (nI t) then 0 else (if (jrem (nI t) 2) = 0 then (vT V.1 (nI t) 3) else 0)) from rfl, if_neg c1, if_pos c2]] at k9
        exact k9
set_option maxHeartbeats 4000000 in
set_option maxRecDepth 100000 in
theorem c_L_isWell (l : Launch) (G : GG) (tb : Nat × Nat × Nat) {γ : Nat} {V : OV} {W0 : va_W} (hI : OI G γ V W0) {K : Nat} (hDv : Dv K V.1) : RdT G l yL_isWell wsL_isWell 5 112 [.ref γ] W0 tb (.int 1) := by
  refine Met.ofW (cc := cL_isWell) (maxL := 12) (ret := (some .boolean)) (by decide) rfl ?_
  intro p e s m args below meth c s₁ B hml hv
  obtain ⟨rfl, hP, hK, hT⟩ := hv
  have C0 : cA p s m meth c ([.ref γ] : List Value).toArray cL_isWell 12 (some .boolean) wsL_isWell RL := ⟨B.exec, B.bytes, B.returns, hml, findClass_of_methodNamed B.named, atoms_spec (ws := wsL_isWell) B.pre, B.notSynchronized⟩
  obtain ⟨hx, hb, hr, hml, hown, hts, hlocks⟩ := id C0
  have hF : CallFix p m c cL_isWell 12 s ([.ref γ] : List Value).toArray wsL_isWell RL := ⟨hx, hb, hml, hown, hts⟩
  have hS : va_S (fun _ => False) s.heap s.heap [] := va_S.rf
  obtain ⟨Q, hQ⟩ : ∃ Q : State → Prop, Q = MQ below (QR (some (.int 1))) ([.ref γ] : List Value).toArray s 0 0 (fun _ => False) := ⟨_, rfl⟩
  rw [← hQ]
  have hl := lv_entry ([.ref γ]) (n := 12) (Nat.le_of_ble_eq_true rfl)
  rw [lg_entry_eq]
  generalize (lg_sl ([.ref γ]) ++ List.replicate (12 - (lg_sl ([.ref γ])).length) Slot.unset).toArray = ls at hl ⊢
  have hl : lv_has ls 12 [(0, .ref γ)] := hl
  refine lv_iconst (v := 0) hx hb dL_isWell_0 (by decide) ?_
  refine lv_istore_n (lv' := [(1, .int 0), (0, .ref γ)]) hx hb dL_isWell_1 rfl hl (by decide) rfl (fun ls hl => ?_)
  refine lv_iconst (v := 0) hx hb dL_isWell_2 (by decide) ?_
  refine lv_istore_n (lv' := [(2, .int 0), (1, .int 0), (0, .ref γ)]) hx hb dL_isWell_3 rfl hl (by decide) rfl (fun ls hl => ?_)
  refine lv_iconst (v := 0) hx hb dL_isWell_4 (by decide) ?_
  refine lv_istore_n (lv' := [(3, .int 0), (2, .int 0), (1, .int 0), (0, .ref γ)]) hx hb dL_isWell_5 rfl hl (by decide) rfl (fun ls hl => ?_)
  refine lv_iconst (v := 0) hx hb dL_isWell_6 (by decide) ?_
  refine lv_istore (lv' := [(4, .int 0), (3, .int 0), (2, .int 0), (1, .int 0), (0, .ref γ)]) hx hb dL_isWell_7 hl (by decide) rfl (fun ls hl => ?_)
  refine lv_bipush (v := (-6)) hx hb dL_isWell_9 (by decide) ?_
  refine lv_istore (lv' := [(5, .int (-6)), (4, .int 0), (3, .int 0), (2, .int 0), (1, .int 0), (0, .ref γ)]) hx hb dL_isWell_11 hl (by decide) rfl (fun ls hl => ?_)
  refine lv_iconst (v := 1) hx hb dL_isWell_13 (by decide) ?_
  refine lv_istore (lv' := [(6, .int 1), (5, .int (-6)), (4, .int 0), (3, .int 0), (2, .int 0), (1, .int 0), (0, .ref γ)]) hx hb dL_isWell_14 hl (by decide) rfl (fun ls hl => ?_)
  refine lv_iconst (v := 0) hx hb dL_isWell_16 (by decide) ?_
  refine lv_istore (lv' := [(7, .int 0), (6, .int 1), (5, .int (-6)), (4, .int 0), (3, .int 0), (2, .int 0), (1, .int 0), (0, .ref γ)]) hx hb dL_isWell_17 hl (by decide) rfl (fun ls hl => ?_)
  refine lp1_isWell l G tb hI hDv hP hT hK C0 (fun ls hl => ?_) 192 0 ls (by omega) (lv_sub hl [7, 6, 5, 4, 3, 2, 1, 0] rfl)
  refine lv_iconst (v := 0) hx hb dL_isWell_289 (by decide) ?_
  refine lv_istore (lv' := [(7, .int 0), (0, .ref γ), (1, .int (sumN (hasA V.1) 192)), (2, .int (sumN (losA V.1) 192)), (3, .int (greA V.1 192)), (4, .int (sumN (fun a => vS V.1 (nI a) 5) 192)), (5, .int (worA V.1 192)), (6, .int 1)]) hx hb dL_isWell_290 hl (by decide) rfl (fun ls hl => ?_)
  refine lv_iconst (v := 0) hx hb dL_isWell_292 (by decide) ?_
  refine lv_istore (lv' := [(8, .int 0), (7, .int 0), (0, .ref γ), (1, .int (sumN (hasA V.1) 192)), (2, .int (sumN (losA V.1) 192)), (3, .int (greA V.1 192)), (4, .int (sumN (fun a => vS V.1 (nI a) 5) 192)), (5, .int (worA V.1 192)), (6, .int 1)]) hx hb dL_isWell_293 hl (by decide) rfl (fun ls hl => ?_)
  refine lv_iconst (v := 0) hx hb dL_isWell_295 (by decide) ?_
  refine lv_istore (lv' := [(9, .int 0), (8, .int 0), (7, .int 0), (0, .ref γ), (1, .int (sumN (hasA V.1) 192)), (2, .int (sumN (losA V.1) 192)), (3, .int (greA V.1 192)), (4, .int (sumN (fun a => vS V.1 (nI a) 5) 192)), (5, .int (worA V.1 192)), (6, .int 1)]) hx hb dL_isWell_296 hl (by decide) rfl (fun ls hl => ?_)
  refine lv_iconst (v := 0) hx hb dL_isWell_298 (by decide) ?_
  refine lv_istore (lv' := [(10, .int 0), (9, .int 0), (8, .int 0), (7, .int 0), (0, .ref γ), (1, .int (sumN (hasA V.1) 192)), (2, .int (sumN (losA V.1) 192)), (3, .int (greA V.1 192)), (4, .int (sumN (fun a => vS V.1 (nI a) 5) 192)), (5, .int (worA V.1 192)), (6, .int 1)]) hx hb dL_isWell_299 hl (by decide) rfl (fun ls hl => ?_)
  refine lv_iconst (v := 0) hx hb dL_isWell_301 (by decide) ?_
  refine lv_istore (lv' := [(11, .int 0), (10, .int 0), (9, .int 0), (8, .int 0), (7, .int 0), (0, .ref γ), (1, .int (sumN (hasA V.1) 192)), (2, .int (sumN (losA V.1) 192)), (3, .int (greA V.1 192)), (4, .int (sumN (fun a => vS V.1 (nI a) 5) 192)), (5, .int (worA V.1 192)), (6, .int 1)]) hx hb dL_isWell_302 hl (by decide) rfl (fun ls hl => ?_)
  refine lp2_isWell l G tb hI hDv hP hT hK C0 (fun ls hl => ?_) 17 0 ls (by omega) (lv_sub hl [5, 6, 7, 8, 9, 10, 11, 4, 3, 2, 1, 0] rfl)
  refine lv_iload hx hb dL_isWell_383 (lv_at hl 6 rfl) ?_
  refine lv_if_eq (tgt := 518) hx hb dL_isWell_385 (by decide) (fun h9 : (1 : Int32) = 0 => absurd h9 (show ¬ ((1 : Int32) = 0) from (by decide))) (fun _ => ?_)
  refine lv_iload hx hb dL_isWell_388 (lv_at hl 7 rfl) ?_
  refine lv_iload_n hx hb dL_isWell_390 rfl (lv_at hl 1 rfl) ?_
  refine lv_icmp_ne (tgt := 518) hx hb dL_isWell_391 (by decide) (fun h9 : ¬ ((sumN (fun t => vT V.1 (nI t) 0) 17) = (sumN (hasA V.1) 192)) => absurd (show (sumN (fun t => vT V.1 (nI t) 0) 17) = (sumN (hasA V.1) 192) from on_eq hDv) h9) (fun _ => ?_)
  refine lv_iload hx hb dL_isWell_394 (lv_at hl 8 rfl) ?_
  refine lv_iload_n hx hb dL_isWell_396 rfl (lv_at hl 2 rfl) ?_
  refine lv_icmp_ne (tgt := 518) hx hb dL_isWell_397 (by decide) (fun h9 : ¬ ((sumN (fun t => vT V.1 (nI t) 1) 17) = (sumN (losA V.1) 192)) => absurd (show (sumN (fun t => vT V.1 (nI t) 1) 17) = (sumN (losA V.1) 192) from off_eq hDv) h9) (fun _ => ?_)
  refine lv_iload_n hx hb dL_isWell_400 rfl (lv_at hl 1 rfl) ?_
  refine lv_aload_n hx hb dL_isWell_401 rfl (lv_at hl 0 rfl) ?_
  refine lv_bipush (v := 9) hx hb dL_isWell_402 (by decide) ?_
  refine rdTV (As := [.int 9]) (rest := [.int (sumN (hasA V.1) 192)]) (o_count l tb hI 9 (by decide) (by decide)) hF (cwV 1 hts gL_isWell_X4_count rfl rfl rfl (by decide +kernel) ⟨Nat.le_of_ble_eq_true rfl, Nat.le_of_ble_eq_true rfl⟩) (hI.recv hK hP) hK hP hT hS rfl hl.1 rfl (Nat.le_of_ble_eq_true rfl) dL_isWell_404 ⟨Nat.le_of_ble_eq_true rfl, Nat.le_of_ble_eq_true rfl⟩ ?_
  refine lv_icmp_ne (tgt := 518) hx hb dL_isWell_407 (by decide) (fun h9 : ¬ ((sumN (hasA V.1) 192) = (vC V.1 9)) => absurd (show (sumN (hasA V.1) 192) = (vC V.1 9) from (c9_eq hDv).symm) h9) (fun _ => ?_)
  refine lv_iload_n hx hb dL_isWell_410 rfl (lv_at hl 2 rfl) ?_
  refine lv_aload_n hx hb dL_isWell_411 rfl (lv_at hl 0 rfl) ?_
  refine lv_bipush (v := 10) hx hb dL_isWell_412 (by decide) ?_
  refine rdTV (As := [.int 10]) (rest := [.int (sumN (losA V.1) 192)]) (o_count l tb hI 10 (by decide) (by decide)) hF (cwV 1 hts gL_isWell_X4_count rfl rfl rfl (by decide +kernel) ⟨Nat.le_of_ble_eq_true rfl, Nat.le_of_ble_eq_true rfl⟩) (hI.recv hK hP) hK hP hT hS rfl hl.1 rfl (Nat.le_of_ble_eq_true rfl) dL_isWell_414 ⟨Nat.le_of_ble_eq_true rfl, Nat.le_of_ble_eq_true rfl⟩ ?_
  refine lv_icmp_ne (tgt := 518) hx hb dL_isWell_417 (by decide) (fun h9 : ¬ ((sumN (losA V.1) 192) = (vC V.1 10)) => absurd (show (sumN (losA V.1) 192) = (vC V.1 10) from (c10_eq hDv).symm) h9) (fun _ => ?_)
  refine lv_iload_n hx hb dL_isWell_420 rfl (lv_at hl 3 rfl) ?_
  refine lv_aload_n hx hb dL_isWell_421 rfl (lv_at hl 0 rfl) ?_
  refine lv_bipush (v := 15) hx hb dL_isWell_422 (by decide) ?_
  refine rdTV (As := [.int 15]) (rest := [.int (greA V.1 192)]) (o_count l tb hI 15 (by decide) (by decide)) hF (cwV 1 hts gL_isWell_X4_count rfl rfl rfl (by decide +kernel) ⟨Nat.le_of_ble_eq_true rfl, Nat.le_of_ble_eq_true rfl⟩) (hI.recv hK hP) hK hP hT hS rfl hl.1 rfl (Nat.le_of_ble_eq_true rfl) dL_isWell_424 ⟨Nat.le_of_ble_eq_true rfl, Nat.le_of_ble_eq_true rfl⟩ ?_
  refine lv_icmp_ne (tgt := 518) hx hb dL_isWell_427 (by decide) (fun h9 : ¬ ((greA V.1 192) = (vC V.1 15)) => absurd (show (greA V.1 192) = (vC V.1 15) from (c15_eq hDv).symm) h9) (fun _ => ?_)
  refine lv_iload hx hb dL_isWell_430 (lv_at hl 9 rfl) ?_
  refine lv_aload_n hx hb dL_isWell_432 rfl (lv_at hl 0 rfl) ?_
  refine lv_bipush (v := 11) hx hb dL_isWell_433 (by decide) ?_
  refine rdTV (As := [.int 11]) (rest := [.int (sumN (fun t => vT V.1 (nI t) 3) 17)]) (o_count l tb hI 11 (by decide) (by decide)) hF (cwV 1 hts gL_isWell_X4_count rfl rfl rfl (by decide +kernel) ⟨Nat.le_of_ble_eq_true rfl, Nat.le_of_ble_eq_true rfl⟩) (hI.recv hK hP) hK hP hT hS rfl hl.1 rfl (Nat.le_of_ble_eq_true rfl) dL_isWell_435 ⟨Nat.le_of_ble_eq_true rfl, Nat.le_of_ble_eq_true rfl⟩ ?_
  refine lv_icmp_ne (tgt := 518) hx hb dL_isWell_438 (by decide) (fun h9 : ¬ ((sumN (fun t => vT V.1 (nI t) 3) 17) = (vC V.1 11)) => absurd (show (sumN (fun t => vT V.1 (nI t) 3) 17) = (vC V.1 11) from wri_eq.trans vC11.symm) h9) (fun _ => ?_)
  refine lv_iload hx hb dL_isWell_441 (lv_at hl 10 rfl) ?_
  refine lv_aload_n hx hb dL_isWell_443 rfl (lv_at hl 0 rfl) ?_
  refine lv_bipush (v := 13) hx hb dL_isWell_444 (by decide) ?_
  refine rdTV (As := [.int 13]) (rest := [.int (sumN (lanA V.1) 17)]) (o_count l tb hI 13 (by decide) (by decide)) hF (cwV 1 hts gL_isWell_X4_count rfl rfl rfl (by decide +kernel) ⟨Nat.le_of_ble_eq_true rfl, Nat.le_of_ble_eq_true rfl⟩) (hI.recv hK hP) hK hP hT hS rfl hl.1 rfl (Nat.le_of_ble_eq_true rfl) dL_isWell_446 ⟨Nat.le_of_ble_eq_true rfl, Nat.le_of_ble_eq_true rfl⟩ ?_
  refine lv_icmp_ne (tgt := 518) hx hb dL_isWell_449 (by decide) (fun h9 : ¬ ((sumN (lanA V.1) 17) = (vC V.1 13)) => absurd (show (sumN (lanA V.1) 17) = (vC V.1 13) from lan_eq.trans vC13.symm) h9) (fun _ => ?_)
  refine lv_iload hx hb dL_isWell_452 (lv_at hl 9 rfl) ?_
  refine lv_iload hx hb dL_isWell_454 (lv_at hl 10 rfl) ?_
  refine lv_isub hx hb dL_isWell_456 ?_
  refine lv_aload_n hx hb dL_isWell_457 rfl (lv_at hl 0 rfl) ?_
  refine lv_bipush (v := 16) hx hb dL_isWell_458 (by decide) ?_
  refine lv_iconst (v := 3) hx hb dL_isWell_460 (by decide) ?_
  refine rdV (As := [.int 16, .int 3]) (rest := [.int ((sumN (fun t => vT V.1 (nI t) 3) 17) - (sumN (lanA V.1) 17))]) (o_track l hI 16 3) hF (cwV 2 hts gL_isWell_X4_track rfl rfl rfl (by decide +kernel) ⟨Nat.le_of_ble_eq_true rfl, Nat.le_of_ble_eq_true rfl⟩) (hI.recv hK hP) hK hP rfl hl.1 rfl (Nat.le_of_ble_eq_true rfl) dL_isWell_461 ⟨Nat.le_of_ble_eq_true rfl, Nat.le_of_ble_eq_true rfl⟩ ?_
  refine lv_isub hx hb dL_isWell_464 ?_
  refine lv_aload_n hx hb dL_isWell_465 rfl (lv_at hl 0 rfl) ?_
  refine lv_bipush (v := 14) hx hb dL_isWell_466 (by decide) ?_
  refine rdTV (As := [.int 14]) (rest := [.int (((sumN (fun t => vT V.1 (nI t) 3) 17) - (sumN (lanA V.1) 17)) - (vT V.1 16 3))]) (o_count l tb hI 14 (by decide) (by decide)) hF (cwV 1 hts gL_isWell_X4_count rfl rfl rfl (by decide +kernel) ⟨Nat.le_of_ble_eq_true rfl, Nat.le_of_ble_eq_true rfl⟩) (hI.recv hK hP) hK hP hT hS rfl hl.1 rfl (Nat.le_of_ble_eq_true rfl) dL_isWell_468 ⟨Nat.le_of_ble_eq_true rfl, Nat.le_of_ble_eq_true rfl⟩ ?_
  refine lv_icmp_ne (tgt := 518) hx hb dL_isWell_471 (by decide) (fun h9 : ¬ ((((sumN (fun t => vT V.1 (nI t) 3) 17) - (sumN (lanA V.1) 17)) - (vT V.1 16 3)) = (vC V.1 14)) => absurd (show (((sumN (fun t => vT V.1 (nI t) 3) 17) - (sumN (lanA V.1) 17)) - (vT V.1 16 3)) = (vC V.1 14) from (by rw [wri_eq, lan_eq, show vT V.1 16 3 = tsum (d_wr V.1) 16 from vT3 (t := 16) (by omega), vC14]; exact gro_eq)) h9) (fun _ => ?_)
  refine lv_iload hx hb dL_isWell_474 (lv_at hl 4 rfl) ?_
  refine lv_bipush (v := 12) hx hb dL_isWell_476 (by decide) ?_
  refine lv_aload_n hx hb dL_isWell_478 rfl (lv_at hl 0 rfl) ?_
  refine lv_bipush (v := 8) hx hb dL_isWell_479 (by decide) ?_
  refine rdTV (As := [.int 8]) (rest := [.int 12, .int (sumN (fun a => vS V.1 (nI a) 5) 192)]) (o_count l tb hI 8 (by decide) (by decide)) hF (cwV 1 hts gL_isWell_X4_count rfl rfl rfl (by decide +kernel) ⟨Nat.le_of_ble_eq_true rfl, Nat.le_of_ble_eq_true rfl⟩) (hI.recv hK hP) hK hP hT hS rfl hl.1 rfl (Nat.le_of_ble_eq_true rfl) dL_isWell_481 ⟨Nat.le_of_ble_eq_true rfl, Nat.le_of_ble_eq_true rfl⟩ ?_
  refine lv_isub hx hb dL_isWell_484 ?_
  refine lv_icmp_gt (tgt := 518) hx hb dL_isWell_485 (by decide) (fun h9 : (12 - (vC V.1 8)) < (sumN (fun a => vS V.1 (nI a) 5) 192) => absurd h9 (show ¬ ((12 - (vC V.1 8)) < (sumN (fun a => vS V.1 (nI a) 5) 192)) from spa_le hDv)) (fun _ => ?_)
  refine lv_iload hx hb dL_isWell_488 (lv_at hl 5 rfl) ?_
  refine lv_aload_n hx hb dL_isWell_490 rfl (lv_at hl 0 rfl) ?_
  refine rdV (As := []) (rest := [.int (worA V.1 192)]) (o_worst l hI) hF (cwV 0 hts gL_isWell_X4_worst rfl rfl rfl (by decide +kernel) ⟨Nat.le_of_ble_eq_true rfl, Nat.le_of_ble_eq_true rfl⟩) (hI.recv hK hP) hK hP rfl hl.1 rfl (Nat.le_of_ble_eq_true rfl) dL_isWell_491 ⟨Nat.le_of_ble_eq_true rfl, Nat.le_of_ble_eq_true rfl⟩ ?_
  refine lv_icmp_ne (tgt := 518) hx hb dL_isWell_494 (by decide) (fun h9 : ¬ ((worA V.1 192) = (vW V.1)) => absurd (show (worA V.1 192) = (vW V.1) from (vW_eq hDv).symm) h9) (fun _ => ?_)
  refine lv_aload_n hx hb dL_isWell_497 rfl (lv_at hl 0 rfl) ?_
  refine lv_bipush (v := 7) hx hb dL_isWell_498 (by decide) ?_
  refine rdTV (As := [.int 7]) (rest := []) (o_count l tb hI 7 (by decide) (by decide)) hF (cwV 1 hts gL_isWell_X4_count rfl rfl rfl (by decide +kernel) ⟨Nat.le_of_ble_eq_true rfl, Nat.le_of_ble_eq_true rfl⟩) (hI.recv hK hP) hK hP hT hS rfl hl.1 rfl (Nat.le_of_ble_eq_true rfl) dL_isWell_500 ⟨Nat.le_of_ble_eq_true rfl, Nat.le_of_ble_eq_true rfl⟩ ?_
  refine lv_aload_n hx hb dL_isWell_503 rfl (lv_at hl 0 rfl) ?_
  refine lv_iconst (v := 5) hx hb dL_isWell_504 (by decide) ?_
  refine rdTV (As := [.int 5]) (rest := [.int (vC V.1 7)]) (o_count l tb hI 5 (by decide) (by decide)) hF (cwV 1 hts gL_isWell_X4_count rfl rfl rfl (by decide +kernel) ⟨Nat.le_of_ble_eq_true rfl, Nat.le_of_ble_eq_true rfl⟩) (hI.recv hK hP) hK hP hT hS rfl hl.1 rfl (Nat.le_of_ble_eq_true rfl) dL_isWell_505 ⟨Nat.le_of_ble_eq_true rfl, Nat.le_of_ble_eq_true rfl⟩ ?_
  refine lv_bipush (v := 12) hx hb dL_isWell_508 (by decide) ?_
  refine lv_irem hx hb dL_isWell_510 (by decide) ?_
  refine lv_icmp_ne (tgt := 518) hx hb dL_isWell_511 (by decide) (fun h9 : ¬ ((vC V.1 7) = (jrem (vC V.1 5) 12)) => absurd (show (vC V.1 7) = (jrem (vC V.1 5) 12) from (by rw [vC7, vC5])) h9) (fun _ => ?_)
  refine lv_iconst (v := 1) hx hb dL_isWell_514 (by decide) ?_
  refine lv_goto (tgt := 519) hx hb dL_isWell_515 (by decide) ?_
  rw [hQ]
  exact W.zret (ty := .boolean) hx hb hr rfl (fun t ht hW => ⟨rfl, ht⟩) (fun _ h => nomatch h) dL_isWell_519
