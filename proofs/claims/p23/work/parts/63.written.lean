/-! isWritten -/
set_option maxHeartbeats 4000000 in
set_option maxRecDepth 100000 in
theorem c_L_isWritten (l : Launch) (G : GG) (tb : Nat × Nat × Nat) {γ : Nat} {V : OV} {W0 : va_W} (hI : OI G γ V W0) {K : Nat} (hDv : Dv K V.1) (hK9 : K + 400 ≤ 9999999) {a v : Nat} (ha : a < 192) (hv9 : v ≤ 255) : Nw G l yL_isWritten wsL_isWritten 6 160 6 818 [.ref γ, .int (nI a), .int (nI v)] W0 (sT tb) (some (.int 1)) (fun w1 => ∃ (k : Nat) (D : DS), s_X0_writeTo V.1 (nI a) (nI v) = (nI k, D) ∧ Dv (K + 400) D ∧ OI G γ (D, V.2.1, V.2.2) w1) := by
  obtain ⟨k, D, e1, hk0, hO, f276, f285, hf9, f390, f419, f430, f443, f463, f476, f492, f588, f620⟩ := wrF (V := V) hDv hK9 ha hv9
  intro sz
  refine Met.ofW (cc := cL_isWritten) (maxL := 22) (ret := (some .boolean)) (by decide) rfl ?_
  intro p e s m args below meth c s₁ B hml hv
  obtain ⟨rfl, hsz, hP, hK, hD0, hT⟩ := hv
  have C0 : cA p s m meth c ([.ref γ, .int (nI a), .int (nI v)] : List Value).toArray cL_isWritten 22 (some .boolean) wsL_isWritten RL := ⟨B.exec, B.bytes, B.returns, hml, findClass_of_methodNamed B.named, atoms_spec (ws := wsL_isWritten) B.pre, B.notSynchronized⟩
  obtain ⟨hx, hb, hr, hml, hown, hts, hlocks⟩ := id C0
  have hF : CallFix p m c cL_isWritten 22 s ([.ref γ, .int (nI a), .int (nI v)] : List Value).toArray wsL_isWritten RL := ⟨hx, hb, hml, hown, hts⟩
  subst hsz
  obtain ⟨A9, hA9⟩ : ∃ A9 : Nat → Prop, A9 = va_A W0 s.heap.size := ⟨_, rfl⟩
  have hD : va_D A9 W0 := by rw [hA9]; exact hD0.self
  have hA : ∀ q : Nat, s.heap.size ≤ q → A9 q := fun q h => by rw [hA9]; exact Or.inr h
  have hT : sT tb A9 s := by rw [hA9]; exact hT
  have hS : va_S A9 s.heap s.heap [] := va_S.rf
  obtain ⟨Q, hQ⟩ : ∃ Q : State → Prop, Q = MQ below (QN G W0 s.heap.size (some (.int 1)) (fun w1 => ∃ (k : Nat) (D : DS), s_X0_writeTo V.1 (nI a) (nI v) = (nI k, D) ∧ Dv (K + 400) D ∧ OI G γ (D, V.2.1, V.2.2) w1)) ([.ref γ, .int (nI a), .int (nI v)] : List Value).toArray s 6 818 (va_A W0 s.heap.size) := ⟨_, rfl⟩
  rw [← hQ]
  have hl := lv_entry ([.ref γ, .int (nI a), .int (nI v)]) (n := 22) (Nat.le_of_ble_eq_true rfl)
  rw [lg_entry_eq]
  generalize (lg_sl ([.ref γ, .int (nI a), .int (nI v)]) ++ List.replicate (22 - (lg_sl ([.ref γ, .int (nI a), .int (nI v)])).length) Slot.unset).toArray = ls at hl ⊢
  have hl : lv_has ls 22 [(0, .ref γ), (1, .int (nI a)), (2, .int (nI v))] := hl
  rcases hf9 with ⟨hw9, f307, f352, f365⟩ | ⟨hw9, f307, f319, f333, f343⟩
  · skip
    refine lv_aload_n hx hb dL_isWritten_0 rfl (lv_at hl 0 rfl) ?_
    refine lv_iload_n hx hb dL_isWritten_1 rfl (lv_at hl 1 rfl) ?_
    refine lv_iconst (v := 0) hx hb dL_isWritten_2 (by decide) ?_
    refine rdV (As := [.int (nI a), .int 0]) (rest := []) (o_sector l hI (nI a) 0) hF (cwV 2 hts gL_isWritten_X4_sector rfl rfl rfl (by decide +kernel) ⟨Nat.le_of_ble_eq_true rfl, Nat.le_of_ble_eq_true rfl⟩) (hI.recv hK hP) hK hP rfl hl.1 rfl (Nat.le_of_ble_eq_true rfl) dL_isWritten_3 ⟨Nat.le_of_ble_eq_true rfl, Nat.le_of_ble_eq_true rfl⟩ ?_
    refine lv_istore_n (lv' := [(3, .int (vS V.1 (nI a) 0)), (0, .ref γ), (1, .int (nI a)), (2, .int (nI v))]) hx hb dL_isWritten_6 rfl hl (by decide) rfl (fun ls hl => ?_)
    refine lv_aload_n hx hb dL_isWritten_7 rfl (lv_at hl 1 rfl) ?_
    refine lv_iload_n hx hb dL_isWritten_8 rfl (lv_at hl 2 rfl) ?_
    refine lv_iconst (v := 4) hx hb dL_isWritten_9 (by decide) ?_
    refine rdV (As := [.int (nI a), .int 4]) (rest := []) (o_sector l hI (nI a) 4) hF (cwV 2 hts gL_isWritten_X4_sector rfl rfl rfl (by decide +kernel) ⟨Nat.le_of_ble_eq_true rfl, Nat.le_of_ble_eq_true rfl⟩) (hI.recv hK hP) hK hP rfl hl.1 rfl (Nat.le_of_ble_eq_true rfl) dL_isWritten_10 ⟨Nat.le_of_ble_eq_true rfl, Nat.le_of_ble_eq_true rfl⟩ ?_
    refine lv_aload_n hx hb dL_isWritten_13 rfl (lv_at hl 1 rfl) ?_
    refine lv_iconst (v := 3) hx hb dL_isWritten_14 (by decide) ?_
    refine rdTV (As := [.int 3]) (rest := [.int (vS V.1 (nI a) 4)]) (o_count l tb hI 3 (by decide) (by decide)) hF (cwV 1 hts gL_isWritten_X4_count rfl rfl rfl (by decide +kernel) ⟨Nat.le_of_ble_eq_true rfl, Nat.le_of_ble_eq_true rfl⟩) (hI.recv hK hP) hK hP hT hS rfl hl.1 rfl (Nat.le_of_ble_eq_true rfl) dL_isWritten_15 ⟨Nat.le_of_ble_eq_true rfl, Nat.le_of_ble_eq_true rfl⟩ ?_
    have K35_3 : ∀ ls : Array Slot, lv_has ls 22 [(0, .ref γ), (1, .int (nI a)), (2, .int (nI v)), (3, .int (vS V.1 (nI a) 0))] → W p l e (headSpec wsL_isWritten (rmN 6 160 6 818)).room s m ([.ref γ, .int (nI a), .int (nI v)] : List Value).toArray below meth c s.heap [] (0) (0) Q (F0 m 35 ls [.int (mv35_isWritten V D a)]) := by
      intro ls hl
      refine lv_istore (lv' := [(4, .int (mv35_isWritten V D a)), (0, .ref γ), (1, .int (nI a)), (2, .int (nI v)), (3, .int (vS V.1 (nI a) 0))]) hx hb dL_isWritten_35 hl (by decide) rfl (fun ls hl => ?_)
      refine lv_aload_n hx hb dL_isWritten_37 rfl (lv_at hl 1 rfl) ?_
      refine lv_bipush (v := 8) hx hb dL_isWritten_38 (by decide) ?_
      refine rdTV (As := [.int 8]) (rest := []) (o_count l tb hI 8 (by decide) (by decide)) hF (cwV 1 hts gL_isWritten_X4_count rfl rfl rfl (by decide +kernel) ⟨Nat.le_of_ble_eq_true rfl, Nat.le_of_ble_eq_true rfl⟩) (hI.recv hK hP) hK hP hT hS rfl hl.1 rfl (Nat.le_of_ble_eq_true rfl) dL_isWritten_40 ⟨Nat.le_of_ble_eq_true rfl, Nat.le_of_ble_eq_true rfl⟩ ?_
      refine lv_istore (lv' := [(5, .int (vC V.1 8)), (4, .int (mv35_isWritten V D a)), (0, .ref γ), (1, .int (nI a)), (2, .int (nI v)), (3, .int (vS V.1 (nI a) 0))]) hx hb dL_isWritten_43 hl (by decide) rfl (fun ls hl => ?_)
      refine lv_aload_n hx hb dL_isWritten_45 rfl (lv_at hl 2 rfl) ?_
      refine lv_bipush (v := 11) hx hb dL_isWritten_46 (by decide) ?_
      refine rdTV (As := [.int 11]) (rest := []) (o_count l tb hI 11 (by decide) (by decide)) hF (cwV 1 hts gL_isWritten_X4_count rfl rfl rfl (by decide +kernel) ⟨Nat.le_of_ble_eq_true rfl, Nat.le_of_ble_eq_true rfl⟩) (hI.recv hK hP) hK hP hT hS rfl hl.1 rfl (Nat.le_of_ble_eq_true rfl) dL_isWritten_48 ⟨Nat.le_of_ble_eq_true rfl, Nat.le_of_ble_eq_true rfl⟩ ?_
      refine lv_istore (lv' := [(6, .int (vC V.1 11)), (5, .int (vC V.1 8)), (4, .int (mv35_isWritten V D a)), (0, .ref γ), (1, .int (nI a)), (2, .int (nI v)), (3, .int (vS V.1 (nI a) 0))]) hx hb dL_isWritten_51 hl (by decide) rfl (fun ls hl => ?_)
      refine lv_aload_n hx hb dL_isWritten_53 rfl (lv_at hl 3 rfl) ?_
      refine lv_bipush (v := 13) hx hb dL_isWritten_54 (by decide) ?_
      refine rdTV (As := [.int 13]) (rest := []) (o_count l tb hI 13 (by decide) (by decide)) hF (cwV 1 hts gL_isWritten_X4_count rfl rfl rfl (by decide +kernel) ⟨Nat.le_of_ble_eq_true rfl, Nat.le_of_ble_eq_true rfl⟩) (hI.recv hK hP) hK hP hT hS rfl hl.1 rfl (Nat.le_of_ble_eq_true rfl) dL_isWritten_56 ⟨Nat.le_of_ble_eq_true rfl, Nat.le_of_ble_eq_true rfl⟩ ?_
      refine lv_aload_n hx hb dL_isWritten_59 rfl (lv_at hl 3 rfl) ?_
      refine lv_bipush (v := 14) hx hb dL_isWritten_60 (by decide) ?_
      refine rdTV (As := [.int 14]) (rest := [.int (vC V.1 13)]) (o_count l tb hI 14 (by decide) (by decide)) hF (cwV 1 hts gL_isWritten_X4_count rfl rfl rfl (by decide +kernel) ⟨Nat.le_of_ble_eq_true rfl, Nat.le_of_ble_eq_true rfl⟩) (hI.recv hK hP) hK hP hT hS rfl hl.1 rfl (Nat.le_of_ble_eq_true rfl) dL_isWritten_62 ⟨Nat.le_of_ble_eq_true rfl, Nat.le_of_ble_eq_true rfl⟩ ?_
      refine lv_iadd hx hb dL_isWritten_65 ?_
      refine lv_istore (lv' := [(7, .int ((vC V.1 13) + (vC V.1 14))), (6, .int (vC V.1 11)), (5, .int (vC V.1 8)), (4, .int (mv35_isWritten V D a)), (0, .ref γ), (1, .int (nI a)), (2, .int (nI v)), (3, .int (vS V.1 (nI a) 0))]) hx hb dL_isWritten_66 hl (by decide) rfl (fun ls hl => ?_)
      refine lv_iload_n hx hb dL_isWritten_68 rfl (lv_at hl 5 rfl) ?_
      refine lv_bipush (v := 12) hx hb dL_isWritten_69 (by decide) ?_
      refine lv_iadd hx hb dL_isWritten_71 ?_
      refine lv_sipush (v := 192) hx hb dL_isWritten_72 (by decide) ?_
      have K91_5 : ∀ ls : Array Slot, lv_has ls 22 [(0, .ref γ), (1, .int (nI a)), (2, .int (nI v)), (3, .int (vS V.1 (nI a) 0)), (4, .int (mv35_isWritten V D a)), (5, .int (vC V.1 8)), (6, .int (vC V.1 11)), (7, .int ((vC V.1 13) + (vC V.1 14)))] → W p l e (headSpec wsL_isWritten (rmN 6 160 6 818)).room s m ([.ref γ, .int (nI a), .int (nI v)] : List Value).toArray below meth c s.heap [] (0) (0) Q (F0 m 91 ls [.int (mv91_isWritten V D a)]) := by
        intro ls hl
        refine lv_istore (lv' := [(8, .int (mv91_isWritten V D a)), (0, .ref γ), (1, .int (nI a)), (2, .int (nI v)), (3, .int (vS V.1 (nI a) 0)), (4, .int (mv35_isWritten V D a)), (5, .int (vC V.1 8)), (6, .int (vC V.1 11)), (7, .int ((vC V.1 13) + (vC V.1 14)))]) hx hb dL_isWritten_91 hl (by decide) rfl (fun ls hl => ?_)
        refine lv_iload_n hx hb dL_isWritten_93 rfl (lv_at hl 2 rfl) ?_
        refine lv_bipush (v := 24) hx hb dL_isWritten_94 (by decide) ?_
        refine lv_isub hx hb dL_isWritten_96 ?_
        have K113_7 : ∀ ls : Array Slot, lv_has ls 22 [(0, .ref γ), (1, .int (nI a)), (2, .int (nI v)), (3, .int (vS V.1 (nI a) 0)), (4, .int (mv35_isWritten V D a)), (5, .int (vC V.1 8)), (6, .int (vC V.1 11)), (7, .int ((vC V.1 13) + (vC V.1 14))), (8, .int (mv91_isWritten V D a))] → W p l e (headSpec wsL_isWritten (rmN 6 160 6 818)).room s m ([.ref γ, .int (nI a), .int (nI v)] : List Value).toArray below meth c s.heap [] (0) (0) Q (F0 m 113 ls [.int (mv113_isWritten V D a)]) := by
          intro ls hl
          refine lv_istore (lv' := [(9, .int (mv113_isWritten V D a)), (0, .ref γ), (1, .int (nI a)), (2, .int (nI v)), (3, .int (vS V.1 (nI a) 0)), (4, .int (mv35_isWritten V D a)), (5, .int (vC V.1 8)), (6, .int (vC V.1 11)), (7, .int ((vC V.1 13) + (vC V.1 14))), (8, .int (mv91_isWritten V D a))]) hx hb dL_isWritten_113 hl (by decide) rfl (fun ls hl => ?_)
          refine lv_iload_n hx hb dL_isWritten_115 rfl (lv_at hl 2 rfl) ?_
          refine lv_bipush (v := 12) hx hb dL_isWritten_116 (by decide) ?_
          refine lv_iadd hx hb dL_isWritten_118 ?_
          refine lv_sipush (v := 192) hx hb dL_isWritten_119 (by decide) ?_
          have K154_11 : ∀ ls : Array Slot, lv_has ls 22 [(0, .ref γ), (1, .int (nI a)), (2, .int (nI v)), (3, .int (vS V.1 (nI a) 0)), (4, .int (mv35_isWritten V D a)), (5, .int (vC V.1 8)), (6, .int (vC V.1 11)), (7, .int ((vC V.1 13) + (vC V.1 14))), (8, .int (mv91_isWritten V D a)), (9, .int (mv113_isWritten V D a))] → W p l e (headSpec wsL_isWritten (rmN 6 160 6 818)).room s m ([.ref γ, .int (nI a), .int (nI v)] : List Value).toArray below meth c s.heap [] (0) (0) Q (F0 m 154 ls [.int (mv154_isWritten V D a)]) := by
            intro ls hl
            refine lv_istore (lv' := [(10, .int (mv154_isWritten V D a)), (0, .ref γ), (1, .int (nI a)), (2, .int (nI v)), (3, .int (vS V.1 (nI a) 0)), (4, .int (mv35_isWritten V D a)), (5, .int (vC V.1 8)), (6, .int (vC V.1 11)), (7, .int ((vC V.1 13) + (vC V.1 14))), (8, .int (mv91_isWritten V D a)), (9, .int (mv113_isWritten V D a))]) hx hb dL_isWritten_154 hl (by decide) rfl (fun ls hl => ?_)
            refine lv_iload_n hx hb dL_isWritten_156 rfl (lv_at hl 2 rfl) ?_
            refine lv_bipush (v := 24) hx hb dL_isWritten_157 (by decide) ?_
            refine lv_isub hx hb dL_isWritten_159 ?_
            have K192_15 : ∀ ls : Array Slot, lv_has ls 22 [(0, .ref γ), (1, .int (nI a)), (2, .int (nI v)), (3, .int (vS V.1 (nI a) 0)), (4, .int (mv35_isWritten V D a)), (5, .int (vC V.1 8)), (6, .int (vC V.1 11)), (7, .int ((vC V.1 13) + (vC V.1 14))), (8, .int (mv91_isWritten V D a)), (9, .int (mv113_isWritten V D a)), (10, .int (mv154_isWritten V D a))] → W p l e (headSpec wsL_isWritten (rmN 6 160 6 818)).room s m ([.ref γ, .int (nI a), .int (nI v)] : List Value).toArray below meth c s.heap [] (0) (0) Q (F0 m 192 ls [.int (mv192_isWritten V D a)]) := by
              intro ls hl
              refine lv_istore (lv' := [(11, .int (mv192_isWritten V D a)), (0, .ref γ), (1, .int (nI a)), (2, .int (nI v)), (3, .int (vS V.1 (nI a) 0)), (4, .int (mv35_isWritten V D a)), (5, .int (vC V.1 8)), (6, .int (vC V.1 11)), (7, .int ((vC V.1 13) + (vC V.1 14))), (8, .int (mv91_isWritten V D a)), (9, .int (mv113_isWritten V D a)), (10, .int (mv154_isWritten V D a))]) hx hb dL_isWritten_192 hl (by decide) rfl (fun ls hl => ?_)
              refine lv_aload_n hx hb dL_isWritten_194 rfl (lv_at hl 1 rfl) ?_
              refine lv_iconst (v := 5) hx hb dL_isWritten_195 (by decide) ?_
              refine rdTV (As := [.int 5]) (rest := []) (o_count l tb hI 5 (by decide) (by decide)) hF (cwV 1 hts gL_isWritten_X4_count rfl rfl rfl (by decide +kernel) ⟨Nat.le_of_ble_eq_true rfl, Nat.le_of_ble_eq_true rfl⟩) (hI.recv hK hP) hK hP hT hS rfl hl.1 rfl (Nat.le_of_ble_eq_true rfl) dL_isWritten_196 ⟨Nat.le_of_ble_eq_true rfl, Nat.le_of_ble_eq_true rfl⟩ ?_
              refine lv_istore (lv' := [(12, .int (vC V.1 5)), (11, .int (mv192_isWritten V D a)), (0, .ref γ), (1, .int (nI a)), (2, .int (nI v)), (3, .int (vS V.1 (nI a) 0)), (4, .int (mv35_isWritten V D a)), (5, .int (vC V.1 8)), (6, .int (vC V.1 11)), (7, .int ((vC V.1 13) + (vC V.1 14))), (8, .int (mv91_isWritten V D a)), (9, .int (mv113_isWritten V D a)), (10, .int (mv154_isWritten V D a))]) hx hb dL_isWritten_199 hl (by decide) rfl (fun ls hl => ?_)
              refine lv_aload_n hx hb dL_isWritten_201 rfl (lv_at hl 2 rfl) ?_
              refine lv_bipush (v := 6) hx hb dL_isWritten_202 (by decide) ?_
              refine rdTV (As := [.int 6]) (rest := []) (o_count l tb hI 6 (by decide) (by decide)) hF (cwV 1 hts gL_isWritten_X4_count rfl rfl rfl (by decide +kernel) ⟨Nat.le_of_ble_eq_true rfl, Nat.le_of_ble_eq_true rfl⟩) (hI.recv hK hP) hK hP hT hS rfl hl.1 rfl (Nat.le_of_ble_eq_true rfl) dL_isWritten_204 ⟨Nat.le_of_ble_eq_true rfl, Nat.le_of_ble_eq_true rfl⟩ ?_
              refine lv_istore (lv' := [(13, .int (vC V.1 6)), (12, .int (vC V.1 5)), (11, .int (mv192_isWritten V D a)), (0, .ref γ), (1, .int (nI a)), (2, .int (nI v)), (3, .int (vS V.1 (nI a) 0)), (4, .int (mv35_isWritten V D a)), (5, .int (vC V.1 8)), (6, .int (vC V.1 11)), (7, .int ((vC V.1 13) + (vC V.1 14))), (8, .int (mv91_isWritten V D a)), (9, .int (mv113_isWritten V D a)), (10, .int (mv154_isWritten V D a))]) hx hb dL_isWritten_207 hl (by decide) rfl (fun ls hl => ?_)
              refine lv_aload_n hx hb dL_isWritten_209 rfl (lv_at hl 3 rfl) ?_
              refine lv_iload_n hx hb dL_isWritten_210 rfl (lv_at hl 4 rfl) ?_
              refine lv_iconst (v := 4) hx hb dL_isWritten_211 (by decide) ?_
              refine rdV (As := [.int (nI a), .int 4]) (rest := []) (o_sector l hI (nI a) 4) hF (cwV 2 hts gL_isWritten_X4_sector rfl rfl rfl (by decide +kernel) ⟨Nat.le_of_ble_eq_true rfl, Nat.le_of_ble_eq_true rfl⟩) (hI.recv hK hP) hK hP rfl hl.1 rfl (Nat.le_of_ble_eq_true rfl) dL_isWritten_212 ⟨Nat.le_of_ble_eq_true rfl, Nat.le_of_ble_eq_true rfl⟩ ?_
              refine lv_istore (lv' := [(14, .int (vS V.1 (nI a) 4)), (13, .int (vC V.1 6)), (12, .int (vC V.1 5)), (11, .int (mv192_isWritten V D a)), (0, .ref γ), (1, .int (nI a)), (2, .int (nI v)), (3, .int (vS V.1 (nI a) 0)), (4, .int (mv35_isWritten V D a)), (5, .int (vC V.1 8)), (6, .int (vC V.1 11)), (7, .int ((vC V.1 13) + (vC V.1 14))), (8, .int (mv91_isWritten V D a)), (9, .int (mv113_isWritten V D a)), (10, .int (mv154_isWritten V D a))]) hx hb dL_isWritten_215 hl (by decide) rfl (fun ls hl => ?_)
              refine lv_aload_n hx hb dL_isWritten_217 rfl (lv_at hl 4 rfl) ?_
              refine lv_iload_n hx hb dL_isWritten_218 rfl (lv_at hl 5 rfl) ?_
              refine lv_iload_n hx hb dL_isWritten_219 rfl (lv_at hl 6 rfl) ?_
              refine nwV0 (As := [.int (nI a), .int (nI v)]) (rest := []) (o_writeE l tb hI ha hv9 e1 hk0) hF (cwV 2 hts gL_isWritten_X4_write rfl rfl rfl (by decide +kernel) ⟨Nat.le_of_ble_eq_true rfl, Nat.le_of_ble_eq_true rfl⟩) (hI.recv hK hP) hK hP hD hS hA hT rfl hl.1 rfl (Nat.le_of_ble_eq_true rfl) dL_isWritten_220 ⟨Nat.le_of_ble_eq_true rfl, Nat.le_of_ble_eq_true rfl⟩ (fun W16 H locs hI17 hP hD hS => ?_)
              refine lv_istore (lv' := [(15, .int (nI k)), (14, .int (vS V.1 (nI a) 4)), (13, .int (vC V.1 6)), (12, .int (vC V.1 5)), (11, .int (mv192_isWritten V D a)), (0, .ref γ), (1, .int (nI a)), (2, .int (nI v)), (3, .int (vS V.1 (nI a) 0)), (4, .int (mv35_isWritten V D a)), (5, .int (vC V.1 8)), (6, .int (vC V.1 11)), (7, .int ((vC V.1 13) + (vC V.1 14))), (8, .int (mv91_isWritten V D a)), (9, .int (mv113_isWritten V D a)), (10, .int (mv154_isWritten V D a))]) hx hb dL_isWritten_223 hl (by decide) rfl (fun ls hl => ?_)
              refine lv_aload_n hx hb dL_isWritten_225 rfl (lv_at hl 5 rfl) ?_
              refine lv_iload_n hx hb dL_isWritten_226 rfl (lv_at hl 6 rfl) ?_
              refine lv_iconst (v := 0) hx hb dL_isWritten_227 (by decide) ?_
              refine rdV (As := [.int (nI a), .int 0]) (rest := []) (o_sector l hI17 (nI a) 0) hF (cwV 2 hts gL_isWritten_X4_sector rfl rfl rfl (by decide +kernel) ⟨Nat.le_of_ble_eq_true rfl, Nat.le_of_ble_eq_true rfl⟩) (hI17.recv hK hP) hK hP rfl hl.1 rfl (Nat.le_of_ble_eq_true rfl) dL_isWritten_228 ⟨Nat.le_of_ble_eq_true rfl, Nat.le_of_ble_eq_true rfl⟩ ?_
              refine lv_istore (lv' := [(16, .int (vS D (nI a) 0)), (15, .int (nI k)), (14, .int (vS V.1 (nI a) 4)), (13, .int (vC V.1 6)), (12, .int (vC V.1 5)), (11, .int (mv192_isWritten V D a)), (0, .ref γ), (1, .int (nI a)), (2, .int (nI v)), (3, .int (vS V.1 (nI a) 0)), (4, .int (mv35_isWritten V D a)), (5, .int (vC V.1 8)), (6, .int (vC V.1 11)), (7, .int ((vC V.1 13) + (vC V.1 14))), (8, .int (mv91_isWritten V D a)), (9, .int (mv113_isWritten V D a)), (10, .int (mv154_isWritten V D a))]) hx hb dL_isWritten_231 hl (by decide) rfl (fun ls hl => ?_)
              refine lv_iload hx hb dL_isWritten_233 (lv_at hl 0 rfl) ?_
              refine lv_iload hx hb dL_isWritten_235 (lv_at hl 3 rfl) ?_
              have K253_19 : ∀ ls : Array Slot, lv_has ls 22 [(0, .ref γ), (1, .int (nI a)), (2, .int (nI v)), (3, .int (vS V.1 (nI a) 0)), (4, .int (mv35_isWritten V D a)), (5, .int (vC V.1 8)), (6, .int (vC V.1 11)), (7, .int ((vC V.1 13) + (vC V.1 14))), (8, .int (mv91_isWritten V D a)), (9, .int (mv113_isWritten V D a)), (10, .int (mv154_isWritten V D a)), (11, .int (mv192_isWritten V D a)), (12, .int (vC V.1 5)), (13, .int (vC V.1 6)), (14, .int (vS V.1 (nI a) 4)), (15, .int (nI k)), (16, .int (vS D (nI a) 0))] → W p l e (headSpec wsL_isWritten (rmN 6 160 6 818)).room s m ([.ref γ, .int (nI a), .int (nI v)] : List Value).toArray below meth c H locs (0 + 6) (0 + 818) Q (F0 m 253 ls [.int (mv253_isWritten V D a)]) := by
                intro ls hl
                refine lv_istore (lv' := [(17, .int (mv253_isWritten V D a)), (0, .ref γ), (1, .int (nI a)), (2, .int (nI v)), (3, .int (vS V.1 (nI a) 0)), (4, .int (mv35_isWritten V D a)), (5, .int (vC V.1 8)), (6, .int (vC V.1 11)), (7, .int ((vC V.1 13) + (vC V.1 14))), (8, .int (mv91_isWritten V D a)), (9, .int (mv113_isWritten V D a)), (10, .int (mv154_isWritten V D a)), (11, .int (mv192_isWritten V D a)), (12, .int (vC V.1 5)), (13, .int (vC V.1 6)), (14, .int (vS V.1 (nI a) 4)), (15, .int (nI k)), (16, .int (vS D (nI a) 0))]) hx hb dL_isWritten_253 hl (by decide) rfl (fun ls hl => ?_)
                refine lv_iload hx hb dL_isWritten_255 (lv_at hl 17 rfl) ?_
                refine lv_bipush (v := 16) hx hb dL_isWritten_257 (by decide) ?_
                have K267_21 : ∀ ls : Array Slot, lv_has ls 22 [(0, .ref γ), (1, .int (nI a)), (2, .int (nI v)), (3, .int (vS V.1 (nI a) 0)), (4, .int (mv35_isWritten V D a)), (5, .int (vC V.1 8)), (6, .int (vC V.1 11)), (7, .int ((vC V.1 13) + (vC V.1 14))), (8, .int (mv91_isWritten V D a)), (9, .int (mv113_isWritten V D a)), (10, .int (mv154_isWritten V D a)), (11, .int (mv192_isWritten V D a)), (12, .int (vC V.1 5)), (13, .int (vC V.1 6)), (14, .int (vS V.1 (nI a) 4)), (15, .int (nI k)), (16, .int (vS D (nI a) 0)), (17, .int (mv253_isWritten V D a))] → W p l e (headSpec wsL_isWritten (rmN 6 160 6 818)).room s m ([.ref γ, .int (nI a), .int (nI v)] : List Value).toArray below meth c H locs (0 + 6) (0 + 818) Q (F0 m 267 ls [.int (mv267_isWritten V D a)]) := by
                  intro ls hl
                  refine lv_istore (lv' := [(18, .int (mv267_isWritten V D a)), (0, .ref γ), (1, .int (nI a)), (2, .int (nI v)), (3, .int (vS V.1 (nI a) 0)), (4, .int (mv35_isWritten V D a)), (5, .int (vC V.1 8)), (6, .int (vC V.1 11)), (7, .int ((vC V.1 13) + (vC V.1 14))), (8, .int (mv91_isWritten V D a)), (9, .int (mv113_isWritten V D a)), (10, .int (mv154_isWritten V D a)), (11, .int (mv192_isWritten V D a)), (12, .int (vC V.1 5)), (13, .int (vC V.1 6)), (14, .int (vS V.1 (nI a) 4)), (15, .int (nI k)), (16, .int (vS D (nI a) 0)), (17, .int (mv253_isWritten V D a))]) hx hb dL_isWritten_267 hl (by decide) rfl (fun ls hl => ?_)
                  refine lv_aload_n hx hb dL_isWritten_269 rfl (lv_at hl 1 rfl) ?_
                  refine lv_iload_n hx hb dL_isWritten_270 rfl (lv_at hl 2 rfl) ?_
                  refine lv_iconst (v := 2) hx hb dL_isWritten_271 (by decide) ?_
                  refine rdV (As := [.int (nI a), .int 2]) (rest := []) (o_sector l hI17 (nI a) 2) hF (cwV 2 hts gL_isWritten_X4_sector rfl rfl rfl (by decide +kernel) ⟨Nat.le_of_ble_eq_true rfl, Nat.le_of_ble_eq_true rfl⟩) (hI17.recv hK hP) hK hP rfl hl.1 rfl (Nat.le_of_ble_eq_true rfl) dL_isWritten_272 ⟨Nat.le_of_ble_eq_true rfl, Nat.le_of_ble_eq_true rfl⟩ ?_
                  refine lv_iload_n hx hb dL_isWritten_275 rfl (lv_at hl 3 rfl) ?_
                  refine lv_icmp_ne (tgt := 372) hx hb dL_isWritten_276 (by decide) (fun h9 : ¬ ((vS D (nI a) 2) = (nI v)) => absurd (show (vS D (nI a) 2) = (nI v) from f276) h9) (fun _ => ?_)
                  refine lv_aload_n hx hb dL_isWritten_279 rfl (lv_at hl 1 rfl) ?_
                  refine lv_iload_n hx hb dL_isWritten_280 rfl (lv_at hl 2 rfl) ?_
                  refine lv_iconst (v := 3) hx hb dL_isWritten_281 (by decide) ?_
                  refine rdV (As := [.int (nI a), .int 3]) (rest := []) (o_sector l hI17 (nI a) 3) hF (cwV 2 hts gL_isWritten_X4_sector rfl rfl rfl (by decide +kernel) ⟨Nat.le_of_ble_eq_true rfl, Nat.le_of_ble_eq_true rfl⟩) (hI17.recv hK hP) hK hP rfl hl.1 rfl (Nat.le_of_ble_eq_true rfl) dL_isWritten_282 ⟨Nat.le_of_ble_eq_true rfl, Nat.le_of_ble_eq_true rfl⟩ ?_
                  refine lv_if_ne (tgt := 372) hx hb dL_isWritten_285 (by decide) (fun h9 : ¬ ((vS D (nI a) 3) = 0) => absurd (show (vS D (nI a) 3) = 0 from f285) h9) (fun _ => ?_)
                  refine lv_aload_n hx hb dL_isWritten_288 rfl (lv_at hl 1 rfl) ?_
                  refine lv_bipush (v := 8) hx hb dL_isWritten_289 (by decide) ?_
                  refine rdTV (As := [.int 8]) (rest := []) (o_count l tb hI17 8 (by decide) (by decide)) hF (cwV 1 hts gL_isWritten_X4_count rfl rfl rfl (by decide +kernel) ⟨Nat.le_of_ble_eq_true rfl, Nat.le_of_ble_eq_true rfl⟩) (hI17.recv hK hP) hK hP hT hS rfl hl.1 rfl (Nat.le_of_ble_eq_true rfl) dL_isWritten_291 ⟨Nat.le_of_ble_eq_true rfl, Nat.le_of_ble_eq_true rfl⟩ ?_
                  refine lv_iload hx hb dL_isWritten_294 (lv_at hl 6 rfl) ?_
                  refine lv_iload hx hb dL_isWritten_296 (lv_at hl 5 rfl) ?_
                  refine lv_if_eq (tgt := 305) hx hb dL_isWritten_298 (by decide) (fun _ => ?_) (fun h9 : ¬ ((mv35_isWritten V D a) = 0) => absurd (show (mv35_isWritten V D a) = 0 from hw9) h9)
                  refine lv_iconst (v := 0) hx hb dL_isWritten_305 (by decide) ?_
                  refine lv_isub hx hb dL_isWritten_306 ?_
                  refine lv_icmp_ne (tgt := 372) hx hb dL_isWritten_307 (by decide) (fun h9 : ¬ ((vC D 8) = ((vC V.1 8) - 0)) => absurd (show (vC D 8) = ((vC V.1 8) - 0) from f307) h9) (fun _ => ?_)
                  refine lv_iload hx hb dL_isWritten_310 (lv_at hl 5 rfl) ?_
                  refine lv_if_eq (tgt := 349) hx hb dL_isWritten_312 (by decide) (fun _ => ?_) (fun h9 : ¬ ((mv35_isWritten V D a) = 0) => absurd (show (mv35_isWritten V D a) = 0 from hw9) h9)
                  refine lv_iload hx hb dL_isWritten_349 (lv_at hl 17 rfl) ?_
                  refine lv_iload_n hx hb dL_isWritten_351 rfl (lv_at hl 4 rfl) ?_
                  refine lv_icmp_ne (tgt := 372) hx hb dL_isWritten_352 (by decide) (fun h9 : ¬ ((vS D (nI a) 0) = (vS V.1 (nI a) 0)) => absurd (show (vS D (nI a) 0) = (vS V.1 (nI a) 0) from f352) h9) (fun _ => ?_)
                  refine lv_aload_n hx hb dL_isWritten_355 rfl (lv_at hl 1 rfl) ?_
                  refine lv_iload_n hx hb dL_isWritten_356 rfl (lv_at hl 2 rfl) ?_
                  refine lv_iconst (v := 4) hx hb dL_isWritten_357 (by decide) ?_
                  refine rdV (As := [.int (nI a), .int 4]) (rest := []) (o_sector l hI17 (nI a) 4) hF (cwV 2 hts gL_isWritten_X4_sector rfl rfl rfl (by decide +kernel) ⟨Nat.le_of_ble_eq_true rfl, Nat.le_of_ble_eq_true rfl⟩) (hI17.recv hK hP) hK hP rfl hl.1 rfl (Nat.le_of_ble_eq_true rfl) dL_isWritten_358 ⟨Nat.le_of_ble_eq_true rfl, Nat.le_of_ble_eq_true rfl⟩ ?_
                  refine lv_iload hx hb dL_isWritten_361 (lv_at hl 15 rfl) ?_
                  refine lv_iconst (v := 1) hx hb dL_isWritten_363 (by decide) ?_
                  refine lv_iadd hx hb dL_isWritten_364 ?_
                  refine lv_icmp_ne (tgt := 372) hx hb dL_isWritten_365 (by decide) (fun h9 : ¬ ((vS D (nI a) 4) = ((vS V.1 (nI a) 4) + 1)) => absurd (show (vS D (nI a) 4) = ((vS V.1 (nI a) 4) + 1) from f365) h9) (fun _ => ?_)
                  refine lv_iconst (v := 1) hx hb dL_isWritten_368 (by decide) ?_
                  refine lv_goto (tgt := 373) hx hb dL_isWritten_369 (by decide) ?_
                  refine lv_istore (lv' := [(19, .int 1), (18, .int (mv267_isWritten V D a)), (0, .ref γ), (1, .int (nI a)), (2, .int (nI v)), (3, .int (vS V.1 (nI a) 0)), (4, .int (mv35_isWritten V D a)), (5, .int (vC V.1 8)), (6, .int (vC V.1 11)), (7, .int ((vC V.1 13) + (vC V.1 14))), (8, .int (mv91_isWritten V D a)), (9, .int (mv113_isWritten V D a)), (10, .int (mv154_isWritten V D a)), (11, .int (mv192_isWritten V D a)), (12, .int (vC V.1 5)), (13, .int (vC V.1 6)), (14, .int (vS V.1 (nI a) 4)), (15, .int (nI k)), (16, .int (vS D (nI a) 0)), (17, .int (mv253_isWritten V D a))]) hx hb dL_isWritten_373 hl (by decide) rfl (fun ls hl => ?_)
                  refine lv_iload hx hb dL_isWritten_375 (lv_at hl 0 rfl) ?_
                  refine lv_if_eq (tgt := 499) hx hb dL_isWritten_377 (by decide) (fun h9 : (1 : Int32) = 0 => absurd h9 (show ¬ ((1 : Int32) = 0) from (by decide))) (fun _ => ?_)
                  refine lv_aload_n hx hb dL_isWritten_380 rfl (lv_at hl 2 rfl) ?_
                  refine lv_bipush (v := 11) hx hb dL_isWritten_381 (by decide) ?_
                  refine rdTV (As := [.int 11]) (rest := []) (o_count l tb hI17 11 (by decide) (by decide)) hF (cwV 1 hts gL_isWritten_X4_count rfl rfl rfl (by decide +kernel) ⟨Nat.le_of_ble_eq_true rfl, Nat.le_of_ble_eq_true rfl⟩) (hI17.recv hK hP) hK hP hT hS rfl hl.1 rfl (Nat.le_of_ble_eq_true rfl) dL_isWritten_383 ⟨Nat.le_of_ble_eq_true rfl, Nat.le_of_ble_eq_true rfl⟩ ?_
                  refine lv_iload hx hb dL_isWritten_386 (lv_at hl 8 rfl) ?_
                  refine lv_iconst (v := 1) hx hb dL_isWritten_388 (by decide) ?_
                  refine lv_iadd hx hb dL_isWritten_389 ?_
                  refine lv_icmp_ne (tgt := 499) hx hb dL_isWritten_390 (by decide) (fun h9 : ¬ ((vC D 11) = ((vC V.1 11) + 1)) => absurd (show (vC D 11) = ((vC V.1 11) + 1) from f390) h9) (fun _ => ?_)
                  refine lv_aload_n hx hb dL_isWritten_393 rfl (lv_at hl 2 rfl) ?_
                  refine lv_bipush (v := 13) hx hb dL_isWritten_394 (by decide) ?_
                  refine rdTV (As := [.int 13]) (rest := []) (o_count l tb hI17 13 (by decide) (by decide)) hF (cwV 1 hts gL_isWritten_X4_count rfl rfl rfl (by decide +kernel) ⟨Nat.le_of_ble_eq_true rfl, Nat.le_of_ble_eq_true rfl⟩) (hI17.recv hK hP) hK hP hT hS rfl hl.1 rfl (Nat.le_of_ble_eq_true rfl) dL_isWritten_396 ⟨Nat.le_of_ble_eq_true rfl, Nat.le_of_ble_eq_true rfl⟩ ?_
                  refine lv_aload_n hx hb dL_isWritten_399 rfl (lv_at hl 2 rfl) ?_
                  refine lv_bipush (v := 14) hx hb dL_isWritten_400 (by decide) ?_
                  refine rdTV (As := [.int 14]) (rest := [.int (vC D 13)]) (o_count l tb hI17 14 (by decide) (by decide)) hF (cwV 1 hts gL_isWritten_X4_count rfl rfl rfl (by decide +kernel) ⟨Nat.le_of_ble_eq_true rfl, Nat.le_of_ble_eq_true rfl⟩) (hI17.recv hK hP) hK hP hT hS rfl hl.1 rfl (Nat.le_of_ble_eq_true rfl) dL_isWritten_402 ⟨Nat.le_of_ble_eq_true rfl, Nat.le_of_ble_eq_true rfl⟩ ?_
                  refine lv_iadd hx hb dL_isWritten_405 ?_
                  refine lv_iload hx hb dL_isWritten_406 (lv_at hl 9 rfl) ?_
                  refine lv_iload hx hb dL_isWritten_408 (lv_at hl 1 rfl) ?_
                  have K418_23 : ∀ ls : Array Slot, lv_has ls 22 [(0, .ref γ), (1, .int (nI a)), (2, .int (nI v)), (3, .int (vS V.1 (nI a) 0)), (4, .int (mv35_isWritten V D a)), (5, .int (vC V.1 8)), (6, .int (vC V.1 11)), (7, .int ((vC V.1 13) + (vC V.1 14))), (8, .int (mv91_isWritten V D a)), (9, .int (mv113_isWritten V D a)), (10, .int (mv154_isWritten V D a)), (11, .int (mv192_isWritten V D a)), (12, .int (vC V.1 5)), (13, .int (vC V.1 6)), (14, .int (vS V.1 (nI a) 4)), (15, .int (nI k)), (16, .int (vS D (nI a) 0)), (17, .int (mv253_isWritten V D a)), (18, .int (mv267_isWritten V D a)), (19, .int 1)] → W p l e (headSpec wsL_isWritten (rmN 6 160 6 818)).room s m ([.ref γ, .int (nI a), .int (nI v)] : List Value).toArray below meth c H locs (0 + 6) (0 + 818) Q (F0 m 418 ls [.int (mv418_isWritten V D a), .int ((vC V.1 13) + (vC V.1 14)), .int ((vC D 13) + (vC D 14))]) := by
                    intro ls hl
                    refine lv_iadd hx hb dL_isWritten_418 ?_
                    refine lv_icmp_ne (tgt := 499) hx hb dL_isWritten_419 (by decide) (fun h9 : ¬ (((vC D 13) + (vC D 14)) = (((vC V.1 13) + (vC V.1 14)) + (mv418_isWritten V D a))) => absurd (show ((vC D 13) + (vC D 14)) = (((vC V.1 13) + (vC V.1 14)) + (mv418_isWritten V D a)) from f419) h9) (fun _ => ?_)
                    refine lv_aload_n hx hb dL_isWritten_422 rfl (lv_at hl 0 rfl) ?_
                    refine lv_bipush (v := 6) hx hb dL_isWritten_423 (by decide) ?_
                    refine rdTV (As := [.int 6]) (rest := []) (o_count l tb hI17 6 (by decide) (by decide)) hF (cwV 1 hts gL_isWritten_X4_count rfl rfl rfl (by decide +kernel) ⟨Nat.le_of_ble_eq_true rfl, Nat.le_of_ble_eq_true rfl⟩) (hI17.recv hK hP) hK hP hT hS rfl hl.1 rfl (Nat.le_of_ble_eq_true rfl) dL_isWritten_425 ⟨Nat.le_of_ble_eq_true rfl, Nat.le_of_ble_eq_true rfl⟩ ?_
                    refine lv_iload hx hb dL_isWritten_428 (lv_at hl 16 rfl) ?_
                    refine lv_icmp_ne (tgt := 499) hx hb dL_isWritten_430 (by decide) (fun h9 : ¬ ((vC D 6) = (vS D (nI a) 0)) => absurd (show (vC D 6) = (vS D (nI a) 0) from f430) h9) (fun _ => ?_)
                    refine lv_aload_n hx hb dL_isWritten_433 rfl (lv_at hl 0 rfl) ?_
                    refine lv_iconst (v := 5) hx hb dL_isWritten_434 (by decide) ?_
                    refine rdTV (As := [.int 5]) (rest := []) (o_count l tb hI17 5 (by decide) (by decide)) hF (cwV 1 hts gL_isWritten_X4_count rfl rfl rfl (by decide +kernel) ⟨Nat.le_of_ble_eq_true rfl, Nat.le_of_ble_eq_true rfl⟩) (hI17.recv hK hP) hK hP hT hS rfl hl.1 rfl (Nat.le_of_ble_eq_true rfl) dL_isWritten_435 ⟨Nat.le_of_ble_eq_true rfl, Nat.le_of_ble_eq_true rfl⟩ ?_
                    refine lv_iload hx hb dL_isWritten_438 (lv_at hl 12 rfl) ?_
                    refine lv_iload hx hb dL_isWritten_440 (lv_at hl 15 rfl) ?_
                    refine lv_iadd hx hb dL_isWritten_442 ?_
                    refine lv_icmp_ne (tgt := 499) hx hb dL_isWritten_443 (by decide) (fun h9 : ¬ ((vC D 5) = ((vC V.1 5) + (nI k))) => absurd (show (vC D 5) = ((vC V.1 5) + (nI k)) from f443) h9) (fun _ => ?_)
                    refine lv_aload_n hx hb dL_isWritten_446 rfl (lv_at hl 0 rfl) ?_
                    refine lv_iconst (v := 5) hx hb dL_isWritten_447 (by decide) ?_
                    refine rdTV (As := [.int 5]) (rest := []) (o_count l tb hI17 5 (by decide) (by decide)) hF (cwV 1 hts gL_isWritten_X4_count rfl rfl rfl (by decide +kernel) ⟨Nat.le_of_ble_eq_true rfl, Nat.le_of_ble_eq_true rfl⟩) (hI17.recv hK hP) hK hP hT hS rfl hl.1 rfl (Nat.le_of_ble_eq_true rfl) dL_isWritten_448 ⟨Nat.le_of_ble_eq_true rfl, Nat.le_of_ble_eq_true rfl⟩ ?_
                    refine lv_iconst (v := 1) hx hb dL_isWritten_451 (by decide) ?_
                    refine lv_isub hx hb dL_isWritten_452 ?_
                    refine lv_aload_n hx hb dL_isWritten_453 rfl (lv_at hl 0 rfl) ?_
                    refine lv_iload_n hx hb dL_isWritten_454 rfl (lv_at hl 1 rfl) ?_
                    refine lv_iconst (v := 1) hx hb dL_isWritten_455 (by decide) ?_
                    refine rdV (As := [.int (nI a), .int 1]) (rest := [.int ((vC D 5) - 1)]) (o_sector l hI17 (nI a) 1) hF (cwV 2 hts gL_isWritten_X4_sector rfl rfl rfl (by decide +kernel) ⟨Nat.le_of_ble_eq_true rfl, Nat.le_of_ble_eq_true rfl⟩) (hI17.recv hK hP) hK hP rfl hl.1 rfl (Nat.le_of_ble_eq_true rfl) dL_isWritten_456 ⟨Nat.le_of_ble_eq_true rfl, Nat.le_of_ble_eq_true rfl⟩ ?_
                    refine lv_isub hx hb dL_isWritten_459 ?_
                    refine lv_bipush (v := 12) hx hb dL_isWritten_460 (by decide) ?_
                    refine lv_irem hx hb dL_isWritten_462 (by decide) ?_
                    refine lv_if_ne (tgt := 499) hx hb dL_isWritten_463 (by decide) (fun h9 : ¬ ((jrem (((vC D 5) - 1) - (vS D (nI a) 1)) 12) = 0) => absurd (show (jrem (((vC D 5) - 1) - (vS D (nI a) 1)) 12) = 0 from f463) h9) (fun _ => ?_)
                    refine lv_iload hx hb dL_isWritten_466 (lv_at hl 15 rfl) ?_
                    refine lv_iload hx hb dL_isWritten_468 (lv_at hl 17 rfl) ?_
                    refine lv_aload_n hx hb dL_isWritten_470 rfl (lv_at hl 0 rfl) ?_
                    refine lv_iconst (v := 4) hx hb dL_isWritten_471 (by decide) ?_
                    refine rdTV (As := [.int 4]) (rest := [.int (mv253_isWritten V D a), .int (nI k)]) (o_count l tb hI17 4 (by decide) (by decide)) hF (cwV 1 hts gL_isWritten_X4_count rfl rfl rfl (by decide +kernel) ⟨Nat.le_of_ble_eq_true rfl, Nat.le_of_ble_eq_true rfl⟩) (hI17.recv hK hP) hK hP hT hS rfl hl.1 rfl (Nat.le_of_ble_eq_true rfl) dL_isWritten_472 ⟨Nat.le_of_ble_eq_true rfl, Nat.le_of_ble_eq_true rfl⟩ ?_
                    refine lv_imul hx hb dL_isWritten_475 ?_
                    refine lv_icmp_le (tgt := 499) hx hb dL_isWritten_476 (by decide) (fun h9 : (nI k) ≤ ((mv253_isWritten V D a) * (vC D 4)) => absurd h9 (show ¬ ((nI k) ≤ ((mv253_isWritten V D a) * (vC D 4))) from f476)) (fun _ => ?_)
                    refine lv_iload hx hb dL_isWritten_479 (lv_at hl 15 rfl) ?_
                    refine lv_iload hx hb dL_isWritten_481 (lv_at hl 17 rfl) ?_
                    refine lv_aload_n hx hb dL_isWritten_483 rfl (lv_at hl 0 rfl) ?_
                    refine lv_iconst (v := 4) hx hb dL_isWritten_484 (by decide) ?_
                    refine rdTV (As := [.int 4]) (rest := [.int (mv253_isWritten V D a), .int (nI k)]) (o_count l tb hI17 4 (by decide) (by decide)) hF (cwV 1 hts gL_isWritten_X4_count rfl rfl rfl (by decide +kernel) ⟨Nat.le_of_ble_eq_true rfl, Nat.le_of_ble_eq_true rfl⟩) (hI17.recv hK hP) hK hP hT hS rfl hl.1 rfl (Nat.le_of_ble_eq_true rfl) dL_isWritten_485 ⟨Nat.le_of_ble_eq_true rfl, Nat.le_of_ble_eq_true rfl⟩ ?_
                    refine lv_imul hx hb dL_isWritten_488 ?_
                    refine lv_bipush (v := 12) hx hb dL_isWritten_489 (by decide) ?_
                    refine lv_iadd hx hb dL_isWritten_491 ?_
                    refine lv_icmp_gt (tgt := 499) hx hb dL_isWritten_492 (by decide) (fun h9 : (((mv253_isWritten V D a) * (vC D 4)) + 12) < (nI k) => absurd h9 (show ¬ ((((mv253_isWritten V D a) * (vC D 4)) + 12) < (nI k)) from f492)) (fun _ => ?_)
                    refine lv_iconst (v := 1) hx hb dL_isWritten_495 (by decide) ?_
                    refine lv_goto (tgt := 500) hx hb dL_isWritten_496 (by decide) ?_
                    refine lv_istore (lv' := [(19, .int 1), (0, .ref γ), (1, .int (nI a)), (2, .int (nI v)), (3, .int (vS V.1 (nI a) 0)), (4, .int (mv35_isWritten V D a)), (5, .int (vC V.1 8)), (6, .int (vC V.1 11)), (7, .int ((vC V.1 13) + (vC V.1 14))), (8, .int (mv91_isWritten V D a)), (9, .int (mv113_isWritten V D a)), (10, .int (mv154_isWritten V D a)), (11, .int (mv192_isWritten V D a)), (12, .int (vC V.1 5)), (13, .int (vC V.1 6)), (14, .int (vS V.1 (nI a) 4)), (15, .int (nI k)), (16, .int (vS D (nI a) 0)), (17, .int (mv253_isWritten V D a)), (18, .int (mv267_isWritten V D a))]) hx hb dL_isWritten_500 hl (by decide) rfl (fun ls hl => ?_)
                    refine lv_iload hx hb dL_isWritten_502 (lv_at hl 9 rfl) ?_
                    refine lv_iload hx hb dL_isWritten_504 (lv_at hl 19 rfl) ?_
                    have K523_26 : ∀ ls : Array Slot, lv_has ls 22 [(0, .ref γ), (1, .int (nI a)), (2, .int (nI v)), (3, .int (vS V.1 (nI a) 0)), (4, .int (mv35_isWritten V D a)), (5, .int (vC V.1 8)), (6, .int (vC V.1 11)), (7, .int ((vC V.1 13) + (vC V.1 14))), (8, .int (mv91_isWritten V D a)), (9, .int (mv113_isWritten V D a)), (10, .int (mv154_isWritten V D a)), (11, .int (mv192_isWritten V D a)), (12, .int (vC V.1 5)), (13, .int (vC V.1 6)), (14, .int (vS V.1 (nI a) 4)), (15, .int (nI k)), (16, .int (vS D (nI a) 0)), (17, .int (mv253_isWritten V D a)), (18, .int (mv267_isWritten V D a)), (19, .int 1)] → W p l e (headSpec wsL_isWritten (rmN 6 160 6 818)).room s m ([.ref γ, .int (nI a), .int (nI v)] : List Value).toArray below meth c H locs (0 + 6) (0 + 818) Q (F0 m 523 ls [.int (mv523_isWritten V D a), .int (mv91_isWritten V D a)]) := by
                      intro ls hl
                      refine lv_iadd hx hb dL_isWritten_523 ?_
                      refine lv_istore (lv' := [(20, .int ((mv91_isWritten V D a) + (mv523_isWritten V D a))), (0, .ref γ), (1, .int (nI a)), (2, .int (nI v)), (3, .int (vS V.1 (nI a) 0)), (4, .int (mv35_isWritten V D a)), (5, .int (vC V.1 8)), (6, .int (vC V.1 11)), (7, .int ((vC V.1 13) + (vC V.1 14))), (8, .int (mv91_isWritten V D a)), (9, .int (mv113_isWritten V D a)), (10, .int (mv154_isWritten V D a)), (11, .int (mv192_isWritten V D a)), (12, .int (vC V.1 5)), (13, .int (vC V.1 6)), (14, .int (vS V.1 (nI a) 4)), (15, .int (nI k)), (16, .int (vS D (nI a) 0)), (17, .int (mv253_isWritten V D a)), (18, .int (mv267_isWritten V D a)), (19, .int 1)]) hx hb dL_isWritten_524 hl (by decide) rfl (fun ls hl => ?_)
                      refine lv_iload hx hb dL_isWritten_526 (lv_at hl 10 rfl) ?_
                      refine lv_iload hx hb dL_isWritten_528 (lv_at hl 19 rfl) ?_
                      have K547_29 : ∀ ls : Array Slot, lv_has ls 22 [(0, .ref γ), (1, .int (nI a)), (2, .int (nI v)), (3, .int (vS V.1 (nI a) 0)), (4, .int (mv35_isWritten V D a)), (5, .int (vC V.1 8)), (6, .int (vC V.1 11)), (7, .int ((vC V.1 13) + (vC V.1 14))), (8, .int (mv91_isWritten V D a)), (9, .int (mv113_isWritten V D a)), (10, .int (mv154_isWritten V D a)), (11, .int (mv192_isWritten V D a)), (12, .int (vC V.1 5)), (13, .int (vC V.1 6)), (14, .int (vS V.1 (nI a) 4)), (15, .int (nI k)), (16, .int (vS D (nI a) 0)), (17, .int (mv253_isWritten V D a)), (18, .int (mv267_isWritten V D a)), (19, .int 1), (20, .int ((mv91_isWritten V D a) + (mv523_isWritten V D a)))] → W p l e (headSpec wsL_isWritten (rmN 6 160 6 818)).room s m ([.ref γ, .int (nI a), .int (nI v)] : List Value).toArray below meth c H locs (0 + 6) (0 + 818) Q (F0 m 547 ls [.int (mv547_isWritten V D a), .int (mv113_isWritten V D a)]) := by
                        intro ls hl
                        refine lv_iadd hx hb dL_isWritten_547 ?_
                        refine lv_istore (lv' := [(21, .int ((mv113_isWritten V D a) + (mv547_isWritten V D a))), (0, .ref γ), (1, .int (nI a)), (2, .int (nI v)), (3, .int (vS V.1 (nI a) 0)), (4, .int (mv35_isWritten V D a)), (5, .int (vC V.1 8)), (6, .int (vC V.1 11)), (7, .int ((vC V.1 13) + (vC V.1 14))), (8, .int (mv91_isWritten V D a)), (9, .int (mv113_isWritten V D a)), (10, .int (mv154_isWritten V D a)), (11, .int (mv192_isWritten V D a)), (12, .int (vC V.1 5)), (13, .int (vC V.1 6)), (14, .int (vS V.1 (nI a) 4)), (15, .int (nI k)), (16, .int (vS D (nI a) 0)), (17, .int (mv253_isWritten V D a)), (18, .int (mv267_isWritten V D a)), (19, .int 1), (20, .int ((mv91_isWritten V D a) + (mv523_isWritten V D a)))]) hx hb dL_isWritten_548 hl (by decide) rfl (fun ls hl => ?_)
                        refine lv_iload hx hb dL_isWritten_550 (lv_at hl 20 rfl) ?_
                        refine lv_if_eq (tgt := 627) hx hb dL_isWritten_552 (by decide) (fun h9 : (1 : Int32) = 0 => absurd h9 (show ¬ ((1 : Int32) = 0) from (by decide))) (fun _ => ?_)
                        refine lv_iload_n hx hb dL_isWritten_555 rfl (lv_at hl 2 rfl) ?_
                        refine lv_bipush (v := 12) hx hb dL_isWritten_556 (by decide) ?_
                        refine lv_iadd hx hb dL_isWritten_558 ?_
                        refine lv_sipush (v := 192) hx hb dL_isWritten_559 (by decide) ?_
                        refine lv_icmp_ge (tgt := 591) hx hb dL_isWritten_562 (by decide) (fun (c30 : 192 ≤ ((nI a) + 12)) => ?_) (fun (c30 : ¬ (192 ≤ ((nI a) + 12))) => ?_)
                        · skip
                          refine lv_iload_n hx hb dL_isWritten_591 rfl (lv_at hl 2 rfl) ?_
                          refine lv_bipush (v := 24) hx hb dL_isWritten_592 (by decide) ?_
                          refine lv_icmp_lt (tgt := 623) hx hb dL_isWritten_594 (by decide) (fun (c31 : (nI a) < 24) => ?_) (fun (c31 : ¬ ((nI a) < 24)) => ?_)
                          · skip
                            refine lv_iconst (v := 1) hx hb dL_isWritten_623 (by decide) ?_
                            refine lv_goto (tgt := 628) hx hb dL_isWritten_624 (by decide) ?_
                            subst hA9
                            refine W.widen (k := 6) (n := 818) (Nat.le_of_ble_eq_true rfl) (Nat.le_of_ble_eq_true rfl) ?_
                            rw [hQ]
                            exact W.zret (ty := .boolean) hx hb hr rfl (fun t ht hW => ⟨rfl, ⟨_, ⟨_, _, e1, hO, hI17⟩, by rw [ht]; exact hP, hD⟩, hS.F ht⟩) hS.2.2 dL_isWritten_628
                          · skip
                            refine lv_aload_n hx hb dL_isWritten_597 rfl (lv_at hl 1 rfl) ?_
                            refine lv_iload_n hx hb dL_isWritten_598 rfl (lv_at hl 2 rfl) ?_
                            refine lv_bipush (v := 24) hx hb dL_isWritten_599 (by decide) ?_
                            refine lv_isub hx hb dL_isWritten_601 ?_
                            refine lv_iconst (v := 3) hx hb dL_isWritten_602 (by decide) ?_
                            refine rdV (As := [.int ((nI a) - 24), .int 3]) (rest := []) (o_sector l hI17 ((nI a) - 24) 3) hF (cwV 2 hts gL_isWritten_X4_sector rfl rfl rfl (by decide +kernel) ⟨Nat.le_of_ble_eq_true rfl, Nat.le_of_ble_eq_true rfl⟩) (hI17.recv hK hP) hK hP rfl hl.1 rfl (Nat.le_of_ble_eq_true rfl) dL_isWritten_603 ⟨Nat.le_of_ble_eq_true rfl, Nat.le_of_ble_eq_true rfl⟩ ?_
                            refine lv_iload hx hb dL_isWritten_606 (lv_at hl 0 rfl) ?_
                            refine lv_bipush (v := 99) hx hb dL_isWritten_608 (by decide) ?_
                            have K620_33 : ∀ ls : Array Slot, lv_has ls 22 [(0, .ref γ), (1, .int (nI a)), (2, .int (nI v)), (3, .int (vS V.1 (nI a) 0)), (4, .int (mv35_isWritten V D a)), (5, .int (vC V.1 8)), (6, .int (vC V.1 11)), (7, .int ((vC V.1 13) + (vC V.1 14))), (8, .int (mv91_isWritten V D a)), (9, .int (mv113_isWritten V D a)), (10, .int (mv154_isWritten V D a)), (11, .int (mv192_isWritten V D a)), (12, .int (vC V.1 5)), (13, .int (vC V.1 6)), (14, .int (vS V.1 (nI a) 4)), (15, .int (nI k)), (16, .int (vS D (nI a) 0)), (17, .int (mv253_isWritten V D a)), (18, .int (mv267_isWritten V D a)), (19, .int 1), (20, .int ((mv91_isWritten V D a) + (mv523_isWritten V D a))), (21, .int ((mv113_isWritten V D a) + (mv547_isWritten V D a)))] → W p l e (headSpec wsL_isWritten (rmN 6 160 6 818)).room s m ([.ref γ, .int (nI a), .int (nI v)] : List Value).toArray below meth c H locs (0 + 6) (0 + 818) Q (F0 m 620 ls [.int (mv620_isWritten V D a), .int (vS D ((nI a) - 24) 3)]) := by
                              intro ls hl
                              refine lv_icmp_ne (tgt := 627) hx hb dL_isWritten_620 (by decide) (fun h9 : ¬ ((vS D ((nI a) - 24) 3) = (mv620_isWritten V D a)) => absurd (show (vS D ((nI a) - 24) 3) = (mv620_isWritten V D a) from (f620 c31)) h9) (fun _ => ?_)
                              refine lv_iconst (v := 1) hx hb dL_isWritten_623 (by decide) ?_
                              refine lv_goto (tgt := 628) hx hb dL_isWritten_624 (by decide) ?_
                              subst hA9
                              refine W.widen (k := 6) (n := 818) (Nat.le_of_ble_eq_true rfl) (Nat.le_of_ble_eq_true rfl) ?_
                              rw [hQ]
                              exact W.zret (ty := .boolean) hx hb hr rfl (fun t ht hW => ⟨rfl, ⟨_, ⟨_, _, e1, hO, hI17⟩, by rw [ht]; exact hP, hD⟩, hS.F ht⟩) hS.2.2 dL_isWritten_628
                            refine lv_icmp_le (tgt := 618) hx hb dL_isWritten_610 (by decide) (fun (c32 : ((mv113_isWritten V D a) + (mv547_isWritten V D a)) ≤ 99) => ?_) (fun (c32 : ¬ (((mv113_isWritten V D a) + (mv547_isWritten V D a)) ≤ 99)) => ?_)
                            · skip
                              refine lv_iload hx hb dL_isWritten_618 (lv_at hl 0 rfl) ?_
                              have k9 := K620_33 ls (lv_sub hl [1, 2, 3, 4, 5, 6, 7, 8, 9, 10, 11, 12, 13, 14, 15, 16, 17, 18, 19, 20, 21, 0] rfl)
                              rw [show (mv620_isWritten V D a) = ((mv113_isWritten V D a) + (mv547_isWritten V D a)) from by unfold mv620_isWritten; rw [if_pos c32]] at k9
                              exact k9
                            · skip
                              refine lv_bipush (v := 99) hx hb dL_isWritten_613 (by decide) ?_
                              refine lv_goto (tgt := 620) hx hb dL_isWritten_615 (by decide) ?_
                              have k9 := K620_33 ls (lv_sub hl [1, 2, 3, 4, 5, 6, 7, 8, 9, 10, 11, 12, 13, 14, 15, 16, 17, 18, 19, 20, 21, 0] rfl)
                              rw [show (mv620_isWritten V D a) = 99 from by unfold mv620_isWritten; rw [if_neg c32]] at k9
                              exact k9
                        · skip
                          refine lv_aload_n hx hb dL_isWritten_565 rfl (lv_at hl 1 rfl) ?_
                          refine lv_iload_n hx hb dL_isWritten_566 rfl (lv_at hl 2 rfl) ?_
                          refine lv_bipush (v := 12) hx hb dL_isWritten_567 (by decide) ?_
                          refine lv_iadd hx hb dL_isWritten_569 ?_
                          refine lv_iconst (v := 3) hx hb dL_isWritten_570 (by decide) ?_
                          refine rdV (As := [.int ((nI a) + 12), .int 3]) (rest := []) (o_sector l hI17 ((nI a) + 12) 3) hF (cwV 2 hts gL_isWritten_X4_sector rfl rfl rfl (by decide +kernel) ⟨Nat.le_of_ble_eq_true rfl, Nat.le_of_ble_eq_true rfl⟩) (hI17.recv hK hP) hK hP rfl hl.1 rfl (Nat.le_of_ble_eq_true rfl) dL_isWritten_571 ⟨Nat.le_of_ble_eq_true rfl, Nat.le_of_ble_eq_true rfl⟩ ?_
                          refine lv_iload hx hb dL_isWritten_574 (lv_at hl 21 rfl) ?_
                          refine lv_bipush (v := 99) hx hb dL_isWritten_576 (by decide) ?_
                          have K588_35 : ∀ ls : Array Slot, lv_has ls 22 [(0, .ref γ), (1, .int (nI a)), (2, .int (nI v)), (3, .int (vS V.1 (nI a) 0)), (4, .int (mv35_isWritten V D a)), (5, .int (vC V.1 8)), (6, .int (vC V.1 11)), (7, .int ((vC V.1 13) + (vC V.1 14))), (8, .int (mv91_isWritten V D a)), (9, .int (mv113_isWritten V D a)), (10, .int (mv154_isWritten V D a)), (11, .int (mv192_isWritten V D a)), (12, .int (vC V.1 5)), (13, .int (vC V.1 6)), (14, .int (vS V.1 (nI a) 4)), (15, .int (nI k)), (16, .int (vS D (nI a) 0)), (17, .int (mv253_isWritten V D a)), (18, .int (mv267_isWritten V D a)), (19, .int 1), (20, .int ((mv91_isWritten V D a) + (mv523_isWritten V D a))), (21, .int ((mv113_isWritten V D a) + (mv547_isWritten V D a)))] → W p l e (headSpec wsL_isWritten (rmN 6 160 6 818)).room s m ([.ref γ, .int (nI a), .int (nI v)] : List Value).toArray below meth c H locs (0 + 6) (0 + 818) Q (F0 m 588 ls [.int (mv588_isWritten V D a), .int (vS D ((nI a) + 12) 3)]) := by
                            intro ls hl
                            refine lv_icmp_ne (tgt := 627) hx hb dL_isWritten_588 (by decide) (fun h9 : ¬ ((vS D ((nI a) + 12) 3) = (mv588_isWritten V D a)) => absurd (show (vS D ((nI a) + 12) 3) = (mv588_isWritten V D a) from (f588 c30)) h9) (fun _ => ?_)
                            refine lv_iload_n hx hb dL_isWritten_591 rfl (lv_at hl 1 rfl) ?_
                            refine lv_bipush (v := 24) hx hb dL_isWritten_592 (by decide) ?_
                            refine lv_icmp_lt (tgt := 623) hx hb dL_isWritten_594 (by decide) (fun (c36 : (nI a) < 24) => ?_) (fun (c36 : ¬ ((nI a) < 24)) => ?_)
                            · skip
                              refine lv_iconst (v := 1) hx hb dL_isWritten_623 (by decide) ?_
                              refine lv_goto (tgt := 628) hx hb dL_isWritten_624 (by decide) ?_
                              subst hA9
                              refine W.widen (k := 6) (n := 818) (Nat.le_of_ble_eq_true rfl) (Nat.le_of_ble_eq_true rfl) ?_
                              rw [hQ]
                              exact W.zret (ty := .boolean) hx hb hr rfl (fun t ht hW => ⟨rfl, ⟨_, ⟨_, _, e1, hO, hI17⟩, by rw [ht]; exact hP, hD⟩, hS.F ht⟩) hS.2.2 dL_isWritten_628
                            · skip
                              refine lv_aload_n hx hb dL_isWritten_597 rfl (lv_at hl 0 rfl) ?_
                              refine lv_iload_n hx hb dL_isWritten_598 rfl (lv_at hl 1 rfl) ?_
                              refine lv_bipush (v := 24) hx hb dL_isWritten_599 (by decide) ?_
                              refine lv_isub hx hb dL_isWritten_601 ?_
                              refine lv_iconst (v := 3) hx hb dL_isWritten_602 (by decide) ?_
                              refine rdV (As := [.int ((nI a) - 24), .int 3]) (rest := []) (o_sector l hI17 ((nI a) - 24) 3) hF (cwV 2 hts gL_isWritten_X4_sector rfl rfl rfl (by decide +kernel) ⟨Nat.le_of_ble_eq_true rfl, Nat.le_of_ble_eq_true rfl⟩) (hI17.recv hK hP) hK hP rfl hl.1 rfl (Nat.le_of_ble_eq_true rfl) dL_isWritten_603 ⟨Nat.le_of_ble_eq_true rfl, Nat.le_of_ble_eq_true rfl⟩ ?_
                              refine lv_iload hx hb dL_isWritten_606 (lv_at hl 21 rfl) ?_
                              refine lv_bipush (v := 99) hx hb dL_isWritten_608 (by decide) ?_
                              have K620_38 : ∀ ls : Array Slot, lv_has ls 22 [(0, .ref γ), (1, .int (nI a)), (2, .int (nI v)), (3, .int (vS V.1 (nI a) 0)), (4, .int (mv35_isWritten V D a)), (5, .int (vC V.1 8)), (6, .int (vC V.1 11)), (7, .int ((vC V.1 13) + (vC V.1 14))), (8, .int (mv91_isWritten V D a)), (9, .int (mv113_isWritten V D a)), (10, .int (mv154_isWritten V D a)), (11, .int (mv192_isWritten V D a)), (12, .int (vC V.1 5)), (13, .int (vC V.1 6)), (14, .int (vS V.1 (nI a) 4)), (15, .int (nI k)), (16, .int (vS D (nI a) 0)), (17, .int (mv253_isWritten V D a)), (18, .int (mv267_isWritten V D a)), (19, .int 1), (20, .int ((mv91_isWritten V D a) + (mv523_isWritten V D a))), (21, .int ((mv113_isWritten V D a) + (mv547_isWritten V D a)))] → W p l e (headSpec wsL_isWritten (rmN 6 160 6 818)).room s m ([.ref γ, .int (nI a), .int (nI v)] : List Value).toArray below meth c H locs (0 + 6) (0 + 818) Q (F0 m 620 ls [.int (mv620_isWritten V D a), .int (vS D ((nI a) - 24) 3)]) := by
                                intro ls hl
                                refine lv_icmp_ne (tgt := 627) hx hb dL_isWritten_620 (by decide) (fun h9 : ¬ ((vS D ((nI a) - 24) 3) = (mv620_isWritten V D a)) => absurd (show (vS D ((nI a) - 24) 3) = (mv620_isWritten V D a) from (f620 c36)) h9) (fun _ => ?_)
                                refine lv_iconst (v := 1) hx hb dL_isWritten_623 (by decide) ?_
                                refine lv_goto (tgt := 628) hx hb dL_isWritten_624 (by decide) ?_
                                subst hA9
                                refine W.widen (k := 6) (n := 818) (Nat.le_of_ble_eq_true rfl) (Nat.le_of_ble_eq_true rfl) ?_
                                rw [hQ]
                                exact W.zret (ty := .boolean) hx hb hr rfl (fun t ht hW => ⟨rfl, ⟨_, ⟨_, _, e1, hO, hI17⟩, by rw [ht]; exact hP, hD⟩, hS.F ht⟩) hS.2.2 dL_isWritten_628
                              refine lv_icmp_le (tgt := 618) hx hb dL_isWritten_610 (by decide) (fun (c37 : ((mv113_isWritten V D a) + (mv547_isWritten V D a)) ≤ 99) => ?_) (fun (c37 : ¬ (((mv113_isWritten V D a) + (mv547_isWritten V D a)) ≤ 99)) => ?_)
                              · skip
                                refine lv_iload hx hb dL_isWritten_618 (lv_at hl 21 rfl) ?_
                                have k9 := K620_38 ls (lv_sub hl [0, 1, 2, 3, 4, 5, 6, 7, 8, 9, 10, 11, 12, 13, 14, 15, 16, 17, 18, 19, 20, 21] rfl)
                                rw [show (mv620_isWritten V D a) = ((mv113_isWritten V D a) + (mv547_isWritten V D a)) from by unfold mv620_isWritten; rw [if_pos c37]] at k9
                                exact k9
                              · skip
                                refine lv_bipush (v := 99) hx hb dL_isWritten_613 (by decide) ?_
                                refine lv_goto (tgt := 620) hx hb dL_isWritten_615 (by decide) ?_
                                have k9 := K620_38 ls (lv_sub hl [0, 1, 2, 3, 4, 5, 6, 7, 8, 9, 10, 11, 12, 13, 14, 15, 16, 17, 18, 19, 20, 21] rfl)
                                rw [show (mv620_isWritten V D a) = 99 from by unfold mv620_isWritten; rw [if_neg c37]] at k9
                                exact k9
                          refine lv_icmp_le (tgt := 586) hx hb dL_isWritten_578 (by decide) (fun (c34 : ((mv91_isWritten V D a) + (mv523_isWritten V D a)) ≤ 99) => ?_) (fun (c34 : ¬ (((mv91_isWritten V D a) + (mv523_isWritten V D a)) ≤ 99)) => ?_)
                          · skip
                            refine lv_iload hx hb dL_isWritten_586 (lv_at hl 21 rfl) ?_
                            have k9 := K588_35 ls (lv_sub hl [1, 2, 3, 4, 5, 6, 7, 8, 9, 10, 11, 12, 13, 14, 15, 16, 17, 18, 19, 20, 21, 0] rfl)
                            rw [show (mv588_isWritten V D a) = ((mv91_isWritten V D a) + (mv523_isWritten V D a)) from by unfold mv588_isWritten; rw [if_pos c34]] at k9
                            exact k9
                          · skip
                            refine lv_bipush (v := 99) hx hb dL_isWritten_581 (by decide) ?_
                            refine lv_goto (tgt := 588) hx hb dL_isWritten_583 (by decide) ?_
                            have k9 := K588_35 ls (lv_sub hl [1, 2, 3, 4, 5, 6, 7, 8, 9, 10, 11, 12, 13, 14, 15, 16, 17, 18, 19, 20, 21, 0] rfl)
                            rw [show (mv588_isWritten V D a) = 99 from by unfold mv588_isWritten; rw [if_neg c34]] at k9
                            exact k9
                      refine lv_if_eq (tgt := 546) hx hb dL_isWritten_530 (by decide) (fun (c27 : (mv267_isWritten V D a) = 0) => ?_) (fun (c27 : ¬ ((mv267_isWritten V D a) = 0)) => ?_)
                      · skip
                        refine lv_iconst (v := 0) hx hb dL_isWritten_546 (by decide) ?_
                        have k9 := K547_29 ls (lv_sub hl [1, 2, 3, 4, 5, 6, 7, 8, 9, 10, 11, 12, 13, 14, 15, 16, 17, 18, 19, 20, 0] rfl)
                        rw [show (mv547_isWritten V D a) = 0 from by unfold mv547_isWritten; rw [if_pos c27]] at k9
                        exact k9
                      · skip
                        refine lv_iload hx hb dL_isWritten_533 (lv_at hl 12 rfl) ?_
                        refine lv_if_eq (tgt := 546) hx hb dL_isWritten_535 (by decide) (fun (c28 : (mv192_isWritten V D a) = 0) => ?_) (fun (c28 : ¬ ((mv192_isWritten V D a) = 0)) => ?_)
                        · skip
                          refine lv_iconst (v := 0) hx hb dL_isWritten_546 (by decide) ?_
                          have k9 := K547_29 ls (lv_sub hl [1, 2, 3, 4, 5, 6, 7, 8, 9, 10, 11, 12, 13, 14, 15, 16, 17, 18, 19, 20, 0] rfl)
                          rw [show (mv547_isWritten V D a) = 0 from by unfold mv547_isWritten; rw [if_neg c27, if_pos c28]] at k9
                          exact k9
                        · skip
                          refine lv_aload_n hx hb dL_isWritten_538 rfl (lv_at hl 1 rfl) ?_
                          refine lv_iconst (v := 1) hx hb dL_isWritten_539 (by decide) ?_
                          refine rdTV (As := [.int 1]) (rest := [.int (mv113_isWritten V D a)]) (o_count l tb hI17 1 (by decide) (by decide)) hF (cwV 1 hts gL_isWritten_X4_count rfl rfl rfl (by decide +kernel) ⟨Nat.le_of_ble_eq_true rfl, Nat.le_of_ble_eq_true rfl⟩) (hI17.recv hK hP) hK hP hT hS rfl hl.1 rfl (Nat.le_of_ble_eq_true rfl) dL_isWritten_540 ⟨Nat.le_of_ble_eq_true rfl, Nat.le_of_ble_eq_true rfl⟩ ?_
                          refine lv_goto (tgt := 547) hx hb dL_isWritten_543 (by decide) ?_
                          have k9 := K547_29 ls (lv_sub hl [1, 2, 3, 4, 5, 6, 7, 8, 9, 10, 11, 12, 13, 14, 15, 16, 17, 18, 19, 20, 0] rfl)
                          rw [show (mv547_isWritten V D a) = (vC D 1) from by unfold mv547_isWritten; rw [if_neg c27, if_neg c28]] at k9
                          exact k9
                    refine lv_if_eq (tgt := 522) hx hb dL_isWritten_506 (by decide) (fun (c24 : (mv267_isWritten V D a) = 0) => ?_) (fun (c24 : ¬ ((mv267_isWritten V D a) = 0)) => ?_)
                    · skip
                      refine lv_iconst (v := 0) hx hb dL_isWritten_522 (by decide) ?_
                      have k9 := K523_26 ls (lv_sub hl [1, 2, 3, 4, 5, 6, 7, 8, 9, 10, 11, 12, 13, 14, 15, 16, 17, 18, 19, 0] rfl)
                      rw [show (mv523_isWritten V D a) = 0 from by unfold mv523_isWritten; rw [if_pos c24]] at k9
                      exact k9
                    · skip
                      refine lv_iload hx hb dL_isWritten_509 (lv_at hl 11 rfl) ?_
                      refine lv_if_eq (tgt := 522) hx hb dL_isWritten_511 (by decide) (fun (c25 : (mv154_isWritten V D a) = 0) => ?_) (fun (c25 : ¬ ((mv154_isWritten V D a) = 0)) => ?_)
                      · skip
                        refine lv_iconst (v := 0) hx hb dL_isWritten_522 (by decide) ?_
                        have k9 := K523_26 ls (lv_sub hl [1, 2, 3, 4, 5, 6, 7, 8, 9, 10, 11, 12, 13, 14, 15, 16, 17, 18, 19, 0] rfl)
                        rw [show (mv523_isWritten V D a) = 0 from by unfold mv523_isWritten; rw [if_neg c24, if_pos c25]] at k9
                        exact k9
                      · skip
                        refine lv_aload_n hx hb dL_isWritten_514 rfl (lv_at hl 1 rfl) ?_
                        refine lv_iconst (v := 0) hx hb dL_isWritten_515 (by decide) ?_
                        refine rdTV (As := [.int 0]) (rest := [.int (mv91_isWritten V D a)]) (o_count l tb hI17 0 (by decide) (by decide)) hF (cwV 1 hts gL_isWritten_X4_count rfl rfl rfl (by decide +kernel) ⟨Nat.le_of_ble_eq_true rfl, Nat.le_of_ble_eq_true rfl⟩) (hI17.recv hK hP) hK hP hT hS rfl hl.1 rfl (Nat.le_of_ble_eq_true rfl) dL_isWritten_516 ⟨Nat.le_of_ble_eq_true rfl, Nat.le_of_ble_eq_true rfl⟩ ?_
                        refine lv_goto (tgt := 523) hx hb dL_isWritten_519 (by decide) ?_
                        have k9 := K523_26 ls (lv_sub hl [1, 2, 3, 4, 5, 6, 7, 8, 9, 10, 11, 12, 13, 14, 15, 16, 17, 18, 19, 0] rfl)
                        rw [show (mv523_isWritten V D a) = (vC D 0) from by unfold mv523_isWritten; rw [if_neg c24, if_neg c25]] at k9
                        exact k9
                  refine lv_if_eq (tgt := 417) hx hb dL_isWritten_410 (by decide) (fun (c22 : (mv267_isWritten V D a) = 0) => ?_) (fun (c22 : ¬ ((mv267_isWritten V D a) = 0)) => ?_)
                  · skip
                    refine lv_iconst (v := 0) hx hb dL_isWritten_417 (by decide) ?_
                    have k9 := K418_23 ls (lv_sub hl [2, 3, 4, 5, 6, 7, 8, 9, 10, 11, 12, 13, 14, 15, 16, 17, 18, 19, 1, 0] rfl)
                    rw [show (mv418_isWritten V D a) = 0 from by unfold mv418_isWritten; rw [if_pos c22]] at k9
                    exact k9
                  · skip
                    refine lv_iconst (v := 1) hx hb dL_isWritten_413 (by decide) ?_
                    refine lv_goto (tgt := 418) hx hb dL_isWritten_414 (by decide) ?_
                    have k9 := K418_23 ls (lv_sub hl [2, 3, 4, 5, 6, 7, 8, 9, 10, 11, 12, 13, 14, 15, 16, 17, 18, 19, 1, 0] rfl)
                    rw [show (mv418_isWritten V D a) = 1 from by unfold mv418_isWritten; rw [if_neg c22]] at k9
                    exact k9
                refine lv_icmp_ge (tgt := 266) hx hb dL_isWritten_259 (by decide) (fun (c20 : 16 ≤ (vS D (nI a) 0)) => ?_) (fun (c20 : ¬ (16 ≤ (vS D (nI a) 0))) => ?_)
                · skip
                  refine lv_iconst (v := 0) hx hb dL_isWritten_266 (by decide) ?_
                  have k9 := K267_21 ls (lv_sub hl [1, 2, 3, 4, 5, 6, 7, 8, 9, 10, 11, 12, 13, 14, 15, 16, 17, 0] rfl)
                  rw [show (mv267_isWritten V D a) = 0 from by unfold mv267_isWritten; rw [if_pos c20]] at k9
                  exact k9
                · skip
                  refine lv_iconst (v := 1) hx hb dL_isWritten_262 (by decide) ?_
                  refine lv_goto (tgt := 267) hx hb dL_isWritten_263 (by decide) ?_
                  have k9 := K267_21 ls (lv_sub hl [1, 2, 3, 4, 5, 6, 7, 8, 9, 10, 11, 12, 13, 14, 15, 16, 17, 0] rfl)
                  rw [show (mv267_isWritten V D a) = 1 from by unfold mv267_isWritten; rw [if_neg c20]] at k9
                  exact k9
              refine lv_icmp_le (tgt := 248) hx hb dL_isWritten_237 (by decide) (fun (c18 : (vS D (nI a) 0) ≤ (vC V.1 6)) => ?_) (fun (c18 : ¬ ((vS D (nI a) 0) ≤ (vC V.1 6))) => ?_)
              · skip
                refine lv_iload hx hb dL_isWritten_248 (lv_at hl 3 rfl) ?_
                refine lv_iload hx hb dL_isWritten_250 (lv_at hl 0 rfl) ?_
                refine lv_isub hx hb dL_isWritten_252 ?_
                have k9 := K253_19 ls (lv_sub hl [6, 7, 8, 9, 10, 11, 12, 13, 14, 15, 16, 5, 4, 3, 2, 1, 0] rfl)
                rw [show (mv253_isWritten V D a) = ((vC V.1 6) - (vS D (nI a) 0)) from by unfold mv253_isWritten; rw [if_pos c18]] at k9
                exact k9
              · skip
                refine lv_iload hx hb dL_isWritten_240 (lv_at hl 0 rfl) ?_
                refine lv_iload hx hb dL_isWritten_242 (lv_at hl 3 rfl) ?_
                refine lv_isub hx hb dL_isWritten_244 ?_
                refine lv_goto (tgt := 253) hx hb dL_isWritten_245 (by decide) ?_
                have k9 := K253_19 ls (lv_sub hl [6, 7, 8, 9, 10, 11, 12, 13, 14, 15, 16, 5, 4, 3, 2, 1, 0] rfl)
                rw [show (mv253_isWritten V D a) = ((vS D (nI a) 0) - (vC V.1 6)) from by unfold mv253_isWritten; rw [if_neg c18]] at k9
                exact k9
            refine lv_if_lt (tgt := 191) hx hb dL_isWritten_160 (by decide) (fun (c12 : ((nI a) - 24) < 0) => ?_) (fun (c12 : ¬ (((nI a) - 24) < 0)) => ?_)
            · skip
              refine lv_iconst (v := 0) hx hb dL_isWritten_191 (by decide) ?_
              have k9 := K192_15 ls (lv_sub hl [1, 2, 3, 4, 5, 6, 7, 8, 9, 10, 0] rfl)
              rw [show (mv192_isWritten V D a) = 0 from by unfold mv192_isWritten; rw [if_pos c12]] at k9
              exact k9
            · skip
              refine lv_aload_n hx hb dL_isWritten_163 rfl (lv_at hl 1 rfl) ?_
              refine lv_iload_n hx hb dL_isWritten_164 rfl (lv_at hl 2 rfl) ?_
              refine lv_bipush (v := 24) hx hb dL_isWritten_165 (by decide) ?_
              refine lv_isub hx hb dL_isWritten_167 ?_
              refine lv_iconst (v := 2) hx hb dL_isWritten_168 (by decide) ?_
              refine rdV (As := [.int ((nI a) - 24), .int 2]) (rest := []) (o_sector l hI ((nI a) - 24) 2) hF (cwV 2 hts gL_isWritten_X4_sector rfl rfl rfl (by decide +kernel) ⟨Nat.le_of_ble_eq_true rfl, Nat.le_of_ble_eq_true rfl⟩) (hI.recv hK hP) hK hP rfl hl.1 rfl (Nat.le_of_ble_eq_true rfl) dL_isWritten_169 ⟨Nat.le_of_ble_eq_true rfl, Nat.le_of_ble_eq_true rfl⟩ ?_
              refine lv_if_lt (tgt := 191) hx hb dL_isWritten_172 (by decide) (fun (c13 : (vS V.1 ((nI a) - 24) 2) < 0) => ?_) (fun (c13 : ¬ ((vS V.1 ((nI a) - 24) 2) < 0)) => ?_)
              · skip
                refine lv_iconst (v := 0) hx hb dL_isWritten_191 (by decide) ?_
                have k9 := K192_15 ls (lv_sub hl [1, 2, 3, 4, 5, 6, 7, 8, 9, 10, 0] rfl)
                rw [show (mv192_isWritten V D a) = 0 from by unfold mv192_isWritten; rw [if_neg c12, if_pos c13]] at k9
                exact k9
              · skip
                refine lv_aload_n hx hb dL_isWritten_175 rfl (lv_at hl 1 rfl) ?_
                refine lv_iload_n hx hb dL_isWritten_176 rfl (lv_at hl 2 rfl) ?_
                refine lv_bipush (v := 24) hx hb dL_isWritten_177 (by decide) ?_
                refine lv_isub hx hb dL_isWritten_179 ?_
                refine lv_iconst (v := 5) hx hb dL_isWritten_180 (by decide) ?_
                refine rdV (As := [.int ((nI a) - 24), .int 5]) (rest := []) (o_sector l hI ((nI a) - 24) 5) hF (cwV 2 hts gL_isWritten_X4_sector rfl rfl rfl (by decide +kernel) ⟨Nat.le_of_ble_eq_true rfl, Nat.le_of_ble_eq_true rfl⟩) (hI.recv hK hP) hK hP rfl hl.1 rfl (Nat.le_of_ble_eq_true rfl) dL_isWritten_181 ⟨Nat.le_of_ble_eq_true rfl, Nat.le_of_ble_eq_true rfl⟩ ?_
                refine lv_if_ne (tgt := 191) hx hb dL_isWritten_184 (by decide) (fun (c14 : ¬ ((vS V.1 ((nI a) - 24) 5) = 0)) => ?_) (fun (c14 : (vS V.1 ((nI a) - 24) 5) = 0) => ?_)
                · skip
                  refine lv_iconst (v := 0) hx hb dL_isWritten_191 (by decide) ?_
                  have k9 := K192_15 ls (lv_sub hl [1, 2, 3, 4, 5, 6, 7, 8, 9, 10, 0] rfl)
                  rw [show (mv192_isWritten V D a) = 0 from by unfold mv192_isWritten; rw [if_neg c12, if_neg c13, if_neg c14]] at k9
                  exact k9
                · skip
                  refine lv_iconst (v := 1) hx hb dL_isWritten_187 (by decide) ?_
                  refine lv_goto (tgt := 192) hx hb dL_isWritten_188 (by decide) ?_
                  have k9 := K192_15 ls (lv_sub hl [1, 2, 3, 4, 5, 6, 7, 8, 9, 10, 0] rfl)
                  rw [show (mv192_isWritten V D a) = 1 from by unfold mv192_isWritten; rw [if_neg c12, if_neg c13, if_pos c14]] at k9
                  exact k9
          refine lv_icmp_ge (tgt := 153) hx hb dL_isWritten_122 (by decide) (fun (c8 : 192 ≤ ((nI a) + 12)) => ?_) (fun (c8 : ¬ (192 ≤ ((nI a) + 12))) => ?_)
          · skip
            refine lv_iconst (v := 0) hx hb dL_isWritten_153 (by decide) ?_
            have k9 := K154_11 ls (lv_sub hl [1, 2, 3, 4, 5, 6, 7, 8, 9, 0] rfl)
            rw [show (mv154_isWritten V D a) = 0 from by unfold mv154_isWritten; rw [if_pos c8]] at k9
            exact k9
          · skip
            refine lv_aload_n hx hb dL_isWritten_125 rfl (lv_at hl 1 rfl) ?_
            refine lv_iload_n hx hb dL_isWritten_126 rfl (lv_at hl 2 rfl) ?_
            refine lv_bipush (v := 12) hx hb dL_isWritten_127 (by decide) ?_
            refine lv_iadd hx hb dL_isWritten_129 ?_
            refine lv_iconst (v := 2) hx hb dL_isWritten_130 (by decide) ?_
            refine rdV (As := [.int ((nI a) + 12), .int 2]) (rest := []) (o_sector l hI ((nI a) + 12) 2) hF (cwV 2 hts gL_isWritten_X4_sector rfl rfl rfl (by decide +kernel) ⟨Nat.le_of_ble_eq_true rfl, Nat.le_of_ble_eq_true rfl⟩) (hI.recv hK hP) hK hP rfl hl.1 rfl (Nat.le_of_ble_eq_true rfl) dL_isWritten_131 ⟨Nat.le_of_ble_eq_true rfl, Nat.le_of_ble_eq_true rfl⟩ ?_
            refine lv_if_lt (tgt := 153) hx hb dL_isWritten_134 (by decide) (fun (c9 : (vS V.1 ((nI a) + 12) 2) < 0) => ?_) (fun (c9 : ¬ ((vS V.1 ((nI a) + 12) 2) < 0)) => ?_)
            · skip
              refine lv_iconst (v := 0) hx hb dL_isWritten_153 (by decide) ?_
              have k9 := K154_11 ls (lv_sub hl [1, 2, 3, 4, 5, 6, 7, 8, 9, 0] rfl)
              rw [show (mv154_isWritten V D a) = 0 from by unfold mv154_isWritten; rw [if_neg c8, if_pos c9]] at k9
              exact k9
            · skip
              refine lv_aload_n hx hb dL_isWritten_137 rfl (lv_at hl 1 rfl) ?_
              refine lv_iload_n hx hb dL_isWritten_138 rfl (lv_at hl 2 rfl) ?_
              refine lv_bipush (v := 12) hx hb dL_isWritten_139 (by decide) ?_
              refine lv_iadd hx hb dL_isWritten_141 ?_
              refine lv_iconst (v := 5) hx hb dL_isWritten_142 (by decide) ?_
              refine rdV (As := [.int ((nI a) + 12), .int 5]) (rest := []) (o_sector l hI ((nI a) + 12) 5) hF (cwV 2 hts gL_isWritten_X4_sector rfl rfl rfl (by decide +kernel) ⟨Nat.le_of_ble_eq_true rfl, Nat.le_of_ble_eq_true rfl⟩) (hI.recv hK hP) hK hP rfl hl.1 rfl (Nat.le_of_ble_eq_true rfl) dL_isWritten_143 ⟨Nat.le_of_ble_eq_true rfl, Nat.le_of_ble_eq_true rfl⟩ ?_
              refine lv_if_ne (tgt := 153) hx hb dL_isWritten_146 (by decide) (fun (c10 : ¬ ((vS V.1 ((nI a) + 12) 5) = 0)) => ?_) (fun (c10 : (vS V.1 ((nI a) + 12) 5) = 0) => ?_)
              · skip
                refine lv_iconst (v := 0) hx hb dL_isWritten_153 (by decide) ?_
                have k9 := K154_11 ls (lv_sub hl [1, 2, 3, 4, 5, 6, 7, 8, 9, 0] rfl)
                rw [show (mv154_isWritten V D a) = 0 from by unfold mv154_isWritten; rw [if_neg c8, if_neg c9, if_neg c10]] at k9
                exact k9
              · skip
                refine lv_iconst (v := 1) hx hb dL_isWritten_149 (by decide) ?_
                refine lv_goto (tgt := 154) hx hb dL_isWritten_150 (by decide) ?_
                have k9 := K154_11 ls (lv_sub hl [1, 2, 3, 4, 5, 6, 7, 8, 9, 0] rfl)
                rw [show (mv154_isWritten V D a) = 1 from by unfold mv154_isWritten; rw [if_neg c8, if_neg c9, if_pos c10]] at k9
                exact k9
        refine lv_if_lt (tgt := 112) hx hb dL_isWritten_97 (by decide) (fun (c6 : ((nI a) - 24) < 0) => ?_) (fun (c6 : ¬ (((nI a) - 24) < 0)) => ?_)
        · skip
          refine lv_iconst (v := 0) hx hb dL_isWritten_112 (by decide) ?_
          have k9 := K113_7 ls (lv_sub hl [1, 2, 3, 4, 5, 6, 7, 8, 0] rfl)
          rw [show (mv113_isWritten V D a) = 0 from by unfold mv113_isWritten; rw [if_pos c6]] at k9
          exact k9
        · skip
          refine lv_aload_n hx hb dL_isWritten_100 rfl (lv_at hl 1 rfl) ?_
          refine lv_iload_n hx hb dL_isWritten_101 rfl (lv_at hl 2 rfl) ?_
          refine lv_bipush (v := 24) hx hb dL_isWritten_102 (by decide) ?_
          refine lv_isub hx hb dL_isWritten_104 ?_
          refine lv_iconst (v := 3) hx hb dL_isWritten_105 (by decide) ?_
          refine rdV (As := [.int ((nI a) - 24), .int 3]) (rest := []) (o_sector l hI ((nI a) - 24) 3) hF (cwV 2 hts gL_isWritten_X4_sector rfl rfl rfl (by decide +kernel) ⟨Nat.le_of_ble_eq_true rfl, Nat.le_of_ble_eq_true rfl⟩) (hI.recv hK hP) hK hP rfl hl.1 rfl (Nat.le_of_ble_eq_true rfl) dL_isWritten_106 ⟨Nat.le_of_ble_eq_true rfl, Nat.le_of_ble_eq_true rfl⟩ ?_
          refine lv_goto (tgt := 113) hx hb dL_isWritten_109 (by decide) ?_
          have k9 := K113_7 ls (lv_sub hl [1, 2, 3, 4, 5, 6, 7, 8, 0] rfl)
          rw [show (mv113_isWritten V D a) = (vS V.1 ((nI a) - 24) 3) from by unfold mv113_isWritten; rw [if_neg c6]] at k9
          exact k9
      refine lv_icmp_ge (tgt := 90) hx hb dL_isWritten_75 (by decide) (fun (c4 : 192 ≤ ((nI a) + 12)) => ?_) (fun (c4 : ¬ (192 ≤ ((nI a) + 12))) => ?_)
      · skip
        refine lv_iconst (v := 0) hx hb dL_isWritten_90 (by decide) ?_
        have k9 := K91_5 ls (lv_sub hl [4, 5, 6, 7, 3, 2, 1, 0] rfl)
        rw [show (mv91_isWritten V D a) = 0 from by unfold mv91_isWritten; rw [if_pos c4]] at k9
        exact k9
      · skip
        refine lv_aload_n hx hb dL_isWritten_78 rfl (lv_at hl 4 rfl) ?_
        refine lv_iload_n hx hb dL_isWritten_79 rfl (lv_at hl 5 rfl) ?_
        refine lv_bipush (v := 12) hx hb dL_isWritten_80 (by decide) ?_
        refine lv_iadd hx hb dL_isWritten_82 ?_
        refine lv_iconst (v := 3) hx hb dL_isWritten_83 (by decide) ?_
        refine rdV (As := [.int ((nI a) + 12), .int 3]) (rest := []) (o_sector l hI ((nI a) + 12) 3) hF (cwV 2 hts gL_isWritten_X4_sector rfl rfl rfl (by decide +kernel) ⟨Nat.le_of_ble_eq_true rfl, Nat.le_of_ble_eq_true rfl⟩) (hI.recv hK hP) hK hP rfl hl.1 rfl (Nat.le_of_ble_eq_true rfl) dL_isWritten_84 ⟨Nat.le_of_ble_eq_true rfl, Nat.le_of_ble_eq_true rfl⟩ ?_
        refine lv_goto (tgt := 91) hx hb dL_isWritten_87 (by decide) ?_
        have k9 := K91_5 ls (lv_sub hl [4, 5, 6, 7, 3, 2, 1, 0] rfl)
        rw [show (mv91_isWritten V D a) = (vS V.1 ((nI a) + 12) 3) from by unfold mv91_isWritten; rw [if_neg c4]] at k9
        exact k9
    refine lv_icmp_lt (tgt := 34) hx hb dL_isWritten_18 (by decide) (fun (c1 : (vS V.1 (nI a) 4) < (vC V.1 3)) => ?_) (fun (c1 : ¬ ((vS V.1 (nI a) 4) < (vC V.1 3))) => ?_)
    · skip
      refine lv_iconst (v := 0) hx hb dL_isWritten_34 (by decide) ?_
      have k9 := K35_3 ls (lv_sub hl [1, 2, 3, 0] rfl)
      rw [show (mv35_isWritten V D a) = 0 from by unfold mv35_isWritten; rw [if_pos c1]] at k9
      exact k9
    · skip
      refine lv_aload_n hx hb dL_isWritten_21 rfl (lv_at hl 1 rfl) ?_
      refine lv_bipush (v := 8) hx hb dL_isWritten_22 (by decide) ?_
      refine rdTV (As := [.int 8]) (rest := []) (o_count l tb hI 8 (by decide) (by decide)) hF (cwV 1 hts gL_isWritten_X4_count rfl rfl rfl (by decide +kernel) ⟨Nat.le_of_ble_eq_true rfl, Nat.le_of_ble_eq_true rfl⟩) (hI.recv hK hP) hK hP hT hS rfl hl.1 rfl (Nat.le_of_ble_eq_true rfl) dL_isWritten_24 ⟨Nat.le_of_ble_eq_true rfl, Nat.le_of_ble_eq_true rfl⟩ ?_
      refine lv_if_le (tgt := 34) hx hb dL_isWritten_27 (by decide) (fun (c2 : (vC V.1 8) ≤ 0) => ?_) (fun (c2 : ¬ ((vC V.1 8) ≤ 0)) => ?_)
      · skip
        refine lv_iconst (v := 0) hx hb dL_isWritten_34 (by decide) ?_
        have k9 := K35_3 ls (lv_sub hl [1, 2, 3, 0] rfl)
        rw [show (mv35_isWritten V D a) = 0 from by unfold mv35_isWritten; rw [if_neg c1, if_pos c2]] at k9
        exact k9
      · skip
        refine lv_iconst (v := 1) hx hb dL_isWritten_30 (by decide) ?_
        refine lv_goto (tgt := 35) hx hb dL_isWritten_31 (by decide) ?_
        have k9 := K35_3 ls (lv_sub hl [1, 2, 3, 0] rfl)
        rw [show (mv35_isWritten V D a) = 1 from by unfold mv35_isWritten; rw [if_neg c1, if_neg c2]] at k9
        exact k9
  · skip
    refine lv_aload_n hx hb dL_isWritten_0 rfl (lv_at hl 0 rfl) ?_
    refine lv_iload_n hx hb dL_isWritten_1 rfl (lv_at hl 1 rfl) ?_
    refine lv_iconst (v := 0) hx hb dL_isWritten_2 (by decide) ?_
    refine rdV (As := [.int (nI a), .int 0]) (rest := []) (o_sector l hI (nI a) 0) hF (cwV 2 hts gL_isWritten_X4_sector rfl rfl rfl (by decide +kernel) ⟨Nat.le_of_ble_eq_true rfl, Nat.le_of_ble_eq_true rfl⟩) (hI.recv hK hP) hK hP rfl hl.1 rfl (Nat.le_of_ble_eq_true rfl) dL_isWritten_3 ⟨Nat.le_of_ble_eq_true rfl, Nat.le_of_ble_eq_true rfl⟩ ?_
    refine lv_istore_n (lv' := [(3, .int (vS V.1 (nI a) 0)), (0, .ref γ), (1, .int (nI a)), (2, .int (nI v))]) hx hb dL_isWritten_6 rfl hl (by decide) rfl (fun ls hl => ?_)
    refine lv_aload_n hx hb dL_isWritten_7 rfl (lv_at hl 1 rfl) ?_
    refine lv_iload_n hx hb dL_isWritten_8 rfl (lv_at hl 2 rfl) ?_
    refine lv_iconst (v := 4) hx hb dL_isWritten_9 (by decide) ?_
    refine rdV (As := [.int (nI a), .int 4]) (rest := []) (o_sector l hI (nI a) 4) hF (cwV 2 hts gL_isWritten_X4_sector rfl rfl rfl (by decide +kernel) ⟨Nat.le_of_ble_eq_true rfl, Nat.le_of_ble_eq_true rfl⟩) (hI.recv hK hP) hK hP rfl hl.1 rfl (Nat.le_of_ble_eq_true rfl) dL_isWritten_10 ⟨Nat.le_of_ble_eq_true rfl, Nat.le_of_ble_eq_true rfl⟩ ?_
    refine lv_aload_n hx hb dL_isWritten_13 rfl (lv_at hl 1 rfl) ?_
    refine lv_iconst (v := 3) hx hb dL_isWritten_14 (by decide) ?_
    refine rdTV (As := [.int 3]) (rest := [.int (vS V.1 (nI a) 4)]) (o_count l tb hI 3 (by decide) (by decide)) hF (cwV 1 hts gL_isWritten_X4_count rfl rfl rfl (by decide +kernel) ⟨Nat.le_of_ble_eq_true rfl, Nat.le_of_ble_eq_true rfl⟩) (hI.recv hK hP) hK hP hT hS rfl hl.1 rfl (Nat.le_of_ble_eq_true rfl) dL_isWritten_15 ⟨Nat.le_of_ble_eq_true rfl, Nat.le_of_ble_eq_true rfl⟩ ?_
    have K35_3 : ∀ ls : Array Slot, lv_has ls 22 [(0, .ref γ), (1, .int (nI a)), (2, .int (nI v)), (3, .int (vS V.1 (nI a) 0))] → W p l e (headSpec wsL_isWritten (rmN 6 160 6 818)).room s m ([.ref γ, .int (nI a), .int (nI v)] : List Value).toArray below meth c s.heap [] (0) (0) Q (F0 m 35 ls [.int (mv35_isWritten V D a)]) := by
      intro ls hl
      refine lv_istore (lv' := [(4, .int (mv35_isWritten V D a)), (0, .ref γ), (1, .int (nI a)), (2, .int (nI v)), (3, .int (vS V.1 (nI a) 0))]) hx hb dL_isWritten_35 hl (by decide) rfl (fun ls hl => ?_)
      refine lv_aload_n hx hb dL_isWritten_37 rfl (lv_at hl 1 rfl) ?_
      refine lv_bipush (v := 8) hx hb dL_isWritten_38 (by decide) ?_
      refine rdTV (As := [.int 8]) (rest := []) (o_count l tb hI 8 (by decide) (by decide)) hF (cwV 1 hts gL_isWritten_X4_count rfl rfl rfl (by decide +kernel) ⟨Nat.le_of_ble_eq_true rfl, Nat.le_of_ble_eq_true rfl⟩) (hI.recv hK hP) hK hP hT hS rfl hl.1 rfl (Nat.le_of_ble_eq_true rfl) dL_isWritten_40 ⟨Nat.le_of_ble_eq_true rfl, Nat.le_of_ble_eq_true rfl⟩ ?_
      refine lv_istore (lv' := [(5, .int (vC V.1 8)), (4, .int (mv35_isWritten V D a)), (0, .ref γ), (1, .int (nI a)), (2, .int (nI v)), (3, .int (vS V.1 (nI a) 0))]) hx hb dL_isWritten_43 hl (by decide) rfl (fun ls hl => ?_)
      refine lv_aload_n hx hb dL_isWritten_45 rfl (lv_at hl 2 rfl) ?_
      refine lv_bipush (v := 11) hx hb dL_isWritten_46 (by decide) ?_
      refine rdTV (As := [.int 11]) (rest := []) (o_count l tb hI 11 (by decide) (by decide)) hF (cwV 1 hts gL_isWritten_X4_count rfl rfl rfl (by decide +kernel) ⟨Nat.le_of_ble_eq_true rfl, Nat.le_of_ble_eq_true rfl⟩) (hI.recv hK hP) hK hP hT hS rfl hl.1 rfl (Nat.le_of_ble_eq_true rfl) dL_isWritten_48 ⟨Nat.le_of_ble_eq_true rfl, Nat.le_of_ble_eq_true rfl⟩ ?_
      refine lv_istore (lv' := [(6, .int (vC V.1 11)), (5, .int (vC V.1 8)), (4, .int (mv35_isWritten V D a)), (0, .ref γ), (1, .int (nI a)), (2, .int (nI v)), (3, .int (vS V.1 (nI a) 0))]) hx hb dL_isWritten_51 hl (by decide) rfl (fun ls hl => ?_)
      refine lv_aload_n hx hb dL_isWritten_53 rfl (lv_at hl 3 rfl) ?_
      refine lv_bipush (v := 13) hx hb dL_isWritten_54 (by decide) ?_
      refine rdTV (As := [.int 13]) (rest := []) (o_count l tb hI 13 (by decide) (by decide)) hF (cwV 1 hts gL_isWritten_X4_count rfl rfl rfl (by decide +kernel) ⟨Nat.le_of_ble_eq_true rfl, Nat.le_of_ble_eq_true rfl⟩) (hI.recv hK hP) hK hP hT hS rfl hl.1 rfl (Nat.le_of_ble_eq_true rfl) dL_isWritten_56 ⟨Nat.le_of_ble_eq_true rfl, Nat.le_of_ble_eq_true rfl⟩ ?_
      refine lv_aload_n hx hb dL_isWritten_59 rfl (lv_at hl 3 rfl) ?_
      refine lv_bipush (v := 14) hx hb dL_isWritten_60 (by decide) ?_
      refine rdTV (As := [.int 14]) (rest := [.int (vC V.1 13)]) (o_count l tb hI 14 (by decide) (by decide)) hF (cwV 1 hts gL_isWritten_X4_count rfl rfl rfl (by decide +kernel) ⟨Nat.le_of_ble_eq_true rfl, Nat.le_of_ble_eq_true rfl⟩) (hI.recv hK hP) hK hP hT hS rfl hl.1 rfl (Nat.le_of_ble_eq_true rfl) dL_isWritten_62 ⟨Nat.le_of_ble_eq_true rfl, Nat.le_of_ble_eq_true rfl⟩ ?_
      refine lv_iadd hx hb dL_isWritten_65 ?_
      refine lv_istore (lv' := [(7, .int ((vC V.1 13) + (vC V.1 14))), (6, .int (vC V.1 11)), (5, .int (vC V.1 8)), (4, .int (mv35_isWritten V D a)), (0, .ref γ), (1, .int (nI a)), (2, .int (nI v)), (3, .int (vS V.1 (nI a) 0))]) hx hb dL_isWritten_66 hl (by decide) rfl (fun ls hl => ?_)
      refine lv_iload_n hx hb dL_isWritten_68 rfl (lv_at hl 5 rfl) ?_
      refine lv_bipush (v := 12) hx hb dL_isWritten_69 (by decide) ?_
      refine lv_iadd hx hb dL_isWritten_71 ?_
      refine lv_sipush (v := 192) hx hb dL_isWritten_72 (by decide) ?_
      have K91_5 : ∀ ls : Array Slot, lv_has ls 22 [(0, .ref γ), (1, .int (nI a)), (2, .int (nI v)), (3, .int (vS V.1 (nI a) 0)), (4, .int (mv35_isWritten V D a)), (5, .int (vC V.1 8)), (6, .int (vC V.1 11)), (7, .int ((vC V.1 13) + (vC V.1 14)))] → W p l e (headSpec wsL_isWritten (rmN 6 160 6 818)).room s m ([.ref γ, .int (nI a), .int (nI v)] : List Value).toArray below meth c s.heap [] (0) (0) Q (F0 m 91 ls [.int (mv91_isWritten V D a)]) := by
        intro ls hl
        refine lv_istore (lv' := [(8, .int (mv91_isWritten V D a)), (0, .ref γ), (1, .int (nI a)), (2, .int (nI v)), (3, .int (vS V.1 (nI a) 0)), (4, .int (mv35_isWritten V D a)), (5, .int (vC V.1 8)), (6, .int (vC V.1 11)), (7, .int ((vC V.1 13) + (vC V.1 14)))]) hx hb dL_isWritten_91 hl (by decide) rfl (fun ls hl => ?_)
        refine lv_iload_n hx hb dL_isWritten_93 rfl (lv_at hl 2 rfl) ?_
        refine lv_bipush (v := 24) hx hb dL_isWritten_94 (by decide) ?_
        refine lv_isub hx hb dL_isWritten_96 ?_
        have K113_7 : ∀ ls : Array Slot, lv_has ls 22 [(0, .ref γ), (1, .int (nI a)), (2, .int (nI v)), (3, .int (vS V.1 (nI a) 0)), (4, .int (mv35_isWritten V D a)), (5, .int (vC V.1 8)), (6, .int (vC V.1 11)), (7, .int ((vC V.1 13) + (vC V.1 14))), (8, .int (mv91_isWritten V D a))] → W p l e (headSpec wsL_isWritten (rmN 6 160 6 818)).room s m ([.ref γ, .int (nI a), .int (nI v)] : List Value).toArray below meth c s.heap [] (0) (0) Q (F0 m 113 ls [.int (mv113_isWritten V D a)]) := by
          intro ls hl
          refine lv_istore (lv' := [(9, .int (mv113_isWritten V D a)), (0, .ref γ), (1, .int (nI a)), (2, .int (nI v)), (3, .int (vS V.1 (nI a) 0)), (4, .int (mv35_isWritten V D a)), (5, .int (vC V.1 8)), (6, .int (vC V.1 11)), (7, .int ((vC V.1 13) + (vC V.1 14))), (8, .int (mv91_isWritten V D a))]) hx hb dL_isWritten_113 hl (by decide) rfl (fun ls hl => ?_)
          refine lv_iload_n hx hb dL_isWritten_115 rfl (lv_at hl 2 rfl) ?_
          refine lv_bipush (v := 12) hx hb dL_isWritten_116 (by decide) ?_
          refine lv_iadd hx hb dL_isWritten_118 ?_
          refine lv_sipush (v := 192) hx hb dL_isWritten_119 (by decide) ?_
          have K154_11 : ∀ ls : Array Slot, lv_has ls 22 [(0, .ref γ), (1, .int (nI a)), (2, .int (nI v)), (3, .int (vS V.1 (nI a) 0)), (4, .int (mv35_isWritten V D a)), (5, .int (vC V.1 8)), (6, .int (vC V.1 11)), (7, .int ((vC V.1 13) + (vC V.1 14))), (8, .int (mv91_isWritten V D a)), (9, .int (mv113_isWritten V D a))] → W p l e (headSpec wsL_isWritten (rmN 6 160 6 818)).room s m ([.ref γ, .int (nI a), .int (nI v)] : List Value).toArray below meth c s.heap [] (0) (0) Q (F0 m 154 ls [.int (mv154_isWritten V D a)]) := by
            intro ls hl
            refine lv_istore (lv' := [(10, .int (mv154_isWritten V D a)), (0, .ref γ), (1, .int (nI a)), (2, .int (nI v)), (3, .int (vS V.1 (nI a) 0)), (4, .int (mv35_isWritten V D a)), (5, .int (vC V.1 8)), (6, .int (vC V.1 11)), (7, .int ((vC V.1 13) + (vC V.1 14))), (8, .int (mv91_isWritten V D a)), (9, .int (mv113_isWritten V D a))]) hx hb dL_isWritten_154 hl (by decide) rfl (fun ls hl => ?_)
            refine lv_iload_n hx hb dL_isWritten_156 rfl (lv_at hl 2 rfl) ?_
            refine lv_bipush (v := 24) hx hb dL_isWritten_157 (by decide) ?_
            refine lv_isub hx hb dL_isWritten_159 ?_
            have K192_15 : ∀ ls : Array Slot, lv_has ls 22 [(0, .ref γ), (1, .int (nI a)), (2, .int (nI v)), (3, .int (vS V.1 (nI a) 0)), (4, .int (mv35_isWritten V D a)), (5, .int (vC V.1 8)), (6, .int (vC V.1 11)), (7, .int ((vC V.1 13) + (vC V.1 14))), (8, .int (mv91_isWritten V D a)), (9, .int (mv113_isWritten V D a)), (10, .int (mv154_isWritten V D a))] → W p l e (headSpec wsL_isWritten (rmN 6 160 6 818)).room s m ([.ref γ, .int (nI a), .int (nI v)] : List Value).toArray below meth c s.heap [] (0) (0) Q (F0 m 192 ls [.int (mv192_isWritten V D a)]) := by
              intro ls hl
              refine lv_istore (lv' := [(11, .int (mv192_isWritten V D a)), (0, .ref γ), (1, .int (nI a)), (2, .int (nI v)), (3, .int (vS V.1 (nI a) 0)), (4, .int (mv35_isWritten V D a)), (5, .int (vC V.1 8)), (6, .int (vC V.1 11)), (7, .int ((vC V.1 13) + (vC V.1 14))), (8, .int (mv91_isWritten V D a)), (9, .int (mv113_isWritten V D a)), (10, .int (mv154_isWritten V D a))]) hx hb dL_isWritten_192 hl (by decide) rfl (fun ls hl => ?_)
              refine lv_aload_n hx hb dL_isWritten_194 rfl (lv_at hl 1 rfl) ?_
              refine lv_iconst (v := 5) hx hb dL_isWritten_195 (by decide) ?_
              refine rdTV (As := [.int 5]) (rest := []) (o_count l tb hI 5 (by decide) (by decide)) hF (cwV 1 hts gL_isWritten_X4_count rfl rfl rfl (by decide +kernel) ⟨Nat.le_of_ble_eq_true rfl, Nat.le_of_ble_eq_true rfl⟩) (hI.recv hK hP) hK hP hT hS rfl hl.1 rfl (Nat.le_of_ble_eq_true rfl) dL_isWritten_196 ⟨Nat.le_of_ble_eq_true rfl, Nat.le_of_ble_eq_true rfl⟩ ?_
              refine lv_istore (lv' := [(12, .int (vC V.1 5)), (11, .int (mv192_isWritten V D a)), (0, .ref γ), (1, .int (nI a)), (2, .int (nI v)), (3, .int (vS V.1 (nI a) 0)), (4, .int (mv35_isWritten V D a)), (5, .int (vC V.1 8)), (6, .int (vC V.1 11)), (7, .int ((vC V.1 13) + (vC V.1 14))), (8, .int (mv91_isWritten V D a)), (9, .int (mv113_isWritten V D a)), (10, .int (mv154_isWritten V D a))]) hx hb dL_isWritten_199 hl (by decide) rfl (fun ls hl => ?_)
              refine lv_aload_n hx hb dL_isWritten_201 rfl (lv_at hl 2 rfl) ?_
              refine lv_bipush (v := 6) hx hb dL_isWritten_202 (by decide) ?_
              refine rdTV (As := [.int 6]) (rest := []) (o_count l tb hI 6 (by decide) (by decide)) hF (cwV 1 hts gL_isWritten_X4_count rfl rfl rfl (by decide +kernel) ⟨Nat.le_of_ble_eq_true rfl, Nat.le_of_ble_eq_true rfl⟩) (hI.recv hK hP) hK hP hT hS rfl hl.1 rfl (Nat.le_of_ble_eq_true rfl) dL_isWritten_204 ⟨Nat.le_of_ble_eq_true rfl, Nat.le_of_ble_eq_true rfl⟩ ?_
              refine lv_istore (lv' := [(13, .int (vC V.1 6)), (12, .int (vC V.1 5)), (11, .int (mv192_isWritten V D a)), (0, .ref γ), (1, .int (nI a)), (2, .int (nI v)), (3, .int (vS V.1 (nI a) 0)), (4, .int (mv35_isWritten V D a)), (5, .int (vC V.1 8)), (6, .int (vC V.1 11)), (7, .int ((vC V.1 13) + (vC V.1 14))), (8, .int (mv91_isWritten V D a)), (9, .int (mv113_isWritten V D a)), (10, .int (mv154_isWritten V D a))]) hx hb dL_isWritten_207 hl (by decide) rfl (fun ls hl => ?_)
              refine lv_aload_n hx hb dL_isWritten_209 rfl (lv_at hl 3 rfl) ?_
              refine lv_iload_n hx hb dL_isWritten_210 rfl (lv_at hl 4 rfl) ?_
              refine lv_iconst (v := 4) hx hb dL_isWritten_211 (by decide) ?_
              refine rdV (As := [.int (nI a), .int 4]) (rest := []) (o_sector l hI (nI a) 4) hF (cwV 2 hts gL_isWritten_X4_sector rfl rfl rfl (by decide +kernel) ⟨Nat.le_of_ble_eq_true rfl, Nat.le_of_ble_eq_true rfl⟩) (hI.recv hK hP) hK hP rfl hl.1 rfl (Nat.le_of_ble_eq_true rfl) dL_isWritten_212 ⟨Nat.le_of_ble_eq_true rfl, Nat.le_of_ble_eq_true rfl⟩ ?_
              refine lv_istore (lv' := [(14, .int (vS V.1 (nI a) 4)), (13, .int (vC V.1 6)), (12, .int (vC V.1 5)), (11, .int (mv192_isWritten V D a)), (0, .ref γ), (1, .int (nI a)), (2, .int (nI v)), (3, .int (vS V.1 (nI a) 0)), (4, .int (mv35_isWritten V D a)), (5, .int (vC V.1 8)), (6, .int (vC V.1 11)), (7, .int ((vC V.1 13) + (vC V.1 14))), (8, .int (mv91_isWritten V D a)), (9, .int (mv113_isWritten V D a)), (10, .int (mv154_isWritten V D a))]) hx hb dL_isWritten_215 hl (by decide) rfl (fun ls hl => ?_)
              refine lv_aload_n hx hb dL_isWritten_217 rfl (lv_at hl 4 rfl) ?_
              refine lv_iload_n hx hb dL_isWritten_218 rfl (lv_at hl 5 rfl) ?_
              refine lv_iload_n hx hb dL_isWritten_219 rfl (lv_at hl 6 rfl) ?_
              refine nwV0 (As := [.int (nI a), .int (nI v)]) (rest := []) (o_writeE l tb hI ha hv9 e1 hk0) hF (cwV 2 hts gL_isWritten_X4_write rfl rfl rfl (by decide +kernel) ⟨Nat.le_of_ble_eq_true rfl, Nat.le_of_ble_eq_true rfl⟩) (hI.recv hK hP) hK hP hD hS hA hT rfl hl.1 rfl (Nat.le_of_ble_eq_true rfl) dL_isWritten_220 ⟨Nat.le_of_ble_eq_true rfl, Nat.le_of_ble_eq_true rfl⟩ (fun W16 H locs hI17 hP hD hS => ?_)
              refine lv_istore (lv' := [(15, .int (nI k)), (14, .int (vS V.1 (nI a) 4)), (13, .int (vC V.1 6)), (12, .int (vC V.1 5)), (11, .int (mv192_isWritten V D a)), (0, .ref γ), (1, .int (nI a)), (2, .int (nI v)), (3, .int (vS V.1 (nI a) 0)), (4, .int (mv35_isWritten V D a)), (5, .int (vC V.1 8)), (6, .int (vC V.1 11)), (7, .int ((vC V.1 13) + (vC V.1 14))), (8, .int (mv91_isWritten V D a)), (9, .int (mv113_isWritten V D a)), (10, .int (mv154_isWritten V D a))]) hx hb dL_isWritten_223 hl (by decide) rfl (fun ls hl => ?_)
              refine lv_aload_n hx hb dL_isWritten_225 rfl (lv_at hl 5 rfl) ?_
              refine lv_iload_n hx hb dL_isWritten_226 rfl (lv_at hl 6 rfl) ?_
              refine lv_iconst (v := 0) hx hb dL_isWritten_227 (by decide) ?_
              refine rdV (As := [.int (nI a), .int 0]) (rest := []) (o_sector l hI17 (nI a) 0) hF (cwV 2 hts gL_isWritten_X4_sector rfl rfl rfl (by decide +kernel) ⟨Nat.le_of_ble_eq_true rfl, Nat.le_of_ble_eq_true rfl⟩) (hI17.recv hK hP) hK hP rfl hl.1 rfl (Nat.le_of_ble_eq_true rfl) dL_isWritten_228 ⟨Nat.le_of_ble_eq_true rfl, Nat.le_of_ble_eq_true rfl⟩ ?_
              refine lv_istore (lv' := [(16, .int (vS D (nI a) 0)), (15, .int (nI k)), (14, .int (vS V.1 (nI a) 4)), (13, .int (vC V.1 6)), (12, .int (vC V.1 5)), (11, .int (mv192_isWritten V D a)), (0, .ref γ), (1, .int (nI a)), (2, .int (nI v)), (3, .int (vS V.1 (nI a) 0)), (4, .int (mv35_isWritten V D a)), (5, .int (vC V.1 8)), (6, .int (vC V.1 11)), (7, .int ((vC V.1 13) + (vC V.1 14))), (8, .int (mv91_isWritten V D a)), (9, .int (mv113_isWritten V D a)), (10, .int (mv154_isWritten V D a))]) hx hb dL_isWritten_231 hl (by decide) rfl (fun ls hl => ?_)
              refine lv_iload hx hb dL_isWritten_233 (lv_at hl 0 rfl) ?_
              refine lv_iload hx hb dL_isWritten_235 (lv_at hl 3 rfl) ?_
              have K253_19 : ∀ ls : Array Slot, lv_has ls 22 [(0, .ref γ), (1, .int (nI a)), (2, .int (nI v)), (3, .int (vS V.1 (nI a) 0)), (4, .int (mv35_isWritten V D a)), (5, .int (vC V.1 8)), (6, .int (vC V.1 11)), (7, .int ((vC V.1 13) + (vC V.1 14))), (8, .int (mv91_isWritten V D a)), (9, .int (mv113_isWritten V D a)), (10, .int (mv154_isWritten V D a)), (11, .int (mv192_isWritten V D a)), (12, .int (vC V.1 5)), (13, .int (vC V.1 6)), (14, .int (vS V.1 (nI a) 4)), (15, .int (nI k)), (16, .int (vS D (nI a) 0))] → W p l e (headSpec wsL_isWritten (rmN 6 160 6 818)).room s m ([.ref γ, .int (nI a), .int (nI v)] : List Value).toArray below meth c H locs (0 + 6) (0 + 818) Q (F0 m 253 ls [.int (mv253_isWritten V D a)]) := by
                intro ls hl
                refine lv_istore (lv' := [(17, .int (mv253_isWritten V D a)), (0, .ref γ), (1, .int (nI a)), (2, .int (nI v)), (3, .int (vS V.1 (nI a) 0)), (4, .int (mv35_isWritten V D a)), (5, .int (vC V.1 8)), (6, .int (vC V.1 11)), (7, .int ((vC V.1 13) + (vC V.1 14))), (8, .int (mv91_isWritten V D a)), (9, .int (mv113_isWritten V D a)), (10, .int (mv154_isWritten V D a)), (11, .int (mv192_isWritten V D a)), (12, .int (vC V.1 5)), (13, .int (vC V.1 6)), (14, .int (vS V.1 (nI a) 4)), (15, .int (nI k)), (16, .int (vS D (nI a) 0))]) hx hb dL_isWritten_253 hl (by decide) rfl (fun ls hl => ?_)
                refine lv_iload hx hb dL_isWritten_255 (lv_at hl 17 rfl) ?_
                refine lv_bipush (v := 16) hx hb dL_isWritten_257 (by decide) ?_
                have K267_21 : ∀ ls : Array Slot, lv_has ls 22 [(0, .ref γ), (1, .int (nI a)), (2, .int (nI v)), (3, .int (vS V.1 (nI a) 0)), (4, .int (mv35_isWritten V D a)), (5, .int (vC V.1 8)), (6, .int (vC V.1 11)), (7, .int ((vC V.1 13) + (vC V.1 14))), (8, .int (mv91_isWritten V D a)), (9, .int (mv113_isWritten V D a)), (10, .int (mv154_isWritten V D a)), (11, .int (mv192_isWritten V D a)), (12, .int (vC V.1 5)), (13, .int (vC V.1 6)), (14, .int (vS V.1 (nI a) 4)), (15, .int (nI k)), (16, .int (vS D (nI a) 0)), (17, .int (mv253_isWritten V D a))] → W p l e (headSpec wsL_isWritten (rmN 6 160 6 818)).room s m ([.ref γ, .int (nI a), .int (nI v)] : List Value).toArray below meth c H locs (0 + 6) (0 + 818) Q (F0 m 267 ls [.int (mv267_isWritten V D a)]) := by
                  intro ls hl
                  refine lv_istore (lv' := [(18, .int (mv267_isWritten V D a)), (0, .ref γ), (1, .int (nI a)), (2, .int (nI v)), (3, .int (vS V.1 (nI a) 0)), (4, .int (mv35_isWritten V D a)), (5, .int (vC V.1 8)), (6, .int (vC V.1 11)), (7, .int ((vC V.1 13) + (vC V.1 14))), (8, .int (mv91_isWritten V D a)), (9, .int (mv113_isWritten V D a)), (10, .int (mv154_isWritten V D a)), (11, .int (mv192_isWritten V D a)), (12, .int (vC V.1 5)), (13, .int (vC V.1 6)), (14, .int (vS V.1 (nI a) 4)), (15, .int (nI k)), (16, .int (vS D (nI a) 0)), (17, .int (mv253_isWritten V D a))]) hx hb dL_isWritten_267 hl (by decide) rfl (fun ls hl => ?_)
                  refine lv_aload_n hx hb dL_isWritten_269 rfl (lv_at hl 1 rfl) ?_
                  refine lv_iload_n hx hb dL_isWritten_270 rfl (lv_at hl 2 rfl) ?_
                  refine lv_iconst (v := 2) hx hb dL_isWritten_271 (by decide) ?_
                  refine rdV (As := [.int (nI a), .int 2]) (rest := []) (o_sector l hI17 (nI a) 2) hF (cwV 2 hts gL_isWritten_X4_sector rfl rfl rfl (by decide +kernel) ⟨Nat.le_of_ble_eq_true rfl, Nat.le_of_ble_eq_true rfl⟩) (hI17.recv hK hP) hK hP rfl hl.1 rfl (Nat.le_of_ble_eq_true rfl) dL_isWritten_272 ⟨Nat.le_of_ble_eq_true rfl, Nat.le_of_ble_eq_true rfl⟩ ?_
                  refine lv_iload_n hx hb dL_isWritten_275 rfl (lv_at hl 3 rfl) ?_
                  refine lv_icmp_ne (tgt := 372) hx hb dL_isWritten_276 (by decide) (fun h9 : ¬ ((vS D (nI a) 2) = (nI v)) => absurd (show (vS D (nI a) 2) = (nI v) from f276) h9) (fun _ => ?_)
                  refine lv_aload_n hx hb dL_isWritten_279 rfl (lv_at hl 1 rfl) ?_
                  refine lv_iload_n hx hb dL_isWritten_280 rfl (lv_at hl 2 rfl) ?_
                  refine lv_iconst (v := 3) hx hb dL_isWritten_281 (by decide) ?_
                  refine rdV (As := [.int (nI a), .int 3]) (rest := []) (o_sector l hI17 (nI a) 3) hF (cwV 2 hts gL_isWritten_X4_sector rfl rfl rfl (by decide +kernel) ⟨Nat.le_of_ble_eq_true rfl, Nat.le_of_ble_eq_true rfl⟩) (hI17.recv hK hP) hK hP rfl hl.1 rfl (Nat.le_of_ble_eq_true rfl) dL_isWritten_282 ⟨Nat.le_of_ble_eq_true rfl, Nat.le_of_ble_eq_true rfl⟩ ?_
                  refine lv_if_ne (tgt := 372) hx hb dL_isWritten_285 (by decide) (fun h9 : ¬ ((vS D (nI a) 3) = 0) => absurd (show (vS D (nI a) 3) = 0 from f285) h9) (fun _ => ?_)
                  refine lv_aload_n hx hb dL_isWritten_288 rfl (lv_at hl 1 rfl) ?_
                  refine lv_bipush (v := 8) hx hb dL_isWritten_289 (by decide) ?_
                  refine rdTV (As := [.int 8]) (rest := []) (o_count l tb hI17 8 (by decide) (by decide)) hF (cwV 1 hts gL_isWritten_X4_count rfl rfl rfl (by decide +kernel) ⟨Nat.le_of_ble_eq_true rfl, Nat.le_of_ble_eq_true rfl⟩) (hI17.recv hK hP) hK hP hT hS rfl hl.1 rfl (Nat.le_of_ble_eq_true rfl) dL_isWritten_291 ⟨Nat.le_of_ble_eq_true rfl, Nat.le_of_ble_eq_true rfl⟩ ?_
                  refine lv_iload hx hb dL_isWritten_294 (lv_at hl 6 rfl) ?_
                  refine lv_iload hx hb dL_isWritten_296 (lv_at hl 5 rfl) ?_
                  refine lv_if_eq (tgt := 305) hx hb dL_isWritten_298 (by decide) (fun h9 : (mv35_isWritten V D a) = 0 => absurd h9 (show ¬ ((mv35_isWritten V D a) = 0) from hw9)) (fun _ => ?_)
                  refine lv_iconst (v := 1) hx hb dL_isWritten_301 (by decide) ?_
                  refine lv_goto (tgt := 306) hx hb dL_isWritten_302 (by decide) ?_
                  refine lv_isub hx hb dL_isWritten_306 ?_
                  refine lv_icmp_ne (tgt := 372) hx hb dL_isWritten_307 (by decide) (fun h9 : ¬ ((vC D 8) = ((vC V.1 8) - 1)) => absurd (show (vC D 8) = ((vC V.1 8) - 1) from f307) h9) (fun _ => ?_)
                  refine lv_iload hx hb dL_isWritten_310 (lv_at hl 5 rfl) ?_
                  refine lv_if_eq (tgt := 349) hx hb dL_isWritten_312 (by decide) (fun h9 : (mv35_isWritten V D a) = 0 => absurd h9 (show ¬ ((mv35_isWritten V D a) = 0) from hw9)) (fun _ => ?_)
                  refine lv_iload hx hb dL_isWritten_315 (lv_at hl 17 rfl) ?_
                  refine lv_bipush (v := 16) hx hb dL_isWritten_317 (by decide) ?_
                  refine lv_icmp_ne (tgt := 372) hx hb dL_isWritten_319 (by decide) (fun h9 : ¬ ((vS D (nI a) 0) = 16) => absurd (show (vS D (nI a) 0) = 16 from f319) h9) (fun _ => ?_)
                  refine lv_aload_n hx hb dL_isWritten_322 rfl (lv_at hl 1 rfl) ?_
                  refine lv_iload_n hx hb dL_isWritten_323 rfl (lv_at hl 2 rfl) ?_
                  refine lv_iconst (v := 1) hx hb dL_isWritten_324 (by decide) ?_
                  refine rdV (As := [.int (nI a), .int 1]) (rest := []) (o_sector l hI17 (nI a) 1) hF (cwV 2 hts gL_isWritten_X4_sector rfl rfl rfl (by decide +kernel) ⟨Nat.le_of_ble_eq_true rfl, Nat.le_of_ble_eq_true rfl⟩) (hI17.recv hK hP) hK hP rfl hl.1 rfl (Nat.le_of_ble_eq_true rfl) dL_isWritten_325 ⟨Nat.le_of_ble_eq_true rfl, Nat.le_of_ble_eq_true rfl⟩ ?_
                  refine lv_bipush (v := 12) hx hb dL_isWritten_328 (by decide) ?_
                  refine lv_iload hx hb dL_isWritten_330 (lv_at hl 6 rfl) ?_
                  refine lv_isub hx hb dL_isWritten_332 ?_
                  refine lv_icmp_ne (tgt := 372) hx hb dL_isWritten_333 (by decide) (fun h9 : ¬ ((vS D (nI a) 1) = ((12 : Int32) - (vC V.1 8))) => absurd (show (vS D (nI a) 1) = ((12 : Int32) - (vC V.1 8)) from f333) h9) (fun _ => ?_)
                  refine lv_aload_n hx hb dL_isWritten_336 rfl (lv_at hl 1 rfl) ?_
                  refine lv_iload_n hx hb dL_isWritten_337 rfl (lv_at hl 2 rfl) ?_
                  refine lv_iconst (v := 4) hx hb dL_isWritten_338 (by decide) ?_
                  refine rdV (As := [.int (nI a), .int 4]) (rest := []) (o_sector l hI17 (nI a) 4) hF (cwV 2 hts gL_isWritten_X4_sector rfl rfl rfl (by decide +kernel) ⟨Nat.le_of_ble_eq_true rfl, Nat.le_of_ble_eq_true rfl⟩) (hI17.recv hK hP) hK hP rfl hl.1 rfl (Nat.le_of_ble_eq_true rfl) dL_isWritten_339 ⟨Nat.le_of_ble_eq_true rfl, Nat.le_of_ble_eq_true rfl⟩ ?_
                  refine lv_iconst (v := 1) hx hb dL_isWritten_342 (by decide) ?_
                  refine lv_icmp_ne (tgt := 372) hx hb dL_isWritten_343 (by decide) (fun h9 : ¬ ((vS D (nI a) 4) = 1) => absurd (show (vS D (nI a) 4) = 1 from f343) h9) (fun _ => ?_)
                  refine lv_goto (tgt := 368) hx hb dL_isWritten_346 (by decide) ?_
                  refine lv_iconst (v := 1) hx hb dL_isWritten_368 (by decide) ?_
                  refine lv_goto (tgt := 373) hx hb dL_isWritten_369 (by decide) ?_
                  refine lv_istore (lv' := [(19, .int 1), (18, .int (mv267_isWritten V D a)), (0, .ref γ), (1, .int (nI a)), (2, .int (nI v)), (3, .int (vS V.1 (nI a) 0)), (4, .int (mv35_isWritten V D a)), (5, .int (vC V.1 8)), (6, .int (vC V.1 11)), (7, .int ((vC V.1 13) + (vC V.1 14))), (8, .int (mv91_isWritten V D a)), (9, .int (mv113_isWritten V D a)), (10, .int (mv154_isWritten V D a)), (11, .int (mv192_isWritten V D a)), (12, .int (vC V.1 5)), (13, .int (vC V.1 6)), (14, .int (vS V.1 (nI a) 4)), (15, .int (nI k)), (16, .int (vS D (nI a) 0)), (17, .int (mv253_isWritten V D a))]) hx hb dL_isWritten_373 hl (by decide) rfl (fun ls hl => ?_)
                  refine lv_iload hx hb dL_isWritten_375 (lv_at hl 0 rfl) ?_
                  refine lv_if_eq (tgt := 499) hx hb dL_isWritten_377 (by decide) (fun h9 : (1 : Int32) = 0 => absurd h9 (show ¬ ((1 : Int32) = 0) from (by decide))) (fun _ => ?_)
                  refine lv_aload_n hx hb dL_isWritten_380 rfl (lv_at hl 2 rfl) ?_
                  refine lv_bipush (v := 11) hx hb dL_isWritten_381 (by decide) ?_
                  refine rdTV (As := [.int 11]) (rest := []) (o_count l tb hI17 11 (by decide) (by decide)) hF (cwV 1 hts gL_isWritten_X4_count rfl rfl rfl (by decide +kernel) ⟨Nat.le_of_ble_eq_true rfl, Nat.le_of_ble_eq_true rfl⟩) (hI17.recv hK hP) hK hP hT hS rfl hl.1 rfl (Nat.le_of_ble_eq_true rfl) dL_isWritten_383 ⟨Nat.le_of_ble_eq_true rfl, Nat.le_of_ble_eq_true rfl⟩ ?_
                  refine lv_iload hx hb dL_isWritten_386 (lv_at hl 8 rfl) ?_
                  refine lv_iconst (v := 1) hx hb dL_isWritten_388 (by decide) ?_
                  refine lv_iadd hx hb dL_isWritten_389 ?_
                  refine lv_icmp_ne (tgt := 499) hx hb dL_isWritten_390 (by decide) (fun h9 : ¬ ((vC D 11) = ((vC V.1 11) + 1)) => absurd (show (vC D 11) = ((vC V.1 11) + 1) from f390) h9) (fun _ => ?_)
                  refine lv_aload_n hx hb dL_isWritten_393 rfl (lv_at hl 2 rfl) ?_
                  refine lv_bipush (v := 13) hx hb dL_isWritten_394 (by decide) ?_
                  refine rdTV (As := [.int 13]) (rest := []) (o_count l tb hI17 13 (by decide) (by decide)) hF (cwV 1 hts gL_isWritten_X4_count rfl rfl rfl (by decide +kernel) ⟨Nat.le_of_ble_eq_true rfl, Nat.le_of_ble_eq_true rfl⟩) (hI17.recv hK hP) hK hP hT hS rfl hl.1 rfl (Nat.le_of_ble_eq_true rfl) dL_isWritten_396 ⟨Nat.le_of_ble_eq_true rfl, Nat.le_of_ble_eq_true rfl⟩ ?_
                  refine lv_aload_n hx hb dL_isWritten_399 rfl (lv_at hl 2 rfl) ?_
                  refine lv_bipush (v := 14) hx hb dL_isWritten_400 (by decide) ?_
                  refine rdTV (As := [.int 14]) (rest := [.int (vC D 13)]) (o_count l tb hI17 14 (by decide) (by decide)) hF (cwV 1 hts gL_isWritten_X4_count rfl rfl rfl (by decide +kernel) ⟨Nat.le_of_ble_eq_true rfl, Nat.le_of_ble_eq_true rfl⟩) (hI17.recv hK hP) hK hP hT hS rfl hl.1 rfl (Nat.le_of_ble_eq_true rfl) dL_isWritten_402 ⟨Nat.le_of_ble_eq_true rfl, Nat.le_of_ble_eq_true rfl⟩ ?_
                  refine lv_iadd hx hb dL_isWritten_405 ?_
                  refine lv_iload hx hb dL_isWritten_406 (lv_at hl 9 rfl) ?_
                  refine lv_iload hx hb dL_isWritten_408 (lv_at hl 1 rfl) ?_
                  have K418_23 : ∀ ls : Array Slot, lv_has ls 22 [(0, .ref γ), (1, .int (nI a)), (2, .int (nI v)), (3, .int (vS V.1 (nI a) 0)), (4, .int (mv35_isWritten V D a)), (5, .int (vC V.1 8)), (6, .int (vC V.1 11)), (7, .int ((vC V.1 13) + (vC V.1 14))), (8, .int (mv91_isWritten V D a)), (9, .int (mv113_isWritten V D a)), (10, .int (mv154_isWritten V D a)), (11, .int (mv192_isWritten V D a)), (12, .int (vC V.1 5)), (13, .int (vC V.1 6)), (14, .int (vS V.1 (nI a) 4)), (15, .int (nI k)), (16, .int (vS D (nI a) 0)), (17, .int (mv253_isWritten V D a)), (18, .int (mv267_isWritten V D a)), (19, .int 1)] → W p l e (headSpec wsL_isWritten (rmN 6 160 6 818)).room s m ([.ref γ, .int (nI a), .int (nI v)] : List Value).toArray below meth c H locs (0 + 6) (0 + 818) Q (F0 m 418 ls [.int (mv418_isWritten V D a), .int ((vC V.1 13) + (vC V.1 14)), .int ((vC D 13) + (vC D 14))]) := by
                    intro ls hl
                    refine lv_iadd hx hb dL_isWritten_418 ?_
                    refine lv_icmp_ne (tgt := 499) hx hb dL_isWritten_419 (by decide) (fun h9 : ¬ (((vC D 13) + (vC D 14)) = (((vC V.1 13) + (vC V.1 14)) + (mv418_isWritten V D a))) => absurd (show ((vC D 13) + (vC D 14)) = (((vC V.1 13) + (vC V.1 14)) + (mv418_isWritten V D a)) from f419) h9) (fun _ => ?_)
                    refine lv_aload_n hx hb dL_isWritten_422 rfl (lv_at hl 0 rfl) ?_
                    refine lv_bipush (v := 6) hx hb dL_isWritten_423 (by decide) ?_
                    refine rdTV (As := [.int 6]) (rest := []) (o_count l tb hI17 6 (by decide) (by decide)) hF (cwV 1 hts gL_isWritten_X4_count rfl rfl rfl (by decide +kernel) ⟨Nat.le_of_ble_eq_true rfl, Nat.le_of_ble_eq_true rfl⟩) (hI17.recv hK hP) hK hP hT hS rfl hl.1 rfl (Nat.le_of_ble_eq_true rfl) dL_isWritten_425 ⟨Nat.le_of_ble_eq_true rfl, Nat.le_of_ble_eq_true rfl⟩ ?_
                    refine lv_iload hx hb dL_isWritten_428 (lv_at hl 16 rfl) ?_
                    refine lv_icmp_ne (tgt := 499) hx hb dL_isWritten_430 (by decide) (fun h9 : ¬ ((vC D 6) = (vS D (nI a) 0)) => absurd (show (vC D 6) = (vS D (nI a) 0) from f430) h9) (fun _ => ?_)
                    refine lv_aload_n hx hb dL_isWritten_433 rfl (lv_at hl 0 rfl) ?_
                    refine lv_iconst (v := 5) hx hb dL_isWritten_434 (by decide) ?_
                    refine rdTV (As := [.int 5]) (rest := []) (o_count l tb hI17 5 (by decide) (by decide)) hF (cwV 1 hts gL_isWritten_X4_count rfl rfl rfl (by decide +kernel) ⟨Nat.le_of_ble_eq_true rfl, Nat.le_of_ble_eq_true rfl⟩) (hI17.recv hK hP) hK hP hT hS rfl hl.1 rfl (Nat.le_of_ble_eq_true rfl) dL_isWritten_435 ⟨Nat.le_of_ble_eq_true rfl, Nat.le_of_ble_eq_true rfl⟩ ?_
                    refine lv_iload hx hb dL_isWritten_438 (lv_at hl 12 rfl) ?_
                    refine lv_iload hx hb dL_isWritten_440 (lv_at hl 15 rfl) ?_
                    refine lv_iadd hx hb dL_isWritten_442 ?_
                    refine lv_icmp_ne (tgt := 499) hx hb dL_isWritten_443 (by decide) (fun h9 : ¬ ((vC D 5) = ((vC V.1 5) + (nI k))) => absurd (show (vC D 5) = ((vC V.1 5) + (nI k)) from f443) h9) (fun _ => ?_)
                    refine lv_aload_n hx hb dL_isWritten_446 rfl (lv_at hl 0 rfl) ?_
                    refine lv_iconst (v := 5) hx hb dL_isWritten_447 (by decide) ?_
                    refine rdTV (As := [.int 5]) (rest := []) (o_count l tb hI17 5 (by decide) (by decide)) hF (cwV 1 hts gL_isWritten_X4_count rfl rfl rfl (by decide +kernel) ⟨Nat.le_of_ble_eq_true rfl, Nat.le_of_ble_eq_true rfl⟩) (hI17.recv hK hP) hK hP hT hS rfl hl.1 rfl (Nat.le_of_ble_eq_true rfl) dL_isWritten_448 ⟨Nat.le_of_ble_eq_true rfl, Nat.le_of_ble_eq_true rfl⟩ ?_
                    refine lv_iconst (v := 1) hx hb dL_isWritten_451 (by decide) ?_
                    refine lv_isub hx hb dL_isWritten_452 ?_
                    refine lv_aload_n hx hb dL_isWritten_453 rfl (lv_at hl 0 rfl) ?_
                    refine lv_iload_n hx hb dL_isWritten_454 rfl (lv_at hl 1 rfl) ?_
                    refine lv_iconst (v := 1) hx hb dL_isWritten_455 (by decide) ?_
                    refine rdV (As := [.int (nI a), .int 1]) (rest := [.int ((vC D 5) - 1)]) (o_sector l hI17 (nI a) 1) hF (cwV 2 hts gL_isWritten_X4_sector rfl rfl rfl (by decide +kernel) ⟨Nat.le_of_ble_eq_true rfl, Nat.le_of_ble_eq_true rfl⟩) (hI17.recv hK hP) hK hP rfl hl.1 rfl (Nat.le_of_ble_eq_true rfl) dL_isWritten_456 ⟨Nat.le_of_ble_eq_true rfl, Nat.le_of_ble_eq_true rfl⟩ ?_
                    refine lv_isub hx hb dL_isWritten_459 ?_
                    refine lv_bipush (v := 12) hx hb dL_isWritten_460 (by decide) ?_
                    refine lv_irem hx hb dL_isWritten_462 (by decide) ?_
                    refine lv_if_ne (tgt := 499) hx hb dL_isWritten_463 (by decide) (fun h9 : ¬ ((jrem (((vC D 5) - 1) - (vS D (nI a) 1)) 12) = 0) => absurd (show (jrem (((vC D 5) - 1) - (vS D (nI a) 1)) 12) = 0 from f463) h9) (fun _ => ?_)
                    refine lv_iload hx hb dL_isWritten_466 (lv_at hl 15 rfl) ?_
                    refine lv_iload hx hb dL_isWritten_468 (lv_at hl 17 rfl) ?_
                    refine lv_aload_n hx hb dL_isWritten_470 rfl (lv_at hl 0 rfl) ?_
                    refine lv_iconst (v := 4) hx hb dL_isWritten_471 (by decide) ?_
                    refine rdTV (As := [.int 4]) (rest := [.int (mv253_isWritten V D a), .int (nI k)]) (o_count l tb hI17 4 (by decide) (by decide)) hF (cwV 1 hts gL_isWritten_X4_count rfl rfl rfl (by decide +kernel) ⟨Nat.le_of_ble_eq_true rfl, Nat.le_of_ble_eq_true rfl⟩) (hI17.recv hK hP) hK hP hT hS rfl hl.1 rfl (Nat.le_of_ble_eq_true rfl) dL_isWritten_472 ⟨Nat.le_of_ble_eq_true rfl, Nat.le_of_ble_eq_true rfl⟩ ?_
                    refine lv_imul hx hb dL_isWritten_475 ?_
                    refine lv_icmp_le (tgt := 499) hx hb dL_isWritten_476 (by decide) (fun h9 : (nI k) ≤ ((mv253_isWritten V D a) * (vC D 4)) => absurd h9 (show ¬ ((nI k) ≤ ((mv253_isWritten V D a) * (vC D 4))) from f476)) (fun _ => ?_)
                    refine lv_iload hx hb dL_isWritten_479 (lv_at hl 15 rfl) ?_
                    refine lv_iload hx hb dL_isWritten_481 (lv_at hl 17 rfl) ?_
                    refine lv_aload_n hx hb dL_isWritten_483 rfl (lv_at hl 0 rfl) ?_
                    refine lv_iconst (v := 4) hx hb dL_isWritten_484 (by decide) ?_
                    refine rdTV (As := [.int 4]) (rest := [.int (mv253_isWritten V D a), .int (nI k)]) (o_count l tb hI17 4 (by decide) (by decide)) hF (cwV 1 hts gL_isWritten_X4_count rfl rfl rfl (by decide +kernel) ⟨Nat.le_of_ble_eq_true rfl, Nat.le_of_ble_eq_true rfl⟩) (hI17.recv hK hP) hK hP hT hS rfl hl.1 rfl (Nat.le_of_ble_eq_true rfl) dL_isWritten_485 ⟨Nat.le_of_ble_eq_true rfl, Nat.le_of_ble_eq_true rfl⟩ ?_
                    refine lv_imul hx hb dL_isWritten_488 ?_
                    refine lv_bipush (v := 12) hx hb dL_isWritten_489 (by decide) ?_
                    refine lv_iadd hx hb dL_isWritten_491 ?_
                    refine lv_icmp_gt (tgt := 499) hx hb dL_isWritten_492 (by decide) (fun h9 : (((mv253_isWritten V D a) * (vC D 4)) + 12) < (nI k) => absurd h9 (show ¬ ((((mv253_isWritten V D a) * (vC D 4)) + 12) < (nI k)) from f492)) (fun _ => ?_)
                    refine lv_iconst (v := 1) hx hb dL_isWritten_495 (by decide) ?_
                    refine lv_goto (tgt := 500) hx hb dL_isWritten_496 (by decide) ?_
                    refine lv_istore (lv' := [(19, .int 1), (0, .ref γ), (1, .int (nI a)), (2, .int (nI v)), (3, .int (vS V.1 (nI a) 0)), (4, .int (mv35_isWritten V D a)), (5, .int (vC V.1 8)), (6, .int (vC V.1 11)), (7, .int ((vC V.1 13) + (vC V.1 14))), (8, .int (mv91_isWritten V D a)), (9, .int (mv113_isWritten V D a)), (10, .int (mv154_isWritten V D a)), (11, .int (mv192_isWritten V D a)), (12, .int (vC V.1 5)), (13, .int (vC V.1 6)), (14, .int (vS V.1 (nI a) 4)), (15, .int (nI k)), (16, .int (vS D (nI a) 0)), (17, .int (mv253_isWritten V D a)), (18, .int (mv267_isWritten V D a))]) hx hb dL_isWritten_500 hl (by decide) rfl (fun ls hl => ?_)
                    refine lv_iload hx hb dL_isWritten_502 (lv_at hl 9 rfl) ?_
                    refine lv_iload hx hb dL_isWritten_504 (lv_at hl 19 rfl) ?_
                    have K523_26 : ∀ ls : Array Slot, lv_has ls 22 [(0, .ref γ), (1, .int (nI a)), (2, .int (nI v)), (3, .int (vS V.1 (nI a) 0)), (4, .int (mv35_isWritten V D a)), (5, .int (vC V.1 8)), (6, .int (vC V.1 11)), (7, .int ((vC V.1 13) + (vC V.1 14))), (8, .int (mv91_isWritten V D a)), (9, .int (mv113_isWritten V D a)), (10, .int (mv154_isWritten V D a)), (11, .int (mv192_isWritten V D a)), (12, .int (vC V.1 5)), (13, .int (vC V.1 6)), (14, .int (vS V.1 (nI a) 4)), (15, .int (nI k)), (16, .int (vS D (nI a) 0)), (17, .int (mv253_isWritten V D a)), (18, .int (mv267_isWritten V D a)), (19, .int 1)] → W p l e (headSpec wsL_isWritten (rmN 6 160 6 818)).room s m ([.ref γ, .int (nI a), .int (nI v)] : List Value).toArray below meth c H locs (0 + 6) (0 + 818) Q (F0 m 523 ls [.int (mv523_isWritten V D a), .int (mv91_isWritten V D a)]) := by
                      intro ls hl
                      refine lv_iadd hx hb dL_isWritten_523 ?_
                      refine lv_istore (lv' := [(20, .int ((mv91_isWritten V D a) + (mv523_isWritten V D a))), (0, .ref γ), (1, .int (nI a)), (2, .int (nI v)), (3, .int (vS V.1 (nI a) 0)), (4, .int (mv35_isWritten V D a)), (5, .int (vC V.1 8)), (6, .int (vC V.1 11)), (7, .int ((vC V.1 13) + (vC V.1 14))), (8, .int (mv91_isWritten V D a)), (9, .int (mv113_isWritten V D a)), (10, .int (mv154_isWritten V D a)), (11, .int (mv192_isWritten V D a)), (12, .int (vC V.1 5)), (13, .int (vC V.1 6)), (14, .int (vS V.1 (nI a) 4)), (15, .int (nI k)), (16, .int (vS D (nI a) 0)), (17, .int (mv253_isWritten V D a)), (18, .int (mv267_isWritten V D a)), (19, .int 1)]) hx hb dL_isWritten_524 hl (by decide) rfl (fun ls hl => ?_)
                      refine lv_iload hx hb dL_isWritten_526 (lv_at hl 10 rfl) ?_
                      refine lv_iload hx hb dL_isWritten_528 (lv_at hl 19 rfl) ?_
                      have K547_29 : ∀ ls : Array Slot, lv_has ls 22 [(0, .ref γ), (1, .int (nI a)), (2, .int (nI v)), (3, .int (vS V.1 (nI a) 0)), (4, .int (mv35_isWritten V D a)), (5, .int (vC V.1 8)), (6, .int (vC V.1 11)), (7, .int ((vC V.1 13) + (vC V.1 14))), (8, .int (mv91_isWritten V D a)), (9, .int (mv113_isWritten V D a)), (10, .int (mv154_isWritten V D a)), (11, .int (mv192_isWritten V D a)), (12, .int (vC V.1 5)), (13, .int (vC V.1 6)), (14, .int (vS V.1 (nI a) 4)), (15, .int (nI k)), (16, .int (vS D (nI a) 0)), (17, .int (mv253_isWritten V D a)), (18, .int (mv267_isWritten V D a)), (19, .int 1), (20, .int ((mv91_isWritten V D a) + (mv523_isWritten V D a)))] → W p l e (headSpec wsL_isWritten (rmN 6 160 6 818)).room s m ([.ref γ, .int (nI a), .int (nI v)] : List Value).toArray below meth c H locs (0 + 6) (0 + 818) Q (F0 m 547 ls [.int (mv547_isWritten V D a), .int (mv113_isWritten V D a)]) := by
                        intro ls hl
                        refine lv_iadd hx hb dL_isWritten_547 ?_
                        refine lv_istore (lv' := [(21, .int ((mv113_isWritten V D a) + (mv547_isWritten V D a))), (0, .ref γ), (1, .int (nI a)), (2, .int (nI v)), (3, .int (vS V.1 (nI a) 0)), (4, .int (mv35_isWritten V D a)), (5, .int (vC V.1 8)), (6, .int (vC V.1 11)), (7, .int ((vC V.1 13) + (vC V.1 14))), (8, .int (mv91_isWritten V D a)), (9, .int (mv113_isWritten V D a)), (10, .int (mv154_isWritten V D a)), (11, .int (mv192_isWritten V D a)), (12, .int (vC V.1 5)), (13, .int (vC V.1 6)), (14, .int (vS V.1 (nI a) 4)), (15, .int (nI k)), (16, .int (vS D (nI a) 0)), (17, .int (mv253_isWritten V D a)), (18, .int (mv267_isWritten V D a)), (19, .int 1), (20, .int ((mv91_isWritten V D a) + (mv523_isWritten V D a)))]) hx hb dL_isWritten_548 hl (by decide) rfl (fun ls hl => ?_)
                        refine lv_iload hx hb dL_isWritten_550 (lv_at hl 20 rfl) ?_
                        refine lv_if_eq (tgt := 627) hx hb dL_isWritten_552 (by decide) (fun h9 : (1 : Int32) = 0 => absurd h9 (show ¬ ((1 : Int32) = 0) from (by decide))) (fun _ => ?_)
                        refine lv_iload_n hx hb dL_isWritten_555 rfl (lv_at hl 2 rfl) ?_
                        refine lv_bipush (v := 12) hx hb dL_isWritten_556 (by decide) ?_
                        refine lv_iadd hx hb dL_isWritten_558 ?_
                        refine lv_sipush (v := 192) hx hb dL_isWritten_559 (by decide) ?_
                        refine lv_icmp_ge (tgt := 591) hx hb dL_isWritten_562 (by decide) (fun (c30 : 192 ≤ ((nI a) + 12)) => ?_) (fun (c30 : ¬ (192 ≤ ((nI a) + 12))) => ?_)
                        · skip
                          refine lv_iload_n hx hb dL_isWritten_591 rfl (lv_at hl 2 rfl) ?_
                          refine lv_bipush (v := 24) hx hb dL_isWritten_592 (by decide) ?_
                          refine lv_icmp_lt (tgt := 623) hx hb dL_isWritten_594 (by decide) (fun (c31 : (nI a) < 24) => ?_) (fun (c31 : ¬ ((nI a) < 24)) => ?_)
                          · skip
                            refine lv_iconst (v := 1) hx hb dL_isWritten_623 (by decide) ?_
                            refine lv_goto (tgt := 628) hx hb dL_isWritten_624 (by decide) ?_
                            subst hA9
                            refine W.widen (k := 6) (n := 818) (Nat.le_of_ble_eq_true rfl) (Nat.le_of_ble_eq_true rfl) ?_
                            rw [hQ]
                            exact W.zret (ty := .boolean) hx hb hr rfl (fun t ht hW => ⟨rfl, ⟨_, ⟨_, _, e1, hO, hI17⟩, by rw [ht]; exact hP, hD⟩, hS.F ht⟩) hS.2.2 dL_isWritten_628
                          · skip
                            refine lv_aload_n hx hb dL_isWritten_597 rfl (lv_at hl 1 rfl) ?_
                            refine lv_iload_n hx hb dL_isWritten_598 rfl (lv_at hl 2 rfl) ?_
                            refine lv_bipush (v := 24) hx hb dL_isWritten_599 (by decide) ?_
                            refine lv_isub hx hb dL_isWritten_601 ?_
                            refine lv_iconst (v := 3) hx hb dL_isWritten_602 (by decide) ?_
                            refine rdV (As := [.int ((nI a) - 24), .int 3]) (rest := []) (o_sector l hI17 ((nI a) - 24) 3) hF (cwV 2 hts gL_isWritten_X4_sector rfl rfl rfl (by decide +kernel) ⟨Nat.le_of_ble_eq_true rfl, Nat.le_of_ble_eq_true rfl⟩) (hI17.recv hK hP) hK hP rfl hl.1 rfl (Nat.le_of_ble_eq_true rfl) dL_isWritten_603 ⟨Nat.le_of_ble_eq_true rfl, Nat.le_of_ble_eq_true rfl⟩ ?_
                            refine lv_iload hx hb dL_isWritten_606 (lv_at hl 0 rfl) ?_
                            refine lv_bipush (v := 99) hx hb dL_isWritten_608 (by decide) ?_
                            have K620_33 : ∀ ls : Array Slot, lv_has ls 22 [(0, .ref γ), (1, .int (nI a)), (2, .int (nI v)), (3, .int (vS V.1 (nI a) 0)), (4, .int (mv35_isWritten V D a)), (5, .int (vC V.1 8)), (6, .int (vC V.1 11)), (7, .int ((vC V.1 13) + (vC V.1 14))), (8, .int (mv91_isWritten V D a)), (9, .int (mv113_isWritten V D a)), (10, .int (mv154_isWritten V D a)), (11, .int (mv192_isWritten V D a)), (12, .int (vC V.1 5)), (13, .int (vC V.1 6)), (14, .int (vS V.1 (nI a) 4)), (15, .int (nI k)), (16, .int (vS D (nI a) 0)), (17, .int (mv253_isWritten V D a)), (18, .int (mv267_isWritten V D a)), (19, .int 1), (20, .int ((mv91_isWritten V D a) + (mv523_isWritten V D a))), (21, .int ((mv113_isWritten V D a) + (mv547_isWritten V D a)))] → W p l e (headSpec wsL_isWritten (rmN 6 160 6 818)).room s m ([.ref γ, .int (nI a), .int (nI v)] : List Value).toArray below meth c H locs (0 + 6) (0 + 818) Q (F0 m 620 ls [.int (mv620_isWritten V D a), .int (vS D ((nI a) - 24) 3)]) := by
                              intro ls hl
                              refine lv_icmp_ne (tgt := 627) hx hb dL_isWritten_620 (by decide) (fun h9 : ¬ ((vS D ((nI a) - 24) 3) = (mv620_isWritten V D a)) => absurd (show (vS D ((nI a) - 24) 3) = (mv620_isWritten V D a) from (f620 c31)) h9) (fun _ => ?_)
                              refine lv_iconst (v := 1) hx hb dL_isWritten_623 (by decide) ?_
                              refine lv_goto (tgt := 628) hx hb dL_isWritten_624 (by decide) ?_
                              subst hA9
                              refine W.widen (k := 6) (n := 818) (Nat.le_of_ble_eq_true rfl) (Nat.le_of_ble_eq_true rfl) ?_
                              rw [hQ]
                              exact W.zret (ty := .boolean) hx hb hr rfl (fun t ht hW => ⟨rfl, ⟨_, ⟨_, _, e1, hO, hI17⟩, by rw [ht]; exact hP, hD⟩, hS.F ht⟩) hS.2.2 dL_isWritten_628
                            refine lv_icmp_le (tgt := 618) hx hb dL_isWritten_610 (by decide) (fun (c32 : ((mv113_isWritten V D a) + (mv547_isWritten V D a)) ≤ 99) => ?_) (fun (c32 : ¬ (((mv113_isWritten V D a) + (mv547_isWritten V D a)) ≤ 99)) => ?_)
                            · skip
                              refine lv_iload hx hb dL_isWritten_618 (lv_at hl 0 rfl) ?_
                              have k9 := K620_33 ls (lv_sub hl [1, 2, 3, 4, 5, 6, 7, 8, 9, 10, 11, 12, 13, 14, 15, 16, 17, 18, 19, 20, 21, 0] rfl)
                              rw [show (mv620_isWritten V D a) = ((mv113_isWritten V D a) + (mv547_isWritten V D a)) from by unfold mv620_isWritten; rw [if_pos c32]] at k9
                              exact k9
                            · skip
                              refine lv_bipush (v := 99) hx hb dL_isWritten_613 (by decide) ?_
                              refine lv_goto (tgt := 620) hx hb dL_isWritten_615 (by decide) ?_
                              have k9 := K620_33 ls (lv_sub hl [1, 2, 3, 4, 5, 6, 7, 8, 9, 10, 11, 12, 13, 14, 15, 16, 17, 18, 19, 20, 21, 0] rfl)
                              rw [show (mv620_isWritten V D a) = 99 from by unfold mv620_isWritten; rw [if_neg c32]] at k9
                              exact k9
                        · skip
                          refine lv_aload_n hx hb dL_isWritten_565 rfl (lv_at hl 1 rfl) ?_
                          refine lv_iload_n hx hb dL_isWritten_566 rfl (lv_at hl 2 rfl) ?_
                          refine lv_bipush (v := 12) hx hb dL_isWritten_567 (by decide) ?_
                          refine lv_iadd hx hb dL_isWritten_569 ?_
                          refine lv_iconst (v := 3) hx hb dL_isWritten_570 (by decide) ?_
                          refine rdV (As := [.int ((nI a) + 12), .int 3]) (rest := []) (o_sector l hI17 ((nI a) + 12) 3) hF (cwV 2 hts gL_isWritten_X4_sector rfl rfl rfl (by decide +kernel) ⟨Nat.le_of_ble_eq_true rfl, Nat.le_of_ble_eq_true rfl⟩) (hI17.recv hK hP) hK hP rfl hl.1 rfl (Nat.le_of_ble_eq_true rfl) dL_isWritten_571 ⟨Nat.le_of_ble_eq_true rfl, Nat.le_of_ble_eq_true rfl⟩ ?_
                          refine lv_iload hx hb dL_isWritten_574 (lv_at hl 21 rfl) ?_
                          refine lv_bipush (v := 99) hx hb dL_isWritten_576 (by decide) ?_
                          have K588_35 : ∀ ls : Array Slot, lv_has ls 22 [(0, .ref γ), (1, .int (nI a)), (2, .int (nI v)), (3, .int (vS V.1 (nI a) 0)), (4, .int (mv35_isWritten V D a)), (5, .int (vC V.1 8)), (6, .int (vC V.1 11)), (7, .int ((vC V.1 13) + (vC V.1 14))), (8, .int (mv91_isWritten V D a)), (9, .int (mv113_isWritten V D a)), (10, .int (mv154_isWritten V D a)), (11, .int (mv192_isWritten V D a)), (12, .int (vC V.1 5)), (13, .int (vC V.1 6)), (14, .int (vS V.1 (nI a) 4)), (15, .int (nI k)), (16, .int (vS D (nI a) 0)), (17, .int (mv253_isWritten V D a)), (18, .int (mv267_isWritten V D a)), (19, .int 1), (20, .int ((mv91_isWritten V D a) + (mv523_isWritten V D a))), (21, .int ((mv113_isWritten V D a) + (mv547_isWritten V D a)))] → W p l e (headSpec wsL_isWritten (rmN 6 160 6 818)).room s m ([.ref γ, .int (nI a), .int (nI v)] : List Value).toArray below meth c H locs (0 + 6) (0 + 818) Q (F0 m 588 ls [.int (mv588_isWritten V D a), .int (vS D ((nI a) + 12) 3)]) := by
                            intro ls hl
                            refine lv_icmp_ne (tgt := 627) hx hb dL_isWritten_588 (by decide) (fun h9 : ¬ ((vS D ((nI a) + 12) 3) = (mv588_isWritten V D a)) => absurd (show (vS D ((nI a) + 12) 3) = (mv588_isWritten V D a) from (f588 c30)) h9) (fun _ => ?_)
                            refine lv_iload_n hx hb dL_isWritten_591 rfl (lv_at hl 1 rfl) ?_
                            refine lv_bipush (v := 24) hx hb dL_isWritten_592 (by decide) ?_
                            refine lv_icmp_lt (tgt := 623) hx hb dL_isWritten_594 (by decide) (fun (c36 : (nI a) < 24) => ?_) (fun (c36 : ¬ ((nI a) < 24)) => ?_)
                            · skip
                              refine lv_iconst (v := 1) hx hb dL_isWritten_623 (by decide) ?_
                              refine lv_goto (tgt := 628) hx hb dL_isWritten_624 (by decide) ?_
                              subst hA9
                              refine W.widen (k := 6) (n := 818) (Nat.le_of_ble_eq_true rfl) (Nat.le_of_ble_eq_true rfl) ?_
                              rw [hQ]
                              exact W.zret (ty := .boolean) hx hb hr rfl (fun t ht hW => ⟨rfl, ⟨_, ⟨_, _, e1, hO, hI17⟩, by rw [ht]; exact hP, hD⟩, hS.F ht⟩) hS.2.2 dL_isWritten_628
                            · skip
                              refine lv_aload_n hx hb dL_isWritten_597 rfl (lv_at hl 0 rfl) ?_
                              refine lv_iload_n hx hb dL_isWritten_598 rfl (lv_at hl 1 rfl) ?_
                              refine lv_bipush (v := 24) hx hb dL_isWritten_599 (by decide) ?_
                              refine lv_isub hx hb dL_isWritten_601 ?_
                              refine lv_iconst (v := 3) hx hb dL_isWritten_602 (by decide) ?_
                              refine rdV (As := [.int ((nI a) - 24), .int 3]) (rest := []) (o_sector l hI17 ((nI a) - 24) 3) hF (cwV 2 hts gL_isWritten_X4_sector rfl rfl rfl (by decide +kernel) ⟨Nat.le_of_ble_eq_true rfl, Nat.le_of_ble_eq_true rfl⟩) (hI17.recv hK hP) hK hP rfl hl.1 rfl (Nat.le_of_ble_eq_true rfl) dL_isWritten_603 ⟨Nat.le_of_ble_eq_true rfl, Nat.le_of_ble_eq_true rfl⟩ ?_
                              refine lv_iload hx hb dL_isWritten_606 (lv_at hl 21 rfl) ?_
                              refine lv_bipush (v := 99) hx hb dL_isWritten_608 (by decide) ?_
                              have K620_38 : ∀ ls : Array Slot, lv_has ls 22 [(0, .ref γ), (1, .int (nI a)), (2, .int (nI v)), (3, .int (vS V.1 (nI a) 0)), (4, .int (mv35_isWritten V D a)), (5, .int (vC V.1 8)), (6, .int (vC V.1 11)), (7, .int ((vC V.1 13) + (vC V.1 14))), (8, .int (mv91_isWritten V D a)), (9, .int (mv113_isWritten V D a)), (10, .int (mv154_isWritten V D a)), (11, .int (mv192_isWritten V D a)), (12, .int (vC V.1 5)), (13, .int (vC V.1 6)), (14, .int (vS V.1 (nI a) 4)), (15, .int (nI k)), (16, .int (vS D (nI a) 0)), (17, .int (mv253_isWritten V D a)), (18, .int (mv267_isWritten V D a)), (19, .int 1), (20, .int ((mv91_isWritten V D a) + (mv523_isWritten V D a))), (21, .int ((mv113_isWritten V D a) + (mv547_isWritten V D a)))] → W p l e (headSpec wsL_isWritten (rmN 6 160 6 818)).room s m ([.ref γ, .int (nI a), .int (nI v)] : List Value).toArray below meth c H locs (0 + 6) (0 + 818) Q (F0 m 620 ls [.int (mv620_isWritten V D a), .int (vS D ((nI a) - 24) 3)]) := by
                                intro ls hl
                                refine lv_icmp_ne (tgt := 627) hx hb dL_isWritten_620 (by decide) (fun h9 : ¬ ((vS D ((nI a) - 24) 3) = (mv620_isWritten V D a)) => absurd (show (vS D ((nI a) - 24) 3) = (mv620_isWritten V D a) from (f620 c36)) h9) (fun _ => ?_)
                                refine lv_iconst (v := 1) hx hb dL_isWritten_623 (by decide) ?_
                                refine lv_goto (tgt := 628) hx hb dL_isWritten_624 (by decide) ?_
                                subst hA9
                                refine W.widen (k := 6) (n := 818) (Nat.le_of_ble_eq_true rfl) (Nat.le_of_ble_eq_true rfl) ?_
                                rw [hQ]
                                exact W.zret (ty := .boolean) hx hb hr rfl (fun t ht hW => ⟨rfl, ⟨_, ⟨_, _, e1, hO, hI17⟩, by rw [ht]; exact hP, hD⟩, hS.F ht⟩) hS.2.2 dL_isWritten_628
                              refine lv_icmp_le (tgt := 618) hx hb dL_isWritten_610 (by decide) (fun (c37 : ((mv113_isWritten V D a) + (mv547_isWritten V D a)) ≤ 99) => ?_) (fun (c37 : ¬ (((mv113_isWritten V D a) + (mv547_isWritten V D a)) ≤ 99)) => ?_)
                              · skip
                                refine lv_iload hx hb dL_isWritten_618 (lv_at hl 21 rfl) ?_
                                have k9 := K620_38 ls (lv_sub hl [0, 1, 2, 3, 4, 5, 6, 7, 8, 9, 10, 11, 12, 13, 14, 15, 16, 17, 18, 19, 20, 21] rfl)
                                rw [show (mv620_isWritten V D a) = ((mv113_isWritten V D a) + (mv547_isWritten V D a)) from by unfold mv620_isWritten; rw [if_pos c37]] at k9
                                exact k9
                              · skip
                                refine lv_bipush (v := 99) hx hb dL_isWritten_613 (by decide) ?_
                                refine lv_goto (tgt := 620) hx hb dL_isWritten_615 (by decide) ?_
                                have k9 := K620_38 ls (lv_sub hl [0, 1, 2, 3, 4, 5, 6, 7, 8, 9, 10, 11, 12, 13, 14, 15, 16, 17, 18, 19, 20, 21] rfl)
                                rw [show (mv620_isWritten V D a) = 99 from by unfold mv620_isWritten; rw [if_neg c37]] at k9
                                exact k9
                          refine lv_icmp_le (tgt := 586) hx hb dL_isWritten_578 (by decide) (fun (c34 : ((mv91_isWritten V D a) + (mv523_isWritten V D a)) ≤ 99) => ?_) (fun (c34 : ¬ (((mv91_isWritten V D a) + (mv523_isWritten V D a)) ≤ 99)) => ?_)
                          · skip
                            refine lv_iload hx hb dL_isWritten_586 (lv_at hl 21 rfl) ?_
                            have k9 := K588_35 ls (lv_sub hl [1, 2, 3, 4, 5, 6, 7, 8, 9, 10, 11, 12, 13, 14, 15, 16, 17, 18, 19, 20, 21, 0] rfl)
                            rw [show (mv588_isWritten V D a) = ((mv91_isWritten V D a) + (mv523_isWritten V D a)) from by unfold mv588_isWritten; rw [if_pos c34]] at k9
                            exact k9
                          · skip
                            refine lv_bipush (v := 99) hx hb dL_isWritten_581 (by decide) ?_
                            refine lv_goto (tgt := 588) hx hb dL_isWritten_583 (by decide) ?_
                            have k9 := K588_35 ls (lv_sub hl [1, 2, 3, 4, 5, 6, 7, 8, 9, 10, 11, 12, 13, 14, 15, 16, 17, 18, 19, 20, 21, 0] rfl)
                            rw [show (mv588_isWritten V D a) = 99 from by unfold mv588_isWritten; rw [if_neg c34]] at k9
                            exact k9
                      refine lv_if_eq (tgt := 546) hx hb dL_isWritten_530 (by decide) (fun (c27 : (mv267_isWritten V D a) = 0) => ?_) (fun (c27 : ¬ ((mv267_isWritten V D a) = 0)) => ?_)
                      · skip
                        refine lv_iconst (v := 0) hx hb dL_isWritten_546 (by decide) ?_
                        have k9 := K547_29 ls (lv_sub hl [1, 2, 3, 4, 5, 6, 7, 8, 9, 10, 11, 12, 13, 14, 15, 16, 17, 18, 19, 20, 0] rfl)
                        rw [show (mv547_isWritten V D a) = 0 from by unfold mv547_isWritten; rw [if_pos c27]] at k9
                        exact k9
                      · skip
                        refine lv_iload hx hb dL_isWritten_533 (lv_at hl 12 rfl) ?_
                        refine lv_if_eq (tgt := 546) hx hb dL_isWritten_535 (by decide) (fun (c28 : (mv192_isWritten V D a) = 0) => ?_) (fun (c28 : ¬ ((mv192_isWritten V D a) = 0)) => ?_)
                        · skip
                          refine lv_iconst (v := 0) hx hb dL_isWritten_546 (by decide) ?_
                          have k9 := K547_29 ls (lv_sub hl [1, 2, 3, 4, 5, 6, 7, 8, 9, 10, 11, 12, 13, 14, 15, 16, 17, 18, 19, 20, 0] rfl)
                          rw [show (mv547_isWritten V D a) = 0 from by unfold mv547_isWritten; rw [if_neg c27, if_pos c28]] at k9
                          exact k9
                        · skip
                          refine lv_aload_n hx hb dL_isWritten_538 rfl (lv_at hl 1 rfl) ?_
                          refine lv_iconst (v := 1) hx hb dL_isWritten_539 (by decide) ?_
                          refine rdTV (As := [.int 1]) (rest := [.int (mv113_isWritten V D a)]) (o_count l tb hI17 1 (by decide) (by decide)) hF (cwV 1 hts gL_isWritten_X4_count rfl rfl rfl (by decide +kernel) ⟨Nat.le_of_ble_eq_true rfl, Nat.le_of_ble_eq_true rfl⟩) (hI17.recv hK hP) hK hP hT hS rfl hl.1 rfl (Nat.le_of_ble_eq_true rfl) dL_isWritten_540 ⟨Nat.le_of_ble_eq_true rfl, Nat.le_of_ble_eq_true rfl⟩ ?_
                          refine lv_goto (tgt := 547) hx hb dL_isWritten_543 (by decide) ?_
                          have k9 := K547_29 ls (lv_sub hl [1, 2, 3, 4, 5, 6, 7, 8, 9, 10, 11, 12, 13, 14, 15, 16, 17, 18, 19, 20, 0] rfl)
                          rw [show (mv547_isWritten V D a) = (vC D 1) from by unfold mv547_isWritten; rw [if_neg c27, if_neg c28]] at k9
                          exact k9
                    refine lv_if_eq (tgt := 522) hx hb dL_isWritten_506 (by decide) (fun (c24 : (mv267_isWritten V D a) = 0) => ?_) (fun (c24 : ¬ ((mv267_isWritten V D a) = 0)) => ?_)
                    · skip
                      refine lv_iconst (v := 0) hx hb dL_isWritten_522 (by decide) ?_
                      have k9 := K523_26 ls (lv_sub hl [1, 2, 3, 4, 5, 6, 7, 8, 9, 10, 11, 12, 13, 14, 15, 16, 17, 18, 19, 0] rfl)
                      rw [show (mv523_isWritten V D a) = 0 from by unfold mv523_isWritten; rw [if_pos c24]] at k9
                      exact k9
                    · skip
                      refine lv_iload hx hb dL_isWritten_509 (lv_at hl 11 rfl) ?_
                      refine lv_if_eq (tgt := 522) hx hb dL_isWritten_511 (by decide) (fun (c25 : (mv154_isWritten V D a) = 0) => ?_) (fun (c25 : ¬ ((mv154_isWritten V D a) = 0)) => ?_)
                      · skip
                        refine lv_iconst (v := 0) hx hb dL_isWritten_522 (by decide) ?_
                        have k9 := K523_26 ls (lv_sub hl [1, 2, 3, 4, 5, 6, 7, 8, 9, 10, 11, 12, 13, 14, 15, 16, 17, 18, 19, 0] rfl)
                        rw [show (mv523_isWritten V D a) = 0 from by unfold mv523_isWritten; rw [if_neg c24, if_pos c25]] at k9
                        exact k9
                      · skip
                        refine lv_aload_n hx hb dL_isWritten_514 rfl (lv_at hl 1 rfl) ?_
                        refine lv_iconst (v := 0) hx hb dL_isWritten_515 (by decide) ?_
                        refine rdTV (As := [.int 0]) (rest := [.int (mv91_isWritten V D a)]) (o_count l tb hI17 0 (by decide) (by decide)) hF (cwV 1 hts gL_isWritten_X4_count rfl rfl rfl (by decide +kernel) ⟨Nat.le_of_ble_eq_true rfl, Nat.le_of_ble_eq_true rfl⟩) (hI17.recv hK hP) hK hP hT hS rfl hl.1 rfl (Nat.le_of_ble_eq_true rfl) dL_isWritten_516 ⟨Nat.le_of_ble_eq_true rfl, Nat.le_of_ble_eq_true rfl⟩ ?_
                        refine lv_goto (tgt := 523) hx hb dL_isWritten_519 (by decide) ?_
                        have k9 := K523_26 ls (lv_sub hl [1, 2, 3, 4, 5, 6, 7, 8, 9, 10, 11, 12, 13, 14, 15, 16, 17, 18, 19, 0] rfl)
                        rw [show (mv523_isWritten V D a) = (vC D 0) from by unfold mv523_isWritten; rw [if_neg c24, if_neg c25]] at k9
                        exact k9
                  refine lv_if_eq (tgt := 417) hx hb dL_isWritten_410 (by decide) (fun (c22 : (mv267_isWritten V D a) = 0) => ?_) (fun (c22 : ¬ ((mv267_isWritten V D a) = 0)) => ?_)
                  · skip
                    refine lv_iconst (v := 0) hx hb dL_isWritten_417 (by decide) ?_
                    have k9 := K418_23 ls (lv_sub hl [2, 3, 4, 5, 6, 7, 8, 9, 10, 11, 12, 13, 14, 15, 16, 17, 18, 19, 1, 0] rfl)
                    rw [show (mv418_isWritten V D a) = 0 from by unfold mv418_isWritten; rw [if_pos c22]] at k9
                    exact k9
                  · skip
                    refine lv_iconst (v := 1) hx hb dL_isWritten_413 (by decide) ?_
                    refine lv_goto (tgt := 418) hx hb dL_isWritten_414 (by decide) ?_
                    have k9 := K418_23 ls (lv_sub hl [2, 3, 4, 5, 6, 7, 8, 9, 10, 11, 12, 13, 14, 15, 16, 17, 18, 19, 1, 0] rfl)
                    rw [show (mv418_isWritten V D a) = 1 from by unfold mv418_isWritten; rw [if_neg c22]] at k9
                    exact k9
                refine lv_icmp_ge (tgt := 266) hx hb dL_isWritten_259 (by decide) (fun (c20 : 16 ≤ (vS D (nI a) 0)) => ?_) (fun (c20 : ¬ (16 ≤ (vS D (nI a) 0))) => ?_)
                · skip
                  refine lv_iconst (v := 0) hx hb dL_isWritten_266 (by decide) ?_
                  have k9 := K267_21 ls (lv_sub hl [1, 2, 3, 4, 5, 6, 7, 8, 9, 10, 11, 12, 13, 14, 15, 16, 17, 0] rfl)
                  rw [show (mv267_isWritten V D a) = 0 from by unfold mv267_isWritten; rw [if_pos c20]] at k9
                  exact k9
                · skip
                  refine lv_iconst (v := 1) hx hb dL_isWritten_262 (by decide) ?_
                  refine lv_goto (tgt := 267) hx hb dL_isWritten_263 (by decide) ?_
                  have k9 := K267_21 ls (lv_sub hl [1, 2, 3, 4, 5, 6, 7, 8, 9, 10, 11, 12, 13, 14, 15, 16, 17, 0] rfl)
                  rw [show (mv267_isWritten V D a) = 1 from by unfold mv267_isWritten; rw [if_neg c20]] at k9
                  exact k9
              refine lv_icmp_le (tgt := 248) hx hb dL_isWritten_237 (by decide) (fun (c18 : (vS D (nI a) 0) ≤ (vC V.1 6)) => ?_) (fun (c18 : ¬ ((vS D (nI a) 0) ≤ (vC V.1 6))) => ?_)
              · skip
                refine lv_iload hx hb dL_isWritten_248 (lv_at hl 3 rfl) ?_
                refine lv_iload hx hb dL_isWritten_250 (lv_at hl 0 rfl) ?_
                refine lv_isub hx hb dL_isWritten_252 ?_
                have k9 := K253_19 ls (lv_sub hl [6, 7, 8, 9, 10, 11, 12, 13, 14, 15, 16, 5, 4, 3, 2, 1, 0] rfl)
                rw [show (mv253_isWritten V D a) = ((vC V.1 6) - (vS D (nI a) 0)) from by unfold mv253_isWritten; rw [if_pos c18]] at k9
                exact k9
              · skip
                refine lv_iload hx hb dL_isWritten_240 (lv_at hl 0 rfl) ?_
                refine lv_iload hx hb dL_isWritten_242 (lv_at hl 3 rfl) ?_
                refine lv_isub hx hb dL_isWritten_244 ?_
                refine lv_goto (tgt := 253) hx hb dL_isWritten_245 (by decide) ?_
                have k9 := K253_19 ls (lv_sub hl [6, 7, 8, 9, 10, 11, 12, 13, 14, 15, 16, 5, 4, 3, 2, 1, 0] rfl)
                rw [show (mv253_isWritten V D a) = ((vS D (nI a) 0) - (vC V.1 6)) from by unfold mv253_isWritten; rw [if_neg c18]] at k9
                exact k9
            refine lv_if_lt (tgt := 191) hx hb dL_isWritten_160 (by decide) (fun (c12 : ((nI a) - 24) < 0) => ?_) (fun (c12 : ¬ (((nI a) - 24) < 0)) => ?_)
            · skip
              refine lv_iconst (v := 0) hx hb dL_isWritten_191 (by decide) ?_
              have k9 := K192_15 ls (lv_sub hl [1, 2, 3, 4, 5, 6, 7, 8, 9, 10, 0] rfl)
              rw [show (mv192_isWritten V D a) = 0 from by unfold mv192_isWritten; rw [if_pos c12]] at k9
              exact k9
            · skip
              refine lv_aload_n hx hb dL_isWritten_163 rfl (lv_at hl 1 rfl) ?_
              refine lv_iload_n hx hb dL_isWritten_164 rfl (lv_at hl 2 rfl) ?_
              refine lv_bipush (v := 24) hx hb dL_isWritten_165 (by decide) ?_
              refine lv_isub hx hb dL_isWritten_167 ?_
              refine lv_iconst (v := 2) hx hb dL_isWritten_168 (by decide) ?_
              refine rdV (As := [.int ((nI a) - 24), .int 2]) (rest := []) (o_sector l hI ((nI a) - 24) 2) hF (cwV 2 hts gL_isWritten_X4_sector rfl rfl rfl (by decide +kernel) ⟨Nat.le_of_ble_eq_true rfl, Nat.le_of_ble_eq_true rfl⟩) (hI.recv hK hP) hK hP rfl hl.1 rfl (Nat.le_of_ble_eq_true rfl) dL_isWritten_169 ⟨Nat.le_of_ble_eq_true rfl, Nat.le_of_ble_eq_true rfl⟩ ?_
              refine lv_if_lt (tgt := 191) hx hb dL_isWritten_172 (by decide) (fun (c13 : (vS V.1 ((nI a) - 24) 2) < 0) => ?_) (fun (c13 : ¬ ((vS V.1 ((nI a) - 24) 2) < 0)) => ?_)
              · skip
                refine lv_iconst (v := 0) hx hb dL_isWritten_191 (by decide) ?_
                have k9 := K192_15 ls (lv_sub hl [1, 2, 3, 4, 5, 6, 7, 8, 9, 10, 0] rfl)
                rw [show (mv192_isWritten V D a) = 0 from by unfold mv192_isWritten; rw [if_neg c12, if_pos c13]] at k9
                exact k9
              · skip
                refine lv_aload_n hx hb dL_isWritten_175 rfl (lv_at hl 1 rfl) ?_
                refine lv_iload_n hx hb dL_isWritten_176 rfl (lv_at hl 2 rfl) ?_
                refine lv_bipush (v := 24) hx hb dL_isWritten_177 (by decide) ?_
                refine lv_isub hx hb dL_isWritten_179 ?_
                refine lv_iconst (v := 5) hx hb dL_isWritten_180 (by decide) ?_
                refine rdV (As := [.int ((nI a) - 24), .int 5]) (rest := []) (o_sector l hI ((nI a) - 24) 5) hF (cwV 2 hts gL_isWritten_X4_sector rfl rfl rfl (by decide +kernel) ⟨Nat.le_of_ble_eq_true rfl, Nat.le_of_ble_eq_true rfl⟩) (hI.recv hK hP) hK hP rfl hl.1 rfl (Nat.le_of_ble_eq_true rfl) dL_isWritten_181 ⟨Nat.le_of_ble_eq_true rfl, Nat.le_of_ble_eq_true rfl⟩ ?_
                refine lv_if_ne (tgt := 191) hx hb dL_isWritten_184 (by decide) (fun (c14 : ¬ ((vS V.1 ((nI a) - 24) 5) = 0)) => ?_) (fun (c14 : (vS V.1 ((nI a) - 24) 5) = 0) => ?_)
                · skip
                  refine lv_iconst (v := 0) hx hb dL_isWritten_191 (by decide) ?_
                  have k9 := K192_15 ls (lv_sub hl [1, 2, 3, 4, 5, 6, 7, 8, 9, 10, 0] rfl)
                  rw [show (mv192_isWritten V D a) = 0 from by unfold mv192_isWritten; rw [if_neg c12, if_neg c13, if_neg c14]] at k9
                  exact k9
                · skip
                  refine lv_iconst (v := 1) hx hb dL_isWritten_187 (by decide) ?_
                  refine lv_goto (tgt := 192) hx hb dL_isWritten_188 (by decide) ?_
                  have k9 := K192_15 ls (lv_sub hl [1, 2, 3, 4, 5, 6, 7, 8, 9, 10, 0] rfl)
                  rw [show (mv192_isWritten V D a) = 1 from by unfold mv192_isWritten; rw [if_neg c12, if_neg c13, if_pos c14]] at k9
                  exact k9
          refine lv_icmp_ge (tgt := 153) hx hb dL_isWritten_122 (by decide) (fun (c8 : 192 ≤ ((nI a) + 12)) => ?_) (fun (c8 : ¬ (192 ≤ ((nI a) + 12))) => ?_)
          · skip
            refine lv_iconst (v := 0) hx hb dL_isWritten_153 (by decide) ?_
            have k9 := K154_11 ls (lv_sub hl [1, 2, 3, 4, 5, 6, 7, 8, 9, 0] rfl)
            rw [show (mv154_isWritten V D a) = 0 from by unfold mv154_isWritten; rw [if_pos c8]] at k9
            exact k9
          · skip
            refine lv_aload_n hx hb dL_isWritten_125 rfl (lv_at hl 1 rfl) ?_
            refine lv_iload_n hx hb dL_isWritten_126 rfl (lv_at hl 2 rfl) ?_
            refine lv_bipush (v := 12) hx hb dL_isWritten_127 (by decide) ?_
            refine lv_iadd hx hb dL_isWritten_129 ?_
            refine lv_iconst (v := 2) hx hb dL_isWritten_130 (by decide) ?_
            refine rdV (As := [.int ((nI a) + 12), .int 2]) (rest := []) (o_sector l hI ((nI a) + 12) 2) hF (cwV 2 hts gL_isWritten_X4_sector rfl rfl rfl (by decide +kernel) ⟨Nat.le_of_ble_eq_true rfl, Nat.le_of_ble_eq_true rfl⟩) (hI.recv hK hP) hK hP rfl hl.1 rfl (Nat.le_of_ble_eq_true rfl) dL_isWritten_131 ⟨Nat.le_of_ble_eq_true rfl, Nat.le_of_ble_eq_true rfl⟩ ?_
            refine lv_if_lt (tgt := 153) hx hb dL_isWritten_134 (by decide) (fun (c9 : (vS V.1 ((nI a) + 12) 2) < 0) => ?_) (fun (c9 : ¬ ((vS V.1 ((nI a) + 12) 2) < 0)) => ?_)
            · skip
              refine lv_iconst (v := 0) hx hb dL_isWritten_153 (by decide) ?_
              have k9 := K154_11 ls (lv_sub hl [1, 2, 3, 4, 5, 6, 7, 8, 9, 0] rfl)
              rw [show (mv154_isWritten V D a) = 0 from by unfold mv154_isWritten; rw [if_neg c8, if_pos c9]] at k9
              exact k9
            · skip
              refine lv_aload_n hx hb dL_isWritten_137 rfl (lv_at hl 1 rfl) ?_
              refine lv_iload_n hx hb dL_isWritten_138 rfl (lv_at hl 2 rfl) ?_
              refine lv_bipush (v := 12) hx hb dL_isWritten_139 (by decide) ?_
              refine lv_iadd hx hb dL_isWritten_141 ?_
              refine lv_iconst (v := 5) hx hb dL_isWritten_142 (by decide) ?_
              refine rdV (As := [.int ((nI a) + 12), .int 5]) (rest := []) (o_sector l hI ((nI a) + 12) 5) hF (cwV 2 hts gL_isWritten_X4_sector rfl rfl rfl (by decide +kernel) ⟨Nat.le_of_ble_eq_true rfl, Nat.le_of_ble_eq_true rfl⟩) (hI.recv hK hP) hK hP rfl hl.1 rfl (Nat.le_of_ble_eq_true rfl) dL_isWritten_143 ⟨Nat.le_of_ble_eq_true rfl, Nat.le_of_ble_eq_true rfl⟩ ?_
              refine lv_if_ne (tgt := 153) hx hb dL_isWritten_146 (by decide) (fun (c10 : ¬ ((vS V.1 ((nI a) + 12) 5) = 0)) => ?_) (fun (c10 : (vS V.1 ((nI a) + 12) 5) = 0) => ?_)
              · skip
                refine lv_iconst (v := 0) hx hb dL_isWritten_153 (by decide) ?_
                have k9 := K154_11 ls (lv_sub hl [1, 2, 3, 4, 5, 6, 7, 8, 9, 0] rfl)
                rw [show (mv154_isWritten V D a) = 0 from by unfold mv154_isWritten; rw [if_neg c8, if_neg c9, if_neg c10]] at k9
                exact k9
              · skip
                refine lv_iconst (v := 1) hx hb dL_isWritten_149 (by decide) ?_
                refine lv_goto (tgt := 154) hx hb dL_isWritten_150 (by decide) ?_
                have k9 := K154_11 ls (lv_sub hl [1, 2, 3, 4, 5, 6, 7, 8, 9, 0] rfl)
                rw [show (mv154_isWritten V D a) = 1 from by unfold mv154_isWritten; rw [if_neg c8, if_neg c9, if_pos c10]] at k9
                exact k9
        refine lv_if_lt (tgt := 112) hx hb dL_isWritten_97 (by decide) (fun (c6 : ((nI a) - 24) < 0) => ?_) (fun (c6 : ¬ (((nI a) - 24) < 0)) => ?_)
        · skip
          refine lv_iconst (v := 0) hx hb dL_isWritten_112 (by decide) ?_
          have k9 := K113_7 ls (lv_sub hl [1, 2, 3, 4, 5, 6, 7, 8, 0] rfl)
          rw [show (mv113_isWritten V D a) = 0 from by unfold mv113_isWritten; rw [if_pos c6]] at k9
          exact k9
        · skip
          refine lv_aload_n hx hb dL_isWritten_100 rfl (lv_at hl 1 rfl) ?_
          refine lv_iload_n hx hb dL_isWritten_101 rfl (lv_at hl 2 rfl) ?_
          refine lv_bipush (v := 24) hx hb dL_isWritten_102 (by decide) ?_
          refine lv_isub hx hb dL_isWritten_104 ?_
          refine lv_iconst (v := 3) hx hb dL_isWritten_105 (by decide) ?_
          refine rdV (As := [.int ((nI a) - 24), .int 3]) (rest := []) (o_sector l hI ((nI a) - 24) 3) hF (cwV 2 hts gL_isWritten_X4_sector rfl rfl rfl (by decide +kernel) ⟨Nat.le_of_ble_eq_true rfl, Nat.le_of_ble_eq_true rfl⟩) (hI.recv hK hP) hK hP rfl hl.1 rfl (Nat.le_of_ble_eq_true rfl) dL_isWritten_106 ⟨Nat.le_of_ble_eq_true rfl, Nat.le_of_ble_eq_true rfl⟩ ?_
          refine lv_goto (tgt := 113) hx hb dL_isWritten_109 (by decide) ?_
          have k9 := K113_7 ls (lv_sub hl [1, 2, 3, 4, 5, 6, 7, 8, 0] rfl)
          rw [show (mv113_isWritten V D a) = (vS V.1 ((nI a) - 24) 3) from by unfold mv113_isWritten; rw [if_neg c6]] at k9
          exact k9
      refine lv_icmp_ge (tgt := 90) hx hb dL_isWritten_75 (by decide) (fun (c4 : 192 ≤ ((nI a) + 12)) => ?_) (fun (c4 : ¬ (192 ≤ ((nI a) + 12))) => ?_)
      · skip
        refine lv_iconst (v := 0) hx hb dL_isWritten_90 (by decide) ?_
        have k9 := K91_5 ls (lv_sub hl [4, 5, 6, 7, 3, 2, 1, 0] rfl)
        rw [show (mv91_isWritten V D a) = 0 from by unfold mv91_isWritten; rw [if_pos c4]] at k9
        exact k9
      · skip
        refine lv_aload_n hx hb dL_isWritten_78 rfl (lv_at hl 4 rfl) ?_
        refine lv_iload_n hx hb dL_isWritten_79 rfl (lv_at hl 5 rfl) ?_
        refine lv_bipush (v := 12) hx hb dL_isWritten_80 (by decide) ?_
        refine lv_iadd hx hb dL_isWritten_82 ?_
        refine lv_iconst (v := 3) hx hb dL_isWritten_83 (by decide) ?_
        refine rdV (As := [.int ((nI a) + 12), .int 3]) (rest := []) (o_sector l hI ((nI a) + 12) 3) hF (cwV 2 hts gL_isWritten_X4_sector rfl rfl rfl (by decide +kernel) ⟨Nat.le_of_ble_eq_true rfl, Nat.le_of_ble_eq_true rfl⟩) (hI.recv hK hP) hK hP rfl hl.1 rfl (Nat.le_of_ble_eq_true rfl) dL_isWritten_84 ⟨Nat.le_of_ble_eq_true rfl, Nat.le_of_ble_eq_true rfl⟩ ?_
        refine lv_goto (tgt := 91) hx hb dL_isWritten_87 (by decide) ?_
        have k9 := K91_5 ls (lv_sub hl [4, 5, 6, 7, 3, 2, 1, 0] rfl)
        rw [show (mv91_isWritten V D a) = (vS V.1 ((nI a) + 12) 3) from by unfold mv91_isWritten; rw [if_neg c4]] at k9
        exact k9
    refine lv_icmp_lt (tgt := 34) hx hb dL_isWritten_18 (by decide) (fun (c1 : (vS V.1 (nI a) 4) < (vC V.1 3)) => ?_) (fun (c1 : ¬ ((vS V.1 (nI a) 4) < (vC V.1 3))) => ?_)
    · skip
      refine lv_iconst (v := 0) hx hb dL_isWritten_34 (by decide) ?_
      have k9 := K35_3 ls (lv_sub hl [1, 2, 3, 0] rfl)
      rw [show (mv35_isWritten V D a) = 0 from by unfold mv35_isWritten; rw [if_pos c1]] at k9
      exact k9
    · skip
      refine lv_aload_n hx hb dL_isWritten_21 rfl (lv_at hl 1 rfl) ?_
      refine lv_bipush (v := 8) hx hb dL_isWritten_22 (by decide) ?_
      refine rdTV (As := [.int 8]) (rest := []) (o_count l tb hI 8 (by decide) (by decide)) hF (cwV 1 hts gL_isWritten_X4_count rfl rfl rfl (by decide +kernel) ⟨Nat.le_of_ble_eq_true rfl, Nat.le_of_ble_eq_true rfl⟩) (hI.recv hK hP) hK hP hT hS rfl hl.1 rfl (Nat.le_of_ble_eq_true rfl) dL_isWritten_24 ⟨Nat.le_of_ble_eq_true rfl, Nat.le_of_ble_eq_true rfl⟩ ?_
      refine lv_if_le (tgt := 34) hx hb dL_isWritten_27 (by decide) (fun (c2 : (vC V.1 8) ≤ 0) => ?_) (fun (c2 : ¬ ((vC V.1 8) ≤ 0)) => ?_)
      · skip
        refine lv_iconst (v := 0) hx hb dL_isWritten_34 (by decide) ?_
        have k9 := K35_3 ls (lv_sub hl [1, 2, 3, 0] rfl)
        rw [show (mv35_isWritten V D a) = 0 from by unfold mv35_isWritten; rw [if_neg c1, if_pos c2]] at k9
        exact k9
      · skip
        refine lv_iconst (v := 1) hx hb dL_isWritten_30 (by decide) ?_
        refine lv_goto (tgt := 35) hx hb dL_isWritten_31 (by decide) ?_
        have k9 := K35_3 ls (lv_sub hl [1, 2, 3, 0] rfl)
        rw [show (mv35_isWritten V D a) = 1 from by unfold mv35_isWritten; rw [if_neg c1, if_neg c2]] at k9
        exact k9
