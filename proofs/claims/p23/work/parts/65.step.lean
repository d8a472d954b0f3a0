/-! isStep, case by case -/
theorem slUp {σ : DS} {sl : Nat → Option DS} {K K' : Nat} (h : Dv K σ) (hsl : ∀ k υ, sl k = some υ → Dv K υ) (hK : K ≤ K') (k : Nat) : ∀ j υ, (fun j => if j = k then some σ else sl j) j = some υ → Dv K' υ := by
  intro j υ q
  have q : (if j = k then some σ else sl j) = some υ := q
  by_cases hj : j = k
  · rw [if_pos hj] at q
    have q : σ = υ := Option.some.inj q
    subst q
    exact h.up hK
  · rw [if_neg hj] at q
    exact (hsl j υ q).up hK
set_option maxHeartbeats 4000000 in
set_option maxRecDepth 100000 in
theorem cs0_isStep {p : Program} {e : Env} {s : State} {m : MethodId} {below : List Frame} {meth : Method} {c : Code} {Q : State → Prop} {A9 : Nat → Prop} (l : Launch) (G : GG) (tb : Nat × Nat × Nat) {γ γ' : Nat} {x y z : Int32} {σ : DS} {ϖ ϖ' : PS} {sl : Nat → Option DS} {W0 W1 : va_W} {K : Nat} (hI : OI G γ (σ, ϖ, sl) W0) (hI' : OI G γ' (σ, ϖ', sl) W1) (hpl : p_le ϖ' = 0) (hDv : Dv K σ) (hsl : ∀ k υ, sl k = some υ → Dv K υ) (hK9 : K + 10000 ≤ 9999999) {a : Nat} (ha : a < 192) (hP : va_P G.1 vwCl (W0 ++ W1) s.heap) (hD : va_D A9 (W0 ++ W1)) (hA : ∀ q : Nat, s.heap.size ≤ q → A9 q) (hT : sT tb A9 s) (hK : cK G s) (C0 : cA p s m meth c ([.ref γ, .ref γ', .int x, .int y] : List Value).toArray cL_isStep 11 (some .boolean) wsL_isStep RL) (kend : ∀ (w1 : va_W) (H : Heap) (locs : List Loc) (pc cells slots : Nat) (ls : Array Slot), cells ≤ 18 → slots ≤ 2454 → decode cL_isStep pc = .ok (.ireturn, 1) → PW2 G γ γ' (K + 10000) w1 → va_P G.1 vwCl w1 H → va_D A9 w1 → va_S A9 s.heap H locs → W p l e (headSpec wsL_isStep (rmN 9 210 18 2454)).room s m ([.ref γ, .ref γ', .int x, .int y] : List Value).toArray below meth c H locs cells slots Q (F0 m pc ls [.int 1])) : ∀ ls : Array Slot, lv_has ls 11 [(0, .ref γ), (1, .ref γ'), (2, .int x), (3, .int y), (4, .int z), (5, .int (nI a))] → W p l e (headSpec wsL_isStep (rmN 9 210 18 2454)).room s m ([.ref γ, .ref γ', .int x, .int y] : List Value).toArray below meth c s.heap [] (0) (0) Q (F0 m 104 ls []) := by
  obtain ⟨hx, hb, hr, hml, hown, hts, hlocks⟩ := id C0
  have hF : CallFix p m c cL_isStep 11 s ([.ref γ, .ref γ', .int x, .int y] : List Value).toArray wsL_isStep RL := ⟨hx, hb, hml, hown, hts⟩
  have hS : va_S A9 s.heap s.heap [] := va_S.rf
  intro ls hl
  refine lv_iload hx hb dL_isStep_104 (lv_at hl 4 rfl) ?_
  refine lv_iconst (v := 5) hx hb dL_isStep_106 (by decide) ?_
  obtain ⟨k, hk, ek⟩ := vUpI z (n := 5) (by omega) (by omega)
  refine rdS (As := [.int z, .int 5]) (rest := []) (c_L_upE l G z 5 (nI k) (by decide) ek) hF (va_cwS 2 hts gL_isStep_L_up rfl rfl rfl (by decide +kernel) ⟨Nat.le_of_ble_eq_true rfl, Nat.le_of_ble_eq_true rfl⟩) hK va_P0 rfl hl.1 rfl (Nat.le_of_ble_eq_true rfl) dL_isStep_107 ⟨Nat.le_of_ble_eq_true rfl, Nat.le_of_ble_eq_true rfl⟩ ?_
  refine lv_istore (lv' := [(6, .int (nI k)), (0, .ref γ), (1, .ref γ'), (2, .int x), (3, .int y), (4, .int z), (5, .int (nI a))]) hx hb dL_isStep_110 hl (by decide) rfl (fun ls hl => ?_)
  refine lv_iload hx hb dL_isStep_112 (lv_at hl 0 rfl) ?_
  refine lv_iconst (v := 2) hx hb dL_isStep_114 (by decide) ?_
  have K181_5 : ∀ (x9 : Int32) (ls : Array Slot), (∃ v : Nat, x9 = nI v ∧ SV k v) → lv_has ls 11 [(0, .ref γ), (1, .ref γ'), (2, .int x), (3, .int y), (4, .int z), (5, .int (nI a)), (6, .int (nI k))] → W p l e (headSpec wsL_isStep (rmN 9 210 18 2454)).room s m ([.ref γ, .ref γ', .int x, .int y] : List Value).toArray below meth c s.heap [] (0) (0) Q (F0 m 181 ls [.int x9]) := by
    intro x9 ls hx9 hl
    obtain ⟨v, rfl, hv⟩ := hx9
    obtain ⟨hl9, hh9⟩ := svP hk hv
    refine lv_istore (lv' := [(7, .int (nI v)), (0, .ref γ), (1, .ref γ'), (2, .int x), (3, .int y), (4, .int z), (5, .int (nI a)), (6, .int (nI k))]) hx hb dL_isStep_181 hl (by decide) rfl (fun ls hl => ?_)
    refine lv_aload_n hx hb dL_isStep_183 rfl (lv_at hl 1 rfl) ?_
    refine lv_iload hx hb dL_isStep_184 (lv_at hl 7 rfl) ?_
    refine rdTV (As := [.int (nI k)]) (rest := []) (o_count l tb hI (nI k) (n16 (by omega)) (n17 (by omega))) hF (cwV 1 hts gL_isStep_X4_count rfl rfl rfl (by decide +kernel) ⟨Nat.le_of_ble_eq_true rfl, Nat.le_of_ble_eq_true rfl⟩) (hI.recv hK (va_PL hP)) hK (va_PL hP) hT hS rfl hl.1 rfl (Nat.le_of_ble_eq_true rfl) dL_isStep_186 ⟨Nat.le_of_ble_eq_true rfl, Nat.le_of_ble_eq_true rfl⟩ ?_
    refine lv_istore (lv' := [(8, .int (vC σ (nI k))), (7, .int (nI v)), (0, .ref γ), (1, .ref γ'), (2, .int x), (3, .int y), (4, .int z), (5, .int (nI a)), (6, .int (nI k))]) hx hb dL_isStep_189 hl (by decide) rfl (fun ls hl => ?_)
    refine lv_aload_n hx hb dL_isStep_191 rfl (lv_at hl 2 rfl) ?_
    refine lv_iload hx hb dL_isStep_192 (lv_at hl 8 rfl) ?_
    refine lv_iload hx hb dL_isStep_194 (lv_at hl 1 rfl) ?_
    refine nwVL (As := [.int (nI k), .int (nI v)]) (rest := []) (o_set l tb hI hk (nI v) hl9 hh9 (stN hDv hk)) hF (cwV 2 hts gL_isStep_X4_set rfl rfl rfl (by decide +kernel) ⟨Nat.le_of_ble_eq_true rfl, Nat.le_of_ble_eq_true rfl⟩) (hI.recv hK (va_PL hP)) hK hP hD hS hA hT rfl hl.1 rfl (Nat.le_of_ble_eq_true rfl) dL_isStep_196 ⟨Nat.le_of_ble_eq_true rfl, Nat.le_of_ble_eq_true rfl⟩ (fun W6 H locs hI7 hP hD hS => ?_)
    refine lv_iload hx hb dL_isStep_199 (lv_at hl 0 rfl) ?_
    refine lv_icmp_ne (tgt := 232) hx hb dL_isStep_201 (by decide) (fun h9 : ¬ ((d_st σ k) = (vC σ (nI k))) => absurd (show (d_st σ k) = (vC σ (nI k)) from (vCs hk).symm) h9) (fun _ => ?_)
    refine lv_aload_n hx hb dL_isStep_204 rfl (lv_at hl 3 rfl) ?_
    refine lv_iload hx hb dL_isStep_205 (lv_at hl 8 rfl) ?_
    refine lv_iload hx hb dL_isStep_207 (lv_at hl 1 rfl) ?_
    refine nwVR (As := [.int (nI k), .int (nI v)]) (rest := []) (o_set l tb hI' hk (nI v) hl9 hh9 (stN hDv hk)) hF (cwV 2 hts gL_isStep_X4_set rfl rfl rfl (by decide +kernel) ⟨Nat.le_of_ble_eq_true rfl, Nat.le_of_ble_eq_true rfl⟩) (hI'.recv hK (va_PR hP)) hK hP hD hS hA hT rfl hl.1 rfl (Nat.le_of_ble_eq_true rfl) dL_isStep_209 ⟨Nat.le_of_ble_eq_true rfl, Nat.le_of_ble_eq_true rfl⟩ (fun W8 H locs hI9 hP hD hS => ?_)
    refine lv_iload hx hb dL_isStep_212 (lv_at hl 0 rfl) ?_
    refine lv_icmp_ne (tgt := 232) hx hb dL_isStep_214 (by decide) (fun h9 : ¬ ((d_st σ k) = (vC σ (nI k))) => absurd (show (d_st σ k) = (vC σ (nI k)) from (vCs hk).symm) h9) (fun _ => ?_)
    refine lv_aload_n hx hb dL_isStep_217 rfl (lv_at hl 2 rfl) ?_
    refine lv_iload hx hb dL_isStep_218 (lv_at hl 8 rfl) ?_
    refine rdTV (As := [.int (nI k)]) (rest := []) (o_count l tb hI7 (nI k) (n16 (by omega)) (n17 (by omega))) hF (cwV 1 hts gL_isStep_X4_count rfl rfl rfl (by decide +kernel) ⟨Nat.le_of_ble_eq_true rfl, Nat.le_of_ble_eq_true rfl⟩) (hI7.recv hK (va_PL hP)) hK (va_PL hP) hT hS rfl hl.1 rfl (Nat.le_of_ble_eq_true rfl) dL_isStep_220 ⟨Nat.le_of_ble_eq_true rfl, Nat.le_of_ble_eq_true rfl⟩ ?_
    refine lv_iload hx hb dL_isStep_223 (lv_at hl 1 rfl) ?_
    refine lv_icmp_ne (tgt := 232) hx hb dL_isStep_225 (by decide) (fun h9 : ¬ ((vC (d_st' σ (upd (d_st σ) k (nI v))) (nI k)) = (nI v)) => absurd (show (vC (d_st' σ (upd (d_st σ) k (nI v))) (nI k)) = (nI v) from (vCs hk).trans pk_us) h9) (fun _ => ?_)
    refine lv_iconst (v := 1) hx hb dL_isStep_228 (by decide) ?_
    refine lv_goto (tgt := 233) hx hb dL_isStep_229 (by decide) ?_
    exact kend _ _ _ _ _ _ _ (Nat.le_of_ble_eq_true rfl) (Nat.le_of_ble_eq_true rfl) dL_isStep_233 ⟨(d_st' σ (upd (d_st σ) k (nI v))), ϖ, ϖ', sl, _, _, rfl, hI7, hI9, hpl, (setDv hDv hk hv).up (by omega), (fun k υ q => (hsl k υ q).up (by omega))⟩ hP hD hS
  refine lv_icmp_ne (tgt := 143) hx hb dL_isStep_115 (by decide) (fun (c1 : ¬ ((nI k) = 2)) => ?_) (fun (c1 : (nI k) = 2) => ?_)
  · skip
    refine lv_iload hx hb dL_isStep_143 (lv_at hl 0 rfl) ?_
    refine lv_iconst (v := 3) hx hb dL_isStep_145 (by decide) ?_
    refine lv_icmp_ne (tgt := 175) hx hb dL_isStep_146 (by decide) (fun (c2 : ¬ ((nI k) = 3)) => ?_) (fun (c2 : (nI k) = 3) => ?_)
    · skip
      refine lv_iload_n hx hb dL_isStep_175 rfl (lv_at hl 4 rfl) ?_
      refine lv_bipush (v := 21) hx hb dL_isStep_176 (by decide) ?_
      obtain ⟨v3, hv3, ev3⟩ := vUpI y (n := 21) (by omega) (by omega)
      refine rdS (As := [.int y, .int 21]) (rest := []) (c_L_upE l G y 21 (nI v3) (by decide) ev3) hF (va_cwS 2 hts gL_isStep_L_up rfl rfl rfl (by decide +kernel) ⟨Nat.le_of_ble_eq_true rfl, Nat.le_of_ble_eq_true rfl⟩) hK va_P0 rfl hl.1 rfl (Nat.le_of_ble_eq_true rfl) dL_isStep_178 ⟨Nat.le_of_ble_eq_true rfl, Nat.le_of_ble_eq_true rfl⟩ ?_
      exact K181_5 _ ls ⟨v3, rfl, Or.inr (Or.inr ⟨fun q => c1 (by rw [q]; rfl), fun q => c2 (by rw [q]; rfl), by omega⟩)⟩ (lv_sub hl [1, 2, 3, 4, 5, 6, 0] rfl)
    · skip
      refine lv_iconst (v := 1) hx hb dL_isStep_149 (by decide) ?_
      refine lv_iload_n hx hb dL_isStep_150 rfl (lv_at hl 4 rfl) ?_
      refine lv_iload hx hb dL_isStep_151 (lv_at hl 5 rfl) ?_
      refine lv_iconst (v := 3) hx hb dL_isStep_153 (by decide) ?_
      refine lv_ishr hx hb dL_isStep_154 ?_
      refine lv_iconst (v := 2) hx hb dL_isStep_155 (by decide) ?_
      obtain ⟨u2, hu2, eu2⟩ := vUpI (z >>> ((3 : Int32) &&& 31)) (n := 2) (by omega) (by omega)
      refine rdS (As := [.int (z >>> ((3 : Int32) &&& 31)), .int 2]) (rest := [.int y, .int 1]) (c_L_upE l G (z >>> ((3 : Int32) &&& 31)) 2 (nI u2) (by decide) eu2) hF (va_cwS 2 hts gL_isStep_L_up rfl rfl rfl (by decide +kernel) ⟨Nat.le_of_ble_eq_true rfl, Nat.le_of_ble_eq_true rfl⟩) hK va_P0 rfl hl.1 rfl (Nat.le_of_ble_eq_true rfl) dL_isStep_156 ⟨Nat.le_of_ble_eq_true rfl, Nat.le_of_ble_eq_true rfl⟩ ?_
      refine lv_if_ne (tgt := 167) hx hb dL_isStep_159 (by decide) (fun (c3 : ¬ ((nI u2) = 0)) => ?_) (fun (c3 : (nI u2) = 0) => ?_)
      · skip
        refine lv_iconst (v := 4) hx hb dL_isStep_167 (by decide) ?_
        obtain ⟨v2, hv2, ev2⟩ := vUpI y (n := 4) (by omega) (by omega)
        refine rdS (As := [.int y, .int 4]) (rest := [.int 1]) (c_L_upE l G y 4 (nI v2) (by decide) ev2) hF (va_cwS 2 hts gL_isStep_L_up rfl rfl rfl (by decide +kernel) ⟨Nat.le_of_ble_eq_true rfl, Nat.le_of_ble_eq_true rfl⟩) hK va_P0 rfl hl.1 rfl (Nat.le_of_ble_eq_true rfl) dL_isStep_168 ⟨Nat.le_of_ble_eq_true rfl, Nat.le_of_ble_eq_true rfl⟩ ?_
        refine lv_iadd hx hb dL_isStep_171 ?_
        refine lv_goto (tgt := 181) hx hb dL_isStep_172 (by decide) ?_
        exact K181_5 _ ls ⟨1 + v2, nI_add 1 _, Or.inr (Or.inl ⟨nI_inj (b := 3) (by omega) (by omega) c2, by omega, by omega⟩)⟩ (lv_sub hl [1, 2, 3, 4, 5, 6, 0] rfl)
      · skip
        refine lv_bipush (v := 99) hx hb dL_isStep_162 (by decide) ?_
        refine lv_goto (tgt := 168) hx hb dL_isStep_164 (by decide) ?_
        obtain ⟨v2, hv2, ev2⟩ := vUpI y (n := 99) (by omega) (by omega)
        refine rdS (As := [.int y, .int 99]) (rest := [.int 1]) (c_L_upE l G y 99 (nI v2) (by decide) ev2) hF (va_cwS 2 hts gL_isStep_L_up rfl rfl rfl (by decide +kernel) ⟨Nat.le_of_ble_eq_true rfl, Nat.le_of_ble_eq_true rfl⟩) hK va_P0 rfl hl.1 rfl (Nat.le_of_ble_eq_true rfl) dL_isStep_168 ⟨Nat.le_of_ble_eq_true rfl, Nat.le_of_ble_eq_true rfl⟩ ?_
        refine lv_iadd hx hb dL_isStep_171 ?_
        refine lv_goto (tgt := 181) hx hb dL_isStep_172 (by decide) ?_
        exact K181_5 _ ls ⟨1 + v2, nI_add 1 _, Or.inr (Or.inl ⟨nI_inj (b := 3) (by omega) (by omega) c2, by omega, by omega⟩)⟩ (lv_sub hl [1, 2, 3, 4, 5, 6, 0] rfl)
  · skip
    refine lv_iconst (v := 5) hx hb dL_isStep_118 (by decide) ?_
    refine lv_iload_n hx hb dL_isStep_119 rfl (lv_at hl 4 rfl) ?_
    refine lv_iload hx hb dL_isStep_120 (lv_at hl 5 rfl) ?_
    refine lv_iconst (v := 2) hx hb dL_isStep_122 (by decide) ?_
    obtain ⟨u1, hu1, eu1⟩ := vUpI z (n := 2) (by omega) (by omega)
    refine rdS (As := [.int z, .int 2]) (rest := [.int y, .int 5]) (c_L_upE l G z 2 (nI u1) (by decide) eu1) hF (va_cwS 2 hts gL_isStep_L_up rfl rfl rfl (by decide +kernel) ⟨Nat.le_of_ble_eq_true rfl, Nat.le_of_ble_eq_true rfl⟩) hK va_P0 rfl hl.1 rfl (Nat.le_of_ble_eq_true rfl) dL_isStep_123 ⟨Nat.le_of_ble_eq_true rfl, Nat.le_of_ble_eq_true rfl⟩ ?_
    refine lv_if_ne (tgt := 134) hx hb dL_isStep_126 (by decide) (fun (c4 : ¬ ((nI u1) = 0)) => ?_) (fun (c4 : (nI u1) = 0) => ?_)
    · skip
      refine lv_bipush (v := 12) hx hb dL_isStep_134 (by decide) ?_
      obtain ⟨v1, hv1, ev1⟩ := vUpI y (n := 12) (by omega) (by omega)
      refine rdS (As := [.int y, .int 12]) (rest := [.int 5]) (c_L_upE l G y 12 (nI v1) (by decide) ev1) hF (va_cwS 2 hts gL_isStep_L_up rfl rfl rfl (by decide +kernel) ⟨Nat.le_of_ble_eq_true rfl, Nat.le_of_ble_eq_true rfl⟩) hK va_P0 rfl hl.1 rfl (Nat.le_of_ble_eq_true rfl) dL_isStep_136 ⟨Nat.le_of_ble_eq_true rfl, Nat.le_of_ble_eq_true rfl⟩ ?_
      refine lv_iadd hx hb dL_isStep_139 ?_
      refine lv_goto (tgt := 181) hx hb dL_isStep_140 (by decide) ?_
      exact K181_5 _ ls ⟨5 + v1, nI_add 5 _, Or.inl ⟨nI_inj (b := 2) (by omega) (by omega) c1, by omega, by omega⟩⟩ (lv_sub hl [1, 2, 3, 4, 5, 6, 0] rfl)
    · skip
      refine lv_bipush (v := 95) hx hb dL_isStep_129 (by decide) ?_
      refine lv_goto (tgt := 136) hx hb dL_isStep_131 (by decide) ?_
      obtain ⟨v1, hv1, ev1⟩ := vUpI y (n := 95) (by omega) (by omega)
      refine rdS (As := [.int y, .int 95]) (rest := [.int 5]) (c_L_upE l G y 95 (nI v1) (by decide) ev1) hF (va_cwS 2 hts gL_isStep_L_up rfl rfl rfl (by decide +kernel) ⟨Nat.le_of_ble_eq_true rfl, Nat.le_of_ble_eq_true rfl⟩) hK va_P0 rfl hl.1 rfl (Nat.le_of_ble_eq_true rfl) dL_isStep_136 ⟨Nat.le_of_ble_eq_true rfl, Nat.le_of_ble_eq_true rfl⟩ ?_
      refine lv_iadd hx hb dL_isStep_139 ?_
      refine lv_goto (tgt := 181) hx hb dL_isStep_140 (by decide) ?_
      exact K181_5 _ ls ⟨5 + v1, nI_add 5 _, Or.inl ⟨nI_inj (b := 2) (by omega) (by omega) c1, by omega, by omega⟩⟩ (lv_sub hl [1, 2, 3, 4, 5, 6, 0] rfl)
set_option maxHeartbeats 4000000 in
set_option maxRecDepth 100000 in
theorem cs1_isStep {p : Program} {e : Env} {s : State} {m : MethodId} {below : List Frame} {meth : Method} {c : Code} {Q : State → Prop} {A9 : Nat → Prop} (l : Launch) (G : GG) (tb : Nat × Nat × Nat) {γ γ' : Nat} {x y z : Int32} {σ : DS} {ϖ ϖ' : PS} {sl : Nat → Option DS} {W0 W1 : va_W} {K : Nat} (hI : OI G γ (σ, ϖ, sl) W0) (hI' : OI G γ' (σ, ϖ', sl) W1) (hpl : p_le ϖ' = 0) (hDv : Dv K σ) (hsl : ∀ k υ, sl k = some υ → Dv K υ) (hK9 : K + 10000 ≤ 9999999) {a : Nat} (ha : a < 192) (hP : va_P G.1 vwCl (W0 ++ W1) s.heap) (hD : va_D A9 (W0 ++ W1)) (hA : ∀ q : Nat, s.heap.size ≤ q → A9 q) (hT : sT tb A9 s) (hK : cK G s) (C0 : cA p s m meth c ([.ref γ, .ref γ', .int x, .int y] : List Value).toArray cL_isStep 11 (some .boolean) wsL_isStep RL) (kend : ∀ (w1 : va_W) (H : Heap) (locs : List Loc) (pc cells slots : Nat) (ls : Array Slot), cells ≤ 18 → slots ≤ 2454 → decode cL_isStep pc = .ok (.ireturn, 1) → PW2 G γ γ' (K + 10000) w1 → va_P G.1 vwCl w1 H → va_D A9 w1 → va_S A9 s.heap H locs → W p l e (headSpec wsL_isStep (rmN 9 210 18 2454)).room s m ([.ref γ, .ref γ', .int x, .int y] : List Value).toArray below meth c H locs cells slots Q (F0 m pc ls [.int 1])) : ∀ ls : Array Slot, lv_has ls 11 [(0, .ref γ), (1, .ref γ'), (2, .int x), (3, .int y), (4, .int z), (5, .int (nI a))] → W p l e (headSpec wsL_isStep (rmN 9 210 18 2454)).room s m ([.ref γ, .ref γ', .int x, .int y] : List Value).toArray below meth c s.heap [] (0) (0) Q (F0 m 234 ls []) := by
  obtain ⟨hx, hb, hr, hml, hown, hts, hlocks⟩ := id C0
  have hF : CallFix p m c cL_isStep 11 s ([.ref γ, .ref γ', .int x, .int y] : List Value).toArray wsL_isStep RL := ⟨hx, hb, hml, hown, hts⟩
  have hS : va_S A9 s.heap s.heap [] := va_S.rf
  intro ls hl
  obtain ⟨c9, hc9, ec9, hd9, hrd⟩ := readD hDv (by omega) ha
  rcases hrd with ⟨h6, hr0, e1⟩ | ⟨h6, v, k, T9, D, hv, ev, hk9, ek, eT, hT9, e1, eD, hO⟩
  · skip
    refine lv_aload_n hx hb dL_isStep_234 rfl (lv_at hl 0 rfl) ?_
    refine lv_iload hx hb dL_isStep_235 (lv_at hl 5 rfl) ?_
    refine lv_bipush (v := 6) hx hb dL_isStep_237 (by decide) ?_
    refine rdV (As := [.int (nI a), .int 6]) (rest := []) (o_sector l hI (nI a) 6) hF (cwV 2 hts gL_isStep_X4_sector rfl rfl rfl (by decide +kernel) ⟨Nat.le_of_ble_eq_true rfl, Nat.le_of_ble_eq_true rfl⟩) (hI.recv hK (va_PL hP)) hK (va_PL hP) rfl hl.1 rfl (Nat.le_of_ble_eq_true rfl) dL_isStep_239 ⟨Nat.le_of_ble_eq_true rfl, Nat.le_of_ble_eq_true rfl⟩ ?_
    refine lv_iconst (v := 1) hx hb dL_isStep_242 (by decide) ?_
    refine lv_icmp_ne (tgt := 250) hx hb dL_isStep_243 (by decide) (fun _ => ?_) (fun h9 : (vS σ (nI a) 6) = 1 => absurd h9 (show ¬ ((vS σ (nI a) 6) = 1) from (by rw [h6]; decide)))
    refine lv_iconst (v := 0) hx hb dL_isStep_250 (by decide) ?_
    refine lv_istore (lv' := [(6, .int 0), (0, .ref γ), (1, .ref γ'), (2, .int x), (3, .int y), (4, .int z), (5, .int (nI a))]) hx hb dL_isStep_251 hl (by decide) rfl (fun ls hl => ?_)
    refine lv_aload_n hx hb dL_isStep_253 rfl (lv_at hl 1 rfl) ?_
    refine lv_bipush (v := 12) hx hb dL_isStep_254 (by decide) ?_
    refine rdTV (As := [.int 12]) (rest := []) (o_count l tb hI 12 (by decide) (by decide)) hF (cwV 1 hts gL_isStep_X4_count rfl rfl rfl (by decide +kernel) ⟨Nat.le_of_ble_eq_true rfl, Nat.le_of_ble_eq_true rfl⟩) (hI.recv hK (va_PL hP)) hK (va_PL hP) hT hS rfl hl.1 rfl (Nat.le_of_ble_eq_true rfl) dL_isStep_256 ⟨Nat.le_of_ble_eq_true rfl, Nat.le_of_ble_eq_true rfl⟩ ?_
    refine lv_istore (lv' := [(7, .int (vC σ 12)), (6, .int 0), (0, .ref γ), (1, .ref γ'), (2, .int x), (3, .int y), (4, .int z), (5, .int (nI a))]) hx hb dL_isStep_259 hl (by decide) rfl (fun ls hl => ?_)
    refine lv_aload_n hx hb dL_isStep_261 rfl (lv_at hl 2 rfl) ?_
    refine lv_iload hx hb dL_isStep_262 (lv_at hl 7 rfl) ?_
    refine lv_iconst (v := 0) hx hb dL_isStep_264 (by decide) ?_
    refine rdV (As := [.int (nI a), .int 0]) (rest := []) (o_ticksFor l hI (nI a) 0) hF (cwV 2 hts gL_isStep_X4_ticksFor rfl rfl rfl (by decide +kernel) ⟨Nat.le_of_ble_eq_true rfl, Nat.le_of_ble_eq_true rfl⟩) (hI.recv hK (va_PL hP)) hK (va_PL hP) rfl hl.1 rfl (Nat.le_of_ble_eq_true rfl) dL_isStep_265 ⟨Nat.le_of_ble_eq_true rfl, Nat.le_of_ble_eq_true rfl⟩ ?_
    refine lv_istore (lv' := [(8, .int (vF σ (nI a) 0)), (7, .int (vC σ 12)), (6, .int 0), (0, .ref γ), (1, .ref γ'), (2, .int x), (3, .int y), (4, .int z), (5, .int (nI a))]) hx hb dL_isStep_268 hl (by decide) rfl (fun ls hl => ?_)
    refine lv_aload_n hx hb dL_isStep_270 rfl (lv_at hl 3 rfl) ?_
    refine lv_iconst (v := 5) hx hb dL_isStep_271 (by decide) ?_
    refine rdTV (As := [.int 5]) (rest := []) (o_count l tb hI 5 (by decide) (by decide)) hF (cwV 1 hts gL_isStep_X4_count rfl rfl rfl (by decide +kernel) ⟨Nat.le_of_ble_eq_true rfl, Nat.le_of_ble_eq_true rfl⟩) (hI.recv hK (va_PL hP)) hK (va_PL hP) hT hS rfl hl.1 rfl (Nat.le_of_ble_eq_true rfl) dL_isStep_272 ⟨Nat.le_of_ble_eq_true rfl, Nat.le_of_ble_eq_true rfl⟩ ?_
    refine lv_istore (lv' := [(9, .int (vC σ 5)), (8, .int (vF σ (nI a) 0)), (7, .int (vC σ 12)), (6, .int 0), (0, .ref γ), (1, .ref γ'), (2, .int x), (3, .int y), (4, .int z), (5, .int (nI a))]) hx hb dL_isStep_275 hl (by decide) rfl (fun ls hl => ?_)
    refine lv_aload_n hx hb dL_isStep_277 rfl (lv_at hl 4 rfl) ?_
    refine lv_iload hx hb dL_isStep_278 (lv_at hl 9 rfl) ?_
    refine nwVL (As := [.int (nI a)]) (rest := []) (o_readE l tb hI ha e1 (fun _ => rfl)) hF (cwV 1 hts gL_isStep_X4_read rfl rfl rfl (by decide +kernel) ⟨Nat.le_of_ble_eq_true rfl, Nat.le_of_ble_eq_true rfl⟩) (hI.recv hK (va_PL hP)) hK hP hD hS hA hT rfl hl.1 rfl (Nat.le_of_ble_eq_true rfl) dL_isStep_280 ⟨Nat.le_of_ble_eq_true rfl, Nat.le_of_ble_eq_true rfl⟩ (fun W1 H locs hI2 hP hD hS => ?_)
    refine lv_istore (lv' := [(10, .int (-5)), (9, .int (vC σ 5)), (8, .int (vF σ (nI a) 0)), (7, .int (vC σ 12)), (6, .int 0), (0, .ref γ), (1, .ref γ'), (2, .int x), (3, .int y), (4, .int z), (5, .int (nI a))]) hx hb dL_isStep_283 hl (by decide) rfl (fun ls hl => ?_)
    refine lv_aload_n hx hb dL_isStep_285 rfl (lv_at hl 6 rfl) ?_
    refine lv_iload hx hb dL_isStep_286 (lv_at hl 10 rfl) ?_
    refine lv_iconst (v := (-1)) hx hb dL_isStep_288 (by decide) ?_
    refine lv_iload hx hb dL_isStep_289 (lv_at hl 4 rfl) ?_
    refine lv_if_eq (tgt := 298) hx hb dL_isStep_291 (by decide) (fun _ => ?_) (fun h9 : ¬ ((0 : Int32) = 0) => absurd (show (0 : Int32) = 0 from (by decide)) h9)
    refine lv_iconst (v := 0) hx hb dL_isStep_298 (by decide) ?_
    refine lv_iload_n hx hb dL_isStep_299 rfl (lv_at hl 8 rfl) ?_
    refine lv_iconst (v := 2) hx hb dL_isStep_300 (by decide) ?_
    obtain ⟨u1, hu1, eu1⟩ := vUpI y (n := 2) (by omega) (by omega)
    refine rdS (As := [.int y, .int 2]) (rest := [.int 0, .int (-1), .int (nI a), .ref γ']) (c_L_upE l G y 2 (nI u1) (by decide) eu1) hF (va_cwS 2 hts gL_isStep_L_up rfl rfl rfl (by decide +kernel) ⟨Nat.le_of_ble_eq_true rfl, Nat.le_of_ble_eq_true rfl⟩) hK va_P0 rfl hl.1 rfl (Nat.le_of_ble_eq_true rfl) dL_isStep_301 ⟨Nat.le_of_ble_eq_true rfl, Nat.le_of_ble_eq_true rfl⟩ ?_
    have K312_4 : ∀ (x9 : Int32) (ls : Array Slot), True → lv_has ls 11 [(0, .ref γ), (1, .ref γ'), (2, .int x), (3, .int y), (4, .int z), (5, .int (nI a)), (6, .int 0), (7, .int (vC σ 12)), (8, .int (vF σ (nI a) 0)), (9, .int (vC σ 5)), (10, .int (-5))] → W p l e (headSpec wsL_isStep (rmN 9 210 18 2454)).room s m ([.ref γ, .ref γ', .int x, .int y] : List Value).toArray below meth c H locs (0 + 6) (0 + 818) Q (F0 m 312 ls [.int x9, .int 0, .int (-1), .int (nI a), .ref γ']) := by
      intro x9 ls hx9 hl
      refine nwSR (As := [.ref γ', .int (nI a), .int (-1), .int 0, .int x9]) (rest := []) (c_L_isPadded_r l G tb hI' hDv hpl ha (dn := 0) (p1 := x9) e1 (by decide)) hF (va_cwS 5 hts gL_isStep_L_isPadded rfl rfl rfl (by decide +kernel) ⟨Nat.le_of_ble_eq_true rfl, Nat.le_of_ble_eq_true rfl⟩) hK hP hD hS hA hT rfl hl.1 rfl (Nat.le_of_ble_eq_true rfl) dL_isStep_312 ⟨Nat.le_of_ble_eq_true rfl, Nat.le_of_ble_eq_true rfl⟩ (fun W5 H locs hI6 hP hD hS => ?_)
      obtain ⟨ϖ2, hpl2, hI6b⟩ := hI6
      refine lv_if_eq (tgt := 385) hx hb dL_isStep_315 (by decide) (fun h9 : (1 : Int32) = 0 => absurd h9 (show ¬ ((1 : Int32) = 0) from (by decide))) (fun _ => ?_)
      refine lv_iload hx hb dL_isStep_318 (lv_at hl 6 rfl) ?_
      refine lv_if_eq (tgt := 364) hx hb dL_isStep_320 (by decide) (fun _ => ?_) (fun h9 : ¬ ((0 : Int32) = 0) => absurd (show (0 : Int32) = 0 from (by decide)) h9)
      refine lv_iload hx hb dL_isStep_364 (lv_at hl 10 rfl) ?_
      refine lv_bipush (v := (-5)) hx hb dL_isStep_366 (by decide) ?_
      refine lv_icmp_ne (tgt := 385) hx hb dL_isStep_368 (by decide) (fun h9 : ¬ ((-5 : Int32) = (-5)) => absurd (show (-5 : Int32) = (-5) from (by decide)) h9) (fun _ => ?_)
      refine lv_aload_n hx hb dL_isStep_371 rfl (lv_at hl 0 rfl) ?_
      refine lv_iconst (v := 5) hx hb dL_isStep_372 (by decide) ?_
      refine rdTV (As := [.int 5]) (rest := []) (o_count l tb hI2 5 (by decide) (by decide)) hF (cwV 1 hts gL_isStep_X4_count rfl rfl rfl (by decide +kernel) ⟨Nat.le_of_ble_eq_true rfl, Nat.le_of_ble_eq_true rfl⟩) (hI2.recv hK (va_PL hP)) hK (va_PL hP) hT hS rfl hl.1 rfl (Nat.le_of_ble_eq_true rfl) dL_isStep_373 ⟨Nat.le_of_ble_eq_true rfl, Nat.le_of_ble_eq_true rfl⟩ ?_
      refine lv_iload hx hb dL_isStep_376 (lv_at hl 9 rfl) ?_
      refine lv_icmp_ne (tgt := 385) hx hb dL_isStep_378 (by decide) (fun h9 : ¬ ((vC σ 5) = (vC σ 5)) => absurd (show (vC σ 5) = (vC σ 5) from rfl) h9) (fun _ => ?_)
      refine lv_iconst (v := 1) hx hb dL_isStep_381 (by decide) ?_
      refine lv_goto (tgt := 386) hx hb dL_isStep_382 (by decide) ?_
      exact kend _ _ _ _ _ _ _ (Nat.le_of_ble_eq_true rfl) (Nat.le_of_ble_eq_true rfl) dL_isStep_386 ⟨σ, ϖ, ϖ2, sl, _, _, rfl, hI2, hI6b, hpl2, hDv.up (by omega), (fun k υ q => (hsl k υ q).up (by omega))⟩ hP hD hS
    refine lv_if_ne (tgt := 311) hx hb dL_isStep_304 (by decide) (fun (c3 : ¬ ((nI u1) = 0)) => ?_) (fun (c3 : (nI u1) = 0) => ?_)
    · skip
      refine lv_iconst (v := 0) hx hb dL_isStep_311 (by decide) ?_
      exact K312_4 _ ls trivial (lv_sub hl [5, 6, 7, 8, 9, 10, 4, 3, 2, 1, 0] rfl)
    · skip
      refine lv_iconst (v := 1) hx hb dL_isStep_307 (by decide) ?_
      refine lv_goto (tgt := 312) hx hb dL_isStep_308 (by decide) ?_
      exact K312_4 _ ls trivial (lv_sub hl [5, 6, 7, 8, 9, 10, 4, 3, 2, 1, 0] rfl)
  · have ed : d_se D a = nI c9 := by rw [eD]; exact ec9
    have f332 : (nI v) = (vS D (nI a) 2) := by rw [vS2 ha hc9 ed, eD]; exact ev.symm
    have f345 : (vC D 12) = ((vC σ 12) + 1) := by rw [vC12, vC12, eD]; rfl
    have f358 : (vC D 5) = ((vC σ 5) + (vF σ (nI a) 0)) := by rw [vC5, vC5, vF0 ha ec9, ek, eT, nI_add, eD]; rfl
    refine lv_aload_n hx hb dL_isStep_234 rfl (lv_at hl 0 rfl) ?_
    refine lv_iload hx hb dL_isStep_235 (lv_at hl 5 rfl) ?_
    refine lv_bipush (v := 6) hx hb dL_isStep_237 (by decide) ?_
    refine rdV (As := [.int (nI a), .int 6]) (rest := []) (o_sector l hI (nI a) 6) hF (cwV 2 hts gL_isStep_X4_sector rfl rfl rfl (by decide +kernel) ⟨Nat.le_of_ble_eq_true rfl, Nat.le_of_ble_eq_true rfl⟩) (hI.recv hK (va_PL hP)) hK (va_PL hP) rfl hl.1 rfl (Nat.le_of_ble_eq_true rfl) dL_isStep_239 ⟨Nat.le_of_ble_eq_true rfl, Nat.le_of_ble_eq_true rfl⟩ ?_
    refine lv_iconst (v := 1) hx hb dL_isStep_242 (by decide) ?_
    refine lv_icmp_ne (tgt := 250) hx hb dL_isStep_243 (by decide) (fun h9 : ¬ ((vS σ (nI a) 6) = 1) => absurd (show (vS σ (nI a) 6) = 1 from h6) h9) (fun _ => ?_)
    refine lv_iconst (v := 1) hx hb dL_isStep_246 (by decide) ?_
    refine lv_goto (tgt := 251) hx hb dL_isStep_247 (by decide) ?_
    refine lv_istore (lv' := [(6, .int 1), (0, .ref γ), (1, .ref γ'), (2, .int x), (3, .int y), (4, .int z), (5, .int (nI a))]) hx hb dL_isStep_251 hl (by decide) rfl (fun ls hl => ?_)
    refine lv_aload_n hx hb dL_isStep_253 rfl (lv_at hl 1 rfl) ?_
    refine lv_bipush (v := 12) hx hb dL_isStep_254 (by decide) ?_
    refine rdTV (As := [.int 12]) (rest := []) (o_count l tb hI 12 (by decide) (by decide)) hF (cwV 1 hts gL_isStep_X4_count rfl rfl rfl (by decide +kernel) ⟨Nat.le_of_ble_eq_true rfl, Nat.le_of_ble_eq_true rfl⟩) (hI.recv hK (va_PL hP)) hK (va_PL hP) hT hS rfl hl.1 rfl (Nat.le_of_ble_eq_true rfl) dL_isStep_256 ⟨Nat.le_of_ble_eq_true rfl, Nat.le_of_ble_eq_true rfl⟩ ?_
    refine lv_istore (lv' := [(7, .int (vC σ 12)), (6, .int 1), (0, .ref γ), (1, .ref γ'), (2, .int x), (3, .int y), (4, .int z), (5, .int (nI a))]) hx hb dL_isStep_259 hl (by decide) rfl (fun ls hl => ?_)
    refine lv_aload_n hx hb dL_isStep_261 rfl (lv_at hl 2 rfl) ?_
    refine lv_iload hx hb dL_isStep_262 (lv_at hl 7 rfl) ?_
    refine lv_iconst (v := 0) hx hb dL_isStep_264 (by decide) ?_
    refine rdV (As := [.int (nI a), .int 0]) (rest := []) (o_ticksFor l hI (nI a) 0) hF (cwV 2 hts gL_isStep_X4_ticksFor rfl rfl rfl (by decide +kernel) ⟨Nat.le_of_ble_eq_true rfl, Nat.le_of_ble_eq_true rfl⟩) (hI.recv hK (va_PL hP)) hK (va_PL hP) rfl hl.1 rfl (Nat.le_of_ble_eq_true rfl) dL_isStep_265 ⟨Nat.le_of_ble_eq_true rfl, Nat.le_of_ble_eq_true rfl⟩ ?_
    refine lv_istore (lv' := [(8, .int (vF σ (nI a) 0)), (7, .int (vC σ 12)), (6, .int 1), (0, .ref γ), (1, .ref γ'), (2, .int x), (3, .int y), (4, .int z), (5, .int (nI a))]) hx hb dL_isStep_268 hl (by decide) rfl (fun ls hl => ?_)
    refine lv_aload_n hx hb dL_isStep_270 rfl (lv_at hl 3 rfl) ?_
    refine lv_iconst (v := 5) hx hb dL_isStep_271 (by decide) ?_
    refine rdTV (As := [.int 5]) (rest := []) (o_count l tb hI 5 (by decide) (by decide)) hF (cwV 1 hts gL_isStep_X4_count rfl rfl rfl (by decide +kernel) ⟨Nat.le_of_ble_eq_true rfl, Nat.le_of_ble_eq_true rfl⟩) (hI.recv hK (va_PL hP)) hK (va_PL hP) hT hS rfl hl.1 rfl (Nat.le_of_ble_eq_true rfl) dL_isStep_272 ⟨Nat.le_of_ble_eq_true rfl, Nat.le_of_ble_eq_true rfl⟩ ?_
    refine lv_istore (lv' := [(9, .int (vC σ 5)), (8, .int (vF σ (nI a) 0)), (7, .int (vC σ 12)), (6, .int 1), (0, .ref γ), (1, .ref γ'), (2, .int x), (3, .int y), (4, .int z), (5, .int (nI a))]) hx hb dL_isStep_275 hl (by decide) rfl (fun ls hl => ?_)
    refine lv_aload_n hx hb dL_isStep_277 rfl (lv_at hl 4 rfl) ?_
    refine lv_iload hx hb dL_isStep_278 (lv_at hl 9 rfl) ?_
    refine nwVL (As := [.int (nI a)]) (rest := []) (o_readE l tb hI ha e1 (fun q => absurd q (nI_pos (by omega)))) hF (cwV 1 hts gL_isStep_X4_read rfl rfl rfl (by decide +kernel) ⟨Nat.le_of_ble_eq_true rfl, Nat.le_of_ble_eq_true rfl⟩) (hI.recv hK (va_PL hP)) hK hP hD hS hA hT rfl hl.1 rfl (Nat.le_of_ble_eq_true rfl) dL_isStep_280 ⟨Nat.le_of_ble_eq_true rfl, Nat.le_of_ble_eq_true rfl⟩ (fun W1 H locs hI2 hP hD hS => ?_)
    refine lv_istore (lv' := [(10, .int (nI v)), (9, .int (vC σ 5)), (8, .int (vF σ (nI a) 0)), (7, .int (vC σ 12)), (6, .int 1), (0, .ref γ), (1, .ref γ'), (2, .int x), (3, .int y), (4, .int z), (5, .int (nI a))]) hx hb dL_isStep_283 hl (by decide) rfl (fun ls hl => ?_)
    refine lv_aload_n hx hb dL_isStep_285 rfl (lv_at hl 6 rfl) ?_
    refine lv_iload hx hb dL_isStep_286 (lv_at hl 10 rfl) ?_
    refine lv_iconst (v := (-1)) hx hb dL_isStep_288 (by decide) ?_
    refine lv_iload hx hb dL_isStep_289 (lv_at hl 4 rfl) ?_
    refine lv_if_eq (tgt := 298) hx hb dL_isStep_291 (by decide) (fun h9 : (1 : Int32) = 0 => absurd h9 (show ¬ ((1 : Int32) = 0) from (by decide))) (fun _ => ?_)
    refine lv_iconst (v := 1) hx hb dL_isStep_294 (by decide) ?_
    refine lv_goto (tgt := 299) hx hb dL_isStep_295 (by decide) ?_
    refine lv_iload_n hx hb dL_isStep_299 rfl (lv_at hl 8 rfl) ?_
    refine lv_iconst (v := 2) hx hb dL_isStep_300 (by decide) ?_
    obtain ⟨u1, hu1, eu1⟩ := vUpI y (n := 2) (by omega) (by omega)
    refine rdS (As := [.int y, .int 2]) (rest := [.int 1, .int (-1), .int (nI a), .ref γ']) (c_L_upE l G y 2 (nI u1) (by decide) eu1) hF (va_cwS 2 hts gL_isStep_L_up rfl rfl rfl (by decide +kernel) ⟨Nat.le_of_ble_eq_true rfl, Nat.le_of_ble_eq_true rfl⟩) hK va_P0 rfl hl.1 rfl (Nat.le_of_ble_eq_true rfl) dL_isStep_301 ⟨Nat.le_of_ble_eq_true rfl, Nat.le_of_ble_eq_true rfl⟩ ?_
    have K312_4 : ∀ (x9 : Int32) (ls : Array Slot), True → lv_has ls 11 [(0, .ref γ), (1, .ref γ'), (2, .int x), (3, .int y), (4, .int z), (5, .int (nI a)), (6, .int 1), (7, .int (vC σ 12)), (8, .int (vF σ (nI a) 0)), (9, .int (vC σ 5)), (10, .int (nI v))] → W p l e (headSpec wsL_isStep (rmN 9 210 18 2454)).room s m ([.ref γ, .ref γ', .int x, .int y] : List Value).toArray below meth c H locs (0 + 6) (0 + 818) Q (F0 m 312 ls [.int x9, .int 1, .int (-1), .int (nI a), .ref γ']) := by
      intro x9 ls hx9 hl
      refine nwSR (As := [.ref γ', .int (nI a), .int (-1), .int 1, .int x9]) (rest := []) (c_L_isPadded_r l G tb hI' hDv hpl ha (dn := 1) (p1 := x9) e1 (if_pos (nI_pos' (by omega))).symm) hF (va_cwS 5 hts gL_isStep_L_isPadded rfl rfl rfl (by decide +kernel) ⟨Nat.le_of_ble_eq_true rfl, Nat.le_of_ble_eq_true rfl⟩) hK hP hD hS hA hT rfl hl.1 rfl (Nat.le_of_ble_eq_true rfl) dL_isStep_312 ⟨Nat.le_of_ble_eq_true rfl, Nat.le_of_ble_eq_true rfl⟩ (fun W5 H locs hI6 hP hD hS => ?_)
      obtain ⟨ϖ2, hpl2, hI6b⟩ := hI6
      refine lv_if_eq (tgt := 385) hx hb dL_isStep_315 (by decide) (fun h9 : (1 : Int32) = 0 => absurd h9 (show ¬ ((1 : Int32) = 0) from (by decide))) (fun _ => ?_)
      refine lv_iload hx hb dL_isStep_318 (lv_at hl 6 rfl) ?_
      refine lv_if_eq (tgt := 364) hx hb dL_isStep_320 (by decide) (fun h9 : (1 : Int32) = 0 => absurd h9 (show ¬ ((1 : Int32) = 0) from (by decide))) (fun _ => ?_)
      refine lv_iload hx hb dL_isStep_323 (lv_at hl 10 rfl) ?_
      refine lv_aload_n hx hb dL_isStep_325 rfl (lv_at hl 0 rfl) ?_
      refine lv_iload hx hb dL_isStep_326 (lv_at hl 5 rfl) ?_
      refine lv_iconst (v := 2) hx hb dL_isStep_328 (by decide) ?_
      refine rdV (As := [.int (nI a), .int 2]) (rest := [.int (nI v)]) (o_sector l hI2 (nI a) 2) hF (cwV 2 hts gL_isStep_X4_sector rfl rfl rfl (by decide +kernel) ⟨Nat.le_of_ble_eq_true rfl, Nat.le_of_ble_eq_true rfl⟩) (hI2.recv hK (va_PL hP)) hK (va_PL hP) rfl hl.1 rfl (Nat.le_of_ble_eq_true rfl) dL_isStep_329 ⟨Nat.le_of_ble_eq_true rfl, Nat.le_of_ble_eq_true rfl⟩ ?_
      refine lv_icmp_ne (tgt := 385) hx hb dL_isStep_332 (by decide) (fun h9 : ¬ ((nI v) = (vS D (nI a) 2)) => absurd (show (nI v) = (vS D (nI a) 2) from f332) h9) (fun _ => ?_)
      refine lv_aload_n hx hb dL_isStep_335 rfl (lv_at hl 0 rfl) ?_
      refine lv_bipush (v := 12) hx hb dL_isStep_336 (by decide) ?_
      refine rdTV (As := [.int 12]) (rest := []) (o_count l tb hI2 12 (by decide) (by decide)) hF (cwV 1 hts gL_isStep_X4_count rfl rfl rfl (by decide +kernel) ⟨Nat.le_of_ble_eq_true rfl, Nat.le_of_ble_eq_true rfl⟩) (hI2.recv hK (va_PL hP)) hK (va_PL hP) hT hS rfl hl.1 rfl (Nat.le_of_ble_eq_true rfl) dL_isStep_338 ⟨Nat.le_of_ble_eq_true rfl, Nat.le_of_ble_eq_true rfl⟩ ?_
      refine lv_iload hx hb dL_isStep_341 (lv_at hl 7 rfl) ?_
      refine lv_iconst (v := 1) hx hb dL_isStep_343 (by decide) ?_
      refine lv_iadd hx hb dL_isStep_344 ?_
      refine lv_icmp_ne (tgt := 385) hx hb dL_isStep_345 (by decide) (fun h9 : ¬ ((vC D 12) = ((vC σ 12) + 1)) => absurd (show (vC D 12) = ((vC σ 12) + 1) from f345) h9) (fun _ => ?_)
      refine lv_aload_n hx hb dL_isStep_348 rfl (lv_at hl 0 rfl) ?_
      refine lv_iconst (v := 5) hx hb dL_isStep_349 (by decide) ?_
      refine rdTV (As := [.int 5]) (rest := []) (o_count l tb hI2 5 (by decide) (by decide)) hF (cwV 1 hts gL_isStep_X4_count rfl rfl rfl (by decide +kernel) ⟨Nat.le_of_ble_eq_true rfl, Nat.le_of_ble_eq_true rfl⟩) (hI2.recv hK (va_PL hP)) hK (va_PL hP) hT hS rfl hl.1 rfl (Nat.le_of_ble_eq_true rfl) dL_isStep_350 ⟨Nat.le_of_ble_eq_true rfl, Nat.le_of_ble_eq_true rfl⟩ ?_
      refine lv_iload hx hb dL_isStep_353 (lv_at hl 9 rfl) ?_
      refine lv_iload hx hb dL_isStep_355 (lv_at hl 8 rfl) ?_
      refine lv_iadd hx hb dL_isStep_357 ?_
      refine lv_icmp_ne (tgt := 385) hx hb dL_isStep_358 (by decide) (fun h9 : ¬ ((vC D 5) = ((vC σ 5) + (vF σ (nI a) 0))) => absurd (show (vC D 5) = ((vC σ 5) + (vF σ (nI a) 0)) from f358) h9) (fun _ => ?_)
      refine lv_goto (tgt := 381) hx hb dL_isStep_361 (by decide) ?_
      refine lv_iconst (v := 1) hx hb dL_isStep_381 (by decide) ?_
      refine lv_goto (tgt := 386) hx hb dL_isStep_382 (by decide) ?_
      exact kend _ _ _ _ _ _ _ (Nat.le_of_ble_eq_true rfl) (Nat.le_of_ble_eq_true rfl) dL_isStep_386 ⟨D, ϖ, ϖ2, sl, _, _, rfl, hI2, hI6b, hpl2, hO.up (by omega), (fun k υ q => (hsl k υ q).up (by omega))⟩ hP hD hS
    refine lv_if_ne (tgt := 311) hx hb dL_isStep_304 (by decide) (fun (c3 : ¬ ((nI u1) = 0)) => ?_) (fun (c3 : (nI u1) = 0) => ?_)
    · skip
      refine lv_iconst (v := 0) hx hb dL_isStep_311 (by decide) ?_
      exact K312_4 _ ls trivial (lv_sub hl [5, 6, 7, 8, 9, 10, 4, 3, 2, 1, 0] rfl)
    · skip
      refine lv_iconst (v := 1) hx hb dL_isStep_307 (by decide) ?_
      refine lv_goto (tgt := 312) hx hb dL_isStep_308 (by decide) ?_
      exact K312_4 _ ls trivial (lv_sub hl [5, 6, 7, 8, 9, 10, 4, 3, 2, 1, 0] rfl)
set_option maxHeartbeats 4000000 in
set_option maxRecDepth 100000 in
theorem cs4_isStep {p : Program} {e : Env} {s : State} {m : MethodId} {below : List Frame} {meth : Method} {c : Code} {Q : State → Prop} {A9 : Nat → Prop} (l : Launch) (G : GG) (tb : Nat × Nat × Nat) {γ γ' : Nat} {x y z : Int32} {σ : DS} {ϖ ϖ' : PS} {sl : Nat → Option DS} {W0 W1 : va_W} {K : Nat} (hI : OI G γ (σ, ϖ, sl) W0) (hI' : OI G γ' (σ, ϖ', sl) W1) (hpl : p_le ϖ' = 0) (hDv : Dv K σ) (hsl : ∀ k υ, sl k = some υ → Dv K υ) (hK9 : K + 10000 ≤ 9999999) {a : Nat} (ha : a < 192) (hP : va_P G.1 vwCl (W0 ++ W1) s.heap) (hD : va_D A9 (W0 ++ W1)) (hA : ∀ q : Nat, s.heap.size ≤ q → A9 q) (hT : sT tb A9 s) (hK : cK G s) (C0 : cA p s m meth c ([.ref γ, .ref γ', .int x, .int y] : List Value).toArray cL_isStep 11 (some .boolean) wsL_isStep RL) (kend : ∀ (w1 : va_W) (H : Heap) (locs : List Loc) (pc cells slots : Nat) (ls : Array Slot), cells ≤ 18 → slots ≤ 2454 → decode cL_isStep pc = .ok (.ireturn, 1) → PW2 G γ γ' (K + 10000) w1 → va_P G.1 vwCl w1 H → va_D A9 w1 → va_S A9 s.heap H locs → W p l e (headSpec wsL_isStep (rmN 9 210 18 2454)).room s m ([.ref γ, .ref γ', .int x, .int y] : List Value).toArray below meth c H locs cells slots Q (F0 m pc ls [.int 1])) : ∀ ls : Array Slot, lv_has ls 11 [(0, .ref γ), (1, .ref γ'), (2, .int x), (3, .int y), (4, .int z), (5, .int (nI a))] → W p l e (headSpec wsL_isStep (rmN 9 210 18 2454)).room s m ([.ref γ, .ref γ', .int x, .int y] : List Value).toArray below meth c s.heap [] (0) (0) Q (F0 m 387 ls []) := by
  obtain ⟨hx, hb, hr, hml, hown, hts, hlocks⟩ := id C0
  have hF : CallFix p m c cL_isStep 11 s ([.ref γ, .ref γ', .int x, .int y] : List Value).toArray wsL_isStep RL := ⟨hx, hb, hml, hown, hts⟩
  have hS : va_S A9 s.heap s.heap [] := va_S.rf
  intro ls hl
  obtain ⟨c9, hc9, ec9, hd9, hrd⟩ := readD hDv (by omega) ha
  rcases hrd with ⟨h6, hr0, e1⟩ | ⟨h6, v, k, T9, D, hv, ev, hk9, ek, eT, hT9, e1, eD, hO⟩
  · skip
    refine lv_aload_n hx hb dL_isStep_387 rfl (lv_at hl 0 rfl) ?_
    refine lv_iload hx hb dL_isStep_388 (lv_at hl 5 rfl) ?_
    refine lv_bipush (v := 6) hx hb dL_isStep_390 (by decide) ?_
    refine rdV (As := [.int (nI a), .int 6]) (rest := []) (o_sector l hI (nI a) 6) hF (cwV 2 hts gL_isStep_X4_sector rfl rfl rfl (by decide +kernel) ⟨Nat.le_of_ble_eq_true rfl, Nat.le_of_ble_eq_true rfl⟩) (hI.recv hK (va_PL hP)) hK (va_PL hP) rfl hl.1 rfl (Nat.le_of_ble_eq_true rfl) dL_isStep_392 ⟨Nat.le_of_ble_eq_true rfl, Nat.le_of_ble_eq_true rfl⟩ ?_
    refine lv_iconst (v := 1) hx hb dL_isStep_395 (by decide) ?_
    refine lv_icmp_ne (tgt := 403) hx hb dL_isStep_396 (by decide) (fun _ => ?_) (fun h9 : (vS σ (nI a) 6) = 1 => absurd h9 (show ¬ ((vS σ (nI a) 6) = 1) from (by rw [h6]; decide)))
    refine lv_iconst (v := 0) hx hb dL_isStep_403 (by decide) ?_
    refine lv_istore (lv' := [(6, .int 0), (0, .ref γ), (1, .ref γ'), (2, .int x), (3, .int y), (4, .int z), (5, .int (nI a))]) hx hb dL_isStep_404 hl (by decide) rfl (fun ls hl => ?_)
    refine lv_aload_n hx hb dL_isStep_406 rfl (lv_at hl 1 rfl) ?_
    refine lv_iload hx hb dL_isStep_407 (lv_at hl 6 rfl) ?_
    refine lv_iconst (v := 3) hx hb dL_isStep_409 (by decide) ?_
    refine rdV (As := [.int (nI a), .int 3]) (rest := []) (o_sector l hI (nI a) 3) hF (cwV 2 hts gL_isStep_X4_sector rfl rfl rfl (by decide +kernel) ⟨Nat.le_of_ble_eq_true rfl, Nat.le_of_ble_eq_true rfl⟩) (hI.recv hK (va_PL hP)) hK (va_PL hP) rfl hl.1 rfl (Nat.le_of_ble_eq_true rfl) dL_isStep_410 ⟨Nat.le_of_ble_eq_true rfl, Nat.le_of_ble_eq_true rfl⟩ ?_
    refine lv_istore (lv' := [(7, .int (vS σ (nI a) 3)), (6, .int 0), (0, .ref γ), (1, .ref γ'), (2, .int x), (3, .int y), (4, .int z), (5, .int (nI a))]) hx hb dL_isStep_413 hl (by decide) rfl (fun ls hl => ?_)
    refine lv_aload_n hx hb dL_isStep_415 rfl (lv_at hl 2 rfl) ?_
    refine lv_iload hx hb dL_isStep_416 (lv_at hl 7 rfl) ?_
    refine lv_iconst (v := 2) hx hb dL_isStep_418 (by decide) ?_
    refine rdV (As := [.int (nI a), .int 2]) (rest := []) (o_sector l hI (nI a) 2) hF (cwV 2 hts gL_isStep_X4_sector rfl rfl rfl (by decide +kernel) ⟨Nat.le_of_ble_eq_true rfl, Nat.le_of_ble_eq_true rfl⟩) (hI.recv hK (va_PL hP)) hK (va_PL hP) rfl hl.1 rfl (Nat.le_of_ble_eq_true rfl) dL_isStep_419 ⟨Nat.le_of_ble_eq_true rfl, Nat.le_of_ble_eq_true rfl⟩ ?_
    refine lv_istore (lv' := [(8, .int (vS σ (nI a) 2)), (7, .int (vS σ (nI a) 3)), (6, .int 0), (0, .ref γ), (1, .ref γ'), (2, .int x), (3, .int y), (4, .int z), (5, .int (nI a))]) hx hb dL_isStep_422 hl (by decide) rfl (fun ls hl => ?_)
    refine lv_aload_n hx hb dL_isStep_424 rfl (lv_at hl 3 rfl) ?_
    refine lv_iload hx hb dL_isStep_425 (lv_at hl 8 rfl) ?_
    refine nwVL (As := [.int (nI a)]) (rest := []) (o_refresh0 l tb hI ha hr0) hF (cwV 1 hts gL_isStep_X4_refresh rfl rfl rfl (by decide +kernel) ⟨Nat.le_of_ble_eq_true rfl, Nat.le_of_ble_eq_true rfl⟩) (hI.recv hK (va_PL hP)) hK hP hD hS hA hT rfl hl.1 rfl (Nat.le_of_ble_eq_true rfl) dL_isStep_427 ⟨Nat.le_of_ble_eq_true rfl, Nat.le_of_ble_eq_true rfl⟩ (fun W1 H locs hI2 hP hD hS => ?_)
    refine lv_istore (lv' := [(9, .int (-5)), (8, .int (vS σ (nI a) 2)), (7, .int (vS σ (nI a) 3)), (6, .int 0), (0, .ref γ), (1, .ref γ'), (2, .int x), (3, .int y), (4, .int z), (5, .int (nI a))]) hx hb dL_isStep_430 hl (by decide) rfl (fun ls hl => ?_)
    refine lv_iload hx hb dL_isStep_432 (lv_at hl 3 rfl) ?_
    refine lv_if_ne (tgt := 461) hx hb dL_isStep_434 (by decide) (fun h9 : ¬ ((0 : Int32) = 0) => absurd (show (0 : Int32) = 0 from (by decide)) h9) (fun _ => ?_)
    refine lv_iload hx hb dL_isStep_437 (lv_at hl 0 rfl) ?_
    refine lv_bipush (v := (-5)) hx hb dL_isStep_439 (by decide) ?_
    refine lv_icmp_ne (tgt := 459) hx hb dL_isStep_441 (by decide) (fun h9 : ¬ ((-5 : Int32) = (-5)) => absurd (show (-5 : Int32) = (-5) from (by decide)) h9) (fun _ => ?_)
    refine lv_aload_n hx hb dL_isStep_444 rfl (lv_at hl 5 rfl) ?_
    refine lv_iload hx hb dL_isStep_445 (lv_at hl 9 rfl) ?_
    refine nwVR (As := [.int (nI a)]) (rest := []) (o_refresh0 l tb hI' ha hr0) hF (cwV 1 hts gL_isStep_X4_refresh rfl rfl rfl (by decide +kernel) ⟨Nat.le_of_ble_eq_true rfl, Nat.le_of_ble_eq_true rfl⟩) (hI'.recv hK (va_PR hP)) hK hP hD hS hA hT rfl hl.1 rfl (Nat.le_of_ble_eq_true rfl) dL_isStep_447 ⟨Nat.le_of_ble_eq_true rfl, Nat.le_of_ble_eq_true rfl⟩ (fun W3 H locs hI4 hP hD hS => ?_)
    refine lv_iload hx hb dL_isStep_450 (lv_at hl 0 rfl) ?_
    refine lv_icmp_ne (tgt := 459) hx hb dL_isStep_452 (by decide) (fun h9 : ¬ ((-5 : Int32) = (-5)) => absurd (show (-5 : Int32) = (-5) from (by decide)) h9) (fun _ => ?_)
    refine lv_iconst (v := 1) hx hb dL_isStep_455 (by decide) ?_
    refine lv_goto (tgt := 460) hx hb dL_isStep_456 (by decide) ?_
    exact kend _ _ _ _ _ _ _ (Nat.le_of_ble_eq_true rfl) (Nat.le_of_ble_eq_true rfl) dL_isStep_460 ⟨σ, ϖ, ϖ', sl, _, _, rfl, hI2, hI4, hpl, hDv.up (by omega), (fun k υ q => (hsl k υ q).up (by omega))⟩ hP hD hS
  · obtain ⟨c3, w3, s3, t3, h3, T3, r3, D2, -, -, -, -, -, -, -, q3t, -, -, -, -, -, q3r, -, q3m, e2, hO2, -⟩ := writeD hO (by omega) ha hv
    have e3 : s_X0_blurOf σ (s_X0_sectorFor σ (nI a)) = vS σ (nI a) 3 := by rw [sfor σ ha, ec9, bluI σ hc9, vS3 ha hc9 ec9]
    have hb9 : ¬ vS σ (nI a) 3 < 0 := by
      obtain ⟨x9, hx9, ex9⟩ := hDv.2.2.2.2.2.2.2.2.1 c9 hc9
      rw [vS3 ha hc9 ec9, ex9]
      exact nI_pos (by omega)
    refine lv_aload_n hx hb dL_isStep_387 rfl (lv_at hl 0 rfl) ?_
    refine lv_iload hx hb dL_isStep_388 (lv_at hl 5 rfl) ?_
    refine lv_bipush (v := 6) hx hb dL_isStep_390 (by decide) ?_
    refine rdV (As := [.int (nI a), .int 6]) (rest := []) (o_sector l hI (nI a) 6) hF (cwV 2 hts gL_isStep_X4_sector rfl rfl rfl (by decide +kernel) ⟨Nat.le_of_ble_eq_true rfl, Nat.le_of_ble_eq_true rfl⟩) (hI.recv hK (va_PL hP)) hK (va_PL hP) rfl hl.1 rfl (Nat.le_of_ble_eq_true rfl) dL_isStep_392 ⟨Nat.le_of_ble_eq_true rfl, Nat.le_of_ble_eq_true rfl⟩ ?_
    refine lv_iconst (v := 1) hx hb dL_isStep_395 (by decide) ?_
    refine lv_icmp_ne (tgt := 403) hx hb dL_isStep_396 (by decide) (fun h9 : ¬ ((vS σ (nI a) 6) = 1) => absurd (show (vS σ (nI a) 6) = 1 from h6) h9) (fun _ => ?_)
    refine lv_iconst (v := 1) hx hb dL_isStep_399 (by decide) ?_
    refine lv_goto (tgt := 404) hx hb dL_isStep_400 (by decide) ?_
    refine lv_istore (lv' := [(6, .int 1), (0, .ref γ), (1, .ref γ'), (2, .int x), (3, .int y), (4, .int z), (5, .int (nI a))]) hx hb dL_isStep_404 hl (by decide) rfl (fun ls hl => ?_)
    refine lv_aload_n hx hb dL_isStep_406 rfl (lv_at hl 1 rfl) ?_
    refine lv_iload hx hb dL_isStep_407 (lv_at hl 6 rfl) ?_
    refine lv_iconst (v := 3) hx hb dL_isStep_409 (by decide) ?_
    refine rdV (As := [.int (nI a), .int 3]) (rest := []) (o_sector l hI (nI a) 3) hF (cwV 2 hts gL_isStep_X4_sector rfl rfl rfl (by decide +kernel) ⟨Nat.le_of_ble_eq_true rfl, Nat.le_of_ble_eq_true rfl⟩) (hI.recv hK (va_PL hP)) hK (va_PL hP) rfl hl.1 rfl (Nat.le_of_ble_eq_true rfl) dL_isStep_410 ⟨Nat.le_of_ble_eq_true rfl, Nat.le_of_ble_eq_true rfl⟩ ?_
    refine lv_istore (lv' := [(7, .int (vS σ (nI a) 3)), (6, .int 1), (0, .ref γ), (1, .ref γ'), (2, .int x), (3, .int y), (4, .int z), (5, .int (nI a))]) hx hb dL_isStep_413 hl (by decide) rfl (fun ls hl => ?_)
    refine lv_aload_n hx hb dL_isStep_415 rfl (lv_at hl 2 rfl) ?_
    refine lv_iload hx hb dL_isStep_416 (lv_at hl 7 rfl) ?_
    refine lv_iconst (v := 2) hx hb dL_isStep_418 (by decide) ?_
    refine rdV (As := [.int (nI a), .int 2]) (rest := []) (o_sectorE l hI (nI a) 2 ((vS2 ha hc9 ec9).trans ev)) hF (cwV 2 hts gL_isStep_X4_sector rfl rfl rfl (by decide +kernel) ⟨Nat.le_of_ble_eq_true rfl, Nat.le_of_ble_eq_true rfl⟩) (hI.recv hK (va_PL hP)) hK (va_PL hP) rfl hl.1 rfl (Nat.le_of_ble_eq_true rfl) dL_isStep_419 ⟨Nat.le_of_ble_eq_true rfl, Nat.le_of_ble_eq_true rfl⟩ ?_
    refine lv_istore (lv' := [(8, .int (nI v)), (7, .int (vS σ (nI a) 3)), (6, .int 1), (0, .ref γ), (1, .ref γ'), (2, .int x), (3, .int y), (4, .int z), (5, .int (nI a))]) hx hb dL_isStep_422 hl (by decide) rfl (fun ls hl => ?_)
    refine lv_aload_n hx hb dL_isStep_424 rfl (lv_at hl 3 rfl) ?_
    refine lv_iload hx hb dL_isStep_425 (lv_at hl 8 rfl) ?_
    refine nwVL (As := [.int (nI a)]) (rest := []) (o_refresh l tb hI ha e1 (nI_pos' (by omega)) e2 (nI_pos' (by omega)) e3 hb9) hF (cwV 1 hts gL_isStep_X4_refresh rfl rfl rfl (by decide +kernel) ⟨Nat.le_of_ble_eq_true rfl, Nat.le_of_ble_eq_true rfl⟩) (hI.recv hK (va_PL hP)) hK hP hD hS hA hT rfl hl.1 rfl (Nat.le_of_ble_eq_true rfl) dL_isStep_427 ⟨Nat.le_of_ble_eq_true rfl, Nat.le_of_ble_eq_true rfl⟩ (fun W1 H locs hI2 hP hD hS => ?_)
    refine lv_istore (lv' := [(9, .int (vS σ (nI a) 3)), (8, .int (nI v)), (7, .int (vS σ (nI a) 3)), (6, .int 1), (0, .ref γ), (1, .ref γ'), (2, .int x), (3, .int y), (4, .int z), (5, .int (nI a))]) hx hb dL_isStep_430 hl (by decide) rfl (fun ls hl => ?_)
    refine lv_iload hx hb dL_isStep_432 (lv_at hl 3 rfl) ?_
    refine lv_if_ne (tgt := 461) hx hb dL_isStep_434 (by decide) (fun _ => ?_) (fun h9 : (1 : Int32) = 0 => absurd h9 (show ¬ ((1 : Int32) = 0) from (by decide)))
    refine lv_iload hx hb dL_isStep_461 (lv_at hl 0 rfl) ?_
    refine lv_iload hx hb dL_isStep_463 (lv_at hl 2 rfl) ?_
    refine lv_icmp_ne (tgt := 497) hx hb dL_isStep_465 (by decide) (fun h9 : ¬ ((vS σ (nI a) 3) = (vS σ (nI a) 3)) => absurd (show (vS σ (nI a) 3) = (vS σ (nI a) 3) from rfl) h9) (fun _ => ?_)
    refine lv_aload_n hx hb dL_isStep_468 rfl (lv_at hl 5 rfl) ?_
    refine lv_iload hx hb dL_isStep_469 (lv_at hl 9 rfl) ?_
    refine lv_iconst (v := (-1)) hx hb dL_isStep_471 (by decide) ?_
    refine lv_iconst (v := 1) hx hb dL_isStep_472 (by decide) ?_
    refine lv_iconst (v := 0) hx hb dL_isStep_473 (by decide) ?_
    refine nwSR (As := [.ref γ', .int (nI a), .int (-1), .int 1, .int 0]) (rest := []) (c_L_isPadded_r l G tb hI' hDv hpl ha (dn := 1) (p1 := 0) e1 (if_pos (nI_pos' (by omega))).symm) hF (va_cwS 5 hts gL_isStep_L_isPadded rfl rfl rfl (by decide +kernel) ⟨Nat.le_of_ble_eq_true rfl, Nat.le_of_ble_eq_true rfl⟩) hK hP hD hS hA hT rfl hl.1 rfl (Nat.le_of_ble_eq_true rfl) dL_isStep_474 ⟨Nat.le_of_ble_eq_true rfl, Nat.le_of_ble_eq_true rfl⟩ (fun W3 H locs hI4 hP hD hS => ?_)
    obtain ⟨ϖ2, hpl2, hI4b⟩ := hI4
    refine lv_if_eq (tgt := 497) hx hb dL_isStep_477 (by decide) (fun h9 : (1 : Int32) = 0 => absurd h9 (show ¬ ((1 : Int32) = 0) from (by decide))) (fun _ => ?_)
    refine lv_aload_n hx hb dL_isStep_480 rfl (lv_at hl 5 rfl) ?_
    refine lv_iload hx hb dL_isStep_481 (lv_at hl 9 rfl) ?_
    refine lv_iload hx hb dL_isStep_483 (lv_at hl 1 rfl) ?_
    refine lv_iconst (v := 1) hx hb dL_isStep_485 (by decide) ?_
    refine lv_iconst (v := 1) hx hb dL_isStep_486 (by decide) ?_
    refine nwSR (As := [.ref γ', .int (nI a), .int (nI v), .int 1, .int 1]) (rest := []) (c_L_isPadded_w l G tb hI4b hO hpl2 ha (v := v) (by omega) (dn := 1) (p1 := 1) e2 (if_pos (nI_pos' (by omega))).symm) hF (va_cwS 5 hts gL_isStep_L_isPadded rfl rfl rfl (by decide +kernel) ⟨Nat.le_of_ble_eq_true rfl, Nat.le_of_ble_eq_true rfl⟩) hK hP hD hS hA hT rfl hl.1 rfl (Nat.le_of_ble_eq_true rfl) dL_isStep_487 ⟨Nat.le_of_ble_eq_true rfl, Nat.le_of_ble_eq_true rfl⟩ (fun W5 H locs hI6 hP hD hS => ?_)
    obtain ⟨ϖ3, hpl3, hI6b⟩ := hI6
    refine lv_if_eq (tgt := 497) hx hb dL_isStep_490 (by decide) (fun h9 : (1 : Int32) = 0 => absurd h9 (show ¬ ((1 : Int32) = 0) from (by decide))) (fun _ => ?_)
    refine lv_iconst (v := 1) hx hb dL_isStep_493 (by decide) ?_
    refine lv_goto (tgt := 498) hx hb dL_isStep_494 (by decide) ?_
    exact kend _ _ _ _ _ _ _ (Nat.le_of_ble_eq_true rfl) (Nat.le_of_ble_eq_true rfl) dL_isStep_498 ⟨D2, ϖ, ϖ3, sl, _, _, rfl, hI2, hI6b, hpl3, hO2.up (by omega), (fun k υ q => (hsl k υ q).up (by omega))⟩ hP hD hS
set_option maxHeartbeats 4000000 in
set_option maxRecDepth 100000 in
theorem cs5_isStep {p : Program} {e : Env} {s : State} {m : MethodId} {below : List Frame} {meth : Method} {c : Code} {Q : State → Prop} {A9 : Nat → Prop} (l : Launch) (G : GG) (tb : Nat × Nat × Nat) {γ γ' : Nat} {x y z : Int32} {σ : DS} {ϖ ϖ' : PS} {sl : Nat → Option DS} {W0 W1 : va_W} {K : Nat} (hI : OI G γ (σ, ϖ, sl) W0) (hI' : OI G γ' (σ, ϖ', sl) W1) (hpl : p_le ϖ' = 0) (hDv : Dv K σ) (hsl : ∀ k υ, sl k = some υ → Dv K υ) (hK9 : K + 10000 ≤ 9999999) {a : Nat} (ha : a < 192) (hP : va_P G.1 vwCl (W0 ++ W1) s.heap) (hD : va_D A9 (W0 ++ W1)) (hA : ∀ q : Nat, s.heap.size ≤ q → A9 q) (hT : sT tb A9 s) (hK : cK G s) (C0 : cA p s m meth c ([.ref γ, .ref γ', .int x, .int y] : List Value).toArray cL_isStep 11 (some .boolean) wsL_isStep RL) (kend : ∀ (w1 : va_W) (H : Heap) (locs : List Loc) (pc cells slots : Nat) (ls : Array Slot), cells ≤ 18 → slots ≤ 2454 → decode cL_isStep pc = .ok (.ireturn, 1) → PW2 G γ γ' (K + 10000) w1 → va_P G.1 vwCl w1 H → va_D A9 w1 → va_S A9 s.heap H locs → W p l e (headSpec wsL_isStep (rmN 9 210 18 2454)).room s m ([.ref γ, .ref γ', .int x, .int y] : List Value).toArray below meth c H locs cells slots Q (F0 m pc ls [.int 1])) : ∀ ls : Array Slot, lv_has ls 11 [(0, .ref γ), (1, .ref γ'), (2, .int x), (3, .int y), (4, .int z), (5, .int (nI a))] → W p l e (headSpec wsL_isStep (rmN 9 210 18 2454)).room s m ([.ref γ, .ref γ', .int x, .int y] : List Value).toArray below meth c s.heap [] (0) (0) Q (F0 m 499 ls []) := by
  obtain ⟨hx, hb, hr, hml, hown, hts, hlocks⟩ := id C0
  have hF : CallFix p m c cL_isStep 11 s ([.ref γ, .ref γ', .int x, .int y] : List Value).toArray wsL_isStep RL := ⟨hx, hb, hml, hown, hts⟩
  have hS : va_S A9 s.heap s.heap [] := va_S.rf
  intro ls hl
  refine lv_iload_n hx hb dL_isStep_499 rfl (lv_at hl 3 rfl) ?_
  refine lv_bipush (v := 17) hx hb dL_isStep_500 (by decide) ?_
  obtain ⟨q, hq, eq⟩ := vUpI y (n := 17) (by omega) (by omega)
  refine rdS (As := [.int y, .int 17]) (rest := []) (c_L_upE l G y 17 (nI q) (by decide) eq) hF (va_cwS 2 hts gL_isStep_L_up rfl rfl rfl (by decide +kernel) ⟨Nat.le_of_ble_eq_true rfl, Nat.le_of_ble_eq_true rfl⟩) hK va_P0 rfl hl.1 rfl (Nat.le_of_ble_eq_true rfl) dL_isStep_502 ⟨Nat.le_of_ble_eq_true rfl, Nat.le_of_ble_eq_true rfl⟩ ?_
  refine lv_istore (lv' := [(6, .int (nI q)), (0, .ref γ), (1, .ref γ'), (2, .int x), (3, .int y), (4, .int z), (5, .int (nI a))]) hx hb dL_isStep_505 hl (by decide) rfl (fun ls hl => ?_)
  obtain ⟨m9, D, e1, hm9, hO, f573, f562⟩ := seekD hDv (by omega) hq
  refine lv_aload_n hx hb dL_isStep_507 rfl (lv_at hl 1 rfl) ?_
  refine lv_bipush (v := 6) hx hb dL_isStep_508 (by decide) ?_
  refine rdTV (As := [.int 6]) (rest := []) (o_count l tb hI 6 (by decide) (by decide)) hF (cwV 1 hts gL_isStep_X4_count rfl rfl rfl (by decide +kernel) ⟨Nat.le_of_ble_eq_true rfl, Nat.le_of_ble_eq_true rfl⟩) (hI.recv hK (va_PL hP)) hK (va_PL hP) hT hS rfl hl.1 rfl (Nat.le_of_ble_eq_true rfl) dL_isStep_510 ⟨Nat.le_of_ble_eq_true rfl, Nat.le_of_ble_eq_true rfl⟩ ?_
  refine lv_istore (lv' := [(7, .int (vC σ 6)), (6, .int (nI q)), (0, .ref γ), (1, .ref γ'), (2, .int x), (3, .int y), (4, .int z), (5, .int (nI a))]) hx hb dL_isStep_513 hl (by decide) rfl (fun ls hl => ?_)
  refine lv_aload_n hx hb dL_isStep_515 rfl (lv_at hl 2 rfl) ?_
  refine lv_iload hx hb dL_isStep_516 (lv_at hl 1 rfl) ?_
  refine nwVL (As := [.int (nI q)]) (rest := []) (o_seekE l tb hI hq e1 hm9) hF (cwV 1 hts gL_isStep_X4_seek rfl rfl rfl (by decide +kernel) ⟨Nat.le_of_ble_eq_true rfl, Nat.le_of_ble_eq_true rfl⟩) (hI.recv hK (va_PL hP)) hK hP hD hS hA hT rfl hl.1 rfl (Nat.le_of_ble_eq_true rfl) dL_isStep_518 ⟨Nat.le_of_ble_eq_true rfl, Nat.le_of_ble_eq_true rfl⟩ (fun W1 H locs hI2 hP hD hS => ?_)
  refine lv_istore (lv' := [(8, .int (nI m9)), (7, .int (vC σ 6)), (6, .int (nI q)), (0, .ref γ), (1, .ref γ'), (2, .int x), (3, .int y), (4, .int z), (5, .int (nI a))]) hx hb dL_isStep_521 hl (by decide) rfl (fun ls hl => ?_)
  refine lv_iload hx hb dL_isStep_523 (lv_at hl 0 rfl) ?_
  refine lv_aload_n hx hb dL_isStep_525 rfl (lv_at hl 4 rfl) ?_
  refine lv_iload hx hb dL_isStep_526 (lv_at hl 2 rfl) ?_
  refine nwVR (As := [.int (nI q)]) (rest := [.int (nI m9)]) (o_seekE l tb hI' hq e1 hm9) hF (cwV 1 hts gL_isStep_X4_seek rfl rfl rfl (by decide +kernel) ⟨Nat.le_of_ble_eq_true rfl, Nat.le_of_ble_eq_true rfl⟩) (hI'.recv hK (va_PR hP)) hK hP hD hS hA hT rfl hl.1 rfl (Nat.le_of_ble_eq_true rfl) dL_isStep_528 ⟨Nat.le_of_ble_eq_true rfl, Nat.le_of_ble_eq_true rfl⟩ (fun W3 H locs hI4 hP hD hS => ?_)
  refine lv_icmp_ne (tgt := 580) hx hb dL_isStep_531 (by decide) (fun h9 : ¬ ((nI m9) = (nI m9)) => absurd (show (nI m9) = (nI m9) from rfl) h9) (fun _ => ?_)
  refine lv_iload hx hb dL_isStep_534 (lv_at hl 0 rfl) ?_
  refine lv_aload_n hx hb dL_isStep_536 rfl (lv_at hl 3 rfl) ?_
  refine lv_iconst (v := 4) hx hb dL_isStep_537 (by decide) ?_
  refine rdTV (As := [.int 4]) (rest := [.int (nI m9)]) (o_count l tb hI2 4 (by decide) (by decide)) hF (cwV 1 hts gL_isStep_X4_count rfl rfl rfl (by decide +kernel) ⟨Nat.le_of_ble_eq_true rfl, Nat.le_of_ble_eq_true rfl⟩) (hI2.recv hK (va_PL hP)) hK (va_PL hP) hT hS rfl hl.1 rfl (Nat.le_of_ble_eq_true rfl) dL_isStep_538 ⟨Nat.le_of_ble_eq_true rfl, Nat.le_of_ble_eq_true rfl⟩ ?_
  refine lv_iload hx hb dL_isStep_541 (lv_at hl 2 rfl) ?_
  refine lv_iload hx hb dL_isStep_543 (lv_at hl 1 rfl) ?_
  have K561_6 : ∀ ls : Array Slot, lv_has ls 11 [(0, .ref γ), (1, .ref γ'), (2, .int x), (3, .int y), (4, .int z), (5, .int (nI a)), (6, .int (nI q)), (7, .int (vC σ 6)), (8, .int (nI m9))] → W p l e (headSpec wsL_isStep (rmN 9 210 18 2454)).room s m ([.ref γ, .ref γ', .int x, .int y] : List Value).toArray below meth c H locs (0 + 6 + 6) (0 + 818 + 818) Q (F0 m 561 ls [.int (mv561_isStep σ q), .int (vC D 4), .int (nI m9)]) := by
    intro ls hl
    refine lv_imul hx hb dL_isStep_561 ?_
    refine lv_icmp_ne (tgt := 580) hx hb dL_isStep_562 (by decide) (fun h9 : ¬ ((nI m9) = ((vC D 4) * (mv561_isStep σ q))) => absurd (show (nI m9) = ((vC D 4) * (mv561_isStep σ q)) from f562) h9) (fun _ => ?_)
    refine lv_aload_n hx hb dL_isStep_565 rfl (lv_at hl 0 rfl) ?_
    refine lv_bipush (v := 6) hx hb dL_isStep_566 (by decide) ?_
    refine rdTV (As := [.int 6]) (rest := []) (o_count l tb hI2 6 (by decide) (by decide)) hF (cwV 1 hts gL_isStep_X4_count rfl rfl rfl (by decide +kernel) ⟨Nat.le_of_ble_eq_true rfl, Nat.le_of_ble_eq_true rfl⟩) (hI2.recv hK (va_PL hP)) hK (va_PL hP) hT hS rfl hl.1 rfl (Nat.le_of_ble_eq_true rfl) dL_isStep_568 ⟨Nat.le_of_ble_eq_true rfl, Nat.le_of_ble_eq_true rfl⟩ ?_
    refine lv_iload hx hb dL_isStep_571 (lv_at hl 6 rfl) ?_
    refine lv_icmp_ne (tgt := 580) hx hb dL_isStep_573 (by decide) (fun h9 : ¬ ((vC D 6) = (nI q)) => absurd (show (vC D 6) = (nI q) from f573) h9) (fun _ => ?_)
    refine lv_iconst (v := 1) hx hb dL_isStep_576 (by decide) ?_
    refine lv_goto (tgt := 581) hx hb dL_isStep_577 (by decide) ?_
    exact kend _ _ _ _ _ _ _ (Nat.le_of_ble_eq_true rfl) (Nat.le_of_ble_eq_true rfl) dL_isStep_581 ⟨D, ϖ, ϖ', sl, _, _, rfl, hI2, hI4, hpl, hO.up (by omega), (fun k υ q => (hsl k υ q).up (by omega))⟩ hP hD hS
  refine lv_icmp_le (tgt := 556) hx hb dL_isStep_545 (by decide) (fun (c5 : (nI q) ≤ (vC σ 6)) => ?_) (fun (c5 : ¬ ((nI q) ≤ (vC σ 6))) => ?_)
  · skip
    refine lv_iload hx hb dL_isStep_556 (lv_at hl 1 rfl) ?_
    refine lv_iload hx hb dL_isStep_558 (lv_at hl 2 rfl) ?_
    refine lv_isub hx hb dL_isStep_560 ?_
    have k9 := K561_6 ls (lv_sub hl [3, 4, 5, 6, 7, 8, 2, 1, 0] rfl)
    rw [show (mv561_isStep σ q) = ((vC σ 6) - (nI q)) from by rw [show (mv561_isStep σ q) = (if (nI q) ≤ (vC σ 6) then ((vC σ 6) - (nI q)) else ((nI q) - (vC σ 6))) from rfl, if_pos c5]] at k9
    exact k9
  · skip
    refine lv_iload hx hb dL_isStep_548 (lv_at hl 2 rfl) ?_
    refine lv_iload hx hb dL_isStep_550 (lv_at hl 1 rfl) ?_
    refine lv_isub hx hb dL_isStep_552 ?_
    refine lv_goto (tgt := 561) hx hb dL_isStep_553 (by decide) ?_
    have k9 := K561_6 ls (lv_sub hl [3, 4, 5, 6, 7, 8, 2, 1, 0] rfl)
    rw [show (mv561_isStep σ q) = ((nI q) - (vC σ 6)) from by rw [show (mv561_isStep σ q) = (if (nI q) ≤ (vC σ 6) then ((vC σ 6) - (nI q)) else ((nI q) - (vC σ 6))) from rfl, if_neg c5]] at k9
    exact k9
set_option maxHeartbeats 4000000 in
set_option maxRecDepth 100000 in
theorem cs6_isStep {p : Program} {e : Env} {s : State} {m : MethodId} {below : List Frame} {meth : Method} {c : Code} {Q : State → Prop} {A9 : Nat → Prop} (l : Launch) (G : GG) (tb : Nat × Nat × Nat) {γ γ' : Nat} {x y z : Int32} {σ : DS} {ϖ ϖ' : PS} {sl : Nat → Option DS} {W0 W1 : va_W} {K : Nat} (hI : OI G γ (σ, ϖ, sl) W0) (hI' : OI G γ' (σ, ϖ', sl) W1) (hpl : p_le ϖ' = 0) (hDv : Dv K σ) (hsl : ∀ k υ, sl k = some υ → Dv K υ) (hK9 : K + 10000 ≤ 9999999) {a : Nat} (ha : a < 192) (hP : va_P G.1 vwCl (W0 ++ W1) s.heap) (hD : va_D A9 (W0 ++ W1)) (hA : ∀ q : Nat, s.heap.size ≤ q → A9 q) (hT : sT tb A9 s) (hK : cK G s) (C0 : cA p s m meth c ([.ref γ, .ref γ', .int x, .int y] : List Value).toArray cL_isStep 11 (some .boolean) wsL_isStep RL) (kend : ∀ (w1 : va_W) (H : Heap) (locs : List Loc) (pc cells slots : Nat) (ls : Array Slot), cells ≤ 18 → slots ≤ 2454 → decode cL_isStep pc = .ok (.ireturn, 1) → PW2 G γ γ' (K + 10000) w1 → va_P G.1 vwCl w1 H → va_D A9 w1 → va_S A9 s.heap H locs → W p l e (headSpec wsL_isStep (rmN 9 210 18 2454)).room s m ([.ref γ, .ref γ', .int x, .int y] : List Value).toArray below meth c H locs cells slots Q (F0 m pc ls [.int 1])) : ∀ ls : Array Slot, lv_has ls 11 [(0, .ref γ), (1, .ref γ'), (2, .int x), (3, .int y), (4, .int z), (5, .int (nI a))] → W p l e (headSpec wsL_isStep (rmN 9 210 18 2454)).room s m ([.ref γ, .ref γ', .int x, .int y] : List Value).toArray below meth c s.heap [] (0) (0) Q (F0 m 582 ls []) := by
  obtain ⟨hx, hb, hr, hml, hown, hts, hlocks⟩ := id C0
  have hF : CallFix p m c cL_isStep 11 s ([.ref γ, .ref γ', .int x, .int y] : List Value).toArray wsL_isStep RL := ⟨hx, hb, hml, hown, hts⟩
  have hS : va_S A9 s.heap s.heap [] := va_S.rf
  intro ls hl
  refine lv_iconst (v := 1) hx hb dL_isStep_582 (by decide) ?_
  refine lv_iload_n hx hb dL_isStep_583 rfl (lv_at hl 3 rfl) ?_
  refine lv_iload hx hb dL_isStep_584 (lv_at hl 4 rfl) ?_
  refine lv_iconst (v := 3) hx hb dL_isStep_586 (by decide) ?_
  obtain ⟨u1, hu1, eu1⟩ := vUpI z (n := 3) (by omega) (by omega)
  refine rdS (As := [.int z, .int 3]) (rest := [.int y, .int 1]) (c_L_upE l G z 3 (nI u1) (by decide) eu1) hF (va_cwS 2 hts gL_isStep_L_up rfl rfl rfl (by decide +kernel) ⟨Nat.le_of_ble_eq_true rfl, Nat.le_of_ble_eq_true rfl⟩) hK va_P0 rfl hl.1 rfl (Nat.le_of_ble_eq_true rfl) dL_isStep_587 ⟨Nat.le_of_ble_eq_true rfl, Nat.le_of_ble_eq_true rfl⟩ ?_
  have K605_2 : ∀ (x9 : Int32) (ls : Array Slot), (∃ v : Nat, x9 = nI v ∧ 1 ≤ v ∧ v ≤ 9999) → lv_has ls 11 [(0, .ref γ), (1, .ref γ'), (2, .int x), (3, .int y), (4, .int z), (5, .int (nI a))] → W p l e (headSpec wsL_isStep (rmN 9 210 18 2454)).room s m ([.ref γ, .ref γ', .int x, .int y] : List Value).toArray below meth c s.heap [] (0) (0) Q (F0 m 605 ls [.int x9]) := by
    intro x9 ls hx9 hl
    obtain ⟨v, rfl, hv1, hv2⟩ := hx9
    obtain ⟨D, e1, hn9, hO, f639, f656⟩ := idleD hDv (by omega) hv2
    refine lv_istore (lv' := [(6, .int (nI v)), (0, .ref γ), (1, .ref γ'), (2, .int x), (3, .int y), (4, .int z), (5, .int (nI a))]) hx hb dL_isStep_605 hl (by decide) rfl (fun ls hl => ?_)
    refine lv_aload_n hx hb dL_isStep_607 rfl (lv_at hl 1 rfl) ?_
    refine lv_iconst (v := 5) hx hb dL_isStep_608 (by decide) ?_
    refine rdTV (As := [.int 5]) (rest := []) (o_count l tb hI 5 (by decide) (by decide)) hF (cwV 1 hts gL_isStep_X4_count rfl rfl rfl (by decide +kernel) ⟨Nat.le_of_ble_eq_true rfl, Nat.le_of_ble_eq_true rfl⟩) (hI.recv hK (va_PL hP)) hK (va_PL hP) hT hS rfl hl.1 rfl (Nat.le_of_ble_eq_true rfl) dL_isStep_609 ⟨Nat.le_of_ble_eq_true rfl, Nat.le_of_ble_eq_true rfl⟩ ?_
    refine lv_istore (lv' := [(7, .int (vC σ 5)), (6, .int (nI v)), (0, .ref γ), (1, .ref γ'), (2, .int x), (3, .int y), (4, .int z), (5, .int (nI a))]) hx hb dL_isStep_612 hl (by decide) rfl (fun ls hl => ?_)
    refine lv_aload_n hx hb dL_isStep_614 rfl (lv_at hl 2 rfl) ?_
    refine lv_iload hx hb dL_isStep_615 (lv_at hl 1 rfl) ?_
    refine nwVL (As := [.int (nI v)]) (rest := []) (o_idleE l tb hI hv1 hv2 e1 hn9) hF (cwV 1 hts gL_isStep_X4_idle rfl rfl rfl (by decide +kernel) ⟨Nat.le_of_ble_eq_true rfl, Nat.le_of_ble_eq_true rfl⟩) (hI.recv hK (va_PL hP)) hK hP hD hS hA hT rfl hl.1 rfl (Nat.le_of_ble_eq_true rfl) dL_isStep_617 ⟨Nat.le_of_ble_eq_true rfl, Nat.le_of_ble_eq_true rfl⟩ (fun W3 H locs hI4 hP hD hS => ?_)
    refine lv_aload_n hx hb dL_isStep_620 rfl (lv_at hl 3 rfl) ?_
    refine lv_iload hx hb dL_isStep_621 (lv_at hl 1 rfl) ?_
    refine nwVR (As := [.int (nI v)]) (rest := [.int (s_X0_sectorUnderHead D)]) (o_idleE l tb hI' hv1 hv2 e1 hn9) hF (cwV 1 hts gL_isStep_X4_idle rfl rfl rfl (by decide +kernel) ⟨Nat.le_of_ble_eq_true rfl, Nat.le_of_ble_eq_true rfl⟩) (hI'.recv hK (va_PR hP)) hK hP hD hS hA hT rfl hl.1 rfl (Nat.le_of_ble_eq_true rfl) dL_isStep_623 ⟨Nat.le_of_ble_eq_true rfl, Nat.le_of_ble_eq_true rfl⟩ (fun W5 H locs hI6 hP hD hS => ?_)
    refine lv_icmp_ne (tgt := 663) hx hb dL_isStep_626 (by decide) (fun h9 : ¬ ((s_X0_sectorUnderHead D) = (s_X0_sectorUnderHead D)) => absurd (show (s_X0_sectorUnderHead D) = (s_X0_sectorUnderHead D) from rfl) h9) (fun _ => ?_)
    refine lv_aload_n hx hb dL_isStep_629 rfl (lv_at hl 2 rfl) ?_
    refine lv_iconst (v := 5) hx hb dL_isStep_630 (by decide) ?_
    refine rdTV (As := [.int 5]) (rest := []) (o_count l tb hI4 5 (by decide) (by decide)) hF (cwV 1 hts gL_isStep_X4_count rfl rfl rfl (by decide +kernel) ⟨Nat.le_of_ble_eq_true rfl, Nat.le_of_ble_eq_true rfl⟩) (hI4.recv hK (va_PL hP)) hK (va_PL hP) hT hS rfl hl.1 rfl (Nat.le_of_ble_eq_true rfl) dL_isStep_631 ⟨Nat.le_of_ble_eq_true rfl, Nat.le_of_ble_eq_true rfl⟩ ?_
    refine lv_iload hx hb dL_isStep_634 (lv_at hl 0 rfl) ?_
    refine lv_iload hx hb dL_isStep_636 (lv_at hl 1 rfl) ?_
    refine lv_iadd hx hb dL_isStep_638 ?_
    refine lv_icmp_ne (tgt := 663) hx hb dL_isStep_639 (by decide) (fun h9 : ¬ ((vC D 5) = ((vC σ 5) + (nI v))) => absurd (show (vC D 5) = ((vC σ 5) + (nI v)) from f639) h9) (fun _ => ?_)
    refine lv_aload_n hx hb dL_isStep_642 rfl (lv_at hl 2 rfl) ?_
    refine lv_bipush (v := 7) hx hb dL_isStep_643 (by decide) ?_
    refine rdTV (As := [.int 7]) (rest := []) (o_count l tb hI4 7 (by decide) (by decide)) hF (cwV 1 hts gL_isStep_X4_count rfl rfl rfl (by decide +kernel) ⟨Nat.le_of_ble_eq_true rfl, Nat.le_of_ble_eq_true rfl⟩) (hI4.recv hK (va_PL hP)) hK (va_PL hP) hT hS rfl hl.1 rfl (Nat.le_of_ble_eq_true rfl) dL_isStep_645 ⟨Nat.le_of_ble_eq_true rfl, Nat.le_of_ble_eq_true rfl⟩ ?_
    refine lv_iload hx hb dL_isStep_648 (lv_at hl 0 rfl) ?_
    refine lv_iload hx hb dL_isStep_650 (lv_at hl 1 rfl) ?_
    refine lv_iadd hx hb dL_isStep_652 ?_
    refine lv_bipush (v := 12) hx hb dL_isStep_653 (by decide) ?_
    refine lv_irem hx hb dL_isStep_655 (by decide) ?_
    refine lv_icmp_ne (tgt := 663) hx hb dL_isStep_656 (by decide) (fun h9 : ¬ ((vC D 7) = (jrem ((vC σ 5) + (nI v)) 12)) => absurd (show (vC D 7) = (jrem ((vC σ 5) + (nI v)) 12) from f656) h9) (fun _ => ?_)
    refine lv_iconst (v := 1) hx hb dL_isStep_659 (by decide) ?_
    refine lv_goto (tgt := 664) hx hb dL_isStep_660 (by decide) ?_
    exact kend _ _ _ _ _ _ _ (Nat.le_of_ble_eq_true rfl) (Nat.le_of_ble_eq_true rfl) dL_isStep_664 ⟨D, ϖ, ϖ', sl, _, _, rfl, hI4, hI6, hpl, hO.up (by omega), (fun k υ q => (hsl k υ q).up (by omega))⟩ hP hD hS
  refine lv_if_ne (tgt := 599) hx hb dL_isStep_590 (by decide) (fun (c1 : ¬ ((nI u1) = 0)) => ?_) (fun (c1 : (nI u1) = 0) => ?_)
  · skip
    refine lv_bipush (v := 20) hx hb dL_isStep_599 (by decide) ?_
    obtain ⟨v1, hv1, ev1⟩ := vUpI y (n := 20) (by omega) (by omega)
    refine rdS (As := [.int y, .int 20]) (rest := [.int 1]) (c_L_upE l G y 20 (nI v1) (by decide) ev1) hF (va_cwS 2 hts gL_isStep_L_up rfl rfl rfl (by decide +kernel) ⟨Nat.le_of_ble_eq_true rfl, Nat.le_of_ble_eq_true rfl⟩) hK va_P0 rfl hl.1 rfl (Nat.le_of_ble_eq_true rfl) dL_isStep_601 ⟨Nat.le_of_ble_eq_true rfl, Nat.le_of_ble_eq_true rfl⟩ ?_
    refine lv_iadd hx hb dL_isStep_604 ?_
    exact K605_2 _ ls ⟨1 + v1, nI_add 1 _, by omega, by omega⟩ (lv_sub hl [0, 1, 2, 3, 4, 5] rfl)
  · skip
    refine lv_sipush (v := 9999) hx hb dL_isStep_593 (by decide) ?_
    refine lv_goto (tgt := 601) hx hb dL_isStep_596 (by decide) ?_
    obtain ⟨v1, hv1, ev1⟩ := vUpI y (n := 9999) (by omega) (by omega)
    refine rdS (As := [.int y, .int 9999]) (rest := [.int 1]) (c_L_upE l G y 9999 (nI v1) (by decide) ev1) hF (va_cwS 2 hts gL_isStep_L_up rfl rfl rfl (by decide +kernel) ⟨Nat.le_of_ble_eq_true rfl, Nat.le_of_ble_eq_true rfl⟩) hK va_P0 rfl hl.1 rfl (Nat.le_of_ble_eq_true rfl) dL_isStep_601 ⟨Nat.le_of_ble_eq_true rfl, Nat.le_of_ble_eq_true rfl⟩ ?_
    refine lv_iadd hx hb dL_isStep_604 ?_
    exact K605_2 _ ls ⟨1 + v1, nI_add 1 _, by omega, by omega⟩ (lv_sub hl [0, 1, 2, 3, 4, 5] rfl)
set_option maxHeartbeats 4000000 in
set_option maxRecDepth 100000 in
theorem cs7_isStep {p : Program} {e : Env} {s : State} {m : MethodId} {below : List Frame} {meth : Method} {c : Code} {Q : State → Prop} {A9 : Nat → Prop} (l : Launch) (G : GG) (tb : Nat × Nat × Nat) {γ γ' : Nat} {x y z : Int32} {σ : DS} {ϖ ϖ' : PS} {sl : Nat → Option DS} {W0 W1 : va_W} {K : Nat} (hI : OI G γ (σ, ϖ, sl) W0) (hI' : OI G γ' (σ, ϖ', sl) W1) (hpl : p_le ϖ' = 0) (hDv : Dv K σ) (hsl : ∀ k υ, sl k = some υ → Dv K υ) (hK9 : K + 10000 ≤ 9999999) {a : Nat} (ha : a < 192) (hP : va_P G.1 vwCl (W0 ++ W1) s.heap) (hD : va_D A9 (W0 ++ W1)) (hA : ∀ q : Nat, s.heap.size ≤ q → A9 q) (hT : sT tb A9 s) (hK : cK G s) (C0 : cA p s m meth c ([.ref γ, .ref γ', .int x, .int y] : List Value).toArray cL_isStep 11 (some .boolean) wsL_isStep RL) (kend : ∀ (w1 : va_W) (H : Heap) (locs : List Loc) (pc cells slots : Nat) (ls : Array Slot), cells ≤ 18 → slots ≤ 2454 → decode cL_isStep pc = .ok (.ireturn, 1) → PW2 G γ γ' (K + 10000) w1 → va_P G.1 vwCl w1 H → va_D A9 w1 → va_S A9 s.heap H locs → W p l e (headSpec wsL_isStep (rmN 9 210 18 2454)).room s m ([.ref γ, .ref γ', .int x, .int y] : List Value).toArray below meth c H locs cells slots Q (F0 m pc ls [.int 1])) : ∀ ls : Array Slot, lv_has ls 11 [(0, .ref γ), (1, .ref γ'), (2, .int x), (3, .int y), (4, .int z), (5, .int (nI a))] → W p l e (headSpec wsL_isStep (rmN 9 210 18 2454)).room s m ([.ref γ, .ref γ', .int x, .int y] : List Value).toArray below meth c s.heap [] (0) (0) Q (F0 m 665 ls []) := by
  obtain ⟨hx, hb, hr, hml, hown, hts, hlocks⟩ := id C0
  have hF : CallFix p m c cL_isStep 11 s ([.ref γ, .ref γ', .int x, .int y] : List Value).toArray wsL_isStep RL := ⟨hx, hb, hml, hown, hts⟩
  have hS : va_S A9 s.heap s.heap [] := va_S.rf
  intro ls hl
  obtain ⟨k, hk, ek⟩ := vUpI z (n := 2) (by omega) (by omega)
  cases hq9 : sl k with
  | none =>
    refine lv_iload_n hx hb dL_isStep_665 rfl (lv_at hl 3 rfl) ?_
    refine lv_iconst (v := 2) hx hb dL_isStep_666 (by decide) ?_
    obtain ⟨u1, hu1, eu1⟩ := vUpI y (n := 2) (by omega) (by omega)
    refine rdS (As := [.int y, .int 2]) (rest := []) (c_L_upE l G y 2 (nI u1) (by decide) eu1) hF (va_cwS 2 hts gL_isStep_L_up rfl rfl rfl (by decide +kernel) ⟨Nat.le_of_ble_eq_true rfl, Nat.le_of_ble_eq_true rfl⟩) hK va_P0 rfl hl.1 rfl (Nat.le_of_ble_eq_true rfl) dL_isStep_667 ⟨Nat.le_of_ble_eq_true rfl, Nat.le_of_ble_eq_true rfl⟩ ?_
    refine lv_if_ne (tgt := 704) hx hb dL_isStep_670 (by decide) (fun (c1 : ¬ ((nI u1) = 0)) => ?_) (fun (c1 : (nI u1) = 0) => ?_)
    · skip
      refine lv_aload_n hx hb dL_isStep_704 rfl (lv_at hl 0 rfl) ?_
      refine lv_iload hx hb dL_isStep_705 (lv_at hl 4 rfl) ?_
      refine lv_iconst (v := 2) hx hb dL_isStep_707 (by decide) ?_
      refine rdS (As := [.int z, .int 2]) (rest := [.ref γ]) (c_L_upE l G z 2 (nI k) (by decide) ek) hF (va_cwS 2 hts gL_isStep_L_up rfl rfl rfl (by decide +kernel) ⟨Nat.le_of_ble_eq_true rfl, Nat.le_of_ble_eq_true rfl⟩) hK va_P0 rfl hl.1 rfl (Nat.le_of_ble_eq_true rfl) dL_isStep_708 ⟨Nat.le_of_ble_eq_true rfl, Nat.le_of_ble_eq_true rfl⟩ ?_
      refine rdV (As := [.int (nI k)]) (rest := []) (o_restore_none l hI hk hq9) hF (cwV 1 hts gL_isStep_X4_restore rfl rfl rfl (by decide +kernel) ⟨Nat.le_of_ble_eq_true rfl, Nat.le_of_ble_eq_true rfl⟩) (hI.recv hK (va_PL hP)) hK (va_PL hP) rfl hl.1 rfl (Nat.le_of_ble_eq_true rfl) dL_isStep_711 ⟨Nat.le_of_ble_eq_true rfl, Nat.le_of_ble_eq_true rfl⟩ ?_
      refine lv_aload_n hx hb dL_isStep_714 rfl (lv_at hl 1 rfl) ?_
      refine lv_iload hx hb dL_isStep_715 (lv_at hl 4 rfl) ?_
      refine lv_iconst (v := 2) hx hb dL_isStep_717 (by decide) ?_
      refine rdS (As := [.int z, .int 2]) (rest := [.ref γ', .int (-5)]) (c_L_upE l G z 2 (nI k) (by decide) ek) hF (va_cwS 2 hts gL_isStep_L_up rfl rfl rfl (by decide +kernel) ⟨Nat.le_of_ble_eq_true rfl, Nat.le_of_ble_eq_true rfl⟩) hK va_P0 rfl hl.1 rfl (Nat.le_of_ble_eq_true rfl) dL_isStep_718 ⟨Nat.le_of_ble_eq_true rfl, Nat.le_of_ble_eq_true rfl⟩ ?_
      refine rdV (As := [.int (nI k)]) (rest := [.int (-5)]) (o_restore_none l hI' hk hq9) hF (cwV 1 hts gL_isStep_X4_restore rfl rfl rfl (by decide +kernel) ⟨Nat.le_of_ble_eq_true rfl, Nat.le_of_ble_eq_true rfl⟩) (hI'.recv hK (va_PR hP)) hK (va_PR hP) rfl hl.1 rfl (Nat.le_of_ble_eq_true rfl) dL_isStep_721 ⟨Nat.le_of_ble_eq_true rfl, Nat.le_of_ble_eq_true rfl⟩ ?_
      refine lv_icmp_ne (tgt := 731) hx hb dL_isStep_724 (by decide) (fun h9 : ¬ ((-5 : Int32) = (-5)) => absurd (show (-5 : Int32) = (-5) from (by decide)) h9) (fun _ => ?_)
      refine lv_iconst (v := 1) hx hb dL_isStep_727 (by decide) ?_
      refine lv_goto (tgt := 732) hx hb dL_isStep_728 (by decide) ?_
      exact kend _ _ _ _ _ _ _ (Nat.le_of_ble_eq_true rfl) (Nat.le_of_ble_eq_true rfl) dL_isStep_732 ⟨σ, ϖ, ϖ', sl, _, _, rfl, hI, hI', hpl, hDv.up (by omega), (fun k υ q => (hsl k υ q).up (by omega))⟩ hP hD hS
    · skip
      refine lv_aload_n hx hb dL_isStep_673 rfl (lv_at hl 0 rfl) ?_
      refine lv_iload hx hb dL_isStep_674 (lv_at hl 4 rfl) ?_
      refine lv_iconst (v := 2) hx hb dL_isStep_676 (by decide) ?_
      refine rdS (As := [.int z, .int 2]) (rest := [.ref γ]) (c_L_upE l G z 2 (nI k) (by decide) ek) hF (va_cwS 2 hts gL_isStep_L_up rfl rfl rfl (by decide +kernel) ⟨Nat.le_of_ble_eq_true rfl, Nat.le_of_ble_eq_true rfl⟩) hK va_P0 rfl hl.1 rfl (Nat.le_of_ble_eq_true rfl) dL_isStep_677 ⟨Nat.le_of_ble_eq_true rfl, Nat.le_of_ble_eq_true rfl⟩ ?_
      refine nwVL (As := [.int (nI k)]) (rest := []) (o_save_new l tb hI hk hq9) hF (cwV 1 hts gL_isStep_X4_save rfl rfl rfl (by decide +kernel) ⟨Nat.le_of_ble_eq_true rfl, Nat.le_of_ble_eq_true rfl⟩) (hI.recv hK (va_PL hP)) hK hP hD hS hA hT rfl hl.1 rfl (Nat.le_of_ble_eq_true rfl) dL_isStep_680 ⟨Nat.le_of_ble_eq_true rfl, Nat.le_of_ble_eq_true rfl⟩ (fun W2 H locs hI3 hP hD hS => ?_)
      refine lv_aload_n hx hb dL_isStep_683 rfl (lv_at hl 1 rfl) ?_
      refine lv_iload hx hb dL_isStep_684 (lv_at hl 4 rfl) ?_
      refine lv_iconst (v := 2) hx hb dL_isStep_686 (by decide) ?_
      refine rdS (As := [.int z, .int 2]) (rest := [.ref γ', .int (s_X0_filledOn σ 0 16)]) (c_L_upE l G z 2 (nI k) (by decide) ek) hF (va_cwS 2 hts gL_isStep_L_up rfl rfl rfl (by decide +kernel) ⟨Nat.le_of_ble_eq_true rfl, Nat.le_of_ble_eq_true rfl⟩) hK va_P0 rfl hl.1 rfl (Nat.le_of_ble_eq_true rfl) dL_isStep_687 ⟨Nat.le_of_ble_eq_true rfl, Nat.le_of_ble_eq_true rfl⟩ ?_
      refine nwVR (As := [.int (nI k)]) (rest := [.int (s_X0_filledOn σ 0 16)]) (o_save_new l tb hI' hk hq9) hF (cwV 1 hts gL_isStep_X4_save rfl rfl rfl (by decide +kernel) ⟨Nat.le_of_ble_eq_true rfl, Nat.le_of_ble_eq_true rfl⟩) (hI'.recv hK (va_PR hP)) hK hP hD hS hA hT rfl hl.1 rfl (Nat.le_of_ble_eq_true rfl) dL_isStep_690 ⟨Nat.le_of_ble_eq_true rfl, Nat.le_of_ble_eq_true rfl⟩ (fun W4 H locs hI5 hP hD hS => ?_)
      refine lv_icmp_ne (tgt := 700) hx hb dL_isStep_693 (by decide) (fun h9 : ¬ ((s_X0_filledOn σ 0 16) = (s_X0_filledOn σ 0 16)) => absurd (show (s_X0_filledOn σ 0 16) = (s_X0_filledOn σ 0 16) from rfl) h9) (fun _ => ?_)
      refine lv_iconst (v := 1) hx hb dL_isStep_696 (by decide) ?_
      refine lv_goto (tgt := 732) hx hb dL_isStep_697 (by decide) ?_
      exact kend _ _ _ _ _ _ _ (Nat.le_of_ble_eq_true rfl) (Nat.le_of_ble_eq_true rfl) dL_isStep_732 ⟨σ, ϖ, ϖ', (fun j => if j = k then some σ else sl j), _, _, rfl, hI3, hI5, hpl, hDv.up (by omega), (slUp hDv hsl (by omega) k)⟩ hP hD hS
  | some υ =>
    refine lv_iload_n hx hb dL_isStep_665 rfl (lv_at hl 3 rfl) ?_
    refine lv_iconst (v := 2) hx hb dL_isStep_666 (by decide) ?_
    obtain ⟨u1, hu1, eu1⟩ := vUpI y (n := 2) (by omega) (by omega)
    refine rdS (As := [.int y, .int 2]) (rest := []) (c_L_upE l G y 2 (nI u1) (by decide) eu1) hF (va_cwS 2 hts gL_isStep_L_up rfl rfl rfl (by decide +kernel) ⟨Nat.le_of_ble_eq_true rfl, Nat.le_of_ble_eq_true rfl⟩) hK va_P0 rfl hl.1 rfl (Nat.le_of_ble_eq_true rfl) dL_isStep_667 ⟨Nat.le_of_ble_eq_true rfl, Nat.le_of_ble_eq_true rfl⟩ ?_
    refine lv_if_ne (tgt := 704) hx hb dL_isStep_670 (by decide) (fun (c1 : ¬ ((nI u1) = 0)) => ?_) (fun (c1 : (nI u1) = 0) => ?_)
    · skip
      refine lv_aload_n hx hb dL_isStep_704 rfl (lv_at hl 0 rfl) ?_
      refine lv_iload hx hb dL_isStep_705 (lv_at hl 4 rfl) ?_
      refine lv_iconst (v := 2) hx hb dL_isStep_707 (by decide) ?_
      refine rdS (As := [.int z, .int 2]) (rest := [.ref γ]) (c_L_upE l G z 2 (nI k) (by decide) ek) hF (va_cwS 2 hts gL_isStep_L_up rfl rfl rfl (by decide +kernel) ⟨Nat.le_of_ble_eq_true rfl, Nat.le_of_ble_eq_true rfl⟩) hK va_P0 rfl hl.1 rfl (Nat.le_of_ble_eq_true rfl) dL_isStep_708 ⟨Nat.le_of_ble_eq_true rfl, Nat.le_of_ble_eq_true rfl⟩ ?_
      refine nwVL (As := [.int (nI k)]) (rest := []) (o_restore l tb hI hk hq9 (filN (hsl k υ hq9))) hF (cwV 1 hts gL_isStep_X4_restore rfl rfl rfl (by decide +kernel) ⟨Nat.le_of_ble_eq_true rfl, Nat.le_of_ble_eq_true rfl⟩) (hI.recv hK (va_PL hP)) hK hP hD hS hA hT rfl hl.1 rfl (Nat.le_of_ble_eq_true rfl) dL_isStep_711 ⟨Nat.le_of_ble_eq_true rfl, Nat.le_of_ble_eq_true rfl⟩ (fun W2 H locs hI3 hP hD hS => ?_)
      refine lv_aload_n hx hb dL_isStep_714 rfl (lv_at hl 1 rfl) ?_
      refine lv_iload hx hb dL_isStep_715 (lv_at hl 4 rfl) ?_
      refine lv_iconst (v := 2) hx hb dL_isStep_717 (by decide) ?_
      refine rdS (As := [.int z, .int 2]) (rest := [.ref γ', .int (s_X0_filledOn υ 0 16)]) (c_L_upE l G z 2 (nI k) (by decide) ek) hF (va_cwS 2 hts gL_isStep_L_up rfl rfl rfl (by decide +kernel) ⟨Nat.le_of_ble_eq_true rfl, Nat.le_of_ble_eq_true rfl⟩) hK va_P0 rfl hl.1 rfl (Nat.le_of_ble_eq_true rfl) dL_isStep_718 ⟨Nat.le_of_ble_eq_true rfl, Nat.le_of_ble_eq_true rfl⟩ ?_
      refine nwVR (As := [.int (nI k)]) (rest := [.int (s_X0_filledOn υ 0 16)]) (o_restore l tb hI' hk hq9 (filN (hsl k υ hq9))) hF (cwV 1 hts gL_isStep_X4_restore rfl rfl rfl (by decide +kernel) ⟨Nat.le_of_ble_eq_true rfl, Nat.le_of_ble_eq_true rfl⟩) (hI'.recv hK (va_PR hP)) hK hP hD hS hA hT rfl hl.1 rfl (Nat.le_of_ble_eq_true rfl) dL_isStep_721 ⟨Nat.le_of_ble_eq_true rfl, Nat.le_of_ble_eq_true rfl⟩ (fun W4 H locs hI5 hP hD hS => ?_)
      refine lv_icmp_ne (tgt := 731) hx hb dL_isStep_724 (by decide) (fun h9 : ¬ ((s_X0_filledOn υ 0 16) = (s_X0_filledOn υ 0 16)) => absurd (show (s_X0_filledOn υ 0 16) = (s_X0_filledOn υ 0 16) from rfl) h9) (fun _ => ?_)
      refine lv_iconst (v := 1) hx hb dL_isStep_727 (by decide) ?_
      refine lv_goto (tgt := 732) hx hb dL_isStep_728 (by decide) ?_
      exact kend _ _ _ _ _ _ _ (Nat.le_of_ble_eq_true rfl) (Nat.le_of_ble_eq_true rfl) dL_isStep_732 ⟨υ, ϖ, ϖ', sl, _, _, rfl, hI3, hI5, hpl, (hsl k υ hq9).up (by omega), (fun k υ q => (hsl k υ q).up (by omega))⟩ hP hD hS
    · skip
      refine lv_aload_n hx hb dL_isStep_673 rfl (lv_at hl 0 rfl) ?_
      refine lv_iload hx hb dL_isStep_674 (lv_at hl 4 rfl) ?_
      refine lv_iconst (v := 2) hx hb dL_isStep_676 (by decide) ?_
      refine rdS (As := [.int z, .int 2]) (rest := [.ref γ]) (c_L_upE l G z 2 (nI k) (by decide) ek) hF (va_cwS 2 hts gL_isStep_L_up rfl rfl rfl (by decide +kernel) ⟨Nat.le_of_ble_eq_true rfl, Nat.le_of_ble_eq_true rfl⟩) hK va_P0 rfl hl.1 rfl (Nat.le_of_ble_eq_true rfl) dL_isStep_677 ⟨Nat.le_of_ble_eq_true rfl, Nat.le_of_ble_eq_true rfl⟩ ?_
      refine nwVL (As := [.int (nI k)]) (rest := []) (o_save_old l tb hI hk (fun z => by rw [show sl k = none from z] at hq9; cases hq9)) hF (cwV 1 hts gL_isStep_X4_save rfl rfl rfl (by decide +kernel) ⟨Nat.le_of_ble_eq_true rfl, Nat.le_of_ble_eq_true rfl⟩) (hI.recv hK (va_PL hP)) hK hP hD hS hA hT rfl hl.1 rfl (Nat.le_of_ble_eq_true rfl) dL_isStep_680 ⟨Nat.le_of_ble_eq_true rfl, Nat.le_of_ble_eq_true rfl⟩ (fun W6 H locs hI7 hP hD hS => ?_)
      refine lv_aload_n hx hb dL_isStep_683 rfl (lv_at hl 1 rfl) ?_
      refine lv_iload hx hb dL_isStep_684 (lv_at hl 4 rfl) ?_
      refine lv_iconst (v := 2) hx hb dL_isStep_686 (by decide) ?_
      refine rdS (As := [.int z, .int 2]) (rest := [.ref γ', .int (s_X0_filledOn σ 0 16)]) (c_L_upE l G z 2 (nI k) (by decide) ek) hF (va_cwS 2 hts gL_isStep_L_up rfl rfl rfl (by decide +kernel) ⟨Nat.le_of_ble_eq_true rfl, Nat.le_of_ble_eq_true rfl⟩) hK va_P0 rfl hl.1 rfl (Nat.le_of_ble_eq_true rfl) dL_isStep_687 ⟨Nat.le_of_ble_eq_true rfl, Nat.le_of_ble_eq_true rfl⟩ ?_
      refine nwVR (As := [.int (nI k)]) (rest := [.int (s_X0_filledOn σ 0 16)]) (o_save_old l tb hI' hk (fun z => by rw [show sl k = none from z] at hq9; cases hq9)) hF (cwV 1 hts gL_isStep_X4_save rfl rfl rfl (by decide +kernel) ⟨Nat.le_of_ble_eq_true rfl, Nat.le_of_ble_eq_true rfl⟩) (hI'.recv hK (va_PR hP)) hK hP hD hS hA hT rfl hl.1 rfl (Nat.le_of_ble_eq_true rfl) dL_isStep_690 ⟨Nat.le_of_ble_eq_true rfl, Nat.le_of_ble_eq_true rfl⟩ (fun W8 H locs hI9 hP hD hS => ?_)
      refine lv_icmp_ne (tgt := 700) hx hb dL_isStep_693 (by decide) (fun h9 : ¬ ((s_X0_filledOn σ 0 16) = (s_X0_filledOn σ 0 16)) => absurd (show (s_X0_filledOn σ 0 16) = (s_X0_filledOn σ 0 16) from rfl) h9) (fun _ => ?_)
      refine lv_iconst (v := 1) hx hb dL_isStep_696 (by decide) ?_
      refine lv_goto (tgt := 732) hx hb dL_isStep_697 (by decide) ?_
      exact kend _ _ _ _ _ _ _ (Nat.le_of_ble_eq_true rfl) (Nat.le_of_ble_eq_true rfl) dL_isStep_732 ⟨σ, ϖ, ϖ', (fun j => if j = k then some σ else sl j), _, _, rfl, hI7, hI9, hpl, hDv.up (by omega), (slUp hDv hsl (by omega) k)⟩ hP hD hS
set_option maxHeartbeats 4000000 in
set_option maxRecDepth 100000 in
theorem cs8_isStep {p : Program} {e : Env} {s : State} {m : MethodId} {below : List Frame} {meth : Method} {c : Code} {Q : State → Prop} {A9 : Nat → Prop} (l : Launch) (G : GG) (tb : Nat × Nat × Nat) {γ γ' : Nat} {x y z : Int32} {σ : DS} {ϖ ϖ' : PS} {sl : Nat → Option DS} {W0 W1 : va_W} {K : Nat} (hI : OI G γ (σ, ϖ, sl) W0) (hI' : OI G γ' (σ, ϖ', sl) W1) (hpl : p_le ϖ' = 0) (hDv : Dv K σ) (hsl : ∀ k υ, sl k = some υ → Dv K υ) (hK9 : K + 10000 ≤ 9999999) {a : Nat} (ha : a < 192) (hP : va_P G.1 vwCl (W0 ++ W1) s.heap) (hD : va_D A9 (W0 ++ W1)) (hA : ∀ q : Nat, s.heap.size ≤ q → A9 q) (hT : sT tb A9 s) (hK : cK G s) (C0 : cA p s m meth c ([.ref γ, .ref γ', .int x, .int y] : List Value).toArray cL_isStep 11 (some .boolean) wsL_isStep RL) (kend : ∀ (w1 : va_W) (H : Heap) (locs : List Loc) (pc cells slots : Nat) (ls : Array Slot), cells ≤ 18 → slots ≤ 2454 → decode cL_isStep pc = .ok (.ireturn, 1) → PW2 G γ γ' (K + 10000) w1 → va_P G.1 vwCl w1 H → va_D A9 w1 → va_S A9 s.heap H locs → W p l e (headSpec wsL_isStep (rmN 9 210 18 2454)).room s m ([.ref γ, .ref γ', .int x, .int y] : List Value).toArray below meth c H locs cells slots Q (F0 m pc ls [.int 1])) : ∀ ls : Array Slot, lv_has ls 11 [(0, .ref γ), (1, .ref γ'), (2, .int x), (3, .int y), (4, .int z), (5, .int (nI a))] → W p l e (headSpec wsL_isStep (rmN 9 210 18 2454)).room s m ([.ref γ, .ref γ', .int x, .int y] : List Value).toArray below meth c s.heap [] (0) (0) Q (F0 m 733 ls []) := by
  obtain ⟨hx, hb, hr, hml, hown, hts, hlocks⟩ := id C0
  have hF : CallFix p m c cL_isStep 11 s ([.ref γ, .ref γ', .int x, .int y] : List Value).toArray wsL_isStep RL := ⟨hx, hb, hml, hown, hts⟩
  have hS : va_S A9 s.heap s.heap [] := va_S.rf
  intro ls hl
  refine lv_iload_n hx hb dL_isStep_733 rfl (lv_at hl 3 rfl) ?_
  refine lv_sipush (v := 256) hx hb dL_isStep_734 (by decide) ?_
  obtain ⟨v, hv, ev⟩ := vUpI y (n := 256) (by omega) (by omega)
  refine rdS (As := [.int y, .int 256]) (rest := []) (c_L_upE l G y 256 (nI v) (by decide) ev) hF (va_cwS 2 hts gL_isStep_L_up rfl rfl rfl (by decide +kernel) ⟨Nat.le_of_ble_eq_true rfl, Nat.le_of_ble_eq_true rfl⟩) hK va_P0 rfl hl.1 rfl (Nat.le_of_ble_eq_true rfl) dL_isStep_737 ⟨Nat.le_of_ble_eq_true rfl, Nat.le_of_ble_eq_true rfl⟩ ?_
  refine lv_istore (lv' := [(6, .int (nI v)), (0, .ref γ), (1, .ref γ'), (2, .int x), (3, .int y), (4, .int z), (5, .int (nI a))]) hx hb dL_isStep_740 hl (by decide) rfl (fun ls hl => ?_)
  refine lv_aload_n hx hb dL_isStep_742 rfl (lv_at hl 1 rfl) ?_
  refine lv_iload hx hb dL_isStep_743 (lv_at hl 6 rfl) ?_
  refine lv_iload hx hb dL_isStep_745 (lv_at hl 0 rfl) ?_
  refine nwSL (As := [.ref γ, .int (nI a), .int (nI v)]) (rest := []) (c_L_isWritten l G tb hI hDv (by omega) ha (v := v) (by omega)) hF (va_cwS 3 hts gL_isStep_L_isWritten rfl rfl rfl (by decide +kernel) ⟨Nat.le_of_ble_eq_true rfl, Nat.le_of_ble_eq_true rfl⟩) hK hP hD hS hA hT rfl hl.1 rfl (Nat.le_of_ble_eq_true rfl) dL_isStep_747 ⟨Nat.le_of_ble_eq_true rfl, Nat.le_of_ble_eq_true rfl⟩ (fun W1 H locs hI2 hP hD hS => ?_)
  obtain ⟨k, D, e1, hO, hI2b⟩ := hI2
  have hk9 : 0 ≤ nI k := by obtain ⟨k', D', e1', q1, -⟩ := wrF (V := (σ, ϖ, sl)) hDv (by omega) ha (v := v) (by omega); have z : nI k = nI k' := congrArg Prod.fst (e1.symm.trans e1'); rw [z]; exact Int32.not_lt.mp q1
  refine lv_if_eq (tgt := 782) hx hb dL_isStep_750 (by decide) (fun h9 : (1 : Int32) = 0 => absurd h9 (show ¬ ((1 : Int32) = 0) from (by decide))) (fun _ => ?_)
  refine lv_aload_n hx hb dL_isStep_753 rfl (lv_at hl 2 rfl) ?_
  refine lv_iload hx hb dL_isStep_754 (lv_at hl 6 rfl) ?_
  refine lv_iload hx hb dL_isStep_756 (lv_at hl 0 rfl) ?_
  refine lv_iconst (v := 1) hx hb dL_isStep_758 (by decide) ?_
  refine lv_iload_n hx hb dL_isStep_759 rfl (lv_at hl 4 rfl) ?_
  refine lv_iconst (v := 2) hx hb dL_isStep_760 (by decide) ?_
  obtain ⟨u1, hu1, eu1⟩ := vUpI y (n := 2) (by omega) (by omega)
  refine rdS (As := [.int y, .int 2]) (rest := [.int 1, .int (nI v), .int (nI a), .ref γ']) (c_L_upE l G y 2 (nI u1) (by decide) eu1) hF (va_cwS 2 hts gL_isStep_L_up rfl rfl rfl (by decide +kernel) ⟨Nat.le_of_ble_eq_true rfl, Nat.le_of_ble_eq_true rfl⟩) hK va_P0 rfl hl.1 rfl (Nat.le_of_ble_eq_true rfl) dL_isStep_761 ⟨Nat.le_of_ble_eq_true rfl, Nat.le_of_ble_eq_true rfl⟩ ?_
  have K772_4 : ∀ (x9 : Int32) (ls : Array Slot), True → lv_has ls 11 [(0, .ref γ), (1, .ref γ'), (2, .int x), (3, .int y), (4, .int z), (5, .int (nI a)), (6, .int (nI v))] → W p l e (headSpec wsL_isStep (rmN 9 210 18 2454)).room s m ([.ref γ, .ref γ', .int x, .int y] : List Value).toArray below meth c H locs (0 + 6) (0 + 818) Q (F0 m 772 ls [.int x9, .int 1, .int (nI v), .int (nI a), .ref γ']) := by
    intro x9 ls hx9 hl
    refine nwSR (As := [.ref γ', .int (nI a), .int (nI v), .int 1, .int x9]) (rest := []) (c_L_isPadded_w l G tb hI' hDv hpl ha (v := v) (by omega) (dn := 1) (p1 := x9) e1 (if_pos hk9).symm) hF (va_cwS 5 hts gL_isStep_L_isPadded rfl rfl rfl (by decide +kernel) ⟨Nat.le_of_ble_eq_true rfl, Nat.le_of_ble_eq_true rfl⟩) hK hP hD hS hA hT rfl hl.1 rfl (Nat.le_of_ble_eq_true rfl) dL_isStep_772 ⟨Nat.le_of_ble_eq_true rfl, Nat.le_of_ble_eq_true rfl⟩ (fun W5 H locs hI6 hP hD hS => ?_)
    obtain ⟨ϖ2, hpl2, hI6b⟩ := hI6
    refine lv_if_eq (tgt := 782) hx hb dL_isStep_775 (by decide) (fun h9 : (1 : Int32) = 0 => absurd h9 (show ¬ ((1 : Int32) = 0) from (by decide))) (fun _ => ?_)
    refine lv_iconst (v := 1) hx hb dL_isStep_778 (by decide) ?_
    refine lv_goto (tgt := 783) hx hb dL_isStep_779 (by decide) ?_
    exact kend _ _ _ _ _ _ _ (Nat.le_of_ble_eq_true rfl) (Nat.le_of_ble_eq_true rfl) dL_isStep_783 ⟨D, ϖ, ϖ2, sl, _, _, rfl, hI2b, hI6b, hpl2, hO.up (by omega), (fun k υ q => (hsl k υ q).up (by omega))⟩ hP hD hS
  refine lv_if_ne (tgt := 771) hx hb dL_isStep_764 (by decide) (fun (c3 : ¬ ((nI u1) = 0)) => ?_) (fun (c3 : (nI u1) = 0) => ?_)
  · skip
    refine lv_iconst (v := 0) hx hb dL_isStep_771 (by decide) ?_
    exact K772_4 _ ls trivial (lv_sub hl [1, 2, 3, 4, 5, 6, 0] rfl)
  · skip
    refine lv_iconst (v := 1) hx hb dL_isStep_767 (by decide) ?_
    refine lv_goto (tgt := 772) hx hb dL_isStep_768 (by decide) ?_
    exact K772_4 _ ls trivial (lv_sub hl [1, 2, 3, 4, 5, 6, 0] rfl)
