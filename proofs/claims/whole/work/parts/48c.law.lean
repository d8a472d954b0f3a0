set_option maxHeartbeats 4000000 in
set_option maxRecDepth 100000 in
theorem cs_set {p : Program} {e : Env} {s : State} {m : MethodId} {below : List Frame} {meth : Method} {c : Code} {H : Heap} {locs : List Loc} {cells slots : Nat} {Q : State → Prop} {b L j γ μ0 : Nat} {xs : Nat → Int32} {A : Nat → Prop} {ls : Array Slot} {W0 : va_W} {tb : Nat × Nat × Nat} (l : Launch) (G : GG) (C0 : lw_At p s m meth c b L xs) (hK : cK G s) (hT : sT tb A s) (hA : ∀ q, s.heap.size ≤ q → A q) (hbA : ¬ A b) (hL : L ≤ 1536) (hj : j + 3 ≤ L) (hLI : LIw G γ μ0 W0) (hP : va_P G.1 vwCl W0 H) (hD : va_D A W0) (hS : va_S A s.heap H locs) (hf1 : cells + 6 ≤ 600000) (hf2 : slots + 818 ≤ 7302250) (hl : lv_has ls 4 [(0, .ref b), (1, .ref γ), (2, .ref μ0), (3, .int (nI j))])
    (kk : ∀ (W1 : va_W) (H1 : Heap) (locs1 : List Loc), LIw G γ μ0 W1 → va_P G.1 vwCl W1 H1 → va_D A W1 → va_S A s.heap H1 locs1 → W p l e room_1 s m #[.ref b] below meth c H1 locs1 (cells + 6) (slots + 818) Q (F0 m 686 ls [])) : W p l e room_1 s m #[.ref b] below meth c H locs cells slots Q (F0 m 128 ls []) := by
  obtain ⟨hx, hb, hr, hml, hown, hts, hX, hbl, hlocks, hgv⟩ := id C0
  have hF : CallFix p m c cL_law 4 s #[.ref b] lw_tbl RL := ⟨hx, hb, hml, hown, hts⟩
  obtain ⟨α, β, π, κ, η, ς, ρ, ϖ, σ, τ, R, S, o, n, ν, μ, rfl, rfl, hR, hH, hSI, hPI⟩ := hLI
  have hfr : cells ≤ room_1.cells ∧ slots ≤ room_1.slots := ⟨show cells ≤ 600000 from by omega, show slots ≤ 7302250 from by omega⟩
  have hfn : cells + 6 ≤ room_1.cells ∧ slots + 818 ≤ room_1.slots := ⟨hf1, hf2⟩
  obtain ⟨x1, e1⟩ : ∃ x, xs (nI j + 1).toNatClampNeg = x := ⟨_, rfl⟩
  obtain ⟨x2, e2⟩ : ∃ x, xs (nI j + 2).toNatClampNeg = x := ⟨_, rfl⟩
  have v1 : vp_in (nI j + 1) L := vin (k := 1) hL (by omega) 1 rfl
  have v2 : vp_in (nI j + 2) L := vin (k := 2) hL (by omega) 2 rfl
  have hin0 := newD.2
  obtain ⟨⟨c1, c2, c3, c4⟩, k5⟩ := p_set (α := α) hR hH ρ ϖ τ (ringOf R, nI o, nI n) x1 x2
  refine lv_aload_n hx hb dL_law_128 rfl (lv_at hl 1 rfl) ?_
  refine ldA hx hb hX hbl hbA hS hl 1 1 (by decide) v1 e1 dL_law_129 dL_law_130 dL_law_131 dL_law_132 dL_law_133 ?_
  refine ldA hx hb hX hbl hbA hS hl 2 2 (by decide) v2 e2 dL_law_134 dL_law_135 dL_law_136 dL_law_137 dL_law_138 ?_
  refine nwVP (As := [.int x1, .int x2]) (rest := []) (c_X4_set l G γ κ π α β η ς ρ ϖ σ τ (ringOf R) o n x1 x2 tb hH.1 hH.2.1 hin0) sT.blind hF (cwV 2 hts gL_law_X4_set rfl rfl rfl (by decide +kernel) ⟨Nat.le_of_ble_eq_true rfl, Nat.le_of_ble_eq_true rfl⟩) (va_recv hK.1 hP (ci := 4) (q0 := 0) rfl rfl) hK hP hD hS hA pqB (fun U hU hW hF => hT.to hS hF hU hW) rfl hl.1 rfl (Nat.le_of_ble_eq_true rfl) dL_law_139 hfn (fun w1 H locs hB hP hD hS => ?_)
  obtain ⟨WC, ew, hLI⟩ := LI_ch (R := R) (S := S) (ν := ν) (μ := μ) (μ' := (s_X5_set μ x1 x2).2) hB pqM c3 c4 (hSI.mv c2) (hPI.mv c2)
  have hP := hP.perm ew
  have hD := hD.perm ew
  refine lv_aload_n hx hb dL_law_142 rfl (lv_at hl 2 rfl) ?_
  refine ldA hx hb hX hbl hbA hS hl 1 1 (by decide) v1 e1 dL_law_143 dL_law_144 dL_law_145 dL_law_146 dL_law_147 ?_
  refine ldA hx hb hX hbl hbA hS hl 2 2 (by decide) v2 e2 dL_law_148 dL_law_149 dL_law_150 dL_law_151 dL_law_152 ?_
  refine wrVR (As := [.int x1, .int x2]) (rest := [.int (s_X4_set ρ ϖ σ τ (ringOf R, nI o, nI n) x1 x2).1]) (c_X5_set l G ν μ x1 x2 k5) hF (cwV 2 hts gL_law_X5_set rfl rfl rfl (by decide +kernel) ⟨Nat.le_of_ble_eq_true rfl, Nat.le_of_ble_eq_true rfl⟩) (va_recv hK.1 (va_PR hP) (ci := 5) (q0 := 0) rfl rfl) hK hP hD hS (fst_M _ _) rfl hl.1 rfl (Nat.le_of_ble_eq_true rfl) dL_law_153 hfn (fun H locs hP hD hS => ?_)
  refine lv_icmp_eq (tgt := 686) hx hb dL_law_156 (by decide) (fun _ => ?_) (fun h9 => absurd c1.symm h9)
  exact kk _ _ _ hLI hP hD hS
set_option maxHeartbeats 4000000 in
set_option maxRecDepth 100000 in
theorem cs_write {p : Program} {e : Env} {s : State} {m : MethodId} {below : List Frame} {meth : Method} {c : Code} {H : Heap} {locs : List Loc} {cells slots : Nat} {Q : State → Prop} {b L j γ μ0 : Nat} {xs : Nat → Int32} {A : Nat → Prop} {ls : Array Slot} {W0 : va_W} {tb : Nat × Nat × Nat} (l : Launch) (G : GG) (C0 : lw_At p s m meth c b L xs) (hK : cK G s) (hT : sT tb A s) (hA : ∀ q, s.heap.size ≤ q → A q) (hbA : ¬ A b) (hL : L ≤ 1536) (hj : j + 3 ≤ L) (hLI : LIw G γ μ0 W0) (hP : va_P G.1 vwCl W0 H) (hD : va_D A W0) (hS : va_S A s.heap H locs) (hf1 : cells + 6 ≤ 600000) (hf2 : slots + 818 ≤ 7302250) (hl : lv_has ls 4 [(0, .ref b), (1, .ref γ), (2, .ref μ0), (3, .int (nI j))])
    (kk : ∀ (W1 : va_W) (H1 : Heap) (locs1 : List Loc), LIw G γ μ0 W1 → va_P G.1 vwCl W1 H1 → va_D A W1 → va_S A s.heap H1 locs1 → W p l e room_1 s m #[.ref b] below meth c H1 locs1 (cells + 6) (slots + 818) Q (F0 m 686 ls [])) : W p l e room_1 s m #[.ref b] below meth c H locs cells slots Q (F0 m 161 ls []) := by
  obtain ⟨hx, hb, hr, hml, hown, hts, hX, hbl, hlocks, hgv⟩ := id C0
  have hF : CallFix p m c cL_law 4 s #[.ref b] lw_tbl RL := ⟨hx, hb, hml, hown, hts⟩
  obtain ⟨α, β, π, κ, η, ς, ρ, ϖ, σ, τ, R, S, o, n, ν, μ, rfl, rfl, hR, hH, hSI, hPI⟩ := hLI
  have hfr : cells ≤ room_1.cells ∧ slots ≤ room_1.slots := ⟨show cells ≤ 600000 from by omega, show slots ≤ 7302250 from by omega⟩
  have hfn : cells + 6 ≤ room_1.cells ∧ slots + 818 ≤ room_1.slots := ⟨hf1, hf2⟩
  obtain ⟨x1, e1⟩ : ∃ x, xs (nI j + 1).toNatClampNeg = x := ⟨_, rfl⟩
  obtain ⟨x2, e2⟩ : ∃ x, xs (nI j + 2).toNatClampNeg = x := ⟨_, rfl⟩
  have v1 : vp_in (nI j + 1) L := vin (k := 1) hL (by omega) 1 rfl
  have v2 : vp_in (nI j + 2) L := vin (k := 2) hL (by omega) 2 rfl
  have hin0 := newD.2
  obtain ⟨⟨c1, c2, c3, c4⟩, k5⟩ := p_write (α := α) hR hH ρ ϖ τ (ringOf R, nI o, nI n) x1 x2
  refine lv_aload_n hx hb dL_law_161 rfl (lv_at hl 1 rfl) ?_
  refine ldA hx hb hX hbl hbA hS hl 1 1 (by decide) v1 e1 dL_law_162 dL_law_163 dL_law_164 dL_law_165 dL_law_166 ?_
  refine ldA hx hb hX hbl hbA hS hl 2 2 (by decide) v2 e2 dL_law_167 dL_law_168 dL_law_169 dL_law_170 dL_law_171 ?_
  refine nwVP (As := [.int x1, .int x2]) (rest := []) (c_X4_write l G γ κ π α β η ς ρ ϖ σ τ (ringOf R) o n x1 x2 tb hH.1 hH.2.1 hin0) sT.blind hF (cwV 2 hts gL_law_X4_write rfl rfl rfl (by decide +kernel) ⟨Nat.le_of_ble_eq_true rfl, Nat.le_of_ble_eq_true rfl⟩) (va_recv hK.1 hP (ci := 4) (q0 := 0) rfl rfl) hK hP hD hS hA pqB (fun U hU hW hF => hT.to hS hF hU hW) rfl hl.1 rfl (Nat.le_of_ble_eq_true rfl) dL_law_172 hfn (fun w1 H locs hB hP hD hS => ?_)
  obtain ⟨WC, ew, hLI⟩ := LI_ch (R := R) (S := S) (ν := ν) (μ := μ) (μ' := (s_X5_write μ x1 x2).2) hB pqM c3 c4 (hSI.mv c2) (hPI.mv c2)
  have hP := hP.perm ew
  have hD := hD.perm ew
  refine lv_aload_n hx hb dL_law_175 rfl (lv_at hl 2 rfl) ?_
  refine ldA hx hb hX hbl hbA hS hl 1 1 (by decide) v1 e1 dL_law_176 dL_law_177 dL_law_178 dL_law_179 dL_law_180 ?_
  refine ldA hx hb hX hbl hbA hS hl 2 2 (by decide) v2 e2 dL_law_181 dL_law_182 dL_law_183 dL_law_184 dL_law_185 ?_
  refine wrVR (As := [.int x1, .int x2]) (rest := [.int (s_X4_write ρ ϖ σ τ (ringOf R, nI o, nI n) x1 x2).1]) (c_X5_write l G ν μ x1 x2 k5) hF (cwV 2 hts gL_law_X5_write rfl rfl rfl (by decide +kernel) ⟨Nat.le_of_ble_eq_true rfl, Nat.le_of_ble_eq_true rfl⟩) (va_recv hK.1 (va_PR hP) (ci := 5) (q0 := 0) rfl rfl) hK hP hD hS (fst_M _ _) rfl hl.1 rfl (Nat.le_of_ble_eq_true rfl) dL_law_186 hfn (fun H locs hP hD hS => ?_)
  refine lv_icmp_eq (tgt := 686) hx hb dL_law_189 (by decide) (fun _ => ?_) (fun h9 => absurd c1.symm h9)
  exact kk _ _ _ hLI hP hD hS
set_option maxHeartbeats 4000000 in
set_option maxRecDepth 100000 in
theorem cs_read {p : Program} {e : Env} {s : State} {m : MethodId} {below : List Frame} {meth : Method} {c : Code} {H : Heap} {locs : List Loc} {cells slots : Nat} {Q : State → Prop} {b L j γ μ0 : Nat} {xs : Nat → Int32} {A : Nat → Prop} {ls : Array Slot} {W0 : va_W} {tb : Nat × Nat × Nat} (l : Launch) (G : GG) (C0 : lw_At p s m meth c b L xs) (hK : cK G s) (hT : sT tb A s) (hA : ∀ q, s.heap.size ≤ q → A q) (hbA : ¬ A b) (hL : L ≤ 1536) (hj : j + 3 ≤ L) (hLI : LIw G γ μ0 W0) (hP : va_P G.1 vwCl W0 H) (hD : va_D A W0) (hS : va_S A s.heap H locs) (hf1 : cells + 6 ≤ 600000) (hf2 : slots + 818 ≤ 7302250) (hl : lv_has ls 4 [(0, .ref b), (1, .ref γ), (2, .ref μ0), (3, .int (nI j))])
    (kk : ∀ (W1 : va_W) (H1 : Heap) (locs1 : List Loc), LIw G γ μ0 W1 → va_P G.1 vwCl W1 H1 → va_D A W1 → va_S A s.heap H1 locs1 → W p l e room_1 s m #[.ref b] below meth c H1 locs1 (cells + 6) (slots + 818) Q (F0 m 686 ls [])) : W p l e room_1 s m #[.ref b] below meth c H locs cells slots Q (F0 m 194 ls []) := by
  obtain ⟨hx, hb, hr, hml, hown, hts, hX, hbl, hlocks, hgv⟩ := id C0
  have hF : CallFix p m c cL_law 4 s #[.ref b] lw_tbl RL := ⟨hx, hb, hml, hown, hts⟩
  obtain ⟨α, β, π, κ, η, ς, ρ, ϖ, σ, τ, R, S, o, n, ν, μ, rfl, rfl, hR, hH, hSI, hPI⟩ := hLI
  have hfr : cells ≤ room_1.cells ∧ slots ≤ room_1.slots := ⟨show cells ≤ 600000 from by omega, show slots ≤ 7302250 from by omega⟩
  have hfn : cells + 6 ≤ room_1.cells ∧ slots + 818 ≤ room_1.slots := ⟨hf1, hf2⟩
  obtain ⟨x1, e1⟩ : ∃ x, xs (nI j + 1).toNatClampNeg = x := ⟨_, rfl⟩
  obtain ⟨x2, e2⟩ : ∃ x, xs (nI j + 2).toNatClampNeg = x := ⟨_, rfl⟩
  have v1 : vp_in (nI j + 1) L := vin (k := 1) hL (by omega) 1 rfl
  have v2 : vp_in (nI j + 2) L := vin (k := 2) hL (by omega) 2 rfl
  have hin0 := newD.2
  obtain ⟨⟨c1, c2, c3, c4⟩, k5⟩ := p_read (α := α) hR hH ρ ϖ τ (ringOf R, nI o, nI n) x1
  refine lv_aload_n hx hb dL_law_194 rfl (lv_at hl 1 rfl) ?_
  refine ldA hx hb hX hbl hbA hS hl 1 1 (by decide) v1 e1 dL_law_195 dL_law_196 dL_law_197 dL_law_198 dL_law_199 ?_
  refine nwVP (As := [.int x1]) (rest := []) (c_X4_read l G γ κ π α β η ς ρ ϖ σ τ (ringOf R) o n x1 tb hH.1 hH.2.1 hin0) sT.blind hF (cwV 1 hts gL_law_X4_read rfl rfl rfl (by decide +kernel) ⟨Nat.le_of_ble_eq_true rfl, Nat.le_of_ble_eq_true rfl⟩) (va_recv hK.1 hP (ci := 4) (q0 := 0) rfl rfl) hK hP hD hS hA pqB (fun U hU hW hF => hT.to hS hF hU hW) rfl hl.1 rfl (Nat.le_of_ble_eq_true rfl) dL_law_200 hfn (fun w1 H locs hB hP hD hS => ?_)
  obtain ⟨WC, ew, hLI⟩ := LI_ch (R := R) (S := S) (ν := ν) (μ := μ) (μ' := (s_X5_read μ x1).2) hB pqM c3 c4 (hSI.mv c2) (hPI.mv c2)
  have hP := hP.perm ew
  have hD := hD.perm ew
  refine lv_aload_n hx hb dL_law_203 rfl (lv_at hl 2 rfl) ?_
  refine ldA hx hb hX hbl hbA hS hl 1 1 (by decide) v1 e1 dL_law_204 dL_law_205 dL_law_206 dL_law_207 dL_law_208 ?_
  refine wrVR (As := [.int x1]) (rest := [.int (s_X4_read ρ ϖ σ τ (ringOf R, nI o, nI n) x1).1]) (c_X5_read l G ν μ x1 k5) hF (cwV 1 hts gL_law_X5_read rfl rfl rfl (by decide +kernel) ⟨Nat.le_of_ble_eq_true rfl, Nat.le_of_ble_eq_true rfl⟩) (va_recv hK.1 (va_PR hP) (ci := 5) (q0 := 0) rfl rfl) hK hP hD hS (fst_M _ _) rfl hl.1 rfl (Nat.le_of_ble_eq_true rfl) dL_law_209 hfn (fun H locs hP hD hS => ?_)
  refine lv_icmp_eq (tgt := 686) hx hb dL_law_212 (by decide) (fun _ => ?_) (fun h9 => absurd c1.symm h9)
  exact kk _ _ _ hLI hP hD hS
set_option maxHeartbeats 4000000 in
set_option maxRecDepth 100000 in
theorem cs_refresh {p : Program} {e : Env} {s : State} {m : MethodId} {below : List Frame} {meth : Method} {c : Code} {H : Heap} {locs : List Loc} {cells slots : Nat} {Q : State → Prop} {b L j γ μ0 : Nat} {xs : Nat → Int32} {A : Nat → Prop} {ls : Array Slot} {W0 : va_W} {tb : Nat × Nat × Nat} (l : Launch) (G : GG) (C0 : lw_At p s m meth c b L xs) (hK : cK G s) (hT : sT tb A s) (hA : ∀ q, s.heap.size ≤ q → A q) (hbA : ¬ A b) (hL : L ≤ 1536) (hj : j + 3 ≤ L) (hLI : LIw G γ μ0 W0) (hP : va_P G.1 vwCl W0 H) (hD : va_D A W0) (hS : va_S A s.heap H locs) (hf1 : cells + 6 ≤ 600000) (hf2 : slots + 818 ≤ 7302250) (hl : lv_has ls 4 [(0, .ref b), (1, .ref γ), (2, .ref μ0), (3, .int (nI j))])
    (kk : ∀ (W1 : va_W) (H1 : Heap) (locs1 : List Loc), LIw G γ μ0 W1 → va_P G.1 vwCl W1 H1 → va_D A W1 → va_S A s.heap H1 locs1 → W p l e room_1 s m #[.ref b] below meth c H1 locs1 (cells + 6) (slots + 818) Q (F0 m 686 ls [])) : W p l e room_1 s m #[.ref b] below meth c H locs cells slots Q (F0 m 217 ls []) := by
  obtain ⟨hx, hb, hr, hml, hown, hts, hX, hbl, hlocks, hgv⟩ := id C0
  have hF : CallFix p m c cL_law 4 s #[.ref b] lw_tbl RL := ⟨hx, hb, hml, hown, hts⟩
  obtain ⟨α, β, π, κ, η, ς, ρ, ϖ, σ, τ, R, S, o, n, ν, μ, rfl, rfl, hR, hH, hSI, hPI⟩ := hLI
  have hfr : cells ≤ room_1.cells ∧ slots ≤ room_1.slots := ⟨show cells ≤ 600000 from by omega, show slots ≤ 7302250 from by omega⟩
  have hfn : cells + 6 ≤ room_1.cells ∧ slots + 818 ≤ room_1.slots := ⟨hf1, hf2⟩
  obtain ⟨x1, e1⟩ : ∃ x, xs (nI j + 1).toNatClampNeg = x := ⟨_, rfl⟩
  obtain ⟨x2, e2⟩ : ∃ x, xs (nI j + 2).toNatClampNeg = x := ⟨_, rfl⟩
  have v1 : vp_in (nI j + 1) L := vin (k := 1) hL (by omega) 1 rfl
  have v2 : vp_in (nI j + 2) L := vin (k := 2) hL (by omega) 2 rfl
  have hin0 := newD.2
  obtain ⟨⟨c1, c2, c3, c4⟩, k5⟩ := p_refresh (α := α) hR hH ρ ϖ τ (ringOf R, nI o, nI n) x1
  refine lv_aload_n hx hb dL_law_217 rfl (lv_at hl 1 rfl) ?_
  refine ldA hx hb hX hbl hbA hS hl 1 1 (by decide) v1 e1 dL_law_218 dL_law_219 dL_law_220 dL_law_221 dL_law_222 ?_
  refine nwVP (As := [.int x1]) (rest := []) (c_X4_refresh l G γ κ π α β η ς ρ ϖ σ τ (ringOf R) o n x1 tb hH.1 hH.2.1 hin0) sT.blind hF (cwV 1 hts gL_law_X4_refresh rfl rfl rfl (by decide +kernel) ⟨Nat.le_of_ble_eq_true rfl, Nat.le_of_ble_eq_true rfl⟩) (va_recv hK.1 hP (ci := 4) (q0 := 0) rfl rfl) hK hP hD hS hA pqB (fun U hU hW hF => hT.to hS hF hU hW) rfl hl.1 rfl (Nat.le_of_ble_eq_true rfl) dL_law_223 hfn (fun w1 H locs hB hP hD hS => ?_)
  obtain ⟨WC, ew, hLI⟩ := LI_ch (R := R) (S := S) (ν := ν) (μ := μ) (μ' := (s_X5_refresh μ x1).2) hB pqM c3 c4 (hSI.mv c2) (hPI.mv c2)
  have hP := hP.perm ew
  have hD := hD.perm ew
  refine lv_aload_n hx hb dL_law_226 rfl (lv_at hl 2 rfl) ?_
  refine ldA hx hb hX hbl hbA hS hl 1 1 (by decide) v1 e1 dL_law_227 dL_law_228 dL_law_229 dL_law_230 dL_law_231 ?_
  refine wrVR (As := [.int x1]) (rest := [.int (s_X4_refresh ρ ϖ σ τ (ringOf R, nI o, nI n) x1).1]) (c_X5_refresh l G ν μ x1 k5) hF (cwV 1 hts gL_law_X5_refresh rfl rfl rfl (by decide +kernel) ⟨Nat.le_of_ble_eq_true rfl, Nat.le_of_ble_eq_true rfl⟩) (va_recv hK.1 (va_PR hP) (ci := 5) (q0 := 0) rfl rfl) hK hP hD hS (fst_M _ _) rfl hl.1 rfl (Nat.le_of_ble_eq_true rfl) dL_law_232 hfn (fun H locs hP hD hS => ?_)
  refine lv_icmp_eq (tgt := 686) hx hb dL_law_235 (by decide) (fun _ => ?_) (fun h9 => absurd c1.symm h9)
  exact kk _ _ _ hLI hP hD hS
set_option maxHeartbeats 4000000 in
set_option maxRecDepth 100000 in
theorem cs_seek {p : Program} {e : Env} {s : State} {m : MethodId} {below : List Frame} {meth : Method} {c : Code} {H : Heap} {locs : List Loc} {cells slots : Nat} {Q : State → Prop} {b L j γ μ0 : Nat} {xs : Nat → Int32} {A : Nat → Prop} {ls : Array Slot} {W0 : va_W} {tb : Nat × Nat × Nat} (l : Launch) (G : GG) (C0 : lw_At p s m meth c b L xs) (hK : cK G s) (hT : sT tb A s) (hA : ∀ q, s.heap.size ≤ q → A q) (hbA : ¬ A b) (hL : L ≤ 1536) (hj : j + 3 ≤ L) (hLI : LIw G γ μ0 W0) (hP : va_P G.1 vwCl W0 H) (hD : va_D A W0) (hS : va_S A s.heap H locs) (hf1 : cells + 6 ≤ 600000) (hf2 : slots + 818 ≤ 7302250) (hl : lv_has ls 4 [(0, .ref b), (1, .ref γ), (2, .ref μ0), (3, .int (nI j))])
    (kk : ∀ (W1 : va_W) (H1 : Heap) (locs1 : List Loc), LIw G γ μ0 W1 → va_P G.1 vwCl W1 H1 → va_D A W1 → va_S A s.heap H1 locs1 → W p l e room_1 s m #[.ref b] below meth c H1 locs1 (cells + 6) (slots + 818) Q (F0 m 686 ls [])) : W p l e room_1 s m #[.ref b] below meth c H locs cells slots Q (F0 m 240 ls []) := by
  obtain ⟨hx, hb, hr, hml, hown, hts, hX, hbl, hlocks, hgv⟩ := id C0
  have hF : CallFix p m c cL_law 4 s #[.ref b] lw_tbl RL := ⟨hx, hb, hml, hown, hts⟩
  obtain ⟨α, β, π, κ, η, ς, ρ, ϖ, σ, τ, R, S, o, n, ν, μ, rfl, rfl, hR, hH, hSI, hPI⟩ := hLI
  have hfr : cells ≤ room_1.cells ∧ slots ≤ room_1.slots := ⟨show cells ≤ 600000 from by omega, show slots ≤ 7302250 from by omega⟩
  have hfn : cells + 6 ≤ room_1.cells ∧ slots + 818 ≤ room_1.slots := ⟨hf1, hf2⟩
  obtain ⟨x1, e1⟩ : ∃ x, xs (nI j + 1).toNatClampNeg = x := ⟨_, rfl⟩
  obtain ⟨x2, e2⟩ : ∃ x, xs (nI j + 2).toNatClampNeg = x := ⟨_, rfl⟩
  have v1 : vp_in (nI j + 1) L := vin (k := 1) hL (by omega) 1 rfl
  have v2 : vp_in (nI j + 2) L := vin (k := 2) hL (by omega) 2 rfl
  have hin0 := newD.2
  obtain ⟨⟨c1, c2, c3, c4⟩, k5⟩ := p_seek (α := α) hR hH ρ ϖ τ (ringOf R, nI o, nI n) x1
  refine lv_aload_n hx hb dL_law_240 rfl (lv_at hl 1 rfl) ?_
  refine ldA hx hb hX hbl hbA hS hl 1 1 (by decide) v1 e1 dL_law_241 dL_law_242 dL_law_243 dL_law_244 dL_law_245 ?_
  refine nwVP (As := [.int x1]) (rest := []) (c_X4_seek l G γ κ π α β η ς ρ ϖ σ τ (ringOf R) o n x1 tb hH.1 hH.2.1 hin0) sT.blind hF (cwV 1 hts gL_law_X4_seek rfl rfl rfl (by decide +kernel) ⟨Nat.le_of_ble_eq_true rfl, Nat.le_of_ble_eq_true rfl⟩) (va_recv hK.1 hP (ci := 4) (q0 := 0) rfl rfl) hK hP hD hS hA pqB (fun U hU hW hF => hT.to hS hF hU hW) rfl hl.1 rfl (Nat.le_of_ble_eq_true rfl) dL_law_246 hfn (fun w1 H locs hB hP hD hS => ?_)
  obtain ⟨WC, ew, hLI⟩ := LI_ch (R := R) (S := S) (ν := ν) (μ := μ) (μ' := (s_X5_seek μ x1).2) hB pqM c3 c4 (hSI.mv c2) (hPI.mv c2)
  have hP := hP.perm ew
  have hD := hD.perm ew
  refine lv_aload_n hx hb dL_law_249 rfl (lv_at hl 2 rfl) ?_
  refine ldA hx hb hX hbl hbA hS hl 1 1 (by decide) v1 e1 dL_law_250 dL_law_251 dL_law_252 dL_law_253 dL_law_254 ?_
  refine wrVR (As := [.int x1]) (rest := [.int (s_X4_seek ρ ϖ σ τ (ringOf R, nI o, nI n) x1).1]) (c_X5_seek l G ν μ x1 k5) hF (cwV 1 hts gL_law_X5_seek rfl rfl rfl (by decide +kernel) ⟨Nat.le_of_ble_eq_true rfl, Nat.le_of_ble_eq_true rfl⟩) (va_recv hK.1 (va_PR hP) (ci := 5) (q0 := 0) rfl rfl) hK hP hD hS (fst_M _ _) rfl hl.1 rfl (Nat.le_of_ble_eq_true rfl) dL_law_255 hfn (fun H locs hP hD hS => ?_)
  refine lv_icmp_eq (tgt := 686) hx hb dL_law_258 (by decide) (fun _ => ?_) (fun h9 => absurd c1.symm h9)
  exact kk _ _ _ hLI hP hD hS
set_option maxHeartbeats 4000000 in
set_option maxRecDepth 100000 in
theorem cs_idle {p : Program} {e : Env} {s : State} {m : MethodId} {below : List Frame} {meth : Method} {c : Code} {H : Heap} {locs : List Loc} {cells slots : Nat} {Q : State → Prop} {b L j γ μ0 : Nat} {xs : Nat → Int32} {A : Nat → Prop} {ls : Array Slot} {W0 : va_W} {tb : Nat × Nat × Nat} (l : Launch) (G : GG) (C0 : lw_At p s m meth c b L xs) (hK : cK G s) (hT : sT tb A s) (hA : ∀ q, s.heap.size ≤ q → A q) (hbA : ¬ A b) (hL : L ≤ 1536) (hj : j + 3 ≤ L) (hLI : LIw G γ μ0 W0) (hP : va_P G.1 vwCl W0 H) (hD : va_D A W0) (hS : va_S A s.heap H locs) (hf1 : cells + 6 ≤ 600000) (hf2 : slots + 818 ≤ 7302250) (hl : lv_has ls 4 [(0, .ref b), (1, .ref γ), (2, .ref μ0), (3, .int (nI j))])
    (kk : ∀ (W1 : va_W) (H1 : Heap) (locs1 : List Loc), LIw G γ μ0 W1 → va_P G.1 vwCl W1 H1 → va_D A W1 → va_S A s.heap H1 locs1 → W p l e room_1 s m #[.ref b] below meth c H1 locs1 (cells + 6) (slots + 818) Q (F0 m 686 ls [])) : W p l e room_1 s m #[.ref b] below meth c H locs cells slots Q (F0 m 263 ls []) := by
  obtain ⟨hx, hb, hr, hml, hown, hts, hX, hbl, hlocks, hgv⟩ := id C0
  have hF : CallFix p m c cL_law 4 s #[.ref b] lw_tbl RL := ⟨hx, hb, hml, hown, hts⟩
  obtain ⟨α, β, π, κ, η, ς, ρ, ϖ, σ, τ, R, S, o, n, ν, μ, rfl, rfl, hR, hH, hSI, hPI⟩ := hLI
  have hfr : cells ≤ room_1.cells ∧ slots ≤ room_1.slots := ⟨show cells ≤ 600000 from by omega, show slots ≤ 7302250 from by omega⟩
  have hfn : cells + 6 ≤ room_1.cells ∧ slots + 818 ≤ room_1.slots := ⟨hf1, hf2⟩
  obtain ⟨x1, e1⟩ : ∃ x, xs (nI j + 1).toNatClampNeg = x := ⟨_, rfl⟩
  obtain ⟨x2, e2⟩ : ∃ x, xs (nI j + 2).toNatClampNeg = x := ⟨_, rfl⟩
  have v1 : vp_in (nI j + 1) L := vin (k := 1) hL (by omega) 1 rfl
  have v2 : vp_in (nI j + 2) L := vin (k := 2) hL (by omega) 2 rfl
  have hin0 := newD.2
  obtain ⟨⟨c1, c2, c3, c4⟩, k5⟩ := p_idle (α := α) hR hH ρ ϖ τ (ringOf R, nI o, nI n) x1
  refine lv_aload_n hx hb dL_law_263 rfl (lv_at hl 1 rfl) ?_
  refine ldA hx hb hX hbl hbA hS hl 1 1 (by decide) v1 e1 dL_law_264 dL_law_265 dL_law_266 dL_law_267 dL_law_268 ?_
  refine nwVP (As := [.int x1]) (rest := []) (c_X4_idle l G γ κ π α β η ς ρ ϖ σ τ (ringOf R) o n x1 tb hH.1 hH.2.1 hin0) sT.blind hF (cwV 1 hts gL_law_X4_idle rfl rfl rfl (by decide +kernel) ⟨Nat.le_of_ble_eq_true rfl, Nat.le_of_ble_eq_true rfl⟩) (va_recv hK.1 hP (ci := 4) (q0 := 0) rfl rfl) hK hP hD hS hA pqB (fun U hU hW hF => hT.to hS hF hU hW) rfl hl.1 rfl (Nat.le_of_ble_eq_true rfl) dL_law_269 hfn (fun w1 H locs hB hP hD hS => ?_)
  obtain ⟨WC, ew, hLI⟩ := LI_ch (R := R) (S := S) (ν := ν) (μ := μ) (μ' := (s_X5_idle μ x1).2) hB pqM c3 c4 (hSI.mv c2) (hPI.mv c2)
  have hP := hP.perm ew
  have hD := hD.perm ew
  refine lv_aload_n hx hb dL_law_272 rfl (lv_at hl 2 rfl) ?_
  refine ldA hx hb hX hbl hbA hS hl 1 1 (by decide) v1 e1 dL_law_273 dL_law_274 dL_law_275 dL_law_276 dL_law_277 ?_
  refine wrVR (As := [.int x1]) (rest := [.int (s_X4_idle ρ ϖ σ τ (ringOf R, nI o, nI n) x1).1]) (c_X5_idle l G ν μ x1 k5) hF (cwV 1 hts gL_law_X5_idle rfl rfl rfl (by decide +kernel) ⟨Nat.le_of_ble_eq_true rfl, Nat.le_of_ble_eq_true rfl⟩) (va_recv hK.1 (va_PR hP) (ci := 5) (q0 := 0) rfl rfl) hK hP hD hS (fst_M _ _) rfl hl.1 rfl (Nat.le_of_ble_eq_true rfl) dL_law_278 hfn (fun H locs hP hD hS => ?_)
  refine lv_icmp_eq (tgt := 686) hx hb dL_law_281 (by decide) (fun _ => ?_) (fun h9 => absurd c1.symm h9)
  exact kk _ _ _ hLI hP hD hS
set_option maxHeartbeats 4000000 in
set_option maxRecDepth 100000 in
theorem cs_run {p : Program} {e : Env} {s : State} {m : MethodId} {below : List Frame} {meth : Method} {c : Code} {H : Heap} {locs : List Loc} {cells slots : Nat} {Q : State → Prop} {b L j γ μ0 : Nat} {xs : Nat → Int32} {A : Nat → Prop} {ls : Array Slot} {W0 : va_W} {tb : Nat × Nat × Nat} (l : Launch) (G : GG) (C0 : lw_At p s m meth c b L xs) (hK : cK G s) (hT : sT tb A s) (hA : ∀ q, s.heap.size ≤ q → A q) (hbA : ¬ A b) (hL : L ≤ 1536) (hj : j + 3 ≤ L) (hLI : LIw G γ μ0 W0) (hP : va_P G.1 vwCl W0 H) (hD : va_D A W0) (hS : va_S A s.heap H locs) (hf1 : cells + 6 ≤ 600000) (hf2 : slots + 818 ≤ 7302250) (hl : lv_has ls 4 [(0, .ref b), (1, .ref γ), (2, .ref μ0), (3, .int (nI j))])
    (kk : ∀ (W1 : va_W) (H1 : Heap) (locs1 : List Loc), LIw G γ μ0 W1 → va_P G.1 vwCl W1 H1 → va_D A W1 → va_S A s.heap H1 locs1 → W p l e room_1 s m #[.ref b] below meth c H1 locs1 (cells + 6) (slots + 818) Q (F0 m 686 ls [])) : W p l e room_1 s m #[.ref b] below meth c H locs cells slots Q (F0 m 286 ls []) := by
  obtain ⟨hx, hb, hr, hml, hown, hts, hX, hbl, hlocks, hgv⟩ := id C0
  have hF : CallFix p m c cL_law 4 s #[.ref b] lw_tbl RL := ⟨hx, hb, hml, hown, hts⟩
  obtain ⟨α, β, π, κ, η, ς, ρ, ϖ, σ, τ, R, S, o, n, ν, μ, rfl, rfl, hR, hH, hSI, hPI⟩ := hLI
  have hfr : cells ≤ room_1.cells ∧ slots ≤ room_1.slots := ⟨show cells ≤ 600000 from by omega, show slots ≤ 7302250 from by omega⟩
  have hfn : cells + 6 ≤ room_1.cells ∧ slots + 818 ≤ room_1.slots := ⟨hf1, hf2⟩
  obtain ⟨x1, e1⟩ : ∃ x, xs (nI j + 1).toNatClampNeg = x := ⟨_, rfl⟩
  obtain ⟨x2, e2⟩ : ∃ x, xs (nI j + 2).toNatClampNeg = x := ⟨_, rfl⟩
  have v1 : vp_in (nI j + 1) L := vin (k := 1) hL (by omega) 1 rfl
  have v2 : vp_in (nI j + 2) L := vin (k := 2) hL (by omega) 2 rfl
  have hin0 := newD.2
  obtain ⟨c1, cP, s1, s2, c3, c4, k5, k4⟩ := p_run (α := α) hR hH hPI ρ τ (ringOf R, nI o, nI n) (bz x1)
  refine lv_aload_n hx hb dL_law_286 rfl (lv_at hl 1 rfl) ?_
  refine ldA hx hb hX hbl hbA hS hl 1 1 (by decide) v1 e1 dL_law_287 dL_law_288 dL_law_289 dL_law_290 dL_law_291 ?_
  refine boolA hx hb dL_law_292 dL_law_295 dL_law_296 dL_law_299 ?_
  refine nwVP (As := [.int (bz x1)]) (rest := []) (c_X4_run l G γ κ π α β η ς ρ ϖ σ τ (ringOf R) o n (bz x1) tb hH.1 hH.2.1 hin0 k4) sT.blind hF (cwV 1 hts gL_law_X4_run rfl rfl rfl (by decide +kernel) ⟨Nat.le_of_ble_eq_true rfl, Nat.le_of_ble_eq_true rfl⟩) (va_recv hK.1 hP (ci := 4) (q0 := 0) rfl rfl) hK hP hD hS hA pqB (fun U hU hW hF => hT.to hS hF hU hW) rfl hl.1 rfl (Nat.le_of_ble_eq_true rfl) dL_law_300 hfn (fun w1 H locs hB hP hD hS => ?_)
  obtain ⟨WC, ew, hLI⟩ := LI_ch (R := R) (S := S) (ν := ν) (μ := μ) (μ' := (s_X5_run μ (bz x1)).2) hB pqM c3 c4 (hSI.of s1 s2) cP
  have hP := hP.perm ew
  have hD := hD.perm ew
  refine lv_aload_n hx hb dL_law_303 rfl (lv_at hl 2 rfl) ?_
  refine ldA hx hb hX hbl hbA hS hl 1 1 (by decide) v1 e1 dL_law_304 dL_law_305 dL_law_306 dL_law_307 dL_law_308 ?_
  refine boolA hx hb dL_law_309 dL_law_312 dL_law_313 dL_law_316 ?_
  refine wrVR (As := [.int (bz x1)]) (rest := [.int (s_X4_run ρ ϖ σ τ (ringOf R, nI o, nI n) (bz x1)).1]) (c_X5_run l G ν μ (bz x1) k5) hF (cwV 1 hts gL_law_X5_run rfl rfl rfl (by decide +kernel) ⟨Nat.le_of_ble_eq_true rfl, Nat.le_of_ble_eq_true rfl⟩) (va_recv hK.1 (va_PR hP) (ci := 5) (q0 := 0) rfl rfl) hK hP hD hS (fst_M _ _) rfl hl.1 rfl (Nat.le_of_ble_eq_true rfl) dL_law_317 hfn (fun H locs hP hD hS => ?_)
  refine lv_icmp_eq (tgt := 686) hx hb dL_law_320 (by decide) (fun _ => ?_) (fun h9 => absurd c1.symm h9)
  exact kk _ _ _ hLI hP hD hS
