/-! isStep -/
set_option maxHeartbeats 4000000 in
set_option maxRecDepth 100000 in
theorem c_L_isStep (l : Launch) (G : GG) (tb : Nat × Nat × Nat) {γ γ' : Nat} (x y : Int32) {σ : DS} {ϖ ϖ' : PS} {sl : Nat → Option DS} {W0 W1 : va_W} {K : Nat} (hI : OI G γ (σ, ϖ, sl) W0) (hI' : OI G γ' (σ, ϖ', sl) W1) (hpl : p_le ϖ' = 0) (hDv : Dv K σ) (hsl : ∀ k υ, sl k = some υ → Dv K υ) (hK9 : K + 10000 ≤ 9999999) : Nw G l yL_isStep wsL_isStep 9 210 18 2454 [.ref γ, .ref γ', .int x, .int y] (W0 ++ W1) (sT tb) (some (.int 1)) (PW2 G γ γ' (K + 10000)) := by
  intro sz
  refine Met.ofW (cc := cL_isStep) (maxL := 11) (ret := (some .boolean)) (by decide) rfl ?_
  intro p e s m args below meth c s₁ B hml hv
  obtain ⟨rfl, hsz, hP, hK, hD0, hT⟩ := hv
  have C0 : cA p s m meth c ([.ref γ, .ref γ', .int x, .int y] : List Value).toArray cL_isStep 11 (some .boolean) wsL_isStep RL := ⟨B.exec, B.bytes, B.returns, hml, findClass_of_methodNamed B.named, atoms_spec (ws := wsL_isStep) B.pre, B.notSynchronized⟩
  obtain ⟨hx, hb, hr, hml, hown, hts, hlocks⟩ := id C0
  have hF : CallFix p m c cL_isStep 11 s ([.ref γ, .ref γ', .int x, .int y] : List Value).toArray wsL_isStep RL := ⟨hx, hb, hml, hown, hts⟩
  subst hsz
  obtain ⟨A9, hA9⟩ : ∃ A9 : Nat → Prop, A9 = va_A (W0 ++ W1) s.heap.size := ⟨_, rfl⟩
  have hD : va_D A9 (W0 ++ W1) := by rw [hA9]; exact hD0.self
  have hA : ∀ q : Nat, s.heap.size ≤ q → A9 q := fun q h => by rw [hA9]; exact Or.inr h
  have hT : sT tb A9 s := by rw [hA9]; exact hT
  have hS : va_S A9 s.heap s.heap [] := va_S.rf
  obtain ⟨Q, hQ⟩ : ∃ Q : State → Prop, Q = MQ below (QN G (W0 ++ W1) s.heap.size (some (.int 1)) (PW2 G γ γ' (K + 10000))) ([.ref γ, .ref γ', .int x, .int y] : List Value).toArray s 18 2454 (va_A (W0 ++ W1) s.heap.size) := ⟨_, rfl⟩
  rw [← hQ]
  have hl := lv_entry ([.ref γ, .ref γ', .int x, .int y]) (n := 11) (Nat.le_of_ble_eq_true rfl)
  rw [lg_entry_eq]
  generalize (lg_sl ([.ref γ, .ref γ', .int x, .int y]) ++ List.replicate (11 - (lg_sl ([.ref γ, .ref γ', .int x, .int y])).length) Slot.unset).toArray = ls at hl ⊢
  have hl : lv_has ls 11 [(0, .ref γ), (1, .ref γ'), (2, .int x), (3, .int y)] := hl
  have kend : ∀ (w1 : va_W) (H : Heap) (locs : List Loc) (pc cells slots : Nat) (ls : Array Slot), cells ≤ 18 → slots ≤ 2454 → decode cL_isStep pc = .ok (.ireturn, 1) → PW2 G γ γ' (K + 10000) w1 → va_P G.1 vwCl w1 H → va_D A9 w1 → va_S A9 s.heap H locs → W p l e (headSpec wsL_isStep (rmN 9 210 18 2454)).room s m ([.ref γ, .ref γ', .int x, .int y] : List Value).toArray below meth c H locs cells slots Q (F0 m pc ls [.int 1]) := by
    intro w1 H locs pc cells slots ls h1 h2 hdg h3 hP hD hS
    subst hA9
    refine W.widen (k := 18) (n := 2454) h1 h2 ?_
    rw [hQ]
    exact W.zret (ty := .boolean) hx hb hr rfl (fun t ht hW => ⟨rfl, ⟨_, h3, by rw [ht]; exact hP, hD⟩, hS.F ht⟩) hS.2.2 hdg
  refine lv_iload_n hx hb dL_isStep_0 rfl (lv_at hl 2 rfl) ?_
  refine lv_iconst (v := 4) hx hb dL_isStep_1 (by decide) ?_
  refine lv_ishr hx hb dL_isStep_2 ?_
  refine lv_istore (lv' := [(4, .int (x >>> ((4 : Int32) &&& 31))), (0, .ref γ), (1, .ref γ'), (2, .int x), (3, .int y)]) hx hb dL_isStep_3 hl (by decide) rfl (fun ls hl => ?_)
  refine lv_iload hx hb dL_isStep_5 (lv_at hl 0 rfl) ?_
  refine lv_iconst (v := 4) hx hb dL_isStep_7 (by decide) ?_
  obtain ⟨u1, hu1, eu1⟩ := vUpI (x >>> ((4 : Int32) &&& 31)) (n := 4) (by omega) (by omega)
  refine rdS (As := [.int (x >>> ((4 : Int32) &&& 31)), .int 4]) (rest := []) (c_L_upE l G (x >>> ((4 : Int32) &&& 31)) 4 (nI u1) (by decide) eu1) hF (va_cwS 2 hts gL_isStep_L_up rfl rfl rfl (by decide +kernel) ⟨Nat.le_of_ble_eq_true rfl, Nat.le_of_ble_eq_true rfl⟩) hK va_P0 rfl hl.1 rfl (Nat.le_of_ble_eq_true rfl) dL_isStep_8 ⟨Nat.le_of_ble_eq_true rfl, Nat.le_of_ble_eq_true rfl⟩ ?_
  have K49_2 : ∀ (x9 : Int32) (ls : Array Slot), (∃ a : Nat, a < 192 ∧ x9 = nI a) → lv_has ls 11 [(0, .ref γ), (1, .ref γ'), (2, .int x), (3, .int y), (4, .int (x >>> ((4 : Int32) &&& 31)))] → W p l e (headSpec wsL_isStep (rmN 9 210 18 2454)).room s m ([.ref γ, .ref γ', .int x, .int y] : List Value).toArray below meth c s.heap [] (0) (0) Q (F0 m 49 ls [.int x9]) := by
    intro x9 ls hx9 hl
    obtain ⟨a, ha, rfl⟩ := hx9
    refine lv_istore (lv' := [(5, .int (nI a)), (0, .ref γ), (1, .ref γ'), (2, .int x), (3, .int y), (4, .int (x >>> ((4 : Int32) &&& 31)))]) hx hb dL_isStep_49 hl (by decide) rfl (fun ls hl => ?_)
    refine lv_iload_n hx hb dL_isStep_51 rfl (lv_at hl 3 rfl) ?_
    refine lv_bipush (v := 16) hx hb dL_isStep_52 (by decide) ?_
    obtain ⟨w, hw, ew⟩ := vUpI x (n := 16) (by omega) (by omega)
    refine rdS (As := [.int x, .int 16]) (rest := []) (c_L_upE l G x 16 (nI w) (by decide) ew) hF (va_cwS 2 hts gL_isStep_L_up rfl rfl rfl (by decide +kernel) ⟨Nat.le_of_ble_eq_true rfl, Nat.le_of_ble_eq_true rfl⟩) hK va_P0 rfl hl.1 rfl (Nat.le_of_ble_eq_true rfl) dL_isStep_54 ⟨Nat.le_of_ble_eq_true rfl, Nat.le_of_ble_eq_true rfl⟩ ?_
    have hl9 : lv_has ls 11 [(0, .ref γ), (1, .ref γ'), (2, .int x), (3, .int y), (4, .int (x >>> ((4 : Int32) &&& 31))), (5, .int (nI a))] := lv_sub hl [1, 2, 3, 4, 5, 0] rfl
    rcases (show w = 0 ∨ w = 1 ∨ w = 2 ∨ w = 3 ∨ w = 4 ∨ w = 5 ∨ w = 6 ∨ w = 7 ∨ 8 ≤ w by omega) with rfl | rfl | rfl | rfl | rfl | rfl | rfl | rfl | h8
    · exact lv_tableIn (x := nI 0) (off := 47) (tgt := 104) hx hb dL_isStep_57 (by decide) (by decide) (by rfl) (by decide) (cs0_isStep l G tb hI hI' hpl hDv hsl hK9 ha hP hD hA hT hK C0 kend ls hl9)
    · exact lv_tableIn (x := nI 1) (off := 177) (tgt := 234) hx hb dL_isStep_57 (by decide) (by decide) (by rfl) (by decide) (cs1_isStep l G tb hI hI' hpl hDv hsl hK9 ha hP hD hA hT hK C0 kend ls hl9)
    · exact lv_tableIn (x := nI 2) (off := 177) (tgt := 234) hx hb dL_isStep_57 (by decide) (by decide) (by rfl) (by decide) (cs1_isStep l G tb hI hI' hpl hDv hsl hK9 ha hP hD hA hT hK C0 kend ls hl9)
    · exact lv_tableIn (x := nI 3) (off := 177) (tgt := 234) hx hb dL_isStep_57 (by decide) (by decide) (by rfl) (by decide) (cs1_isStep l G tb hI hI' hpl hDv hsl hK9 ha hP hD hA hT hK C0 kend ls hl9)
    · exact lv_tableIn (x := nI 4) (off := 330) (tgt := 387) hx hb dL_isStep_57 (by decide) (by decide) (by rfl) (by decide) (cs4_isStep l G tb hI hI' hpl hDv hsl hK9 ha hP hD hA hT hK C0 kend ls hl9)
    · exact lv_tableIn (x := nI 5) (off := 442) (tgt := 499) hx hb dL_isStep_57 (by decide) (by decide) (by rfl) (by decide) (cs5_isStep l G tb hI hI' hpl hDv hsl hK9 ha hP hD hA hT hK C0 kend ls hl9)
    · exact lv_tableIn (x := nI 6) (off := 525) (tgt := 582) hx hb dL_isStep_57 (by decide) (by decide) (by rfl) (by decide) (cs6_isStep l G tb hI hI' hpl hDv hsl hK9 ha hP hD hA hT hK C0 kend ls hl9)
    · exact lv_tableIn (x := nI 7) (off := 608) (tgt := 665) hx hb dL_isStep_57 (by decide) (by decide) (by rfl) (by decide) (cs7_isStep l G tb hI hI' hpl hDv hsl hK9 ha hP hD hA hT hK C0 kend ls hl9)
    · exact lv_tableOut (tgt := 733) hx hb dL_isStep_57 (Or.inr (by rw [nI_toInt (by omega)]; omega)) (by decide) (cs8_isStep l G tb hI hI' hpl hDv hsl hK9 ha hP hD hA hT hK C0 kend ls hl9)
  refine lv_if_ne (tgt := 27) hx hb dL_isStep_11 (by decide) (fun (c1 : ¬ ((nI u1) = 0)) => ?_) (fun (c1 : (nI u1) = 0) => ?_)
  · skip
    refine lv_bipush (v := 12) hx hb dL_isStep_27 (by decide) ?_
    refine lv_iload hx hb dL_isStep_29 (lv_at hl 0 rfl) ?_
    refine lv_iconst (v := 3) hx hb dL_isStep_31 (by decide) ?_
    refine lv_ishr hx hb dL_isStep_32 ?_
    refine lv_bipush (v := 6) hx hb dL_isStep_33 (by decide) ?_
    obtain ⟨a2, ha2, ea2⟩ := vUpI ((x >>> ((4 : Int32) &&& 31)) >>> ((3 : Int32) &&& 31)) (n := 6) (by omega) (by omega)
    refine rdS (As := [.int ((x >>> ((4 : Int32) &&& 31)) >>> ((3 : Int32) &&& 31)), .int 6]) (rest := [.int 12]) (c_L_upE l G ((x >>> ((4 : Int32) &&& 31)) >>> ((3 : Int32) &&& 31)) 6 (nI a2) (by decide) ea2) hF (va_cwS 2 hts gL_isStep_L_up rfl rfl rfl (by decide +kernel) ⟨Nat.le_of_ble_eq_true rfl, Nat.le_of_ble_eq_true rfl⟩) hK va_P0 rfl hl.1 rfl (Nat.le_of_ble_eq_true rfl) dL_isStep_35 ⟨Nat.le_of_ble_eq_true rfl, Nat.le_of_ble_eq_true rfl⟩ ?_
    refine lv_imul hx hb dL_isStep_38 ?_
    refine lv_iload hx hb dL_isStep_39 (lv_at hl 0 rfl) ?_
    refine lv_bipush (v := 7) hx hb dL_isStep_41 (by decide) ?_
    refine lv_ishr hx hb dL_isStep_43 ?_
    refine lv_iconst (v := 2) hx hb dL_isStep_44 (by decide) ?_
    obtain ⟨a3, ha3, ea3⟩ := vUpI ((x >>> ((4 : Int32) &&& 31)) >>> ((7 : Int32) &&& 31)) (n := 2) (by omega) (by omega)
    refine rdS (As := [.int ((x >>> ((4 : Int32) &&& 31)) >>> ((7 : Int32) &&& 31)), .int 2]) (rest := [.int ((12 : Int32) * (nI a2))]) (c_L_upE l G ((x >>> ((4 : Int32) &&& 31)) >>> ((7 : Int32) &&& 31)) 2 (nI a3) (by decide) ea3) hF (va_cwS 2 hts gL_isStep_L_up rfl rfl rfl (by decide +kernel) ⟨Nat.le_of_ble_eq_true rfl, Nat.le_of_ble_eq_true rfl⟩) hK va_P0 rfl hl.1 rfl (Nat.le_of_ble_eq_true rfl) dL_isStep_45 ⟨Nat.le_of_ble_eq_true rfl, Nat.le_of_ble_eq_true rfl⟩ ?_
    refine lv_iadd hx hb dL_isStep_48 ?_
    exact K49_2 _ ls ⟨12 * a2 + a3, by omega, by rw [show (12 : Int32) = nI 12 from rfl, pk_mul, nI_add]⟩ (lv_sub hl [1, 2, 3, 4, 0] rfl)
  · skip
    refine lv_iload hx hb dL_isStep_14 (lv_at hl 0 rfl) ?_
    refine lv_iconst (v := 3) hx hb dL_isStep_16 (by decide) ?_
    refine lv_ishr hx hb dL_isStep_17 ?_
    refine lv_sipush (v := 192) hx hb dL_isStep_18 (by decide) ?_
    obtain ⟨a1, ha1, ea1⟩ := vUpI ((x >>> ((4 : Int32) &&& 31)) >>> ((3 : Int32) &&& 31)) (n := 192) (by omega) (by omega)
    refine rdS (As := [.int ((x >>> ((4 : Int32) &&& 31)) >>> ((3 : Int32) &&& 31)), .int 192]) (rest := []) (c_L_upE l G ((x >>> ((4 : Int32) &&& 31)) >>> ((3 : Int32) &&& 31)) 192 (nI a1) (by decide) ea1) hF (va_cwS 2 hts gL_isStep_L_up rfl rfl rfl (by decide +kernel) ⟨Nat.le_of_ble_eq_true rfl, Nat.le_of_ble_eq_true rfl⟩) hK va_P0 rfl hl.1 rfl (Nat.le_of_ble_eq_true rfl) dL_isStep_21 ⟨Nat.le_of_ble_eq_true rfl, Nat.le_of_ble_eq_true rfl⟩ ?_
    refine lv_goto (tgt := 49) hx hb dL_isStep_24 (by decide) ?_
    exact K49_2 _ ls ⟨a1, ha1, rfl⟩ (lv_sub hl [1, 2, 3, 4, 0] rfl)
