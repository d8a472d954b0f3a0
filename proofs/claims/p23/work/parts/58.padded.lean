/-! number, isPadded -/
theorem put2 {ϖ : PS} {txt : List Int32} {k : Nat} (hP : PTx ϖ txt) (hk : txt.length = k) (hl : k < 60) {m : Nat} (h1 : 33 ≤ m) (h2 : m ≤ 126) : ∃ ϖ', PTx ϖ' (txt ++ [nI m]) ∧ (txt ++ [nI m]).length = k + 1 ∧ ∀ (ρ : QS) (σ τ : DS) (hs : HS), s_X4_put ρ ϖ σ τ hs (nI m).toInt64 = (nI (k + 1), ϖ') ∧ ok_X4_put ρ ϖ σ τ hs (nI m).toInt64 := by
  subst hk
  obtain ⟨ϖ', a, b⟩ := put1 hP hl h1 h2
  exact ⟨ϖ', a, by rw [List.length_append]; rfl, b⟩
theorem d100 {v : Nat} (h : v < 256) : (48 + (nI v / 100)) = nI (48 + v / 100) := by
  rw [show nI v / 100 = nI (v / 100) from pk_div (a := v) (d := 100) (by omega) (by decide) (by decide)]
  exact nI_add 48 _
theorem jr10 {a : Nat} (h : a < 2147483648) : jrem (nI a) 10 = nI (a % 10) := pk_rem (a := a) (d := 10) (by omega) (by decide) (by decide)
theorem d10 {v : Nat} (h : v < 256) : (48 + (jrem (nI v / 10) 10)) = nI (48 + v / 10 % 10) := by
  rw [show nI v / 10 = nI (v / 10) from pk_div (a := v) (d := 10) (by omega) (by decide) (by decide), jr10 (by omega)]
  exact nI_add 48 _
theorem d1 {v : Nat} (h : v < 256) : (48 + (jrem (nI v) 10)) = nI (48 + v % 10) := by
  rw [jr10 (by omega)]
  exact nI_add 48 _
theorem digsL {v : Nat} (h : v < 256) : (digs v).length ≤ 3 := by
  by_cases h1 : v < 10
  · rw [digs1 h1]; exact Nat.le_of_ble_eq_true rfl
  · by_cases h2 : v < 100
    · rw [digs2 h1 h2]; exact Nat.le_of_ble_eq_true rfl
    · rw [digs3 h2]; exact Nat.le_of_ble_eq_true rfl
set_option maxHeartbeats 4000000 in
set_option maxRecDepth 100000 in
theorem c_L_number (l : Launch) (G : GG) (tb : Nat × Nat × Nat) {γ : Nat} {V : OV} {W0 : va_W} (hI : OI G γ V W0) {txt : List Int32} (hPT : PTx V.2.1 txt) {k : Nat} (hk : txt.length = k) (hl9 : k + 3 ≤ 60) {v : Nat} (hv : v < 256) : Nw G l yL_number wsL_number 3 69 0 0 [.ref γ, .int (nI v)] W0 (sT tb) (some (.int 1)) (fun w1 => ∃ ϖ', PTx ϖ' (txt ++ digs v) ∧ OI G γ (V.1, ϖ', V.2.2) w1) := by
  intro sz
  refine Met.ofW (cc := cL_number) (maxL := 2) (ret := (some .boolean)) (by decide) rfl ?_
  intro p e s m args below meth c s₁ B hml hv
  obtain ⟨rfl, hsz, hP, hK, hD0, hT⟩ := hv
  have C0 : cA p s m meth c ([.ref γ, .int (nI v)] : List Value).toArray cL_number 2 (some .boolean) wsL_number RL := ⟨B.exec, B.bytes, B.returns, hml, findClass_of_methodNamed B.named, atoms_spec (ws := wsL_number) B.pre, B.notSynchronized⟩
  obtain ⟨hx, hb, hr, hml, hown, hts, hlocks⟩ := id C0
  have hF : CallFix p m c cL_number 2 s ([.ref γ, .int (nI v)] : List Value).toArray wsL_number RL := ⟨hx, hb, hml, hown, hts⟩
  subst hsz
  obtain ⟨A9, hA9⟩ : ∃ A9 : Nat → Prop, A9 = va_A W0 s.heap.size := ⟨_, rfl⟩
  have hD : va_D A9 W0 := by rw [hA9]; exact hD0.self
  have hA : ∀ q : Nat, s.heap.size ≤ q → A9 q := fun q h => by rw [hA9]; exact Or.inr h
  have hT : sT tb A9 s := by rw [hA9]; exact hT
  have hS : va_S A9 s.heap s.heap [] := va_S.rf
  obtain ⟨Q, hQ⟩ : ∃ Q : State → Prop, Q = MQ below (QN G W0 s.heap.size (some (.int 1)) (fun w1 => ∃ ϖ', PTx ϖ' (txt ++ digs v) ∧ OI G γ (V.1, ϖ', V.2.2) w1)) ([.ref γ, .int (nI v)] : List Value).toArray s 0 0 (va_A W0 s.heap.size) := ⟨_, rfl⟩
  rw [← hQ]
  have hl := lv_entry ([.ref γ, .int (nI v)]) (n := 2) (Nat.le_of_ble_eq_true rfl)
  rw [lg_entry_eq]
  generalize (lg_sl ([.ref γ, .int (nI v)]) ++ List.replicate (2 - (lg_sl ([.ref γ, .int (nI v)])).length) Slot.unset).toArray = ls at hl ⊢
  have hl : lv_has ls 2 [(0, .ref γ), (1, .int (nI v))] := hl
  by_cases h100 : v < 100
  · by_cases h10 : v < 10
    · skip
      refine lv_iload_n hx hb dL_number_0 rfl (lv_at hl 1 rfl) ?_
      refine lv_bipush (v := 100) hx hb dL_number_1 (by decide) ?_
      refine lv_icmp_lt (tgt := 21) hx hb dL_number_3 (by decide) (fun _ => ?_) (fun h9 : ¬ ((nI v) < 100) => absurd (show (nI v) < 100 from nI_lt (b := 100) h100 (by omega)) h9)
      refine lv_iload_n hx hb dL_number_21 rfl (lv_at hl 1 rfl) ?_
      refine lv_bipush (v := 10) hx hb dL_number_22 (by decide) ?_
      refine lv_icmp_lt (tgt := 45) hx hb dL_number_24 (by decide) (fun _ => ?_) (fun h9 : ¬ ((nI v) < 10) => absurd (show (nI v) < 10 from nI_lt (b := 10) h10 (by omega)) h9)
      refine lv_aload_n hx hb dL_number_45 rfl (lv_at hl 0 rfl) ?_
      refine lv_bipush (v := 48) hx hb dL_number_46 (by decide) ?_
      refine lv_iload_n hx hb dL_number_48 rfl (lv_at hl 1 rfl) ?_
      refine lv_bipush (v := 10) hx hb dL_number_49 (by decide) ?_
      refine lv_irem hx hb dL_number_51 (by decide) ?_
      refine lv_iadd hx hb dL_number_52 ?_
      refine lv_i2l (v := (nI (48 + v % 10)).toInt64) hx hb dL_number_53 (by rw [d1 (by omega)]) ?_
      obtain ⟨ϖ1, hP1, hk1, he1⟩ := put2 hPT hk (by omega) (m := 48 + v % 10) (by omega) (by omega)
      refine nwV0 (As := [.long (nI (48 + v % 10)).toInt64]) (rest := []) (o_put l tb hI (nI (48 + v % 10)).toInt64 (nI (k + 1)) ϖ1 he1) hF (cwV 1 hts gL_number_X4_put rfl rfl rfl (by decide +kernel) ⟨Nat.le_of_ble_eq_true rfl, Nat.le_of_ble_eq_true rfl⟩) (hI.recv hK hP) hK hP hD hS hA hT rfl hl.1 rfl (Nat.le_of_ble_eq_true rfl) dL_number_54 ⟨Nat.le_of_ble_eq_true rfl, Nat.le_of_ble_eq_true rfl⟩ (fun W1 H locs hI2 hP hD hS => ?_)
      refine lv_if_le (tgt := 64) hx hb dL_number_57 (by decide) (fun h9 : (nI (k + 1)) ≤ 0 => absurd h9 (show ¬ ((nI (k + 1)) ≤ 0) from nI_nle (by omega) (by omega))) (fun _ => ?_)
      refine lv_iconst (v := 1) hx hb dL_number_60 (by decide) ?_
      refine lv_goto (tgt := 65) hx hb dL_number_61 (by decide) ?_
      subst hA9
      rw [hQ]
      exact W.zret (ty := .boolean) hx hb hr rfl (fun t ht hW => ⟨rfl, ⟨_, ⟨_, (show PTx _ (txt ++ digs v) from by unfold digs; rw [if_pos h100, if_pos h10]; simpa using hP1), hI2⟩, by rw [ht]; exact hP, hD⟩, hS.F ht⟩) hS.2.2 dL_number_65
    · skip
      refine lv_iload_n hx hb dL_number_0 rfl (lv_at hl 1 rfl) ?_
      refine lv_bipush (v := 100) hx hb dL_number_1 (by decide) ?_
      refine lv_icmp_lt (tgt := 21) hx hb dL_number_3 (by decide) (fun _ => ?_) (fun h9 : ¬ ((nI v) < 100) => absurd (show (nI v) < 100 from nI_lt (b := 100) h100 (by omega)) h9)
      refine lv_iload_n hx hb dL_number_21 rfl (lv_at hl 1 rfl) ?_
      refine lv_bipush (v := 10) hx hb dL_number_22 (by decide) ?_
      refine lv_icmp_lt (tgt := 45) hx hb dL_number_24 (by decide) (fun h9 : (nI v) < 10 => absurd h9 (show ¬ ((nI v) < 10) from nI_nlt (b := 10) (by omega) (by omega))) (fun _ => ?_)
      refine lv_aload_n hx hb dL_number_27 rfl (lv_at hl 0 rfl) ?_
      refine lv_bipush (v := 48) hx hb dL_number_28 (by decide) ?_
      refine lv_iload_n hx hb dL_number_30 rfl (lv_at hl 1 rfl) ?_
      refine lv_bipush (v := 10) hx hb dL_number_31 (by decide) ?_
      refine lv_idiv hx hb dL_number_33 (by decide) ?_
      refine lv_bipush (v := 10) hx hb dL_number_34 (by decide) ?_
      refine lv_irem hx hb dL_number_36 (by decide) ?_
      refine lv_iadd hx hb dL_number_37 ?_
      refine lv_i2l (v := (nI (48 + v / 10 % 10)).toInt64) hx hb dL_number_38 (by rw [d10 (by omega)]) ?_
      obtain ⟨ϖ1, hP1, hk1, he1⟩ := put2 hPT hk (by omega) (m := 48 + v / 10 % 10) (by omega) (by omega)
      refine nwV0 (As := [.long (nI (48 + v / 10 % 10)).toInt64]) (rest := []) (o_put l tb hI (nI (48 + v / 10 % 10)).toInt64 (nI (k + 1)) ϖ1 he1) hF (cwV 1 hts gL_number_X4_put rfl rfl rfl (by decide +kernel) ⟨Nat.le_of_ble_eq_true rfl, Nat.le_of_ble_eq_true rfl⟩) (hI.recv hK hP) hK hP hD hS hA hT rfl hl.1 rfl (Nat.le_of_ble_eq_true rfl) dL_number_39 ⟨Nat.le_of_ble_eq_true rfl, Nat.le_of_ble_eq_true rfl⟩ (fun W1 H locs hI2 hP hD hS => ?_)
      refine lv_if_le (tgt := 64) hx hb dL_number_42 (by decide) (fun h9 : (nI (k + 1)) ≤ 0 => absurd h9 (show ¬ ((nI (k + 1)) ≤ 0) from nI_nle (by omega) (by omega))) (fun _ => ?_)
      refine lv_aload_n hx hb dL_number_45 rfl (lv_at hl 0 rfl) ?_
      refine lv_bipush (v := 48) hx hb dL_number_46 (by decide) ?_
      refine lv_iload_n hx hb dL_number_48 rfl (lv_at hl 1 rfl) ?_
      refine lv_bipush (v := 10) hx hb dL_number_49 (by decide) ?_
      refine lv_irem hx hb dL_number_51 (by decide) ?_
      refine lv_iadd hx hb dL_number_52 ?_
      refine lv_i2l (v := (nI (48 + v % 10)).toInt64) hx hb dL_number_53 (by rw [d1 (by omega)]) ?_
      obtain ⟨ϖ2, hP2, hk2, he2⟩ := put2 hP1 hk1 (by omega) (m := 48 + v % 10) (by omega) (by omega)
      refine nwV0 (As := [.long (nI (48 + v % 10)).toInt64]) (rest := []) (o_put l tb hI2 (nI (48 + v % 10)).toInt64 (nI ((k + 1) + 1)) ϖ2 he2) hF (cwV 1 hts gL_number_X4_put rfl rfl rfl (by decide +kernel) ⟨Nat.le_of_ble_eq_true rfl, Nat.le_of_ble_eq_true rfl⟩) (hI2.recv hK hP) hK hP hD hS hA hT rfl hl.1 rfl (Nat.le_of_ble_eq_true rfl) dL_number_54 ⟨Nat.le_of_ble_eq_true rfl, Nat.le_of_ble_eq_true rfl⟩ (fun W3 H locs hI4 hP hD hS => ?_)
      refine lv_if_le (tgt := 64) hx hb dL_number_57 (by decide) (fun h9 : (nI ((k + 1) + 1)) ≤ 0 => absurd h9 (show ¬ ((nI ((k + 1) + 1)) ≤ 0) from nI_nle (by omega) (by omega))) (fun _ => ?_)
      refine lv_iconst (v := 1) hx hb dL_number_60 (by decide) ?_
      refine lv_goto (tgt := 65) hx hb dL_number_61 (by decide) ?_
      subst hA9
      rw [hQ]
      exact W.zret (ty := .boolean) hx hb hr rfl (fun t ht hW => ⟨rfl, ⟨_, ⟨_, (show PTx _ (txt ++ digs v) from by unfold digs; rw [if_pos h100, if_neg h10]; simpa using hP2), hI4⟩, by rw [ht]; exact hP, hD⟩, hS.F ht⟩) hS.2.2 dL_number_65
  · skip
    refine lv_iload_n hx hb dL_number_0 rfl (lv_at hl 1 rfl) ?_
    refine lv_bipush (v := 100) hx hb dL_number_1 (by decide) ?_
    refine lv_icmp_lt (tgt := 21) hx hb dL_number_3 (by decide) (fun h9 : (nI v) < 100 => absurd h9 (show ¬ ((nI v) < 100) from nI_nlt (b := 100) (by omega) (by omega))) (fun _ => ?_)
    refine lv_aload_n hx hb dL_number_6 rfl (lv_at hl 0 rfl) ?_
    refine lv_bipush (v := 48) hx hb dL_number_7 (by decide) ?_
    refine lv_iload_n hx hb dL_number_9 rfl (lv_at hl 1 rfl) ?_
    refine lv_bipush (v := 100) hx hb dL_number_10 (by decide) ?_
    refine lv_idiv hx hb dL_number_12 (by decide) ?_
    refine lv_iadd hx hb dL_number_13 ?_
    refine lv_i2l (v := (nI (48 + v / 100)).toInt64) hx hb dL_number_14 (by rw [d100 (by omega)]) ?_
    obtain ⟨ϖ1, hP1, hk1, he1⟩ := put2 hPT hk (by omega) (m := 48 + v / 100) (by omega) (by omega)
    refine nwV0 (As := [.long (nI (48 + v / 100)).toInt64]) (rest := []) (o_put l tb hI (nI (48 + v / 100)).toInt64 (nI (k + 1)) ϖ1 he1) hF (cwV 1 hts gL_number_X4_put rfl rfl rfl (by decide +kernel) ⟨Nat.le_of_ble_eq_true rfl, Nat.le_of_ble_eq_true rfl⟩) (hI.recv hK hP) hK hP hD hS hA hT rfl hl.1 rfl (Nat.le_of_ble_eq_true rfl) dL_number_15 ⟨Nat.le_of_ble_eq_true rfl, Nat.le_of_ble_eq_true rfl⟩ (fun W1 H locs hI2 hP hD hS => ?_)
    refine lv_if_le (tgt := 64) hx hb dL_number_18 (by decide) (fun h9 : (nI (k + 1)) ≤ 0 => absurd h9 (show ¬ ((nI (k + 1)) ≤ 0) from nI_nle (by omega) (by omega))) (fun _ => ?_)
    refine lv_iload_n hx hb dL_number_21 rfl (lv_at hl 1 rfl) ?_
    refine lv_bipush (v := 10) hx hb dL_number_22 (by decide) ?_
    refine lv_icmp_lt (tgt := 45) hx hb dL_number_24 (by decide) (fun h9 : (nI v) < 10 => absurd h9 (show ¬ ((nI v) < 10) from nI_nlt (b := 10) (by omega) (by omega))) (fun _ => ?_)
    refine lv_aload_n hx hb dL_number_27 rfl (lv_at hl 0 rfl) ?_
    refine lv_bipush (v := 48) hx hb dL_number_28 (by decide) ?_
    refine lv_iload_n hx hb dL_number_30 rfl (lv_at hl 1 rfl) ?_
    refine lv_bipush (v := 10) hx hb dL_number_31 (by decide) ?_
    refine lv_idiv hx hb dL_number_33 (by decide) ?_
    refine lv_bipush (v := 10) hx hb dL_number_34 (by decide) ?_
    refine lv_irem hx hb dL_number_36 (by decide) ?_
    refine lv_iadd hx hb dL_number_37 ?_
    refine lv_i2l (v := (nI (48 + v / 10 % 10)).toInt64) hx hb dL_number_38 (by rw [d10 (by omega)]) ?_
    obtain ⟨ϖ2, hP2, hk2, he2⟩ := put2 hP1 hk1 (by omega) (m := 48 + v / 10 % 10) (by omega) (by omega)
    refine nwV0 (As := [.long (nI (48 + v / 10 % 10)).toInt64]) (rest := []) (o_put l tb hI2 (nI (48 + v / 10 % 10)).toInt64 (nI ((k + 1) + 1)) ϖ2 he2) hF (cwV 1 hts gL_number_X4_put rfl rfl rfl (by decide +kernel) ⟨Nat.le_of_ble_eq_true rfl, Nat.le_of_ble_eq_true rfl⟩) (hI2.recv hK hP) hK hP hD hS hA hT rfl hl.1 rfl (Nat.le_of_ble_eq_true rfl) dL_number_39 ⟨Nat.le_of_ble_eq_true rfl, Nat.le_of_ble_eq_true rfl⟩ (fun W3 H locs hI4 hP hD hS => ?_)
    refine lv_if_le (tgt := 64) hx hb dL_number_42 (by decide) (fun h9 : (nI ((k + 1) + 1)) ≤ 0 => absurd h9 (show ¬ ((nI ((k + 1) + 1)) ≤ 0) from nI_nle (by omega) (by omega))) (fun _ => ?_)
    refine lv_aload_n hx hb dL_number_45 rfl (lv_at hl 0 rfl) ?_
    refine lv_bipush (v := 48) hx hb dL_number_46 (by decide) ?_
    refine lv_iload_n hx hb dL_number_48 rfl (lv_at hl 1 rfl) ?_
    refine lv_bipush (v := 10) hx hb dL_number_49 (by decide) ?_
    refine lv_irem hx hb dL_number_51 (by decide) ?_
    refine lv_iadd hx hb dL_number_52 ?_
    refine lv_i2l (v := (nI (48 + v % 10)).toInt64) hx hb dL_number_53 (by rw [d1 (by omega)]) ?_
    obtain ⟨ϖ3, hP3, hk3, he3⟩ := put2 hP2 hk2 (by omega) (m := 48 + v % 10) (by omega) (by omega)
    refine nwV0 (As := [.long (nI (48 + v % 10)).toInt64]) (rest := []) (o_put l tb hI4 (nI (48 + v % 10)).toInt64 (nI (((k + 1) + 1) + 1)) ϖ3 he3) hF (cwV 1 hts gL_number_X4_put rfl rfl rfl (by decide +kernel) ⟨Nat.le_of_ble_eq_true rfl, Nat.le_of_ble_eq_true rfl⟩) (hI4.recv hK hP) hK hP hD hS hA hT rfl hl.1 rfl (Nat.le_of_ble_eq_true rfl) dL_number_54 ⟨Nat.le_of_ble_eq_true rfl, Nat.le_of_ble_eq_true rfl⟩ (fun W5 H locs hI6 hP hD hS => ?_)
    refine lv_if_le (tgt := 64) hx hb dL_number_57 (by decide) (fun h9 : (nI (((k + 1) + 1) + 1)) ≤ 0 => absurd h9 (show ¬ ((nI (((k + 1) + 1) + 1)) ≤ 0) from nI_nle (by omega) (by omega))) (fun _ => ?_)
    refine lv_iconst (v := 1) hx hb dL_number_60 (by decide) ?_
    refine lv_goto (tgt := 65) hx hb dL_number_61 (by decide) ?_
    subst hA9
    rw [hQ]
    exact W.zret (ty := .boolean) hx hb hr rfl (fun t ht hW => ⟨rfl, ⟨_, ⟨_, (show PTx _ (txt ++ digs v) from by unfold digs; rw [if_neg h100, if_neg (show ¬ v < 10 from by omega)]; simpa using hP3), hI6⟩, by rw [ht]; exact hP, hD⟩, hS.F ht⟩) hS.2.2 dL_number_65
set_option maxHeartbeats 4000000 in
set_option maxRecDepth 100000 in
theorem c_L_isPadded_r (l : Launch) (G : GG) (tb : Nat × Nat × Nat) {γ : Nat} {V : OV} {W0 : va_W} (hI : OI G γ V W0) {K : Nat} (hDv : Dv K V.1) (hpl : p_le V.2.1 = 0) {a : Nat} (ha : a < 192) {an dn p1 : Int32} {σ' : DS} (hrq : s_X0_readFrom V.1 (nI a) = (an, σ')) (hdv : dn = if 0 ≤ an then 1 else 0) : Nw G l yL_isPadded wsL_isPadded 8 182 6 818 [.ref γ, .int (nI a), .int (-1), .int dn, .int p1] W0 (sT tb) (some (.int 1)) (fun w1 => ∃ ϖ', p_le ϖ' = 0 ∧ OI G γ (σ', ϖ', V.2.2) w1) := by
  intro sz
  refine Met.ofW (cc := cL_isPadded) (maxL := 5) (ret := (some .boolean)) (by decide) rfl ?_
  intro p e s m args below meth c s₁ B hml hv
  obtain ⟨rfl, hsz, hP, hK, hD0, hT⟩ := hv
  have C0 : cA p s m meth c ([.ref γ, .int (nI a), .int (-1), .int dn, .int p1] : List Value).toArray cL_isPadded 5 (some .boolean) wsL_isPadded RL := ⟨B.exec, B.bytes, B.returns, hml, findClass_of_methodNamed B.named, atoms_spec (ws := wsL_isPadded) B.pre, B.notSynchronized⟩
  obtain ⟨hx, hb, hr, hml, hown, hts, hlocks⟩ := id C0
  have hF : CallFix p m c cL_isPadded 5 s ([.ref γ, .int (nI a), .int (-1), .int dn, .int p1] : List Value).toArray wsL_isPadded RL := ⟨hx, hb, hml, hown, hts⟩
  subst hsz
  obtain ⟨A9, hA9⟩ : ∃ A9 : Nat → Prop, A9 = va_A W0 s.heap.size := ⟨_, rfl⟩
  have hD : va_D A9 W0 := by rw [hA9]; exact hD0.self
  have hA : ∀ q : Nat, s.heap.size ≤ q → A9 q := fun q h => by rw [hA9]; exact Or.inr h
  have hT : sT tb A9 s := by rw [hA9]; exact hT
  have hS : va_S A9 s.heap s.heap [] := va_S.rf
  obtain ⟨Q, hQ⟩ : ∃ Q : State → Prop, Q = MQ below (QN G W0 s.heap.size (some (.int 1)) (fun w1 => ∃ ϖ', p_le ϖ' = 0 ∧ OI G γ (σ', ϖ', V.2.2) w1)) ([.ref γ, .int (nI a), .int (-1), .int dn, .int p1] : List Value).toArray s 6 818 (va_A W0 s.heap.size) := ⟨_, rfl⟩
  rw [← hQ]
  have hl := lv_entry ([.ref γ, .int (nI a), .int (-1), .int dn, .int p1]) (n := 5) (Nat.le_of_ble_eq_true rfl)
  rw [lg_entry_eq]
  generalize (lg_sl ([.ref γ, .int (nI a), .int (-1), .int dn, .int p1]) ++ List.replicate (5 - (lg_sl ([.ref γ, .int (nI a), .int (-1), .int dn, .int p1])).length) Slot.unset).toArray = ls at hl ⊢
  have hl : lv_has ls 5 [(0, .ref γ), (1, .int (nI a)), (2, .int (-1)), (3, .int dn), (4, .int p1)] := hl
  refine lv_aload_n hx hb dL_isPadded_0 rfl (lv_at hl 0 rfl) ?_
  refine nwV0 (As := []) (rest := []) (o_wipe l tb hI) hF (cwV 0 hts gL_isPadded_X4_wipe rfl rfl rfl (by decide +kernel) ⟨Nat.le_of_ble_eq_true rfl, Nat.le_of_ble_eq_true rfl⟩) (hI.recv hK hP) hK hP hD hS hA hT rfl hl.1 rfl (Nat.le_of_ble_eq_true rfl) dL_isPadded_1 ⟨Nat.le_of_ble_eq_true rfl, Nat.le_of_ble_eq_true rfl⟩ (fun W1 H locs hI2 hP hD hS => ?_)
  refine lv_if_lt (tgt := 80) hx hb dL_isPadded_4 (by decide) (fun h9 : (p_le V.2.1) < 0 => absurd h9 (show ¬ ((p_le V.2.1) < 0) from (by rw [hpl]; decide))) (fun _ => ?_)
  refine lv_aload_n hx hb dL_isPadded_7 rfl (lv_at hl 0 rfl) ?_
  refine lv_iload_n hx hb dL_isPadded_8 rfl (lv_at hl 2 rfl) ?_
  refine lv_if_ge (tgt := 18) hx hb dL_isPadded_9 (by decide) (fun h9 : (0 : Int32) ≤ (-1) => absurd h9 (show ¬ ((0 : Int32) ≤ (-1)) from (by decide))) (fun _ => ?_)
  refine lv_ldc2 (v := 114) hx hb hown (hts (.constantLong RL 19 (114)) (by decide +kernel)) dL_isPadded_12 ?_
  refine lv_goto (tgt := 21) hx hb dL_isPadded_15 (by decide) ?_
  obtain ⟨ϖ1, hP1, hk1, he1⟩ := put2 (PTx.clear V.2.1) (k := 0) rfl (by omega) (m := 114) (by omega) (by omega)
  rw [← show (114 : Int64) = (nI 114).toInt64 from by decide] at he1
  refine nwV0 (As := [.long 114]) (rest := []) (o_put l tb hI2 114 (nI (0 + 1)) ϖ1 he1) hF (cwV 1 hts gL_isPadded_X4_put rfl rfl rfl (by decide +kernel) ⟨Nat.le_of_ble_eq_true rfl, Nat.le_of_ble_eq_true rfl⟩) (hI2.recv hK hP) hK hP hD hS hA hT rfl hl.1 rfl (Nat.le_of_ble_eq_true rfl) dL_isPadded_21 ⟨Nat.le_of_ble_eq_true rfl, Nat.le_of_ble_eq_true rfl⟩ (fun W3 H locs hI4 hP hD hS => ?_)
  refine lv_if_le (tgt := 80) hx hb dL_isPadded_24 (by decide) (fun h9 : (nI (0 + 1)) ≤ 0 => absurd h9 (show ¬ ((nI (0 + 1)) ≤ 0) from nI_nle (by omega) (by omega))) (fun _ => ?_)
  refine lv_aload_n hx hb dL_isPadded_27 rfl (lv_at hl 0 rfl) ?_
  refine lv_iload_n hx hb dL_isPadded_28 rfl (lv_at hl 1 rfl) ?_
  refine nwS0 (As := [.ref γ, .int (nI a)]) (rest := []) (c_L_number l G tb hI4 hP1 hk1 (by omega) (v := a) (by omega)) hF (va_cwS 2 hts gL_isPadded_L_number rfl rfl rfl (by decide +kernel) ⟨Nat.le_of_ble_eq_true rfl, Nat.le_of_ble_eq_true rfl⟩) hK hP hD hS hA hT rfl hl.1 rfl (Nat.le_of_ble_eq_true rfl) dL_isPadded_29 ⟨Nat.le_of_ble_eq_true rfl, Nat.le_of_ble_eq_true rfl⟩ (fun W5 H locs hI6 hP hD hS => ?_)
  obtain ⟨ϖ2, hI6p, hI6b⟩ := hI6
  have hNϖ2 := hI6p
  refine lv_if_eq (tgt := 80) hx hb dL_isPadded_32 (by decide) (fun h9 : (1 : Int32) = 0 => absurd h9 (show ¬ ((1 : Int32) = 0) from (by decide))) (fun _ => ?_)
  refine lv_iload_n hx hb dL_isPadded_35 rfl (lv_at hl 2 rfl) ?_
  refine lv_if_lt (tgt := 57) hx hb dL_isPadded_36 (by decide) (fun _ => ?_) (fun h9 : ¬ ((-1 : Int32) < 0) => absurd (show (-1 : Int32) < 0 from (by decide)) h9)
  refine lv_aload_n hx hb dL_isPadded_57 rfl (lv_at hl 0 rfl) ?_
  have hrun : Runs ϖ2 V.1 p1 dn σ' := by rw [hdv]; have h9 := runR hDv ha hNϖ2 p1; rw [hrq] at h9; exact h9
  have hdn : ¬ dn < 0 := by rw [hdv]; split <;> decide
  refine nwV0 (As := []) (rest := []) (o_fault l tb hI6b (-6) (fun ρ => by obtain ⟨τ1, τ2, r1, r2, r3, r4⟩ := hrun ρ; exact ⟨by rw [r1], r2⟩)) hF (cwV 0 hts gL_isPadded_X4_fault rfl rfl rfl (by decide +kernel) ⟨Nat.le_of_ble_eq_true rfl, Nat.le_of_ble_eq_true rfl⟩) (hI6b.recv hK hP) hK hP hD hS hA hT rfl hl.1 rfl (Nat.le_of_ble_eq_true rfl) dL_isPadded_58 ⟨Nat.le_of_ble_eq_true rfl, Nat.le_of_ble_eq_true rfl⟩ (fun W7 H locs hI8 hP hD hS => ?_)
  refine lv_bipush (v := (-6)) hx hb dL_isPadded_61 (by decide) ?_
  refine lv_icmp_ne (tgt := 80) hx hb dL_isPadded_63 (by decide) (fun h9 : ¬ ((-6 : Int32) = (-6)) => absurd (show (-6 : Int32) = (-6) from (by decide)) h9) (fun _ => ?_)
  refine lv_aload_n hx hb dL_isPadded_66 rfl (lv_at hl 0 rfl) ?_
  refine lv_iload hx hb dL_isPadded_67 (lv_at hl 4 rfl) ?_
  refine nwV0 (As := [.int p1]) (rest := []) (o_run l tb hI8 hrun hdn) hF (cwV 1 hts gL_isPadded_X4_run rfl rfl rfl (by decide +kernel) ⟨Nat.le_of_ble_eq_true rfl, Nat.le_of_ble_eq_true rfl⟩) (hI8.recv hK hP) hK hP hD hS hA hT rfl hl.1 rfl (Nat.le_of_ble_eq_true rfl) dL_isPadded_69 ⟨Nat.le_of_ble_eq_true rfl, Nat.le_of_ble_eq_true rfl⟩ (fun W9 H locs hI10 hP hD hS => ?_)
  refine lv_iload_n hx hb dL_isPadded_72 rfl (lv_at hl 3 rfl) ?_
  refine lv_icmp_ne (tgt := 80) hx hb dL_isPadded_73 (by decide) (fun h9 : ¬ (dn = dn) => absurd (show dn = dn from rfl) h9) (fun _ => ?_)
  refine lv_iconst (v := 1) hx hb dL_isPadded_76 (by decide) ?_
  refine lv_goto (tgt := 81) hx hb dL_isPadded_77 (by decide) ?_
  subst hA9
  refine W.widen (k := 6) (n := 818) (Nat.le_of_ble_eq_true rfl) (Nat.le_of_ble_eq_true rfl) ?_
  rw [hQ]
  exact W.zret (ty := .boolean) hx hb hr rfl (fun t ht hW => ⟨rfl, ⟨_, ⟨_, rfl, hI10⟩, by rw [ht]; exact hP, hD⟩, hS.F ht⟩) hS.2.2 dL_isPadded_81
set_option maxHeartbeats 4000000 in
set_option maxRecDepth 100000 in
theorem c_L_isPadded_w (l : Launch) (G : GG) (tb : Nat × Nat × Nat) {γ : Nat} {V : OV} {W0 : va_W} (hI : OI G γ V W0) {K : Nat} (hDv : Dv K V.1) (hpl : p_le V.2.1 = 0) {a : Nat} (ha : a < 192) {v : Nat} (hv : v < 256) {an dn p1 : Int32} {σ' : DS} (hrq : s_X0_writeTo V.1 (nI a) (nI v) = (an, σ')) (hdv : dn = if 0 ≤ an then 1 else 0) : Nw G l yL_isPadded wsL_isPadded 8 182 6 818 [.ref γ, .int (nI a), .int (nI v), .int dn, .int p1] W0 (sT tb) (some (.int 1)) (fun w1 => ∃ ϖ', p_le ϖ' = 0 ∧ OI G γ (σ', ϖ', V.2.2) w1) := by
  intro sz
  refine Met.ofW (cc := cL_isPadded) (maxL := 5) (ret := (some .boolean)) (by decide) rfl ?_
  intro p e s m args below meth c s₁ B hml hv
  obtain ⟨rfl, hsz, hP, hK, hD0, hT⟩ := hv
  have C0 : cA p s m meth c ([.ref γ, .int (nI a), .int (nI v), .int dn, .int p1] : List Value).toArray cL_isPadded 5 (some .boolean) wsL_isPadded RL := ⟨B.exec, B.bytes, B.returns, hml, findClass_of_methodNamed B.named, atoms_spec (ws := wsL_isPadded) B.pre, B.notSynchronized⟩
  obtain ⟨hx, hb, hr, hml, hown, hts, hlocks⟩ := id C0
  have hF : CallFix p m c cL_isPadded 5 s ([.ref γ, .int (nI a), .int (nI v), .int dn, .int p1] : List Value).toArray wsL_isPadded RL := ⟨hx, hb, hml, hown, hts⟩
  subst hsz
  obtain ⟨A9, hA9⟩ : ∃ A9 : Nat → Prop, A9 = va_A W0 s.heap.size := ⟨_, rfl⟩
  have hD : va_D A9 W0 := by rw [hA9]; exact hD0.self
  have hA : ∀ q : Nat, s.heap.size ≤ q → A9 q := fun q h => by rw [hA9]; exact Or.inr h
  have hT : sT tb A9 s := by rw [hA9]; exact hT
  have hS : va_S A9 s.heap s.heap [] := va_S.rf
  obtain ⟨Q, hQ⟩ : ∃ Q : State → Prop, Q = MQ below (QN G W0 s.heap.size (some (.int 1)) (fun w1 => ∃ ϖ', p_le ϖ' = 0 ∧ OI G γ (σ', ϖ', V.2.2) w1)) ([.ref γ, .int (nI a), .int (nI v), .int dn, .int p1] : List Value).toArray s 6 818 (va_A W0 s.heap.size) := ⟨_, rfl⟩
  rw [← hQ]
  have hl := lv_entry ([.ref γ, .int (nI a), .int (nI v), .int dn, .int p1]) (n := 5) (Nat.le_of_ble_eq_true rfl)
  rw [lg_entry_eq]
  generalize (lg_sl ([.ref γ, .int (nI a), .int (nI v), .int dn, .int p1]) ++ List.replicate (5 - (lg_sl ([.ref γ, .int (nI a), .int (nI v), .int dn, .int p1])).length) Slot.unset).toArray = ls at hl ⊢
  have hl : lv_has ls 5 [(0, .ref γ), (1, .int (nI a)), (2, .int (nI v)), (3, .int dn), (4, .int p1)] := hl
  refine lv_aload_n hx hb dL_isPadded_0 rfl (lv_at hl 0 rfl) ?_
  refine nwV0 (As := []) (rest := []) (o_wipe l tb hI) hF (cwV 0 hts gL_isPadded_X4_wipe rfl rfl rfl (by decide +kernel) ⟨Nat.le_of_ble_eq_true rfl, Nat.le_of_ble_eq_true rfl⟩) (hI.recv hK hP) hK hP hD hS hA hT rfl hl.1 rfl (Nat.le_of_ble_eq_true rfl) dL_isPadded_1 ⟨Nat.le_of_ble_eq_true rfl, Nat.le_of_ble_eq_true rfl⟩ (fun W1 H locs hI2 hP hD hS => ?_)
  refine lv_if_lt (tgt := 80) hx hb dL_isPadded_4 (by decide) (fun h9 : (p_le V.2.1) < 0 => absurd h9 (show ¬ ((p_le V.2.1) < 0) from (by rw [hpl]; decide))) (fun _ => ?_)
  refine lv_aload_n hx hb dL_isPadded_7 rfl (lv_at hl 0 rfl) ?_
  refine lv_iload_n hx hb dL_isPadded_8 rfl (lv_at hl 2 rfl) ?_
  refine lv_if_ge (tgt := 18) hx hb dL_isPadded_9 (by decide) (fun _ => ?_) (fun h9 : ¬ ((0 : Int32) ≤ (nI v)) => absurd (show (0 : Int32) ≤ (nI v) from nI_pos' (by omega)) h9)
  refine lv_ldc2 (v := 119) hx hb hown (hts (.constantLong RL 21 (119)) (by decide +kernel)) dL_isPadded_18 ?_
  obtain ⟨ϖ1, hP1, hk1, he1⟩ := put2 (PTx.clear V.2.1) (k := 0) rfl (by omega) (m := 119) (by omega) (by omega)
  rw [← show (119 : Int64) = (nI 119).toInt64 from by decide] at he1
  refine nwV0 (As := [.long 119]) (rest := []) (o_put l tb hI2 119 (nI (0 + 1)) ϖ1 he1) hF (cwV 1 hts gL_isPadded_X4_put rfl rfl rfl (by decide +kernel) ⟨Nat.le_of_ble_eq_true rfl, Nat.le_of_ble_eq_true rfl⟩) (hI2.recv hK hP) hK hP hD hS hA hT rfl hl.1 rfl (Nat.le_of_ble_eq_true rfl) dL_isPadded_21 ⟨Nat.le_of_ble_eq_true rfl, Nat.le_of_ble_eq_true rfl⟩ (fun W3 H locs hI4 hP hD hS => ?_)
  refine lv_if_le (tgt := 80) hx hb dL_isPadded_24 (by decide) (fun h9 : (nI (0 + 1)) ≤ 0 => absurd h9 (show ¬ ((nI (0 + 1)) ≤ 0) from nI_nle (by omega) (by omega))) (fun _ => ?_)
  refine lv_aload_n hx hb dL_isPadded_27 rfl (lv_at hl 0 rfl) ?_
  refine lv_iload_n hx hb dL_isPadded_28 rfl (lv_at hl 1 rfl) ?_
  refine nwS0 (As := [.ref γ, .int (nI a)]) (rest := []) (c_L_number l G tb hI4 hP1 hk1 (by omega) (v := a) (by omega)) hF (va_cwS 2 hts gL_isPadded_L_number rfl rfl rfl (by decide +kernel) ⟨Nat.le_of_ble_eq_true rfl, Nat.le_of_ble_eq_true rfl⟩) hK hP hD hS hA hT rfl hl.1 rfl (Nat.le_of_ble_eq_true rfl) dL_isPadded_29 ⟨Nat.le_of_ble_eq_true rfl, Nat.le_of_ble_eq_true rfl⟩ (fun W5 H locs hI6 hP hD hS => ?_)
  obtain ⟨ϖ2, hI6p, hI6b⟩ := hI6
  have hNϖ2 := hI6p
  refine lv_if_eq (tgt := 80) hx hb dL_isPadded_32 (by decide) (fun h9 : (1 : Int32) = 0 => absurd h9 (show ¬ ((1 : Int32) = 0) from (by decide))) (fun _ => ?_)
  refine lv_iload_n hx hb dL_isPadded_35 rfl (lv_at hl 2 rfl) ?_
  refine lv_if_lt (tgt := 57) hx hb dL_isPadded_36 (by decide) (fun h9 : (nI v) < 0 => absurd h9 (show ¬ ((nI v) < 0) from nI_pos (by omega))) (fun _ => ?_)
  refine lv_aload_n hx hb dL_isPadded_39 rfl (lv_at hl 0 rfl) ?_
  refine lv_ldc2 (v := 61) hx hb hown (hts (.constantLong RL 29 (61)) (by decide +kernel)) dL_isPadded_40 ?_
  obtain ⟨n2, hk2⟩ : ∃ n2, ((([] : List Int32) ++ [nI 119]) ++ digs a).length = n2 := ⟨_, rfl⟩
  have hn2 : n2 ≤ 4 := by rw [← hk2, List.length_append, hk1]; have := digsL (v := a) (by omega); omega
  obtain ⟨ϖ3, hP3, hk3, he3⟩ := put2 hNϖ2 (k := n2) hk2 (by omega) (m := 61) (by omega) (by omega)
  rw [← show (61 : Int64) = (nI 61).toInt64 from by decide] at he3
  refine nwV0 (As := [.long 61]) (rest := []) (o_put l tb hI6b 61 (nI (n2 + 1)) ϖ3 he3) hF (cwV 1 hts gL_isPadded_X4_put rfl rfl rfl (by decide +kernel) ⟨Nat.le_of_ble_eq_true rfl, Nat.le_of_ble_eq_true rfl⟩) (hI6b.recv hK hP) hK hP hD hS hA hT rfl hl.1 rfl (Nat.le_of_ble_eq_true rfl) dL_isPadded_43 ⟨Nat.le_of_ble_eq_true rfl, Nat.le_of_ble_eq_true rfl⟩ (fun W7 H locs hI8 hP hD hS => ?_)
  refine lv_if_le (tgt := 80) hx hb dL_isPadded_46 (by decide) (fun h9 : (nI (n2 + 1)) ≤ 0 => absurd h9 (show ¬ ((nI (n2 + 1)) ≤ 0) from nI_nle (by omega) (by omega))) (fun _ => ?_)
  refine lv_aload_n hx hb dL_isPadded_49 rfl (lv_at hl 0 rfl) ?_
  refine lv_iload_n hx hb dL_isPadded_50 rfl (lv_at hl 2 rfl) ?_
  refine nwS0 (As := [.ref γ, .int (nI v)]) (rest := []) (c_L_number l G tb hI8 hP3 hk3 (by omega) (v := v) hv) hF (va_cwS 2 hts gL_isPadded_L_number rfl rfl rfl (by decide +kernel) ⟨Nat.le_of_ble_eq_true rfl, Nat.le_of_ble_eq_true rfl⟩) hK hP hD hS hA hT rfl hl.1 rfl (Nat.le_of_ble_eq_true rfl) dL_isPadded_51 ⟨Nat.le_of_ble_eq_true rfl, Nat.le_of_ble_eq_true rfl⟩ (fun W9 H locs hI10 hP hD hS => ?_)
  obtain ⟨ϖ4, hI10p, hI10b⟩ := hI10
  have hNϖ4 := hI10p
  refine lv_if_eq (tgt := 80) hx hb dL_isPadded_54 (by decide) (fun h9 : (1 : Int32) = 0 => absurd h9 (show ¬ ((1 : Int32) = 0) from (by decide))) (fun _ => ?_)
  refine lv_aload_n hx hb dL_isPadded_57 rfl (lv_at hl 0 rfl) ?_
  have hrun : Runs ϖ4 V.1 p1 dn σ' := by rw [hdv]; have h9 := runW hDv ha (v := v) hv hNϖ4 p1; rw [hrq] at h9; exact h9
  have hdn : ¬ dn < 0 := by rw [hdv]; split <;> decide
  refine nwV0 (As := []) (rest := []) (o_fault l tb hI10b (-6) (fun ρ => by obtain ⟨τ1, τ2, r1, r2, r3, r4⟩ := hrun ρ; exact ⟨by rw [r1], r2⟩)) hF (cwV 0 hts gL_isPadded_X4_fault rfl rfl rfl (by decide +kernel) ⟨Nat.le_of_ble_eq_true rfl, Nat.le_of_ble_eq_true rfl⟩) (hI10b.recv hK hP) hK hP hD hS hA hT rfl hl.1 rfl (Nat.le_of_ble_eq_true rfl) dL_isPadded_58 ⟨Nat.le_of_ble_eq_true rfl, Nat.le_of_ble_eq_true rfl⟩ (fun W11 H locs hI12 hP hD hS => ?_)
  refine lv_bipush (v := (-6)) hx hb dL_isPadded_61 (by decide) ?_
  refine lv_icmp_ne (tgt := 80) hx hb dL_isPadded_63 (by decide) (fun h9 : ¬ ((-6 : Int32) = (-6)) => absurd (show (-6 : Int32) = (-6) from (by decide)) h9) (fun _ => ?_)
  refine lv_aload_n hx hb dL_isPadded_66 rfl (lv_at hl 0 rfl) ?_
  refine lv_iload hx hb dL_isPadded_67 (lv_at hl 4 rfl) ?_
  refine nwV0 (As := [.int p1]) (rest := []) (o_run l tb hI12 hrun hdn) hF (cwV 1 hts gL_isPadded_X4_run rfl rfl rfl (by decide +kernel) ⟨Nat.le_of_ble_eq_true rfl, Nat.le_of_ble_eq_true rfl⟩) (hI12.recv hK hP) hK hP hD hS hA hT rfl hl.1 rfl (Nat.le_of_ble_eq_true rfl) dL_isPadded_69 ⟨Nat.le_of_ble_eq_true rfl, Nat.le_of_ble_eq_true rfl⟩ (fun W13 H locs hI14 hP hD hS => ?_)
  refine lv_iload_n hx hb dL_isPadded_72 rfl (lv_at hl 3 rfl) ?_
  refine lv_icmp_ne (tgt := 80) hx hb dL_isPadded_73 (by decide) (fun h9 : ¬ (dn = dn) => absurd (show dn = dn from rfl) h9) (fun _ => ?_)
  refine lv_iconst (v := 1) hx hb dL_isPadded_76 (by decide) ?_
  refine lv_goto (tgt := 81) hx hb dL_isPadded_77 (by decide) ?_
  subst hA9
  refine W.widen (k := 6) (n := 818) (Nat.le_of_ble_eq_true rfl) (Nat.le_of_ble_eq_true rfl) ?_
  rw [hQ]
  exact W.zret (ty := .boolean) hx hb hr rfl (fun t ht hW => ⟨rfl, ⟨_, ⟨_, rfl, hI14⟩, by rw [ht]; exact hP, hD⟩, hS.F ht⟩) hS.2.2 dL_isPadded_81
