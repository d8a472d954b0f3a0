/-! the pad's text, put together and read -/
theorem okSigL (p : Int64) : ∀ (n k : Nat) (v : Int64), k ≤ 8 → 8 - k < n → okL1_X4_signsIn p n v (nI k)
  | 0, k, v, hk, hn => absurd hn (Nat.not_lt_zero _)
  | n + 1, k, v, hk, hn => by
    unfold okL1_X4_signsIn
    refine ⟨fun _ => trivial, fun _ => ⟨fun _ => trivial, fun h8 => ⟨fun _ => trivial, fun _ => ⟨fun _ => ?_, fun _ => trivial⟩⟩⟩⟩
    have hk8 : k ≠ 8 := fun e => by subst e; exact h8 (Int32.le_refl _)
    rw [nI_1]
    exact okSigL p n (k + 1) _ (by omega) (by omega)
theorem okSig (p : Int64) : ok_X4_signsIn p := by
  have h := okSigL p FU 0 p (by omega) (fuel (by omega))
  rw [nI_0] at h
  exact h
set_option maxRecDepth 100000 in
theorem sg1 : ∀ m : Fin 127, 33 ≤ m.val → (s_X4_signsIn (nI m.val).toInt64 = 1 ∧ chR (nI m.val).toInt64 1 0 = nI m.val) := by decide +kernel
def PTx (ϖ : PS) (txt : List Int32) : Prop := txt.length ≤ 60 ∧ p_le ϖ = nI txt.length ∧ ∀ j, j < txt.length → txt[j]? = some (p_si ϖ j)
theorem PTx.clear (ϖ : PS) : PTx (s_X2_clear ϖ) [] := ⟨Nat.zero_le _, rfl, fun j hj => absurd hj (Nat.not_lt_zero _)⟩
theorem put1 {ϖ : PS} {txt : List Int32} (hP : PTx ϖ txt) (hl : txt.length < 60) {m : Nat} (h1 : 33 ≤ m) (h2 : m ≤ 126) : ∃ ϖ', PTx ϖ' (txt ++ [nI m]) ∧ ∀ (ρ : QS) (σ τ : DS) (hs : HS), s_X4_put ρ ϖ σ τ hs (nI m).toInt64 = (nI (txt.length + 1), ϖ') ∧ ok_X4_put ρ ϖ σ τ hs (nI m).toInt64 := by
  obtain ⟨l0, l1, l3⟩ := hP
  obtain ⟨e4, e5⟩ := sg1 ⟨m, by omega⟩ h1
  have e4 : s_X4_signsIn (nI m).toInt64 = 1 := e4
  have e5 : chR (nI m).toInt64 1 0 = nI m := e5
  obtain ⟨si, a1, a2, a3⟩ := appL ϖ (nI m).toInt64 1 (n := 1) (L := txt.length) (by omega) 1 FU ϖ (fuel (by omega)) (Nat.le_refl _) (by omega) (by rw [l1, Nat.sub_self]; rfl)
  have ea : s_X2_append ϖ (nI m).toInt64 1 = L1_X2_append ϖ (nI m).toInt64 1 FU (vr 1) ϖ := rfl
  have h60 : p_le ϖ + 1 ≤ 60 := by
    rw [l1, nI_1]
    exact nI_le (b := 60) (by omega) (by omega)
  refine ⟨(si, nI (txt.length + 1)), ⟨by rw [List.length_append]; exact hl, by rw [List.length_append]; rfl, fun j hj => ?_⟩, fun ρ σ τ hs => ⟨?_, ?_⟩⟩
  · rw [List.length_append, List.length_singleton] at hj
    show (txt ++ [nI m])[j]? = some (si j)
    rw [a2 j]
    by_cases q : j < txt.length
    · rw [List.getElem?_append_left q, if_neg (fun z => by omega)]
      exact l3 j q
    · have ej : j = txt.length := by omega
      subst ej
      rw [if_pos (show txt.length + (1 - 1) ≤ txt.length ∧ txt.length < txt.length + 1 from by omega), Nat.sub_self, e5, List.getElem?_append_right (Nat.le_refl _), Nat.sub_self]
      rfl
  · unfold s_X4_put
    rw [e4, if_pos (Int32.le_refl _), if_pos h60, ea, a1]
    rfl
  · unfold ok_X4_put
    rw [e4]
    exact ⟨okSig _, fun _ => ⟨fun _ => a3, fun h => absurd h60 h⟩, fun h => absurd (Int32.le_refl _) h⟩
def digs (v : Nat) : List Int32 := (if v < 100 then [] else [nI (48 + v / 100)]) ++ ((if v < 10 then [] else [nI (48 + v / 10 % 10)]) ++ [nI (48 + v % 10)])
theorem digs1 {v : Nat} (h : v < 10) : digs v = [nI (48 + v)] := by
  unfold digs
  rw [if_pos (show v < 100 from by omega), if_pos h, Nat.mod_eq_of_lt h]
  rfl
theorem digs2 {v : Nat} (h : ¬ v < 10) (h2 : v < 100) : digs v = [nI (48 + v / 10), nI (48 + v % 10)] := by
  unfold digs
  rw [if_pos h2, if_neg h, Nat.mod_eq_of_lt (show v / 10 < 10 from by omega)]
  rfl
theorem digs3 {v : Nat} (h2 : ¬ v < 100) : digs v = [nI (48 + v / 100), nI (48 + v / 10 % 10), nI (48 + v % 10)] := by
  unfold digs
  rw [if_neg h2, if_neg (show ¬ v < 10 from by omega)]
  rfl
theorem dgI {d : Nat} (h : d ≤ 9) : dig (nI (48 + d)) ∧ nI (48 + d) - 48 = nI d := by
  refine ⟨⟨show ¬ nI (48 + d) < (48 : Int32) from nI_nlt (b := 48) (by omega) (by omega), show ¬ (57 : Int32) < nI (48 + d) from nI_nlt (a := 57) (by omega) (by omega)⟩, ?_⟩
  rw [show (48 : Int32) = nI 48 from rfl, pk_sub (by omega), Nat.add_sub_cancel_left]
section RDN
variable {ρ : QS} {π : PS} {L i : Nat}
/-- a number's digits, from the place where the first is due -/
theorem PPa (hL : L ≤ 60) (hl : p_le π = nI L) {a : Nat} (ha : a < 192) (hi : i + (digs a).length ≤ L) (hd : ∀ j, j < (digs a).length → (digs a)[j]? = some (p_si π (i + j))) (ad nu tr : NI) : ∃ ad' : NI, ad' 0 = nI a ∧ PP ρ π i (Q5 ad nu tr (nI (0 + 1)) 1) = PP ρ π (i + (digs a).length) (Q5 ad' nu tr (nI (0 + 1)) 2) := by
  by_cases h1 : a < 10
  · rw [digs1 h1] at hi hd ⊢
    have c0 : p_si π i = nI (48 + a) := (Option.some.inj (hd 0 (Nat.le_of_ble_eq_true rfl))).symm
    obtain ⟨q1, q2⟩ := dgI (d := a) (by omega)
    obtain ⟨t1, t2⟩ := (T1 (ad := ad) (nu := nu) (tr := tr) (r := 0) (c := p_si π i) (by omega)).1 (by rw [c0]; exact q1)
    refine ⟨upd ad 0 (nI a), pk_us, ?_⟩
    rw [PP_go hL hl (by simp at hi; omega) t1 t2, c0, q2]
    rfl
  · by_cases h2 : a < 100
    · rw [digs2 h1 h2] at hi hd ⊢
      have c0 : p_si π i = nI (48 + a / 10) := (Option.some.inj (hd 0 (Nat.le_of_ble_eq_true rfl))).symm
      have c1 : p_si π (i + 1) = nI (48 + a % 10) := (Option.some.inj (hd 1 (Nat.le_of_ble_eq_true rfl))).symm
      obtain ⟨q1, q2⟩ := dgI (d := a / 10) (by omega)
      obtain ⟨q3, q4⟩ := dgI (d := a % 10) (by omega)
      obtain ⟨t1, t2⟩ := (T1 (ad := ad) (nu := nu) (tr := tr) (r := 0) (c := p_si π i) (by omega)).1 (by rw [c0]; exact q1)
      have e1 : upd ad 0 (p_si π i - 48) 0 = nI (a / 10) := by rw [pk_us, c0, q2]
      obtain ⟨t3, t4⟩ := T2_yes (ad := upd ad 0 (p_si π i - 48)) (nu := nu) (tr := tr) (r := 0) (c := p_si π (i + 1)) (by omega) e1 (by omega) (by omega) (by rw [c1]; exact q3) (by rw [c1]; exact q4) (by omega) (by omega)
      refine ⟨upd (upd ad 0 (p_si π i - 48)) 0 (nI (10 * (a / 10) + a % 10)), ?_, ?_⟩
      · rw [pk_us]
        congr 1
        omega
      · simp at hi
        rw [PP_go hL hl (by omega) t1 t2, PP_go hL hl (by omega) t3 t4]
        rfl
    · rw [digs3 h2] at hi hd ⊢
      have c0 : p_si π i = nI (48 + a / 100) := (Option.some.inj (hd 0 (Nat.le_of_ble_eq_true rfl))).symm
      have c1 : p_si π (i + 1) = nI (48 + a / 10 % 10) := (Option.some.inj (hd 1 (Nat.le_of_ble_eq_true rfl))).symm
      have c2 : p_si π (i + 2) = nI (48 + a % 10) := (Option.some.inj (hd 2 (Nat.le_of_ble_eq_true rfl))).symm
      obtain ⟨q1, q2⟩ := dgI (d := a / 100) (by omega)
      obtain ⟨q3, q4⟩ := dgI (d := a / 10 % 10) (by omega)
      obtain ⟨q5, q6⟩ := dgI (d := a % 10) (by omega)
      obtain ⟨t1, t2⟩ := (T1 (ad := ad) (nu := nu) (tr := tr) (r := 0) (c := p_si π i) (by omega)).1 (by rw [c0]; exact q1)
      have e1 : upd ad 0 (p_si π i - 48) 0 = nI (a / 100) := by rw [pk_us, c0, q2]
      obtain ⟨t3, t4⟩ := T2_yes (ad := upd ad 0 (p_si π i - 48)) (nu := nu) (tr := tr) (r := 0) (c := p_si π (i + 1)) (by omega) e1 (by omega) (by omega) (by rw [c1]; exact q3) (by rw [c1]; exact q4) (by omega) (by omega)
      obtain ⟨t5, t6⟩ := T2_yes (ad := upd (upd ad 0 (p_si π i - 48)) 0 (nI (10 * (a / 100) + a / 10 % 10))) (nu := nu) (tr := tr) (r := 0) (c := p_si π (i + 2)) (by omega) pk_us (by omega) (by omega) (by rw [c2]; exact q5) (by rw [c2]; exact q6) (by omega) (by omega)
      refine ⟨upd (upd (upd ad 0 (p_si π i - 48)) 0 (nI (10 * (a / 100) + a / 10 % 10))) 0 (nI (10 * (10 * (a / 100) + a / 10 % 10) + a % 10)), ?_, ?_⟩
      · rw [pk_us]
        congr 1
        omega
      · simp at hi
        rw [PP_go hL hl (by omega) t1 t2, PP_go hL hl (by omega) t3 t4, PP_go hL hl (by omega) t5 t6]
        rfl
theorem PPn (hL : L ≤ 60) (hl : p_le π = nI L) {a : Nat} (ha : a < 256) (hi : i + (digs a).length ≤ L) (hd : ∀ j, j < (digs a).length → (digs a)[j]? = some (p_si π (i + j))) (ad nu tr : NI) : ∃ nu' : NI, nu' 0 = nI a ∧ PP ρ π i (Q5 ad nu tr (nI (0 + 1)) 3) = PP ρ π (i + (digs a).length) (Q5 ad nu' tr (nI (0 + 1)) 4) := by
  by_cases h1 : a < 10
  · rw [digs1 h1] at hi hd ⊢
    have c0 : p_si π i = nI (48 + a) := (Option.some.inj (hd 0 (Nat.le_of_ble_eq_true rfl))).symm
    obtain ⟨q1, q2⟩ := dgI (d := a) (by omega)
    obtain ⟨t1, t2⟩ := (T3 (ad := ad) (nu := nu) (tr := tr) (r := 0) (c := p_si π i) (by omega)).1 (by rw [c0]; exact q1)
    refine ⟨upd nu 0 (nI a), pk_us, ?_⟩
    rw [PP_go hL hl (by simp at hi; omega) t1 t2, c0, q2]
    rfl
  · by_cases h2 : a < 100
    · rw [digs2 h1 h2] at hi hd ⊢
      have c0 : p_si π i = nI (48 + a / 10) := (Option.some.inj (hd 0 (Nat.le_of_ble_eq_true rfl))).symm
      have c1 : p_si π (i + 1) = nI (48 + a % 10) := (Option.some.inj (hd 1 (Nat.le_of_ble_eq_true rfl))).symm
      obtain ⟨q1, q2⟩ := dgI (d := a / 10) (by omega)
      obtain ⟨q3, q4⟩ := dgI (d := a % 10) (by omega)
      obtain ⟨t1, t2⟩ := (T3 (ad := ad) (nu := nu) (tr := tr) (r := 0) (c := p_si π i) (by omega)).1 (by rw [c0]; exact q1)
      have e1 : upd nu 0 (p_si π i - 48) 0 = nI (a / 10) := by rw [pk_us, c0, q2]
      obtain ⟨t3, t4⟩ := T4_yes (ad := ad) (nu := upd nu 0 (p_si π i - 48)) (tr := tr) (r := 0) (c := p_si π (i + 1)) (by omega) e1 (by omega) (by omega) (by rw [c1]; exact q3) (by rw [c1]; exact q4) (by omega) (by omega)
      refine ⟨upd (upd nu 0 (p_si π i - 48)) 0 (nI (10 * (a / 10) + a % 10)), ?_, ?_⟩
      · rw [pk_us]
        congr 1
        omega
      · simp at hi
        rw [PP_go hL hl (by omega) t1 t2, PP_go hL hl (by omega) t3 t4]
        rfl
    · rw [digs3 h2] at hi hd ⊢
      have c0 : p_si π i = nI (48 + a / 100) := (Option.some.inj (hd 0 (Nat.le_of_ble_eq_true rfl))).symm
      have c1 : p_si π (i + 1) = nI (48 + a / 10 % 10) := (Option.some.inj (hd 1 (Nat.le_of_ble_eq_true rfl))).symm
      have c2 : p_si π (i + 2) = nI (48 + a % 10) := (Option.some.inj (hd 2 (Nat.le_of_ble_eq_true rfl))).symm
      obtain ⟨q1, q2⟩ := dgI (d := a / 100) (by omega)
      obtain ⟨q3, q4⟩ := dgI (d := a / 10 % 10) (by omega)
      obtain ⟨q5, q6⟩ := dgI (d := a % 10) (by omega)
      obtain ⟨t1, t2⟩ := (T3 (ad := ad) (nu := nu) (tr := tr) (r := 0) (c := p_si π i) (by omega)).1 (by rw [c0]; exact q1)
      have e1 : upd nu 0 (p_si π i - 48) 0 = nI (a / 100) := by rw [pk_us, c0, q2]
      obtain ⟨t3, t4⟩ := T4_yes (ad := ad) (nu := upd nu 0 (p_si π i - 48)) (tr := tr) (r := 0) (c := p_si π (i + 1)) (by omega) e1 (by omega) (by omega) (by rw [c1]; exact q3) (by rw [c1]; exact q4) (by omega) (by omega)
      obtain ⟨t5, t6⟩ := T4_yes (ad := ad) (nu := upd (upd nu 0 (p_si π i - 48)) 0 (nI (10 * (a / 100) + a / 10 % 10))) (tr := tr) (r := 0) (c := p_si π (i + 2)) (by omega) pk_us (by omega) (by omega) (by rw [c2]; exact q5) (by rw [c2]; exact q6) (by omega) (by omega)
      refine ⟨upd (upd (upd nu 0 (p_si π i - 48)) 0 (nI (10 * (a / 100) + a / 10 % 10))) 0 (nI (10 * (10 * (a / 100) + a / 10 % 10) + a % 10)), ?_, ?_⟩
      · rw [pk_us]
        congr 1
        omega
      · simp at hi
        rw [PP_go hL hl (by omega) t1 t2, PP_go hL hl (by omega) t3 t4, PP_go hL hl (by omega) t5 t6]
        rfl
theorem parPP : (s_X3_parse ρ π, ok_X3_parse ρ π) = PP ρ π 0 (Q5 (q_ad ρ) (q_nu ρ) (q_tr ρ) (nI 0) 0) := by
  unfold PP s_X3_parse ok_X3_parse
  rw [nI_0]
  rfl
end RDN
theorem parR {ϖ : PS} {a : Nat} (ha : a < 192) (hP : PTx ϖ ([nI 114] ++ digs a)) (ρ : QS) : ∃ ad nu tr : NI, s_X3_parse ρ ϖ = (-6, Q5 ad nu tr (nI (0 + 1)) 2) ∧ ok_X3_parse ρ ϖ ∧ ad 0 = nI a ∧ nu 0 = -6 := by
  obtain ⟨l0, l1, l3⟩ := hP
  have len : ([nI 114] ++ digs a).length = 1 + (digs a).length := by rw [List.length_append]; rfl
  rw [len] at l0 l1 l3
  have c0 : p_si ϖ 0 = 114 := (Option.some.inj (l3 0 (by omega))).symm
  obtain ⟨t1, t2⟩ := (T0 (ad := q_ad ρ) (nu := q_nu ρ) (tr := q_tr ρ) (r := 0) (c := p_si ϖ 0) (by omega)).2.1 c0
  obtain ⟨ad', e1, e2⟩ := PPa (ρ := ρ) (i := 1) l0 l1 ha (Nat.le_refl _) (fun j hj => by
    rw [← l3 (1 + j) (by omega), List.getElem?_append_right (by simp), List.length_singleton, Nat.add_sub_cancel_left]) (q_ad ρ) (upd (q_nu ρ) 0 (-6)) (q_tr ρ)
  have h := parPP (ρ := ρ) (π := ϖ)
  rw [PP_go l0 l1 (by omega) t1 t2, show 0 + 1 = 1 from rfl, e2, (PE2 l0 l1 ad' (upd (q_nu ρ) 0 (-6)) (q_tr ρ) (r := 0) (by omega)).1 pk_us] at h
  exact ⟨ad', _, _, congrArg Prod.fst h, (congrArg Prod.snd h).mpr trivial, e1, pk_us⟩
theorem parW {ϖ : PS} {a v : Nat} (ha : a < 192) (hv : v < 256) (hP : PTx ϖ (([nI 119] ++ digs a) ++ [nI 61] ++ digs v)) (ρ : QS) : ∃ ad nu tr : NI, s_X3_parse ρ ϖ = (-6, Q5 ad nu tr (nI (0 + 1)) 4) ∧ ok_X3_parse ρ ϖ ∧ ad 0 = nI a ∧ nu 0 = nI v := by
  obtain ⟨l0, l1, l3⟩ := hP
  have len : (([nI 119] ++ digs a) ++ [nI 61] ++ digs v).length = 1 + (digs a).length + 1 + (digs v).length := by simp only [List.length_append, List.length_singleton]
  rw [len] at l0 l1 l3
  have c0 : p_si ϖ 0 = 119 := (Option.some.inj (l3 0 (by omega))).symm
  obtain ⟨t1, t2⟩ := (T0 (ad := q_ad ρ) (nu := q_nu ρ) (tr := q_tr ρ) (r := 0) (c := p_si ϖ 0) (by omega)).1 c0
  obtain ⟨ad', e1, e2⟩ := PPa (ρ := ρ) (i := 1) l0 l1 ha (by omega) (fun j hj => by
    rw [← l3 (1 + j) (by omega), List.append_assoc, List.append_assoc, List.getElem?_append_right (by simp), List.length_singleton, Nat.add_sub_cancel_left, List.getElem?_append_left hj]) (q_ad ρ) (upd (q_nu ρ) 0 0) (q_tr ρ)
  have c1 : p_si ϖ (1 + (digs a).length) = 61 := by
    have h := l3 (1 + (digs a).length) (by omega)
    rw [List.append_assoc, List.getElem?_append_right (by simp; omega)] at h
    have e : 1 + (digs a).length - ([nI 119] ++ digs a).length = 0 := by simp only [List.length_append, List.length_singleton]; omega
    rw [e] at h
    exact (Option.some.inj h).symm
  have nw : ¬ upd (q_nu ρ) 0 0 0 = -6 := by
    rw [pk_us]
    decide
  obtain ⟨t3, t4⟩ := ((T2_no (ad := ad') (nu := upd (q_nu ρ) 0 0) (tr := q_tr ρ) (r := 0) (c := p_si ϖ (1 + (digs a).length)) (v := a) (by omega) e1 (by omega) (fun d _ _ hd _ => by
    rw [c1] at hd
    exact absurd (show (57 : Int32) < 61 from by decide) hd.2)).2 nw).1 c1
  obtain ⟨nu', e3, e4⟩ := PPn (ρ := ρ) (i := 1 + (digs a).length + 1) l0 l1 hv (Nat.le_refl _) (fun j hj => by
    rw [← l3 (1 + (digs a).length + 1 + j) (by omega), List.getElem?_append_right (by simp only [List.length_append, List.length_singleton]; omega)]
    congr 1
    simp only [List.length_append, List.length_singleton]
    omega) ad' (upd (q_nu ρ) 0 0) (q_tr ρ)
  have h := parPP (ρ := ρ) (π := ϖ)
  rw [PP_go l0 l1 (by omega) t1 t2, show 0 + 1 = 1 from rfl, e2, PP_go l0 l1 (by omega) t3 t4, e4, PE4 l0 l1] at h
  exact ⟨ad', _, _, congrArg Prod.fst h, (congrArg Prod.snd h).mpr trivial, e1, e3⟩
theorem noteL {σ : DS} (ρ : QS) (p2 : Int32) {r : Nat} (hr : r ≤ 21) (A : Nat → Nat) (hA : ∀ k, k < r → A k < 192) : ∀ (n i : Nat) (τ : QS), i ≤ r → r - i < n → q_sz τ = nI r → (∀ k, k < r → q_ad τ k = nI (A k)) → ∃ g : NI, L1_X3_noteTracks ρ σ p2 n (nI i) τ = q_tr' τ g ∧ (∀ k, k < r → g k = if i ≤ k then (if p2 = 0 then 0 else s_X4_trackOf (s_X0_sectorFor σ (nI (A k)))) else q_tr τ k) ∧ okL1_X3_noteTracks ρ σ p2 n (nI i) τ
  | 0, i, τ, _, h, _, _ => absurd h (Nat.not_lt_zero _)
  | n + 1, i, τ, hi, hn, hz, ha => by
    by_cases e : i = r
    · subst e
      refine ⟨q_tr τ, ?_, fun k hk => (if_neg (by omega)).symm, ?_⟩
      · rw [L1_X3_noteTracks, hz, if_pos (Int32.le_refl _)]
        rfl
      · rw [okL1_X3_noteTracks, hz]
        exact ⟨fun _ => trivial, fun h => absurd (Int32.le_refl _) h⟩
    · have hlt : ¬ nI r ≤ nI i := nI_ge (by omega) (by omega)
      have e1 : q_tr' τ (s_X4_lay 21 (q_tr τ) (nI i) 0) = q_tr' τ (upd (q_tr τ) i 0) := by rw [lay_nI (by omega) (by omega)]
      have e2 : t1_X3_noteTracks ρ σ p2 (nI i) τ = q_tr' τ (upd (q_tr τ) i (s_X4_trackOf (s_X0_sectorFor σ (nI (A i))))) := by
        unfold t1_X3_noteTracks
        rw [at_nI (show i < 21 from by omega) (by omega), lay_nI (by omega) (by omega), ha i (by omega)]
      have go : ∀ x : Int32, x = (if p2 = 0 then 0 else s_X4_trackOf (s_X0_sectorFor σ (nI (A i)))) → ∃ g : NI, L1_X3_noteTracks ρ σ p2 n (nI (i + 1)) (q_tr' τ (upd (q_tr τ) i x)) = q_tr' τ g ∧ (∀ k, k < r → g k = if i ≤ k then (if p2 = 0 then 0 else s_X4_trackOf (s_X0_sectorFor σ (nI (A k)))) else q_tr τ k) ∧ okL1_X3_noteTracks ρ σ p2 n (nI (i + 1)) (q_tr' τ (upd (q_tr τ) i x)) := by
        intro x hx
        obtain ⟨g, g1, g2, g3⟩ := noteL ρ p2 hr A hA n (i + 1) (q_tr' τ (upd (q_tr τ) i x)) (by omega) (by omega) hz ha
        refine ⟨g, ?_, fun k hk => ?_, g3⟩
        · rw [g1]
          rfl
        · rw [g2 k hk]
          show (if i + 1 ≤ k then _ else upd (q_tr τ) i x k) = _
          by_cases hki : k = i
          · subst hki
            rw [if_neg (by omega), if_pos (Nat.le_refl _), pk_us, hx]
          · rw [pk_un hki]
            by_cases h2 : i + 1 ≤ k
            · rw [if_pos h2, if_pos (show i ≤ k from by omega)]
            · rw [if_neg h2, if_neg (show ¬ i ≤ k from by omega)]
      by_cases hp : p2 = 0
      · obtain ⟨g, g1, g2, g3⟩ := go 0 (by rw [if_pos hp])
        refine ⟨g, ?_, g2, ?_⟩
        · rw [L1_X3_noteTracks, hz, if_neg hlt, if_pos hp, nI_1, e1]
          exact g1
        · rw [okL1_X3_noteTracks, hz, nI_1, e1]
          exact ⟨fun h => absurd h hlt, fun _ => ⟨fun _ => g3, fun h => absurd hp h⟩⟩
      · obtain ⟨g, g1, g2, g3⟩ := go _ (by rw [if_neg hp])
        refine ⟨g, ?_, g2, ?_⟩
        · rw [L1_X3_noteTracks, hz, if_neg hlt, if_neg hp, nI_1, e2]
          exact g1
        · rw [okL1_X3_noteTracks, hz, nI_1, e2]
          exact ⟨fun h => absurd h hlt, fun _ => ⟨fun h => absurd h hp, fun _ => g3⟩⟩
/-- one request alone -/
theorem doOnL {σ0 : DS} (ρ : QS) (p2 : Int32) {t0 : Nat} (ht0 : t0 ≤ 16) (hz : q_sz (s_X3_noteTracks ρ σ0 p2) = nI (0 + 1)) (ht : q_tr (s_X3_noteTracks ρ σ0 p2) 0 = nI t0) : ∀ (n t : Nat) (acc : Int32) (D : DS), t ≤ 17 → 17 - t < n → L1_X3_doOn ρ σ0 p2 n acc (nI t) D = (if t ≤ t0 then (acc + (s_X3_doOne (s_X3_noteTracks ρ σ0 p2) D 0).1, s_X3_noteTracks ρ σ0 p2, (s_X3_doOne (s_X3_noteTracks ρ σ0 p2) D 0).2) else (acc, s_X3_noteTracks ρ σ0 p2, D)) ∧ okL1_X3_doOn ρ σ0 p2 n acc (nI t) D
  | 0, t, acc, D, h1, h2 => absurd h2 (Nat.not_lt_zero _)
  | n + 1, t, acc, D, h1, h2 => by
    by_cases e : t = 17
    · subst e
      rw [L1_X3_doOn, okL1_X3_doOn, if_pos (show (16 : Int32) < nI 17 from by decide), if_neg (show ¬ 17 ≤ t0 from by omega)]
      exact ⟨rfl, fun _ => trivial, fun h => absurd (show (16 : Int32) < nI 17 from by decide) h⟩
    · have hn : ¬ (16 : Int32) < nI t := nI_nlt (a := 16) (by omega) (by omega)
      have z0 : ¬ nI (0 + 1) ≤ (0 : Int32) := by decide
      have z1 : nI (0 + 1) ≤ (0 : Int32) + 1 := by decide
      have at0 : s_X4_at 21 (q_tr (s_X3_noteTracks ρ σ0 p2)) 0 = nI t0 := by
        have h9 : s_X4_at 21 (q_tr (s_X3_noteTracks ρ σ0 p2)) (nI 0) = q_tr (s_X3_noteTracks ρ σ0 p2) 0 := at_nI (by omega) (by omega)
        rw [nI_0] at h9
        exact h9.trans ht
      have l2 : ∀ (acc1 : Int32) (D1 : DS) (K9 : Int32 → Int32 → DS → Int32 × QS × DS) (x : Int32) (D' : DS), L2_X3_doOn ρ σ0 p2 acc1 (nI t) D1 K9 (5998 + 1) x (0 + 1) D' = K9 x (nI (t + 1)) D' := fun acc1 D1 K9 x D' => by
        rw [L2_X3_doOn, hz, if_pos z1, nI_1]
      have o2 : ∀ (acc1 : Int32) (D1 : DS) (K9 : Int32 → Int32 → DS → Prop) (x : Int32) (D' : DS), K9 x (nI (t + 1)) D' → okL2_X3_doOn ρ σ0 p2 acc1 (nI t) D1 K9 (5998 + 1) x (0 + 1) D' := fun acc1 D1 K9 x D' h => by
        rw [okL2_X3_doOn, hz, nI_1]
        exact ⟨fun _ => h, fun h9 => absurd z1 h9⟩
      rw [L1_X3_doOn, okL1_X3_doOn, if_neg hn, show FU = 5998 + 1 + 1 from rfl, L2_X3_doOn, okL2_X3_doOn, hz, if_neg z0, at0]
      by_cases q : t0 = t
      · subst q
        obtain ⟨i1, i2⟩ := doOnL ρ p2 ht0 hz ht n (t0 + 1) (acc + (s_X3_doOne (s_X3_noteTracks ρ σ0 p2) D 0).1) (s_X3_doOne (s_X3_noteTracks ρ σ0 p2) D 0).2 (by omega) (by omega)
        rw [if_pos rfl, if_pos (Nat.le_refl _), l2]
        rw [if_neg (show ¬ t0 + 1 ≤ t0 from by omega)] at i1
        exact ⟨i1, fun h => absurd h hn, fun _ => ⟨fun h => absurd h z0, fun _ => ⟨fun _ => o2 _ _ _ _ _ i2, fun h => absurd rfl h⟩⟩⟩
      · have hne : ¬ nI t0 = nI t := fun h => q (nI_inj (by omega) (by omega) h)
        obtain ⟨i1, i2⟩ := doOnL ρ p2 ht0 hz ht n (t + 1) acc D (by omega) (by omega)
        rw [if_neg hne, l2]
        refine ⟨?_, fun h => absurd h hn, fun _ => ⟨fun h => absurd h z0, fun _ => ⟨fun h => absurd h hne, fun _ => o2 _ _ _ _ _ i2⟩⟩⟩
        rw [i1]
        by_cases q2 : t ≤ t0
        · rw [if_pos q2, if_pos (show t + 1 ≤ t0 from by omega)]
        · rw [if_neg q2, if_neg (show ¬ t + 1 ≤ t0 from by omega)]
/-- one request of the pad, read or written -/
def rqV (σ : DS) (a : Nat) (v : Int32) : Int32 × DS := if v = -6 then s_X0_readFrom σ (nI a) else s_X0_writeTo σ (nI a) v
theorem doOn1 {σ : DS} {K : Nat} (h : Dv K σ) {a : Nat} (ha : a < 192) {ad nu tr : NI} (e1 : ad 0 = nI a) (p pl : Int32) : ∃ τ2, s_X3_doOn (Q5 ad nu tr (nI (0 + 1)) pl) σ p = (if 0 ≤ (rqV σ a (nu 0)).1 then 1 else 0, τ2, (rqV σ a (nu 0)).2) ∧ ok_X3_doOn (Q5 ad nu tr (nI (0 + 1)) pl) σ p := by
  obtain ⟨g, g1, g2, g3⟩ := noteL (σ := σ) (Q5 ad nu tr (nI (0 + 1)) pl) p (r := 0 + 1) (by omega) (fun _ => a) (fun _ _ => ha) FU 0 (Q5 ad nu tr (nI (0 + 1)) pl) (by omega) (fuel (by omega)) rfl (fun k hk => by
    have : k = 0 := by omega
    subst this
    exact e1)
  rw [nI_0] at g1 g3
  have eN : s_X3_noteTracks (Q5 ad nu tr (nI (0 + 1)) pl) σ p = q_tr' (Q5 ad nu tr (nI (0 + 1)) pl) g := g1
  obtain ⟨c, hc, ec, -⟩ := secD h ha
  have e0 : g 0 = if p = 0 then 0 else s_X4_trackOf (s_X0_sectorFor σ (nI a)) := by
    rw [g2 0 (by omega), if_pos (Nat.le_refl _)]
  have et : ∃ t0, t0 ≤ 16 ∧ g 0 = nI t0 := by
    by_cases q : p = 0
    · exact ⟨0, by omega, by rw [e0, if_pos q]; rfl⟩
    · exact ⟨c / 12, by omega, by rw [e0, if_neg q, sfor σ ha, ec, trackO hc]⟩
  obtain ⟨t0, ht0, et0⟩ := et
  obtain ⟨d1, d2⟩ := doOnL (σ0 := σ) (Q5 ad nu tr (nI (0 + 1)) pl) p ht0 (by rw [eN]; rfl) (by rw [eN]; exact et0) FU 0 0 σ (by omega) (fuel (by omega))
  rw [nI_0, if_pos (Nat.zero_le _)] at d1
  rw [nI_0] at d2
  have eD : s_X3_doOne (s_X3_noteTracks (Q5 ad nu tr (nI (0 + 1)) pl) σ p) σ 0 = (if 0 ≤ (rqV σ a (nu 0)).1 then 1 else 0, (rqV σ a (nu 0)).2) := by
    rw [eN]
    have a0 : s_X4_at 21 (q_ad (q_tr' (Q5 ad nu tr (nI (0 + 1)) pl) g)) 0 = nI a := by
      have h9 : s_X4_at 21 ad (nI 0) = ad 0 := at_nI (by omega) (by omega)
      rw [nI_0] at h9
      exact h9.trans e1
    have n0 : s_X4_at 21 (q_nu (q_tr' (Q5 ad nu tr (nI (0 + 1)) pl) g)) 0 = nu 0 := by
      have h9 : s_X4_at 21 nu (nI 0) = nu 0 := at_nI (by omega) (by omega)
      rw [nI_0] at h9
      exact h9
    have w0 : s_X3_isWriting (q_tr' (Q5 ad nu tr (nI (0 + 1)) pl) g) 0 = if nu 0 = -6 then 0 else 1 := by
      unfold s_X3_isWriting
      rw [n0]
    unfold s_X3_doOne t1_X3_doOne rqV
    rw [w0, a0, n0]
    by_cases q : nu 0 = -6
    · rw [if_pos q, if_pos rfl, if_pos q]
      by_cases q2 : 0 ≤ (s_X0_readFrom σ (nI a)).1
      · rw [if_pos q2, if_pos q2]
      · rw [if_neg q2, if_neg q2]
    · rw [if_neg q, if_neg (show ¬ (1 : Int32) = 0 from by decide), if_neg q]
      by_cases q2 : 0 ≤ (s_X0_writeTo σ (nI a) (nu 0)).1
      · rw [if_pos q2, if_pos q2]
      · rw [if_neg q2, if_neg q2]
  refine ⟨s_X3_noteTracks (Q5 ad nu tr (nI (0 + 1)) pl) σ p, ?_, g3, d2⟩
  have hs : s_X3_doOn (Q5 ad nu tr (nI (0 + 1)) pl) σ p = L1_X3_doOn (Q5 ad nu tr (nI (0 + 1)) pl) σ p FU 0 0 σ := rfl
  rw [hs, d1, eD, Int32.zero_add]
theorem runR {σ : DS} {K : Nat} (h : Dv K σ) {a : Nat} (ha : a < 192) {ϖ : PS} (hP : PTx ϖ ([nI 114] ++ digs a)) (p : Int32) : Runs ϖ σ p (if 0 ≤ (s_X0_readFrom σ (nI a)).1 then 1 else 0) (s_X0_readFrom σ (nI a)).2 := by
  intro ρ
  obtain ⟨ad, nu, tr, h1, h2, h3, h4⟩ := parR ha hP ρ
  obtain ⟨τ2, d1, d2⟩ := doOn1 h ha (nu := nu) (tr := tr) h3 p 2
  have er : rqV σ a (nu 0) = s_X0_readFrom σ (nI a) := if_pos h4
  rw [er] at d1
  exact ⟨_, τ2, h1, h2, d1, d2⟩
theorem runW {σ : DS} {K : Nat} (h : Dv K σ) {a v : Nat} (ha : a < 192) (hv : v < 256) {ϖ : PS} (hP : PTx ϖ (([nI 119] ++ digs a) ++ [nI 61] ++ digs v)) (p : Int32) : Runs ϖ σ p (if 0 ≤ (s_X0_writeTo σ (nI a) (nI v)).1 then 1 else 0) (s_X0_writeTo σ (nI a) (nI v)).2 := by
  intro ρ
  obtain ⟨ad, nu, tr, h1, h2, h3, h4⟩ := parW ha hv hP ρ
  obtain ⟨τ2, d1, d2⟩ := doOn1 h ha (nu := nu) (tr := tr) h3 p 4
  have er : rqV σ a (nu 0) = s_X0_writeTo σ (nI a) (nI v) := by
    rw [h4]
    exact if_neg (n6_ne (by omega))
  rw [er] at d1
  exact ⟨_, τ2, h1, h2, d1, d2⟩
