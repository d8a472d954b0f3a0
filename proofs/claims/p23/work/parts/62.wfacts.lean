/-! what isWritten asks holds -/
theorem o_writeE {G : GG} {γ : Nat} {V : OV} {W0 : va_W} (l : Launch) (tb : Nat × Nat × Nat) (hI : OI G γ V W0) {a v : Nat} (ha : a < 192) (hv : v ≤ 255) {k : Int32} {D : DS} (e : s_X0_writeTo V.1 (nI a) (nI v) = (k, D)) (hk : ¬ k < 0) : Nw G l yX4_write wsX4_write 5 133 6 818 [.ref γ, .int (nI a), .int (nI v)] W0 (sT tb) (some (.int k)) (OI G γ (D, V.2.1, V.2.2)) := by
  have h := o_write l tb hI ha hv (fun q => absurd (by rw [e] at q; exact q) hk)
  rw [e] at h
  exact h
theorem n6lt : ((-6 : Int32)) < 0 := by decide
theorem cap99 {B H : Nat} (hB : B ≤ 99) (hH : H ≤ 20) : (if (nI B + nI H) ≤ 99 then (nI B + nI H) else 99) = nI (min 99 (B + H)) := by
  rw [nI_add]
  by_cases h : B + H ≤ 99
  · rw [if_pos (show nI (B + H) ≤ (99 : Int32) from nI_le (b := 99) h (by omega)), Nat.min_eq_right h]
  · rw [if_neg (show ¬ nI (B + H) ≤ (99 : Int32) from nI_ge (a := 99) (by omega) (by omega)), Nat.min_eq_left (by omega)]
    rfl
theorem cap0 {B : Nat} (hB : B ≤ 99) : (if (nI B + 0) ≤ (99 : Int32) then (nI B + 0) else 99) = nI B := by
  rw [Int32.add_zero, if_pos (show nI B ≤ (99 : Int32) from nI_le (b := 99) hB (by omega))]
theorem sub24 {a : Nat} (h : 24 ≤ a) : (nI a) - 24 = nI (a - 24) := pk_sub (a := a) (b := 24) h
theorem wrF {V : OV} {K : Nat} (hDv : Dv K V.1) (hK9 : K + 400 ≤ 9999999) {a v : Nat} (ha : a < 192) (hv : v ≤ 255) : ∃ (k : Nat) (D : DS), s_X0_writeTo V.1 (nI a) (nI v) = (nI k, D) ∧ ¬ nI k < 0 ∧ Dv (K + 400) D ∧ (vS D (nI a) 2) = (nI v) ∧ (vS D (nI a) 3) = 0 ∧
    ((mv35_isWritten V D a = 0 ∧ (vC D 8) = ((vC V.1 8) - 0) ∧ (vS D (nI a) 0) = (vS V.1 (nI a) 0) ∧ (vS D (nI a) 4) = ((vS V.1 (nI a) 4) + 1)) ∨ (¬ mv35_isWritten V D a = 0 ∧ (vC D 8) = ((vC V.1 8) - 1) ∧ (vS D (nI a) 0) = 16 ∧ (vS D (nI a) 1) = ((12 : Int32) - (vC V.1 8)) ∧ (vS D (nI a) 4) = 1)) ∧
    (vC D 11) = ((vC V.1 11) + 1) ∧ ((vC D 13) + (vC D 14)) = (((vC V.1 13) + (vC V.1 14)) + (mv418_isWritten V D a)) ∧ (vC D 6) = (vS D (nI a) 0) ∧ (vC D 5) = ((vC V.1 5) + (nI k)) ∧ (jrem (((vC D 5) - 1) - (vS D (nI a) 1)) 12) = 0 ∧ ¬ ((nI k) ≤ ((mv253_isWritten V D a) * (vC D 4))) ∧ ¬ ((((mv253_isWritten V D a) * (vC D 4)) + 12) < (nI k)) ∧
    (¬ 192 ≤ ((nI a) + 12) → (vS D ((nI a) + 12) 3) = mv588_isWritten V D a) ∧ (¬ (nI a) < 24 → (vS D ((nI a) - 24) 3) = mv620_isWritten V D a) := by
  obtain ⟨c, w, s, t, hh, T, r, D, hc, hw, ec, hd, hs, hsp, hq, ht, hhh, et, eh, hT, eT, hr, hm, hm2, e1, hO, eD5, eD6, σf, eD, hW⟩ := writeD hDv hK9 ha hv
  obtain ⟨f1, f2, f3, f4, f5, f6, f7, f8, f9, f10, H, F, hH, hF, eH, eF, f11⟩ := hW
  have g1 : d_st D = d_st V.1 := by rw [eD]; exact f1
  have g5 : d_nu D = upd (d_nu V.1) w (nI v) := by rw [eD]; exact f5
  have g6 : d_wr D = upd (d_wr V.1) w (d_wr V.1 w + 1) := by rw [eD]; exact f6
  have g7 : d_se D a = nI w := by rw [eD]; exact f7
  have g8 : ∀ b, b ≠ a → d_se D b = d_se V.1 b := by rw [eD]; exact f8
  have g9 : d_sp D = nI (if w = c then s else s + 1) := by rw [eD]; exact f9
  have g10 : d_bl D w = 0 := by rw [eD]; exact f10
  have g11 : ∀ k, k < 204 → k ≠ w → d_bl D k = nI (if w < 192 ∧ k < 192 ∧ d_se V.1 k = nI k ∧ ¬ d_nu V.1 k = -6 then hotB H F w k (bN V.1 k) else bN V.1 k) := by rw [eD]; exact f11
  clear f1 f2 f3 f4 f5 f6 f7 f8 f9 f10 f11 eD
  have s0 : vS D (nI a) 0 = nI (w / 12) := vS0 ha hw g7
  have s1 : vS D (nI a) 1 = nI (w % 12) := vS1 ha hw g7
  have own : mv267_isWritten V D a = if w < 192 then 1 else 0 := by
    unfold mv267_isWritten
    rw [s0]
    by_cases q : w < 192
    · rw [if_pos q, if_neg (show ¬ (16 : Int32) ≤ nI (w / 12) from nI_ge (b := 16) (by omega) (by omega))]
    · rw [if_neg q, if_pos (show (16 : Int32) ≤ nI (w / 12) from nI_le (a := 16) (by omega) (by omega))]
  have own2 : mv418_isWritten V D a = if w < 192 then 1 else 0 := by
    unfold mv418_isWritten
    rw [own]
    by_cases q : w < 192
    · rw [if_pos q, if_neg (by decide)]
    · rw [if_neg q, if_pos rfl]
  have wa : w < 192 → w = a := fun q => by
    rcases hq with ⟨e, -⟩ | ⟨e, -, -, -⟩
    · subst e
      exact hd.resolve_right (by omega)
    · omega
  have e253 : mv253_isWritten V D a = nI (dist hh (w / 12)) := by
    unfold mv253_isWritten
    rw [s0, vC6, eh]
    unfold dist
    by_cases q : hh ≤ w / 12
    · rw [if_pos q]
      by_cases q2 : w / 12 = hh
      · rw [q2, if_pos (Int32.le_refl _), pk_sub (Nat.le_refl _)]
      · rw [if_neg (nI_ge (by omega) (by omega)), pk_sub q]
    · rw [if_neg q, if_pos (nI_le (by omega) (by omega)), pk_sub (by omega)]
  have e4 : vC D 4 = nI t := by rw [vC4, g1, et]
  have nb : ∀ b, b < 192 → b ≠ a → ∃ B, B ≤ 99 ∧ vS V.1 (nI b) 3 = nI B ∧ ((w < 192 ∧ ¬ vS V.1 (nI b) 2 < 0 ∧ vS V.1 (nI b) 5 = 0 ∧ vS D (nI b) 3 = nI (hotB H F a b B)) ∨ ((¬ w < 192 ∨ vS V.1 (nI b) 2 < 0 ∨ ¬ vS V.1 (nI b) 5 = 0) ∧ vS D (nI b) 3 = nI B)) := by
    intro b hb hba
    obtain ⟨c2, hc2, e2, hd2⟩ := secD hDv hb
    have e3 : d_se D b = nI c2 := (g8 b hba).trans e2
    have hne : c2 ≠ w := fun q => by
      obtain ⟨s', -, -, -, -, hinj, -⟩ := hO.2.2.2.2.2.2.2.2.2
      exact hba (hinj b a hb ha (by rw [e3, g7, q]))
    obtain ⟨b1, b2⟩ := bNE hDv hc2
    refine ⟨bN V.1 c2, b2, (vS3 hb hc2 e2).trans b1, ?_⟩
    rw [vS3 hb hc2 e3, g11 c2 hc2 hne, vS2 hb hc2 e2, vS5 hb hc2 e2]
    by_cases q1 : w < 192
    · by_cases q2 : d_nu V.1 c2 = -6
      · exact Or.inr ⟨Or.inr (Or.inl (by rw [q2]; exact n6lt)), by rw [if_neg (fun z => z.2.2.2 q2)]⟩
      · by_cases q3 : c2 < 192
        · have q4 : c2 = b := hd2.resolve_right (by omega)
          subst q4
          refine Or.inl ⟨q1, ?_, if_pos q3, by rw [if_pos ⟨q1, q3, e2, q2⟩, wa q1]⟩
          rcases hDv.2.2.2.2.2.2.2.1 c2 hc2 with ⟨z, -⟩ | ⟨x, hx, ex⟩
          · exact absurd z q2
          · rw [ex]
            exact nI_pos (by omega)
        · exact Or.inr ⟨Or.inr (Or.inr (by rw [if_neg q3]; decide)), by rw [if_neg (fun z => q3 z.2.1)]⟩
    · exact Or.inr ⟨Or.inl q1, by rw [if_neg (fun z => q1 z.1)]⟩
  refine ⟨t * dist hh (w / 12) + r + 1, D, e1, nI_pos (by omega), hO, ?_, ?_, ?_, ?_, ?_, ?_, ?_, ?_, ?_, ?_, ?_, ?_⟩
  · rw [vS2 ha hw g7, g5, pk_us]
  · rw [vS3 ha hw g7, g10]
  · rw [vS4 ha hw g7, g6, pk_us, s0, s1, vC8, vC8, g9, hsp, vS4 ha hc ec, vS0 ha hc ec]
    have e12 : (12 : Int32) - nI s = nI (12 - s) := pk_sub (a := 12) (b := s) hs
    rcases hq with ⟨e, hx⟩ | ⟨e, hne, hs2, hx⟩
    · subst e
      refine Or.inl ⟨?_, by rw [if_pos rfl, Int32.sub_zero], rfl, rfl⟩
      unfold mv35_isWritten
      rw [vS4 ha hc ec, vC3, vC8, hsp, e12]
      by_cases q : d_wr V.1 w < d_st V.1 3
      · rw [if_pos q]
      · have q2 : s = 12 := hx.resolve_left q
        subst q2
        rw [if_neg q, if_pos (by decide)]
    · have wr0 : d_wr V.1 w = 0 := by
        obtain ⟨s', hs', hsp', -, hfr, -⟩ := hDv.2.2.2.2.2.2.2.2.2
        have ess : s' = s := nI_inj (by omega) (by omega) (hsp'.symm.trans hsp)
        subst ess
        have z := hfr s' (Nat.le_refl _) hs2
        rw [← e] at z
        rcases hDv.2.2.2.2.2.2.2.1 w hw with ⟨-, -, q⟩ | ⟨x, hx2, ex⟩
        · exact q
        · rw [z] at ex
          exact absurd ex.symm (n6_ne (by omega))
      refine Or.inr ⟨?_, ?_, ?_, ?_, ?_⟩
      · unfold mv35_isWritten
        rw [vS4 ha hc ec, vC3, vC8, hsp, e12, if_neg hx, if_neg (nI_nle (by omega) (by omega))]
        decide
      · rw [if_neg hne, e12]
        have z1 : (12 : Int32) - nI (s + 1) = nI (12 - (s + 1)) := pk_sub (a := 12) (b := s + 1) (by omega)
        have z2 : nI (12 - s) - 1 = nI (12 - s - 1) := pk_sub (a := 12 - s) (b := 1) (by omega)
        rw [z1, z2]
        rfl
      · rw [show w / 12 = 16 from by omega]
        rfl
      · rw [e12]
        have z1 : (12 : Int32) - nI (12 - s) = nI (12 - (12 - s)) := pk_sub (a := 12) (b := 12 - s) (by omega)
        rw [z1]
        congr 1
        omega
      · rw [wr0]
        rfl
  · rw [vC11, vC11, g6, tot_inc hw]
  · rw [vC13, vC14, vC13, vC14, g6, own2]
    by_cases q : w < 192
    · rw [lnd_inc q, grv_inc q, if_pos q]
      by_cases q2 : w / 12 % 2 = 0
      · rw [if_pos q2, if_pos q2, Int32.add_assoc, Int32.add_comm 1, ← Int32.add_assoc]
      · rw [if_neg q2, if_neg q2, Int32.add_assoc]
    · rw [lnd_sp (by omega), grv_sp (by omega), if_neg q, Int32.add_zero]
  · rw [vC6, eD6, s0]
  · rw [vC5, vC5, eD5, eT, nI_add]
  · rw [vC5, eD5, s1]
    generalize t * dist hh (w / 12) = x at hm hm2
    rw [show T + (x + r + 1) = (T + x + r) + 1 from by omega, nI_pred, pk_sub (by omega), jr12 (by omega), show (T + x + r - w % 12) % 12 = 0 from by omega]
    rfl
  · rw [e253, e4, pk_mul, Nat.mul_comm (dist hh (w / 12)) t]
    exact nI_ge (by omega) (by omega)
  · rw [e253, e4, pk_mul, Nat.mul_comm, show (12 : Int32) = nI 12 from rfl, nI_add]
    exact nI_nlt (by omega) (by omega)
  · intro h
    have e12 : (nI a) + 12 = nI (a + 12) := nI_add a 12
    have hb : a + 12 < 192 := by
      rcases Nat.lt_or_ge (a + 12) 192 with q | q
      · exact q
      · exact absurd (by rw [e12]; exact nI_le (a := 192) q (by omega)) h
    obtain ⟨B, hB, b3, hx⟩ := nb (a + 12) hb (by omega)
    unfold mv588_isWritten
    have m91 : mv91_isWritten V D a = nI B := by
      unfold mv91_isWritten
      rw [if_neg h, e12, b3]
    rw [m91]
    have m154 : mv154_isWritten V D a = if vS V.1 (nI (a + 12)) 2 < 0 then 0 else if vS V.1 (nI (a + 12)) 5 = 0 then 1 else 0 := by
      unfold mv154_isWritten
      rw [if_neg h, e12]
    rcases hx with ⟨q1, q2, q3, q4⟩ | ⟨q1, q4⟩
    · have m523 : mv523_isWritten V D a = nI H := by
        unfold mv523_isWritten
        rw [own, if_pos q1, if_neg (show ¬ (1 : Int32) = 0 from by decide), m154, if_neg q2, if_pos q3, if_neg (show ¬ (1 : Int32) = 0 from by decide), vC0, g1, eH]
      rw [m523, cap99 hB hH, e12, q4]
      congr 1
      unfold hotB
      rw [if_pos (show a = a + 12 + 12 ∨ a + 12 = a + 12 from Or.inr rfl)]
    · have m523 : mv523_isWritten V D a = 0 := by
        unfold mv523_isWritten
        rw [own]
        by_cases z : w < 192
        · rw [if_pos z, if_neg (show ¬ (1 : Int32) = 0 from by decide)]
          rcases q1 with q1 | q1 | q1
          · exact absurd z q1
          · rw [m154, if_pos q1, if_pos rfl]
          · rw [m154]
            by_cases z2 : vS V.1 (nI (a + 12)) 2 < 0
            · rw [if_pos z2, if_pos rfl]
            · rw [if_neg z2, if_neg q1, if_pos rfl]
        · rw [if_neg z, if_pos rfl]
      rw [m523, cap0 hB, e12, q4]
  · intro h
    have ha24 : 24 ≤ a := by
      rcases Nat.lt_or_ge a 24 with q | q
      · exact absurd (show nI a < (24 : Int32) from nI_lt (b := 24) q (by omega)) h
      · exact q
    have e24 := sub24 ha24
    have h0' : ¬ (nI a) - 24 < 0 := by
      rw [e24]
      exact nI_pos (by omega)
    obtain ⟨B, hB, b3, hx⟩ := nb (a - 24) (by omega) (by omega)
    unfold mv620_isWritten
    have m113 : mv113_isWritten V D a = nI B := by
      unfold mv113_isWritten
      rw [if_neg h0', e24, b3]
    rw [m113]
    have m192 : mv192_isWritten V D a = if vS V.1 (nI (a - 24)) 2 < 0 then 0 else if vS V.1 (nI (a - 24)) 5 = 0 then 1 else 0 := by
      unfold mv192_isWritten
      rw [if_neg h0', e24]
    rcases hx with ⟨q1, q2, q3, q4⟩ | ⟨q1, q4⟩
    · have m547 : mv547_isWritten V D a = nI F := by
        unfold mv547_isWritten
        rw [own, if_pos q1, if_neg (show ¬ (1 : Int32) = 0 from by decide), m192, if_neg q2, if_pos q3, if_neg (show ¬ (1 : Int32) = 0 from by decide), vC1, g1, eF]
      rw [m547, cap99 hB hF, e24, q4]
      congr 1
      unfold hotB
      rw [if_neg (show ¬ (a = a - 24 + 12 ∨ a - 24 = a + 12) from by omega), if_pos (show a = a - 24 + 24 ∨ a - 24 = a + 24 from by omega)]
    · have m547 : mv547_isWritten V D a = 0 := by
        unfold mv547_isWritten
        rw [own]
        by_cases z : w < 192
        · rw [if_pos z, if_neg (show ¬ (1 : Int32) = 0 from by decide)]
          rcases q1 with q1 | q1 | q1
          · exact absurd z q1
          · rw [m192, if_pos q1, if_pos rfl]
          · rw [m192]
            by_cases z2 : vS V.1 (nI (a - 24)) 2 < 0
            · rw [if_pos z2, if_pos rfl]
            · rw [if_neg z2, if_neg q1, if_pos rfl]
        · rw [if_neg z, if_pos rfl]
      rw [m547, cap0 hB, e24, q4]
