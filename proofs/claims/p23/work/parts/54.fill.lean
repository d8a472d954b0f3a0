/-! an address is written: all that is different then -/
section FLL
variable {σ : DS} {K : Nat}
theorem fillO (h : Dv K σ) {a : Nat} (ha : a < 192) (e : d_se σ a = nI a) (v : Int32) : ∃ g : NI, s_X0_fill σ (nI a) (nI a) v = d_bl' (kC σ a v) g ∧ g a = 0 ∧ ∃ H F, H ≤ 20 ∧ F ≤ 20 ∧ d_st σ 0 = nI H ∧ d_st σ 1 = nI F ∧ ∀ c, c < 204 → c ≠ a → g c = nI (if c < 192 ∧ d_se σ c = nI c ∧ ¬ d_nu σ c = -6 then hotB H F a c (bN σ c) else bN σ c) := by
  obtain ⟨H, hH, eH⟩ := h.1
  obtain ⟨F, hF, eF⟩ := h.2.1
  have hB : ∀ c, c < 204 → d_bl (kC σ a v) c = nI (if c = a then 0 else bN σ c) ∧ (if c = a then 0 else bN σ c) ≤ 99 := by
    intro c hc
    by_cases q : c = a
    · subst q
      rw [if_pos rfl]
      exact ⟨pk_us, Nat.zero_le _⟩
    · rw [if_neg q]
      exact ⟨(pk_un q).trans (bNE h hc).1, (bNE h hc).2⟩
  obtain ⟨g, e1, f1⟩ := heats4 (kC σ a v) hH hF eH eF ha hB
  refine ⟨g, ?_, ?_, H, F, hH, hF, eH, eF, fun c hc q => ?_⟩
  · unfold s_X0_fill
    rw [sfor σ ha, e, if_pos rfl, spr (by omega), if_pos ha, if_pos rfl]
    unfold t6_X0_fill t5_X0_fill t4_X0_fill t3_X0_fill
    rw [c_t2 σ (by omega)]
    exact e1
  · rw [f1 a (by omega), if_pos rfl]
    unfold hotB
    rw [if_neg (show ¬ (a = a + 12 ∨ a = a + 12) from by omega), if_neg (show ¬ (a = a + 24 ∨ a = a + 24) from by omega)]
    split <;> rfl
  · rw [f1 c hc, if_neg q]
    have e2 : d_nu (kC σ a v) c = d_nu σ c := pk_un q
    rw [e2]
    rfl
theorem fillS {a c : Nat} (ha : a < 192) (hc : c < 204) (hc2 : 192 ≤ c) (e : d_se σ a = nI c) (v : Int32) : s_X0_fill σ (nI c) (nI a) v = kC σ c v := by
  unfold s_X0_fill
  rw [sfor σ ha, e, if_pos rfl, spr hc, if_neg (show ¬ c < 192 from by omega), if_neg (show ¬ (1 : Int32) = 0 from by decide), c_t2 σ hc]
theorem fillN {a c w : Nat} (ha : a < 192) (hc : c < 204) (hw : w < 204) (hw2 : 192 ≤ w) (hne : w ≠ c) (e : d_se σ a = nI c) (v : Int32) : s_X0_fill σ (nI w) (nI a) v = kC (d_sp' (d_se' σ (upd (d_se σ) a (nI w))) (d_sp σ + 1)) w v := by
  unfold s_X0_fill
  rw [sfor σ ha, e, if_neg (fun q => hne (nI_inj (by omega) (by omega) q)), spr hw, if_neg (show ¬ w < 192 from by omega), if_neg (show ¬ (1 : Int32) = 0 from by decide), c_t9 σ hw ha]
/-- the sector that is written -/
theorem toW (h : Dv K σ) {a : Nat} (ha : a < 192) : ∃ c w s, c < 204 ∧ w < 204 ∧ d_se σ a = nI c ∧ (c = a ∨ 192 ≤ c) ∧ s ≤ 12 ∧ d_sp σ = nI s ∧ s_X0_sectorToWrite σ (nI a) = nI w ∧ ((w = c ∧ (d_wr σ c < d_st σ 3 ∨ s = 12)) ∨ (w = 192 + s ∧ w ≠ c ∧ s < 12 ∧ ¬ d_wr σ c < d_st σ 3)) := by
  obtain ⟨s, hs, hsp, hse, -⟩ := h.2.2.2.2.2.2.2.2.2
  obtain ⟨c, hc, e, hd, hlt⟩ : ∃ c, c < 204 ∧ d_se σ a = nI c ∧ (c = a ∨ 192 ≤ c) ∧ c < 192 + s := by
    rcases hse a ha with e | ⟨j, hj, e⟩
    · exact ⟨a, by omega, e, Or.inl rfl, by omega⟩
    · exact ⟨192 + j, by omega, e, Or.inr (by omega), by omega⟩
  have a0 : s_X0_sectorToWrite σ (nI a) = if d_wr σ c < d_st σ 3 then nI c else if 12 - nI s ≤ 0 then nI c else 192 + nI s := by
    unfold s_X0_sectorToWrite s_X0_sparesLeft
    rw [sfor σ ha, e, wriI σ hc, setI3, hsp]
  have e12 : (12 : Int32) - nI s = nI (12 - s) := pk_sub (a := 12) (b := s) hs
  by_cases h1 : d_wr σ c < d_st σ 3
  · exact ⟨c, c, s, hc, hc, e, hd, hs, hsp, by rw [a0, if_pos h1], Or.inl ⟨rfl, Or.inl h1⟩⟩
  · by_cases h2 : s = 12
    · subst h2
      exact ⟨c, c, 12, hc, hc, e, hd, hs, hsp, by rw [a0, if_neg h1, if_pos (by rw [e12]; decide)], Or.inl ⟨rfl, Or.inr rfl⟩⟩
    · have h3 : ¬ nI (12 - s) ≤ 0 := nI_nle (by omega) (by omega)
      exact ⟨c, 192 + s, s, hc, by omega, e, hd, hs, hsp, by rw [a0, if_neg h1, if_neg (by rw [e12]; exact h3), ad192], Or.inr ⟨rfl, by omega, by omega, h1⟩⟩
/-- what is different behind a writing of v to the address a, whose sector c gives way to w -/
def Wd (σ σf : DS) (a c w s : Nat) (v : Int32) : Prop :=
  d_st σf = d_st σ ∧ d_rd σf = d_rd σ ∧ d_tk σf = d_tk σ ∧ d_hd σf = d_hd σ ∧ d_nu σf = upd (d_nu σ) w v ∧ d_wr σf = upd (d_wr σ) w (d_wr σ w + 1) ∧
  d_se σf a = nI w ∧ (∀ b, b ≠ a → d_se σf b = d_se σ b) ∧ d_sp σf = nI (if w = c then s else s + 1) ∧ d_bl σf w = 0 ∧
  ∃ H F, H ≤ 20 ∧ F ≤ 20 ∧ d_st σ 0 = nI H ∧ d_st σ 1 = nI F ∧ ∀ k, k < 204 → k ≠ w → d_bl σf k = nI (if w < 192 ∧ k < 192 ∧ d_se σ k = nI k ∧ ¬ d_nu σ k = -6 then hotB H F w k (bN σ k) else bN σ k)
theorem fillW (h : Dv K σ) {a c w s : Nat} (ha : a < 192) (hc : c < 204) (hw : w < 204) (e : d_se σ a = nI c) (hd : c = a ∨ 192 ≤ c) (hs : s ≤ 12) (hsp : d_sp σ = nI s) (hq : (w = c ∧ (d_wr σ c < d_st σ 3 ∨ s = 12)) ∨ (w = 192 + s ∧ w ≠ c ∧ s < 12 ∧ ¬ d_wr σ c < d_st σ 3)) (v : Int32) : Wd σ (s_X0_fill σ (nI w) (nI a) v) a c w s v := by
  obtain ⟨H, hH, eH⟩ := h.1
  obtain ⟨F, hF, eF⟩ := h.2.1
  have spare : ∀ k, k < 204 → k ≠ w → 192 ≤ w → d_bl (kC σ w v) k = nI (if w < 192 ∧ k < 192 ∧ d_se σ k = nI k ∧ ¬ d_nu σ k = -6 then hotB H F w k (bN σ k) else bN σ k) := fun k hk hkw hw2 => by
    rw [if_neg (fun q => by omega)]
    exact (pk_un hkw).trans (bNE h hk).1
  rcases hq with ⟨rfl, -⟩ | ⟨hw1, hne, hs2, -⟩
  · by_cases hc2 : 192 ≤ w
    · rw [fillS ha hc hc2 e v]
      exact ⟨rfl, rfl, rfl, rfl, rfl, rfl, e, fun _ _ => rfl, by rw [if_pos rfl]; exact hsp, pk_us, H, F, hH, hF, eH, eF, fun k hk hkw => spare k hk hkw hc2⟩
    · have hca : w = a := hd.resolve_right hc2
      subst hca
      obtain ⟨g, e1, g0, H, F, hH, hF, eH, eF, f1⟩ := fillO h ha e v
      rw [e1]
      refine ⟨rfl, rfl, rfl, rfl, rfl, rfl, e, fun _ _ => rfl, by rw [if_pos rfl]; exact hsp, g0, H, F, hH, hF, eH, eF, fun k hk hkw => ?_⟩
      have f2 : d_bl (d_bl' (kC σ w v) g) k = g k := rfl
      rw [f2, f1 k hk hkw]
      congr 1
      exact ite_iff ⟨fun q => ⟨ha, q⟩, fun q => q.2⟩
  · have hw2 : 192 ≤ w := by omega
    rw [fillN ha hc hw hw2 hne e v]
    refine ⟨rfl, rfl, rfl, rfl, rfl, rfl, pk_us, fun b hb => pk_un hb, ?_, pk_us, H, F, hH, hF, eH, eF, fun k hk hkw => ?_⟩
    · rw [if_neg hne]
      show d_sp σ + 1 = _
      rw [hsp, nI_1]
    · exact spare k hk hkw hw2
theorem hot99 {H F w k b : Nat} (hb : b ≤ 99) : hotB H F w k b ≤ 99 := by
  unfold hotB
  split
  · exact Nat.min_le_left _ _
  · split
    · exact Nat.min_le_left _ _
    · exact hb
/-- a disc stays one behind a writing -/
theorem Wd.ok (h : Dv K σ) {σf : DS} {a c w s v : Nat} (ha : a < 192) (hc : c < 204) (hw : w < 204) (e : d_se σ a = nI c) (hd : c = a ∨ 192 ≤ c) (hs : s ≤ 12) (hsp : d_sp σ = nI s) (hq : (w = c ∧ (d_wr σ c < d_st σ 3 ∨ s = 12)) ∨ (w = 192 + s ∧ w ≠ c ∧ s < 12 ∧ ¬ d_wr σ c < d_st σ 3)) (hv : v ≤ 255) (hW : Wd σ σf a c w s (nI v)) : Dv K σf := by
  obtain ⟨f1, f2, f3, f4, f5, f6, f7, f8, f9, f10, H, F, hH, hF, eH, eF, f11⟩ := hW
  obtain ⟨h1, h2, h3, h4, h5, h6, h7, h8, h9, s', hs', hsp', hse, hfr, hinj, hcn⟩ := id h
  have ess : s' = s := nI_inj (by omega) (by omega) (hsp'.symm.trans hsp)
  subst ess
  refine ⟨by rw [f1]; exact h1, by rw [f1]; exact h2, by rw [f1]; exact h3, by rw [f1]; exact h4, by rw [f1]; exact h5, by rw [f3]; exact h6, by rw [f4]; exact h7, fun k hk => ?_, fun k hk => ?_, ?_⟩
  · rw [f5, f6]
    by_cases q : k = w
    · subst q
      exact Or.inr ⟨v, hv, pk_us⟩
    · rw [pk_un q, pk_un q]
      rcases h8 k hk with ⟨q1, q2, q3⟩ | q1
      · refine Or.inl ⟨q1, ?_, q3⟩
        have hb : bN σ k = 0 := by
          unfold bN
          rw [q2]
          rfl
        rw [f11 k hk q, if_neg (fun z => z.2.2.2 q1), hb]
        rfl
      · exact Or.inr q1
  · by_cases q : k = w
    · subst q
      exact ⟨0, by omega, f10⟩
    · refine ⟨_, ?_, f11 k hk q⟩
      split
      · exact hot99 (bNE h hk).2
      · exact (bNE h hk).2
  · rcases hq with ⟨rfl, -⟩ | ⟨hw1, hne, hs2, -⟩
    · rw [if_pos rfl] at f9
      have fse : ∀ b, d_se σf b = d_se σ b := fun b => by
        by_cases q : b = a
        · subst q
          rw [f7, e]
        · exact f8 b q
      refine ⟨s', hs, f9, fun b hb => by rw [fse]; exact hse b hb, fun j hj hj2 => ?_, fun x y hx hy z => hinj x y hx hy (by rw [← fse, ← fse]; exact z), by rw [cnS_congr (fun k _ => fse k)]; exact hcn⟩
      rw [f5]
      by_cases q : 192 + j = w
      · exfalso
        rcases hse a ha with z | ⟨i, hi, z⟩
        · have := nI_inj (by omega) (by omega) (z.symm.trans e)
          omega
        · have := nI_inj (by omega) (by omega) (z.symm.trans e)
          omega
      · rw [pk_un q]
        exact hfr j hj hj2
    · rw [if_neg hne] at f9
      refine ⟨s' + 1, by omega, f9, fun b hb => ?_, fun j hj hj2 => ?_, fun x y hx hy z => ?_, ?_⟩
      · by_cases q : b = a
        · subst q
          exact Or.inr ⟨s', by omega, by rw [f7, hw1]⟩
        · rw [f8 b q]
          rcases hse b hb with z | ⟨j, hj, z⟩
          · exact Or.inl z
          · exact Or.inr ⟨j, by omega, z⟩
      · rw [f5, pk_un (by omega)]
        exact hfr j (by omega) hj2
      · have far : ∀ b, b < 192 → b ≠ a → ¬ d_se σ b = nI w := fun b hb _ z => by
          rcases hse b hb with y | ⟨j, hj, y⟩
          · have := nI_inj (by omega) (by omega) (y.symm.trans z)
            omega
          · have := nI_inj (by omega) (by omega) (y.symm.trans z)
            omega
        by_cases qx : x = a
        · by_cases qy : y = a
          · rw [qx, qy]
          · rw [qx, f7, f8 y qy] at z
            exact absurd z.symm (far y hy qy)
        · by_cases qy : y = a
          · rw [qy, f7, f8 x qx] at z
            exact absurd z (far x hx qx)
          · rw [f8 x qx, f8 y qy] at z
            exact hinj x y hx hy z
      · have := cnS_upd (g := d_se σ) (h := d_se σf) (A := a) f8 192
        rw [if_pos ha] at this
        omega
/-- writing with its time -/
theorem writeD (h : Dv K σ) (hK : K + 400 ≤ 9999999) {a v : Nat} (ha : a < 192) (hv : v ≤ 255) : ∃ (c w s t hh T r : Nat) (σ' : DS), c < 204 ∧ w < 204 ∧ d_se σ a = nI c ∧ (c = a ∨ 192 ≤ c) ∧ s ≤ 12 ∧ d_sp σ = nI s ∧ ((w = c ∧ (d_wr σ c < d_st σ 3 ∨ s = 12)) ∨ (w = 192 + s ∧ w ≠ c ∧ s < 12 ∧ ¬ d_wr σ c < d_st σ 3)) ∧
    t ≤ 20 ∧ hh ≤ 16 ∧ d_st σ 4 = nI t ∧ d_hd σ = nI hh ∧ T ≤ K ∧ d_tk σ = nI T ∧ r < 12 ∧ (T + t * dist hh (w / 12) + r) % 12 = w % 12 ∧ t * dist hh (w / 12) ≤ 320 ∧
    s_X0_writeTo σ (nI a) (nI v) = (nI (t * dist hh (w / 12) + r + 1), σ') ∧ Dv (K + 400) σ' ∧ d_tk σ' = nI (T + (t * dist hh (w / 12) + r + 1)) ∧ d_hd σ' = nI (w / 12) ∧
    ∃ σf, σ' = d_hd' (d_tk' σf (nI (T + (t * dist hh (w / 12) + r + 1)))) (nI (w / 12)) ∧ Wd σ σf a c w s (nI v) := by
  obtain ⟨c, w, s, hc, hw, e, hd, hs, hsp, ew, hq⟩ := toW h ha
  obtain ⟨t, hh, T, r, ht, hhh, et, eh, hT, eT, hr, hm, ek, hm2⟩ := tik h (by omega) hw
  have hW := fillW h ha hc hw e hd hs hsp hq (nI v)
  have hO := hW.ok h ha hc hw e hd hs hsp hq hv
  have e1 : s_X0_writeTo σ (nI a) (nI v) = (nI (t * dist hh (w / 12) + r + 1), d_hd' (d_tk' (s_X0_fill σ (nI w) (nI a) (nI v)) (nI (T + (t * dist hh (w / 12) + r + 1)))) (nI (w / 12))) := by
    unfold s_X0_writeTo t1_X0_writeTo s_X0_pass
    rw [ew, ek, if_neg (hast eT (by omega)), trackO hw, hW.2.2.1, eT, nI_add]
  refine ⟨c, w, s, t, hh, T, r, _, hc, hw, e, hd, hs, hsp, hq, ht, hhh, et, eh, hT, eT, hr, hm, hm2, e1, ?_, rfl, rfl, _, rfl, hW⟩
  obtain ⟨h1, h2, h3, h4, h5, h6, h7, h8, h9, h10⟩ := hO
  exact ⟨h1, h2, h3, h4, h5, ⟨_, by omega, rfl⟩, ⟨w / 12, by omega, rfl⟩, h8, h9, h10⟩
/-- reading -/
theorem readD (h : Dv K σ) (hK : K + 400 ≤ 9999999) {a : Nat} (ha : a < 192) : ∃ (c : Nat), c < 204 ∧ d_se σ a = nI c ∧ (c = a ∨ 192 ≤ c) ∧
    ((vS σ (nI a) 6 = 0 ∧ s_X0_isReadable σ (s_X0_sectorFor σ (nI a)) = 0 ∧ s_X0_readFrom σ (nI a) = (-5, σ)) ∨
    (vS σ (nI a) 6 = 1 ∧ ∃ (v k T : Nat) (σ' : DS), v ≤ 255 ∧ d_nu σ c = nI v ∧ k ≤ 400 ∧ s_X0_ticksTo σ (nI c) = nI k ∧ d_tk σ = nI T ∧ T ≤ K ∧ s_X0_readFrom σ (nI a) = (nI v, σ') ∧ σ' = d_rd' (d_hd' (d_tk' σ (nI (T + k))) (nI (c / 12))) (d_rd σ + 1) ∧ Dv (K + 400) σ')) := by
  obtain ⟨c, hc, e, hd⟩ := secD h ha
  refine ⟨c, hc, e, hd, ?_⟩
  have e6 : vS σ (nI a) 6 = s_X0_isReadable σ (nI c) := by rw [vS6 ha hc e, rdbI hc]
  by_cases hr : s_X0_isReadable σ (nI c) = 0
  · refine Or.inl ⟨by rw [e6, hr], by rw [sfor σ ha, e, hr], ?_⟩
    unfold s_X0_readFrom
    rw [sfor σ ha, e, if_pos hr]
  · have h1 : s_X0_isReadable σ (nI c) = 1 := by
      rw [rdbI hc] at hr ⊢
      by_cases q : d_nu σ c = -6
      · rw [if_pos q] at hr
        exact absurd rfl hr
      · rw [if_neg q] at hr ⊢
        by_cases q2 : d_st σ 2 ≤ d_bl σ c
        · rw [if_pos q2] at hr
          exact absurd rfl hr
        · rw [if_neg q2]
    have hn : ∃ v, v ≤ 255 ∧ d_nu σ c = nI v := by
      rcases h.2.2.2.2.2.2.2.1 c hc with ⟨q, -⟩ | q
      · rw [rdbI hc, if_pos q] at h1
        exact absurd h1 (by decide)
      · exact q
    obtain ⟨v, hv, ev⟩ := hn
    obtain ⟨t, hh, T, r, ht, hhh, et, eh, hT, eT, hr, hm, ek, hm2⟩ := tik h (by omega) hc
    refine Or.inr ⟨by rw [e6, h1], v, t * dist hh (c / 12) + r + 1, T, _, hv, ev, by omega, ek, eT, hT, ?_, rfl, ?_⟩
    · unfold s_X0_readFrom t1_X0_readFrom s_X0_pass
      rw [sfor σ ha, e, h1, if_neg (by decide), ek, if_neg (hast eT (by omega)), trackO hc, numI _ hc, eT, nI_add]
      exact Prod.ext ev rfl
    · obtain ⟨h1, h2, h3, h4, h5, h6, h7, h8, h9, h10⟩ := h
      exact ⟨h1, h2, h3, h4, h5, ⟨_, by omega, rfl⟩, ⟨c / 12, by omega, rfl⟩, h8, h9, h10⟩
end FLL
