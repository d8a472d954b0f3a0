/-! sums of the writings -/
def sumN (g : NI) : Nat → Int32
  | 0 => 0
  | n + 1 => sumN g n + g n
def tsum (g : NI) (t : Nat) : Int32 := sumN (fun k => g (12 * t + k)) 12
def lnd (g : NI) : Int32 := sumN (fun t => if t % 2 = 0 then tsum g t else 0) 16
def grv (g : NI) : Int32 := sumN (fun t => if t % 2 = 1 then tsum g t else 0) 16
def tot (g : NI) : Int32 := sumN (tsum g) 16 + tsum g 16
theorem sumN_congr {g h : NI} : ∀ {n : Nat}, (∀ k, k < n → g k = h k) → sumN g n = sumN h n
  | 0, _ => rfl
  | n + 1, e => by
    show sumN g n + g n = sumN h n + h n
    rw [sumN_congr (n := n) (fun k hk => e k (by omega)), e n (by omega)]
theorem sumN_inc {g h : NI} {C : Nat} {x : Int32} : ∀ {n : Nat}, C < n → h C = g C + x → (∀ k, k < n → k ≠ C → h k = g k) → sumN h n = sumN g n + x
  | 0, hC, _, _ => absurd hC (by omega)
  | n + 1, hC, e, o => by
    show sumN h n + h n = sumN g n + g n + x
    by_cases hn : C = n
    · subst hn
      rw [sumN_congr (g := h) (h := g) (fun k hk => o k (by omega) (by omega)), e, Int32.add_assoc]
    · rw [sumN_inc (n := n) (by omega) e (fun k hk => o k (by omega)), o n (by omega) (by omega), Int32.add_assoc, Int32.add_assoc, Int32.add_comm x]
theorem tsum_inc {g : NI} {C t : Nat} (h : t = C / 12) : tsum (upd g C (g C + 1)) t = tsum g t + 1 := by
  subst h
  refine sumN_inc (C := C % 12) (by omega) ?_ ?_
  · show upd g C (g C + 1) (12 * (C / 12) + C % 12) = g (12 * (C / 12) + C % 12) + 1
    rw [show 12 * (C / 12) + C % 12 = C from by omega, pk_us]
  · intro k hk hne
    exact pk_un (by omega)
theorem tsum_ne {g : NI} {C t : Nat} {x : Int32} (h : t ≠ C / 12) : tsum (upd g C x) t = tsum g t := sumN_congr (fun k hk => pk_un (by omega))
theorem lnd_inc {g : NI} {C : Nat} (hC : C < 192) : lnd (upd g C (g C + 1)) = if C / 12 % 2 = 0 then lnd g + 1 else lnd g := by
  by_cases h : C / 12 % 2 = 0
  · rw [if_pos h]
    refine sumN_inc (C := C / 12) (by omega) ?_ ?_
    · show (if C / 12 % 2 = 0 then tsum (upd g C (g C + 1)) (C / 12) else 0) = (if C / 12 % 2 = 0 then tsum g (C / 12) else 0) + 1
      rw [if_pos h, if_pos h, tsum_inc rfl]
    · intro k hk hne
      show (if k % 2 = 0 then tsum (upd g C (g C + 1)) k else 0) = (if k % 2 = 0 then tsum g k else 0)
      rw [tsum_ne hne]
  · rw [if_neg h]
    refine sumN_congr (fun k hk => ?_)
    show (if k % 2 = 0 then tsum (upd g C (g C + 1)) k else 0) = (if k % 2 = 0 then tsum g k else 0)
    by_cases h2 : k % 2 = 0
    · rw [if_pos h2, if_pos h2, tsum_ne (by omega)]
    · rw [if_neg h2, if_neg h2]
theorem grv_inc {g : NI} {C : Nat} (hC : C < 192) : grv (upd g C (g C + 1)) = if C / 12 % 2 = 0 then grv g else grv g + 1 := by
  by_cases h : C / 12 % 2 = 0
  · rw [if_pos h]
    refine sumN_congr (fun k hk => ?_)
    show (if k % 2 = 1 then tsum (upd g C (g C + 1)) k else 0) = (if k % 2 = 1 then tsum g k else 0)
    by_cases h2 : k % 2 = 1
    · rw [if_pos h2, if_pos h2, tsum_ne (by omega)]
    · rw [if_neg h2, if_neg h2]
  · rw [if_neg h]
    refine sumN_inc (C := C / 12) (by omega) ?_ ?_
    · show (if C / 12 % 2 = 1 then tsum (upd g C (g C + 1)) (C / 12) else 0) = (if C / 12 % 2 = 1 then tsum g (C / 12) else 0) + 1
      rw [if_pos (by omega), if_pos (by omega), tsum_inc rfl]
    · intro k hk hne
      show (if k % 2 = 1 then tsum (upd g C (g C + 1)) k else 0) = (if k % 2 = 1 then tsum g k else 0)
      rw [tsum_ne hne]
theorem lnd_sp {g : NI} {C : Nat} {x : Int32} (hC : 192 ≤ C) : lnd (upd g C x) = lnd g := by
  refine sumN_congr (fun k hk => ?_)
  show (if k % 2 = 0 then tsum (upd g C x) k else 0) = (if k % 2 = 0 then tsum g k else 0)
  rw [tsum_ne (by omega)]
theorem grv_sp {g : NI} {C : Nat} {x : Int32} (hC : 192 ≤ C) : grv (upd g C x) = grv g := by
  refine sumN_congr (fun k hk => ?_)
  show (if k % 2 = 1 then tsum (upd g C x) k else 0) = (if k % 2 = 1 then tsum g k else 0)
  rw [tsum_ne (by omega)]
theorem tot_inc {g : NI} {C : Nat} (hC : C < 204) : tot (upd g C (g C + 1)) = tot g + 1 := by
  unfold tot
  by_cases h : C < 192
  · rw [sumN_inc (g := tsum g) (C := C / 12) (x := 1) (by omega) (tsum_inc rfl) (fun k hk hne => tsum_ne hne), tsum_ne (by omega), Int32.add_assoc, Int32.add_assoc, Int32.add_comm 1]
  · rw [sumN_congr (g := tsum (upd g C (g C + 1))) (h := tsum g) (fun k hk => tsum_ne (by omega)), tsum_inc (by omega), Int32.add_assoc]
def Sm (σ : DS) (f : NI) : Prop := f 8 = tot (d_wr σ) ∧ f 10 = lnd (d_wr σ) ∧ f 11 = grv (d_wr σ)
def Rl (σ : DS) (f : NI) : Prop := Rb σ f ∧ Sm σ f
/-! one step of each kind -/
section STEPS
variable {σ : DS} {f : NI}
theorem R_nu (hR : Rb σ f) {C : Nat} (hC : C < 204) (v : Int32) : Rb (d_nu' σ (upd (d_nu σ) C v)) (upd f (12 + C) v) := by
  obtain ⟨hst, ⟨h5, h6, h9⟩, hnu, hbl, hwr, ⟨s, hs, hsp, h7, hse⟩, hT, hH, ht, hb, hh0, hh1⟩ := hR
  refine ⟨fun k hk => ?_, ⟨?_, ?_, ?_⟩, fun c hc => ?_, fun c hc => ?_, fun c hc => ?_, ⟨s, hs, hsp, ?_, fun a ha => ?_⟩, hT, hH, ht, hb, hh0, hh1⟩
  · rw [pk_un (by omega)]; exact hst k hk
  · rw [pk_un (by omega)]; exact h5
  · rw [pk_un (by omega)]; exact h6
  · rw [pk_un (by omega)]; exact h9
  · show _ = upd (d_nu σ) C v c
    by_cases h : c = C
    · subst h; rw [pk_us, pk_us]
    · rw [pk_un (by omega), pk_un h]; exact hnu c hc
  · rw [pk_un (by omega)]; exact hbl c hc
  · rw [pk_un (by omega)]; exact hwr c hc
  · rw [pk_un (by omega)]; exact h7
  · rw [pk_un (by omega)]; exact hse a ha
theorem R_bl (hR : Rb σ f) {C b : Nat} (hC : C < 204) (hb9 : b ≤ 99) {v : Int32} (hv : v = nI b) : Rb (d_bl' σ (upd (d_bl σ) C v)) (upd f (216 + C) v) := by
  obtain ⟨hst, ⟨h5, h6, h9⟩, hnu, hbl, hwr, ⟨s, hs, hsp, h7, hse⟩, hT, hH, ht, hb, hh0, hh1⟩ := hR
  refine ⟨fun k hk => ?_, ⟨?_, ?_, ?_⟩, fun c hc => ?_, fun c hc => ?_, fun c hc => ?_, ⟨s, hs, hsp, ?_, fun a ha => ?_⟩, hT, hH, ht, fun c hc => ?_, hh0, hh1⟩
  · rw [pk_un (by omega)]; exact hst k hk
  · rw [pk_un (by omega)]; exact h5
  · rw [pk_un (by omega)]; exact h6
  · rw [pk_un (by omega)]; exact h9
  · rw [pk_un (by omega)]; exact hnu c hc
  · show _ = upd (d_bl σ) C v c
    by_cases h : c = C
    · subst h; rw [pk_us, pk_us]
    · rw [pk_un (by omega), pk_un h]; exact hbl c hc
  · rw [pk_un (by omega)]; exact hwr c hc
  · rw [pk_un (by omega)]; exact h7
  · rw [pk_un (by omega)]; exact hse a ha
  · show ∃ b, b ≤ 99 ∧ upd (d_bl σ) C v c = nI b
    by_cases h : c = C
    · subst h; rw [pk_us]; exact ⟨b, hb9, hv⟩
    · rw [pk_un h]; exact hb c hc
theorem R_wr (hR : Rb σ f) {C : Nat} (hC : C < 204) (v : Int32) : Rb (d_wr' σ (upd (d_wr σ) C v)) (upd f (420 + C) v) := by
  obtain ⟨hst, ⟨h5, h6, h9⟩, hnu, hbl, hwr, ⟨s, hs, hsp, h7, hse⟩, hT, hH, ht, hb, hh0, hh1⟩ := hR
  refine ⟨fun k hk => ?_, ⟨?_, ?_, ?_⟩, fun c hc => ?_, fun c hc => ?_, fun c hc => ?_, ⟨s, hs, hsp, ?_, fun a ha => ?_⟩, hT, hH, ht, hb, hh0, hh1⟩
  · rw [pk_un (by omega)]; exact hst k hk
  · rw [pk_un (by omega)]; exact h5
  · rw [pk_un (by omega)]; exact h6
  · rw [pk_un (by omega)]; exact h9
  · rw [pk_un (by omega)]; exact hnu c hc
  · rw [pk_un (by omega)]; exact hbl c hc
  · show _ = upd (d_wr σ) C v c
    by_cases h : c = C
    · subst h; rw [pk_us, pk_us]
    · rw [pk_un (by omega), pk_un h]; exact hwr c hc
  · rw [pk_un (by omega)]; exact h7
  · rw [pk_un (by omega)]; exact hse a ha
theorem R_no (hR : Rb σ f) {k : Nat} (hk : k = 8 ∨ k = 10 ∨ k = 11) (v : Int32) : Rb σ (upd f k v) := by
  obtain ⟨hst, ⟨h5, h6, h9⟩, hnu, hbl, hwr, ⟨s, hs, hsp, h7, hse⟩, hT, hH, ht, hb, hh0, hh1⟩ := hR
  refine ⟨fun k hk => ?_, ⟨?_, ?_, ?_⟩, fun c hc => ?_, fun c hc => ?_, fun c hc => ?_, ⟨s, hs, hsp, ?_, fun a ha => ?_⟩, hT, hH, ht, hb, hh0, hh1⟩
  · rw [pk_un (by omega)]; exact hst k hk
  · rw [pk_un (by omega)]; exact h5
  · rw [pk_un (by omega)]; exact h6
  · rw [pk_un (by omega)]; exact h9
  · rw [pk_un (by omega)]; exact hnu c hc
  · rw [pk_un (by omega)]; exact hbl c hc
  · rw [pk_un (by omega)]; exact hwr c hc
  · rw [pk_un (by omega)]; exact h7
  · rw [pk_un (by omega)]; exact hse a ha
theorem R_sp (hR : Rb σ f) {A s0 : Nat} (hA : A < 192) (hs0 : s0 < 12) (hsp0 : d_sp σ = nI s0) : Rb (d_sp' (d_se' σ (upd (d_se σ) A (nI (192 + s0)))) (nI (s0 + 1))) (upd (upd f (624 + A) (nI s0)) 7 (nI (12 - (s0 + 1)))) := by
  obtain ⟨hst, ⟨h5, h6, h9⟩, hnu, hbl, hwr, ⟨s, hs, hsp, h7, hse⟩, hT, hH, ht, hb, hh0, hh1⟩ := hR
  have e : s = s0 := nI_inj (by omega) (by omega) (hsp.symm.trans hsp0)
  subst e
  refine ⟨fun k hk => ?_, ⟨?_, ?_, ?_⟩, fun c hc => ?_, fun c hc => ?_, fun c hc => ?_, ⟨s + 1, by omega, rfl, ?_, fun a ha => ?_⟩, hT, hH, ht, hb, hh0, hh1⟩
  · rw [pk_un (by omega), pk_un (by omega)]; exact hst k hk
  · rw [pk_un (by omega), pk_un (by omega)]; exact h5
  · rw [pk_un (by omega), pk_un (by omega)]; exact h6
  · rw [pk_un (by omega), pk_un (by omega)]; exact h9
  · rw [pk_un (by omega), pk_un (by omega)]; exact hnu c hc
  · rw [pk_un (by omega), pk_un (by omega)]; exact hbl c hc
  · rw [pk_un (by omega), pk_un (by omega)]; exact hwr c hc
  · rw [pk_us]
  · rw [pk_un (by omega)]
    show (_ ∧ upd (d_se σ) A (nI (192 + s)) a = nI a) ∨ ∃ j, j < s + 1 ∧ _ ∧ upd (d_se σ) A (nI (192 + s)) a = nI (192 + j)
    by_cases h : a = A
    · subst h; rw [pk_us, pk_us]; exact Or.inr ⟨s, by omega, rfl, rfl⟩
    · rw [pk_un (by omega), pk_un h]
      rcases hse a ha with h1 | ⟨j, hj, h1, h2⟩
      · exact Or.inl h1
      · exact Or.inr ⟨j, by omega, h1, h2⟩
theorem R_tk (hR : Rb σ f) {T : Nat} (hT1 : T ≤ 9999999) {v : Int32} (hv : v = nI T) : Rb (d_tk' σ v) (upd f 5 v) := by
  obtain ⟨hst, ⟨h5, h6, h9⟩, hnu, hbl, hwr, ⟨s, hs, hsp, h7, hse⟩, hT, hH, ht, hb, hh0, hh1⟩ := hR
  refine ⟨fun k hk => ?_, ⟨?_, ?_, ?_⟩, fun c hc => ?_, fun c hc => ?_, fun c hc => ?_, ⟨s, hs, hsp, ?_, fun a ha => ?_⟩, ⟨T, hT1, hv⟩, hH, ht, hb, hh0, hh1⟩
  · rw [pk_un (by omega)]; exact hst k hk
  · rw [pk_us]; rfl
  · rw [pk_un (by omega)]; exact h6
  · rw [pk_un (by omega)]; exact h9
  · rw [pk_un (by omega)]; exact hnu c hc
  · rw [pk_un (by omega)]; exact hbl c hc
  · rw [pk_un (by omega)]; exact hwr c hc
  · rw [pk_un (by omega)]; exact h7
  · rw [pk_un (by omega)]; exact hse a ha
theorem R_hd (hR : Rb σ f) {h0 : Nat} (hh : h0 ≤ 16) {v : Int32} (hv : v = nI h0) : Rb (d_hd' σ v) (upd f 6 v) := by
  obtain ⟨hst, ⟨h5, h6, h9⟩, hnu, hbl, hwr, ⟨s, hs, hsp, h7, hse⟩, hT, hH, ht, hb, hh0, hh1⟩ := hR
  refine ⟨fun k hk => ?_, ⟨?_, ?_, ?_⟩, fun c hc => ?_, fun c hc => ?_, fun c hc => ?_, ⟨s, hs, hsp, ?_, fun a ha => ?_⟩, hT, ⟨h0, hh, hv⟩, ht, hb, hh0, hh1⟩
  · rw [pk_un (by omega)]; exact hst k hk
  · rw [pk_un (by omega)]; exact h5
  · rw [pk_us]; rfl
  · rw [pk_un (by omega)]; exact h9
  · rw [pk_un (by omega)]; exact hnu c hc
  · rw [pk_un (by omega)]; exact hbl c hc
  · rw [pk_un (by omega)]; exact hwr c hc
  · rw [pk_un (by omega)]; exact h7
  · rw [pk_un (by omega)]; exact hse a ha
theorem R_rd (hR : Rb σ f) (v : Int32) : Rb (d_rd' σ v) (upd f 9 v) := by
  obtain ⟨hst, ⟨h5, h6, h9⟩, hnu, hbl, hwr, ⟨s, hs, hsp, h7, hse⟩, hT, hH, ht, hb, hh0, hh1⟩ := hR
  refine ⟨fun k hk => ?_, ⟨?_, ?_, ?_⟩, fun c hc => ?_, fun c hc => ?_, fun c hc => ?_, ⟨s, hs, hsp, ?_, fun a ha => ?_⟩, hT, hH, ht, hb, hh0, hh1⟩
  · rw [pk_un (by omega)]; exact hst k hk
  · rw [pk_un (by omega)]; exact h5
  · rw [pk_un (by omega)]; exact h6
  · rw [pk_us]; rfl
  · rw [pk_un (by omega)]; exact hnu c hc
  · rw [pk_un (by omega)]; exact hbl c hc
  · rw [pk_un (by omega)]; exact hwr c hc
  · rw [pk_un (by omega)]; exact h7
  · rw [pk_un (by omega)]; exact hse a ha
theorem R_st (hR : Rb σ f) {K : Nat} (hK : K < 5) {v : Int32} (hv : K = 0 ∨ K = 1 ∨ K = 4 → ∃ t, t ≤ 20 ∧ v = nI t) : Rb (d_st' σ (upd (d_st σ) K v)) (upd f K v) := by
  obtain ⟨hst, ⟨h5, h6, h9⟩, hnu, hbl, hwr, ⟨s, hs, hsp, h7, hse⟩, hT, hH, ht, hb, hh0, hh1⟩ := hR
  have key : ∀ q, q = 0 ∨ q = 1 ∨ q = 4 → (∃ t, t ≤ 20 ∧ d_st σ q = nI t) → ∃ t, t ≤ 20 ∧ upd (d_st σ) K v q = nI t := by
    intro q hq h
    by_cases e : q = K
    · subst e; rw [pk_us]; exact hv hq
    · rw [pk_un e]; exact h
  refine ⟨fun k hk => ?_, ⟨?_, ?_, ?_⟩, fun c hc => ?_, fun c hc => ?_, fun c hc => ?_, ⟨s, hs, hsp, ?_, fun a ha => ?_⟩, hT, hH, key 4 (by omega) ht, hb, key 0 (by omega) hh0, key 1 (by omega) hh1⟩
  · show _ = upd (d_st σ) K v k
    by_cases h : k = K
    · subst h; rw [pk_us, pk_us]
    · rw [pk_un h, pk_un h]; exact hst k hk
  · rw [pk_un (by omega)]; exact h5
  · rw [pk_un (by omega)]; exact h6
  · rw [pk_un (by omega)]; exact h9
  · rw [pk_un (by omega)]; exact hnu c hc
  · rw [pk_un (by omega)]; exact hbl c hc
  · rw [pk_un (by omega)]; exact hwr c hc
  · rw [pk_un (by omega)]; exact h7
  · rw [pk_un (by omega)]; exact hse a ha
/-- only the first 816 count -/
theorem R_ext (hR : Rb σ f) {g : NI} (h : ∀ k, k < 816 → g k = f k) : Rb σ g := by
  obtain ⟨hst, ⟨h5, h6, h9⟩, hnu, hbl, hwr, ⟨s, hs, hsp, h7, hse⟩, hT, hH, ht, hb, hh0, hh1⟩ := hR
  refine ⟨fun k hk => ?_, ⟨?_, ?_, ?_⟩, fun c hc => ?_, fun c hc => ?_, fun c hc => ?_, ⟨s, hs, hsp, ?_, fun a ha => ?_⟩, hT, hH, ht, hb, hh0, hh1⟩
  · rw [h _ (by omega)]; exact hst k hk
  · rw [h _ (by omega)]; exact h5
  · rw [h _ (by omega)]; exact h6
  · rw [h _ (by omega)]; exact h9
  · rw [h _ (by omega)]; exact hnu c hc
  · rw [h _ (by omega)]; exact hbl c hc
  · rw [h _ (by omega)]; exact hwr c hc
  · rw [h _ (by omega)]; exact h7
  · rw [h _ (by omega)]; exact hse a ha
theorem Rl_ext (hR : Rl σ f) {g : NI} (h : ∀ k, k < 816 → g k = f k) : Rl σ g :=
  ⟨R_ext hR.1 h, by rw [h _ (by omega)]; exact hR.2.1, by rw [h _ (by omega)]; exact hR.2.2.1, by rw [h _ (by omega)]; exact hR.2.2.2⟩
end STEPS
