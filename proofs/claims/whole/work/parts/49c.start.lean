/-! the law's beginning: the two objects are made, and the loop begins -/
set_option maxHeartbeats 4000000 in
set_option maxRecDepth 100000 in
theorem whole_start {p : Program} {e : Env} {s : State} {m : MethodId} {below : List Frame} {meth : Method} {c : Code} (l : Launch) (hflags : l.flags = flags0) {b L : Nat} {xs : Nat → Int32} (hL : L ≤ 1536) (C0 : lw_At p s m meth c b L xs) : W p l e room_1 s m #[Value.ref b] below meth c s.heap [] 0 0 (lw_Z below #[Value.ref b] s) (entryFrame m ([Value.ref b] : List Value).toArray 4) := by
  obtain ⟨hx, hb, hr, hml, hown, hts, hX, hbl, hlocks, hgv⟩ := id C0
  have hA : ∀ q : Nat, s.heap.size ≤ q → (fun q : Nat => s.heap.size ≤ q) q := fun _ h => h
  have hF : CallFix p m c cL_law 4 s #[.ref b] lw_tbl RL := ⟨hx, hb, hml, hown, hts⟩
  obtain ⟨tb, hT⟩ := tabs_of (A := fun q => s.heap.size ≤ q) hts hgv (fun a h => Nat.not_le.mpr h)
  obtain ⟨G, hK⟩ := known_of hts
  have hin0 := newD.2
  obtain ⟨gm, m1, m2, m3⟩ := newM
  have hS : va_S (fun q : Nat => s.heap.size ≤ q) s.heap s.heap [] := va_S.rf
  have hP : va_P G.1 vwCl [] s.heap := fun k q h => by simp at h
  have hD : va_D (fun q : Nat => s.heap.size ≤ q) [] := ⟨fun i j p q h => by simp at h, fun k q h => by simp at h⟩
  have hl := lv_entry ([.ref b]) (n := 4) (Nat.le_of_ble_eq_true rfl)
  rw [lg_entry_eq]
  generalize (lg_sl ([.ref b]) ++ List.replicate (4 - (lg_sl ([.ref b])).length) Slot.unset).toArray = ls at hl ⊢
  have hl : lv_has ls 4 [(0, .ref b)] := hl
  refine va_new (D := G.1) (ci := 4) (fs := [.null, .null, .null, .null, .null, .null]) (C := RX4) (T := TX4) (N := 6) hx hb hts inX4 tyX4 tyX4_ok hown (hts _ wm_631) (hts _ wn_1) (hts _ wm_36) hK.1 hP hD hS hA rfl (fun j hj => by rcases (show j = 0 ∨ j = 1 ∨ j = 2 ∨ j = 3 ∨ j = 4 ∨ j = 5 by omega) with rfl | rfl | rfl | rfl | rfl | rfl <;> rfl) (Nat.le_of_ble_eq_true rfl) (Nat.le_of_ble_eq_true rfl) dL_law_0 (fun g H hP hD hS => ?_)
  refine lv_dup hx hb dL_law_3 rfl ?_
  refine nwI (As := []) (rest := [.ref g]) (WA := []) (w := w0_X4 g) (c_X4_init l G g tb hin0) iT.blind hF (cwI 0 hts gL_law_X4_init rfl rfl rfl (hts _ wm_36) (hts _ wm_634) (hts _ wn_2) rfl (by decide +kernel) ⟨Nat.le_of_ble_eq_true rfl, Nat.le_of_ble_eq_true rfl⟩) hK hP hD hS hA (fun U hU hW hF => ⟨hT.to hS hF hU hW, va_AO.moved hW.alike (va_AO.of (hts _ wn_6))⟩) rfl hl.1 rfl (Nat.le_of_ble_eq_true rfl) dL_law_4 ⟨Nat.le_of_ble_eq_true rfl, Nat.le_of_ble_eq_true rfl⟩ (fun w1 H locs hB hP hD hS => ?_)
  obtain ⟨α, β, π, κ, η, ς, rfl⟩ := hB
  refine lv_astore_n (lv' := [(1, .ref g), (0, .ref b)]) hx hb dL_law_7 rfl hl (by decide) rfl (fun ls hl => ?_)
  refine va_new (D := G.1) (ci := 5) (fs := [.null, .null, .null, .int 0, .null, .null, .null, .int 0, .int 0, .int 0, .null, .null, .null, .int 0]) (C := RX5) (T := TX5) (N := 14) hx hb hts inX5 tyX5 tyX5_ok hown (hts _ wm_632) (hts _ wn_7) (hts _ wm_138) hK.1 hP hD hS hA rfl (fun j hj => by rcases (show j = 0 ∨ j = 1 ∨ j = 2 ∨ j = 3 ∨ j = 4 ∨ j = 5 ∨ j = 6 ∨ j = 7 ∨ j = 8 ∨ j = 9 ∨ j = 10 ∨ j = 11 ∨ j = 12 ∨ j = 13 by omega) with rfl | rfl | rfl | rfl | rfl | rfl | rfl | rfl | rfl | rfl | rfl | rfl | rfl | rfl <;> rfl) (Nat.le_of_ble_eq_true rfl) (Nat.le_of_ble_eq_true rfl) dL_law_8 (fun g5 H hP hD hS => ?_)
  refine lv_dup hx hb dL_law_11 rfl ?_
  refine nwI (As := []) (rest := [.ref g5]) (w := w0_X5 g5) (c_X5_init l G g5 m2) nT.blind hF (cwI 0 hts gL_law_X5_init rfl rfl rfl (hts _ wm_138) (hts _ wm_635) (hts _ wn_8) rfl (by decide +kernel) ⟨Nat.le_of_ble_eq_true rfl, Nat.le_of_ble_eq_true rfl⟩) hK hP hD hS hA (fun _ _ _ _ => trivial) rfl hl.1 rfl (Nat.le_of_ble_eq_true rfl) dL_law_12 ⟨Nat.le_of_ble_eq_true rfl, Nat.le_of_ble_eq_true rfl⟩ (fun w1 H locs hB hP hD hS => ?_)
  obtain ⟨ν, rfl, rfl⟩ := hB
  rw [m1] at hP hD
  have hP : va_P G.1 vwCl (cW G g α β π κ η ς q0 p0 dNew dNew (fun _ => none) (fun _ => none) 0 0 ++ mW G.2.1 ν (m_al' mNew gm)) H := hP.perm (pqI (x := xR G.2.1 (fun _ => none)) (y := xS G.2.1 (fun _ => none)) rfl rfl)
  have hD : va_D (fun q : Nat => s.heap.size ≤ q) (cW G g α β π κ η ς q0 p0 dNew dNew (fun _ => none) (fun _ => none) 0 0 ++ mW G.2.1 ν (m_al' mNew gm)) := hD.perm (pqI (x := xR G.2.1 (fun _ => none)) (y := xS G.2.1 (fun _ => none)) rfl rfl)
  have hLI : LIw G g (ν 0) (cW G g α β π κ η ς q0 p0 dNew dNew (fun _ => none) (fun _ => none) 0 0 ++ mW G.2.1 ν (m_al' mNew gm)) := ⟨α, β, π, κ, η, ς, q0, p0, dNew, dNew, (fun _ => none), (fun _ => none), 0, 0, ν, m_al' mNew gm, rfl, rfl, by rw [al_get]; exact m3, ⟨by omega, by omega, rfl, fun i hi => absurd hi (Nat.not_lt_zero _)⟩, fun s hs => Or.inl ⟨rfl, rfl⟩, ⟨0, by omega, rfl, rfl, fun j hj => absurd hj (Nat.not_lt_zero _)⟩⟩
  refine lv_astore_n (lv' := [(2, .ref (ν 0)), (1, .ref g), (0, .ref b)]) hx hb dL_law_15 rfl hl (by decide) rfl (fun ls hl => ?_)
  refine lv_iconst (v := 0) hx hb dL_law_16 (by decide) ?_
  refine lv_istore_n (lv' := [(3, .int 0), (2, .ref (ν 0)), (1, .ref g), (0, .ref b)]) hx hb dL_law_17 rfl hl (by decide) rfl (fun ls hl => ?_)
  refine lp_law (γ := g) (μ0 := ν 0) l G C0 hK hT hL (fun H locs cells slots ls hc hs hS => ?_) 513 0 _ _ _ _ _ ls (Nat.zero_le _) (by omega) (Nat.le_of_ble_eq_true rfl) (Nat.le_of_ble_eq_true rfl) hLI hP hD hS (lv_sub hl [3, 2, 1, 0] rfl)
  refine lv_iconst (v := 1) hx hb dL_law_692 (by decide) ?_
  exact va_forget (fun q hq => hS.2.2 q hq) (W.widen (k := 600000) (n := 7302250) hc hs (lw_ret hx hb hr hlocks dL_law_693))
