/-! the law's loop -/
theorem lpj {L j : Nat} (hL : L ≤ 1536) (hj : j ≤ L) (h : ¬ Int32.ofNat L - 3 < nI j) : j + 3 ≤ L := by
  by_cases h3 : 3 ≤ L
  · have e : Int32.ofNat L - 3 = nI (L - 3) := by
      have h2 : nI (L - 3) + nI 3 = nI L := by rw [nI_add, Nat.sub_add_cancel h3]
      show nI L - nI 3 = _
      rw [← h2, Int32.add_sub_cancel]
    rw [e, nI_ltI (by omega) (by omega)] at h
    omega
  · exfalso
    apply h
    rcases (show (L = 0 ∧ j = 0) ∨ (L = 1 ∧ j = 0) ∨ (L = 1 ∧ j = 1) ∨ (L = 2 ∧ j = 0) ∨ (L = 2 ∧ j = 1) ∨ (L = 2 ∧ j = 2) by omega) with ⟨rfl, rfl⟩ | ⟨rfl, rfl⟩ | ⟨rfl, rfl⟩ | ⟨rfl, rfl⟩ | ⟨rfl, rfl⟩ | ⟨rfl, rfl⟩ <;> decide
set_option maxHeartbeats 4000000 in
set_option maxRecDepth 100000 in
theorem lp_law {p : Program} {e : Env} {s : State} {m : MethodId} {below : List Frame} {meth : Method} {c : Code} {Q : State → Prop} {b L γ μ0 : Nat} {xs : Nat → Int32} {tb : Nat × Nat × Nat} (l : Launch) (G : GG) (C0 : lw_At p s m meth c b L xs) (hK : cK G s) (hT : sT tb (fun q => s.heap.size ≤ q) s) (hL : L ≤ 1536)
    (kend : ∀ (H : Heap) (locs : List Loc) (cells slots : Nat) (ls : Array Slot), cells ≤ 600000 → slots ≤ 7302250 → va_S (fun q => s.heap.size ≤ q) s.heap H locs → W p l e room_1 s m #[.ref b] below meth c H locs cells slots Q (F0 m 692 ls [])) : ∀ (f j : Nat) (W0 : va_W) (H : Heap) (locs : List Loc) (cells slots : Nat) (ls : Array Slot), j ≤ L → L < j + 3 * f → cells + 6 * f ≤ 600000 → slots + 818 * f ≤ 7302250 → LIw G γ μ0 W0 → va_P G.1 vwCl W0 H → va_D (fun q => s.heap.size ≤ q) W0 → va_S (fun q => s.heap.size ≤ q) s.heap H locs → lv_has ls 4 [(0, .ref b), (1, .ref γ), (2, .ref μ0), (3, .int (nI j))] → W p l e room_1 s m #[.ref b] below meth c H locs cells slots Q (F0 m 18 ls []) := by
  obtain ⟨hx, hb, hr, hml, hown, hts, hX, hbl, hlocks, hgv⟩ := id C0
  have hA : ∀ q : Nat, s.heap.size ≤ q → (fun q : Nat => s.heap.size ≤ q) q := fun _ h => h
  have hbA : ¬ (fun q : Nat => s.heap.size ≤ q) b := Nat.not_le.mpr hbl
  intro f
  induction f with
  | zero =>
    intro j W0 H locs cells slots ls hjL hf
    omega
  | succ f ih =>
    intro j W0 H locs cells slots ls hjL hf hc hs hLI hP hD hS hl
    refine lv_iload_n hx hb dL_law_18 rfl (lv_at hl 3 rfl) ?_
    refine lv_aload_n hx hb dL_law_19 rfl (lv_at hl 0 rfl) ?_
    refine va_slen hx hb hX hbl hbA hS dL_law_20 ?_
    refine lv_iconst (v := 3) hx hb dL_law_21 (by decide) ?_
    refine lv_isub hx hb dL_law_22 ?_
    refine lv_icmp_gt (tgt := 692) hx hb dL_law_23 (by decide) (fun c_1 => ?_) (fun c_1 => ?_)
    · exact kend _ _ _ _ _ (by omega) (by omega) hS
    have hj := lpj hL hjL c_1
    have K : ∀ (W1 : va_W) (H1 : Heap) (locs1 : List Loc), LIw G γ μ0 W1 → va_P G.1 vwCl W1 H1 → va_D (fun q => s.heap.size ≤ q) W1 → va_S (fun q => s.heap.size ≤ q) s.heap H1 locs1 → W p l e room_1 s m #[.ref b] below meth c H1 locs1 (cells + 6) (slots + 818) Q (F0 m 686 ls []) := by
      intro W1 H1 locs1 hLI hP hD hS
      refine lv_iinc (v := nI (j + 3)) (lv' := [(3, .int (nI (j + 3))), (0, .ref b), (1, .ref γ), (2, .ref μ0)]) hx hb dL_law_686 hl (k := 3) rfl (nI_add j 3) (by decide) rfl (fun ls hl => ?_)
      refine lv_goto (tgt := 18) hx hb dL_law_689 (by decide) ?_
      exact ih (j + 3) W1 H1 locs1 _ _ ls hj (by omega) (by omega) (by omega) hLI hP hD hS (lv_sub hl [1, 2, 3, 0] rfl)
    have Kd : W p l e room_1 s m #[.ref b] below meth c H locs cells slots Q (F0 m 686 ls []) := W.widen (k := cells + 6) (n := slots + 818) (Nat.le_add_right _ _) (Nat.le_add_right _ _) (K _ _ _ hLI hP hD hS)
    refine lv_aload_n hx hb dL_law_26 rfl (lv_at hl 0 rfl) ?_
    refine lv_iload_n hx hb dL_law_27 rfl (lv_at hl 3 rfl) ?_
    refine va_sld hx hb hX hbl hbA hS (vp_in_nI (by omega) (by omega)) dL_law_28 ?_
    refine lv_bipush (v := 31) hx hb dL_law_29 (by decide) ?_
    refine lv_iand hx hb dL_law_31 ?_
    generalize xs (nI j).toNatClampNeg &&& 31 = op
    rcases pk_ix op (n := 20) (by omega) with h | h | ⟨k, hk, rfl⟩
    · exact lv_tableOut (tgt := 686) hx hb dL_law_32 (Or.inl (Int32.lt_iff_toInt_lt.mp h)) (by decide) Kd
    · exact lv_tableOut (tgt := 686) hx hb dL_law_32 (Or.inr (Int.lt_of_lt_of_le (show (19 : Int) < (nI 20).toInt from by decide) (Int32.le_iff_toInt_le.mp h))) (by decide) Kd
    · rcases (show k = 0 ∨ k = 1 ∨ k = 2 ∨ k = 3 ∨ k = 4 ∨ k = 5 ∨ k = 6 ∨ k = 7 ∨ k = 8 ∨ k = 9 ∨ k = 10 ∨ k = 11 ∨ k = 12 ∨ k = 13 ∨ k = 14 ∨ k = 15 ∨ k = 16 ∨ k = 17 ∨ k = 18 ∨ k = 19 by omega) with rfl | rfl | rfl | rfl | rfl | rfl | rfl | rfl | rfl | rfl | rfl | rfl | rfl | rfl | rfl | rfl | rfl | rfl | rfl | rfl
      · exact lv_tableIn (x := nI 0) (off := 96) (tgt := 128) hx hb dL_law_32 (by decide) (by decide) (by rfl) (by decide) (cs_set l G C0 hK hT hA hbA hL hj hLI hP hD hS (by omega) (by omega) hl K)
      · exact lv_tableIn (x := nI 1) (off := 129) (tgt := 161) hx hb dL_law_32 (by decide) (by decide) (by rfl) (by decide) (cs_write l G C0 hK hT hA hbA hL hj hLI hP hD hS (by omega) (by omega) hl K)
      · exact lv_tableIn (x := nI 2) (off := 162) (tgt := 194) hx hb dL_law_32 (by decide) (by decide) (by rfl) (by decide) (cs_read l G C0 hK hT hA hbA hL hj hLI hP hD hS (by omega) (by omega) hl K)
      · exact lv_tableIn (x := nI 3) (off := 185) (tgt := 217) hx hb dL_law_32 (by decide) (by decide) (by rfl) (by decide) (cs_refresh l G C0 hK hT hA hbA hL hj hLI hP hD hS (by omega) (by omega) hl K)
      · exact lv_tableIn (x := nI 4) (off := 208) (tgt := 240) hx hb dL_law_32 (by decide) (by decide) (by rfl) (by decide) (cs_seek l G C0 hK hT hA hbA hL hj hLI hP hD hS (by omega) (by omega) hl K)
      · exact lv_tableIn (x := nI 5) (off := 231) (tgt := 263) hx hb dL_law_32 (by decide) (by decide) (by rfl) (by decide) (cs_idle l G C0 hK hT hA hbA hL hj hLI hP hD hS (by omega) (by omega) hl K)
      · exact lv_tableIn (x := nI 6) (off := 254) (tgt := 286) hx hb dL_law_32 (by decide) (by decide) (by rfl) (by decide) (cs_run l G C0 hK hT hA hbA hL hj hLI hP hD hS (by omega) (by omega) hl K)
      · exact lv_tableIn (x := nI 7) (off := 293) (tgt := 325) hx hb dL_law_32 (by decide) (by decide) (by rfl) (by decide) (cs_sector l G C0 hK hT hA hbA hL hj hLI hP hD hS (by omega) (by omega) hl K)
      · exact lv_tableIn (x := nI 8) (off := 326) (tgt := 358) hx hb dL_law_32 (by decide) (by decide) (by rfl) (by decide) (cs_track l G C0 hK hT hA hbA hL hj hLI hP hD hS (by omega) (by omega) hl K)
      · exact lv_tableIn (x := nI 9) (off := 359) (tgt := 391) hx hb dL_law_32 (by decide) (by decide) (by rfl) (by decide) (cs_count l G C0 hK hT hA hbA hL hj hLI hP hD hS (by omega) (by omega) hl K)
      · exact lv_tableIn (x := nI 10) (off := 382) (tgt := 414) hx hb dL_law_32 (by decide) (by decide) (by rfl) (by decide) (cs_ticksFor l G C0 hK hT hA hbA hL hj hLI hP hD hS (by omega) (by omega) hl K)
      · exact lv_tableIn (x := nI 11) (off := 431) (tgt := 463) hx hb dL_law_32 (by decide) (by decide) (by rfl) (by decide) (cs_ifRun l G C0 hK hT hA hbA hL hj hLI hP hD hS (by omega) (by omega) hl K)
      · exact lv_tableIn (x := nI 12) (off := 470) (tgt := 502) hx hb dL_law_32 (by decide) (by decide) (by rfl) (by decide) (cs_untilLost l G C0 hK hT hA hbA hL hj hLI hP hD hS (by omega) (by omega) hl K)
      · exact lv_tableIn (x := nI 13) (off := 503) (tgt := 535) hx hb dL_law_32 (by decide) (by decide) (by rfl) (by decide) (cs_worst l G C0 hK hT hA hbA hL hj hLI hP hD hS (by omega) (by omega) hl K)
      · exact lv_tableIn (x := nI 14) (off := 516) (tgt := 548) hx hb dL_law_32 (by decide) (by decide) (by rfl) (by decide) (cs_put l G C0 hK hT hA hbA hL hj hLI hP hD hS (by omega) (by omega) hl K)
      · exact lv_tableIn (x := nI 15) (off := 569) (tgt := 601) hx hb dL_law_32 (by decide) (by decide) (by rfl) (by decide) (cs_wipe l G C0 hK hT hA hbA hL hj hLI hP hD hS (by omega) (by omega) hl K)
      · exact lv_tableIn (x := nI 16) (off := 582) (tgt := 614) hx hb dL_law_32 (by decide) (by decide) (by rfl) (by decide) (cs_fault l G C0 hK hT hA hbA hL hj hLI hP hD hS (by omega) (by omega) hl K)
      · exact lv_tableIn (x := nI 17) (off := 595) (tgt := 627) hx hb dL_law_32 (by decide) (by decide) (by rfl) (by decide) (cs_undo l G C0 hK hT hA hbA hL hj hLI hP hD hS (by omega) (by omega) hl K)
      · exact lv_tableIn (x := nI 18) (off := 608) (tgt := 640) hx hb dL_law_32 (by decide) (by decide) (by rfl) (by decide) (cs_save l G C0 hK hT hA hbA hL hj hLI hP hD hS (by omega) (by omega) hl K)
      · exact lv_tableIn (x := nI 19) (off := 631) (tgt := 663) hx hb dL_law_32 (by decide) (by decide) (by rfl) (by decide) (cs_restore l G C0 hK hT hA hbA hL hj hLI hP hD hS (by omega) (by omega) hl K)
