/-! rows for the fields and arrays of one block, its state a variable; calls whose world is the whole world -/
theorem va_P0 {D : va_G} {cl : List vw_C} {H : Heap} : va_P D cl [] H := fun k q h => by simp at h
theorem va_PL {D : va_G} {cl : List vw_C} {A B : va_W} {H : Heap} (h : va_P D cl (A ++ B) H) : va_P D cl A H := fun k q hk => by
  have hl := (List.getElem?_eq_some_iff.mp hk).1
  exact h k q (by rw [List.getElem?_append_left hl]; exact hk)
theorem va_PR {D : va_G} {cl : List vw_C} {A B : va_W} {H : Heap} (h : va_P D cl (A ++ B) H) : va_P D cl B H := fun k q hk =>
  h (A.length + k) q (by rw [List.getElem?_append_right (by omega)]; rw [Nat.add_sub_cancel_left]; exact hk)
theorem va_DL {X : Nat → Prop} {A B : va_W} (h : va_D X (A ++ B)) : va_D X A := by
  have key : ∀ (k : Nat) (q : Nat × va_E), A[k]? = some q → (A ++ B)[k]? = some q := fun k q hk => by
    rw [List.getElem?_append_left (List.getElem?_eq_some_iff.mp hk).1]; exact hk
  exact ⟨fun i j x y hx hy hxy => h.1 i j x y (key i x hx) (key j y hy) hxy, fun k q hk => h.2 k q (key k q hk)⟩
theorem va_DR {X : Nat → Prop} {A B : va_W} (h : va_D X (A ++ B)) : va_D X B := by
  have key : ∀ (k : Nat) (q : Nat × va_E), B[k]? = some q → (A ++ B)[A.length + k]? = some q := fun k q hk => by
    rw [List.getElem?_append_right (by omega), Nat.add_sub_cancel_left]; exact hk
  refine ⟨fun i j x y hx hy hxy => ?_, fun k q hk => h.2 _ q (key k q hk)⟩
  have := h.1 _ _ x y (key i x hx) (key j y hy) hxy
  omega
theorem va_Dx {X : Nat → Prop} {A B : va_W} (h : va_D X (A ++ B)) {i j : Nat} {x y : Nat × va_E} (hx : A[i]? = some x) (hy : B[j]? = some y) : x.1 ≠ y.1 := fun e => by
  have hl := (List.getElem?_eq_some_iff.mp hx).1
  have := h.1 i (A.length + j) x y (by rw [List.getElem?_append_left hl]; exact hx) (by rw [List.getElem?_append_right (by omega), Nat.add_sub_cancel_left]; exact hy) e
  omega
theorem inW_of {w : va_W} {k : Nat} {q : Nat × va_E} (h : w[k]? = some q) : inW w q.1 := ⟨k, q.2, h⟩
/-- a part of a world was written (its addresses stay), the other part not -/
theorem repL {X : Nat → Prop} {D : va_G} {cl : List vw_C} {A A1 B : va_W} {H H1 : Heap} (hP : va_P D cl (A ++ B) H) (hD : va_D X (A ++ B)) (hf : A1.map (·.1) = A.map (·.1)) (hk : ∀ q : Nat, q < H.size → ¬ inW A q → H1[q]? = H[q]?) (hP1 : va_P D cl A1 H1) : va_P D cl (A1 ++ B) H1 ∧ va_D X (A1 ++ B) := by
  have back : ∀ (k : Nat) (q : Nat × va_E), A1[k]? = some q → ∃ q0, A[k]? = some q0 ∧ q0.1 = q.1 := fun k q hk => by
    have e1 : (A1.map (·.1))[k]? = some q.1 := by rw [List.getElem?_map, hk]; rfl
    rw [hf, List.getElem?_map] at e1
    cases h : A[k]? with
    | none => rw [h] at e1; cases e1
    | some q0 => rw [h] at e1; exact ⟨q0, rfl, Option.some.inj e1⟩
  refine ⟨hP1.app ((va_PR hP).kept fun k q hq => hk q.1 ((va_PR hP) k q hq).lt fun z => ?_), va_D.app ⟨fun i j x y hx hy hxy => ?_, fun k q hq => ?_⟩ (va_DR hD) fun i j x y hx hy hxy => ?_⟩
  · obtain ⟨j, e, hj⟩ := z
    exact va_Dx hD hj hq rfl
  · obtain ⟨x0, h1, h2⟩ := back i x hx
    obtain ⟨y0, h3, h4⟩ := back j y hy
    exact (va_DL hD).1 i j x0 y0 h1 h3 (h2.trans (hxy.trans h4.symm))
  · obtain ⟨q0, h1, h2⟩ := back k q hq
    rw [← h2]
    exact (va_DL hD).2 k q0 h1
  · obtain ⟨x0, h1, h2⟩ := back i x hx
    exact va_Dx hD h1 hy (h2.trans hxy)
theorem repR {X : Nat → Prop} {D : va_G} {cl : List vw_C} {A B B1 : va_W} {H H1 : Heap} (hP : va_P D cl (A ++ B) H) (hD : va_D X (A ++ B)) (hf : B1.map (·.1) = B.map (·.1)) (hk : ∀ q : Nat, q < H.size → ¬ inW B q → H1[q]? = H[q]?) (hP1 : va_P D cl B1 H1) : va_P D cl (A ++ B1) H1 ∧ va_D X (A ++ B1) := by
  have back : ∀ (k : Nat) (q : Nat × va_E), B1[k]? = some q → ∃ q0, B[k]? = some q0 ∧ q0.1 = q.1 := fun k q hk => by
    have e1 : (B1.map (·.1))[k]? = some q.1 := by rw [List.getElem?_map, hk]; rfl
    rw [hf, List.getElem?_map] at e1
    cases h : B[k]? with
    | none => rw [h] at e1; cases e1
    | some q0 => rw [h] at e1; exact ⟨q0, rfl, Option.some.inj e1⟩
  refine ⟨va_P.app ((va_PL hP).kept fun k q hq => hk q.1 ((va_PL hP) k q hq).lt fun z => ?_) hP1, va_D.app (va_DL hD) ⟨fun i j x y hx hy hxy => ?_, fun k q hq => ?_⟩ fun i j x y hx hy hxy => ?_⟩
  · obtain ⟨j, e, hj⟩ := z
    exact va_Dx hD hq hj rfl
  · obtain ⟨x0, h1, h2⟩ := back i x hx
    obtain ⟨y0, h3, h4⟩ := back j y hy
    exact (va_DR hD).1 i j x0 y0 h1 h3 (h2.trans (hxy.trans h4.symm))
  · obtain ⟨q0, h1, h2⟩ := back k q hq
    rw [← h2]
    exact (va_DR hD).2 k q0 h1
  · obtain ⟨y0, h1, h2⟩ := back j y hy
    exact va_Dx hD hx h1 (hxy.trans h2.symm)
section RDX
variable {p : Program} {l : Launch} {e : Env} {R : Room} {s : State} {m : MethodId} {args : Array Value} {below : List Frame} {meth : Method} {c : Code} {H : Heap} {locs : List Loc} {cells slots : Nat} {Q : State → Prop}
variable {y : MethodName} {bytes cc : ByteArray} {maxL nL n index nf nl : Nat} {ret : Option FieldType} {ws : List Cond} {Ts : List Cond} {own C host : String} {b : Nat} {As rest st0 : List Value} {ls : Array Slot} {pc : Nat} {G : GG} {w w1 WA WB : va_W} {v : Value} {vo : Option Value} {H0 : Heap} {A : Nat → Prop} {aa : Array Value} {α : Nat → Nat}

theorem rep0 {X : Nat → Prop} {D : va_G} {cl : List vw_C} {A A1 : va_W} {H1 : Heap} (hD : va_D X A) (hf : A1.map (·.1) = A.map (·.1)) (hP1 : va_P D cl A1 H1) : va_P D cl A1 H1 ∧ va_D X A1 := by
  have back : ∀ (k : Nat) (q : Nat × va_E), A1[k]? = some q → ∃ q0, A[k]? = some q0 ∧ q0.1 = q.1 := fun k q hk => by
    have e1 : (A1.map (·.1))[k]? = some q.1 := by rw [List.getElem?_map, hk]; rfl
    rw [hf, List.getElem?_map] at e1
    cases h : A[k]? with
    | none => rw [h] at e1; cases e1
    | some q0 => rw [h] at e1; exact ⟨q0, rfl, Option.some.inj e1⟩
  refine ⟨hP1, fun i j x y hx hy hxy => ?_, fun k q hq => ?_⟩
  · obtain ⟨x0, h1, h2⟩ := back i x hx
    obtain ⟨y0, h3, h4⟩ := back j y hy
    exact hD.1 i j x0 y0 h1 h3 (h2.trans (hxy.trans h4.symm))
  · obtain ⟨q0, h1, h2⟩ := back k q hq
    rw [← h2]
    exact hD.2 k q0 h1
theorem wr_go0 (hr : va_Run p l e R s m args below meth c H locs cells slots 0 0 (F0 m pc ls st0) rest (QW G w w1 vo aa) (inW w)) (hP : va_P G.1 vwCl w H) (hD : va_D A w) (hS : va_S A H0 H locs) (hf : w1.map (·.1) = w.map (·.1))
    (kk : ∀ (H1 : Heap) (locs1 : List Loc), va_P G.1 vwCl w1 H1 → va_D A w1 → va_S A H0 H1 locs1 → W p l e R s m args below meth c H1 locs1 cells slots Q (F0 m (pc + 3) ls (vo.toList ++ rest))) : W p l e R s m args below meth c H locs cells slots Q (F0 m pc ls st0) := by
  intro T hT X
  obtain ⟨v', st₀, t, T', L, h0, X', hL, e1, e2, ⟨hv, hp, hz, hk⟩, st⟩ := hr T hT X
  cases hv
  rw [h0] at hz hk
  have hk1 : ∀ q : Nat, q < H.size → ¬ inW w q → T'.heap[q]? = H[q]? := fun q a b => by rw [e1]; exact hk q a b
  have hsub : ∀ q, inW w q → A q := fun q ⟨k, e9, hq⟩ => (hD).2 k (q, e9) hq
  obtain ⟨hP1, hD1⟩ := rep0 (H1 := T'.heap) hD hf (by rw [e1]; exact hp)
  obtain ⟨t2, a1, b1⟩ := kk T'.heap (locs ++ L) hP1 hD1 ⟨Nat.le_trans hS.1 (by rw [e1]; exact hz), fun q h1 h2 => (hk1 q (Nat.lt_of_lt_of_le h1 hS.1) (fun z => h2 (hsub q z))).trans (hS.2.1 q h1 h2), fun q hq => by
      rcases List.mem_append.mp hq with h | h
      · exact hS.2.2 q h
      · exact hsub _ (hL q h)⟩ T' rfl X'
  exact ⟨t2, st t2 a1, b1⟩
theorem wrV0 (hC : Wr G l y ws nf nl (.ref b :: As) w vo w1) (S : CallFix p m c cc nL s args Ts own) (cw : CallW R s args own C index y bytes maxL ret ws (rmm nf nl) 0 0 n) (hv : ∃ cell : Cell, H[b]? = some cell ∧ cell.vm.isStatics = false ∧ s.vm.findClass C = some cell.cls) (hK : cK G s) (hP : va_P G.1 vwCl w H) (hD : va_D A w) (hS : va_S A H0 H locs) (hfs : w1.map (·.1) = w.map (·.1))
    (hn : As.length = n) (hsz : ls.size = nL) (hst : st0 = As.reverse ++ .ref b :: rest) (hW : (rest.map fun v => v.category).sum ≤ 8) (hdg : decode cc pc = .ok (.invokevirtual index, 3)) (hf : cells ≤ R.cells ∧ slots ≤ R.slots)
    (kk : ∀ (H1 : Heap) (locs1 : List Loc), va_P G.1 vwCl w1 H1 → va_D A w1 → va_S A H0 H1 locs1 → W p l e R s m args below meth c H1 locs1 cells slots Q (F0 m (pc + 3) ls (vo.toList ++ rest))) : W p l e R s m args below meth c H locs cells slots Q (F0 m pc ls st0) :=
  wr_go0 (va_runV S hC cw ⟨PW.blind, hv, fun U hU hW => ⟨rfl, by rw [hU]; exact hP, hK.warm hW, (hD).weaken (fun _ _ _ _ => trivial)⟩⟩ rfl hn hsz hst (lv_room hW) hdg hf) hP hD hS hfs kk
theorem wrS0 (hC : Wr G l y ws nf nl (As) w vo w1) (S : CallFix p m c cc nL s args Ts own) (cw : CallB R s args own index y bytes maxL ret ws (rmm nf nl) 0 0 n ∧ (Cond.static y).before args s = true) (hK : cK G s) (hP : va_P G.1 vwCl w H) (hD : va_D A w) (hS : va_S A H0 H locs) (hfs : w1.map (·.1) = w.map (·.1))
    (hn : As.length = n) (hsz : ls.size = nL) (hst : st0 = As.reverse ++ rest) (hW : (rest.map fun v => v.category).sum ≤ 8) (hdg : decode cc pc = .ok (.invokestatic index, 3)) (hf : cells ≤ R.cells ∧ slots ≤ R.slots)
    (kk : ∀ (H1 : Heap) (locs1 : List Loc), va_P G.1 vwCl w1 H1 → va_D A w1 → va_S A H0 H1 locs1 → W p l e R s m args below meth c H1 locs1 cells slots Q (F0 m (pc + 3) ls (vo.toList ++ rest))) : W p l e R s m args below meth c H locs cells slots Q (F0 m pc ls st0) :=
  wr_go0 (va_runS S hC cw ⟨PW.blind, fun U hU hW => ⟨rfl, by rw [hU]; exact hP, hK.warm hW, (hD).weaken (fun _ _ _ _ => trivial)⟩⟩ rfl hn hsz hst (lv_room hW) hdg hf) hP hD hS hfs kk
theorem wr_goL (hr : va_Run p l e R s m args below meth c H locs cells slots 0 0 (F0 m pc ls st0) rest (QW G w w1 vo aa) (inW w)) (hP : va_P G.1 vwCl (w ++ WB) H) (hD : va_D A (w ++ WB)) (hS : va_S A H0 H locs) (hf : w1.map (·.1) = w.map (·.1))
    (kk : ∀ (H1 : Heap) (locs1 : List Loc), va_P G.1 vwCl (w1 ++ WB) H1 → va_D A (w1 ++ WB) → va_S A H0 H1 locs1 → W p l e R s m args below meth c H1 locs1 cells slots Q (F0 m (pc + 3) ls (vo.toList ++ rest))) : W p l e R s m args below meth c H locs cells slots Q (F0 m pc ls st0) := by
  intro T hT X
  obtain ⟨v', st₀, t, T', L, h0, X', hL, e1, e2, ⟨hv, hp, hz, hk⟩, st⟩ := hr T hT X
  cases hv
  rw [h0] at hz hk
  have hk1 : ∀ q : Nat, q < H.size → ¬ inW w q → T'.heap[q]? = H[q]? := fun q a b => by rw [e1]; exact hk q a b
  have hsub : ∀ q, inW w q → A q := fun q ⟨k, e9, hq⟩ => (va_DL hD).2 k (q, e9) hq
  obtain ⟨hP1, hD1⟩ := repL hP hD hf hk1 (by rw [e1]; exact hp)
  obtain ⟨t2, a1, b1⟩ := kk T'.heap (locs ++ L) hP1 hD1 ⟨Nat.le_trans hS.1 (by rw [e1]; exact hz), fun q h1 h2 => (hk1 q (Nat.lt_of_lt_of_le h1 hS.1) (fun z => h2 (hsub q z))).trans (hS.2.1 q h1 h2), fun q hq => by
      rcases List.mem_append.mp hq with h | h
      · exact hS.2.2 q h
      · exact hsub _ (hL q h)⟩ T' rfl X'
  exact ⟨t2, st t2 a1, b1⟩
theorem wrVL (hC : Wr G l y ws nf nl (.ref b :: As) w vo w1) (S : CallFix p m c cc nL s args Ts own) (cw : CallW R s args own C index y bytes maxL ret ws (rmm nf nl) 0 0 n) (hv : ∃ cell : Cell, H[b]? = some cell ∧ cell.vm.isStatics = false ∧ s.vm.findClass C = some cell.cls) (hK : cK G s) (hP : va_P G.1 vwCl (w ++ WB) H) (hD : va_D A (w ++ WB)) (hS : va_S A H0 H locs) (hfs : w1.map (·.1) = w.map (·.1))
    (hn : As.length = n) (hsz : ls.size = nL) (hst : st0 = As.reverse ++ .ref b :: rest) (hW : (rest.map fun v => v.category).sum ≤ 8) (hdg : decode cc pc = .ok (.invokevirtual index, 3)) (hf : cells ≤ R.cells ∧ slots ≤ R.slots)
    (kk : ∀ (H1 : Heap) (locs1 : List Loc), va_P G.1 vwCl (w1 ++ WB) H1 → va_D A (w1 ++ WB) → va_S A H0 H1 locs1 → W p l e R s m args below meth c H1 locs1 cells slots Q (F0 m (pc + 3) ls (vo.toList ++ rest))) : W p l e R s m args below meth c H locs cells slots Q (F0 m pc ls st0) :=
  wr_goL (va_runV S hC cw ⟨PW.blind, hv, fun U hU hW => ⟨rfl, by rw [hU]; exact va_PL hP, hK.warm hW, (va_DL hD).weaken (fun _ _ _ _ => trivial)⟩⟩ rfl hn hsz hst (lv_room hW) hdg hf) hP hD hS hfs kk
theorem wrSL (hC : Wr G l y ws nf nl (As) w vo w1) (S : CallFix p m c cc nL s args Ts own) (cw : CallB R s args own index y bytes maxL ret ws (rmm nf nl) 0 0 n ∧ (Cond.static y).before args s = true) (hK : cK G s) (hP : va_P G.1 vwCl (w ++ WB) H) (hD : va_D A (w ++ WB)) (hS : va_S A H0 H locs) (hfs : w1.map (·.1) = w.map (·.1))
    (hn : As.length = n) (hsz : ls.size = nL) (hst : st0 = As.reverse ++ rest) (hW : (rest.map fun v => v.category).sum ≤ 8) (hdg : decode cc pc = .ok (.invokestatic index, 3)) (hf : cells ≤ R.cells ∧ slots ≤ R.slots)
    (kk : ∀ (H1 : Heap) (locs1 : List Loc), va_P G.1 vwCl (w1 ++ WB) H1 → va_D A (w1 ++ WB) → va_S A H0 H1 locs1 → W p l e R s m args below meth c H1 locs1 cells slots Q (F0 m (pc + 3) ls (vo.toList ++ rest))) : W p l e R s m args below meth c H locs cells slots Q (F0 m pc ls st0) :=
  wr_goL (va_runS S hC cw ⟨PW.blind, fun U hU hW => ⟨rfl, by rw [hU]; exact va_PL hP, hK.warm hW, (va_DL hD).weaken (fun _ _ _ _ => trivial)⟩⟩ rfl hn hsz hst (lv_room hW) hdg hf) hP hD hS hfs kk
theorem wr_goR (hr : va_Run p l e R s m args below meth c H locs cells slots 0 0 (F0 m pc ls st0) rest (QW G w w1 vo aa) (inW w)) (hP : va_P G.1 vwCl (WA ++ w) H) (hD : va_D A (WA ++ w)) (hS : va_S A H0 H locs) (hf : w1.map (·.1) = w.map (·.1))
    (kk : ∀ (H1 : Heap) (locs1 : List Loc), va_P G.1 vwCl (WA ++ w1) H1 → va_D A (WA ++ w1) → va_S A H0 H1 locs1 → W p l e R s m args below meth c H1 locs1 cells slots Q (F0 m (pc + 3) ls (vo.toList ++ rest))) : W p l e R s m args below meth c H locs cells slots Q (F0 m pc ls st0) := by
  intro T hT X
  obtain ⟨v', st₀, t, T', L, h0, X', hL, e1, e2, ⟨hv, hp, hz, hk⟩, st⟩ := hr T hT X
  cases hv
  rw [h0] at hz hk
  have hk1 : ∀ q : Nat, q < H.size → ¬ inW w q → T'.heap[q]? = H[q]? := fun q a b => by rw [e1]; exact hk q a b
  have hsub : ∀ q, inW w q → A q := fun q ⟨k, e9, hq⟩ => (va_DR hD).2 k (q, e9) hq
  obtain ⟨hP1, hD1⟩ := repR hP hD hf hk1 (by rw [e1]; exact hp)
  obtain ⟨t2, a1, b1⟩ := kk T'.heap (locs ++ L) hP1 hD1 ⟨Nat.le_trans hS.1 (by rw [e1]; exact hz), fun q h1 h2 => (hk1 q (Nat.lt_of_lt_of_le h1 hS.1) (fun z => h2 (hsub q z))).trans (hS.2.1 q h1 h2), fun q hq => by
      rcases List.mem_append.mp hq with h | h
      · exact hS.2.2 q h
      · exact hsub _ (hL q h)⟩ T' rfl X'
  exact ⟨t2, st t2 a1, b1⟩
theorem wrVR (hC : Wr G l y ws nf nl (.ref b :: As) w vo w1) (S : CallFix p m c cc nL s args Ts own) (cw : CallW R s args own C index y bytes maxL ret ws (rmm nf nl) 0 0 n) (hv : ∃ cell : Cell, H[b]? = some cell ∧ cell.vm.isStatics = false ∧ s.vm.findClass C = some cell.cls) (hK : cK G s) (hP : va_P G.1 vwCl (WA ++ w) H) (hD : va_D A (WA ++ w)) (hS : va_S A H0 H locs) (hfs : w1.map (·.1) = w.map (·.1))
    (hn : As.length = n) (hsz : ls.size = nL) (hst : st0 = As.reverse ++ .ref b :: rest) (hW : (rest.map fun v => v.category).sum ≤ 8) (hdg : decode cc pc = .ok (.invokevirtual index, 3)) (hf : cells ≤ R.cells ∧ slots ≤ R.slots)
    (kk : ∀ (H1 : Heap) (locs1 : List Loc), va_P G.1 vwCl (WA ++ w1) H1 → va_D A (WA ++ w1) → va_S A H0 H1 locs1 → W p l e R s m args below meth c H1 locs1 cells slots Q (F0 m (pc + 3) ls (vo.toList ++ rest))) : W p l e R s m args below meth c H locs cells slots Q (F0 m pc ls st0) :=
  wr_goR (va_runV S hC cw ⟨PW.blind, hv, fun U hU hW => ⟨rfl, by rw [hU]; exact va_PR hP, hK.warm hW, (va_DR hD).weaken (fun _ _ _ _ => trivial)⟩⟩ rfl hn hsz hst (lv_room hW) hdg hf) hP hD hS hfs kk
theorem wrSR (hC : Wr G l y ws nf nl (As) w vo w1) (S : CallFix p m c cc nL s args Ts own) (cw : CallB R s args own index y bytes maxL ret ws (rmm nf nl) 0 0 n ∧ (Cond.static y).before args s = true) (hK : cK G s) (hP : va_P G.1 vwCl (WA ++ w) H) (hD : va_D A (WA ++ w)) (hS : va_S A H0 H locs) (hfs : w1.map (·.1) = w.map (·.1))
    (hn : As.length = n) (hsz : ls.size = nL) (hst : st0 = As.reverse ++ rest) (hW : (rest.map fun v => v.category).sum ≤ 8) (hdg : decode cc pc = .ok (.invokestatic index, 3)) (hf : cells ≤ R.cells ∧ slots ≤ R.slots)
    (kk : ∀ (H1 : Heap) (locs1 : List Loc), va_P G.1 vwCl (WA ++ w1) H1 → va_D A (WA ++ w1) → va_S A H0 H1 locs1 → W p l e R s m args below meth c H1 locs1 cells slots Q (F0 m (pc + 3) ls (vo.toList ++ rest))) : W p l e R s m args below meth c H locs cells slots Q (F0 m pc ls st0) :=
  wr_goR (va_runS S hC cw ⟨PW.blind, fun U hU hW => ⟨rfl, by rw [hU]; exact va_PR hP, hK.warm hW, (va_DR hD).weaken (fun _ _ _ _ => trivial)⟩⟩ rfl hn hsz hst (lv_room hW) hdg hf) hP hD hS hfs kk
theorem fst_D {c : ClassId} {α : Nat → Nat} (σ τ : DS) : (dW c α τ).map (·.1) = (dW c α σ).map (·.1) := rfl
theorem rcv_D {σ : DS} (hK : cK G s) (hP : va_P G.1 vwCl (dW G.2.1 α σ) H) : ∃ cell : Cell, H[α 0]? = some cell ∧ cell.vm.isStatics = false ∧ s.vm.findClass RX0 = some cell.cls := va_recv hK.1 hP (ci := 0) (q0 := 0) rfl rfl
theorem get_D_settings {σ : DS} (hx : p.tables.exec = Jvm.exec) (hb : c.code = cc) (hts : ∀ w ∈ Ts, w.before args s = true) (hin : ∀ w ∈ wsX00, w ∈ Ts) (hown : s.vm.findClass own = some m.cls) (hK : cK G s) (hP : va_P G.1 vwCl (dW G.2.1 α σ) H) (hl : (Cond.fieldLink own index "GrooveTurns$Disc" "settings" "[I").before args s = true) (hdg : decode cc pc = .ok (.getfield index, 3)) (kk : W p l e R s m args below meth c H locs cells slots Q (F0 m (pc + 3) ls (.ref (α 1) :: rest))) : W p l e R s m args below meth c H locs cells slots Q (F0 m pc ls (.ref (α 0) :: rest)) :=
  va_get (D := G.1) (ci := 0) (v := .ref (α 1)) (C := RX0) (T := TX0) (N := 9) hx hb hts hin hown hK.1 hP 0 rfl rfl 0 (by decide) hl (fun _ h => h) rfl hdg kk
theorem get_D_numbers {σ : DS} (hx : p.tables.exec = Jvm.exec) (hb : c.code = cc) (hts : ∀ w ∈ Ts, w.before args s = true) (hin : ∀ w ∈ wsX00, w ∈ Ts) (hown : s.vm.findClass own = some m.cls) (hK : cK G s) (hP : va_P G.1 vwCl (dW G.2.1 α σ) H) (hl : (Cond.fieldLink own index "GrooveTurns$Disc" "numbers" "[I").before args s = true) (hdg : decode cc pc = .ok (.getfield index, 3)) (kk : W p l e R s m args below meth c H locs cells slots Q (F0 m (pc + 3) ls (.ref (α 2) :: rest))) : W p l e R s m args below meth c H locs cells slots Q (F0 m pc ls (.ref (α 0) :: rest)) :=
  va_get (D := G.1) (ci := 0) (v := .ref (α 2)) (C := RX0) (T := TX0) (N := 9) hx hb hts hin hown hK.1 hP 0 rfl rfl 1 (by decide) hl (fun _ h => h) rfl hdg kk
theorem get_D_blurs {σ : DS} (hx : p.tables.exec = Jvm.exec) (hb : c.code = cc) (hts : ∀ w ∈ Ts, w.before args s = true) (hin : ∀ w ∈ wsX00, w ∈ Ts) (hown : s.vm.findClass own = some m.cls) (hK : cK G s) (hP : va_P G.1 vwCl (dW G.2.1 α σ) H) (hl : (Cond.fieldLink own index "GrooveTurns$Disc" "blurs" "[I").before args s = true) (hdg : decode cc pc = .ok (.getfield index, 3)) (kk : W p l e R s m args below meth c H locs cells slots Q (F0 m (pc + 3) ls (.ref (α 3) :: rest))) : W p l e R s m args below meth c H locs cells slots Q (F0 m pc ls (.ref (α 0) :: rest)) :=
  va_get (D := G.1) (ci := 0) (v := .ref (α 3)) (C := RX0) (T := TX0) (N := 9) hx hb hts hin hown hK.1 hP 0 rfl rfl 2 (by decide) hl (fun _ h => h) rfl hdg kk
theorem get_D_writings {σ : DS} (hx : p.tables.exec = Jvm.exec) (hb : c.code = cc) (hts : ∀ w ∈ Ts, w.before args s = true) (hin : ∀ w ∈ wsX00, w ∈ Ts) (hown : s.vm.findClass own = some m.cls) (hK : cK G s) (hP : va_P G.1 vwCl (dW G.2.1 α σ) H) (hl : (Cond.fieldLink own index "GrooveTurns$Disc" "writings" "[I").before args s = true) (hdg : decode cc pc = .ok (.getfield index, 3)) (kk : W p l e R s m args below meth c H locs cells slots Q (F0 m (pc + 3) ls (.ref (α 4) :: rest))) : W p l e R s m args below meth c H locs cells slots Q (F0 m pc ls (.ref (α 0) :: rest)) :=
  va_get (D := G.1) (ci := 0) (v := .ref (α 4)) (C := RX0) (T := TX0) (N := 9) hx hb hts hin hown hK.1 hP 0 rfl rfl 3 (by decide) hl (fun _ h => h) rfl hdg kk
theorem get_D_sectors {σ : DS} (hx : p.tables.exec = Jvm.exec) (hb : c.code = cc) (hts : ∀ w ∈ Ts, w.before args s = true) (hin : ∀ w ∈ wsX00, w ∈ Ts) (hown : s.vm.findClass own = some m.cls) (hK : cK G s) (hP : va_P G.1 vwCl (dW G.2.1 α σ) H) (hl : (Cond.fieldLink own index "GrooveTurns$Disc" "sectors" "[I").before args s = true) (hdg : decode cc pc = .ok (.getfield index, 3)) (kk : W p l e R s m args below meth c H locs cells slots Q (F0 m (pc + 3) ls (.ref (α 5) :: rest))) : W p l e R s m args below meth c H locs cells slots Q (F0 m pc ls (.ref (α 0) :: rest)) :=
  va_get (D := G.1) (ci := 0) (v := .ref (α 5)) (C := RX0) (T := TX0) (N := 9) hx hb hts hin hown hK.1 hP 0 rfl rfl 4 (by decide) hl (fun _ h => h) rfl hdg kk
theorem get_D_sparesTaken {σ : DS} (hx : p.tables.exec = Jvm.exec) (hb : c.code = cc) (hts : ∀ w ∈ Ts, w.before args s = true) (hin : ∀ w ∈ wsX00, w ∈ Ts) (hown : s.vm.findClass own = some m.cls) (hK : cK G s) (hP : va_P G.1 vwCl (dW G.2.1 α σ) H) (hl : (Cond.fieldLink own index "GrooveTurns$Disc" "sparesTaken" "I").before args s = true) (hdg : decode cc pc = .ok (.getfield index, 3)) (kk : W p l e R s m args below meth c H locs cells slots Q (F0 m (pc + 3) ls (.int (d_sp σ) :: rest))) : W p l e R s m args below meth c H locs cells slots Q (F0 m pc ls (.ref (α 0) :: rest)) :=
  va_get (D := G.1) (ci := 0) (v := .int (d_sp σ)) (C := RX0) (T := TX0) (N := 9) hx hb hts hin hown hK.1 hP 0 rfl rfl 5 (by decide) hl (fun _ h => h) rfl hdg kk
theorem put_D_sparesTaken {σ : DS} {v : Int32} (hx : p.tables.exec = Jvm.exec) (hb : c.code = cc) (hts : ∀ w ∈ Ts, w.before args s = true) (hin : ∀ w ∈ wsX00, w ∈ Ts) (hown : s.vm.findClass own = some m.cls) (hK : cK G s) (hP : va_P G.1 vwCl (dW G.2.1 α σ) H) (hD : va_D A (dW G.2.1 α σ)) (hS : va_S A H0 H locs) (hl : (Cond.fieldLink own index "GrooveTurns$Disc" "sparesTaken" "I").before args s = true) (hdg : decode cc pc = .ok (.putfield index, 3)) (kk : ∀ (H1 : Heap) (locs1 : List Loc), va_P G.1 vwCl (dW G.2.1 α (d_sp' σ v)) H1 → va_D A (dW G.2.1 α (d_sp' σ v)) → va_S A H0 H1 locs1 → W p l e R s m args below meth c H1 locs1 cells slots Q (F0 m (pc + 3) ls rest)) : W p l e R s m args below meth c H locs cells slots Q (F0 m pc ls (.int v :: .ref (α 0) :: rest)) :=
  va_put (D := G.1) (ci := 0) (v := .int v) (ty := .int) (C := RX0) (T := TX0) (N := 9) hx hb hts hin tyX0 tyX0_ok nmX0 hown hK.1 hP hD hS 0 rfl rfl 5 (by decide) hl (fun _ h => h) rfl (by decide +kernel) rfl rfl (Nat.le_of_ble_eq_true rfl) hdg kk
theorem get_D_reads {σ : DS} (hx : p.tables.exec = Jvm.exec) (hb : c.code = cc) (hts : ∀ w ∈ Ts, w.before args s = true) (hin : ∀ w ∈ wsX00, w ∈ Ts) (hown : s.vm.findClass own = some m.cls) (hK : cK G s) (hP : va_P G.1 vwCl (dW G.2.1 α σ) H) (hl : (Cond.fieldLink own index "GrooveTurns$Disc" "reads" "I").before args s = true) (hdg : decode cc pc = .ok (.getfield index, 3)) (kk : W p l e R s m args below meth c H locs cells slots Q (F0 m (pc + 3) ls (.int (d_rd σ) :: rest))) : W p l e R s m args below meth c H locs cells slots Q (F0 m pc ls (.ref (α 0) :: rest)) :=
  va_get (D := G.1) (ci := 0) (v := .int (d_rd σ)) (C := RX0) (T := TX0) (N := 9) hx hb hts hin hown hK.1 hP 0 rfl rfl 6 (by decide) hl (fun _ h => h) rfl hdg kk
theorem put_D_reads {σ : DS} {v : Int32} (hx : p.tables.exec = Jvm.exec) (hb : c.code = cc) (hts : ∀ w ∈ Ts, w.before args s = true) (hin : ∀ w ∈ wsX00, w ∈ Ts) (hown : s.vm.findClass own = some m.cls) (hK : cK G s) (hP : va_P G.1 vwCl (dW G.2.1 α σ) H) (hD : va_D A (dW G.2.1 α σ)) (hS : va_S A H0 H locs) (hl : (Cond.fieldLink own index "GrooveTurns$Disc" "reads" "I").before args s = true) (hdg : decode cc pc = .ok (.putfield index, 3)) (kk : ∀ (H1 : Heap) (locs1 : List Loc), va_P G.1 vwCl (dW G.2.1 α (d_rd' σ v)) H1 → va_D A (dW G.2.1 α (d_rd' σ v)) → va_S A H0 H1 locs1 → W p l e R s m args below meth c H1 locs1 cells slots Q (F0 m (pc + 3) ls rest)) : W p l e R s m args below meth c H locs cells slots Q (F0 m pc ls (.int v :: .ref (α 0) :: rest)) :=
  va_put (D := G.1) (ci := 0) (v := .int v) (ty := .int) (C := RX0) (T := TX0) (N := 9) hx hb hts hin tyX0 tyX0_ok nmX0 hown hK.1 hP hD hS 0 rfl rfl 6 (by decide) hl (fun _ h => h) rfl (by decide +kernel) rfl rfl (Nat.le_of_ble_eq_true rfl) hdg kk
theorem get_D_ticks {σ : DS} (hx : p.tables.exec = Jvm.exec) (hb : c.code = cc) (hts : ∀ w ∈ Ts, w.before args s = true) (hin : ∀ w ∈ wsX00, w ∈ Ts) (hown : s.vm.findClass own = some m.cls) (hK : cK G s) (hP : va_P G.1 vwCl (dW G.2.1 α σ) H) (hl : (Cond.fieldLink own index "GrooveTurns$Disc" "ticks" "I").before args s = true) (hdg : decode cc pc = .ok (.getfield index, 3)) (kk : W p l e R s m args below meth c H locs cells slots Q (F0 m (pc + 3) ls (.int (d_tk σ) :: rest))) : W p l e R s m args below meth c H locs cells slots Q (F0 m pc ls (.ref (α 0) :: rest)) :=
  va_get (D := G.1) (ci := 0) (v := .int (d_tk σ)) (C := RX0) (T := TX0) (N := 9) hx hb hts hin hown hK.1 hP 0 rfl rfl 7 (by decide) hl (fun _ h => h) rfl hdg kk
theorem put_D_ticks {σ : DS} {v : Int32} (hx : p.tables.exec = Jvm.exec) (hb : c.code = cc) (hts : ∀ w ∈ Ts, w.before args s = true) (hin : ∀ w ∈ wsX00, w ∈ Ts) (hown : s.vm.findClass own = some m.cls) (hK : cK G s) (hP : va_P G.1 vwCl (dW G.2.1 α σ) H) (hD : va_D A (dW G.2.1 α σ)) (hS : va_S A H0 H locs) (hl : (Cond.fieldLink own index "GrooveTurns$Disc" "ticks" "I").before args s = true) (hdg : decode cc pc = .ok (.putfield index, 3)) (kk : ∀ (H1 : Heap) (locs1 : List Loc), va_P G.1 vwCl (dW G.2.1 α (d_tk' σ v)) H1 → va_D A (dW G.2.1 α (d_tk' σ v)) → va_S A H0 H1 locs1 → W p l e R s m args below meth c H1 locs1 cells slots Q (F0 m (pc + 3) ls rest)) : W p l e R s m args below meth c H locs cells slots Q (F0 m pc ls (.int v :: .ref (α 0) :: rest)) :=
  va_put (D := G.1) (ci := 0) (v := .int v) (ty := .int) (C := RX0) (T := TX0) (N := 9) hx hb hts hin tyX0 tyX0_ok nmX0 hown hK.1 hP hD hS 0 rfl rfl 7 (by decide) hl (fun _ h => h) rfl (by decide +kernel) rfl rfl (Nat.le_of_ble_eq_true rfl) hdg kk
theorem get_D_head {σ : DS} (hx : p.tables.exec = Jvm.exec) (hb : c.code = cc) (hts : ∀ w ∈ Ts, w.before args s = true) (hin : ∀ w ∈ wsX00, w ∈ Ts) (hown : s.vm.findClass own = some m.cls) (hK : cK G s) (hP : va_P G.1 vwCl (dW G.2.1 α σ) H) (hl : (Cond.fieldLink own index "GrooveTurns$Disc" "head" "I").before args s = true) (hdg : decode cc pc = .ok (.getfield index, 3)) (kk : W p l e R s m args below meth c H locs cells slots Q (F0 m (pc + 3) ls (.int (d_hd σ) :: rest))) : W p l e R s m args below meth c H locs cells slots Q (F0 m pc ls (.ref (α 0) :: rest)) :=
  va_get (D := G.1) (ci := 0) (v := .int (d_hd σ)) (C := RX0) (T := TX0) (N := 9) hx hb hts hin hown hK.1 hP 0 rfl rfl 8 (by decide) hl (fun _ h => h) rfl hdg kk
theorem put_D_head {σ : DS} {v : Int32} (hx : p.tables.exec = Jvm.exec) (hb : c.code = cc) (hts : ∀ w ∈ Ts, w.before args s = true) (hin : ∀ w ∈ wsX00, w ∈ Ts) (hown : s.vm.findClass own = some m.cls) (hK : cK G s) (hP : va_P G.1 vwCl (dW G.2.1 α σ) H) (hD : va_D A (dW G.2.1 α σ)) (hS : va_S A H0 H locs) (hl : (Cond.fieldLink own index "GrooveTurns$Disc" "head" "I").before args s = true) (hdg : decode cc pc = .ok (.putfield index, 3)) (kk : ∀ (H1 : Heap) (locs1 : List Loc), va_P G.1 vwCl (dW G.2.1 α (d_hd' σ v)) H1 → va_D A (dW G.2.1 α (d_hd' σ v)) → va_S A H0 H1 locs1 → W p l e R s m args below meth c H1 locs1 cells slots Q (F0 m (pc + 3) ls rest)) : W p l e R s m args below meth c H locs cells slots Q (F0 m pc ls (.int v :: .ref (α 0) :: rest)) :=
  va_put (D := G.1) (ci := 0) (v := .int v) (ty := .int) (C := RX0) (T := TX0) (N := 9) hx hb hts hin tyX0 tyX0_ok nmX0 hown hK.1 hP hD hS 0 rfl rfl 8 (by decide) hl (fun _ h => h) rfl (by decide +kernel) rfl rfl (Nat.le_of_ble_eq_true rfl) hdg kk
theorem ld_D_st {σ : DS} {i : Int32} (hx : p.tables.exec = Jvm.exec) (hb : c.code = cc) (hK : cK G s) (hP : va_P G.1 vwCl (dW G.2.1 α σ) H) (hi : vp_in i 5) (hdg : decode cc pc = .ok (.iaload, 1)) (kk : W p l e R s m args below meth c H locs cells slots Q (F0 m (pc + 1) ls (.int (d_st σ i.toNatClampNeg) :: rest))) : W p l e R s m args below meth c H locs cells slots Q (F0 m pc ls (.int i :: .ref (α 1) :: rest)) :=
  va_iald (cA := G.2.1) (n := 5) (f := d_st σ) hx hb hK.1 hP 1 0 rfl rfl hi hdg kk
theorem st_D_st {σ : DS} {i x : Int32} (hx : p.tables.exec = Jvm.exec) (hb : c.code = cc) (hK : cK G s) (hP : va_P G.1 vwCl (dW G.2.1 α σ) H) (hD : va_D A (dW G.2.1 α σ)) (hS : va_S A H0 H locs) (hi : vp_in i 5) (hdg : decode cc pc = .ok (.iastore, 1)) (kk : ∀ (H1 : Heap) (locs1 : List Loc), va_P G.1 vwCl (dW G.2.1 α (d_st' σ (upd (d_st σ) i.toNatClampNeg x))) H1 → va_D A (dW G.2.1 α (d_st' σ (upd (d_st σ) i.toNatClampNeg x))) → va_S A H0 H1 locs1 → W p l e R s m args below meth c H1 locs1 cells slots Q (F0 m (pc + 1) ls rest)) : W p l e R s m args below meth c H locs cells slots Q (F0 m pc ls (.int x :: .int i :: .ref (α 1) :: rest)) :=
  va_iast (cA := G.2.1) (n := 5) (f := d_st σ) hx hb hK.1 hP hD hS 1 0 rfl rfl hi hdg kk
theorem cell_D_st {σ : DS} {D : va_G} {cl : List vw_C} {cI : ClassId} (hP : va_P D cl (dW cI α σ) H) : va_P D cl (aW cI (α 1) 5 (d_st σ)) H := hP.sub [1] rfl
theorem pset_D_st (cI : ClassId) (α : Nat → Nat) (σ : DS) (f : NI) : pset (dW cI α σ) [1] (aW cI (α 1) 5 f) = dW cI α (d_st' σ f) := rfl
theorem pl_D_st (cI : ClassId) (α : Nat → Nat) (σ : DS) : [1].map (fun i => (dW cI α σ)[i]?) = (aW cI (α 1) 5 (d_st σ)).map some := rfl
theorem pf_D_st (cI : ClassId) (α : Nat → Nat) (σ : DS) : [1].filterMap (fun i => (dW cI α σ)[i]?) = aW cI (α 1) 5 (d_st σ) := rfl
theorem ld_D_nu {σ : DS} {i : Int32} (hx : p.tables.exec = Jvm.exec) (hb : c.code = cc) (hK : cK G s) (hP : va_P G.1 vwCl (dW G.2.1 α σ) H) (hi : vp_in i 204) (hdg : decode cc pc = .ok (.iaload, 1)) (kk : W p l e R s m args below meth c H locs cells slots Q (F0 m (pc + 1) ls (.int (d_nu σ i.toNatClampNeg) :: rest))) : W p l e R s m args below meth c H locs cells slots Q (F0 m pc ls (.int i :: .ref (α 2) :: rest)) :=
  va_iald (cA := G.2.1) (n := 204) (f := d_nu σ) hx hb hK.1 hP 2 0 rfl rfl hi hdg kk
theorem st_D_nu {σ : DS} {i x : Int32} (hx : p.tables.exec = Jvm.exec) (hb : c.code = cc) (hK : cK G s) (hP : va_P G.1 vwCl (dW G.2.1 α σ) H) (hD : va_D A (dW G.2.1 α σ)) (hS : va_S A H0 H locs) (hi : vp_in i 204) (hdg : decode cc pc = .ok (.iastore, 1)) (kk : ∀ (H1 : Heap) (locs1 : List Loc), va_P G.1 vwCl (dW G.2.1 α (d_nu' σ (upd (d_nu σ) i.toNatClampNeg x))) H1 → va_D A (dW G.2.1 α (d_nu' σ (upd (d_nu σ) i.toNatClampNeg x))) → va_S A H0 H1 locs1 → W p l e R s m args below meth c H1 locs1 cells slots Q (F0 m (pc + 1) ls rest)) : W p l e R s m args below meth c H locs cells slots Q (F0 m pc ls (.int x :: .int i :: .ref (α 2) :: rest)) :=
  va_iast (cA := G.2.1) (n := 204) (f := d_nu σ) hx hb hK.1 hP hD hS 2 0 rfl rfl hi hdg kk
theorem cell_D_nu {σ : DS} {D : va_G} {cl : List vw_C} {cI : ClassId} (hP : va_P D cl (dW cI α σ) H) : va_P D cl (aW cI (α 2) 204 (d_nu σ)) H := hP.sub [2] rfl
theorem pset_D_nu (cI : ClassId) (α : Nat → Nat) (σ : DS) (f : NI) : pset (dW cI α σ) [2] (aW cI (α 2) 204 f) = dW cI α (d_nu' σ f) := rfl
theorem pl_D_nu (cI : ClassId) (α : Nat → Nat) (σ : DS) : [2].map (fun i => (dW cI α σ)[i]?) = (aW cI (α 2) 204 (d_nu σ)).map some := rfl
theorem pf_D_nu (cI : ClassId) (α : Nat → Nat) (σ : DS) : [2].filterMap (fun i => (dW cI α σ)[i]?) = aW cI (α 2) 204 (d_nu σ) := rfl
theorem ld_D_bl {σ : DS} {i : Int32} (hx : p.tables.exec = Jvm.exec) (hb : c.code = cc) (hK : cK G s) (hP : va_P G.1 vwCl (dW G.2.1 α σ) H) (hi : vp_in i 204) (hdg : decode cc pc = .ok (.iaload, 1)) (kk : W p l e R s m args below meth c H locs cells slots Q (F0 m (pc + 1) ls (.int (d_bl σ i.toNatClampNeg) :: rest))) : W p l e R s m args below meth c H locs cells slots Q (F0 m pc ls (.int i :: .ref (α 3) :: rest)) :=
  va_iald (cA := G.2.1) (n := 204) (f := d_bl σ) hx hb hK.1 hP 3 0 rfl rfl hi hdg kk
theorem st_D_bl {σ : DS} {i x : Int32} (hx : p.tables.exec = Jvm.exec) (hb : c.code = cc) (hK : cK G s) (hP : va_P G.1 vwCl (dW G.2.1 α σ) H) (hD : va_D A (dW G.2.1 α σ)) (hS : va_S A H0 H locs) (hi : vp_in i 204) (hdg : decode cc pc = .ok (.iastore, 1)) (kk : ∀ (H1 : Heap) (locs1 : List Loc), va_P G.1 vwCl (dW G.2.1 α (d_bl' σ (upd (d_bl σ) i.toNatClampNeg x))) H1 → va_D A (dW G.2.1 α (d_bl' σ (upd (d_bl σ) i.toNatClampNeg x))) → va_S A H0 H1 locs1 → W p l e R s m args below meth c H1 locs1 cells slots Q (F0 m (pc + 1) ls rest)) : W p l e R s m args below meth c H locs cells slots Q (F0 m pc ls (.int x :: .int i :: .ref (α 3) :: rest)) :=
  va_iast (cA := G.2.1) (n := 204) (f := d_bl σ) hx hb hK.1 hP hD hS 3 0 rfl rfl hi hdg kk
theorem cell_D_bl {σ : DS} {D : va_G} {cl : List vw_C} {cI : ClassId} (hP : va_P D cl (dW cI α σ) H) : va_P D cl (aW cI (α 3) 204 (d_bl σ)) H := hP.sub [3] rfl
theorem pset_D_bl (cI : ClassId) (α : Nat → Nat) (σ : DS) (f : NI) : pset (dW cI α σ) [3] (aW cI (α 3) 204 f) = dW cI α (d_bl' σ f) := rfl
theorem pl_D_bl (cI : ClassId) (α : Nat → Nat) (σ : DS) : [3].map (fun i => (dW cI α σ)[i]?) = (aW cI (α 3) 204 (d_bl σ)).map some := rfl
theorem pf_D_bl (cI : ClassId) (α : Nat → Nat) (σ : DS) : [3].filterMap (fun i => (dW cI α σ)[i]?) = aW cI (α 3) 204 (d_bl σ) := rfl
theorem ld_D_wr {σ : DS} {i : Int32} (hx : p.tables.exec = Jvm.exec) (hb : c.code = cc) (hK : cK G s) (hP : va_P G.1 vwCl (dW G.2.1 α σ) H) (hi : vp_in i 204) (hdg : decode cc pc = .ok (.iaload, 1)) (kk : W p l e R s m args below meth c H locs cells slots Q (F0 m (pc + 1) ls (.int (d_wr σ i.toNatClampNeg) :: rest))) : W p l e R s m args below meth c H locs cells slots Q (F0 m pc ls (.int i :: .ref (α 4) :: rest)) :=
  va_iald (cA := G.2.1) (n := 204) (f := d_wr σ) hx hb hK.1 hP 4 0 rfl rfl hi hdg kk
theorem st_D_wr {σ : DS} {i x : Int32} (hx : p.tables.exec = Jvm.exec) (hb : c.code = cc) (hK : cK G s) (hP : va_P G.1 vwCl (dW G.2.1 α σ) H) (hD : va_D A (dW G.2.1 α σ)) (hS : va_S A H0 H locs) (hi : vp_in i 204) (hdg : decode cc pc = .ok (.iastore, 1)) (kk : ∀ (H1 : Heap) (locs1 : List Loc), va_P G.1 vwCl (dW G.2.1 α (d_wr' σ (upd (d_wr σ) i.toNatClampNeg x))) H1 → va_D A (dW G.2.1 α (d_wr' σ (upd (d_wr σ) i.toNatClampNeg x))) → va_S A H0 H1 locs1 → W p l e R s m args below meth c H1 locs1 cells slots Q (F0 m (pc + 1) ls rest)) : W p l e R s m args below meth c H locs cells slots Q (F0 m pc ls (.int x :: .int i :: .ref (α 4) :: rest)) :=
  va_iast (cA := G.2.1) (n := 204) (f := d_wr σ) hx hb hK.1 hP hD hS 4 0 rfl rfl hi hdg kk
theorem cell_D_wr {σ : DS} {D : va_G} {cl : List vw_C} {cI : ClassId} (hP : va_P D cl (dW cI α σ) H) : va_P D cl (aW cI (α 4) 204 (d_wr σ)) H := hP.sub [4] rfl
theorem pset_D_wr (cI : ClassId) (α : Nat → Nat) (σ : DS) (f : NI) : pset (dW cI α σ) [4] (aW cI (α 4) 204 f) = dW cI α (d_wr' σ f) := rfl
theorem pl_D_wr (cI : ClassId) (α : Nat → Nat) (σ : DS) : [4].map (fun i => (dW cI α σ)[i]?) = (aW cI (α 4) 204 (d_wr σ)).map some := rfl
theorem pf_D_wr (cI : ClassId) (α : Nat → Nat) (σ : DS) : [4].filterMap (fun i => (dW cI α σ)[i]?) = aW cI (α 4) 204 (d_wr σ) := rfl
theorem ld_D_se {σ : DS} {i : Int32} (hx : p.tables.exec = Jvm.exec) (hb : c.code = cc) (hK : cK G s) (hP : va_P G.1 vwCl (dW G.2.1 α σ) H) (hi : vp_in i 192) (hdg : decode cc pc = .ok (.iaload, 1)) (kk : W p l e R s m args below meth c H locs cells slots Q (F0 m (pc + 1) ls (.int (d_se σ i.toNatClampNeg) :: rest))) : W p l e R s m args below meth c H locs cells slots Q (F0 m pc ls (.int i :: .ref (α 5) :: rest)) :=
  va_iald (cA := G.2.1) (n := 192) (f := d_se σ) hx hb hK.1 hP 5 0 rfl rfl hi hdg kk
theorem st_D_se {σ : DS} {i x : Int32} (hx : p.tables.exec = Jvm.exec) (hb : c.code = cc) (hK : cK G s) (hP : va_P G.1 vwCl (dW G.2.1 α σ) H) (hD : va_D A (dW G.2.1 α σ)) (hS : va_S A H0 H locs) (hi : vp_in i 192) (hdg : decode cc pc = .ok (.iastore, 1)) (kk : ∀ (H1 : Heap) (locs1 : List Loc), va_P G.1 vwCl (dW G.2.1 α (d_se' σ (upd (d_se σ) i.toNatClampNeg x))) H1 → va_D A (dW G.2.1 α (d_se' σ (upd (d_se σ) i.toNatClampNeg x))) → va_S A H0 H1 locs1 → W p l e R s m args below meth c H1 locs1 cells slots Q (F0 m (pc + 1) ls rest)) : W p l e R s m args below meth c H locs cells slots Q (F0 m pc ls (.int x :: .int i :: .ref (α 5) :: rest)) :=
  va_iast (cA := G.2.1) (n := 192) (f := d_se σ) hx hb hK.1 hP hD hS 5 0 rfl rfl hi hdg kk
theorem cell_D_se {σ : DS} {D : va_G} {cl : List vw_C} {cI : ClassId} (hP : va_P D cl (dW cI α σ) H) : va_P D cl (aW cI (α 5) 192 (d_se σ)) H := hP.sub [5] rfl
theorem pset_D_se (cI : ClassId) (α : Nat → Nat) (σ : DS) (f : NI) : pset (dW cI α σ) [5] (aW cI (α 5) 192 f) = dW cI α (d_se' σ f) := rfl
theorem pl_D_se (cI : ClassId) (α : Nat → Nat) (σ : DS) : [5].map (fun i => (dW cI α σ)[i]?) = (aW cI (α 5) 192 (d_se σ)).map some := rfl
theorem pf_D_se (cI : ClassId) (α : Nat → Nat) (σ : DS) : [5].filterMap (fun i => (dW cI α σ)[i]?) = aW cI (α 5) 192 (d_se σ) := rfl
theorem fst_Q {c : ClassId} {α : Nat → Nat} (σ τ : QS) : (qW c α τ).map (·.1) = (qW c α σ).map (·.1) := rfl
theorem rcv_Q {σ : QS} (hK : cK G s) (hP : va_P G.1 vwCl (qW G.2.1 α σ) H) : ∃ cell : Cell, H[α 0]? = some cell ∧ cell.vm.isStatics = false ∧ s.vm.findClass RX3 = some cell.cls := va_recv hK.1 hP (ci := 3) (q0 := 0) rfl rfl
theorem get_Q_addresses {σ : QS} (hx : p.tables.exec = Jvm.exec) (hb : c.code = cc) (hts : ∀ w ∈ Ts, w.before args s = true) (hin : ∀ w ∈ wsX30, w ∈ Ts) (hown : s.vm.findClass own = some m.cls) (hK : cK G s) (hP : va_P G.1 vwCl (qW G.2.1 α σ) H) (hl : (Cond.fieldLink own index "GrooveTurns$Requests" "addresses" "[I").before args s = true) (hdg : decode cc pc = .ok (.getfield index, 3)) (kk : W p l e R s m args below meth c H locs cells slots Q (F0 m (pc + 3) ls (.ref (α 1) :: rest))) : W p l e R s m args below meth c H locs cells slots Q (F0 m pc ls (.ref (α 0) :: rest)) :=
  va_get (D := G.1) (ci := 3) (v := .ref (α 1)) (C := RX3) (T := TX3) (N := 5) hx hb hts hin hown hK.1 hP 0 rfl rfl 0 (by decide) hl (fun _ h => h) rfl hdg kk
theorem get_Q_numbers {σ : QS} (hx : p.tables.exec = Jvm.exec) (hb : c.code = cc) (hts : ∀ w ∈ Ts, w.before args s = true) (hin : ∀ w ∈ wsX30, w ∈ Ts) (hown : s.vm.findClass own = some m.cls) (hK : cK G s) (hP : va_P G.1 vwCl (qW G.2.1 α σ) H) (hl : (Cond.fieldLink own index "GrooveTurns$Requests" "numbers" "[I").before args s = true) (hdg : decode cc pc = .ok (.getfield index, 3)) (kk : W p l e R s m args below meth c H locs cells slots Q (F0 m (pc + 3) ls (.ref (α 2) :: rest))) : W p l e R s m args below meth c H locs cells slots Q (F0 m pc ls (.ref (α 0) :: rest)) :=
  va_get (D := G.1) (ci := 3) (v := .ref (α 2)) (C := RX3) (T := TX3) (N := 5) hx hb hts hin hown hK.1 hP 0 rfl rfl 1 (by decide) hl (fun _ h => h) rfl hdg kk
theorem get_Q_tracks {σ : QS} (hx : p.tables.exec = Jvm.exec) (hb : c.code = cc) (hts : ∀ w ∈ Ts, w.before args s = true) (hin : ∀ w ∈ wsX30, w ∈ Ts) (hown : s.vm.findClass own = some m.cls) (hK : cK G s) (hP : va_P G.1 vwCl (qW G.2.1 α σ) H) (hl : (Cond.fieldLink own index "GrooveTurns$Requests" "tracks" "[I").before args s = true) (hdg : decode cc pc = .ok (.getfield index, 3)) (kk : W p l e R s m args below meth c H locs cells slots Q (F0 m (pc + 3) ls (.ref (α 3) :: rest))) : W p l e R s m args below meth c H locs cells slots Q (F0 m pc ls (.ref (α 0) :: rest)) :=
  va_get (D := G.1) (ci := 3) (v := .ref (α 3)) (C := RX3) (T := TX3) (N := 5) hx hb hts hin hown hK.1 hP 0 rfl rfl 2 (by decide) hl (fun _ h => h) rfl hdg kk
theorem get_Q_size {σ : QS} (hx : p.tables.exec = Jvm.exec) (hb : c.code = cc) (hts : ∀ w ∈ Ts, w.before args s = true) (hin : ∀ w ∈ wsX30, w ∈ Ts) (hown : s.vm.findClass own = some m.cls) (hK : cK G s) (hP : va_P G.1 vwCl (qW G.2.1 α σ) H) (hl : (Cond.fieldLink own index "GrooveTurns$Requests" "size" "I").before args s = true) (hdg : decode cc pc = .ok (.getfield index, 3)) (kk : W p l e R s m args below meth c H locs cells slots Q (F0 m (pc + 3) ls (.int (q_sz σ) :: rest))) : W p l e R s m args below meth c H locs cells slots Q (F0 m pc ls (.ref (α 0) :: rest)) :=
  va_get (D := G.1) (ci := 3) (v := .int (q_sz σ)) (C := RX3) (T := TX3) (N := 5) hx hb hts hin hown hK.1 hP 0 rfl rfl 3 (by decide) hl (fun _ h => h) rfl hdg kk
theorem put_Q_size {σ : QS} {v : Int32} (hx : p.tables.exec = Jvm.exec) (hb : c.code = cc) (hts : ∀ w ∈ Ts, w.before args s = true) (hin : ∀ w ∈ wsX30, w ∈ Ts) (hown : s.vm.findClass own = some m.cls) (hK : cK G s) (hP : va_P G.1 vwCl (qW G.2.1 α σ) H) (hD : va_D A (qW G.2.1 α σ)) (hS : va_S A H0 H locs) (hl : (Cond.fieldLink own index "GrooveTurns$Requests" "size" "I").before args s = true) (hdg : decode cc pc = .ok (.putfield index, 3)) (kk : ∀ (H1 : Heap) (locs1 : List Loc), va_P G.1 vwCl (qW G.2.1 α (q_sz' σ v)) H1 → va_D A (qW G.2.1 α (q_sz' σ v)) → va_S A H0 H1 locs1 → W p l e R s m args below meth c H1 locs1 cells slots Q (F0 m (pc + 3) ls rest)) : W p l e R s m args below meth c H locs cells slots Q (F0 m pc ls (.int v :: .ref (α 0) :: rest)) :=
  va_put (D := G.1) (ci := 3) (v := .int v) (ty := .int) (C := RX3) (T := TX3) (N := 5) hx hb hts hin tyX3 tyX3_ok nmX3 hown hK.1 hP hD hS 0 rfl rfl 3 (by decide) hl (fun _ h => h) rfl (by decide +kernel) rfl rfl (Nat.le_of_ble_eq_true rfl) hdg kk
theorem get_Q_place {σ : QS} (hx : p.tables.exec = Jvm.exec) (hb : c.code = cc) (hts : ∀ w ∈ Ts, w.before args s = true) (hin : ∀ w ∈ wsX30, w ∈ Ts) (hown : s.vm.findClass own = some m.cls) (hK : cK G s) (hP : va_P G.1 vwCl (qW G.2.1 α σ) H) (hl : (Cond.fieldLink own index "GrooveTurns$Requests" "place" "I").before args s = true) (hdg : decode cc pc = .ok (.getfield index, 3)) (kk : W p l e R s m args below meth c H locs cells slots Q (F0 m (pc + 3) ls (.int (q_pl σ) :: rest))) : W p l e R s m args below meth c H locs cells slots Q (F0 m pc ls (.ref (α 0) :: rest)) :=
  va_get (D := G.1) (ci := 3) (v := .int (q_pl σ)) (C := RX3) (T := TX3) (N := 5) hx hb hts hin hown hK.1 hP 0 rfl rfl 4 (by decide) hl (fun _ h => h) rfl hdg kk
theorem put_Q_place {σ : QS} {v : Int32} (hx : p.tables.exec = Jvm.exec) (hb : c.code = cc) (hts : ∀ w ∈ Ts, w.before args s = true) (hin : ∀ w ∈ wsX30, w ∈ Ts) (hown : s.vm.findClass own = some m.cls) (hK : cK G s) (hP : va_P G.1 vwCl (qW G.2.1 α σ) H) (hD : va_D A (qW G.2.1 α σ)) (hS : va_S A H0 H locs) (hl : (Cond.fieldLink own index "GrooveTurns$Requests" "place" "I").before args s = true) (hdg : decode cc pc = .ok (.putfield index, 3)) (kk : ∀ (H1 : Heap) (locs1 : List Loc), va_P G.1 vwCl (qW G.2.1 α (q_pl' σ v)) H1 → va_D A (qW G.2.1 α (q_pl' σ v)) → va_S A H0 H1 locs1 → W p l e R s m args below meth c H1 locs1 cells slots Q (F0 m (pc + 3) ls rest)) : W p l e R s m args below meth c H locs cells slots Q (F0 m pc ls (.int v :: .ref (α 0) :: rest)) :=
  va_put (D := G.1) (ci := 3) (v := .int v) (ty := .int) (C := RX3) (T := TX3) (N := 5) hx hb hts hin tyX3 tyX3_ok nmX3 hown hK.1 hP hD hS 0 rfl rfl 4 (by decide) hl (fun _ h => h) rfl (by decide +kernel) rfl rfl (Nat.le_of_ble_eq_true rfl) hdg kk
theorem ld_Q_ad {σ : QS} {i : Int32} (hx : p.tables.exec = Jvm.exec) (hb : c.code = cc) (hK : cK G s) (hP : va_P G.1 vwCl (qW G.2.1 α σ) H) (hi : vp_in i 21) (hdg : decode cc pc = .ok (.iaload, 1)) (kk : W p l e R s m args below meth c H locs cells slots Q (F0 m (pc + 1) ls (.int (q_ad σ i.toNatClampNeg) :: rest))) : W p l e R s m args below meth c H locs cells slots Q (F0 m pc ls (.int i :: .ref (α 1) :: rest)) :=
  va_iald (cA := G.2.1) (n := 21) (f := q_ad σ) hx hb hK.1 hP 1 0 rfl rfl hi hdg kk
theorem st_Q_ad {σ : QS} {i x : Int32} (hx : p.tables.exec = Jvm.exec) (hb : c.code = cc) (hK : cK G s) (hP : va_P G.1 vwCl (qW G.2.1 α σ) H) (hD : va_D A (qW G.2.1 α σ)) (hS : va_S A H0 H locs) (hi : vp_in i 21) (hdg : decode cc pc = .ok (.iastore, 1)) (kk : ∀ (H1 : Heap) (locs1 : List Loc), va_P G.1 vwCl (qW G.2.1 α (q_ad' σ (upd (q_ad σ) i.toNatClampNeg x))) H1 → va_D A (qW G.2.1 α (q_ad' σ (upd (q_ad σ) i.toNatClampNeg x))) → va_S A H0 H1 locs1 → W p l e R s m args below meth c H1 locs1 cells slots Q (F0 m (pc + 1) ls rest)) : W p l e R s m args below meth c H locs cells slots Q (F0 m pc ls (.int x :: .int i :: .ref (α 1) :: rest)) :=
  va_iast (cA := G.2.1) (n := 21) (f := q_ad σ) hx hb hK.1 hP hD hS 1 0 rfl rfl hi hdg kk
theorem cell_Q_ad {σ : QS} {D : va_G} {cl : List vw_C} {cI : ClassId} (hP : va_P D cl (qW cI α σ) H) : va_P D cl (aW cI (α 1) 21 (q_ad σ)) H := hP.sub [1] rfl
theorem pset_Q_ad (cI : ClassId) (α : Nat → Nat) (σ : QS) (f : NI) : pset (qW cI α σ) [1] (aW cI (α 1) 21 f) = qW cI α (q_ad' σ f) := rfl
theorem pl_Q_ad (cI : ClassId) (α : Nat → Nat) (σ : QS) : [1].map (fun i => (qW cI α σ)[i]?) = (aW cI (α 1) 21 (q_ad σ)).map some := rfl
theorem pf_Q_ad (cI : ClassId) (α : Nat → Nat) (σ : QS) : [1].filterMap (fun i => (qW cI α σ)[i]?) = aW cI (α 1) 21 (q_ad σ) := rfl
theorem ld_Q_nu {σ : QS} {i : Int32} (hx : p.tables.exec = Jvm.exec) (hb : c.code = cc) (hK : cK G s) (hP : va_P G.1 vwCl (qW G.2.1 α σ) H) (hi : vp_in i 21) (hdg : decode cc pc = .ok (.iaload, 1)) (kk : W p l e R s m args below meth c H locs cells slots Q (F0 m (pc + 1) ls (.int (q_nu σ i.toNatClampNeg) :: rest))) : W p l e R s m args below meth c H locs cells slots Q (F0 m pc ls (.int i :: .ref (α 2) :: rest)) :=
  va_iald (cA := G.2.1) (n := 21) (f := q_nu σ) hx hb hK.1 hP 2 0 rfl rfl hi hdg kk
theorem st_Q_nu {σ : QS} {i x : Int32} (hx : p.tables.exec = Jvm.exec) (hb : c.code = cc) (hK : cK G s) (hP : va_P G.1 vwCl (qW G.2.1 α σ) H) (hD : va_D A (qW G.2.1 α σ)) (hS : va_S A H0 H locs) (hi : vp_in i 21) (hdg : decode cc pc = .ok (.iastore, 1)) (kk : ∀ (H1 : Heap) (locs1 : List Loc), va_P G.1 vwCl (qW G.2.1 α (q_nu' σ (upd (q_nu σ) i.toNatClampNeg x))) H1 → va_D A (qW G.2.1 α (q_nu' σ (upd (q_nu σ) i.toNatClampNeg x))) → va_S A H0 H1 locs1 → W p l e R s m args below meth c H1 locs1 cells slots Q (F0 m (pc + 1) ls rest)) : W p l e R s m args below meth c H locs cells slots Q (F0 m pc ls (.int x :: .int i :: .ref (α 2) :: rest)) :=
  va_iast (cA := G.2.1) (n := 21) (f := q_nu σ) hx hb hK.1 hP hD hS 2 0 rfl rfl hi hdg kk
theorem cell_Q_nu {σ : QS} {D : va_G} {cl : List vw_C} {cI : ClassId} (hP : va_P D cl (qW cI α σ) H) : va_P D cl (aW cI (α 2) 21 (q_nu σ)) H := hP.sub [2] rfl
theorem pset_Q_nu (cI : ClassId) (α : Nat → Nat) (σ : QS) (f : NI) : pset (qW cI α σ) [2] (aW cI (α 2) 21 f) = qW cI α (q_nu' σ f) := rfl
theorem pl_Q_nu (cI : ClassId) (α : Nat → Nat) (σ : QS) : [2].map (fun i => (qW cI α σ)[i]?) = (aW cI (α 2) 21 (q_nu σ)).map some := rfl
theorem pf_Q_nu (cI : ClassId) (α : Nat → Nat) (σ : QS) : [2].filterMap (fun i => (qW cI α σ)[i]?) = aW cI (α 2) 21 (q_nu σ) := rfl
theorem ld_Q_tr {σ : QS} {i : Int32} (hx : p.tables.exec = Jvm.exec) (hb : c.code = cc) (hK : cK G s) (hP : va_P G.1 vwCl (qW G.2.1 α σ) H) (hi : vp_in i 21) (hdg : decode cc pc = .ok (.iaload, 1)) (kk : W p l e R s m args below meth c H locs cells slots Q (F0 m (pc + 1) ls (.int (q_tr σ i.toNatClampNeg) :: rest))) : W p l e R s m args below meth c H locs cells slots Q (F0 m pc ls (.int i :: .ref (α 3) :: rest)) :=
  va_iald (cA := G.2.1) (n := 21) (f := q_tr σ) hx hb hK.1 hP 3 0 rfl rfl hi hdg kk
theorem st_Q_tr {σ : QS} {i x : Int32} (hx : p.tables.exec = Jvm.exec) (hb : c.code = cc) (hK : cK G s) (hP : va_P G.1 vwCl (qW G.2.1 α σ) H) (hD : va_D A (qW G.2.1 α σ)) (hS : va_S A H0 H locs) (hi : vp_in i 21) (hdg : decode cc pc = .ok (.iastore, 1)) (kk : ∀ (H1 : Heap) (locs1 : List Loc), va_P G.1 vwCl (qW G.2.1 α (q_tr' σ (upd (q_tr σ) i.toNatClampNeg x))) H1 → va_D A (qW G.2.1 α (q_tr' σ (upd (q_tr σ) i.toNatClampNeg x))) → va_S A H0 H1 locs1 → W p l e R s m args below meth c H1 locs1 cells slots Q (F0 m (pc + 1) ls rest)) : W p l e R s m args below meth c H locs cells slots Q (F0 m pc ls (.int x :: .int i :: .ref (α 3) :: rest)) :=
  va_iast (cA := G.2.1) (n := 21) (f := q_tr σ) hx hb hK.1 hP hD hS 3 0 rfl rfl hi hdg kk
theorem cell_Q_tr {σ : QS} {D : va_G} {cl : List vw_C} {cI : ClassId} (hP : va_P D cl (qW cI α σ) H) : va_P D cl (aW cI (α 3) 21 (q_tr σ)) H := hP.sub [3] rfl
theorem pset_Q_tr (cI : ClassId) (α : Nat → Nat) (σ : QS) (f : NI) : pset (qW cI α σ) [3] (aW cI (α 3) 21 f) = qW cI α (q_tr' σ f) := rfl
theorem pl_Q_tr (cI : ClassId) (α : Nat → Nat) (σ : QS) : [3].map (fun i => (qW cI α σ)[i]?) = (aW cI (α 3) 21 (q_tr σ)).map some := rfl
theorem pf_Q_tr (cI : ClassId) (α : Nat → Nat) (σ : QS) : [3].filterMap (fun i => (qW cI α σ)[i]?) = aW cI (α 3) 21 (q_tr σ) := rfl
theorem fst_P {c : ClassId} {α : Nat → Nat} (σ τ : PS) : (pW c α τ).map (·.1) = (pW c α σ).map (·.1) := rfl
theorem rcv_P {σ : PS} (hK : cK G s) (hP : va_P G.1 vwCl (pW G.2.1 α σ) H) : ∃ cell : Cell, H[α 0]? = some cell ∧ cell.vm.isStatics = false ∧ s.vm.findClass RX2 = some cell.cls := va_recv hK.1 hP (ci := 2) (q0 := 0) rfl rfl
theorem get_P_signs {σ : PS} (hx : p.tables.exec = Jvm.exec) (hb : c.code = cc) (hts : ∀ w ∈ Ts, w.before args s = true) (hin : ∀ w ∈ wsX20, w ∈ Ts) (hown : s.vm.findClass own = some m.cls) (hK : cK G s) (hP : va_P G.1 vwCl (pW G.2.1 α σ) H) (hl : (Cond.fieldLink own index "GrooveTurns$Pad" "signs" "[I").before args s = true) (hdg : decode cc pc = .ok (.getfield index, 3)) (kk : W p l e R s m args below meth c H locs cells slots Q (F0 m (pc + 3) ls (.ref (α 1) :: rest))) : W p l e R s m args below meth c H locs cells slots Q (F0 m pc ls (.ref (α 0) :: rest)) :=
  va_get (D := G.1) (ci := 2) (v := .ref (α 1)) (C := RX2) (T := TX2) (N := 2) hx hb hts hin hown hK.1 hP 0 rfl rfl 0 (by decide) hl (fun _ h => h) rfl hdg kk
theorem get_P_length {σ : PS} (hx : p.tables.exec = Jvm.exec) (hb : c.code = cc) (hts : ∀ w ∈ Ts, w.before args s = true) (hin : ∀ w ∈ wsX20, w ∈ Ts) (hown : s.vm.findClass own = some m.cls) (hK : cK G s) (hP : va_P G.1 vwCl (pW G.2.1 α σ) H) (hl : (Cond.fieldLink own index "GrooveTurns$Pad" "length" "I").before args s = true) (hdg : decode cc pc = .ok (.getfield index, 3)) (kk : W p l e R s m args below meth c H locs cells slots Q (F0 m (pc + 3) ls (.int (p_le σ) :: rest))) : W p l e R s m args below meth c H locs cells slots Q (F0 m pc ls (.ref (α 0) :: rest)) :=
  va_get (D := G.1) (ci := 2) (v := .int (p_le σ)) (C := RX2) (T := TX2) (N := 2) hx hb hts hin hown hK.1 hP 0 rfl rfl 1 (by decide) hl (fun _ h => h) rfl hdg kk
theorem put_P_length {σ : PS} {v : Int32} (hx : p.tables.exec = Jvm.exec) (hb : c.code = cc) (hts : ∀ w ∈ Ts, w.before args s = true) (hin : ∀ w ∈ wsX20, w ∈ Ts) (hown : s.vm.findClass own = some m.cls) (hK : cK G s) (hP : va_P G.1 vwCl (pW G.2.1 α σ) H) (hD : va_D A (pW G.2.1 α σ)) (hS : va_S A H0 H locs) (hl : (Cond.fieldLink own index "GrooveTurns$Pad" "length" "I").before args s = true) (hdg : decode cc pc = .ok (.putfield index, 3)) (kk : ∀ (H1 : Heap) (locs1 : List Loc), va_P G.1 vwCl (pW G.2.1 α (p_le' σ v)) H1 → va_D A (pW G.2.1 α (p_le' σ v)) → va_S A H0 H1 locs1 → W p l e R s m args below meth c H1 locs1 cells slots Q (F0 m (pc + 3) ls rest)) : W p l e R s m args below meth c H locs cells slots Q (F0 m pc ls (.int v :: .ref (α 0) :: rest)) :=
  va_put (D := G.1) (ci := 2) (v := .int v) (ty := .int) (C := RX2) (T := TX2) (N := 2) hx hb hts hin tyX2 tyX2_ok nmX2 hown hK.1 hP hD hS 0 rfl rfl 1 (by decide) hl (fun _ h => h) rfl (by decide +kernel) rfl rfl (Nat.le_of_ble_eq_true rfl) hdg kk
theorem ld_P_si {σ : PS} {i : Int32} (hx : p.tables.exec = Jvm.exec) (hb : c.code = cc) (hK : cK G s) (hP : va_P G.1 vwCl (pW G.2.1 α σ) H) (hi : vp_in i 60) (hdg : decode cc pc = .ok (.iaload, 1)) (kk : W p l e R s m args below meth c H locs cells slots Q (F0 m (pc + 1) ls (.int (p_si σ i.toNatClampNeg) :: rest))) : W p l e R s m args below meth c H locs cells slots Q (F0 m pc ls (.int i :: .ref (α 1) :: rest)) :=
  va_iald (cA := G.2.1) (n := 60) (f := p_si σ) hx hb hK.1 hP 1 0 rfl rfl hi hdg kk
theorem st_P_si {σ : PS} {i x : Int32} (hx : p.tables.exec = Jvm.exec) (hb : c.code = cc) (hK : cK G s) (hP : va_P G.1 vwCl (pW G.2.1 α σ) H) (hD : va_D A (pW G.2.1 α σ)) (hS : va_S A H0 H locs) (hi : vp_in i 60) (hdg : decode cc pc = .ok (.iastore, 1)) (kk : ∀ (H1 : Heap) (locs1 : List Loc), va_P G.1 vwCl (pW G.2.1 α (p_si' σ (upd (p_si σ) i.toNatClampNeg x))) H1 → va_D A (pW G.2.1 α (p_si' σ (upd (p_si σ) i.toNatClampNeg x))) → va_S A H0 H1 locs1 → W p l e R s m args below meth c H1 locs1 cells slots Q (F0 m (pc + 1) ls rest)) : W p l e R s m args below meth c H locs cells slots Q (F0 m pc ls (.int x :: .int i :: .ref (α 1) :: rest)) :=
  va_iast (cA := G.2.1) (n := 60) (f := p_si σ) hx hb hK.1 hP hD hS 1 0 rfl rfl hi hdg kk
theorem cell_P_si {σ : PS} {D : va_G} {cl : List vw_C} {cI : ClassId} (hP : va_P D cl (pW cI α σ) H) : va_P D cl (aW cI (α 1) 60 (p_si σ)) H := hP.sub [1] rfl
theorem pset_P_si (cI : ClassId) (α : Nat → Nat) (σ : PS) (f : NI) : pset (pW cI α σ) [1] (aW cI (α 1) 60 f) = pW cI α (p_si' σ f) := rfl
theorem pl_P_si (cI : ClassId) (α : Nat → Nat) (σ : PS) : [1].map (fun i => (pW cI α σ)[i]?) = (aW cI (α 1) 60 (p_si σ)).map some := rfl
theorem pf_P_si (cI : ClassId) (α : Nat → Nat) (σ : PS) : [1].filterMap (fun i => (pW cI α σ)[i]?) = aW cI (α 1) 60 (p_si σ) := rfl
end RDX
