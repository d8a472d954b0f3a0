/-! what every contract asks of the tables: the classes, the two array classes, the links to nest mates' private members -/
def nW : List Cond := [.methodLinkNest RX4 21 yX2_init RX4, .methodLinkNest RX4 28 yX3_init RX4, .methodLinkNest RX4 35 yX1_init RX4, .methodLinkNest RX0 101 yX4_isSpare RX4, .methodLinkNest RX0 125 yX4_isAddress RX4, .methodLinkNest RX0 43 yX4_copyRow RX4, .methodLinkNest RX0 53 yX4_at RX4, .methodLinkNest RX0 57 yX4_lay RX4, .methodLinkNest RX0 75 yX4_trackOf RX4, .methodLinkNest RX2 21 yX4_lay RX4, .methodLinkNest RX2 25 yX4_at RX4, .methodLinkNest RX3 61 yX4_lay RX4, .methodLinkNest RX3 68 yX4_at RX4, .methodLinkNest RX3 85 yX4_trackOf RX4, .fieldLinkNest RX0 9 "GrooveTurns" "FIRST_SETTINGS" "[I" "GrooveTurns"]
theorem nW_shape : ∀ w ∈ nW, (∃ a i x h, w = .methodLinkNest a i x h) ∨ (∃ a i b n d h, w = .fieldLinkNest a i b n d h) := by
  intro w hw
  simp only [nW, List.mem_cons, List.not_mem_nil, or_false] at hw
  rcases hw with rfl | rfl | rfl | rfl | rfl | rfl | rfl | rfl | rfl | rfl | rfl | rfl | rfl | rfl | rfl
  all_goals first | exact Or.inl ⟨_, _, _, _, rfl⟩ | exact Or.inr ⟨_, _, _, _, _, _, rfl⟩
abbrev GG : Type := va_G × ClassId × ClassId
abbrev tysG (G : GG) : List (ClassId × FieldType) := [(G.2.1, .int), (G.2.2, .object RX0)]
def cK (G : GG) (U : State) : Prop := va_K G.1 vwCl (tysG G) U ∧ ∀ w ∈ nW, va_Nw w U
theorem cK.warm {G : GG} {s U : State} (hW : s.WarmedH U.vm) (h : cK G s) : cK G U := by
  refine ⟨va_K.moved hW.alike h.1, fun w hw => ?_⟩
  have h1 := h.2 w hw
  rcases nW_shape w hw with ⟨a, i, x, z, rfl⟩ | ⟨a, i, b, n, d, z, rfl⟩
  · exact va_Nw.warmM hW h1
  · exact va_Nw.warmF hW h1
theorem cK.call {G : GG} {U : State} {g : JFrame} {mk : MethodId} {a : Array Value} (h : cK G U) : cK G (U.calling g mk a) := by
  refine ⟨va_K.moved (u := U) (U := U.calling g mk a) (Vm.Alike.refl U.vm) h.1, fun w hw => ?_⟩
  have h1 := h.2 w hw
  rcases nW_shape w hw with ⟨a, i, x, z, rfl⟩ | ⟨a, i, b, n, d, z, rfl⟩
  · exact va_Nw.same rfl rfl h1
  · exact va_Nw.same rfl rfl h1
theorem cK.nest {G : GG} {U : State} (h : cK G U) (i : Nat) {w : Cond} (hi : nW[i]? = some w) : va_Nw w U := h.2 w (List.mem_of_getElem? hi)
/-! the two forms of a contract: one that reads, one that writes its world and makes nothing -/
def QR (v : Option Value) : Array Value → State → Outcome → State → Prop := fun _ st o t => o = .returned v ∧ t.heap = st.heap
def PR (G : GG) (av : List Value) (w : va_W) : Array Value → State → Prop := va_Pc av (fun U => va_P G.1 vwCl w U.heap ∧ cK G U)
abbrev rmm (nf nl : Nat) : Room := { frames := nf, cells := 0, slots := 0, locals := nl }
def Rd (G : GG) (l : Launch) (y : MethodName) (ws : List Cond) (nf nl : Nat) (av : List Value) (w : va_W) (v : Value) : Prop :=
  Met l y ws (rmm nf nl) (PR G av w) (QR (some v)) 0 0 (fun _ => False)
def inW (w : va_W) : Nat → Prop := fun q => ∃ (k : Nat) (e : va_E), w[k]? = some (q, e)
def QW (G : GG) (w0 w1 : va_W) (v : Option Value) : Array Value → State → Outcome → State → Prop := fun _ st o t => o = .returned v ∧ va_P G.1 vwCl w1 t.heap ∧ va_F (inW w0) st t
def PW (G : GG) (av : List Value) (w : va_W) : Array Value → State → Prop := va_Pc av (fun U => va_P G.1 vwCl w U.heap ∧ cK G U ∧ va_D (fun _ => True) w)
def Wr (G : GG) (l : Launch) (y : MethodName) (ws : List Cond) (nf nl : Nat) (av : List Value) (w : va_W) (v : Option Value) (w1 : va_W) : Prop :=
  Met l y ws (rmm nf nl) (PW G av w) (QW G w w1 v) 0 0 (inW w)
theorem PR.blind {G : GG} {av : List Value} {w : va_W} : FrameBlind (PR G av w) := fun a U g mk q => by
  obtain ⟨q0, q1, q2⟩ := q
  exact ⟨q0, q1, q2.call⟩
theorem PW.blind {G : GG} {av : List Value} {w : va_W} : FrameBlind (PW G av w) := fun a U g mk q => by
  obtain ⟨q0, q1, q2, q3⟩ := q
  exact ⟨q0, q1, q2.call, q3⟩
theorem inW.D {w : va_W} {A : Nat → Prop} (h : va_D A w) : va_D (inW w) w := ⟨h.1, fun k q hk => ⟨k, q.2, hk⟩⟩
/-- a world with some of its cells replaced, by their places -/
def pset : va_W → List Nat → va_W → va_W
  | W, i :: is, e :: es => pset (W.set i e) is es
  | W, [], _ => W
  | W, _ :: _, [] => W
theorem pset_cases : ∀ (is : List Nat) (W w w1 : va_W), is.map (fun i => W[i]?) = w.map some → w1.map (·.1) = w.map (·.1) → va_nd is = true → ∀ (k : Nat) (q : Nat × va_E), (pset W is w1)[k]? = some q → (∃ j : Nat, is[j]? = some k ∧ w1[j]? = some q) ∨ (k ∉ is ∧ W[k]? = some q)
  | [], W, w, w1, _, _, _, k, q, h => by
    unfold pset at h
    exact Or.inr ⟨List.not_mem_nil, h⟩
  | i :: is, W, [], w1, hC, _, _, k, q, h => by simp at hC
  | i :: is, W, c :: cs, [], hC, hf, _, k, q, h => by simp at hf
  | i :: is, W, c :: cs, c1 :: cs1, hC, hf, hn, k, q, h => by
    simp only [List.map_cons, List.cons.injEq] at hC hf
    simp only [va_nd, Bool.and_eq_true, decide_eq_true_eq] at hn
    have hl : i < W.length := (List.getElem?_eq_some_iff.mp hC.1).1
    have hC2 : is.map (fun j => (W.set i c1)[j]?) = cs.map some := by
      rw [← hC.2]
      apply List.map_congr_left
      intro j hj
      exact List.getElem?_set_ne (fun z => hn.1 (by rw [z]; exact hj))
    rcases pset_cases is (W.set i c1) cs cs1 hC2 hf.2 hn.2 k q h with ⟨j, h1, h2⟩ | ⟨h1, h2⟩
    · exact Or.inl ⟨j + 1, by rw [List.getElem?_cons_succ]; exact h1, by rw [List.getElem?_cons_succ]; exact h2⟩
    · by_cases hk : k = i
      · subst hk
        rw [List.getElem?_set_self hl] at h2
        exact Or.inl ⟨0, rfl, h2⟩
      · rw [List.getElem?_set_ne (Ne.symm hk)] at h2
        exact Or.inr ⟨fun z => (List.mem_cons.mp z).elim hk h1, h2⟩
theorem at_place {is : List Nat} {W w : va_W} (hC : is.map (fun i => W[i]?) = w.map some) {j : Nat} {q : Nat × va_E} (hq : w[j]? = some q) : ∃ i, is[j]? = some i ∧ W[i]? = some q := by
  have h1 : (is.map (fun i => W[i]?))[j]? = some (some q) := by rw [hC, List.getElem?_map, hq]; rfl
  rw [List.getElem?_map] at h1
  cases hi : is[j]? with
  | none => rw [hi] at h1; cases h1
  | some i => rw [hi] at h1; exact ⟨i, rfl, Option.some.inj h1⟩
theorem of_place {is : List Nat} {W w : va_W} (hC : is.map (fun i => W[i]?) = w.map some) {j k : Nat} (hk : is[j]? = some k) : ∃ q, w[j]? = some q ∧ W[k]? = some q := by
  have h1 : (is.map (fun i => W[i]?))[j]? = some (W[k]?) := by rw [List.getElem?_map, hk]; rfl
  rw [hC, List.getElem?_map] at h1
  cases hw : w[j]? with
  | none => rw [hw] at h1; cases h1
  | some q => rw [hw] at h1; exact ⟨q, rfl, (Option.some.inj h1).symm⟩
theorem same_fst {w w1 : va_W} (hf : w1.map (·.1) = w.map (·.1)) {j : Nat} {q q1 : Nat × va_E} (h : w[j]? = some q) (h1 : w1[j]? = some q1) : q1.1 = q.1 := by
  have e1 : (w1.map (·.1))[j]? = some q1.1 := by rw [List.getElem?_map, h1]; rfl
  rw [hf, List.getElem?_map, h] at e1
  exact (Option.some.inj e1).symm
/-- behind a call that writes: the cells at the places are new, the others as they were -/
theorem pset_ok {A : Nat → Prop} {D : va_G} {cl : List vw_C} {W w w1 : va_W} {H H1 : Heap} (hP : va_P D cl W H) (hD : va_D A W) (is : List Nat) (hC : is.map (fun i => W[i]?) = w.map some) (hf : w1.map (·.1) = w.map (·.1)) (hn : va_nd is = true)
    (hk : ∀ q : Nat, q < H.size → ¬ inW w q → H1[q]? = H[q]?) (hP1 : va_P D cl w1 H1) : va_P D cl (pset W is w1) H1 ∧ va_D A (pset W is w1) := by
  have key : ∀ (k : Nat) (q : Nat × va_E), (pset W is w1)[k]? = some q → ∃ q0, W[k]? = some q0 ∧ q0.1 = q.1 := by
    intro k q h
    rcases pset_cases is W w w1 hC hf hn k q h with ⟨j, h1, h2⟩ | ⟨-, h2⟩
    · obtain ⟨q0, h3, h4⟩ := of_place hC h1
      exact ⟨q0, h4, (same_fst hf h3 h2).symm⟩
    · exact ⟨q, h2, rfl⟩
  refine ⟨fun k q h => ?_, fun i j x y hi hj hxy => ?_, fun k q h => ?_⟩
  · rcases pset_cases is W w w1 hC hf hn k q h with ⟨j, -, h2⟩ | ⟨h1, h2⟩
    · exact hP1 j q h2
    · refine (hP k q h2).kept (hk q.1 (hP k q h2).lt (fun z => ?_))
      obtain ⟨j, e, hj⟩ := z
      obtain ⟨i, h3, h4⟩ := at_place hC hj
      have := hD.1 k i q (q.1, e) h2 h4 rfl
      subst this
      exact h1 (List.mem_of_getElem? h3)
  · obtain ⟨x0, h1, h2⟩ := key i x hi
    obtain ⟨y0, h3, h4⟩ := key j y hj
    exact hD.1 i j x0 y0 h1 h3 (h2.trans (hxy.trans h4.symm))
  · obtain ⟨q0, h1, h2⟩ := key k q h
    rw [← h2]
    exact hD.2 k q0 h1
theorem inW_A {A : Nat → Prop} {W w : va_W} (hD : va_D A W) {is : List Nat} (hC : is.map (fun i => W[i]?) = w.map some) : ∀ q, inW w q → A q := by
  intro q ⟨j, e, hj⟩
  obtain ⟨i, -, h4⟩ := at_place hC hj
  exact hD.2 i (q, e) h4
section RDW
variable {p : Program} {l : Launch} {e : Env} {R : Room} {s : State} {m : MethodId} {args : Array Value} {below : List Frame} {meth : Method} {c : Code} {H : Heap} {locs : List Loc} {cells slots : Nat} {Q : State → Prop}
variable {y : MethodName} {bytes cc : ByteArray} {maxL nL n index nf nl : Nat} {ret : Option FieldType} {ws : List Cond} {Ts : List Cond} {own C host : String} {b : Nat} {As rest st0 : List Value} {ls : Array Slot} {pc : Nat} {G : GG} {w w1 W0 : va_W} {v : Value} {vo : Option Value} {H0 : Heap} {A : Nat → Prop} {aa : Array Value}
/-- behind a reading call -/
theorem rd_go (hr : va_Run p l e R s m args below meth c H locs cells slots 0 0 (F0 m pc ls st0) rest (QR (some v) aa) (fun _ => False)) (kk : W p l e R s m args below meth c H locs cells slots Q (F0 m (pc + 3) ls (v :: rest))) : W p l e R s m args below meth c H locs cells slots Q (F0 m pc ls st0) := by
  intro T hT X
  obtain ⟨v', st₀, t, T', L, h0, X', hL, e1, e2, ⟨hv, hh⟩, st⟩ := hr T hT X
  cases hv
  obtain ⟨t2, a1, b1⟩ := kk T' (by rw [e1, hh, h0]) (Stand.forget X' (fun q h => (hL q h).elim))
  exact ⟨t2, st t2 a1, b1⟩
theorem rdV (hC : Rd G l y ws nf nl (.ref b :: As) w v) (S : CallFix p m c cc nL s args Ts own) (cw : CallW R s args own C index y bytes maxL ret ws (rmm nf nl) 0 0 n) (hv : ∃ cell : Cell, H[b]? = some cell ∧ cell.vm.isStatics = false ∧ s.vm.findClass C = some cell.cls) (hK : cK G s) (hw : va_P G.1 vwCl w H)
    (hn : As.length = n) (hsz : ls.size = nL) (hst : st0 = As.reverse ++ .ref b :: rest) (hW : (rest.map fun v => v.category).sum ≤ 8) (hdg : decode cc pc = .ok (.invokevirtual index, 3)) (hf : cells ≤ R.cells ∧ slots ≤ R.slots)
    (kk : W p l e R s m args below meth c H locs cells slots Q (F0 m (pc + 3) ls (v :: rest))) : W p l e R s m args below meth c H locs cells slots Q (F0 m pc ls st0) :=
  rd_go (va_runV S hC cw ⟨PR.blind, hv, fun U hU hW => ⟨rfl, by rw [hU]; exact hw, hK.warm hW⟩⟩ rfl hn hsz hst (lv_room hW) hdg hf) kk
theorem rdS (hC : Rd G l y ws nf nl As w v) (S : CallFix p m c cc nL s args Ts own) (cw : CallB R s args own index y bytes maxL ret ws (rmm nf nl) 0 0 n ∧ (Cond.static y).before args s = true) (hK : cK G s) (hw : va_P G.1 vwCl w H)
    (hn : As.length = n) (hsz : ls.size = nL) (hst : st0 = As.reverse ++ rest) (hW : (rest.map fun v => v.category).sum ≤ 8) (hdg : decode cc pc = .ok (.invokestatic index, 3)) (hf : cells ≤ R.cells ∧ slots ≤ R.slots)
    (kk : W p l e R s m args below meth c H locs cells slots Q (F0 m (pc + 3) ls (v :: rest))) : W p l e R s m args below meth c H locs cells slots Q (F0 m pc ls st0) :=
  rd_go (va_runS S hC cw ⟨PR.blind, fun U hU hW => ⟨rfl, by rw [hU]; exact hw, hK.warm hW⟩⟩ rfl hn hsz hst (lv_room hW) hdg hf) kk
theorem rdN (hC : Rd G l y ws nf nl As w v) (S : CallFix p m c cc nL s args Ts own) (cw : va_CN R s args own index y host bytes maxL ret ws (rmm nf nl) 0 0 n) (hstat : (Cond.static y).before args s = true) (hK : cK G s) (hw : va_P G.1 vwCl w H)
    (hn : As.length = n) (hsz : ls.size = nL) (hst : st0 = As.reverse ++ rest) (hW : (rest.map fun v => v.category).sum ≤ 8) (hdg : decode cc pc = .ok (.invokestatic index, 3)) (hf : cells ≤ R.cells ∧ slots ≤ R.slots)
    (kk : W p l e R s m args below meth c H locs cells slots Q (F0 m (pc + 3) ls (v :: rest))) : W p l e R s m args below meth c H locs cells slots Q (F0 m pc ls st0) :=
  rd_go (va_runSN S hC ⟨cw, hstat, trivial⟩ ⟨PR.blind, fun U hU hW => ⟨rfl, by rw [hU]; exact hw, hK.warm hW⟩⟩ rfl hn hsz hst (lv_room hW) hdg hf) kk
/-- behind a writing call -/
theorem wr_go (hr : va_Run p l e R s m args below meth c H locs cells slots 0 0 (F0 m pc ls st0) rest (QW G w w1 vo aa) (inW w)) (hP : va_P G.1 vwCl W0 H) (hD : va_D A W0) (hS : va_S A H0 H locs) (is : List Nat) (hc : is.map (fun i => W0[i]?) = w.map some) (hf : w1.map (·.1) = w.map (·.1)) (hnd : va_nd is = true)
    (kk : ∀ (H1 : Heap) (locs1 : List Loc), va_P G.1 vwCl (pset W0 is w1) H1 → va_D A (pset W0 is w1) → va_S A H0 H1 locs1 → W p l e R s m args below meth c H1 locs1 cells slots Q (F0 m (pc + 3) ls (vo.toList ++ rest))) : W p l e R s m args below meth c H locs cells slots Q (F0 m pc ls st0) := by
  intro T hT X
  obtain ⟨v', st₀, t, T', L, h0, X', hL, e1, e2, ⟨hv, hp, hz, hk⟩, st⟩ := hr T hT X
  cases hv
  rw [h0] at hz hk
  have hk1 : ∀ q : Nat, q < H.size → ¬ inW w q → T'.heap[q]? = H[q]? := fun q a b => by rw [e1]; exact hk q a b
  obtain ⟨hP1, hD1⟩ := pset_ok hP hD is hc hf hnd hk1 (by rw [e1]; exact hp)
  have hsub := inW_A hD hc
  obtain ⟨t2, a1, b1⟩ := kk T'.heap (locs ++ L) hP1 hD1 ⟨Nat.le_trans hS.1 (by rw [e1]; exact hz), fun q h1 h2 => (hk1 q (Nat.lt_of_lt_of_le h1 hS.1) (fun z => h2 (hsub q z))).trans (hS.2.1 q h1 h2), fun q hq => by
      rcases List.mem_append.mp hq with h | h
      · exact hS.2.2 q h
      · exact hsub _ (hL q h)⟩ T' rfl X'
  exact ⟨t2, st t2 a1, b1⟩
theorem wrV (hC : Wr G l y ws nf nl (.ref b :: As) w vo w1) (S : CallFix p m c cc nL s args Ts own) (cw : CallW R s args own C index y bytes maxL ret ws (rmm nf nl) 0 0 n) (hv : ∃ cell : Cell, H[b]? = some cell ∧ cell.vm.isStatics = false ∧ s.vm.findClass C = some cell.cls) (hK : cK G s)
    (hP : va_P G.1 vwCl W0 H) (hD : va_D A W0) (hS : va_S A H0 H locs) (is : List Nat) (hc : is.map (fun i => W0[i]?) = w.map some) (hg : is.filterMap (fun i => W0[i]?) = w) (hfs : w1.map (·.1) = w.map (·.1)) (hnd : va_nd is = true)
    (hn : As.length = n) (hsz : ls.size = nL) (hst : st0 = As.reverse ++ .ref b :: rest) (hW : (rest.map fun v => v.category).sum ≤ 8) (hdg : decode cc pc = .ok (.invokevirtual index, 3)) (hf : cells ≤ R.cells ∧ slots ≤ R.slots)
    (kk : ∀ (H1 : Heap) (locs1 : List Loc), va_P G.1 vwCl (pset W0 is w1) H1 → va_D A (pset W0 is w1) → va_S A H0 H1 locs1 → W p l e R s m args below meth c H1 locs1 cells slots Q (F0 m (pc + 3) ls (vo.toList ++ rest))) : W p l e R s m args below meth c H locs cells slots Q (F0 m pc ls st0) :=
  wr_go (va_runV S hC cw ⟨PW.blind, hv, fun U hU hW => ⟨rfl, by rw [hU]; exact hP.sub is hg, hK.warm hW, (hD.sub is hnd hc).weaken (fun _ _ _ _ => trivial)⟩⟩ rfl hn hsz hst (lv_room hW) hdg hf) hP hD hS is hc hfs hnd kk
theorem wrS (hC : Wr G l y ws nf nl As w vo w1) (S : CallFix p m c cc nL s args Ts own) (cw : CallB R s args own index y bytes maxL ret ws (rmm nf nl) 0 0 n ∧ (Cond.static y).before args s = true) (hK : cK G s)
    (hP : va_P G.1 vwCl W0 H) (hD : va_D A W0) (hS : va_S A H0 H locs) (is : List Nat) (hc : is.map (fun i => W0[i]?) = w.map some) (hg : is.filterMap (fun i => W0[i]?) = w) (hfs : w1.map (·.1) = w.map (·.1)) (hnd : va_nd is = true)
    (hn : As.length = n) (hsz : ls.size = nL) (hst : st0 = As.reverse ++ rest) (hW : (rest.map fun v => v.category).sum ≤ 8) (hdg : decode cc pc = .ok (.invokestatic index, 3)) (hf : cells ≤ R.cells ∧ slots ≤ R.slots)
    (kk : ∀ (H1 : Heap) (locs1 : List Loc), va_P G.1 vwCl (pset W0 is w1) H1 → va_D A (pset W0 is w1) → va_S A H0 H1 locs1 → W p l e R s m args below meth c H1 locs1 cells slots Q (F0 m (pc + 3) ls (vo.toList ++ rest))) : W p l e R s m args below meth c H locs cells slots Q (F0 m pc ls st0) :=
  wr_go (va_runS S hC cw ⟨PW.blind, fun U hU hW => ⟨rfl, by rw [hU]; exact hP.sub is hg, hK.warm hW, (hD.sub is hnd hc).weaken (fun _ _ _ _ => trivial)⟩⟩ rfl hn hsz hst (lv_room hW) hdg hf) hP hD hS is hc hfs hnd kk
theorem wrN (hC : Wr G l y ws nf nl As w vo w1) (S : CallFix p m c cc nL s args Ts own) (cw : va_CN R s args own index y host bytes maxL ret ws (rmm nf nl) 0 0 n) (hstat : (Cond.static y).before args s = true) (hK : cK G s)
    (hP : va_P G.1 vwCl W0 H) (hD : va_D A W0) (hS : va_S A H0 H locs) (is : List Nat) (hc : is.map (fun i => W0[i]?) = w.map some) (hg : is.filterMap (fun i => W0[i]?) = w) (hfs : w1.map (·.1) = w.map (·.1)) (hnd : va_nd is = true)
    (hn : As.length = n) (hsz : ls.size = nL) (hst : st0 = As.reverse ++ rest) (hW : (rest.map fun v => v.category).sum ≤ 8) (hdg : decode cc pc = .ok (.invokestatic index, 3)) (hf : cells ≤ R.cells ∧ slots ≤ R.slots)
    (kk : ∀ (H1 : Heap) (locs1 : List Loc), va_P G.1 vwCl (pset W0 is w1) H1 → va_D A (pset W0 is w1) → va_S A H0 H1 locs1 → W p l e R s m args below meth c H1 locs1 cells slots Q (F0 m (pc + 3) ls (vo.toList ++ rest))) : W p l e R s m args below meth c H locs cells slots Q (F0 m pc ls st0) :=
  wr_go (va_runSN S hC ⟨cw, hstat, trivial⟩ ⟨PW.blind, fun U hU hW => ⟨rfl, by rw [hU]; exact hP.sub is hg, hK.warm hW, (hD.sub is hnd hc).weaken (fun _ _ _ _ => trivial)⟩⟩ rfl hn hsz hst (lv_room hW) hdg hf) hP hD hS is hc hfs hnd kk
end RDW
/-! pure words of the shallow readings -/
abbrev jrem (x y : Int32) : Int32 := x - x / y * y
abbrev jmin (x y : Int32) : Int32 := if y < x then y else x
abbrev jmax (x y : Int32) : Int32 := if x < y then y else x
abbrev jabs (x : Int32) : Int32 := if 0 ≤ x then x else 0 - x
abbrev jus (x : Int64) (y : Int32) : Int64 := (x.toUInt64 >>> (y.toInt64.toUInt64 &&& Int64.toUInt64 63)).toInt64
def jinc (f : Nat → Int32) (i x : Int32) : Nat → Int32 := upd f i.toNatClampNeg (f i.toNatClampNeg + x)
def FU : Nat := 6000
theorem sw_out {x : Int32} {lo hi : Int} (h : ∀ k : Int, lo ≤ k → k ≤ hi → ¬ x.toInt = k) : x.toInt < lo ∨ hi < x.toInt := by
  by_cases h1 : x.toInt < lo
  · exact Or.inl h1
  · by_cases h2 : hi < x.toInt
    · exact Or.inr h2
    · exact absurd rfl (h x.toInt (by omega) (by omega))
/-! states and worlds -/
abbrev NI : Type := Nat → Int32
abbrev DS : Type := NI × NI × NI × NI × NI × Int32 × Int32 × Int32 × Int32
def d_st (σ : DS) : NI := σ.1
def d_nu (σ : DS) : NI := σ.2.1
def d_bl (σ : DS) : NI := σ.2.2.1
def d_wr (σ : DS) : NI := σ.2.2.2.1
def d_se (σ : DS) : NI := σ.2.2.2.2.1
def d_sp (σ : DS) : Int32 := σ.2.2.2.2.2.1
def d_rd (σ : DS) : Int32 := σ.2.2.2.2.2.2.1
def d_tk (σ : DS) : Int32 := σ.2.2.2.2.2.2.2.1
def d_hd (σ : DS) : Int32 := σ.2.2.2.2.2.2.2.2
def d_st' (σ : DS) (x : NI) : DS := (x, σ.2)
def d_nu' (σ : DS) (x : NI) : DS := (σ.1, x, σ.2.2)
def d_bl' (σ : DS) (x : NI) : DS := (σ.1, σ.2.1, x, σ.2.2.2)
def d_wr' (σ : DS) (x : NI) : DS := (σ.1, σ.2.1, σ.2.2.1, x, σ.2.2.2.2)
def d_se' (σ : DS) (x : NI) : DS := (σ.1, σ.2.1, σ.2.2.1, σ.2.2.2.1, x, σ.2.2.2.2.2)
def d_sp' (σ : DS) (x : Int32) : DS := (σ.1, σ.2.1, σ.2.2.1, σ.2.2.2.1, σ.2.2.2.2.1, x, σ.2.2.2.2.2.2)
def d_rd' (σ : DS) (x : Int32) : DS := (σ.1, σ.2.1, σ.2.2.1, σ.2.2.2.1, σ.2.2.2.2.1, σ.2.2.2.2.2.1, x, σ.2.2.2.2.2.2.2)
def d_tk' (σ : DS) (x : Int32) : DS := (σ.1, σ.2.1, σ.2.2.1, σ.2.2.2.1, σ.2.2.2.2.1, σ.2.2.2.2.2.1, σ.2.2.2.2.2.2.1, x, σ.2.2.2.2.2.2.2.2)
def d_hd' (σ : DS) (x : Int32) : DS := (σ.1, σ.2.1, σ.2.2.1, σ.2.2.2.1, σ.2.2.2.2.1, σ.2.2.2.2.2.1, σ.2.2.2.2.2.2.1, σ.2.2.2.2.2.2.2.1, x)
abbrev dW (cI : ClassId) (α : Nat → Nat) (σ : DS) : va_W := [(α 0, .inr (0, [.ref (α 1), .ref (α 2), .ref (α 3), .ref (α 4), .ref (α 5), .int (d_sp σ), .int (d_rd σ), .int (d_tk σ), .int (d_hd σ)])), (α 1, .inl (cI, 5, .inl (d_st σ))), (α 2, .inl (cI, 204, .inl (d_nu σ))), (α 3, .inl (cI, 204, .inl (d_bl σ))), (α 4, .inl (cI, 204, .inl (d_wr σ))), (α 5, .inl (cI, 192, .inl (d_se σ)))]
abbrev QS : Type := NI × NI × NI × Int32 × Int32
def q_ad (σ : QS) : NI := σ.1
def q_nu (σ : QS) : NI := σ.2.1
def q_tr (σ : QS) : NI := σ.2.2.1
def q_sz (σ : QS) : Int32 := σ.2.2.2.1
def q_pl (σ : QS) : Int32 := σ.2.2.2.2
def q_ad' (σ : QS) (x : NI) : QS := (x, σ.2)
def q_nu' (σ : QS) (x : NI) : QS := (σ.1, x, σ.2.2)
def q_tr' (σ : QS) (x : NI) : QS := (σ.1, σ.2.1, x, σ.2.2.2)
def q_sz' (σ : QS) (x : Int32) : QS := (σ.1, σ.2.1, σ.2.2.1, x, σ.2.2.2.2)
def q_pl' (σ : QS) (x : Int32) : QS := (σ.1, σ.2.1, σ.2.2.1, σ.2.2.2.1, x)
abbrev qW (cI : ClassId) (α : Nat → Nat) (σ : QS) : va_W := [(α 0, .inr (3, [.ref (α 1), .ref (α 2), .ref (α 3), .int (q_sz σ), .int (q_pl σ)])), (α 1, .inl (cI, 21, .inl (q_ad σ))), (α 2, .inl (cI, 21, .inl (q_nu σ))), (α 3, .inl (cI, 21, .inl (q_tr σ)))]
abbrev PS : Type := NI × Int32
def p_si (σ : PS) : NI := σ.1
def p_le (σ : PS) : Int32 := σ.2
def p_si' (σ : PS) (x : NI) : PS := (x, σ.2)
def p_le' (σ : PS) (x : Int32) : PS := (σ.1, x)
abbrev pW (cI : ClassId) (α : Nat → Nat) (σ : PS) : va_W := [(α 0, .inr (2, [.ref (α 1), .int (p_le σ)])), (α 1, .inl (cI, 60, .inl (p_si σ)))]
/-- one row of ints -/
abbrev aW (cI : ClassId) (α : Nat) (n : Nat) (f : NI) : va_W := [(α, .inl (cI, n, .inl f))]
/-- what a walk knows of its method -/
def cA (p : Program) (s : State) (m : MethodId) (meth : Method) (c : Code) (args : Array Value) (cc : ByteArray) (nL : Nat) (rt : Option FieldType) (ws : List Cond) (own : String) : Prop :=
  p.tables.exec = Jvm.exec ∧ c.code = cc ∧ meth.sig.returnType = rt ∧ c.maxLocals = nL ∧ s.vm.findClass own = some m.cls ∧ (∀ w ∈ ws, w.before args s = true) ∧ meth.locks = false
theorem nbool {v : Int32} (h : v = 0 ∨ v = 1) : narrow .boolean (.int v) = .int v := by rcases h with rfl | rfl <;> rfl
theorem at_in {x : Int32} {n : Nat} (h1 : ¬ x < 0) (h2 : ¬ nI n ≤ x) (hn : n < 2147483648) : vp_in x n := by
  rcases pk_ix x hn with h | h | ⟨j, hj, rfl⟩
  · exact absurd h h1
  · exact absurd h h2
  · exact vp_in_nI hj hn
theorem nz_of {x : Int32} (h : ¬ x ≤ 0) : ¬ x = 0 := fun e => h (by rw [e]; exact Int32.le_refl 0)
theorem pr1 {a b : Type} {x : a × b} {u : a} {v : b} (h : x = (u, v)) : x.1 = u := by rw [h]
theorem pr2 {a b : Type} {x : a × b} {u : a} {v : b} (h : x = (u, v)) : x.2 = v := by rw [h]
