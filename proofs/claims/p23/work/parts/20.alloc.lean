/-! methods that make cells: their contracts and calls; the static tables -/
abbrev rmN (nf nl mc ms : Nat) : Room := { frames := nf, cells := mc, slots := ms, locals := nl }
def firstS : NI := fun j => match j with | 0 => 4 | 1 => 1 | 2 => 30 | 3 => 20 | _ => 2
def lowS : NI := fun j => match j with | 2 => 5 | 3 => 1 | _ => 0
def highS : NI := fun j => match j with | 0 => 20 | 1 => 20 | 2 => 99 | 3 => 99 | _ => 20
/-- the class's three static tables -/
def sT (t : Nat × Nat × Nat) (A : Nat → Prop) (U : State) : Prop :=
  (va_Z "GrooveTurns" "FIRST_SETTINGS" "[I" (.ref t.1) A U U.heap ∧ tb_at t.1 5 firstS A U U.heap) ∧ (va_Z "GrooveTurns" "LOWEST_SETTINGS" "[I" (.ref t.2.1) A U U.heap ∧ tb_at t.2.1 5 lowS A U U.heap) ∧ (va_Z "GrooveTurns" "HIGHEST_SETTINGS" "[I" (.ref t.2.2) A U U.heap ∧ tb_at t.2.2 5 highS A U U.heap)
theorem tb_at.to {t N : Nat} {f : NI} {A B : Nat → Prop} {s U : State} {H : Heap} {locs : List Loc} (h : tb_at t N f A s s.heap) (hS : va_S A s.heap H locs) (hsub : ∀ q, B q → A q) (hU : U.heap = H) (hW : s.WarmedH U.vm) : tb_at t N f B U U.heap := by
  rw [hU]
  exact va_T.moved hW.alike (va_T.narrow (va_T.kept h (fun a h1 h2 => hS.2.1 a h1 h2)) hsub)
theorem va_Z.to {C n d : String} {v : Value} {A B : Nat → Prop} {s U : State} {H : Heap} {locs : List Loc} (h : va_Z C n d v A s s.heap) (hS : va_S A s.heap H locs) (hsub : ∀ q, B q → A q) (hU : U.heap = H) (hW : s.WarmedH U.vm) : va_Z C n d v B U U.heap := by
  rw [hU]
  exact va_Z.moved hW.alike (va_Z.narrow (va_Z.kept h (fun a h1 h2 => hS.2.1 a h1 h2)) hsub)
theorem sT.to {t : Nat × Nat × Nat} {A B : Nat → Prop} {s U : State} {H : Heap} {locs : List Loc} (h : sT t A s) (hS : va_S A s.heap H locs) (hsub : ∀ q, B q → A q) (hU : U.heap = H) (hW : s.WarmedH U.vm) : sT t B U := by
  obtain ⟨⟨h1, h2⟩, ⟨h3, h4⟩, h5, h6⟩ := h
  exact ⟨⟨h1.to hS hsub hU hW, h2.to hS hsub hU hW⟩, ⟨h3.to hS hsub hU hW, h4.to hS hsub hU hW⟩, h5.to hS hsub hU hW, h6.to hS hsub hU hW⟩
def FB2 (T : (Nat → Prop) → State → Prop) : Prop := ∀ (A : Nat → Prop) (U : State) (g : JFrame) (mk : MethodId) (a : Array Value), T A U → T A (U.calling g mk a)
theorem sT.blind {t : Nat × Nat × Nat} : FB2 (sT t) := fun A U g mk a h => by
  obtain ⟨⟨h1, h2⟩, ⟨h3, h4⟩, h5, h6⟩ := h
  have al : U.vm.Alike (U.calling g mk a).vm := Vm.Alike.refl U.vm
  exact ⟨⟨va_Z.moved al h1, va_T.moved al h2⟩, ⟨va_Z.moved al h3, va_T.moved al h4⟩, va_Z.moved al h5, va_T.moved al h6⟩
def nT : (Nat → Prop) → State → Prop := fun _ _ => True
theorem nT.blind : FB2 nT := fun _ _ _ _ _ _ => trivial
def PN (G : GG) (av : List Value) (w : va_W) (sz : Nat) (T : (Nat → Prop) → State → Prop) : Array Value → State → Prop := va_Pc av (fun U => U.heap.size = sz ∧ va_P G.1 vwCl w U.heap ∧ cK G U ∧ va_D (fun _ => True) w ∧ T (va_A w sz) U)
def QN (G : GG) (w : va_W) (sz : Nat) (v : Option Value) (B : va_W → Prop) : Array Value → State → Outcome → State → Prop := fun _ st o t => o = .returned v ∧ (∃ w1, B w1 ∧ va_P G.1 vwCl w1 t.heap ∧ va_D (va_A w sz) w1) ∧ va_F (va_A w sz) st t
def Nw (G : GG) (l : Launch) (y : MethodName) (ws : List Cond) (nf nl mc ms : Nat) (av : List Value) (w : va_W) (T : (Nat → Prop) → State → Prop) (v : Option Value) (B : va_W → Prop) : Prop :=
  ∀ sz : Nat, Met l y ws (rmN nf nl mc ms) (PN G av w sz T) (QN G w sz v B) mc ms (va_A w sz)
theorem PN.blind {G : GG} {av : List Value} {w : va_W} {sz : Nat} {T : (Nat → Prop) → State → Prop} (hT : FB2 T) : FrameBlind (PN G av w sz T) := fun a U g mk q => by
  obtain ⟨q0, q1, q2, q3, q4, q5⟩ := q
  exact ⟨q0, q1, q2, q3.call, q4, hT _ _ _ _ _ q5⟩
/-- a part of a world gave way to another, which may hold new cells; the other part stays -/
theorem repNR {A : Nat → Prop} {D : va_G} {cl : List vw_C} {WA w w1 : va_W} {H H1 : Heap} (hP : va_P D cl (WA ++ w) H) (hD : va_D A (WA ++ w)) (hk : ∀ q : Nat, q < H.size → ¬ va_A w H.size q → H1[q]? = H[q]?) (hF : ∀ q, va_A w H.size q → A q) (hP1 : va_P D cl w1 H1) (hD1 : va_D (va_A w H.size) w1) : va_P D cl (WA ++ w1) H1 ∧ va_D A (WA ++ w1) := by
  have ap : ∀ (k : Nat) (q : Nat × va_E), WA[k]? = some q → ¬ va_A w H.size q.1 := fun k q hq z => by
    have hl := ((va_PL hP) k q hq).lt
    rcases z with ⟨j, e, hj⟩ | z
    · exact va_Dx hD hq hj rfl
    · omega
  refine ⟨va_P.app ((va_PL hP).kept fun k q hq => hk q.1 ((va_PL hP) k q hq).lt (ap k q hq)) hP1, va_D.app (va_DL hD) (hD1.weaken fun k q _ h => hF q.1 h) fun i j x y hx hy hxy => ?_⟩
  exact ap i x hx (by rw [hxy]; exact hD1.2 j y hy)
theorem repNL {A : Nat → Prop} {D : va_G} {cl : List vw_C} {WB w w1 : va_W} {H H1 : Heap} (hP : va_P D cl (w ++ WB) H) (hD : va_D A (w ++ WB)) (hk : ∀ q : Nat, q < H.size → ¬ va_A w H.size q → H1[q]? = H[q]?) (hF : ∀ q, va_A w H.size q → A q) (hP1 : va_P D cl w1 H1) (hD1 : va_D (va_A w H.size) w1) : va_P D cl (w1 ++ WB) H1 ∧ va_D A (w1 ++ WB) := by
  have ap : ∀ (k : Nat) (q : Nat × va_E), WB[k]? = some q → ¬ va_A w H.size q.1 := fun k q hq z => by
    have hl := ((va_PR hP) k q hq).lt
    rcases z with ⟨j, e, hj⟩ | z
    · exact va_Dx hD hj hq rfl
    · omega
  refine ⟨va_P.app hP1 ((va_PR hP).kept fun k q hq => hk q.1 ((va_PR hP) k q hq).lt (ap k q hq)), va_D.app (hD1.weaken fun k q _ h => hF q.1 h) (va_DR hD) fun i j x y hx hy hxy => ?_⟩
  exact ap j y hy (by rw [← hxy]; exact hD1.2 i x hx)
section NWC
variable {p : Program} {l : Launch} {e : Env} {R : Room} {s : State} {m : MethodId} {args : Array Value} {below : List Frame} {meth : Method} {c : Code} {H : Heap} {locs : List Loc} {cells slots : Nat} {Q : State → Prop}
variable {y : MethodName} {bytes cc : ByteArray} {maxL nL n index nf nl mc ms : Nat} {ret : Option FieldType} {ws : List Cond} {Ts : List Cond} {own C host : String} {b : Nat} {As rest st0 : List Value} {ls : Array Slot} {pc : Nat} {G : GG} {w w1 WA WB : va_W} {v : Value} {vo : Option Value} {H0 : Heap} {A : Nat → Prop} {aa : Array Value} {T : (Nat → Prop) → State → Prop} {B : va_W → Prop}
theorem va_A_sub {W : va_W} (hD : va_D A W) (hS : va_S A H0 H locs) (hA : ∀ q, H0.size ≤ q → A q) (hw : ∀ (k : Nat) (q : Nat × va_E), w[k]? = some q → ∃ j : Nat, W[j]? = some q) : ∀ q, va_A w H.size q → A q := by
  intro q h
  rcases h with ⟨k, e, h⟩ | h
  · obtain ⟨j, hj⟩ := hw k (q, e) h
    exact hD.2 j (q, e) hj
  · exact hA q (Nat.le_trans hS.1 h)
theorem in_R {W w : va_W} : ∀ (k : Nat) (q : Nat × va_E), w[k]? = some q → ∃ j : Nat, (W ++ w)[j]? = some q := fun k q hk => ⟨W.length + k, by rw [List.getElem?_append_right (by omega), Nat.add_sub_cancel_left]; exact hk⟩
theorem in_L {W w : va_W} : ∀ (k : Nat) (q : Nat × va_E), w[k]? = some q → ∃ j : Nat, (w ++ W)[j]? = some q := fun k q hk => ⟨k, by rw [List.getElem?_append_left (List.getElem?_eq_some_iff.mp hk).1]; exact hk⟩
theorem nw_go (hr : va_Run p l e R s m args below meth c H locs cells slots mc ms (F0 m pc ls st0) rest (QN G w H.size vo B aa) (va_A w H.size)) (hF : ∀ q, va_A w H.size q → A q) (hS : va_S A H0 H locs)
    (kk : ∀ (w1 : va_W) (H1 : Heap) (locs1 : List Loc), B w1 → va_P G.1 vwCl w1 H1 → va_D (va_A w H.size) w1 → (∀ q : Nat, q < H.size → ¬ va_A w H.size q → H1[q]? = H[q]?) → va_S A H0 H1 locs1 → W p l e R s m args below meth c H1 locs1 (cells + mc) (slots + ms) Q (F0 m (pc + 3) ls (vo.toList ++ rest))) : W p l e R s m args below meth c H locs cells slots Q (F0 m pc ls st0) := by
  intro T hT X
  obtain ⟨v', st₀, t, T', L, h0, X', hL, e1, e2, ⟨hv, ⟨w1, hB, hp, hd⟩, hz, hk⟩, st⟩ := hr T hT X
  cases hv
  rw [h0] at hz hk
  have hk1 : ∀ q : Nat, q < H.size → ¬ va_A w H.size q → T'.heap[q]? = H[q]? := fun q a b => by rw [e1]; exact hk q a b
  obtain ⟨t2, a1, b1⟩ := kk w1 T'.heap (locs ++ L) hB (by rw [e1]; exact hp) hd hk1 ⟨Nat.le_trans hS.1 (by rw [e1]; exact hz), fun q h1 h2 => (hk1 q (Nat.lt_of_lt_of_le h1 hS.1) (fun z => h2 (hF q z))).trans (hS.2.1 q h1 h2), fun q hq => by
      rcases List.mem_append.mp hq with h | h
      · exact hS.2.2 q h
      · exact hF _ (hL q h)⟩ T' rfl X'
  exact ⟨t2, st t2 a1, b1⟩
/-- a constructor of our own package; of a nest mate -/
theorem nwI (hC : Nw G l y ws nf nl mc ms (.ref b :: As) w T vo B) (hTb : FB2 T) (S : CallFix p m c cc nL s args Ts own) (cw : CallB R s args own index y bytes maxL none ws (rmN nf nl mc ms) mc ms n ∧ y.name = "<init>" ∧ (Cond.instanceMethod y).before args s = true) (hK : cK G s) (hP : va_P G.1 vwCl (WA ++ w) H) (hD : va_D A (WA ++ w)) (hS : va_S A H0 H locs) (hA : ∀ q, H0.size ≤ q → A q) (hT : ∀ U : State, U.heap = H → s.WarmedH U.vm → (∀ q, va_A w H.size q → A q) → T (va_A w H.size) U)
    (hn : As.length = n) (hsz : ls.size = nL) (hst : st0 = As.reverse ++ .ref b :: rest) (hW : (rest.map fun v => v.category).sum ≤ 8) (hdg : decode cc pc = .ok (.invokespecial index, 3)) (hf : cells + mc ≤ R.cells ∧ slots + ms ≤ R.slots)
    (kk : ∀ (w1 : va_W) (H1 : Heap) (locs1 : List Loc), B w1 → va_P G.1 vwCl (WA ++ w1) H1 → va_D A (WA ++ w1) → va_S A H0 H1 locs1 → W p l e R s m args below meth c H1 locs1 (cells + mc) (slots + ms) Q (F0 m (pc + 3) ls (vo.toList ++ rest))) : W p l e R s m args below meth c H locs cells slots Q (F0 m pc ls st0) := by
  have hF := va_A_sub hD hS hA (w := w) in_R
  exact nw_go (va_runI S (hC H.size) cw ⟨PN.blind hTb, fun U hU hW => ⟨rfl, by rw [hU], by rw [hU]; exact va_PR hP, hK.warm hW, (va_DR hD).weaken (fun _ _ _ _ => trivial), hT U hU hW hF⟩⟩ rfl hn hsz hst (lv_room hW) hdg hf) hF hS
    (fun w1 H1 locs1 hB hp hd hk hS1 => by
      obtain ⟨h1, h2⟩ := repNR hP hD hk hF hp hd
      exact kk w1 H1 locs1 hB h1 h2 hS1)
theorem nwIN (hC : Nw G l y ws nf nl mc ms (.ref b :: As) w T vo B) (hTb : FB2 T) (S : CallFix p m c cc nL s args Ts own) (cw : va_CN R s args own index y host bytes maxL none ws (rmN nf nl mc ms) mc ms n ∧ y.name = "<init>" ∧ (Cond.instanceMethod y).before args s = true) (hK : cK G s) (hP : va_P G.1 vwCl (WA ++ w) H) (hD : va_D A (WA ++ w)) (hS : va_S A H0 H locs) (hA : ∀ q, H0.size ≤ q → A q) (hT : ∀ U : State, U.heap = H → s.WarmedH U.vm → (∀ q, va_A w H.size q → A q) → T (va_A w H.size) U)
    (hn : As.length = n) (hsz : ls.size = nL) (hst : st0 = As.reverse ++ .ref b :: rest) (hW : (rest.map fun v => v.category).sum ≤ 8) (hdg : decode cc pc = .ok (.invokespecial index, 3)) (hf : cells + mc ≤ R.cells ∧ slots + ms ≤ R.slots)
    (kk : ∀ (w1 : va_W) (H1 : Heap) (locs1 : List Loc), B w1 → va_P G.1 vwCl (WA ++ w1) H1 → va_D A (WA ++ w1) → va_S A H0 H1 locs1 → W p l e R s m args below meth c H1 locs1 (cells + mc) (slots + ms) Q (F0 m (pc + 3) ls (vo.toList ++ rest))) : W p l e R s m args below meth c H locs cells slots Q (F0 m pc ls st0) := by
  have hF := va_A_sub hD hS hA (w := w) in_R
  exact nw_go (va_runIN S (hC H.size) cw ⟨PN.blind hTb, fun U hU hW => ⟨rfl, by rw [hU], by rw [hU]; exact va_PR hP, hK.warm hW, (va_DR hD).weaken (fun _ _ _ _ => trivial), hT U hU hW hF⟩⟩ rfl hn hsz hst (lv_room hW) hdg hf) hF hS
    (fun w1 H1 locs1 hB hp hd hk hS1 => by
      obtain ⟨h1, h2⟩ := repNR hP hD hk hF hp hd
      exact kk w1 H1 locs1 hB h1 h2 hS1)
/-- a row of ints is made -/
theorem va_newi {W0 : va_W} {k : Int32} {N : Nat} (hx : p.tables.exec = Jvm.exec) (hb : c.code = cc) (harr : (Cond.arrayClass .int).before args s = true) (hK : cK G s) (hP : va_P G.1 vwCl W0 H) (hD : va_D A W0) (hS : va_S A H0 H locs) (hA : ∀ q, H0.size ≤ q → A q) (hn : ¬ k < 0) (hN : k.toNatClampNeg = N) (hby : N * componentBytes .int ≤ 536870912) (hc : cells + 1 ≤ R.cells) (hs : slots + N ≤ R.slots) (hdg : decode cc pc = .ok (.newarray .int, 2))
    (kk : ∀ (q : Nat) (H1 : Heap), va_P G.1 vwCl (W0 ++ [(q, .inl (G.2.1, N, .inl (fun _ => 0)))]) H1 → va_D A (W0 ++ [(q, .inl (G.2.1, N, .inl (fun _ => 0)))]) → va_S A H0 H1 locs → W p l e R s m args below meth c H1 locs (cells + 1) (slots + N) Q (F0 m (pc + 2) ls (.ref q :: rest))) : W p l e R s m args below meth c H locs cells slots Q (F0 m pc ls (.int k :: rest)) := by
  refine va_newa (atype := .int) (ty := .int) hx hb harr rfl hK.1 hP hD hS hA (a0 := (N, .inl (fun _ => 0))) (fun cA => rfl) hn hN hby hc hs hdg (fun q cA H1 hK1 hP1 hD1 hS1 => ?_)
  have e1 : s.vm.findClass ("[" ++ FieldType.int.toString) = some G.2.1 := (hK.1.2 0 (G.2.1, .int) rfl).2
  have e2 : s.vm.findClass ("[" ++ FieldType.int.toString) = some cA := (hK1.2 2 (cA, .int) rfl).2
  have e3 : cA = G.2.1 := Option.some.inj (e2.symm.trans e1)
  subst e3
  exact kk q H1 hP1 hD1 hS1
end NWC
