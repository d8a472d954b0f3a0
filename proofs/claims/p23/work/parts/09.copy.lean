/-! rows of ints are copied whole: out of another row of the world, out of a static table -/
theorem vp_cell_congr {cI : ClassId} {n : Nat} {f g : NI} (h : ∀ j, j < n → f j = g j) : vp_cell cI (n, .inl f) = vp_cell cI (n, .inl g) := by
  have e : (fun j : Fin n => Value.int (f j.val)) = fun j : Fin n => Value.int (g j.val) := by
    funext j
    rw [h j.val j.isLt]
  show ({ cls := cI, slots := Array.ofFn (fun j : Fin n => Value.int (f j.val)), vm := .none } : Cell) = { cls := cI, slots := Array.ofFn (fun j : Fin n => Value.int (g j.val)), vm := .none }
  rw [e]
theorem va_P.recell {D : va_G} {cl : List vw_C} {ws : va_W} {H : Heap} {k a : Nat} {cI : ClassId} {n : Nat} {f g : NI} (hP : va_P D cl ws H) (hk : ws[k]? = some (a, .inl (cI, n, .inl f))) (h : ∀ j, j < n → f j = g j) : va_P D cl (ws.set k (a, .inl (cI, n, .inl g))) H := by
  intro i q hq
  by_cases hi : i = k
  · subst hi
    rw [List.getElem?_set_self (List.getElem?_eq_some_iff.mp hk).1] at hq
    cases hq
    show H[a]? = some (vp_cell cI (n, .inl g))
    rw [← vp_cell_congr h]
    exact hP i _ hk
  · rw [List.getElem?_set_ne (Ne.symm hi)] at hq
    exact hP i q hq
/-- a static table of ints, as far as a copy asks -/
def tb_at (t N : Nat) (f : NI) (A : Nat → Prop) (U : State) (H : Heap) : Prop := va_T .int t N (fun j => .int (f j)) A U H
section VCT
variable {p : Program} {l : Launch} {e : Env} {R : Room} {s : State} {m : MethodId} {args : Array Value} {below : List Frame} {meth : Method} {c : Code} {H : Heap} {locs : List Loc} {cells slots : Nat} {Q : State → Prop}
variable {cc : ByteArray} {pc : Nat} {ls : Array Slot} {rest : List Value} {D : va_G} {cl : List vw_C} {A : Nat → Prop} {a : Nat} {tys : List (ClassId × FieldType)} {ws : va_W}
theorem va_copyT {cc : ByteArray} (hexec : p.tables.exec = Jvm.exec) (hb : c.code = cc) (hml : c.maxLocals = ls.size) {own : String} {index : Nat} (hown : s.vm.findClass own = some m.cls) (hlink : (Cond.methodLink own index arraycopyName).before args s = true) (hnat : (Cond.native arraycopyName).before args s = true) (hstat : (Cond.static arraycopyName).before args s = true) (hini : (Cond.initialized "java/lang/System").before args s = true)
    (hK : va_K D cl tys s) (hP : va_P D cl ws H) (hD : va_D A ws) (hS : va_S A s.heap H locs) (q1 t1 : Nat) {a0 : Nat} {c1 : ClassId} {n1 N : Nat} {f g : NI} (hT0 : tb_at a0 N f A s s.heap) (ha1 : ws[q1]? = some (a, .inl (c1, n1, .inl g))) (ht1 : tys[t1]? = some (c1, .int))
    {n : Int32} (h3 : ¬ n < 0) (h4 : n.toNatClampNeg = N) (h5 : N = n1)
    (hframes : 1 ≤ R.frames) (hlocals : (rest.map fun v => v.category).sum + (nativeFrameWords "java/lang/System" "arraycopy" 5 + 11) ≤ R.locals) (hdg : decode cc pc = .ok (.invokestatic index, 3))
    (kk : ∀ (H1 : Heap) (locs1 : List Loc), va_P D cl (ws.set q1 (a, .inl (c1, n1, .inl f))) H1 → va_D A (ws.set q1 (a, .inl (c1, n1, .inl f))) → va_S A s.heap H1 locs1 → W p l e R s m args below meth c H1 locs1 cells slots Q (F0 m (pc + 3) ls rest)) : W p l e R s m args below meth c H locs cells slots Q (F0 m pc ls (.int n :: .int 0 :: .ref a :: .int 0 :: .ref a0 :: rest)) := by
  have nn : n.toInt = (n.toNatClampNeg : Int) := by
    have hz0 : (0 : Int) ≤ n.toInt := by
      have := Int32.not_lt.mp h3
      simpa using Int32.le_iff_toInt_le.mp this
    show n.toInt = ((n.toInt.toNat : Nat) : Int)
    omega
  intro T hT X
  obtain ⟨cell, g1, g2, g3, g4, g5, g6, g7⟩ := hT0
  have hc0 : H[a0]? = some cell := by rw [hS.2.1 a0 (Array.getElem?_eq_some_iff.mp g1).1 g7]; exact g1
  have hc1 : H[a]? = some (vp_cell c1 (n1, .inl g)) := hP q1 _ ha1
  obtain ⟨hst0, k0, hk0, cm0, hkk0⟩ := g2
  obtain ⟨-, k1, hk1, cm1, hkk1⟩ := (hK.2 t1 _ ht1).1 n1 (fun j => .int (g j))
  obtain ⟨vm', X', step⟩ := X.arraycopy hexec hown hlink hnat hstat hini (src := a0) (dst := a) (cs := cell) (cd := vp_cell c1 (n1, .inl g)) (srcPos := 0) (destPos := 0) (n := n) (by rw [hT]; exact hc0) (by rw [hT]; exact hc1)
    hst0 (fun _ h => by cases h) g3 (fun h => by cases h) hk0 hk1 hkk0 hkk1 rfl (by decide) (by decide) h3
    (by rw [nn, h4]; show ¬ (0 : Int) + _ > _; omega)
    (by rw [nn, h4]; show ¬ (0 : Int) + _ > ((arrV c1 n1 (fun j => .int (g j))).slots.size : Int); rw [arrV_size]; omega)
    (fun vm₁ _ i hi => by
      have e : cell.slots.getD ((0 : Int32).toNatClampNeg + i) .null = .int (f i) := by
        rw [Array.getD_eq_getD_getElem?, show (0 : Int32).toNatClampNeg + i = i from Nat.zero_add i, g6 i (by omega)]
        rfl
      refine ⟨?_, ?_⟩
      · rw [e]; rfl
      · rw [e]; exact trivial)
    (g := F0 m pc ls (.int n :: .int 0 :: .ref a :: .int 0 :: .ref a0 :: rest)) rfl (by rw [hml]) (rest := rest) rfl (by rw [hb]; exact hdg) hframes (by show 2 * 0 + _ + _ ≤ _; omega)
  have es : cell.stretch 0 N = (arrV c1 N (fun j => .int (f j))).stretch 0 N := by
    unfold Cell.stretch
    apply List.map_congr_left
    intro i hi
    have hi' := List.mem_range.mp hi
    rw [Array.getD_eq_getD_getElem?, Array.getD_eq_getD_getElem?, arrV_read _ _ (by omega), Nat.zero_add, g6 i hi']
  have e1 : copied cell (vp_cell c1 (n1, .inl g)) 0 0 n = vp_cell c1 (n1, .inl f) := by
    have e2 : copied cell (vp_cell c1 (n1, .inl g)) 0 0 n = (arrV c1 n1 (fun j => Value.int (g j))).storeRun 0 (cell.stretch 0 N) := by
      show (vp_cell c1 (n1, .inl g)).storeRun (0 : Int32).toNatClampNeg (cell.stretch (0 : Int32).toNatClampNeg n.toNatClampNeg) = _
      rw [h4]; rfl
    rw [e2, es]
    have e3 := va_copied (fun z => Value.int z) c1 c1 (n0 := N) (n1 := n1) (sp := 0) (dp := 0) (n := N) f g (by omega)
    refine e3.trans ?_
    exact vp_cell_congr (f := va_cpy f g 0 0 N) (g := f) fun j hj => by
      rw [pk_cpy_in (Nat.zero_le j) (by omega)]
      simp
  rw [e1] at X' step
  have hl : a < H.size := (Array.getElem?_eq_some_iff.mp hc1).1
  have hheap : ((T.setVm vm').setCell a (vp_cell c1 (n1, .inl f))).heap = H.setIfInBounds a (vp_cell c1 (n1, .inl f)) := by rw [← hT]; rfl
  have oq : ∀ q : Nat, q ≠ a → (H.setIfInBounds a (vp_cell c1 (n1, .inl f)))[q]? = H[q]? := fun q hq => by simp [Array.getElem?_setIfInBounds, Ne.symm hq]
  obtain ⟨t, a1, b1⟩ := kk _ _ (hP.set hD ha1 (show (H.setIfInBounds a _)[a]? = some _ by simp [Array.getElem?_setIfInBounds, hl]) oq) (hD.set ha1) ⟨by simp; exact hS.1, fun q g1 g2 => by
      rw [oq q (fun e => g2 (by rw [e]; exact hD.2 q1 _ ha1))]
      exact hS.2.1 q g1 g2, fun q hq => by
      rcases List.mem_append.mp hq with h | h
      · exact hS.2.2 q h
      · obtain ⟨z, -, hz⟩ := List.mem_map.mp h
        rw [← hz]
        exact hD.2 q1 _ ha1⟩ _ hheap X'
  exact ⟨t, step t a1, b1⟩
end VCT
set_option maxHeartbeats 4000000 in
set_option maxRecDepth 100000 in
theorem c_X4_copyRow (l : Launch) (G : GG) (q r n : Nat) (f : NI) (k : Nat) (g : NI) (hn : n < 2147483648) (he : k = n) : Wr G l yX4_copyRow wsX4_copyRow 1 60 [.ref q, .ref r] ((aW G.2.1 q n f) ++ (aW G.2.1 r k g)) none ((aW G.2.1 q n f) ++ (aW G.2.1 r k f)) := by
  subst he
  refine Met.ofW (cc := cX4_copyRow) (maxL := 2) (ret := none) (by decide) rfl ?_
  intro p e s m args below meth c s₁ B hml hv
  obtain ⟨rfl, hP, hK, hD0⟩ := hv
  have C0 : cA p s m meth c ([.ref q, .ref r] : List Value).toArray cX4_copyRow 2 none wsX4_copyRow RX4 := ⟨B.exec, B.bytes, B.returns, hml, findClass_of_methodNamed B.named, atoms_spec (ws := wsX4_copyRow) B.pre, B.notSynchronized⟩
  obtain ⟨hx, hb, hr, hml, hown, hts, hlocks⟩ := id C0
  obtain ⟨w0, hw0⟩ : ∃ w0 : va_W, w0 = ((aW G.2.1 q k f) ++ (aW G.2.1 r k g)) := ⟨_, rfl⟩
  have hD : va_D (inW w0) ((aW G.2.1 q k f) ++ (aW G.2.1 r k g)) := by rw [hw0]; exact inW.D hD0
  have hS : va_S (inW w0) s.heap s.heap [] := va_S.rf
  rw [show QW G ((aW G.2.1 q k f) ++ (aW G.2.1 r k g)) = QW G w0 from by rw [hw0], show inW ((aW G.2.1 q k f) ++ (aW G.2.1 r k g)) = inW w0 from by rw [hw0]]
  have hl := lv_entry ([.ref q, .ref r]) (n := 2) (Nat.le_of_ble_eq_true rfl)
  rw [lg_entry_eq]
  generalize (lg_sl ([.ref q, .ref r]) ++ List.replicate (2 - (lg_sl ([.ref q, .ref r])).length) Slot.unset).toArray = ls at hl ⊢
  have hl : lv_has ls 2 [(0, .ref q), (1, .ref r)] := hl
  refine lv_aload_n hx hb dX4_copyRow_0 rfl (lv_at hl 0 rfl) ?_
  refine lv_iconst (v := 0) hx hb dX4_copyRow_1 (by decide) ?_
  refine lv_aload_n hx hb dX4_copyRow_2 rfl (lv_at hl 1 rfl) ?_
  refine lv_iconst (v := 0) hx hb dX4_copyRow_3 (by decide) ?_
  refine lv_aload_n hx hb dX4_copyRow_4 rfl (lv_at hl 0 rfl) ?_
  refine va_alen (v := (nI k)) hx hb hK.1 hP 0 0 rfl rfl rfl dX4_copyRow_5 ?_
  refine lv_aload_n hx hb dX4_copyRow_6 rfl (lv_at hl 1 rfl) ?_
  refine va_alen (v := (nI k)) hx hb hK.1 hP 1 0 rfl rfl rfl dX4_copyRow_7 ?_
  refine va_mmin hx hb (by rw [hml]; exact hl.1.symm) hown (hts (.methodLink RX4 200 Lib.Math.min.name) (by decide +kernel)) (hts (.static Lib.Math.min.name) (by decide +kernel)) (hts (.initialized "java/lang/Math") (by decide +kernel)) (hts (.code Lib.Math.min.name Lib.Math.min.code 2 (some .int)) (by decide +kernel)) (Nat.le_of_ble_eq_true rfl) (Nat.le_of_ble_eq_true rfl) (Nat.zero_le _) (Nat.zero_le _) dX4_copyRow_8 ?_
  rw [ite_self]
  have hc := nI_clamp (n := k) hn
  refine va_copyi (f := f) (g := g) (n0 := k) (n1 := k) (c0 := G.2.1) (c1 := G.2.1) (ty := .int) hx hb (by rw [hml]; exact hl.1.symm) hown (hts (.methodLink RX4 205 arraycopyName) (by decide +kernel)) (hts (.native arraycopyName) (by decide +kernel)) (hts (.static arraycopyName) (by decide +kernel)) (hts (.initialized "java/lang/System") (by decide +kernel)) hK.1 hP hD hS 0 1 0 0 rfl rfl rfl rfl rfl (by decide) (by decide) (nI_pos hn) (by rw [hc]; exact Nat.le_of_eq (Nat.zero_add k)) (by rw [hc]; exact Nat.le_of_eq (Nat.zero_add k)) (fun _ _ => rfl) (Nat.le_of_ble_eq_true rfl) (Nat.le_of_ble_eq_true rfl) dX4_copyRow_11 (fun H locs hP hD hS => ?_)
  rw [hc] at hP
  have hP : va_P G.1 vwCl ((aW G.2.1 q k f) ++ (aW G.2.1 r k f)) H := va_P.recell (k := 1) hP rfl (fun j hj => by
    rw [show (0 : Int32).toNatClampNeg = 0 from rfl, pk_cpy_in (Nat.zero_le j) (by omega)]
    simp)
  exact W.vret hx hb hr (fun t ht hW => ⟨rfl, by rw [ht]; exact hP, hS.F ht⟩) hS.2.2 dX4_copyRow_14
/-- a contract of a method that reads a static table too -/
def PT (G : GG) (av : List Value) (w : va_W) (T : (Nat → Prop) → State → Heap → Prop) : Array Value → State → Prop := va_Pc av (fun U => va_P G.1 vwCl w U.heap ∧ cK G U ∧ va_D (fun _ => True) w ∧ T (inW w) U U.heap)
set_option maxHeartbeats 4000000 in
set_option maxRecDepth 100000 in
theorem c_X4_copyRowT (l : Launch) (G : GG) (t r n : Nat) (f g : NI) (hn : n < 2147483648) : Met l yX4_copyRow wsX4_copyRow (rmm 1 60) (PT G [.ref t, .ref r] (aW G.2.1 r n g) (tb_at t n f)) (QW G (aW G.2.1 r n g) (aW G.2.1 r n f) none) 0 0 (inW (aW G.2.1 r n g)) := by
  refine Met.ofW (cc := cX4_copyRow) (maxL := 2) (ret := none) (by decide) rfl ?_
  intro p e s m args below meth c s₁ B hml hv
  obtain ⟨rfl, hP, hK, hD0, hT⟩ := hv
  have C0 : cA p s m meth c ([.ref t, .ref r] : List Value).toArray cX4_copyRow 2 none wsX4_copyRow RX4 := ⟨B.exec, B.bytes, B.returns, hml, findClass_of_methodNamed B.named, atoms_spec (ws := wsX4_copyRow) B.pre, B.notSynchronized⟩
  obtain ⟨hx, hb, hr, hml, hown, hts, hlocks⟩ := id C0
  obtain ⟨w0, hw0⟩ : ∃ w0 : va_W, w0 = aW G.2.1 r n g := ⟨_, rfl⟩
  have hD : va_D (inW w0) (aW G.2.1 r n g) := by rw [hw0]; exact inW.D hD0
  have hS : va_S (inW w0) s.heap s.heap [] := va_S.rf
  rw [show QW G (aW G.2.1 r n g) = QW G w0 from by rw [hw0], show inW (aW G.2.1 r n g) = inW w0 from by rw [hw0]]
  have hT : tb_at t n f (inW w0) s s.heap := by rw [hw0]; exact hT
  have hl := lv_entry ([.ref t, .ref r]) (n := 2) (Nat.le_of_ble_eq_true rfl)
  rw [lg_entry_eq]
  generalize (lg_sl ([.ref t, .ref r]) ++ List.replicate (2 - (lg_sl ([.ref t, .ref r])).length) Slot.unset).toArray = ls at hl ⊢
  have hl : lv_has ls 2 [(0, .ref t), (1, .ref r)] := hl
  refine lv_aload_n hx hb dX4_copyRow_0 rfl (lv_at hl 0 rfl) ?_
  refine lv_iconst (v := 0) hx hb dX4_copyRow_1 (by decide) ?_
  refine lv_aload_n hx hb dX4_copyRow_2 rfl (lv_at hl 1 rfl) ?_
  refine lv_iconst (v := 0) hx hb dX4_copyRow_3 (by decide) ?_
  refine lv_aload_n hx hb dX4_copyRow_4 rfl (lv_at hl 0 rfl) ?_
  refine va_tlen (v := (nI n)) hx hb hT hS rfl dX4_copyRow_5 ?_
  refine lv_aload_n hx hb dX4_copyRow_6 rfl (lv_at hl 1 rfl) ?_
  refine va_alen (v := (nI n)) hx hb hK.1 hP 0 0 rfl rfl rfl dX4_copyRow_7 ?_
  refine va_mmin hx hb (by rw [hml]; exact hl.1.symm) hown (hts (.methodLink RX4 200 Lib.Math.min.name) (by decide +kernel)) (hts (.static Lib.Math.min.name) (by decide +kernel)) (hts (.initialized "java/lang/Math") (by decide +kernel)) (hts (.code Lib.Math.min.name Lib.Math.min.code 2 (some .int)) (by decide +kernel)) (Nat.le_of_ble_eq_true rfl) (Nat.le_of_ble_eq_true rfl) (Nat.zero_le _) (Nat.zero_le _) dX4_copyRow_8 ?_
  rw [ite_self]
  refine va_copyT (f := f) (g := g) (N := n) (n1 := n) (c1 := G.2.1) hx hb (by rw [hml]; exact hl.1.symm) hown (hts (.methodLink RX4 205 arraycopyName) (by decide +kernel)) (hts (.native arraycopyName) (by decide +kernel)) (hts (.static arraycopyName) (by decide +kernel)) (hts (.initialized "java/lang/System") (by decide +kernel)) hK.1 hP hD hS 0 0 hT rfl rfl (nI_pos hn) (nI_clamp hn) rfl (Nat.le_of_ble_eq_true rfl) (Nat.le_of_ble_eq_true rfl) dX4_copyRow_11 (fun H locs hP hD hS => ?_)
  have hP : va_P G.1 vwCl (aW G.2.1 r n f) H := hP
  exact W.vret hx hb hr (fun t ht hW => ⟨rfl, by rw [ht]; exact hP, hS.F ht⟩) hS.2.2 dX4_copyRow_14
set_option maxHeartbeats 4000000 in
set_option maxRecDepth 100000 in
/-- the static variant of at: a place of a table, 0 beside it -/
theorem c_X4_atT (l : Launch) (G : GG) (t n : Nat) (f : NI) (p1 : Int32) (hn : n < 2147483648) : Met l yX4_at wsX4_at (rmm 0 0) (PT G [.ref t, .int p1] [] (tb_at t n f)) (QR (some (.int (s_X4_at n f p1)))) 0 0 (fun _ => False) := by
  refine Met.ofW (cc := cX4_at) (maxL := 2) (ret := (some .int)) (by decide) rfl ?_
  intro p e s m args below meth c s₁ B hml hv
  obtain ⟨rfl, hP, hK, hD0, hT⟩ := hv
  have C0 : cA p s m meth c ([.ref t, .int p1] : List Value).toArray cX4_at 2 (some .int) wsX4_at RX4 := ⟨B.exec, B.bytes, B.returns, hml, findClass_of_methodNamed B.named, atoms_spec (ws := wsX4_at) B.pre, B.notSynchronized⟩
  obtain ⟨hx, hb, hr, hml, hown, hts, hlocks⟩ := id C0
  have hS : va_S (inW []) s.heap s.heap [] := va_S.rf
  have hl := lv_entry ([.ref t, .int p1]) (n := 2) (Nat.le_of_ble_eq_true rfl)
  rw [lg_entry_eq]
  generalize (lg_sl ([.ref t, .int p1]) ++ List.replicate (2 - (lg_sl ([.ref t, .int p1])).length) Slot.unset).toArray = ls at hl ⊢
  have hl : lv_has ls 2 [(0, .ref t), (1, .int p1)] := hl
  refine lv_iload_n hx hb dX4_at_0 rfl (lv_at hl 1 rfl) ?_
  refine lv_if_lt (tgt := 16) hx hb dX4_at_1 (by decide) (fun (c_1 : p1 < 0) => ?_) (fun (c_1 : ¬ p1 < 0) => ?_)
  · refine lv_iconst (v := 0) hx hb dX4_at_16 (by decide) ?_
    rw [show s_X4_at n f p1 = 0 from by rw [s_X4_at]; rw [if_pos c_1]]
    exact W.iret hx hb hr (fun t ht hW => ⟨rfl, ht⟩) (fun _ h => nomatch h) dX4_at_17
  · refine lv_iload_n hx hb dX4_at_4 rfl (lv_at hl 1 rfl) ?_
    refine lv_aload_n hx hb dX4_at_5 rfl (lv_at hl 0 rfl) ?_
    refine va_tlen (v := (nI n)) hx hb hT hS rfl dX4_at_6 ?_
    refine lv_icmp_ge (tgt := 16) hx hb dX4_at_7 (by decide) (fun (c_2 : (nI n) ≤ p1) => ?_) (fun (c_2 : ¬ (nI n) ≤ p1) => ?_)
    · refine lv_iconst (v := 0) hx hb dX4_at_16 (by decide) ?_
      rw [show s_X4_at n f p1 = 0 from by rw [s_X4_at]; rw [if_neg c_1, if_pos c_2]]
      exact W.iret hx hb hr (fun t ht hW => ⟨rfl, ht⟩) (fun _ h => nomatch h) dX4_at_17
    · refine lv_aload_n hx hb dX4_at_10 rfl (lv_at hl 0 rfl) ?_
      refine lv_iload_n hx hb dX4_at_11 rfl (lv_at hl 1 rfl) ?_
      refine va_ti (v := .int (f p1.toNatClampNeg)) hx hb hT hS (at_in c_1 c_2 hn) rfl dX4_at_12 ?_
      refine lv_goto (tgt := 17) hx hb dX4_at_13 (by decide) ?_
      rw [show s_X4_at n f p1 = (f p1.toNatClampNeg) from by rw [s_X4_at]; rw [if_neg c_1, if_neg c_2]]
      exact W.iret hx hb hr (fun t ht hW => ⟨rfl, ht⟩) (fun _ h => nomatch h) dX4_at_17
def s_X4_copyRow (_ : Nat) (f : NI) (_ : Nat) (_ : NI) : NI := f
