/-! the object of GrooveTurns and the history, as blocks -/
abbrev gW (γ d t pd rq hi sl : Nat) : va_W := [(γ, .inr (4, [.ref d, .ref t, .ref pd, .ref rq, .ref hi, .ref sl]))]
def h_ol (η : HS) : Int32 := η.2.1
def h_sz (η : HS) : Int32 := η.2.2
/-- a reading contract that asks for the static tables too -/
def PRT (G : GG) (av : List Value) (w : va_W) (T : (Nat → Prop) → State → Prop) : Array Value → State → Prop := va_Pc av (fun U => va_P G.1 vwCl w U.heap ∧ cK G U ∧ T (fun _ => False) U)
theorem PRT.blind {G : GG} {av : List Value} {w : va_W} {T : (Nat → Prop) → State → Prop} (hT : FB2 T) : FrameBlind (PRT G av w T) := fun a U g mk q => by
  obtain ⟨q0, q1, q2, q3⟩ := q
  exact ⟨q0, q1, q2.call, hT _ _ _ _ _ q3⟩
/-! worlds in another order -/
theorem va_P.perm {D : va_G} {cl : List vw_C} {W W1 : va_W} {H : Heap} (h : va_P D cl W H) (hp : W.Perm W1) : va_P D cl W1 H := fun k q hk => by
  obtain ⟨i, hi⟩ := List.getElem?_of_mem (hp.mem_iff.mpr (List.mem_of_getElem? hk))
  exact h i q hi
theorem va_D_iff {A : Nat → Prop} {W : va_W} : va_D A W ↔ (W.map (·.1)).Nodup ∧ ∀ q ∈ W, A q.1 := by
  constructor
  · intro h
    refine ⟨?_, fun q hq => ?_⟩
    · refine List.pairwise_iff_getElem.mpr fun i j hi hj hij e => ?_
      have hi' : i < W.length := by simpa using hi
      have hj' : j < W.length := by simpa using hj
      rw [List.getElem_map, List.getElem_map] at e
      have := h.1 i j _ _ (List.getElem?_eq_getElem hi') (List.getElem?_eq_getElem hj') e
      omega
    · obtain ⟨i, hi⟩ := List.getElem?_of_mem hq
      exact h.2 i q hi
  · intro ⟨h1, h2⟩
    refine ⟨fun i j p q hi hj hpq => ?_, fun k q hk => h2 q (List.mem_of_getElem? hk)⟩
    have h3 := List.pairwise_iff_getElem.mp h1
    obtain ⟨hil, ei⟩ := List.getElem?_eq_some_iff.mp hi
    obtain ⟨hjl, ej⟩ := List.getElem?_eq_some_iff.mp hj
    rcases Nat.lt_trichotomy i j with h | h | h
    · refine absurd ?_ (h3 i j (by simpa using hil) (by simpa using hjl) h)
      rw [List.getElem_map, List.getElem_map, ei, ej]
      exact hpq
    · exact h
    · refine absurd ?_ (h3 j i (by simpa using hjl) (by simpa using hil) h)
      rw [List.getElem_map, List.getElem_map, ei, ej]
      exact hpq.symm
theorem va_D.perm {A : Nat → Prop} {W W1 : va_W} (h : va_D A W) (hp : W.Perm W1) : va_D A W1 := by
  rw [va_D_iff] at h ⊢
  exact ⟨(hp.map (·.1)).nodup_iff.mp h.1, fun q hq => h.2 q (hp.mem_iff.mpr hq)⟩
section RDP
variable {p : Program} {l : Launch} {e : Env} {R : Room} {s : State} {m : MethodId} {args : Array Value} {below : List Frame} {meth : Method} {c : Code} {H : Heap} {locs : List Loc} {cells slots : Nat} {Q : State → Prop}
variable {y : MethodName} {bytes cc : ByteArray} {maxL nL n index nf nl : Nat} {ret : Option FieldType} {ws : List Cond} {Ts : List Cond} {own C host : String} {b : Nat} {As rest st0 : List Value} {ls : Array Slot} {pc : Nat} {G : GG} {w w1 W0 W1 WB : va_W} {vo : Option Value} {H0 : Heap} {A : Nat → Prop}
theorem wrVP (hC : Wr G l y ws nf nl (.ref b :: As) w vo w1) (S : CallFix p m c cc nL s args Ts own) (cw : CallW R s args own C index y bytes maxL ret ws (rmm nf nl) 0 0 n) (hv : ∃ cell : Cell, H[b]? = some cell ∧ cell.vm.isStatics = false ∧ s.vm.findClass C = some cell.cls) (hK : cK G s) (hP : va_P G.1 vwCl W0 H) (hD : va_D A W0) (hS : va_S A H0 H locs) (pm : W0.Perm (w ++ WB)) (pm1 : (w1 ++ WB).Perm W1) (hfs : w1.map (·.1) = w.map (·.1))
    (hn : As.length = n) (hsz : ls.size = nL) (hst : st0 = As.reverse ++ .ref b :: rest) (hW : (rest.map fun v => v.category).sum ≤ 8) (hdg : decode cc pc = .ok (.invokevirtual index, 3)) (hf : cells ≤ R.cells ∧ slots ≤ R.slots)
    (kk : ∀ (H1 : Heap) (locs1 : List Loc), va_P G.1 vwCl W1 H1 → va_D A W1 → va_S A H0 H1 locs1 → W p l e R s m args below meth c H1 locs1 cells slots Q (F0 m (pc + 3) ls (vo.toList ++ rest))) : W p l e R s m args below meth c H locs cells slots Q (F0 m pc ls st0) :=
  wrVL hC S cw hv hK (hP.perm pm) (hD.perm pm) hS hfs hn hsz hst hW hdg hf (fun H1 locs1 hP hD hS => kk H1 locs1 (hP.perm pm1) (hD.perm pm1) hS)
end RDP
theorem fst_app {A A1 B B1 : va_W} (h : A1.map (·.1) = A.map (·.1)) (h2 : B1.map (·.1) = B.map (·.1)) : (A1 ++ B1).map (·.1) = (A ++ B).map (·.1) := by
  rw [List.map_append, List.map_append, h, h2]
theorem fst_G {γ d t pd rq hi sl d1 t1 pd1 rq1 hi1 sl1 : Nat} : (gW γ d1 t1 pd1 rq1 hi1 sl1).map (·.1) = (gW γ d t pd rq hi sl).map (·.1) := rfl
