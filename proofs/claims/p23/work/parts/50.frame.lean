/-! a contract in a larger world -/
theorem Met.conseq {l : Launch} {y : MethodName} {ws : List Cond} {rm : Room} {Pa Pb : Array Value → State → Prop} {Qa Qb : Array Value → State → Outcome → State → Prop} {mc ms : Nat} {free free' : Addr → Prop} (hM : Met l y ws rm Pa Qa mc ms free) (h1 : ∀ a s, Pb a s → Pa a s) (h2 : ∀ a s o t, Pb a s → Qa a s o t → Qb a s o t) (h3 : ∀ q, free q → free' q) : Met l y ws rm Pb Qb mc ms free' := by
  intro p e ha hc hk s m args below hf happ hP hK
  obtain ⟨n, o, w1, w2, w3, w4, L, w5, w6⟩ := hM p e ha hc hk s m args below hf happ (h1 _ _ hP) hK
  exact ⟨n, o, w1, w2, w3, h2 _ _ _ _ hP w4, L, w5, fun q hq => h3 _ (w6 q hq)⟩
def FN2 (T : (Nat → Prop) → State → Prop) : Prop := ∀ (A B : Nat → Prop) (U : State), (∀ q, B q → A q) → T A U → T B U
theorem sT.narrow {t : Nat × Nat × Nat} : FN2 (sT t) := fun A B U h hT => by
  obtain ⟨⟨h1, h2⟩, ⟨h3, h4⟩, h5, h6⟩ := hT
  exact ⟨⟨va_Z.narrow h1 h, va_T.narrow h2 h⟩, ⟨va_Z.narrow h3 h, va_T.narrow h4 h⟩, va_Z.narrow h5 h, va_T.narrow h6 h⟩
theorem nT.narrow : FN2 nT := fun _ _ _ _ _ => trivial
section FRM
variable {G : GG} {l : Launch} {y : MethodName} {ws : List Cond} {nf nl mc ms : Nat} {av : List Value} {w w1 W0 WA : va_W} {T : (Nat → Prop) → State → Prop} {v : Option Value} {B B' : va_W → Prop} {vv : Value}
theorem Nw.frame (hC : Nw G l y ws nf nl mc ms av w T v B) (hT : FN2 T) (pm : W0.Perm (WA ++ w)) (hB : ∀ w1, B w1 → ∃ W1, (WA ++ w1).Perm W1 ∧ B' W1) : Nw G l y ws nf nl mc ms av W0 T v B' := by
  intro sz
  have hsub : ∀ q, va_A w sz q → va_A W0 sz q := fun q h => by
    rcases h with ⟨k, e, h⟩ | h
    · have hm : (q, e) ∈ W0 := pm.mem_iff.mpr (List.mem_append_right _ (List.mem_of_getElem? h))
      obtain ⟨i, hi⟩ := List.getElem?_of_mem hm
      exact Or.inl ⟨i, e, hi⟩
    · exact Or.inr h
  refine Met.conseq (hC sz) (fun a U hp => ?_) (fun a s o t hp hq => ?_) hsub
  · obtain ⟨q0, q1, q2, q3, q4, q5⟩ := hp
    exact ⟨q0, q1, va_PR (q2.perm pm), q3, va_DR (q4.perm pm), hT _ _ _ hsub q5⟩
  · obtain ⟨q0, q1, q2, q3, q4, q5⟩ := hp
    obtain ⟨r0, ⟨w1, r1, r2, r3⟩, r4, r5⟩ := hq
    subst q1
    obtain ⟨W1, pm1, hB1⟩ := hB w1 r1
    obtain ⟨h1, h2⟩ := repNR (A := va_A W0 s.heap.size) (q2.perm pm) ((q4.self).perm pm) r5 hsub r2 r3
    exact ⟨r0, ⟨W1, hB1, h1.perm pm1, h2.perm pm1⟩, r4, fun q a b => r5 q a (fun z => b (hsub q z))⟩
theorem Wr.nw (hC : Wr G l y ws nf nl av w v w1) (hf : w1.map (·.1) = w.map (·.1)) : Nw G l y ws nf nl 0 0 av w T v (fun x => x = w1) := by
  intro sz
  refine Met.conseq hC (fun a U hp => ?_) (fun a s o t hp hq => ?_) (fun q h => Or.inl h)
  · obtain ⟨q0, q1, q2, q3, q4, q5⟩ := hp
    exact ⟨q0, q2, q3, q4⟩
  · obtain ⟨q0, q1, q2, q3, q4, q5⟩ := hp
    obtain ⟨r0, r1, r2, r3⟩ := hq
    subst q1
    refine ⟨r0, ⟨w1, rfl, r1, ?_⟩, r2, fun q a b => r3 q a (fun z => b (Or.inl z))⟩
    rw [va_D_iff] at q4 ⊢
    refine ⟨by rw [hf]; exact q4.1, fun q hq => ?_⟩
    have h1 : q.1 ∈ w.map (·.1) := by rw [← hf]; exact List.mem_map_of_mem hq
    obtain ⟨q', h2, h3⟩ := List.mem_map.mp h1
    obtain ⟨i, hi⟩ := List.getElem?_of_mem h2
    exact Or.inl ⟨i, q'.2, by rw [hi]; exact congrArg some (Prod.ext h3 rfl)⟩
theorem Nw.imp (hC : Nw G l y ws nf nl mc ms av w T v B) (hB : ∀ w1, B w1 → B' w1) : Nw G l y ws nf nl mc ms av w T v B' := fun sz => by
  refine Met.conseq (hC sz) (fun a U hp => hp) (fun a s o t hp hq => ?_) (fun q h => h)
  obtain ⟨r0, ⟨w1, r1, r2, r3⟩, r4⟩ := hq
  exact ⟨r0, ⟨w1, hB w1 r1, r2, r3⟩, r4⟩
theorem Rd.frame (hC : Rd G l y ws nf nl av w vv) (pm : W0.Perm (w ++ WA)) : Rd G l y ws nf nl av W0 vv :=
  Met.conseq hC (fun a U hp => ⟨hp.1, va_PL (hp.2.1.perm pm), hp.2.2⟩) (fun _ _ _ _ _ h => h) (fun _ h => h)
/-- a reading contract that asks for the static tables too -/
def RdT (G : GG) (l : Launch) (y : MethodName) (ws : List Cond) (nf nl : Nat) (av : List Value) (w : va_W) (tb : Nat × Nat × Nat) (v : Value) : Prop := Met l y ws (rmm nf nl) (PRT G av w (sT tb)) (QR (some v)) 0 0 (fun _ => False)
theorem RdT.frame {tb : Nat × Nat × Nat} (hC : RdT G l y ws nf nl av w tb vv) (pm : W0.Perm (w ++ WA)) : RdT G l y ws nf nl av W0 tb vv :=
  Met.conseq hC (fun a U hp => ⟨hp.1, va_PL (hp.2.1.perm pm), hp.2.2⟩) (fun _ _ _ _ _ h => h) (fun _ h => h)
end FRM
/-! an object of the class in any of its states: the disc, the pad, the slots' discs -/
abbrev OV : Type := DS × PS × (Nat → Option DS)
def OI (G : GG) (γ : Nat) (V : OV) (W0 : va_W) : Prop := ∃ (α β π κ η : Nat → Nat) (ς : Nat) (ρ : QS) (τ : DS) (R S : Nat → Option XD) (o n : Nat), W0 = cW G γ α β π κ η ς ρ V.2.1 V.1 τ R S o n ∧ o < 6 ∧ n ≤ 6 ∧ V.2.2 = fun k => (S k).map (·.2)
section PMQ
variable {g q p a b h r s x y t z o x' : va_W}
theorem pf1 : (g ++ (q ++ (p ++ (a ++ (b ++ (h ++ r)))))).Perm ((g ++ (q ++ (p ++ (a ++ (b ++ h))))) ++ r) := by
  haveI : DecidableEq (Nat × va_E) := fun _ _ => Classical.propDecidable _
  refine List.perm_iff_count.mpr (fun e => ?_)
  simp only [List.count_append]
  omega
theorem pf2 : (g ++ (q ++ (p ++ (a ++ (b ++ (h ++ r)))))).Perm (r ++ (g ++ (q ++ (p ++ (a ++ (b ++ h)))))) := by
  haveI : DecidableEq (Nat × va_E) := fun _ _ => Classical.propDecidable _
  refine List.perm_iff_count.mpr (fun e => ?_)
  simp only [List.count_append]
  omega
theorem pf3 : ((s ++ (x ++ y)) ++ (q ++ (p ++ (a ++ b)))).Perm (q ++ (p ++ (a ++ (b ++ (s ++ (x ++ (y ++ [])))))) ) := by
  haveI : DecidableEq (Nat × va_E) := fun _ _ => Classical.propDecidable _
  refine List.perm_iff_count.mpr (fun e => ?_)
  simp only [List.count_append, List.count_nil]
  omega
theorem pf4 : (g ++ (q ++ (p ++ (a ++ (b ++ (h ++ (s ++ (x ++ y)))))))).Perm ((g ++ s) ++ (q ++ (p ++ (a ++ (b ++ (h ++ (x ++ y))))))) := by
  haveI : DecidableEq (Nat × va_E) := fun _ _ => Classical.propDecidable _
  refine List.perm_iff_count.mpr (fun e => ?_)
  simp only [List.count_append]
  omega
theorem pf5 (hy : y.Perm (t ++ z)) : (g ++ (q ++ (p ++ (a ++ (b ++ (h ++ (s ++ (x ++ y)))))))).Perm ((q ++ (p ++ (b ++ (h ++ (x ++ z))))) ++ (g ++ (s ++ (a ++ t)))) := by
  haveI : DecidableEq (Nat × va_E) := fun _ _ => Classical.propDecidable _
  refine List.perm_iff_count.mpr (fun e => ?_)
  have h2 := List.perm_iff_count.mp hy e
  simp only [List.count_append] at h2 ⊢
  omega
theorem pf6 (hy : y.Perm (o ++ z)) (hx : (t ++ y).Perm (o ++ x')) : ((q ++ (p ++ (b ++ (h ++ (x ++ z))))) ++ (g ++ (s ++ (a ++ t)))).Perm (g ++ (q ++ (p ++ (a ++ (b ++ (h ++ (s ++ (x ++ x')))))))) := by
  haveI : DecidableEq (Nat × va_E) := fun _ _ => Classical.propDecidable _
  refine List.perm_iff_count.mpr (fun e => ?_)
  have h1 := List.perm_iff_count.mp hy e
  have h2 := List.perm_iff_count.mp hx e
  simp only [List.count_append] at h1 h2 ⊢
  omega
theorem pf7 : (g ++ (q ++ (p ++ (a ++ (b ++ (h ++ (s ++ (x ++ y)))))))).Perm ((q ++ (p ++ (b ++ (h ++ (x ++ y))))) ++ (g ++ (s ++ a))) := by
  haveI : DecidableEq (Nat × va_E) := fun _ _ => Classical.propDecidable _
  refine List.perm_iff_count.mpr (fun e => ?_)
  simp only [List.count_append]
  omega
theorem pf8 (hx : (t ++ y).Perm x') : ((q ++ (p ++ (b ++ (h ++ (x ++ y))))) ++ (g ++ (s ++ (a ++ t)))).Perm (g ++ (q ++ (p ++ (a ++ (b ++ (h ++ (s ++ (x ++ x')))))))) := by
  haveI : DecidableEq (Nat × va_E) := fun _ _ => Classical.propDecidable _
  refine List.perm_iff_count.mpr (fun e => ?_)
  have h2 := List.perm_iff_count.mp hx e
  simp only [List.count_append] at h2 ⊢
  omega
theorem pf9 (hy : y.Perm (t ++ z)) : (g ++ (q ++ (p ++ (a ++ (b ++ (h ++ (s ++ (x ++ y)))))))).Perm ((q ++ (p ++ (x ++ z))) ++ (g ++ (h ++ (s ++ (a ++ (b ++ t)))))) := by
  haveI : DecidableEq (Nat × va_E) := fun _ _ => Classical.propDecidable _
  refine List.perm_iff_count.mpr (fun e => ?_)
  have h2 := List.perm_iff_count.mp hy e
  simp only [List.count_append] at h2 ⊢
  omega
theorem pf10 (hy : y.Perm (t ++ z)) : ((q ++ (p ++ (x ++ z))) ++ (s ++ (a ++ (b ++ t)))).Perm (q ++ (p ++ (a ++ (b ++ (s ++ (x ++ (y ++ [])))))) ) := by
  haveI : DecidableEq (Nat × va_E) := fun _ _ => Classical.propDecidable _
  refine List.perm_iff_count.mpr (fun e => ?_)
  have h2 := List.perm_iff_count.mp hy e
  simp only [List.count_append, List.count_nil] at h2 ⊢
  omega
end PMQ
section OIL
variable {G : GG} {γ : Nat} {V : OV} {W0 : va_W} {s : State} {H : Heap}
theorem OI.recv (h : OI G γ V W0) (hK : cK G s) (hP : va_P G.1 vwCl W0 H) : ∃ cell : Cell, H[γ]? = some cell ∧ cell.vm.isStatics = false ∧ s.vm.findClass RX4 = some cell.cls := by
  obtain ⟨α, β, π, κ, η, ς, ρ, τ, R, S, o, n, rfl, -⟩ := h
  exact va_recv hK.1 hP (ci := 4) (q0 := 0) rfl rfl
end OIL
