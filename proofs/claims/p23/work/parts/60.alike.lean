/-! areAlike -/
theorem n16 {k : Nat} (h : k < 16) : ¬ nI k = 16 := fun q => by
  have := nI_inj (a := k) (b := 16) (by omega) (by omega) q
  omega
theorem n17 {k : Nat} (h : k < 16) : ¬ nI k = 17 := fun q => by
  have := nI_inj (a := k) (b := 17) (by omega) (by omega) q
  omega
set_option maxHeartbeats 4000000 in
set_option maxRecDepth 100000 in
theorem lpA_areAlike {p : Program} {e : Env} {s : State} {m : MethodId} {below : List Frame} {meth : Method} {c : Code} {Q : State → Prop} {A9 : Nat → Prop} (l : Launch) (G : GG) (tb : Nat × Nat × Nat) {γ γ' : Nat} {x : Int32} {V : OV} {X : PS × (Nat → Option DS)} {W0 W1 : va_W} (hI : OI G γ V W0) (hI' : OI G γ' (V.1, X) W1) (hP : va_P G.1 vwCl (W0 ++ W1) s.heap) (hT : sT tb A9 s) (hK : cK G s) (C0 : cA p s m meth c ([.ref γ, .ref γ', .int x] : List Value).toArray cL_areAlike 6 (some .boolean) wsL_areAlike RL) (kend : ∀ ls : Array Slot, lv_has ls 6 [(0, .ref γ), (1, .ref γ'), (2, .int x), (3, .int 1), (4, .int (nI 16))] → W p l e (headSpec wsL_areAlike (rmN 5 160 0 0)).room s m ([.ref γ, .ref γ', .int x] : List Value).toArray below meth c s.heap [] (0) (0) Q (F0 m 58 ls [])) : ∀ (f i : Nat) (ls : Array Slot), i + f = 16 → lv_has ls 6 [(0, .ref γ), (1, .ref γ'), (2, .int x), (3, .int 1), (4, .int (nI i))] → W p l e (headSpec wsL_areAlike (rmN 5 160 0 0)).room s m ([.ref γ, .ref γ', .int x] : List Value).toArray below meth c s.heap [] (0) (0) Q (F0 m 20 ls []) := by
  obtain ⟨hx, hb, hr, hml, hown, hts, hlocks⟩ := id C0
  have hF : CallFix p m c cL_areAlike 6 s ([.ref γ, .ref γ', .int x] : List Value).toArray wsL_areAlike RL := ⟨hx, hb, hml, hown, hts⟩
  have hS : va_S A9 s.heap s.heap [] := va_S.rf
  intro f
  induction f with
  | zero =>
    intro i ls hi hl
    have hi : i = 16 := hi
    subst hi
    refine lv_iload hx hb dL_areAlike_20 (lv_at hl 4 rfl) ?_
    refine lv_bipush (v := 16) hx hb dL_areAlike_22 (by decide) ?_
    refine lv_icmp_ge (tgt := 58) hx hb dL_areAlike_24 (by decide) (fun _ => ?_) (fun h9 : ¬ ((16 : Int32) ≤ (nI 16)) => absurd (show (16 : Int32) ≤ (nI 16) from Int32.le_refl _) h9)
    exact kend ls hl
  | succ f ih =>
    intro i ls hi hl
    have hi9 : i < 16 := by omega
    refine lv_iload hx hb dL_areAlike_20 (lv_at hl 4 rfl) ?_
    refine lv_bipush (v := 16) hx hb dL_areAlike_22 (by decide) ?_
    refine lv_icmp_ge (tgt := 58) hx hb dL_areAlike_24 (by decide) (fun h9 : (16 : Int32) ≤ (nI i) => absurd h9 (show ¬ ((16 : Int32) ≤ (nI i)) from nI_ge (b := 16) hi9 (by omega))) (fun _ => ?_)
    refine lv_iload_n hx hb dL_areAlike_27 rfl (lv_at hl 3 rfl) ?_
    refine lv_if_eq (tgt := 50) hx hb dL_areAlike_28 (by decide) (fun h9 : (1 : Int32) = 0 => absurd h9 (show ¬ ((1 : Int32) = 0) from (by decide))) (fun _ => ?_)
    refine lv_aload_n hx hb dL_areAlike_31 rfl (lv_at hl 0 rfl) ?_
    refine lv_iload hx hb dL_areAlike_32 (lv_at hl 4 rfl) ?_
    refine rdTV (As := [.int (nI i)]) (rest := []) (o_count l tb hI (nI i) (n16 hi9) (n17 hi9)) hF (cwV 1 hts gL_areAlike_X4_count rfl rfl rfl (by decide +kernel) ⟨Nat.le_of_ble_eq_true rfl, Nat.le_of_ble_eq_true rfl⟩) (hI.recv hK (va_PL hP)) hK (va_PL hP) hT hS rfl hl.1 rfl (Nat.le_of_ble_eq_true rfl) dL_areAlike_34 ⟨Nat.le_of_ble_eq_true rfl, Nat.le_of_ble_eq_true rfl⟩ ?_
    refine lv_aload_n hx hb dL_areAlike_37 rfl (lv_at hl 1 rfl) ?_
    refine lv_iload hx hb dL_areAlike_38 (lv_at hl 4 rfl) ?_
    refine rdTV (As := [.int (nI i)]) (rest := [.int (vC V.1 (nI i))]) (o_count l tb hI' (nI i) (n16 hi9) (n17 hi9)) hF (cwV 1 hts gL_areAlike_X4_count rfl rfl rfl (by decide +kernel) ⟨Nat.le_of_ble_eq_true rfl, Nat.le_of_ble_eq_true rfl⟩) (hI'.recv hK (va_PR hP)) hK (va_PR hP) hT hS rfl hl.1 rfl (Nat.le_of_ble_eq_true rfl) dL_areAlike_40 ⟨Nat.le_of_ble_eq_true rfl, Nat.le_of_ble_eq_true rfl⟩ ?_
    refine lv_icmp_ne (tgt := 50) hx hb dL_areAlike_43 (by decide) (fun h9 : ¬ ((vC V.1 (nI i)) = (vC V.1 (nI i))) => absurd (show (vC V.1 (nI i)) = (vC V.1 (nI i)) from rfl) h9) (fun _ => ?_)
    refine lv_iconst (v := 1) hx hb dL_areAlike_46 (by decide) ?_
    refine lv_goto (tgt := 51) hx hb dL_areAlike_47 (by decide) ?_
    refine lv_istore_n (lv' := [(3, .int 1), (0, .ref γ), (1, .ref γ'), (2, .int x), (4, .int (nI i))]) hx hb dL_areAlike_51 rfl hl (by decide) rfl (fun ls hl => ?_)
    refine lv_iinc (v := (nI (i + 1))) (lv' := [(4, .int (nI (i + 1))), (3, .int 1), (0, .ref γ), (1, .ref γ'), (2, .int x)]) hx hb dL_areAlike_52 hl (k := 4) rfl (nI_1 i) (by decide) rfl (fun ls hl => ?_)
    refine lv_goto (tgt := 20) hx hb dL_areAlike_55 (by decide) ?_
    exact ih (i + 1) ls (by omega) (lv_sub hl [2, 3, 4, 1, 0] rfl)
set_option maxHeartbeats 4000000 in
set_option maxRecDepth 100000 in
theorem lpC_areAlike {p : Program} {e : Env} {s : State} {m : MethodId} {below : List Frame} {meth : Method} {c : Code} {Q : State → Prop} {A9 : Nat → Prop} (l : Launch) (G : GG) (tb : Nat × Nat × Nat) {γ γ' : Nat} {x : Int32} {V : OV} {X : PS × (Nat → Option DS)} {W0 W1 : va_W} (hI : OI G γ V W0) (hI' : OI G γ' (V.1, X) W1) (hP : va_P G.1 vwCl (W0 ++ W1) s.heap) (hT : sT tb A9 s) (hK : cK G s) (C0 : cA p s m meth c ([.ref γ, .ref γ', .int x] : List Value).toArray cL_areAlike 6 (some .boolean) wsL_areAlike RL) {a : Nat} (kend : ∀ ls : Array Slot, lv_has ls 6 [(0, .ref γ), (1, .ref γ'), (2, .int x), (3, .int 1), (4, .int (nI a)), (5, .int (nI 7))] → W p l e (headSpec wsL_areAlike (rmN 5 160 0 0)).room s m ([.ref γ, .ref γ', .int x] : List Value).toArray below meth c s.heap [] (0) (0) Q (F0 m 114 ls [])) : ∀ (f i : Nat) (ls : Array Slot), i + f = 7 → lv_has ls 6 [(0, .ref γ), (1, .ref γ'), (2, .int x), (3, .int 1), (4, .int (nI a)), (5, .int (nI i))] → W p l e (headSpec wsL_areAlike (rmN 5 160 0 0)).room s m ([.ref γ, .ref γ', .int x] : List Value).toArray below meth c s.heap [] (0) (0) Q (F0 m 72 ls []) := by
  obtain ⟨hx, hb, hr, hml, hown, hts, hlocks⟩ := id C0
  have hF : CallFix p m c cL_areAlike 6 s ([.ref γ, .ref γ', .int x] : List Value).toArray wsL_areAlike RL := ⟨hx, hb, hml, hown, hts⟩
  have hS : va_S A9 s.heap s.heap [] := va_S.rf
  intro f
  induction f with
  | zero =>
    intro i ls hi hl
    have hi : i = 7 := hi
    subst hi
    refine lv_iload hx hb dL_areAlike_72 (lv_at hl 5 rfl) ?_
    refine lv_bipush (v := 7) hx hb dL_areAlike_74 (by decide) ?_
    refine lv_icmp_ge (tgt := 114) hx hb dL_areAlike_76 (by decide) (fun _ => ?_) (fun h9 : ¬ ((7 : Int32) ≤ (nI 7)) => absurd (show (7 : Int32) ≤ (nI 7) from Int32.le_refl _) h9)
    exact kend ls hl
  | succ f ih =>
    intro i ls hi hl
    have hi9 : i < 7 := by omega
    refine lv_iload hx hb dL_areAlike_72 (lv_at hl 5 rfl) ?_
    refine lv_bipush (v := 7) hx hb dL_areAlike_74 (by decide) ?_
    refine lv_icmp_ge (tgt := 114) hx hb dL_areAlike_76 (by decide) (fun h9 : (7 : Int32) ≤ (nI i) => absurd h9 (show ¬ ((7 : Int32) ≤ (nI i)) from nI_ge (b := 7) hi9 (by omega))) (fun _ => ?_)
    refine lv_iload_n hx hb dL_areAlike_79 rfl (lv_at hl 3 rfl) ?_
    refine lv_if_eq (tgt := 106) hx hb dL_areAlike_80 (by decide) (fun h9 : (1 : Int32) = 0 => absurd h9 (show ¬ ((1 : Int32) = 0) from (by decide))) (fun _ => ?_)
    refine lv_aload_n hx hb dL_areAlike_83 rfl (lv_at hl 0 rfl) ?_
    refine lv_iload hx hb dL_areAlike_84 (lv_at hl 4 rfl) ?_
    refine lv_iload hx hb dL_areAlike_86 (lv_at hl 5 rfl) ?_
    refine rdV (As := [.int (nI a), .int (nI i)]) (rest := []) (o_sector l hI (nI a) (nI i)) hF (cwV 2 hts gL_areAlike_X4_sector rfl rfl rfl (by decide +kernel) ⟨Nat.le_of_ble_eq_true rfl, Nat.le_of_ble_eq_true rfl⟩) (hI.recv hK (va_PL hP)) hK (va_PL hP) rfl hl.1 rfl (Nat.le_of_ble_eq_true rfl) dL_areAlike_88 ⟨Nat.le_of_ble_eq_true rfl, Nat.le_of_ble_eq_true rfl⟩ ?_
    refine lv_aload_n hx hb dL_areAlike_91 rfl (lv_at hl 1 rfl) ?_
    refine lv_iload hx hb dL_areAlike_92 (lv_at hl 4 rfl) ?_
    refine lv_iload hx hb dL_areAlike_94 (lv_at hl 5 rfl) ?_
    refine rdV (As := [.int (nI a), .int (nI i)]) (rest := [.int (vS V.1 (nI a) (nI i))]) (o_sector l hI' (nI a) (nI i)) hF (cwV 2 hts gL_areAlike_X4_sector rfl rfl rfl (by decide +kernel) ⟨Nat.le_of_ble_eq_true rfl, Nat.le_of_ble_eq_true rfl⟩) (hI'.recv hK (va_PR hP)) hK (va_PR hP) rfl hl.1 rfl (Nat.le_of_ble_eq_true rfl) dL_areAlike_96 ⟨Nat.le_of_ble_eq_true rfl, Nat.le_of_ble_eq_true rfl⟩ ?_
    refine lv_icmp_ne (tgt := 106) hx hb dL_areAlike_99 (by decide) (fun h9 : ¬ ((vS V.1 (nI a) (nI i)) = (vS V.1 (nI a) (nI i))) => absurd (show (vS V.1 (nI a) (nI i)) = (vS V.1 (nI a) (nI i)) from rfl) h9) (fun _ => ?_)
    refine lv_iconst (v := 1) hx hb dL_areAlike_102 (by decide) ?_
    refine lv_goto (tgt := 107) hx hb dL_areAlike_103 (by decide) ?_
    refine lv_istore_n (lv' := [(3, .int 1), (0, .ref γ), (1, .ref γ'), (2, .int x), (4, .int (nI a)), (5, .int (nI i))]) hx hb dL_areAlike_107 rfl hl (by decide) rfl (fun ls hl => ?_)
    refine lv_iinc (v := (nI (i + 1))) (lv' := [(5, .int (nI (i + 1))), (3, .int 1), (0, .ref γ), (1, .ref γ'), (2, .int x), (4, .int (nI a))]) hx hb dL_areAlike_108 hl (k := 5) rfl (nI_1 i) (by decide) rfl (fun ls hl => ?_)
    refine lv_goto (tgt := 72) hx hb dL_areAlike_111 (by decide) ?_
    exact ih (i + 1) ls (by omega) (lv_sub hl [2, 3, 4, 1, 5, 0] rfl)
set_option maxHeartbeats 4000000 in
set_option maxRecDepth 100000 in
theorem lpB_areAlike {p : Program} {e : Env} {s : State} {m : MethodId} {below : List Frame} {meth : Method} {c : Code} {Q : State → Prop} {A9 : Nat → Prop} (l : Launch) (G : GG) (tb : Nat × Nat × Nat) {γ γ' : Nat} {x : Int32} {V : OV} {X : PS × (Nat → Option DS)} {W0 W1 : va_W} (hI : OI G γ V W0) (hI' : OI G γ' (V.1, X) W1) (hP : va_P G.1 vwCl (W0 ++ W1) s.heap) (hT : sT tb A9 s) (hK : cK G s) (C0 : cA p s m meth c ([.ref γ, .ref γ', .int x] : List Value).toArray cL_areAlike 6 (some .boolean) wsL_areAlike RL) (kend : ∀ ls : Array Slot, lv_has ls 6 [(0, .ref γ), (1, .ref γ'), (2, .int x), (3, .int 1), (4, .int (nI 192))] → W p l e (headSpec wsL_areAlike (rmN 5 160 0 0)).room s m ([.ref γ, .ref γ', .int x] : List Value).toArray below meth c s.heap [] (0) (0) Q (F0 m 164 ls [])) : ∀ (f i : Nat) (ls : Array Slot), i + f = 192 → lv_has ls 6 [(0, .ref γ), (1, .ref γ'), (2, .int x), (3, .int 1), (4, .int (nI i))] → W p l e (headSpec wsL_areAlike (rmN 5 160 0 0)).room s m ([.ref γ, .ref γ', .int x] : List Value).toArray below meth c s.heap [] (0) (0) Q (F0 m 61 ls []) := by
  obtain ⟨hx, hb, hr, hml, hown, hts, hlocks⟩ := id C0
  have hF : CallFix p m c cL_areAlike 6 s ([.ref γ, .ref γ', .int x] : List Value).toArray wsL_areAlike RL := ⟨hx, hb, hml, hown, hts⟩
  have hS : va_S A9 s.heap s.heap [] := va_S.rf
  intro f
  induction f with
  | zero =>
    intro i ls hi hl
    have hi : i = 192 := hi
    subst hi
    refine lv_iload hx hb dL_areAlike_61 (lv_at hl 4 rfl) ?_
    refine lv_sipush (v := 192) hx hb dL_areAlike_63 (by decide) ?_
    refine lv_icmp_ge (tgt := 164) hx hb dL_areAlike_66 (by decide) (fun _ => ?_) (fun h9 : ¬ ((192 : Int32) ≤ (nI 192)) => absurd (show (192 : Int32) ≤ (nI 192) from Int32.le_refl _) h9)
    exact kend ls hl
  | succ f ih =>
    intro i ls hi hl
    have hi9 : i < 192 := by omega
    refine lv_iload hx hb dL_areAlike_61 (lv_at hl 4 rfl) ?_
    refine lv_sipush (v := 192) hx hb dL_areAlike_63 (by decide) ?_
    refine lv_icmp_ge (tgt := 164) hx hb dL_areAlike_66 (by decide) (fun h9 : (192 : Int32) ≤ (nI i) => absurd h9 (show ¬ ((192 : Int32) ≤ (nI i)) from nI_ge (b := 192) hi9 (by omega))) (fun _ => ?_)
    refine lv_iconst (v := 0) hx hb dL_areAlike_69 (by decide) ?_
    refine lv_istore (lv' := [(5, .int 0), (0, .ref γ), (1, .ref γ'), (2, .int x), (3, .int 1), (4, .int (nI i))]) hx hb dL_areAlike_70 hl (by decide) rfl (fun ls hl => ?_)
    refine lpC_areAlike (a := i) l G tb hI hI' hP hT hK C0 (fun ls hl => ?_) 7 0 ls (by omega) (lv_sub hl [1, 2, 3, 4, 5, 0] rfl)
    refine lv_iload_n hx hb dL_areAlike_114 rfl (lv_at hl 3 rfl) ?_
    refine lv_if_eq (tgt := 156) hx hb dL_areAlike_115 (by decide) (fun h9 : (1 : Int32) = 0 => absurd h9 (show ¬ ((1 : Int32) = 0) from (by decide))) (fun _ => ?_)
    refine lv_aload_n hx hb dL_areAlike_118 rfl (lv_at hl 0 rfl) ?_
    refine lv_iload hx hb dL_areAlike_119 (lv_at hl 4 rfl) ?_
    refine lv_iconst (v := 1) hx hb dL_areAlike_121 (by decide) ?_
    refine rdV (As := [.int (nI i), .int 1]) (rest := []) (o_ticksFor l hI (nI i) 1) hF (cwV 2 hts gL_areAlike_X4_ticksFor rfl rfl rfl (by decide +kernel) ⟨Nat.le_of_ble_eq_true rfl, Nat.le_of_ble_eq_true rfl⟩) (hI.recv hK (va_PL hP)) hK (va_PL hP) rfl hl.1 rfl (Nat.le_of_ble_eq_true rfl) dL_areAlike_122 ⟨Nat.le_of_ble_eq_true rfl, Nat.le_of_ble_eq_true rfl⟩ ?_
    refine lv_aload_n hx hb dL_areAlike_125 rfl (lv_at hl 1 rfl) ?_
    refine lv_iload hx hb dL_areAlike_126 (lv_at hl 4 rfl) ?_
    refine lv_iconst (v := 1) hx hb dL_areAlike_128 (by decide) ?_
    refine rdV (As := [.int (nI i), .int 1]) (rest := [.int (vF V.1 (nI i) 1)]) (o_ticksFor l hI' (nI i) 1) hF (cwV 2 hts gL_areAlike_X4_ticksFor rfl rfl rfl (by decide +kernel) ⟨Nat.le_of_ble_eq_true rfl, Nat.le_of_ble_eq_true rfl⟩) (hI'.recv hK (va_PR hP)) hK (va_PR hP) rfl hl.1 rfl (Nat.le_of_ble_eq_true rfl) dL_areAlike_129 ⟨Nat.le_of_ble_eq_true rfl, Nat.le_of_ble_eq_true rfl⟩ ?_
    refine lv_icmp_ne (tgt := 156) hx hb dL_areAlike_132 (by decide) (fun h9 : ¬ ((vF V.1 (nI i) 1) = (vF V.1 (nI i) 1)) => absurd (show (vF V.1 (nI i) 1) = (vF V.1 (nI i) 1) from rfl) h9) (fun _ => ?_)
    refine lv_aload_n hx hb dL_areAlike_135 rfl (lv_at hl 0 rfl) ?_
    refine lv_iload hx hb dL_areAlike_136 (lv_at hl 4 rfl) ?_
    refine lv_iconst (v := 0) hx hb dL_areAlike_138 (by decide) ?_
    refine rdV (As := [.int (nI i), .int 0]) (rest := []) (o_ticksFor l hI (nI i) 0) hF (cwV 2 hts gL_areAlike_X4_ticksFor rfl rfl rfl (by decide +kernel) ⟨Nat.le_of_ble_eq_true rfl, Nat.le_of_ble_eq_true rfl⟩) (hI.recv hK (va_PL hP)) hK (va_PL hP) rfl hl.1 rfl (Nat.le_of_ble_eq_true rfl) dL_areAlike_139 ⟨Nat.le_of_ble_eq_true rfl, Nat.le_of_ble_eq_true rfl⟩ ?_
    refine lv_aload_n hx hb dL_areAlike_142 rfl (lv_at hl 1 rfl) ?_
    refine lv_iload hx hb dL_areAlike_143 (lv_at hl 4 rfl) ?_
    refine lv_iconst (v := 0) hx hb dL_areAlike_145 (by decide) ?_
    refine rdV (As := [.int (nI i), .int 0]) (rest := [.int (vF V.1 (nI i) 0)]) (o_ticksFor l hI' (nI i) 0) hF (cwV 2 hts gL_areAlike_X4_ticksFor rfl rfl rfl (by decide +kernel) ⟨Nat.le_of_ble_eq_true rfl, Nat.le_of_ble_eq_true rfl⟩) (hI'.recv hK (va_PR hP)) hK (va_PR hP) rfl hl.1 rfl (Nat.le_of_ble_eq_true rfl) dL_areAlike_146 ⟨Nat.le_of_ble_eq_true rfl, Nat.le_of_ble_eq_true rfl⟩ ?_
    refine lv_icmp_ne (tgt := 156) hx hb dL_areAlike_149 (by decide) (fun h9 : ¬ ((vF V.1 (nI i) 0) = (vF V.1 (nI i) 0)) => absurd (show (vF V.1 (nI i) 0) = (vF V.1 (nI i) 0) from rfl) h9) (fun _ => ?_)
    refine lv_iconst (v := 1) hx hb dL_areAlike_152 (by decide) ?_
    refine lv_goto (tgt := 157) hx hb dL_areAlike_153 (by decide) ?_
    refine lv_istore_n (lv' := [(3, .int 1), (0, .ref γ), (1, .ref γ'), (2, .int x), (4, .int (nI i)), (5, .int (nI 7))]) hx hb dL_areAlike_157 rfl hl (by decide) rfl (fun ls hl => ?_)
    refine lv_iinc (v := (nI (i + 1))) (lv' := [(4, .int (nI (i + 1))), (3, .int 1), (0, .ref γ), (1, .ref γ'), (2, .int x), (5, .int (nI 7))]) hx hb dL_areAlike_158 hl (k := 4) rfl (nI_1 i) (by decide) rfl (fun ls hl => ?_)
    refine lv_goto (tgt := 61) hx hb dL_areAlike_161 (by decide) ?_
    exact ih (i + 1) ls (by omega) (lv_sub hl [2, 3, 4, 1, 0] rfl)
set_option maxHeartbeats 4000000 in
set_option maxRecDepth 100000 in
theorem c_L_areAlike (l : Launch) (G : GG) (tb : Nat × Nat × Nat) {γ γ' : Nat} {x : Int32} {V : OV} {X : PS × (Nat → Option DS)} {W0 W1 : va_W} (hI : OI G γ V W0) (hI' : OI G γ' (V.1, X) W1) : Nw G l yL_areAlike wsL_areAlike 5 160 0 0 [.ref γ, .ref γ', .int x] (W0 ++ W1) (sT tb) (some (.int 1)) (fun _ => True) := by
  intro sz
  refine Met.ofW (cc := cL_areAlike) (maxL := 6) (ret := (some .boolean)) (by decide) rfl ?_
  intro p e s m args below meth c s₁ B hml hv
  obtain ⟨rfl, hsz, hP, hK, hD0, hT⟩ := hv
  have C0 : cA p s m meth c ([.ref γ, .ref γ', .int x] : List Value).toArray cL_areAlike 6 (some .boolean) wsL_areAlike RL := ⟨B.exec, B.bytes, B.returns, hml, findClass_of_methodNamed B.named, atoms_spec (ws := wsL_areAlike) B.pre, B.notSynchronized⟩
  obtain ⟨hx, hb, hr, hml, hown, hts, hlocks⟩ := id C0
  have hF : CallFix p m c cL_areAlike 6 s ([.ref γ, .ref γ', .int x] : List Value).toArray wsL_areAlike RL := ⟨hx, hb, hml, hown, hts⟩
  subst hsz
  obtain ⟨A9, hA9⟩ : ∃ A9 : Nat → Prop, A9 = va_A (W0 ++ W1) s.heap.size := ⟨_, rfl⟩
  have hD : va_D A9 (W0 ++ W1) := by rw [hA9]; exact hD0.self
  have hA : ∀ q : Nat, s.heap.size ≤ q → A9 q := fun q h => by rw [hA9]; exact Or.inr h
  have hT : sT tb A9 s := by rw [hA9]; exact hT
  have hS : va_S A9 s.heap s.heap [] := va_S.rf
  obtain ⟨Q, hQ⟩ : ∃ Q : State → Prop, Q = MQ below (QN G (W0 ++ W1) s.heap.size (some (.int 1)) (fun _ => True)) ([.ref γ, .ref γ', .int x] : List Value).toArray s 0 0 (va_A (W0 ++ W1) s.heap.size) := ⟨_, rfl⟩
  rw [← hQ]
  have hl := lv_entry ([.ref γ, .ref γ', .int x]) (n := 6) (Nat.le_of_ble_eq_true rfl)
  rw [lg_entry_eq]
  generalize (lg_sl ([.ref γ, .ref γ', .int x]) ++ List.replicate (6 - (lg_sl ([.ref γ, .ref γ', .int x])).length) Slot.unset).toArray = ls at hl ⊢
  have hl : lv_has ls 6 [(0, .ref γ), (1, .ref γ'), (2, .int x)] := hl
  refine lv_aload_n hx hb dL_areAlike_0 rfl (lv_at hl 0 rfl) ?_
  refine rdV (As := []) (rest := []) (o_worst l hI) hF (cwV 0 hts gL_areAlike_X4_worst rfl rfl rfl (by decide +kernel) ⟨Nat.le_of_ble_eq_true rfl, Nat.le_of_ble_eq_true rfl⟩) (hI.recv hK (va_PL hP)) hK (va_PL hP) rfl hl.1 rfl (Nat.le_of_ble_eq_true rfl) dL_areAlike_1 ⟨Nat.le_of_ble_eq_true rfl, Nat.le_of_ble_eq_true rfl⟩ ?_
  refine lv_aload_n hx hb dL_areAlike_4 rfl (lv_at hl 1 rfl) ?_
  refine rdV (As := []) (rest := [.int (vW V.1)]) (o_worst l hI') hF (cwV 0 hts gL_areAlike_X4_worst rfl rfl rfl (by decide +kernel) ⟨Nat.le_of_ble_eq_true rfl, Nat.le_of_ble_eq_true rfl⟩) (hI'.recv hK (va_PR hP)) hK (va_PR hP) rfl hl.1 rfl (Nat.le_of_ble_eq_true rfl) dL_areAlike_5 ⟨Nat.le_of_ble_eq_true rfl, Nat.le_of_ble_eq_true rfl⟩ ?_
  refine lv_icmp_ne (tgt := 15) hx hb dL_areAlike_8 (by decide) (fun h9 : ¬ ((vW V.1) = (vW V.1)) => absurd (show (vW V.1) = (vW V.1) from rfl) h9) (fun _ => ?_)
  refine lv_iconst (v := 1) hx hb dL_areAlike_11 (by decide) ?_
  refine lv_goto (tgt := 16) hx hb dL_areAlike_12 (by decide) ?_
  refine lv_istore_n (lv' := [(3, .int 1), (0, .ref γ), (1, .ref γ'), (2, .int x)]) hx hb dL_areAlike_16 rfl hl (by decide) rfl (fun ls hl => ?_)
  refine lv_iconst (v := 0) hx hb dL_areAlike_17 (by decide) ?_
  refine lv_istore (lv' := [(4, .int 0), (3, .int 1), (0, .ref γ), (1, .ref γ'), (2, .int x)]) hx hb dL_areAlike_18 hl (by decide) rfl (fun ls hl => ?_)
  refine lpA_areAlike l G tb hI hI' hP hT hK C0 (fun ls hl => ?_) 16 0 ls (by omega) (lv_sub hl [2, 3, 4, 1, 0] rfl)
  refine lv_iconst (v := 0) hx hb dL_areAlike_58 (by decide) ?_
  refine lv_istore (lv' := [(4, .int 0), (0, .ref γ), (1, .ref γ'), (2, .int x), (3, .int 1)]) hx hb dL_areAlike_59 hl (by decide) rfl (fun ls hl => ?_)
  refine lpB_areAlike l G tb hI hI' hP hT hK C0 (fun ls hl => ?_) 192 0 ls (by omega) (lv_sub hl [1, 2, 3, 4, 0] rfl)
  refine lv_bipush (v := 12) hx hb dL_areAlike_164 (by decide) ?_
  refine lv_iload_n hx hb dL_areAlike_166 rfl (lv_at hl 2 rfl) ?_
  refine lv_bipush (v := 6) hx hb dL_areAlike_167 (by decide) ?_
  refine rdS (As := [.int x, .int 6]) (rest := [.int 12]) (c_L_up l G x 6 (by decide)) hF (va_cwS 2 hts gL_areAlike_L_up rfl rfl rfl (by decide +kernel) ⟨Nat.le_of_ble_eq_true rfl, Nat.le_of_ble_eq_true rfl⟩) hK va_P0 rfl hl.1 rfl (Nat.le_of_ble_eq_true rfl) dL_areAlike_169 ⟨Nat.le_of_ble_eq_true rfl, Nat.le_of_ble_eq_true rfl⟩ ?_
  refine lv_imul hx hb dL_areAlike_172 ?_
  refine lv_iload_n hx hb dL_areAlike_173 rfl (lv_at hl 2 rfl) ?_
  refine lv_iconst (v := 3) hx hb dL_areAlike_174 (by decide) ?_
  refine lv_ishr hx hb dL_areAlike_175 ?_
  refine lv_iconst (v := 2) hx hb dL_areAlike_176 (by decide) ?_
  refine rdS (As := [.int (x >>> ((3 : Int32) &&& 31)), .int 2]) (rest := [.int ((12 : Int32) * (vUp x 6))]) (c_L_up l G (x >>> ((3 : Int32) &&& 31)) 2 (by decide)) hF (va_cwS 2 hts gL_areAlike_L_up rfl rfl rfl (by decide +kernel) ⟨Nat.le_of_ble_eq_true rfl, Nat.le_of_ble_eq_true rfl⟩) hK va_P0 rfl hl.1 rfl (Nat.le_of_ble_eq_true rfl) dL_areAlike_177 ⟨Nat.le_of_ble_eq_true rfl, Nat.le_of_ble_eq_true rfl⟩ ?_
  refine lv_iadd hx hb dL_areAlike_180 ?_
  refine lv_istore (lv' := [(4, .int (((12 : Int32) * (vUp x 6)) + (vUp (x >>> ((3 : Int32) &&& 31)) 2))), (0, .ref γ), (1, .ref γ'), (2, .int x), (3, .int 1)]) hx hb dL_areAlike_181 hl (by decide) rfl (fun ls hl => ?_)
  refine lv_bipush (v := 12) hx hb dL_areAlike_183 (by decide) ?_
  refine lv_iload_n hx hb dL_areAlike_185 rfl (lv_at hl 3 rfl) ?_
  refine lv_iconst (v := 5) hx hb dL_areAlike_186 (by decide) ?_
  refine lv_ishr hx hb dL_areAlike_187 ?_
  refine lv_bipush (v := 6) hx hb dL_areAlike_188 (by decide) ?_
  refine rdS (As := [.int (x >>> ((5 : Int32) &&& 31)), .int 6]) (rest := [.int 12]) (c_L_up l G (x >>> ((5 : Int32) &&& 31)) 6 (by decide)) hF (va_cwS 2 hts gL_areAlike_L_up rfl rfl rfl (by decide +kernel) ⟨Nat.le_of_ble_eq_true rfl, Nat.le_of_ble_eq_true rfl⟩) hK va_P0 rfl hl.1 rfl (Nat.le_of_ble_eq_true rfl) dL_areAlike_190 ⟨Nat.le_of_ble_eq_true rfl, Nat.le_of_ble_eq_true rfl⟩ ?_
  refine lv_imul hx hb dL_areAlike_193 ?_
  refine lv_iload_n hx hb dL_areAlike_194 rfl (lv_at hl 3 rfl) ?_
  refine lv_iconst (v := 3) hx hb dL_areAlike_195 (by decide) ?_
  refine lv_ishr hx hb dL_areAlike_196 ?_
  refine lv_iconst (v := 2) hx hb dL_areAlike_197 (by decide) ?_
  refine rdS (As := [.int (x >>> ((3 : Int32) &&& 31)), .int 2]) (rest := [.int ((12 : Int32) * (vUp (x >>> ((5 : Int32) &&& 31)) 6))]) (c_L_up l G (x >>> ((3 : Int32) &&& 31)) 2 (by decide)) hF (va_cwS 2 hts gL_areAlike_L_up rfl rfl rfl (by decide +kernel) ⟨Nat.le_of_ble_eq_true rfl, Nat.le_of_ble_eq_true rfl⟩) hK va_P0 rfl hl.1 rfl (Nat.le_of_ble_eq_true rfl) dL_areAlike_198 ⟨Nat.le_of_ble_eq_true rfl, Nat.le_of_ble_eq_true rfl⟩ ?_
  refine lv_iadd hx hb dL_areAlike_201 ?_
  refine lv_istore (lv' := [(5, .int (((12 : Int32) * (vUp (x >>> ((5 : Int32) &&& 31)) 6)) + (vUp (x >>> ((3 : Int32) &&& 31)) 2))), (4, .int (((12 : Int32) * (vUp x 6)) + (vUp (x >>> ((3 : Int32) &&& 31)) 2))), (0, .ref γ), (1, .ref γ'), (2, .int x), (3, .int 1)]) hx hb dL_areAlike_202 hl (by decide) rfl (fun ls hl => ?_)
  refine lv_iload_n hx hb dL_areAlike_204 rfl (lv_at hl 5 rfl) ?_
  refine lv_if_eq (tgt := 231) hx hb dL_areAlike_205 (by decide) (fun h9 : (1 : Int32) = 0 => absurd h9 (show ¬ ((1 : Int32) = 0) from (by decide))) (fun _ => ?_)
  refine lv_aload_n hx hb dL_areAlike_208 rfl (lv_at hl 2 rfl) ?_
  refine lv_iload hx hb dL_areAlike_209 (lv_at hl 1 rfl) ?_
  refine lv_iload hx hb dL_areAlike_211 (lv_at hl 0 rfl) ?_
  refine nwVL (As := [.int (((12 : Int32) * (vUp x 6)) + (vUp (x >>> ((3 : Int32) &&& 31)) 2)), .int (((12 : Int32) * (vUp (x >>> ((5 : Int32) &&& 31)) 6)) + (vUp (x >>> ((3 : Int32) &&& 31)) 2))]) (rest := []) (o_untilLost l tb hI (((12 : Int32) * (vUp x 6)) + (vUp (x >>> ((3 : Int32) &&& 31)) 2)) (((12 : Int32) * (vUp (x >>> ((5 : Int32) &&& 31)) 6)) + (vUp (x >>> ((3 : Int32) &&& 31)) 2))) hF (cwV 2 hts gL_areAlike_X4_untilLost rfl rfl rfl (by decide +kernel) ⟨Nat.le_of_ble_eq_true rfl, Nat.le_of_ble_eq_true rfl⟩) (hI.recv hK (va_PL hP)) hK hP hD hS hA hT rfl hl.1 rfl (Nat.le_of_ble_eq_true rfl) dL_areAlike_213 ⟨Nat.le_of_ble_eq_true rfl, Nat.le_of_ble_eq_true rfl⟩ (fun W1 H locs hI2 hP hD hS => ?_)
  refine lv_aload_n hx hb dL_areAlike_216 rfl (lv_at hl 3 rfl) ?_
  refine lv_iload hx hb dL_areAlike_217 (lv_at hl 1 rfl) ?_
  refine lv_iload hx hb dL_areAlike_219 (lv_at hl 0 rfl) ?_
  refine nwVR (As := [.int (((12 : Int32) * (vUp x 6)) + (vUp (x >>> ((3 : Int32) &&& 31)) 2)), .int (((12 : Int32) * (vUp (x >>> ((5 : Int32) &&& 31)) 6)) + (vUp (x >>> ((3 : Int32) &&& 31)) 2))]) (rest := [.int (vU V.1 (((12 : Int32) * (vUp x 6)) + (vUp (x >>> ((3 : Int32) &&& 31)) 2)) (((12 : Int32) * (vUp (x >>> ((5 : Int32) &&& 31)) 6)) + (vUp (x >>> ((3 : Int32) &&& 31)) 2)))]) (o_untilLost l tb hI' (((12 : Int32) * (vUp x 6)) + (vUp (x >>> ((3 : Int32) &&& 31)) 2)) (((12 : Int32) * (vUp (x >>> ((5 : Int32) &&& 31)) 6)) + (vUp (x >>> ((3 : Int32) &&& 31)) 2))) hF (cwV 2 hts gL_areAlike_X4_untilLost rfl rfl rfl (by decide +kernel) ⟨Nat.le_of_ble_eq_true rfl, Nat.le_of_ble_eq_true rfl⟩) (hI'.recv hK (va_PR hP)) hK hP hD hS hA hT rfl hl.1 rfl (Nat.le_of_ble_eq_true rfl) dL_areAlike_221 ⟨Nat.le_of_ble_eq_true rfl, Nat.le_of_ble_eq_true rfl⟩ (fun W3 H locs hI4 hP hD hS => ?_)
  refine lv_icmp_ne (tgt := 231) hx hb dL_areAlike_224 (by decide) (fun h9 : ¬ ((vU V.1 (((12 : Int32) * (vUp x 6)) + (vUp (x >>> ((3 : Int32) &&& 31)) 2)) (((12 : Int32) * (vUp (x >>> ((5 : Int32) &&& 31)) 6)) + (vUp (x >>> ((3 : Int32) &&& 31)) 2))) = (vU V.1 (((12 : Int32) * (vUp x 6)) + (vUp (x >>> ((3 : Int32) &&& 31)) 2)) (((12 : Int32) * (vUp (x >>> ((5 : Int32) &&& 31)) 6)) + (vUp (x >>> ((3 : Int32) &&& 31)) 2)))) => absurd (show (vU V.1 (((12 : Int32) * (vUp x 6)) + (vUp (x >>> ((3 : Int32) &&& 31)) 2)) (((12 : Int32) * (vUp (x >>> ((5 : Int32) &&& 31)) 6)) + (vUp (x >>> ((3 : Int32) &&& 31)) 2))) = (vU V.1 (((12 : Int32) * (vUp x 6)) + (vUp (x >>> ((3 : Int32) &&& 31)) 2)) (((12 : Int32) * (vUp (x >>> ((5 : Int32) &&& 31)) 6)) + (vUp (x >>> ((3 : Int32) &&& 31)) 2))) from rfl) h9) (fun _ => ?_)
  refine lv_iconst (v := 1) hx hb dL_areAlike_227 (by decide) ?_
  refine lv_goto (tgt := 232) hx hb dL_areAlike_228 (by decide) ?_
  subst hA9
  rw [hQ]
  exact W.zret (ty := .boolean) hx hb hr rfl (fun t ht hW => ⟨rfl, ⟨_, trivial, by rw [ht]; exact hP, hD⟩, hS.F ht⟩) hS.2.2 dL_areAlike_232
