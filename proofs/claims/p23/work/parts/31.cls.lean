section RBL
variable {σ : DS}
theorem sfor (σ : DS) {a : Nat} (ha : a < 192) : s_X0_sectorFor σ (nI a) = d_se σ a := at_nI ha (by omega)
theorem numI (σ : DS) {c : Nat} (hc : c < 204) : s_X0_numberIn σ (nI c) = d_nu σ c := at_nI hc (by omega)
theorem bluI (σ : DS) {c : Nat} (hc : c < 204) : s_X0_blurOf σ (nI c) = d_bl σ c := at_nI hc (by omega)
theorem wriI (σ : DS) {c : Nat} (hc : c < 204) : s_X0_writingsOf σ (nI c) = d_wr σ c := at_nI hc (by omega)
theorem setI (σ : DS) {k : Nat} (hk : k < 5) : s_X0_settingOf σ (nI k) = d_st σ k := at_nI hk (by omega)
theorem setI0 (σ : DS) : s_X0_settingOf σ 0 = d_st σ 0 := setI σ (k := 0) (by omega)
theorem setI1 (σ : DS) : s_X0_settingOf σ 1 = d_st σ 1 := setI σ (k := 1) (by omega)
theorem setI2 (σ : DS) : s_X0_settingOf σ 2 = d_st σ 2 := setI σ (k := 2) (by omega)
theorem setI3 (σ : DS) : s_X0_settingOf σ 3 = d_st σ 3 := setI σ (k := 3) (by omega)
theorem setI4 (σ : DS) : s_X0_settingOf σ 4 = d_st σ 4 := setI σ (k := 4) (by omega)
theorem clN (k : Nat) (hk : k < 2147483648) {x : Int32} (h : x = nI k) : x.toNatClampNeg = k := by rw [h]; exact nI_clamp (by omega)
theorem k0 : (0 : Int32).toNatClampNeg = 0 := clN 0 (by omega) rfl
theorem k1 : (1 : Int32).toNatClampNeg = 1 := clN 1 (by omega) rfl
theorem k2 : (2 : Int32).toNatClampNeg = 2 := clN 2 (by omega) rfl
theorem k3 : (3 : Int32).toNatClampNeg = 3 := clN 3 (by omega) rfl
theorem k4 : (4 : Int32).toNatClampNeg = 4 := clN 4 (by omega) rfl
theorem k5 : (5 : Int32).toNatClampNeg = 5 := clN 5 (by omega) rfl
theorem k6 : (6 : Int32).toNatClampNeg = 6 := clN 6 (by omega) rfl
theorem k7 : (7 : Int32).toNatClampNeg = 7 := clN 7 (by omega) rfl
theorem k8 : (8 : Int32).toNatClampNeg = 8 := clN 8 (by omega) rfl
theorem k9 : (9 : Int32).toNatClampNeg = 9 := clN 9 (by omega) rfl
theorem k10 : (10 : Int32).toNatClampNeg = 10 := clN 10 (by omega) rfl
theorem k11 : (11 : Int32).toNatClampNeg = 11 := clN 11 (by omega) rfl
theorem holN (σ : DS) {c : Nat} (hc : c < 204) : s_X0_holdsNumber σ (nI c) = if d_nu σ c = -6 then 0 else 1 := by
  unfold s_X0_holdsNumber
  rw [at_nI hc (by omega)]
end RBL
