/-! sums of the writings -/
def sumN (g : NI) : Nat → Int32
  | 0 => 0
  | n + 1 => sumN g n + g n
def tsum (g : NI) (t : Nat) : Int32 := sumN (fun k => g (12 * t + k)) 12
def lnd (g : NI) : Int32 := sumN (fun t => if t % 2 = 0 then tsum g t else 0) 16
def grv (g : NI) : Int32 := sumN (fun t => if t % 2 = 1 then tsum g t else 0) 16
def tot (g : NI) : Int32 := sumN (tsum g) 16 + tsum g 16
theorem sumN_congr {g h : NI} : ∀ {n : Nat}, (∀ k, k < n → g k = h k) → sumN g n = sumN h n
  | 0, _ => rfl
  | n + 1, e => by
    show sumN g n + g n = sumN h n + h n
    rw [sumN_congr (n := n) (fun k hk => e k (by omega)), e n (by omega)]
theorem sumN_inc {g h : NI} {C : Nat} {x : Int32} : ∀ {n : Nat}, C < n → h C = g C + x → (∀ k, k < n → k ≠ C → h k = g k) → sumN h n = sumN g n + x
  | 0, hC, _, _ => absurd hC (by omega)
  | n + 1, hC, e, o => by
    show sumN h n + h n = sumN g n + g n + x
    by_cases hn : C = n
    · subst hn
      rw [sumN_congr (g := h) (h := g) (fun k hk => o k (by omega) (by omega)), e, Int32.add_assoc]
    · rw [sumN_inc (n := n) (by omega) e (fun k hk => o k (by omega)), o n (by omega) (by omega), Int32.add_assoc, Int32.add_assoc, Int32.add_comm x]
theorem tsum_inc {g : NI} {C t : Nat} (h : t = C / 12) : tsum (upd g C (g C + 1)) t = tsum g t + 1 := by
  subst h
  refine sumN_inc (C := C % 12) (by omega) ?_ ?_
  · show upd g C (g C + 1) (12 * (C / 12) + C % 12) = g (12 * (C / 12) + C % 12) + 1
    rw [show 12 * (C / 12) + C % 12 = C from by omega, pk_us]
  · intro k hk hne
    exact pk_un (by omega)
theorem tsum_ne {g : NI} {C t : Nat} {x : Int32} (h : t ≠ C / 12) : tsum (upd g C x) t = tsum g t := sumN_congr (fun k hk => pk_un (by omega))
theorem lnd_inc {g : NI} {C : Nat} (hC : C < 192) : lnd (upd g C (g C + 1)) = if C / 12 % 2 = 0 then lnd g + 1 else lnd g := by
  by_cases h : C / 12 % 2 = 0
  · rw [if_pos h]
    refine sumN_inc (C := C / 12) (by omega) ?_ ?_
    · show (if C / 12 % 2 = 0 then tsum (upd g C (g C + 1)) (C / 12) else 0) = (if C / 12 % 2 = 0 then tsum g (C / 12) else 0) + 1
      rw [if_pos h, if_pos h, tsum_inc rfl]
    · intro k hk hne
      show (if k % 2 = 0 then tsum (upd g C (g C + 1)) k else 0) = (if k % 2 = 0 then tsum g k else 0)
      rw [tsum_ne hne]
  · rw [if_neg h]
    refine sumN_congr (fun k hk => ?_)
    show (if k % 2 = 0 then tsum (upd g C (g C + 1)) k else 0) = (if k % 2 = 0 then tsum g k else 0)
    by_cases h2 : k % 2 = 0
    · rw [if_pos h2, if_pos h2, tsum_ne (by omega)]
    · rw [if_neg h2, if_neg h2]
theorem grv_inc {g : NI} {C : Nat} (hC : C < 192) : grv (upd g C (g C + 1)) = if C / 12 % 2 = 0 then grv g else grv g + 1 := by
  by_cases h : C / 12 % 2 = 0
  · rw [if_pos h]
    refine sumN_congr (fun k hk => ?_)
    show (if k % 2 = 1 then tsum (upd g C (g C + 1)) k else 0) = (if k % 2 = 1 then tsum g k else 0)
    by_cases h2 : k % 2 = 1
    · rw [if_pos h2, if_pos h2, tsum_ne (by omega)]
    · rw [if_neg h2, if_neg h2]
  · rw [if_neg h]
    refine sumN_inc (C := C / 12) (by omega) ?_ ?_
    · show (if C / 12 % 2 = 1 then tsum (upd g C (g C + 1)) (C / 12) else 0) = (if C / 12 % 2 = 1 then tsum g (C / 12) else 0) + 1
      rw [if_pos (by omega), if_pos (by omega), tsum_inc rfl]
    · intro k hk hne
      show (if k % 2 = 1 then tsum (upd g C (g C + 1)) k else 0) = (if k % 2 = 1 then tsum g k else 0)
      rw [tsum_ne hne]
theorem lnd_sp {g : NI} {C : Nat} {x : Int32} (hC : 192 ≤ C) : lnd (upd g C x) = lnd g := by
  refine sumN_congr (fun k hk => ?_)
  show (if k % 2 = 0 then tsum (upd g C x) k else 0) = (if k % 2 = 0 then tsum g k else 0)
  rw [tsum_ne (by omega)]
theorem grv_sp {g : NI} {C : Nat} {x : Int32} (hC : 192 ≤ C) : grv (upd g C x) = grv g := by
  refine sumN_congr (fun k hk => ?_)
  show (if k % 2 = 1 then tsum (upd g C x) k else 0) = (if k % 2 = 1 then tsum g k else 0)
  rw [tsum_ne (by omega)]
theorem tot_inc {g : NI} {C : Nat} (hC : C < 204) : tot (upd g C (g C + 1)) = tot g + 1 := by
  unfold tot
  by_cases h : C < 192
  · rw [sumN_inc (g := tsum g) (C := C / 12) (x := 1) (by omega) (tsum_inc rfl) (fun k hk hne => tsum_ne hne), tsum_ne (by omega), Int32.add_assoc, Int32.add_assoc, Int32.add_comm 1]
  · rw [sumN_congr (g := tsum (upd g C (g C + 1))) (h := tsum g) (fun k hk => tsum_ne (by omega)), tsum_inc (by omega), Int32.add_assoc]
/-! one step of each kind -/
section STEPS
variable {σ : DS} {f : NI}
end STEPS
