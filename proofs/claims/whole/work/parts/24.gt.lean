def s_X4_freshTrial (σ : DS) (τ : DS) : DS := (s_X0_becomeLike τ σ)
set_option maxHeartbeats 4000000 in
set_option maxRecDepth 100000 in
theorem c_X4_freshTrial (l : Launch) (G : GG) (γ : Nat) (α : Nat → Nat) (β : Nat → Nat) (π : Nat → Nat) (κ : Nat → Nat) (η : Nat → Nat) (ς : Nat) (σ : DS) (τ : DS) : Wr G l yX4_freshTrial wsX4_freshTrial 3 102 [.ref γ] ((gW γ (α 0) (β 0) (π 0) (κ 0) (η 0) ς) ++ ((dW G.2.1 α σ) ++ (dW G.2.1 β τ))) (some (.ref (β 0))) ((gW γ (α 0) (β 0) (π 0) (κ 0) (η 0) ς) ++ ((dW G.2.1 α σ) ++ (dW G.2.1 β (s_X4_freshTrial σ τ)))) := by sorry
def s_X4_sector (ρ : QS) (ϖ : PS) (σ : DS) (τ : DS) (hs : HS) (p1 : Int32) (p2 : Int32) : Int32 := (if (s_X4_isAddress p1) = 0 then (-1) else (if p2 = 0 then (s_X4_trackOf (s_X0_sectorFor σ p1)) else (if p2 = 1 then (jrem (s_X0_sectorFor σ p1) 12) else (if p2 = 2 then (s_X0_numberIn σ (s_X0_sectorFor σ p1)) else (if p2 = 3 then (s_X0_blurOf σ (s_X0_sectorFor σ p1)) else (if p2 = 4 then (s_X0_writingsOf σ (s_X0_sectorFor σ p1)) else (if p2 = 5 then (if (s_X4_isSpare (s_X0_sectorFor σ p1)) = 0 then 0 else 1) else (if p2 = 6 then (if (s_X0_isReadable σ (s_X0_sectorFor σ p1)) = 0 then 0 else 1) else (-2)))))))))
set_option maxHeartbeats 4000000 in
set_option maxRecDepth 100000 in
theorem c_X4_sector (l : Launch) (G : GG) (γ : Nat) (κ : Nat → Nat) (π : Nat → Nat) (α : Nat → Nat) (β : Nat → Nat) (η : Nat → Nat) (ς : Nat) (ρ : QS) (ϖ : PS) (σ : DS) (τ : DS) (hs : HS) (p1 : Int32) (p2 : Int32) : Rd G l yX4_sector wsX4_sector 3 63 [.ref γ, .int p1, .int p2] ((gW γ (α 0) (β 0) (π 0) (κ 0) (η 0) ς) ++ ((qW G.2.1 κ ρ) ++ ((pW G.2.1 π ϖ) ++ ((dW G.2.1 α σ) ++ ((dW G.2.1 β τ) ++ (hW G.2.2 η hs)))))) (.int (s_X4_sector ρ ϖ σ τ hs p1 p2)) := by sorry
def s_X4_track (ρ : QS) (ϖ : PS) (σ : DS) (τ : DS) (hs : HS) (p1 : Int32) (p2 : Int32) : Int32 := (if (s_X4_isTrack p1) = 0 then (-1) else (if p2 = 0 then (s_X0_filledOn σ p1 p1) else (if p2 = 1 then (s_X0_unreadableOn σ p1 p1) else (if p2 = 2 then (s_X0_blurOnTrack σ p1) else (if p2 = 3 then (s_X0_writingsOnTrack σ p1) else (-2))))))
def ok_X4_track (ρ : QS) (ϖ : PS) (σ : DS) (τ : DS) (hs : HS) (p1 : Int32) (p2 : Int32) : Prop := ((s_X4_isTrack p1) = 0 → True) ∧ (¬ (s_X4_isTrack p1) = 0 → ((p2 = 0 → (ok_X0_filledOn σ p1 p1)) ∧ (¬ p2 = 0 → ((p2 = 1 → (ok_X0_unreadableOn σ p1 p1)) ∧ (¬ p2 = 1 → ((p2 = 2 → (ok_X0_blurOnTrack σ p1)) ∧ (¬ p2 = 2 → ((p2 = 3 → (ok_X0_writingsOnTrack σ p1)) ∧ (¬ p2 = 3 → True)))))))))
set_option maxHeartbeats 4000000 in
set_option maxRecDepth 100000 in
theorem c_X4_track (l : Launch) (G : GG) (γ : Nat) (κ : Nat → Nat) (π : Nat → Nat) (α : Nat → Nat) (β : Nat → Nat) (η : Nat → Nat) (ς : Nat) (ρ : QS) (ϖ : PS) (σ : DS) (τ : DS) (hs : HS) (p1 : Int32) (p2 : Int32) (hok : ok_X4_track ρ ϖ σ τ hs p1 p2) : Rd G l yX4_track wsX4_track 4 88 [.ref γ, .int p1, .int p2] ((gW γ (α 0) (β 0) (π 0) (κ 0) (η 0) ς) ++ ((qW G.2.1 κ ρ) ++ ((pW G.2.1 π ϖ) ++ ((dW G.2.1 α σ) ++ ((dW G.2.1 β τ) ++ (hW G.2.2 η hs)))))) (.int (s_X4_track ρ ϖ σ τ hs p1 p2)) := by sorry
def s_X4_count (ρ : QS) (ϖ : PS) (σ : DS) (τ : DS) (hs : HS) (p1 : Int32) : Int32 := (if p1 < 0 then (if p1 = 5 then (d_tk σ) else (if p1 = 6 then (d_hd σ) else (if p1 = 7 then (s_X0_sectorUnderHead σ) else (if p1 = 8 then (s_X0_sparesLeft σ) else (if p1 = 9 then (s_X0_filledOn σ 0 16) else (if p1 = 10 then (s_X0_unreadableOn σ 0 16) else (if p1 = 11 then ((s_X0_writingsOnTracks σ 0 1) + (s_X0_writingsOnTrack σ 16)) else (if p1 = 12 then (d_rd σ) else (if p1 = 13 then (s_X0_writingsOnTracks σ 0 2) else (if p1 = 14 then (s_X0_writingsOnTracks σ 1 2) else (if p1 = 15 then (s_X0_greatestBlur σ) else (if p1 = 16 then (p_le ϖ) else (if p1 = 17 then (h_sz hs) else (-2)))))))))))))) else (if 5 ≤ p1 then (if p1 = 5 then (d_tk σ) else (if p1 = 6 then (d_hd σ) else (if p1 = 7 then (s_X0_sectorUnderHead σ) else (if p1 = 8 then (s_X0_sparesLeft σ) else (if p1 = 9 then (s_X0_filledOn σ 0 16) else (if p1 = 10 then (s_X0_unreadableOn σ 0 16) else (if p1 = 11 then ((s_X0_writingsOnTracks σ 0 1) + (s_X0_writingsOnTrack σ 16)) else (if p1 = 12 then (d_rd σ) else (if p1 = 13 then (s_X0_writingsOnTracks σ 0 2) else (if p1 = 14 then (s_X0_writingsOnTracks σ 1 2) else (if p1 = 15 then (s_X0_greatestBlur σ) else (if p1 = 16 then (p_le ϖ) else (if p1 = 17 then (h_sz hs) else (-2)))))))))))))) else (s_X0_settingOf σ p1)))
def ok_X4_count (ρ : QS) (ϖ : PS) (σ : DS) (τ : DS) (hs : HS) (p1 : Int32) : Prop := (p1 < 0 → ((p1 = 5 → True) ∧ (¬ p1 = 5 → ((p1 = 6 → True) ∧ (¬ p1 = 6 → ((p1 = 7 → True) ∧ (¬ p1 = 7 → ((p1 = 8 → True) ∧ (¬ p1 = 8 → ((p1 = 9 → (ok_X0_filledOn σ 0 16)) ∧ (¬ p1 = 9 → ((p1 = 10 → (ok_X0_unreadableOn σ 0 16)) ∧ (¬ p1 = 10 → ((p1 = 11 → ((ok_X0_writingsOnTracks σ 0 1) ∧ (ok_X0_writingsOnTrack σ 16))) ∧ (¬ p1 = 11 → ((p1 = 12 → True) ∧ (¬ p1 = 12 → ((p1 = 13 → (ok_X0_writingsOnTracks σ 0 2)) ∧ (¬ p1 = 13 → ((p1 = 14 → (ok_X0_writingsOnTracks σ 1 2)) ∧ (¬ p1 = 14 → ((p1 = 15 → (ok_X0_greatestBlur σ)) ∧ (¬ p1 = 15 → True))))))))))))))))))))))) ∧ (¬ p1 < 0 → ((5 ≤ p1 → ((p1 = 5 → True) ∧ (¬ p1 = 5 → ((p1 = 6 → True) ∧ (¬ p1 = 6 → ((p1 = 7 → True) ∧ (¬ p1 = 7 → ((p1 = 8 → True) ∧ (¬ p1 = 8 → ((p1 = 9 → (ok_X0_filledOn σ 0 16)) ∧ (¬ p1 = 9 → ((p1 = 10 → (ok_X0_unreadableOn σ 0 16)) ∧ (¬ p1 = 10 → ((p1 = 11 → ((ok_X0_writingsOnTracks σ 0 1) ∧ (ok_X0_writingsOnTrack σ 16))) ∧ (¬ p1 = 11 → ((p1 = 12 → True) ∧ (¬ p1 = 12 → ((p1 = 13 → (ok_X0_writingsOnTracks σ 0 2)) ∧ (¬ p1 = 13 → ((p1 = 14 → (ok_X0_writingsOnTracks σ 1 2)) ∧ (¬ p1 = 14 → ((p1 = 15 → (ok_X0_greatestBlur σ)) ∧ (¬ p1 = 15 → True))))))))))))))))))))))) ∧ (¬ 5 ≤ p1 → True)))
set_option maxHeartbeats 4000000 in
set_option maxRecDepth 100000 in
theorem c_X4_count (l : Launch) (G : GG) (γ : Nat) (κ : Nat → Nat) (π : Nat → Nat) (α : Nat → Nat) (β : Nat → Nat) (η : Nat → Nat) (ς : Nat) (ρ : QS) (ϖ : PS) (σ : DS) (τ : DS) (hs : HS) (p1 : Int32) (tb : Nat × Nat × Nat) (hok : ok_X4_count ρ ϖ σ τ hs p1) : Met l yX4_count wsX4_count (rmm 4 89) (PRT G [.ref γ, .int p1] ((gW γ (α 0) (β 0) (π 0) (κ 0) (η 0) ς) ++ ((qW G.2.1 κ ρ) ++ ((pW G.2.1 π ϖ) ++ ((dW G.2.1 α σ) ++ ((dW G.2.1 β τ) ++ (hW G.2.2 η hs)))))) (sT tb)) (QR (some (.int (s_X4_count ρ ϖ σ τ hs p1)))) 0 0 (fun _ => False) := by sorry
def s_X4_ticksFor (ρ : QS) (ϖ : PS) (σ : DS) (τ : DS) (hs : HS) (p1 : Int32) (p2 : Int32) : Int32 := (if (s_X4_isAddress p1) = 0 then (-1) else (if p2 = 0 then (s_X0_ticksTo σ (s_X0_sectorFor σ p1)) else (s_X0_ticksTo σ (s_X0_sectorToWrite σ p1))))
set_option maxHeartbeats 4000000 in
set_option maxRecDepth 100000 in
theorem c_X4_ticksFor (l : Launch) (G : GG) (γ : Nat) (κ : Nat → Nat) (π : Nat → Nat) (α : Nat → Nat) (β : Nat → Nat) (η : Nat → Nat) (ς : Nat) (ρ : QS) (ϖ : PS) (σ : DS) (τ : DS) (hs : HS) (p1 : Int32) (p2 : Int32) : Rd G l yX4_ticksFor wsX4_ticksFor 4 86 [.ref γ, .int p1, .int p2] ((gW γ (α 0) (β 0) (π 0) (κ 0) (η 0) ς) ++ ((qW G.2.1 κ ρ) ++ ((pW G.2.1 π ϖ) ++ ((dW G.2.1 α σ) ++ ((dW G.2.1 β τ) ++ (hW G.2.2 η hs)))))) (.int (s_X4_ticksFor ρ ϖ σ τ hs p1 p2)) := by sorry
def L1_X4_worst (ρ : QS) (ϖ : PS) (σ : DS) (τ : DS) (hs : HS) : Nat → Int32 → Int32 → Int32 → Int32
  | 0, v1_1, v1_2, v1_3 => 0
  | n + 1, v1_1, v1_2, v1_3 => (if 192 ≤ v1_3 then v1_1 else (if (s_X0_isReadable σ (s_X0_sectorFor σ v1_3)) = 0 then (L1_X4_worst ρ ϖ σ τ hs n v1_1 v1_2 (v1_3 + 1)) else (if (s_X0_blurOf σ (s_X0_sectorFor σ v1_3)) ≤ v1_2 then (L1_X4_worst ρ ϖ σ τ hs n v1_1 v1_2 (v1_3 + 1)) else (L1_X4_worst ρ ϖ σ τ hs n v1_3 (s_X0_blurOf σ (s_X0_sectorFor σ v1_3)) (v1_3 + 1)))))
def okL1_X4_worst (ρ : QS) (ϖ : PS) (σ : DS) (τ : DS) (hs : HS) : Nat → Int32 → Int32 → Int32 → Prop
  | 0, _, _, _ => False
  | n + 1, v1_1, v1_2, v1_3 => (192 ≤ v1_3 → True) ∧ (¬ 192 ≤ v1_3 → (((s_X0_isReadable σ (s_X0_sectorFor σ v1_3)) = 0 → (okL1_X4_worst ρ ϖ σ τ hs n v1_1 v1_2 (v1_3 + 1))) ∧ (¬ (s_X0_isReadable σ (s_X0_sectorFor σ v1_3)) = 0 → (((s_X0_blurOf σ (s_X0_sectorFor σ v1_3)) ≤ v1_2 → (okL1_X4_worst ρ ϖ σ τ hs n v1_1 v1_2 (v1_3 + 1))) ∧ (¬ (s_X0_blurOf σ (s_X0_sectorFor σ v1_3)) ≤ v1_2 → (okL1_X4_worst ρ ϖ σ τ hs n v1_3 (s_X0_blurOf σ (s_X0_sectorFor σ v1_3)) (v1_3 + 1)))))))
def s_X4_worst (ρ : QS) (ϖ : PS) (σ : DS) (τ : DS) (hs : HS) : Int32 := (L1_X4_worst ρ ϖ σ τ hs FU (-6) (-1) 0)
def ok_X4_worst (ρ : QS) (ϖ : PS) (σ : DS) (τ : DS) (hs : HS) : Prop := okL1_X4_worst ρ ϖ σ τ hs FU (-6) (-1) 0
set_option maxHeartbeats 4000000 in
set_option maxRecDepth 100000 in
theorem wL1_X4_worst {p : Program} {e : Env} {s : State} {m : MethodId} {args : Array Value} {below : List Frame} {meth : Method} {c : Code} (l : Launch) (G : GG) (γ : Nat) (κ : Nat → Nat) (π : Nat → Nat) (α : Nat → Nat) (β : Nat → Nat) (η : Nat → Nat) (ς : Nat) (ρ : QS) (ϖ : PS) (σ : DS) (τ : DS) (hs : HS) (hP : va_P G.1 vwCl ((gW γ (α 0) (β 0) (π 0) (κ 0) (η 0) ς) ++ ((qW G.2.1 κ ρ) ++ ((pW G.2.1 π ϖ) ++ ((dW G.2.1 α σ) ++ ((dW G.2.1 β τ) ++ (hW G.2.2 η hs)))))) s.heap) (C0 : cA p s m meth c args cX4_worst 5 (some .int) wsX4_worst RX4) (hK : cK G s) : ∀ (n : Nat) (v1_1 : Int32) (v1_2 : Int32) (v1_3 : Int32)  (hok : okL1_X4_worst ρ ϖ σ τ hs n v1_1 v1_2 v1_3) (ls : Array Slot), lv_has ls 5 [(0, .ref γ), (1, .int v1_1), (2, .int v1_2), (3, .int v1_3)] → W p l e (rmm 3 63) s m args below meth c s.heap [] 0 0 (MQ below (QR (some (.int (L1_X4_worst ρ ϖ σ τ hs n v1_1 v1_2 v1_3)))) args s 0 0 (fun _ => False)) (F0 m 7 ls []) := by sorry
set_option maxHeartbeats 4000000 in
set_option maxRecDepth 100000 in
theorem c_X4_worst (l : Launch) (G : GG) (γ : Nat) (κ : Nat → Nat) (π : Nat → Nat) (α : Nat → Nat) (β : Nat → Nat) (η : Nat → Nat) (ς : Nat) (ρ : QS) (ϖ : PS) (σ : DS) (τ : DS) (hs : HS) (hok : ok_X4_worst ρ ϖ σ τ hs) : Rd G l yX4_worst wsX4_worst 3 63 [.ref γ] ((gW γ (α 0) (β 0) (π 0) (κ 0) (η 0) ς) ++ ((qW G.2.1 κ ρ) ++ ((pW G.2.1 π ϖ) ++ ((dW G.2.1 α σ) ++ ((dW G.2.1 β τ) ++ (hW G.2.2 η hs)))))) (.int (s_X4_worst ρ ϖ σ τ hs)) := by sorry
def s_X4_put (ρ : QS) (ϖ : PS) (σ : DS) (τ : DS) (hs : HS) (p1 : Int64) : Int32 × PS := (if 1 ≤ (s_X4_signsIn p1) then (if ((p_le ϖ) + (s_X4_signsIn p1)) ≤ 60 then ((p_le (s_X2_append ϖ p1 (s_X4_signsIn p1))), (s_X2_append ϖ p1 (s_X4_signsIn p1))) else ((-4), ϖ)) else ((-2), ϖ))
def ok_X4_put (ρ : QS) (ϖ : PS) (σ : DS) (τ : DS) (hs : HS) (p1 : Int64) : Prop := (ok_X4_signsIn p1) ∧ ((1 ≤ (s_X4_signsIn p1) → ((((p_le ϖ) + (s_X4_signsIn p1)) ≤ 60 → (ok_X2_append ϖ p1 (s_X4_signsIn p1))) ∧ (¬ ((p_le ϖ) + (s_X4_signsIn p1)) ≤ 60 → True))) ∧ (¬ 1 ≤ (s_X4_signsIn p1) → True))
set_option maxHeartbeats 4000000 in
set_option maxRecDepth 100000 in
theorem c_X4_put (l : Launch) (G : GG) (γ : Nat) (κ : Nat → Nat) (π : Nat → Nat) (α : Nat → Nat) (β : Nat → Nat) (η : Nat → Nat) (ς : Nat) (ρ : QS) (ϖ : PS) (σ : DS) (τ : DS) (hs : HS) (p1 : Int64) (hok : ok_X4_put ρ ϖ σ τ hs p1) : Wr G l yX4_put wsX4_put 2 46 [.ref γ, .long p1] ((gW γ (α 0) (β 0) (π 0) (κ 0) (η 0) ς) ++ ((qW G.2.1 κ ρ) ++ ((pW G.2.1 π ϖ) ++ ((dW G.2.1 α σ) ++ ((dW G.2.1 β τ) ++ (hW G.2.2 η hs)))))) (some (.int (s_X4_put ρ ϖ σ τ hs p1).1)) ((gW γ (α 0) (β 0) (π 0) (κ 0) (η 0) ς) ++ ((qW G.2.1 κ ρ) ++ ((pW G.2.1 π ((s_X4_put ρ ϖ σ τ hs p1).2)) ++ ((dW G.2.1 α σ) ++ ((dW G.2.1 β τ) ++ (hW G.2.2 η hs)))))) := by sorry
def s_X4_wipe (ρ : QS) (ϖ : PS) (σ : DS) (τ : DS) (hs : HS) : Int32 × PS := ((p_le ϖ), (s_X2_clear ϖ))
set_option maxHeartbeats 4000000 in
set_option maxRecDepth 100000 in
theorem c_X4_wipe (l : Launch) (G : GG) (γ : Nat) (κ : Nat → Nat) (π : Nat → Nat) (α : Nat → Nat) (β : Nat → Nat) (η : Nat → Nat) (ς : Nat) (ρ : QS) (ϖ : PS) (σ : DS) (τ : DS) (hs : HS) : Wr G l yX4_wipe wsX4_wipe 1 20 [.ref γ] ((gW γ (α 0) (β 0) (π 0) (κ 0) (η 0) ς) ++ ((qW G.2.1 κ ρ) ++ ((pW G.2.1 π ϖ) ++ ((dW G.2.1 α σ) ++ ((dW G.2.1 β τ) ++ (hW G.2.2 η hs)))))) (some (.int (s_X4_wipe ρ ϖ σ τ hs).1)) ((gW γ (α 0) (β 0) (π 0) (κ 0) (η 0) ς) ++ ((qW G.2.1 κ ρ) ++ ((pW G.2.1 π ((s_X4_wipe ρ ϖ σ τ hs).2)) ++ ((dW G.2.1 α σ) ++ ((dW G.2.1 β τ) ++ (hW G.2.2 η hs)))))) := by sorry
def s_X4_fault (ρ : QS) (ϖ : PS) (σ : DS) (τ : DS) (hs : HS) : Int32 × QS := (((s_X3_parse ρ ϖ).1), ((s_X3_parse ρ ϖ).2))
def ok_X4_fault (ρ : QS) (ϖ : PS) (σ : DS) (τ : DS) (hs : HS) : Prop := ok_X3_parse ρ ϖ
set_option maxHeartbeats 4000000 in
set_option maxRecDepth 100000 in
theorem c_X4_fault (l : Launch) (G : GG) (γ : Nat) (κ : Nat → Nat) (π : Nat → Nat) (α : Nat → Nat) (β : Nat → Nat) (η : Nat → Nat) (ς : Nat) (ρ : QS) (ϖ : PS) (σ : DS) (τ : DS) (hs : HS) (hok : ok_X4_fault ρ ϖ σ τ hs) : Wr G l yX4_fault wsX4_fault 5 106 [.ref γ] ((gW γ (α 0) (β 0) (π 0) (κ 0) (η 0) ς) ++ ((qW G.2.1 κ ρ) ++ ((pW G.2.1 π ϖ) ++ ((dW G.2.1 α σ) ++ ((dW G.2.1 β τ) ++ (hW G.2.2 η hs)))))) (some (.int (s_X4_fault ρ ϖ σ τ hs).1)) ((gW γ (α 0) (β 0) (π 0) (κ 0) (η 0) ς) ++ ((qW G.2.1 κ ((s_X4_fault ρ ϖ σ τ hs).2)) ++ ((pW G.2.1 π ϖ) ++ ((dW G.2.1 α σ) ++ ((dW G.2.1 β τ) ++ (hW G.2.2 η hs)))))) := by sorry
def t1_X4_ifRun (ρ : QS) (ϖ : PS) (σ : DS) (τ : DS) (hs : HS) (p1 : Int32) : QS := (((s_X3_doOn ((s_X3_parse ρ ϖ).2) (s_X4_freshTrial σ τ) p1).2).1)
def t2_X4_ifRun (ρ : QS) (ϖ : PS) (σ : DS) (τ : DS) (hs : HS) (p1 : Int32) : DS := (((s_X3_doOn ((s_X3_parse ρ ϖ).2) (s_X4_freshTrial σ τ) p1).2).2)
def s_X4_ifRun (ρ : QS) (ϖ : PS) (σ : DS) (τ : DS) (hs : HS) (p1 : Int32) : Int32 × QS × DS := (if ((s_X3_parse ρ ϖ).1) = (-6) then (((d_tk (t2_X4_ifRun ρ ϖ σ τ hs p1)) - (d_tk σ)), ((t1_X4_ifRun ρ ϖ σ τ hs p1), (t2_X4_ifRun ρ ϖ σ τ hs p1))) else ((-3), (((s_X3_parse ρ ϖ).2), τ)))
def ok_X4_ifRun (ρ : QS) (ϖ : PS) (σ : DS) (τ : DS) (hs : HS) (p1 : Int32) : Prop := (ok_X3_parse ρ ϖ) ∧ ((((s_X3_parse ρ ϖ).1) = (-6) → (ok_X3_doOn ((s_X3_parse ρ ϖ).2) (s_X4_freshTrial σ τ) p1)) ∧ (¬ ((s_X3_parse ρ ϖ).1) = (-6) → True))
set_option maxHeartbeats 4000000 in
set_option maxRecDepth 100000 in
theorem c_X4_ifRun (l : Launch) (G : GG) (γ : Nat) (κ : Nat → Nat) (π : Nat → Nat) (α : Nat → Nat) (β : Nat → Nat) (η : Nat → Nat) (ς : Nat) (ρ : QS) (ϖ : PS) (σ : DS) (τ : DS) (hs : HS) (p1 : Int32) (hok : ok_X4_ifRun ρ ϖ σ τ hs p1) : Wr G l yX4_ifRun wsX4_ifRun 7 160 [.ref γ, .int p1] ((gW γ (α 0) (β 0) (π 0) (κ 0) (η 0) ς) ++ ((qW G.2.1 κ ρ) ++ ((pW G.2.1 π ϖ) ++ ((dW G.2.1 α σ) ++ ((dW G.2.1 β τ) ++ (hW G.2.2 η hs)))))) (some (.int (s_X4_ifRun ρ ϖ σ τ hs p1).1)) ((gW γ (α 0) (β 0) (π 0) (κ 0) (η 0) ς) ++ ((qW G.2.1 κ ((s_X4_ifRun ρ ϖ σ τ hs p1).2.1)) ++ ((pW G.2.1 π ϖ) ++ ((dW G.2.1 α σ) ++ ((dW G.2.1 β ((s_X4_ifRun ρ ϖ σ τ hs p1).2.2)) ++ (hW G.2.2 η hs)))))) := by sorry
def L1_X4_untilLost (ρ : QS) (ϖ : PS) (σ : DS) (τ : DS) (hs : HS) (p1 : Int32) (p2 : Int32) : Nat → Int32 → DS → Int32 × DS
  | 0, v1_5, τ1_4 => (0, τ1_4)
  | n + 1, v1_5, τ1_4 => (if 500 < v1_5 then ((-6), τ1_4) else (if (s_X0_isReadable (s_X0_fill τ1_4 (s_X0_sectorToWrite τ1_4 p1) p1 0) (s_X0_sectorFor σ p2)) = 0 then (v1_5, (s_X0_fill τ1_4 (s_X0_sectorToWrite τ1_4 p1) p1 0)) else (L1_X4_untilLost ρ ϖ σ τ hs p1 p2 n (v1_5 + 1) (s_X0_fill τ1_4 (s_X0_sectorToWrite τ1_4 p1) p1 0))))
def okL1_X4_untilLost (ρ : QS) (ϖ : PS) (σ : DS) (τ : DS) (hs : HS) (p1 : Int32) (p2 : Int32) : Nat → Int32 → DS → Prop
  | 0, _, _ => False
  | n + 1, v1_5, τ1_4 => (500 < v1_5 → True) ∧ (¬ 500 < v1_5 → (((s_X0_isReadable (s_X0_fill τ1_4 (s_X0_sectorToWrite τ1_4 p1) p1 0) (s_X0_sectorFor σ p2)) = 0 → True) ∧ (¬ (s_X0_isReadable (s_X0_fill τ1_4 (s_X0_sectorToWrite τ1_4 p1) p1 0) (s_X0_sectorFor σ p2)) = 0 → (okL1_X4_untilLost ρ ϖ σ τ hs p1 p2 n (v1_5 + 1) (s_X0_fill τ1_4 (s_X0_sectorToWrite τ1_4 p1) p1 0)))))
def s_X4_untilLost (ρ : QS) (ϖ : PS) (σ : DS) (τ : DS) (hs : HS) (p1 : Int32) (p2 : Int32) : Int32 × DS := (if (s_X4_isAddress p1) = 0 then ((-1), τ) else (if (s_X4_isAddress p2) = 0 then ((-1), τ) else (if p1 = p2 then ((-2), τ) else (if (s_X0_isReadable σ (s_X0_sectorFor σ p2)) = 0 then ((-5), τ) else (L1_X4_untilLost ρ ϖ σ τ hs p1 p2 FU 1 (s_X4_freshTrial σ τ))))))
def ok_X4_untilLost (ρ : QS) (ϖ : PS) (σ : DS) (τ : DS) (hs : HS) (p1 : Int32) (p2 : Int32) : Prop := ((s_X4_isAddress p1) = 0 → True) ∧ (¬ (s_X4_isAddress p1) = 0 → (((s_X4_isAddress p2) = 0 → True) ∧ (¬ (s_X4_isAddress p2) = 0 → ((p1 = p2 → True) ∧ (¬ p1 = p2 → (((s_X0_isReadable σ (s_X0_sectorFor σ p2)) = 0 → True) ∧ (¬ (s_X0_isReadable σ (s_X0_sectorFor σ p2)) = 0 → (okL1_X4_untilLost ρ ϖ σ τ hs p1 p2 FU 1 (s_X4_freshTrial σ τ)))))))))
set_option maxHeartbeats 4000000 in
set_option maxRecDepth 100000 in
theorem wL1_X4_untilLost {p : Program} {e : Env} {s : State} {m : MethodId} {args : Array Value} {below : List Frame} {meth : Method} {c : Code} {w0 : va_W} (l : Launch) (G : GG) (γ : Nat) (κ : Nat → Nat) (π : Nat → Nat) (α : Nat → Nat) (β : Nat → Nat) (η : Nat → Nat) (ς : Nat) (ρ : QS) (ϖ : PS) (σ : DS) (τ : DS) (hs : HS) (p1 : Int32) (p2 : Int32) (C0 : cA p s m meth c args cX4_untilLost 6 (some .int) wsX4_untilLost RX4) (hK : cK G s) : ∀ (n : Nat) (v1_5 : Int32) (τ1_4 : DS)  (hok : okL1_X4_untilLost ρ ϖ σ τ hs p1 p2 n v1_5 τ1_4) (H : Heap) (locs : List Loc), va_P G.1 vwCl ((gW γ (α 0) (β 0) (π 0) (κ 0) (η 0) ς) ++ ((qW G.2.1 κ ρ) ++ ((pW G.2.1 π ϖ) ++ ((dW G.2.1 α σ) ++ ((dW G.2.1 β τ1_4) ++ (hW G.2.2 η hs)))))) H → va_D (inW w0) ((gW γ (α 0) (β 0) (π 0) (κ 0) (η 0) ς) ++ ((qW G.2.1 κ ρ) ++ ((pW G.2.1 π ϖ) ++ ((dW G.2.1 α σ) ++ ((dW G.2.1 β τ1_4) ++ (hW G.2.2 η hs)))))) → va_S (inW w0) s.heap H locs → ∀ (ls : Array Slot), lv_has ls 6 [(0, .ref γ), (1, .int p1), (2, .int p2), (3, .int (s_X0_sectorFor σ p2)), (4, .ref (β 0)), (5, .int v1_5)] → W p l e (rmm 4 122) s m args below meth c H locs 0 0 (MQ below (QW G w0 ((gW γ (α 0) (β 0) (π 0) (κ 0) (η 0) ς) ++ ((qW G.2.1 κ ρ) ++ ((pW G.2.1 π ϖ) ++ ((dW G.2.1 α σ) ++ ((dW G.2.1 β ((L1_X4_untilLost ρ ϖ σ τ hs p1 p2 n v1_5 τ1_4).2)) ++ (hW G.2.2 η hs)))))) (some (.int (L1_X4_untilLost ρ ϖ σ τ hs p1 p2 n v1_5 τ1_4).1))) args s 0 0 (inW w0)) (F0 m 56 ls []) := by
  obtain ⟨hx, hb, hr, hml, hown, hts, hlocks⟩ := id C0
  have hF : CallFix p m c cX4_untilLost 6 s args wsX4_untilLost RX4 := ⟨hx, hb, hml, hown, hts⟩
  have hinX4 : ∀ w ∈ wsX40, w ∈ wsX4_untilLost := by decide +kernel
  intro n
  induction n with
  | zero =>
    intro v1_5 τ1_4 hok
    exact hok.elim
  | succ n ih =>
    intro v1_5 τ1_4 hok H locs hP hD hS ls hl
    have hok : (500 < v1_5 → True) ∧ (¬ 500 < v1_5 → (((s_X0_isReadable (s_X0_fill τ1_4 (s_X0_sectorToWrite τ1_4 p1) p1 0) (s_X0_sectorFor σ p2)) = 0 → True) ∧ (¬ (s_X0_isReadable (s_X0_fill τ1_4 (s_X0_sectorToWrite τ1_4 p1) p1 0) (s_X0_sectorFor σ p2)) = 0 → (okL1_X4_untilLost ρ ϖ σ τ hs p1 p2 n (v1_5 + 1) (s_X0_fill τ1_4 (s_X0_sectorToWrite τ1_4 p1) p1 0))))) := hok
    refine lv_iload hx hb dX4_untilLost_56 (lv_at hl 5 rfl) ?_
    refine lv_sipush (v := 500) hx hb dX4_untilLost_58 (by decide) ?_
    refine lv_icmp_gt (tgt := 95) hx hb dX4_untilLost_61 (by decide) (fun (c_5 : 500 < v1_5) => ?_) (fun (c_5 : ¬ 500 < v1_5) => ?_)
    · skip
      refine lv_bipush (v := (-6)) hx hb dX4_untilLost_95 (by decide) ?_
      have E9 : (L1_X4_untilLost ρ ϖ σ τ hs p1 p2 (n + 1) v1_5 τ1_4) = ((-6), τ1_4) := by rw [L1_X4_untilLost]; rw [if_pos c_5]
      rw [pr1 E9, pr2 E9]
      exact W.iret hx hb hr (fun t ht hW => ⟨rfl, by rw [ht]; exact hP, hS.F ht⟩) hS.2.2 dX4_untilLost_97
    · skip
      have hok := hok.2 c_5
      refine lv_aload hx hb dX4_untilLost_64 (lv_at hl 4 rfl) ?_
      refine lv_aload hx hb dX4_untilLost_66 (lv_at hl 4 rfl) ?_
      refine lv_iload_n hx hb dX4_untilLost_68 rfl (lv_at hl 1 rfl) ?_
      refine rdV (As := [.int p1]) (rest := [.ref (β 0)]) (c_X0_sectorToWrite l G β τ1_4 p1) hF (cwV 1 hts gX4_untilLost_X0_sectorToWrite rfl rfl rfl (by decide +kernel) ⟨Nat.le_of_ble_eq_true rfl, Nat.le_of_ble_eq_true rfl⟩) (va_recv hK.1 hP (ci := 0) (q0 := 13) rfl rfl) hK (hP.sub [13, 14, 15, 16, 17, 18] rfl) rfl hl.1 rfl (Nat.le_of_ble_eq_true rfl) dX4_untilLost_69 ⟨Nat.zero_le _, Nat.zero_le _⟩ ?_
      refine lv_iload_n hx hb dX4_untilLost_72 rfl (lv_at hl 1 rfl) ?_
      refine lv_iconst (v := 0) hx hb dX4_untilLost_73 (by decide) ?_
      refine wrV (As := [.int (s_X0_sectorToWrite τ1_4 p1), .int p1, .int 0]) (rest := []) (c_X0_fill l G β τ1_4 (s_X0_sectorToWrite τ1_4 p1) p1 0) hF (cwV 3 hts gX4_untilLost_X0_fill rfl rfl rfl (by decide +kernel) ⟨Nat.le_of_ble_eq_true rfl, Nat.le_of_ble_eq_true rfl⟩) (va_recv hK.1 hP (ci := 0) (q0 := 13) rfl rfl) hK hP hD hS [13, 14, 15, 16, 17, 18] rfl rfl rfl (by decide) rfl hl.1 rfl (Nat.le_of_ble_eq_true rfl) dX4_untilLost_74 ⟨Nat.zero_le _, Nat.zero_le _⟩ (fun H locs hP hD hS => ?_)
      have hP : va_P G.1 vwCl ((gW γ (α 0) (β 0) (π 0) (κ 0) (η 0) ς) ++ ((qW G.2.1 κ ρ) ++ ((pW G.2.1 π ϖ) ++ ((dW G.2.1 α σ) ++ ((dW G.2.1 β (s_X0_fill τ1_4 (s_X0_sectorToWrite τ1_4 p1) p1 0)) ++ (hW G.2.2 η hs)))))) H := hP
      have hD : va_D (inW w0) ((gW γ (α 0) (β 0) (π 0) (κ 0) (η 0) ς) ++ ((qW G.2.1 κ ρ) ++ ((pW G.2.1 π ϖ) ++ ((dW G.2.1 α σ) ++ ((dW G.2.1 β (s_X0_fill τ1_4 (s_X0_sectorToWrite τ1_4 p1) p1 0)) ++ (hW G.2.2 η hs)))))) := hD
      refine lv_aload hx hb dX4_untilLost_77 (lv_at hl 4 rfl) ?_
      refine lv_iload_n hx hb dX4_untilLost_79 rfl (lv_at hl 3 rfl) ?_
      refine rdV (As := [.int (s_X0_sectorFor σ p2)]) (rest := []) (c_X0_isReadable l G β (s_X0_fill τ1_4 (s_X0_sectorToWrite τ1_4 p1) p1 0) (s_X0_sectorFor σ p2)) hF (cwV 1 hts gX4_untilLost_X0_isReadable rfl rfl rfl (by decide +kernel) ⟨Nat.le_of_ble_eq_true rfl, Nat.le_of_ble_eq_true rfl⟩) (va_recv hK.1 hP (ci := 0) (q0 := 13) rfl rfl) hK (hP.sub [13, 14, 15, 16, 17, 18] rfl) rfl hl.1 rfl (Nat.le_of_ble_eq_true rfl) dX4_untilLost_80 ⟨Nat.zero_le _, Nat.zero_le _⟩ ?_
      refine lv_if_ne (tgt := 89) hx hb dX4_untilLost_83 (by decide) (fun (c_6 : ¬ (s_X0_isReadable (s_X0_fill τ1_4 (s_X0_sectorToWrite τ1_4 p1) p1 0) (s_X0_sectorFor σ p2)) = 0) => ?_) (fun (c_6 : (s_X0_isReadable (s_X0_fill τ1_4 (s_X0_sectorToWrite τ1_4 p1) p1 0) (s_X0_sectorFor σ p2)) = 0) => ?_)
      · skip
        have hok := hok.2 c_6
        refine lv_iinc (v := (v1_5 + 1)) (lv' := [(5, .int (v1_5 + 1)), (0, .ref γ), (1, .int p1), (2, .int p2), (3, .int (s_X0_sectorFor σ p2)), (4, .ref (β 0))]) hx hb dX4_untilLost_89 hl (k := 5) rfl rfl (by decide) rfl (fun ls hl => ?_)
        refine lv_goto (tgt := 56) hx hb dX4_untilLost_92 (by decide) ?_
        rw [show (L1_X4_untilLost ρ ϖ σ τ hs p1 p2 (n + 1) v1_5 τ1_4) = (L1_X4_untilLost ρ ϖ σ τ hs p1 p2 n (v1_5 + 1) (s_X0_fill τ1_4 (s_X0_sectorToWrite τ1_4 p1) p1 0)) from by rw [L1_X4_untilLost]; rw [if_neg c_5, if_neg c_6]]
        exact ih (v1_5 + 1) (s_X0_fill τ1_4 (s_X0_sectorToWrite τ1_4 p1) p1 0) hok _ _ hP hD hS ls (lv_sub hl [1, 2, 3, 4, 5, 0] rfl)
      · skip
        refine lv_iload hx hb dX4_untilLost_86 (lv_at hl 5 rfl) ?_
        have E9 : (L1_X4_untilLost ρ ϖ σ τ hs p1 p2 (n + 1) v1_5 τ1_4) = (v1_5, (s_X0_fill τ1_4 (s_X0_sectorToWrite τ1_4 p1) p1 0)) := by rw [L1_X4_untilLost]; rw [if_neg c_5, if_pos c_6]
        rw [pr1 E9, pr2 E9]
        exact W.iret hx hb hr (fun t ht hW => ⟨rfl, by rw [ht]; exact hP, hS.F ht⟩) hS.2.2 dX4_untilLost_88
set_option maxHeartbeats 4000000 in
set_option maxRecDepth 100000 in
theorem c_X4_untilLost (l : Launch) (G : GG) (γ : Nat) (κ : Nat → Nat) (π : Nat → Nat) (α : Nat → Nat) (β : Nat → Nat) (η : Nat → Nat) (ς : Nat) (ρ : QS) (ϖ : PS) (σ : DS) (τ : DS) (hs : HS) (p1 : Int32) (p2 : Int32) (hok : ok_X4_untilLost ρ ϖ σ τ hs p1 p2) : Wr G l yX4_untilLost wsX4_untilLost 4 122 [.ref γ, .int p1, .int p2] ((gW γ (α 0) (β 0) (π 0) (κ 0) (η 0) ς) ++ ((qW G.2.1 κ ρ) ++ ((pW G.2.1 π ϖ) ++ ((dW G.2.1 α σ) ++ ((dW G.2.1 β τ) ++ (hW G.2.2 η hs)))))) (some (.int (s_X4_untilLost ρ ϖ σ τ hs p1 p2).1)) ((gW γ (α 0) (β 0) (π 0) (κ 0) (η 0) ς) ++ ((qW G.2.1 κ ρ) ++ ((pW G.2.1 π ϖ) ++ ((dW G.2.1 α σ) ++ ((dW G.2.1 β ((s_X4_untilLost ρ ϖ σ τ hs p1 p2).2)) ++ (hW G.2.2 η hs)))))) := by
  refine Met.ofW (cc := cX4_untilLost) (maxL := 6) (ret := (some .int)) (by decide) rfl ?_
  intro p e s m args below meth c s₁ B hml hv
  obtain ⟨rfl, hP, hK, hD0⟩ := hv
  have C0 : cA p s m meth c ([.ref γ, .int p1, .int p2] : List Value).toArray cX4_untilLost 6 (some .int) wsX4_untilLost RX4 := ⟨B.exec, B.bytes, B.returns, hml, findClass_of_methodNamed B.named, atoms_spec (ws := wsX4_untilLost) B.pre, B.notSynchronized⟩
  obtain ⟨hx, hb, hr, hml, hown, hts, hlocks⟩ := id C0
  have hF : CallFix p m c cX4_untilLost 6 s _ wsX4_untilLost RX4 := ⟨hx, hb, hml, hown, hts⟩
  have hinX4 : ∀ w ∈ wsX40, w ∈ wsX4_untilLost := by decide +kernel
  obtain ⟨w0, hw0⟩ : ∃ w0 : va_W, w0 = ((gW γ (α 0) (β 0) (π 0) (κ 0) (η 0) ς) ++ ((qW G.2.1 κ ρ) ++ ((pW G.2.1 π ϖ) ++ ((dW G.2.1 α σ) ++ ((dW G.2.1 β τ) ++ (hW G.2.2 η hs)))))) := ⟨_, rfl⟩
  have hD : va_D (inW w0) ((gW γ (α 0) (β 0) (π 0) (κ 0) (η 0) ς) ++ ((qW G.2.1 κ ρ) ++ ((pW G.2.1 π ϖ) ++ ((dW G.2.1 α σ) ++ ((dW G.2.1 β τ) ++ (hW G.2.2 η hs)))))) := by rw [hw0]; exact inW.D hD0
  have hS : va_S (inW w0) s.heap s.heap [] := va_S.rf
  rw [show QW G ((gW γ (α 0) (β 0) (π 0) (κ 0) (η 0) ς) ++ ((qW G.2.1 κ ρ) ++ ((pW G.2.1 π ϖ) ++ ((dW G.2.1 α σ) ++ ((dW G.2.1 β τ) ++ (hW G.2.2 η hs)))))) = QW G w0 from by rw [hw0], show inW ((gW γ (α 0) (β 0) (π 0) (κ 0) (η 0) ς) ++ ((qW G.2.1 κ ρ) ++ ((pW G.2.1 π ϖ) ++ ((dW G.2.1 α σ) ++ ((dW G.2.1 β τ) ++ (hW G.2.2 η hs)))))) = inW w0 from by rw [hw0]]
  have hl := lv_entry ([.ref γ, .int p1, .int p2]) (n := 6) (Nat.le_of_ble_eq_true rfl)
  rw [lg_entry_eq]
  generalize (lg_sl ([.ref γ, .int p1, .int p2]) ++ List.replicate (6 - (lg_sl ([.ref γ, .int p1, .int p2])).length) Slot.unset).toArray = ls at hl ⊢
  have hl : lv_has ls 6 [(0, .ref γ), (1, .int p1), (2, .int p2)] := hl
  have hok : ((s_X4_isAddress p1) = 0 → True) ∧ (¬ (s_X4_isAddress p1) = 0 → (((s_X4_isAddress p2) = 0 → True) ∧ (¬ (s_X4_isAddress p2) = 0 → ((p1 = p2 → True) ∧ (¬ p1 = p2 → (((s_X0_isReadable σ (s_X0_sectorFor σ p2)) = 0 → True) ∧ (¬ (s_X0_isReadable σ (s_X0_sectorFor σ p2)) = 0 → (okL1_X4_untilLost ρ ϖ σ τ hs p1 p2 FU 1 (s_X4_freshTrial σ τ))))))))) := hok
  refine lv_iload_n hx hb dX4_untilLost_0 rfl (lv_at hl 1 rfl) ?_
  refine rdS (As := [.int p1]) (rest := []) (c_X4_isAddress l G p1) hF (va_cwS 1 hts gX4_untilLost_X4_isAddress rfl rfl rfl (by decide +kernel) ⟨Nat.le_of_ble_eq_true rfl, Nat.le_of_ble_eq_true rfl⟩) hK va_P0 rfl hl.1 rfl (Nat.le_of_ble_eq_true rfl) dX4_untilLost_1 ⟨Nat.zero_le _, Nat.zero_le _⟩ ?_
  refine lv_if_eq (tgt := 14) hx hb dX4_untilLost_4 (by decide) (fun (c_1 : (s_X4_isAddress p1) = 0) => ?_) (fun (c_1 : ¬ (s_X4_isAddress p1) = 0) => ?_)
  · skip
    refine lv_iconst (v := (-1)) hx hb dX4_untilLost_14 (by decide) ?_
    have E9 : s_X4_untilLost ρ ϖ σ τ hs p1 p2 = ((-1), τ) := by rw [s_X4_untilLost]; rw [if_pos c_1]
    rw [pr1 E9, pr2 E9]
    exact W.iret hx hb hr (fun t ht hW => ⟨rfl, by rw [ht]; exact hP, hS.F ht⟩) hS.2.2 dX4_untilLost_15
  · skip
    have hok := hok.2 c_1
    refine lv_iload_n hx hb dX4_untilLost_7 rfl (lv_at hl 2 rfl) ?_
    refine rdS (As := [.int p2]) (rest := []) (c_X4_isAddress l G p2) hF (va_cwS 1 hts gX4_untilLost_X4_isAddress rfl rfl rfl (by decide +kernel) ⟨Nat.le_of_ble_eq_true rfl, Nat.le_of_ble_eq_true rfl⟩) hK va_P0 rfl hl.1 rfl (Nat.le_of_ble_eq_true rfl) dX4_untilLost_8 ⟨Nat.zero_le _, Nat.zero_le _⟩ ?_
    refine lv_if_ne (tgt := 16) hx hb dX4_untilLost_11 (by decide) (fun (c_2 : ¬ (s_X4_isAddress p2) = 0) => ?_) (fun (c_2 : (s_X4_isAddress p2) = 0) => ?_)
    · skip
      have hok := hok.2 c_2
      refine lv_iload_n hx hb dX4_untilLost_16 rfl (lv_at hl 1 rfl) ?_
      refine lv_iload_n hx hb dX4_untilLost_17 rfl (lv_at hl 2 rfl) ?_
      refine lv_icmp_ne (tgt := 24) hx hb dX4_untilLost_18 (by decide) (fun (c_3 : ¬ p1 = p2) => ?_) (fun (c_3 : p1 = p2) => ?_)
      · skip
        have hok := hok.2 c_3
        refine lv_aload_n hx hb dX4_untilLost_24 rfl (lv_at hl 0 rfl) ?_
        refine va_get (D := G.1) (ci := 4) (v := .ref (α 0)) (C := RX4) (T := TX4) (N := 6) hx hb hts hinX4 hown hK.1 hP 0 rfl rfl 0 (by decide) (hts (.fieldLink RX4 12 "GrooveTurns" "disc" "LGrooveTurns$Disc;") (by decide +kernel)) (fun _ h9 => h9) rfl dX4_untilLost_25 ?_
        refine lv_iload_n hx hb dX4_untilLost_28 rfl (lv_at hl 2 rfl) ?_
        refine rdV (As := [.int p2]) (rest := []) (c_X0_sectorFor l G α σ p2) hF (cwV 1 hts gX4_untilLost_X0_sectorFor rfl rfl rfl (by decide +kernel) ⟨Nat.le_of_ble_eq_true rfl, Nat.le_of_ble_eq_true rfl⟩) (va_recv hK.1 hP (ci := 0) (q0 := 7) rfl rfl) hK (hP.sub [7, 8, 9, 10, 11, 12] rfl) rfl hl.1 rfl (Nat.le_of_ble_eq_true rfl) dX4_untilLost_29 ⟨Nat.zero_le _, Nat.zero_le _⟩ ?_
        refine lv_istore_n (lv' := [(3, .int (s_X0_sectorFor σ p2)), (0, .ref γ), (1, .int p1), (2, .int p2)]) hx hb dX4_untilLost_32 rfl hl (by decide) rfl (fun ls hl => ?_)
        refine lv_aload_n hx hb dX4_untilLost_33 rfl (lv_at hl 1 rfl) ?_
        refine va_get (D := G.1) (ci := 4) (v := .ref (α 0)) (C := RX4) (T := TX4) (N := 6) hx hb hts hinX4 hown hK.1 hP 0 rfl rfl 0 (by decide) (hts (.fieldLink RX4 12 "GrooveTurns" "disc" "LGrooveTurns$Disc;") (by decide +kernel)) (fun _ h9 => h9) rfl dX4_untilLost_34 ?_
        refine lv_iload_n hx hb dX4_untilLost_37 rfl (lv_at hl 0 rfl) ?_
        refine rdV (As := [.int (s_X0_sectorFor σ p2)]) (rest := []) (c_X0_isReadable l G α σ (s_X0_sectorFor σ p2)) hF (cwV 1 hts gX4_untilLost_X0_isReadable rfl rfl rfl (by decide +kernel) ⟨Nat.le_of_ble_eq_true rfl, Nat.le_of_ble_eq_true rfl⟩) (va_recv hK.1 hP (ci := 0) (q0 := 7) rfl rfl) hK (hP.sub [7, 8, 9, 10, 11, 12] rfl) rfl hl.1 rfl (Nat.le_of_ble_eq_true rfl) dX4_untilLost_38 ⟨Nat.zero_le _, Nat.zero_le _⟩ ?_
        refine lv_if_ne (tgt := 47) hx hb dX4_untilLost_41 (by decide) (fun (c_4 : ¬ (s_X0_isReadable σ (s_X0_sectorFor σ p2)) = 0) => ?_) (fun (c_4 : (s_X0_isReadable σ (s_X0_sectorFor σ p2)) = 0) => ?_)
        · skip
          have hok := hok.2 c_4
          refine lv_aload_n hx hb dX4_untilLost_47 rfl (lv_at hl 1 rfl) ?_
          refine wrV (As := []) (rest := []) (c_X4_freshTrial l G γ α β π κ η ς σ τ) hF (cwV 0 hts gX4_untilLost_X4_freshTrial rfl rfl rfl (by decide +kernel) ⟨Nat.le_of_ble_eq_true rfl, Nat.le_of_ble_eq_true rfl⟩) (va_recv hK.1 hP (ci := 4) (q0 := 0) rfl rfl) hK hP hD hS [0, 7, 8, 9, 10, 11, 12, 13, 14, 15, 16, 17, 18] rfl rfl rfl (by decide) rfl hl.1 rfl (Nat.le_of_ble_eq_true rfl) dX4_untilLost_48 ⟨Nat.zero_le _, Nat.zero_le _⟩ (fun H locs hP hD hS => ?_)
          have hP : va_P G.1 vwCl ((gW γ (α 0) (β 0) (π 0) (κ 0) (η 0) ς) ++ ((qW G.2.1 κ ρ) ++ ((pW G.2.1 π ϖ) ++ ((dW G.2.1 α σ) ++ ((dW G.2.1 β (s_X4_freshTrial σ τ)) ++ (hW G.2.2 η hs)))))) H := hP
          have hD : va_D (inW w0) ((gW γ (α 0) (β 0) (π 0) (κ 0) (η 0) ς) ++ ((qW G.2.1 κ ρ) ++ ((pW G.2.1 π ϖ) ++ ((dW G.2.1 α σ) ++ ((dW G.2.1 β (s_X4_freshTrial σ τ)) ++ (hW G.2.2 η hs)))))) := hD
          refine lv_astore (lv' := [(4, .ref (β 0)), (3, .int (s_X0_sectorFor σ p2)), (0, .ref γ), (1, .int p1), (2, .int p2)]) hx hb dX4_untilLost_51 hl (by decide) rfl (fun ls hl => ?_)
          refine lv_iconst (v := 1) hx hb dX4_untilLost_53 (by decide) ?_
          refine lv_istore (lv' := [(5, .int 1), (4, .ref (β 0)), (3, .int (s_X0_sectorFor σ p2)), (0, .ref γ), (1, .int p1), (2, .int p2)]) hx hb dX4_untilLost_54 hl (by decide) rfl (fun ls hl => ?_)
          rw [show s_X4_untilLost ρ ϖ σ τ hs p1 p2 = (L1_X4_untilLost ρ ϖ σ τ hs p1 p2 FU 1 (s_X4_freshTrial σ τ)) from by rw [s_X4_untilLost]; rw [if_neg c_1, if_neg c_2, if_neg c_3, if_neg c_4]]
          exact wL1_X4_untilLost l G γ κ π α β η ς ρ ϖ σ τ hs p1 p2 C0 hK FU 1 (s_X4_freshTrial σ τ) hok _ _ hP hD hS ls (lv_sub hl [3, 4, 5, 2, 1, 0] rfl)
        · skip
          refine lv_bipush (v := (-5)) hx hb dX4_untilLost_44 (by decide) ?_
          have E9 : s_X4_untilLost ρ ϖ σ τ hs p1 p2 = ((-5), τ) := by rw [s_X4_untilLost]; rw [if_neg c_1, if_neg c_2, if_neg c_3, if_pos c_4]
          rw [pr1 E9, pr2 E9]
          exact W.iret hx hb hr (fun t ht hW => ⟨rfl, by rw [ht]; exact hP, hS.F ht⟩) hS.2.2 dX4_untilLost_46
      · skip
        refine lv_bipush (v := (-2)) hx hb dX4_untilLost_21 (by decide) ?_
        have E9 : s_X4_untilLost ρ ϖ σ τ hs p1 p2 = ((-2), τ) := by rw [s_X4_untilLost]; rw [if_neg c_1, if_neg c_2, if_pos c_3]
        rw [pr1 E9, pr2 E9]
        exact W.iret hx hb hr (fun t ht hW => ⟨rfl, by rw [ht]; exact hP, hS.F ht⟩) hS.2.2 dX4_untilLost_23
    · skip
      refine lv_iconst (v := (-1)) hx hb dX4_untilLost_14 (by decide) ?_
      have E9 : s_X4_untilLost ρ ϖ σ τ hs p1 p2 = ((-1), τ) := by rw [s_X4_untilLost]; rw [if_neg c_1, if_pos c_2]
      rw [pr1 E9, pr2 E9]
      exact W.iret hx hb hr (fun t ht hW => ⟨rfl, by rw [ht]; exact hP, hS.F ht⟩) hS.2.2 dX4_untilLost_15
