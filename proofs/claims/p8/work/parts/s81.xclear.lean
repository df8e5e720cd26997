set_option maxHeartbeats 4000000 in
set_option maxRecDepth 100000 in
theorem sX8_clear_4n (fu : Nat) (hfu : 1180591620717411303424 ≤ fu) (g0 : Nat → Nat → Int32) (L0 : Nat → Nat → Int64) (hI : zI XT g0) : Ex (fX8_clear_4 fu g0 L0) (fun (r : Unit) (g1 : Nat → Nat → Int32) (L1 : Nat → Nat → Int64) => zI XT g1 ∧ g1 0 13 = g0 0 13) := by
  have k0_0 : g0 0 13 = g0 0 13 := rfl
  unfold fX8_clear_4
  refine Ex.sti (hI.upd rfl (by decide) (by decide)) (fun g1 g1e hI => ?_)
  have k0_0 : g1 0 13 = g0 0 13 := by rw [g1e]; exact k0_0
  refine Ex.sti (hI.upd rfl (by decide) (by decide)) (fun g2 g2e hI => ?_)
  have k0_0 : g2 0 13 = g0 0 13 := by rw [g2e]; exact k0_0
  exact Ex.ret ⟨hI, k0_0⟩
set_option maxHeartbeats 4000000 in
set_option maxRecDepth 100000 in
theorem sX7_clear_2n (fu : Nat) (hfu : 1180591620717411303424 ≤ fu) (g0 : Nat → Nat → Int32) (L0 : Nat → Nat → Int64) (hI : zI XT g0) : Ex (fX7_clear_2 fu g0 L0) (fun (r : Unit) (g1 : Nat → Nat → Int32) (L1 : Nat → Nat → Int64) => zI XT g1 ∧ g1 0 13 = g0 0 13) := by
  have k0_0 : g0 0 13 = g0 0 13 := rfl
  unfold fX7_clear_2
  refine Ex.cb (sX8_clear_4n fu hfu g0 L0 hI) (fun x1 g2 L3 hq5 => ?_)
  obtain ⟨hI, kk0⟩ := hq5
  have hI : zI XT g2 := hI
  have k0_0 : g2 0 13 = g0 0 13 := kk0.trans k0_0
  refine Ex.sti (hI.upd rfl (by decide) (by decide)) (fun g6 g6e hI => ?_)
  have k0_0 : g6 0 13 = g0 0 13 := by rw [g6e]; exact k0_0
  refine Ex.sti (hI.updN rfl) (fun g7 g7e hI => ?_)
  have k0_0 : g7 0 13 = g0 0 13 := by rw [g7e]; exact k0_0
  refine Ex.sti (hI.updN rfl) (fun g8 g8e hI => ?_)
  have k0_0 : g8 0 13 = g0 0 13 := by rw [g8e]; exact k0_0
  exact Ex.ret ⟨hI, k0_0⟩
