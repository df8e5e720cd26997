set_option maxHeartbeats 4000000 in
set_option maxRecDepth 100000 in
theorem sX8_clear_4 (fu : Nat) (hfu : 1180591620717411303424 ≤ fu) (g0 : Nat → Nat → Int32) (L0 : Nat → Nat → Int64) (hI : zI XT g0) (hJ : pJ g0) : Ex (fX8_clear_4 fu g0 L0) (fun (r : Unit) (g1 : Nat → Nat → Int32) (L1 : Nat → Nat → Int64) => zI XT g1 ∧ pJ g1 ∧ g1 2 2 = g0 2 2 ∧ g1 0 13 = g0 0 13) := by
  have k0_0 : g0 2 2 = g0 2 2 := rfl
  have k0_1 : g0 0 13 = g0 0 13 := rfl
  unfold fX8_clear_4
  refine Ex.sti (hI.upd rfl (by decide) (by decide)) (fun g1 g1e hI => ?_)
  have k0_0 : g1 2 2 = g0 2 2 := by rw [g1e]; exact k0_0
  have k0_1 : g1 0 13 = g0 0 13 := by rw [g1e]; exact k0_1
  have hJ : pJ g1 := by rw [g1e]; exact pJ.upd hJ rfl
  refine Ex.sti (hI.upd rfl (by decide) (by decide)) (fun g2 g2e hI => ?_)
  have k0_0 : g2 2 2 = g0 2 2 := by rw [g2e]; exact k0_0
  have k0_1 : g2 0 13 = g0 0 13 := by rw [g2e]; exact k0_1
  have hJ : pJ g2 := by rw [g2e]; exact pJ.upd hJ rfl
  exact Ex.ret ⟨hI, hJ, k0_0, k0_1⟩
set_option maxHeartbeats 4000000 in
set_option maxRecDepth 100000 in
theorem sX7_clear_2 (fu : Nat) (hfu : 1180591620717411303424 ≤ fu) (g0 : Nat → Nat → Int32) (L0 : Nat → Nat → Int64) (hI : zI XT g0) (hJ : pJ g0) : Ex (fX7_clear_2 fu g0 L0) (fun (r : Unit) (g1 : Nat → Nat → Int32) (L1 : Nat → Nat → Int64) => zI XT g1 ∧ pJ g1 ∧ g1 0 13 = g0 0 13) := by
  have k0_0 : g0 0 13 = g0 0 13 := rfl
  unfold fX7_clear_2
  refine Ex.cb (sX8_clear_4 fu hfu g0 L0 hI hJ) (fun x1 g2 L3 hq5 => ?_)
  obtain ⟨hI, hJ, kk0, kk1⟩ := hq5
  have hI : zI XT g2 := hI
  have hJ : pJ g2 := hJ
  have k0_0 : g2 0 13 = g0 0 13 := kk1.trans k0_0
  refine Ex.sti (hI.upd rfl (by decide) (by decide)) (fun g6 g6e hI => ?_)
  have k0_0 : g6 0 13 = g0 0 13 := by rw [g6e]; exact k0_0
  have hJ : pJ g6 := by rw [g6e]; exact pJ.upd hJ rfl
  refine Ex.sti (hI.updN rfl) (fun g7 g7e hI => ?_)
  have k0_0 : g7 0 13 = g0 0 13 := by rw [g7e]; exact k0_0
  have hJ : pJ g7 := by rw [g7e]; exact pJ.upd hJ rfl
  refine Ex.sti (hI.updN rfl) (fun g8 g8e hI => ?_)
  have k0_0 : g8 0 13 = g0 0 13 := by rw [g8e]; exact k0_0
  have hJ : pJ g8 := by rw [g8e]; exact pJ.upd hJ rfl
  exact Ex.ret ⟨hI, hJ, k0_0⟩
set_option maxHeartbeats 4000000 in
set_option maxRecDepth 100000 in
theorem sX8_add_4 (fu : Nat) (hfu : 1180591620717411303424 ≤ fu) (p1 : Int32) (g0 : Nat → Nat → Int32) (L0 : Nat → Nat → Int64) (hI : zI XT g0) (hJ : pJ g0) : Ex (fX8_add_4 fu p1 g0 L0) (fun (r : Unit) (g1 : Nat → Nat → Int32) (L1 : Nat → Nat → Int64) => zI XT g1 ∧ pJ g1 ∧ g1 2 2 = g0 2 2 ∧ g1 0 13 = g0 0 13) := by
  have k0_0 : g0 2 2 = g0 2 2 := rfl
  have k0_1 : g0 0 13 = g0 0 13 := rfl
  unfold fX8_add_4
  have b1 : 0 ≤ (Int32.toInt (g0 4 4)) ∧ (Int32.toInt (g0 4 4)) ≤ 700 := hI 4 4 0 700 rfl
  have J32 : ∀ (g : Nat → Nat → Int32) (L : Nat → Nat → Int64), (1 ≤ (Int32.toInt (g 4 4)) ∧ (Int32.toInt (g 4 4)) ≤ 700) → zI XT g → pJ g → g 2 2 = g0 2 2 → g 0 13 = g0 0 13 → Ex (fX8_add_4_p32 fu g L) (fun (r : Unit) (g1 : Nat → Nat → Int32) (L1 : Nat → Nat → Int64) => zI XT g1 ∧ pJ g1 ∧ g1 2 2 = g0 2 2 ∧ g1 0 13 = g0 0 13) := by
    intro g L hw_4_4 hI hJ k0_0 k0_1
    unfold fX8_add_4_p32
    exact Ex.ret ⟨hI, hJ, k0_0, k0_1⟩
  refine Ex.ite (fun c2 => ?_) (fun c2 => ?_)
  ·
    have c2 := icc_le (m := 700) (n := (Int32.toInt (g0 4 4))) (by decide) rfl c2
    exact J32 g0 L0 (by omega) hI hJ k0_0 k0_1
  ·
    have c2 := icc_nle (m := 700) (n := (Int32.toInt (g0 4 4))) (by decide) rfl c2
    have b3 : 0 ≤ (Int32.toInt (g0 4 4)) ∧ (Int32.toInt (g0 4 4)) ≤ 700 := hI 4 4 0 700 rfl
    refine Ex.ck (by omega) (by omega) ?_
    refine Ex.sti (hI.updN rfl) (fun g4 g4e hI => ?_)
    have w5 : (Int32.toInt (g4 4 4)) = (Int32.toInt (g0 4 4)) := by rw [g4e]; rfl
    have k0_0 : g4 2 2 = g0 2 2 := by rw [g4e]; exact k0_0
    have k0_1 : g4 0 13 = g0 0 13 := by rw [g4e]; exact k0_1
    have hJ : pJ g4 := by rw [g4e]; exact pJ.upd hJ rfl
    have b6 : 0 ≤ (Int32.toInt (g4 4 4)) ∧ (Int32.toInt (g4 4 4)) ≤ 700 := hI 4 4 0 700 rfl
    generalize z7q : ((g4 4 4) + 1) = z7
    have e8 : (Int32.toInt z7) = (Int32.toInt (g4 4 4)) + 1 := by rw [← z7q]; exact ic_addc rfl (by decide) (by omega) (by omega)
    refine Ex.sti (hI.upd rfl (by omega) (by omega)) (fun g9 g9e hI => ?_)
    have k0_0 : g9 2 2 = g0 2 2 := by rw [g9e]; exact k0_0
    have k0_1 : g9 0 13 = g0 0 13 := by rw [g9e]; exact k0_1
    have hJ : pJ g9 := by rw [g9e]; exact pJ.upd hJ rfl
    have w10 : (Int32.toInt (g9 4 4)) = (Int32.toInt z7) := by rw [g9e, upd2_at]
    exact J32 g9 L0 (by omega) hI hJ k0_0 k0_1
set_option maxHeartbeats 4000000 in
set_option maxRecDepth 100000 in
theorem sX8_close_4 (fu : Nat) (hfu : 1180591620717411303424 ≤ fu) (g0 : Nat → Nat → Int32) (L0 : Nat → Nat → Int64) (hI : zI XT g0) (hJ : pJ g0) : Ex (fX8_close_4 fu g0 L0) (fun (r : Unit) (g1 : Nat → Nat → Int32) (L1 : Nat → Nat → Int64) => zI XT g1 ∧ pJ g1 ∧ g1 2 2 = g0 2 2 ∧ g1 0 13 = g0 0 13) := by
  have k0_0 : g0 2 2 = g0 2 2 := rfl
  have k0_1 : g0 0 13 = g0 0 13 := rfl
  unfold fX8_close_4
  have b1 : 0 ≤ (Int32.toInt (g0 4 3)) ∧ (Int32.toInt (g0 4 3)) ≤ 4 := hI 4 3 0 4 rfl
  have J31 : ∀ (g : Nat → Nat → Int32) (L : Nat → Nat → Int64), (1 ≤ (Int32.toInt (g 4 3)) ∧ (Int32.toInt (g 4 3)) ≤ 4) → zI XT g → pJ g → g 2 2 = g0 2 2 → g 0 13 = g0 0 13 → Ex (fX8_close_4_p31 fu g L) (fun (r : Unit) (g1 : Nat → Nat → Int32) (L1 : Nat → Nat → Int64) => zI XT g1 ∧ pJ g1 ∧ g1 2 2 = g0 2 2 ∧ g1 0 13 = g0 0 13) := by
    intro g L hw_4_3 hI hJ k0_0 k0_1
    unfold fX8_close_4_p31
    exact Ex.ret ⟨hI, hJ, k0_0, k0_1⟩
  refine Ex.ite (fun c2 => ?_) (fun c2 => ?_)
  ·
    have c2 := icc_le (m := 4) (n := (Int32.toInt (g0 4 3))) (by decide) rfl c2
    exact J31 g0 L0 (by omega) hI hJ k0_0 k0_1
  ·
    have c2 := icc_nle (m := 4) (n := (Int32.toInt (g0 4 3))) (by decide) rfl c2
    have b3 : 0 ≤ (Int32.toInt (g0 4 3)) ∧ (Int32.toInt (g0 4 3)) ≤ 4 := hI 4 3 0 4 rfl
    generalize z4q : ((g0 4 3) + 1) = z4
    have e5 : (Int32.toInt z4) = (Int32.toInt (g0 4 3)) + 1 := by rw [← z4q]; exact ic_addc rfl (by decide) (by omega) (by omega)
    refine Ex.sti (hI.upd rfl (by omega) (by omega)) (fun g6 g6e hI => ?_)
    have k0_0 : g6 2 2 = g0 2 2 := by rw [g6e]; exact k0_0
    have k0_1 : g6 0 13 = g0 0 13 := by rw [g6e]; exact k0_1
    have hJ : pJ g6 := by rw [g6e]; exact pJ.upd hJ rfl
    have w7 : (Int32.toInt (g6 4 3)) = (Int32.toInt z4) := by rw [g6e, upd2_at]
    have b8 : 0 ≤ (Int32.toInt (g6 4 3)) ∧ (Int32.toInt (g6 4 3)) ≤ 4 := hI 4 3 0 4 rfl
    have b9 : 0 ≤ (Int32.toInt (g6 4 4)) ∧ (Int32.toInt (g6 4 4)) ≤ 700 := hI 4 4 0 700 rfl
    refine Ex.ck (by omega) (by omega) ?_
    refine Ex.sti (hI.upd rfl (by omega) (by omega)) (fun g10 g10e hI => ?_)
    have w11 : (Int32.toInt (g10 4 3)) = (Int32.toInt (g6 4 3)) := by rw [g10e]; rfl
    have w12 : (Int32.toInt (g10 4 4)) = (Int32.toInt (g6 4 4)) := by rw [g10e]; rfl
    have k0_0 : g10 2 2 = g0 2 2 := by rw [g10e]; exact k0_0
    have k0_1 : g10 0 13 = g0 0 13 := by rw [g10e]; exact k0_1
    have hJ : pJ g10 := by rw [g10e]; exact pJ.upd hJ rfl
    exact J31 g10 L0 (by omega) hI hJ k0_0 k0_1
set_option maxHeartbeats 4000000 in
set_option maxRecDepth 100000 in
theorem sX5_clear_les (fu : Nat) (hfu : 1180591620717411303424 ≤ fu) (q0_ : Nat) (g0 : Nat → Nat → Int32) (L0 : Nat → Nat → Int64) (hI : zI XT g0) (hJ : pJ g0) (q0_l : 57 ≤ q0_) (q0_h : q0_ < 81) : Ex (fX5_clear_les fu q0_ g0 L0) (fun (r : Unit) (g1 : Nat → Nat → Int32) (L1 : Nat → Nat → Int64) => zI XT g1 ∧ pJ g1 ∧ g1 2 2 = g0 2 2 ∧ g1 0 13 = g0 0 13) := by
  have k0_0 : g0 2 2 = g0 2 2 := rfl
  have k0_1 : g0 0 13 = g0 0 13 := rfl
  unfold fX5_clear_les
  refine Ex.sti (hI.updN (xt_lesN (by omega) (by omega) (by decide))) (fun g1 g1e hI => ?_)
  have k0_0 : g1 2 2 = g0 2 2 := by rw [g1e]; exact (upd2_nk (by omega)).trans k0_0
  have k0_1 : g1 0 13 = g0 0 13 := by rw [g1e]; exact (upd2_nk (by omega)).trans k0_1
  have hJ : pJ g1 := by rw [g1e]; exact pJ.updn hJ (by omega)
  refine Ex.sti (hI.updN (xt_lesN (by omega) (by omega) (by decide))) (fun g2 g2e hI => ?_)
  have k0_0 : g2 2 2 = g0 2 2 := by rw [g2e]; exact (upd2_nk (by omega)).trans k0_0
  have k0_1 : g2 0 13 = g0 0 13 := by rw [g2e]; exact (upd2_nk (by omega)).trans k0_1
  have hJ : pJ g2 := by rw [g2e]; exact pJ.updn hJ (by omega)
  refine Ex.sti (hI.upd (xt_les (by omega) (by omega)) (by decide) (by decide)) (fun g3 g3e hI => ?_)
  have k0_0 : g3 2 2 = g0 2 2 := by rw [g3e]; exact (upd2_nk (by omega)).trans k0_0
  have k0_1 : g3 0 13 = g0 0 13 := by rw [g3e]; exact (upd2_nk (by omega)).trans k0_1
  have hJ : pJ g3 := by rw [g3e]; exact pJ.updn hJ (by omega)
  refine Ex.sti (hI.updN (xt_lesN (by omega) (by omega) (by decide))) (fun g4 g4e hI => ?_)
  have k0_0 : g4 2 2 = g0 2 2 := by rw [g4e]; exact (upd2_nk (by omega)).trans k0_0
  have k0_1 : g4 0 13 = g0 0 13 := by rw [g4e]; exact (upd2_nk (by omega)).trans k0_1
  have hJ : pJ g4 := by rw [g4e]; exact pJ.updn hJ (by omega)
  exact Ex.ret ⟨hI, hJ, k0_0, k0_1⟩
set_option maxHeartbeats 4000000 in
set_option maxRecDepth 100000 in
theorem sX5_waitFor_les (fu : Nat) (hfu : 1180591620717411303424 ≤ fu) (q0_ : Nat) (p1 : Int32) (g0 : Nat → Nat → Int32) (L0 : Nat → Nat → Int64) (hI : zI XT g0) (hJ : pJ g0) (q0_l : 57 ≤ q0_) (q0_h : q0_ < 81) (hp1 : (0 ≤ (Int32.toInt p1) ∧ (Int32.toInt p1) ≤ 11)) : Ex (fX5_waitFor_les fu q0_ p1 g0 L0) (fun (r : Unit) (g1 : Nat → Nat → Int32) (L1 : Nat → Nat → Int64) => zI XT g1 ∧ pJ g1 ∧ g1 2 2 = g0 2 2 ∧ g1 0 13 = g0 0 13) := by
  have k0_0 : g0 2 2 = g0 2 2 := rfl
  have k0_1 : g0 0 13 = g0 0 13 := rfl
  unfold fX5_waitFor_les
  have b1 : 0 ≤ (Int32.toInt (g0 q0_ 1)) ∧ (Int32.toInt (g0 q0_ 1)) ≤ 6 := hI q0_ 1 0 6 (xt_les (by omega) (by omega))
  have J41 : ∀ (g : Nat → Nat → Int32) (L : Nat → Nat → Int64), zI XT g → pJ g → g 2 2 = g0 2 2 → g 0 13 = g0 0 13 → Ex (fX5_waitFor_les_p41 fu g L) (fun (r : Unit) (g1 : Nat → Nat → Int32) (L1 : Nat → Nat → Int64) => zI XT g1 ∧ pJ g1 ∧ g1 2 2 = g0 2 2 ∧ g1 0 13 = g0 0 13) := by
    intro g L hI hJ k0_0 k0_1
    unfold fX5_waitFor_les_p41
    exact Ex.ret ⟨hI, hJ, k0_0, k0_1⟩
  refine Ex.ite (fun c2 => ?_) (fun c2 => ?_)
  ·
    have c2 := icc_le (m := 6) (n := (Int32.toInt (g0 q0_ 1))) (by decide) rfl c2
    exact J41 g0 L0 hI hJ k0_0 k0_1
  ·
    have c2 := icc_nle (m := 6) (n := (Int32.toInt (g0 q0_ 1))) (by decide) rfl c2
    have b3 : 0 ≤ (Int32.toInt (g0 q0_ 1)) ∧ (Int32.toInt (g0 q0_ 1)) ≤ 6 := hI q0_ 1 0 6 (xt_les (by omega) (by omega))
    refine Ex.ck (by omega) (by omega) ?_
    refine Ex.sti (hI.upd (xt_wai (by omega)) (by omega) (by omega)) (fun g4 g4e hI => ?_)
    have k0_0 : g4 2 2 = g0 2 2 := by rw [g4e]; exact (upd2_nk (by omega)).trans k0_0
    have k0_1 : g4 0 13 = g0 0 13 := by rw [g4e]; exact (upd2_nk (by omega)).trans k0_1
    have hJ : pJ g4 := by rw [g4e]; exact pJ.updn hJ (by omega)
    have b5 : 0 ≤ (Int32.toInt (g4 q0_ 1)) ∧ (Int32.toInt (g4 q0_ 1)) ≤ 6 := hI q0_ 1 0 6 (xt_les (by omega) (by omega))
    have hm_ : (Int32.toInt (g4 q0_ 1)) = (Int32.toInt (g0 q0_ 1)) := by rw [g4e, upd2_nk (by omega)]
    generalize z6q : ((g4 q0_ 1) + 1) = z6
    have e7 : (Int32.toInt z6) = (Int32.toInt (g4 q0_ 1)) + 1 := by rw [← z6q]; exact ic_addc rfl (by decide) (by omega) (by omega)
    refine Ex.sti (hI.upd (xt_les (by omega) (by omega)) (by omega) (by omega)) (fun g8 g8e hI => ?_)
    have k0_0 : g8 2 2 = g0 2 2 := by rw [g8e]; exact (upd2_nk (by omega)).trans k0_0
    have k0_1 : g8 0 13 = g0 0 13 := by rw [g8e]; exact (upd2_nk (by omega)).trans k0_1
    have hJ : pJ g8 := by rw [g8e]; exact pJ.updn hJ (by omega)
    generalize z9q : ((1 : Int32) <<< ((p1 : Int32) &&& 31) : Int32) = z9
    generalize z10q : ((g8 q0_ 2) ||| z9) = z10
    refine Ex.sti (hI.updN (xt_lesN (by omega) (by omega) (by decide))) (fun g11 g11e hI => ?_)
    have k0_0 : g11 2 2 = g0 2 2 := by rw [g11e]; exact (upd2_nk (by omega)).trans k0_0
    have k0_1 : g11 0 13 = g0 0 13 := by rw [g11e]; exact (upd2_nk (by omega)).trans k0_1
    have hJ : pJ g11 := by rw [g11e]; exact pJ.updn hJ (by omega)
    exact J41 g11 L0 hI hJ k0_0 k0_1
set_option maxHeartbeats 4000000 in
set_option maxRecDepth 100000 in
theorem sX6_refuse_5 (fu : Nat) (hfu : 1180591620717411303424 ≤ fu) (p1 : Int32) (g0 : Nat → Nat → Int32) (L0 : Nat → Nat → Int64) (hI : zI XT g0) (hJ : pJ g0) : Ex (fX6_refuse_5 fu p1 g0 L0) (fun (r : Unit) (g1 : Nat → Nat → Int32) (L1 : Nat → Nat → Int64) => zI XT g1 ∧ pJ g1 ∧ g1 2 2 = g0 2 2 ∧ g1 0 13 = g0 0 13) := by
  have k0_0 : g0 2 2 = g0 2 2 := rfl
  have k0_1 : g0 0 13 = g0 0 13 := rfl
  unfold fX6_refuse_5
  have J26 : ∀ (g : Nat → Nat → Int32) (L : Nat → Nat → Int64), zI XT g → pJ g → g 2 2 = g0 2 2 → g 0 13 = g0 0 13 → Ex (fX6_refuse_5_p26 fu g L) (fun (r : Unit) (g1 : Nat → Nat → Int32) (L1 : Nat → Nat → Int64) => zI XT g1 ∧ pJ g1 ∧ g1 2 2 = g0 2 2 ∧ g1 0 13 = g0 0 13) := by
    intro g L hI hJ k0_0 k0_1
    unfold fX6_refuse_5_p26
    exact Ex.ret ⟨hI, hJ, k0_0, k0_1⟩
  refine Ex.ite (fun c1 => ?_) (fun c1 => ?_)
  ·
    have c1 := icc_eq (m := (Int32.toInt (g0 5 4))) (n := 5) rfl (by decide) c1
    exact J26 g0 L0 hI hJ k0_0 k0_1
  ·
    have c1 := icc_neq (m := (Int32.toInt (g0 5 4))) (n := 5) rfl (by decide) c1
    refine Ex.sti (hI.updN rfl) (fun g2 g2e hI => ?_)
    have k0_0 : g2 2 2 = g0 2 2 := by rw [g2e]; exact k0_0
    have k0_1 : g2 0 13 = g0 0 13 := by rw [g2e]; exact k0_1
    have hJ : pJ g2 := by rw [g2e]; exact pJ.upd hJ rfl
    have b3 : 0 ≤ (Int32.toInt (g2 5 5)) ∧ (Int32.toInt (g2 5 5)) ≤ 700 := hI 5 5 0 700 rfl
    refine Ex.sti (hI.updN rfl) (fun g4 g4e hI => ?_)
    have k0_0 : g4 2 2 = g0 2 2 := by rw [g4e]; exact k0_0
    have k0_1 : g4 0 13 = g0 0 13 := by rw [g4e]; exact k0_1
    have hJ : pJ g4 := by rw [g4e]; exact pJ.upd hJ rfl
    refine Ex.sti (hI.updN rfl) (fun g5 g5e hI => ?_)
    have k0_0 : g5 2 2 = g0 2 2 := by rw [g5e]; exact k0_0
    have k0_1 : g5 0 13 = g0 0 13 := by rw [g5e]; exact k0_1
    have hJ : pJ g5 := by rw [g5e]; exact pJ.kind (by decide)
    exact J26 g5 L0 hI hJ k0_0 k0_1
set_option maxHeartbeats 4000000 in
set_option maxRecDepth 100000 in
theorem sX6_isTooLong_5 (fu : Nat) (hfu : 1180591620717411303424 ≤ fu) (g0 : Nat → Nat → Int32) (L0 : Nat → Nat → Int64) (hI : zI XT g0) (hJ : pJ g0) : Ex (fX6_isTooLong_5 fu g0 L0) (fun (r : Int32) (g1 : Nat → Nat → Int32) (L1 : Nat → Nat → Int64) => zI XT g1 ∧ pJ g1 ∧ g1 2 2 = g0 2 2 ∧ g1 0 13 = g0 0 13 ∧ (0 ≤ (Int32.toInt r) ∧ (Int32.toInt r) ≤ 1)) := by
  have k0_0 : g0 2 2 = g0 2 2 := rfl
  have k0_1 : g0 0 13 = g0 0 13 := rfl
  unfold fX6_isTooLong_5
  have b1 : 0 ≤ (Int32.toInt (g0 5 3)) ∧ (Int32.toInt (g0 5 3)) ≤ 700 := hI 5 3 0 700 rfl
  have b2 : 0 ≤ (Int32.toInt (g0 5 5)) ∧ (Int32.toInt (g0 5 5)) ≤ 700 := hI 5 5 0 700 rfl
  generalize z3q : ((g0 5 3) - (g0 5 5)) = z3
  have e4 : (Int32.toInt z3) = (Int32.toInt (g0 5 3)) - (Int32.toInt (g0 5 5)) := by rw [← z3q]; exact ic_subc rfl rfl (by omega) (by omega)
  have J18 : ∀ (t0 : Int32) (g : Nat → Nat → Int32) (L : Nat → Nat → Int64), (0 ≤ (Int32.toInt t0) ∧ (Int32.toInt t0) ≤ 1) → zI XT g → pJ g → g 2 2 = g0 2 2 → g 0 13 = g0 0 13 → Ex (fX6_isTooLong_5_p18 fu t0 g L) (fun (r : Int32) (g1 : Nat → Nat → Int32) (L1 : Nat → Nat → Int64) => zI XT g1 ∧ pJ g1 ∧ g1 2 2 = g0 2 2 ∧ g1 0 13 = g0 0 13 ∧ (0 ≤ (Int32.toInt r) ∧ (Int32.toInt r) ≤ 1)) := by
    intro t0 g L hb_t0 hI hJ k0_0 k0_1
    unfold fX6_isTooLong_5_p18
    refine Ex.ckb (z_bool (by omega)) ?_
    exact Ex.ret ⟨hI, hJ, k0_0, k0_1, (by omega)⟩
  refine Ex.ite (fun c5 => ?_) (fun c5 => ?_)
  ·
    have c5 := icc_le (m := (Int32.toInt z3)) (n := 4) rfl (by decide) c5
    exact J18 0 g0 L0 (by decide) hI hJ k0_0 k0_1
  ·
    have c5 := icc_nle (m := (Int32.toInt z3)) (n := 4) rfl (by decide) c5
    exact J18 1 g0 L0 (by decide) hI hJ k0_0 k0_1
set_option maxHeartbeats 4000000 in
set_option maxRecDepth 100000 in
theorem sX6_isSignNow_5 (fu : Nat) (hfu : 1180591620717411303424 ≤ fu) (p1 : Int32) (g0 : Nat → Nat → Int32) (L0 : Nat → Nat → Int64) (hI : zI XT g0) (hJ : pJ g0) : Ex (fX6_isSignNow_5 fu p1 g0 L0) (fun (r : Int32) (g1 : Nat → Nat → Int32) (L1 : Nat → Nat → Int64) => zI XT g1 ∧ pJ g1 ∧ g1 2 2 = g0 2 2 ∧ g1 0 13 = g0 0 13 ∧ (0 ≤ (Int32.toInt r) ∧ (Int32.toInt r) ≤ 1)) := by
  have k0_0 : g0 2 2 = g0 2 2 := rfl
  have k0_1 : g0 0 13 = g0 0 13 := rfl
  unfold fX6_isSignNow_5
  have J26 : ∀ (t0 : Int32) (g : Nat → Nat → Int32) (L : Nat → Nat → Int64), (0 ≤ (Int32.toInt t0) ∧ (Int32.toInt t0) ≤ 1) → zI XT g → pJ g → g 2 2 = g0 2 2 → g 0 13 = g0 0 13 → Ex (fX6_isSignNow_5_p26 fu t0 g L) (fun (r : Int32) (g1 : Nat → Nat → Int32) (L1 : Nat → Nat → Int64) => zI XT g1 ∧ pJ g1 ∧ g1 2 2 = g0 2 2 ∧ g1 0 13 = g0 0 13 ∧ (0 ≤ (Int32.toInt r) ∧ (Int32.toInt r) ≤ 1)) := by
    intro t0 g L hb_t0 hI hJ k0_0 k0_1
    unfold fX6_isSignNow_5_p26
    refine Ex.ckb (z_bool (by omega)) ?_
    exact Ex.ret ⟨hI, hJ, k0_0, k0_1, (by omega)⟩
  have J25 : ∀ (g : Nat → Nat → Int32) (L : Nat → Nat → Int64), zI XT g → pJ g → g 2 2 = g0 2 2 → g 0 13 = g0 0 13 → Ex (fX6_isSignNow_5_p25 fu g L) (fun (r : Int32) (g1 : Nat → Nat → Int32) (L1 : Nat → Nat → Int64) => zI XT g1 ∧ pJ g1 ∧ g1 2 2 = g0 2 2 ∧ g1 0 13 = g0 0 13 ∧ (0 ≤ (Int32.toInt r) ∧ (Int32.toInt r) ≤ 1)) := by
    intro g L hI hJ k0_0 k0_1
    unfold fX6_isSignNow_5_p25
    exact J26 0 g L (by decide) hI hJ k0_0 k0_1
  refine Ex.ite (fun c1 => ?_) (fun c1 => ?_)
  ·
    have c1 := icc_eq (m := (Int32.toInt (g0 5 4))) (n := 3) rfl (by decide) c1
    have b2 : 0 ≤ (Int32.toInt (g0 5 5)) ∧ (Int32.toInt (g0 5 5)) ≤ 700 := hI 5 5 0 700 rfl
    have hm_ : (Int32.toInt (g0 5 5)) ≤ 699 := hJ (by omega)
    refine Ex.ck (by omega) (by omega) ?_
    have b3 : 0 ≤ (Int32.toInt (g0 14 (Int32.toNatClampNeg (g0 5 5)))) ∧ (Int32.toInt (g0 14 (Int32.toNatClampNeg (g0 5 5)))) ≤ 255 := hI 14 _ 0 255 rfl
    refine Ex.ite (fun c4 => ?_) (fun c4 => ?_)
    ·
      have c4 := icc_eq (m := (Int32.toInt (g0 14 (Int32.toNatClampNeg (g0 5 5))))) (n := (Int32.toInt p1)) rfl rfl c4
      exact J26 1 g0 L0 (by decide) hI hJ k0_0 k0_1
    ·
      have c4 := icc_neq (m := (Int32.toInt (g0 14 (Int32.toNatClampNeg (g0 5 5))))) (n := (Int32.toInt p1)) rfl rfl c4
      exact J25 g0 L0 hI hJ k0_0 k0_1
  ·
    have c1 := icc_neq (m := (Int32.toInt (g0 5 4))) (n := 3) rfl (by decide) c1
    exact J25 g0 L0 hI hJ k0_0 k0_1
set_option maxHeartbeats 4000000 in
set_option maxRecDepth 100000 in
theorem sX6_readNumber_5 (fu : Nat) (hfu : 1180591620717411303424 ≤ fu) (p1 : Int32) (p2 : Int32) (g0 : Nat → Nat → Int32) (L0 : Nat → Nat → Int64) (hI : zI XT g0) (hJ : pJ g0) : Ex (fX6_readNumber_5 fu p1 p2 g0 L0) (fun (r : Int32) (g1 : Nat → Nat → Int32) (L1 : Nat → Nat → Int64) => zI XT g1 ∧ pJ g1 ∧ g1 2 2 = g0 2 2 ∧ g1 0 13 = g0 0 13 ∧ (0 ≤ (Int32.toInt r) ∧ (Int32.toInt r) ≤ 9999)) := by
  have k0_0 : g0 2 2 = g0 2 2 := rfl
  have k0_1 : g0 0 13 = g0 0 13 := rfl
  unfold fX6_readNumber_5
  refine Ex.ite (fun c1 => ?_) (fun c1 => ?_)
  ·
    have c1 := icc_eq (m := (Int32.toInt (g0 5 4))) (n := 1) rfl (by decide) c1
    refine Ex.cb (sX6_isTooLong_5 fu hfu g0 L0 hI hJ) (fun x2 g3 L4 hq6 => ?_)
    obtain ⟨hI, hJ, kk0, kk1, rb_⟩ := hq6
    have b7 : 0 ≤ (Int32.toInt x2) ∧ (Int32.toInt x2) ≤ 1 := rb_
    have hI : zI XT g3 := hI
    have hJ : pJ g3 := hJ
    have k0_0 : g3 2 2 = g0 2 2 := kk0.trans k0_0
    have k0_1 : g3 0 13 = g0 0 13 := kk1.trans k0_1
    have J38 : ∀ (g : Nat → Nat → Int32) (L : Nat → Nat → Int64), zI XT g → pJ g → g 2 2 = g0 2 2 → g 0 13 = g0 0 13 → Ex (fX6_readNumber_5_p38 fu g L) (fun (r : Int32) (g1 : Nat → Nat → Int32) (L1 : Nat → Nat → Int64) => zI XT g1 ∧ pJ g1 ∧ g1 2 2 = g0 2 2 ∧ g1 0 13 = g0 0 13 ∧ (0 ≤ (Int32.toInt r) ∧ (Int32.toInt r) ≤ 9999)) := by
      intro g L hI hJ k0_0 k0_1
      unfold fX6_readNumber_5_p38
      refine Ex.cb (sX6_refuse_5 fu hfu 2 g L hI hJ) (fun x8 g9 L10 hq12 => ?_)
      obtain ⟨hI, hJ, kk0, kk1⟩ := hq12
      have hI : zI XT g9 := hI
      have hJ : pJ g9 := hJ
      have k0_0 : g9 2 2 = g0 2 2 := kk0.trans k0_0
      have k0_1 : g9 0 13 = g0 0 13 := kk1.trans k0_1
      exact Ex.ret ⟨hI, hJ, k0_0, k0_1, (by decide)⟩
    refine Ex.ite (fun c13 => ?_) (fun c13 => ?_)
    ·
      have c13 := icc_eq (m := (Int32.toInt x2)) (n := 0) rfl (by decide) c13
      have b14 : 0 ≤ (Int32.toInt (g3 5 6)) ∧ (Int32.toInt (g3 5 6)) ≤ 9999 := hI 5 6 0 9999 rfl
      refine Ex.ite (fun c15 => ?_) (fun c15 => ?_)
      ·
        have c15 := icc_lt (m := (Int32.toInt (g3 5 6))) (n := (Int32.toInt p1)) rfl rfl c15
        exact J38 g3 L4 hI hJ k0_0 k0_1
      ·
        have c15 := icc_nlt (m := (Int32.toInt (g3 5 6))) (n := (Int32.toInt p1)) rfl rfl c15
        have b16 : 0 ≤ (Int32.toInt (g3 5 6)) ∧ (Int32.toInt (g3 5 6)) ≤ 9999 := hI 5 6 0 9999 rfl
        refine Ex.ite (fun c17 => ?_) (fun c17 => ?_)
        ·
          have c17 := icc_le (m := (Int32.toInt (g3 5 6))) (n := (Int32.toInt p2)) rfl rfl c17
          refine Ex.lti (fun x18 x18e x18i => ?_)
          refine Ex.cb (sX6_advance_5 fu hfu g3 L4 hI hJ) (fun x19 g20 L21 hq23 => ?_)
          obtain ⟨hI, hJ, kk0, kk1⟩ := hq23
          have hI : zI XT g20 := hI
          have hJ : pJ g20 := hJ
          have k0_0 : g20 2 2 = g0 2 2 := kk0.trans k0_0
          have k0_1 : g20 0 13 = g0 0 13 := kk1.trans k0_1
          exact Ex.ret ⟨hI, hJ, k0_0, k0_1, (by omega)⟩
        ·
          have c17 := icc_nle (m := (Int32.toInt (g3 5 6))) (n := (Int32.toInt p2)) rfl rfl c17
          exact J38 g3 L4 hI hJ k0_0 k0_1
    ·
      have c13 := icc_neq (m := (Int32.toInt x2)) (n := 0) rfl (by decide) c13
      exact J38 g3 L4 hI hJ k0_0 k0_1
  ·
    have c1 := icc_neq (m := (Int32.toInt (g0 5 4))) (n := 1) rfl (by decide) c1
    refine Ex.cb (sX6_refuse_5 fu hfu 1 g0 L0 hI hJ) (fun x24 g25 L26 hq28 => ?_)
    obtain ⟨hI, hJ, kk0, kk1⟩ := hq28
    have hI : zI XT g25 := hI
    have hJ : pJ g25 := hJ
    have k0_0 : g25 2 2 = g0 2 2 := kk0.trans k0_0
    have k0_1 : g25 0 13 = g0 0 13 := kk1.trans k0_1
    exact Ex.ret ⟨hI, hJ, k0_0, k0_1, (by decide)⟩
set_option maxHeartbeats 4000000 in
set_option maxRecDepth 100000 in
theorem sX6_readSign_5 (fu : Nat) (hfu : 1180591620717411303424 ≤ fu) (p1 : Int32) (g0 : Nat → Nat → Int32) (L0 : Nat → Nat → Int64) (hI : zI XT g0) (hJ : pJ g0) : Ex (fX6_readSign_5 fu p1 g0 L0) (fun (r : Unit) (g1 : Nat → Nat → Int32) (L1 : Nat → Nat → Int64) => zI XT g1 ∧ pJ g1 ∧ g1 2 2 = g0 2 2 ∧ g1 0 13 = g0 0 13) := by
  have k0_0 : g0 2 2 = g0 2 2 := rfl
  have k0_1 : g0 0 13 = g0 0 13 := rfl
  unfold fX6_readSign_5
  refine Ex.cb (sX6_isSignNow_5 fu hfu p1 g0 L0 hI hJ) (fun x1 g2 L3 hq5 => ?_)
  obtain ⟨hI, hJ, kk0, kk1, rb_⟩ := hq5
  have b6 : 0 ≤ (Int32.toInt x1) ∧ (Int32.toInt x1) ≤ 1 := rb_
  have hI : zI XT g2 := hI
  have hJ : pJ g2 := hJ
  have k0_0 : g2 2 2 = g0 2 2 := kk0.trans k0_0
  have k0_1 : g2 0 13 = g0 0 13 := kk1.trans k0_1
  have J20 : ∀ (g : Nat → Nat → Int32) (L : Nat → Nat → Int64), zI XT g → pJ g → g 2 2 = g0 2 2 → g 0 13 = g0 0 13 → Ex (fX6_readSign_5_p20 fu g L) (fun (r : Unit) (g1 : Nat → Nat → Int32) (L1 : Nat → Nat → Int64) => zI XT g1 ∧ pJ g1 ∧ g1 2 2 = g0 2 2 ∧ g1 0 13 = g0 0 13) := by
    intro g L hI hJ k0_0 k0_1
    unfold fX6_readSign_5_p20
    exact Ex.ret ⟨hI, hJ, k0_0, k0_1⟩
  refine Ex.ite (fun c7 => ?_) (fun c7 => ?_)
  ·
    have c7 := icc_eq (m := (Int32.toInt x1)) (n := 0) rfl (by decide) c7
    refine Ex.cb (sX6_refuse_5 fu hfu 1 g2 L3 hI hJ) (fun x8 g9 L10 hq12 => ?_)
    obtain ⟨hI, hJ, kk0, kk1⟩ := hq12
    have hI : zI XT g9 := hI
    have hJ : pJ g9 := hJ
    have k0_0 : g9 2 2 = g0 2 2 := kk0.trans k0_0
    have k0_1 : g9 0 13 = g0 0 13 := kk1.trans k0_1
    exact J20 g9 L10 hI hJ k0_0 k0_1
  ·
    have c7 := icc_neq (m := (Int32.toInt x1)) (n := 0) rfl (by decide) c7
    refine Ex.cb (sX6_advance_5 fu hfu g2 L3 hI hJ) (fun x13 g14 L15 hq17 => ?_)
    obtain ⟨hI, hJ, kk0, kk1⟩ := hq17
    have hI : zI XT g14 := hI
    have hJ : pJ g14 := hJ
    have k0_0 : g14 2 2 = g0 2 2 := kk0.trans k0_0
    have k0_1 : g14 0 13 = g0 0 13 := kk1.trans k0_1
    exact J20 g14 L15 hI hJ k0_0 k0_1
