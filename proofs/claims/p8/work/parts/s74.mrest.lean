set_option maxHeartbeats 4000000 in
set_option maxRecDepth 100000 in
theorem sX12_chance (fu : Nat) (hfu : 1180591620717411303424 ≤ fu) (p1 : Int32) (p2 : Int32) (p3 : Int32) (g0 : Nat → Nat → Int32) (L0 : Nat → Nat → Int64) (hI : zI MT g0) (hJ : mJ g0) : Ex (fX12_chance fu p1 p2 p3 g0 L0) (fun (r : Int64) (g1 : Nat → Nat → Int32) (L1 : Nat → Nat → Int64) => zI MT g1 ∧ mJ g1 ∧ g1 0 18 = g0 0 18 ∧ g1 0 2 = g0 0 2) := by
  have k0_0 : g0 0 18 = g0 0 18 := rfl
  have k0_1 : g0 0 2 = g0 0 2 := rfl
  unfold fX12_chance
  refine Ex.sti (hI.updN rfl) (fun g1 g1e hI => ?_)
  have k0_0 : g1 0 18 = g0 0 18 := by rw [g1e]; exact k0_0
  have k0_1 : g1 0 2 = g0 0 2 := by rw [g1e]; exact k0_1
  have hJ : mJ g1 := by rw [g1e]; exact mJ.upd hJ rfl
  refine Ex.cb (sX12_isLesson fu hfu p1 g1 L0 hI hJ) (fun x2 g3 L4 hq6 => ?_)
  obtain ⟨hI, hJ, kk0, kk1, rb_, ip0⟩ := hq6
  have b7 : 0 ≤ (Int32.toInt x2) ∧ (Int32.toInt x2) ≤ 1 := rb_
  have ip8 : (Int32.toInt x2) = 1 → 0 ≤ (Int32.toInt p1) ∧ (Int32.toInt p1) ≤ 11 := ip0
  have hI : zI MT g3 := hI
  have hJ : mJ g3 := hJ
  have k0_0 : g3 0 18 = g0 0 18 := kk0.trans k0_0
  have k0_1 : g3 0 2 = g0 0 2 := kk1.trans k0_1
  have J38 : ∀ (g : Nat → Nat → Int32) (L : Nat → Nat → Int64), zI MT g → mJ g → g 0 18 = g0 0 18 → g 0 2 = g0 0 2 → Ex (fX12_chance_p38 fu g L) (fun (r : Int64) (g1 : Nat → Nat → Int32) (L1 : Nat → Nat → Int64) => zI MT g1 ∧ mJ g1 ∧ g1 0 18 = g0 0 18 ∧ g1 0 2 = g0 0 2) := by
    intro g L hI hJ k0_0 k0_1
    unfold fX12_chance_p38
    exact Ex.ret ⟨hI, hJ, k0_0, k0_1⟩
  refine Ex.ite (fun c9 => ?_) (fun c9 => ?_)
  ·
    have c9 := icc_eq (m := (Int32.toInt x2)) (n := 0) rfl (by decide) c9
    exact J38 g3 L4 hI hJ k0_0 k0_1
  ·
    have c9 := icc_neq (m := (Int32.toInt x2)) (n := 0) rfl (by decide) c9
    refine Ex.cb (sX12_isWhat fu hfu p3 1 g3 L4 hI hJ) (fun x10 g11 L12 hq14 => ?_)
    obtain ⟨hI, hJ, kk0, kk1, rb_, ip0⟩ := hq14
    have b15 : 0 ≤ (Int32.toInt x10) ∧ (Int32.toInt x10) ≤ 1 := rb_
    have ip16 : (Int32.toInt x10) = 1 → 0 ≤ (Int32.toInt p3) ∧ (Int32.toInt p3) ≤ 1 := ip0
    have hI : zI MT g11 := hI
    have hJ : mJ g11 := hJ
    have k0_0 : g11 0 18 = g0 0 18 := kk0.trans k0_0
    have k0_1 : g11 0 2 = g0 0 2 := kk1.trans k0_1
    refine Ex.ite (fun c17 => ?_) (fun c17 => ?_)
    ·
      have c17 := icc_eq (m := (Int32.toInt x10)) (n := 0) rfl (by decide) c17
      exact J38 g11 L12 hI hJ k0_0 k0_1
    ·
      have c17 := icc_neq (m := (Int32.toInt x10)) (n := 0) rfl (by decide) c17
      refine Ex.cb (sX12_within fu hfu p2 0 999 g11 L12 hI hJ) (fun x18 g19 L20 hq22 => ?_)
      obtain ⟨hI, hJ, kk0, kk1, kk2, kk3, kk4, rb_, ip0⟩ := hq22
      have b23 : 0 ≤ (Int32.toInt x18) ∧ (Int32.toInt x18) ≤ 1 := rb_
      have ip24 : (Int32.toInt x18) = 1 → 0 ≤ (Int32.toInt p2) ∧ (Int32.toInt p2) ≤ 999 := ip0
      have hI : zI MT g19 := hI
      have hJ : mJ g19 := hJ
      have k0_0 : g19 0 18 = g0 0 18 := kk3.trans k0_0
      have k0_1 : g19 0 2 = g0 0 2 := kk4.trans k0_1
      refine Ex.cb (sX12_right fu hfu x18 2 g19 L20 hI hJ (by omega) (by decide)) (fun x25 g26 L27 hq29 => ?_)
      obtain ⟨hI, hJ, kk0, kk1, rb_, ip0⟩ := hq29
      have b30 : 0 ≤ (Int32.toInt x25) ∧ (Int32.toInt x25) ≤ 1 := rb_
      have ip31 : (Int32.toInt x25) = 1 → 1 ≤ (Int32.toInt x18) ∧ (Int32.toInt x18) ≤ 1 := ip0
      have hI : zI MT g26 := hI
      have hJ : mJ g26 := hJ
      have k0_0 : g26 0 18 = g0 0 18 := kk0.trans k0_0
      have k0_1 : g26 0 2 = g0 0 2 := kk1.trans k0_1
      refine Ex.ite (fun c32 => ?_) (fun c32 => ?_)
      ·
        have c32 := icc_eq (m := (Int32.toInt x25)) (n := 0) rfl (by decide) c32
        exact J38 g26 L27 hI hJ k0_0 k0_1
      ·
        have c32 := icc_neq (m := (Int32.toInt x25)) (n := 0) rfl (by decide) c32
        refine Ex.cb (sX12_asks fu hfu g26 L27 hI hJ) (fun x33 g34 L35 hq37 => ?_)
        obtain ⟨hI, hJ, kk0, kk1⟩ := hq37
        have hI : zI MT g34 := hI
        have hJ : mJ g34 := hJ
        have k0_0 : g34 0 18 = g0 0 18 := kk0.trans k0_0
        have k0_1 : g34 0 2 = g0 0 2 := kk1.trans k0_1
        refine Ex.cb (sX12_weighs fu hfu p1 p2 g34 L35 hI hJ (by omega)) (fun x38 g39 L40 hq42 => ?_)
        obtain ⟨hI, hJ, kk0, kk1⟩ := hq42
        have hI : zI MT g39 := hI
        have hJ : mJ g39 := hJ
        have k0_0 : g39 0 18 = g0 0 18 := kk0.trans k0_0
        have k0_1 : g39 0 2 = g0 0 2 := kk1.trans k0_1
        refine Ex.cb (sX12_tens fu hfu g39 L40 hI hJ) (fun x43 g44 L45 hq47 => ?_)
        obtain ⟨hI, hJ, kk0, kk1, lp0_⟩ := hq47
        have lp48 : ¬ x43 = 0 := lp0_
        have hI : zI MT g44 := hI
        have hJ : mJ g44 := hJ
        have k0_0 : g44 0 18 = g0 0 18 := kk0.trans k0_0
        have k0_1 : g44 0 2 = g0 0 2 := kk1.trans k0_1
        refine Ex.cb (sX12_portion fu hfu x38 x43 p3 g44 L45 hI hJ (by assumption)) (fun x49 g50 L51 hq53 => ?_)
        obtain ⟨hI, hJ, kk0, kk1⟩ := hq53
        have hI : zI MT g50 := hI
        have hJ : mJ g50 := hJ
        have k0_0 : g50 0 18 = g0 0 18 := kk0.trans k0_0
        have k0_1 : g50 0 2 = g0 0 2 := kk1.trans k0_1
        exact Ex.ret ⟨hI, hJ, k0_0, k0_1⟩
set_option maxHeartbeats 4000000 in
set_option maxRecDepth 100000 in
theorem sX12_mean (fu : Nat) (hfu : 1180591620717411303424 ≤ fu) (p1 : Int32) (p2 : Int32) (g0 : Nat → Nat → Int32) (L0 : Nat → Nat → Int64) (hI : zI MT g0) (hJ : mJ g0) : Ex (fX12_mean fu p1 p2 g0 L0) (fun (r : Int64) (g1 : Nat → Nat → Int32) (L1 : Nat → Nat → Int64) => zI MT g1 ∧ mJ g1 ∧ g1 0 18 = g0 0 18 ∧ g1 0 2 = g0 0 2) := by
  have k0_0 : g0 0 18 = g0 0 18 := rfl
  have k0_1 : g0 0 2 = g0 0 2 := rfl
  unfold fX12_mean
  refine Ex.sti (hI.updN rfl) (fun g1 g1e hI => ?_)
  have k0_0 : g1 0 18 = g0 0 18 := by rw [g1e]; exact k0_0
  have k0_1 : g1 0 2 = g0 0 2 := by rw [g1e]; exact k0_1
  have hJ : mJ g1 := by rw [g1e]; exact mJ.upd hJ rfl
  refine Ex.cb (sX12_isLesson fu hfu p1 g1 L0 hI hJ) (fun x2 g3 L4 hq6 => ?_)
  obtain ⟨hI, hJ, kk0, kk1, rb_, ip0⟩ := hq6
  have b7 : 0 ≤ (Int32.toInt x2) ∧ (Int32.toInt x2) ≤ 1 := rb_
  have ip8 : (Int32.toInt x2) = 1 → 0 ≤ (Int32.toInt p1) ∧ (Int32.toInt p1) ≤ 11 := ip0
  have hI : zI MT g3 := hI
  have hJ : mJ g3 := hJ
  have k0_0 : g3 0 18 = g0 0 18 := kk0.trans k0_0
  have k0_1 : g3 0 2 = g0 0 2 := kk1.trans k0_1
  have J22 : ∀ (g : Nat → Nat → Int32) (L : Nat → Nat → Int64), zI MT g → mJ g → g 0 18 = g0 0 18 → g 0 2 = g0 0 2 → Ex (fX12_mean_p22 fu g L) (fun (r : Int64) (g1 : Nat → Nat → Int32) (L1 : Nat → Nat → Int64) => zI MT g1 ∧ mJ g1 ∧ g1 0 18 = g0 0 18 ∧ g1 0 2 = g0 0 2) := by
    intro g L hI hJ k0_0 k0_1
    unfold fX12_mean_p22
    exact Ex.ret ⟨hI, hJ, k0_0, k0_1⟩
  refine Ex.ite (fun c9 => ?_) (fun c9 => ?_)
  ·
    have c9 := icc_eq (m := (Int32.toInt x2)) (n := 0) rfl (by decide) c9
    exact J22 g3 L4 hI hJ k0_0 k0_1
  ·
    have c9 := icc_neq (m := (Int32.toInt x2)) (n := 0) rfl (by decide) c9
    refine Ex.cb (sX12_isWhat fu hfu p2 1 g3 L4 hI hJ) (fun x10 g11 L12 hq14 => ?_)
    obtain ⟨hI, hJ, kk0, kk1, rb_, ip0⟩ := hq14
    have b15 : 0 ≤ (Int32.toInt x10) ∧ (Int32.toInt x10) ≤ 1 := rb_
    have ip16 : (Int32.toInt x10) = 1 → 0 ≤ (Int32.toInt p2) ∧ (Int32.toInt p2) ≤ 1 := ip0
    have hI : zI MT g11 := hI
    have hJ : mJ g11 := hJ
    have k0_0 : g11 0 18 = g0 0 18 := kk0.trans k0_0
    have k0_1 : g11 0 2 = g0 0 2 := kk1.trans k0_1
    refine Ex.ite (fun c17 => ?_) (fun c17 => ?_)
    ·
      have c17 := icc_eq (m := (Int32.toInt x10)) (n := 0) rfl (by decide) c17
      exact J22 g11 L12 hI hJ k0_0 k0_1
    ·
      have c17 := icc_neq (m := (Int32.toInt x10)) (n := 0) rfl (by decide) c17
      refine Ex.cb (sX12_asks fu hfu g11 L12 hI hJ) (fun x18 g19 L20 hq22 => ?_)
      obtain ⟨hI, hJ, kk0, kk1⟩ := hq22
      have hI : zI MT g19 := hI
      have hJ : mJ g19 := hJ
      have k0_0 : g19 0 18 = g0 0 18 := kk0.trans k0_0
      have k0_1 : g19 0 2 = g0 0 2 := kk1.trans k0_1
      refine Ex.cb (sX12_weighs fu hfu p1 (-1) g19 L20 hI hJ (by omega)) (fun x23 g24 L25 hq27 => ?_)
      obtain ⟨hI, hJ, kk0, kk1⟩ := hq27
      have hI : zI MT g24 := hI
      have hJ : mJ g24 := hJ
      have k0_0 : g24 0 18 = g0 0 18 := kk0.trans k0_0
      have k0_1 : g24 0 2 = g0 0 2 := kk1.trans k0_1
      refine Ex.cb (sX12_tens fu hfu g24 L25 hI hJ) (fun x28 g29 L30 hq32 => ?_)
      obtain ⟨hI, hJ, kk0, kk1, lp0_⟩ := hq32
      have lp33 : ¬ x28 = 0 := lp0_
      have hI : zI MT g29 := hI
      have hJ : mJ g29 := hJ
      have k0_0 : g29 0 18 = g0 0 18 := kk0.trans k0_0
      have k0_1 : g29 0 2 = g0 0 2 := kk1.trans k0_1
      refine Ex.cb (sX12_portion fu hfu x23 x28 p2 g29 L30 hI hJ (by assumption)) (fun x34 g35 L36 hq38 => ?_)
      obtain ⟨hI, hJ, kk0, kk1⟩ := hq38
      have hI : zI MT g35 := hI
      have hJ : mJ g35 := hJ
      have k0_0 : g35 0 18 = g0 0 18 := kk0.trans k0_0
      have k0_1 : g35 0 2 = g0 0 2 := kk1.trans k0_1
      exact Ex.ret ⟨hI, hJ, k0_0, k0_1⟩
set_option maxHeartbeats 4000000 in
set_option maxRecDepth 100000 in
theorem sX12_become (fu : Nat) (hfu : 1180591620717411303424 ≤ fu) (p1 : Int32) (p2 : Int32) (p3 : Int32) (g0 : Nat → Nat → Int32) (L0 : Nat → Nat → Int64) (hI : zI MT g0) (hJ : mJ g0) : Ex (fX12_become fu p1 p2 p3 g0 L0) (fun (r : Int32) (g1 : Nat → Nat → Int32) (L1 : Nat → Nat → Int64) => zI MT g1 ∧ mJ g1 ∧ g1 0 18 = g0 0 18 ∧ g1 0 2 = g0 0 2) := by
  have k0_0 : g0 0 18 = g0 0 18 := rfl
  have k0_1 : g0 0 2 = g0 0 2 := rfl
  unfold fX12_become
  refine Ex.sti (hI.updN rfl) (fun g1 g1e hI => ?_)
  have k0_0 : g1 0 18 = g0 0 18 := by rw [g1e]; exact k0_0
  have k0_1 : g1 0 2 = g0 0 2 := by rw [g1e]; exact k0_1
  have hJ : mJ g1 := by rw [g1e]; exact mJ.upd hJ rfl
  refine Ex.cb (sX12_isLesson fu hfu p1 g1 L0 hI hJ) (fun x2 g3 L4 hq6 => ?_)
  obtain ⟨hI, hJ, kk0, kk1, rb_, ip0⟩ := hq6
  have b7 : 0 ≤ (Int32.toInt x2) ∧ (Int32.toInt x2) ≤ 1 := rb_
  have ip8 : (Int32.toInt x2) = 1 → 0 ≤ (Int32.toInt p1) ∧ (Int32.toInt p1) ≤ 11 := ip0
  have hI : zI MT g3 := hI
  have hJ : mJ g3 := hJ
  have k0_0 : g3 0 18 = g0 0 18 := kk0.trans k0_0
  have k0_1 : g3 0 2 = g0 0 2 := kk1.trans k0_1
  have J22 : ∀ (g : Nat → Nat → Int32) (L : Nat → Nat → Int64), zI MT g → mJ g → g 0 18 = g0 0 18 → g 0 2 = g0 0 2 → Ex (fX12_become_p22 fu g L) (fun (r : Int32) (g1 : Nat → Nat → Int32) (L1 : Nat → Nat → Int64) => zI MT g1 ∧ mJ g1 ∧ g1 0 18 = g0 0 18 ∧ g1 0 2 = g0 0 2) := by
    intro g L hI hJ k0_0 k0_1
    unfold fX12_become_p22
    exact Ex.ret ⟨hI, hJ, k0_0, k0_1⟩
  refine Ex.ite (fun c9 => ?_) (fun c9 => ?_)
  ·
    have c9 := icc_eq (m := (Int32.toInt x2)) (n := 0) rfl (by decide) c9
    exact J22 g3 L4 hI hJ k0_0 k0_1
  ·
    have c9 := icc_neq (m := (Int32.toInt x2)) (n := 0) rfl (by decide) c9
    refine Ex.cb (sX12_isWhat fu hfu p2 3 g3 L4 hI hJ) (fun x10 g11 L12 hq14 => ?_)
    obtain ⟨hI, hJ, kk0, kk1, rb_, ip0⟩ := hq14
    have b15 : 0 ≤ (Int32.toInt x10) ∧ (Int32.toInt x10) ≤ 1 := rb_
    have ip16 : (Int32.toInt x10) = 1 → 0 ≤ (Int32.toInt p2) ∧ (Int32.toInt p2) ≤ 3 := ip0
    have hI : zI MT g11 := hI
    have hJ : mJ g11 := hJ
    have k0_0 : g11 0 18 = g0 0 18 := kk0.trans k0_0
    have k0_1 : g11 0 2 = g0 0 2 := kk1.trans k0_1
    refine Ex.ite (fun c17 => ?_) (fun c17 => ?_)
    ·
      have c17 := icc_eq (m := (Int32.toInt x10)) (n := 0) rfl (by decide) c17
      exact J22 g11 L12 hI hJ k0_0 k0_1
    ·
      have c17 := icc_neq (m := (Int32.toInt x10)) (n := 0) rfl (by decide) c17
      have J57 : ∀ (v1 : Int32) (v2 : Int32) (v3 : Int32) (t0 : Int32) (t1 : Int32) (t2 : Int32) (g : Nat → Nat → Int32) (L : Nat → Nat → Int64), (0 ≤ (Int32.toInt v1) ∧ (Int32.toInt v1) ≤ 11) → (0 ≤ (Int32.toInt v2) ∧ (Int32.toInt v2) ≤ 3) → (9 ≤ (Int32.toInt t0) ∧ (Int32.toInt t0) ≤ 99) → (0 ≤ (Int32.toInt t1) ∧ (Int32.toInt t1) ≤ 0) → zI MT g → mJ g → g 0 18 = g0 0 18 → g 0 2 = g0 0 2 → Ex (fX12_become_p57 fu v1 v2 v3 t0 t1 t2 g L) (fun (r : Int32) (g1 : Nat → Nat → Int32) (L1 : Nat → Nat → Int64) => zI MT g1 ∧ mJ g1 ∧ g1 0 18 = g0 0 18 ∧ g1 0 2 = g0 0 2) := by
        intro v1 v2 v3 t0 t1 t2 g L hb_v1 hb_v2 hb_t0 hb_t1 hI hJ k0_0 k0_1
        unfold fX12_become_p57
        refine Ex.cb (sX12_within fu hfu t2 t1 t0 g L hI hJ) (fun x18 g19 L20 hq22 => ?_)
        obtain ⟨hI, hJ, kk0, kk1, kk2, kk3, kk4, rb_, ip0⟩ := hq22
        have b23 : 0 ≤ (Int32.toInt x18) ∧ (Int32.toInt x18) ≤ 1 := rb_
        have ip24 : (Int32.toInt x18) = 1 → (Int32.toInt t1) ≤ (Int32.toInt t2) ∧ (Int32.toInt t2) ≤ (Int32.toInt t0) := ip0
        have hI : zI MT g19 := hI
        have hJ : mJ g19 := hJ
        have k0_0 : g19 0 18 = g0 0 18 := kk3.trans k0_0
        have k0_1 : g19 0 2 = g0 0 2 := kk4.trans k0_1
        refine Ex.ite (fun c25 => ?_) (fun c25 => ?_)
        ·
          have c25 := icc_eq (m := (Int32.toInt x18)) (n := 0) rfl (by decide) c25
          refine Ex.cb (sX12_refuses fu hfu 1 g19 L20 hI hJ (by decide)) (fun x26 g27 L28 hq30 => ?_)
          obtain ⟨hI, hJ, kk0, kk1, rb_⟩ := hq30
          have b31 : (-1) ≤ (Int32.toInt x26) ∧ (Int32.toInt x26) ≤ (-1) := rb_
          have hI : zI MT g27 := hI
          have hJ : mJ g27 := hJ
          have k0_0 : g27 0 18 = g0 0 18 := kk0.trans k0_0
          have k0_1 : g27 0 2 = g0 0 2 := kk1.trans k0_1
          exact Ex.ret ⟨hI, hJ, k0_0, k0_1⟩
        ·
          have c25 := icc_neq (m := (Int32.toInt x18)) (n := 0) rfl (by decide) c25
          generalize z32q : (12 * v2) = z32
          have e33 : (Int32.toInt z32) = 12 * (Int32.toInt v2) := by rw [← z32q]; exact ic_mulc (by decide) rfl (by omega) (by omega)
          generalize z34q : (z32 + v1) = z34
          have e35 : (Int32.toInt z34) = (Int32.toInt z32) + (Int32.toInt v1) := by rw [← z34q]; exact ic_addc rfl rfl (by omega) (by omega)
          refine Ex.lti (fun x36 x36e x36i => ?_)
          refine Ex.ck (by omega) (by omega) ?_
          refine Ex.lti (fun x37 x37e x37i => ?_)
          refine Ex.cb (sX12_keeps fu hfu x36 x37 g19 L20 hI hJ (by first | omega | decide) (by intro _; omega)) (fun x38 g39 L40 hq42 => ?_)
          obtain ⟨hI, hJ, kk0, kk1⟩ := hq42
          have hI : zI MT g39 := hI
          have hJ : mJ g39 := hJ
          have k0_0 : g39 0 18 = g0 0 18 := kk0.trans k0_0
          have k0_1 : g39 0 2 = g0 0 2 := kk1.trans k0_1
          refine Ex.ck (by omega) (by omega) ?_
          refine Ex.sti (hI.updN rfl) (fun g43 g43e hI => ?_)
          have k0_0 : g43 0 18 = g0 0 18 := by rw [g43e]; exact k0_0
          have k0_1 : g43 0 2 = g0 0 2 := by rw [g43e]; exact k0_1
          have hJ : mJ g43 := by rw [g43e]; exact mJ.upd hJ rfl
          exact Ex.ret ⟨hI, hJ, k0_0, k0_1⟩
      refine Ex.ite (fun c44 => ?_) (fun c44 => ?_)
      ·
        have c44 := icc_eq (m := (Int32.toInt p2)) (n := 0) rfl (by decide) c44
        exact J57 p1 p2 p3 60 0 p3 g11 L12 (by omega) (by omega) (by decide) (by decide) hI hJ k0_0 k0_1
      ·
        have c44 := icc_neq (m := (Int32.toInt p2)) (n := 0) rfl (by decide) c44
        refine Ex.ite (fun c45 => ?_) (fun c45 => ?_)
        ·
          have c45 := icc_eq (m := (Int32.toInt p2)) (n := 1) rfl (by decide) c45
          exact J57 p1 p2 p3 30 0 p3 g11 L12 (by omega) (by omega) (by decide) (by decide) hI hJ k0_0 k0_1
        ·
          have c45 := icc_neq (m := (Int32.toInt p2)) (n := 1) rfl (by decide) c45
          refine Ex.ite (fun c46 => ?_) (fun c46 => ?_)
          ·
            have c46 := icc_eq (m := (Int32.toInt p2)) (n := 2) rfl (by decide) c46
            exact J57 p1 p2 p3 9 0 p3 g11 L12 (by omega) (by omega) (by decide) (by decide) hI hJ k0_0 k0_1
          ·
            have c46 := icc_neq (m := (Int32.toInt p2)) (n := 2) rfl (by decide) c46
            exact J57 p1 p2 p3 99 0 p3 g11 L12 (by omega) (by omega) (by decide) (by decide) hI hJ k0_0 k0_1
set_option maxHeartbeats 4000000 in
set_option maxRecDepth 100000 in
theorem sX12_obey (fu : Nat) (hfu : 1180591620717411303424 ≤ fu) (p1 : Int32) (g0 : Nat → Nat → Int32) (L0 : Nat → Nat → Int64) (hI : zI MT g0) (hJ : mJ g0) : Ex (fX12_obey fu p1 g0 L0) (fun (r : Int32) (g1 : Nat → Nat → Int32) (L1 : Nat → Nat → Int64) => zI MT g1 ∧ mJ g1 ∧ g1 0 18 = g0 0 18 ∧ g1 0 2 = g0 0 2 ∧ (0 ≤ (Int32.toInt r) ∧ (Int32.toInt r) ≤ 1)) := by
  have k0_0 : g0 0 18 = g0 0 18 := rfl
  have k0_1 : g0 0 2 = g0 0 2 := rfl
  have w1_0 := hI 0 2 0 4 rfl
  unfold fX12_obey
  refine Ex.sti (hI.updN rfl) (fun g1 g1e hI => ?_)
  have w2 : (Int32.toInt (g1 0 2)) = (Int32.toInt (g0 0 2)) := by rw [g1e]; rfl
  have k0_0 : g1 0 18 = g0 0 18 := by rw [g1e]; exact k0_0
  have k0_1 : g1 0 2 = g0 0 2 := by rw [g1e]; exact k0_1
  have hJ : mJ g1 := by rw [g1e]; exact mJ.upd hJ rfl
  have J18 : ∀ (g : Nat → Nat → Int32) (L : Nat → Nat → Int64), (0 ≤ (Int32.toInt (g 0 2)) ∧ (Int32.toInt (g 0 2)) ≤ 4) → zI MT g → mJ g → g 0 18 = g0 0 18 → g 0 2 = g0 0 2 → Ex (fX12_obey_p18 fu g L) (fun (r : Int32) (g1 : Nat → Nat → Int32) (L1 : Nat → Nat → Int64) => zI MT g1 ∧ mJ g1 ∧ g1 0 18 = g0 0 18 ∧ g1 0 2 = g0 0 2 ∧ (0 ≤ (Int32.toInt r) ∧ (Int32.toInt r) ≤ 1)) := by
    intro g L hw_0_2 hI hJ k0_0 k0_1
    unfold fX12_obey_p18
    refine Ex.cb (sX12_refuses fu hfu 1 g L hI hJ (by decide)) (fun x3 g4 L5 hq7 => ?_)
    obtain ⟨hI, hJ, kk0, kk1, rb_⟩ := hq7
    have b8 : (-1) ≤ (Int32.toInt x3) ∧ (Int32.toInt x3) ≤ (-1) := rb_
    have hI : zI MT g4 := hI
    have hJ : mJ g4 := hJ
    have w9 : (Int32.toInt (g4 0 2)) = (Int32.toInt (g 0 2)) := congrArg Int32.toInt kk1
    have k0_0 : g4 0 18 = g0 0 18 := kk0.trans k0_0
    have k0_1 : g4 0 2 = g0 0 2 := kk1.trans k0_1
    have J31 : ∀ (t0 : Int32) (g : Nat → Nat → Int32) (L : Nat → Nat → Int64), (0 ≤ (Int32.toInt t0) ∧ (Int32.toInt t0) ≤ 0) → (0 ≤ (Int32.toInt (g 0 2)) ∧ (Int32.toInt (g 0 2)) ≤ 4) → zI MT g → mJ g → g 0 18 = g0 0 18 → g 0 2 = g0 0 2 → Ex (fX12_obey_p31 fu t0 g L) (fun (r : Int32) (g1 : Nat → Nat → Int32) (L1 : Nat → Nat → Int64) => zI MT g1 ∧ mJ g1 ∧ g1 0 18 = g0 0 18 ∧ g1 0 2 = g0 0 2 ∧ (0 ≤ (Int32.toInt r) ∧ (Int32.toInt r) ≤ 1)) := by
      intro t0 g L hb_t0 hw_0_2 hI hJ k0_0 k0_1
      unfold fX12_obey_p31
      refine Ex.ckb (z_bool (by omega)) ?_
      exact Ex.ret ⟨hI, hJ, k0_0, k0_1, (by omega)⟩
    refine Ex.ite (fun c10 => ?_) (fun c10 => ?_)
    ·
      have c10 := icc_le (m := (Int32.toInt x3)) (n := 0) rfl (by decide) c10
      exact J31 0 g4 L5 (by decide) (by omega) hI hJ k0_0 k0_1
    ·
      have c10 := icc_nle (m := (Int32.toInt x3)) (n := 0) rfl (by decide) c10
      omega
  refine Ex.ite (fun c11 => ?_) (fun c11 => ?_)
  ·
    have c11 := icc_lt (m := (Int32.toInt p1)) (n := (-1)) rfl (by decide) c11
    exact J18 g1 L0 (by omega) hI hJ k0_0 k0_1
  ·
    have c11 := icc_nlt (m := (Int32.toInt p1)) (n := (-1)) rfl (by decide) c11
    have b12 : 0 ≤ (Int32.toInt (g1 0 2)) ∧ (Int32.toInt (g1 0 2)) ≤ 4 := hI 0 2 0 4 rfl
    refine Ex.ite (fun c13 => ?_) (fun c13 => ?_)
    ·
      have c13 := icc_lt (m := (Int32.toInt p1)) (n := (Int32.toInt (g1 0 2))) rfl rfl c13
      have b14 : (-1) ≤ (Int32.toInt (g1 0 52)) ∧ (Int32.toInt (g1 0 52)) ≤ 3 := hI 0 52 (-1) 3 rfl
      have hm_ := hJ.2.1
      refine Ex.cb (sX12_keeps fu hfu 48 (g1 0 52) g1 L0 hI hJ (by first | omega | decide) (by intro _; omega)) (fun x15 g16 L17 hq19 => ?_)
      obtain ⟨hI, hJ, kk0, kk1⟩ := hq19
      have hI : zI MT g16 := hI
      have hJ : mJ g16 := hJ
      have w20 : (Int32.toInt (g16 0 2)) = (Int32.toInt (g1 0 2)) := congrArg Int32.toInt kk1
      have k0_0 : g16 0 18 = g0 0 18 := kk0.trans k0_0
      have k0_1 : g16 0 2 = g0 0 2 := kk1.trans k0_1
      refine Ex.sti (hI.upd rfl (by omega) (by omega)) (fun g21 g21e hI => ?_)
      have w22 : (Int32.toInt (g21 0 2)) = (Int32.toInt (g16 0 2)) := by rw [g21e]; rfl
      have k0_0 : g21 0 18 = g0 0 18 := by rw [g21e]; exact k0_0
      have k0_1 : g21 0 2 = g0 0 2 := by rw [g21e]; exact k0_1
      have hJ : mJ g21 := by rw [g21e]; exact mJ.force hJ (by omega)
      refine Ex.ckb rfl ?_
      exact Ex.ret ⟨hI, hJ, k0_0, k0_1, (by decide)⟩
    ·
      have c13 := icc_nlt (m := (Int32.toInt p1)) (n := (Int32.toInt (g1 0 2))) rfl rfl c13
      exact J18 g1 L0 (by omega) hI hJ k0_0 k0_1
set_option maxHeartbeats 4000000 in
set_option maxRecDepth 100000 in
theorem sX12_chain (fu : Nat) (hfu : 1180591620717411303424 ≤ fu) (p1 : Int32) (p2 : Int32) (g0 : Nat → Nat → Int32) (L0 : Nat → Nat → Int64) (hI : zI MT g0) (hJ : mJ g0) : Ex (fX12_chain fu p1 p2 g0 L0) (fun (r : Int32) (g1 : Nat → Nat → Int32) (L1 : Nat → Nat → Int64) => zI MT g1 ∧ mJ g1 ∧ g1 0 18 = g0 0 18 ∧ g1 0 2 = g0 0 2 ∧ ((-1) ≤ (Int32.toInt r) ∧ (Int32.toInt r) ≤ 11)) := by
  have k0_0 : g0 0 18 = g0 0 18 := rfl
  have k0_1 : g0 0 2 = g0 0 2 := rfl
  unfold fX12_chain
  refine Ex.sti (hI.updN rfl) (fun g1 g1e hI => ?_)
  have k0_0 : g1 0 18 = g0 0 18 := by rw [g1e]; exact k0_0
  have k0_1 : g1 0 2 = g0 0 2 := by rw [g1e]; exact k0_1
  have hJ : mJ g1 := by rw [g1e]; exact mJ.upd hJ rfl
  refine Ex.cb (sX12_isLesson fu hfu p1 g1 L0 hI hJ) (fun x2 g3 L4 hq6 => ?_)
  obtain ⟨hI, hJ, kk0, kk1, rb_, ip0⟩ := hq6
  have b7 : 0 ≤ (Int32.toInt x2) ∧ (Int32.toInt x2) ≤ 1 := rb_
  have ip8 : (Int32.toInt x2) = 1 → 0 ≤ (Int32.toInt p1) ∧ (Int32.toInt p1) ≤ 11 := ip0
  have hI : zI MT g3 := hI
  have hJ : mJ g3 := hJ
  have k0_0 : g3 0 18 = g0 0 18 := kk0.trans k0_0
  have k0_1 : g3 0 2 = g0 0 2 := kk1.trans k0_1
  have J30 : ∀ (g : Nat → Nat → Int32) (L : Nat → Nat → Int64), zI MT g → mJ g → g 0 18 = g0 0 18 → g 0 2 = g0 0 2 → Ex (fX12_chain_p30 fu g L) (fun (r : Int32) (g1 : Nat → Nat → Int32) (L1 : Nat → Nat → Int64) => zI MT g1 ∧ mJ g1 ∧ g1 0 18 = g0 0 18 ∧ g1 0 2 = g0 0 2 ∧ ((-1) ≤ (Int32.toInt r) ∧ (Int32.toInt r) ≤ 11)) := by
    intro g L hI hJ k0_0 k0_1
    unfold fX12_chain_p30
    exact Ex.ret ⟨hI, hJ, k0_0, k0_1, (by decide)⟩
  refine Ex.ite (fun c9 => ?_) (fun c9 => ?_)
  ·
    have rg10 := ic_rg x2
    have c9 := icc_eq (m := (Int32.toInt x2)) (n := 0) rfl (by decide) c9
    exact J30 g3 L4 hI hJ k0_0 k0_1
  ·
    have rg11 := ic_rg x2
    have c9 := icc_neq (m := (Int32.toInt x2)) (n := 0) rfl (by decide) c9
    have J23 : ∀ (v1 : Int32) (v2 : Int32) (t0 : Int32) (g : Nat → Nat → Int32) (L : Nat → Nat → Int64), (0 ≤ (Int32.toInt v1) ∧ (Int32.toInt v1) ≤ 11) → (0 ≤ (Int32.toInt t0) ∧ (Int32.toInt t0) ≤ 1) → zI MT g → mJ g → g 0 18 = g0 0 18 → g 0 2 = g0 0 2 → Ex (fX12_chain_p23 fu v1 v2 t0 g L) (fun (r : Int32) (g1 : Nat → Nat → Int32) (L1 : Nat → Nat → Int64) => zI MT g1 ∧ mJ g1 ∧ g1 0 18 = g0 0 18 ∧ g1 0 2 = g0 0 2 ∧ ((-1) ≤ (Int32.toInt r) ∧ (Int32.toInt r) ≤ 11)) := by
      intro v1 v2 t0 g L hb_v1 hb_t0 hI hJ k0_0 k0_1
      unfold fX12_chain_p23
      refine Ex.cb (sX12_right fu hfu t0 1 g L hI hJ (by omega) (by decide)) (fun x12 g13 L14 hq16 => ?_)
      obtain ⟨hI, hJ, kk0, kk1, rb_, ip0⟩ := hq16
      have b17 : 0 ≤ (Int32.toInt x12) ∧ (Int32.toInt x12) ≤ 1 := rb_
      have ip18 : (Int32.toInt x12) = 1 → 1 ≤ (Int32.toInt t0) ∧ (Int32.toInt t0) ≤ 1 := ip0
      have hI : zI MT g13 := hI
      have hJ : mJ g13 := hJ
      have k0_0 : g13 0 18 = g0 0 18 := kk0.trans k0_0
      have k0_1 : g13 0 2 = g0 0 2 := kk1.trans k0_1
      refine Ex.ite (fun c19 => ?_) (fun c19 => ?_)
      ·
        have rg20 := ic_rg x12
        have c19 := icc_eq (m := (Int32.toInt x12)) (n := 0) rfl (by decide) c19
        exact J30 g13 L14 hI hJ k0_0 k0_1
      ·
        have rg21 := ic_rg x12
        have c19 := icc_neq (m := (Int32.toInt x12)) (n := 0) rfl (by decide) c19
        refine Ex.cb (sX12_works0 fu hfu g13 L14 hI hJ) (fun x22 g23 L24 hq26 => ?_)
        obtain ⟨hI, hJ, kk0, kk1⟩ := hq26
        have hI : zI MT g23 := hI
        have hJ : mJ g23 := hJ
        have k0_0 : g23 0 18 = g0 0 18 := kk0.trans k0_0
        have k0_1 : g23 0 2 = g0 0 2 := kk1.trans k0_1
        have lp41 : ∀ (v2 : Int32) (v3 : Int32) (v4 : Int32) (g : Nat → Nat → Int32) (L : Nat → Nat → Int64), ((-1) ≤ (Int32.toInt v3) ∧ (Int32.toInt v3) ≤ 11) → (0 ≤ (Int32.toInt v4)) → zI MT g → mJ g → g 0 18 = g0 0 18 → g 0 2 = g0 0 2 → Ex (fX12_chain_l41 fu v2 v3 v4 g L) (fun (r : Int32) (g1 : Nat → Nat → Int32) (L1 : Nat → Nat → Int64) => zI MT g1 ∧ mJ g1 ∧ g1 0 18 = g0 0 18 ∧ g1 0 2 = g0 0 2 ∧ ((-1) ≤ (Int32.toInt r) ∧ (Int32.toInt r) ≤ 11)) := by
          intro v2 v3 v4 g L hb_v3 hb_v4 hI hJ k0_0 k0_1
          unfold fX12_chain_l41
          have rg27 := ic_rg v2
          have rg28 := ic_rg v3
          have rg29 := ic_rg v4
          refine Ex.loop (fun v => (((-1) ≤ (Int32.toInt (v.1)) ∧ (Int32.toInt (v.1)) ≤ 11)) ∧ ((0 ≤ (Int32.toInt (v.2.1)))) ∧ (zI MT (v.2.2.1)) ∧ (mJ (v.2.2.1)) ∧ ((v.2.2.1) 0 18 = g0 0 18) ∧ ((v.2.2.1) 0 2 = g0 0 2)) (fun v => (Int32.toInt v2) - (Int32.toInt (v.2.1))) (by omega) (by show (Int32.toInt v2) - (Int32.toInt v4) < (fu : Int); omega) ⟨hb_v3, hb_v4, hI, hJ, k0_0, k0_1⟩ (fun k41 v hv ih41 => ?_)
          obtain ⟨v3, v4, g, L⟩ := v
          obtain ⟨hb_v3, hb_v4, hI, hJ, k0_0, k0_1⟩ := hv
          have hb_v3 : ((-1) ≤ (Int32.toInt v3) ∧ (Int32.toInt v3) ≤ 11) := hb_v3
          have hb_v4 : (0 ≤ (Int32.toInt v4)) := hb_v4
          have hI : zI MT g := hI
          have hJ : mJ g := hJ
          have k0_0 : g 0 18 = g0 0 18 := k0_0
          have k0_1 : g 0 2 = g0 0 2 := k0_1
          have ih41 : ∀ v' : Int32 × Int32 × (Nat → Nat → Int32) × (Nat → Nat → Int64), ((((-1) ≤ (Int32.toInt (v'.1)) ∧ (Int32.toInt (v'.1)) ≤ 11)) ∧ ((0 ≤ (Int32.toInt (v'.2.1)))) ∧ (zI MT (v'.2.2.1)) ∧ (mJ (v'.2.2.1)) ∧ ((v'.2.2.1) 0 18 = g0 0 18) ∧ ((v'.2.2.1) 0 2 = g0 0 2)) → (Int32.toInt v2) - (Int32.toInt (v'.2.1)) < (Int32.toInt v2) - (Int32.toInt v4) → 0 < (Int32.toInt v2) - (Int32.toInt v4) → Ex (k41 v') (fun (r : Int32) (g1 : Nat → Nat → Int32) (L1 : Nat → Nat → Int64) => zI MT g1 ∧ mJ g1 ∧ g1 0 18 = g0 0 18 ∧ g1 0 2 = g0 0 2 ∧ ((-1) ≤ (Int32.toInt r) ∧ (Int32.toInt r) ≤ 11)) := ih41
          show Ex (fX12_chain_s41 fu v2 k41 v3 v4 g L) (fun (r : Int32) (g1 : Nat → Nat → Int32) (L1 : Nat → Nat → Int64) => zI MT g1 ∧ mJ g1 ∧ g1 0 18 = g0 0 18 ∧ g1 0 2 = g0 0 2 ∧ ((-1) ≤ (Int32.toInt r) ∧ (Int32.toInt r) ≤ 11))
          unfold fX12_chain_s41
          have J65 : ∀ (v3 : Int32) (g : Nat → Nat → Int32) (L : Nat → Nat → Int64), ((-1) ≤ (Int32.toInt v3) ∧ (Int32.toInt v3) ≤ 11) → zI MT g → mJ g → g 0 18 = g0 0 18 → g 0 2 = g0 0 2 → Ex (fX12_chain_p65 fu v3 g L) (fun (r : Int32) (g1 : Nat → Nat → Int32) (L1 : Nat → Nat → Int64) => zI MT g1 ∧ mJ g1 ∧ g1 0 18 = g0 0 18 ∧ g1 0 2 = g0 0 2 ∧ ((-1) ≤ (Int32.toInt r) ∧ (Int32.toInt r) ≤ 11)) := by
            intro v3 g L hb_v3 hI hJ k0_0 k0_1
            unfold fX12_chain_p65
            exact Ex.ret ⟨hI, hJ, k0_0, k0_1, (by omega)⟩
          refine Ex.ite (fun c30 => ?_) (fun c30 => ?_)
          ·
            have rg31 := ic_rg v4
            have rg32 := ic_rg v2
            have c30 := icc_le (m := (Int32.toInt v2)) (n := (Int32.toInt v4)) rfl rfl c30
            exact J65 v3 g L (by omega) hI hJ k0_0 k0_1
          ·
            have rg33 := ic_rg v4
            have rg34 := ic_rg v2
            have c30 := icc_nle (m := (Int32.toInt v2)) (n := (Int32.toInt v4)) rfl rfl c30
            refine Ex.ite (fun c35 => ?_) (fun c35 => ?_)
            ·
              have rg36 := ic_rg v3
              have c35 := icc_eq (m := (Int32.toInt v3)) (n := (-1)) rfl (by decide) c35
              exact J65 v3 g L (by omega) hI hJ k0_0 k0_1
            ·
              have rg37 := ic_rg v3
              have c35 := icc_neq (m := (Int32.toInt v3)) (n := (-1)) rfl (by decide) c35
              refine Ex.ck (by omega) (by omega) ?_
              have b38 : (-1) ≤ (Int32.toInt (g 34 (Int32.toNatClampNeg v3))) ∧ (Int32.toInt (g 34 (Int32.toNatClampNeg v3))) ≤ 11 := hI 34 _ (-1) 11 rfl
              refine Ex.lti (fun x39 x39e x39i => ?_)
              generalize z40q : (v4 + 1) = z40
              have e41 : (Int32.toInt z40) = (Int32.toInt v4) + 1 := by rw [← z40q]; exact ic_addc rfl (by decide) (by omega) (by omega)
              exact ih41 (x39, z40, g, L) ⟨(show ((-1) ≤ (Int32.toInt x39) ∧ (Int32.toInt x39) ≤ 11) from by omega), (show (0 ≤ (Int32.toInt z40)) from by omega), hI, hJ, k0_0, k0_1⟩ (by show (Int32.toInt v2) - (Int32.toInt z40) < _; omega) (by omega)
        exact lp41 v2 v1 0 g23 L24 (by omega) (by decide) hI hJ k0_0 k0_1
    refine Ex.ite (fun c42 => ?_) (fun c42 => ?_)
    ·
      have rg43 := ic_rg p2
      have c42 := icc_lt (m := (Int32.toInt p2)) (n := 0) rfl (by decide) c42
      exact J23 p1 p2 0 g3 L4 (by omega) (by decide) hI hJ k0_0 k0_1
    ·
      have rg44 := ic_rg p2
      have c42 := icc_nlt (m := (Int32.toInt p2)) (n := 0) rfl (by decide) c42
      exact J23 p1 p2 1 g3 L4 (by omega) (by decide) hI hJ k0_0 k0_1
