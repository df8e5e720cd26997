set_option maxHeartbeats 4000000 in
set_option maxRecDepth 100000 in
theorem sX11_put_0 (fu : Nat) (hfu : 1180591620717411303424 ≤ fu) (p1 : Int32) (g0 : Nat → Nat → Int32) (L0 : Nat → Nat → Int64) (hI : zI XT g0) (hc0 : (g0 0 13).toInt ≤ 696) : Ex (fX11_put_0 fu p1 g0 L0) (fun (r : Unit) (g1 : Nat → Nat → Int32) (L1 : Nat → Nat → Int64) => zI XT g1 ∧ ((g1 0 13).toInt = (g0 0 13).toInt + 4)) := by
  have w1_0 := hI 0 13 0 700 rfl
  unfold fX11_put_0
  have lp3 : ∀ (v1 : Int32) (v2 : Int32) (g : Nat → Nat → Int32) (L : Nat → Nat → Int64), ((-8) ≤ (Int32.toInt v2) ∧ (Int32.toInt v2) ≤ 24) → (0 ≤ (Int32.toInt (g 0 13)) ∧ (Int32.toInt (g 0 13)) ≤ 700) → (8 * (Int32.toInt (g 0 13)) + (Int32.toInt v2) = 8 * (Int32.toInt (g0 0 13)) + 24) → zI XT g → Ex (fX11_put_0_l3 fu v1 v2 g L) (fun (r : Unit) (g1 : Nat → Nat → Int32) (L1 : Nat → Nat → Int64) => zI XT g1 ∧ ((g1 0 13).toInt = (g0 0 13).toInt + 4)) := by
    intro v1 v2 g L hb_v2 hw_0_13 hn_0 hI
    unfold fX11_put_0_l3
    refine Ex.loop (fun v => (((-8) ≤ (Int32.toInt (v.1)) ∧ (Int32.toInt (v.1)) ≤ 24)) ∧ ((0 ≤ (Int32.toInt ((v.2.1) 0 13)) ∧ (Int32.toInt ((v.2.1) 0 13)) ≤ 700)) ∧ ((8 * (Int32.toInt ((v.2.1) 0 13)) + (Int32.toInt (v.1)) = 8 * (Int32.toInt (g0 0 13)) + 24)) ∧ (zI XT (v.2.1))) (fun v => (Int32.toInt (v.1)) - (-9)) (by omega) (by show (Int32.toInt v2) - (-9) < (fu : Int); omega) ⟨hb_v2, hw_0_13, hn_0, hI⟩ (fun k3 v hv ih3 => ?_)
    obtain ⟨v2, g, L⟩ := v
    obtain ⟨hb_v2, hw_0_13, hn_0, hI⟩ := hv
    have hb_v2 : ((-8) ≤ (Int32.toInt v2) ∧ (Int32.toInt v2) ≤ 24) := hb_v2
    have hw_0_13 : (0 ≤ (Int32.toInt (g 0 13)) ∧ (Int32.toInt (g 0 13)) ≤ 700) := hw_0_13
    have hn_0 : (8 * (Int32.toInt (g 0 13)) + (Int32.toInt v2) = 8 * (Int32.toInt (g0 0 13)) + 24) := hn_0
    have hI : zI XT g := hI
    have ih3 : ∀ v' : Int32 × (Nat → Nat → Int32) × (Nat → Nat → Int64), ((((-8) ≤ (Int32.toInt (v'.1)) ∧ (Int32.toInt (v'.1)) ≤ 24)) ∧ ((0 ≤ (Int32.toInt ((v'.2.1) 0 13)) ∧ (Int32.toInt ((v'.2.1) 0 13)) ≤ 700)) ∧ ((8 * (Int32.toInt ((v'.2.1) 0 13)) + (Int32.toInt (v'.1)) = 8 * (Int32.toInt (g0 0 13)) + 24)) ∧ (zI XT (v'.2.1))) → (Int32.toInt (v'.1)) - (-9) < (Int32.toInt v2) - (-9) → 0 < (Int32.toInt v2) - (-9) → Ex (k3 v') (fun (r : Unit) (g1 : Nat → Nat → Int32) (L1 : Nat → Nat → Int64) => zI XT g1 ∧ ((g1 0 13).toInt = (g0 0 13).toInt + 4)) := ih3
    show Ex (fX11_put_0_s3 fu v1 k3 v2 g L) (fun (r : Unit) (g1 : Nat → Nat → Int32) (L1 : Nat → Nat → Int64) => zI XT g1 ∧ ((g1 0 13).toInt = (g0 0 13).toInt + 4))
    unfold fX11_put_0_s3
    refine Ex.ite (fun c1 => ?_) (fun c1 => ?_)
    ·
      have c1 := icc_lt (m := (Int32.toInt v2)) (n := 0) rfl (by decide) c1
      exact Ex.ret ⟨hI, (by show (g 0 13).toInt = (g0 0 13).toInt + 4; omega)⟩
    ·
      have c1 := icc_nlt (m := (Int32.toInt v2)) (n := 0) rfl (by decide) c1
      have J45 : ∀ (g : Nat → Nat → Int32) (L : Nat → Nat → Int64), (0 ≤ (Int32.toInt v2) ∧ (Int32.toInt v2) ≤ 24) → (1 ≤ (Int32.toInt (g 0 13)) ∧ (Int32.toInt (g 0 13)) ≤ 700) → (8 * (Int32.toInt (g 0 13)) + (Int32.toInt v2) = 8 * (Int32.toInt (g0 0 13)) + 32) → zI XT g → Ex (fX11_put_0_p45 fu k3 v1 v2 g L) (fun (r : Unit) (g1 : Nat → Nat → Int32) (L1 : Nat → Nat → Int64) => zI XT g1 ∧ ((g1 0 13).toInt = (g0 0 13).toInt + 4)) := by
        intro g L hb_v2 hw_0_13 hn_0 hI
        unfold fX11_put_0_p45
        generalize z2q : (v2 + (-8)) = z2
        have e3 : (Int32.toInt z2) = (Int32.toInt v2) + (-8) := by rw [← z2q]; exact ic_addc rfl (by decide) (by omega) (by omega)
        exact ih3 (z2, g, L) ⟨(show ((-8) ≤ (Int32.toInt z2) ∧ (Int32.toInt z2) ≤ 24) from by omega), (show (0 ≤ (Int32.toInt (g 0 13)) ∧ (Int32.toInt (g 0 13)) ≤ 700) from by omega), (show (8 * (Int32.toInt (g 0 13)) + (Int32.toInt z2) = 8 * (Int32.toInt (g0 0 13)) + 24) from by omega), hI⟩ (by show (Int32.toInt z2) - (-9) < _; omega) (by omega)
      refine Ex.ite (fun c4 => ?_) (fun c4 => ?_)
      ·
        have c4 := icc_le (m := 700) (n := (Int32.toInt (g 0 13))) (by decide) rfl c4
        exact J45 g L (by omega) (by omega) (by omega) hI
      ·
        have c4 := icc_nle (m := 700) (n := (Int32.toInt (g 0 13))) (by decide) rfl c4
        generalize z5q : (Int32.toUInt32 v1 >>> (Int32.toUInt32 v2 &&& Int32.toUInt32 31)).toInt32 = z5
        generalize z6q : (z5 &&& 255) = z6
        have b7 : 0 ≤ (Int32.toInt z6) ∧ (Int32.toInt z6) ≤ 255 := by rw [← z6q]; exact ic_and255 _
        refine Ex.ck (by omega) (by omega) ?_
        refine Ex.sti (hI.upd rfl (by omega) (by omega)) (fun g8 g8e hI => ?_)
        have w9 : (Int32.toInt (g8 0 13)) = (Int32.toInt (g 0 13)) := by rw [g8e]; rfl
        generalize z10q : ((g8 0 13) + 1) = z10
        have e11 : (Int32.toInt z10) = (Int32.toInt (g8 0 13)) + 1 := by rw [← z10q]; exact ic_addc rfl (by decide) (by omega) (by omega)
        refine Ex.sti (hI.upd rfl (by omega) (by omega)) (fun g12 g12e hI => ?_)
        have w13 : (Int32.toInt (g12 0 13)) = (Int32.toInt z10) := by rw [g12e, upd2_at]
        exact J45 g12 L (by omega) (by omega) (by omega) hI
  have hc_ : (24 : Int32).toInt = 24 := by decide
  exact lp3 p1 24 g0 L0 (by decide) (by omega) (by omega) hI
set_option maxHeartbeats 4000000 in
set_option maxRecDepth 100000 in
theorem sX11_feed_0 (fu : Nat) (hfu : 1180591620717411303424 ≤ fu) (p1 : Int32) (p2 : Int32) (p3 : Int32) (p4 : Int32) (p5 : Int32) (g0 : Nat → Nat → Int32) (L0 : Nat → Nat → Int64) (hI : zI XT g0) : Ex (fX11_feed_0 fu p1 p2 p3 p4 p5 g0 L0) (fun (r : Int32) (g1 : Nat → Nat → Int32) (L1 : Nat → Nat → Int64) => zI XT g1 ∧ (((g0 0 13).toInt ≤ 680 → (Int32.toInt r) = (g0 0 13).toInt + 20 ∧ (g1 0 13).toInt = (g0 0 13).toInt + 20) ∧ (680 < (g0 0 13).toInt → (Int32.toInt r) = -1 ∧ (g1 0 13).toInt = (g0 0 13).toInt)) ∧ ((-1) ≤ (Int32.toInt r) ∧ (Int32.toInt r) ≤ 700)) := by
  have w1_0 := hI 0 13 0 700 rfl
  unfold fX11_feed_0
  generalize z1q : ((g0 0 13) + 20) = z1
  have e2 : (Int32.toInt z1) = (Int32.toInt (g0 0 13)) + 20 := by rw [← z1q]; exact ic_addc rfl (by decide) (by omega) (by omega)
  refine Ex.ite (fun c3 => ?_) (fun c3 => ?_)
  ·
    have c3 := icc_le (m := (Int32.toInt z1)) (n := 700) rfl (by decide) c3
    refine Ex.cb (sX11_put_0 fu hfu p1 g0 L0 hI (by omega)) (fun x4 g5 L6 hq8 => ?_)
    obtain ⟨hI, cp0⟩ := hq8
    have hI : zI XT g5 := hI
    have cp0 : (g5 0 13).toInt = (g0 0 13).toInt + 4 := cp0
    refine Ex.cb (sX11_put_0 fu hfu p2 g5 L6 hI (by omega)) (fun x9 g10 L11 hq13 => ?_)
    obtain ⟨hI, cp0⟩ := hq13
    have hI : zI XT g10 := hI
    have cp0 : (g10 0 13).toInt = (g5 0 13).toInt + 4 := cp0
    refine Ex.cb (sX11_put_0 fu hfu p3 g10 L11 hI (by omega)) (fun x14 g15 L16 hq18 => ?_)
    obtain ⟨hI, cp0⟩ := hq18
    have hI : zI XT g15 := hI
    have cp0 : (g15 0 13).toInt = (g10 0 13).toInt + 4 := cp0
    refine Ex.cb (sX11_put_0 fu hfu p4 g15 L16 hI (by omega)) (fun x19 g20 L21 hq23 => ?_)
    obtain ⟨hI, cp0⟩ := hq23
    have hI : zI XT g20 := hI
    have cp0 : (g20 0 13).toInt = (g15 0 13).toInt + 4 := cp0
    refine Ex.cb (sX11_put_0 fu hfu p5 g20 L21 hI (by omega)) (fun x24 g25 L26 hq28 => ?_)
    obtain ⟨hI, cp0⟩ := hq28
    have hI : zI XT g25 := hI
    have cp0 : (g25 0 13).toInt = (g20 0 13).toInt + 4 := cp0
    have b29 : 0 ≤ (Int32.toInt (g25 0 13)) ∧ (Int32.toInt (g25 0 13)) ≤ 700 := hI 0 13 0 700 rfl
    exact Ex.ret ⟨hI, (by show ((g0 0 13).toInt ≤ 680 → (Int32.toInt (g25 0 13)) = (g0 0 13).toInt + 20 ∧ (g25 0 13).toInt = (g0 0 13).toInt + 20) ∧ (680 < (g0 0 13).toInt → (Int32.toInt (g25 0 13)) = -1 ∧ (g25 0 13).toInt = (g0 0 13).toInt); omega), (by omega)⟩
  ·
    have c3 := icc_nle (m := (Int32.toInt z1)) (n := 700) rfl (by decide) c3
    exact Ex.ret ⟨hI, (by show ((g0 0 13).toInt ≤ 680 → (-1) = (g0 0 13).toInt + 20 ∧ (g0 0 13).toInt = (g0 0 13).toInt + 20) ∧ (680 < (g0 0 13).toInt → (-1) = -1 ∧ (g0 0 13).toInt = (g0 0 13).toInt); omega), (by decide)⟩
set_option maxHeartbeats 4000000 in
set_option maxRecDepth 100000 in
theorem sX11_fault_0 (fu : Nat) (hfu : 1180591620717411303424 ≤ fu) (g0 : Nat → Nat → Int32) (L0 : Nat → Nat → Int64) (hI : zI XT g0) : Ex (fX11_fault_0 fu g0 L0) (fun (r : Int32) (g1 : Nat → Nat → Int32) (L1 : Nat → Nat → Int64) => zI XT g1 ∧ g1 0 13 = g0 0 13) := by
  have k0_0 : g0 0 13 = g0 0 13 := rfl
  unfold fX11_fault_0
  exact Ex.ret ⟨hI, k0_0⟩
set_option maxHeartbeats 4000000 in
set_option maxRecDepth 100000 in
theorem sX11_needWhat (fu : Nat) (hfu : 1180591620717411303424 ≤ fu) (p1 : Int32) (p2 : Int32) (g0 : Nat → Nat → Int32) (L0 : Nat → Nat → Int64) (hI : zI XT g0) : Ex (fX11_needWhat fu p1 p2 g0 L0) (fun (r : Except String Unit) (g1 : Nat → Nat → Int32) (L1 : Nat → Nat → Int64) => zI XT g1 ∧ g1 0 13 = g0 0 13 ∧ (∀ E, r = .error E → E = "java/util/NoSuchElementException") ∧ (∀ r1, r = .ok r1 → True)) := by
  have k0_0 : g0 0 13 = g0 0 13 := rfl
  unfold fX11_needWhat
  have J9 : ∀ (g : Nat → Nat → Int32) (L : Nat → Nat → Int64), zI XT g → g 0 13 = g0 0 13 → Ex (fX11_needWhat_p9 fu g L) (fun (r : Except String Unit) (g1 : Nat → Nat → Int32) (L1 : Nat → Nat → Int64) => zI XT g1 ∧ g1 0 13 = g0 0 13 ∧ (∀ E, r = .error E → E = "java/util/NoSuchElementException") ∧ (∀ r1, r = .ok r1 → True)) := by
    intro g L hI k0_0
    unfold fX11_needWhat_p9
    exact Ex.ret ⟨hI, k0_0, (fun E_ e_ => by cases e_; exact rfl), (fun r_ e_ => nomatch e_)⟩
  refine Ex.ite (fun c1 => ?_) (fun c1 => ?_)
  ·
    have c1 := icc_lt (m := (Int32.toInt p1)) (n := 0) rfl (by decide) c1
    exact J9 g0 L0 hI k0_0
  ·
    have c1 := icc_nlt (m := (Int32.toInt p1)) (n := 0) rfl (by decide) c1
    refine Ex.ite (fun c2 => ?_) (fun c2 => ?_)
    ·
      have c2 := icc_lt (m := (Int32.toInt p1)) (n := (Int32.toInt p2)) rfl rfl c2
      exact Ex.ret ⟨hI, k0_0, (fun _ e_ => nomatch e_), (fun _ _ => trivial)⟩
    ·
      have c2 := icc_nlt (m := (Int32.toInt p1)) (n := (Int32.toInt p2)) rfl rfl c2
      exact J9 g0 L0 hI k0_0
set_option maxHeartbeats 4000000 in
set_option maxRecDepth 100000 in
theorem sX11_countOfDay_0 (fu : Nat) (hfu : 1180591620717411303424 ≤ fu) (p1 : Int32) (g0 : Nat → Nat → Int32) (L0 : Nat → Nat → Int64) (hI : zI XT g0) : Ex (fX11_countOfDay_0 fu p1 g0 L0) (fun (r : Int32) (g1 : Nat → Nat → Int32) (L1 : Nat → Nat → Int64) => zI XT g1 ∧ g1 0 13 = g0 0 13) := by
  have k0_0 : g0 0 13 = g0 0 13 := rfl
  unfold fX11_countOfDay_0
  refine Ex.cb (sX1_runFrom_8 fu hfu 0 g0 L0 hI (by decide)) (fun x1 g2 L3 hq5 => ?_)
  obtain ⟨hI, kk0⟩ := hq5
  have hI : zI XT g2 := hI
  have k0_0 : g2 0 13 = g0 0 13 := kk0.trans k0_0
  refine Ex.ite (fun c6 => ?_) (fun c6 => ?_)
  ·
    refine Ex.cb (sX1_lost_8 fu hfu g2 L3 hI) (fun x7 g8 L9 hq11 => ?_)
    obtain ⟨hI, kk0⟩ := hq11
    have hI : zI XT g8 := hI
    have k0_0 : g8 0 13 = g0 0 13 := kk0.trans k0_0
    exact Ex.ret ⟨hI, k0_0⟩
  ·
    refine Ex.ite (fun c12 => ?_) (fun c12 => ?_)
    ·
      refine Ex.cb (sX1_lateOnes_8 fu hfu g2 L3 hI) (fun x13 g14 L15 hq17 => ?_)
      obtain ⟨hI, kk0⟩ := hq17
      have hI : zI XT g14 := hI
      have k0_0 : g14 0 13 = g0 0 13 := kk0.trans k0_0
      exact Ex.ret ⟨hI, k0_0⟩
    ·
      refine Ex.ite (fun c18 => ?_) (fun c18 => ?_)
      ·
        refine Ex.cb (sX1_latest_8 fu hfu g2 L3 hI) (fun x19 g20 L21 hq23 => ?_)
        obtain ⟨hI, kk0, rb_⟩ := hq23
        have b24 : 0 ≤ (Int32.toInt x19) := rb_
        have hI : zI XT g20 := hI
        have k0_0 : g20 0 13 = g0 0 13 := kk0.trans k0_0
        exact Ex.ret ⟨hI, k0_0⟩
      ·
        refine Ex.cb (sX1_begunLater_8 fu hfu g2 L3 hI) (fun x25 g26 L27 hq29 => ?_)
        obtain ⟨hI, kk0⟩ := hq29
        have hI : zI XT g26 := hI
        have k0_0 : g26 0 13 = g0 0 13 := kk0.trans k0_0
        exact Ex.ret ⟨hI, k0_0⟩
set_option maxHeartbeats 4000000 in
set_option maxRecDepth 100000 in
theorem sX11_count_0 (fu : Nat) (hfu : 1180591620717411303424 ≤ fu) (p1 : Int32) (g0 : Nat → Nat → Int32) (L0 : Nat → Nat → Int64) (hI : zI XT g0) : Ex (fX11_count_0 fu p1 g0 L0) (fun (r : Except String Int32) (g1 : Nat → Nat → Int32) (L1 : Nat → Nat → Int64) => zI XT g1 ∧ g1 0 13 = g0 0 13 ∧ (∀ E, r = .error E → E = "java/util/NoSuchElementException") ∧ (∀ r1, r = .ok r1 → True)) := by
  have k0_0 : g0 0 13 = g0 0 13 := rfl
  unfold fX11_count_0
  refine Ex.cbx (sX11_needWhat fu hfu p1 15 g0 L0 hI) (fun E_ g2 L3 hq5 => ?_) (fun x1 g2 L3 hq5 => ?_)
  ·
    obtain ⟨hI, kk0, er, _⟩ := hq5
    exact ⟨hI, kk0.trans k0_0, (fun E9_ e_ => by cases e_; exact id (er _ rfl)), (fun r_ e_ => nomatch e_)⟩
  ·
    obtain ⟨hI, kk0, _, ok_⟩ := hq5
    have hI : zI XT g2 := hI
    have k0_0 : g2 0 13 = g0 0 13 := kk0.trans k0_0
    refine Ex.ite (fun c6 => ?_) (fun c6 => ?_)
    ·
      have b7 : 0 ≤ (Int32.toInt (g2 1 2)) ∧ (Int32.toInt (g2 1 2)) ≤ 12 := hI 1 2 0 12 rfl
      exact Ex.ret ⟨hI, k0_0, (fun _ e_ => nomatch e_), (fun _ _ => trivial)⟩
    ·
      refine Ex.ite (fun c8 => ?_) (fun c8 => ?_)
      ·
        have b9 : 0 ≤ (Int32.toInt (g2 3 3)) ∧ (Int32.toInt (g2 3 3)) ≤ 4 := hI 3 3 0 4 rfl
        exact Ex.ret ⟨hI, k0_0, (fun _ e_ => nomatch e_), (fun _ _ => trivial)⟩
      ·
        refine Ex.ite (fun c10 => ?_) (fun c10 => ?_)
        ·
          exact Ex.ret ⟨hI, k0_0, (fun _ e_ => nomatch e_), (fun _ _ => trivial)⟩
        ·
          refine Ex.ite (fun c11 => ?_) (fun c11 => ?_)
          ·
            exact Ex.ret ⟨hI, k0_0, (fun _ e_ => nomatch e_), (fun _ _ => trivial)⟩
          ·
            refine Ex.ite (fun c12 => ?_) (fun c12 => ?_)
            ·
              exact Ex.ret ⟨hI, k0_0, (fun _ e_ => nomatch e_), (fun _ _ => trivial)⟩
            ·
              refine Ex.ite (fun c13 => ?_) (fun c13 => ?_)
              ·
                have b14 : 0 ≤ (Int32.toInt (g2 6 9)) ∧ (Int32.toInt (g2 6 9)) ≤ 40 := hI 6 9 0 40 rfl
                exact Ex.ret ⟨hI, k0_0, (fun _ e_ => nomatch e_), (fun _ _ => trivial)⟩
              ·
                refine Ex.ite (fun c15 => ?_) (fun c15 => ?_)
                ·
                  have b16 : 0 ≤ (Int32.toInt (g2 6 10)) ∧ (Int32.toInt (g2 6 10)) ≤ 8 := hI 6 10 0 8 rfl
                  exact Ex.ret ⟨hI, k0_0, (fun _ e_ => nomatch e_), (fun _ _ => trivial)⟩
                ·
                  refine Ex.ite (fun c17 => ?_) (fun c17 => ?_)
                  ·
                    refine Ex.cb (sX11_countOfDay_0 fu hfu p1 g2 L3 hI) (fun x18 g19 L20 hq22 => ?_)
                    obtain ⟨hI, kk0⟩ := hq22
                    have hI : zI XT g19 := hI
                    have k0_0 : g19 0 13 = g0 0 13 := kk0.trans k0_0
                    exact Ex.ret ⟨hI, k0_0, (fun _ e_ => nomatch e_), (fun _ _ => trivial)⟩
                  ·
                    refine Ex.ite (fun c23 => ?_) (fun c23 => ?_)
                    ·
                      have b24 : 0 ≤ (Int32.toInt (g2 0 13)) ∧ (Int32.toInt (g2 0 13)) ≤ 700 := hI 0 13 0 700 rfl
                      exact Ex.ret ⟨hI, k0_0, (fun _ e_ => nomatch e_), (fun _ _ => trivial)⟩
                    ·
                      refine Ex.ite (fun c25 => ?_) (fun c25 => ?_)
                      ·
                        refine Ex.ck (by decide) (by decide) ?_
                        exact Ex.ret ⟨hI, k0_0, (fun _ e_ => nomatch e_), (fun _ _ => trivial)⟩
                      ·
                        refine Ex.ite (fun c26 => ?_) (fun c26 => ?_)
                        ·
                          refine Ex.ck (by decide) (by decide) ?_
                          exact Ex.ret ⟨hI, k0_0, (fun _ e_ => nomatch e_), (fun _ _ => trivial)⟩
                        ·
                          refine Ex.ite (fun c27 => ?_) (fun c27 => ?_)
                          ·
                            refine Ex.ck (by decide) (by decide) ?_
                            exact Ex.ret ⟨hI, k0_0, (fun _ e_ => nomatch e_), (fun _ _ => trivial)⟩
                          ·
                            refine Ex.cb (sX11_countOfDay_0 fu hfu p1 g2 L3 hI) (fun x28 g29 L30 hq32 => ?_)
                            obtain ⟨hI, kk0⟩ := hq32
                            have hI : zI XT g29 := hI
                            have k0_0 : g29 0 13 = g0 0 13 := kk0.trans k0_0
                            exact Ex.ret ⟨hI, k0_0, (fun _ e_ => nomatch e_), (fun _ _ => trivial)⟩
set_option maxHeartbeats 4000000 in
set_option maxRecDepth 100000 in
theorem sX11_needLesson_0 (fu : Nat) (hfu : 1180591620717411303424 ≤ fu) (p1 : Int32) (g0 : Nat → Nat → Int32) (L0 : Nat → Nat → Int64) (hI : zI XT g0) : Ex (fX11_needLesson_0 fu p1 g0 L0) (fun (r : Except String Unit) (g1 : Nat → Nat → Int32) (L1 : Nat → Nat → Int64) => zI XT g1 ∧ g1 0 13 = g0 0 13 ∧ (∀ E, r = .error E → E = "java/util/NoSuchElementException") ∧ (∀ r1, r = .ok r1 → True) ∧ (∀ r1, r = .ok r1 → 0 ≤ (Int32.toInt p1) ∧ (Int32.toInt p1) ≤ 11)) := by
  have k0_0 : g0 0 13 = g0 0 13 := rfl
  unfold fX11_needLesson_0
  have J15 : ∀ (g : Nat → Nat → Int32) (L : Nat → Nat → Int64), zI XT g → g 0 13 = g0 0 13 → Ex (fX11_needLesson_0_p15 fu g L) (fun (r : Except String Unit) (g1 : Nat → Nat → Int32) (L1 : Nat → Nat → Int64) => zI XT g1 ∧ g1 0 13 = g0 0 13 ∧ (∀ E, r = .error E → E = "java/util/NoSuchElementException") ∧ (∀ r1, r = .ok r1 → True) ∧ (∀ r1, r = .ok r1 → 0 ≤ (Int32.toInt p1) ∧ (Int32.toInt p1) ≤ 11)) := by
    intro g L hI k0_0
    unfold fX11_needLesson_0_p15
    exact Ex.ret ⟨hI, k0_0, (fun E_ e_ => by cases e_; exact rfl), (fun r_ e_ => nomatch e_), (fun r_ e_ => nomatch e_)⟩
  refine Ex.ite (fun c1 => ?_) (fun c1 => ?_)
  ·
    have c1 := icc_lt (m := (Int32.toInt p1)) (n := 0) rfl (by decide) c1
    exact J15 g0 L0 hI k0_0
  ·
    have c1 := icc_nlt (m := (Int32.toInt p1)) (n := 0) rfl (by decide) c1
    have b2 : 0 ≤ (Int32.toInt (g0 1 2)) ∧ (Int32.toInt (g0 1 2)) ≤ 12 := hI 1 2 0 12 rfl
    refine Ex.ite (fun c3 => ?_) (fun c3 => ?_)
    ·
      have c3 := icc_lt (m := (Int32.toInt p1)) (n := (Int32.toInt (g0 1 2))) rfl rfl c3
      exact Ex.ret ⟨hI, k0_0, (fun _ e_ => nomatch e_), (fun _ _ => trivial), (fun _ _ => by omega)⟩
    ·
      have c3 := icc_nlt (m := (Int32.toInt p1)) (n := (Int32.toInt (g0 1 2))) rfl rfl c3
      exact J15 g0 L0 hI k0_0
set_option maxHeartbeats 4000000 in
set_option maxRecDepth 100000 in
theorem sX11_lesson_0 (fu : Nat) (hfu : 1180591620717411303424 ≤ fu) (p1 : Int32) (p2 : Int32) (g0 : Nat → Nat → Int32) (L0 : Nat → Nat → Int64) (hI : zI XT g0) : Ex (fX11_lesson_0 fu p1 p2 g0 L0) (fun (r : Except String Int32) (g1 : Nat → Nat → Int32) (L1 : Nat → Nat → Int64) => zI XT g1 ∧ g1 0 13 = g0 0 13 ∧ (∀ E, r = .error E → E = "java/util/NoSuchElementException") ∧ (∀ r1, r = .ok r1 → True)) := by
  have k0_0 : g0 0 13 = g0 0 13 := rfl
  unfold fX11_lesson_0
  refine Ex.cbx (sX11_needLesson_0 fu hfu p1 g0 L0 hI) (fun E_ g2 L3 hq5 => ?_) (fun x1 g2 L3 hq5 => ?_)
  ·
    obtain ⟨hI, kk0, er, _, _⟩ := hq5
    exact ⟨hI, kk0.trans k0_0, (fun E9_ e_ => by cases e_; exact id (er _ rfl)), (fun r_ e_ => nomatch e_)⟩
  ·
    obtain ⟨hI, kk0, _, ok_, ap0⟩ := hq5
    have b6 : 0 ≤ (Int32.toInt p1) ∧ (Int32.toInt p1) ≤ 11 := ap0 _ rfl
    have hI : zI XT g2 := hI
    have k0_0 : g2 0 13 = g0 0 13 := kk0.trans k0_0
    refine Ex.cbx (sX11_needWhat fu hfu p2 12 g2 L3 hI) (fun E_ g8 L9 hq11 => ?_) (fun x7 g8 L9 hq11 => ?_)
    ·
      obtain ⟨hI, kk0, er, _⟩ := hq11
      exact ⟨hI, kk0.trans k0_0, (fun E9_ e_ => by cases e_; exact id (er _ rfl)), (fun r_ e_ => nomatch e_)⟩
    ·
      obtain ⟨hI, kk0, _, ok_⟩ := hq11
      have hI : zI XT g8 := hI
      have k0_0 : g8 0 13 = g0 0 13 := kk0.trans k0_0
      refine Ex.ck (by omega) (by omega) ?_
      refine Ex.ltn (fun q12 q12e => ?_)
      have q12b : 57 ≤ q12 ∧ q12 < 69 := by have := Nat.mod_lt (Int32.toNatClampNeg p1) (show 12 > 0 by decide); omega
      refine Ex.ite (fun c13 => ?_) (fun c13 => ?_)
      ·
        exact Ex.ret ⟨hI, k0_0, (fun _ e_ => nomatch e_), (fun _ _ => trivial)⟩
      ·
        refine Ex.ite (fun c14 => ?_) (fun c14 => ?_)
        ·
          exact Ex.ret ⟨hI, k0_0, (fun _ e_ => nomatch e_), (fun _ _ => trivial)⟩
        ·
          refine Ex.ite (fun c15 => ?_) (fun c15 => ?_)
          ·
            exact Ex.ret ⟨hI, k0_0, (fun _ e_ => nomatch e_), (fun _ _ => trivial)⟩
          ·
            refine Ex.ite (fun c16 => ?_) (fun c16 => ?_)
            ·
              refine Ex.ck (by omega) (by omega) ?_
              exact Ex.ret ⟨hI, k0_0, (fun _ e_ => nomatch e_), (fun _ _ => trivial)⟩
            ·
              refine Ex.ite (fun c17 => ?_) (fun c17 => ?_)
              ·
                refine Ex.ck (by omega) (by omega) ?_
                exact Ex.ret ⟨hI, k0_0, (fun _ e_ => nomatch e_), (fun _ _ => trivial)⟩
              ·
                refine Ex.ite (fun c18 => ?_) (fun c18 => ?_)
                ·
                  exact Ex.ret ⟨hI, k0_0, (fun _ e_ => nomatch e_), (fun _ _ => trivial)⟩
                ·
                  refine Ex.ite (fun c19 => ?_) (fun c19 => ?_)
                  ·
                    exact Ex.ret ⟨hI, k0_0, (fun _ e_ => nomatch e_), (fun _ _ => trivial)⟩
                  ·
                    refine Ex.ite (fun c20 => ?_) (fun c20 => ?_)
                    ·
                      exact Ex.ret ⟨hI, k0_0, (fun _ e_ => nomatch e_), (fun _ _ => trivial)⟩
                    ·
                      refine Ex.ite (fun c21 => ?_) (fun c21 => ?_)
                      ·
                        exact Ex.ret ⟨hI, k0_0, (fun _ e_ => nomatch e_), (fun _ _ => trivial)⟩
                      ·
                        refine Ex.ite (fun c22 => ?_) (fun c22 => ?_)
                        ·
                          refine Ex.ck (by omega) (by omega) ?_
                          exact Ex.ret ⟨hI, k0_0, (fun _ e_ => nomatch e_), (fun _ _ => trivial)⟩
                        ·
                          refine Ex.ite (fun c23 => ?_) (fun c23 => ?_)
                          ·
                            exact Ex.ret ⟨hI, k0_0, (fun _ e_ => nomatch e_), (fun _ _ => trivial)⟩
                          ·
                            refine Ex.ck (by omega) (by omega) ?_
                            exact Ex.ret ⟨hI, k0_0, (fun _ e_ => nomatch e_), (fun _ _ => trivial)⟩
set_option maxHeartbeats 4000000 in
set_option maxRecDepth 100000 in
theorem sX11_day_0 (fu : Nat) (hfu : 1180591620717411303424 ≤ fu) (p1 : Int32) (p2 : Int32) (g0 : Nat → Nat → Int32) (L0 : Nat → Nat → Int64) (hI : zI XT g0) : Ex (fX11_day_0 fu p1 p2 g0 L0) (fun (r : Except String Int32) (g1 : Nat → Nat → Int32) (L1 : Nat → Nat → Int64) => zI XT g1 ∧ g1 0 13 = g0 0 13 ∧ (∀ E, r = .error E → E = "java/util/NoSuchElementException") ∧ (∀ r1, r = .ok r1 → True)) := by
  have k0_0 : g0 0 13 = g0 0 13 := rfl
  unfold fX11_day_0
  refine Ex.cbx (sX11_needLesson_0 fu hfu p1 g0 L0 hI) (fun E_ g2 L3 hq5 => ?_) (fun x1 g2 L3 hq5 => ?_)
  ·
    obtain ⟨hI, kk0, er, _, _⟩ := hq5
    exact ⟨hI, kk0.trans k0_0, (fun E9_ e_ => by cases e_; exact id (er _ rfl)), (fun r_ e_ => nomatch e_)⟩
  ·
    obtain ⟨hI, kk0, _, ok_, ap0⟩ := hq5
    have b6 : 0 ≤ (Int32.toInt p1) ∧ (Int32.toInt p1) ≤ 11 := ap0 _ rfl
    have hI : zI XT g2 := hI
    have k0_0 : g2 0 13 = g0 0 13 := kk0.trans k0_0
    refine Ex.cbx (sX11_needWhat fu hfu p2 5 g2 L3 hI) (fun E_ g8 L9 hq11 => ?_) (fun x7 g8 L9 hq11 => ?_)
    ·
      obtain ⟨hI, kk0, er, _⟩ := hq11
      exact ⟨hI, kk0.trans k0_0, (fun E9_ e_ => by cases e_; exact id (er _ rfl)), (fun r_ e_ => nomatch e_)⟩
    ·
      obtain ⟨hI, kk0, _, ok_⟩ := hq11
      have hI : zI XT g8 := hI
      have k0_0 : g8 0 13 = g0 0 13 := kk0.trans k0_0
      refine Ex.cb (sX1_runFrom_8 fu hfu 0 g8 L9 hI (by decide)) (fun x12 g13 L14 hq16 => ?_)
      obtain ⟨hI, kk0⟩ := hq16
      have hI : zI XT g13 := hI
      have k0_0 : g13 0 13 = g0 0 13 := kk0.trans k0_0
      refine Ex.ite (fun c17 => ?_) (fun c17 => ?_)
      ·
        refine Ex.ck (by omega) (by omega) ?_
        exact Ex.ret ⟨hI, k0_0, (fun _ e_ => nomatch e_), (fun _ _ => trivial)⟩
      ·
        refine Ex.ite (fun c18 => ?_) (fun c18 => ?_)
        ·
          refine Ex.ck (by omega) (by omega) ?_
          exact Ex.ret ⟨hI, k0_0, (fun _ e_ => nomatch e_), (fun _ _ => trivial)⟩
        ·
          refine Ex.ite (fun c19 => ?_) (fun c19 => ?_)
          ·
            refine Ex.cb (sX1_late_8 fu hfu p1 g13 L14 hI (by omega)) (fun x20 g21 L22 hq24 => ?_)
            obtain ⟨hI, kk0⟩ := hq24
            have hI : zI XT g21 := hI
            have k0_0 : g21 0 13 = g0 0 13 := kk0.trans k0_0
            exact Ex.ret ⟨hI, k0_0, (fun _ e_ => nomatch e_), (fun _ _ => trivial)⟩
          ·
            refine Ex.ite (fun c25 => ?_) (fun c25 => ?_)
            ·
              refine Ex.ck (by omega) (by omega) ?_
              exact Ex.ret ⟨hI, k0_0, (fun _ e_ => nomatch e_), (fun _ _ => trivial)⟩
            ·
              refine Ex.ck (by omega) (by omega) ?_
              have b26 : (-1) ≤ (Int32.toInt (g13 46 (Int32.toNatClampNeg p1))) ∧ (Int32.toInt (g13 46 (Int32.toNatClampNeg p1))) ≤ 11 := hI 46 _ (-1) 11 rfl
              exact Ex.ret ⟨hI, k0_0, (fun _ e_ => nomatch e_), (fun _ _ => trivial)⟩
set_option maxHeartbeats 4000000 in
set_option maxRecDepth 100000 in
theorem sX11_chain_0 (fu : Nat) (hfu : 1180591620717411303424 ≤ fu) (p1 : Int32) (p2 : Int32) (g0 : Nat → Nat → Int32) (L0 : Nat → Nat → Int64) (hI : zI XT g0) : Ex (fX11_chain_0 fu p1 p2 g0 L0) (fun (r : Except String Int32) (g1 : Nat → Nat → Int32) (L1 : Nat → Nat → Int64) => zI XT g1 ∧ g1 0 13 = g0 0 13 ∧ (∀ E, r = .error E → E = "java/util/NoSuchElementException") ∧ (∀ r1, r = .ok r1 → (-1) ≤ (Int32.toInt r1) ∧ (Int32.toInt r1) ≤ 11)) := by
  have k0_0 : g0 0 13 = g0 0 13 := rfl
  unfold fX11_chain_0
  refine Ex.cbx (sX11_needLesson_0 fu hfu p1 g0 L0 hI) (fun E_ g2 L3 hq5 => ?_) (fun x1 g2 L3 hq5 => ?_)
  ·
    obtain ⟨hI, kk0, er, _, _⟩ := hq5
    exact ⟨hI, kk0.trans k0_0, (fun E9_ e_ => by cases e_; exact id (er _ rfl)), (fun r_ e_ => nomatch e_)⟩
  ·
    obtain ⟨hI, kk0, _, ok_, ap0⟩ := hq5
    have b6 : 0 ≤ (Int32.toInt p1) ∧ (Int32.toInt p1) ≤ 11 := ap0 _ rfl
    have hI : zI XT g2 := hI
    have k0_0 : g2 0 13 = g0 0 13 := kk0.trans k0_0
    refine Ex.ite (fun c7 => ?_) (fun c7 => ?_)
    ·
      have c7 := icc_le (m := 0) (n := (Int32.toInt p2)) (by decide) rfl c7
      refine Ex.cb (sX1_runFrom_8 fu hfu 0 g2 L3 hI (by decide)) (fun x8 g9 L10 hq12 => ?_)
      obtain ⟨hI, kk0⟩ := hq12
      have hI : zI XT g9 := hI
      have k0_0 : g9 0 13 = g0 0 13 := kk0.trans k0_0
      have lp30 : ∀ (v2 : Int32) (v3 : Int32) (v4 : Int32) (g : Nat → Nat → Int32) (L : Nat → Nat → Int64), (0 ≤ (Int32.toInt v2)) → ((-1) ≤ (Int32.toInt v3) ∧ (Int32.toInt v3) ≤ 11) → (0 ≤ (Int32.toInt v4) ∧ (Int32.toInt v4) ≤ 12) → zI XT g → g 0 13 = g0 0 13 → Ex (fX11_chain_0_l30 fu v2 v3 v4 g L) (fun (r : Except String Int32) (g1 : Nat → Nat → Int32) (L1 : Nat → Nat → Int64) => zI XT g1 ∧ g1 0 13 = g0 0 13 ∧ (∀ E, r = .error E → E = "java/util/NoSuchElementException") ∧ (∀ r1, r = .ok r1 → (-1) ≤ (Int32.toInt r1) ∧ (Int32.toInt r1) ≤ 11)) := by
        intro v2 v3 v4 g L hb_v2 hb_v3 hb_v4 hI k0_0
        unfold fX11_chain_0_l30
        refine Ex.loop (fun v => ((0 ≤ (Int32.toInt v2))) ∧ (((-1) ≤ (Int32.toInt (v.1)) ∧ (Int32.toInt (v.1)) ≤ 11)) ∧ ((0 ≤ (Int32.toInt (v.2.1)) ∧ (Int32.toInt (v.2.1)) ≤ 12)) ∧ (zI XT (v.2.2.1)) ∧ ((v.2.2.1) 0 13 = g0 0 13)) (fun v => 13 - (Int32.toInt (v.2.1))) (by omega) (by show 13 - (Int32.toInt v4) < (fu : Int); omega) ⟨hb_v2, hb_v3, hb_v4, hI, k0_0⟩ (fun k30 v hv ih30 => ?_)
        obtain ⟨v3, v4, g, L⟩ := v
        obtain ⟨hb_v2, hb_v3, hb_v4, hI, k0_0⟩ := hv
        have hb_v2 : (0 ≤ (Int32.toInt v2)) := hb_v2
        have hb_v3 : ((-1) ≤ (Int32.toInt v3) ∧ (Int32.toInt v3) ≤ 11) := hb_v3
        have hb_v4 : (0 ≤ (Int32.toInt v4) ∧ (Int32.toInt v4) ≤ 12) := hb_v4
        have hI : zI XT g := hI
        have k0_0 : g 0 13 = g0 0 13 := k0_0
        have ih30 : ∀ v' : Int32 × Int32 × (Nat → Nat → Int32) × (Nat → Nat → Int64), (((0 ≤ (Int32.toInt v2))) ∧ (((-1) ≤ (Int32.toInt (v'.1)) ∧ (Int32.toInt (v'.1)) ≤ 11)) ∧ ((0 ≤ (Int32.toInt (v'.2.1)) ∧ (Int32.toInt (v'.2.1)) ≤ 12)) ∧ (zI XT (v'.2.2.1)) ∧ ((v'.2.2.1) 0 13 = g0 0 13)) → 13 - (Int32.toInt (v'.2.1)) < 13 - (Int32.toInt v4) → 0 < 13 - (Int32.toInt v4) → Ex (k30 v') (fun (r : Except String Int32) (g1 : Nat → Nat → Int32) (L1 : Nat → Nat → Int64) => zI XT g1 ∧ g1 0 13 = g0 0 13 ∧ (∀ E, r = .error E → E = "java/util/NoSuchElementException") ∧ (∀ r1, r = .ok r1 → (-1) ≤ (Int32.toInt r1) ∧ (Int32.toInt r1) ≤ 11)) := ih30
        show Ex (fX11_chain_0_s30 fu v2 k30 v3 v4 g L) (fun (r : Except String Int32) (g1 : Nat → Nat → Int32) (L1 : Nat → Nat → Int64) => zI XT g1 ∧ g1 0 13 = g0 0 13 ∧ (∀ E, r = .error E → E = "java/util/NoSuchElementException") ∧ (∀ r1, r = .ok r1 → (-1) ≤ (Int32.toInt r1) ∧ (Int32.toInt r1) ≤ 11))
        unfold fX11_chain_0_s30
        have J64 : ∀ (v3 : Int32) (g : Nat → Nat → Int32) (L : Nat → Nat → Int64), ((-1) ≤ (Int32.toInt v3) ∧ (Int32.toInt v3) ≤ 11) → zI XT g → g 0 13 = g0 0 13 → Ex (fX11_chain_0_p64 fu v3 g L) (fun (r : Except String Int32) (g1 : Nat → Nat → Int32) (L1 : Nat → Nat → Int64) => zI XT g1 ∧ g1 0 13 = g0 0 13 ∧ (∀ E, r = .error E → E = "java/util/NoSuchElementException") ∧ (∀ r1, r = .ok r1 → (-1) ≤ (Int32.toInt r1) ∧ (Int32.toInt r1) ≤ 11)) := by
          intro v3 g L hb_v3 hI k0_0
          unfold fX11_chain_0_p64
          exact Ex.ret ⟨hI, k0_0, (fun _ e_ => nomatch e_), (fun r_ e_ => by cases e_; omega)⟩
        refine Ex.ite (fun c13 => ?_) (fun c13 => ?_)
        ·
          have c13 := icc_le (m := (Int32.toInt v2)) (n := (Int32.toInt v4)) rfl rfl c13
          exact J64 v3 g L (by omega) hI k0_0
        ·
          have c13 := icc_nle (m := (Int32.toInt v2)) (n := (Int32.toInt v4)) rfl rfl c13
          refine Ex.ite (fun c14 => ?_) (fun c14 => ?_)
          ·
            have c14 := icc_eq (m := (Int32.toInt v3)) (n := (-1)) rfl (by decide) c14
            exact J64 v3 g L (by omega) hI k0_0
          ·
            have c14 := icc_neq (m := (Int32.toInt v3)) (n := (-1)) rfl (by decide) c14
            refine Ex.ite (fun c15 => ?_) (fun c15 => ?_)
            ·
              have c15 := icc_le (m := 12) (n := (Int32.toInt v4)) (by decide) rfl c15
              exact J64 v3 g L (by omega) hI k0_0
            ·
              have c15 := icc_nle (m := 12) (n := (Int32.toInt v4)) (by decide) rfl c15
              refine Ex.ck (by omega) (by omega) ?_
              have b16 : (-1) ≤ (Int32.toInt (g 46 (Int32.toNatClampNeg v3))) ∧ (Int32.toInt (g 46 (Int32.toNatClampNeg v3))) ≤ 11 := hI 46 _ (-1) 11 rfl
              refine Ex.lti (fun x17 x17e x17i => ?_)
              generalize z18q : (v4 + 1) = z18
              have e19 : (Int32.toInt z18) = (Int32.toInt v4) + 1 := by rw [← z18q]; exact ic_addc rfl (by decide) (by omega) (by omega)
              exact ih30 (x17, z18, g, L) ⟨(show (0 ≤ (Int32.toInt v2)) from by omega), (show ((-1) ≤ (Int32.toInt x17) ∧ (Int32.toInt x17) ≤ 11) from by omega), (show (0 ≤ (Int32.toInt z18) ∧ (Int32.toInt z18) ≤ 12) from by omega), hI, k0_0⟩ (by show 13 - (Int32.toInt z18) < _; omega) (by omega)
      exact lp30 p2 p1 0 g9 L10 (by omega) (by omega) (by decide) hI k0_0
    ·
      have c7 := icc_nle (m := 0) (n := (Int32.toInt p2)) (by decide) rfl c7
      exact Ex.ret ⟨hI, k0_0, (fun E_ e_ => by cases e_; exact rfl), (fun r_ e_ => nomatch e_)⟩
set_option maxHeartbeats 4000000 in
set_option maxRecDepth 100000 in
theorem sX11_become_0 (fu : Nat) (hfu : 1180591620717411303424 ≤ fu) (p1 : Int32) (p2 : Int32) (p3 : Int32) (g0 : Nat → Nat → Int32) (L0 : Nat → Nat → Int64) (hI : zI XT g0) : Ex (fX11_become_0 fu p1 p2 p3 g0 L0) (fun (r : Except String Int32) (g1 : Nat → Nat → Int32) (L1 : Nat → Nat → Int64) => zI XT g1 ∧ g1 0 13 = g0 0 13 ∧ (∀ E, r = .error E → E = "java/util/NoSuchElementException") ∧ (∀ r1, r = .ok r1 → True)) := by
  have k0_0 : g0 0 13 = g0 0 13 := rfl
  unfold fX11_become_0
  refine Ex.cbx (sX11_needLesson_0 fu hfu p1 g0 L0 hI) (fun E_ g2 L3 hq5 => ?_) (fun x1 g2 L3 hq5 => ?_)
  ·
    obtain ⟨hI, kk0, er, _, _⟩ := hq5
    exact ⟨hI, kk0.trans k0_0, (fun E9_ e_ => by cases e_; exact id (er _ rfl)), (fun r_ e_ => nomatch e_)⟩
  ·
    obtain ⟨hI, kk0, _, ok_, ap0⟩ := hq5
    have b6 : 0 ≤ (Int32.toInt p1) ∧ (Int32.toInt p1) ≤ 11 := ap0 _ rfl
    have hI : zI XT g2 := hI
    have k0_0 : g2 0 13 = g0 0 13 := kk0.trans k0_0
    refine Ex.cbx (sX11_needWhat fu hfu p2 4 g2 L3 hI) (fun E_ g8 L9 hq11 => ?_) (fun x7 g8 L9 hq11 => ?_)
    ·
      obtain ⟨hI, kk0, er, _⟩ := hq11
      exact ⟨hI, kk0.trans k0_0, (fun E9_ e_ => by cases e_; exact id (er _ rfl)), (fun r_ e_ => nomatch e_)⟩
    ·
      obtain ⟨hI, kk0, _, ok_⟩ := hq11
      have hI : zI XT g8 := hI
      have k0_0 : g8 0 13 = g0 0 13 := kk0.trans k0_0
      have J22 : ∀ (g : Nat → Nat → Int32) (L : Nat → Nat → Int64), zI XT g → g 0 13 = g0 0 13 → Ex (fX11_become_0_p22 fu g L) (fun (r : Except String Int32) (g1 : Nat → Nat → Int32) (L1 : Nat → Nat → Int64) => zI XT g1 ∧ g1 0 13 = g0 0 13 ∧ (∀ E, r = .error E → E = "java/util/NoSuchElementException") ∧ (∀ r1, r = .ok r1 → True)) := by
        intro g L hI k0_0
        unfold fX11_become_0_p22
        refine Ex.ck (by decide) (by decide) ?_
        generalize z12q : ((g 15 (Int32.toNatClampNeg 1)) + 1) = z12
        refine Ex.ck (by decide) (by decide) ?_
        refine Ex.sti (hI.updN rfl) (fun g13 g13e hI => ?_)
        have k0_0 : g13 0 13 = g0 0 13 := by rw [g13e]; exact k0_0
        exact Ex.ret ⟨hI, k0_0, (fun _ e_ => nomatch e_), (fun _ _ => trivial)⟩
      refine Ex.ite (fun c14 => ?_) (fun c14 => ?_)
      ·
        have c14 := icc_lt (m := (Int32.toInt p3)) (n := 0) rfl (by decide) c14
        exact J22 g8 L9 hI k0_0
      ·
        have c14 := icc_nlt (m := (Int32.toInt p3)) (n := 0) rfl (by decide) c14
        refine Ex.cb (sX11_mostOf fu hfu p2 g8 L9 hI) (fun x15 g16 L17 hq19 => ?_)
        obtain ⟨hI, kk0, rb_⟩ := hq19
        have b20 : 9 ≤ (Int32.toInt x15) ∧ (Int32.toInt x15) ≤ 99 := rb_
        have hI : zI XT g16 := hI
        have k0_0 : g16 0 13 = g0 0 13 := kk0.trans k0_0
        refine Ex.ite (fun c21 => ?_) (fun c21 => ?_)
        ·
          have c21 := icc_le (m := (Int32.toInt p3)) (n := (Int32.toInt x15)) rfl rfl c21
          refine Ex.cb (sX3_value_6 fu hfu p2 p1 g16 L17 hI (by omega)) (fun x22 g23 L24 hq26 => ?_)
          obtain ⟨hI, kk0⟩ := hq26
          have hI : zI XT g23 := hI
          have k0_0 : g23 0 13 = g0 0 13 := kk0.trans k0_0
          refine Ex.cb (sX3_keepAct_6 fu hfu p2 p1 x22 g23 L24 hI (by omega)) (fun x27 g28 L29 hq31 => ?_)
          obtain ⟨hI, kk0⟩ := hq31
          have hI : zI XT g28 := hI
          have k0_0 : g28 0 13 = g0 0 13 := kk0.trans k0_0
          refine Ex.cb (sX3_put_6 fu hfu p2 p1 p3 g28 L29 hI (by omega)) (fun x32 g33 L34 hq36 => ?_)
          obtain ⟨hI, kk0⟩ := hq36
          have hI : zI XT g33 := hI
          have k0_0 : g33 0 13 = g0 0 13 := kk0.trans k0_0
          exact Ex.ret ⟨hI, k0_0, (fun _ e_ => nomatch e_), (fun _ _ => trivial)⟩
        ·
          have c21 := icc_nle (m := (Int32.toInt p3)) (n := (Int32.toInt x15)) rfl rfl c21
          exact J22 g16 L17 hI k0_0
set_option maxHeartbeats 4000000 in
set_option maxRecDepth 100000 in
theorem sX11_isRuleOrNone_0 (fu : Nat) (hfu : 1180591620717411303424 ≤ fu) (p1 : Int32) (g0 : Nat → Nat → Int32) (L0 : Nat → Nat → Int64) (hI : zI XT g0) : Ex (fX11_isRuleOrNone_0 fu p1 g0 L0) (fun (r : Int32) (g1 : Nat → Nat → Int32) (L1 : Nat → Nat → Int64) => zI XT g1 ∧ g1 0 13 = g0 0 13 ∧ (0 ≤ (Int32.toInt r) ∧ (Int32.toInt r) ≤ 1)) := by
  have k0_0 : g0 0 13 = g0 0 13 := rfl
  unfold fX11_isRuleOrNone_0
  have J24 : ∀ (t0 : Int32) (g : Nat → Nat → Int32) (L : Nat → Nat → Int64), (0 ≤ (Int32.toInt t0) ∧ (Int32.toInt t0) ≤ 1) → zI XT g → g 0 13 = g0 0 13 → Ex (fX11_isRuleOrNone_0_p24 fu t0 g L) (fun (r : Int32) (g1 : Nat → Nat → Int32) (L1 : Nat → Nat → Int64) => zI XT g1 ∧ g1 0 13 = g0 0 13 ∧ (0 ≤ (Int32.toInt r) ∧ (Int32.toInt r) ≤ 1)) := by
    intro t0 g L hb_t0 hI k0_0
    unfold fX11_isRuleOrNone_0_p24
    refine Ex.ckb (z_bool (by omega)) ?_
    exact Ex.ret ⟨hI, k0_0, (by omega)⟩
  have J23 : ∀ (g : Nat → Nat → Int32) (L : Nat → Nat → Int64), zI XT g → g 0 13 = g0 0 13 → Ex (fX11_isRuleOrNone_0_p23 fu g L) (fun (r : Int32) (g1 : Nat → Nat → Int32) (L1 : Nat → Nat → Int64) => zI XT g1 ∧ g1 0 13 = g0 0 13 ∧ (0 ≤ (Int32.toInt r) ∧ (Int32.toInt r) ≤ 1)) := by
    intro g L hI k0_0
    unfold fX11_isRuleOrNone_0_p23
    exact J24 0 g L (by decide) hI k0_0
  refine Ex.ite (fun c1 => ?_) (fun c1 => ?_)
  ·
    have c1 := icc_lt (m := (Int32.toInt p1)) (n := (-1)) rfl (by decide) c1
    exact J23 g0 L0 hI k0_0
  ·
    have c1 := icc_nlt (m := (Int32.toInt p1)) (n := (-1)) rfl (by decide) c1
    have b2 : 0 ≤ (Int32.toInt (g0 3 3)) ∧ (Int32.toInt (g0 3 3)) ≤ 4 := hI 3 3 0 4 rfl
    refine Ex.ite (fun c3 => ?_) (fun c3 => ?_)
    ·
      have c3 := icc_le (m := (Int32.toInt (g0 3 3))) (n := (Int32.toInt p1)) rfl rfl c3
      exact J23 g0 L0 hI k0_0
    ·
      have c3 := icc_nle (m := (Int32.toInt (g0 3 3))) (n := (Int32.toInt p1)) rfl rfl c3
      exact J24 1 g0 L0 (by decide) hI k0_0
set_option maxHeartbeats 4000000 in
set_option maxRecDepth 100000 in
theorem sX11_obey_0 (fu : Nat) (hfu : 1180591620717411303424 ≤ fu) (p1 : Int32) (g0 : Nat → Nat → Int32) (L0 : Nat → Nat → Int64) (hI : zI XT g0) : Ex (fX11_obey_0 fu p1 g0 L0) (fun (r : Int32) (g1 : Nat → Nat → Int32) (L1 : Nat → Nat → Int64) => zI XT g1 ∧ g1 0 13 = g0 0 13 ∧ (0 ≤ (Int32.toInt r) ∧ (Int32.toInt r) ≤ 1)) := by
  have k0_0 : g0 0 13 = g0 0 13 := rfl
  unfold fX11_obey_0
  refine Ex.cb (sX11_isRuleOrNone_0 fu hfu p1 g0 L0 hI) (fun x1 g2 L3 hq5 => ?_)
  obtain ⟨hI, kk0, rb_⟩ := hq5
  have b6 : 0 ≤ (Int32.toInt x1) ∧ (Int32.toInt x1) ≤ 1 := rb_
  have hI : zI XT g2 := hI
  have k0_0 : g2 0 13 = g0 0 13 := kk0.trans k0_0
  refine Ex.ite (fun c7 => ?_) (fun c7 => ?_)
  ·
    have c7 := icc_eq (m := (Int32.toInt x1)) (n := 0) rfl (by decide) c7
    refine Ex.ck (by decide) (by decide) ?_
    generalize z8q : ((g2 15 (Int32.toNatClampNeg 1)) + 1) = z8
    refine Ex.ck (by decide) (by decide) ?_
    refine Ex.sti (hI.updN rfl) (fun g9 g9e hI => ?_)
    have k0_0 : g9 0 13 = g0 0 13 := by rw [g9e]; exact k0_0
    refine Ex.ckb rfl ?_
    exact Ex.ret ⟨hI, k0_0, (by decide)⟩
  ·
    have c7 := icc_neq (m := (Int32.toInt x1)) (n := 0) rfl (by decide) c7
    refine Ex.cb (sX3_keepAct_6 fu hfu 4 0 (g2 6 11) g2 L3 hI (by decide)) (fun x10 g11 L12 hq14 => ?_)
    obtain ⟨hI, kk0⟩ := hq14
    have hI : zI XT g11 := hI
    have k0_0 : g11 0 13 = g0 0 13 := kk0.trans k0_0
    refine Ex.sti (hI.updN rfl) (fun g15 g15e hI => ?_)
    have k0_0 : g15 0 13 = g0 0 13 := by rw [g15e]; exact k0_0
    refine Ex.ckb rfl ?_
    exact Ex.ret ⟨hI, k0_0, (by decide)⟩
set_option maxHeartbeats 4000000 in
set_option maxRecDepth 100000 in
theorem sX11_undo_0 (fu : Nat) (hfu : 1180591620717411303424 ≤ fu) (g0 : Nat → Nat → Int32) (L0 : Nat → Nat → Int64) (hI : zI XT g0) : Ex (fX11_undo_0 fu g0 L0) (fun (r : Int32) (g1 : Nat → Nat → Int32) (L1 : Nat → Nat → Int64) => zI XT g1 ∧ g1 0 13 = g0 0 13 ∧ ((-1) ≤ (Int32.toInt r) ∧ (Int32.toInt r) ≤ 40)) := by
  have k0_0 : g0 0 13 = g0 0 13 := rfl
  unfold fX11_undo_0
  refine Ex.cb (sX3_takeBackAct_6 fu hfu g0 L0 hI) (fun x1 g2 L3 hq5 => ?_)
  obtain ⟨hI, kk0, rb_⟩ := hq5
  have b6 : (-1) ≤ (Int32.toInt x1) ∧ (Int32.toInt x1) ≤ 40 := rb_
  have hI : zI XT g2 := hI
  have k0_0 : g2 0 13 = g0 0 13 := kk0.trans k0_0
  exact Ex.ret ⟨hI, k0_0, (by omega)⟩
set_option maxHeartbeats 4000000 in
set_option maxRecDepth 100000 in
theorem sX11_needWithin (fu : Nat) (hfu : 1180591620717411303424 ≤ fu) (p1 : Int32) (p2 : Int32) (p3 : Int32) (g0 : Nat → Nat → Int32) (L0 : Nat → Nat → Int64) (hI : zI XT g0) : Ex (fX11_needWithin fu p1 p2 p3 g0 L0) (fun (r : Except String Unit) (g1 : Nat → Nat → Int32) (L1 : Nat → Nat → Int64) => zI XT g1 ∧ g1 0 13 = g0 0 13 ∧ (∀ E, r = .error E → E = "java/lang/IllegalArgumentException") ∧ (∀ r1, r = .ok r1 → True) ∧ (∀ r1, r = .ok r1 → (Int32.toInt p2) ≤ (Int32.toInt p1) ∧ (Int32.toInt p1) ≤ (Int32.toInt p3))) := by
  have k0_0 : g0 0 13 = g0 0 13 := rfl
  unfold fX11_needWithin
  have J10 : ∀ (g : Nat → Nat → Int32) (L : Nat → Nat → Int64), zI XT g → g 0 13 = g0 0 13 → Ex (fX11_needWithin_p10 fu g L) (fun (r : Except String Unit) (g1 : Nat → Nat → Int32) (L1 : Nat → Nat → Int64) => zI XT g1 ∧ g1 0 13 = g0 0 13 ∧ (∀ E, r = .error E → E = "java/lang/IllegalArgumentException") ∧ (∀ r1, r = .ok r1 → True) ∧ (∀ r1, r = .ok r1 → (Int32.toInt p2) ≤ (Int32.toInt p1) ∧ (Int32.toInt p1) ≤ (Int32.toInt p3))) := by
    intro g L hI k0_0
    unfold fX11_needWithin_p10
    exact Ex.ret ⟨hI, k0_0, (fun E_ e_ => by cases e_; exact rfl), (fun r_ e_ => nomatch e_), (fun r_ e_ => nomatch e_)⟩
  refine Ex.ite (fun c1 => ?_) (fun c1 => ?_)
  ·
    have c1 := icc_lt (m := (Int32.toInt p1)) (n := (Int32.toInt p2)) rfl rfl c1
    exact J10 g0 L0 hI k0_0
  ·
    have c1 := icc_nlt (m := (Int32.toInt p1)) (n := (Int32.toInt p2)) rfl rfl c1
    refine Ex.ite (fun c2 => ?_) (fun c2 => ?_)
    ·
      have c2 := icc_le (m := (Int32.toInt p1)) (n := (Int32.toInt p3)) rfl rfl c2
      exact Ex.ret ⟨hI, k0_0, (fun _ e_ => nomatch e_), (fun _ _ => trivial), (fun _ _ => by omega)⟩
    ·
      have c2 := icc_nle (m := (Int32.toInt p1)) (n := (Int32.toInt p3)) rfl rfl c2
      exact J10 g0 L0 hI k0_0
set_option maxHeartbeats 4000000 in
set_option maxRecDepth 100000 in
theorem sX11_far_0 (fu : Nat) (hfu : 1180591620717411303424 ≤ fu) (p1 : Int32) (p2 : Int32) (p3 : Int32) (g0 : Nat → Nat → Int32) (L0 : Nat → Nat → Int64) (hI : zI XT g0) : Ex (fX11_far_0 fu p1 p2 p3 g0 L0) (fun (r : Except String Int32) (g1 : Nat → Nat → Int32) (L1 : Nat → Nat → Int64) => zI XT g1 ∧ g1 0 13 = g0 0 13 ∧ (∀ E, r = .error E → E = "java/lang/IllegalArgumentException" ∨ E = "java/util/NoSuchElementException") ∧ (∀ r1, r = .ok r1 → True)) := by
  have k0_0 : g0 0 13 = g0 0 13 := rfl
  unfold fX11_far_0
  refine Ex.cbx (sX11_needLesson_0 fu hfu p1 g0 L0 hI) (fun E_ g2 L3 hq5 => ?_) (fun x1 g2 L3 hq5 => ?_)
  ·
    obtain ⟨hI, kk0, er, _, _⟩ := hq5
    exact ⟨hI, kk0.trans k0_0, (fun E9_ e_ => by cases e_; exact (fun h_ => (Or.inr (h_))) (er _ rfl)), (fun r_ e_ => nomatch e_)⟩
  ·
    obtain ⟨hI, kk0, _, ok_, ap0⟩ := hq5
    have b6 : 0 ≤ (Int32.toInt p1) ∧ (Int32.toInt p1) ≤ 11 := ap0 _ rfl
    have hI : zI XT g2 := hI
    have k0_0 : g2 0 13 = g0 0 13 := kk0.trans k0_0
    refine Ex.cbx (sX11_needWhat fu hfu p3 2 g2 L3 hI) (fun E_ g8 L9 hq11 => ?_) (fun x7 g8 L9 hq11 => ?_)
    ·
      obtain ⟨hI, kk0, er, _⟩ := hq11
      exact ⟨hI, kk0.trans k0_0, (fun E9_ e_ => by cases e_; exact (fun h_ => (Or.inr (h_))) (er _ rfl)), (fun r_ e_ => nomatch e_)⟩
    ·
      obtain ⟨hI, kk0, _, ok_⟩ := hq11
      have hI : zI XT g8 := hI
      have k0_0 : g8 0 13 = g0 0 13 := kk0.trans k0_0
      refine Ex.cbx (sX11_needWithin fu hfu p2 0 120 g8 L9 hI) (fun E_ g13 L14 hq16 => ?_) (fun x12 g13 L14 hq16 => ?_)
      ·
        obtain ⟨hI, kk0, er, _, _⟩ := hq16
        exact ⟨hI, kk0.trans k0_0, (fun E9_ e_ => by cases e_; exact (fun h_ => (Or.inl h_)) (er _ rfl)), (fun r_ e_ => nomatch e_)⟩
      ·
        obtain ⟨hI, kk0, _, ok_, ap0⟩ := hq16
        have b17 : 0 ≤ (Int32.toInt p2) ∧ (Int32.toInt p2) ≤ 120 := ap0 _ rfl
        have hI : zI XT g13 := hI
        have k0_0 : g13 0 13 = g0 0 13 := kk0.trans k0_0
        refine Ex.cb (sX10_keepEnds_9 fu hfu g13 L14 hI) (fun x18 g19 L20 hq22 => ?_)
        obtain ⟨hI, kk0⟩ := hq22
        have hI : zI XT g19 := hI
        have k0_0 : g19 0 13 = g0 0 13 := kk0.trans k0_0
        refine Ex.cb (sX10_runMore_9 fu hfu p1 p2 g19 L20 hI (by omega)) (fun x23 g24 L25 hq27 => ?_)
        obtain ⟨hI, kk0⟩ := hq27
        have hI : zI XT g24 := hI
        have k0_0 : g24 0 13 = g0 0 13 := kk0.trans k0_0
        have J54 : ∀ (t0 : Int32) (g : Nat → Nat → Int32) (L : Nat → Nat → Int64), zI XT g → g 0 13 = g0 0 13 → Ex (fX11_far_0_p54 fu t0 g L) (fun (r : Except String Int32) (g1 : Nat → Nat → Int32) (L1 : Nat → Nat → Int64) => zI XT g1 ∧ g1 0 13 = g0 0 13 ∧ (∀ E, r = .error E → E = "java/lang/IllegalArgumentException" ∨ E = "java/util/NoSuchElementException") ∧ (∀ r1, r = .ok r1 → True)) := by
          intro t0 g L hI k0_0
          unfold fX11_far_0_p54
          exact Ex.ret ⟨hI, k0_0, (fun _ e_ => nomatch e_), (fun _ _ => trivial)⟩
        refine Ex.ite (fun c28 => ?_) (fun c28 => ?_)
        ·
          have c28 := icc_eq (m := (Int32.toInt p3)) (n := 0) rfl (by decide) c28
          refine Ex.cb (sX10_laterBits_9 fu hfu g24 L25 hI) (fun x29 g30 L31 hq33 => ?_)
          obtain ⟨hI, kk0⟩ := hq33
          have hI : zI XT g30 := hI
          have k0_0 : g30 0 13 = g0 0 13 := kk0.trans k0_0
          exact J54 x29 g30 L31 hI k0_0
        ·
          have c28 := icc_neq (m := (Int32.toInt p3)) (n := 0) rfl (by decide) c28
          refine Ex.cb (sX10_laterMinutes_9 fu hfu g24 L25 hI) (fun x34 g35 L36 hq38 => ?_)
          obtain ⟨hI, kk0⟩ := hq38
          have hI : zI XT g35 := hI
          have k0_0 : g35 0 13 = g0 0 13 := kk0.trans k0_0
          exact J54 x34 g35 L36 hI k0_0
set_option maxHeartbeats 4000000 in
set_option maxRecDepth 100000 in
theorem sX11_reaches_0 (fu : Nat) (hfu : 1180591620717411303424 ≤ fu) (p1 : Int32) (p2 : Int32) (g0 : Nat → Nat → Int32) (L0 : Nat → Nat → Int64) (hI : zI XT g0) : Ex (fX11_reaches_0 fu p1 p2 g0 L0) (fun (r : Except String Int32) (g1 : Nat → Nat → Int32) (L1 : Nat → Nat → Int64) => zI XT g1 ∧ g1 0 13 = g0 0 13 ∧ (∀ E, r = .error E → E = "java/lang/IllegalArgumentException" ∨ E = "java/util/NoSuchElementException") ∧ (∀ r1, r = .ok r1 → (-1) ≤ (Int32.toInt r1) ∧ (Int32.toInt r1) ≤ 120)) := by
  have k0_0 : g0 0 13 = g0 0 13 := rfl
  unfold fX11_reaches_0
  refine Ex.cbx (sX11_needLesson_0 fu hfu p1 g0 L0 hI) (fun E_ g2 L3 hq5 => ?_) (fun x1 g2 L3 hq5 => ?_)
  ·
    obtain ⟨hI, kk0, er, _, _⟩ := hq5
    exact ⟨hI, kk0.trans k0_0, (fun E9_ e_ => by cases e_; exact (fun h_ => (Or.inr (h_))) (er _ rfl)), (fun r_ e_ => nomatch e_)⟩
  ·
    obtain ⟨hI, kk0, _, ok_, ap0⟩ := hq5
    have b6 : 0 ≤ (Int32.toInt p1) ∧ (Int32.toInt p1) ≤ 11 := ap0 _ rfl
    have hI : zI XT g2 := hI
    have k0_0 : g2 0 13 = g0 0 13 := kk0.trans k0_0
    refine Ex.cbx (sX11_needLesson_0 fu hfu p2 g2 L3 hI) (fun E_ g8 L9 hq11 => ?_) (fun x7 g8 L9 hq11 => ?_)
    ·
      obtain ⟨hI, kk0, er, _, _⟩ := hq11
      exact ⟨hI, kk0.trans k0_0, (fun E9_ e_ => by cases e_; exact (fun h_ => (Or.inr (h_))) (er _ rfl)), (fun r_ e_ => nomatch e_)⟩
    ·
      obtain ⟨hI, kk0, _, ok_, ap0⟩ := hq11
      have b12 : 0 ≤ (Int32.toInt p2) ∧ (Int32.toInt p2) ≤ 11 := ap0 _ rfl
      have hI : zI XT g8 := hI
      have k0_0 : g8 0 13 = g0 0 13 := kk0.trans k0_0
      refine Ex.ite (fun c13 => ?_) (fun c13 => ?_)
      ·
        have c13 := icc_eq (m := (Int32.toInt p1)) (n := (Int32.toInt p2)) rfl rfl c13
        exact Ex.ret ⟨hI, k0_0, (fun E_ e_ => by cases e_; exact (Or.inl rfl)), (fun r_ e_ => nomatch e_)⟩
      ·
        have c13 := icc_neq (m := (Int32.toInt p1)) (n := (Int32.toInt p2)) rfl rfl c13
        refine Ex.cb (sX10_leastThatReaches_9 fu hfu p1 p2 g8 L9 hI (by omega) (by omega)) (fun x14 g15 L16 hq18 => ?_)
        obtain ⟨hI, kk0, rb_⟩ := hq18
        have b19 : (-1) ≤ (Int32.toInt x14) ∧ (Int32.toInt x14) ≤ 120 := rb_
        have hI : zI XT g15 := hI
        have k0_0 : g15 0 13 = g0 0 13 := kk0.trans k0_0
        exact Ex.ret ⟨hI, k0_0, (fun _ e_ => nomatch e_), (fun r_ e_ => by cases e_; omega)⟩
set_option maxHeartbeats 4000000 in
set_option maxRecDepth 100000 in
theorem sX11_slack_0 (fu : Nat) (hfu : 1180591620717411303424 ≤ fu) (p1 : Int32) (g0 : Nat → Nat → Int32) (L0 : Nat → Nat → Int64) (hI : zI XT g0) : Ex (fX11_slack_0 fu p1 g0 L0) (fun (r : Except String Int32) (g1 : Nat → Nat → Int32) (L1 : Nat → Nat → Int64) => zI XT g1 ∧ g1 0 13 = g0 0 13 ∧ (∀ E, r = .error E → E = "java/util/NoSuchElementException") ∧ (∀ r1, r = .ok r1 → 0 ≤ (Int32.toInt r1) ∧ (Int32.toInt r1) ≤ 120)) := by
  have k0_0 : g0 0 13 = g0 0 13 := rfl
  unfold fX11_slack_0
  refine Ex.cbx (sX11_needLesson_0 fu hfu p1 g0 L0 hI) (fun E_ g2 L3 hq5 => ?_) (fun x1 g2 L3 hq5 => ?_)
  ·
    obtain ⟨hI, kk0, er, _, _⟩ := hq5
    exact ⟨hI, kk0.trans k0_0, (fun E9_ e_ => by cases e_; exact id (er _ rfl)), (fun r_ e_ => nomatch e_)⟩
  ·
    obtain ⟨hI, kk0, _, ok_, ap0⟩ := hq5
    have b6 : 0 ≤ (Int32.toInt p1) ∧ (Int32.toInt p1) ≤ 11 := ap0 _ rfl
    have hI : zI XT g2 := hI
    have k0_0 : g2 0 13 = g0 0 13 := kk0.trans k0_0
    refine Ex.cb (sX10_mostThatDies_9 fu hfu p1 g2 L3 hI (by omega)) (fun x7 g8 L9 hq11 => ?_)
    obtain ⟨hI, kk0, rb_⟩ := hq11
    have b12 : 0 ≤ (Int32.toInt x7) ∧ (Int32.toInt x7) ≤ 120 := rb_
    have hI : zI XT g8 := hI
    have k0_0 : g8 0 13 = g0 0 13 := kk0.trans k0_0
    exact Ex.ret ⟨hI, k0_0, (fun _ e_ => nomatch e_), (fun r_ e_ => by cases e_; omega)⟩
set_option maxHeartbeats 4000000 in
set_option maxRecDepth 100000 in
theorem sJI_bitCount (fu : Nat) (hfu : 1180591620717411303424 ≤ fu) (p1 : Int32) (g0 : Nat → Nat → Int32) (L0 : Nat → Nat → Int64) (hI : zI XT g0) : Ex (fJI_bitCount fu p1 g0 L0) (fun (r : Int32) (g1 : Nat → Nat → Int32) (L1 : Nat → Nat → Int64) => zI XT g1 ∧ g1 0 13 = g0 0 13) := by
  have k0_0 : g0 0 13 = g0 0 13 := rfl
  unfold fJI_bitCount
  generalize z1q : (Int32.toUInt32 p1 >>> (Int32.toUInt32 1 &&& Int32.toUInt32 31)).toInt32 = z1
  generalize z2q : (z1 &&& 1431655765) = z2
  generalize z3q : (p1 - z2) = z3
  refine Ex.lti (fun x4 x4e x4i => ?_)
  generalize z5q : (x4 &&& 858993459) = z5
  generalize z6q : (Int32.toUInt32 x4 >>> (Int32.toUInt32 2 &&& Int32.toUInt32 31)).toInt32 = z6
  generalize z7q : (z6 &&& 858993459) = z7
  generalize z8q : (z5 + z7) = z8
  refine Ex.lti (fun x9 x9e x9i => ?_)
  generalize z10q : (Int32.toUInt32 x9 >>> (Int32.toUInt32 4 &&& Int32.toUInt32 31)).toInt32 = z10
  generalize z11q : (x9 + z10) = z11
  generalize z12q : (z11 &&& 252645135) = z12
  refine Ex.lti (fun x13 x13e x13i => ?_)
  generalize z14q : (Int32.toUInt32 x13 >>> (Int32.toUInt32 8 &&& Int32.toUInt32 31)).toInt32 = z14
  generalize z15q : (x13 + z14) = z15
  refine Ex.lti (fun x16 x16e x16i => ?_)
  generalize z17q : (Int32.toUInt32 x16 >>> (Int32.toUInt32 16 &&& Int32.toUInt32 31)).toInt32 = z17
  generalize z18q : (x16 + z17) = z18
  refine Ex.lti (fun x19 x19e x19i => ?_)
  generalize z20q : (x19 &&& 63) = z20
  exact Ex.ret ⟨hI, k0_0⟩
set_option maxHeartbeats 4000000 in
set_option maxRecDepth 100000 in
theorem sX11_gaps_0 (fu : Nat) (hfu : 1180591620717411303424 ≤ fu) (p1 : Int32) (p2 : Int32) (p3 : Int32) (g0 : Nat → Nat → Int32) (L0 : Nat → Nat → Int64) (hI : zI XT g0) : Ex (fX11_gaps_0 fu p1 p2 p3 g0 L0) (fun (r : Except String Int32) (g1 : Nat → Nat → Int32) (L1 : Nat → Nat → Int64) => zI XT g1 ∧ g1 0 13 = g0 0 13 ∧ (∀ E, r = .error E → E = "java/lang/IllegalArgumentException" ∨ E = "java/util/NoSuchElementException") ∧ (∀ r1, r = .ok r1 → True)) := by
  have k0_0 : g0 0 13 = g0 0 13 := rfl
  unfold fX11_gaps_0
  refine Ex.cbx (sX11_needLesson_0 fu hfu p2 g0 L0 hI) (fun E_ g2 L3 hq5 => ?_) (fun x1 g2 L3 hq5 => ?_)
  ·
    obtain ⟨hI, kk0, er, _, _⟩ := hq5
    exact ⟨hI, kk0.trans k0_0, (fun E9_ e_ => by cases e_; exact (fun h_ => (Or.inr (h_))) (er _ rfl)), (fun r_ e_ => nomatch e_)⟩
  ·
    obtain ⟨hI, kk0, _, ok_, ap0⟩ := hq5
    have b6 : 0 ≤ (Int32.toInt p2) ∧ (Int32.toInt p2) ≤ 11 := ap0 _ rfl
    have hI : zI XT g2 := hI
    have k0_0 : g2 0 13 = g0 0 13 := kk0.trans k0_0
    refine Ex.cbx (sX11_needWithin fu hfu p3 0 999 g2 L3 hI) (fun E_ g8 L9 hq11 => ?_) (fun x7 g8 L9 hq11 => ?_)
    ·
      obtain ⟨hI, kk0, er, _, _⟩ := hq11
      exact ⟨hI, kk0.trans k0_0, (fun E9_ e_ => by cases e_; exact (fun h_ => (Or.inl h_)) (er _ rfl)), (fun r_ e_ => nomatch e_)⟩
    ·
      obtain ⟨hI, kk0, _, ok_, ap0⟩ := hq11
      have b12 : 0 ≤ (Int32.toInt p3) ∧ (Int32.toInt p3) ≤ 999 := ap0 _ rfl
      have hI : zI XT g8 := hI
      have k0_0 : g8 0 13 = g0 0 13 := kk0.trans k0_0
      have b13 : 0 ≤ (Int32.toInt (g8 1 2)) ∧ (Int32.toInt (g8 1 2)) ≤ 12 := hI 1 2 0 12 rfl
      generalize z14q : (Int32.toUInt32 p1 >>> (Int32.toUInt32 (g8 1 2) &&& Int32.toUInt32 31)).toInt32 = z14
      have J33 : ∀ (g : Nat → Nat → Int32) (L : Nat → Nat → Int64), zI XT g → g 0 13 = g0 0 13 → Ex (fX11_gaps_0_p33 fu g L) (fun (r : Except String Int32) (g1 : Nat → Nat → Int32) (L1 : Nat → Nat → Int64) => zI XT g1 ∧ g1 0 13 = g0 0 13 ∧ (∀ E, r = .error E → E = "java/lang/IllegalArgumentException" ∨ E = "java/util/NoSuchElementException") ∧ (∀ r1, r = .ok r1 → True)) := by
        intro g L hI k0_0
        unfold fX11_gaps_0_p33
        exact Ex.ret ⟨hI, k0_0, (fun E_ e_ => by cases e_; exact (Or.inl rfl)), (fun r_ e_ => nomatch e_)⟩
      refine Ex.ite (fun c15 => ?_) (fun c15 => ?_)
      ·
        have c15 := icc_eq (m := (Int32.toInt z14)) (n := 0) rfl (by decide) c15
        refine Ex.cb (sJI_bitCount fu hfu p1 g8 L9 hI) (fun x16 g17 L18 hq20 => ?_)
        obtain ⟨hI, kk0⟩ := hq20
        have hI : zI XT g17 := hI
        have k0_0 : g17 0 13 = g0 0 13 := kk0.trans k0_0
        refine Ex.ite (fun c21 => ?_) (fun c21 => ?_)
        ·
          have c21 := icc_le (m := (Int32.toInt x16)) (n := 5) rfl (by decide) c21
          refine Ex.cb (sX2_fewest_10 fu hfu p1 p2 p3 g17 L18 hI (by omega)) (fun x22 g23 L24 hq26 => ?_)
          obtain ⟨hI, kk0⟩ := hq26
          have hI : zI XT g23 := hI
          have k0_0 : g23 0 13 = g0 0 13 := kk0.trans k0_0
          have J82 : ∀ (v4 : Int32) (g : Nat → Nat → Int32) (L : Nat → Nat → Int64), zI XT g → g 0 13 = g0 0 13 → Ex (fX11_gaps_0_p82 fu v4 g L) (fun (r : Except String Int32) (g1 : Nat → Nat → Int32) (L1 : Nat → Nat → Int64) => zI XT g1 ∧ g1 0 13 = g0 0 13 ∧ (∀ E, r = .error E → E = "java/lang/IllegalArgumentException" ∨ E = "java/util/NoSuchElementException") ∧ (∀ r1, r = .ok r1 → True)) := by
            intro v4 g L hI k0_0
            unfold fX11_gaps_0_p82
            exact Ex.ret ⟨hI, k0_0, (fun _ e_ => nomatch e_), (fun _ _ => trivial)⟩
          refine Ex.ite (fun c27 => ?_) (fun c27 => ?_)
          ·
            have c27 := icc_eq (m := (Int32.toInt x22)) (n := (-1)) rfl (by decide) c27
            exact J82 x22 g23 L24 hI k0_0
          ·
            have c27 := icc_neq (m := (Int32.toInt x22)) (n := (-1)) rfl (by decide) c27
            refine Ex.stA (hI.cpy (fun _ _ => rfl)) (fun g28 g28e hI => ?_)
            have k0_0 : g28 0 13 = g0 0 13 := by rw [g28e]; exact k0_0
            refine Ex.sti (hI.upd rfl (by decide) (by decide)) (fun g29 g29e hI => ?_)
            have k0_0 : g29 0 13 = g0 0 13 := by rw [g29e]; exact k0_0
            exact J82 x22 g29 L24 hI k0_0
        ·
          have c21 := icc_nle (m := (Int32.toInt x16)) (n := 5) rfl (by decide) c21
          exact J33 g17 L18 hI k0_0
      ·
        have c15 := icc_neq (m := (Int32.toInt z14)) (n := 0) rfl (by decide) c15
        exact J33 g8 L9 hI k0_0
set_option maxHeartbeats 4000000 in
set_option maxRecDepth 100000 in
theorem sX11_gap_0 (fu : Nat) (hfu : 1180591620717411303424 ≤ fu) (p1 : Int32) (g0 : Nat → Nat → Int32) (L0 : Nat → Nat → Int64) (hI : zI XT g0) : Ex (fX11_gap_0 fu p1 g0 L0) (fun (r : Except String Int32) (g1 : Nat → Nat → Int32) (L1 : Nat → Nat → Int64) => zI XT g1 ∧ g1 0 13 = g0 0 13 ∧ (∀ E, r = .error E → E = "java/util/NoSuchElementException") ∧ (∀ r1, r = .ok r1 → True)) := by
  have k0_0 : g0 0 13 = g0 0 13 := rfl
  unfold fX11_gap_0
  refine Ex.cbx (sX11_needLesson_0 fu hfu p1 g0 L0 hI) (fun E_ g2 L3 hq5 => ?_) (fun x1 g2 L3 hq5 => ?_)
  ·
    obtain ⟨hI, kk0, er, _, _⟩ := hq5
    exact ⟨hI, kk0.trans k0_0, (fun E9_ e_ => by cases e_; exact id (er _ rfl)), (fun r_ e_ => nomatch e_)⟩
  ·
    obtain ⟨hI, kk0, _, ok_, ap0⟩ := hq5
    have b6 : 0 ≤ (Int32.toInt p1) ∧ (Int32.toInt p1) ≤ 11 := ap0 _ rfl
    have hI : zI XT g2 := hI
    have k0_0 : g2 0 13 = g0 0 13 := kk0.trans k0_0
    have b7 : 0 ≤ (Int32.toInt (g2 0 16)) ∧ (Int32.toInt (g2 0 16)) ≤ 1 := hI 0 16 0 1 rfl
    refine Ex.ite (fun c8 => ?_) (fun c8 => ?_)
    ·
      have c8 := icc_eq (m := (Int32.toInt (g2 0 16))) (n := 0) rfl (by decide) c8
      exact Ex.ret ⟨hI, k0_0, (fun E_ e_ => by cases e_; exact rfl), (fun r_ e_ => nomatch e_)⟩
    ·
      have c8 := icc_neq (m := (Int32.toInt (g2 0 16))) (n := 0) rfl (by decide) c8
      refine Ex.ck (by omega) (by omega) ?_
      exact Ex.ret ⟨hI, k0_0, (fun _ e_ => nomatch e_), (fun _ _ => trivial)⟩
set_option maxHeartbeats 4000000 in
set_option maxRecDepth 100000 in
theorem sX11_chance_0 (fu : Nat) (hfu : 1180591620717411303424 ≤ fu) (p1 : Int32) (p2 : Int32) (p3 : Int32) (g0 : Nat → Nat → Int32) (L0 : Nat → Nat → Int64) (hI : zI XT g0) : Ex (fX11_chance_0 fu p1 p2 p3 g0 L0) (fun (r : Except String Int64) (g1 : Nat → Nat → Int32) (L1 : Nat → Nat → Int64) => zI XT g1 ∧ g1 0 13 = g0 0 13 ∧ (∀ E, r = .error E → E = "java/lang/IllegalArgumentException" ∨ E = "java/util/NoSuchElementException") ∧ (∀ r1, r = .ok r1 → True)) := by
  have k0_0 : g0 0 13 = g0 0 13 := rfl
  unfold fX11_chance_0
  refine Ex.cbx (sX11_needLesson_0 fu hfu p1 g0 L0 hI) (fun E_ g2 L3 hq5 => ?_) (fun x1 g2 L3 hq5 => ?_)
  ·
    obtain ⟨hI, kk0, er, _, _⟩ := hq5
    exact ⟨hI, kk0.trans k0_0, (fun E9_ e_ => by cases e_; exact (fun h_ => (Or.inr (h_))) (er _ rfl)), (fun r_ e_ => nomatch e_)⟩
  ·
    obtain ⟨hI, kk0, _, ok_, ap0⟩ := hq5
    have b6 : 0 ≤ (Int32.toInt p1) ∧ (Int32.toInt p1) ≤ 11 := ap0 _ rfl
    have hI : zI XT g2 := hI
    have k0_0 : g2 0 13 = g0 0 13 := kk0.trans k0_0
    refine Ex.cbx (sX11_needWhat fu hfu p3 2 g2 L3 hI) (fun E_ g8 L9 hq11 => ?_) (fun x7 g8 L9 hq11 => ?_)
    ·
      obtain ⟨hI, kk0, er, _⟩ := hq11
      exact ⟨hI, kk0.trans k0_0, (fun E9_ e_ => by cases e_; exact (fun h_ => (Or.inr (h_))) (er _ rfl)), (fun r_ e_ => nomatch e_)⟩
    ·
      obtain ⟨hI, kk0, _, ok_⟩ := hq11
      have hI : zI XT g8 := hI
      have k0_0 : g8 0 13 = g0 0 13 := kk0.trans k0_0
      refine Ex.cbx (sX11_needWithin fu hfu p2 0 999 g8 L9 hI) (fun E_ g13 L14 hq16 => ?_) (fun x12 g13 L14 hq16 => ?_)
      ·
        obtain ⟨hI, kk0, er, _, _⟩ := hq16
        exact ⟨hI, kk0.trans k0_0, (fun E9_ e_ => by cases e_; exact (fun h_ => (Or.inl h_)) (er _ rfl)), (fun r_ e_ => nomatch e_)⟩
      ·
        obtain ⟨hI, kk0, _, ok_, ap0⟩ := hq16
        have b17 : 0 ≤ (Int32.toInt p2) ∧ (Int32.toInt p2) ≤ 999 := ap0 _ rfl
        have hI : zI XT g13 := hI
        have k0_0 : g13 0 13 = g0 0 13 := kk0.trans k0_0
        refine Ex.cb (sX0_ofLate_11 fu hfu p1 p2 g13 L14 hI (by omega)) (fun x18 g19 L20 hq22 => ?_)
        obtain ⟨hI, kk0⟩ := hq22
        have hI : zI XT g19 := hI
        have k0_0 : g19 0 13 = g0 0 13 := kk0.trans k0_0
        have J48 : ∀ (t0 : Int64) (g : Nat → Nat → Int32) (L : Nat → Nat → Int64), zI XT g → g 0 13 = g0 0 13 → Ex (fX11_chance_0_p48 fu t0 g L) (fun (r : Except String Int64) (g1 : Nat → Nat → Int32) (L1 : Nat → Nat → Int64) => zI XT g1 ∧ g1 0 13 = g0 0 13 ∧ (∀ E, r = .error E → E = "java/lang/IllegalArgumentException" ∨ E = "java/util/NoSuchElementException") ∧ (∀ r1, r = .ok r1 → True)) := by
          intro t0 g L hI k0_0
          unfold fX11_chance_0_p48
          exact Ex.ret ⟨hI, k0_0, (fun _ e_ => nomatch e_), (fun _ _ => trivial)⟩
        refine Ex.ite (fun c23 => ?_) (fun c23 => ?_)
        ·
          have c23 := icc_eq (m := (Int32.toInt p3)) (n := 0) rfl (by decide) c23
          exact J48 (L20 11 5) g19 L20 hI k0_0
        ·
          have c23 := icc_neq (m := (Int32.toInt p3)) (n := 0) rfl (by decide) c23
          exact J48 (L20 11 6) g19 L20 hI k0_0
set_option maxHeartbeats 4000000 in
set_option maxRecDepth 100000 in
theorem sX11_mean_0 (fu : Nat) (hfu : 1180591620717411303424 ≤ fu) (p1 : Int32) (p2 : Int32) (g0 : Nat → Nat → Int32) (L0 : Nat → Nat → Int64) (hI : zI XT g0) : Ex (fX11_mean_0 fu p1 p2 g0 L0) (fun (r : Except String Int64) (g1 : Nat → Nat → Int32) (L1 : Nat → Nat → Int64) => zI XT g1 ∧ g1 0 13 = g0 0 13 ∧ (∀ E, r = .error E → E = "java/util/NoSuchElementException") ∧ (∀ r1, r = .ok r1 → True)) := by
  have k0_0 : g0 0 13 = g0 0 13 := rfl
  unfold fX11_mean_0
  refine Ex.cbx (sX11_needLesson_0 fu hfu p1 g0 L0 hI) (fun E_ g2 L3 hq5 => ?_) (fun x1 g2 L3 hq5 => ?_)
  ·
    obtain ⟨hI, kk0, er, _, _⟩ := hq5
    exact ⟨hI, kk0.trans k0_0, (fun E9_ e_ => by cases e_; exact id (er _ rfl)), (fun r_ e_ => nomatch e_)⟩
  ·
    obtain ⟨hI, kk0, _, ok_, ap0⟩ := hq5
    have b6 : 0 ≤ (Int32.toInt p1) ∧ (Int32.toInt p1) ≤ 11 := ap0 _ rfl
    have hI : zI XT g2 := hI
    have k0_0 : g2 0 13 = g0 0 13 := kk0.trans k0_0
    refine Ex.cbx (sX11_needWhat fu hfu p2 2 g2 L3 hI) (fun E_ g8 L9 hq11 => ?_) (fun x7 g8 L9 hq11 => ?_)
    ·
      obtain ⟨hI, kk0, er, _⟩ := hq11
      exact ⟨hI, kk0.trans k0_0, (fun E9_ e_ => by cases e_; exact id (er _ rfl)), (fun r_ e_ => nomatch e_)⟩
    ·
      obtain ⟨hI, kk0, _, ok_⟩ := hq11
      have hI : zI XT g8 := hI
      have k0_0 : g8 0 13 = g0 0 13 := kk0.trans k0_0
      refine Ex.cb (sX0_meanLate_11 fu hfu p1 g8 L9 hI (by omega)) (fun x12 g13 L14 hq16 => ?_)
      obtain ⟨hI, kk0⟩ := hq16
      have hI : zI XT g13 := hI
      have k0_0 : g13 0 13 = g0 0 13 := kk0.trans k0_0
      have J39 : ∀ (t0 : Int64) (g : Nat → Nat → Int32) (L : Nat → Nat → Int64), zI XT g → g 0 13 = g0 0 13 → Ex (fX11_mean_0_p39 fu t0 g L) (fun (r : Except String Int64) (g1 : Nat → Nat → Int32) (L1 : Nat → Nat → Int64) => zI XT g1 ∧ g1 0 13 = g0 0 13 ∧ (∀ E, r = .error E → E = "java/util/NoSuchElementException") ∧ (∀ r1, r = .ok r1 → True)) := by
        intro t0 g L hI k0_0
        unfold fX11_mean_0_p39
        exact Ex.ret ⟨hI, k0_0, (fun _ e_ => nomatch e_), (fun _ _ => trivial)⟩
      refine Ex.ite (fun c17 => ?_) (fun c17 => ?_)
      ·
        have c17 := icc_eq (m := (Int32.toInt p2)) (n := 0) rfl (by decide) c17
        exact J39 (L14 11 5) g13 L14 hI k0_0
      ·
        have c17 := icc_neq (m := (Int32.toInt p2)) (n := 0) rfl (by decide) c17
        exact J39 (L14 11 6) g13 L14 hI k0_0
set_option maxHeartbeats 4000000 in
set_option maxRecDepth 100000 in
theorem sX11_swap_0 (fu : Nat) (hfu : 1180591620717411303424 ≤ fu) (p1 : Int32) (g0 : Nat → Nat → Int32) (L0 : Nat → Nat → Int64) (hI : zI XT g0) : Ex (fX11_swap_0 fu p1 g0 L0) (fun (r : Except String Int32) (g1 : Nat → Nat → Int32) (L1 : Nat → Nat → Int64) => zI XT g1 ∧ g1 0 13 = g0 0 13 ∧ (∀ E, r = .error E → E = "java/util/NoSuchElementException") ∧ (∀ r1, r = .ok r1 → True)) := by
  have k0_0 : g0 0 13 = g0 0 13 := rfl
  unfold fX11_swap_0
  refine Ex.cbx (sX11_needWhat fu hfu p1 2 g0 L0 hI) (fun E_ g2 L3 hq5 => ?_) (fun x1 g2 L3 hq5 => ?_)
  ·
    obtain ⟨hI, kk0, er, _⟩ := hq5
    exact ⟨hI, kk0.trans k0_0, (fun E9_ e_ => by cases e_; exact id (er _ rfl)), (fun r_ e_ => nomatch e_)⟩
  ·
    obtain ⟨hI, kk0, _, ok_⟩ := hq5
    have hI : zI XT g2 := hI
    have k0_0 : g2 0 13 = g0 0 13 := kk0.trans k0_0
    refine Ex.cb (sX10_swapped_9 fu hfu p1 g2 L3 hI) (fun x6 g7 L8 hq10 => ?_)
    obtain ⟨hI, kk0⟩ := hq10
    have hI : zI XT g7 := hI
    have k0_0 : g7 0 13 = g0 0 13 := kk0.trans k0_0
    exact Ex.ret ⟨hI, k0_0, (fun _ e_ => nomatch e_), (fun _ _ => trivial)⟩
set_option maxHeartbeats 4000000 in
set_option maxRecDepth 100000 in
theorem sX11_room_0 (fu : Nat) (hfu : 1180591620717411303424 ≤ fu) (p1 : Int32) (p2 : Int32) (g0 : Nat → Nat → Int32) (L0 : Nat → Nat → Int64) (hI : zI XT g0) : Ex (fX11_room_0 fu p1 p2 g0 L0) (fun (r : Except String Int32) (g1 : Nat → Nat → Int32) (L1 : Nat → Nat → Int64) => zI XT g1 ∧ g1 0 13 = g0 0 13 ∧ (∀ E, r = .error E → E = "java/util/NoSuchElementException") ∧ (∀ r1, r = .ok r1 → True)) := by
  have k0_0 : g0 0 13 = g0 0 13 := rfl
  unfold fX11_room_0
  refine Ex.cbx (sX11_needLesson_0 fu hfu p1 g0 L0 hI) (fun E_ g2 L3 hq5 => ?_) (fun x1 g2 L3 hq5 => ?_)
  ·
    obtain ⟨hI, kk0, er, _, _⟩ := hq5
    exact ⟨hI, kk0.trans k0_0, (fun E9_ e_ => by cases e_; exact id (er _ rfl)), (fun r_ e_ => nomatch e_)⟩
  ·
    obtain ⟨hI, kk0, _, ok_, ap0⟩ := hq5
    have b6 : 0 ≤ (Int32.toInt p1) ∧ (Int32.toInt p1) ≤ 11 := ap0 _ rfl
    have hI : zI XT g2 := hI
    have k0_0 : g2 0 13 = g0 0 13 := kk0.trans k0_0
    refine Ex.cbx (sX11_needWhat fu hfu p2 2 g2 L3 hI) (fun E_ g8 L9 hq11 => ?_) (fun x7 g8 L9 hq11 => ?_)
    ·
      obtain ⟨hI, kk0, er, _⟩ := hq11
      exact ⟨hI, kk0.trans k0_0, (fun E9_ e_ => by cases e_; exact id (er _ rfl)), (fun r_ e_ => nomatch e_)⟩
    ·
      obtain ⟨hI, kk0, _, ok_⟩ := hq11
      have hI : zI XT g8 := hI
      have k0_0 : g8 0 13 = g0 0 13 := kk0.trans k0_0
      refine Ex.cb (sX10_leastBy_9 fu hfu 2 p1 p2 g8 L9 hI (by omega)) (fun x12 g13 L14 hq16 => ?_)
      obtain ⟨hI, kk0⟩ := hq16
      have hI : zI XT g13 := hI
      have k0_0 : g13 0 13 = g0 0 13 := kk0.trans k0_0
      exact Ex.ret ⟨hI, k0_0, (fun _ e_ => nomatch e_), (fun _ _ => trivial)⟩
set_option maxHeartbeats 4000000 in
set_option maxRecDepth 100000 in
theorem sX11_limit_0 (fu : Nat) (hfu : 1180591620717411303424 ≤ fu) (p1 : Int32) (p2 : Int32) (g0 : Nat → Nat → Int32) (L0 : Nat → Nat → Int64) (hI : zI XT g0) : Ex (fX11_limit_0 fu p1 p2 g0 L0) (fun (r : Except String Int32) (g1 : Nat → Nat → Int32) (L1 : Nat → Nat → Int64) => zI XT g1 ∧ g1 0 13 = g0 0 13 ∧ (∀ E, r = .error E → E = "java/util/NoSuchElementException") ∧ (∀ r1, r = .ok r1 → True)) := by
  have k0_0 : g0 0 13 = g0 0 13 := rfl
  unfold fX11_limit_0
  refine Ex.cbx (sX11_needLesson_0 fu hfu p1 g0 L0 hI) (fun E_ g2 L3 hq5 => ?_) (fun x1 g2 L3 hq5 => ?_)
  ·
    obtain ⟨hI, kk0, er, _, _⟩ := hq5
    exact ⟨hI, kk0.trans k0_0, (fun E9_ e_ => by cases e_; exact id (er _ rfl)), (fun r_ e_ => nomatch e_)⟩
  ·
    obtain ⟨hI, kk0, _, ok_, ap0⟩ := hq5
    have b6 : 0 ≤ (Int32.toInt p1) ∧ (Int32.toInt p1) ≤ 11 := ap0 _ rfl
    have hI : zI XT g2 := hI
    have k0_0 : g2 0 13 = g0 0 13 := kk0.trans k0_0
    refine Ex.cbx (sX11_needWhat fu hfu p2 2 g2 L3 hI) (fun E_ g8 L9 hq11 => ?_) (fun x7 g8 L9 hq11 => ?_)
    ·
      obtain ⟨hI, kk0, er, _⟩ := hq11
      exact ⟨hI, kk0.trans k0_0, (fun E9_ e_ => by cases e_; exact id (er _ rfl)), (fun r_ e_ => nomatch e_)⟩
    ·
      obtain ⟨hI, kk0, _, ok_⟩ := hq11
      have hI : zI XT g8 := hI
      have k0_0 : g8 0 13 = g0 0 13 := kk0.trans k0_0
      refine Ex.cb (sX10_leastBy_9 fu hfu 3 p1 p2 g8 L9 hI (by omega)) (fun x12 g13 L14 hq16 => ?_)
      obtain ⟨hI, kk0⟩ := hq16
      have hI : zI XT g13 := hI
      have k0_0 : g13 0 13 = g0 0 13 := kk0.trans k0_0
      exact Ex.ret ⟨hI, k0_0, (fun _ e_ => nomatch e_), (fun _ _ => trivial)⟩
set_option maxHeartbeats 4000000 in
set_option maxRecDepth 100000 in
theorem sX11_last_0 (fu : Nat) (hfu : 1180591620717411303424 ≤ fu) (g0 : Nat → Nat → Int32) (L0 : Nat → Nat → Int64) (hI : zI XT g0) : Ex (fX11_last_0 fu g0 L0) (fun (r : Int32) (g1 : Nat → Nat → Int32) (L1 : Nat → Nat → Int64) => zI XT g1 ∧ g1 0 13 = g0 0 13) := by
  have k0_0 : g0 0 13 = g0 0 13 := rfl
  unfold fX11_last_0
  refine Ex.cb (sX10_withoutOne_9 fu hfu g0 L0 hI) (fun x1 g2 L3 hq5 => ?_)
  obtain ⟨hI, kk0⟩ := hq5
  have hI : zI XT g2 := hI
  have k0_0 : g2 0 13 = g0 0 13 := kk0.trans k0_0
  exact Ex.ret ⟨hI, k0_0⟩
set_option maxHeartbeats 4000000 in
set_option maxRecDepth 100000 in
theorem sX11_compare_0 (fu : Nat) (hfu : 1180591620717411303424 ≤ fu) (p1 : Int32) (g0 : Nat → Nat → Int32) (L0 : Nat → Nat → Int64) (hI : zI XT g0) : Ex (fX11_compare_0 fu p1 g0 L0) (fun (r : Except String Int32) (g1 : Nat → Nat → Int32) (L1 : Nat → Nat → Int64) => zI XT g1 ∧ g1 0 13 = g0 0 13 ∧ (∀ E, r = .error E → E = "java/util/NoSuchElementException") ∧ (∀ r1, r = .ok r1 → True)) := by
  have k0_0 : g0 0 13 = g0 0 13 := rfl
  unfold fX11_compare_0
  refine Ex.cb (sX11_isRuleOrNone_0 fu hfu p1 g0 L0 hI) (fun x1 g2 L3 hq5 => ?_)
  obtain ⟨hI, kk0, rb_⟩ := hq5
  have b6 : 0 ≤ (Int32.toInt x1) ∧ (Int32.toInt x1) ≤ 1 := rb_
  have hI : zI XT g2 := hI
  have k0_0 : g2 0 13 = g0 0 13 := kk0.trans k0_0
  refine Ex.ite (fun c7 => ?_) (fun c7 => ?_)
  ·
    have c7 := icc_eq (m := (Int32.toInt x1)) (n := 0) rfl (by decide) c7
    exact Ex.ret ⟨hI, k0_0, (fun E_ e_ => by cases e_; exact rfl), (fun r_ e_ => nomatch e_)⟩
  ·
    have c7 := icc_neq (m := (Int32.toInt x1)) (n := 0) rfl (by decide) c7
    refine Ex.cb (sX10_lostByRule_9 fu hfu p1 g2 L3 hI) (fun x8 g9 L10 hq12 => ?_)
    obtain ⟨hI, kk0⟩ := hq12
    have hI : zI XT g9 := hI
    have k0_0 : g9 0 13 = g0 0 13 := kk0.trans k0_0
    exact Ex.ret ⟨hI, k0_0, (fun _ e_ => nomatch e_), (fun _ _ => trivial)⟩
set_option maxHeartbeats 4000000 in
set_option maxRecDepth 100000 in
theorem sX11_best_0 (fu : Nat) (hfu : 1180591620717411303424 ≤ fu) (g0 : Nat → Nat → Int32) (L0 : Nat → Nat → Int64) (hI : zI XT g0) : Ex (fX11_best_0 fu g0 L0) (fun (r : Int32) (g1 : Nat → Nat → Int32) (L1 : Nat → Nat → Int64) => zI XT g1 ∧ g1 0 13 = g0 0 13) := by
  have k0_0 : g0 0 13 = g0 0 13 := rfl
  unfold fX11_best_0
  refine Ex.cb (sX10_bestRule_9 fu hfu g0 L0 hI) (fun x1 g2 L3 hq5 => ?_)
  obtain ⟨hI, kk0⟩ := hq5
  have hI : zI XT g2 := hI
  have k0_0 : g2 0 13 = g0 0 13 := kk0.trans k0_0
  exact Ex.ret ⟨hI, k0_0⟩
set_option maxHeartbeats 4000000 in
set_option maxRecDepth 100000 in
theorem sX11_bell_0 (fu : Nat) (hfu : 1180591620717411303424 ≤ fu) (p1 : Int32) (g0 : Nat → Nat → Int32) (L0 : Nat → Nat → Int64) (hI : zI XT g0) : Ex (fX11_bell_0 fu p1 g0 L0) (fun (r : Except String Int32) (g1 : Nat → Nat → Int32) (L1 : Nat → Nat → Int64) => zI XT g1 ∧ g1 0 13 = g0 0 13 ∧ (∀ E, r = .error E → E = "java/lang/IllegalArgumentException") ∧ (∀ r1, r = .ok r1 → True)) := by
  have k0_0 : g0 0 13 = g0 0 13 := rfl
  unfold fX11_bell_0
  refine Ex.cbx (sX11_needWithin fu hfu p1 0 60 g0 L0 hI) (fun E_ g2 L3 hq5 => ?_) (fun x1 g2 L3 hq5 => ?_)
  ·
    obtain ⟨hI, kk0, er, _, _⟩ := hq5
    exact ⟨hI, kk0.trans k0_0, (fun E9_ e_ => by cases e_; exact id (er _ rfl)), (fun r_ e_ => nomatch e_)⟩
  ·
    obtain ⟨hI, kk0, _, ok_, ap0⟩ := hq5
    have b6 : 0 ≤ (Int32.toInt p1) ∧ (Int32.toInt p1) ≤ 60 := ap0 _ rfl
    have hI : zI XT g2 := hI
    have k0_0 : g2 0 13 = g0 0 13 := kk0.trans k0_0
    refine Ex.cb (sX10_worthOfBell_9 fu hfu p1 g2 L3 hI) (fun x7 g8 L9 hq11 => ?_)
    obtain ⟨hI, kk0⟩ := hq11
    have hI : zI XT g8 := hI
    have k0_0 : g8 0 13 = g0 0 13 := kk0.trans k0_0
    exact Ex.ret ⟨hI, k0_0, (fun _ e_ => nomatch e_), (fun _ _ => trivial)⟩
set_option maxHeartbeats 4000000 in
set_option maxRecDepth 100000 in
theorem sX11_see_0 (fu : Nat) (hfu : 1180591620717411303424 ≤ fu) (p1 : Int32) (p2 : Int32) (g0 : Nat → Nat → Int32) (L0 : Nat → Nat → Int64) (hI : zI XT g0) : Ex (fX11_see_0 fu p1 p2 g0 L0) (fun (r : Except String Int32) (g1 : Nat → Nat → Int32) (L1 : Nat → Nat → Int64) => zI XT g1 ∧ g1 0 13 = g0 0 13 ∧ (∀ E, r = .error E → E = "java/util/NoSuchElementException") ∧ (∀ r1, r = .ok r1 → (-1) ≤ (Int32.toInt r1) ∧ (Int32.toInt r1) ≤ 8)) := by
  have k0_0 : g0 0 13 = g0 0 13 := rfl
  unfold fX11_see_0
  refine Ex.cbx (sX11_needLesson_0 fu hfu p1 g0 L0 hI) (fun E_ g2 L3 hq5 => ?_) (fun x1 g2 L3 hq5 => ?_)
  ·
    obtain ⟨hI, kk0, er, _, _⟩ := hq5
    exact ⟨hI, kk0.trans k0_0, (fun E9_ e_ => by cases e_; exact id (er _ rfl)), (fun r_ e_ => nomatch e_)⟩
  ·
    obtain ⟨hI, kk0, _, ok_, ap0⟩ := hq5
    have b6 : 0 ≤ (Int32.toInt p1) ∧ (Int32.toInt p1) ≤ 11 := ap0 _ rfl
    have hI : zI XT g2 := hI
    have k0_0 : g2 0 13 = g0 0 13 := kk0.trans k0_0
    have J28 : ∀ (g : Nat → Nat → Int32) (L : Nat → Nat → Int64), zI XT g → g 0 13 = g0 0 13 → Ex (fX11_see_0_p28 fu g L) (fun (r : Except String Int32) (g1 : Nat → Nat → Int32) (L1 : Nat → Nat → Int64) => zI XT g1 ∧ g1 0 13 = g0 0 13 ∧ (∀ E, r = .error E → E = "java/util/NoSuchElementException") ∧ (∀ r1, r = .ok r1 → (-1) ≤ (Int32.toInt r1) ∧ (Int32.toInt r1) ≤ 8)) := by
      intro g L hI k0_0
      unfold fX11_see_0_p28
      refine Ex.ck (by decide) (by decide) ?_
      generalize z7q : ((g 15 (Int32.toNatClampNeg 2)) + 1) = z7
      refine Ex.ck (by decide) (by decide) ?_
      refine Ex.sti (hI.updN rfl) (fun g8 g8e hI => ?_)
      have k0_0 : g8 0 13 = g0 0 13 := by rw [g8e]; exact k0_0
      exact Ex.ret ⟨hI, k0_0, (fun _ e_ => nomatch e_), (fun r_ e_ => by cases e_; decide)⟩
    refine Ex.ite (fun c9 => ?_) (fun c9 => ?_)
    ·
      have c9 := icc_lt (m := (Int32.toInt p2)) (n := 0) rfl (by decide) c9
      exact J28 g2 L3 hI k0_0
    ·
      have c9 := icc_nlt (m := (Int32.toInt p2)) (n := 0) rfl (by decide) c9
      refine Ex.ite (fun c10 => ?_) (fun c10 => ?_)
      ·
        have c10 := icc_lt (m := 999) (n := (Int32.toInt p2)) (by decide) rfl c10
        exact J28 g2 L3 hI k0_0
      ·
        have c10 := icc_nlt (m := 999) (n := (Int32.toInt p2)) (by decide) rfl c10
        have b11 : 0 ≤ (Int32.toInt (g2 6 10)) ∧ (Int32.toInt (g2 6 10)) ≤ 8 := hI 6 10 0 8 rfl
        refine Ex.ite (fun c12 => ?_) (fun c12 => ?_)
        ·
          have c12 := icc_lt (m := (Int32.toInt (g2 6 10))) (n := 8) rfl (by decide) c12
          refine Ex.cb (sX3_keepSeen_6 fu hfu p1 p2 g2 L3 hI (by omega)) (fun x13 g14 L15 hq17 => ?_)
          obtain ⟨hI, kk0⟩ := hq17
          have hI : zI XT g14 := hI
          have k0_0 : g14 0 13 = g0 0 13 := kk0.trans k0_0
          have b18 : 0 ≤ (Int32.toInt (g14 6 10)) ∧ (Int32.toInt (g14 6 10)) ≤ 8 := hI 6 10 0 8 rfl
          exact Ex.ret ⟨hI, k0_0, (fun _ e_ => nomatch e_), (fun r_ e_ => by cases e_; omega)⟩
        ·
          have c12 := icc_nlt (m := (Int32.toInt (g2 6 10))) (n := 8) rfl (by decide) c12
          exact J28 g2 L3 hI k0_0
set_option maxHeartbeats 4000000 in
set_option maxRecDepth 100000 in
theorem sX11_forget_0 (fu : Nat) (hfu : 1180591620717411303424 ≤ fu) (g0 : Nat → Nat → Int32) (L0 : Nat → Nat → Int64) (hI : zI XT g0) : Ex (fX11_forget_0 fu g0 L0) (fun (r : Unit) (g1 : Nat → Nat → Int32) (L1 : Nat → Nat → Int64) => zI XT g1 ∧ g1 0 13 = g0 0 13) := by
  have k0_0 : g0 0 13 = g0 0 13 := rfl
  unfold fX11_forget_0
  refine Ex.sti (hI.upd rfl (by decide) (by decide)) (fun g1 g1e hI => ?_)
  have k0_0 : g1 0 13 = g0 0 13 := by rw [g1e]; exact k0_0
  exact Ex.ret ⟨hI, k0_0⟩
set_option maxHeartbeats 4000000 in
set_option maxRecDepth 100000 in
theorem sX11_fits_0 (fu : Nat) (hfu : 1180591620717411303424 ≤ fu) (p1 : Int32) (g0 : Nat → Nat → Int32) (L0 : Nat → Nat → Int64) (hI : zI XT g0) : Ex (fX11_fits_0 fu p1 g0 L0) (fun (r : Except String Int32) (g1 : Nat → Nat → Int32) (L1 : Nat → Nat → Int64) => zI XT g1 ∧ g1 0 13 = g0 0 13 ∧ (∀ E, r = .error E → E = "java/util/NoSuchElementException") ∧ (∀ r1, r = .ok r1 → True)) := by
  have k0_0 : g0 0 13 = g0 0 13 := rfl
  unfold fX11_fits_0
  refine Ex.cbx (sX11_needWhat fu hfu p1 3 g0 L0 hI) (fun E_ g2 L3 hq5 => ?_) (fun x1 g2 L3 hq5 => ?_)
  ·
    obtain ⟨hI, kk0, er, _⟩ := hq5
    exact ⟨hI, kk0.trans k0_0, (fun E9_ e_ => by cases e_; exact id (er _ rfl)), (fun r_ e_ => nomatch e_)⟩
  ·
    obtain ⟨hI, kk0, _, ok_⟩ := hq5
    have hI : zI XT g2 := hI
    have k0_0 : g2 0 13 = g0 0 13 := kk0.trans k0_0
    refine Ex.cb (sX10_findBeginners_9 fu hfu g2 L3 hI) (fun x6 g7 L8 hq10 => ?_)
    obtain ⟨hI, kk0⟩ := hq10
    have hI : zI XT g7 := hI
    have k0_0 : g7 0 13 = g0 0 13 := kk0.trans k0_0
    refine Ex.ite (fun c11 => ?_) (fun c11 => ?_)
    ·
      exact Ex.ret ⟨hI, k0_0, (fun _ e_ => nomatch e_), (fun _ _ => trivial)⟩
    ·
      refine Ex.ite (fun c12 => ?_) (fun c12 => ?_)
      ·
        exact Ex.ret ⟨hI, k0_0, (fun _ e_ => nomatch e_), (fun _ _ => trivial)⟩
      ·
        exact Ex.ret ⟨hI, k0_0, (fun _ e_ => nomatch e_), (fun _ _ => trivial)⟩
set_option maxHeartbeats 4000000 in
set_option maxRecDepth 100000 in
theorem sX11_streams_0 (fu : Nat) (hfu : 1180591620717411303424 ≤ fu) (g0 : Nat → Nat → Int32) (L0 : Nat → Nat → Int64) (hI : zI XT g0) : Ex (fX11_streams_0 fu g0 L0) (fun (r : Int32) (g1 : Nat → Nat → Int32) (L1 : Nat → Nat → Int64) => zI XT g1 ∧ g1 0 13 = g0 0 13) := by
  have k0_0 : g0 0 13 = g0 0 13 := rfl
  unfold fX11_streams_0
  refine Ex.cb (sX9_gather_12 fu hfu g0 L0 hI) (fun x1 g2 L3 hq5 => ?_)
  obtain ⟨hI, kk0⟩ := hq5
  have hI : zI XT g2 := hI
  have k0_0 : g2 0 13 = g0 0 13 := kk0.trans k0_0
  refine Ex.cb (sX9_crossings_12 fu hfu g2 L3 hI) (fun x6 g7 L8 hq10 => ?_)
  obtain ⟨hI, kk0⟩ := hq10
  have hI : zI XT g7 := hI
  have k0_0 : g7 0 13 = g0 0 13 := kk0.trans k0_0
  exact Ex.ret ⟨hI, k0_0⟩
set_option maxHeartbeats 4000000 in
set_option maxRecDepth 100000 in
theorem sX11_term_0 (fu : Nat) (hfu : 1180591620717411303424 ≤ fu) (p1 : Int32) (p2 : Int32) (p3 : Int32) (p4 : Int32) (g0 : Nat → Nat → Int32) (L0 : Nat → Nat → Int64) (hI : zI XT g0) : Ex (fX11_term_0 fu p1 p2 p3 p4 g0 L0) (fun (r : Except String Int32) (g1 : Nat → Nat → Int32) (L1 : Nat → Nat → Int64) => zI XT g1 ∧ g1 0 13 = g0 0 13 ∧ (∀ E, r = .error E → E = "java/lang/IllegalArgumentException" ∨ E = "java/util/NoSuchElementException") ∧ (∀ r1, r = .ok r1 → True)) := by
  have k0_0 : g0 0 13 = g0 0 13 := rfl
  unfold fX11_term_0
  refine Ex.cbx (sX11_needLesson_0 fu hfu p3 g0 L0 hI) (fun E_ g2 L3 hq5 => ?_) (fun x1 g2 L3 hq5 => ?_)
  ·
    obtain ⟨hI, kk0, er, _, _⟩ := hq5
    exact ⟨hI, kk0.trans k0_0, (fun E9_ e_ => by cases e_; exact (fun h_ => (Or.inr (h_))) (er _ rfl)), (fun r_ e_ => nomatch e_)⟩
  ·
    obtain ⟨hI, kk0, _, ok_, ap0⟩ := hq5
    have b6 : 0 ≤ (Int32.toInt p3) ∧ (Int32.toInt p3) ≤ 11 := ap0 _ rfl
    have hI : zI XT g2 := hI
    have k0_0 : g2 0 13 = g0 0 13 := kk0.trans k0_0
    refine Ex.cbx (sX11_needWhat fu hfu p4 3 g2 L3 hI) (fun E_ g8 L9 hq11 => ?_) (fun x7 g8 L9 hq11 => ?_)
    ·
      obtain ⟨hI, kk0, er, _⟩ := hq11
      exact ⟨hI, kk0.trans k0_0, (fun E9_ e_ => by cases e_; exact (fun h_ => (Or.inr (h_))) (er _ rfl)), (fun r_ e_ => nomatch e_)⟩
    ·
      obtain ⟨hI, kk0, _, ok_⟩ := hq11
      have hI : zI XT g8 := hI
      have k0_0 : g8 0 13 = g0 0 13 := kk0.trans k0_0
      refine Ex.cbx (sX11_needWithin fu hfu p2 0 60 g8 L9 hI) (fun E_ g13 L14 hq16 => ?_) (fun x12 g13 L14 hq16 => ?_)
      ·
        obtain ⟨hI, kk0, er, _, _⟩ := hq16
        exact ⟨hI, kk0.trans k0_0, (fun E9_ e_ => by cases e_; exact (fun h_ => (Or.inl h_)) (er _ rfl)), (fun r_ e_ => nomatch e_)⟩
      ·
        obtain ⟨hI, kk0, _, ok_, ap0⟩ := hq16
        have b17 : 0 ≤ (Int32.toInt p2) ∧ (Int32.toInt p2) ≤ 60 := ap0 _ rfl
        have hI : zI XT g13 := hI
        have k0_0 : g13 0 13 = g0 0 13 := kk0.trans k0_0
        refine Ex.cb (sX0_ofTerm_11 fu hfu p1 p2 p3 p4 g13 L14 hI (by omega) (by omega)) (fun x18 g19 L20 hq22 => ?_)
        obtain ⟨hI, kk0⟩ := hq22
        have hI : zI XT g19 := hI
        have k0_0 : g19 0 13 = g0 0 13 := kk0.trans k0_0
        exact Ex.ret ⟨hI, k0_0, (fun _ e_ => nomatch e_), (fun _ _ => trivial)⟩
set_option maxHeartbeats 4000000 in
set_option maxRecDepth 100000 in
theorem sX11_on_0 (fu : Nat) (hfu : 1180591620717411303424 ≤ fu) (p1 : Int32) (p2 : Int32) (g0 : Nat → Nat → Int32) (L0 : Nat → Nat → Int64) (hI : zI XT g0) : Ex (fX11_on_0 fu p1 p2 g0 L0) (fun (r : Except String Int32) (g1 : Nat → Nat → Int32) (L1 : Nat → Nat → Int64) => zI XT g1 ∧ g1 0 13 = g0 0 13 ∧ (∀ E, r = .error E → E = "java/lang/IllegalArgumentException" ∨ E = "java/util/NoSuchElementException") ∧ (∀ r1, r = .ok r1 → True)) := by
  have k0_0 : g0 0 13 = g0 0 13 := rfl
  unfold fX11_on_0
  refine Ex.cbx (sX11_needWhat fu hfu p2 2 g0 L0 hI) (fun E_ g2 L3 hq5 => ?_) (fun x1 g2 L3 hq5 => ?_)
  ·
    obtain ⟨hI, kk0, er, _⟩ := hq5
    exact ⟨hI, kk0.trans k0_0, (fun E9_ e_ => by cases e_; exact (fun h_ => (Or.inr (h_))) (er _ rfl)), (fun r_ e_ => nomatch e_)⟩
  ·
    obtain ⟨hI, kk0, _, ok_⟩ := hq5
    have hI : zI XT g2 := hI
    have k0_0 : g2 0 13 = g0 0 13 := kk0.trans k0_0
    refine Ex.cbx (sX11_needWithin fu hfu p1 0 4000 g2 L3 hI) (fun E_ g7 L8 hq10 => ?_) (fun x6 g7 L8 hq10 => ?_)
    ·
      obtain ⟨hI, kk0, er, _, _⟩ := hq10
      exact ⟨hI, kk0.trans k0_0, (fun E9_ e_ => by cases e_; exact (fun h_ => (Or.inl h_)) (er _ rfl)), (fun r_ e_ => nomatch e_)⟩
    ·
      obtain ⟨hI, kk0, _, ok_, ap0⟩ := hq10
      have b11 : 0 ≤ (Int32.toInt p1) ∧ (Int32.toInt p1) ≤ 4000 := ap0 _ rfl
      have hI : zI XT g7 := hI
      have k0_0 : g7 0 13 = g0 0 13 := kk0.trans k0_0
      refine Ex.cb (sX9_gather_12 fu hfu g7 L8 hI) (fun x12 g13 L14 hq16 => ?_)
      obtain ⟨hI, kk0⟩ := hq16
      have hI : zI XT g13 := hI
      have k0_0 : g13 0 13 = g0 0 13 := kk0.trans k0_0
      have J43 : ∀ (t0 : Int32) (g : Nat → Nat → Int32) (L : Nat → Nat → Int64), zI XT g → g 0 13 = g0 0 13 → Ex (fX11_on_0_p43 fu t0 g L) (fun (r : Except String Int32) (g1 : Nat → Nat → Int32) (L1 : Nat → Nat → Int64) => zI XT g1 ∧ g1 0 13 = g0 0 13 ∧ (∀ E, r = .error E → E = "java/lang/IllegalArgumentException" ∨ E = "java/util/NoSuchElementException") ∧ (∀ r1, r = .ok r1 → True)) := by
        intro t0 g L hI k0_0
        unfold fX11_on_0_p43
        exact Ex.ret ⟨hI, k0_0, (fun _ e_ => nomatch e_), (fun _ _ => trivial)⟩
      refine Ex.ite (fun c17 => ?_) (fun c17 => ?_)
      ·
        have c17 := icc_eq (m := (Int32.toInt p2)) (n := 0) rfl (by decide) c17
        refine Ex.cb (sX1_onBits_8 fu hfu p1 g13 L14 hI) (fun x18 g19 L20 hq22 => ?_)
        obtain ⟨hI, kk0⟩ := hq22
        have hI : zI XT g19 := hI
        have k0_0 : g19 0 13 = g0 0 13 := kk0.trans k0_0
        exact J43 x18 g19 L20 hI k0_0
      ·
        have c17 := icc_neq (m := (Int32.toInt p2)) (n := 0) rfl (by decide) c17
        refine Ex.cb (sX9_peopleIn_12 fu hfu p1 g13 L14 hI) (fun x23 g24 L25 hq27 => ?_)
        obtain ⟨hI, kk0⟩ := hq27
        have hI : zI XT g24 := hI
        have k0_0 : g24 0 13 = g0 0 13 := kk0.trans k0_0
        exact J43 x23 g24 L25 hI k0_0
set_option maxHeartbeats 4000000 in
set_option maxRecDepth 100000 in
theorem sX11_clash_0 (fu : Nat) (hfu : 1180591620717411303424 ≤ fu) (p1 : Int32) (g0 : Nat → Nat → Int32) (L0 : Nat → Nat → Int64) (hI : zI XT g0) : Ex (fX11_clash_0 fu p1 g0 L0) (fun (r : Except String Int32) (g1 : Nat → Nat → Int32) (L1 : Nat → Nat → Int64) => zI XT g1 ∧ g1 0 13 = g0 0 13 ∧ (∀ E, r = .error E → E = "java/util/NoSuchElementException") ∧ (∀ r1, r = .ok r1 → True)) := by
  have k0_0 : g0 0 13 = g0 0 13 := rfl
  unfold fX11_clash_0
  refine Ex.cbx (sX11_needWhat fu hfu p1 2 g0 L0 hI) (fun E_ g2 L3 hq5 => ?_) (fun x1 g2 L3 hq5 => ?_)
  ·
    obtain ⟨hI, kk0, er, _⟩ := hq5
    exact ⟨hI, kk0.trans k0_0, (fun E9_ e_ => by cases e_; exact id (er _ rfl)), (fun r_ e_ => nomatch e_)⟩
  ·
    obtain ⟨hI, kk0, _, ok_⟩ := hq5
    have hI : zI XT g2 := hI
    have k0_0 : g2 0 13 = g0 0 13 := kk0.trans k0_0
    refine Ex.cb (sX1_runFrom_8 fu hfu 0 g2 L3 hI (by decide)) (fun x6 g7 L8 hq10 => ?_)
    obtain ⟨hI, kk0⟩ := hq10
    have hI : zI XT g7 := hI
    have k0_0 : g7 0 13 = g0 0 13 := kk0.trans k0_0
    have J34 : ∀ (t0 : Int32) (g : Nat → Nat → Int32) (L : Nat → Nat → Int64), zI XT g → g 0 13 = g0 0 13 → Ex (fX11_clash_0_p34 fu t0 g L) (fun (r : Except String Int32) (g1 : Nat → Nat → Int32) (L1 : Nat → Nat → Int64) => zI XT g1 ∧ g1 0 13 = g0 0 13 ∧ (∀ E, r = .error E → E = "java/util/NoSuchElementException") ∧ (∀ r1, r = .ok r1 → True)) := by
      intro t0 g L hI k0_0
      unfold fX11_clash_0_p34
      exact Ex.ret ⟨hI, k0_0, (fun _ e_ => nomatch e_), (fun _ _ => trivial)⟩
    refine Ex.ite (fun c11 => ?_) (fun c11 => ?_)
    ·
      have c11 := icc_eq (m := (Int32.toInt p1)) (n := 0) rfl (by decide) c11
      refine Ex.cb (sX1_clashes_8 fu hfu g7 L8 hI) (fun x12 g13 L14 hq16 => ?_)
      obtain ⟨hI, kk0⟩ := hq16
      have hI : zI XT g13 := hI
      have k0_0 : g13 0 13 = g0 0 13 := kk0.trans k0_0
      exact J34 x12 g13 L14 hI k0_0
    ·
      have c11 := icc_neq (m := (Int32.toInt p1)) (n := 0) rfl (by decide) c11
      refine Ex.cb (sX1_firstClash_8 fu hfu g7 L8 hI) (fun x17 g18 L19 hq21 => ?_)
      obtain ⟨hI, kk0⟩ := hq21
      have hI : zI XT g18 := hI
      have k0_0 : g18 0 13 = g0 0 13 := kk0.trans k0_0
      exact J34 x17 g18 L19 hI k0_0
set_option maxHeartbeats 4000000 in
set_option maxRecDepth 100000 in
theorem sX11_busiest_0 (fu : Nat) (hfu : 1180591620717411303424 ≤ fu) (p1 : Int32) (g0 : Nat → Nat → Int32) (L0 : Nat → Nat → Int64) (hI : zI XT g0) : Ex (fX11_busiest_0 fu p1 g0 L0) (fun (r : Except String Int32) (g1 : Nat → Nat → Int32) (L1 : Nat → Nat → Int64) => zI XT g1 ∧ g1 0 13 = g0 0 13 ∧ (∀ E, r = .error E → E = "java/util/NoSuchElementException") ∧ (∀ r1, r = .ok r1 → True)) := by
  have k0_0 : g0 0 13 = g0 0 13 := rfl
  unfold fX11_busiest_0
  refine Ex.cbx (sX11_needWhat fu hfu p1 2 g0 L0 hI) (fun E_ g2 L3 hq5 => ?_) (fun x1 g2 L3 hq5 => ?_)
  ·
    obtain ⟨hI, kk0, er, _⟩ := hq5
    exact ⟨hI, kk0.trans k0_0, (fun E9_ e_ => by cases e_; exact id (er _ rfl)), (fun r_ e_ => nomatch e_)⟩
  ·
    obtain ⟨hI, kk0, _, ok_⟩ := hq5
    have hI : zI XT g2 := hI
    have k0_0 : g2 0 13 = g0 0 13 := kk0.trans k0_0
    refine Ex.cb (sX9_gather_12 fu hfu g2 L3 hI) (fun x6 g7 L8 hq10 => ?_)
    obtain ⟨hI, kk0⟩ := hq10
    have hI : zI XT g7 := hI
    have k0_0 : g7 0 13 = g0 0 13 := kk0.trans k0_0
    refine Ex.cb (sX9_busiestMinute_12 fu hfu g7 L8 hI) (fun x11 g12 L13 hq15 => ?_)
    obtain ⟨hI, kk0⟩ := hq15
    have hI : zI XT g12 := hI
    have k0_0 : g12 0 13 = g0 0 13 := kk0.trans k0_0
    refine Ex.ite (fun c16 => ?_) (fun c16 => ?_)
    ·
      have c16 := icc_eq (m := (Int32.toInt p1)) (n := 1) rfl (by decide) c16
      exact Ex.ret ⟨hI, k0_0, (fun _ e_ => nomatch e_), (fun _ _ => trivial)⟩
    ·
      have c16 := icc_neq (m := (Int32.toInt p1)) (n := 1) rfl (by decide) c16
      have J44 : ∀ (t0 : Int32) (g : Nat → Nat → Int32) (L : Nat → Nat → Int64), zI XT g → g 0 13 = g0 0 13 → Ex (fX11_busiest_0_p44 fu t0 g L) (fun (r : Except String Int32) (g1 : Nat → Nat → Int32) (L1 : Nat → Nat → Int64) => zI XT g1 ∧ g1 0 13 = g0 0 13 ∧ (∀ E, r = .error E → E = "java/util/NoSuchElementException") ∧ (∀ r1, r = .ok r1 → True)) := by
        intro t0 g L hI k0_0
        unfold fX11_busiest_0_p44
        exact Ex.ret ⟨hI, k0_0, (fun _ e_ => nomatch e_), (fun _ _ => trivial)⟩
      refine Ex.ite (fun c17 => ?_) (fun c17 => ?_)
      ·
        have c17 := icc_eq (m := (Int32.toInt x11)) (n := (-1)) rfl (by decide) c17
        exact J44 0 g12 L13 hI k0_0
      ·
        have c17 := icc_neq (m := (Int32.toInt x11)) (n := (-1)) rfl (by decide) c17
        refine Ex.cb (sX9_peopleIn_12 fu hfu x11 g12 L13 hI) (fun x18 g19 L20 hq22 => ?_)
        obtain ⟨hI, kk0⟩ := hq22
        have hI : zI XT g19 := hI
        have k0_0 : g19 0 13 = g0 0 13 := kk0.trans k0_0
        exact J44 x18 g19 L20 hI k0_0
set_option maxHeartbeats 4000000 in
set_option maxRecDepth 100000 in
theorem sX11_idle_0 (fu : Nat) (hfu : 1180591620717411303424 ≤ fu) (g0 : Nat → Nat → Int32) (L0 : Nat → Nat → Int64) (hI : zI XT g0) : Ex (fX11_idle_0 fu g0 L0) (fun (r : Int32) (g1 : Nat → Nat → Int32) (L1 : Nat → Nat → Int64) => zI XT g1 ∧ g1 0 13 = g0 0 13) := by
  have k0_0 : g0 0 13 = g0 0 13 := rfl
  unfold fX11_idle_0
  refine Ex.cb (sX1_runFrom_8 fu hfu 0 g0 L0 hI (by decide)) (fun x1 g2 L3 hq5 => ?_)
  obtain ⟨hI, kk0⟩ := hq5
  have hI : zI XT g2 := hI
  have k0_0 : g2 0 13 = g0 0 13 := kk0.trans k0_0
  refine Ex.cb (sX1_idleMinutes_8 fu hfu g2 L3 hI) (fun x6 g7 L8 hq10 => ?_)
  obtain ⟨hI, kk0⟩ := hq10
  have hI : zI XT g7 := hI
  have k0_0 : g7 0 13 = g0 0 13 := kk0.trans k0_0
  exact Ex.ret ⟨hI, k0_0⟩
set_option maxHeartbeats 4000000 in
set_option maxRecDepth 100000 in
theorem sX11_shift_0 (fu : Nat) (hfu : 1180591620717411303424 ≤ fu) (p1 : Int32) (p2 : Int32) (g0 : Nat → Nat → Int32) (L0 : Nat → Nat → Int64) (hI : zI XT g0) : Ex (fX11_shift_0 fu p1 p2 g0 L0) (fun (r : Except String Int32) (g1 : Nat → Nat → Int32) (L1 : Nat → Nat → Int64) => zI XT g1 ∧ g1 0 13 = g0 0 13 ∧ (∀ E, r = .error E → E = "java/util/NoSuchElementException") ∧ (∀ r1, r = .ok r1 → True)) := by
  have k0_0 : g0 0 13 = g0 0 13 := rfl
  unfold fX11_shift_0
  refine Ex.cbx (sX11_needLesson_0 fu hfu p1 g0 L0 hI) (fun E_ g2 L3 hq5 => ?_) (fun x1 g2 L3 hq5 => ?_)
  ·
    obtain ⟨hI, kk0, er, _, _⟩ := hq5
    exact ⟨hI, kk0.trans k0_0, (fun E9_ e_ => by cases e_; exact id (er _ rfl)), (fun r_ e_ => nomatch e_)⟩
  ·
    obtain ⟨hI, kk0, _, ok_, ap0⟩ := hq5
    have b6 : 0 ≤ (Int32.toInt p1) ∧ (Int32.toInt p1) ≤ 11 := ap0 _ rfl
    have hI : zI XT g2 := hI
    have k0_0 : g2 0 13 = g0 0 13 := kk0.trans k0_0
    refine Ex.cbx (sX11_needWhat fu hfu p2 2 g2 L3 hI) (fun E_ g8 L9 hq11 => ?_) (fun x7 g8 L9 hq11 => ?_)
    ·
      obtain ⟨hI, kk0, er, _⟩ := hq11
      exact ⟨hI, kk0.trans k0_0, (fun E9_ e_ => by cases e_; exact id (er _ rfl)), (fun r_ e_ => nomatch e_)⟩
    ·
      obtain ⟨hI, kk0, _, ok_⟩ := hq11
      have hI : zI XT g8 := hI
      have k0_0 : g8 0 13 = g0 0 13 := kk0.trans k0_0
      refine Ex.cb (sX10_leastByShift_9 fu hfu p1 p2 g8 L9 hI (by omega)) (fun x12 g13 L14 hq16 => ?_)
      obtain ⟨hI, kk0⟩ := hq16
      have hI : zI XT g13 := hI
      have k0_0 : g13 0 13 = g0 0 13 := kk0.trans k0_0
      exact Ex.ret ⟨hI, k0_0, (fun _ e_ => nomatch e_), (fun _ _ => trivial)⟩
set_option maxHeartbeats 4000000 in
set_option maxRecDepth 100000 in
theorem sX11_harm_0 (fu : Nat) (hfu : 1180591620717411303424 ≤ fu) (p1 : Int32) (p2 : Int32) (g0 : Nat → Nat → Int32) (L0 : Nat → Nat → Int64) (hI : zI XT g0) : Ex (fX11_harm_0 fu p1 p2 g0 L0) (fun (r : Except String Int32) (g1 : Nat → Nat → Int32) (L1 : Nat → Nat → Int64) => zI XT g1 ∧ g1 0 13 = g0 0 13 ∧ (∀ E, r = .error E → E = "java/util/NoSuchElementException") ∧ (∀ r1, r = .ok r1 → True)) := by
  have k0_0 : g0 0 13 = g0 0 13 := rfl
  unfold fX11_harm_0
  refine Ex.cbx (sX11_needLesson_0 fu hfu p1 g0 L0 hI) (fun E_ g2 L3 hq5 => ?_) (fun x1 g2 L3 hq5 => ?_)
  ·
    obtain ⟨hI, kk0, er, _, _⟩ := hq5
    exact ⟨hI, kk0.trans k0_0, (fun E9_ e_ => by cases e_; exact id (er _ rfl)), (fun r_ e_ => nomatch e_)⟩
  ·
    obtain ⟨hI, kk0, _, ok_, ap0⟩ := hq5
    have b6 : 0 ≤ (Int32.toInt p1) ∧ (Int32.toInt p1) ≤ 11 := ap0 _ rfl
    have hI : zI XT g2 := hI
    have k0_0 : g2 0 13 = g0 0 13 := kk0.trans k0_0
    refine Ex.cbx (sX11_needLesson_0 fu hfu p2 g2 L3 hI) (fun E_ g8 L9 hq11 => ?_) (fun x7 g8 L9 hq11 => ?_)
    ·
      obtain ⟨hI, kk0, er, _, _⟩ := hq11
      exact ⟨hI, kk0.trans k0_0, (fun E9_ e_ => by cases e_; exact id (er _ rfl)), (fun r_ e_ => nomatch e_)⟩
    ·
      obtain ⟨hI, kk0, _, ok_, ap0⟩ := hq11
      have b12 : 0 ≤ (Int32.toInt p2) ∧ (Int32.toInt p2) ≤ 11 := ap0 _ rfl
      have hI : zI XT g8 := hI
      have k0_0 : g8 0 13 = g0 0 13 := kk0.trans k0_0
      refine Ex.cb (sX10_harmDone_9 fu hfu p1 p2 g8 L9 hI (by omega) (by omega)) (fun x13 g14 L15 hq17 => ?_)
      obtain ⟨hI, kk0⟩ := hq17
      have hI : zI XT g14 := hI
      have k0_0 : g14 0 13 = g0 0 13 := kk0.trans k0_0
      exact Ex.ret ⟨hI, k0_0, (fun _ e_ => nomatch e_), (fun _ _ => trivial)⟩
set_option maxHeartbeats 4000000 in
set_option maxRecDepth 100000 in
theorem sX11_pair_0 (fu : Nat) (hfu : 1180591620717411303424 ≤ fu) (p1 : Int32) (g0 : Nat → Nat → Int32) (L0 : Nat → Nat → Int64) (hI : zI XT g0) : Ex (fX11_pair_0 fu p1 g0 L0) (fun (r : Except String Int32) (g1 : Nat → Nat → Int32) (L1 : Nat → Nat → Int64) => zI XT g1 ∧ g1 0 13 = g0 0 13 ∧ (∀ E, r = .error E → E = "java/util/NoSuchElementException") ∧ (∀ r1, r = .ok r1 → True)) := by
  have k0_0 : g0 0 13 = g0 0 13 := rfl
  unfold fX11_pair_0
  refine Ex.cbx (sX11_needWhat fu hfu p1 2 g0 L0 hI) (fun E_ g2 L3 hq5 => ?_) (fun x1 g2 L3 hq5 => ?_)
  ·
    obtain ⟨hI, kk0, er, _⟩ := hq5
    exact ⟨hI, kk0.trans k0_0, (fun E9_ e_ => by cases e_; exact id (er _ rfl)), (fun r_ e_ => nomatch e_)⟩
  ·
    obtain ⟨hI, kk0, _, ok_⟩ := hq5
    have hI : zI XT g2 := hI
    have k0_0 : g2 0 13 = g0 0 13 := kk0.trans k0_0
    refine Ex.cb (sX10_withoutTwo_9 fu hfu p1 g2 L3 hI) (fun x6 g7 L8 hq10 => ?_)
    obtain ⟨hI, kk0⟩ := hq10
    have hI : zI XT g7 := hI
    have k0_0 : g7 0 13 = g0 0 13 := kk0.trans k0_0
    exact Ex.ret ⟨hI, k0_0, (fun _ e_ => nomatch e_), (fun _ _ => trivial)⟩
set_option maxHeartbeats 4000000 in
set_option maxRecDepth 100000 in
theorem sX11_pause_0 (fu : Nat) (hfu : 1180591620717411303424 ≤ fu) (p1 : Int32) (p2 : Int32) (g0 : Nat → Nat → Int32) (L0 : Nat → Nat → Int64) (hI : zI XT g0) : Ex (fX11_pause_0 fu p1 p2 g0 L0) (fun (r : Except String Int32) (g1 : Nat → Nat → Int32) (L1 : Nat → Nat → Int64) => zI XT g1 ∧ g1 0 13 = g0 0 13 ∧ (∀ E, r = .error E → E = "java/lang/IllegalArgumentException" ∨ E = "java/util/NoSuchElementException") ∧ (∀ r1, r = .ok r1 → True)) := by
  have k0_0 : g0 0 13 = g0 0 13 := rfl
  unfold fX11_pause_0
  refine Ex.cbx (sX11_needWhat fu hfu p2 2 g0 L0 hI) (fun E_ g2 L3 hq5 => ?_) (fun x1 g2 L3 hq5 => ?_)
  ·
    obtain ⟨hI, kk0, er, _⟩ := hq5
    exact ⟨hI, kk0.trans k0_0, (fun E9_ e_ => by cases e_; exact (fun h_ => (Or.inr (h_))) (er _ rfl)), (fun r_ e_ => nomatch e_)⟩
  ·
    obtain ⟨hI, kk0, _, ok_⟩ := hq5
    have hI : zI XT g2 := hI
    have k0_0 : g2 0 13 = g0 0 13 := kk0.trans k0_0
    refine Ex.cbx (sX11_needWithin fu hfu p1 1 30 g2 L3 hI) (fun E_ g7 L8 hq10 => ?_) (fun x6 g7 L8 hq10 => ?_)
    ·
      obtain ⟨hI, kk0, er, _, _⟩ := hq10
      exact ⟨hI, kk0.trans k0_0, (fun E9_ e_ => by cases e_; exact (fun h_ => (Or.inl h_)) (er _ rfl)), (fun r_ e_ => nomatch e_)⟩
    ·
      obtain ⟨hI, kk0, _, ok_, ap0⟩ := hq10
      have b11 : 1 ≤ (Int32.toInt p1) ∧ (Int32.toInt p1) ≤ 30 := ap0 _ rfl
      have hI : zI XT g7 := hI
      have k0_0 : g7 0 13 = g0 0 13 := kk0.trans k0_0
      refine Ex.cb (sX10_leastByPause_9 fu hfu p1 p2 g7 L8 hI) (fun x12 g13 L14 hq16 => ?_)
      obtain ⟨hI, kk0⟩ := hq16
      have hI : zI XT g13 := hI
      have k0_0 : g13 0 13 = g0 0 13 := kk0.trans k0_0
      exact Ex.ret ⟨hI, k0_0, (fun _ e_ => nomatch e_), (fun _ _ => trivial)⟩
set_option maxHeartbeats 4000000 in
set_option maxRecDepth 100000 in
theorem sX11_image_0 (fu : Nat) (hfu : 1180591620717411303424 ≤ fu) (g0 : Nat → Nat → Int32) (L0 : Nat → Nat → Int64) (hI : zI XT g0) : Ex (fX11_image_0 fu g0 L0) (fun (r : Unit) (g1 : Nat → Nat → Int32) (L1 : Nat → Nat → Int64) => zI XT g1 ∧ g1 0 13 = g0 0 13) := by
  have k0_0 : g0 0 13 = g0 0 13 := rfl
  unfold fX11_image_0
  refine Ex.cb (sX3_copy_7_6 fu hfu g0 L0 hI) (fun x1 g2 L3 hq5 => ?_)
  obtain ⟨hI, kk0⟩ := hq5
  have hI : zI XT g2 := hI
  have k0_0 : g2 0 13 = g0 0 13 := kk0.trans k0_0
  refine Ex.sti (hI.upd rfl (by decide) (by decide)) (fun g6 g6e hI => ?_)
  have k0_0 : g6 0 13 = g0 0 13 := by rw [g6e]; exact k0_0
  exact Ex.ret ⟨hI, k0_0⟩
set_option maxHeartbeats 4000000 in
set_option maxRecDepth 100000 in
theorem sX11_restore_0 (fu : Nat) (hfu : 1180591620717411303424 ≤ fu) (g0 : Nat → Nat → Int32) (L0 : Nat → Nat → Int64) (hI : zI XT g0) : Ex (fX11_restore_0 fu g0 L0) (fun (r : Int32) (g1 : Nat → Nat → Int32) (L1 : Nat → Nat → Int64) => zI XT g1 ∧ g1 0 13 = g0 0 13 ∧ (0 ≤ (Int32.toInt r) ∧ (Int32.toInt r) ≤ 1)) := by
  have k0_0 : g0 0 13 = g0 0 13 := rfl
  unfold fX11_restore_0
  have b1 : 0 ≤ (Int32.toInt (g0 0 15)) ∧ (Int32.toInt (g0 0 15)) ≤ 1 := hI 0 15 0 1 rfl
  refine Ex.ite (fun c2 => ?_) (fun c2 => ?_)
  ·
    have c2 := icc_eq (m := (Int32.toInt (g0 0 15))) (n := 0) rfl (by decide) c2
    refine Ex.ckb rfl ?_
    exact Ex.ret ⟨hI, k0_0, (by decide)⟩
  ·
    have c2 := icc_neq (m := (Int32.toInt (g0 0 15))) (n := 0) rfl (by decide) c2
    refine Ex.cb (sX3_copy_6_7 fu hfu g0 L0 hI) (fun x3 g4 L5 hq7 => ?_)
    obtain ⟨hI, kk0⟩ := hq7
    have hI : zI XT g4 := hI
    have k0_0 : g4 0 13 = g0 0 13 := kk0.trans k0_0
    refine Ex.ckb rfl ?_
    exact Ex.ret ⟨hI, k0_0, (by decide)⟩
