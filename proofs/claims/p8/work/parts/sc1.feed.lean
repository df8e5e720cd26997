/-! ===== the tapes ===== -/
theorem b_and255 (x y : BitVec 32) (h : ∀ i, i < 8 → x.getLsbD i = y.getLsbD i) : x &&& 255#32 = y &&& 255#32 := by
  apply BitVec.eq_of_getLsbD_eq
  intro i hi
  rw [BitVec.getLsbD_and, BitVec.getLsbD_and]
  by_cases h8 : i < 8
  · rw [h i h8]
  · have e : (255#32).getLsbD i = false := by
      have key : ∀ i, i < 32 → ¬ i < 8 → (255#32).getLsbD i = false := by decide
      exact key i hi h8
    rw [e, Bool.and_false, Bool.and_false]
theorem byte_eq (v1 v2 : Int32) (hv : v2 = 24 ∨ v2 = 16 ∨ v2 = 8 ∨ v2 = 0) : ((Int32.toUInt32 v1 >>> (Int32.toUInt32 v2 &&& Int32.toUInt32 31)).toInt32 &&& 255) = (((v1 : Int32) >>> ((v2 : Int32) &&& 31) : Int32) &&& 255) := by
  apply Int32.toBitVec_inj.mp
  rw [Int32.toBitVec_and, Int32.toBitVec_and]
  have key : ∀ m : Nat, m ≤ 24 → (Int32.toUInt32 v2 &&& Int32.toUInt32 31).toBitVec % 32 = BitVec.ofNat 32 m → (v2 &&& 31).toBitVec.smod 32 = BitVec.ofNat 32 m → ((Int32.toUInt32 v1 >>> (Int32.toUInt32 v2 &&& Int32.toUInt32 31)).toInt32).toBitVec &&& (255 : Int32).toBitVec = (v1 >>> (v2 &&& 31)).toBitVec &&& (255 : Int32).toBitVec := by
    intro m hm h1 h2
    refine b_and255 _ _ (fun i hi => ?_)
    have e1 : ((Int32.toUInt32 v1 >>> (Int32.toUInt32 v2 &&& Int32.toUInt32 31)).toInt32).toBitVec = v1.toBitVec >>> (BitVec.ofNat 32 m) := by
      show (Int32.toUInt32 v1 >>> (Int32.toUInt32 v2 &&& Int32.toUInt32 31)).toBitVec = _
      rw [UInt32.toBitVec_shiftRight, h1]; rfl
    have en : (BitVec.ofNat 32 m).toNat = m := by rw [BitVec.toNat_ofNat]; exact Nat.mod_eq_of_lt (by omega)
    rw [e1, Int32.toBitVec_shiftRight, h2]
    show (v1.toBitVec >>> (BitVec.ofNat 32 m).toNat).getLsbD i = (v1.toBitVec.sshiftRight (BitVec.ofNat 32 m).toNat).getLsbD i
    rw [en, BitVec.getLsbD_ushiftRight, BitVec.getLsbD_sshiftRight]
    have c1 : m + i < 32 := by omega
    have c2 : ¬ 32 ≤ i := by omega
    simp [c1, c2]
  rcases hv with rfl | rfl | rfl | rfl
  · exact key 24 (by decide) (by decide) (by decide)
  · exact key 16 (by decide) (by decide) (by decide)
  · exact key 8 (by decide) (by decide) (by decide)
  · exact key 0 (by decide) (by decide) (by decide)
/-- both tapes hold the same -/
def TP (g gm : gT) : Prop := g 0 13 = gm 0 18 ∧ ∀ j : Nat, (j : Int) < (gm 0 18).toInt → g 14 j = gm 13 j
theorem put_step {fu : Nat} {v1 v2 : Int32} {k3 : Int32 × gT × lT → Option (Unit × zS)} {g : gT} {L : lT} (h0 : 0 ≤ (g 0 13).toInt) (h1 : (g 0 13).toInt < 700) (hv : ¬ v2 < 0) : fX11_put_0_s3 fu v1 k3 v2 g L = k3 (v2 + (-8), upd2 (upd2 g 14 (g 0 13).toInt.toNat ((Int32.toUInt32 v1 >>> (Int32.toUInt32 v2 &&& Int32.toUInt32 31)).toInt32 &&& 255)) 0 13 (g 0 13 + 1), L) := by
  unfold fX11_put_0_s3 fX11_put_0_p45
  rw [if_neg hv, if_neg (fun h => by have := icc_le (m := 700) (n := (g 0 13).toInt) (by decide) rfl h; omega), ck_eq h0 h1]
  rfl
theorem lay_step {fu : Nat} {v1 v2 : Int32} {k3 : Int32 × gT × lT → Option (Unit × zS)} {g : gT} {L : lT} (h0 : 0 ≤ (g 0 18).toInt) (h1 : (g 0 18).toInt < 700) (hv : ¬ v2 < 0) : fX12_lays_s3 fu v1 k3 v2 g L = k3 (v2 + (-8), upd2 (upd2 g 13 (g 0 18).toInt.toNat (((v1 : Int32) >>> ((v2 : Int32) &&& 31) : Int32) &&& 255)) 0 18 (g 0 18 + 1), L) := by
  unfold fX12_lays_s3
  rw [if_neg hv, ck_eq h0 h1]
  rfl
theorem tp_step {g gm : gT} {x : Int32} (h : TP g gm) (h0 : 0 ≤ (gm 0 18).toInt) (h1 : (gm 0 18).toInt < 700) : TP (upd2 (upd2 g 14 (g 0 13).toInt.toNat x) 0 13 (g 0 13 + 1)) (upd2 (upd2 gm 13 (gm 0 18).toInt.toNat x) 0 18 (gm 0 18 + 1)) ∧ (upd2 (upd2 gm 13 (gm 0 18).toInt.toNat x) 0 18 (gm 0 18 + 1) 0 18).toInt = (gm 0 18).toInt + 1 := by
  have ew : (gm 0 18 + 1).toInt = (gm 0 18).toInt + 1 := ic_addc rfl (by decide) (by omega) (by omega)
  refine ⟨⟨?_, fun j hj => ?_⟩, by rw [upd2_at]; exact ew⟩
  · rw [upd2_at, upd2_at, h.1]
  · rw [upd2_at, ew] at hj
    have n1 : ∀ y : Int32, upd2 (upd2 g 14 (g 0 13).toInt.toNat x) 0 13 y 14 j = upd2 g 14 (g 0 13).toInt.toNat x 14 j := fun y => upd2_nk (by decide)
    have n2 : ∀ y : Int32, upd2 (upd2 gm 13 (gm 0 18).toInt.toNat x) 0 18 y 13 j = upd2 gm 13 (gm 0 18).toInt.toNat x 13 j := fun y => upd2_nk (by decide)
    rw [n1, n2, h.1]
    by_cases e : j = (gm 0 18).toInt.toNat
    · subst e; rw [upd2_at, upd2_at]
    · rw [upd2_nj e, upd2_nj e]; exact h.2 j (by omega)
theorem put_lay {fu : Nat} (hfu : 1180591620717411303424 ≤ fu) {g gm : gT} {L Lm : lT} {v : Int32} (h : TP g gm) (h0 : 0 ≤ (gm 0 18).toInt) (h1 : (gm 0 18).toInt ≤ 696) : ∃ g1 gm1, fX11_put_0 fu v g L = some ((), (g1, L)) ∧ fX12_lays fu v gm Lm = some ((), (gm1, Lm)) ∧ TP g1 gm1 ∧ (gm1 0 18).toInt = (gm 0 18).toInt + 4 := by
  obtain ⟨f, rfl⟩ : ∃ f, fu = f + 5 := ⟨fu - 5, by omega⟩
  have eP : ∀ (m : Nat) (v2 : Int32) (g : gT), whileK (fun k v' => fX11_put_0_s3 (f + 5) v k v'.1 v'.2.1 v'.2.2) (m + 1) (v2, g, L) = fX11_put_0_s3 (f + 5) v (whileK (fun k v' => fX11_put_0_s3 (f + 5) v k v'.1 v'.2.1 v'.2.2) m) v2 g L := fun _ _ _ => rfl
  have eL : ∀ (m : Nat) (v2 : Int32) (g : gT), whileK (fun k v' => fX12_lays_s3 (f + 5) v k v'.1 v'.2.1 v'.2.2) (m + 1) (v2, g, Lm) = fX12_lays_s3 (f + 5) v (whileK (fun k v' => fX12_lays_s3 (f + 5) v k v'.1 v'.2.1 v'.2.2) m) v2 g Lm := fun _ _ _ => rfl
  unfold fX11_put_0 fX11_put_0_l3 fX12_lays fX12_lays_l3
  have x0 : (g 0 13).toInt = (gm 0 18).toInt := by rw [h.1]
  rw [eP (f + 4) 24 g, put_step (by omega) (by omega) (by decide), eL (f + 4) 24 gm, lay_step (by omega) (by omega) (by decide), byte_eq v 24 (Or.inl rfl)]
  obtain ⟨t1, c1⟩ := tp_step (x := (((v : Int32) >>> ((24 : Int32) &&& 31) : Int32) &&& 255)) h h0 (by omega)
  generalize upd2 (upd2 g 14 (g 0 13).toInt.toNat (((v : Int32) >>> ((24 : Int32) &&& 31) : Int32) &&& 255)) 0 13 (g 0 13 + 1) = ga at t1 ⊢
  generalize upd2 (upd2 gm 13 (gm 0 18).toInt.toNat (((v : Int32) >>> ((24 : Int32) &&& 31) : Int32) &&& 255)) 0 18 (gm 0 18 + 1) = gma at t1 c1 ⊢
  have x1 : (ga 0 13).toInt = (gma 0 18).toInt := by rw [t1.1]
  rw [show (24 : Int32) + -8 = 16 from rfl]
  rw [eP (f + 3) 16 ga, put_step (by omega) (by omega) (by decide), eL (f + 3) 16 gma, lay_step (by omega) (by omega) (by decide), byte_eq v 16 (Or.inr (Or.inl rfl))]
  obtain ⟨t2, c2⟩ := tp_step (x := (((v : Int32) >>> ((16 : Int32) &&& 31) : Int32) &&& 255)) t1 (by omega) (by omega)
  generalize upd2 (upd2 ga 14 (ga 0 13).toInt.toNat (((v : Int32) >>> ((16 : Int32) &&& 31) : Int32) &&& 255)) 0 13 (ga 0 13 + 1) = gb at t2 ⊢
  generalize upd2 (upd2 gma 13 (gma 0 18).toInt.toNat (((v : Int32) >>> ((16 : Int32) &&& 31) : Int32) &&& 255)) 0 18 (gma 0 18 + 1) = gmb at t2 c2 ⊢
  have x2 : (gb 0 13).toInt = (gmb 0 18).toInt := by rw [t2.1]
  rw [show (16 : Int32) + -8 = 8 from rfl]
  rw [eP (f + 2) 8 gb, put_step (by omega) (by omega) (by decide), eL (f + 2) 8 gmb, lay_step (by omega) (by omega) (by decide), byte_eq v 8 (Or.inr (Or.inr (Or.inl rfl)))]
  obtain ⟨t3, c3⟩ := tp_step (x := (((v : Int32) >>> ((8 : Int32) &&& 31) : Int32) &&& 255)) t2 (by omega) (by omega)
  generalize upd2 (upd2 gb 14 (gb 0 13).toInt.toNat (((v : Int32) >>> ((8 : Int32) &&& 31) : Int32) &&& 255)) 0 13 (gb 0 13 + 1) = gc at t3 ⊢
  generalize upd2 (upd2 gmb 13 (gmb 0 18).toInt.toNat (((v : Int32) >>> ((8 : Int32) &&& 31) : Int32) &&& 255)) 0 18 (gmb 0 18 + 1) = gmc at t3 c3 ⊢
  have x3 : (gc 0 13).toInt = (gmc 0 18).toInt := by rw [t3.1]
  rw [show (8 : Int32) + -8 = 0 from rfl]
  rw [eP (f + 1) 0 gc, put_step (by omega) (by omega) (by decide), eL (f + 1) 0 gmc, lay_step (by omega) (by omega) (by decide), byte_eq v 0 (Or.inr (Or.inr (Or.inr rfl)))]
  obtain ⟨t4, c4⟩ := tp_step (x := (((v : Int32) >>> ((0 : Int32) &&& 31) : Int32) &&& 255)) t3 (by omega) (by omega)
  generalize upd2 (upd2 gc 14 (gc 0 13).toInt.toNat (((v : Int32) >>> ((0 : Int32) &&& 31) : Int32) &&& 255)) 0 13 (gc 0 13 + 1) = gd at t4 ⊢
  generalize upd2 (upd2 gmc 13 (gmc 0 18).toInt.toNat (((v : Int32) >>> ((0 : Int32) &&& 31) : Int32) &&& 255)) 0 18 (gmc 0 18 + 1) = gmd at t4 c4 ⊢
  rw [show (0 : Int32) + -8 = -8 from rfl]
  refine ⟨gd, gmd, ?_, ?_, t4, by omega⟩
  · rw [eP f (-8) gd]; unfold fX11_put_0_s3; rw [if_pos (by decide)]
  · rw [eL f (-8) gmd]; unfold fX12_lays_s3; rw [if_pos (by decide)]
theorem tp_00 {g gm : gT} {x : Int32} (h : TP g gm) : TP g (upd2 gm 0 0 x) := h
theorem feed_tp {fu : Nat} (hfu : 1180591620717411303424 ≤ fu) {g gm : gT} {L Lm : lT} {p1 p2 p3 p4 p5 : Int32} (hI : zI MT gm) (h : TP g gm) : ∃ r g1 gm1, fX11_feed_0 fu p1 p2 p3 p4 p5 g L = some (r, (g1, L)) ∧ fX12_feed fu p1 p2 p3 p4 p5 gm Lm = some (r, (gm1, Lm)) ∧ TP g1 gm1 := by
  have q18 := hI 0 18 0 700 rfl
  have ew : (gm 0 18 + 20).toInt = (gm 0 18).toInt + 20 := ic_addc rfl (by decide) (by omega) (by omega)
  have h' := tp_00 (x := 0) h
  unfold fX11_feed_0 fX12_feed
  by_cases c : gm 0 18 + 20 ≤ 700
  · have c' := icc_le (m := (gm 0 18 + 20).toInt) (n := 700) rfl (by decide) c
    have e18 : (upd2 gm 0 0 0 0 18).toInt = (gm 0 18).toInt := rfl
    obtain ⟨a1, b1, e1, f1, t1, c1⟩ := put_lay hfu (L := L) (Lm := Lm) (v := p1) h' (by omega) (by omega)
    obtain ⟨a2, b2, e2, f2, t2, c2⟩ := put_lay hfu (L := L) (Lm := Lm) (v := p2) t1 (by omega) (by omega)
    obtain ⟨a3, b3, e3, f3, t3, c3⟩ := put_lay hfu (L := L) (Lm := Lm) (v := p3) t2 (by omega) (by omega)
    obtain ⟨a4, b4, e4, f4, t4, c4⟩ := put_lay hfu (L := L) (Lm := Lm) (v := p4) t3 (by omega) (by omega)
    obtain ⟨a5, b5, e5, f5, t5, c5⟩ := put_lay hfu (L := L) (Lm := Lm) (v := p5) t4 (by omega) (by omega)
    refine ⟨b5 0 18, a5, b5, ?_, ?_, t5⟩
    · rw [h.1, if_pos c]
      refine q_cb e1 (q_cb e2 (q_cb e3 (q_cb e4 (q_cb e5 ?_))))
      rw [t5.1]
    · show (if gm 0 18 + 20 ≤ 700 then _ else _) = _
      rw [if_pos c]
      exact q_cb f1 (q_cb f2 (q_cb f3 (q_cb f4 (q_cb f5 rfl))))
  · refine ⟨-1, g, upd2 gm 0 0 0, ?_, ?_, h'⟩
    · rw [h.1, if_neg c]
    · show (if gm 0 18 + 20 ≤ 700 then _ else _) = _
      rw [if_neg c]
