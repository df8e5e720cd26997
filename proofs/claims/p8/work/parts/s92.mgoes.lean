/-! ===== the reference's parser: the reading of signs, as a function of the bytes ===== -/
theorem sh5 : (Int32.toInt64 5 &&& 63 : Int64) = 5 := by decide
theorem nat_of (x : Int64) (h0 : 0 ≤ x.toInt) : (x.toBitVec.toNat : Int) = x.toInt := by
  have e : x.toInt = x.toBitVec.toInt := rfl
  rw [e] at h0 ⊢
  rw [BitVec.toInt_eq_toNat_cond] at h0 ⊢
  have hl := x.toBitVec.isLt
  split at h0
  · rename_i h; rw [if_pos h]
  · omega
theorem shl5or {x : Int64} {y : Int32} (h0 : 0 ≤ x.toInt) (h1 : x.toInt < 1099511627776) (h2 : 0 ≤ y.toInt) (h3 : y.toInt < 32) : ((x <<< (Int32.toInt64 5 &&& 63)) ||| Int32.toInt64 y).toInt = 32 * x.toInt + y.toInt := by
  rw [sh5]
  have hy : (Int32.toInt64 y).toInt = y.toInt := Int32.toInt_toInt64 y
  have hx' := nat_of x h0
  have hy' := nat_of (Int32.toInt64 y) (by rw [hy]; exact h2)
  rw [hy] at hy'
  have e : ((x <<< 5) ||| Int32.toInt64 y).toBitVec.toNat = 32 * x.toBitVec.toNat + (Int32.toInt64 y).toBitVec.toNat := by
    rw [Int64.toBitVec_or, BitVec.toNat_or, Int64.toBitVec_shiftLeft]
    rw [show ((5 : Int64).toBitVec.smod 64) = 5#64 by decide]
    rw [show x.toBitVec <<< 5#64 = x.toBitVec <<< (5 : Nat) from rfl]
    rw [BitVec.toNat_shiftLeft]
    rw [Nat.mod_eq_of_lt (by rw [Nat.shiftLeft_eq]; omega)]
    rw [← Nat.shiftLeft_add_eq_or_of_lt (by omega), Nat.shiftLeft_eq]
    omega
  have e2 : ((x <<< 5) ||| Int32.toInt64 y).toInt = (((x <<< 5) ||| Int32.toInt64 y).toBitVec.toNat : Int) := by
    show ((x <<< 5) ||| Int32.toInt64 y).toBitVec.toInt = _
    exact BitVec.toInt_eq_toNat_of_lt (by rw [e]; omega)
  rw [e2, e]
  omega
abbrev mN (g : gT) : Nat := (g 0 22).toInt.toNat
def sM (k : Int) : Int := if k = 1 then 2 else if k = 2 then 1 else k
def mT (g : gT) (L : lT) (P : Nat) : Prop := (g 0 25).toInt = (P : Int) ∧ (g 0 24).toInt = sM (tK (g 13) (mN g) P) ∧ (g 0 23).toInt = (tE (g 13) (mN g) P : Int) ∧ (g 0 27).toInt = tV (g 13) (mN g) P ∧ (P < mN g → g 0 28 = g 13 P) ∧ (g 0 26).toInt = (tE (g 13) (mN g) P : Int) - (P : Int) ∧ (tK (g 13) (mN g) P = 2 → (L 0 29).toInt = pI (g 13) P (tE (g 13) (mN g) P - P))
def MA (g g1 : gT) (L1 : lT) : Prop := QG g g1 ∧ mT g1 L1 (sk (g 13) (mN g) (g 0 23).toInt.toNat)
set_option maxHeartbeats 4000000 in
theorem tX12_goes (fu : Nat) (hfu : 1180591620717411303424 ≤ fu) (g0 : gT) (L0 : lT) (hI : zI MT g0) (hn : (g0 0 23).toInt ≤ (g0 0 22).toInt) : Ex (fX12_goes fu g0 L0) (fun (_ : Unit) g1 L1 => MA g0 g1 L1) := by
  generalize hb : g0 13 = b
  generalize hN : mN g0 = n
  have z22 := hI 0 22 0 700 rfl
  have z23 := hI 0 23 0 700 rfl
  have hNi : (n : Int) = (g0 0 22).toInt := by rw [← hN]; show (((g0 0 22).toInt.toNat : Nat) : Int) = _; omega
  have hbt : ∀ (g : gT) (k : Int32) (q : Nat), Fr aG [] g0 g → k.toInt = (q : Int) → bt g k = if q < n then b q else 0 := by
    intro g k q hF hk
    have e22 := hF.1 22 (by decide)
    have e13 : g 13 = b := by rw [← hb]; exact hF.2 13 (by decide) (by decide)
    unfold bt
    rw [e22, e13]
    by_cases c : q < n
    · rw [if_pos c, if_neg (fun h => by have := ic_le.mp h; omega)]
      rw [nc, hk]; rfl
    · rw [if_neg c, if_pos (ic_le.mpr (by omega))]
  have fin : ∀ (t0 : Int32) (g : gT) (L : lT) (P : Nat), zI MT g → Fr aG [] g0 g → P = sk b n (g0 0 23).toInt.toNat → P ≤ n → (g 0 25).toInt = (P : Int) → t0.toInt = sM (tK b n P) → (g 0 23).toInt = (tE b n P : Int) → (g 0 27).toInt = tV b n P → (P < n → g 0 28 = b P) → (tK b n P = 2 → (L 0 29).toInt = pI b P (tE b n P - P)) → Ex (sti g 0 24 t0 (fun g22 => fX12_goes_p331 fu g22 L)) (fun (_ : Unit) g1 L1 => MA g0 g1 L1) := by
    intro t0 g L P hI hF hP hPn h25 h24 h23 h27 h28 hw
    have hE := tE_le (b := b) hPn
    have hp := sk_le (b := b) (n := n) (p := (g0 0 23).toInt.toNat) (by omega)
    refine Ex.sti (hI.updN rfl) (fun ga gae hI => ?_)
    unfold fX12_goes_p331
    refine Ex.sti (hI.updN rfl) (fun gb gbe hI => Ex.ret ?_)
    have e22 := hF.i (j := 22) (by decide)
    have hF : Fr aG [] g0 gb := by rw [gbe, gae]; exact (hF.u0 (by decide)).u0 (by decide)
    have r22 : (gb 0 22).toInt = (g0 0 22).toInt := hF.i (by decide)
    have r23 : gb 0 23 = g 0 23 := by rw [gbe, gae]; rfl
    have r24 : gb 0 24 = t0 := by rw [gbe, gae]; rfl
    have r25 : gb 0 25 = g 0 25 := by rw [gbe, gae]; rfl
    have r27 : gb 0 27 = g 0 27 := by rw [gbe, gae]; rfl
    have r28 : gb 0 28 = g 0 28 := by rw [gbe, gae]; rfl
    have a23 : ga 0 23 = g 0 23 := by rw [gae]; rfl
    have a25 : ga 0 25 = g 0 25 := by rw [gae]; rfl
    have r26 : (gb 0 26).toInt = (tE b n P : Int) - (P : Int) := by
      rw [gbe, upd2_at, a23, a25, ic_subc h23 h25 (by omega) (by omega)]
    have e13 : gb 13 = b := by rw [← hb]; exact hF.2 13 (by decide) (by decide)
    have eN : mN gb = n := by rw [← hN]; show (gb 0 22).toInt.toNat = (g0 0 22).toInt.toNat; rw [r22]
    refine ⟨⟨hI, hF, ?_, ?_⟩, ?_⟩
    · unfold pN
      rw [r22, r23, r24, r25, h23, h25, h24]
      refine ⟨by omega, by omega, fun hs => ?_⟩
      have : P < n := by
        by_cases c : P < n
        · exact c
        · rw [tK_ge c] at hs; exact absurd rfl hs
      have := hE.2.2 this
      omega
    · rw [r25, h25]; omega
    · unfold mT
      rw [e13, eN, hb, hN, ← hP, r23, r24, r25, r27, r28]
      exact ⟨h25, h24, h23, h27, h28, r26, hw⟩
  -- the rest of a number
  have P187 : ∀ (g : gT) (L : lT) (P : Nat), zI MT g → Fr aG [] g0 g → P = sk b n (g0 0 23).toInt.toNat → P < n → kd (b P).toInt = 1 → (g 0 25).toInt = (P : Int) → (g 0 23).toInt = (P : Int) → (g 0 27).toInt = 0 → g 0 28 = b P → Ex (fX12_goes_l187 fu g L) (fun (_ : Unit) g1 L1 => MA g0 g1 L1) := by
    intro g L P hI hF hP hPn hk h25 h23 h27 h28
    unfold fX12_goes_l187
    refine Ex.loop (α := gT × lT) (fun v => ∃ q : Nat, zI MT v.1 ∧ Fr aG [] g0 v.1 ∧ (v.1 0 25).toInt = (P : Int) ∧ (v.1 0 23).toInt = (q : Int) ∧ P ≤ q ∧ q ≤ n ∧ rE b n 1 P = rE b n 1 q ∧ (∀ i, P ≤ i → i < q → kd (b i).toInt = 1) ∧ (v.1 0 27).toInt = vl b P (q - P) ∧ v.1 0 28 = b P) (fun v => 701 - (v.1 0 23).toInt) (by omega) (by show 701 - (g 0 23).toInt < (fu : Int); omega) ⟨P, hI, hF, h25, h23, Nat.le_refl _, by omega, rfl, fun i h8 h9 => by omega, by rw [Nat.sub_self]; exact h27, h28⟩ (fun k187 v hv ih => ?_)
    clear hI hF h25 h23 h27 h28 g L
    obtain ⟨g, L⟩ := v
    obtain ⟨q, hI, hF, h25, h23, h7, h8, h9, h10, h27, h28⟩ := hv
    have hI : zI MT g := hI
    have hF : Fr aG [] g0 g := hF
    have h25 : (g 0 25).toInt = (P : Int) := h25
    have h23 : (g 0 23).toInt = (q : Int) := h23
    have h27 : (g 0 27).toInt = vl b P (q - P) := h27
    have h28 : g 0 28 = b P := h28
    have e22 := hF.i (j := 22) (by decide)
    show Ex (fX12_goes_s187 fu k187 g L) _
    unfold fX12_goes_s187
    refine e_byte (by omega) (by omega) ?_
    have hB := hbt g (g 0 23) q hF h23
    have stop : ¬ (q < n ∧ kd (b q).toInt = 1) → Ex (sti g 0 24 2 (fun g41 => fX12_goes_p331 fu g41 L)) (fun (_ : Unit) g1 L1 => MA g0 g1 L1) := by
      intro hs
      have hE : tE b n P = q := by rw [tE_r hPn (Or.inl hk), hk, h9, rE_n hs]
      have hKt : tK b n P = 1 := by rw [tK_lt hPn, hk]
      refine fin 2 g L P hI hF hP (by omega) h25 (by rw [hKt]; rfl) (by rw [hE]; exact h23) ?_ (fun _ => h28) (fun h => by omega)
      unfold tV
      rw [if_pos hKt, hE]; exact h27
    rw [hB]
    by_cases hq : q < n
    rotate_left
    · rw [if_neg hq]
      exact e_digit (fun _ => stop (fun h => hq h.1)) (fun c1 _ => absurd c1 (by decide))
    rw [if_pos hq]
    refine e_digit (fun c => stop (fun h => ?_)) (fun c1 c2 => ?_)
    · have := kd_1 h.2; omega
    have hkq : kd (b q).toInt = 1 := kd_d ⟨c1, c2⟩
    have P237 : ∀ (g1 : gT), zI MT g1 → Fr [27] [] g g1 → (g1 0 27).toInt = vl b P (q + 1 - P) → Ex (fX12_goes_p237 fu k187 g1 L) (fun (_ : Unit) g1 L1 => MA g0 g1 L1) := by
      intro g1 k1 k2 k3
      have r23 : g1 0 23 = g 0 23 := k2.1 23 (by decide)
      unfold fX12_goes_p237
      rw [r23]
      generalize hw : (g 0 23) + 1 = w
      have ew : w.toInt = (g 0 23).toInt + 1 := by rw [← hw]; exact ic_addc rfl (by decide) (by omega) (by omega)
      refine Ex.sti (k1.upd (lo := 0) (hi := 700) rfl (by omega) (by omega)) (fun ga gae hIa => ?_)
      have hFa : Fr [23, 27] [] g ga := by rw [gae]; exact (k2.mo (by decide) (by decide)).u0 (by decide)
      have s23 : (ga 0 23).toInt = (g 0 23).toInt + 1 := by rw [gae, upd2_at]; exact ew
      have s27 : (ga 0 27).toInt = (g1 0 27).toInt := by rw [gae]; rfl
      have s28 : ga 0 28 = g 0 28 := hFa.1 28 (by decide)
      refine ih (ga, L) ⟨q + 1, hIa, hF.tr (hFa.mo (by decide) (by decide)), (hFa.i (by decide)).trans h25, ?_, by omega, by omega, by rw [h9, rE_s hq hkq], fun i hi1 hi2 => ?_, ?_, s28.trans h28⟩ ?_ ?_
      · show (ga 0 23).toInt = ((q + 1 : Nat) : Int)
        omega
      · by_cases e : i = q
        · rw [e]; exact hkq
        · exact h10 i hi1 (by omega)
      · show (ga 0 27).toInt = _
        rw [s27]; exact k3
      · show 701 - (ga 0 23).toInt < 701 - (g 0 23).toInt
        omega
      · show 0 < 701 - (g 0 23).toInt
        omega
    have hd : ∀ i, i < q - P → 48 ≤ (b (P + i)).toInt ∧ (b (P + i)).toInt ≤ 57 := fun i hi => kd_1 (h10 (P + i) (by omega) (by omega))
    have hv := vl_b hd
    generalize hz : (g 0 23) - (g 0 25) = z
    have ez : z.toInt = (g 0 23).toInt - (g 0 25).toInt := by rw [← hz]; exact ic_subc rfl rfl (by omega) (by omega)
    refine Ex.ite (fun c4 => ?_) (fun c4 => ?_)
    · have c4 := icc_le (m := 4) (n := z.toInt) (by decide) rfl c4
      exact P237 g hI Fr.refl (by rw [h27, show q + 1 - P = (q - P) + 1 by omega, vl_e (by omega)])
    · have c4 := icc_nle (m := 4) (n := z.toInt) (by decide) rfl c4
      refine e_byte (by omega) (by omega) ?_
      rw [hB, if_pos hq]
      have hvb : vl b P (q - P) ≤ 999 := by
        have h9 := hv.2
        unfold vb at h9
        split at h9
        · omega
        · split at h9
          · omega
          · split at h9
            · omega
            · split at h9 <;> omega
      have hvs := vl_s (b := b) (P := P) (k := q - P) (by omega)
      rw [show P + (q - P) = q by omega] at hvs
      generalize hbb : b q = y at c1 c2 hvs ⊢
      generalize hm : 10 * (g 0 27) = m
      have em : m.toInt = 10 * (g 0 27).toInt := by rw [← hm]; exact ic_mulc (by decide) rfl (by omega) (by omega)
      generalize hs : m + y = s
      have es : s.toInt = m.toInt + y.toInt := by rw [← hs]; exact ic_addc rfl rfl (by omega) (by omega)
      generalize ht : s - 48 = t
      have et : t.toInt = s.toInt - 48 := by rw [← ht]; exact ic_subc rfl (by decide) (by omega) (by omega)
      refine Ex.sti (hI.upd (lo := 0) (hi := 9999) rfl (by omega) (by omega)) (fun ga gae hIa => ?_)
      refine P237 ga hIa (by rw [gae]; exact Fr.refl.u0 (by decide)) ?_
      have s27 : (ga 0 27).toInt = t.toInt := by rw [gae, upd2_at]
      rw [s27, show q + 1 - P = (q - P) + 1 by omega, hvs]
      omega
  -- the rest of a word
  have P108 : ∀ (g : gT) (L : lT) (P : Nat), zI MT g → Fr aG [] g0 g → P = sk b n (g0 0 23).toInt.toNat → P < n → kd (b P).toInt = 2 → (g 0 25).toInt = (P : Int) → (g 0 23).toInt = (P : Int) → (g 0 27).toInt = 0 → g 0 28 = b P → (L 0 29).toInt = 0 → Ex (fX12_goes_l108 fu g L) (fun (_ : Unit) g1 L1 => MA g0 g1 L1) := by
    intro g L P hI hF hP hPn hk h25 h23 h27 h28 hL
    unfold fX12_goes_l108
    refine Ex.loop (α := gT × lT) (fun v => ∃ q : Nat, zI MT v.1 ∧ Fr aG [] g0 v.1 ∧ (v.1 0 25).toInt = (P : Int) ∧ (v.1 0 23).toInt = (q : Int) ∧ P ≤ q ∧ q ≤ n ∧ rE b n 2 P = rE b n 2 q ∧ (∀ i, P ≤ i → i < q → kd (b i).toInt = 2) ∧ (v.1 0 27).toInt = 0 ∧ v.1 0 28 = b P ∧ (v.2 0 29).toInt = pI b P (q - P)) (fun v => 701 - (v.1 0 23).toInt) (by omega) (by show 701 - (g 0 23).toInt < (fu : Int); omega) ⟨P, hI, hF, h25, h23, Nat.le_refl _, by omega, rfl, fun i h8 h9 => by omega, h27, h28, by rw [Nat.sub_self]; exact hL⟩ (fun k108 v hv ih => ?_)
    clear hI hF h25 h23 h27 h28 hL g L
    obtain ⟨g, L⟩ := v
    obtain ⟨q, hI, hF, h25, h23, h7, h8, h9, h10, h27, h28, hL⟩ := hv
    have hI : zI MT g := hI
    have hF : Fr aG [] g0 g := hF
    have h25 : (g 0 25).toInt = (P : Int) := h25
    have h23 : (g 0 23).toInt = (q : Int) := h23
    have h27 : (g 0 27).toInt = 0 := h27
    have h28 : g 0 28 = b P := h28
    have hL : (L 0 29).toInt = pI b P (q - P) := hL
    have e22 := hF.i (j := 22) (by decide)
    show Ex (fX12_goes_s108 fu k108 g L) _
    unfold fX12_goes_s108
    refine e_byte (by omega) (by omega) ?_
    have hB := hbt g (g 0 23) q hF h23
    have stop : ¬ (q < n ∧ kd (b q).toInt = 2) → Ex (sti g 0 24 1 (fun g58 => fX12_goes_p331 fu g58 L)) (fun (_ : Unit) g1 L1 => MA g0 g1 L1) := by
      intro hs
      have hE : tE b n P = q := by rw [tE_r hPn (Or.inr hk), hk, h9, rE_n hs]
      have hKt : tK b n P = 2 := by rw [tK_lt hPn, hk]
      refine fin 1 g L P hI hF hP (by omega) h25 (by rw [hKt]; rfl) (by rw [hE]; exact h23) ?_ (fun _ => h28) (fun _ => by rw [hE]; exact hL)
      unfold tV
      rw [if_neg (by omega)]; exact h27
    rw [hB]
    by_cases hq : q < n
    rotate_left
    · rw [if_neg hq]
      exact e_letter (fun _ => stop (fun h => hq h.1)) (fun c1 _ => absurd c1 (by decide))
    rw [if_pos hq]
    refine e_letter (fun c => stop (fun h => ?_)) (fun c1 c2 => ?_)
    · have := kd_2 h.2; omega
    have hkq : kd (b q).toInt = 2 := kd_l ⟨c1, c2⟩
    have P159 : ∀ L1 : lT, (L1 0 29).toInt = pI b P (q + 1 - P) → Ex (fX12_goes_p159 fu k108 g L1) (fun (_ : Unit) g1 L1 => MA g0 g1 L1) := by
      intro L1 hL1
      unfold fX12_goes_p159
      generalize hw : (g 0 23) + 1 = w
      have ew : w.toInt = (g 0 23).toInt + 1 := by rw [← hw]; exact ic_addc rfl (by decide) (by omega) (by omega)
      refine Ex.sti (hI.upd (lo := 0) (hi := 700) rfl (by omega) (by omega)) (fun ga gae hIa => ?_)
      have hFa : Fr [23] [] g ga := by rw [gae]; exact Fr.refl.u0 (by decide)
      have s23 : (ga 0 23).toInt = (g 0 23).toInt + 1 := by rw [gae, upd2_at]; exact ew
      refine ih (ga, L1) ⟨q + 1, hIa, hF.tr (hFa.mo (by decide) (by decide)), (hFa.i (by decide)).trans h25, ?_, by omega, by omega, by rw [h9, rE_s hq hkq], fun i hi1 hi2 => ?_, (hFa.i (by decide)).trans h27, (hFa.1 28 (by decide)).trans h28, hL1⟩ ?_ ?_
      · show (ga 0 23).toInt = ((q + 1 : Nat) : Int)
        omega
      · by_cases e : i = q
        · rw [e]; exact hkq
        · exact h10 i hi1 (by omega)
      · show 701 - (ga 0 23).toInt < 701 - (g 0 23).toInt
        omega
      · show 0 < 701 - (g 0 23).toInt
        omega
    have hd : ∀ i, i < q - P → 97 ≤ (b (P + i)).toInt ∧ (b (P + i)).toInt ≤ 122 := fun i hi => kd_2 (h10 (P + i) (by omega) (by omega))
    have hv := pI_b hd
    generalize hz : (g 0 23) - (g 0 25) = z
    have ez : z.toInt = (g 0 23).toInt - (g 0 25).toInt := by rw [← hz]; exact ic_subc rfl rfl (by omega) (by omega)
    refine Ex.ite (fun c4 => ?_) (fun c4 => ?_)
    · have c4 := icc_le (m := 6) (n := z.toInt) (by decide) rfl c4
      exact P159 L (by rw [hL, show q + 1 - P = (q - P) + 1 by omega, pI_e (by omega)])
    · have c4 := icc_nle (m := 6) (n := z.toInt) (by decide) rfl c4
      refine e_byte (by omega) (by omega) ?_
      rw [hB, if_pos hq]
      have hvs := pI_s (b := b) (P := P) (k := q - P) (by omega)
      rw [show P + (q - P) = q by omega] at hvs
      generalize hbb : b q = y at c1 c2 hvs ⊢
      generalize ht : y - 96 = t
      have et : t.toInt = y.toInt - 96 := by rw [← ht]; exact ic_subc rfl (by decide) (by omega) (by omega)
      refine Ex.stl (fun L1 hL1 => P159 L1 ?_)
      have e1 : L1 0 29 = (L 0 29 <<< (Int32.toInt64 5 &&& 63)) ||| Int32.toInt64 t := by
        rw [hL1]; unfold updL; rw [if_pos rfl]; exact if_pos rfl
      rw [e1, shl5or (by omega) (by omega) (by omega) (by omega), show q + 1 - P = (q - P) + 1 by omega, hvs, hL]
      omega
  -- a sign's beginning
  have P50 : ∀ (g : gT) (L : lT) (P : Nat), zI MT g → Fr aG [] g0 g → P = sk b n (g0 0 23).toInt.toNat → P ≤ n → (g 0 23).toInt = (P : Int) → Ex (fX12_goes_p50 fu g L) (fun (_ : Unit) g1 L1 => MA g0 g1 L1) := by
    intro g L P hI hF hP hPn h23
    have e22 := hF.i (j := 22) (by decide)
    unfold fX12_goes_p50
    refine Ex.sti (hI.upd (lo := 0) (hi := 700) rfl (by omega) (by omega)) (fun g1 g1e hI => ?_)
    refine Ex.stl (fun L2 hL2 => ?_)
    have hL : (L2 0 29).toInt = 0 := by
      have e1 : L2 0 29 = 0 := by rw [hL2]; unfold updL; rw [if_pos rfl]; exact if_pos rfl
      rw [e1]; rfl
    refine Ex.sti (hI.upd (lo := 0) (hi := 9999) rfl (by decide) (by decide)) (fun g3 g3e hI => ?_)
    have s22 : g3 0 22 = g 0 22 := by rw [g3e, g1e]; rfl
    have s23 : g3 0 23 = g 0 23 := by rw [g3e, g1e]; rfl
    have s25 : g3 0 25 = g 0 23 := by rw [g3e, g1e]; rfl
    have s27 : g3 0 27 = 0 := by rw [g3e]; exact upd2_at
    have hF : Fr aG [] g0 g3 := by rw [g3e, g1e]; exact (hF.u0 (by decide)).u0 (by decide)
    clear g3e g1e
    rw [s23]
    refine e_byte (by omega) (by rw [s22]; omega) ?_
    rw [hbt g3 (g 0 23) P hF h23]
    refine Ex.sti (hI.updN rfl) (fun g8 g8e hI => ?_)
    have t22 : g8 0 22 = g 0 22 := by rw [g8e]; exact s22
    have t23 : g8 0 23 = g 0 23 := by rw [g8e]; exact s23
    have t25 : (g8 0 25).toInt = (P : Int) := by rw [g8e]; show (g3 0 25).toInt = _; rw [s25]; exact h23
    have t27 : (g8 0 27).toInt = 0 := by rw [g8e]; show (g3 0 27).toInt = _; rw [s27]; rfl
    have t28 : g8 0 28 = if P < n then b P else 0 := by rw [g8e]; exact upd2_at
    have hF : Fr aG [] g0 g8 := by rw [g8e]; exact hF.u0 (by decide)
    clear g8e s22 s23 s25 s27
    rw [t23, t22]
    refine Ex.ite (fun c => ?_) (fun c => ?_)
    rotate_left
    · have c := icc_nlt (m := (g 0 23).toInt) (n := (g 0 22).toInt) rfl rfl c
      have hPN : ¬ P < n := by omega
      refine fin 0 g8 L2 P hI hF hP hPn t25 (by rw [tK_ge hPN]; rfl) (by rw [tE_e hPN, t23]; exact h23) ?_ (fun h => absurd h hPN) (fun h => by rw [tK_ge hPN] at h; exact absurd h (by decide))
      unfold tV; rw [tK_ge hPN, if_neg (by decide)]; exact t27
    have c := icc_lt (m := (g 0 23).toInt) (n := (g 0 22).toInt) rfl rfl c
    have hPN : P < n := by omega
    rw [if_pos hPN] at t28
    rw [if_pos hPN]
    refine e_letter (fun l1 => ?_) (fun l1 l2 => P108 g8 L2 P hI hF hP hPN (kd_l ⟨l1, l2⟩) t25 (by rw [t23]; exact h23) t27 t28 hL)
    refine e_digit (fun l2 => ?_) (fun l1 l2 => P187 g8 L2 P hI hF hP hPN (kd_d ⟨l1, l2⟩) t25 (by rw [t23]; exact h23) t27 t28)
    rw [t23]
    generalize hw : (g 0 23) + 1 = w
    have ew : w.toInt = (g 0 23).toInt + 1 := by rw [← hw]; exact ic_addc rfl (by decide) (by omega) (by omega)
    refine Ex.sti (hI.upd (lo := 0) (hi := 700) rfl (by omega) (by omega)) (fun ga gae hI => ?_)
    have u23 : (ga 0 23).toInt = (P : Int) + 1 := by rw [gae, upd2_at]; omega
    have u25 : (ga 0 25).toInt = (P : Int) := by rw [gae]; exact t25
    have u27 : (ga 0 27).toInt = 0 := by rw [gae]; exact t27
    have u28 : ga 0 28 = b P := by rw [gae]; exact t28
    have hF : Fr aG [] g0 ga := by rw [gae]; exact hF.u0 (by decide)
    clear gae
    have hk2 : kd (b P).toInt = 3 ∨ kd (b P).toInt = 4 := by
      have k1 := kd_rg (b P).toInt
      have k2 : kd (b P).toInt ≠ 2 := fun h => by have := kd_2 h; omega
      have k3 : kd (b P).toInt ≠ 1 := fun h => by have := kd_1 h; omega
      omega
    have e : ∀ t0 : Int32, t0.toInt = kd (b P).toInt → Ex (fX12_goes_p328 fu t0 ga L2) (fun (_ : Unit) g1 L1 => MA g0 g1 L1) := by
      intro t0 ht
      unfold fX12_goes_p328
      refine fin t0 ga L2 P hI hF hP hPn u25 ?_ ?_ ?_ (fun _ => u28) (fun h => by rw [tK_lt hPN] at h; omega)
      · rw [tK_lt hPN, ht]; unfold sM; rw [if_neg (by omega), if_neg (by omega)]
      · rw [tE_1 hPN (by omega)]; omega
      · unfold tV; rw [tK_lt hPN, if_neg (by omega)]; exact u27
    have hs : ∀ m : Int32, (m.toInt = 59 ∨ m.toInt = 40 ∨ m.toInt = 41 ∨ m.toInt = 43 ∨ m.toInt = 45 ∨ m.toInt = 42 ∨ m.toInt = 47 ∨ m.toInt = 60 ∨ m.toInt = 61) → b P = m → Ex (fX12_goes_p328 fu 3 ga L2) (fun (_ : Unit) g1 L1 => MA g0 g1 L1) := fun m hm he => e 3 (by rw [he, kd_s hm]; rfl)
    unfold fX12_goes_p323
    refine Ex.ite (fun c1 => hs 59 (by decide) c1) (fun c1 => ?_)
    refine Ex.ite (fun c2 => hs 40 (by decide) c2) (fun c2 => ?_)
    refine Ex.ite (fun c3 => hs 41 (by decide) c3) (fun c3 => ?_)
    refine Ex.ite (fun c4 => hs 43 (by decide) c4) (fun c4 => ?_)
    refine Ex.ite (fun c5 => hs 45 (by decide) c5) (fun c5 => ?_)
    refine Ex.ite (fun c6 => hs 42 (by decide) c6) (fun c6 => ?_)
    refine Ex.ite (fun c7 => hs 47 (by decide) c7) (fun c7 => ?_)
    refine Ex.ite (fun c8 => hs 60 (by decide) c8) (fun c8 => ?_)
    refine Ex.ite (fun c9 => hs 61 (by decide) c9) (fun c9 => ?_)
    refine e 4 ?_
    have c1 := icc_neq (m := (b P).toInt) (n := 59) rfl (by decide) c1
    have c2 := icc_neq (m := (b P).toInt) (n := 40) rfl (by decide) c2
    have c3 := icc_neq (m := (b P).toInt) (n := 41) rfl (by decide) c3
    have c4 := icc_neq (m := (b P).toInt) (n := 43) rfl (by decide) c4
    have c5 := icc_neq (m := (b P).toInt) (n := 45) rfl (by decide) c5
    have c6 := icc_neq (m := (b P).toInt) (n := 42) rfl (by decide) c6
    have c7 := icc_neq (m := (b P).toInt) (n := 47) rfl (by decide) c7
    have c8 := icc_neq (m := (b P).toInt) (n := 60) rfl (by decide) c8
    have c9 := icc_neq (m := (b P).toInt) (n := 61) rfl (by decide) c9
    rw [kd_b (by omega) (by omega) (by omega)]; rfl
  unfold fX12_goes fX12_goes_l0
  generalize hp0 : sk b n (g0 0 23).toInt.toNat = P0 at fin P187 P108 P50
  refine Ex.loop (α := gT × lT) (fun v => ∃ q : Nat, zI MT v.1 ∧ Fr [23] [] g0 v.1 ∧ (v.1 0 23).toInt = (q : Int) ∧ q ≤ n ∧ sk b n q = P0) (fun v => 701 - (v.1 0 23).toInt) (by omega) (by show 701 - (g0 0 23).toInt < (fu : Int); omega) ⟨(g0 0 23).toInt.toNat, hI, Fr.refl, (show (g0 0 23).toInt = (((g0 0 23).toInt.toNat : Nat) : Int) by omega), by omega, hp0⟩ (fun k0 v hv ih => ?_)
  obtain ⟨g, L⟩ := v
  obtain ⟨q, h1, h2, h3, h4, h5⟩ := hv
  have h1 : zI MT g := h1
  have h2 : Fr [23] [] g0 g := h2
  have h3 : (g 0 23).toInt = (q : Int) := h3
  have e22 := h2.i (j := 22) (by decide)
  have hB := hbt g (g 0 23) q (h2.mo (by decide) (by decide)) h3
  show Ex (fX12_goes_s0 fu k0 g L) _
  unfold fX12_goes_s0
  have go : ∀ L1 : lT, ¬ (q < n ∧ ((b q).toInt = 32 ∨ (b q).toInt = 10)) → Ex (fX12_goes_p50 fu g L1) (fun (_ : Unit) g1 L1 => MA g0 g1 L1) := fun L1 hs => P50 g L1 q h1 (h2.mo (by decide) (by decide)) ((sk_n hs).symm.trans h5) h4 h3
  refine Ex.ite (fun c => go L ?_) (fun c => ?_)
  · have c := icc_le (m := (g 0 22).toInt) (n := (g 0 23).toInt) rfl rfl c
    omega
  have c := icc_nle (m := (g 0 22).toInt) (n := (g 0 23).toInt) rfl rfl c
  have hq : q < n := by omega
  rw [if_pos hq] at hB
  have P37 : ((b q).toInt = 32 ∨ (b q).toInt = 10) → Ex (fX12_goes_p37 fu k0 g L) (fun (_ : Unit) g1 L1 => MA g0 g1 L1) := by
    intro hbq
    unfold fX12_goes_p37
    generalize hw : (g 0 23) + 1 = w
    have ew : w.toInt = (g 0 23).toInt + 1 := by rw [← hw]; exact ic_addc rfl (by decide) (by omega) (by omega)
    refine Ex.sti (h1.upd (lo := 0) (hi := 700) rfl (by omega) (by omega)) (fun ga gae hIa => ?_)
    have s3 : (ga 0 23).toInt = (g 0 23).toInt + 1 := by rw [gae, upd2_at]; exact ew
    refine ih (ga, L) ⟨q + 1, hIa, by rw [gae]; exact h2.u0 (by decide), (show (ga 0 23).toInt = ((q + 1 : Nat) : Int) by omega), by omega, (sk_b hq hbq).symm.trans h5⟩ ?_ ?_
    · show 701 - (ga 0 23).toInt < 701 - (g 0 23).toInt
      omega
    · show 0 < 701 - (g 0 23).toInt
      omega
  refine e_byte (by omega) (by omega) ?_
  rw [hB]
  refine Ex.ite (fun c1 => P37 (Or.inl (icc_eq (m := (b q).toInt) (n := 32) rfl (by decide) c1))) (fun c1 => ?_)
  refine e_byte (by omega) (by omega) ?_
  rw [hB]
  refine Ex.ite (fun c2 => P37 (Or.inr (icc_eq (m := (b q).toInt) (n := 10) rfl (by decide) c2))) (fun c2 => go L ?_)
  have c1 := icc_neq (m := (b q).toInt) (n := 32) rfl (by decide) c1
  have c2 := icc_neq (m := (b q).toInt) (n := 10) rfl (by decide) c2
  omega
