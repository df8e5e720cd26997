/-! ===== the class's parser: the reading of signs, as a function of the bytes ===== -/
def FX (A B : List Nat) (g g' : gT) : Prop := (∀ j, j ∉ A → g' 5 j = g 5 j) ∧ (∀ k, k ≠ 5 → k ∉ B → g' k = g k)
theorem FX.refl {A B : List Nat} {g : gT} : FX A B g g := ⟨fun _ _ => rfl, fun _ _ _ => rfl⟩
theorem FX.tr {A B : List Nat} {g1 g2 g3 : gT} (h1 : FX A B g1 g2) (h2 : FX A B g2 g3) : FX A B g1 g3 := ⟨fun j hj => (h2.1 j hj).trans (h1.1 j hj), fun k h0 hk => (h2.2 k h0 hk).trans (h1.2 k h0 hk)⟩
theorem FX.mo {A B A' B' : List Nat} {g g' : gT} (h : FX A B g g') (hA : ∀ j ∈ A, j ∈ A') (hB : ∀ k ∈ B, k ∈ B') : FX A' B' g g' := ⟨fun j hj => h.1 j (fun h => hj (hA j h)), fun k h0 hk => h.2 k h0 (fun h => hk (hB k h))⟩
theorem FX.u5 {A B : List Nat} {g g' : gT} {j : Nat} {x : Int32} (h : FX A B g g') (hj : j ∈ A) : FX A B g (upd2 g' 5 j x) := ⟨fun i hi => (upd2_nj (show i ≠ j from fun e => hi (by rw [e]; exact hj))).trans (h.1 i hi), fun k h0 hk => (funext fun i => upd2_nk h0).trans (h.2 k h0 hk)⟩
theorem FX.uk {A B : List Nat} {g g' : gT} {k j : Nat} {x : Int32} (h : FX A B g g') (h0 : k ≠ 5) (hk : k ∈ B) : FX A B g (upd2 g' k j x) := ⟨fun i hi => (upd2_nk (Ne.symm h0)).trans (h.1 i hi), fun k' h0' hk' => (funext fun i => upd2_nk (show k' ≠ k from fun e => hk' (by rw [e]; exact hk))).trans (h.2 k' h0' hk')⟩
theorem FX.i {A B : List Nat} {g g' : gT} (h : FX A B g g') {j : Nat} (hj : j ∉ A) : (g' 5 j).toInt = (g 5 j).toInt := congrArg Int32.toInt (h.1 j hj)
theorem e_kind {ρ : Type} {Q : ρ → gT → lT → Prop} {g : gT} {L : lT} {fu : Nat} {x : Int32} {K : Int32 → gT → lT → Option (ρ × zS)} (h : ∀ r : Int32, r.toInt = kd x.toInt → Ex (K r g L) Q) : Ex (cb (fX6_kindOf fu x g L) K) Q := by
  have e : ∃ r : Int32, r.toInt = kd x.toInt ∧ fX6_kindOf fu x g L = some (r, (g, L)) := by
    have e28 : ¬ (97 ≤ x.toInt ∧ x.toInt ≤ 122) → ¬ (48 ≤ x.toInt ∧ x.toInt ≤ 57) → ∃ r : Int32, r.toInt = kd x.toInt ∧ fX6_kindOf_p28 fu x g L = some (r, (g, L)) := by
      intro h1 h2
      by_cases hs : x.toInt = 59 ∨ x.toInt = 40 ∨ x.toInt = 41 ∨ x.toInt = 43 ∨ x.toInt = 45 ∨ x.toInt = 42 ∨ x.toInt = 47 ∨ x.toInt = 60 ∨ x.toInt = 61
      · refine ⟨3, (kd_s hs).symm ▸ rfl, ?_⟩
        unfold fX6_kindOf_p28
        rcases hs with hs | hs | hs | hs | hs | hs | hs | hs | hs <;> rw [hs] <;> rfl
      · refine ⟨4, (kd_b h1 h2 hs).symm ▸ rfl, ?_⟩
        unfold fX6_kindOf_p28
        have e : ∀ (p : Prop) [Decidable p] (A : Option (Int32 × zS)), A = some (4, (g, L)) → (if p then some (4, (g, L)) else A) = some (4, (g, L)) := by
          intro p _ A hA
          split
          · rfl
          · exact hA
        rw [if_neg (by omega), if_neg (by omega), if_neg (by omega), if_neg (by omega)]
        refine e _ _ ?_
        rw [if_neg (by omega)]
        refine e _ _ ?_
        rw [if_neg (by omega)]
        iterate 11 refine e _ _ ?_
        rw [if_neg (by omega), if_neg (by omega), if_neg (by omega)]
    unfold fX6_kindOf fX6_kindOf_p14
    split
    · rename_i c1
      have c1 := icc_lt (m := x.toInt) (n := 97) rfl (by decide) c1
      split
      · rename_i c2
        have c2 := icc_lt (m := x.toInt) (n := 48) rfl (by decide) c2
        exact e28 (by omega) (by omega)
      · rename_i c2
        have c2 := icc_nlt (m := x.toInt) (n := 48) rfl (by decide) c2
        split
        · rename_i c3
          have c3 := icc_lt (m := 57) (n := x.toInt) (by decide) rfl c3
          exact e28 (by omega) (by omega)
        · rename_i c3
          have c3 := icc_nlt (m := 57) (n := x.toInt) (by decide) rfl c3
          exact ⟨1, (kd_d ⟨c2, c3⟩).symm ▸ rfl, rfl⟩
    · rename_i c1
      have c1 := icc_nlt (m := x.toInt) (n := 97) rfl (by decide) c1
      split
      · rename_i c4
        have c4 := icc_lt (m := 122) (n := x.toInt) (by decide) rfl c4
        split
        · exact e28 (by omega) (by omega)
        · split
          · exact e28 (by omega) (by omega)
          · rename_i c3
            have c3 := icc_nlt (m := 57) (n := x.toInt) (by decide) rfl c3
            omega
      · rename_i c4
        have c4 := icc_nlt (m := 122) (n := x.toInt) (by decide) rfl c4
        exact ⟨2, (kd_l ⟨c1, c4⟩).symm ▸ rfl, rfl⟩
  obtain ⟨r, h1, h2⟩ := e
  rw [h2]; exact h r h1
abbrev xN (g : gT) : Nat := (g 5 2).toInt.toNat
/-- the sign that stands at place P is the one that was read last -/
def xT (g : gT) (P : Nat) : Prop := (g 5 5).toInt = (P : Int) ∧ (g 5 4).toInt = tK (g 14) (xN g) P ∧ (g 5 3).toInt = (tE (g 14) (xN g) P : Int) ∧ (g 5 6).toInt = tV (g 14) (xN g) P
def XA (g g1 : gT) : Prop := zI XT g1 ∧ FX [3, 4, 5, 6] [] g g1 ∧ xT g1 (sk (g 14) (xN g) (g 5 3).toInt.toNat)
set_option maxHeartbeats 4000000 in
theorem tX6_advance (fu : Nat) (hfu : 1180591620717411303424 ≤ fu) (g0 : gT) (L0 : lT) (hI : zI XT g0) (hk : (g0 5 4).toInt ≠ 5) (hn : (g0 5 3).toInt ≤ (g0 5 2).toInt) : Ex (fX6_advance_5 fu g0 L0) (fun (_ : Unit) g1 L1 => XA g0 g1) := by
  generalize hb : g0 14 = b
  generalize hN : xN g0 = n
  have q2 := hI 5 2 0 700 rfl
  have q3 := hI 5 3 0 700 rfl
  have hNi : (n : Int) = (g0 5 2).toInt := by rw [← hN]; show (((g0 5 2).toInt.toNat : Nat) : Int) = _; omega
  -- the end
  have fin : ∀ (g : gT) (L : lT) (P : Nat), zI XT g → FX [3, 4, 5, 6] [] g0 g → P = sk b n (g0 5 3).toInt.toNat → (g 5 5).toInt = (P : Int) → (g 5 4).toInt = tK b n P → (g 5 3).toInt = (tE b n P : Int) → (g 5 6).toInt = tV b n P → Ex (some ((), (g, L))) (fun (_ : Unit) g1 L1 => XA g0 g1) := by
    intro g L P h1 h2 h3 h4 h5 h6 h7
    have e14 : g 14 = b := by rw [← hb]; exact h2.2 14 (by decide) (by decide)
    have eN : xN g = n := by rw [← hN]; show (g 5 2).toInt.toNat = (g0 5 2).toInt.toNat; rw [h2.i (by decide)]
    refine Ex.ret ⟨h1, h2, ?_⟩
    unfold xT
    rw [e14, eN, hb, hN, ← h3]
    exact ⟨h4, h5, h6, h7⟩
  -- the rest of a word or of a number
  have P134 : ∀ (g : gT) (L : lT) (P : Nat), zI XT g → FX [3, 4, 5, 6] [] g0 g → P = sk b n (g0 5 3).toInt.toNat → P < n → (g 5 5).toInt = (P : Int) → (g 5 4).toInt = kd (b P).toInt → (kd (b P).toInt = 1 ∨ kd (b P).toInt = 2) → (g 5 3).toInt = (P : Int) → (g 5 6).toInt = 0 → Ex (fX6_advance_5_l134 fu g L) (fun (_ : Unit) g1 L1 => XA g0 g1) := by
    intro g L P h1 h2 h3 hP h4 h5 hk h6 h7
    generalize hc : kd (b P).toInt = c at h5 hk
    unfold fX6_advance_5_l134
    refine Ex.loop (α := gT × lT) (fun v => ∃ q : Nat, zI XT v.1 ∧ FX [3, 4, 5, 6] [] g0 v.1 ∧ (v.1 5 5).toInt = (P : Int) ∧ (v.1 5 4).toInt = c ∧ (v.1 5 3).toInt = (q : Int) ∧ P ≤ q ∧ q ≤ n ∧ rE b n c P = rE b n c q ∧ (∀ i, P ≤ i → i < q → kd (b i).toInt = c) ∧ (v.1 5 6).toInt = (if c = 1 then vl b P (q - P) else 0)) (fun v => 701 - (v.1 5 3).toInt) (by omega) (by show 701 - (g 5 3).toInt < (fu : Int); omega) ⟨P, h1, h2, h4, h5, h6, Nat.le_refl _, by omega, rfl, fun i h8 h9 => by omega, by rw [Nat.sub_self]; show (g 5 6).toInt = _; rw [h7]; split <;> rfl⟩ (fun k134 v hv ih => ?_)
    clear h1 h2 h4 h5 h6 h7 g L
    obtain ⟨g, L⟩ := v
    obtain ⟨q, h1, h2, h4, h5, h6, h7, h8, h9, h10, h11⟩ := hv
    have h1 : zI XT g := h1
    have h2 : FX [3, 4, 5, 6] [] g0 g := h2
    have h4 : (g 5 5).toInt = (P : Int) := h4
    have h5 : (g 5 4).toInt = c := h5
    have h6 : (g 5 3).toInt = (q : Int) := h6
    have h11 : (g 5 6).toInt = (if c = 1 then vl b P (q - P) else 0) := h11
    have e14 : g 14 = b := by rw [← hb]; exact h2.2 14 (by decide) (by decide)
    have e2 := h2.i (j := 2) (by decide)
    show Ex (fX6_advance_5_s134 fu k134 g L) _
    unfold fX6_advance_5_s134 fX6_advance_5_p222
    have stop : ¬ (q < n ∧ kd (b q).toInt = c) → Ex (some ((), (g, L))) (fun (_ : Unit) g1 L1 => XA g0 g1) := by
      intro hs
      have hE : tE b n P = q := by rw [tE_r hP (by rw [hc]; exact hk), hc, h9, rE_n hs]
      have hKt : tK b n P = c := by rw [tK_lt hP, hc]
      refine fin g L P h1 h2 h3 h4 (by rw [hKt]; exact h5) (by rw [hE]; exact h6) ?_
      unfold tV
      rw [hKt, hE]; exact h11
    refine Ex.ite (fun c1 => stop ?_) (fun c1 => ?_)
    · have c1 := icc_le (m := (g 5 2).toInt) (n := (g 5 3).toInt) rfl rfl c1
      omega
    have c1 := icc_nle (m := (g 5 2).toInt) (n := (g 5 3).toInt) rfl rfl c1
    have hq : q < n := by omega
    have eq : (g 5 3).toNatClampNeg = q := by rw [nc, h6]; omega
    rw [eq, e14]
    refine Ex.ck (by omega) (by omega) ?_
    refine e_kind (fun r hr => ?_)
    refine Ex.ite (fun c2 => ?_) (fun c2 => stop ?_)
    rotate_left
    · have c2 := icc_neq (m := r.toInt) (n := (g 5 4).toInt) rfl rfl c2
      omega
    have c2 := icc_eq (m := r.toInt) (n := (g 5 4).toInt) rfl rfl c2
    have hkq : kd (b q).toInt = c := by omega
    -- the next sign
    have P209 : ∀ (g1 : gT), zI XT g1 → FX [6] [] g g1 → (g1 5 6).toInt = (if c = 1 then vl b P (q + 1 - P) else 0) → Ex (fX6_advance_5_p209 fu k134 g1 L) (fun (_ : Unit) g1 L1 => XA g0 g1) := by
      intro g1 k1 k2 k3
      have r3 : g1 5 3 = g 5 3 := k2.1 3 (by decide)
      unfold fX6_advance_5_p209
      rw [r3]
      generalize hw : (g 5 3) + 1 = w
      have ew : w.toInt = (g 5 3).toInt + 1 := by rw [← hw]; exact ic_addc rfl (by decide) (by omega) (by omega)
      refine Ex.sti (k1.upd (lo := 0) (hi := 700) rfl (by omega) (by omega)) (fun ga gae hIa => ?_)
      have hFa : FX [3, 6] [] g ga := by rw [gae]; exact (k2.mo (by decide) (by decide)).u5 (by decide)
      have s3 : (ga 5 3).toInt = (g 5 3).toInt + 1 := by rw [gae, upd2_at]; exact ew
      have s6 : (ga 5 6).toInt = (g1 5 6).toInt := by rw [gae]; rfl
      refine ih (ga, L) ⟨q + 1, hIa, h2.tr (hFa.mo (by decide) (by decide)), (hFa.i (by decide)).trans h4, (hFa.i (by decide)).trans h5, ?_, by omega, by omega, by rw [h9, rE_s hq hkq], fun i hi1 hi2 => ?_, ?_⟩ ?_ ?_
      · show (ga 5 3).toInt = ((q + 1 : Nat) : Int)
        omega
      · by_cases e : i = q
        · rw [e]; exact hkq
        · exact h10 i hi1 (by omega)
      · show (ga 5 6).toInt = _
        rw [s6]; exact k3
      · show 701 - (ga 5 3).toInt < 701 - (g 5 3).toInt
        omega
      · show 0 < 701 - (g 5 3).toInt
        omega
    refine Ex.ite (fun c3 => ?_) (fun c3 => ?_)
    rotate_left
    · have c3 := icc_neq (m := (g 5 4).toInt) (n := 1) rfl (by decide) c3
      exact P209 g h1 FX.refl (by rw [h11, if_neg (by omega), if_neg (by omega)])
    have c3 := icc_eq (m := (g 5 4).toInt) (n := 1) rfl (by decide) c3
    have hc1 : c = 1 := by omega
    rw [if_pos hc1] at h11
    have hd : ∀ i, i < q - P → 48 ≤ (b (P + i)).toInt ∧ (b (P + i)).toInt ≤ 57 := fun i hi => kd_1 (by rw [h10 (P + i) (by omega) (by omega)]; exact hc1)
    have hv := vl_b hd
    have hbq := kd_1 (hkq.trans hc1)
    generalize hz : (g 5 3) - (g 5 5) = z
    have ez : z.toInt = (g 5 3).toInt - (g 5 5).toInt := by rw [← hz]; exact ic_subc rfl rfl (by omega) (by omega)
    refine Ex.ite (fun c4 => ?_) (fun c4 => ?_)
    · have c4 := icc_le (m := 4) (n := z.toInt) (by decide) rfl c4
      exact P209 g h1 FX.refl (by rw [h11, if_pos hc1, show q + 1 - P = (q - P) + 1 by omega, vl_e (by omega)])
    · have c4 := icc_nle (m := 4) (n := z.toInt) (by decide) rfl c4
      refine Ex.ck (by omega) (by omega) ?_
      have hvb : vl b P (q - P) ≤ 999 := by
        have h9 := hv.2
        unfold vb at h9
        split at h9
        · omega
        · split at h9
          · omega
          · split at h9
            · omega
            · split at h9 <;> omega
      have hvs := vl_s (b := b) (P := P) (k := q - P) (by omega)
      rw [show P + (q - P) = q by omega] at hvs
      rw [eq, e14]
      generalize hbb : b q = y at hbq hvs ⊢
      generalize hm : (g 5 6) * 10 = m
      have em : m.toInt = (g 5 6).toInt * 10 := by rw [← hm]; exact ic_mulc rfl (by decide) (by omega) (by omega)
      generalize hs : m + y = s
      have es : s.toInt = m.toInt + y.toInt := by rw [← hs]; exact ic_addc rfl rfl (by omega) (by omega)
      generalize ht : s - 48 = t
      have et : t.toInt = s.toInt - 48 := by rw [← ht]; exact ic_subc rfl (by decide) (by omega) (by omega)
      refine Ex.sti (h1.upd (lo := 0) (hi := 9999) rfl (by omega) (by omega)) (fun ga gae hIa => ?_)
      refine P209 ga hIa (by rw [gae]; exact FX.refl.u5 (by decide)) ?_
      have s6 : (ga 5 6).toInt = t.toInt := by rw [gae, upd2_at]
      rw [s6, if_pos hc1, show q + 1 - P = (q - P) + 1 by omega, hvs]
      omega
  -- a sign's beginning
  have P61 : ∀ (g : gT) (L : lT) (P : Nat), zI XT g → FX [3, 4, 5, 6] [] g0 g → P = sk b n (g0 5 3).toInt.toNat → P ≤ n → (g 5 3).toInt = (P : Int) → Ex (fX6_advance_5_p61 fu g L) (fun (_ : Unit) g1 L1 => XA g0 g1) := by
    intro g L P h1 h2 h3 hP h4
    have e2 := h2.i (j := 2) (by decide)
    unfold fX6_advance_5_p61
    refine Ex.sti (h1.upd (lo := 0) (hi := 700) rfl (by omega) (by omega)) (fun ga gae hIa => ?_)
    refine Ex.sti (hIa.upd (lo := 0) (hi := 9999) rfl (by decide) (by decide)) (fun gb gbe hIb => ?_)
    have hFb : FX [5, 6] [] g gb := by rw [gbe, gae]; exact (FX.refl.u5 (by decide)).u5 (by decide)
    have b5 : (gb 5 5).toInt = (P : Int) := by rw [gbe, gae]; exact h4
    have b6 : (gb 5 6).toInt = 0 := by rw [gbe, upd2_at]; rfl
    have b3 : gb 5 3 = g 5 3 := hFb.1 3 (by decide)
    have b2 : gb 5 2 = g 5 2 := hFb.1 2 (by decide)
    have b14 : gb 14 = b := by rw [hFb.2 14 (by decide) (by decide), ← hb]; exact h2.2 14 (by decide) (by decide)
    have h2b : FX [3, 4, 5, 6] [] g0 gb := h2.tr (hFb.mo (by decide) (by decide))
    rw [b3, b2]
    have eq : (g 5 3).toNatClampNeg = P := by rw [nc, h4]; omega
    refine Ex.ite (fun c => ?_) (fun c => ?_)
    · have c := icc_lt (m := (g 5 3).toInt) (n := (g 5 2).toInt) rfl rfl c
      have hPn : P < n := by omega
      rw [eq, b14]
      refine Ex.ck (by omega) (by omega) ?_
      refine e_kind (fun r hr => ?_)
      refine Ex.sti (hIb.updN rfl) (fun gc gce hIc => ?_)
      have hFc : FX [4, 5, 6] [] g gc := by rw [gce]; exact (hFb.mo (by decide) (by decide)).u5 (by decide)
      have c4 : gc 5 4 = r := by rw [gce]; exact upd2_at
      have c5 : (gc 5 5).toInt = (P : Int) := by rw [gce]; exact b5
      have c6 : (gc 5 6).toInt = 0 := by rw [gce]; exact b6
      have c3 : gc 5 3 = g 5 3 := hFc.1 3 (by decide)
      have h2c : FX [3, 4, 5, 6] [] g0 gc := h2.tr (hFc.mo (by decide) (by decide))
      have krg := kd_rg (b P).toInt
      rw [c4]
      have P123 : ¬ (kd (b P).toInt = 1 ∨ kd (b P).toInt = 2) → Ex (fX6_advance_5_p123 fu gc L) (fun (_ : Unit) g1 L1 => XA g0 g1) := by
        intro hk2
        unfold fX6_advance_5_p123
        rw [c3]
        generalize hw : (g 5 3) + 1 = w
        have ew : w.toInt = (g 5 3).toInt + 1 := by rw [← hw]; exact ic_addc rfl (by decide) (by omega) (by omega)
        refine Ex.sti (hIc.upd (lo := 0) (hi := 700) rfl (by omega) (by omega)) (fun gd gde hId => ?_)
        have d3 : (gd 5 3).toInt = (g 5 3).toInt + 1 := by rw [gde, upd2_at]; exact ew
        have d4 : (gd 5 4).toInt = r.toInt := by rw [gde]; show (gc 5 4).toInt = _; rw [c4]
        have d5 : (gd 5 5).toInt = (P : Int) := by rw [gde]; exact c5
        have d6 : (gd 5 6).toInt = 0 := by rw [gde]; exact c6
        refine fin gd L P hId (by rw [gde]; exact h2c.u5 (by decide)) h3 d5 (by rw [d4, hr, tK_lt hPn]) (by rw [tE_1 hPn hk2]; omega) ?_
        unfold tV
        rw [tK_lt hPn, if_neg (by omega)]; exact d6
      refine Ex.ite (fun c7 => P123 ?_) (fun c7 => ?_)
      · have c7 := icc_eq (m := r.toInt) (n := 3) rfl (by decide) c7
        omega
      refine Ex.ite (fun c8 => P123 ?_) (fun c8 => ?_)
      · have c8 := icc_eq (m := r.toInt) (n := 4) rfl (by decide) c8
        omega
      have c7 := icc_neq (m := r.toInt) (n := 3) rfl (by decide) c7
      have c8 := icc_neq (m := r.toInt) (n := 4) rfl (by decide) c8
      exact P134 gc L P hIc h2c h3 hPn c5 (by rw [c4]; exact hr) (by omega) (by rw [c3]; exact h4) c6
    · have c := icc_nlt (m := (g 5 3).toInt) (n := (g 5 2).toInt) rfl rfl c
      have hPn : ¬ P < n := by omega
      refine Ex.sti (hIb.updN rfl) (fun gc gce hIc => ?_)
      refine fin gc L P hIc (by rw [gce]; exact h2b.u5 (by decide)) h3 (by rw [gce]; exact b5) ?_ ?_ ?_
      · rw [tK_ge hPn, gce, upd2_at]; rfl
      · rw [tE_e hPn, gce]; show (gb 5 3).toInt = _; rw [b3]; exact h4
      · unfold tV; rw [tK_ge hPn, if_neg (by decide), gce]; exact b6
  unfold fX6_advance_5
  refine Ex.ite (fun c => absurd (icc_eq (m := (g0 5 4).toInt) (n := 5) rfl (by decide) c) hk) (fun _ => ?_)
  unfold fX6_advance_5_l9
  generalize hp0 : sk b n (g0 5 3).toInt.toNat = P0 at fin P134 P61
  refine Ex.loop (α := gT × lT) (fun v => ∃ q : Nat, zI XT v.1 ∧ FX [3] [] g0 v.1 ∧ (v.1 5 3).toInt = (q : Int) ∧ q ≤ n ∧ sk b n q = P0) (fun v => 701 - (v.1 5 3).toInt) (by omega) (by show 701 - (g0 5 3).toInt < (fu : Int); omega) ⟨(g0 5 3).toInt.toNat, hI, FX.refl, (show (g0 5 3).toInt = (((g0 5 3).toInt.toNat : Nat) : Int) by omega), by omega, hp0⟩ (fun k9 v hv ih => ?_)
  obtain ⟨g, L⟩ := v
  obtain ⟨q, h1, h2, h3, h4, h5⟩ := hv
  have h1 : zI XT g := h1
  have h2 : FX [3] [] g0 g := h2
  have h3 : (g 5 3).toInt = (q : Int) := h3
  have e14 : g 14 = b := by rw [← hb]; exact h2.2 14 (by decide) (by decide)
  have e2 := h2.i (j := 2) (by decide)
  show Ex (fX6_advance_5_s9 fu k9 g L) _
  unfold fX6_advance_5_s9
  have go : ¬ (q < n ∧ ((b q).toInt = 32 ∨ (b q).toInt = 10)) → Ex (fX6_advance_5_p61 fu g L) (fun (_ : Unit) g1 L1 => XA g0 g1) := fun hs => P61 g L q h1 (h2.mo (by decide) (by decide)) ((sk_n hs).symm.trans h5) h4 h3
  refine Ex.ite (fun c => go ?_) (fun c => ?_)
  · have c := icc_le (m := (g 5 2).toInt) (n := (g 5 3).toInt) rfl rfl c
    omega
  have c := icc_nle (m := (g 5 2).toInt) (n := (g 5 3).toInt) rfl rfl c
  have hq : q < n := by omega
  have eq : (g 5 3).toNatClampNeg = q := by rw [nc, h3]; omega
  have P48 : ((b q).toInt = 32 ∨ (b q).toInt = 10) → Ex (fX6_advance_5_p48 fu k9 g L) (fun (_ : Unit) g1 L1 => XA g0 g1) := by
    intro hbq
    unfold fX6_advance_5_p48
    generalize hw : (g 5 3) + 1 = w
    have ew : w.toInt = (g 5 3).toInt + 1 := by rw [← hw]; exact ic_addc rfl (by decide) (by omega) (by omega)
    refine Ex.sti (h1.upd (lo := 0) (hi := 700) rfl (by omega) (by omega)) (fun ga gae hIa => ?_)
    have s3 : (ga 5 3).toInt = (g 5 3).toInt + 1 := by rw [gae, upd2_at]; exact ew
    refine ih (ga, L) ⟨q + 1, hIa, by rw [gae]; exact h2.u5 (by decide), (show (ga 5 3).toInt = ((q + 1 : Nat) : Int) by omega), by omega, (sk_b hq hbq).symm.trans h5⟩ ?_ ?_
    · show 701 - (ga 5 3).toInt < 701 - (g 5 3).toInt
      omega
    · show 0 < 701 - (g 5 3).toInt
      omega
  rw [eq, e14]
  refine Ex.ck (by omega) (by omega) ?_
  refine Ex.ite (fun c1 => P48 (Or.inl (icc_eq (m := (b q).toInt) (n := 32) rfl (by decide) c1))) (fun c1 => ?_)
  refine Ex.ck (by omega) (by omega) ?_
  refine Ex.ite (fun c2 => P48 (Or.inr (icc_eq (m := (b q).toInt) (n := 10) rfl (by decide) c2))) (fun c2 => go ?_)
  have c1 := icc_neq (m := (b q).toInt) (n := 32) rfl (by decide) c1
  have c2 := icc_neq (m := (b q).toInt) (n := 10) rfl (by decide) c2
  omega
