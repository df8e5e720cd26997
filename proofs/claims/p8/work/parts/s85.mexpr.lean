/-! ===== the reference's parser: expressions ===== -/
abbrev aE : List Nat := [19, 20, 23, 24, 25, 26, 27, 28, 35, 36, 37]
abbrev bE : List Nat := [26, 27, 28]
/-- the code of the rule that is being read, in a good state -/
def xC (s d e : Nat) (g : gT) : Prop := wOk (g 27) (gW g) ∧ (cO (g 27) (gW g) : Int) + 1 = (g 0 37).toInt + (e : Int) ∧ (g 0 37).toInt ≤ 6 ∧ ∃ n h, rn (g 26) s n (gP g) h ∧ h = cB (g 27) (gW g) + d
/-- g0: where the expression began; s: where its code begins; d: 1 behind an operand; e: 1 between an opening and deeper; u, v: what the next sign pays -/
def xI (g0 : gT) (s d e : Nat) (u v : Int) (g : gT) : Prop := zI MT g ∧ Fr aE bE g0 g ∧ pN g ∧ (g0 0 25).toInt ≤ (g 0 25).toInt ∧ (g 0 36).toInt ≤ (g 0 25).toInt + u ∧ (g 0 35).toInt + (g 0 36).toInt ≤ 2 * (g 0 25).toInt ∧ (s : Int) ≤ (g 0 35).toInt ∧ (∀ j, j < s → g 26 j = g0 26 j) ∧ ((g 0 19).toInt = 0 → (g 0 35).toInt + (g 0 36).toInt + 2 ≤ 2 * (g 0 25).toInt + v ∧ xC s d e g)
theorem xC.congr {s d e : Nat} {g g1 : gT} (h : xC s d e g) (h26 : g1 26 = g 26) (h27 : g1 27 = g 27) (h35 : (g1 0 35).toInt = (g 0 35).toInt) (h36 : (g1 0 36).toInt = (g 0 36).toInt) (h37 : (g1 0 37).toInt = (g 0 37).toInt) : xC s d e g1 := by
  have eP : gP g1 = gP g := by show (g1 0 35).toInt.toNat = (g 0 35).toInt.toNat; rw [h35]
  have eW : gW g1 = gW g := by show (g1 0 36).toInt.toNat = (g 0 36).toInt.toNat; rw [h36]
  unfold xC at h ⊢
  rw [h26, h27, h37, eP, eW]; exact h
/-- a fault: nothing is asked of the code any more -/
theorem xI.wrong {g0 g g1 : gT} {s d e d' e' : Nat} {u v v' : Int} (h : xI g0 s d e u v g) (hI : zI MT g1) (hF : Fr [19, 20] [] g g1) (hb : (g1 0 19).toInt ≠ 0) : xI g0 s d' e' u v' g1 := by
  obtain ⟨h1, h2, h3, h4, h5, h6, h7, h8, h9⟩ := h
  have e25 := hF.i (j := 25) (by decide)
  have e35 := hF.i (j := 35) (by decide)
  have e36 := hF.i (j := 36) (by decide)
  have e26 : g1 26 = g 26 := hF.2 26 (by decide) (by decide)
  exact ⟨hI, h2.tr (hF.mo (by decide) (by decide)), h3.fr hF (by decide) (by decide) (by decide) (by decide), by omega, by omega, by omega, by omega, fun j hj => by rw [e26]; exact h8 j hj, fun h => absurd h hb⟩
/-- a sign is read -/
theorem xI.goes {g0 g g1 : gT} {s d e : Nat} {u v : Int} (h : xI g0 s d e u v g) (hu : u ≤ 1) (hv : v ≤ 2) (hs : (g 0 24).toInt ≠ 0) (hq : QG g g1) : xI g0 s d e 0 0 g1 ∧ (g 0 25).toInt < (g1 0 25).toInt ∧ ((g 0 19).toInt = (g1 0 19).toInt) := by
  obtain ⟨h1, h2, h3, h4, h5, h6, h7, h8, h9⟩ := h
  obtain ⟨k1, hF, k3, k4⟩ := hq
  have p := h3.2.2 hs
  have e19 := hF.i (j := 19) (by decide)
  have e35 := hF.i (j := 35) (by decide)
  have e36 := hF.i (j := 36) (by decide)
  have e37 := hF.i (j := 37) (by decide)
  have e26 : g1 26 = g 26 := hF.2 26 (by decide) (by decide)
  have e27 : g1 27 = g 27 := hF.2 27 (by decide) (by decide)
  refine ⟨⟨k1, h2.tr (hF.mo (by decide) (by decide)), k3, by omega, by omega, by omega, by omega, fun j hj => by rw [e26]; exact h8 j hj, fun h => ?_⟩, by omega, e19.symm⟩
  rw [e19] at h
  have h9 := h9 h
  exact ⟨by omega, h9.2.congr e26 e27 e35 e36 e37⟩
theorem xI.drop {g0 g g1 : gT} {s : Nat} (h : xI g0 s 1 0 0 0 g) (hq : DQ g g1) : xI g0 s 1 0 0 0 g1 := by
  obtain ⟨h1, h2, h3, h4, h5, h6, h7, h8, h9⟩ := h
  obtain ⟨k1, hF, k3, k4, k5, k6⟩ := hq
  have e19 := hF.i (j := 19) (by decide)
  have e25 := hF.i (j := 25) (by decide)
  have e37 := hF.i (j := 37) (by decide)
  have e27 : g1 27 = g 27 := hF.2 27 (by decide) (by decide)
  have q36 := k1 0 36 0 950 rfl
  have hw : gW g1 ≤ gW g := by show (g1 0 36).toInt.toNat ≤ (g 0 36).toInt.toNat; omega
  refine ⟨k1, h2.tr (hF.mo (by decide) (by decide)), h3.fr hF (by decide) (by decide) (by decide) (by decide), by omega, by omega, by omega, by omega, fun j hj => (k5 j (by show j < (g 0 35).toInt.toNat; omega)).trans (h8 j hj), fun h => ?_⟩
  rw [e19] at h
  obtain ⟨h9, c1, c2, c3, n, hh, c4, c5⟩ := h9 h
  obtain ⟨n', h', d1, d2, d3⟩ := k6 s n hh c4 c5 c1
  refine ⟨by omega, ?_⟩
  unfold xC
  rw [e27, e37]
  exact ⟨fun i hi => c1 i (by omega), by rw [d3]; exact c2, c3, n', h', d1, d2⟩
/-- an act waits -/
theorem xI.wait {g0 g g1 : gT} {s d d' e e' : Nat} {v : Int32} (h : xI g0 s d e 0 0 g) (hg : (g 0 19).toInt = 0) (hI : zI MT g1) (hF : Fr [36] [27] g g1) (hp : (g1 0 36).toInt = (g 0 36).toInt + 1) (hc : ∀ j, j ≠ gW g → g1 27 j = g 27 j) (hv : g1 27 (gW g) = v) (hd : (4 ≤ v.toInt ∧ v.toInt ≤ 11 ∧ d = d' + 1 ∧ e' = e) ∨ (v.toInt = 3 ∧ d' = d ∧ e' = e) ∨ (v.toInt = 14 ∧ d' = d ∧ e' = e + 1)) : xI g0 s d' e' 1 1 g1 := by
  obtain ⟨h1, h2, h3, h4, h5, h6, h7, h8, h9⟩ := h
  have e19 := hF.i (j := 19) (by decide)
  have e25 := hF.i (j := 25) (by decide)
  have e35 := hF.i (j := 35) (by decide)
  have e37 := hF.i (j := 37) (by decide)
  have e26 : g1 26 = g 26 := hF.2 26 (by decide) (by decide)
  have q36 := h1 0 36 0 950 rfl
  obtain ⟨b1, c1, c2, c3, n, hh, c4, c5⟩ := h9 hg
  have eP : gP g1 = gP g := by show (g1 0 35).toInt.toNat = (g 0 35).toInt.toNat; rw [e35]
  have eW : gW g1 = gW g + 1 := by show (g1 0 36).toInt.toNat = (g 0 36).toInt.toNat + 1; omega
  refine ⟨hI, h2.tr (hF.mo (by decide) (by decide)), h3.fr hF (by decide) (by decide) (by decide) (by decide), by omega, by omega, by omega, by omega, fun j hj => by rw [e26]; exact h8 j hj, fun _ => ⟨by omega, ?_⟩⟩
  have eB : cB (g1 27) (gW g) = cB (g 27) (gW g) := cB_c (fun i hi => hc i (by omega))
  have eO : cO (g1 27) (gW g) = cO (g 27) (gW g) := cO_c (fun i hi => hc i (by omega))
  unfold xC
  rw [e26, e37, eP, eW]
  refine ⟨fun i hi => ?_, ?_, c3, n, hh, c4, ?_⟩
  · by_cases hiw : i = gW g
    · rw [hiw, hv]; omega
    · rw [hc i hiw]; exact c1 i (by omega)
  · rcases hd with ⟨d1, d2, d3, d4⟩ | ⟨d1, d3, d4⟩ | ⟨d1, d3, d4⟩
    · rw [cO_n (by rw [hv]; omega), eO]; omega
    · rw [cO_n (by rw [hv]; omega), eO]; omega
    · rw [cO_o (by rw [hv]; omega), eO]; omega
  · rcases hd with ⟨d1, d2, d3, d4⟩ | ⟨d1, d3, d4⟩ | ⟨d1, d3, d4⟩
    · rw [cB_b (by rw [hv]; omega) (by rw [hv]; omega), eB]; omega
    · rw [cB_n (by rw [hv]; omega), eB]; omega
    · rw [cB_n (by rw [hv]; omega), eB]; omega
theorem xI.test {g0 g g1 : gT} {s d e : Nat} {u v : Int} {j : Nat} {x : Int32} (h : xI g0 s d e u v g) (hI : zI MT g1) (e1 : g1 = upd2 g 28 j x) : xI g0 s d e u v g1 := by
  obtain ⟨h1, h2, h3, h4, h5, h6, h7, h8, h9⟩ := h
  have hF : Fr [] [28] g g1 := by rw [e1]; exact Fr.refl.uk (by decide) (by decide)
  have e19 := hF.i (j := 19) (by decide)
  have e25 := hF.i (j := 25) (by decide)
  have e35 := hF.i (j := 35) (by decide)
  have e36 := hF.i (j := 36) (by decide)
  have e37 := hF.i (j := 37) (by decide)
  have e26 : g1 26 = g 26 := hF.2 26 (by decide) (by decide)
  have e27 : g1 27 = g 27 := hF.2 27 (by decide) (by decide)
  refine ⟨hI, h2.tr (hF.mo (by decide) (by decide)), h3.fr hF (by decide) (by decide) (by decide) (by decide), by omega, by omega, by omega, by omega, fun j hj => by rw [e26]; exact h8 j hj, fun h => ?_⟩
  rw [e19] at h
  have h9 := h9 h
  exact ⟨by omega, h9.2.congr e26 e27 e35 e36 e37⟩
theorem nar01 (x : Int32) (h : x = 0 ∨ x = 1) : 0 ≤ (vp_nar .boolean x).toInt ∧ (vp_nar .boolean x).toInt ≤ 1 := by
  rcases h with rfl | rfl <;> decide
/-- deeper: behind an opening -/
theorem sX12_deeper (fu : Nat) (g0 g : gT) (L : lT) (s : Nat) (h : xI g0 s 0 1 0 0 g) (hg : (g 0 19).toInt = 0) : Ex (fX12_deeper fu g L) (fun (_ : Unit) g1 L1 => xI g0 s 0 0 0 0 g1 ∧ (g1 0 25).toInt = (g 0 25).toInt) := by
  have hI := h.1
  have bad : ∀ t0 : Int32, t0.toInt ≠ 0 → Ex (fX12_deeper_p61 fu t0 g L) (fun (_ : Unit) g1 L1 => xI g0 s 0 0 0 0 g1 ∧ (g1 0 25).toInt = (g 0 25).toInt) := by
    intro t0 ht
    unfold fX12_deeper_p61
    exact e_wrong hI ht (fun g1 hI1 hF hb => Ex.ret ⟨h.wrong hI1 hF hb, hF.i (by decide)⟩)
  unfold fX12_deeper fX12_deeper_p56
  refine Ex.ite (fun _ => ?_) (fun c => ?_)
  · refine Ex.ite (fun _ => bad 2 (by decide)) (fun _ => ?_)
    refine Ex.ite (fun _ => bad 2 (by decide)) (fun _ => ?_)
    exact e_sign (fun _ => bad 2 (by decide)) (bad 1 (by decide))
  have c := icc_nle (m := 6) (n := (g 0 37).toInt) (by decide) rfl c
  obtain ⟨b1, c1, c2, c3, n, hh, c4, c5⟩ := h.2.2.2.2.2.2.2.2 hg
  have hrg : 0 ≤ (g 0 37).toInt := by omega
  generalize hw : (g 0 37) + 1 = w
  have ew : w.toInt = (g 0 37).toInt + 1 := by rw [← hw]; exact ic_addc rfl (by decide) (by omega) (by omega)
  refine Ex.sti (hI.updN rfl) (fun ga gae hIa => ?_)
  have a37 : ga 0 37 = w := by rw [gae]; exact upd2_at
  rw [a37]
  refine Ex.ck (by omega) (by omega) ?_
  have hn := nar01 0 (Or.inl rfl)
  refine Ex.sti (hIa.upd (lo := 0) (hi := 1) rfl hn.1 hn.2) (fun gb gbe hIb => Ex.ret ⟨?_, ?_⟩)
  · have ha : xI g0 s 0 0 0 0 ga := by
      obtain ⟨h1, h2, h3, h4, h5, h6, h7, h8, h9⟩ := h
      have hF : Fr [37] [] g ga := by rw [gae]; exact Fr.refl.u0 (by decide)
      have e19 := hF.i (j := 19) (by decide)
      have e25 := hF.i (j := 25) (by decide)
      have e35 := hF.i (j := 35) (by decide)
      have e36 := hF.i (j := 36) (by decide)
      have e26 : ga 26 = g 26 := hF.2 26 (by decide) (by decide)
      have e27 : ga 27 = g 27 := hF.2 27 (by decide) (by decide)
      have eP : gP ga = gP g := by show (ga 0 35).toInt.toNat = (g 0 35).toInt.toNat; rw [e35]
      have eW : gW ga = gW g := by show (ga 0 36).toInt.toNat = (g 0 36).toInt.toNat; rw [e36]
      refine ⟨hIa, h2.tr (hF.mo (by decide) (by decide)), h3.fr hF (by decide) (by decide) (by decide) (by decide), by omega, by omega, by omega, by omega, fun j hj => by rw [e26]; exact h8 j hj, fun _ => ⟨by omega, ?_⟩⟩
      unfold xC
      rw [e26, e27, eP, eW, a37]
      exact ⟨c1, by omega, by omega, n, hh, c4, c5⟩
    exact ha.test hIb gbe
  · rw [gbe, gae]; rfl
/-- the code grows by an operand -/
theorem rn_op {g g1 g2 : gT} {s n h : Nat} {a b : Int32} (hr : rn (g 26) s n (gP g) h) (h0 : 0 ≤ (g 0 35).toInt) (hp : (g1 0 35).toInt = (g 0 35).toInt + 1) (hc : ∀ j, j ≠ gP g → g1 26 j = g 26 j) (hv : g1 26 (gP g) = a) (hp2 : (g2 0 35).toInt = (g1 0 35).toInt + 1) (hc2 : ∀ j, j ≠ gP g1 → g2 26 j = g1 26 j) (hv2 : g2 26 (gP g1) = b) (hab : a.toInt = 1 ∨ (a.toInt = 2 ∧ 0 ≤ b.toInt ∧ b.toInt ≤ 5)) : rn (g2 26) s (n + 1) (gP g2) (h + 1) := by
  have e1 : gP g1 = gP g + 1 := by show (g1 0 35).toInt.toNat = (g 0 35).toInt.toNat + 1; omega
  have e2 : gP g2 = gP g + 2 := by show (g2 0 35).toInt.toNat = (g 0 35).toInt.toNat + 2; omega
  rw [e1] at hc2 hv2
  have h1 : g2 26 (gP g) = a := by rw [hc2 _ (by omega)]; exact hv
  refine ⟨gP g, h, rn_c (fun j hj => by rw [hc2 j (by omega), hc j (by omega)]) hr, ?_⟩
  rcases hab with hab | ⟨hab, hb⟩
  · exact Or.inl ⟨by rw [h1]; exact hab, e2, rfl⟩
  · exact Or.inr (Or.inl ⟨by rw [h1]; exact hab, by rw [hv2]; exact hb.1, by rw [hv2]; exact hb.2, e2, rfl⟩)
set_option maxHeartbeats 4000000 in
theorem sX12_part (fu : Nat) (hfu : 1180591620717411303424 ≤ fu) (g0 g : gT) (L : lT) (s : Nat) (h : xI g0 s 0 0 0 0 g) : Ex (fX12_part fu g L) (fun (_ : Unit) g1 L1 => xI g0 s 1 0 0 0 g1 ∧ (g 0 25).toInt ≤ (g1 0 25).toInt ∧ ((g 0 19).toInt ≠ 0 → (g1 0 19).toInt ≠ 0)) := by
  have hI := h.1
  have q25 := hI 0 25 0 700 rfl
  -- two are put
  have two : ∀ (a b : Int32) (gx gy : gT) (Ly : lT), (gx = g ∨ (g 0 19).toInt = 0) → (g 0 19).toInt = 0 → (g 0 24).toInt ≠ 0 → zI MT gx → Fr [19, 20] [] g gx → zI MT gy → (∃ g1, zI MT g1 ∧ Fr [35] [26] gx g1 ∧ (g1 0 35).toInt = (gx 0 35).toInt + 1 ∧ (∀ j, j ≠ gP gx → g1 26 j = gx 26 j) ∧ g1 26 (gP gx) = a ∧ Fr [35] [26] g1 gy ∧ (gy 0 35).toInt = (g1 0 35).toInt + 1 ∧ (∀ j, j ≠ gP g1 → gy 26 j = g1 26 j) ∧ gy 26 (gP g1) = b) → ((gx 0 19).toInt = 0 → a.toInt = 1 ∨ (a.toInt = 2 ∧ 0 ≤ b.toInt ∧ b.toInt ≤ 5)) → Ex (fX12_part_p90 fu gy Ly) (fun (_ : Unit) g1 L1 => xI g0 s 1 0 0 0 g1 ∧ (g 0 25).toInt ≤ (g1 0 25).toInt ∧ ((g 0 19).toInt ≠ 0 → (g1 0 19).toInt ≠ 0)) := by
    intro a b gx gy Ly _ hg hs hIx hFx hIy hex hab
    obtain ⟨g1, hI1, hF1, p1, c1, v1, hF2, p2, c2, v2⟩ := hex
    obtain ⟨h1, h2, h3, h4, h5, h6, h7, h8, h9⟩ := h
    obtain ⟨b1, w1, w2, w3, n, hh, w4, w5⟩ := h9 hg
    have q35 := hI 0 35 0 1900 rfl
    have hFy : Fr [19, 20, 35] [26] g gy := ((hFx.mo (by decide) (by decide)).tr (hF1.mo (by decide) (by decide))).tr (hF2.mo (by decide) (by decide))
    have x35 := hFx.i (j := 35) (by decide)
    have x26 : gx 26 = g 26 := hFx.2 26 (by decide) (by decide)
    have eP : gP gx = gP g := by show (gx 0 35).toInt.toNat = (g 0 35).toInt.toNat; rw [x35]
    have e24 := hFy.i (j := 24) (by decide)
    have e25 := hFy.i (j := 25) (by decide)
    have e36 := hFy.i (j := 36) (by decide)
    have e37 := hFy.i (j := 37) (by decide)
    have e27 : gy 27 = g 27 := hFy.2 27 (by decide) (by decide)
    have e19 : (gy 0 19).toInt = (gx 0 19).toInt := by rw [hF2.i (by decide), hF1.i (by decide)]
    have eW : gW gy = gW g := by show (gy 0 36).toInt.toNat = (g 0 36).toInt.toNat; rw [e36]
    have e1 : gP g1 = gP g + 1 := by show (g1 0 35).toInt.toNat = (g 0 35).toInt.toNat + 1; omega
    have hy : xI g0 s 1 0 0 2 gy := by
      refine ⟨hIy, h2.tr (hFy.mo (by decide) (by decide)), h3.fr hFy (by decide) (by decide) (by decide) (by decide), by omega, by omega, by omega, by omega, fun j hj => ?_, fun hgy => ⟨by omega, ?_⟩⟩
      · have hjp : j < gP g := by show j < (g 0 35).toInt.toNat; omega
        rw [c2 j (by omega), c1 j (by omega), x26]; exact h8 j hj
      · rw [e19] at hgy
        unfold xC
        rw [e27, eW, e37]
        exact ⟨w1, w2, w3, n + 1, hh + 1, rn_op (g := gx) (g1 := g1) (by rw [x26, eP]; exact w4) (by omega) p1 c1 v1 p2 c2 v2 (hab hgy), by omega⟩
    unfold fX12_part_p90 fX12_part_p101
    refine e_good (fun _ => ?_) (fun hb => Ex.ret ⟨?_, by omega, fun _ => hb⟩)
    · refine e_goes hfu hIy hy.2.2.1 (fun g2 L2 hq => Ex.ret ?_)
      obtain ⟨k1, k2, k3⟩ := hy.goes (by decide) (by decide) (by omega) hq
      exact ⟨k1, by omega, fun h => absurd hg h⟩
    · obtain ⟨y1, y2, y3, y4, y5, y6, y7, y8, y9⟩ := hy
      exact ⟨y1, y2, y3, y4, y5, y6, y7, y8, fun h => absurd h hb⟩
  unfold fX12_part
  refine e_good (fun hg => ?_) (fun hb => Ex.ret ⟨?_, Int.le_refl _, id⟩)
  rotate_left
  · obtain ⟨h1, h2, h3, h4, h5, h6, h7, h8, h9⟩ := h
    exact ⟨h1, h2, h3, h4, h5, h6, h7, h8, fun h => absurd h hb⟩
  have b1 := (h.2.2.2.2.2.2.2.2 hg).1
  have q36 := hI 0 36 0 950 rfl
  have q35 := hI 0 35 0 1900 rfl
  -- a number
  have num : ∀ (gx : gT), zI MT gx → Fr [19, 20] [] g gx → (g 0 24).toInt ≠ 0 → Ex (fX12_part_p29 fu gx L) (fun (_ : Unit) g1 L1 => xI g0 s 1 0 0 0 g1 ∧ (g 0 25).toInt ≤ (g1 0 25).toInt ∧ ((g 0 19).toInt ≠ 0 → (g1 0 19).toInt ≠ 0)) := by
    intro gx hIx hFx hs
    have x35 := hFx.i (j := 35) (by decide)
    unfold fX12_part_p29
    refine e_puts hIx (by omega) (fun g1 hI1 hF1 p1 c1 v1 => ?_)
    refine e_puts hI1 (by omega) (fun gy hIy hF2 p2 c2 v2 => ?_)
    exact two 1 _ gx gy L (Or.inr hg) hg hs hIx hFx hIy ⟨g1, hI1, hF1, p1, c1, v1, hF2, p2, c2, v2⟩ (fun _ => Or.inl rfl)
  -- a word
  have wrd : ∀ (x : Int32) (gx : gT) (Lx : lT), zI MT gx → Fr [19, 20] [] g gx → (g 0 24).toInt ≠ 0 → ((gx 0 19).toInt = 0 → 0 ≤ x.toInt ∧ x.toInt ≤ 5) → Ex (fX12_part_p72 fu x gx Lx) (fun (_ : Unit) g1 L1 => xI g0 s 1 0 0 0 g1 ∧ (g 0 25).toInt ≤ (g1 0 25).toInt ∧ ((g 0 19).toInt ≠ 0 → (g1 0 19).toInt ≠ 0)) := by
    intro x gx Lx hIx hFx hs hx
    have x35 := hFx.i (j := 35) (by decide)
    unfold fX12_part_p72
    refine e_puts hIx (by omega) (fun g1 hI1 hF1 p1 c1 v1 => ?_)
    refine e_puts hI1 (by omega) (fun gy hIy hF2 p2 c2 v2 => ?_)
    exact two 2 x gx gy Lx (Or.inr hg) hg hs hIx hFx hIy ⟨g1, hI1, hF1, p1, c1, v1, hF2, p2, c2, v2⟩ (fun hgx => Or.inr ⟨rfl, hx hgx⟩)
  refine Ex.ite (fun c => ?_) (fun _ => ?_)
  · have c := icc_eq (m := (g 0 24).toInt) (n := 2) rfl (by decide) c
    refine Ex.ite (fun _ => num g hI Fr.refl (by omega)) (fun _ => ?_)
    exact e_wrong hI (by decide) (fun g1 hI1 hF hb => num g1 hI1 hF (by omega))
  refine Ex.ite (fun c => ?_) (fun _ => ?_)
  · have c := icc_eq (m := (g 0 24).toInt) (n := 1) rfl (by decide) c
    refine e_known hfu (fun x L1 x1 x2 x3 => ?_)
    have bad : Ex (fX12_part_p67 fu x g L1) (fun (_ : Unit) g1 L1 => xI g0 s 1 0 0 0 g1 ∧ (g 0 25).toInt ≤ (g1 0 25).toInt ∧ ((g 0 19).toInt ≠ 0 → (g1 0 19).toInt ≠ 0)) := by
      unfold fX12_part_p67
      exact e_wrong hI (by decide) (fun g1 hI1 hF hb => wrd x g1 L1 hI1 hF (by omega) (fun h => absurd h hb))
    refine Ex.ite (fun _ => bad) (fun d1 => ?_)
    refine Ex.ite (fun d2 => ?_) (fun _ => bad)
    have d1 := icc_nlt (m := x.toInt) (n := 0) rfl (by decide) d1
    have d2 := icc_le (m := x.toInt) (n := 5) rfl (by decide) d2
    exact wrd x g L1 hI Fr.refl (by omega) (fun _ => ⟨d1, d2⟩)
  · refine e_wrong hI (by decide) (fun g1 hI1 hF hb => ?_)
    unfold fX12_part_p90 fX12_part_p101
    refine e_good (fun h => absurd h hb) (fun _ => Ex.ret ⟨h.wrong hI1 hF hb, ?_, fun _ => hb⟩)
    have := hF.i (j := 25) (by decide)
    omega
/-- what is left to read -/
def mm (g : gT) : Int := if (g 0 19).toInt = 0 then 701 - (g 0 25).toInt else 0
theorem mm_g {g : gT} (h : (g 0 19).toInt = 0) : mm g = 701 - (g 0 25).toInt := if_pos h
theorem mm_b {g : gT} (h : (g 0 19).toInt ≠ 0) : mm g = 0 := if_neg h
theorem mm_0 {g : gT} (hI : zI MT g) : 0 ≤ mm g := by
  have q25 := hI 0 25 0 700 rfl
  unfold mm; split <;> omega
theorem mm_le {g : gT} (hI : zI MT g) : mm g ≤ 701 := by
  have q25 := hI 0 25 0 700 rfl
  unfold mm; split <;> omega
theorem mm_lt {g g1 : gT} (hI : zI MT g) (hg : (g 0 19).toInt = 0) (h : (g1 0 19).toInt = 0 → (g 0 25).toInt < (g1 0 25).toInt) : mm g1 < mm g := by
  have q25 := hI 0 25 0 700 rfl
  rw [mm_g hg]
  by_cases hb : (g1 0 19).toInt = 0
  · rw [mm_g hb]; have := h hb; omega
  · rw [mm_b hb]; omega
theorem mm_mo {g g1 : gT} (hI0 : zI MT g) (hI : zI MT g1) (hb : (g 0 19).toInt ≠ 0 → (g1 0 19).toInt ≠ 0) (h : (g1 0 19).toInt = 0 → (g 0 25).toInt ≤ (g1 0 25).toInt) : mm g1 ≤ mm g := by
  have q25 := hI 0 25 0 700 rfl
  have p25 := hI0 0 25 0 700 rfl
  by_cases hc : (g 0 19).toInt = 0
  · rw [mm_g hc]
    by_cases hd : (g1 0 19).toInt = 0
    · rw [mm_g hd]; have := h hd; omega
    · rw [mm_b hd]; omega
  · rw [mm_b hc, mm_b (hb hc)]; exact Int.le_refl _
def mf (b : Int32) (g : gT) : Int := if b = 0 then 0 else 1 + mm g
theorem mf_n {b : Int32} {g : gT} (h : ¬ b = 0) : mf b g = 1 + mm g := if_neg h
theorem mf_z {b : Int32} {g : gT} (h : b = 0) : mf b g = 0 := if_pos h
def mn (g g1 : gT) : Prop := (g 0 25).toInt ≤ (g1 0 25).toInt ∧ ((g 0 19).toInt ≠ 0 → (g1 0 19).toInt ≠ 0)
theorem mn.refl {g : gT} : mn g g := ⟨Int.le_refl _, id⟩
theorem mn.tr {g g1 g2 : gT} (h1 : mn g g1) (h2 : mn g1 g2) : mn g g2 := ⟨Int.le_trans h1.1 h2.1, fun h => h2.2 (h1.2 h)⟩
set_option maxHeartbeats 4000000 in
theorem sX12_operand (fu : Nat) (hfu : 1180591620717411303424 ≤ fu) (p1 : Int32) (g0 g : gT) (L : lT) (s : Nat) (h : xI g0 s 0 0 0 0 g) : Ex (fX12_operand fu p1 g L) (fun (_ : Unit) g1 L1 => xI g0 s 1 0 0 0 g1 ∧ mn g g1) := by
  unfold fX12_operand fX12_operand_l4
  have hm := mm_le h.1
  refine Ex.loop (α := Int32 × Int32 × gT × lT) (fun v => xI g0 s 0 0 0 0 v.2.2.1 ∧ mn g v.2.2.1) (fun v => mf v.2.1 v.2.2.1) (by omega) (by show mf 1 g < (fu : Int); rw [mf_n (by decide)]; omega) ⟨h, mn.refl⟩ (fun k4 v hv ih => ?_)
  clear h hm
  obtain ⟨v2, v3, gg, Lg⟩ := v
  obtain ⟨h, hmn⟩ := hv
  have h : xI g0 s 0 0 0 0 gg := h
  have hmn : mn g gg := hmn
  have hmg := mm_0 h.1
  show Ex (fX12_operand_s4 fu k4 v2 v3 gg Lg) _
  unfold fX12_operand_s4
  have fin : ∀ L1 : lT, Ex (fX12_operand_p120 fu gg L1) (fun (_ : Unit) g1 L1 => xI g0 s 1 0 0 0 g1 ∧ mn g g1) := by
    intro L1
    unfold fX12_operand_p120
    exact Ex.cb (sX12_part fu hfu g0 gg L1 s h) (fun _ g1 L2 hq => Ex.ret ⟨hq.1, hmn.tr hq.2⟩)
  refine Ex.ite (fun _ => fin Lg) (fun c3 => ?_)
  have ih : ∀ (a b : Int32) (g' : gT) (L' : lT), xI g0 s 0 0 0 0 g' → mn g g' → (b = 0 ∨ mm g' < mm gg) → Ex (k4 (a, b, g', L')) (fun (_ : Unit) g1 L1 => xI g0 s 1 0 0 0 g1 ∧ mn g g1) := by
    intro a b g' L' h1 h2 h3
    have := mm_0 h1.1
    refine ih (a, b, g', L') ⟨h1, h2⟩ ?_ (by show 0 < mf v3 gg; rw [mf_n c3]; omega)
    show mf b g' < mf v3 gg
    rw [mf_n c3]
    by_cases hb : b = 0
    · rw [mf_z hb]; omega
    · rw [mf_n hb]
      rcases h3 with h3 | h3
      · exact absurd h3 hb
      · omega
  refine e_good (fun hg => ?_) (fun _ => fin Lg)
  -- behind the nots
  have P75 : ∀ (g' : gT) (L' : lT), xI g0 s 0 0 0 0 g' → mn gg g' → Ex (fX12_operand_p75 fu k4 v2 g' L') (fun (_ : Unit) g1 L1 => xI g0 s 1 0 0 0 g1 ∧ mn g g1) := by
    intro g' L' h1 h2
    have z : Ex (fX12_operand_p96 fu k4 v2 0 g' L') (fun (_ : Unit) g1 L1 => xI g0 s 1 0 0 0 g1 ∧ mn g g1) := by
      unfold fX12_operand_p96 fX12_operand_p117
      rw [if_pos rfl]
      exact ih v2 0 g' L' h1 (hmn.tr h2) (Or.inl rfl)
    unfold fX12_operand_p75 fX12_operand_p95
    refine e_good (fun hg' => e_sign (fun hs => ?_) z) (fun _ => z)
    unfold fX12_operand_p96 fX12_operand_p117
    rw [if_neg (by decide)]
    have q25 := h1.1 0 25 0 700 rfl
    have w36 := h1.2.2.2.2.1
    refine e_waitsFor h1.1 (by omega) (fun ga hIa hFa pa ca va => ?_)
    have ha : xI g0 s 0 1 1 1 ga := h1.wait hg' hIa hFa pa ca va (Or.inr (Or.inr ⟨by decide, rfl, rfl⟩))
    have a24 := hFa.i (j := 24) (by decide)
    have a25 := hFa.i (j := 25) (by decide)
    have a19 := hFa.i (j := 19) (by decide)
    refine e_goes hfu hIa ha.2.2.1 (fun gb Lb hq => ?_)
    obtain ⟨hb, b25, b19⟩ := ha.goes (by decide) (by decide) (by omega) hq
    refine Ex.cb (sX12_deeper fu g0 gb Lb s hb (by omega)) (fun _ gc Lc hc => ?_)
    have m1 := h2.1
    exact ih 1 1 gc Lc hc.1 (hmn.tr ⟨by omega, fun h => absurd hg h⟩) (Or.inr (mm_lt h.1 hg (fun _ => by omega)))
  unfold fX12_operand_l18
  have hm := mm_le h.1
  refine Ex.loop (α := Int32 × gT × lT) (fun v => xI g0 s 0 0 0 0 v.2.1 ∧ mn gg v.2.1) (fun v => mm v.2.1) (by omega) (by show mm gg < (fu : Int); omega) ⟨h, mn.refl⟩ (fun k18 v hv ih2 => ?_)
  obtain ⟨v4, g', L'⟩ := v
  obtain ⟨h1, h2⟩ := hv
  have h1 : xI g0 s 0 0 0 0 g' := h1
  have h2 : mn gg g' := h2
  have ih2 : ∀ (a : Int32) (g2 : gT) (L2 : lT), xI g0 s 0 0 0 0 g2 → mn gg g2 → mm g2 < mm g' → 0 < mm g' → Ex (k18 (a, g2, L2)) (fun (_ : Unit) g1 L1 => xI g0 s 1 0 0 0 g1 ∧ mn g g1) := fun a g2 L2 k1 k2 k3 k4 => ih2 (a, g2, L2) ⟨k1, k2⟩ k3 k4
  show Ex (fX12_operand_s18 fu k4 v2 k18 v4 g' L') _
  unfold fX12_operand_s18
  refine e_good (fun hg' => ?_) (fun _ => P75 g' L' h1 h2)
  have q25 := h1.1 0 25 0 700 rfl
  have hm1 := mm_g hg'
  refine Ex.ite (fun _ => P75 g' L' h1 h2) (fun _ => ?_)
  refine e_known hfu (fun x L1 x1 x2 x3 => ?_)
  refine Ex.ite (fun cx => ?_) (fun _ => P75 g' L1 h1 h2)
  have cx := icc_eq (m := x.toInt) (n := 16) rfl (by decide) cx
  have hs := x3 (by omega)
  refine Ex.ite (fun _ => ?_) (fun _ => ?_)
  · refine e_wrong h1.1 (by decide) (fun ga hIa hFa hb => ?_)
    have ha : xI g0 s 0 0 0 0 ga := h1.wrong hIa hFa hb
    unfold fX12_operand_p50
    refine e_good (fun h => absurd h hb) (fun _ => ?_)
    have a25 := hFa.i (j := 25) (by decide)
    have m1 := h2.1
    exact ih2 _ ga L1 ha ⟨by omega, fun _ => hb⟩ (by rw [mm_b hb]; omega) (by omega)
  · unfold fX12_operand_p50
    refine e_good (fun _ => ?_) (fun hb => absurd hg' hb)
    have w36 := h1.2.2.2.2.1
    refine e_waitsFor h1.1 (by omega) (fun ga hIa hFa pa ca va => ?_)
    have ha : xI g0 s 0 0 1 1 ga := h1.wait hg' hIa hFa pa ca va (Or.inr (Or.inl ⟨by decide, rfl, rfl⟩))
    have a24 := hFa.i (j := 24) (by decide)
    have a25 := hFa.i (j := 25) (by decide)
    have a19 := hFa.i (j := 19) (by decide)
    refine e_goes hfu hIa ha.2.2.1 (fun gb Lb hq => ?_)
    obtain ⟨hb, b25, b19⟩ := ha.goes (by decide) (by decide) (by omega) hq
    have m1 := h2.1
    exact ih2 _ gb Lb hb ⟨by omega, fun h => absurd hg h⟩ (mm_lt h1.1 hg' (fun _ => by omega)) (by omega)
section LW
variable {ρ : Type} {Q : ρ → gT → lT → Prop} {g : gT} {L : lT} {fu : Nat}
theorem e_opened {A B : gT → lT → Option (ρ × zS)} (hfu : 1180591620717411303424 ≤ fu) (hI : zI MT g) (h1 : ∀ L1, 1 ≤ cO (g 27) (gW g) → Ex (B g L1) Q) (h0 : ∀ L1, Ex (A g L1) Q) : Ex (cb (fX12_isOpened fu g L) (fun x g1 L1 => if x = 0 then A g1 L1 else B g1 L1)) Q := by
  have q36 := hI 0 36 0 950 rfl
  have key : Ex (fX12_isOpened fu g L) (fun (x : Int32) g1 L1 => g1 = g ∧ (x = 0 ∨ (x = 1 ∧ 1 ≤ cO (g 27) (gW g)))) := by
    unfold fX12_isOpened
    refine Ex.lti (fun x _ xi => ?_)
    have xi : x.toInt = (g 0 36).toInt - 1 := by rw [xi]; exact ic_subc rfl (by decide) (by omega) (by omega)
    unfold fX12_isOpened_l7
    refine Ex.loop (α := Int32 × gT × lT) (fun v => (-1 ≤ v.1.toInt ∧ v.1.toInt < (g 0 36).toInt) ∧ v.2.1 = g) (fun v => v.1.toInt + 1) (by omega) (by show x.toInt + 1 < (fu : Int); omega) ⟨(show -1 ≤ x.toInt ∧ x.toInt < (g 0 36).toInt by omega), rfl⟩ (fun k7 v hv ih => ?_)
    obtain ⟨v1, g2, L2⟩ := v
    obtain ⟨hv, hg⟩ := hv
    have hv : -1 ≤ v1.toInt ∧ v1.toInt < (g 0 36).toInt := hv
    have hg : g2 = g := hg
    subst hg
    show Ex (fX12_isOpened_s7 fu k7 v1 g2 L2) _
    unfold fX12_isOpened_s7 fX12_isOpened_p29 fX12_isOpened_p38
    rw [ckb0, ckb1]
    refine Ex.ite (fun c => ?_) (fun c => ?_)
    · rw [if_pos c]; exact Ex.ret ⟨rfl, Or.inl rfl⟩
    have c' := icc_nlt (m := v1.toInt) (n := 0) rfl (by decide) c
    refine Ex.ck (by omega) (by omega) ?_
    refine e_isOpen (fun ho => ?_) (fun _ => ?_)
    · rw [if_neg c]
      refine Ex.ret ⟨rfl, Or.inr ⟨rfl, cO_ge (i := v1.toNatClampNeg) ho ?_⟩⟩
      show v1.toInt.toNat < (g2 0 36).toInt.toNat
      omega
    · generalize hw : v1 + (-1) = w
      have ew : w.toInt = v1.toInt + -1 := by rw [← hw]; exact ic_addc rfl (by decide) (by omega) (by omega)
      exact ih (w, g2, L2) ⟨show -1 ≤ w.toInt ∧ w.toInt < (g2 0 36).toInt by omega, rfl⟩ (show w.toInt + 1 < v1.toInt + 1 by omega) (show 0 < v1.toInt + 1 by omega)
  refine Ex.cb key (fun x g1 L1 hx => ?_)
  obtain ⟨rfl, hx⟩ := hx
  rcases hx with rfl | ⟨rfl, hx⟩
  · rw [if_pos rfl]; exact h0 L1
  · rw [if_neg (by decide)]; exact h1 L1 hx
end LW
theorem sX12_closes (fu : Nat) (hfu : 1180591620717411303424 ≤ fu) (g0 g : gT) (L : lT) (s : Nat) (h : xI g0 s 1 0 0 0 g) (hg : (g 0 19).toInt = 0) (hs : (g 0 24).toInt ≠ 0) (ho : 1 ≤ cO (g 27) (gW g)) : Ex (fX12_closes fu g L) (fun (_ : Unit) g1 L1 => xI g0 s 1 0 0 0 g1 ∧ (g 0 25).toInt < (g1 0 25).toInt) := by
  unfold fX12_closes
  have q25 := h.1 0 25 0 700 rfl
  have b1 := (h.2.2.2.2.2.2.2.2 hg).1
  refine Ex.cb (sX12_drops fu hfu 0 g L h.1 (by omega)) (fun _ g2 L2 hq => ?_)
  obtain ⟨hq, hz⟩ := hq
  have h2 := h.drop hq
  have hF := hq.2.1
  have e19 := hF.i (j := 19) (by decide)
  have e24 := hF.i (j := 24) (by decide)
  have e25 := hF.i (j := 25) (by decide)
  have e27 : g2 27 = g 27 := hF.2 27 (by decide) (by decide)
  have e37 := hF.i (j := 37) (by decide)
  have q36 := h2.1 0 36 0 950 rfl
  obtain ⟨b2, c1, c2, c3, n, hh, c4, c5⟩ := h2.2.2.2.2.2.2.2.2 (by omega)
  obtain ⟨-, -, d2, -⟩ := h.2.2.2.2.2.2.2.2 hg
  have hcO : 1 ≤ cO (g2 27) (gW g2) := by omega
  have hpos : 0 < (g2 0 36).toInt := by
    by_cases hp : 0 < (g2 0 36).toInt
    · exact hp
    · have e0 : gW g2 = 0 := by show (g2 0 36).toInt.toNat = 0; omega
      rw [e0] at hcO
      exact absurd hcO (show ¬ 1 ≤ 0 by decide)
  have ho2 : 14 ≤ (g2 27 (gW g2 - 1)).toInt := by
    rcases hz (by decide) with hz | hz
    · omega
    · rw [e27]; exact hz
  have ew : (g2 0 36 - 1).toInt = (g2 0 36).toInt - 1 := ic_subc rfl (by decide) (by omega) (by omega)
  refine Ex.sti (h2.1.upd (lo := 0) (hi := 950) rfl (by omega) (by omega)) (fun ga gae hIa => ?_)
  refine Ex.sti (hIa.updN rfl) (fun gb gbe hIb => ?_)
  have a37 : ga 0 37 = g2 0 37 := by rw [gae]; rfl
  have ev : (ga 0 37 - 1).toInt = (g2 0 37).toInt - 1 := by rw [a37]; exact ic_subc rfl (by decide) (by omega) (by omega)
  have s36 : (gb 0 36).toInt = (g2 0 36).toInt - 1 := by rw [gbe, gae]; exact ew
  have s37 : (gb 0 37).toInt = (g2 0 37).toInt - 1 := by rw [gbe, upd2_at]; exact ev
  have hFb : Fr [36, 37] [] g2 gb := by rw [gbe, gae]; exact (Fr.refl.u0 (by decide)).u0 (by decide)
  have hb : xI g0 s 1 0 0 0 gb := by
    obtain ⟨h1, k2, h3, h4, h5, h6, h7, h8, h9⟩ := h2
    have f19 := hFb.i (j := 19) (by decide)
    have f25 := hFb.i (j := 25) (by decide)
    have f35 := hFb.i (j := 35) (by decide)
    have f26 : gb 26 = g2 26 := hFb.2 26 (by decide) (by decide)
    have f27 : gb 27 = g2 27 := hFb.2 27 (by decide) (by decide)
    have eP : gP gb = gP g2 := by show (gb 0 35).toInt.toNat = (g2 0 35).toInt.toNat; rw [f35]
    have eW : gW gb = gW g2 - 1 := by show (gb 0 36).toInt.toNat = (g2 0 36).toInt.toNat - 1; omega
    have eW1 : gW g2 = (gW g2 - 1) + 1 := by have : 0 < gW g2 := (by show 0 < (g2 0 36).toInt.toNat; omega); omega
    have o1 := cO_o (w := g2 27) (n := gW g2 - 1) ho2
    have o2 := cB_n (w := g2 27) (n := gW g2 - 1) (by omega)
    rw [← eW1] at o1 o2
    refine ⟨hIb, k2.tr (hFb.mo (by decide) (by decide)), h3.fr hFb (by decide) (by decide) (by decide) (by decide), by omega, by omega, by omega, by omega, fun j hj => by rw [f26]; exact h8 j hj, fun _ => ⟨by omega, ?_⟩⟩
    unfold xC
    rw [f26, f27, eP, eW]
    exact ⟨fun i hi => c1 i (by omega), by omega, by omega, n, hh, c4, by omega⟩
  have f24 := hFb.i (j := 24) (by decide)
  have f25 := hFb.i (j := 25) (by decide)
  refine e_goes hfu hIb hb.2.2.1 (fun gc Lc hqc => Ex.ret ?_)
  obtain ⟨k1, k2, -⟩ := hb.goes (by decide) (by decide) (by omega) hqc
  exact ⟨k1, by omega⟩
def XQ (g0 : gT) (s : Nat) (g1 : gT) : Prop := zI MT g1 ∧ Fr aE bE g0 g1 ∧ pN g1 ∧ (g0 0 25).toInt ≤ (g1 0 25).toInt ∧ (∀ j, j < s → g1 26 j = g0 26 j) ∧ ((g1 0 19).toInt = 0 → cl (g1 26) s (gP g1) ∧ (g1 0 35).toInt ≤ 2 * (g1 0 25).toInt ∧ (s : Int) ≤ (g1 0 35).toInt)
theorem expr_end (fu : Nat) (hfu : 1180591620717411303424 ≤ fu) (g0 g : gT) (L : lT) (s : Nat) (h : xI g0 s 1 0 0 0 g) : Ex (fX12_expression_p345 fu g L) (fun (_ : Unit) g1 L1 => XQ g0 s g1) := by
  unfold fX12_expression_p345
  have q25 := h.1 0 25 0 700 rfl
  have b1 := h.2.2.2.2.2.1
  refine Ex.cb (sX12_drops fu hfu 0 g L h.1 (by omega)) (fun _ g2 L2 hq => ?_)
  obtain ⟨h1, h2, h3, h4, h5, h6, h7, h8, h9⟩ := h.drop hq.1
  have q36 := h1 0 36 0 950 rfl
  have q35 := h1 0 35 0 1900 rfl
  have r25 := h1 0 25 0 700 rfl
  refine e_puts h1 (by omega) (fun g3 hI3 hF p c v => Ex.ret ?_)
  have e19 := hF.i (j := 19) (by decide)
  have e25 := hF.i (j := 25) (by decide)
  refine ⟨hI3, h2.tr (hF.mo (by decide) (by decide)), h3.fr hF (by decide) (by decide) (by decide) (by decide), by omega, fun j hj => ?_, fun hg => ?_⟩
  · rw [c j (by have : j < gP g2 := (by show j < (g2 0 35).toInt.toNat; omega); omega)]; exact h8 j hj
  · rw [e19] at hg
    obtain ⟨b2, c1, c2, c3, n, hh, c4, c5⟩ := h9 hg
    refine ⟨⟨n, gP g2, hh, rn_c (fun j hj => c j (by omega)) c4, by rw [v]; rfl, ?_⟩, by omega, by omega⟩
    show (g2 0 35).toInt.toNat < (g3 0 35).toInt.toNat
    omega
set_option maxHeartbeats 4000000 in
theorem sX12_expression (fu : Nat) (hfu : 1180591620717411303424 ≤ fu) (g0 : gT) (L0 : lT) (hI : zI MT g0) (hp : pN g0) (hg : (g0 0 19).toInt = 0) (hb : (g0 0 35).toInt + 2 ≤ 2 * (g0 0 25).toInt) : Ex (fX12_expression fu g0 L0) (fun (_ : Unit) g1 L1 => XQ g0 (gP g0) g1) := by
  generalize hs : gP g0 = s
  have q35 := hI 0 35 0 1900 rfl
  have q25 := hI 0 25 0 700 rfl
  unfold fX12_expression
  refine e_good (fun _ => ?_) (fun h => absurd hg h)
  refine Ex.sti (hI.upd (lo := 0) (hi := 950) rfl (by decide) (by decide)) (fun ga gae hIa => ?_)
  refine Ex.sti (hIa.updN rfl) (fun gb gbe hIb => ?_)
  have hFb : Fr [36, 37] [] g0 gb := by rw [gbe, gae]; exact (Fr.refl.u0 (by decide)).u0 (by decide)
  have s36 : (gb 0 36).toInt = 0 := by rw [gbe, gae]; rfl
  have s37 : (gb 0 37).toInt = 0 := by rw [gbe, gae]; rfl
  have h0 : xI g0 s 0 1 0 0 gb := by
    have f19 := hFb.i (j := 19) (by decide)
    have f25 := hFb.i (j := 25) (by decide)
    have f35 := hFb.i (j := 35) (by decide)
    have f26 : gb 26 = g0 26 := hFb.2 26 (by decide) (by decide)
    have eW : gW gb = 0 := by show (gb 0 36).toInt.toNat = 0; omega
    have eP : gP gb = s := by rw [← hs]; show (gb 0 35).toInt.toNat = (g0 0 35).toInt.toNat; rw [f35]
    have hs' : (s : Int) = (g0 0 35).toInt := by rw [← hs]; show (((g0 0 35).toInt.toNat : Nat) : Int) = _; omega
    refine ⟨hIb, hFb.mo (by decide) (by decide), hp.fr hFb (by decide) (by decide) (by decide) (by decide), by omega, by omega, by omega, by omega, fun j hj => by rw [f26], fun _ => ⟨by omega, ?_⟩⟩
    unfold xC
    rw [eW, eP, s37]
    exact ⟨fun i hi => absurd hi (Nat.not_lt_zero _), rfl, by decide, 0, 0, ⟨rfl, rfl⟩, rfl⟩
  have f19 := hFb.i (j := 19) (by decide)
  refine Ex.cb (sX12_deeper fu g0 gb L0 s h0 (by omega)) (fun _ gc Lc hc => ?_)
  refine Ex.cb (sX12_operand fu hfu 1 g0 gc Lc s hc.1) (fun _ gd Ld hd => ?_)
  clear h0 hc hIb hIa s36 s37 hFb gbe gae
  have hd := hd.1
  unfold fX12_expression_l29
  have hm := mm_le hd.1
  refine Ex.loop (α := Int32 × gT × lT) (fun v => xI g0 s 1 0 0 0 v.2.1) (fun v => mf v.1 v.2.1) (by omega) (by show mf 1 gd < (fu : Int); rw [mf_n (by decide)]; omega) hd (fun k29 v hv ih => ?_)
  clear hd hm
  obtain ⟨v1, g, L⟩ := v
  have h : xI g0 s 1 0 0 0 g := hv
  have hmg := mm_0 h.1
  show Ex (fX12_expression_s29 fu k29 v1 g L) _
  unfold fX12_expression_s29
  have fin : ∀ L1 : lT, Ex (fX12_expression_p325 fu g L1) (fun (_ : Unit) g1 L1 => XQ g0 s g1) := by
    intro L1
    unfold fX12_expression_p325
    refine e_good (fun _ => ?_) (fun _ => expr_end fu hfu g0 g L1 s h)
    refine Ex.ite (fun _ => expr_end fu hfu g0 g L1 s h) (fun _ => ?_)
    exact e_wrong h.1 (by decide) (fun g1 hI1 hF hb => expr_end fu hfu g0 g1 L1 s (h.wrong hI1 hF hb))
  refine Ex.ite (fun _ => fin L) (fun cv => ?_)
  refine e_good (fun hg => ?_) (fun _ => fin L)
  have next : ∀ (g' : gT) (L' : lT), xI g0 s 1 0 0 0 g' → (g 0 25).toInt < (g' 0 25).toInt → Ex (k29 (v1, g', L')) (fun (_ : Unit) g1 L1 => XQ g0 s g1) := by
    intro g' L' h1 h2
    refine ih (v1, g', L') h1 ?_ (by show 0 < mf v1 g; rw [mf_n cv]; omega)
    show mf v1 g' < mf v1 g
    rw [mf_n cv, mf_n cv]
    have := mm_lt h.1 hg (g1 := g') (fun _ => h2)
    omega
  have stop : ∀ (L' : lT), Ex (fX12_expression_p320 fu k29 g L') (fun (_ : Unit) g1 L1 => XQ g0 s g1) := by
    intro L'
    unfold fX12_expression_p320 fX12_expression_p322
    refine ih (0, g, L') h ?_ (by show 0 < mf v1 g; rw [mf_n cv]; omega)
    show mf 0 g < mf v1 g
    rw [mf_n cv, mf_z rfl]; omega
  have q25 := h.1 0 25 0 700 rfl
  have b1 := h.2.2.2.2.2.1
  -- behind drops: the act waits, the next operand is read
  have act : ∀ (g2 : gT) (v : Int32) (Lx : lT) (m : Int32) (K : Unit → gT → lT → Option (Unit × zS)), DQ g g2 → (g 0 24).toInt ≠ 0 → 4 ≤ v.toInt → v.toInt ≤ 11 → (∀ g' L', K () g' L' = k29 (v1, g', L')) → Ex (cb (fX12_waitsFor fu v g2 Lx) (fun _ ga La => cb (fX12_goes fu ga La) (fun _ gb Lb => cb (fX12_operand fu m gb Lb) K))) (fun (_ : Unit) g1 L1 => XQ g0 s g1) := by
    intro g2 v Lx m K hq hs1 hv1 hv2 hK
    have h2 := h.drop hq
    have e19 := hq.2.1.i (j := 19) (by decide)
    have e24 := hq.2.1.i (j := 24) (by decide)
    have e25 := hq.2.1.i (j := 25) (by decide)
    have w36 := h2.2.2.2.2.1
    refine e_waitsFor h2.1 (by omega) (fun ga hIa hFa pa ca va => ?_)
    have ha : xI g0 s 0 0 1 1 ga := h2.wait (by omega) hIa hFa pa ca va (Or.inl ⟨hv1, hv2, rfl, rfl⟩)
    have a24 := hFa.i (j := 24) (by decide)
    have a25 := hFa.i (j := 25) (by decide)
    refine e_goes hfu hIa ha.2.2.1 (fun gb Lb hqb => ?_)
    obtain ⟨hb, b25, -⟩ := ha.goes (by decide) (by decide) (by omega) hqb
    refine Ex.cb (sX12_operand fu hfu m g0 gb Lb s hb) (fun _ gd Ld hd => ?_)
    rw [hK]
    have m1 := hd.2.1
    exact next gd Ld hd.1 (by omega)
  have actT : ∀ (g2 : gT) (v : Int32) (Lx : lT) (m x : Int32) (K : Unit → gT → lT → Option (Unit × zS)), DQ g g2 → (g 0 24).toInt ≠ 0 → 4 ≤ v.toInt → v.toInt ≤ 11 → (x = 0 ∨ x = 1) → (∀ g' L', K () g' L' = k29 (v1, g', L')) → Ex (cb (fX12_waitsFor fu v g2 Lx) (fun _ ga La => ck (ga 0 37) 9 (sti ga 28 (Int32.toNatClampNeg (ga 0 37)) (vp_nar .boolean x) (fun ge => cb (fX12_goes fu ge La) (fun _ gb Lb => cb (fX12_operand fu m gb Lb) K))))) (fun (_ : Unit) g1 L1 => XQ g0 s g1) := by
    intro g2 v Lx m x K hq hs1 hv1 hv2 hx hK
    have h2 := h.drop hq
    have e19 := hq.2.1.i (j := 19) (by decide)
    have e24 := hq.2.1.i (j := 24) (by decide)
    have e25 := hq.2.1.i (j := 25) (by decide)
    have w36 := h2.2.2.2.2.1
    refine e_waitsFor h2.1 (by omega) (fun ga hIa hFa pa ca va => ?_)
    have ha : xI g0 s 0 0 1 1 ga := h2.wait (by omega) hIa hFa pa ca va (Or.inl ⟨hv1, hv2, rfl, rfl⟩)
    have a19 := hFa.i (j := 19) (by decide)
    have a24 := hFa.i (j := 24) (by decide)
    have a25 := hFa.i (j := 25) (by decide)
    obtain ⟨-, -, z2, z3, -⟩ := ha.2.2.2.2.2.2.2.2 (by omega)
    refine Ex.ck (by omega) (by omega) ?_
    have hn := nar01 x hx
    refine Ex.sti (hIa.upd (lo := 0) (hi := 1) rfl hn.1 hn.2) (fun ge gee hIe => ?_)
    have he := ha.test hIe gee
    have d24 : (ge 0 24).toInt = (ga 0 24).toInt := by rw [gee]; rfl
    have d25 : (ge 0 25).toInt = (ga 0 25).toInt := by rw [gee]; rfl
    refine e_goes hfu hIe he.2.2.1 (fun gb Lb hqb => ?_)
    obtain ⟨hb, b25, -⟩ := he.goes (by decide) (by decide) (by omega) hqb
    refine Ex.cb (sX12_operand fu hfu m g0 gb Lb s hb) (fun _ gd Ld hd => ?_)
    rw [hK]
    have m1 := hd.2.1
    exact next gd Ld hd.1 (by omega)
  have dr : ∀ (p1 : Int32) (Lx : lT) (K : Unit → gT → lT → Option (Unit × zS)), (∀ g2 L2, DQ g g2 → Ex (K () g2 L2) (fun (_ : Unit) g1 L1 => XQ g0 s g1)) → Ex (cb (fX12_drops fu p1 g Lx) K) (fun (_ : Unit) g1 L1 => XQ g0 s g1) := fun p1 Lx K hK => Ex.cb (sX12_drops fu hfu p1 g Lx h.1 (by omega)) (fun _ g2 L2 hq => hK g2 L2 hq.1)
  have P57 : ∀ (x : Int32) (Lx : lT), (g 0 24).toInt ≠ 0 → Ex (fX12_expression_p57 fu k29 v1 x g Lx) (fun (_ : Unit) g1 L1 => XQ g0 s g1) := by
    intro x Lx hs1
    have P69 : ∀ t0 : Int32, Ex (fX12_expression_p69 fu k29 v1 x t0 g Lx) (fun (_ : Unit) g1 L1 => XQ g0 s g1) := by
      intro t0
      unfold fX12_expression_p69 fX12_expression_p84 fX12_expression_p322
      refine dr t0 Lx _ (fun g2 L2 hq => ?_)
      exact Ex.ite (fun _ => actT g2 4 L2 1 0 _ hq hs1 (by decide) (by decide) (Or.inl rfl) (fun _ _ => rfl)) (fun _ => actT g2 5 L2 1 0 _ hq hs1 (by decide) (by decide) (Or.inl rfl) (fun _ _ => rfl))
    unfold fX12_expression_p57
    exact Ex.ite (fun _ => P69 2) (fun _ => P69 1)
  have P204 : ∀ Lx : lT, (g 0 24).toInt ≠ 0 → Ex (fX12_expression_p204 fu k29 v1 g Lx) (fun (_ : Unit) g1 L1 => XQ g0 s g1) := by
    intro Lx hs1
    unfold fX12_expression_p204 fX12_expression_p226 fX12_expression_p322
    refine dr 5 Lx _ (fun g2 L2 hq => ?_)
    exact e_sign (fun _ => act g2 8 L2 0 _ hq hs1 (by decide) (by decide) (fun _ _ => rfl)) (act g2 9 L2 0 _ hq hs1 (by decide) (by decide) (fun _ _ => rfl))
  have P259 : ∀ Lx : lT, (g 0 24).toInt ≠ 0 → Ex (fX12_expression_p259 fu k29 v1 g Lx) (fun (_ : Unit) g1 L1 => XQ g0 s g1) := by
    intro Lx hs1
    unfold fX12_expression_p259 fX12_expression_p282 fX12_expression_p322
    refine dr 6 Lx _ (fun g2 L2 hq => ?_)
    exact e_sign (fun _ => act g2 10 L2 0 _ hq hs1 (by decide) (by decide) (fun _ _ => rfl)) (act g2 11 L2 0 _ hq hs1 (by decide) (by decide) (fun _ _ => rfl))
  have P186 : ∀ Lx : lT, Ex (fX12_expression_p186 fu k29 v1 g Lx) (fun (_ : Unit) g1 L1 => XQ g0 s g1) := by
    intro Lx
    unfold fX12_expression_p186
    refine e_sign (fun hs1 => P204 Lx (by omega)) ?_
    refine e_sign (fun hs1 => P204 Lx (by omega)) ?_
    refine e_sign (fun hs1 => P259 Lx (by omega)) ?_
    refine e_sign (fun hs1 => P259 Lx (by omega)) ?_
    refine e_sign (fun hs1 => ?_) (stop Lx)
    refine e_opened hfu h.1 (fun L1 ho => ?_) (fun L1 => stop L1)
    refine Ex.cb (sX12_closes fu hfu g0 g L1 s h hg (by omega) ho) (fun _ gd Ld hd => ?_)
    unfold fX12_expression_p322
    exact next gd Ld hd.1 hd.2
  have P127 : ∀ Lx : lT, (g 0 24).toInt ≠ 0 → Ex (fX12_expression_p127 fu k29 v1 g Lx) (fun (_ : Unit) g1 L1 => XQ g0 s g1) := by
    intro Lx hs1
    unfold fX12_expression_p127
    obtain ⟨-, -, z2, z3, -⟩ := h.2.2.2.2.2.2.2.2 hg
    refine Ex.ck (by omega) (by omega) ?_
    refine Ex.ite (fun _ => ?_) (fun _ => P186 Lx)
    unfold fX12_expression_p161 fX12_expression_p322
    refine dr 4 Lx _ (fun g2 L2 hq => ?_)
    exact e_sign (fun _ => actT g2 6 L2 0 1 _ hq hs1 (by decide) (by decide) (Or.inr rfl) (fun _ _ => rfl)) (actT g2 7 L2 0 1 _ hq hs1 (by decide) (by decide) (Or.inr rfl) (fun _ _ => rfl))
  refine e_known hfu (fun x L1 x1 x2 x3 => ?_)
  refine Ex.ite (fun cx => ?_) (fun _ => ?_)
  · have cx := icc_eq (m := x.toInt) (n := 14) rfl (by decide) cx
    have := x3 (by omega)
    exact P57 x L1 (by omega)
  refine Ex.ite (fun cx => ?_) (fun _ => ?_)
  · have cx := icc_eq (m := x.toInt) (n := 15) rfl (by decide) cx
    have := x3 (by omega)
    exact P57 x L1 (by omega)
  refine e_sign (fun hs1 => P127 L1 (by omega)) ?_
  exact e_sign (fun hs1 => P127 L1 (by omega)) (P186 L1)
