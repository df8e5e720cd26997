/-! ===== acts, sightings, images ===== -/
abbrev NSE : String := "java/util/NoSuchElementException"
theorem cbs {β ρ : Type} {x : β} {g : gT} {L : lT} {K : β → gT → lT → Option (ρ × zS)} : cb (some (x, (g, L))) K = K x g L := rfl
theorem cbxs {β γ : Type} {x : β} {g : gT} {L : lT} {K : β → gT → lT → Option (Except String γ × zS)} : cbx (some (.ok x, (g, L))) K = K x g L := rfl
theorem fw_00 {gm g2 : gT} (h : ∀ k j, ¬ (k = 0 ∧ j = 0) → g2 k j = gm k j) : FW [(0, 0)] [] gm g2 := fun k j _ hA => h k j (fun e => hA (by rw [e.1, e.2]; decide))
theorem u00 {g : gT} {x : Int32} {k j : Nat} (h : ¬ (k = 0 ∧ j = 0)) : upd2 g 0 0 x k j = g k j := by
  by_cases hk : k = 0
  · subst hk
    exact upd2_nj (fun e => h ⟨rfl, e⟩)
  · exact upd2_nk hk
theorem cd_00 {g gm g2 : gT} (hI : zI MT gm) (h : CD g gm) (e : ∀ k j, ¬ (k = 0 ∧ j = 0) → g2 k j = gm k j) : CD g g2 := cd_fr hI h FW.refl (fw_00 e) (A := []) (B := []) (by decide) (by decide)
/-- a counter goes up -/
theorem cd_cnt {g gm g1 g2 : gT} {i : Nat} (hI : zI MT gm) (h : CD g gm) (hi : i < 3) (e1 : g1 = upd2 g 15 i (g 15 i + 1)) (e2 : ∀ k j, ¬ (k = 0 ∧ j = 0) → g2 k j = upd2 gm 14 i (gm 14 i + 1) k j) : CD g1 g2 := by
  obtain ⟨y1, y2, y3, y4, y5⟩ := h
  have f1 : FW [] [15] g g1 := fun k j hB _ => by rw [e1, upd2_nk (fun e => hB (by rw [e]; decide))]
  have f2 : FW [(0, 0)] [14] gm g2 := fun k j hB hA => by rw [e2 k j (fun e => hA (by rw [e.1, e.2]; decide)), upd2_nk (fun e => hB (by rw [e]; decide))]
  refine ⟨y1.f hI f1 f2 (by decide) (by decide), y2.f f1 f2 (by decide) (by decide), fun h => ?_, fun j hj => ?_, y5.f f1 f2 (by decide) (by decide)⟩
  · rw [f2 0 81 (by decide) (by decide)] at h
    exact (y3 h).f f1 f2 (by decide) (by decide)
  · rw [e1, e2 14 j (fun e => absurd e.1 (by decide))]
    by_cases e : j = i
    · rw [e, upd2_at, upd2_at, y4 i hi]
    · rw [upd2_nj e, upd2_nj e]; exact y4 j hj
/-- rows of what is held change alike, acts grow -/
theorem cd_held {A A' : List (Nat × Nat)} {B B' : List Nat} {g gm g1 g2 : gT} (hI : zI MT gm) (h : CD g gm) (f1 : FW A B g g1) (f2 : FW A' B' gm g2) (o1 : (okw pcX [(1, 3), (1, 4)] A B && okw [34, 35, 36, 37, 38, 39, 40, 41, 42] [(7, 11)] A B && okw [] [(8, 8), (8, 9)] A B && okw [15] [] A B) = true) (o2 : (okw pcM [(0, 1), (0, 2), (0, 3), (0, 4)] A' B' && okw [48, 49, 50] [(0, 1), (0, 81), (0, 82), (0, 83), (0, 84)] A' B' && okw [] [(0, 60), (0, 61)] A' B' && okw [14] [] A' B') = true) (hd : HD g1 g2) : CD g1 g2 := by
  obtain ⟨y1, y2, y3, y4, y5⟩ := h
  obtain ⟨o1, o15⟩ := b_and o1
  obtain ⟨o1, o14⟩ := b_and o1
  obtain ⟨o11, o13⟩ := b_and o1
  obtain ⟨o2, o25⟩ := b_and o2
  obtain ⟨o2, o24⟩ := b_and o2
  obtain ⟨o21, o23⟩ := b_and o2
  refine ⟨y1.f hI f1 f2 o11 o21, hd, fun h => ?_, ref_f y4 f1 f2 o15 o25, y5.f f1 f2 o14 o24⟩
  rw [okw_f (k := 0) (j := 81) o23 f2 (by decide)] at h
  exact (y3 h).f f1 f2 o13 o23
theorem row_q {p : Int32} (h1 : 0 ≤ p.toInt) (h2 : p.toInt ≤ 3) : ∀ fu' g' L', fX3_row_6 fu' p g' L' = some (25 + p.toInt.toNat, (g', L')) := by
  intro fu' g' L'
  unfold fX3_row_6
  rcases (by omega : p.toInt = 0 ∨ p.toInt = 1 ∨ p.toInt = 2 ∨ p.toInt = 3) with h | h | h | h
  · rw [if_pos h, h]; rfl
  · rw [if_neg (by omega), if_pos h, h]; rfl
  · rw [if_neg (by omega), if_neg (by omega), if_pos h, h]; rfl
  · rw [if_neg (by omega), if_neg (by omega), if_neg (by omega), h]; rfl
theorem hc_at {i q : Nat} {g gm : gT} (h : HC i 25 12 g gm) (hq : q ≤ 3) : g (25 + q) i = gm 12 (12 * q + i) := by
  obtain ⟨y1, y2, y3, y4⟩ := h
  rcases (by omega : q = 0 ∨ q = 1 ∨ q = 2 ∨ q = 3) with rfl | rfl | rfl | rfl
  · rw [show 12 * 0 + i = i by omega]; exact y1
  · exact y2
  · exact y3
  · exact y4
/-- one entry of a row is put, in both -/
theorem hc_put {i l q : Nat} {v : Int32} {g gm g1 g2 : gT} (h : HC i 25 12 g gm) (hi : i < 12) (hl : l < 12) (hq : q ≤ 3) (e1 : ∀ k, 25 ≤ k → k ≤ 28 → g1 k = upd2 g (25 + q) l v k) (e2 : g2 12 = upd2 gm 12 (12 * q + l) v 12) : HC i 25 12 g1 g2 := by
  have key : ∀ m, m ≤ 3 → g1 (25 + m) i = g2 12 (12 * m + i) := by
    intro m hm
    rw [e1 (25 + m) (by omega) (by omega), e2]
    have old := hc_at h hm
    by_cases em : m = q
    · subst em
      by_cases ei : i = l
      · subst ei
        rw [upd2_at, upd2_at]
      · rw [upd2_nj ei, upd2_nj (by omega)]; exact old
    · rw [upd2_nk (by omega), upd2_nj (by omega)]; exact old
  have k0 := key 0 (by decide)
  rw [show 12 * 0 + i = i by omega] at k0
  exact ⟨k0, key 1 (by decide), key 2 (by decide), key 3 (by decide)⟩
theorem l12 {n p : Int32} (h : isL n p) (hn : n.toInt ≤ 12) : 0 ≤ p.toInt ∧ p.toInt < 12 := by
  have h1 := h.1
  have h2 := h.2
  omega
theorem cd_become {fu : Nat} {p1 p2 p3 : Int32} {g gm g1 g2 : gT} {L Lm L1 L2 : lT} {rx : Except String Int32} {rm : Int32} (hp : CP g gm) (h : CD g gm) (e1 : fX11_become_0 fu p1 p2 p3 g L = some (rx, (g1, L1))) (e2 : fX12_become fu p1 p2 p3 gm Lm = some (rm, (g2, L2))) : CD g1 g2 ∧ ((rx = .ok rm ∧ g2 0 0 = 0) ∨ (rx = .error NSE ∧ g2 0 0 = 1)) := by
  have hI := hp.2.1
  obtain ⟨k1, k2, k3, k4, -⟩ := hp.2.2.2.2.2.2.1
  have r62 := hI 0 62 0 40 rfl
  have r1 := hI 0 1 0 12 rfl
  have a0 : upd2 gm 0 0 0 0 0 = 0 := upd2_at
  have e20 := e2
  unfold fX12_become at e2
  unfold sti at e2
  have a1 : upd2 gm 0 0 0 0 1 = gm 0 1 := rfl
  unfold fX12_become_p22 at e2
  by_cases c1 : isL (gm 0 1) p1
  rotate_left
  · have x : fX11_become_0 fu p1 p2 p3 g L = some (.error NSE, (g, L)) := q_xe (xneed0 (by rw [k1]; exact c1)) rfl
    rw [x] at e1
    have e2 : cb (fX12_isLesson fu p1 (upd2 gm 0 0 0) Lm) _ = some (rm, (g2, L2)) := e2
    rw [lesson0 a0 (by rw [a1]; exact c1)] at e2
    have e2 : some ((0 : Int32), (upd2 (upd2 gm 0 0 0) 0 0 1, Lm)) = some (rm, (g2, L2)) := e2
    cases e1; cases e2
    exact ⟨cd_00 hI h (fun k j hh => by rw [u00 hh, u00 hh]), Or.inr ⟨rfl, upd2_at⟩⟩
  have e2 : cb (fX12_isLesson fu p1 (upd2 gm 0 0 0) Lm) _ = some (rm, (g2, L2)) := e2
  rw [lesson1 a0 (by rw [a1]; exact c1), cbs, if_neg (by decide)] at e2
  have c1x : isL (g 1 2) p1 := by rw [k1]; exact c1
  have e3 : (3 : Int32).toInt = 3 := rfl
  have e4 : (4 : Int32).toInt = 4 := rfl
  by_cases c2 : 0 ≤ p2.toInt ∧ p2.toInt ≤ (3 : Int32).toInt
  rotate_left
  · have x : fX11_become_0 fu p1 p2 p3 g L = some (.error NSE, (g, L)) := q_xo (xneed1 c1x) (q_xe (xwhat0 (fun hh => c2 (by omega))) rfl)
    rw [x] at e1
    rw [what0 a0 c2] at e2
    have e2 : some ((0 : Int32), (upd2 (upd2 gm 0 0 0) 0 0 1, Lm)) = some (rm, (g2, L2)) := e2
    cases e1; cases e2
    exact ⟨cd_00 hI h (fun k j hh => by rw [u00 hh, u00 hh]), Or.inr ⟨rfl, upd2_at⟩⟩
  rw [what1 a0 c2.1 c2.2, cbs, if_neg (by decide)] at e2
  have hw : 0 ≤ p2.toInt ∧ p2.toInt ≤ 3 := by omega
  -- the reference's roads are one
  have e2 : ∃ hi : Int32, hi.toInt = mst p2.toInt ∧ fX12_become_p57 fu p1 p2 p3 hi 0 p3 (upd2 gm 0 0 0) Lm = some (rm, (g2, L2)) := by
    have e2 : (if p2 = 0 then fX12_become_p57 fu p1 p2 p3 60 0 p3 (upd2 gm 0 0 0) Lm else if p2 = 1 then fX12_become_p57 fu p1 p2 p3 30 0 p3 (upd2 gm 0 0 0) Lm else if p2 = 2 then fX12_become_p57 fu p1 p2 p3 9 0 p3 (upd2 gm 0 0 0) Lm else fX12_become_p57 fu p1 p2 p3 99 0 p3 (upd2 gm 0 0 0) Lm) = some (rm, (g2, L2)) := e2
    by_cases d0 : p2 = 0
    · rw [if_pos d0] at e2; exact ⟨60, by rw [d0]; rfl, e2⟩
    by_cases d1 : p2 = 1
    · rw [if_neg d0, if_pos d1] at e2; exact ⟨30, by rw [d1]; rfl, e2⟩
    by_cases d2 : p2 = 2
    · rw [if_neg d0, if_neg d1, if_pos d2] at e2; exact ⟨9, by rw [d2]; rfl, e2⟩
    · rw [if_neg d0, if_neg d1, if_neg d2] at e2
      refine ⟨99, ?_, e2⟩
      have d0 := icc_neq (m := p2.toInt) (n := 0) rfl (by decide) d0
      have d1 := icc_neq (m := p2.toInt) (n := 1) rfl (by decide) d1
      have d2 := icc_neq (m := p2.toInt) (n := 2) rfl (by decide) d2
      unfold mst
      rw [if_neg d0, if_neg d1, if_neg d2]; rfl
  obtain ⟨hi, hhi, e2⟩ := e2
  obtain ⟨y, ey, hy⟩ := most_eq (fu := fu) (p := p2) (g := g) (L := L)
  unfold fX12_become_p57 at e2
  have z0 : (0 : Int32).toInt = 0 := rfl
  by_cases c3 : (0 : Int32).toInt ≤ p3.toInt ∧ p3.toInt ≤ hi.toInt
  rotate_left
  · rw [within0 c3] at e2
    have e2 : some ((-1 : Int32), (upd2 (upd2 gm 0 0 0) 14 1 (gm 14 1 + 1), Lm)) = some (rm, (g2, L2)) := e2
    have x : fX11_become_0 fu p1 p2 p3 g L = some (.ok (-1), (upd2 g 15 1 (g 15 1 + 1), L)) := by
      refine q_xo (xneed1 c1x) (q_xo (xwhat1 hw.1 (by omega)) ?_)
      by_cases d : p3 < 0
      · exact q_t d rfl
      · have d' := icc_nlt (m := p3.toInt) (n := 0) rfl (by decide) d
        refine q_f d (q_cb ey (q_f (fun hh => c3 ⟨by omega, ?_⟩) rfl))
        have := icc_le (m := p3.toInt) (n := y.toInt) rfl rfl hh
        omega
    rw [x] at e1
    cases e1; cases e2
    refine ⟨cd_cnt (i := 1) hI h (by decide) rfl (fun k j hh => ?_), Or.inl ⟨rfl, rfl⟩⟩
    by_cases hk : k = 14
    · subst hk
      by_cases hj : j = 1
      · subst hj; rw [upd2_at, upd2_at]
      · rw [upd2_nj hj, upd2_nj hj, u00 hh]
    · rw [upd2_nk hk, upd2_nk hk, u00 hh]
  rw [within1 c3.1 c3.2, cbs, if_neg (by decide)] at e2
  have hl := l12 c1 (by omega)
  -- the class
  have x4 : Pc (fX11_become_0 fu p1 p2 p3 g L) (fun r ga _ => ∃ gk, KA p2 p1 (g (25 + p2.toInt.toNat) p1.toNatClampNeg) g gk ∧ r = .ok (g (25 + p2.toInt.toNat) p1.toNatClampNeg) ∧ ga = upd2 gk (25 + p2.toInt.toNat) p1.toNatClampNeg p3) := by
    unfold fX11_become_0
    rw [xneed1 c1x, cbxs, xwhat1 hw.1 (by omega), cbxs]
    rw [if_neg (fun hh => by have := icc_lt (m := p3.toInt) (n := 0) rfl (by decide) hh; omega), ey, cbs]
    rw [if_pos (Int32.le_iff_toInt_le.mpr (by omega))]
    have hrow := row_q hw.1 hw.2
    refine pc_cb (value_x hrow) (fun x16 ga La ha => ?_)
    obtain ⟨rfl, rfl⟩ := ha
    have r69 : 0 ≤ (ga 6 9).toInt ∧ (ga 6 9).toInt ≤ 40 := by rw [k3]; exact r62
    exact pc_cb (keepAct_x r69.1 r69.2) (fun _ gb Lb hb => pc_cb (put_x hrow) (fun _ gc Lc hc => pc_some ⟨gb, hb, rfl, hc⟩))
  obtain ⟨gk, hka, er, eg1⟩ := x4 _ _ _ e1
  -- the reference
  have e17 : (12 * p2 + p1).toInt = 12 * p2.toInt + p1.toInt := by
    have := ic_mulc (x := 12) (y := p2) (m := 12) (n := p2.toInt) (by decide) rfl (by omega) (by omega)
    exact ic_addc this rfl (by omega) (by omega)
  have eN17 : (12 * p2 + p1).toNatClampNeg = 12 * p2.toInt.toNat + p1.toInt.toNat := by rw [nc, e17]; omega
  have m4 : ∃ gn, KM (12 * p2 + p1) (gm 12 (12 * p2.toInt.toNat + p1.toInt.toNat)) (upd2 gm 0 0 0) gn ∧ rm = gm 12 (12 * p2.toInt.toNat + p1.toInt.toNat) ∧ g2 = upd2 gn 12 (12 * p2.toInt.toNat + p1.toInt.toNat) p3 := by
    have e2 : lti (12 * p2 + p1) (fun x17 => ck x17 48 (lti (upd2 gm 0 0 0 12 (Int32.toNatClampNeg x17)) (fun x18 => cb (fX12_keeps fu x17 x18 (upd2 gm 0 0 0) Lm) (fun _ g20 L21 => ck x17 48 (sti g20 12 (Int32.toNatClampNeg x17) p3 (fun g23 => some (x18, (g23, L21)))))))) = some (rm, (g2, L2)) := e2
    have key : Pc (lti (12 * p2 + p1) (fun x17 => ck x17 48 (lti (upd2 gm 0 0 0 12 (Int32.toNatClampNeg x17)) (fun x18 => cb (fX12_keeps fu x17 x18 (upd2 gm 0 0 0) Lm) (fun _ g20 L21 => ck x17 48 (sti g20 12 (Int32.toNatClampNeg x17) p3 (fun g23 => some (x18, (g23, L21))))))))) (fun r ga _ => ∃ gn, KM (12 * p2 + p1) (gm 12 (12 * p2.toInt.toNat + p1.toInt.toNat)) (upd2 gm 0 0 0) gn ∧ r = gm 12 (12 * p2.toInt.toNat + p1.toInt.toNat) ∧ ga = upd2 gn 12 (12 * p2.toInt.toNat + p1.toInt.toNat) p3) := by
      refine pc_lti (fun x17 ex => pc_ck (fun _ _ => pc_lti (fun x18 ex18 => ?_)))
      subst ex
      rw [eN17] at ex18 ⊢
      have ex18 : x18 = gm 12 (12 * p2.toInt.toNat + p1.toInt.toNat) := ex18
      subst ex18
      exact pc_cb (keeps_m (g := upd2 gm 0 0 0) r62.1 r62.2) (fun _ gb Lb hb => pc_ck (fun _ _ => pc_st (fun gc ec => pc_some ⟨gb, hb, rfl, ec⟩)))
    exact key _ _ _ e2
  obtain ⟨gn, hkm, er2, eg2⟩ := m4
  have eP : p1.toNatClampNeg = p1.toInt.toNat := by rw [nc]
  rw [eP] at hka er eg1
  have hHC := h.2.1.1 p1.toInt.toNat (by have := c1.2; omega)
  have hval : g (25 + p2.toInt.toNat) p1.toInt.toNat = gm 12 (12 * p2.toInt.toNat + p1.toInt.toNat) := hc_at hHC (by omega)
  have n0 : ∀ j, j ≠ 0 → j ≠ 62 → g2 0 j = gm 0 j := fun j h0 h62 => by
    rw [eg2, upd2_nk (by decide), hkm.2.2.2 j h62, upd2_nj h0]
  have n00 : g2 0 0 = 0 := by rw [eg2, upd2_nk (by decide), hkm.2.2.2 0 (by decide), upd2_at]
  have e62 : (g2 0 62).toInt = bmp (gm 0 62).toInt := (become_m (fu := fu) (p1 := p1) (p2 := p2) (p3 := p3) (g := gm) (L := Lm) r62 _ _ _ e20).1 ⟨c1, hw, by omega, by omega⟩
  have f1 : FW [(6, 9)] [25, 26, 27, 28, 29, 30, 31] g g1 := by
    intro k j hB hA
    have hk : k ≠ 25 + p2.toInt.toNat := fun e => hB (by
      rcases (by omega : p2.toInt.toNat = 0 ∨ p2.toInt.toNat = 1 ∨ p2.toInt.toNat = 2 ∨ p2.toInt.toNat = 3) with h | h | h | h <;> (rw [e, h]; decide))
    rw [eg1, upd2_nk hk]
    by_cases k6 : k = 6
    · subst k6
      exact hka.2.2.2 j (fun e => hA (by rw [e]; decide))
    · rw [hka.2.2.1 k (fun e => hB (by rw [e]; decide)) (fun e => hB (by rw [e]; decide)) (fun e => hB (by rw [e]; decide)) k6]
  have f2 : FW [(0, 0), (0, 62)] [12, 36] gm g2 := by
    intro k j hB hA
    by_cases k0 : k = 0
    · subst k0
      exact n0 j (fun e => hA (by rw [e]; decide)) (fun e => hA (by rw [e]; decide))
    · rw [eg2, upd2_nk (fun e => hB (by rw [e]; decide)), hkm.2.2.1 k (fun e => hB (by rw [e]; decide)) k0, upd2_nk k0]
  have f3 : FW [(0, 0)] [] gm (upd2 gm 0 0 0) := fw_00 (fun k j hh => u00 hh)
  have hka' : AC (bmp (gm 0 62).toInt) 29 36 gk gn := by
    refine ac_keep (g := g) (gm := upd2 gm 0 0 0) (p1 := p2) (p2 := p1) (w := 12 * p2 + p1) (by exact k3) r62.1 r62.2 (h.2.1.2.2.1.c rfl rfl rfl (funext fun j => upd2_nk (by decide))) hka hkm ⟨Or.inr ⟨hw, ⟨hl.1, by omega⟩, e17⟩, hval⟩
  refine ⟨cd_held hI h f1 f2 (by decide) (by decide) ⟨fun i hi => ?_, ?_, ?_, ?_⟩, Or.inl ⟨by rw [er, er2, hval], n00⟩⟩
  · rw [n0 1 (by decide) (by decide)] at hi
    refine hc_put (h.2.1.1 i hi) (by omega) (by omega) (q := p2.toInt.toNat) (l := p1.toInt.toNat) (v := p3) (by omega) (fun k a c => ?_) ?_
    · rw [eg1]
      funext j
      by_cases hk : k = 25 + p2.toInt.toNat
      · subst hk
        by_cases hj : j = p1.toInt.toNat
        · subst hj; rw [upd2_at, upd2_at]
        · rw [upd2_nj hj, upd2_nj hj, hka.2.2.1 _ (by omega) (by omega) (by omega) (by omega)]
      · rw [upd2_nk hk, upd2_nk hk, hka.2.2.1 k (by omega) (by omega) (by omega) (by omega)]
    · rw [eg2]
      funext j
      by_cases hj : j = 12 * p2.toInt.toNat + p1.toInt.toNat
      · subst hj; rw [upd2_at, upd2_at]
      · rw [upd2_nj hj, upd2_nj hj, hkm.2.2.1 12 (by decide) (by decide), upd2_nk (by decide)]
  · rw [f1 6 11 (by decide) (by decide), n0 52 (by decide) (by decide)]; exact h.2.1.2.1
  · rw [e62]
    refine hka'.c ?_ ?_ ?_ ?_
    · rw [eg1]; exact funext fun j => upd2_nk (by omega)
    · rw [eg1]; exact funext fun j => upd2_nk (by omega)
    · rw [eg1]; exact funext fun j => upd2_nk (by omega)
    · rw [eg2]; exact funext fun j => upd2_nk (by decide)
  · rw [n0 73 (by decide) (by decide)]
    refine h.2.1.2.2.2.c ?_ ?_ ?_
    · exact f1.c (by decide) (by decide)
    · exact f1.c (by decide) (by decide)
    · exact f2.c (by decide) (by decide)
