/-! ===== sightings, images ===== -/
theorem cd_see {fu : Nat} {p1 p2 : Int32} {g gm g1 g2 : gT} {L Lm L1 L2 : lT} {rx : Except String Int32} {rm : Int32} (hp : CP g gm) (h : CD g gm) (e1 : fX11_see_0 fu p1 p2 g L = some (rx, (g1, L1))) (e2 : fX12_see fu p1 p2 gm Lm = some (rm, (g2, L2))) : CD g1 g2 := by
  have hI := hp.2.1
  obtain ⟨k1, k2, k3, k4, -⟩ := hp.2.2.2.2.2.2.1
  have r73 := hI 0 73 0 8 rfl
  have a0 : upd2 gm 0 0 0 0 0 = 0 := upd2_at
  have a1 : upd2 gm 0 0 0 0 1 = gm 0 1 := rfl
  have a73 : upd2 gm 0 0 0 0 73 = gm 0 73 := rfl
  unfold fX11_see_0 fX11_see_0_p28 at e1
  unfold fX12_see fX12_see_p35 at e2
  unfold sti at e2
  by_cases c1 : isL (gm 0 1) p1
  rotate_left
  · rw [xneed0 (by rw [k1]; exact c1)] at e1
    have e1 : some (.error "java/util/NoSuchElementException", (g, L)) = some (rx, (g1, L1)) := e1
    have e2 : cb (fX12_isLesson fu p1 (upd2 gm 0 0 0) Lm) _ = some (rm, (g2, L2)) := e2
    rw [lesson0 a0 (by rw [a1]; exact c1)] at e2
    have e2 : some ((0 : Int32), (upd2 (upd2 gm 0 0 0) 0 0 1, Lm)) = some (rm, (g2, L2)) := e2
    cases e1; cases e2
    exact cd_00 hI h (fun k j hh => by rw [u00 hh, u00 hh])
  rw [xneed1 (by rw [k1]; exact c1), cbxs] at e1
  have e2 : cb (fX12_isLesson fu p1 (upd2 gm 0 0 0) Lm) _ = some (rm, (g2, L2)) := e2
  rw [lesson1 a0 (by rw [a1]; exact c1), cbs, if_neg (by decide), a73] at e2
  have i8 : (8 : Int32).toInt = 8 := rfl
  have i0 : (0 : Int32).toInt = 0 := rfl
  have i9 : (999 : Int32).toInt = 999 := rfl
  have hl := l12 c1 (by have := hI 0 1 0 12 rfl; omega)
  by_cases c2 : (0 ≤ p2.toInt ∧ p2.toInt ≤ 999) ∧ (gm 0 73).toInt < 8
  rotate_left
  · have x : g1 = upd2 g 15 2 (g 15 2 + 1) := by
      have e1 : (if p2 < 0 then some (.ok (-1), (upd2 g 15 2 (g 15 2 + 1), L)) else if 999 < p2 then some (.ok (-1), (upd2 g 15 2 (g 15 2 + 1), L)) else if g 6 10 < 8 then _ else some (.ok (-1), (upd2 g 15 2 (g 15 2 + 1), L))) = some (rx, (g1, L1)) := e1
      by_cases d1 : p2 < 0
      · rw [if_pos d1] at e1; cases e1; rfl
      rw [if_neg d1] at e1
      by_cases d2 : 999 < p2
      · rw [if_pos d2] at e1; cases e1; rfl
      rw [if_neg d2] at e1
      have d1 := icc_nlt (m := p2.toInt) (n := 0) rfl (by decide) d1
      have d2 := icc_nlt (m := 999) (n := p2.toInt) (by decide) rfl d2
      rw [if_neg (fun hh => c2 ⟨⟨by omega, by omega⟩, by rw [← k4]; exact icc_lt (m := (g 6 10).toInt) (n := 8) rfl (by decide) hh⟩)] at e1
      cases e1; rfl
    have y : g2 = upd2 (upd2 gm 0 0 0) 14 2 (gm 14 2 + 1) := by
      have e2 : (if gm 0 73 = 8 then some ((-1 : Int32), (upd2 (upd2 gm 0 0 0) 14 2 (gm 14 2 + 1), Lm)) else cb (fX12_within fu p2 0 999 (upd2 gm 0 0 0) Lm) _) = some (rm, (g2, L2)) := e2
      by_cases d : gm 0 73 = 8
      · rw [if_pos d] at e2; cases e2; rfl
      rw [if_neg d] at e2
      have d := icc_neq (m := (gm 0 73).toInt) (n := 8) rfl (by decide) d
      rw [within0 (fun hh => c2 ⟨by omega, by omega⟩)] at e2
      have e2 : some ((-1 : Int32), (upd2 (upd2 gm 0 0 0) 14 2 (gm 14 2 + 1), Lm)) = some (rm, (g2, L2)) := e2
      cases e2; rfl
    refine cd_cnt (i := 2) hI h (by decide) x (fun k j hh => ?_)
    rw [y]
    by_cases hk : k = 14
    · subst hk
      by_cases hj : j = 2
      · subst hj; rw [upd2_at, upd2_at]
      · rw [upd2_nj hj, upd2_nj hj, u00 hh]
    · rw [upd2_nk hk, upd2_nk hk, u00 hh]
  obtain ⟨c2, c3⟩ := c2
  generalize hM : (gm 0 73).toInt.toNat = M
  have hMi : (M : Int) = (gm 0 73).toInt := by omega
  have X : g1 = upd2 (upd2 (upd2 g 32 M p1) 33 M p2) 6 10 (gm 0 73 + 1) := by
    rw [if_neg (fun hh => by have := icc_lt (m := p2.toInt) (n := 0) rfl (by decide) hh; omega), if_neg (fun hh => by have := icc_lt (m := 999) (n := p2.toInt) (by decide) rfl hh; omega), k4, if_pos (Int32.lt_iff_toInt_lt.mpr (by omega))] at e1
    have key : Pc (cb (fX3_keepSeen_6 fu p1 p2 g L) (fun _ g10 L11 => some ((.ok (g10 6 10) : Except String Int32), (g10, L11)))) (fun _ ga _ => ga = upd2 (upd2 (upd2 g 32 M p1) 33 M p2) 6 10 (gm 0 73 + 1)) := by
      refine pc_cb (P := fun (_ : Unit) ga _ => ga = upd2 (upd2 (upd2 g 32 M p1) 33 M p2) 6 10 (gm 0 73 + 1)) ?_ (fun _ gz Lz hz => pc_some hz)
      unfold fX3_keepSeen_6 fX3_keepSeen_6_p39
      rw [k4, if_neg (fun hh => by have := icc_le (m := 8) (n := (gm 0 73).toInt) (by decide) rfl hh; omega)]
      have eN : (gm 0 73).toNatClampNeg = M := by rw [nc]; omega
      rw [eN]
      refine pc_ck (fun _ _ => pc_st (fun ga ea => ?_))
      have a10 : ga 6 10 = gm 0 73 := by rw [ea]; exact k4
      rw [a10, eN]
      refine pc_ck (fun _ _ => pc_st (fun gb eb => ?_))
      have b10 : gb 6 10 = gm 0 73 := by rw [eb]; exact a10
      rw [b10]
      refine pc_st (fun gc ec => pc_some ?_)
      rw [ec, eb, ea]
    exact key _ _ _ e1
  have Y : g2 = upd2 (upd2 (upd2 (upd2 gm 0 0 0) 43 (2 * M) p1) 43 (2 * M + 1) p2) 0 73 (gm 0 73 + 1) := by
    rw [if_neg (fun hh => by have := icc_eq (m := (gm 0 73).toInt) (n := 8) rfl (by decide) hh; omega), within1 (by omega) (by omega), cbs, if_neg (by decide), a73] at e2
    have e2m : (2 * gm 0 73).toInt = 2 * (M : Int) := by rw [hMi]; exact ic_mulc (by decide) rfl (by omega) (by omega)
    have eNm : (2 * gm 0 73).toNatClampNeg = 2 * M := by rw [nc, e2m]; omega
    have e3m : (2 * gm 0 73 + 1).toInt = 2 * (M : Int) + 1 := ic_addc e2m (by decide) (by omega) (by omega)
    have eNm1 : (2 * gm 0 73 + 1).toNatClampNeg = 2 * M + 1 := by rw [nc, e3m]; omega
    rw [eNm] at e2
    have e2 : ck (2 * gm 0 73) 16 (sti (upd2 gm 0 0 0) 43 (2 * M) p1 (fun g17 => ck ((2 * (g17 0 73)) + 1) 16 (sti g17 43 (Int32.toNatClampNeg ((2 * (g17 0 73)) + 1)) p2 (fun g18 => sti g18 0 73 ((g18 0 73) + 1) (fun g19 => some (g19 0 73, (g19, Lm))))))) = some (rm, (g2, L2)) := e2
    have key : Pc (ck (2 * gm 0 73) 16 (sti (upd2 gm 0 0 0) 43 (2 * M) p1 (fun g17 => ck ((2 * (g17 0 73)) + 1) 16 (sti g17 43 (Int32.toNatClampNeg ((2 * (g17 0 73)) + 1)) p2 (fun g18 => sti g18 0 73 ((g18 0 73) + 1) (fun g19 => some (g19 0 73, (g19, Lm)))))))) (fun _ ga _ => ga = upd2 (upd2 (upd2 (upd2 gm 0 0 0) 43 (2 * M) p1) 43 (2 * M + 1) p2) 0 73 (gm 0 73 + 1)) := by
      refine pc_ck (fun _ _ => pc_st (fun ga ea => ?_))
      have b1 : ga 0 73 = gm 0 73 := by rw [ea]; rfl
      rw [b1, eNm1]
      refine pc_ck (fun _ _ => pc_st (fun gb eb => ?_))
      have b2 : gb 0 73 = gm 0 73 := by rw [eb]; exact b1
      rw [b2]
      refine pc_st (fun gc ec => pc_some ?_)
      rw [ec, eb, ea]
    exact key _ _ _ e2
  have e73 : (gm 0 73 + 1).toInt = (M : Int) + 1 := by rw [hMi]; exact ic_addc rfl (by decide) (by omega) (by omega)
  have f1 : FW [(6, 10)] [32, 33] g g1 := fun k j hB hA => by
    rw [X]
    by_cases k6 : k = 6
    · subst k6; rw [upd2_nj (fun e => hA (by rw [e]; decide)), upd2_nk (by decide), upd2_nk (by decide)]
    · rw [upd2_nk k6, upd2_nk (fun e => hB (by rw [e]; decide)), upd2_nk (fun e => hB (by rw [e]; decide))]
  have f2 : FW [(0, 0), (0, 73)] [43] gm g2 := fun k j hB hA => by
    rw [Y]
    by_cases k0 : k = 0
    · subst k0; rw [upd2_nj (fun e => hA (by rw [e]; decide)), upd2_nk (by decide), upd2_nk (by decide), upd2_nj (fun e => hA (by rw [e]; decide))]
    · rw [upd2_nk k0, upd2_nk (fun e => hB (by rw [e]; decide)), upd2_nk (fun e => hB (by rw [e]; decide)), upd2_nk k0]
  refine cd_held hI h f1 f2 (by decide) (by decide) ⟨fun i hi => ?_, ?_, ?_, fun k hk => ?_⟩
  · rw [f2 0 1 (by decide) (by decide)] at hi
    exact (h.2.1.1 i hi).c (f1.c (by decide) (by decide)) (f1.c (by decide) (by decide)) (f1.c (by decide) (by decide)) (f1.c (by decide) (by decide)) (f2.c (by decide) (by decide))
  · rw [f1 6 11 (by decide) (by decide), f2 0 52 (by decide) (by decide)]; exact h.2.1.2.1
  · rw [f2 0 62 (by decide) (by decide)]
    exact h.2.1.2.2.1.c (f1.c (by decide) (by decide)) (f1.c (by decide) (by decide)) (f1.c (by decide) (by decide)) (f2.c (by decide) (by decide))
  · have hk : (k : Int) < (M : Int) + 1 := by
      rw [Y, upd2_at, e73] at hk
      exact hk
    show g1 32 k = g2 43 (2 * k) ∧ g1 33 k = g2 43 (2 * k + 1)
    have x32 : ∀ j, g1 32 j = upd2 g 32 M p1 32 j := fun j => by rw [X, upd2_nk (by decide), upd2_nk (by decide)]
    have x33 : ∀ j, g1 33 j = upd2 g 33 M p2 33 j := fun j => by
      rw [X, upd2_nk (by decide)]
      by_cases e : j = M
      · subst e; rw [upd2_at, upd2_at]
      · rw [upd2_nj e, upd2_nj e, upd2_nk (by decide)]
    have y43 : ∀ j, g2 43 j = upd2 (upd2 gm 43 (2 * M) p1) 43 (2 * M + 1) p2 43 j := fun j => by
      rw [Y, upd2_nk (by decide)]
      by_cases e : j = 2 * M + 1
      · subst e; rw [upd2_at, upd2_at]
      · rw [upd2_nj e, upd2_nj e]
        by_cases e2 : j = 2 * M
        · subst e2; rw [upd2_at, upd2_at]
        · rw [upd2_nj e2, upd2_nj e2, upd2_nk (by decide)]
    rw [x32, x33, y43, y43]
    by_cases e : k = M
    · subst e
      rw [upd2_at, upd2_at, upd2_nj (by omega), upd2_at, upd2_at]
      exact ⟨rfl, rfl⟩
    · rw [upd2_nj e, upd2_nj e, upd2_nj (by omega), upd2_nj (by omega), upd2_nj (by omega), upd2_nj (by omega)]
      exact h.2.1.2.2.2 k (by omega)
theorem cpy_0 {n : Int32} {N : Nat} {f h : Nat → Int32} {j : Nat} (hn : n.toNatClampNeg = N) (hj : j < N) : va_cpy f h (Int32.toNatClampNeg 0) (Int32.toNatClampNeg 0) n.toNatClampNeg j = f j := by
  have e0 : Int32.toNatClampNeg 0 = 0 := rfl
  rw [e0, hn]
  unfold va_cpy
  rw [if_pos ⟨Nat.zero_le _, by omega⟩]
  congr 1; omega
theorem cd_image {fu : Nat} (hfu : 1180591620717411303424 ≤ fu) {g gm g1 g2 : gT} {L Lm L1 L2 : lT} {rx rm : Unit} (hp : CP g gm) (h : CD g gm) (e1 : fX11_image_0 fu g L = some (rx, (g1, L1))) (e2 : fX12_image fu gm Lm = some (rm, (g2, L2))) : CD g1 g2 := by
  have hI := hp.2.1
  have r1 := hI 0 1 0 12 rfl
  have r62 := hI 0 62 0 40 rfl
  have r73 := hI 0 73 0 8 rfl
  have f1 : FW _ _ g g1 := w_fX11_image_0 _ _ _ _ FW.refl _ _ e1
  have f2 : FW _ _ gm g2 := w_fX12_image _ _ _ _ FW.refl _ _ e2
  have X : (∀ m i, m < 4 → i < 12 → g1 (34 + m) i = g (25 + m) i) ∧ (∀ m k, m < 3 → k < 40 → g1 (38 + m) k = g (29 + m) k) ∧ (∀ m k, m < 2 → k < 8 → g1 (41 + m) k = g (32 + m) k) ∧ g1 7 11 = g 6 11 := by
    unfold fX11_image_0 at e1
    obtain ⟨x, ga, La, ea, e⟩ := cb_some e1
    have e : some ((), (upd2 ga 0 15 1, La)) = some (rx, (g1, L1)) := e
    cases e
    have ea : some _ = some ((), (ga, L1)) := ea
    cases ea
    refine ⟨fun m i hm hi => ?_, fun m k hm hk => ?_, fun m k hm hk => ?_, rfl⟩
    · rcases (by omega : m = 0 ∨ m = 1 ∨ m = 2 ∨ m = 3) with rfl | rfl | rfl | rfl <;> exact cpy_0 (N := 12) rfl hi
    · rcases (by omega : m = 0 ∨ m = 1 ∨ m = 2) with rfl | rfl | rfl <;> exact cpy_0 (N := 40) rfl hk
    · rcases (by omega : m = 0 ∨ m = 1) with rfl | rfl <;> exact cpy_0 (N := 8) rfl hk
  have Y : (∀ j, j < 48 → g2 48 j = gm 12 j) ∧ (∀ j, j < 80 → g2 49 j = gm 36 j) ∧ (∀ j, j < 16 → g2 50 j = gm 43 j) ∧ g2 0 82 = gm 0 52 ∧ g2 0 83 = gm 0 62 ∧ g2 0 84 = gm 0 73 := by
    unfold fX12_image at e2
    unfold sti at e2
    obtain ⟨x, ga, La, ea, e⟩ := cb_some e2
    obtain ⟨x', gb, Lb, eb, e⟩ := cb_some e
    obtain ⟨x'', gc, Lc, ec, e⟩ := cb_some e
    cases e
    have ha := pc_ex (uX12_copies_12_48 fu hfu _ Lm) _ _ _ ea
    have hb := pc_ex (uX12_copies_36_49 fu hfu ga La) _ _ _ eb
    have hc := pc_ex (uX12_copies_43_50 fu hfu gb Lb) _ _ _ ec
    refine ⟨fun j hj => ?_, fun j hj => ?_, fun j hj => ?_, ?_, ?_, ?_⟩
    · rw [hc, cpd_ne (by decide), hb, cpd_ne (by decide), ha, cpd_at hj]; rfl
    · rw [hc, cpd_ne (by decide), hb, cpd_at hj, ha, cpd_ne (by decide)]; rfl
    · rw [hc, cpd_at hj, hb, cpd_ne (by decide), ha, cpd_ne (by decide)]; rfl
    · rw [hc, cpd_ne (by decide), hb, cpd_ne (by decide), ha, cpd_ne (by decide)]; rfl
    · rw [hc, cpd_ne (by decide), hb, cpd_ne (by decide), ha, cpd_ne (by decide)]; rfl
    · rw [hc, cpd_ne (by decide), hb, cpd_ne (by decide), ha, cpd_ne (by decide)]; rfl
  obtain ⟨x1, x2, x3, x4⟩ := X
  obtain ⟨y1, y2, y3, y4, y5, y6⟩ := Y
  obtain ⟨d1, d2, d3, d4, d5⟩ := h
  refine ⟨d1.f hI f1 f2 (by decide) (by decide), d2.f f1 f2 (by decide) (by decide), fun _ => ⟨fun i hi => ?_, ?_, fun k hk => ?_, fun k hk => ?_⟩, ref_f d4 f1 f2 (by decide) (by decide), d5.f f1 f2 (by decide) (by decide)⟩
  · rw [f2 0 1 (by decide) (by decide)] at hi
    obtain ⟨z1, z2, z3, z4⟩ := d2.1 i hi
    refine ⟨?_, ?_, ?_, ?_⟩
    · rw [x1 0 i (by decide) (by omega), y1 i (by omega)]; exact z1
    · rw [x1 1 i (by decide) (by omega), y1 (12 + i) (by omega)]; exact z2
    · rw [x1 2 i (by decide) (by omega), y1 (24 + i) (by omega)]; exact z3
    · rw [x1 3 i (by decide) (by omega), y1 (36 + i) (by omega)]; exact z4
  · rw [x4, y4]; exact d2.2.1
  · rw [y5] at hk
    have z := d2.2.2.1 k hk
    show (((g1 38 k).toInt = 4 ∧ (g2 49 (2 * k)).toInt = 48) ∨ ((0 ≤ (g1 38 k).toInt ∧ (g1 38 k).toInt ≤ 3) ∧ (0 ≤ (g1 39 k).toInt ∧ (g1 39 k).toInt ≤ 11) ∧ (g2 49 (2 * k)).toInt = 12 * (g1 38 k).toInt + (g1 39 k).toInt)) ∧ g1 40 k = g2 49 (2 * k + 1)
    rw [x2 0 k (by decide) (by omega), x2 1 k (by decide) (by omega), x2 2 k (by decide) (by omega), y2 (2 * k) (by omega), y2 (2 * k + 1) (by omega)]
    exact z
  · rw [y6] at hk
    have z := d2.2.2.2 k hk
    show g1 41 k = g2 50 (2 * k) ∧ g1 42 k = g2 50 (2 * k + 1)
    rw [x3 0 k (by decide) (by omega), x3 1 k (by decide) (by omega), y3 (2 * k) (by omega), y3 (2 * k + 1) (by omega)]
    exact z
theorem cd_restore {fu : Nat} (hfu : 1180591620717411303424 ≤ fu) {g gm g1 g2 : gT} {L Lm L1 L2 : lT} {rx rm : Int32} (hp : CP g gm) (h : CD g gm) (e1 : fX11_restore_0 fu g L = some (rx, (g1, L1))) (e2 : fX12_restore fu gm Lm = some (rm, (g2, L2))) : CD g1 g2 := by
  have hI := hp.2.1
  have r1 := hI 0 1 0 12 rfl
  have h6 := hp.2.2.2.2.2.1
  have f1 : FW _ _ g g1 := w_fX11_restore_0 _ _ _ _ FW.refl _ _ e1
  have f2 : FW _ _ gm g2 := w_fX12_restore _ _ _ _ FW.refl _ _ e2
  unfold fX11_restore_0 at e1
  unfold fX12_restore at e2
  have e2 : (if gm 0 81 = 0 then _ else _) = some (rm, (g2, L2)) := e2
  by_cases c : gm 0 81 = 0
  · rw [h6, if_pos c, ckb0] at e1
    rw [if_pos c, ckb0] at e2
    cases e1; cases e2
    exact cd_00 hI h (fun k j hh => u00 hh)
  rw [h6, if_neg c] at e1
  rw [if_neg c] at e2
  have X : (∀ m i, m < 4 → i < 12 → g1 (25 + m) i = g (34 + m) i) ∧ (∀ m k, m < 3 → k < 40 → g1 (29 + m) k = g (38 + m) k) ∧ (∀ m k, m < 2 → k < 8 → g1 (32 + m) k = g (41 + m) k) ∧ g1 6 11 = g 7 11 := by
    obtain ⟨x, ga, La, ea, e⟩ := cb_some e1
    rw [ckb1] at e
    cases e
    have ea : some _ = some (x, (g1, L1)) := ea
    cases ea
    refine ⟨fun m i hm hi => ?_, fun m k hm hk => ?_, fun m k hm hk => ?_, rfl⟩
    · rcases (by omega : m = 0 ∨ m = 1 ∨ m = 2 ∨ m = 3) with rfl | rfl | rfl | rfl <;> exact cpy_0 (N := 12) rfl hi
    · rcases (by omega : m = 0 ∨ m = 1 ∨ m = 2) with rfl | rfl | rfl <;> exact cpy_0 (N := 40) rfl hk
    · rcases (by omega : m = 0 ∨ m = 1) with rfl | rfl <;> exact cpy_0 (N := 8) rfl hk
  have Y : (∀ j, j < 48 → g2 12 j = gm 48 j) ∧ (∀ j, j < 80 → g2 36 j = gm 49 j) ∧ (∀ j, j < 16 → g2 43 j = gm 50 j) ∧ g2 0 52 = gm 0 82 ∧ g2 0 62 = gm 0 83 ∧ g2 0 73 = gm 0 84 := by
    unfold sti at e2
    obtain ⟨x, ga, La, ea, e⟩ := cb_some e2
    obtain ⟨x', gb, Lb, eb, e⟩ := cb_some e
    obtain ⟨x'', gc, Lc, ec, e⟩ := cb_some e
    rw [ckb1] at e
    cases e
    have ha := pc_ex (uX12_copies_48_12 fu hfu _ Lm) _ _ _ ea
    have hb := pc_ex (uX12_copies_49_36 fu hfu ga La) _ _ _ eb
    have hc := pc_ex (uX12_copies_50_43 fu hfu gb Lb) _ _ _ ec
    refine ⟨fun j hj => ?_, fun j hj => ?_, fun j hj => ?_, ?_, ?_, ?_⟩
    · rw [hc, cpd_ne (by decide), hb, cpd_ne (by decide), ha, cpd_at hj]; rfl
    · rw [hc, cpd_ne (by decide), hb, cpd_at hj, ha, cpd_ne (by decide)]; rfl
    · rw [hc, cpd_at hj, hb, cpd_ne (by decide), ha, cpd_ne (by decide)]; rfl
    · rw [hc, cpd_ne (by decide), hb, cpd_ne (by decide), ha, cpd_ne (by decide)]; rfl
    · rw [hc, cpd_ne (by decide), hb, cpd_ne (by decide), ha, cpd_ne (by decide)]; rfl
    · rw [hc, cpd_ne (by decide), hb, cpd_ne (by decide), ha, cpd_ne (by decide)]; rfl
  have r83 := hI 0 83 0 40 rfl
  have r84 := hI 0 84 0 8 rfl
  obtain ⟨x1, x2, x3, x4⟩ := X
  obtain ⟨y1, y2, y3, y4, y5, y6⟩ := Y
  have d3 := h.2.2.1 c
  refine cd_held hI h f1 f2 (by decide) (by decide) ⟨fun i hi => ?_, ?_, fun k hk => ?_, fun k hk => ?_⟩
  · rw [f2 0 1 (by decide) (by decide)] at hi
    obtain ⟨z1, z2, z3, z4⟩ := d3.1 i hi
    refine ⟨?_, ?_, ?_, ?_⟩
    · rw [x1 0 i (by decide) (by omega), y1 i (by omega)]; exact z1
    · rw [x1 1 i (by decide) (by omega), y1 (12 + i) (by omega)]; exact z2
    · rw [x1 2 i (by decide) (by omega), y1 (24 + i) (by omega)]; exact z3
    · rw [x1 3 i (by decide) (by omega), y1 (36 + i) (by omega)]; exact z4
  · rw [x4, y4]; exact d3.2.1
  · rw [y5] at hk
    have z := d3.2.2.1 k hk
    show (((g1 29 k).toInt = 4 ∧ (g2 36 (2 * k)).toInt = 48) ∨ ((0 ≤ (g1 29 k).toInt ∧ (g1 29 k).toInt ≤ 3) ∧ (0 ≤ (g1 30 k).toInt ∧ (g1 30 k).toInt ≤ 11) ∧ (g2 36 (2 * k)).toInt = 12 * (g1 29 k).toInt + (g1 30 k).toInt)) ∧ g1 31 k = g2 36 (2 * k + 1)
    rw [x2 0 k (by decide) (by omega), x2 1 k (by decide) (by omega), x2 2 k (by decide) (by omega), y2 (2 * k) (by omega), y2 (2 * k + 1) (by omega)]
    exact z
  · rw [y6] at hk
    have z := d3.2.2.2 k hk
    show g1 32 k = g2 43 (2 * k) ∧ g1 33 k = g2 43 (2 * k + 1)
    rw [x3 0 k (by decide) (by omega), x3 1 k (by decide) (by omega), y3 (2 * k) (by omega), y3 (2 * k + 1) (by omega)]
    exact z
