section
/-! ===== obey, undo, sightings, images ===== -/
theorem cd_obey {fu : Nat} {p : Int32} {g gm g1 g2 : gT} {L Lm L1 L2 : lT} {rx rm : Int32} (hp : CP g gm) (h : CD g gm) (e1 : fX11_obey_0 fu p g L = some (rx, (g1, L1))) (e2 : fX12_obey fu p gm Lm = some (rm, (g2, L2))) : CD g1 g2 := by
  have hI := hp.2.1
  obtain ⟨k1, k2, k3, k4, -⟩ := hp.2.2.2.2.2.2.1
  have r62 := hI 0 62 0 40 rfl
  have ex : ∃ x : Int32, fX11_isRuleOrNone_0 fu p g L = some (x, (g, L)) ∧ ((x = 1 ∧ (-1 ≤ p.toInt ∧ p.toInt < (g 3 3).toInt)) ∨ (x = 0 ∧ ¬ (-1 ≤ p.toInt ∧ p.toInt < (g 3 3).toInt))) := by
    unfold fX11_isRuleOrNone_0 fX11_isRuleOrNone_0_p23 fX11_isRuleOrNone_0_p24
    rw [ckb0, ckb1]
    by_cases c1 : p < (-1)
    · rw [if_pos c1]
      have c1 := icc_lt (m := p.toInt) (n := -1) rfl (by decide) c1
      exact ⟨0, rfl, Or.inr ⟨rfl, fun h => by omega⟩⟩
    · rw [if_neg c1]
      have c1 := icc_nlt (m := p.toInt) (n := -1) rfl (by decide) c1
      by_cases c2 : g 3 3 ≤ p
      · rw [if_pos c2]
        have c2 := icc_le (m := (g 3 3).toInt) (n := p.toInt) rfl rfl c2
        exact ⟨0, rfl, Or.inr ⟨rfl, fun h => by omega⟩⟩
      · rw [if_neg c2]
        have c2 := icc_nle (m := (g 3 3).toInt) (n := p.toInt) rfl rfl c2
        exact ⟨1, rfl, Or.inl ⟨rfl, by omega, by omega⟩⟩
  obtain ⟨x, ex, hx⟩ := ex
  rw [k2] at hx
  unfold fX11_obey_0 at e1
  rw [ex, cbs] at e1
  have e20 := e2
  unfold fX12_obey at e2
  unfold sti at e2
  have a2 : upd2 gm 0 0 0 0 2 = gm 0 2 := rfl
  rcases hx with ⟨rfl, hx⟩ | ⟨rfl, hx⟩
  rotate_left
  · have y1 : g1 = upd2 g 15 1 (g 15 1 + 1) := by
      have e1 : some ((0 : Int32), (upd2 g 15 1 (g 15 1 + 1), L)) = some (rx, (g1, L1)) := e1
      cases e1; rfl
    have y2 : g2 = upd2 (upd2 gm 0 0 0) 14 1 (gm 14 1 + 1) := by
      have P18 : fX12_obey_p18 fu (upd2 gm 0 0 0) Lm = some (rm, (g2, L2)) → g2 = upd2 (upd2 gm 0 0 0) 14 1 (gm 14 1 + 1) := by
        intro e
        have e : some ((0 : Int32), (upd2 (upd2 gm 0 0 0) 14 1 (gm 14 1 + 1), Lm)) = some (rm, (g2, L2)) := e
        cases e; rfl
      have e2 : (if p < (-1) then fX12_obey_p18 fu (upd2 gm 0 0 0) Lm else if p < upd2 gm 0 0 0 0 2 then _ else fX12_obey_p18 fu (upd2 gm 0 0 0) Lm) = some (rm, (g2, L2)) := e2
      rw [a2] at e2
      by_cases c1 : p < (-1)
      · rw [if_pos c1] at e2; exact P18 e2
      · rw [if_neg c1] at e2
        have c1 := icc_nlt (m := p.toInt) (n := -1) rfl (by decide) c1
        rw [if_neg (fun hh => hx ⟨c1, icc_lt (m := p.toInt) (n := (gm 0 2).toInt) rfl rfl hh⟩)] at e2
        exact P18 e2
    refine cd_cnt (i := 1) hI h (by decide) y1 (fun k j hh => ?_)
    rw [y2]
    by_cases hk : k = 14
    · subst hk
      by_cases hj : j = 1
      · subst hj; rw [upd2_at, upd2_at]
      · rw [upd2_nj hj, upd2_nj hj, u00 hh]
    · rw [upd2_nk hk, upd2_nk hk, u00 hh]
  rw [if_neg (by decide)] at e1
  have x4 : ∃ gk, KA 4 0 (g 6 11) g gk ∧ g1 = upd2 gk 6 11 p := by
    have key : Pc (cb (fX3_keepAct_6 fu 4 0 (g 6 11) g L) (fun _ g7 L8 => sti g7 6 11 p (fun g10 => ckb 1 (some (1, (g10, L8)))))) (fun (_ : Int32) ga _ => ∃ gk, KA 4 0 (g 6 11) g gk ∧ ga = upd2 gk 6 11 p) :=
      pc_cb (keepAct_x (by rw [k3]; exact r62.1) (by rw [k3]; exact r62.2)) (fun _ gb Lb hb => pc_st (fun gc ec => pc_ckb (pc_some ⟨gb, hb, ec⟩)))
    exact key _ _ _ e1
  obtain ⟨gk, hka, eg1⟩ := x4
  have m4 : ∃ gn, KM 48 (gm 0 52) (upd2 gm 0 0 0) gn ∧ g2 = upd2 gn 0 52 p := by
    have e2 : (if p < (-1) then _ else if p < upd2 gm 0 0 0 0 2 then cb (fX12_keeps fu 48 (gm 0 52) (upd2 gm 0 0 0) Lm) (fun _ g10 L11 => sti g10 0 52 p (fun g13 => ckb 1 (some ((1 : Int32), (g13, L11))))) else _) = some (rm, (g2, L2)) := e2
    rw [a2, if_neg (fun hh => by have := icc_lt (m := p.toInt) (n := -1) rfl (by decide) hh; omega), if_pos (Int32.lt_iff_toInt_lt.mpr (by omega))] at e2
    have key : Pc (cb (fX12_keeps fu 48 (gm 0 52) (upd2 gm 0 0 0) Lm) (fun _ g10 L11 => sti g10 0 52 p (fun g13 => ckb 1 (some ((1 : Int32), (g13, L11)))))) (fun (_ : Int32) ga _ => ∃ gn, KM 48 (gm 0 52) (upd2 gm 0 0 0) gn ∧ ga = upd2 gn 0 52 p) :=
      pc_cb (keeps_m (g := upd2 gm 0 0 0) r62.1 r62.2) (fun _ gb Lb hb => pc_st (fun gc ec => pc_ckb (pc_some ⟨gb, hb, ec⟩)))
    exact key _ _ _ e2
  obtain ⟨gn, hkm, eg2⟩ := m4
  have e62 : (g2 0 62).toInt = bmp (gm 0 62).toInt := ((obey_m (fu := fu) (p := p) (g := gm) (L := Lm) r62 _ _ _ e20).1 ⟨hx.1, hx.2⟩).2
  have n0 : ∀ j, j ≠ 0 → j ≠ 62 → j ≠ 52 → g2 0 j = gm 0 j := fun j h0 h62 h52 => by
    rw [eg2, upd2_nj h52, hkm.2.2.2 j h62, upd2_nj h0]
  have f1 : FW [(6, 9), (6, 11)] [29, 30, 31] g g1 := by
    intro k j hB hA
    rw [eg1]
    by_cases k6 : k = 6
    · subst k6
      rw [upd2_nj (fun e => hA (by rw [e]; decide))]
      exact hka.2.2.2 j (fun e => hA (by rw [e]; decide))
    · rw [upd2_nk k6, hka.2.2.1 k (fun e => hB (by rw [e]; decide)) (fun e => hB (by rw [e]; decide)) (fun e => hB (by rw [e]; decide)) k6]
  have f2 : FW [(0, 0), (0, 62), (0, 52)] [36] gm g2 := by
    intro k j hB hA
    by_cases k0 : k = 0
    · subst k0
      exact n0 j (fun e => hA (by rw [e]; decide)) (fun e => hA (by rw [e]; decide)) (fun e => hA (by rw [e]; decide))
    · rw [eg2, upd2_nk k0, hkm.2.2.1 k (fun e => hB (by rw [e]; decide)) k0, upd2_nk k0]
  have hka' : AC (bmp (gm 0 62).toInt) 29 36 gk gn := by
    refine ac_keep (g := g) (gm := upd2 gm 0 0 0) (by exact k3) r62.1 r62.2 (h.2.1.2.2.1.c rfl rfl rfl (funext fun j => upd2_nk (by decide))) hka hkm ⟨Or.inl ⟨by decide, by decide⟩, h.2.1.2.1⟩
  refine cd_held hI h f1 f2 (by decide) (by decide) ⟨fun i hi => ?_, ?_, ?_, ?_⟩
  · rw [n0 1 (by decide) (by decide) (by decide)] at hi
    exact (h.2.1.1 i hi).c (f1.c (by decide) (by decide)) (f1.c (by decide) (by decide)) (f1.c (by decide) (by decide)) (f1.c (by decide) (by decide)) (f2.c (by decide) (by decide))
  · rw [eg1, eg2, upd2_at, upd2_at]
  · rw [e62]
    refine hka'.c ?_ ?_ ?_ ?_
    · rw [eg1]; exact funext fun j => upd2_nk (by decide)
    · rw [eg1]; exact funext fun j => upd2_nk (by decide)
    · rw [eg1]; exact funext fun j => upd2_nk (by decide)
    · rw [eg2]; exact funext fun j => upd2_nk (by decide)
  · rw [n0 73 (by decide) (by decide) (by decide)]
    exact h.2.1.2.2.2.c (f1.c (by decide) (by decide)) (f1.c (by decide) (by decide)) (f2.c (by decide) (by decide))
theorem AC.le {m m' : Int} {a c : Nat} {g gm : gT} (h : AC m a c g gm) (hm : m' ≤ m) : AC m' a c g gm := fun k hk => h k (by omega)
theorem cd_undo {fu : Nat} {g gm g1 g2 : gT} {L Lm L1 L2 : lT} {rx rm : Int32} (hp : CP g gm) (h : CD g gm) (e1 : fX11_undo_0 fu g L = some (rx, (g1, L1))) (e2 : fX12_undo fu gm Lm = some (rm, (g2, L2))) : CD g1 g2 := by
  have hI := hp.2.1
  obtain ⟨k1, k2, k3, k4, -⟩ := hp.2.2.2.2.2.2.1
  have r62 := hI 0 62 0 40 rfl
  unfold fX11_undo_0 fX3_takeBackAct_6 fX3_takeBackAct_6_p80 at e1
  unfold fX12_undo fX12_undo_p89 at e2
  unfold sti at e2
  have a62 : upd2 gm 0 0 0 0 62 = gm 0 62 := rfl
  by_cases c : gm 0 62 = 0
  · have e2 : (if upd2 gm 0 0 0 0 62 = 0 then some ((-1 : Int32), (upd2 gm 0 0 0, Lm)) else _) = some (rm, (g2, L2)) := e2
    rw [a62, if_pos c] at e2
    rw [k3, c, if_neg (by decide), cbs] at e1
    cases e1; cases e2
    exact cd_00 hI h (fun k j hh => u00 hh)
  have c' : 1 ≤ (gm 0 62).toInt := by
    have : (gm 0 62).toInt ≠ 0 := fun e => c (ic_eq.mpr e)
    omega
  have e2 : (if upd2 gm 0 0 0 0 62 = 0 then _ else _) = some (rm, (g2, L2)) := e2
  rw [a62, if_neg c] at e2
  rw [k3, if_pos (Int32.le_iff_toInt_le.mpr (show (1 : Int32).toInt ≤ (gm 0 62).toInt from c'))] at e1
  have em1 : (gm 0 62 - 1).toInt = (gm 0 62).toInt - 1 := ic_subc rfl (by decide) (by omega) (by omega)
  generalize hM : (gm 0 62).toInt.toNat - 1 = M
  have hMi : (M : Int) = (gm 0 62).toInt - 1 := by omega
  have eNx : (gm 0 62 - 1).toNatClampNeg = M := by rw [nc, em1]; omega
  have e2m : (2 * (gm 0 62 - 1)).toInt = 2 * (M : Int) := by rw [hMi, ← em1]; exact ic_mulc (by decide) rfl (by omega) (by omega)
  have eNm : (2 * (gm 0 62 - 1)).toNatClampNeg = 2 * M := by rw [nc, e2m]; omega
  have e3m : (2 * (gm 0 62 - 1) + 1).toInt = 2 * (M : Int) + 1 := ic_addc e2m (by decide) (by omega) (by omega)
  have eNm1 : (2 * (gm 0 62 - 1) + 1).toNatClampNeg = 2 * M + 1 := by rw [nc, e3m]; omega
  obtain ⟨hact, hold⟩ := h.2.1.2.2.1 M (by omega)
  have hold : g 31 M = gm 36 (2 * M + 1) := hold
  -- the class
  have X : (g 29 M = 4 → g1 = upd2 (upd2 g 6 9 (gm 0 62 - 1)) 6 11 (g 31 M)) ∧ (¬ g 29 M = 4 → 0 ≤ (g 29 M).toInt → (g 29 M).toInt ≤ 3 → 0 ≤ (g 30 M).toInt → g1 = upd2 (upd2 g 6 9 (gm 0 62 - 1)) (25 + (g 29 M).toInt.toNat) (g 30 M).toInt.toNat (g 31 M)) := by
    have key : Pc (cb (sti g 6 9 (gm 0 62 - 1) (fun g2 => ck (g2 6 9) 40 (if g2 29 (Int32.toNatClampNeg (g2 6 9)) = 4 then ck (g2 6 9) 40 (sti g2 6 11 (g2 31 (Int32.toNatClampNeg (g2 6 9))) (fun g8 => some (g8 6 9, (g8, L)))) else ck (g2 6 9) 40 (ck (g2 6 9) 40 (ck (g2 6 9) 40 (cb (fX3_put_6 fu (g2 29 (Int32.toNatClampNeg (g2 6 9))) (g2 30 (Int32.toNatClampNeg (g2 6 9))) (g2 31 (Int32.toNatClampNeg (g2 6 9))) g2 L) (fun _ g5 L6 => some (g5 6 9, (g5, L6))))))))) (fun x1 g2 L3 => some (x1, (g2, L3)))) (fun (_ : Int32) ga _ => (g 29 M = 4 → ga = upd2 (upd2 g 6 9 (gm 0 62 - 1)) 6 11 (g 31 M)) ∧ (¬ g 29 M = 4 → 0 ≤ (g 29 M).toInt → (g 29 M).toInt ≤ 3 → 0 ≤ (g 30 M).toInt → ga = upd2 (upd2 g 6 9 (gm 0 62 - 1)) (25 + (g 29 M).toInt.toNat) (g 30 M).toInt.toNat (g 31 M))) := by
      refine pc_cb (P := fun (_ : Int32) ga _ => (g 29 M = 4 → ga = upd2 (upd2 g 6 9 (gm 0 62 - 1)) 6 11 (g 31 M)) ∧ (¬ g 29 M = 4 → 0 ≤ (g 29 M).toInt → (g 29 M).toInt ≤ 3 → 0 ≤ (g 30 M).toInt → ga = upd2 (upd2 g 6 9 (gm 0 62 - 1)) (25 + (g 29 M).toInt.toNat) (g 30 M).toInt.toNat (g 31 M))) (pc_st (fun ga ea => ?_)) (fun _ gz Lz hz => pc_some hz)
      have a69 : ga 6 9 = gm 0 62 - 1 := by rw [ea]; exact upd2_at
      have a29 : ga 29 = g 29 := by rw [ea]; exact funext fun j => upd2_nk (by decide)
      have a30 : ga 30 = g 30 := by rw [ea]; exact funext fun j => upd2_nk (by decide)
      have a31 : ga 31 = g 31 := by rw [ea]; exact funext fun j => upd2_nk (by decide)
      rw [a69, eNx, a29, a30, a31]
      refine pc_ck (fun _ _ => pc_ite (fun d => pc_ck (fun _ _ => pc_st (fun gb eb => pc_some ⟨fun _ => by rw [eb, ea], fun hn => absurd d hn⟩))) (fun d => pc_ck (fun _ _ => pc_ck (fun _ _ => pc_ck (fun _ _ => ?_)))))
      by_cases hr : 0 ≤ (g 29 M).toInt ∧ (g 29 M).toInt ≤ 3
      · refine pc_cb (put_x (row_q hr.1 hr.2)) (fun _ gb Lb hb => pc_some ⟨fun hh => absurd hh d, fun _ _ _ _ => ?_⟩)
        rw [hb, ea]
        have : (g 30 M).toNatClampNeg = (g 30 M).toInt.toNat := by rw [nc]
        rw [this]
      · exact pc_cb (P := fun _ _ _ => True) (fun _ _ _ _ => trivial) (fun _ gb Lb hb => pc_some ⟨fun hh => absurd hh d, fun _ q1 q2 => absurd ⟨q1, q2⟩ hr⟩)
    exact key _ _ _ e1
  -- the reference
  have Y : (gm 36 (2 * M) = 48 → g2 = upd2 (upd2 (upd2 gm 0 0 0) 0 62 (gm 0 62 - 1)) 0 52 (gm 36 (2 * M + 1))) ∧ (¬ gm 36 (2 * M) = 48 → 0 ≤ (gm 36 (2 * M)).toInt → g2 = upd2 (upd2 (upd2 gm 0 0 0) 0 62 (gm 0 62 - 1)) 12 (gm 36 (2 * M)).toInt.toNat (gm 36 (2 * M + 1))) := by
    have e2 : sti (upd2 gm 0 0 0) 0 62 (gm 0 62 - 1) (fun g3 => ck (2 * (g3 0 62)) 80 (if g3 36 (Int32.toNatClampNeg (2 * (g3 0 62))) = 48 then ck ((2 * (g3 0 62)) + 1) 80 (sti g3 0 52 (g3 36 (Int32.toNatClampNeg ((2 * (g3 0 62)) + 1))) (fun g6 => some (g6 0 62, (g6, Lm)))) else ck (2 * (g3 0 62)) 80 (ck ((2 * (g3 0 62)) + 1) 80 (ck (g3 36 (Int32.toNatClampNeg (2 * (g3 0 62)))) 48 (sti g3 12 (Int32.toNatClampNeg (g3 36 (Int32.toNatClampNeg (2 * (g3 0 62))))) (g3 36 (Int32.toNatClampNeg ((2 * (g3 0 62)) + 1))) (fun g5 => some (g5 0 62, (g5, Lm)))))))) = some (rm, (g2, L2)) := e2
    have key : Pc (sti (upd2 gm 0 0 0) 0 62 (gm 0 62 - 1) (fun g3 => ck (2 * (g3 0 62)) 80 (if g3 36 (Int32.toNatClampNeg (2 * (g3 0 62))) = 48 then ck ((2 * (g3 0 62)) + 1) 80 (sti g3 0 52 (g3 36 (Int32.toNatClampNeg ((2 * (g3 0 62)) + 1))) (fun g6 => some (g6 0 62, (g6, Lm)))) else ck (2 * (g3 0 62)) 80 (ck ((2 * (g3 0 62)) + 1) 80 (ck (g3 36 (Int32.toNatClampNeg (2 * (g3 0 62)))) 48 (sti g3 12 (Int32.toNatClampNeg (g3 36 (Int32.toNatClampNeg (2 * (g3 0 62))))) (g3 36 (Int32.toNatClampNeg ((2 * (g3 0 62)) + 1))) (fun g5 => some (g5 0 62, (g5, Lm))))))))) (fun (_ : Int32) ga _ => (gm 36 (2 * M) = 48 → ga = upd2 (upd2 (upd2 gm 0 0 0) 0 62 (gm 0 62 - 1)) 0 52 (gm 36 (2 * M + 1))) ∧ (¬ gm 36 (2 * M) = 48 → 0 ≤ (gm 36 (2 * M)).toInt → ga = upd2 (upd2 (upd2 gm 0 0 0) 0 62 (gm 0 62 - 1)) 12 (gm 36 (2 * M)).toInt.toNat (gm 36 (2 * M + 1)))) := by
      refine pc_st (fun ga ea => ?_)
      have a62 : ga 0 62 = gm 0 62 - 1 := by rw [ea]; exact upd2_at
      have a36 : ga 36 = gm 36 := by rw [ea]; exact funext fun j => (upd2_nk (by decide)).trans (upd2_nk (by decide))
      rw [a62, eNm, eNm1, a36]
      refine pc_ck (fun _ _ => pc_ite (fun d => pc_ck (fun _ _ => pc_st (fun gb eb => pc_some ⟨fun _ => by rw [eb, ea], fun hn => absurd d hn⟩))) (fun d => pc_ck (fun _ _ => pc_ck (fun _ _ => pc_ck (fun _ _ => pc_st (fun gb eb => pc_some ⟨fun hh => absurd hh d, fun _ _ => ?_⟩))))))
      have : (gm 36 (2 * M)).toNatClampNeg = (gm 36 (2 * M)).toInt.toNat := by rw [nc]
      rw [eb, ea, this]
    exact key _ _ _ e2
  have hAC : ∀ {ga gb : gT}, (∀ k, k = 29 ∨ k = 30 ∨ k = 31 → ga k = g k) → gb 36 = gm 36 → gb 0 62 = gm 0 62 - 1 → AC (gb 0 62).toInt 29 36 ga gb := by
    intro ga gb ha hb h62
    rw [h62, em1]
    exact (h.2.1.2.2.1.le (by omega)).c (ha 29 (Or.inl rfl)) (ha 30 (Or.inr (Or.inl rfl))) (ha 31 (Or.inr (Or.inr rfl))) hb
  have i4 : (4 : Int32).toInt = 4 := rfl
  have i48 : (48 : Int32).toInt = 48 := rfl
  rcases hact with ⟨q1, q2⟩ | ⟨q1, q2, q3⟩
  · have q1 : (g 29 M).toInt = 4 := q1
    have eg1 := X.1 (ic_eq.mpr q1)
    have eg2 := Y.1 (ic_eq.mpr q2)
    have f1 : FW [(6, 9), (6, 11)] [] g g1 := fun k j _ hA => by
      rw [eg1]
      by_cases k6 : k = 6
      · subst k6
        rw [upd2_nj (fun e => hA (by rw [e]; decide)), upd2_nj (fun e => hA (by rw [e]; decide))]
      · rw [upd2_nk k6, upd2_nk k6]
    have f2 : FW [(0, 0), (0, 62), (0, 52)] [] gm g2 := fun k j _ hA => by
      rw [eg2]
      by_cases k0 : k = 0
      · subst k0
        rw [upd2_nj (fun e => hA (by rw [e]; decide)), upd2_nj (fun e => hA (by rw [e]; decide)), upd2_nj (fun e => hA (by rw [e]; decide))]
      · rw [upd2_nk k0, upd2_nk k0, upd2_nk k0]
    refine cd_held hI h f1 f2 (by decide) (by decide) ⟨fun i hi => ?_, ?_, ?_, ?_⟩
    · rw [f2 0 1 (by decide) (by decide)] at hi
      exact (h.2.1.1 i hi).c (f1.c (by decide) (by decide)) (f1.c (by decide) (by decide)) (f1.c (by decide) (by decide)) (f1.c (by decide) (by decide)) (f2.c (by decide) (by decide))
    · rw [eg1, eg2, upd2_at, upd2_at]; exact hold
    · exact hAC (fun k hk => by rcases hk with rfl | rfl | rfl <;> exact f1.c (by decide) (by decide)) (f2.c (by decide) (by decide)) (by rw [eg2, upd2_nj (by decide), upd2_at])
    · rw [f2 0 73 (by decide) (by decide)]
      exact h.2.1.2.2.2.c (f1.c (by decide) (by decide)) (f1.c (by decide) (by decide)) (f2.c (by decide) (by decide))
  · have q1 : 0 ≤ (g 29 M).toInt ∧ (g 29 M).toInt ≤ 3 := q1
    have q2 : 0 ≤ (g 30 M).toInt ∧ (g 30 M).toInt ≤ 11 := q2
    have q3 : (gm 36 (2 * M)).toInt = 12 * (g 29 M).toInt + (g 30 M).toInt := q3
    have eg1 := X.2 (fun e => by rw [e] at q1; exact absurd q1.2 (by decide)) q1.1 q1.2 q2.1
    have eg2 := Y.2 (fun e => by rw [e] at q3; omega) (by omega)
    have eI : (gm 36 (2 * M)).toInt.toNat = 12 * (g 29 M).toInt.toNat + (g 30 M).toInt.toNat := by omega
    rw [eI] at eg2
    have hq3 : (g 29 M).toInt.toNat ≤ 3 := by omega
    have hl12 : (g 30 M).toInt.toNat < 12 := by omega
    generalize (g 29 M).toInt.toNat = q at *
    generalize (g 30 M).toInt.toNat = l at *
    have f1 : FW [(6, 9)] [25, 26, 27, 28] g g1 := fun k j hB hA => by
      rw [eg1]
      have hk : k ≠ 25 + q := fun e => hB (by
        rcases (by omega : q = 0 ∨ q = 1 ∨ q = 2 ∨ q = 3) with h | h | h | h <;> (rw [e, h]; decide))
      rw [upd2_nk hk]
      by_cases k6 : k = 6
      · subst k6; rw [upd2_nj (fun e => hA (by rw [e]; decide))]
      · rw [upd2_nk k6]
    have f2 : FW [(0, 0), (0, 62)] [12] gm g2 := fun k j hB hA => by
      rw [eg2, upd2_nk (fun e => hB (by rw [e]; decide))]
      by_cases k0 : k = 0
      · subst k0
        rw [upd2_nj (fun e => hA (by rw [e]; decide)), upd2_nj (fun e => hA (by rw [e]; decide))]
      · rw [upd2_nk k0, upd2_nk k0]
    have r1 := hI 0 1 0 12 rfl
    refine cd_held hI h f1 f2 (by decide) (by decide) ⟨fun i hi => ?_, ?_, ?_, ?_⟩
    · rw [f2 0 1 (by decide) (by decide)] at hi
      refine hc_put (h.2.1.1 i hi) (by omega) hl12 (q := q) (l := l) (v := g 31 M) hq3 (fun k a c => ?_) ?_
      · rw [eg1]
        funext j
        by_cases hk : k = 25 + q
        · subst hk
          by_cases hj : j = l
          · subst hj; rw [upd2_at, upd2_at]
          · rw [upd2_nj hj, upd2_nj hj, upd2_nk (by omega)]
        · rw [upd2_nk hk, upd2_nk hk, upd2_nk (by omega)]
      · rw [eg2, ← hold]
        funext j
        by_cases hj : j = 12 * q + l
        · subst hj; rw [upd2_at, upd2_at]
        · rw [upd2_nj hj, upd2_nj hj, upd2_nk (by decide), upd2_nk (by decide)]
    · rw [f1 6 11 (by decide) (by decide), f2 0 52 (by decide) (by decide)]; exact h.2.1.2.1
    · exact hAC (fun k hk => by rcases hk with rfl | rfl | rfl <;> exact f1.c (by decide) (by decide)) (f2.c (by decide) (by decide)) (by rw [eg2, upd2_nk (by decide), upd2_at])
    · rw [f2 0 73 (by decide) (by decide)]
      exact h.2.1.2.2.2.c (f1.c (by decide) (by decide)) (f1.c (by decide) (by decide)) (f2.c (by decide) (by decide))
theorem cd_forget {fu : Nat} {g gm g1 g2 : gT} {L Lm L1 L2 : lT} {rx rm : Unit} (hp : CP g gm) (h : CD g gm) (e1 : fX11_forget_0 fu g L = some (rx, (g1, L1))) (e2 : fX12_forget fu gm Lm = some (rm, (g2, L2))) : CD g1 g2 := by
  have hI := hp.2.1
  have e1 : some ((), (upd2 g 6 10 0, L)) = some (rx, (g1, L1)) := e1
  have e2 : some ((), (upd2 (upd2 gm 0 0 0) 0 73 0, Lm)) = some (rm, (g2, L2)) := e2
  cases e1; cases e2
  have f1 : FW [(6, 10)] [] g (upd2 g 6 10 0) := fun k j _ hA => by
    by_cases k6 : k = 6
    · subst k6; rw [upd2_nj (fun e => hA (by rw [e]; decide))]
    · rw [upd2_nk k6]
  have f2 : FW [(0, 0), (0, 73)] [] gm (upd2 (upd2 gm 0 0 0) 0 73 0) := fun k j _ hA => by
    by_cases k0 : k = 0
    · subst k0; rw [upd2_nj (fun e => hA (by rw [e]; decide)), upd2_nj (fun e => hA (by rw [e]; decide))]
    · rw [upd2_nk k0, upd2_nk k0]
  refine cd_held hI h f1 f2 (by decide) (by decide) ⟨fun i hi => ?_, ?_, ?_, fun k hk => ?_⟩
  · exact (h.2.1.1 i hi).c (f1.c (by decide) (by decide)) (f1.c (by decide) (by decide)) (f1.c (by decide) (by decide)) (f1.c (by decide) (by decide)) (f2.c (by decide) (by decide))
  · exact h.2.1.2.1
  · exact h.2.1.2.2.1.c (f1.c (by decide) (by decide)) (f1.c (by decide) (by decide)) (f1.c (by decide) (by decide)) (f2.c (by decide) (by decide))
  · exact absurd (show (k : Int) < 0 from hk) (by omega)
end
section
/-! ===== sightings, images ===== -/
theorem cd_see {fu : Nat} {p1 p2 : Int32} {g gm g1 g2 : gT} {L Lm L1 L2 : lT} {rx : Except String Int32} {rm : Int32} (hp : CP g gm) (h : CD g gm) (e1 : fX11_see_0 fu p1 p2 g L = some (rx, (g1, L1))) (e2 : fX12_see fu p1 p2 gm Lm = some (rm, (g2, L2))) : CD g1 g2 := by
  have hI := hp.2.1
  obtain ⟨k1, k2, k3, k4, -⟩ := hp.2.2.2.2.2.2.1
  have r73 := hI 0 73 0 8 rfl
  have a0 : upd2 gm 0 0 0 0 0 = 0 := upd2_at
  have a1 : upd2 gm 0 0 0 0 1 = gm 0 1 := rfl
  have a73 : upd2 gm 0 0 0 0 73 = gm 0 73 := rfl
  unfold fX11_see_0 fX11_see_0_p28 at e1
  unfold fX12_see fX12_see_p35 at e2
  unfold sti at e2
  by_cases c1 : isL (gm 0 1) p1
  rotate_left
  · rw [xneed0 (by rw [k1]; exact c1)] at e1
    have e1 : some (.error "java/util/NoSuchElementException", (g, L)) = some (rx, (g1, L1)) := e1
    have e2 : cb (fX12_isLesson fu p1 (upd2 gm 0 0 0) Lm) _ = some (rm, (g2, L2)) := e2
    rw [lesson0 a0 (by rw [a1]; exact c1)] at e2
    have e2 : some ((0 : Int32), (upd2 (upd2 gm 0 0 0) 0 0 1, Lm)) = some (rm, (g2, L2)) := e2
    cases e1; cases e2
    exact cd_00 hI h (fun k j hh => by rw [u00 hh, u00 hh])
  rw [xneed1 (by rw [k1]; exact c1), cbxs] at e1
  have e2 : cb (fX12_isLesson fu p1 (upd2 gm 0 0 0) Lm) _ = some (rm, (g2, L2)) := e2
  rw [lesson1 a0 (by rw [a1]; exact c1), cbs, if_neg (by decide), a73] at e2
  have i8 : (8 : Int32).toInt = 8 := rfl
  have i0 : (0 : Int32).toInt = 0 := rfl
  have i9 : (999 : Int32).toInt = 999 := rfl
  have hl := l12 c1 (by have := hI 0 1 0 12 rfl; omega)
  by_cases c2 : (0 ≤ p2.toInt ∧ p2.toInt ≤ 999) ∧ (gm 0 73).toInt < 8
  rotate_left
  · have x : g1 = upd2 g 15 2 (g 15 2 + 1) := by
      have e1 : (if p2 < 0 then some (.ok (-1), (upd2 g 15 2 (g 15 2 + 1), L)) else if 999 < p2 then some (.ok (-1), (upd2 g 15 2 (g 15 2 + 1), L)) else if g 6 10 < 8 then _ else some (.ok (-1), (upd2 g 15 2 (g 15 2 + 1), L))) = some (rx, (g1, L1)) := e1
      by_cases d1 : p2 < 0
      · rw [if_pos d1] at e1; cases e1; rfl
      rw [if_neg d1] at e1
      by_cases d2 : 999 < p2
      · rw [if_pos d2] at e1; cases e1; rfl
      rw [if_neg d2] at e1
      have d1 := icc_nlt (m := p2.toInt) (n := 0) rfl (by decide) d1
      have d2 := icc_nlt (m := 999) (n := p2.toInt) (by decide) rfl d2
      rw [if_neg (fun hh => c2 ⟨⟨by omega, by omega⟩, by rw [← k4]; exact icc_lt (m := (g 6 10).toInt) (n := 8) rfl (by decide) hh⟩)] at e1
      cases e1; rfl
    have y : g2 = upd2 (upd2 gm 0 0 0) 14 2 (gm 14 2 + 1) := by
      have e2 : (if gm 0 73 = 8 then some ((-1 : Int32), (upd2 (upd2 gm 0 0 0) 14 2 (gm 14 2 + 1), Lm)) else cb (fX12_within fu p2 0 999 (upd2 gm 0 0 0) Lm) _) = some (rm, (g2, L2)) := e2
      by_cases d : gm 0 73 = 8
      · rw [if_pos d] at e2; cases e2; rfl
      rw [if_neg d] at e2
      have d := icc_neq (m := (gm 0 73).toInt) (n := 8) rfl (by decide) d
      rw [within0 (fun hh => c2 ⟨by omega, by omega⟩)] at e2
      have e2 : some ((-1 : Int32), (upd2 (upd2 gm 0 0 0) 14 2 (gm 14 2 + 1), Lm)) = some (rm, (g2, L2)) := e2
      cases e2; rfl
    refine cd_cnt (i := 2) hI h (by decide) x (fun k j hh => ?_)
    rw [y]
    by_cases hk : k = 14
    · subst hk
      by_cases hj : j = 2
      · subst hj; rw [upd2_at, upd2_at]
      · rw [upd2_nj hj, upd2_nj hj, u00 hh]
    · rw [upd2_nk hk, upd2_nk hk, u00 hh]
  obtain ⟨c2, c3⟩ := c2
  generalize hM : (gm 0 73).toInt.toNat = M
  have hMi : (M : Int) = (gm 0 73).toInt := by omega
  have X : g1 = upd2 (upd2 (upd2 g 32 M p1) 33 M p2) 6 10 (gm 0 73 + 1) := by
    rw [if_neg (fun hh => by have := icc_lt (m := p2.toInt) (n := 0) rfl (by decide) hh; omega), if_neg (fun hh => by have := icc_lt (m := 999) (n := p2.toInt) (by decide) rfl hh; omega), k4, if_pos (Int32.lt_iff_toInt_lt.mpr (by omega))] at e1
    have key : Pc (cb (fX3_keepSeen_6 fu p1 p2 g L) (fun _ g10 L11 => some ((.ok (g10 6 10) : Except String Int32), (g10, L11)))) (fun _ ga _ => ga = upd2 (upd2 (upd2 g 32 M p1) 33 M p2) 6 10 (gm 0 73 + 1)) := by
      refine pc_cb (P := fun (_ : Unit) ga _ => ga = upd2 (upd2 (upd2 g 32 M p1) 33 M p2) 6 10 (gm 0 73 + 1)) ?_ (fun _ gz Lz hz => pc_some hz)
      unfold fX3_keepSeen_6 fX3_keepSeen_6_p39
      rw [k4, if_neg (fun hh => by have := icc_le (m := 8) (n := (gm 0 73).toInt) (by decide) rfl hh; omega)]
      have eN : (gm 0 73).toNatClampNeg = M := by rw [nc]; omega
      rw [eN]
      refine pc_ck (fun _ _ => pc_st (fun ga ea => ?_))
      have a10 : ga 6 10 = gm 0 73 := by rw [ea]; exact k4
      rw [a10, eN]
      refine pc_ck (fun _ _ => pc_st (fun gb eb => ?_))
      have b10 : gb 6 10 = gm 0 73 := by rw [eb]; exact a10
      rw [b10]
      refine pc_st (fun gc ec => pc_some ?_)
      rw [ec, eb, ea]
    exact key _ _ _ e1
  have Y : g2 = upd2 (upd2 (upd2 (upd2 gm 0 0 0) 43 (2 * M) p1) 43 (2 * M + 1) p2) 0 73 (gm 0 73 + 1) := by
    rw [if_neg (fun hh => by have := icc_eq (m := (gm 0 73).toInt) (n := 8) rfl (by decide) hh; omega), within1 (by omega) (by omega), cbs, if_neg (by decide), a73] at e2
    have e2m : (2 * gm 0 73).toInt = 2 * (M : Int) := by rw [hMi]; exact ic_mulc (by decide) rfl (by omega) (by omega)
    have eNm : (2 * gm 0 73).toNatClampNeg = 2 * M := by rw [nc, e2m]; omega
    have e3m : (2 * gm 0 73 + 1).toInt = 2 * (M : Int) + 1 := ic_addc e2m (by decide) (by omega) (by omega)
    have eNm1 : (2 * gm 0 73 + 1).toNatClampNeg = 2 * M + 1 := by rw [nc, e3m]; omega
    rw [eNm] at e2
    have e2 : ck (2 * gm 0 73) 16 (sti (upd2 gm 0 0 0) 43 (2 * M) p1 (fun g17 => ck ((2 * (g17 0 73)) + 1) 16 (sti g17 43 (Int32.toNatClampNeg ((2 * (g17 0 73)) + 1)) p2 (fun g18 => sti g18 0 73 ((g18 0 73) + 1) (fun g19 => some (g19 0 73, (g19, Lm))))))) = some (rm, (g2, L2)) := e2
    have key : Pc (ck (2 * gm 0 73) 16 (sti (upd2 gm 0 0 0) 43 (2 * M) p1 (fun g17 => ck ((2 * (g17 0 73)) + 1) 16 (sti g17 43 (Int32.toNatClampNeg ((2 * (g17 0 73)) + 1)) p2 (fun g18 => sti g18 0 73 ((g18 0 73) + 1) (fun g19 => some (g19 0 73, (g19, Lm)))))))) (fun _ ga _ => ga = upd2 (upd2 (upd2 (upd2 gm 0 0 0) 43 (2 * M) p1) 43 (2 * M + 1) p2) 0 73 (gm 0 73 + 1)) := by
      refine pc_ck (fun _ _ => pc_st (fun ga ea => ?_))
      have b1 : ga 0 73 = gm 0 73 := by rw [ea]; rfl
      rw [b1, eNm1]
      refine pc_ck (fun _ _ => pc_st (fun gb eb => ?_))
      have b2 : gb 0 73 = gm 0 73 := by rw [eb]; exact b1
      rw [b2]
      refine pc_st (fun gc ec => pc_some ?_)
      rw [ec, eb, ea]
    exact key _ _ _ e2
  have e73 : (gm 0 73 + 1).toInt = (M : Int) + 1 := by rw [hMi]; exact ic_addc rfl (by decide) (by omega) (by omega)
  have f1 : FW [(6, 10)] [32, 33] g g1 := fun k j hB hA => by
    rw [X]
    by_cases k6 : k = 6
    · subst k6; rw [upd2_nj (fun e => hA (by rw [e]; decide)), upd2_nk (by decide), upd2_nk (by decide)]
    · rw [upd2_nk k6, upd2_nk (fun e => hB (by rw [e]; decide)), upd2_nk (fun e => hB (by rw [e]; decide))]
  have f2 : FW [(0, 0), (0, 73)] [43] gm g2 := fun k j hB hA => by
    rw [Y]
    by_cases k0 : k = 0
    · subst k0; rw [upd2_nj (fun e => hA (by rw [e]; decide)), upd2_nk (by decide), upd2_nk (by decide), upd2_nj (fun e => hA (by rw [e]; decide))]
    · rw [upd2_nk k0, upd2_nk (fun e => hB (by rw [e]; decide)), upd2_nk (fun e => hB (by rw [e]; decide)), upd2_nk k0]
  refine cd_held hI h f1 f2 (by decide) (by decide) ⟨fun i hi => ?_, ?_, ?_, fun k hk => ?_⟩
  · rw [f2 0 1 (by decide) (by decide)] at hi
    exact (h.2.1.1 i hi).c (f1.c (by decide) (by decide)) (f1.c (by decide) (by decide)) (f1.c (by decide) (by decide)) (f1.c (by decide) (by decide)) (f2.c (by decide) (by decide))
  · rw [f1 6 11 (by decide) (by decide), f2 0 52 (by decide) (by decide)]; exact h.2.1.2.1
  · rw [f2 0 62 (by decide) (by decide)]
    exact h.2.1.2.2.1.c (f1.c (by decide) (by decide)) (f1.c (by decide) (by decide)) (f1.c (by decide) (by decide)) (f2.c (by decide) (by decide))
  · have hk : (k : Int) < (M : Int) + 1 := by
      rw [Y, upd2_at, e73] at hk
      exact hk
    show g1 32 k = g2 43 (2 * k) ∧ g1 33 k = g2 43 (2 * k + 1)
    have x32 : ∀ j, g1 32 j = upd2 g 32 M p1 32 j := fun j => by rw [X, upd2_nk (by decide), upd2_nk (by decide)]
    have x33 : ∀ j, g1 33 j = upd2 g 33 M p2 33 j := fun j => by
      rw [X, upd2_nk (by decide)]
      by_cases e : j = M
      · subst e; rw [upd2_at, upd2_at]
      · rw [upd2_nj e, upd2_nj e, upd2_nk (by decide)]
    have y43 : ∀ j, g2 43 j = upd2 (upd2 gm 43 (2 * M) p1) 43 (2 * M + 1) p2 43 j := fun j => by
      rw [Y, upd2_nk (by decide)]
      by_cases e : j = 2 * M + 1
      · subst e; rw [upd2_at, upd2_at]
      · rw [upd2_nj e, upd2_nj e]
        by_cases e2 : j = 2 * M
        · subst e2; rw [upd2_at, upd2_at]
        · rw [upd2_nj e2, upd2_nj e2, upd2_nk (by decide)]
    rw [x32, x33, y43, y43]
    by_cases e : k = M
    · subst e
      rw [upd2_at, upd2_at, upd2_nj (by omega), upd2_at, upd2_at]
      exact ⟨rfl, rfl⟩
    · rw [upd2_nj e, upd2_nj e, upd2_nj (by omega), upd2_nj (by omega), upd2_nj (by omega), upd2_nj (by omega)]
      exact h.2.1.2.2.2 k (by omega)
theorem cpy_0 {n : Int32} {N : Nat} {f h : Nat → Int32} {j : Nat} (hn : n.toNatClampNeg = N) (hj : j < N) : va_cpy f h (Int32.toNatClampNeg 0) (Int32.toNatClampNeg 0) n.toNatClampNeg j = f j := by
  have e0 : Int32.toNatClampNeg 0 = 0 := rfl
  rw [e0, hn]
  unfold va_cpy
  rw [if_pos ⟨Nat.zero_le _, by omega⟩]
  congr 1; omega
theorem cd_image {fu : Nat} (hfu : 1180591620717411303424 ≤ fu) {g gm g1 g2 : gT} {L Lm L1 L2 : lT} {rx rm : Unit} (hp : CP g gm) (h : CD g gm) (e1 : fX11_image_0 fu g L = some (rx, (g1, L1))) (e2 : fX12_image fu gm Lm = some (rm, (g2, L2))) : CD g1 g2 := by
  have hI := hp.2.1
  have r1 := hI 0 1 0 12 rfl
  have r62 := hI 0 62 0 40 rfl
  have r73 := hI 0 73 0 8 rfl
  have f1 : FW _ _ g g1 := w_fX11_image_0 _ _ _ _ FW.refl _ _ e1
  have f2 : FW _ _ gm g2 := w_fX12_image _ _ _ _ FW.refl _ _ e2
  have X : (∀ m i, m < 4 → i < 12 → g1 (34 + m) i = g (25 + m) i) ∧ (∀ m k, m < 3 → k < 40 → g1 (38 + m) k = g (29 + m) k) ∧ (∀ m k, m < 2 → k < 8 → g1 (41 + m) k = g (32 + m) k) ∧ g1 7 11 = g 6 11 := by
    unfold fX11_image_0 at e1
    obtain ⟨x, ga, La, ea, e⟩ := cb_some e1
    have e : some ((), (upd2 ga 0 15 1, La)) = some (rx, (g1, L1)) := e
    cases e
    have ea : some _ = some ((), (ga, L1)) := ea
    cases ea
    refine ⟨fun m i hm hi => ?_, fun m k hm hk => ?_, fun m k hm hk => ?_, rfl⟩
    · rcases (by omega : m = 0 ∨ m = 1 ∨ m = 2 ∨ m = 3) with rfl | rfl | rfl | rfl <;> exact cpy_0 (N := 12) rfl hi
    · rcases (by omega : m = 0 ∨ m = 1 ∨ m = 2) with rfl | rfl | rfl <;> exact cpy_0 (N := 40) rfl hk
    · rcases (by omega : m = 0 ∨ m = 1) with rfl | rfl <;> exact cpy_0 (N := 8) rfl hk
  have Y : (∀ j, j < 48 → g2 48 j = gm 12 j) ∧ (∀ j, j < 80 → g2 49 j = gm 36 j) ∧ (∀ j, j < 16 → g2 50 j = gm 43 j) ∧ g2 0 82 = gm 0 52 ∧ g2 0 83 = gm 0 62 ∧ g2 0 84 = gm 0 73 := by
    unfold fX12_image at e2
    unfold sti at e2
    obtain ⟨x, ga, La, ea, e⟩ := cb_some e2
    obtain ⟨x', gb, Lb, eb, e⟩ := cb_some e
    obtain ⟨x'', gc, Lc, ec, e⟩ := cb_some e
    cases e
    have ha := pc_ex (uX12_copies_12_48 fu hfu _ Lm) _ _ _ ea
    have hb := pc_ex (uX12_copies_36_49 fu hfu ga La) _ _ _ eb
    have hc := pc_ex (uX12_copies_43_50 fu hfu gb Lb) _ _ _ ec
    refine ⟨fun j hj => ?_, fun j hj => ?_, fun j hj => ?_, ?_, ?_, ?_⟩
    · rw [hc, cpd_ne (by decide), hb, cpd_ne (by decide), ha, cpd_at hj]; rfl
    · rw [hc, cpd_ne (by decide), hb, cpd_at hj, ha, cpd_ne (by decide)]; rfl
    · rw [hc, cpd_at hj, hb, cpd_ne (by decide), ha, cpd_ne (by decide)]; rfl
    · rw [hc, cpd_ne (by decide), hb, cpd_ne (by decide), ha, cpd_ne (by decide)]; rfl
    · rw [hc, cpd_ne (by decide), hb, cpd_ne (by decide), ha, cpd_ne (by decide)]; rfl
    · rw [hc, cpd_ne (by decide), hb, cpd_ne (by decide), ha, cpd_ne (by decide)]; rfl
  obtain ⟨x1, x2, x3, x4⟩ := X
  obtain ⟨y1, y2, y3, y4, y5, y6⟩ := Y
  obtain ⟨d1, d2, d3, d4, d5⟩ := h
  refine ⟨d1.f hI f1 f2 (by decide) (by decide), d2.f f1 f2 (by decide) (by decide), fun _ => ⟨fun i hi => ?_, ?_, fun k hk => ?_, fun k hk => ?_⟩, ref_f d4 f1 f2 (by decide) (by decide), d5.f f1 f2 (by decide) (by decide)⟩
  · rw [f2 0 1 (by decide) (by decide)] at hi
    obtain ⟨z1, z2, z3, z4⟩ := d2.1 i hi
    refine ⟨?_, ?_, ?_, ?_⟩
    · rw [x1 0 i (by decide) (by omega), y1 i (by omega)]; exact z1
    · rw [x1 1 i (by decide) (by omega), y1 (12 + i) (by omega)]; exact z2
    · rw [x1 2 i (by decide) (by omega), y1 (24 + i) (by omega)]; exact z3
    · rw [x1 3 i (by decide) (by omega), y1 (36 + i) (by omega)]; exact z4
  · rw [x4, y4]; exact d2.2.1
  · rw [y5] at hk
    have z := d2.2.2.1 k hk
    show (((g1 38 k).toInt = 4 ∧ (g2 49 (2 * k)).toInt = 48) ∨ ((0 ≤ (g1 38 k).toInt ∧ (g1 38 k).toInt ≤ 3) ∧ (0 ≤ (g1 39 k).toInt ∧ (g1 39 k).toInt ≤ 11) ∧ (g2 49 (2 * k)).toInt = 12 * (g1 38 k).toInt + (g1 39 k).toInt)) ∧ g1 40 k = g2 49 (2 * k + 1)
    rw [x2 0 k (by decide) (by omega), x2 1 k (by decide) (by omega), x2 2 k (by decide) (by omega), y2 (2 * k) (by omega), y2 (2 * k + 1) (by omega)]
    exact z
  · rw [y6] at hk
    have z := d2.2.2.2 k hk
    show g1 41 k = g2 50 (2 * k) ∧ g1 42 k = g2 50 (2 * k + 1)
    rw [x3 0 k (by decide) (by omega), x3 1 k (by decide) (by omega), y3 (2 * k) (by omega), y3 (2 * k + 1) (by omega)]
    exact z
theorem cd_restore {fu : Nat} (hfu : 1180591620717411303424 ≤ fu) {g gm g1 g2 : gT} {L Lm L1 L2 : lT} {rx rm : Int32} (hp : CP g gm) (h : CD g gm) (e1 : fX11_restore_0 fu g L = some (rx, (g1, L1))) (e2 : fX12_restore fu gm Lm = some (rm, (g2, L2))) : CD g1 g2 := by
  have hI := hp.2.1
  have r1 := hI 0 1 0 12 rfl
  have h6 := hp.2.2.2.2.2.1
  have f1 : FW _ _ g g1 := w_fX11_restore_0 _ _ _ _ FW.refl _ _ e1
  have f2 : FW _ _ gm g2 := w_fX12_restore _ _ _ _ FW.refl _ _ e2
  unfold fX11_restore_0 at e1
  unfold fX12_restore at e2
  have e2 : (if gm 0 81 = 0 then _ else _) = some (rm, (g2, L2)) := e2
  by_cases c : gm 0 81 = 0
  · rw [h6, if_pos c, ckb0] at e1
    rw [if_pos c, ckb0] at e2
    cases e1; cases e2
    exact cd_00 hI h (fun k j hh => u00 hh)
  rw [h6, if_neg c] at e1
  rw [if_neg c] at e2
  have X : (∀ m i, m < 4 → i < 12 → g1 (25 + m) i = g (34 + m) i) ∧ (∀ m k, m < 3 → k < 40 → g1 (29 + m) k = g (38 + m) k) ∧ (∀ m k, m < 2 → k < 8 → g1 (32 + m) k = g (41 + m) k) ∧ g1 6 11 = g 7 11 := by
    obtain ⟨x, ga, La, ea, e⟩ := cb_some e1
    rw [ckb1] at e
    cases e
    have ea : some _ = some (x, (g1, L1)) := ea
    cases ea
    refine ⟨fun m i hm hi => ?_, fun m k hm hk => ?_, fun m k hm hk => ?_, rfl⟩
    · rcases (by omega : m = 0 ∨ m = 1 ∨ m = 2 ∨ m = 3) with rfl | rfl | rfl | rfl <;> exact cpy_0 (N := 12) rfl hi
    · rcases (by omega : m = 0 ∨ m = 1 ∨ m = 2) with rfl | rfl | rfl <;> exact cpy_0 (N := 40) rfl hk
    · rcases (by omega : m = 0 ∨ m = 1) with rfl | rfl <;> exact cpy_0 (N := 8) rfl hk
  have Y : (∀ j, j < 48 → g2 12 j = gm 48 j) ∧ (∀ j, j < 80 → g2 36 j = gm 49 j) ∧ (∀ j, j < 16 → g2 43 j = gm 50 j) ∧ g2 0 52 = gm 0 82 ∧ g2 0 62 = gm 0 83 ∧ g2 0 73 = gm 0 84 := by
    unfold sti at e2
    obtain ⟨x, ga, La, ea, e⟩ := cb_some e2
    obtain ⟨x', gb, Lb, eb, e⟩ := cb_some e
    obtain ⟨x'', gc, Lc, ec, e⟩ := cb_some e
    rw [ckb1] at e
    cases e
    have ha := pc_ex (uX12_copies_48_12 fu hfu _ Lm) _ _ _ ea
    have hb := pc_ex (uX12_copies_49_36 fu hfu ga La) _ _ _ eb
    have hc := pc_ex (uX12_copies_50_43 fu hfu gb Lb) _ _ _ ec
    refine ⟨fun j hj => ?_, fun j hj => ?_, fun j hj => ?_, ?_, ?_, ?_⟩
    · rw [hc, cpd_ne (by decide), hb, cpd_ne (by decide), ha, cpd_at hj]; rfl
    · rw [hc, cpd_ne (by decide), hb, cpd_at hj, ha, cpd_ne (by decide)]; rfl
    · rw [hc, cpd_at hj, hb, cpd_ne (by decide), ha, cpd_ne (by decide)]; rfl
    · rw [hc, cpd_ne (by decide), hb, cpd_ne (by decide), ha, cpd_ne (by decide)]; rfl
    · rw [hc, cpd_ne (by decide), hb, cpd_ne (by decide), ha, cpd_ne (by decide)]; rfl
    · rw [hc, cpd_ne (by decide), hb, cpd_ne (by decide), ha, cpd_ne (by decide)]; rfl
  have r83 := hI 0 83 0 40 rfl
  have r84 := hI 0 84 0 8 rfl
  obtain ⟨x1, x2, x3, x4⟩ := X
  obtain ⟨y1, y2, y3, y4, y5, y6⟩ := Y
  have d3 := h.2.2.1 c
  refine cd_held hI h f1 f2 (by decide) (by decide) ⟨fun i hi => ?_, ?_, fun k hk => ?_, fun k hk => ?_⟩
  · rw [f2 0 1 (by decide) (by decide)] at hi
    obtain ⟨z1, z2, z3, z4⟩ := d3.1 i hi
    refine ⟨?_, ?_, ?_, ?_⟩
    · rw [x1 0 i (by decide) (by omega), y1 i (by omega)]; exact z1
    · rw [x1 1 i (by decide) (by omega), y1 (12 + i) (by omega)]; exact z2
    · rw [x1 2 i (by decide) (by omega), y1 (24 + i) (by omega)]; exact z3
    · rw [x1 3 i (by decide) (by omega), y1 (36 + i) (by omega)]; exact z4
  · rw [x4, y4]; exact d3.2.1
  · rw [y5] at hk
    have z := d3.2.2.1 k hk
    show (((g1 29 k).toInt = 4 ∧ (g2 36 (2 * k)).toInt = 48) ∨ ((0 ≤ (g1 29 k).toInt ∧ (g1 29 k).toInt ≤ 3) ∧ (0 ≤ (g1 30 k).toInt ∧ (g1 30 k).toInt ≤ 11) ∧ (g2 36 (2 * k)).toInt = 12 * (g1 29 k).toInt + (g1 30 k).toInt)) ∧ g1 31 k = g2 36 (2 * k + 1)
    rw [x2 0 k (by decide) (by omega), x2 1 k (by decide) (by omega), x2 2 k (by decide) (by omega), y2 (2 * k) (by omega), y2 (2 * k + 1) (by omega)]
    exact z
  · rw [y6] at hk
    have z := d3.2.2.2 k hk
    show g1 32 k = g2 43 (2 * k) ∧ g1 33 k = g2 43 (2 * k + 1)
    rw [x3 0 k (by decide) (by omega), x3 1 k (by decide) (by omega), y3 (2 * k) (by omega), y3 (2 * k + 1) (by omega)]
    exact z
end
section
/-! ===== lesson answers alike ===== -/
theorem waits_m {fu : Nat} {p1 : Int32} {g : gT} {L : lT} (h1 : 0 ≤ p1.toInt) (h2 : p1.toInt < 12) (hr : 0 ≤ (g 8 p1.toInt.toNat).toInt ∧ (g 8 p1.toInt.toNat).toInt ≤ 6) : Pc (fX12_waitsSet fu p1 g L) (fun x g1 _ => g1 = g ∧ x = wSn g p1.toInt.toNat (g 8 p1.toInt.toNat).toInt.toNat) := by
  unfold fX12_waitsSet fX12_waitsSet_l4
  have eN : p1.toNatClampNeg = p1.toInt.toNat := by rw [nc]
  refine pc_loop (fun v => (0 ≤ v.2.1.toInt ∧ v.2.1.toInt ≤ (g 8 p1.toInt.toNat).toInt) ∧ v.2.2.1 = g ∧ v.1 = wSn g p1.toInt.toNat v.2.1.toInt.toNat) (fun k hk v hv => ?_) ⟨(show 0 ≤ (0 : Int32).toInt ∧ (0 : Int32).toInt ≤ (g 8 p1.toInt.toNat).toInt from ⟨by decide, hr.1⟩), rfl, rfl⟩
  obtain ⟨v2, v3, g', L'⟩ := v
  obtain ⟨hb, e, hw⟩ := hv
  replace hb : 0 ≤ v3.toInt ∧ v3.toInt ≤ (g 8 p1.toInt.toNat).toInt := hb
  replace e : g' = g := e
  replace hw : v2 = wSn g p1.toInt.toNat v3.toInt.toNat := hw
  subst e
  show Pc (fX12_waitsSet_s4 fu p1 k v2 v3 g' L') _
  unfold fX12_waitsSet_s4
  rw [eN]
  refine pc_ck (fun _ _ => pc_ite (fun c => pc_some ⟨rfl, ?_⟩) (fun c => pc_ck (fun _ _ => pc_lti (fun x ex => hk _ ?_))))
  · have c := icc_le (m := (g' 8 p1.toInt.toNat).toInt) (n := v3.toInt) rfl rfl c
    rw [hw, show v3.toInt.toNat = (g' 8 p1.toInt.toNat).toInt.toNat by omega]
  · have c := icc_nle (m := (g' 8 p1.toInt.toNat).toInt) (n := v3.toInt) rfl rfl c
    have ew : (v3 + 1).toInt = v3.toInt + 1 := ic_addc rfl (by decide) (by omega) (by omega)
    have e6 : (6 * p1).toInt = 6 * p1.toInt := ic_mulc (by decide) rfl (by omega) (by omega)
    have e7 : (6 * p1 + v3).toInt = 6 * p1.toInt + v3.toInt := ic_addc e6 rfl (by omega) (by omega)
    have e8 : (6 * p1 + v3).toNatClampNeg = 6 * p1.toInt.toNat + v3.toInt.toNat := by rw [nc, e7]; omega
    rw [e8] at ex
    refine ⟨(show 0 ≤ (v3 + 1).toInt ∧ (v3 + 1).toInt ≤ (g' 8 p1.toInt.toNat).toInt by omega), rfl, ?_⟩
    show x = wSn g' p1.toInt.toNat (v3 + 1).toInt.toNat
    rw [ew, show (v3.toInt + 1).toNat = v3.toInt.toNat + 1 by omega, ex, hw]
    rfl
theorem cd_lesson {fu : Nat} {p1 p2 : Int32} {g gm g1 g2 : gT} {L Lm L1 L2 : lT} {rx : Except String Int32} {rm : Int32} (hp : CP g gm) (h : CD g gm) (e1 : fX11_lesson_0 fu p1 p2 g L = some (rx, (g1, L1))) (e2 : fX12_lesson fu p1 p2 gm Lm = some (rm, (g2, L2))) : (rx = .ok rm ∧ g2 0 0 = 0) ∨ (rx = .error NSE ∧ g2 0 0 = 1) := by
  have hI := hp.2.1
  obtain ⟨k1, k2, k3, k4, -⟩ := hp.2.2.2.2.2.2.1
  have r1 := hI 0 1 0 12 rfl
  have a0 : upd2 gm 0 0 0 0 0 = 0 := upd2_at
  have a1 : upd2 gm 0 0 0 0 1 = gm 0 1 := rfl
  unfold fX11_lesson_0 at e1
  unfold fX12_lesson fX12_lesson_p23 at e2
  unfold sti at e2
  have e2 : cb (fX12_isLesson fu p1 (upd2 gm 0 0 0) Lm) _ = some (rm, (g2, L2)) := e2
  by_cases c1 : isL (gm 0 1) p1
  rotate_left
  · rw [xneed0 (by rw [k1]; exact c1)] at e1
    have e1 : some (.error NSE, (g, L)) = some (rx, (g1, L1)) := e1
    rw [lesson0 a0 (by rw [a1]; exact c1)] at e2
    have e2 : some ((0 : Int32), (upd2 (upd2 gm 0 0 0) 0 0 1, Lm)) = some (rm, (g2, L2)) := e2
    cases e1; cases e2
    exact Or.inr ⟨rfl, upd2_at⟩
  rw [xneed1 (by rw [k1]; exact c1), cbxs] at e1
  rw [lesson1 a0 (by rw [a1]; exact c1), cbs, if_neg (by decide)] at e2
  have i11 : (11 : Int32).toInt = 11 := rfl
  have i12 : (12 : Int32).toInt = 12 := rfl
  by_cases c2 : 0 ≤ p2.toInt ∧ p2.toInt ≤ (11 : Int32).toInt
  rotate_left
  · rw [xwhat0 (fun hh => c2 (by omega))] at e1
    have e1 : some (.error NSE, (g, L)) = some (rx, (g1, L1)) := e1
    rw [what0 a0 c2] at e2
    have e2 : some ((0 : Int32), (upd2 (upd2 gm 0 0 0) 0 0 1, Lm)) = some (rm, (g2, L2)) := e2
    cases e1; cases e2
    exact Or.inr ⟨rfl, upd2_at⟩
  rw [xwhat1 c2.1 (by omega), cbxs] at e1
  rw [what1 a0 c2.1 c2.2, cbs, if_neg (by decide)] at e2
  have hl := l12 c1 (by omega)
  have eN : p1.toNatClampNeg = p1.toInt.toNat := by rw [nc]
  generalize hi : p1.toInt.toNat = i at *
  have hi12 : i < 12 := by omega
  have hin : (i : Int) < (gm 0 1).toInt := by have := c1.2; omega
  obtain ⟨⟨l1, l2, l3, l4⟩, ⟨l5, l6, l7, l8⟩, l9, -⟩ := h.1.1 i hin
  obtain ⟨h1, h2, h3, h4⟩ := h.2.1.1 i hin
  have pk : ∀ (c : Int32) (C : Nat), c.toInt = (C : Int) → C ≤ 36 → (c + p1).toNatClampNeg = C + i := by
    intro c C hc hC
    rw [nc, ic_addc hc rfl (by omega) (by omega)]; omega
  have p0 := pk 0 0 rfl (by decide)
  have p12 := pk 12 12 rfl (by decide)
  have p24 := pk 24 24 rfl (by decide)
  have p36 := pk 36 36 rfl (by decide)
  rw [show 0 + i = i by omega] at p0
  have nk : ∀ k j, k ≠ 0 → upd2 gm 0 0 0 k j = gm k j := fun k j hk => upd2_nk hk
  unfold ltn at e1
  have em : i % 12 = i := by omega
  rw [eN, em, ck_eq (by omega) (by omega)] at e1
  rw [eN, p0, p12, p24, p36] at e2
  have done : ∀ {x y : Int32} {La Lb : lT}, some ((.ok x : Except String Int32), ((g, La) : zS)) = some (rx, (g1, L1)) → some (y, ((upd2 gm 0 0 0, Lb) : zS)) = some (rm, (g2, L2)) → x = y → (rx = .ok rm ∧ g2 0 0 = 0) ∨ (rx = .error NSE ∧ g2 0 0 = 1) := by
    intro x y La Lb u v w
    cases u; cases v
    exact Or.inl ⟨by rw [w], upd2_at⟩
  have ckx : ∀ {K : Option (Except String Int32 × zS)} {N : Nat}, 12 ≤ N → ck p1 N K = K := fun hN => ck_eq (by omega) (by omega)
  have ckm : ∀ {K : Option (Int32 × zS)} {N : Nat}, 12 ≤ N → ck p1 N K = K := fun hN => ck_eq (by omega) (by omega)
  have ckp : ∀ {K : Option (Int32 × zS)} {c : Int32} {C : Nat}, c.toInt = (C : Int) → C ≤ 36 → ck (c + p1) 48 K = K := fun hc hC => by
    have e := ic_addc (x := _) (y := p1) hc rfl (by omega) (by omega)
    exact ck_eq (by omega) (by omega)
  rcases (by omega : p2.toInt = 0 ∨ p2.toInt = 1 ∨ p2.toInt = 2 ∨ p2.toInt = 3 ∨ p2.toInt = 4 ∨ p2.toInt = 5 ∨ p2.toInt = 6 ∨ p2.toInt = 7 ∨ p2.toInt = 8 ∨ p2.toInt = 9 ∨ p2.toInt = 10 ∨ p2.toInt = 11) with q | q | q | q | q | q | q | q | q | q | q | q
  all_goals simp only [q, reduceIte, Int.reduceEq] at e1 e2
  · rw [ckm (by decide)] at e2
    exact done e1 e2 (by rw [nk 1 i (by decide)]; exact l1)
  · rw [ckm (by decide)] at e2
    exact done e1 e2 (by rw [nk 2 i (by decide)]; exact l2)
  · rw [ckm (by decide)] at e2
    exact done e1 e2 (by rw [nk 3 i (by decide)]; exact l3)
  · rw [ckx (by decide)] at e1
    rw [ckp (C := 0) rfl (by decide)] at e2
    exact done e1 e2 (by rw [nk 12 i (by decide)]; exact h1)
  · rw [ckx (by decide)] at e1
    rw [ckp (C := 24) rfl (by decide)] at e2
    exact done e1 e2 (by rw [nk 12 _ (by decide)]; exact h3)
  · rw [ckm (by decide)] at e2
    exact done e1 e2 (by rw [nk 4 i (by decide)]; exact l4)
  · rw [ckm (by decide)] at e2
    exact done e1 e2 (by rw [nk 5 i (by decide)]; exact l5)
  · rw [ckm (by decide)] at e2
    exact done e1 e2 (by rw [nk 6 i (by decide)]; exact l6)
  · have r8 := hI 8 i 0 6 rfl
    obtain ⟨x, ga, La, ea, e⟩ := cb_some e2
    obtain ⟨hg, hx⟩ := waits_m (fu := fu) (p1 := p1) (g := upd2 gm 0 0 0) (L := Lm) hl.1 hl.2 (by rw [hi, nk 8 i (by decide)]; exact r8) _ _ _ ea
    subst hg
    rw [hi, nk 8 i (by decide), wSn_c (gm := gm) (funext fun j => nk 9 j (by decide))] at hx
    exact done e1 e (l9.trans hx.symm)
  · rw [ckx (by decide)] at e1
    rw [ckp (C := 36) rfl (by decide)] at e2
    exact done e1 e2 (by rw [nk 12 _ (by decide)]; exact h4)
  · rw [ckm (by decide)] at e2
    exact done e1 e2 (by rw [nk 7 i (by decide)]; exact l7)
  · rw [ckx (by decide)] at e1
    rw [ckp (C := 12) rfl (by decide)] at e2
    exact done e1 e2 (by rw [nk 12 _ (by decide)]; exact h2)
/-- class and reference, side by side: counts and data -/
def CQ (g gm : gT) : Prop := CP g gm ∧ CD g gm
end
section
/-! ===== rules, reckoned ===== -/
def vj (x : Int) (a b : Int32) : Int32 := if x = -13 then (if a = 0 then 0 else if b = 0 then 0 else 1) else if x = -12 then (if a = b then 1 else 0) else if x = -11 then (if b ≤ a then 0 else 1) else if x = -10 then (if b = 0 then 0 else a / b) else if x = -9 then a * b else if x = -8 then a - b else if x = -7 then a + b else if a = 0 then (if b = 0 then 0 else 1) else 1
/-- what a code leaves at the bottom, from a pile s of height h -/
def ev (t : Nat → Int32) : List Int → Nat → (Nat → Int32) → Int32
  | [], _, s => s 0
  | x :: c, h, s => if -6 ≤ x then ev t c (h + 1) (upd s h (if x < 0 then t (-1 - x).toNat else Int32.ofInt x)) else if x = -15 then ev t c h (upd s (h - 1) (if s (h - 1) = 0 then 1 else 0)) else ev t c (h - 1) (upd s (h - 2) (vj x (s (h - 2)) (s (h - 1))))
theorem ev_p {t s : Nat → Int32} {x : Int} {c : List Int} {h : Nat} (a : -6 ≤ x) : ev t (x :: c) h s = ev t c (h + 1) (upd s h (if x < 0 then t (-1 - x).toNat else Int32.ofInt x)) := by
  show (if -6 ≤ x then _ else _) = _
  rw [if_pos a]
theorem ev_n {t s : Nat → Int32} {x : Int} {c : List Int} {h : Nat} (a : x = -15) : ev t (x :: c) h s = ev t c h (upd s (h - 1) (if s (h - 1) = 0 then 1 else 0)) := by
  show (if -6 ≤ x then _ else if x = -15 then _ else _) = _
  rw [if_neg (by omega), if_pos a]
theorem ev_o {t s : Nat → Int32} {x : Int} {c : List Int} {h : Nat} (a : x ≤ -7) (b : x ≠ -15) : ev t (x :: c) h s = ev t c (h - 1) (upd s (h - 2) (vj x (s (h - 2)) (s (h - 1)))) := by
  show (if -6 ≤ x then _ else if x = -15 then _ else _) = _
  rw [if_neg (by omega), if_neg b]
theorem ev_c {t : Nat → Int32} : ∀ {c : List Int} {h : Nat} {s s' : Nat → Int32}, rp c h 1 → (∀ i, i < h → s i = s' i) → ev t c h s = ev t c h s' := by
  intro c
  induction c with
  | nil =>
    intro h s s' hr he
    have hr : h = 1 := hr
    exact he 0 (by omega)
  | cons x c ih =>
    intro h s s' hr he
    have up : ∀ (k : Nat) (v : Int32) (n : Nat), n ≤ h + 1 → (n = h + 1 → k = h) → ∀ i, i < n → upd s k v i = upd s' k v i := by
      intro k v n hn hk i hi
      by_cases e : i = k
      · rw [e, upd_at, upd_at]
      · rw [upd_ne e, upd_ne e]
        refine he i ?_
        by_cases c : n = h + 1
        · have := hk c; omega
        · omega
    rcases hr with ⟨-, a, -, r⟩ | ⟨a, b, r⟩ | ⟨a, b, r⟩
    · rw [ev_p a, ev_p a]
      exact ih r (up h _ _ (by omega) (fun _ => rfl))
    · rw [ev_n a, ev_n a, he (h - 1) (by omega)]
      exact ih r (up _ _ _ (by omega) (fun e => by omega))
    · rw [ev_o a.2 (by omega), ev_o a.2 (by omega), he (h - 1) (by omega), he (h - 2) (by omega)]
      exact ih r (up _ _ _ (by omega) (fun e => by omega))
def At (f : Nat → Int32) : Nat → List Int → Prop
  | _, [] => True
  | q, x :: l => (f q).toInt = x ∧ At f (q + 1) l
theorem At_i {f : Nat → Int32} : ∀ {l : List Int} {q : Nat}, (∀ i (hi : i < l.length), (f (q + i)).toInt = l[i]) → At f q l := by
  intro l
  induction l with
  | nil => intro q _; trivial
  | cons x l ih =>
    intro q h
    refine ⟨h 0 (by simp), ih (fun i hi => ?_)⟩
    have e := h (i + 1) (by simp; omega)
    rw [show q + 1 + i = q + (i + 1) by omega, e]; rfl
theorem At_d {f : Nat → Int32} {l : List Int} {q : Nat} (h : ∀ i, i < l.length → (f (q + i)).toInt = l.getD i 0) : At f q l := At_i (fun i hi => by rw [h i hi, List.getD_eq_getElem?_getD, List.getElem?_eq_getElem hi]; rfl)
theorem jo_x {fu : Nat} {p1 p2 p3 : Int32} {g : gT} {L : lT} : Pc (fX8_joined fu p1 p2 p3 g L) (fun x g1 _ => g1 = g ∧ x = vj p1.toInt p2 p3) := by
  unfold fX8_joined fX8_joined_p102 fX8_joined_p103 fX8_joined_p89 fX8_joined_p78 fX8_joined_p67 fX8_joined_p112 fX8_joined_p117
  repeat' first
    | exact pc_cnz (pc_some ⟨rfl, by simp [vj, *]⟩)
    | exact pc_some ⟨rfl, by simp [vj, *]⟩
    | refine pc_ite (fun _ => ?_) (fun _ => ?_)
theorem io_i {x : Int32} : Int32.ofInt x.toInt = x := Int32.ofInt_toInt x
theorem va_x {fu : Nat} {p1 : Int32} {g : gT} {L : lT} {cs : List Int} {o r : Nat} (h0 : p1.toInt = (r : Int)) (h1 : (r : Int) < (g 3 3).toInt) (ho : (g 20 r).toInt = (o : Int)) (hn : (g 20 (r + 1)).toInt = (o : Int) + (cs.length : Int)) (hA : At (g 19) o cs) (hr : rp cs 0 1) : Pc (fX8_value_3_48 fu p1 g L) (fun x _ _ => x = ev (g 48) cs 0 (g 21)) := by
  have eN : p1.toNatClampNeg = r := by rw [nc, h0]; omega
  unfold fX8_value_3_48
  refine pc_ite (fun c => ?_) (fun _ => pc_ite (fun _ => pc_ck (fun _ b5 => pc_lti (fun x3 e3 => ?_))) (fun c => ?_))
  · have c := icc_lt h0 (n := 0) rfl c
    omega
  rotate_left
  · have c := icc_nlt h0 (n := (g 3 3).toInt) rfl c
    omega
  rw [eN] at e3
  have e1 : (p1 + 1).toNatClampNeg = r + 1 := by rw [nc, ic_addc h0 (n := 1) rfl (by omega) (by omega)]; omega
  unfold fX8_value_3_48_l24
  refine pc_loop (fun v => ∃ (c : List Int) (h q : Nat), (v.2.2.1 20 = g 20 ∧ v.2.2.1 19 = g 19 ∧ v.2.2.1 48 = g 48) ∧ At (g 19) q c ∧ v.2.1.toInt = (q : Int) ∧ (q : Int) + (c.length : Int) = (o : Int) + (cs.length : Int) ∧ v.1.toInt = (h : Int) ∧ rp c h 1 ∧ ev (g 48) c h (v.2.2.1 21) = ev (g 48) cs 0 (g 21)) (fun k hk v hv => ?_) ⟨cs, 0, o, ⟨rfl, rfl, rfl⟩, hA, by rw [e3]; exact ho, rfl, rfl, hr, rfl⟩
  obtain ⟨v3, v4, g', L'⟩ := v
  obtain ⟨c, h, q, ⟨y1, y2, y3⟩, hA, hq, hl, hh, hr, he⟩ := hv
  replace y1 : g' 20 = g 20 := y1
  replace y2 : g' 19 = g 19 := y2
  replace y3 : g' 48 = g 48 := y3
  replace hq : v4.toInt = (q : Int) := hq
  replace hh : v3.toInt = (h : Int) := hh
  replace he : ev (g 48) c h (g' 21) = ev (g 48) cs 0 (g 21) := he
  show Pc (fX8_value_3_48_s24 fu p1 k v3 v4 g' L') _
  unfold fX8_value_3_48_s24
  rw [e1, y1]
  have i15 : (-15 : Int32).toInt = -15 := rfl
  have i6 : (-6 : Int32).toInt = -6 := rfl
  have rg := ic_rg v3
  refine pc_ck (fun _ _ => pc_ite (fun cc => ?_) (fun cc => ?_))
  · have cc := icc_le hn hq cc
    cases c with
    | cons x c => rw [List.length_cons] at hl; omega
    | nil =>
      have hr : h = 1 := hr
      refine pc_ite (fun _ => pc_ck (fun _ _ => pc_some he)) (fun c1 => ?_)
      have c1 := icc_neq hh (n := 1) rfl c1
      omega
  have cc := icc_nle hn hq cc
  cases c with
  | nil => rw [List.length_nil] at hl; omega
  | cons x c =>
    rw [List.length_cons] at hl
    obtain ⟨hx, hA⟩ := hA
    refine pc_ck (fun b0 b1 => pc_lti (fun x6 e6 => ?_))
    have eq : v4.toNatClampNeg = q := by rw [nc, hq]; omega
    rw [eq, y2] at e6
    have hx : x6.toInt = x := by rw [e6]; exact hx
    have e4 : (v4 + 1).toInt = ((q + 1 : Nat) : Int) := by rw [ic_addc hq (n := 1) rfl (by omega) (by omega)]; omega
    have nx : ∀ (g1 : gT) (L1 : lT) (w : Int32) (h' j : Nat) (z : Int32), w.toInt = (h' : Int) → g1 = upd2 g' 21 j z → rp c h' 1 → ev (g 48) c h' (upd (g' 21) j z) = ev (g 48) cs 0 (g 21) → Pc (k (w, (v4 + 1), g1, L1)) (fun x _ _ => x = ev (g 48) cs 0 (g 21)) := by
      intro g1 L1 w h' j z hw eg hr' hv
      refine hk _ ⟨c, h', q + 1, ⟨?_, ?_, ?_⟩, hA, e4, ?_, hw, hr', ?_⟩
      · show g1 20 = g 20
        rw [eg, ← y1]; exact funext fun _ => upd2_nk (by decide)
      · show g1 19 = g 19
        rw [eg, ← y2]; exact funext fun _ => upd2_nk (by decide)
      · show g1 48 = g 48
        rw [eg, ← y3]; exact funext fun _ => upd2_nk (by decide)
      · omega
      · show ev (g 48) c h' (g1 21) = _
        rw [eg, upd2_k]; exact hv
    unfold fX8_value_3_48_p126 fX8_value_3_48_p82 fX8_value_3_48_p167
    refine pc_ite (fun c1 => ?_) (fun c1 => ?_)
    · have c1 := icc_lt hx i6 c1
      refine pc_ite (fun c2 => ?_) (fun c2 => ?_)
      · have c2 := icc_eq hx i15 c2
        rcases hr with ⟨-, a, -, r⟩ | ⟨-, b, r⟩ | ⟨a, b, r⟩
        · omega
        rotate_left
        · omega
        have ej : (v3 - 1).toNatClampNeg = h - 1 := by rw [nc, ic_subc hh (n := 1) rfl (by omega) (by omega)]; omega
        rw [ev_n c2] at he
        rw [ej]
        refine pc_ite (fun _ => pc_ck (fun _ _ => pc_ite (fun c3 => ?_) (fun c3 => ?_))) (fun c3 => ?_)
        · rw [if_pos c3] at he
          exact pc_ck (fun _ _ => pc_st (fun g1 eg => nx g1 L' v3 h (h - 1) 1 hh (by rw [eg]) r he))
        · rw [if_neg c3] at he
          exact pc_ck (fun _ _ => pc_st (fun g1 eg => nx g1 L' v3 h (h - 1) 0 hh (by rw [eg]) r he))
        · have c3 := icc_nle (m := 1) rfl hh c3
          omega
      · have c2 := icc_neq hx i15 c2
        rcases hr with ⟨-, a, -, r⟩ | ⟨a, b, r⟩ | ⟨a, b, r⟩
        · omega
        · omega
        have ew : (v3 + (-1)).toInt = ((h - 1 : Nat) : Int) := by rw [ic_addc hh (n := -1) rfl (by omega) (by omega)]; omega
        have ej : (v3 + (-1)).toNatClampNeg = h - 1 := by rw [nc, ew]; omega
        have ek : (v3 + (-1) - 1).toNatClampNeg = h - 2 := by rw [nc, ic_subc ew (n := 1) rfl (by omega) (by omega)]; omega
        rw [ev_o a.2 c2] at he
        rw [ej, ek]
        refine pc_ite (fun _ => pc_ck (fun _ _ => pc_ck (fun _ _ => pc_cb jo_x (fun x10 g11 L12 e => ?_)))) (fun c3 => ?_)
        · obtain ⟨e1, e2⟩ := e
          rw [hx] at e2
          rw [← e2] at he
          exact pc_ck (fun _ _ => pc_st (fun g1 eg => nx g1 L12 _ (h - 1) (h - 2) x10 ew (by rw [eg, e1]) r he))
        · have c3 := icc_nle (m := 2) rfl hh c3
          omega
    · have c1 := icc_nlt hx i6 c1
      rcases hr with ⟨-, a, d, r⟩ | ⟨a, b, r⟩ | ⟨a, b, r⟩
      rotate_left
      · omega
      · omega
      have ew : (v3 + 1).toInt = ((h + 1 : Nat) : Int) := by rw [ic_addc hh (n := 1) rfl (by omega) (by omega)]; omega
      have ej : v3.toNatClampNeg = h := by rw [nc, hh]; omega
      rw [ev_p a] at he
      rw [ej]
      refine pc_ite (fun _ => pc_ite (fun c3 => pc_ck (fun _ _ => ?_)) (fun c3 => ?_)) (fun c3 => ?_)
      · have c3 := icc_lt hx (n := 0) rfl c3
        have et : ((-1 : Int32) - x6).toNatClampNeg = (-1 - x).toNat := by rw [nc, ic_subc (m := -1) rfl hx (by omega) (by omega)]
        rw [if_pos c3] at he
        exact pc_ck (fun _ _ => pc_st (fun g1 eg => nx g1 L' _ (h + 1) h (g' 48 ((-1 : Int32) - x6).toNatClampNeg) ew (by rw [eg]) r (by rw [y3, et]; exact he)))
      · have c3 := icc_nlt hx (n := 0) rfl c3
        rw [if_neg (by omega), ← hx, io_i] at he
        exact pc_ck (fun _ _ => pc_st (fun g1 eg => nx g1 L' _ (h + 1) h x6 ew (by rw [eg]) r he))
      · have c3 := icc_nlt hh (n := 64) rfl c3
        omega
theorem wo_m {fu : Nat} {p1 p2 p3 : Int32} {g : gT} {L : lT} {x : Int} (h1 : -14 ≤ x) (h2 : x ≤ -7) (hp : en1 x = [p1.toInt]) : Pc (fX12_works fu p1 p2 p3 g L) (fun r g1 _ => g1 = g ∧ r = vj x p2 p3) := by
  unfold fX12_works fX12_works_p56 fX12_works_p57 fX12_works_p66 fX12_works_p71 fX12_works_p82 fX12_works_p93 fX12_works_p117
  rcases (by omega : x = -14 ∨ x = -13 ∨ x = -12 ∨ x = -11 ∨ x = -10 ∨ x = -9 ∨ x = -8 ∨ x = -7) with rfl | rfl | rfl | rfl | rfl | rfl | rfl | rfl
  · have hp : p1.toInt = 5 := by injection hp with hp; exact hp.symm
    rw [if_neg (by omega), if_pos hp]
    repeat' first
      | exact pc_cnz (pc_some ⟨rfl, by simp [vj, *]⟩)
      | exact pc_some ⟨rfl, by simp [vj, *]⟩
      | refine pc_ite (fun _ => ?_) (fun _ => ?_)
  · have hp : p1.toInt = 4 := by injection hp with hp; exact hp.symm
    rw [if_pos hp]
    repeat' first
      | exact pc_cnz (pc_some ⟨rfl, by simp [vj, *]⟩)
      | exact pc_some ⟨rfl, by simp [vj, *]⟩
      | refine pc_ite (fun _ => ?_) (fun _ => ?_)
  · have hp : p1.toInt = 7 := by injection hp with hp; exact hp.symm
    rw [if_neg (by omega), if_neg (by omega), if_neg (by omega), if_pos hp]
    repeat' first
      | exact pc_cnz (pc_some ⟨rfl, by simp [vj, *]⟩)
      | exact pc_some ⟨rfl, by simp [vj, *]⟩
      | refine pc_ite (fun _ => ?_) (fun _ => ?_)
  · have hp : p1.toInt = 6 := by injection hp with hp; exact hp.symm
    rw [if_neg (by omega), if_neg (by omega), if_pos hp]
    repeat' first
      | exact pc_cnz (pc_some ⟨rfl, by simp [vj, *]⟩)
      | exact pc_some ⟨rfl, by simp [vj, *]⟩
      | refine pc_ite (fun _ => ?_) (fun _ => ?_)
  · have hp : p1.toInt = 11 := by injection hp with hp; exact hp.symm
    rw [if_neg (by omega), if_neg (by omega), if_neg (by omega), if_neg (by omega), if_neg (by omega), if_neg (by omega), if_neg (by omega)]
    repeat' first
      | exact pc_cnz (pc_some ⟨rfl, by simp [vj, *]⟩)
      | exact pc_some ⟨rfl, by simp [vj, *]⟩
      | refine pc_ite (fun _ => ?_) (fun _ => ?_)
  · have hp : p1.toInt = 10 := by injection hp with hp; exact hp.symm
    rw [if_neg (by omega), if_neg (by omega), if_neg (by omega), if_neg (by omega), if_neg (by omega), if_neg (by omega), if_pos hp]
    repeat' first
      | exact pc_cnz (pc_some ⟨rfl, by simp [vj, *]⟩)
      | exact pc_some ⟨rfl, by simp [vj, *]⟩
      | refine pc_ite (fun _ => ?_) (fun _ => ?_)
  · have hp : p1.toInt = 9 := by injection hp with hp; exact hp.symm
    rw [if_neg (by omega), if_neg (by omega), if_neg (by omega), if_neg (by omega), if_neg (by omega), if_pos hp]
    repeat' first
      | exact pc_cnz (pc_some ⟨rfl, by simp [vj, *]⟩)
      | exact pc_some ⟨rfl, by simp [vj, *]⟩
      | refine pc_ite (fun _ => ?_) (fun _ => ?_)
  · have hp : p1.toInt = 8 := by injection hp with hp; exact hp.symm
    rw [if_neg (by omega), if_neg (by omega), if_neg (by omega), if_neg (by omega), if_pos hp]
    repeat' first
      | exact pc_cnz (pc_some ⟨rfl, by simp [vj, *]⟩)
      | exact pc_some ⟨rfl, by simp [vj, *]⟩
      | refine pc_ite (fun _ => ?_) (fun _ => ?_)
theorem re_m {fu : Nat} {p1 : Int32} {g : gT} {L : lT} {cs : List Int} {q : Nat} (h0 : p1.toInt = (q : Int)) (hA : At (g 11) q (enc cs ++ [0])) (hr : rp cs 0 1) : Pc (fX12_reckons fu p1 g L) (fun x _ _ => x = ev (g 29) cs 0 (g 30)) := by
  unfold fX12_reckons fX12_reckons_l4
  refine pc_loop (fun v => ∃ (c : List Int) (h q : Nat), (v.2.2.1 11 = g 11 ∧ v.2.2.1 29 = g 29) ∧ At (g 11) q (enc c ++ [0]) ∧ v.2.1.toInt = (q : Int) ∧ v.1.toInt = (h : Int) ∧ rp c h 1 ∧ ev (g 29) c h (v.2.2.1 30) = ev (g 29) cs 0 (g 30)) (fun k hk v hv => ?_) ⟨cs, 0, q, ⟨rfl, rfl⟩, hA, h0, rfl, hr, rfl⟩
  obtain ⟨v2, v3, g', L'⟩ := v
  obtain ⟨c, h, q, ⟨y1, y2⟩, hA, hq, hh, hr, he⟩ := hv
  replace y1 : g' 11 = g 11 := y1
  replace y2 : g' 29 = g 29 := y2
  replace hq : v3.toInt = (q : Int) := hq
  replace hh : v2.toInt = (h : Int) := hh
  replace he : ev (g 29) c h (g' 30) = ev (g 29) cs 0 (g 30) := he
  have rg := ic_rg v2
  show Pc (fX12_reckons_s4 fu k v2 v3 g' L') _
  unfold fX12_reckons_s4
  have eq : v3.toNatClampNeg = q := by rw [nc, hq]; omega
  refine pc_ck (fun b0 b1 => ?_)
  rw [eq, y1]
  have e4 : (v3 + 1).toInt = ((q + 1 : Nat) : Int) := by rw [ic_addc hq (n := 1) rfl (by omega) (by omega)]; omega
  have nx : ∀ (c' : List Int) (g1 : gT) (L1 : lT) (w u : Int32) (h' q' j : Nat) (z : Int32), At (g 11) q' (enc c' ++ [0]) → u.toInt = (q' : Int) → w.toInt = (h' : Int) → g1 = upd2 g' 30 j z → rp c' h' 1 → ev (g 29) c' h' (upd (g' 30) j z) = ev (g 29) cs 0 (g 30) → Pc (k (w, u, g1, L1)) (fun x _ _ => x = ev (g 29) cs 0 (g 30)) := by
    intro c' g1 L1 w u h' q' j z hA' hu hw eg hr' hv
    refine hk _ ⟨c', h', q', ⟨?_, ?_⟩, hA', hu, hw, hr', ?_⟩
    · show g1 11 = g 11
      rw [eg, ← y1]; exact funext fun _ => upd2_nk (by decide)
    · show g1 29 = g 29
      rw [eg, ← y2]; exact funext fun _ => upd2_nk (by decide)
    · show ev (g 29) c' h' (g1 30) = _
      rw [eg, upd2_k]; exact hv
  cases c with
  | nil =>
    have hz : (g 11 q).toInt = 0 := hA.1
    have hr : h = 1 := hr
    refine pc_ite (fun _ => pc_ck (fun _ _ => pc_some he)) (fun c1 => absurd (ic_eq.mpr hz) c1)
  | cons x c =>
    have ee : enc (x :: c) ++ [0] = en1 x ++ (enc c ++ [0]) := by
      show (en1 x ++ enc c) ++ [0] = _
      rw [List.append_assoc]
    rw [ee] at hA
    have i1 : (1 : Int32).toInt = 1 := rfl
    have i2 : (2 : Int32).toInt = 2 := rfl
    have i3 : (3 : Int32).toInt = 3 := rfl
    unfold fX12_reckons_p36 fX12_reckons_p67 fX12_reckons_p106 fX12_reckons_p140
    rcases hr with ⟨-, a, d, r⟩ | ⟨a, b, r⟩ | ⟨a, b, r⟩
    · have ew : (v2 + 1).toInt = ((h + 1 : Nat) : Int) := by rw [ic_addc hh (n := 1) rfl (by omega) (by omega)]; omega
      have ej : v2.toNatClampNeg = h := by rw [nc, hh]; omega
      have e41 : (v3 + 1).toNatClampNeg = q + 1 := by rw [nc, e4]; omega
      have e5 : (v3 + 1 + 1).toInt = ((q + 2 : Nat) : Int) := by rw [ic_addc e4 (n := 1) rfl (by omega) (by omega)]; omega
      rw [ev_p a] at he
      rw [ej, e41, y1]
      by_cases c3 : 0 ≤ x
      · have e1 : en1 x = [1, x] := by unfold en1; rw [if_pos c3]
        rw [e1] at hA
        obtain ⟨a1, a2, a3⟩ := hA
        rw [if_neg (by omega)] at he
        have az : ¬ g 11 q = 0 := fun e => by rw [e] at a1; exact absurd a1 (by decide)
        rw [if_neg az]
        refine pc_ck (fun _ _ => pc_lti (fun x2 e2 => ?_))
        have a1 : x2 = 1 := by rw [e2]; exact ic_eq.mpr a1
        rw [if_pos a1, if_pos a1]
        refine pc_ck (fun _ _ => pc_ck (fun _ _ => pc_st (fun g1 eg => nx c g1 L' _ _ (h + 1) (q + 2) h (g 11 (q + 1)) a3 e5 ew (by rw [eg]) r ?_)))
        rw [← a2, io_i] at he; exact he
      · have e1 : en1 x = [2, -1 - x] := by unfold en1; rw [if_neg c3, if_pos a]
        rw [e1] at hA
        obtain ⟨a1, a2, a3⟩ := hA
        rw [if_pos (by omega), ← a2, ← y2] at he
        have az : ¬ g 11 q = 0 := fun e => by rw [e] at a1; exact absurd a1 (by decide)
        rw [if_neg az]
        refine pc_ck (fun _ _ => pc_lti (fun x2 e2 => ?_))
        have a1 : x2 = 2 := by rw [e2]; exact ic_eq.mpr a1
        have a1' : ¬ x2 = 1 := by rw [a1]; decide
        rw [if_neg a1', if_pos a1, if_neg a1']
        refine pc_ck (fun _ _ => pc_ck (fun _ _ => pc_ck (fun _ _ => pc_st (fun g1 eg => nx c g1 L' _ _ (h + 1) (q + 2) h (g' 29 (g 11 (q + 1)).toNatClampNeg) a3 e5 ew (by rw [eg]) r ?_))))
        rw [nc]
        exact (by rw [y2] at he ⊢; exact he)
    · have e1 : en1 x = [3] := by rw [a]; rfl
      rw [e1] at hA
      obtain ⟨a1, a2⟩ := hA
      have ej : (v2 - 1).toNatClampNeg = h - 1 := by rw [nc, ic_subc hh (n := 1) rfl (by omega) (by omega)]; omega
      rw [ev_n a] at he
      rw [ej]
      have az : ¬ g 11 q = 0 := fun e => by rw [e] at a1; exact absurd a1 (by decide)
      rw [if_neg az]
      refine pc_ck (fun _ _ => pc_lti (fun x2 e2 => ?_))
      have a1 : x2 = 3 := by rw [e2]; exact ic_eq.mpr a1
      rw [if_neg (by rw [a1]; decide), if_neg (by rw [a1]; decide), if_pos a1]
      refine pc_ck (fun _ _ => pc_ite (fun c3 => ?_) (fun c3 => ?_))
      · rw [if_pos c3] at he
        exact pc_ck (fun _ _ => pc_st (fun g1 eg => nx c g1 L' v2 _ h (q + 1) (h - 1) 1 a2 e4 hh (by rw [eg]) r he))
      · rw [if_neg c3] at he
        exact pc_ck (fun _ _ => pc_st (fun g1 eg => nx c g1 L' v2 _ h (q + 1) (h - 1) 0 a2 e4 hh (by rw [eg]) r he))
    · have hop : ∃ w : Int, en1 x = [w] ∧ 4 ≤ w ∧ w ≤ 11 := by
        rcases (by omega : x = -14 ∨ x = -13 ∨ x = -12 ∨ x = -11 ∨ x = -10 ∨ x = -9 ∨ x = -8 ∨ x = -7) with rfl | rfl | rfl | rfl | rfl | rfl | rfl | rfl <;> exact ⟨_, rfl, by decide, by decide⟩
      obtain ⟨w, e1, w1, w2⟩ := hop
      rw [e1] at hA
      obtain ⟨a1, a2⟩ := hA
      have ew : (v2 + (-1)).toInt = ((h - 1 : Nat) : Int) := by rw [ic_addc hh (n := -1) rfl (by omega) (by omega)]; omega
      have ej : (v2 + (-1)).toNatClampNeg = h - 1 := by rw [nc, ew]; omega
      have ek : (v2 + (-1) - 1).toNatClampNeg = h - 2 := by rw [nc, ic_subc ew (n := 1) rfl (by omega) (by omega)]; omega
      rw [ev_o a.2 (by omega)] at he
      rw [ej, ek]
      refine pc_ite (fun e => ?_) (fun _ => pc_ck (fun _ _ => pc_lti (fun x2 e2 => ?_)))
      · rw [e] at a1
        have a1 : (0 : Int) = w := a1
        omega
      have a1 : x2.toInt = w := by rw [e2]; exact a1
      refine pc_ite (fun e => ?_) (fun _ => pc_ite (fun e => ?_) (fun _ => pc_ite (fun e => ?_) (fun _ => ?_)))
      · rw [e] at a1; omega
      · rw [e] at a1; omega
      · rw [e] at a1; omega
      rw [← a1] at e1
      refine pc_ck (fun _ _ => pc_ck (fun _ _ => pc_cb (wo_m a.1 a.2 e1) (fun x10 g11 L12 e => ?_)))
      obtain ⟨u1, u2⟩ := e
      rw [← u2] at he
      exact pc_ck (fun _ _ => pc_st (fun g1 eg => nx c g1 L12 _ _ (h - 1) (q + 1) (h - 2) x10 a2 e4 ew (by rw [eg, u1]) r he))
end
section
/-! ===== what a day is ===== -/
/-- how many of the first n are at most v -/
def cn (c : Nat → Int) : Nat → Int → Nat
  | 0, _ => 0
  | n + 1, v => cn c n v + (if c n ≤ v then 1 else 0)
theorem cn_s {c : Nat → Int} {n : Nat} {v : Int} : cn c (n + 1) v = cn c n v + (if c n ≤ v then 1 else 0) := rfl
theorem cn_le {c : Nat → Int} {v : Int} : ∀ {n : Nat}, cn c n v ≤ n := by
  intro n
  induction n with
  | zero => exact Nat.le_refl _
  | succ n ih => rw [cn_s]; split <;> omega
theorem cn_c {c c' : Nat → Int} {v v' : Int} : ∀ {n : Nat}, (∀ k, k < n → (c k ≤ v ↔ c' k ≤ v')) → cn c n v = cn c' n v' := by
  intro n
  induction n with
  | zero => intro _; rfl
  | succ n ih =>
    intro h
    rw [cn_s, cn_s, ih (fun k hk => h k (by omega))]
    by_cases e : c n ≤ v
    · rw [if_pos e, if_pos ((h n (by omega)).mp e)]
    · rw [if_neg e, if_neg (fun e' => e ((h n (by omega)).mpr e'))]
theorem cn_all {c : Nat → Int} {v : Int} : ∀ {n : Nat}, (∀ k, k < n → c k ≤ v) → cn c n v = n := by
  intro n
  induction n with
  | zero => intro _; rfl
  | succ n ih => intro h; rw [cn_s, ih (fun k hk => h k (by omega)), if_pos (h n (by omega))]
theorem cn_mo {c : Nat → Int} {v w : Int} (hw : v ≤ w) : ∀ {n : Nat}, cn c n v ≤ cn c n w := by
  intro n
  induction n with
  | zero => exact Nat.le_refl _
  | succ n ih =>
    rw [cn_s, cn_s]
    by_cases e : c n ≤ v
    · rw [if_pos e, if_pos (by omega)]; omega
    · rw [if_neg e]; omega
theorem cn_max {c : Nat → Int} {w : Int} : ∀ {n : Nat}, 1 ≤ cn c n w → ∃ m, m < n ∧ c m ≤ w ∧ ∀ k, k < n → c k ≤ w → c k ≤ c m := by
  intro n
  induction n with
  | zero => intro h; exact absurd h (by show ¬ 1 ≤ 0; omega)
  | succ n ih =>
    intro h
    by_cases h1 : 1 ≤ cn c n w
    · obtain ⟨m, m1, m2, m3⟩ := ih h1
      by_cases e : c n ≤ w ∧ c m < c n
      · refine ⟨n, by omega, e.1, fun k hk hc => ?_⟩
        rcases (by omega : k < n ∨ k = n) with h | rfl
        · have := m3 k h hc; omega
        · omega
      · refine ⟨m, by omega, m2, fun k hk hc => ?_⟩
        rcases (by omega : k < n ∨ k = n) with h | rfl
        · exact m3 k h hc
        · omega
    · rw [cn_s] at h
      by_cases e : c n ≤ w
      · refine ⟨n, by omega, e, fun k hk hc => ?_⟩
        rcases (by omega : k < n ∨ k = n) with h' | rfl
        · exfalso
          have : ∀ {n : Nat}, k < n → 1 ≤ cn c n w := by
            intro n
            induction n with
            | zero => intro h; omega
            | succ n ih =>
              intro h
              rw [cn_s]
              rcases (by omega : k < n ∨ k = n) with h | rfl
              · have := ih h; omega
              · rw [if_pos hc]; omega
          exact h1 (this h')
        · omega
      · rw [if_neg e] at h
        omega
/-- the least by which k of n have come -/
def KTH (c : Nat → Int) (n k : Nat) (v : Int) : Prop := k ≤ cn c n v ∧ ∀ w, w < v → cn c n w < k
theorem kth_u {c : Nat → Int} {n k : Nat} {v v' : Int} (h : KTH c n k v) (h' : KTH c n k v') : v = v' := by
  rcases (by omega : v < v' ∨ v = v' ∨ v' < v) with e | e | e
  · have := h'.2 v e; have := h.1; omega
  · exact e
  · have := h.2 v' e; have := h'.1; omega
theorem kth_c {c c' : Nat → Int} {n k : Nat} {v : Int} (h : KTH c n k v) (e : ∀ i, i < n → c i = c' i) : KTH c' n k v := by
  refine ⟨?_, fun w hw => ?_⟩
  · rw [← cn_c (c := c) (v := v) (fun i hi => by rw [e i hi])]; exact h.1
  · rw [← cn_c (c := c) (v := w) (fun i hi => by rw [e i hi])]; exact h.2 w hw
def off (a b : Int32) : Int32 := if b ≤ a then a - b else b - a
def wy (d : gT) (j i : Nat) : Int32 := d 0 3 * off (d 12 (24 + j)) (d 12 (24 + i)) + (if (5 ≤ (d 12 (24 + j)).toInt ↔ 5 ≤ (d 12 (24 + i)).toInt) then 0 else (d 4 j + d 0 4 - 1) / d 0 4)
def wf0 (d : gT) (i k : Nat) : Nat := (d 9 (6 * i + k)).toInt.toNat
/-- when the k-th of those waited for comes -/
def cmg (d : gT) (en : Nat → Int32) (i k : Nat) : Int32 := en (wf0 d i k) + wy d (wf0 d i k) i - d 12 (12 + i)
def tl (d : gT) (b : Int32) (i : Nat) : Nat → Int32
  | 0 => d 12 i
  | 1 => b - d 1 i
  | 2 => b
  | 3 => d 12 (24 + i)
  | 4 => d 4 i
  | 5 => Int32.ofInt i
  | _ => 0
def clp (m v : Int32) : Int32 := if 0 ≤ v then (if v ≤ m then v else m) else 0
def stb (x : Int32) (i : Nat) : Int32 := (x >>> (Int32.ofInt i &&& 31)) &&& 1
/-- by how much it runs over -/
def ov (cs : Nat → List Int) (d : gT) (i : Nat) (b : Int32) : Int32 := if stb (d 0 60) i = 1 then 0 else clp (if d 0 61 = Int32.ofInt i then 180 else 60) (if d 0 52 = -1 then d 12 i else ev (tl d b i) (cs (d 0 52).toInt.toNat) 0 (fun _ => 0))
def FC (d : gT) (en : Nat → Int32) (i : Nat) (v y : Int32) : Prop := ∃ k, k < (d 8 i).toInt.toNat ∧ y = d 9 (6 * i + k) ∧ cmg d en i k = v ∧ ∀ m, m < k → cmg d en i m ≠ v
def LB (d : gT) (en : Nat → Int32) (i : Nat) (b y : Int32) : Prop :=
  ((d 5 i).toInt = 2 ∧ b = d 1 i ∧ y = -1) ∨
  ((d 5 i).toInt ≠ 2 ∧ ∃ v : Int32, KTH (fun k => (cmg d en i k).toInt) (d 8 i).toInt.toNat (if (d 5 i).toInt = 0 then d 8 i else d 6 i).toInt.toNat v.toInt ∧
    ((v.toInt ≤ (d 1 i).toInt ∧ b = d 1 i ∧ y = -1) ∨ ((d 1 i).toInt < v.toInt ∧ (d 1 i + d 12 (36 + i)).toInt < v.toInt ∧ b = d 1 i + d 12 (36 + i) ∧ y = -1) ∨ ((d 1 i).toInt < v.toInt ∧ v.toInt ≤ (d 1 i + d 12 (36 + i)).toInt ∧ b = v ∧ FC d en i v y)))
def LD (cs : Nat → List Int) (d : gT) (bg en ru by_ : Nat → Int32) (i : Nat) : Prop := LB d en i (bg i) (by_ i) ∧ ru i = ov cs d i (bg i) ∧ en i = (if d 2 i < bg i + d 3 i then bg i + d 3 i else d 2 i) + ru i
def DY (cs : Nat → List Int) (d : gT) (n : Nat) (bg en ru by_ : Nat → Int32) : Prop := ∀ i, i < n → LD cs d bg en ru by_ i
/-- who waits: for all, for so many, for none; for lessons ahead -/
def WF (n : Nat) (d : gT) : Prop := ∀ i, i < n → ((d 5 i).toInt = 2 → (d 8 i).toInt = 0) ∧ ((d 5 i).toInt ≠ 2 → 1 ≤ (d 8 i).toInt ∧ ((d 5 i).toInt = 0 ∨ ((d 5 i).toInt = 1 ∧ 1 ≤ (d 6 i).toInt ∧ (d 6 i).toInt ≤ (d 8 i).toInt))) ∧ (∀ k : Nat, (k : Int) < (d 8 i).toInt → 0 ≤ (d 9 (6 * i + k)).toInt ∧ (d 9 (6 * i + k)).toInt < (i : Int))
theorem cmg_c {d : gT} {en en' : Nat → Int32} {i k : Nat} (h : en (wf0 d i k) = en' (wf0 d i k)) : cmg d en i k = cmg d en' i k := by unfold cmg; rw [h]
theorem wf_lt {n i k : Nat} {d : gT} (h : WF n d) (hi : i < n) (hk : k < (d 8 i).toInt.toNat) : wf0 d i k < i := by
  have := (h i hi).2.2 k (by omega)
  unfold wf0; omega
theorem FC.c {d : gT} {en en' : Nat → Int32} {n i : Nat} {v y : Int32} (hW : WF n d) (hi : i < n) (h : FC d en i v y) (e : ∀ j, j < i → en j = en' j) : FC d en' i v y := by
  obtain ⟨k, k1, k2, k3, k4⟩ := h
  refine ⟨k, k1, k2, ?_, fun m hm => ?_⟩
  · rw [← cmg_c (e _ (wf_lt hW hi k1))]; exact k3
  · rw [← cmg_c (e _ (wf_lt hW hi (by omega)))]; exact k4 m hm
theorem LB.c {d : gT} {en en' : Nat → Int32} {n i : Nat} {b y : Int32} (hW : WF n d) (hi : i < n) (h : LB d en i b y) (e : ∀ j, j < i → en j = en' j) : LB d en' i b y := by
  rcases h with h | ⟨h1, v, h2, h3⟩
  · exact Or.inl h
  · refine Or.inr ⟨h1, v, kth_c h2 (fun k hk => by rw [cmg_c (e _ (wf_lt hW hi hk))]), ?_⟩
    rcases h3 with h3 | h3 | ⟨a, c, f, k⟩
    · exact Or.inl h3
    · exact Or.inr (Or.inl h3)
    · exact Or.inr (Or.inr ⟨a, c, f, k.c hW hi e⟩)
theorem LB.u {d : gT} {en : Nat → Int32} {n i : Nat} {b y b' y' : Int32} (hW : WF n d) (hi : i < n) (h : LB d en i b y) (h' : LB d en i b' y') : b = b' ∧ y = y' := by
  rcases h with ⟨h1, h2, h3⟩ | ⟨h1, v, h2, h3⟩
  · rcases h' with ⟨-, e2, e3⟩ | ⟨e1, -⟩
    · exact ⟨by rw [h2, e2], by rw [h3, e3]⟩
    · exact absurd h1 e1
  · rcases h' with ⟨e1, -⟩ | ⟨-, v', e2, e3⟩
    · exact absurd e1 h1
    · obtain rfl : v = v' := ic_eq.mpr (kth_u h2 e2)
      rcases h3 with ⟨a, c, f⟩ | ⟨a, c, f, k⟩ | ⟨a, c, f, k⟩
      · rcases e3 with ⟨a', c', f'⟩ | ⟨a', c', f', k'⟩ | ⟨a', c', f', k'⟩
        · exact ⟨by rw [c, c'], by rw [f, f']⟩
        · omega
        · omega
      · rcases e3 with ⟨a', c', f'⟩ | ⟨a', c', f', k'⟩ | ⟨a', c', f', k'⟩
        · omega
        · exact ⟨by rw [f, f'], by rw [k, k']⟩
        · omega
      · rcases e3 with ⟨a', c', f'⟩ | ⟨a', c', f', k'⟩ | ⟨a', c', f', k'⟩
        · omega
        · omega
        · refine ⟨by rw [f, f'], ?_⟩
          obtain ⟨k, k1, k2, k3, k4⟩ := k
          obtain ⟨m, m1, m2, m3, m4⟩ := k'
          rcases (by omega : k < m ∨ k = m ∨ m < k) with e | e | e
          · exact absurd k3 (m4 k e)
          · rw [k2, m2, e]
          · exact absurd m3 (k4 m e)
/-- a day is one -/
theorem DY.u {cs : Nat → List Int} {d : gT} {n : Nat} {bg en ru by_ bg' en' ru' by' : Nat → Int32} (hW : WF n d) (h : DY cs d n bg en ru by_) (h' : DY cs d n bg' en' ru' by') : ∀ i, i < n → bg i = bg' i ∧ en i = en' i ∧ ru i = ru' i ∧ by_ i = by' i := by
  intro i
  induction i using Nat.strongRecOn with
  | _ i ih =>
    intro hi
    obtain ⟨a1, a2, a3⟩ := h i hi
    obtain ⟨b1, b2, b3⟩ := h' i hi
    have a1 := a1.c hW hi (fun j hj => (ih j hj (by omega)).2.1)
    obtain ⟨e1, e2⟩ := a1.u hW hi b1
    have e3 : ru i = ru' i := by rw [a2, b2, e1]
    refine ⟨e1, ?_, e3, e2⟩
    rw [a3, b3, e1, e3]
theorem LD.c {cs : Nat → List Int} {d : gT} {n i : Nat} {bg en ru by_ bg' en' ru' by' : Nat → Int32} (hW : WF n d) (hi : i < n) (h : LD cs d bg en ru by_ i) (e : ∀ j, j ≤ i → en j = en' j) (e1 : bg i = bg' i) (e2 : ru i = ru' i) (e3 : by_ i = by' i) : LD cs d bg' en' ru' by' i := by
  obtain ⟨a1, a2, a3⟩ := h
  refine ⟨?_, ?_, ?_⟩
  · rw [← e1, ← e3]; exact a1.c hW hi (fun j hj => e j (by omega))
  · rw [← e1, ← e2]; exact a2
  · rw [← e i (Nat.le_refl _), ← e1, ← e2]; exact a3
end
section
/-! ===== the class's day is a day ===== -/
/-- what a day is made of, in the class: d is the reference's -/
def DC (cs : Nat → List Int) (n : Nat) (g d : gT) : Prop := ((g 1 2).toInt = (n : Int) ∧ n ≤ 12) ∧ (∀ i, i < n → LC i g d ∧ HC i 25 12 g d) ∧ (g 1 3 = d 0 3 ∧ g 1 4 = d 0 4 ∧ 1 ≤ (d 0 4).toInt) ∧ WF n d ∧ (∀ i, i < n → (0 ≤ (d 12 (24 + i)).toInt ∧ (d 12 (24 + i)).toInt ≤ 9) ∧ (0 ≤ (d 8 i).toInt ∧ (d 8 i).toInt ≤ 6)) ∧ (g 6 11 = d 0 52 ∧ (d 0 52 = -1 ∨ (0 ≤ (d 0 52).toInt ∧ (d 0 52).toInt < (g 3 3).toInt))) ∧ (∀ r : Nat, (r : Int) < (g 3 3).toInt → ∃ o : Nat, (g 20 r).toInt = (o : Int) ∧ (g 20 (r + 1)).toInt = (o : Int) + ((cs r).length : Int) ∧ At (g 19) o (cs r) ∧ rp (cs r) 0 1) ∧ (∀ i, i < n → (stb (g 8 8) i = 0 ↔ stb (d 0 60) i = 1)) ∧ g 8 9 = d 0 61
theorem DC.c {cs : Nat → List Int} {n : Nat} {g g' d : gT} (h : DC cs n g d) (e : ∀ k, k ≠ 21 → (k < 43 ∨ 48 < k) → g' k = g k) : DC cs n g' d := by
  obtain ⟨⟨a1, a2⟩, a3, a4, a5, a6, a7, a8, a9, a10⟩ := h
  unfold DC
  rw [e 1 (by decide) (by omega), e 6 (by decide) (by omega), e 3 (by decide) (by omega), e 20 (by decide) (by omega), e 19 (by decide) (by omega), e 8 (by decide) (by omega)]
  refine ⟨⟨a1, a2⟩, fun i hi => ⟨(a3 i hi).1.c (e _ (by omega) (by omega)) (e _ (by omega) (by omega)) (fun _ _ _ => rfl), (a3 i hi).2.c (e _ (by decide) (by omega)) (e _ (by decide) (by omega)) (e _ (by decide) (by omega)) (e _ (by decide) (by omega)) rfl⟩, a4, a5, a6, a7, a8, a9, a10⟩
theorem up_x {fu : Nat} {p1 : Int32} {g : gT} {L : lT} : Pc (fX1_isUpstairs_8 fu p1 g L) (fun x g1 _ => g1 = g ∧ ((x = 1 ∧ 5 ≤ (g 27 p1.toNatClampNeg).toInt) ∨ (x = 0 ∧ (g 27 p1.toNatClampNeg).toInt < 5))) := by
  unfold fX1_isUpstairs_8 fX1_isUpstairs_8_p18
  refine pc_ck (fun _ _ => pc_ite (fun c => pc_ckb (pc_some ⟨rfl, Or.inr ⟨rfl, ?_⟩⟩)) (fun c => pc_ckb (pc_some ⟨rfl, Or.inl ⟨rfl, ?_⟩⟩)))
  · exact icc_lt (n := 5) rfl rfl c
  · exact icc_nlt (n := 5) rfl rfl c
theorem off_x {a b : Int32} (ha : 0 ≤ a.toInt ∧ a.toInt ≤ 9) (hb : 0 ≤ b.toInt ∧ b.toInt ≤ 9) : (if 0 ≤ a - b then a - b else 0 - (a - b)) = off a b := by
  have e : (a - b).toInt = a.toInt - b.toInt := ic_sub (by omega) (by omega)
  unfold off
  by_cases c : b ≤ a
  · have c' := icc_le (m := b.toInt) (n := a.toInt) rfl rfl c
    rw [if_pos c, if_pos (ic_le.mpr (by rw [e]; show 0 ≤ _; omega))]
  · have c' := icc_nle (m := b.toInt) (n := a.toInt) rfl rfl c
    rw [if_neg c, if_neg (fun h => by have := icc_le (m := 0) rfl e h; omega)]
    refine ic_eq.mpr ?_
    rw [ic_subc (m := 0) rfl e (by omega) (by omega), ic_sub (by omega) (by omega)]
    omega
theorem way_x {cs : Nat → List Int} {n j i fu : Nat} {p1 p2 : Int32} {g d : gT} {L : lT} (h : DC cs n g d) (hj : p1.toInt = (j : Int)) (hi : p2.toInt = (i : Int)) (jn : j < n) (ni : i < n) : Pc (fX1_way_8 fu p1 p2 g L) (fun x g1 _ => g1 = g ∧ x = wy d j i) := by
  obtain ⟨⟨-, a2⟩, a3, ⟨w1, w2, w3⟩, -, a6, -⟩ := h
  have ej : p1.toNatClampNeg = j := by rw [nc, hj]; omega
  have ei : p2.toNatClampNeg = i := by rw [nc, hi]; omega
  have rj : g 27 j = d 12 (24 + j) := (a3 j jn).2.2.2.1
  have ri : g 27 i = d 12 (24 + i) := (a3 i ni).2.2.2.1
  have pj : g (57 + j) 8 = d 4 j := (a3 j jn).1.1.2.2.2
  have bj := (a6 j jn).1
  have bi := (a6 i ni).1
  unfold fX1_way_8 fX1_way_8_p55
  rw [ej, ei, rj, ri, off_x bj bi, w1, show j % 12 = j by omega]
  refine pc_ck (fun _ _ => pc_ck (fun _ _ => pc_lti (fun x1 e1 => pc_cb up_x (fun x2 g3 L4 e2 => pc_cb up_x (fun x6 g7 L8 e6 => ?_)))))
  obtain ⟨rfl, e2⟩ := e2
  obtain ⟨rfl, e6⟩ := e6
  rw [ej, rj] at e2
  rw [ei, ri] at e6
  have z : ∀ x : Int32, x + 0 = x := Int32.add_zero
  unfold wy
  refine pc_ite (fun c => pc_some ⟨rfl, ?_⟩) (fun c => pc_ite (fun c1 => ?_) (fun c1 => ?_))
  · rw [if_pos (by
      rcases e2 with ⟨u, v⟩ | ⟨u, v⟩ <;> rcases e6 with ⟨s, t⟩ | ⟨s, t⟩
      · exact ⟨fun _ => t, fun _ => v⟩
      · rw [u, s] at c; exact absurd c (by decide)
      · rw [u, s] at c; exact absurd c (by decide)
      · constructor <;> intro <;> omega), z]
    exact e1
  · refine pc_ck (fun _ _ => pc_ltn (fun q eq => pc_cnz (pc_some ⟨rfl, ?_⟩)))
    rw [if_neg (by
      intro hh
      rcases e2 with ⟨u, v⟩ | ⟨u, v⟩ <;> rcases e6 with ⟨s, t⟩ | ⟨s, t⟩
      · exact c (by rw [u, s])
      · have := hh.mp v; omega
      · have := hh.mpr t; omega
      · exact c (by rw [u, s])), eq, pj, w2, e1]
  · exfalso
    rw [w2] at c1
    have := icc_nle (m := 1) (n := (d 0 4).toInt) rfl rfl c1
    omega
/-- the least by which so many have come -/
theorem co_x {fu N : Nat} {p1 p2 p3 : Int32} {g : gT} {L : lT} (hN : p2.toInt = (N : Int)) (h6 : N ≤ 6) (h1 : 1 ≤ p1.toInt) (h2 : p1.toInt ≤ (N : Int)) (hl : ∀ k, k < N → (g 47 k).toInt ≤ p3.toInt) : Pc (fX1_comingOf_8 fu p1 p2 p3 g L) (fun x g1 _ => g1 = g ∧ KTH (fun k => (g 47 k).toInt) N p1.toInt.toNat x.toInt) := by
  unfold fX1_comingOf_8 fX1_comingOf_8_l6
  refine pc_loop (fun v => ∃ m : Nat, v.2.1.toInt = (m : Int) ∧ m ≤ N ∧ v.2.2.1 = g ∧ (v.1 = p3 ∨ ∃ k, k < m ∧ v.1 = g 47 k ∧ p1.toInt.toNat ≤ cn (fun k => (g 47 k).toInt) N (g 47 k).toInt) ∧ v.1.toInt ≤ p3.toInt ∧ ∀ k, k < m → p1.toInt.toNat ≤ cn (fun k => (g 47 k).toInt) N (g 47 k).toInt → v.1.toInt ≤ (g 47 k).toInt) (fun k6 hk v hv => ?_) ⟨0, rfl, by omega, rfl, Or.inl rfl, Int.le_refl _, fun k hk => absurd hk (Nat.not_lt_zero _)⟩
  obtain ⟨v4, v5, g', L'⟩ := v
  obtain ⟨m, hm, hmN, eg, hv1, hv3, hv2⟩ := hv
  replace hm : v5.toInt = (m : Int) := hm
  replace eg : g' = g := eg
  subst eg
  show Pc (fX1_comingOf_8_s6 fu p1 p2 k6 v4 v5 g' L') _
  unfold fX1_comingOf_8_s6
  refine pc_ite (fun c => pc_some ⟨rfl, ?_, fun w hw => ?_⟩) (fun c => ?_)
  · rcases hv1 with e | ⟨k, k1, k2, k3⟩
    · replace e : v4 = p3 := e
      rw [e, cn_all (fun k hk => hl k hk)]; omega
    · replace k2 : v4 = g' 47 k := k2
      rw [k2]; exact k3
  · have c := icc_le hN hm c
    refine Nat.lt_of_not_le (fun hle => ?_)
    obtain ⟨q, q1, q2, q3⟩ := cn_max (show 1 ≤ cn (fun k => (g' 47 k).toInt) N w by omega)
    have e : cn (fun k => (g' 47 k).toInt) N (g' 47 q).toInt = cn (fun k => (g' 47 k).toInt) N w := cn_c (fun k hk => ⟨fun h => Int.le_trans h q2, fun h => q3 k hk h⟩)
    have := hv2 q (by omega) (by rw [e]; exact hle)
    replace hw : w < v4.toInt := hw
    replace this : v4.toInt ≤ (g' 47 q).toInt := this
    replace q2 : (g' 47 q).toInt ≤ w := q2
    omega
  · have c := icc_nle hN hm c
    have e5 : v5.toNatClampNeg = m := by rw [nc, hm]; omega
    have ew : (v5 + 1).toInt = ((m + 1 : Nat) : Int) := by rw [ic_addc hm (n := 1) rfl (by omega) (by omega)]; omega
    unfold fX1_comingOf_8_l18
    refine pc_loop (fun v => ∃ o : Nat, v.2.1.toInt = (o : Int) ∧ o ≤ N ∧ v.2.2.1 = g' ∧ v.1.toInt = (cn (fun k => (g' 47 k).toInt) o (g' 47 m).toInt : Int)) (fun k18 hk18 v hv => ?_) ⟨0, rfl, by omega, rfl, rfl⟩
    obtain ⟨v6, v7, g2, L2⟩ := v
    obtain ⟨o, ho, hoN, eg, h6'⟩ := hv
    replace ho : v7.toInt = (o : Int) := ho
    replace eg : g2 = g' := eg
    replace h6' : v6.toInt = (cn (fun k => (g' 47 k).toInt) o (g' 47 m).toInt : Int) := h6'
    subst eg
    have hcn := cn_le (c := fun k => (g2 47 k).toInt) (v := (g2 47 m).toInt) (n := o)
    have e7 : v7.toNatClampNeg = o := by rw [nc, ho]; omega
    show Pc (fX1_comingOf_8_s18 fu k6 p1 p2 v4 v5 k18 v6 v7 g2 L2) _
    unfold fX1_comingOf_8_s18 fX1_comingOf_8_p84 fX1_comingOf_8_p48
    rw [e5, e7]
    refine pc_ite (fun c1 => ?_) (fun c1 => ?_)
    · have c1 := icc_le hN ho c1
      have eo : o = N := by omega
      rw [eo] at h6'
      refine pc_ite (fun c2 => hk _ ⟨m + 1, ew, by omega, rfl, ?_, hv3, fun k hk hc => ?_⟩) (fun c2 => pc_ck (fun _ _ => pc_ite (fun c3 => hk _ ⟨m + 1, ew, by omega, rfl, ?_, hv3, fun k hk hc => ?_⟩) (fun c3 => pc_ck (fun _ _ => pc_lti (fun x5 e => hk _ ⟨m + 1, ew, by omega, rfl, Or.inr ⟨m, by omega, e, ?_⟩, ?_, fun k hk hc => ?_⟩)))))
      · rcases hv1 with e | ⟨k, k1, k2⟩
        · exact Or.inl e
        · exact Or.inr ⟨k, by omega, k2⟩
      · have c2 := icc_lt h6' (n := p1.toInt) rfl c2
        rcases (by omega : k < m ∨ k = m) with h | h
        · exact hv2 k h hc
        · subst h; omega
      · rcases hv1 with e | ⟨k, k1, k2⟩
        · exact Or.inl e
        · exact Or.inr ⟨k, by omega, k2⟩
      · have c3 := icc_le (m := v4.toInt) (n := (g2 47 m).toInt) rfl rfl c3
        rcases (by omega : k < m ∨ k = m) with h | h
        · exact hv2 k h hc
        · subst h; exact c3
      · have c2 := icc_nlt h6' (n := p1.toInt) rfl c2
        omega
      · show x5.toInt ≤ p3.toInt
        rw [e]; exact hl m (by omega)
      · have c3 := icc_nle (m := v4.toInt) (n := (g2 47 m).toInt) rfl rfl c3
        show x5.toInt ≤ _
        rw [e]
        rcases (by omega : k < m ∨ k = m) with h | h
        · have := hv2 k h hc
          replace this : v4.toInt ≤ (g2 47 k).toInt := this
          omega
        · subst h; omega
    · have c1 := icc_nle hN ho c1
      have eo : (v7 + 1).toInt = ((o + 1 : Nat) : Int) := by rw [ic_addc ho (n := 1) rfl (by omega) (by omega)]; omega
      refine pc_ck (fun _ _ => pc_ck (fun _ _ => pc_ite (fun c2 => pc_lti (fun x6 e6 => hk18 _ ⟨o + 1, eo, by omega, rfl, ?_⟩)) (fun c2 => pc_lti (fun x6 e6 => hk18 _ ⟨o + 1, eo, by omega, rfl, ?_⟩))))
      · have c2 := icc_lt (m := (g2 47 m).toInt) (n := (g2 47 o).toInt) rfl rfl c2
        show x6.toInt = _
        rw [cn_s, if_neg (by omega), e6, ic_addc h6' (n := 0) rfl (by omega) (by omega)]; rfl
      · have c2 := icc_nlt (m := (g2 47 m).toInt) (n := (g2 47 o).toInt) rfl rfl c2
        show x6.toInt = _
        rw [cn_s, if_pos (by omega), e6, ic_addc h6' (n := 1) rfl (by omega) (by omega)]; rfl
end
section
/-! ===== the class's day is a day, on ===== -/
theorem cn_lt {c : Nat → Int} {w : Int} {k : Nat} (hw : w < c k) : ∀ {n : Nat}, k < n → cn c n w < n := by
  intro n
  induction n with
  | zero => intro h; omega
  | succ n ih =>
    intro h
    rw [cn_s]
    rcases (by omega : k < n ∨ k = n) with h | rfl
    · have := ih h
      split <;> omega
    · rw [if_neg (by omega)]
      have := cn_le (c := c) (v := w) (n := k)
      omega
/-- when all have come -/
theorem kth_all {c : Nat → Int} {n : Nat} {w : Int} (h1 : 1 ≤ n) (hc : ∀ k, k < n → c k ≤ w) : ∃ m, m < n ∧ KTH c n n (c m) ∧ ∀ k, k < n → c k ≤ c m := by
  obtain ⟨m, m1, m2, m3⟩ := cn_max (c := c) (w := w) (n := n) (by rw [cn_all hc]; exact h1)
  have a : ∀ k, k < n → c k ≤ c m := fun k hk => m3 k hk (hc k hk)
  exact ⟨m, m1, ⟨by rw [cn_all a]; exact Nat.le_refl _, fun w hw => cn_lt hw m1⟩, a⟩
theorem kth_mem {c : Nat → Int} {n k : Nat} {v : Int} (h1 : 1 ≤ k) (h : KTH c n k v) : ∃ m, m < n ∧ c m = v := by
  refine Classical.byContradiction (fun hn => ?_)
  have e : cn c n v = cn c n (v - 1) := cn_c (fun m hm => by
    have : c m ≠ v := fun e => hn ⟨m, hm, e⟩
    omega)
  have a := h.1
  have b := h.2 (v - 1) (by omega)
  omega
theorem fc_x {fu N q : Nat} {p1 : Int32} {g : gT} {L : lT} (hN : (g q 1).toInt = (N : Int)) (h6 : N ≤ 6) : Pc (fX1_firstComingAt_8_les fu p1 q g L) (fun x g1 _ => g1 = g ∧ ((∃ k, k < N ∧ x = g (q + 24) k ∧ g 47 k = p1 ∧ ∀ m, m < k → g 47 m ≠ p1) ∨ ∀ m, m < N → g 47 m ≠ p1)) := by
  unfold fX1_firstComingAt_8_les fX1_firstComingAt_8_les_l2
  refine pc_loop (fun v => ∃ m : Nat, v.1.toInt = (m : Int) ∧ m ≤ N ∧ v.2.1 = g ∧ ∀ k, k < m → g 47 k ≠ p1) (fun k2 hk v hv => ?_) ⟨0, rfl, by omega, rfl, fun k hk => absurd hk (Nat.not_lt_zero _)⟩
  obtain ⟨v3, g', L'⟩ := v
  obtain ⟨m, hm, hmN, eg, hb⟩ := hv
  replace hm : v3.toInt = (m : Int) := hm
  replace eg : g' = g := eg
  subst eg
  show Pc (fX1_firstComingAt_8_les_s2 fu p1 q k2 v3 g' L') _
  unfold fX1_firstComingAt_8_les_s2
  have e5 : v3.toNatClampNeg = m := by rw [nc, hm]; omega
  rw [e5]
  refine pc_ite (fun c => pc_some ⟨rfl, Or.inr ?_⟩) (fun c => pc_ck (fun _ _ => pc_ite (fun c1 => pc_ck (fun _ _ => pc_some ⟨rfl, Or.inl ⟨m, ?_, rfl, c1, hb⟩⟩)) (fun c1 => hk _ ⟨m + 1, ?_, ?_, rfl, fun k hk => ?_⟩)))
  · have c := icc_le hN hm c
    intro k hk
    exact hb k (by omega)
  · have c := icc_nle hN hm c
    omega
  · show (v3 + 1).toInt = _
    rw [ic_addc hm (n := 1) rfl (by omega) (by omega)]; omega
  · have c := icc_nle hN hm c
    omega
  · rcases (by omega : k < m ∨ k = m) with h | h
    · exact hb k h
    · subst h; exact c1
/-- what is due: for p115 -/
def DU (d : gT) (en : Nat → Int32) (i : Nat) (x : Int32) : Prop := ((d 5 i).toInt = 2 ∧ x.toInt ≤ (d 1 i).toInt) ∨ ((d 5 i).toInt ≠ 2 ∧ ∃ v : Int32, KTH (fun k => (cmg d en i k).toInt) (d 8 i).toInt.toNat (if (d 5 i).toInt = 0 then d 8 i else d 6 i).toInt.toNat v.toInt ∧ ((v.toInt ≤ (d 1 i).toInt ∧ x.toInt ≤ (d 1 i).toInt) ∨ x = v))
theorem be_t {cs : Nat → List Int} {n i fu : Nat} {p1 v3 : Int32} {g d : gT} {L : lT} {en : Nat → Int32} (h : DC cs n g d) (hi : p1.toInt = (i : Int)) (ni : i < n) (h43 : g 43 i = d 1 i) (h46 : g 46 i = -1) (hc : ∀ k, k < (d 8 i).toInt.toNat → g 47 k = cmg d en i k) (hd : DU d en i v3) : Pc (fX1_begin_8_les_p115 fu p1 (57 + i) v3 g L) (fun _ g1 _ => LB d en i (g1 43 i) (g1 46 i) ∧ (∀ j, j ≠ i → g1 43 j = g 43 j ∧ g1 46 j = g 46 j) ∧ ∀ k, k ≠ 43 → k ≠ 46 → g1 k = g k) := by
  obtain ⟨⟨-, a2⟩, a3, -, a5, a6, -⟩ := h
  have ei : p1.toNatClampNeg = i := by rw [nc, hi]; omega
  have f3 : g (57 + i) 3 = d 1 i := (a3 i ni).1.1.1
  have f1 : g (57 + i) 1 = d 8 i := (a3 i ni).1.2.1.2.2.2
  have fw : ∀ k : Nat, (k : Int) < (d 8 i).toInt → g (81 + i) k = d 9 (6 * i + k) := (a3 i ni).1.2.2.2
  have f28 : g 28 i = d 12 (36 + i) := (a3 i ni).2.2.2.2
  have b8 := (a6 i ni).2
  have w := a5 i ni
  unfold fX1_begin_8_les_p115
  rw [ei, f3, f28]
  refine pc_ite (fun c => ?_) (fun c => pc_some ⟨?_, fun _ _ => ⟨rfl, rfl⟩, fun _ _ _ => rfl⟩)
  · have c := icc_lt (m := (d 1 i).toInt) (n := v3.toInt) rfl rfl c
    rcases hd with ⟨-, h2⟩ | ⟨h1, v, hv, h2⟩
    · omega
    obtain rfl : v3 = v := by
      rcases h2 with h2 | h2
      · omega
      · exact h2
    refine pc_ck (fun _ _ => pc_lti (fun x6 e6 => pc_ite (fun c1 => pc_ck (fun _ _ => pc_st (fun g8 e8 => ?_))) (fun c1 => pc_ck (fun _ _ => pc_st (fun g14 e14 => pc_some ⟨?_, fun j hj => ⟨?_, ?_⟩, fun k k1 k2 => ?_⟩)))))
    · have c1 := icc_le (m := v3.toInt) (n := x6.toInt) rfl rfl c1
      have e8k : ∀ k, k ≠ 43 → g8 k = g k := fun k hk => by rw [e8]; exact funext fun _ => upd2_nk hk
      refine pc_cb (fc_x (N := (d 8 i).toInt.toNat) (by rw [e8k _ (by omega), f1]; omega) (by omega)) (fun x9 g10 L11 e9 => pc_ck (fun _ _ => pc_st (fun g13 e13 => pc_some ⟨?_, fun j hj => ⟨?_, ?_⟩, fun k k1 k2 => ?_⟩)))
      · obtain ⟨e10, e9⟩ := e9
        rw [e8k 47 (by decide), e8k _ (by omega), show 57 + i + 24 = 81 + i by omega] at e9
        refine Or.inr ⟨h1, v3, hv, Or.inr (Or.inr ⟨c, by rw [← e6]; exact c1, ?_, ?_⟩)⟩
        · rw [e13, upd2_nk (by decide), e10, e8, upd2_at]
        · rw [e13, upd2_at]
          rcases e9 with ⟨k, k1, k2, k3, k4⟩ | hn
          · exact ⟨k, k1, by rw [k2, fw k (by omega)], by rw [← hc k k1, k3], fun m hm => by rw [← hc m (by omega)]; exact k4 m hm⟩
          · exfalso
            have hk1 : 1 ≤ (if (d 5 i).toInt = 0 then d 8 i else d 6 i).toInt.toNat := by
              have := w.2.1 h1
              split <;> omega
            obtain ⟨m, m1, m2⟩ := kth_mem hk1 hv
            refine hn m m1 ?_
            rw [hc m m1]
            exact ic_eq.mpr m2
      · rw [e13, upd2_nk (by decide), e9.1, e8, upd2_nj hj]
      · rw [e13, upd2_nj hj, e9.1, e8k 46 (by decide)]
      · rw [← e8k k k1, e13, e9.1]
        exact funext fun _ => upd2_nk k2
    · have c1 := icc_nle (m := v3.toInt) (n := x6.toInt) rfl rfl c1
      refine Or.inr ⟨h1, v3, hv, Or.inr (Or.inl ⟨c, by rw [← e6]; exact c1, ?_, ?_⟩)⟩
      · rw [e14, upd2_at, e6]
      · rw [e14, upd2_nk (by decide)]; exact h46
    · rw [e14, upd2_nj hj]
    · rw [e14, upd2_nk (by decide)]
    · rw [e14]; exact funext fun _ => upd2_nk k1
  · have c := icc_nlt (m := (d 1 i).toInt) (n := v3.toInt) rfl rfl c
    rcases hd with ⟨h1, -⟩ | ⟨h1, v, hv, h2⟩
    · exact Or.inl ⟨h1, h43, h46⟩
    · refine Or.inr ⟨h1, v, hv, Or.inl ⟨?_, h43, h46⟩⟩
      rcases h2 with h2 | h2
      · exact h2.1
      · rw [← h2]; exact c
/-- when a lesson begins, and by whom -/
theorem be_x {cs : Nat → List Int} {n i fu : Nat} {p1 : Int32} {g d : gT} {L : lT} (h : DC cs n g d) (hi : p1.toInt = (i : Int)) (ni : i < n) : Pc (fX1_begin_8_les fu p1 (57 + i) g L) (fun _ g1 _ => LB d (g 44) i (g1 43 i) (g1 46 i) ∧ (∀ j, j ≠ i → g1 43 j = g 43 j ∧ g1 46 j = g 46 j) ∧ ∀ k, k ≠ 43 → k ≠ 46 → k ≠ 47 → g1 k = g k) := by
  have h0 := h
  obtain ⟨⟨-, a2⟩, a3, -, a5, a6, -⟩ := h
  have ei : p1.toNatClampNeg = i := by rw [nc, hi]; omega
  have f3 : g (57 + i) 3 = d 1 i := (a3 i ni).1.1.1
  have f9 : g (57 + i) 9 = d 5 i := (a3 i ni).1.2.1.1
  have f10 : g (57 + i) 10 = d 6 i := (a3 i ni).1.2.1.2.1
  have f1 : g (57 + i) 1 = d 8 i := (a3 i ni).1.2.1.2.2.2
  have fw : ∀ k : Nat, (k : Int) < (d 8 i).toInt → g (81 + i) k = d 9 (6 * i + k) := (a3 i ni).1.2.2.2
  have f26 : g 26 i = d 12 (12 + i) := (a3 i ni).2.2.1
  have b8 := (a6 i ni).2
  have w := a5 i ni
  obtain ⟨N, hN⟩ : ∃ N : Nat, (d 8 i).toInt = (N : Int) := ⟨(d 8 i).toInt.toNat, by omega⟩
  have hNn : (d 8 i).toInt.toNat = N := by omega
  unfold fX1_begin_8_les
  rw [ei, f3]
  refine pc_ck (fun _ _ => pc_st (fun g1 e1 => pc_ck (fun _ _ => pc_st (fun g2 e2 => pc_lti (fun x3 e3 => ?_)))))
  have k2 : ∀ k, k ≠ 43 → k ≠ 46 → g2 k = g k := fun k h1 h2 => by rw [e2, e1]; exact funext fun _ => by rw [upd2_nk h2, upd2_nk h1]
  rw [k2 (57 + i) (by omega) (by omega), f3] at e3
  have q43 : g2 43 i = d 1 i := by rw [e2, upd2_nk (by decide), e1, upd2_at]
  have q46 : g2 46 i = -1 := by rw [e2, upd2_at]
  have o43 : ∀ j, j ≠ i → g2 43 j = g 43 j := fun j hj => by rw [e2, upd2_nk (by decide), e1, upd2_nj hj]
  have o46 : ∀ j, j ≠ i → g2 46 j = g 46 j := fun j hj => by rw [e2, upd2_nj hj, e1, upd2_nk (by decide)]
  unfold fX1_begin_8_les_l25
  refine pc_loop (fun v => ∃ m : Nat, v.2.1.toInt = (m : Int) ∧ m ≤ N ∧ (v.2.2.1 43 = g2 43 ∧ v.2.2.1 46 = g2 46 ∧ ∀ k, k ≠ 43 → k ≠ 46 → k ≠ 47 → v.2.2.1 k = g k) ∧ (∀ k, k < m → v.2.2.1 47 k = cmg d (g 44) i k) ∧ (∀ k, k < m → (cmg d (g 44) i k).toInt ≤ v.1.toInt) ∧ (v.1 = d 1 i ∨ ∃ k, k < m ∧ v.1 = cmg d (g 44) i k) ∧ (d 1 i).toInt ≤ v.1.toInt) (fun k25 hk v hv => ?_) ⟨0, rfl, by omega, ⟨rfl, rfl, fun k h1 h2 _ => k2 k h1 h2⟩, fun k hk => absurd hk (Nat.not_lt_zero _), fun k hk => absurd hk (Nat.not_lt_zero _), Or.inl e3, by rw [e3]; exact Int.le_refl _⟩
  obtain ⟨v3, v4, g', L'⟩ := v
  obtain ⟨m, hm, hmN, ⟨z43, z46, zk⟩, hc, hle, hor, hge⟩ := hv
  replace hm : v4.toInt = (m : Int) := hm
  replace z43 : g' 43 = g2 43 := z43
  replace z46 : g' 46 = g2 46 := z46
  replace zk : ∀ k, k ≠ 43 → k ≠ 46 → k ≠ 47 → g' k = g k := zk
  replace hc : ∀ k, k < m → g' 47 k = cmg d (g 44) i k := hc
  replace hle : ∀ k, k < m → (cmg d (g 44) i k).toInt ≤ v3.toInt := hle
  replace hor : v3 = d 1 i ∨ ∃ k, k < m ∧ v3 = cmg d (g 44) i k := hor
  replace hge : (d 1 i).toInt ≤ v3.toInt := hge
  have hD' : DC cs n g' d := h0.c (fun k h1 h2 => zk k (by omega) (by omega) (by omega))
  show Pc (fX1_begin_8_les_s25 fu p1 (57 + i) k25 v3 v4 g' L') _
  unfold fX1_begin_8_les_s25
  have e4 : v4.toNatClampNeg = m := by rw [nc, hm]; omega
  have zq := zk (57 + i) (by omega) (by omega) (by omega)
  rw [e4, zq, f1, f9, f10, ei, show 57 + i + 24 = 81 + i by omega, zk (81 + i) (by omega) (by omega) (by omega)]
  have fin : ∀ (x : Int32) (La : lT), m = N → DU d (g 44) i x → Pc (fX1_begin_8_les_p115 fu p1 (57 + i) x g' La) (fun _ g1 _ => LB d (g 44) i (g1 43 i) (g1 46 i) ∧ (∀ j, j ≠ i → g1 43 j = g 43 j ∧ g1 46 j = g 46 j) ∧ ∀ k, k ≠ 43 → k ≠ 46 → k ≠ 47 → g1 k = g k) := by
    intro x La em hd
    refine pc_mo (be_t hD' hi ni (by rw [z43]; exact q43) (by rw [z46]; exact q46) (fun k hk => hc k (by omega)) hd) (fun _ ga Lb e => ?_)
    obtain ⟨y1, y2, y3⟩ := e
    refine ⟨y1, fun j hj => ?_, fun k h1 h2 h3 => ?_⟩
    · obtain ⟨u1, u2⟩ := y2 j hj
      rw [u1, u2, z43, z46, o43 j hj, o46 j hj]; exact ⟨rfl, rfl⟩
    · rw [y3 k h1 h2, zk k h1 h2 h3]
  refine pc_ite (fun c => ?_) (fun c => ?_)
  · have c := icc_le hN hm c
    have em : m = N := by omega
    refine pc_ite (fun c1 => ?_) (fun c1 => ?_)
    · have k1 : (d 5 i).toInt = 1 := icc_eq (n := 1) rfl rfl c1
      have w1 := w.2.1 (by omega)
      refine pc_cb (co_x (N := N) (g := g') hN (by omega) (by omega) (by omega) (fun k hk => by rw [hc k (by omega)]; exact hle k (by omega))) (fun x16 g17 L18 e => ?_)
      obtain ⟨rfl, e⟩ := e
      refine fin x16 L18 em (Or.inr ⟨by omega, x16, ?_, Or.inr rfl⟩)
      rw [if_neg (by omega), hNn]
      exact kth_c e (fun k hk => by rw [hc k (by omega)])
    · have k1 : ¬ (d 5 i).toInt = 1 := icc_neq (n := 1) rfl rfl c1
      refine fin v3 L' em ?_
      by_cases k2' : (d 5 i).toInt = 2
      · refine Or.inl ⟨k2', ?_⟩
        have := w.1 k2'
        rcases hor with e | ⟨k, hk, -⟩
        · rw [e]; exact Int.le_refl _
        · omega
      · have w1 := w.2.1 k2'
        have k0 : (d 5 i).toInt = 0 := by omega
        obtain ⟨q, q1, q2, q3⟩ := kth_all (c := fun k => (cmg d (g 44) i k).toInt) (n := N) (w := v3.toInt) (by omega) (fun k hk => hle k (by omega))
        refine Or.inr ⟨k2', cmg d (g 44) i q, by rw [if_pos k0, hNn]; exact q2, ?_⟩
        rcases hor with e | ⟨k, hk, e⟩
        · refine Or.inl ⟨?_, by rw [e]; exact Int.le_refl _⟩
          have := hle q (by omega)
          rw [e] at this; exact this
        · refine Or.inr (ic_eq.mpr ?_)
          have a := hle q (by omega)
          have b := q3 k (by omega)
          rw [e] at a ⊢
          exact Int.le_antisymm b a
  · have c := icc_nle hN hm c
    have ew : (v4 + 1).toInt = ((m + 1 : Nat) : Int) := by rw [ic_addc hm (n := 1) rfl (by omega) (by omega)]; omega
    have wm := w.2.2 m (by omega)
    refine pc_ck (fun _ _ => pc_lti (fun x20 e20 => pc_ck (fun _ _ => ?_)))
    rw [fw m (by omega)] at e20
    have ej : x20.toInt = ((wf0 d i m : Nat) : Int) := by rw [e20]; unfold wf0; omega
    have ej' : x20.toNatClampNeg = wf0 d i m := by rw [nc, ej]; omega
    have jl : wf0 d i m < i := by unfold wf0; omega
    refine pc_cb (way_x hD' ej hi (by omega) ni) (fun x21 g22 L23 e => pc_ck (fun _ _ => pc_ck (fun _ _ => pc_st (fun g25 e25 => pc_ck (fun _ _ => pc_lti (fun x26 e26 => hk _ ?_))))))
    obtain ⟨rfl, e21⟩ := e
    rw [ej', zk 44 (by decide) (by decide) (by decide), zk 26 (by decide) (by decide) (by decide), f26, e21] at e25
    have ecm : g 44 (wf0 d i m) + wy d (wf0 d i m) i - d 12 (12 + i) = cmg d (g 44) i m := rfl
    rw [ecm] at e25
    have a47 : g25 47 m = cmg d (g 44) i m := by rw [e25, upd2_at]
    rw [a47] at e26
    have hx : v3.toInt ≤ x26.toInt ∧ (cmg d (g 44) i m).toInt ≤ x26.toInt ∧ (x26 = v3 ∨ x26 = cmg d (g 44) i m) := by
      rw [e26]
      by_cases cc : v3 < cmg d (g 44) i m
      · rw [if_pos cc]
        have := ic_lt.mp cc
        exact ⟨by omega, Int.le_refl _, Or.inr rfl⟩
      · rw [if_neg cc]
        have := icc_nlt (m := v3.toInt) (n := (cmg d (g 44) i m).toInt) rfl rfl cc
        exact ⟨Int.le_refl _, this, Or.inl rfl⟩
    refine ⟨m + 1, ew, by omega, ⟨?_, ?_, fun k h1 h2 h3 => ?_⟩, fun k hk => ?_, fun k hk => ?_, ?_, ?_⟩
    · show g25 43 = g2 43
      rw [e25, ← z43]; exact funext fun _ => upd2_nk (by decide)
    · show g25 46 = g2 46
      rw [e25, ← z46]; exact funext fun _ => upd2_nk (by decide)
    · show g25 k = g k
      rw [e25, ← zk k h1 h2 h3]; exact funext fun _ => upd2_nk h3
    · show g25 47 k = _
      rcases (by omega : k < m ∨ k = m) with h | h
      · rw [e25, upd2_nj (by omega)]; exact hc k h
      · subst h; exact a47
    · show _ ≤ x26.toInt
      rcases (by omega : k < m ∨ k = m) with h | h
      · have := hle k h; omega
      · subst h; exact hx.2.1
    · show x26 = d 1 i ∨ ∃ k, k < m + 1 ∧ x26 = cmg d (g 44) i k
      rcases hx.2.2 with e | e
      · rcases hor with e' | ⟨k, k1, k2⟩
        · exact Or.inl (e.trans e')
        · exact Or.inr ⟨k, by omega, e.trans k2⟩
      · exact Or.inr ⟨m, by omega, e⟩
    · show (d 1 i).toInt ≤ x26.toInt
      omega
end
