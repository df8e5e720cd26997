/-! ===== obey, undo, sightings, images ===== -/
theorem cd_obey {fu : Nat} {p : Int32} {g gm g1 g2 : gT} {L Lm L1 L2 : lT} {rx rm : Int32} (hp : CP g gm) (h : CD g gm) (e1 : fX11_obey_0 fu p g L = some (rx, (g1, L1))) (e2 : fX12_obey fu p gm Lm = some (rm, (g2, L2))) : CD g1 g2 := by
  have hI := hp.2.1
  obtain ⟨k1, k2, k3, k4, -⟩ := hp.2.2.2.2.2.2.1
  have r62 := hI 0 62 0 40 rfl
  have ex : ∃ x : Int32, fX11_isRuleOrNone_0 fu p g L = some (x, (g, L)) ∧ ((x = 1 ∧ (-1 ≤ p.toInt ∧ p.toInt < (g 3 3).toInt)) ∨ (x = 0 ∧ ¬ (-1 ≤ p.toInt ∧ p.toInt < (g 3 3).toInt))) := by
    unfold fX11_isRuleOrNone_0 fX11_isRuleOrNone_0_p23 fX11_isRuleOrNone_0_p24
    rw [ckb0, ckb1]
    by_cases c1 : p < (-1)
    · rw [if_pos c1]
      have c1 := icc_lt (m := p.toInt) (n := -1) rfl (by decide) c1
      exact ⟨0, rfl, Or.inr ⟨rfl, fun h => by omega⟩⟩
    · rw [if_neg c1]
      have c1 := icc_nlt (m := p.toInt) (n := -1) rfl (by decide) c1
      by_cases c2 : g 3 3 ≤ p
      · rw [if_pos c2]
        have c2 := icc_le (m := (g 3 3).toInt) (n := p.toInt) rfl rfl c2
        exact ⟨0, rfl, Or.inr ⟨rfl, fun h => by omega⟩⟩
      · rw [if_neg c2]
        have c2 := icc_nle (m := (g 3 3).toInt) (n := p.toInt) rfl rfl c2
        exact ⟨1, rfl, Or.inl ⟨rfl, by omega, by omega⟩⟩
  obtain ⟨x, ex, hx⟩ := ex
  rw [k2] at hx
  unfold fX11_obey_0 at e1
  rw [ex, cbs] at e1
  have e20 := e2
  unfold fX12_obey at e2
  unfold sti at e2
  have a2 : upd2 gm 0 0 0 0 2 = gm 0 2 := rfl
  rcases hx with ⟨rfl, hx⟩ | ⟨rfl, hx⟩
  rotate_left
  · have y1 : g1 = upd2 g 15 1 (g 15 1 + 1) := by
      have e1 : some ((0 : Int32), (upd2 g 15 1 (g 15 1 + 1), L)) = some (rx, (g1, L1)) := e1
      cases e1; rfl
    have y2 : g2 = upd2 (upd2 gm 0 0 0) 14 1 (gm 14 1 + 1) := by
      have P18 : fX12_obey_p18 fu (upd2 gm 0 0 0) Lm = some (rm, (g2, L2)) → g2 = upd2 (upd2 gm 0 0 0) 14 1 (gm 14 1 + 1) := by
        intro e
        have e : some ((0 : Int32), (upd2 (upd2 gm 0 0 0) 14 1 (gm 14 1 + 1), Lm)) = some (rm, (g2, L2)) := e
        cases e; rfl
      have e2 : (if p < (-1) then fX12_obey_p18 fu (upd2 gm 0 0 0) Lm else if p < upd2 gm 0 0 0 0 2 then _ else fX12_obey_p18 fu (upd2 gm 0 0 0) Lm) = some (rm, (g2, L2)) := e2
      rw [a2] at e2
      by_cases c1 : p < (-1)
      · rw [if_pos c1] at e2; exact P18 e2
      · rw [if_neg c1] at e2
        have c1 := icc_nlt (m := p.toInt) (n := -1) rfl (by decide) c1
        rw [if_neg (fun hh => hx ⟨c1, icc_lt (m := p.toInt) (n := (gm 0 2).toInt) rfl rfl hh⟩)] at e2
        exact P18 e2
    refine cd_cnt (i := 1) hI h (by decide) y1 (fun k j hh => ?_)
    rw [y2]
    by_cases hk : k = 14
    · subst hk
      by_cases hj : j = 1
      · subst hj; rw [upd2_at, upd2_at]
      · rw [upd2_nj hj, upd2_nj hj, u00 hh]
    · rw [upd2_nk hk, upd2_nk hk, u00 hh]
  rw [if_neg (by decide)] at e1
  have x4 : ∃ gk, KA 4 0 (g 6 11) g gk ∧ g1 = upd2 gk 6 11 p := by
    have key : Pc (cb (fX3_keepAct_6 fu 4 0 (g 6 11) g L) (fun _ g7 L8 => sti g7 6 11 p (fun g10 => ckb 1 (some (1, (g10, L8)))))) (fun (_ : Int32) ga _ => ∃ gk, KA 4 0 (g 6 11) g gk ∧ ga = upd2 gk 6 11 p) :=
      pc_cb (keepAct_x (by rw [k3]; exact r62.1) (by rw [k3]; exact r62.2)) (fun _ gb Lb hb => pc_st (fun gc ec => pc_ckb (pc_some ⟨gb, hb, ec⟩)))
    exact key _ _ _ e1
  obtain ⟨gk, hka, eg1⟩ := x4
  have m4 : ∃ gn, KM 48 (gm 0 52) (upd2 gm 0 0 0) gn ∧ g2 = upd2 gn 0 52 p := by
    have e2 : (if p < (-1) then _ else if p < upd2 gm 0 0 0 0 2 then cb (fX12_keeps fu 48 (gm 0 52) (upd2 gm 0 0 0) Lm) (fun _ g10 L11 => sti g10 0 52 p (fun g13 => ckb 1 (some ((1 : Int32), (g13, L11))))) else _) = some (rm, (g2, L2)) := e2
    rw [a2, if_neg (fun hh => by have := icc_lt (m := p.toInt) (n := -1) rfl (by decide) hh; omega), if_pos (Int32.lt_iff_toInt_lt.mpr (by omega))] at e2
    have key : Pc (cb (fX12_keeps fu 48 (gm 0 52) (upd2 gm 0 0 0) Lm) (fun _ g10 L11 => sti g10 0 52 p (fun g13 => ckb 1 (some ((1 : Int32), (g13, L11)))))) (fun (_ : Int32) ga _ => ∃ gn, KM 48 (gm 0 52) (upd2 gm 0 0 0) gn ∧ ga = upd2 gn 0 52 p) :=
      pc_cb (keeps_m (g := upd2 gm 0 0 0) r62.1 r62.2) (fun _ gb Lb hb => pc_st (fun gc ec => pc_ckb (pc_some ⟨gb, hb, ec⟩)))
    exact key _ _ _ e2
  obtain ⟨gn, hkm, eg2⟩ := m4
  have e62 : (g2 0 62).toInt = bmp (gm 0 62).toInt := ((obey_m (fu := fu) (p := p) (g := gm) (L := Lm) r62 _ _ _ e20).1 ⟨hx.1, hx.2⟩).2
  have n0 : ∀ j, j ≠ 0 → j ≠ 62 → j ≠ 52 → g2 0 j = gm 0 j := fun j h0 h62 h52 => by
    rw [eg2, upd2_nj h52, hkm.2.2.2 j h62, upd2_nj h0]
  have f1 : FW [(6, 9), (6, 11)] [29, 30, 31] g g1 := by
    intro k j hB hA
    rw [eg1]
    by_cases k6 : k = 6
    · subst k6
      rw [upd2_nj (fun e => hA (by rw [e]; decide))]
      exact hka.2.2.2 j (fun e => hA (by rw [e]; decide))
    · rw [upd2_nk k6, hka.2.2.1 k (fun e => hB (by rw [e]; decide)) (fun e => hB (by rw [e]; decide)) (fun e => hB (by rw [e]; decide)) k6]
  have f2 : FW [(0, 0), (0, 62), (0, 52)] [36] gm g2 := by
    intro k j hB hA
    by_cases k0 : k = 0
    · subst k0
      exact n0 j (fun e => hA (by rw [e]; decide)) (fun e => hA (by rw [e]; decide)) (fun e => hA (by rw [e]; decide))
    · rw [eg2, upd2_nk k0, hkm.2.2.1 k (fun e => hB (by rw [e]; decide)) k0, upd2_nk k0]
  have hka' : AC (bmp (gm 0 62).toInt) 29 36 gk gn := by
    refine ac_keep (g := g) (gm := upd2 gm 0 0 0) (by exact k3) r62.1 r62.2 (h.2.1.2.2.1.c rfl rfl rfl (funext fun j => upd2_nk (by decide))) hka hkm ⟨Or.inl ⟨by decide, by decide⟩, h.2.1.2.1⟩
  refine cd_held hI h f1 f2 (by decide) (by decide) ⟨fun i hi => ?_, ?_, ?_, ?_⟩
  · rw [n0 1 (by decide) (by decide) (by decide)] at hi
    exact (h.2.1.1 i hi).c (f1.c (by decide) (by decide)) (f1.c (by decide) (by decide)) (f1.c (by decide) (by decide)) (f1.c (by decide) (by decide)) (f2.c (by decide) (by decide))
  · rw [eg1, eg2, upd2_at, upd2_at]
  · rw [e62]
    refine hka'.c ?_ ?_ ?_ ?_
    · rw [eg1]; exact funext fun j => upd2_nk (by decide)
    · rw [eg1]; exact funext fun j => upd2_nk (by decide)
    · rw [eg1]; exact funext fun j => upd2_nk (by decide)
    · rw [eg2]; exact funext fun j => upd2_nk (by decide)
  · rw [n0 73 (by decide) (by decide) (by decide)]
    exact h.2.1.2.2.2.c (f1.c (by decide) (by decide)) (f1.c (by decide) (by decide)) (f2.c (by decide) (by decide))
theorem AC.le {m m' : Int} {a c : Nat} {g gm : gT} (h : AC m a c g gm) (hm : m' ≤ m) : AC m' a c g gm := fun k hk => h k (by omega)
theorem cd_undo {fu : Nat} {g gm g1 g2 : gT} {L Lm L1 L2 : lT} {rx rm : Int32} (hp : CP g gm) (h : CD g gm) (e1 : fX11_undo_0 fu g L = some (rx, (g1, L1))) (e2 : fX12_undo fu gm Lm = some (rm, (g2, L2))) : CD g1 g2 := by
  have hI := hp.2.1
  obtain ⟨k1, k2, k3, k4, -⟩ := hp.2.2.2.2.2.2.1
  have r62 := hI 0 62 0 40 rfl
  unfold fX11_undo_0 fX3_takeBackAct_6 fX3_takeBackAct_6_p80 at e1
  unfold fX12_undo fX12_undo_p89 at e2
  unfold sti at e2
  have a62 : upd2 gm 0 0 0 0 62 = gm 0 62 := rfl
  by_cases c : gm 0 62 = 0
  · have e2 : (if upd2 gm 0 0 0 0 62 = 0 then some ((-1 : Int32), (upd2 gm 0 0 0, Lm)) else _) = some (rm, (g2, L2)) := e2
    rw [a62, if_pos c] at e2
    rw [k3, c, if_neg (by decide), cbs] at e1
    cases e1; cases e2
    exact cd_00 hI h (fun k j hh => u00 hh)
  have c' : 1 ≤ (gm 0 62).toInt := by
    have : (gm 0 62).toInt ≠ 0 := fun e => c (ic_eq.mpr e)
    omega
  have e2 : (if upd2 gm 0 0 0 0 62 = 0 then _ else _) = some (rm, (g2, L2)) := e2
  rw [a62, if_neg c] at e2
  rw [k3, if_pos (Int32.le_iff_toInt_le.mpr (show (1 : Int32).toInt ≤ (gm 0 62).toInt from c'))] at e1
  have em1 : (gm 0 62 - 1).toInt = (gm 0 62).toInt - 1 := ic_subc rfl (by decide) (by omega) (by omega)
  generalize hM : (gm 0 62).toInt.toNat - 1 = M
  have hMi : (M : Int) = (gm 0 62).toInt - 1 := by omega
  have eNx : (gm 0 62 - 1).toNatClampNeg = M := by rw [nc, em1]; omega
  have e2m : (2 * (gm 0 62 - 1)).toInt = 2 * (M : Int) := by rw [hMi, ← em1]; exact ic_mulc (by decide) rfl (by omega) (by omega)
  have eNm : (2 * (gm 0 62 - 1)).toNatClampNeg = 2 * M := by rw [nc, e2m]; omega
  have e3m : (2 * (gm 0 62 - 1) + 1).toInt = 2 * (M : Int) + 1 := ic_addc e2m (by decide) (by omega) (by omega)
  have eNm1 : (2 * (gm 0 62 - 1) + 1).toNatClampNeg = 2 * M + 1 := by rw [nc, e3m]; omega
  obtain ⟨hact, hold⟩ := h.2.1.2.2.1 M (by omega)
  have hold : g 31 M = gm 36 (2 * M + 1) := hold
  -- the class
  have X : (g 29 M = 4 → g1 = upd2 (upd2 g 6 9 (gm 0 62 - 1)) 6 11 (g 31 M)) ∧ (¬ g 29 M = 4 → 0 ≤ (g 29 M).toInt → (g 29 M).toInt ≤ 3 → 0 ≤ (g 30 M).toInt → g1 = upd2 (upd2 g 6 9 (gm 0 62 - 1)) (25 + (g 29 M).toInt.toNat) (g 30 M).toInt.toNat (g 31 M)) := by
    have key : Pc (cb (sti g 6 9 (gm 0 62 - 1) (fun g2 => ck (g2 6 9) 40 (if g2 29 (Int32.toNatClampNeg (g2 6 9)) = 4 then ck (g2 6 9) 40 (sti g2 6 11 (g2 31 (Int32.toNatClampNeg (g2 6 9))) (fun g8 => some (g8 6 9, (g8, L)))) else ck (g2 6 9) 40 (ck (g2 6 9) 40 (ck (g2 6 9) 40 (cb (fX3_put_6 fu (g2 29 (Int32.toNatClampNeg (g2 6 9))) (g2 30 (Int32.toNatClampNeg (g2 6 9))) (g2 31 (Int32.toNatClampNeg (g2 6 9))) g2 L) (fun _ g5 L6 => some (g5 6 9, (g5, L6))))))))) (fun x1 g2 L3 => some (x1, (g2, L3)))) (fun (_ : Int32) ga _ => (g 29 M = 4 → ga = upd2 (upd2 g 6 9 (gm 0 62 - 1)) 6 11 (g 31 M)) ∧ (¬ g 29 M = 4 → 0 ≤ (g 29 M).toInt → (g 29 M).toInt ≤ 3 → 0 ≤ (g 30 M).toInt → ga = upd2 (upd2 g 6 9 (gm 0 62 - 1)) (25 + (g 29 M).toInt.toNat) (g 30 M).toInt.toNat (g 31 M))) := by
      refine pc_cb (P := fun (_ : Int32) ga _ => (g 29 M = 4 → ga = upd2 (upd2 g 6 9 (gm 0 62 - 1)) 6 11 (g 31 M)) ∧ (¬ g 29 M = 4 → 0 ≤ (g 29 M).toInt → (g 29 M).toInt ≤ 3 → 0 ≤ (g 30 M).toInt → ga = upd2 (upd2 g 6 9 (gm 0 62 - 1)) (25 + (g 29 M).toInt.toNat) (g 30 M).toInt.toNat (g 31 M))) (pc_st (fun ga ea => ?_)) (fun _ gz Lz hz => pc_some hz)
      have a69 : ga 6 9 = gm 0 62 - 1 := by rw [ea]; exact upd2_at
      have a29 : ga 29 = g 29 := by rw [ea]; exact funext fun j => upd2_nk (by decide)
      have a30 : ga 30 = g 30 := by rw [ea]; exact funext fun j => upd2_nk (by decide)
      have a31 : ga 31 = g 31 := by rw [ea]; exact funext fun j => upd2_nk (by decide)
      rw [a69, eNx, a29, a30, a31]
      refine pc_ck (fun _ _ => pc_ite (fun d => pc_ck (fun _ _ => pc_st (fun gb eb => pc_some ⟨fun _ => by rw [eb, ea], fun hn => absurd d hn⟩))) (fun d => pc_ck (fun _ _ => pc_ck (fun _ _ => pc_ck (fun _ _ => ?_)))))
      by_cases hr : 0 ≤ (g 29 M).toInt ∧ (g 29 M).toInt ≤ 3
      · refine pc_cb (put_x (row_q hr.1 hr.2)) (fun _ gb Lb hb => pc_some ⟨fun hh => absurd hh d, fun _ _ _ _ => ?_⟩)
        rw [hb, ea]
        have : (g 30 M).toNatClampNeg = (g 30 M).toInt.toNat := by rw [nc]
        rw [this]
      · exact pc_cb (P := fun _ _ _ => True) (fun _ _ _ _ => trivial) (fun _ gb Lb hb => pc_some ⟨fun hh => absurd hh d, fun _ q1 q2 => absurd ⟨q1, q2⟩ hr⟩)
    exact key _ _ _ e1
  -- the reference
  have Y : (gm 36 (2 * M) = 48 → g2 = upd2 (upd2 (upd2 gm 0 0 0) 0 62 (gm 0 62 - 1)) 0 52 (gm 36 (2 * M + 1))) ∧ (¬ gm 36 (2 * M) = 48 → 0 ≤ (gm 36 (2 * M)).toInt → g2 = upd2 (upd2 (upd2 gm 0 0 0) 0 62 (gm 0 62 - 1)) 12 (gm 36 (2 * M)).toInt.toNat (gm 36 (2 * M + 1))) := by
    have e2 : sti (upd2 gm 0 0 0) 0 62 (gm 0 62 - 1) (fun g3 => ck (2 * (g3 0 62)) 80 (if g3 36 (Int32.toNatClampNeg (2 * (g3 0 62))) = 48 then ck ((2 * (g3 0 62)) + 1) 80 (sti g3 0 52 (g3 36 (Int32.toNatClampNeg ((2 * (g3 0 62)) + 1))) (fun g6 => some (g6 0 62, (g6, Lm)))) else ck (2 * (g3 0 62)) 80 (ck ((2 * (g3 0 62)) + 1) 80 (ck (g3 36 (Int32.toNatClampNeg (2 * (g3 0 62)))) 48 (sti g3 12 (Int32.toNatClampNeg (g3 36 (Int32.toNatClampNeg (2 * (g3 0 62))))) (g3 36 (Int32.toNatClampNeg ((2 * (g3 0 62)) + 1))) (fun g5 => some (g5 0 62, (g5, Lm)))))))) = some (rm, (g2, L2)) := e2
    have key : Pc (sti (upd2 gm 0 0 0) 0 62 (gm 0 62 - 1) (fun g3 => ck (2 * (g3 0 62)) 80 (if g3 36 (Int32.toNatClampNeg (2 * (g3 0 62))) = 48 then ck ((2 * (g3 0 62)) + 1) 80 (sti g3 0 52 (g3 36 (Int32.toNatClampNeg ((2 * (g3 0 62)) + 1))) (fun g6 => some (g6 0 62, (g6, Lm)))) else ck (2 * (g3 0 62)) 80 (ck ((2 * (g3 0 62)) + 1) 80 (ck (g3 36 (Int32.toNatClampNeg (2 * (g3 0 62)))) 48 (sti g3 12 (Int32.toNatClampNeg (g3 36 (Int32.toNatClampNeg (2 * (g3 0 62))))) (g3 36 (Int32.toNatClampNeg ((2 * (g3 0 62)) + 1))) (fun g5 => some (g5 0 62, (g5, Lm))))))))) (fun (_ : Int32) ga _ => (gm 36 (2 * M) = 48 → ga = upd2 (upd2 (upd2 gm 0 0 0) 0 62 (gm 0 62 - 1)) 0 52 (gm 36 (2 * M + 1))) ∧ (¬ gm 36 (2 * M) = 48 → 0 ≤ (gm 36 (2 * M)).toInt → ga = upd2 (upd2 (upd2 gm 0 0 0) 0 62 (gm 0 62 - 1)) 12 (gm 36 (2 * M)).toInt.toNat (gm 36 (2 * M + 1)))) := by
      refine pc_st (fun ga ea => ?_)
      have a62 : ga 0 62 = gm 0 62 - 1 := by rw [ea]; exact upd2_at
      have a36 : ga 36 = gm 36 := by rw [ea]; exact funext fun j => (upd2_nk (by decide)).trans (upd2_nk (by decide))
      rw [a62, eNm, eNm1, a36]
      refine pc_ck (fun _ _ => pc_ite (fun d => pc_ck (fun _ _ => pc_st (fun gb eb => pc_some ⟨fun _ => by rw [eb, ea], fun hn => absurd d hn⟩))) (fun d => pc_ck (fun _ _ => pc_ck (fun _ _ => pc_ck (fun _ _ => pc_st (fun gb eb => pc_some ⟨fun hh => absurd hh d, fun _ _ => ?_⟩))))))
      have : (gm 36 (2 * M)).toNatClampNeg = (gm 36 (2 * M)).toInt.toNat := by rw [nc]
      rw [eb, ea, this]
    exact key _ _ _ e2
  have hAC : ∀ {ga gb : gT}, (∀ k, k = 29 ∨ k = 30 ∨ k = 31 → ga k = g k) → gb 36 = gm 36 → gb 0 62 = gm 0 62 - 1 → AC (gb 0 62).toInt 29 36 ga gb := by
    intro ga gb ha hb h62
    rw [h62, em1]
    exact (h.2.1.2.2.1.le (by omega)).c (ha 29 (Or.inl rfl)) (ha 30 (Or.inr (Or.inl rfl))) (ha 31 (Or.inr (Or.inr rfl))) hb
  have i4 : (4 : Int32).toInt = 4 := rfl
  have i48 : (48 : Int32).toInt = 48 := rfl
  rcases hact with ⟨q1, q2⟩ | ⟨q1, q2, q3⟩
  · have q1 : (g 29 M).toInt = 4 := q1
    have eg1 := X.1 (ic_eq.mpr q1)
    have eg2 := Y.1 (ic_eq.mpr q2)
    have f1 : FW [(6, 9), (6, 11)] [] g g1 := fun k j _ hA => by
      rw [eg1]
      by_cases k6 : k = 6
      · subst k6
        rw [upd2_nj (fun e => hA (by rw [e]; decide)), upd2_nj (fun e => hA (by rw [e]; decide))]
      · rw [upd2_nk k6, upd2_nk k6]
    have f2 : FW [(0, 0), (0, 62), (0, 52)] [] gm g2 := fun k j _ hA => by
      rw [eg2]
      by_cases k0 : k = 0
      · subst k0
        rw [upd2_nj (fun e => hA (by rw [e]; decide)), upd2_nj (fun e => hA (by rw [e]; decide)), upd2_nj (fun e => hA (by rw [e]; decide))]
      · rw [upd2_nk k0, upd2_nk k0, upd2_nk k0]
    refine cd_held hI h f1 f2 (by decide) (by decide) ⟨fun i hi => ?_, ?_, ?_, ?_⟩
    · rw [f2 0 1 (by decide) (by decide)] at hi
      exact (h.2.1.1 i hi).c (f1.c (by decide) (by decide)) (f1.c (by decide) (by decide)) (f1.c (by decide) (by decide)) (f1.c (by decide) (by decide)) (f2.c (by decide) (by decide))
    · rw [eg1, eg2, upd2_at, upd2_at]; exact hold
    · exact hAC (fun k hk => by rcases hk with rfl | rfl | rfl <;> exact f1.c (by decide) (by decide)) (f2.c (by decide) (by decide)) (by rw [eg2, upd2_nj (by decide), upd2_at])
    · rw [f2 0 73 (by decide) (by decide)]
      exact h.2.1.2.2.2.c (f1.c (by decide) (by decide)) (f1.c (by decide) (by decide)) (f2.c (by decide) (by decide))
  · have q1 : 0 ≤ (g 29 M).toInt ∧ (g 29 M).toInt ≤ 3 := q1
    have q2 : 0 ≤ (g 30 M).toInt ∧ (g 30 M).toInt ≤ 11 := q2
    have q3 : (gm 36 (2 * M)).toInt = 12 * (g 29 M).toInt + (g 30 M).toInt := q3
    have eg1 := X.2 (fun e => by rw [e] at q1; exact absurd q1.2 (by decide)) q1.1 q1.2 q2.1
    have eg2 := Y.2 (fun e => by rw [e] at q3; omega) (by omega)
    have eI : (gm 36 (2 * M)).toInt.toNat = 12 * (g 29 M).toInt.toNat + (g 30 M).toInt.toNat := by omega
    rw [eI] at eg2
    have hq3 : (g 29 M).toInt.toNat ≤ 3 := by omega
    have hl12 : (g 30 M).toInt.toNat < 12 := by omega
    generalize (g 29 M).toInt.toNat = q at *
    generalize (g 30 M).toInt.toNat = l at *
    have f1 : FW [(6, 9)] [25, 26, 27, 28] g g1 := fun k j hB hA => by
      rw [eg1]
      have hk : k ≠ 25 + q := fun e => hB (by
        rcases (by omega : q = 0 ∨ q = 1 ∨ q = 2 ∨ q = 3) with h | h | h | h <;> (rw [e, h]; decide))
      rw [upd2_nk hk]
      by_cases k6 : k = 6
      · subst k6; rw [upd2_nj (fun e => hA (by rw [e]; decide))]
      · rw [upd2_nk k6]
    have f2 : FW [(0, 0), (0, 62)] [12] gm g2 := fun k j hB hA => by
      rw [eg2, upd2_nk (fun e => hB (by rw [e]; decide))]
      by_cases k0 : k = 0
      · subst k0
        rw [upd2_nj (fun e => hA (by rw [e]; decide)), upd2_nj (fun e => hA (by rw [e]; decide))]
      · rw [upd2_nk k0, upd2_nk k0]
    have r1 := hI 0 1 0 12 rfl
    refine cd_held hI h f1 f2 (by decide) (by decide) ⟨fun i hi => ?_, ?_, ?_, ?_⟩
    · rw [f2 0 1 (by decide) (by decide)] at hi
      refine hc_put (h.2.1.1 i hi) (by omega) hl12 (q := q) (l := l) (v := g 31 M) hq3 (fun k a c => ?_) ?_
      · rw [eg1]
        funext j
        by_cases hk : k = 25 + q
        · subst hk
          by_cases hj : j = l
          · subst hj; rw [upd2_at, upd2_at]
          · rw [upd2_nj hj, upd2_nj hj, upd2_nk (by omega)]
        · rw [upd2_nk hk, upd2_nk hk, upd2_nk (by omega)]
      · rw [eg2, ← hold]
        funext j
        by_cases hj : j = 12 * q + l
        · subst hj; rw [upd2_at, upd2_at]
        · rw [upd2_nj hj, upd2_nj hj, upd2_nk (by decide), upd2_nk (by decide)]
    · rw [f1 6 11 (by decide) (by decide), f2 0 52 (by decide) (by decide)]; exact h.2.1.2.1
    · exact hAC (fun k hk => by rcases hk with rfl | rfl | rfl <;> exact f1.c (by decide) (by decide)) (f2.c (by decide) (by decide)) (by rw [eg2, upd2_nk (by decide), upd2_at])
    · rw [f2 0 73 (by decide) (by decide)]
      exact h.2.1.2.2.2.c (f1.c (by decide) (by decide)) (f1.c (by decide) (by decide)) (f2.c (by decide) (by decide))
theorem cd_forget {fu : Nat} {g gm g1 g2 : gT} {L Lm L1 L2 : lT} {rx rm : Unit} (hp : CP g gm) (h : CD g gm) (e1 : fX11_forget_0 fu g L = some (rx, (g1, L1))) (e2 : fX12_forget fu gm Lm = some (rm, (g2, L2))) : CD g1 g2 := by
  have hI := hp.2.1
  have e1 : some ((), (upd2 g 6 10 0, L)) = some (rx, (g1, L1)) := e1
  have e2 : some ((), (upd2 (upd2 gm 0 0 0) 0 73 0, Lm)) = some (rm, (g2, L2)) := e2
  cases e1; cases e2
  have f1 : FW [(6, 10)] [] g (upd2 g 6 10 0) := fun k j _ hA => by
    by_cases k6 : k = 6
    · subst k6; rw [upd2_nj (fun e => hA (by rw [e]; decide))]
    · rw [upd2_nk k6]
  have f2 : FW [(0, 0), (0, 73)] [] gm (upd2 (upd2 gm 0 0 0) 0 73 0) := fun k j _ hA => by
    by_cases k0 : k = 0
    · subst k0; rw [upd2_nj (fun e => hA (by rw [e]; decide)), upd2_nj (fun e => hA (by rw [e]; decide))]
    · rw [upd2_nk k0, upd2_nk k0]
  refine cd_held hI h f1 f2 (by decide) (by decide) ⟨fun i hi => ?_, ?_, ?_, fun k hk => ?_⟩
  · exact (h.2.1.1 i hi).c (f1.c (by decide) (by decide)) (f1.c (by decide) (by decide)) (f1.c (by decide) (by decide)) (f1.c (by decide) (by decide)) (f2.c (by decide) (by decide))
  · exact h.2.1.2.1
  · exact h.2.1.2.2.1.c (f1.c (by decide) (by decide)) (f1.c (by decide) (by decide)) (f1.c (by decide) (by decide)) (f2.c (by decide) (by decide))
  · exact absurd (show (k : Int) < 0 from hk) (by omega)
