/-! ===== swap answers alike ===== -/
/-- what is lost when two have exchanged their minutes -/
def FS (cs : Nat → List Int) (n : Nat) (d : gT) (a b : Nat) (v : Int32) : Prop := LV cs n (upd2 (upd2 d 12 a (d 12 b)) 12 b (d 12 a)) v
/-- the best offer, if less is lost by it than now -/
def TS (P : Int → Int32 → Prop) (now p1 x : Int32) : Prop := ((∀ r v, P r v → now.toInt ≤ v.toInt) ∧ x = -1) ∨ ∃ c v, BO P c v ∧ v.toInt < now.toInt ∧ (p1 = 0 → x.toInt = c) ∧ (¬ p1 = 0 → x = v)
theorem TS.u {P : Int → Int32 → Prop} {now p1 x y : Int32} (h : TS P now p1 x) (h' : TS P now p1 y) : x = y := by
  rcases h with ⟨a, b⟩ | ⟨c, v, a, b0, b1, b2⟩
  · rcases h' with ⟨-, b'⟩ | ⟨c', v', a', b0', -⟩
    · rw [b, b']
    · have := a _ _ a'.1
      omega
  · rcases h' with ⟨a', -⟩ | ⟨c', v', a', -, d1, d2⟩
    · have := a' _ _ a.1
      omega
    · obtain ⟨e1, e2⟩ := BO.u a a'
      by_cases c0 : p1 = 0
      · exact ic_eq.mpr (by rw [b1 c0, d1 c0, e1])
      · rw [b2 c0, d2 c0, e2]
theorem ts_told {P : Int → Int32 → Prop} {fu : Nat} {p1 now : Int32} {g : gT} {L : lT} (h : LO P g) : Pc (if g 13 0 = 0 then fX10_swapped_9_p120 fu g L else if now ≤ g 13 2 then fX10_swapped_9_p120 fu g L else cb (fX4_told_13 fu p1 g L) (fun x16 g17 L18 => fX10_swapped_9_p121 fu x16 g17 L18)) (fun x _ _ => TS P now p1 x) := by
  unfold fX10_swapped_9_p120 fX10_swapped_9_p121 fX4_told_13 fX4_told_13_p24
  rcases h with ⟨a, b⟩ | ⟨a, b⟩
  · rw [if_pos a]
    exact pc_some (Or.inl ⟨fun r v hh => absurd hh (b r v), rfl⟩)
  · rw [if_neg a]
    refine pc_ite (fun c => pc_some (Or.inl ⟨fun r v hh => ?_, rfl⟩)) (fun c => ?_)
    · have := ic_le.mp c
      have := (b.2 r v hh).1
      omega
    · have c := icc_nle (m := now.toInt) (n := (g 13 2).toInt) rfl rfl c
      rw [if_neg a]
      by_cases c0 : p1 = 0
      · rw [if_pos c0, cbs]
        exact pc_some (Or.inr ⟨_, _, b, c, fun _ => rfl, fun hh => absurd c0 hh⟩)
      · rw [if_neg c0, cbs]
        exact pc_some (Or.inr ⟨_, _, b, c, fun hh => absurd hh c0, fun _ => rfl⟩)
theorem swap_x {cs : Nat → List Int} {n fu : Nat} {p1 : Int32} {g d : gT} {L : lT} (h : DC cs n g d) : Pc (fX10_swapped_9 fu p1 g L) (fun x _ _ => ∃ w, LV cs n d w ∧ TS (PP (FS cs n d) n n 0) w p1 x) := by
  unfold fX10_swapped_9
  refine pc_cb (lv_x h) (fun x1 g2 L3 e2 => pc_cb clear_x (fun x5 g6 L7 e6 => ?_))
  unfold fX10_swapped_9_l18
  have hW := h.2.2.2.1
  have hn := h.1
  have n12 := h.1.2
  refine pc_loop (fun v => ∃ a : Nat, v.1.toInt = (a : Int) ∧ a ≤ n ∧ (∀ k, k ≠ 13 → k ≠ 21 → (k < 43 ∨ 48 < k) → v.2.1 k = g k) ∧ LO (PP (FS cs n d) n a 0) v.2.1) (fun k18 hk v hv => ?_) ⟨0, rfl, by omega, fun k a b c => (e6.2 k a).trans (e2.2 k b c), Or.inl ⟨e6.1, fun _ _ => pp_0⟩⟩
  obtain ⟨v3, g', L'⟩ := v
  obtain ⟨a, ha, an, ek, hl⟩ := hv
  replace ha : v3.toInt = (a : Int) := ha
  replace ek : ∀ k, k ≠ 13 → k ≠ 21 → (k < 43 ∨ 48 < k) → g' k = g k := ek
  replace hl : LO (PP (FS cs n d) n a 0) g' := hl
  show Pc (fX10_swapped_9_s18 fu p1 x1 k18 v3 g' L') _
  unfold fX10_swapped_9_s18 fX10_lessonCount_9
  rw [ek 1 (by decide) (by decide) (by omega), cbs]
  refine pc_ite (fun c => ?_) (fun c => ?_)
  · have c := icc_le hn.1 ha c
    have em : a = n := by omega
    rw [em] at hl
    exact pc_mo (ts_told hl) (fun x _ _ e => ⟨x1, e2.1, e⟩)
  · have c := icc_nle hn.1 ha c
    refine pc_lti (fun x14 e14 => ?_)
    have h14 : x14.toInt = ((a + 1 : Nat) : Int) := by rw [e14, ic_addc ha (n := 1) rfl (by omega) (by omega)]; omega
    unfold fX10_swapped_9_l31
    refine pc_loop (fun v => ∃ b : Nat, v.1.toInt = (b : Int) ∧ a < b ∧ b ≤ n ∧ (∀ k, k ≠ 13 → k ≠ 21 → (k < 43 ∨ 48 < k) → v.2.1 k = g k) ∧ LO (PP (FS cs n d) n a b) v.2.1) (fun k31 hk2 v hv => ?_) ⟨a + 1, h14, by omega, by omega, ek, hl.c rfl (fun _ _ => pp_in)⟩
    obtain ⟨v4, g4, L4⟩ := v
    obtain ⟨b, hb, ab, bn, ek, hl⟩ := hv
    replace hb : v4.toInt = (b : Int) := hb
    replace ek : ∀ k, k ≠ 13 → k ≠ 21 → (k < 43 ∨ 48 < k) → g4 k = g k := ek
    replace hl : LO (PP (FS cs n d) n a b) g4 := hl
    show Pc (fX10_swapped_9_s31 fu k18 p1 x1 v3 k31 v4 g4 L4) _
    unfold fX10_swapped_9_s31 fX10_lessonCount_9
    rw [ek 1 (by decide) (by decide) (by omega), cbs]
    refine pc_ite (fun c => ?_) (fun c => ?_)
    · have c := icc_le hn.1 hb c
      have em : b = n := by omega
      rw [em] at hl
      refine hk _ ⟨a + 1, ?_, by omega, ek, hl.c rfl (fun _ _ => pp_out)⟩
      show (v3 + 1).toInt = _
      rw [ic_addc ha (n := 1) rfl (by omega) (by omega)]; omega
    · have c := icc_nle hn.1 hb c
      have bn' : b < n := by omega
      have ea : v3.toNatClampNeg = a := by rw [nc, ha]; omega
      have eb : v4.toNatClampNeg = b := by rw [nc, hb]; omega
      have ne : a ≠ b := by omega
      have h25 : g4 25 = g 25 := ek 25 (by decide) (by decide) (by omega)
      have ya : g 25 a = d 12 a := (h.2.1 a (by omega)).2.1
      have yb : g 25 b = d 12 b := (h.2.1 b (by omega)).2.1
      refine pc_cb exch_x (fun _ g27 L28 e27 => ?_)
      obtain ⟨-, -, e27⟩ := e27
      rw [ea, eb, h25, ya, yb] at e27
      have hD : DC cs n g27 (upd2 (upd2 d 12 a (d 12 b)) 12 b (d 12 a)) := by
        have x := ((h.c2 ek).put (q := 0) (l := a) (v := d 12 b) (by decide) (by omega) (fun e => absurd e (by decide))).put (q := 0) (l := b) (v := d 12 a) (by decide) (by omega) (fun e => absurd e (by decide))
        rw [show 12 * 0 + a = a by omega, show 12 * 0 + b = b by omega] at x
        rw [e27]; exact x
      refine pc_cb (lv_x hD) (fun x30 g31 L32 e31 => ?_)
      have o27 : ∀ k, k ≠ 25 → g27 k = g4 k := fun k hk => by rw [e27]; exact funext fun _ => by rw [upd2_nk hk, upd2_nk hk]
      have hl' : LO (PP (FS cs n d) n a b) g31 := hl.c ((e31.2 13 (by decide) (by omega)).trans (o27 13 (by decide))) (fun _ _ => Iff.rfl)
      have k1 : (100 * v3 + v4).toInt = 100 * (a : Int) + (b : Int) := ic_addc (ic_mulc (m := 100) rfl ha (by omega) (by omega)) hb (by omega) (by omega)
      refine pc_cb (offer_o k1 hl') (fun _ g35 L36 e35 => pc_cb exch_x (fun _ g39 L40 e39 => ?_))
      obtain ⟨-, -, e39⟩ := e39
      have f25 : g35 25 = g27 25 := (e35.2 25 (by decide)).trans (e31.2 25 (by decide) (by omega))
      have za : g27 25 a = d 12 b := by rw [e27, upd2_nj ne, upd2_at]
      have zb : g27 25 b = d 12 a := by rw [e27, upd2_at]
      rw [ea, eb, f25, za, zb] at e39
      have k39 : ∀ k, k ≠ 25 → g39 k = g35 k := fun k hk => by rw [e39]; exact funext fun _ => by rw [upd2_nk hk, upd2_nk hk]
      refine hk2 _ ⟨b + 1, ?_, by omega, by omega, fun k x y z => ?_, ?_⟩
      · show (v4 + 1).toInt = _
        rw [ic_addc hb (n := 1) rfl (by omega) (by omega)]; omega
      · show g39 k = g k
        by_cases k25 : k = 25
        · subst k25
          funext j
          rw [e39]
          by_cases jb : j = b
          · rw [jb, upd2_at, yb]
          · rw [upd2_nj jb]
            by_cases ja : j = a
            · rw [ja, upd2_at, ya]
            · rw [upd2_nj ja, f25, e27, upd2_nj jb, upd2_nj ja, h25]
        · rw [k39 k k25, e35.2 k x, e31.2 k y z, o27 k k25, ek k x y z]
      · show LO (PP (FS cs n d) n a (b + 1)) g39
        exact e35.1.c (k39 13 (by decide)) (pp_s (fun v hv => LV.u (wf_p (wf_p hW)) hv e31.1) e31.1 ab bn')
/-- what the reference holds of the offers by which less is lost than now -/
def MSw (P : Int → Int32 → Prop) (now b f : Int32) : Prop := (b = -1 ∧ f = now ∧ ∀ r v, P r v → now.toInt ≤ v.toInt) ∨ (¬ b = -1 ∧ BO P b.toInt f ∧ f.toInt < now.toInt)
theorem MSw.c {P P' : Int → Int32 → Prop} {now b f : Int32} (h : MSw P now b f) (hp : ∀ r v, P r v ↔ P' r v) : MSw P' now b f := by
  rw [← of_iff hp]; exact h
theorem swap_m {cs : Nat → List Int} {n fu : Nat} {p1 x7 : Int32} {g d : gT} {L : lT} (hM : MD cs n d) (e : Em d g) : Pc (fX12_swap_l26 fu p1 (-1) x7 0 g L) (fun x g1 _ => g1 0 = d 0 ∧ TS (PP (FS cs n d) n n 0) x7 p1 x) := by
  unfold fX12_swap_l26
  have hW := hM.2.1
  have n12 := hM.1.2
  refine pc_loop (fun v => ∃ a : Nat, v.2.2.1.toInt = (a : Int) ∧ a ≤ n ∧ Em d v.2.2.2.1 ∧ MSw (PP (FS cs n d) n a 0) x7 v.1 v.2.1) (fun k26 hk v hv => ?_) ⟨0, rfl, by omega, e, Or.inl ⟨rfl, rfl, fun r v hh => absurd hh pp_0⟩⟩
  obtain ⟨v2, v3, v4, g', L'⟩ := v
  obtain ⟨a, ha, an, e, hl⟩ := hv
  replace ha : v4.toInt = (a : Int) := ha
  replace e : Em d g' := e
  replace hl : MSw (PP (FS cs n d) n a 0) x7 v2 v3 := hl
  show Pc (fX12_swap_s26 fu p1 k26 v2 v3 v4 g' L') _
  unfold fX12_swap_s26 fX12_swap_p114 fX12_swap_p119
  have e01 : (g' 0 1).toInt = (n : Int) := by rw [e 0 (by omega)]; exact hM.1.1
  refine pc_ite (fun c => ?_) (fun c => ?_)
  · have c := icc_le e01 ha c
    have em : a = n := by omega
    rw [em] at hl
    rcases hl with ⟨l1, -, l2⟩ | ⟨l1, l2, l3⟩
    · rw [if_pos l1]
      exact pc_some ⟨e 0 (by omega), Or.inl ⟨l2, l1⟩⟩
    · rw [if_neg l1]
      exact pc_ite (fun c => pc_some ⟨e 0 (by omega), Or.inr ⟨_, _, l2, l3, fun _ => rfl, fun hh => absurd c hh⟩⟩) (fun c => pc_some ⟨e 0 (by omega), Or.inr ⟨_, _, l2, l3, fun hh => absurd hh c, fun _ => rfl⟩⟩)
  · have c := icc_nle e01 ha c
    refine pc_lti (fun x14 e14 => ?_)
    have h14 : x14.toInt = ((a + 1 : Nat) : Int) := by rw [e14, ic_addc ha (n := 1) rfl (by omega) (by omega)]; omega
    unfold fX12_swap_l41
    refine pc_loop (fun v => ∃ b : Nat, v.2.2.1.toInt = (b : Int) ∧ a < b ∧ b ≤ n ∧ Em d v.2.2.2.1 ∧ MSw (PP (FS cs n d) n a b) x7 v.1 v.2.1) (fun k41 hk2 v hv => ?_) ⟨a + 1, h14, by omega, by omega, e, hl.c (fun _ _ => pp_in)⟩
    obtain ⟨w2, w3, v5, g4, L4⟩ := v
    obtain ⟨b, hb, ab, bn, e, hl⟩ := hv
    replace hb : v5.toInt = (b : Int) := hb
    replace e : Em d g4 := e
    replace hl : MSw (PP (FS cs n d) n a b) x7 w2 w3 := hl
    show Pc (fX12_swap_s41 fu k26 p1 v4 k41 w2 w3 v5 g4 L4) _
    unfold fX12_swap_s41 fX12_swap_p93
    have e01 : (g4 0 1).toInt = (n : Int) := by rw [e 0 (by omega)]; exact hM.1.1
    refine pc_ite (fun c => ?_) (fun c => ?_)
    · have c := icc_le e01 hb c
      have em : b = n := by omega
      rw [em] at hl
      refine hk _ ⟨a + 1, ?_, by omega, e, hl.c (fun _ _ => pp_out)⟩
      show (v4 + 1).toInt = _
      rw [ic_addc ha (n := 1) rfl (by omega) (by omega)]; omega
    · have c := icc_nle e01 hb c
      have ea : (0 + v4).toNatClampNeg = a := by rw [nc, ic_addc (m := 0) rfl ha (by omega) (by omega)]; omega
      have eb : (0 + v5).toNatClampNeg = b := by rw [nc, ic_addc (m := 0) rfl hb (by omega) (by omega)]; omega
      have ne : a ≠ b := by omega
      refine pc_cb swaps_m (fun _ g17 L18 e17 => ?_)
      obtain ⟨-, -, e17⟩ := e17
      rw [ea, eb, e 12 (by omega)] at e17
      have q17 : Em (upd2 (upd2 d 12 a (d 12 b)) 12 b (d 12 a)) g17 := by rw [e17]; exact e.put.put
      refine pc_cb (lv_m (cs := cs) (n := n) ((MD.put (MD.put hM)).e q17)) (fun x20 g21 L22 e21 => pc_cb swaps_m (fun _ g25 L26 e25 => ?_))
      obtain ⟨-, -, e25⟩ := e25
      have p20 : FS cs n d a b x20 := e21.1.e q17
      have f12 : g21 12 = g17 12 := e21.2 12 (by omega)
      have za : g17 12 a = d 12 b := by rw [e17, upd2_nj ne, upd2_at]
      have zb : g17 12 b = d 12 a := by rw [e17, upd2_at]
      rw [ea, eb, f12, za, zb] at e25
      have r25 : Em d g25 := by
        intro k hk
        by_cases h12 : k = 12
        · subst h12
          funext j
          rw [e25]
          by_cases jb : j = b
          · rw [jb, upd2_at]
          · rw [upd2_nj jb]
            by_cases ja : j = a
            · rw [ja, upd2_at]
            · rw [upd2_nj ja, f12, e17, upd2_nj jb, upd2_nj ja, e 12 (by omega)]
        · funext j
          rw [e25, upd2_nk h12, upd2_nk h12, e21.2 k hk, e17, upd2_nk h12, upd2_nk h12, e k hk]
      have k1 : (100 * v4 + v5).toInt = 100 * (a : Int) + (b : Int) := ic_addc (ic_mulc (m := 100) rfl ha (by omega) (by omega)) hb (by omega) (by omega)
      have es : ∀ r v, Ad (PP (FS cs n d) n a b) (100 * (a : Int) + (b : Int)) x20 r v ↔ PP (FS cs n d) n a (b + 1) r v := pp_s (fun v hv => LV.u (wf_p (wf_p hW)) hv p20) p20 ab (by omega)
      have ew : (v5 + 1).toInt = ((b + 1 : Nat) : Int) := by rw [ic_addc hb (n := 1) rfl (by omega) (by omega)]; omega
      refine pc_ite (fun c1 => pc_lti (fun x29 e29 => hk2 _ ⟨b + 1, ew, by omega, by omega, r25, MSw.c (Or.inr ?_) es⟩)) (fun c1 => hk2 _ ⟨b + 1, ew, by omega, by omega, r25, MSw.c ?_ es⟩)
      · have c1 := icc_lt (m := x20.toInt) (n := w3.toInt) rfl rfl c1
        have h29 : x29.toInt = 100 * (a : Int) + (b : Int) := by rw [e29]; exact k1
        refine ⟨fun e => ?_, ?_, ?_⟩
        · replace e : x29 = -1 := e
          rw [e] at h29
          have : (-1 : Int32).toInt = -1 := rfl
          omega
        · show BO _ x29.toInt x20
          rw [h29]
          rcases hl with ⟨-, l2, l3⟩ | ⟨-, l2, -⟩
          · rw [l2] at c1
            exact bo_first (fun r v hh => by have := l3 r v hh; omega)
          · exact bo_new l2 (Or.inl c1)
        · show x20.toInt < x7.toInt
          rcases hl with ⟨-, l2, -⟩ | ⟨-, -, l3⟩
          · rw [l2] at c1; exact c1
          · omega
      · have c1 := icc_nlt (m := x20.toInt) (n := w3.toInt) rfl rfl c1
        rcases hl with ⟨l1, l2, l3⟩ | ⟨l1, l2, l3⟩
        · refine Or.inl ⟨l1, l2, fun r v hh => ?_⟩
          rcases hh with hh | ⟨-, hh⟩
          · exact l3 r v hh
          · rw [hh, ← l2]; exact c1
        · refine Or.inr ⟨l1, bo_keep l2 ?_, l3⟩
          have := pp_lt n12 l2.1
          have key : w3.toInt < x20.toInt ∨ (x20.toInt = w3.toInt ∧ w2.toInt ≤ 100 * (a : Int) + (b : Int)) := by omega
          exact key
theorem cr_swap {fu : Nat} {p1 : Int32} {g gm g1 g2 : gT} {L Lm L1 L2 : lT} {rx : Except String Int32} {rm : Int32} (h : CR g gm) (e1 : fX11_swap_0 fu p1 g L = some (rx, (g1, L1))) (e2 : fX12_swap fu p1 gm Lm = some (rm, (g2, L2))) : (rx = .ok rm ∧ g2 0 0 = 0) ∨ (rx = .error NSE ∧ g2 0 0 = 1) := by
  have a0 : upd2 gm 0 0 0 0 0 = 0 := upd2_at
  unfold fX11_swap_0 at e1
  unfold fX12_swap at e2
  unfold sti at e2
  have e2 : cb (fX12_isWhat fu p1 1 (upd2 gm 0 0 0) Lm) _ = some (rm, (g2, L2)) := e2
  have i1 : (1 : Int32).toInt = 1 := rfl
  have i2 : (2 : Int32).toInt = 2 := rfl
  by_cases c2 : 0 ≤ p1.toInt ∧ p1.toInt ≤ (1 : Int32).toInt
  rotate_left
  · rw [xwhat0 (fun hh => c2 (by omega))] at e1
    have e1 : some (.error NSE, (g, L)) = some (rx, (g1, L1)) := e1
    rw [what0 a0 c2] at e2
    have e2 : some ((0 : Int32), (upd2 (upd2 gm 0 0 0) 0 0 1, Lm)) = some (rm, (g2, L2)) := e2
    cases e1; cases e2
    exact Or.inr ⟨rfl, upd2_at⟩
  rw [xwhat1 c2.1 (by omega), cbxs] at e1
  rw [what1 a0 c2.1 c2.2, cbs, if_neg (by decide)] at e2
  obtain ⟨xa, ga, La, ea, e1⟩ := cb_some e1
  obtain ⟨xb, gb, Lb, eb, e2⟩ := cb_some e2
  cases e1
  obtain ⟨cs, hX, hM, -⟩ := dc_all h
  have hM := hM.d (e0_u (x := 0))
  obtain ⟨w, u1, u2⟩ := swap_x (hX.d (e0_u (x := 0))) _ _ _ ea
  have hb := lv_m hM _ _ _ eb
  have v := swap_m hM hb.2 _ _ _ e2
  obtain rfl := LV.u hM.2.1 u1 hb.1
  exact Or.inl ⟨by rw [TS.u u2 v.2], by rw [v.1]; exact a0⟩
