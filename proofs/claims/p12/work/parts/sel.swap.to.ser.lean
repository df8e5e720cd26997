section
/-! ===== swap answers alike ===== -/
/-- what is lost when two have exchanged their minutes -/
def FS (cs : Nat → List Int) (n : Nat) (d : gT) (a b : Nat) (v : Int32) : Prop := LV cs n (upd2 (upd2 d 12 a (d 12 b)) 12 b (d 12 a)) v
/-- the best offer, if less is lost by it than now -/
def TS (P : Int → Int32 → Prop) (now p1 x : Int32) : Prop := ((∀ r v, P r v → now.toInt ≤ v.toInt) ∧ x = -1) ∨ ∃ c v, BO P c v ∧ v.toInt < now.toInt ∧ (p1 = 0 → x.toInt = c) ∧ (¬ p1 = 0 → x = v)
theorem TS.u {P : Int → Int32 → Prop} {now p1 x y : Int32} (h : TS P now p1 x) (h' : TS P now p1 y) : x = y := by
  rcases h with ⟨a, b⟩ | ⟨c, v, a, b0, b1, b2⟩
  · rcases h' with ⟨-, b'⟩ | ⟨c', v', a', b0', -⟩
    · rw [b, b']
    · have := a _ _ a'.1
      omega
  · rcases h' with ⟨a', -⟩ | ⟨c', v', a', -, d1, d2⟩
    · have := a' _ _ a.1
      omega
    · obtain ⟨e1, e2⟩ := BO.u a a'
      by_cases c0 : p1 = 0
      · exact ic_eq.mpr (by rw [b1 c0, d1 c0, e1])
      · rw [b2 c0, d2 c0, e2]
theorem ts_told {P : Int → Int32 → Prop} {fu : Nat} {p1 now : Int32} {g : gT} {L : lT} (h : LO P g) : Pc (if g 13 0 = 0 then fX10_swapped_9_p120 fu g L else if now ≤ g 13 2 then fX10_swapped_9_p120 fu g L else cb (fX4_told_13 fu p1 g L) (fun x16 g17 L18 => fX10_swapped_9_p121 fu x16 g17 L18)) (fun x _ _ => TS P now p1 x) := by
  unfold fX10_swapped_9_p120 fX10_swapped_9_p121 fX4_told_13 fX4_told_13_p24
  rcases h with ⟨a, b⟩ | ⟨a, b⟩
  · rw [if_pos a]
    exact pc_some (Or.inl ⟨fun r v hh => absurd hh (b r v), rfl⟩)
  · rw [if_neg a]
    refine pc_ite (fun c => pc_some (Or.inl ⟨fun r v hh => ?_, rfl⟩)) (fun c => ?_)
    · have := ic_le.mp c
      have := (b.2 r v hh).1
      omega
    · have c := icc_nle (m := now.toInt) (n := (g 13 2).toInt) rfl rfl c
      rw [if_neg a]
      by_cases c0 : p1 = 0
      · rw [if_pos c0, cbs]
        exact pc_some (Or.inr ⟨_, _, b, c, fun _ => rfl, fun hh => absurd c0 hh⟩)
      · rw [if_neg c0, cbs]
        exact pc_some (Or.inr ⟨_, _, b, c, fun hh => absurd hh c0, fun _ => rfl⟩)
theorem swap_x {cs : Nat → List Int} {n fu : Nat} {p1 : Int32} {g d : gT} {L : lT} (h : DC cs n g d) : Pc (fX10_swapped_9 fu p1 g L) (fun x _ _ => ∃ w, LV cs n d w ∧ TS (PP (FS cs n d) n n 0) w p1 x) := by
  unfold fX10_swapped_9
  refine pc_cb (lv_x h) (fun x1 g2 L3 e2 => pc_cb clear_x (fun x5 g6 L7 e6 => ?_))
  unfold fX10_swapped_9_l18
  have hW := h.2.2.2.1
  have hn := h.1
  have n12 := h.1.2
  refine pc_loop (fun v => ∃ a : Nat, v.1.toInt = (a : Int) ∧ a ≤ n ∧ (∀ k, k ≠ 13 → k ≠ 21 → (k < 43 ∨ 48 < k) → v.2.1 k = g k) ∧ LO (PP (FS cs n d) n a 0) v.2.1) (fun k18 hk v hv => ?_) ⟨0, rfl, by omega, fun k a b c => (e6.2 k a).trans (e2.2 k b c), Or.inl ⟨e6.1, fun _ _ => pp_0⟩⟩
  obtain ⟨v3, g', L'⟩ := v
  obtain ⟨a, ha, an, ek, hl⟩ := hv
  replace ha : v3.toInt = (a : Int) := ha
  replace ek : ∀ k, k ≠ 13 → k ≠ 21 → (k < 43 ∨ 48 < k) → g' k = g k := ek
  replace hl : LO (PP (FS cs n d) n a 0) g' := hl
  show Pc (fX10_swapped_9_s18 fu p1 x1 k18 v3 g' L') _
  unfold fX10_swapped_9_s18 fX10_lessonCount_9
  rw [ek 1 (by decide) (by decide) (by omega), cbs]
  refine pc_ite (fun c => ?_) (fun c => ?_)
  · have c := icc_le hn.1 ha c
    have em : a = n := by omega
    rw [em] at hl
    exact pc_mo (ts_told hl) (fun x _ _ e => ⟨x1, e2.1, e⟩)
  · have c := icc_nle hn.1 ha c
    refine pc_lti (fun x14 e14 => ?_)
    have h14 : x14.toInt = ((a + 1 : Nat) : Int) := by rw [e14, ic_addc ha (n := 1) rfl (by omega) (by omega)]; omega
    unfold fX10_swapped_9_l31
    refine pc_loop (fun v => ∃ b : Nat, v.1.toInt = (b : Int) ∧ a < b ∧ b ≤ n ∧ (∀ k, k ≠ 13 → k ≠ 21 → (k < 43 ∨ 48 < k) → v.2.1 k = g k) ∧ LO (PP (FS cs n d) n a b) v.2.1) (fun k31 hk2 v hv => ?_) ⟨a + 1, h14, by omega, by omega, ek, hl.c rfl (fun _ _ => pp_in)⟩
    obtain ⟨v4, g4, L4⟩ := v
    obtain ⟨b, hb, ab, bn, ek, hl⟩ := hv
    replace hb : v4.toInt = (b : Int) := hb
    replace ek : ∀ k, k ≠ 13 → k ≠ 21 → (k < 43 ∨ 48 < k) → g4 k = g k := ek
    replace hl : LO (PP (FS cs n d) n a b) g4 := hl
    show Pc (fX10_swapped_9_s31 fu k18 p1 x1 v3 k31 v4 g4 L4) _
    unfold fX10_swapped_9_s31 fX10_lessonCount_9
    rw [ek 1 (by decide) (by decide) (by omega), cbs]
    refine pc_ite (fun c => ?_) (fun c => ?_)
    · have c := icc_le hn.1 hb c
      have em : b = n := by omega
      rw [em] at hl
      refine hk _ ⟨a + 1, ?_, by omega, ek, hl.c rfl (fun _ _ => pp_out)⟩
      show (v3 + 1).toInt = _
      rw [ic_addc ha (n := 1) rfl (by omega) (by omega)]; omega
    · have c := icc_nle hn.1 hb c
      have bn' : b < n := by omega
      have ea : v3.toNatClampNeg = a := by rw [nc, ha]; omega
      have eb : v4.toNatClampNeg = b := by rw [nc, hb]; omega
      have ne : a ≠ b := by omega
      have h25 : g4 25 = g 25 := ek 25 (by decide) (by decide) (by omega)
      have ya : g 25 a = d 12 a := (h.2.1 a (by omega)).2.1
      have yb : g 25 b = d 12 b := (h.2.1 b (by omega)).2.1
      refine pc_cb exch_x (fun _ g27 L28 e27 => ?_)
      obtain ⟨-, -, e27⟩ := e27
      rw [ea, eb, h25, ya, yb] at e27
      have hD : DC cs n g27 (upd2 (upd2 d 12 a (d 12 b)) 12 b (d 12 a)) := by
        have x := ((h.c2 ek).put (q := 0) (l := a) (v := d 12 b) (by decide) (by omega) (fun e => absurd e (by decide))).put (q := 0) (l := b) (v := d 12 a) (by decide) (by omega) (fun e => absurd e (by decide))
        rw [show 12 * 0 + a = a by omega, show 12 * 0 + b = b by omega] at x
        rw [e27]; exact x
      refine pc_cb (lv_x hD) (fun x30 g31 L32 e31 => ?_)
      have o27 : ∀ k, k ≠ 25 → g27 k = g4 k := fun k hk => by rw [e27]; exact funext fun _ => by rw [upd2_nk hk, upd2_nk hk]
      have hl' : LO (PP (FS cs n d) n a b) g31 := hl.c ((e31.2 13 (by decide) (by omega)).trans (o27 13 (by decide))) (fun _ _ => Iff.rfl)
      have k1 : (100 * v3 + v4).toInt = 100 * (a : Int) + (b : Int) := ic_addc (ic_mulc (m := 100) rfl ha (by omega) (by omega)) hb (by omega) (by omega)
      refine pc_cb (offer_o k1 hl') (fun _ g35 L36 e35 => pc_cb exch_x (fun _ g39 L40 e39 => ?_))
      obtain ⟨-, -, e39⟩ := e39
      have f25 : g35 25 = g27 25 := (e35.2 25 (by decide)).trans (e31.2 25 (by decide) (by omega))
      have za : g27 25 a = d 12 b := by rw [e27, upd2_nj ne, upd2_at]
      have zb : g27 25 b = d 12 a := by rw [e27, upd2_at]
      rw [ea, eb, f25, za, zb] at e39
      have k39 : ∀ k, k ≠ 25 → g39 k = g35 k := fun k hk => by rw [e39]; exact funext fun _ => by rw [upd2_nk hk, upd2_nk hk]
      refine hk2 _ ⟨b + 1, ?_, by omega, by omega, fun k x y z => ?_, ?_⟩
      · show (v4 + 1).toInt = _
        rw [ic_addc hb (n := 1) rfl (by omega) (by omega)]; omega
      · show g39 k = g k
        by_cases k25 : k = 25
        · subst k25
          funext j
          rw [e39]
          by_cases jb : j = b
          · rw [jb, upd2_at, yb]
          · rw [upd2_nj jb]
            by_cases ja : j = a
            · rw [ja, upd2_at, ya]
            · rw [upd2_nj ja, f25, e27, upd2_nj jb, upd2_nj ja, h25]
        · rw [k39 k k25, e35.2 k x, e31.2 k y z, o27 k k25, ek k x y z]
      · show LO (PP (FS cs n d) n a (b + 1)) g39
        exact e35.1.c (k39 13 (by decide)) (pp_s (fun v hv => LV.u (wf_p (wf_p hW)) hv e31.1) e31.1 ab bn')
/-- what the reference holds of the offers by which less is lost than now -/
def MSw (P : Int → Int32 → Prop) (now b f : Int32) : Prop := (b = -1 ∧ f = now ∧ ∀ r v, P r v → now.toInt ≤ v.toInt) ∨ (¬ b = -1 ∧ BO P b.toInt f ∧ f.toInt < now.toInt)
theorem MSw.c {P P' : Int → Int32 → Prop} {now b f : Int32} (h : MSw P now b f) (hp : ∀ r v, P r v ↔ P' r v) : MSw P' now b f := by
  rw [← of_iff hp]; exact h
theorem swap_m {cs : Nat → List Int} {n fu : Nat} {p1 x7 : Int32} {g d : gT} {L : lT} (hM : MD cs n d) (e : Em d g) : Pc (fX12_swap_l26 fu p1 (-1) x7 0 g L) (fun x g1 _ => g1 0 = d 0 ∧ TS (PP (FS cs n d) n n 0) x7 p1 x) := by
  unfold fX12_swap_l26
  have hW := hM.2.1
  have n12 := hM.1.2
  refine pc_loop (fun v => ∃ a : Nat, v.2.2.1.toInt = (a : Int) ∧ a ≤ n ∧ Em d v.2.2.2.1 ∧ MSw (PP (FS cs n d) n a 0) x7 v.1 v.2.1) (fun k26 hk v hv => ?_) ⟨0, rfl, by omega, e, Or.inl ⟨rfl, rfl, fun r v hh => absurd hh pp_0⟩⟩
  obtain ⟨v2, v3, v4, g', L'⟩ := v
  obtain ⟨a, ha, an, e, hl⟩ := hv
  replace ha : v4.toInt = (a : Int) := ha
  replace e : Em d g' := e
  replace hl : MSw (PP (FS cs n d) n a 0) x7 v2 v3 := hl
  show Pc (fX12_swap_s26 fu p1 k26 v2 v3 v4 g' L') _
  unfold fX12_swap_s26 fX12_swap_p114 fX12_swap_p119
  have e01 : (g' 0 1).toInt = (n : Int) := by rw [e 0 (by omega)]; exact hM.1.1
  refine pc_ite (fun c => ?_) (fun c => ?_)
  · have c := icc_le e01 ha c
    have em : a = n := by omega
    rw [em] at hl
    rcases hl with ⟨l1, -, l2⟩ | ⟨l1, l2, l3⟩
    · rw [if_pos l1]
      exact pc_some ⟨e 0 (by omega), Or.inl ⟨l2, l1⟩⟩
    · rw [if_neg l1]
      exact pc_ite (fun c => pc_some ⟨e 0 (by omega), Or.inr ⟨_, _, l2, l3, fun _ => rfl, fun hh => absurd c hh⟩⟩) (fun c => pc_some ⟨e 0 (by omega), Or.inr ⟨_, _, l2, l3, fun hh => absurd hh c, fun _ => rfl⟩⟩)
  · have c := icc_nle e01 ha c
    refine pc_lti (fun x14 e14 => ?_)
    have h14 : x14.toInt = ((a + 1 : Nat) : Int) := by rw [e14, ic_addc ha (n := 1) rfl (by omega) (by omega)]; omega
    unfold fX12_swap_l41
    refine pc_loop (fun v => ∃ b : Nat, v.2.2.1.toInt = (b : Int) ∧ a < b ∧ b ≤ n ∧ Em d v.2.2.2.1 ∧ MSw (PP (FS cs n d) n a b) x7 v.1 v.2.1) (fun k41 hk2 v hv => ?_) ⟨a + 1, h14, by omega, by omega, e, hl.c (fun _ _ => pp_in)⟩
    obtain ⟨w2, w3, v5, g4, L4⟩ := v
    obtain ⟨b, hb, ab, bn, e, hl⟩ := hv
    replace hb : v5.toInt = (b : Int) := hb
    replace e : Em d g4 := e
    replace hl : MSw (PP (FS cs n d) n a b) x7 w2 w3 := hl
    show Pc (fX12_swap_s41 fu k26 p1 v4 k41 w2 w3 v5 g4 L4) _
    unfold fX12_swap_s41 fX12_swap_p93
    have e01 : (g4 0 1).toInt = (n : Int) := by rw [e 0 (by omega)]; exact hM.1.1
    refine pc_ite (fun c => ?_) (fun c => ?_)
    · have c := icc_le e01 hb c
      have em : b = n := by omega
      rw [em] at hl
      refine hk _ ⟨a + 1, ?_, by omega, e, hl.c (fun _ _ => pp_out)⟩
      show (v4 + 1).toInt = _
      rw [ic_addc ha (n := 1) rfl (by omega) (by omega)]; omega
    · have c := icc_nle e01 hb c
      have ea : (0 + v4).toNatClampNeg = a := by rw [nc, ic_addc (m := 0) rfl ha (by omega) (by omega)]; omega
      have eb : (0 + v5).toNatClampNeg = b := by rw [nc, ic_addc (m := 0) rfl hb (by omega) (by omega)]; omega
      have ne : a ≠ b := by omega
      refine pc_cb swaps_m (fun _ g17 L18 e17 => ?_)
      obtain ⟨-, -, e17⟩ := e17
      rw [ea, eb, e 12 (by omega)] at e17
      have q17 : Em (upd2 (upd2 d 12 a (d 12 b)) 12 b (d 12 a)) g17 := by rw [e17]; exact e.put.put
      refine pc_cb (lv_m (cs := cs) (n := n) ((MD.put (MD.put hM)).e q17)) (fun x20 g21 L22 e21 => pc_cb swaps_m (fun _ g25 L26 e25 => ?_))
      obtain ⟨-, -, e25⟩ := e25
      have p20 : FS cs n d a b x20 := e21.1.e q17
      have f12 : g21 12 = g17 12 := e21.2 12 (by omega)
      have za : g17 12 a = d 12 b := by rw [e17, upd2_nj ne, upd2_at]
      have zb : g17 12 b = d 12 a := by rw [e17, upd2_at]
      rw [ea, eb, f12, za, zb] at e25
      have r25 : Em d g25 := by
        intro k hk
        by_cases h12 : k = 12
        · subst h12
          funext j
          rw [e25]
          by_cases jb : j = b
          · rw [jb, upd2_at]
          · rw [upd2_nj jb]
            by_cases ja : j = a
            · rw [ja, upd2_at]
            · rw [upd2_nj ja, f12, e17, upd2_nj jb, upd2_nj ja, e 12 (by omega)]
        · funext j
          rw [e25, upd2_nk h12, upd2_nk h12, e21.2 k hk, e17, upd2_nk h12, upd2_nk h12, e k hk]
      have k1 : (100 * v4 + v5).toInt = 100 * (a : Int) + (b : Int) := ic_addc (ic_mulc (m := 100) rfl ha (by omega) (by omega)) hb (by omega) (by omega)
      have es : ∀ r v, Ad (PP (FS cs n d) n a b) (100 * (a : Int) + (b : Int)) x20 r v ↔ PP (FS cs n d) n a (b + 1) r v := pp_s (fun v hv => LV.u (wf_p (wf_p hW)) hv p20) p20 ab (by omega)
      have ew : (v5 + 1).toInt = ((b + 1 : Nat) : Int) := by rw [ic_addc hb (n := 1) rfl (by omega) (by omega)]; omega
      refine pc_ite (fun c1 => pc_lti (fun x29 e29 => hk2 _ ⟨b + 1, ew, by omega, by omega, r25, MSw.c (Or.inr ?_) es⟩)) (fun c1 => hk2 _ ⟨b + 1, ew, by omega, by omega, r25, MSw.c ?_ es⟩)
      · have c1 := icc_lt (m := x20.toInt) (n := w3.toInt) rfl rfl c1
        have h29 : x29.toInt = 100 * (a : Int) + (b : Int) := by rw [e29]; exact k1
        refine ⟨fun e => ?_, ?_, ?_⟩
        · replace e : x29 = -1 := e
          rw [e] at h29
          have : (-1 : Int32).toInt = -1 := rfl
          omega
        · show BO _ x29.toInt x20
          rw [h29]
          rcases hl with ⟨-, l2, l3⟩ | ⟨-, l2, -⟩
          · rw [l2] at c1
            exact bo_first (fun r v hh => by have := l3 r v hh; omega)
          · exact bo_new l2 (Or.inl c1)
        · show x20.toInt < x7.toInt
          rcases hl with ⟨-, l2, -⟩ | ⟨-, -, l3⟩
          · rw [l2] at c1; exact c1
          · omega
      · have c1 := icc_nlt (m := x20.toInt) (n := w3.toInt) rfl rfl c1
        rcases hl with ⟨l1, l2, l3⟩ | ⟨l1, l2, l3⟩
        · refine Or.inl ⟨l1, l2, fun r v hh => ?_⟩
          rcases hh with hh | ⟨-, hh⟩
          · exact l3 r v hh
          · rw [hh, ← l2]; exact c1
        · refine Or.inr ⟨l1, bo_keep l2 ?_, l3⟩
          have := pp_lt n12 l2.1
          have key : w3.toInt < x20.toInt ∨ (x20.toInt = w3.toInt ∧ w2.toInt ≤ 100 * (a : Int) + (b : Int)) := by omega
          exact key
theorem cr_swap {fu : Nat} {p1 : Int32} {g gm g1 g2 : gT} {L Lm L1 L2 : lT} {rx : Except String Int32} {rm : Int32} (h : CR g gm) (e1 : fX11_swap_0 fu p1 g L = some (rx, (g1, L1))) (e2 : fX12_swap fu p1 gm Lm = some (rm, (g2, L2))) : (rx = .ok rm ∧ g2 0 0 = 0) ∨ (rx = .error NSE ∧ g2 0 0 = 1) := by
  have a0 : upd2 gm 0 0 0 0 0 = 0 := upd2_at
  unfold fX11_swap_0 at e1
  unfold fX12_swap at e2
  unfold sti at e2
  have e2 : cb (fX12_isWhat fu p1 1 (upd2 gm 0 0 0) Lm) _ = some (rm, (g2, L2)) := e2
  have i1 : (1 : Int32).toInt = 1 := rfl
  have i2 : (2 : Int32).toInt = 2 := rfl
  by_cases c2 : 0 ≤ p1.toInt ∧ p1.toInt ≤ (1 : Int32).toInt
  rotate_left
  · rw [xwhat0 (fun hh => c2 (by omega))] at e1
    have e1 : some (.error NSE, (g, L)) = some (rx, (g1, L1)) := e1
    rw [what0 a0 c2] at e2
    have e2 : some ((0 : Int32), (upd2 (upd2 gm 0 0 0) 0 0 1, Lm)) = some (rm, (g2, L2)) := e2
    cases e1; cases e2
    exact Or.inr ⟨rfl, upd2_at⟩
  rw [xwhat1 c2.1 (by omega), cbxs] at e1
  rw [what1 a0 c2.1 c2.2, cbs, if_neg (by decide)] at e2
  obtain ⟨xa, ga, La, ea, e1⟩ := cb_some e1
  obtain ⟨xb, gb, Lb, eb, e2⟩ := cb_some e2
  cases e1
  obtain ⟨cs, hX, hM, -⟩ := dc_all h
  have hM := hM.d (e0_u (x := 0))
  obtain ⟨w, u1, u2⟩ := swap_x (hX.d (e0_u (x := 0))) _ _ _ ea
  have hb := lv_m hM _ _ _ eb
  have v := swap_m hM hb.2 _ _ _ e2
  obtain rfl := LV.u hM.2.1 u1 hb.1
  exact Or.inl ⟨by rw [TS.u u2 v.2], by rw [v.1]; exact a0⟩
end
section
/-! ===== other minutes held, in both ===== -/
theorem DC.now {cs : Nat → List Int} {n : Nat} {g g' d d' : gT} (h : DC cs n g d) (ek : ∀ k, (k < 9 ∨ (18 < k ∧ k < 21) ∨ 56 < k) → g' k = g k) (dk : ∀ k, k ≠ 12 → k < 29 → d' k = d k) (hh : ∀ i, i < n → HC i 25 12 g' d') (hr : ∀ i, i < n → 0 ≤ (d' 12 (24 + i)).toInt ∧ (d' 12 (24 + i)).toInt ≤ 9) : DC cs n g' d' := by
  obtain ⟨a1, a3, a4, a5, a6, a7, a8, a9, a10⟩ := h
  have n12 := a1.2
  have e1 : g' 1 = g 1 := ek 1 (by omega)
  have e3 : g' 3 = g 3 := ek 3 (by omega)
  have e6 : g' 6 = g 6 := ek 6 (by omega)
  have e8 : g' 8 = g 8 := ek 8 (by omega)
  have d0 : d' 0 = d 0 := dk 0 (by decide) (by decide)
  have d8 : d' 8 = d 8 := dk 8 (by decide) (by decide)
  refine ⟨by rw [e1]; exact a1, fun i hi => ⟨(a3 i hi).1.c (ek _ (by omega)) (ek _ (by omega)) (fun k x y => dk k (by omega) (by omega)), hh i hi⟩, ?_, wf_e a5 (dk 5 (by decide) (by decide)) (dk 6 (by decide) (by decide)) d8 (dk 9 (by decide) (by decide)), fun i hi => ⟨hr i hi, by rw [d8]; exact (a6 i hi).2⟩, ?_, ?_, ?_, ?_⟩
  · rw [e1, d0]; exact a4
  · rw [e6, e3, d0]; exact a7
  · rw [e3, ek 20 (by omega), ek 19 (by omega)]; exact a8
  · rw [e8, d0]; exact a9
  · rw [e8, d0]; exact a10
theorem DC.c3 {cs : Nat → List Int} {n : Nat} {g g' d : gT} (h : DC cs n g d) (ek : ∀ k, (k < 9 ∨ (18 < k ∧ k < 21) ∨ (24 < k ∧ k < 29) ∨ 56 < k) → g' k = g k) : DC cs n g' d :=
  h.now (fun k a => ek k (by omega)) (fun _ _ _ => rfl) (fun i hi => (h.2.1 i hi).2.c (ek _ (by omega)) (ek _ (by omega)) (ek _ (by omega)) (ek _ (by omega)) rfl) (fun i hi => (h.2.2.2.2.1 i hi).1)
theorem MD.now {cs : Nat → List Int} {n : Nat} {d d' : gT} (h : MD cs n d) (dk : ∀ k, k ≠ 12 → k < 29 → d' k = d k) : MD cs n d' := by
  unfold MD WF
  rw [dk 0 (by decide) (by decide), dk 5 (by decide) (by decide), dk 6 (by decide) (by decide), dk 8 (by decide) (by decide), dk 9 (by decide) (by decide), dk 10 (by decide) (by decide), dk 11 (by decide) (by decide)]
  exact h
/-! ===== pause answers alike ===== -/
/-- gaps of those that begin at t or later, among the first n, are longer -/
def gp (d : gT) (n : Nat) (t mins : Int32) : gT := fun k j => if k = 12 ∧ 12 ≤ j ∧ j < 12 + n ∧ ¬ d 1 (j - 12) < t then d 12 j + mins else d k j
theorem gp_k {d : gT} {n k : Nat} {t mins : Int32} (h : k ≠ 12) : gp d n t mins k = d k := funext fun j => if_neg (fun hh => h hh.1)
theorem gp_o {d : gT} {n j : Nat} {t mins : Int32} (h : j < 12 ∨ 12 + n ≤ j) : gp d n t mins 12 j = d 12 j := if_neg (fun hh => by omega)
theorem gp_g {d : gT} {n i : Nat} {t mins : Int32} (h : i < n) : gp d n t mins 12 (12 + i) = if d 1 i < t then d 12 (12 + i) else d 12 (12 + i) + mins := by
  show (if (12 : Nat) = 12 ∧ 12 ≤ 12 + i ∧ 12 + i < 12 + n ∧ ¬ d 1 (12 + i - 12) < t then _ else _) = _
  rw [show 12 + i - 12 = i by omega]
  by_cases c : d 1 i < t
  · rw [if_neg (fun hh => hh.2.2.2 c), if_pos c]
  · rw [if_pos ⟨rfl, by omega, by omega, c⟩, if_neg c]
theorem gp_0 {d : gT} {t mins : Int32} : gp d 0 t mins = d := by
  funext k j
  exact if_neg (fun hh => by omega)
theorem wf_gp {n m : Nat} {d : gT} {t mins : Int32} (hW : WF n d) : WF n (gp d m t mins) := wf_e hW (gp_k (by decide)) (gp_k (by decide)) (gp_k (by decide)) (gp_k (by decide))
/-- what is lost by a pause ahead of one of the first m -/
def QGa (cs : Nat → List Int) (n : Nat) (d : gT) (mins : Int32) (m : Nat) (r : Int) (v : Int32) : Prop := ∃ l : Nat, l < m ∧ r = (d 1 l).toInt ∧ LV cs n (gp d n (d 1 l) mins) v
theorem qg_0 {cs : Nat → List Int} {n : Nat} {d : gT} {mins : Int32} {r : Int} {v : Int32} : ¬ QGa cs n d mins 0 r v := fun ⟨_, h, _⟩ => absurd h (Nat.not_lt_zero _)
theorem qg_s {cs : Nat → List Int} {n m : Nat} {d : gT} {mins x : Int32} (hW : WF n d) (hx : LV cs n (gp d n (d 1 m) mins) x) : ∀ r v, Ad (QGa cs n d mins m) (d 1 m).toInt x r v ↔ QGa cs n d mins (m + 1) r v := fun r v => by
  constructor
  · intro hh
    rcases hh with ⟨l, a, b, c⟩ | ⟨a, b⟩
    · exact ⟨l, by omega, b, c⟩
    · rw [a, b]; exact ⟨m, by omega, rfl, hx⟩
  · intro ⟨l, a, b, c⟩
    by_cases e : l = m
    · rw [e] at b c
      exact Or.inr ⟨b, LV.u (wf_gp hW) c hx⟩
    · exact Or.inl ⟨l, by omega, b, c⟩
theorem pause_x {cs : Nat → List Int} {n fu : Nat} {p1 p2 : Int32} {g d : gT} {L : lT} (h : DC cs n g d) : Pc (fX10_leastByPause_9 fu p1 p2 g L) (fun x _ _ => TO (QGa cs n d p1 n) p2 x) := by
  unfold fX10_leastByPause_9
  refine pc_cb clear_x (fun x1 g2 L3 e2 => ?_)
  unfold fX10_leastByPause_9_l9
  have hW := h.2.2.2.1
  have hn := h.1
  have n12 := h.1.2
  refine pc_loop (fun v => ∃ m : Nat, v.1.toInt = (m : Int) ∧ m ≤ n ∧ (∀ k, k ≠ 26 → k ≠ 13 → k ≠ 21 → (k < 43 ∨ 48 < k) → v.2.1 k = g k) ∧ (∀ j, j < 12 → v.2.1 26 j = g 26 j) ∧ LO (QGa cs n d p1 m) v.2.1) (fun k9 hk v hv => ?_) ⟨0, rfl, by omega, fun k _ a _ _ => e2.2 k a, fun j _ => by show g2 26 j = _; rw [e2.2 26 (by decide)], Or.inl ⟨e2.1, fun _ _ => qg_0⟩⟩
  obtain ⟨v3, g', L'⟩ := v
  obtain ⟨m, hm, mn, ek, e26, hl⟩ := hv
  replace hm : v3.toInt = (m : Int) := hm
  replace ek : ∀ k, k ≠ 26 → k ≠ 13 → k ≠ 21 → (k < 43 ∨ 48 < k) → g' k = g k := ek
  replace e26 : ∀ j, j < 12 → g' 26 j = g 26 j := e26
  replace hl : LO (QGa cs n d p1 m) g' := hl
  show Pc (fX10_leastByPause_9_s9 fu p1 p2 k9 v3 g' L') _
  unfold fX10_leastByPause_9_s9 fX10_lessonCount_9
  rw [ek 1 (by decide) (by decide) (by decide) (by omega), cbs]
  refine pc_ite (fun c => ?_) (fun c => ?_)
  · have c := icc_le hn.1 hm c
    have em : m = n := by omega
    rw [em] at hl
    exact pc_cb (told_o hl) (fun x g1 L1 e => pc_some e.2)
  · have c := icc_nle hn.1 hm c
    have m' : m < n := by omega
    have ei : v3.toNatClampNeg = m := by rw [nc, hm]; omega
    rw [ei, show m % 12 = m by omega]
    refine pc_ck (fun _ _ => pc_ltn (fun q eq => ?_))
    subst eq
    refine pc_lti (fun x15 e15 => pc_cb rs_addGap (fun _ g17 L18 e17 => ?_))
    have d15 : x15 = d 1 m := by rw [e15, ek (57 + m) (by omega) (by omega) (by omega) (by omega)]; exact (h.2.1 m m').1.1.1
    have f1 : g' 1 = g 1 := ek 1 (by decide) (by decide) (by decide) (by omega)
    have f57 : ∀ j, j < n → g' (57 + j) 3 = d 1 j := fun j hj => by rw [ek (57 + j) (by omega) (by omega) (by omega) (by omega)]; exact (h.2.1 j hj).1.1.1
    have s26 : ∀ j, j < n → g17 26 j = gp d n (d 1 m) p1 12 (12 + j) := fun j hj => by
      rw [e17.1 j (by omega), gp_g hj, f57 j hj, f1, hn.1, d15, e26 j (by omega), (h.2.1 j hj).2.2.1]
      by_cases cc : d 1 j < d 1 m
      · rw [if_pos cc, if_neg (fun hh => hh.2 cc)]
      · rw [if_neg cc, if_pos ⟨by omega, cc⟩]
    have hD : DC cs n g17 (gp d n (d 1 m) p1) := by
      refine h.now (fun k a => (e17.2 k (by omega)).trans (ek k (by omega) (by omega) (by omega) (by omega))) (fun k hk _ => gp_k hk) (fun i hi => ?_) (fun i hi => ?_)
      · obtain ⟨z1, z2, z3, z4⟩ := (h.2.1 i hi).2
        refine ⟨?_, s26 i hi, ?_, ?_⟩
        · rw [e17.2 25 (by decide), ek 25 (by decide) (by decide) (by decide) (by omega), gp_o (by omega)]; exact z1
        · show g17 27 i = _
          rw [e17.2 27 (by decide), ek 27 (by decide) (by decide) (by decide) (by omega), gp_o (by omega)]; exact z3
        · show g17 28 i = _
          rw [e17.2 28 (by decide), ek 28 (by decide) (by decide) (by decide) (by omega), gp_o (by omega)]; exact z4
      · rw [gp_o (by omega)]; exact (h.2.2.2.2.1 i hi).1
    refine pc_cb (lv_x hD) (fun x20 g21 L22 e21 => ?_)
    have hl' : LO (QGa cs n d p1 m) g21 := hl.c ((e21.2 13 (by decide) (by omega)).trans (e17.2 13 (by decide))) (fun _ _ => Iff.rfl)
    have h15 : x15.toInt = (d 1 m).toInt := by rw [d15]
    refine pc_cb (offer_o h15 hl') (fun _ g25 L26 e25 => pc_cb rs_addGap (fun _ g29 L30 e29 => hk _ ⟨m + 1, ?_, by omega, fun k w x y z => ?_, fun j hj => ?_, ?_⟩))
    · show (v3 + 1).toInt = _
      rw [ic_addc hm (n := 1) rfl (by omega) (by omega)]; omega
    · show g29 k = g k
      rw [e29.2 k w, e25.2 k x, e21.2 k y z, e17.2 k w, ek k w x y z]
    · show g29 26 j = g 26 j
      have t1 : g25 1 = g' 1 := by rw [e25.2 1 (by decide), e21.2 1 (by decide) (by omega), e17.2 1 (by decide)]
      have t57 : g25 (57 + j) = g' (57 + j) := by rw [e25.2 _ (by omega), e21.2 _ (by omega) (by omega), e17.2 _ (by omega)]
      have t26 : g25 26 = g17 26 := by rw [e25.2 26 (by decide), e21.2 26 (by decide) (by omega)]
      rw [e29.1 j hj, t1, t57, t26, e17.1 j hj, ← e26 j hj]
      by_cases cc : (j : Int) < (g' 1 2).toInt ∧ ¬ g' (57 + j) 3 < x15
      · rw [if_pos cc, if_pos cc, Int32.add_assoc, Int32.add_right_neg, Int32.add_zero]
      · rw [if_neg cc, if_neg cc]
    · show LO (QGa cs n d p1 (m + 1)) g29
      exact e25.1.c (e29.2 13 (by decide)) (qg_s hW e21.1)
theorem pause_m {cs : Nat → List Int} {n fu : Nat} (hfu : 1180591620717411303424 ≤ fu) {p1 p2 : Int32} {g d : gT} {L : lT} (hM : MD cs n d) (hf : ∀ l, l < n → 0 ≤ (d 1 l).toInt) (e : ∀ k, k < 29 → g k = d k) (e42 : ∀ j, j < 48 → g 42 j = d 12 j) : Pc (fX12_pause_l51 fu p1 p2 (-1) 0 0 g L) (fun x g1 _ => g1 0 = d 0 ∧ TO (QGa cs n d p1 n) p2 x) := by
  unfold fX12_pause_l51
  have hW := hM.2.1
  have n12 := hM.1.2
  refine pc_loop (fun v => ∃ m : Nat, v.2.2.1.toInt = (m : Int) ∧ m ≤ n ∧ (∀ k, k < 29 → v.2.2.2.1 k = d k) ∧ (∀ j, j < 48 → v.2.2.2.1 42 j = d 12 j) ∧ MO (QGa cs n d p1 m) v.1 v.2.1) (fun k51 hk v hv => ?_) ⟨0, rfl, by omega, e, e42, Or.inl ⟨rfl, fun _ _ => qg_0⟩⟩
  obtain ⟨v3, v4, v5, g', L'⟩ := v
  obtain ⟨m, hm, mn, e, e42, hl⟩ := hv
  replace hm : v5.toInt = (m : Int) := hm
  replace e : ∀ k, k < 29 → g' k = d k := e
  replace e42 : ∀ j, j < 48 → g' 42 j = d 12 j := e42
  replace hl : MO (QGa cs n d p1 m) v3 v4 := hl
  show Pc (fX12_pause_s51 fu p1 p2 k51 v3 v4 v5 g' L') _
  unfold fX12_pause_s51 fX12_pause_p191 fX12_pause_p197
  have e01 : (g' 0 1).toInt = (n : Int) := by rw [e 0 (by omega)]; exact hM.1.1
  refine pc_ite (fun c => ?_) (fun c => ?_)
  · have c := icc_le e01 hm c
    have em : m = n := by omega
    rw [em] at hl
    rcases hl with ⟨l1, l2⟩ | ⟨l1, l2⟩
    · rw [if_pos l1]
      exact pc_some ⟨e 0 (by omega), Or.inl ⟨l2, l1⟩⟩
    · rw [if_neg l1]
      exact pc_ite (fun c => pc_some ⟨e 0 (by omega), Or.inr ⟨_, _, l2, fun _ => rfl, fun hh => absurd c hh⟩⟩) (fun c => pc_some ⟨e 0 (by omega), Or.inr ⟨_, _, l2, fun hh => absurd hh c, fun _ => rfl⟩⟩)
  have c := icc_nle e01 hm c
  have m' : m < n := by omega
  have ei : v5.toNatClampNeg = m := by rw [nc, hm]; omega
  unfold fX12_pause_l63
  refine pc_loop (fun v => ∃ q : Nat, v.1.toInt = (q : Int) ∧ q ≤ n ∧ (∀ k, k < 29 → v.2.1 k = gp d q (d 1 m) p1 k) ∧ (∀ j, j < 48 → v.2.1 42 j = d 12 j)) (fun k63 hk2 v hv => ?_) ⟨0, rfl, by omega, fun k hk => by rw [gp_0]; exact e k hk, e42⟩
  obtain ⟨v6, g4, L4⟩ := v
  obtain ⟨q, hq, qn, e4, e42⟩ := hv
  replace hq : v6.toInt = (q : Int) := hq
  replace e4 : ∀ k, k < 29 → g4 k = gp d q (d 1 m) p1 k := e4
  replace e42 : ∀ j, j < 48 → g4 42 j = d 12 j := e42
  have e4k : ∀ k, k ≠ 12 → k < 29 → g4 k = d k := fun k a b => by rw [e4 k b, gp_k a]
  have eq6 : v6.toNatClampNeg = q := by rw [nc, hq]; omega
  show Pc (fX12_pause_s63 fu k51 p1 p2 v3 v4 v5 k63 v6 g4 L4) _
  unfold fX12_pause_s63
  have e01 : (g4 0 1).toInt = (n : Int) := by rw [e4k 0 (by decide) (by omega)]; exact hM.1.1
  refine pc_ite (fun c => ?_) (fun c => ?_)
  · have c := icc_le e01 hq c
    have em : q = n := by omega
    rw [em] at e4
    refine pc_cb (lv_m (cs := cs) (n := n) ((hM.now (d' := gp d n (d 1 m) p1) (fun k a _ => gp_k a)).t e4)) (fun x24 g25 L26 e25 => pc_cb (pc_ex (uX12_copies_42_12 fu hfu _ _)) (fun _ g29 L30 e29 => ?_))
    have p24 : LV cs n (gp d n (d 1 m) p1) x24 := e25.1.t e4
    have r29 : ∀ k, k < 29 → g29 k = d k := by
      intro k hk
      by_cases h12 : k = 12
      · subst h12
        funext j
        by_cases hj : j < 48
        · rw [e29, cpd_at hj, e25.2 42 (by omega)]; exact e42 j hj
        · rw [e29, cpd_hi hj, e25.2 12 (by omega), e4 12 (by omega), gp_o (by omega)]
      · rw [e29, cpd_ne h12, e25.2 k (by omega), e4k k h12 hk]
    have r42 : ∀ j, j < 48 → g29 42 j = d 12 j := fun j hj => by rw [e29, cpd_ne (by decide), e25.2 42 (by omega)]; exact e42 j hj
    have es : ∀ r v, Ad (QGa cs n d p1 m) (d 1 m).toInt x24 r v ↔ QGa cs n d p1 (m + 1) r v := qg_s hW p24
    have ew : (v5 + 1).toInt = ((m + 1 : Nat) : Int) := by rw [ic_addc hm (n := 1) rfl (by omega) (by omega)]; omega
    have g1m : g29 1 m = d 1 m := by rw [r29 1 (by omega)]
    have take : BO (Ad (QGa cs n d p1 m) (d 1 m).toInt x24) (d 1 m).toInt x24 → Pc (fX12_pause_p164 fu k51 p1 p2 v5 x24 g29 L30) (fun x g1 _ => g1 0 = d 0 ∧ TO (QGa cs n d p1 n) p2 x) := fun hh => by
      unfold fX12_pause_p164 fX12_pause_p176
      rw [ei, g1m]
      exact pc_ck (fun _ _ => pc_lti (fun x32 e32 => hk _ ⟨m + 1, ew, by omega, r29, r42, (mo_new (by rw [e32]) (hf m m') hh).c es⟩))
    have keep : MO (Ad (QGa cs n d p1 m) (d 1 m).toInt x24) v3 v4 → Pc (fX12_pause_p176 fu k51 p1 p2 v3 v4 v5 g29 L30) (fun x g1 _ => g1 0 = d 0 ∧ TO (QGa cs n d p1 n) p2 x) := fun hh => by
      unfold fX12_pause_p176
      exact hk _ ⟨m + 1, ew, by omega, r29, r42, hh.c es⟩
    rcases hl with ⟨l1, l2⟩ | ⟨l1, l2⟩
    · rw [if_pos l1]
      exact take (bo_one l2)
    · rw [if_neg l1]
      refine pc_ite (fun c1 => keep (Or.inr ⟨l1, bo_keep l2 (Or.inl (ic_lt.mp c1))⟩)) (fun c1 => ?_)
      have c1 := icc_nlt (m := v4.toInt) (n := x24.toInt) rfl rfl c1
      refine pc_ite (fun c2 => ?_) (fun c2 => ?_)
      · rw [ei, g1m]
        refine pc_ck (fun _ _ => pc_ite (fun c3 => ?_) (fun c3 => ?_))
        · have c3 := ic_lt.mp c3
          exact take (bo_new l2 (Or.inr ⟨by rw [c2], by omega⟩))
        · have c3 := icc_nlt (m := (d 1 m).toInt) (n := v3.toInt) rfl rfl c3
          exact keep (Or.inr ⟨l1, bo_keep l2 (Or.inr ⟨by rw [c2], c3⟩)⟩)
      · have c2 := icc_neq (m := x24.toInt) (n := v4.toInt) rfl rfl c2
        exact take (bo_new l2 (Or.inl (by omega)))
  have c := icc_nle e01 hq c
  have q' : q < n := by omega
  have e12 : (12 + v6).toNatClampNeg = 12 + q := by rw [nc, ic_addc (m := 12) rfl hq (by omega) (by omega)]; omega
  have ew : (v6 + 1).toInt = ((q + 1 : Nat) : Int) := by rw [ic_addc hq (n := 1) rfl (by omega) (by omega)]; omega
  have go : ∀ (t0 : Int32) (La : lT), t0 = (if d 1 q < d 1 m then 0 else p1) → Pc (fX12_pause_p105 fu k51 k63 p1 p2 v3 v4 v5 v6 t0 (g4 12 (12 + q)) (12 + v6) g4 La) (fun x g1 _ => g1 0 = d 0 ∧ TO (QGa cs n d p1 n) p2 x) := by
    intro t0 La ht
    unfold fX12_pause_p105
    rw [e12]
    refine pc_ck (fun _ _ => pc_st (fun g37 e37 => hk2 _ ⟨q + 1, ew, by omega, fun k hk => ?_, fun j hj => ?_⟩))
    · show g37 k = _
      by_cases h12 : k = 12
      · subst h12
        funext j
        by_cases hj : j = 12 + q
        · rw [hj, e37, upd2_at, e4 12 (by omega), gp_o (by omega), gp_g (by omega), ht]
          by_cases cc : d 1 q < d 1 m
          · rw [if_pos cc, if_pos cc, Int32.add_zero]
          · rw [if_neg cc, if_neg cc]
        · rw [e37, upd2_nj hj, e4 12 (by omega)]
          by_cases lo : j < 12 ∨ 12 + q ≤ j
          · rw [gp_o lo, gp_o (by omega)]
          · obtain ⟨i, hi⟩ : ∃ i : Nat, j = 12 + i := ⟨j - 12, by omega⟩
            rw [hi, gp_g (by omega), gp_g (by omega)]
      · funext j
        rw [e37, upd2_nk h12, e4 k hk, gp_k h12, gp_k h12]
    · show g37 42 j = _
      rw [e37, upd2_nk (by decide)]; exact e42 j hj
  rw [e12, eq6, ei, e4k 1 (by decide) (by omega)]
  refine pc_ck (fun _ _ => pc_ck (fun _ _ => pc_ck (fun _ _ => pc_ite (fun cc => go _ _ ?_) (fun cc => go _ _ ?_))))
  · rw [if_pos cc]
  · rw [if_neg cc]
end
section
/-! ===== pause, answered ===== -/
abbrev IAE : String := "java/lang/IllegalArgumentException"
theorem xwith1 {fu : Nat} {g : gT} {L : lT} {p lo hi : Int32} (h1 : lo.toInt ≤ p.toInt) (h2 : p.toInt ≤ hi.toInt) : fX11_needWithin fu p lo hi g L = some (.ok (), (g, L)) := by
  unfold fX11_needWithin
  rw [if_neg (fun hh => by have := icc_lt (m := p.toInt) (n := lo.toInt) rfl rfl hh; omega), if_pos (ic_le.mpr h2)]
theorem xwith0 {fu : Nat} {g : gT} {L : lT} {p lo hi : Int32} (h : ¬ (lo.toInt ≤ p.toInt ∧ p.toInt ≤ hi.toInt)) : fX11_needWithin fu p lo hi g L = some (.error IAE, (g, L)) := by
  unfold fX11_needWithin fX11_needWithin_p10
  by_cases c : p < lo
  · rw [if_pos c]
  · rw [if_neg c, if_neg (fun hh => ?_)]
    have c := icc_nlt (m := p.toInt) (n := lo.toInt) rfl rfl c
    exact h ⟨c, ic_le.mp hh⟩
theorem cr_pause {fu : Nat} (hfu : 1180591620717411303424 ≤ fu) {p1 p2 : Int32} {g gm g1 g2 : gT} {L Lm L1 L2 : lT} {rx : Except String Int32} {rm : Int32} (hS : CS g gm) (e1 : fX11_pause_0 fu p1 p2 g L = some (rx, (g1, L1))) (e2 : fX12_pause fu p1 p2 gm Lm = some (rm, (g2, L2))) : (rx = .ok rm ∧ g2 0 0 = 0) ∨ (rx = .error NSE ∧ g2 0 0 = 1) ∨ (rx = .error IAE ∧ g2 0 0 = 2) := by
  obtain ⟨h, hV⟩ := hS
  have a0 : upd2 gm 0 0 0 0 0 = 0 := upd2_at
  unfold fX11_pause_0 at e1
  unfold fX12_pause fX12_pause_p29 at e2
  unfold sti at e2
  have e2 : cb (fX12_isWhat fu p2 1 (upd2 gm 0 0 0) Lm) _ = some (rm, (g2, L2)) := e2
  have i1 : (1 : Int32).toInt = 1 := rfl
  have i2 : (2 : Int32).toInt = 2 := rfl
  by_cases c2 : 0 ≤ p2.toInt ∧ p2.toInt ≤ (1 : Int32).toInt
  rotate_left
  · rw [xwhat0 (fun hh => c2 (by omega))] at e1
    have e1 : some (.error NSE, (g, L)) = some (rx, (g1, L1)) := e1
    rw [what0 a0 c2] at e2
    have e2 : some ((0 : Int32), (upd2 (upd2 gm 0 0 0) 0 0 1, Lm)) = some (rm, (g2, L2)) := e2
    cases e1; cases e2
    exact Or.inr (Or.inl ⟨rfl, upd2_at⟩)
  rw [xwhat1 c2.1 (by omega), cbxs] at e1
  rw [what1 a0 c2.1 c2.2, cbs, if_neg (by decide)] at e2
  by_cases c3 : (1 : Int32).toInt ≤ p1.toInt ∧ p1.toInt ≤ (30 : Int32).toInt
  rotate_left
  · rw [xwith0 c3] at e1
    have e1 : some (.error IAE, (g, L)) = some (rx, (g1, L1)) := e1
    rw [within0 c3, cbs, right0 a0 (by decide), cbs, if_pos rfl] at e2
    cases e1; cases e2
    exact Or.inr (Or.inr ⟨rfl, upd2_at⟩)
  rw [xwith1 c3.1 c3.2, cbxs] at e1
  rw [within1 c3.1 c3.2, cbs, right1 a0, cbs, if_neg (by decide)] at e2
  obtain ⟨xa, ga, La, ea, e1⟩ := cb_some e1
  obtain ⟨xb, gb, Lb, eb, e2⟩ := cb_some e2
  cases e1
  obtain ⟨cs, hX, hM, -⟩ := dc_all h
  have hb := pc_ex (uX12_copies_12_42 fu hfu _ _) _ _ _ eb
  have u := pause_x (hX.d (e0_u (x := 0))) _ _ _ ea
  have v := pause_m hfu (hM.d (e0_u (x := 0))) (fun l hl => by rw [upd2_nk (by decide)]; exact (hV.1.1 l (by omega)).1.1) (fun k hk => by rw [hb, cpd_ne (by omega)]) (fun j hj => by rw [hb, cpd_at hj]) _ _ _ e2
  exact Or.inl ⟨by rw [TO.u u v.2], by rw [v.1]; exact a0⟩
/-! ===== bell answers alike ===== -/
/-- the first n run over by no more than mins -/
def bl (d : gT) (n : Nat) (mins : Int32) : gT := fun k j => if k = 12 ∧ j < n ∧ mins < d 12 j then mins else d k j
theorem bl_k {d : gT} {n k : Nat} {mins : Int32} (h : k ≠ 12) : bl d n mins k = d k := funext fun j => if_neg (fun hh => h hh.1)
theorem bl_o {d : gT} {n j : Nat} {mins : Int32} (h : n ≤ j) : bl d n mins 12 j = d 12 j := if_neg (fun hh => by omega)
theorem bl_i {d : gT} {n i : Nat} {mins : Int32} (h : i < n) : bl d n mins 12 i = if mins < d 12 i then mins else d 12 i := by
  show (if (12 : Nat) = 12 ∧ i < n ∧ mins < d 12 i then _ else _) = _
  by_cases c : mins < d 12 i
  · rw [if_pos ⟨rfl, h, c⟩, if_pos c]
  · rw [if_neg (fun hh => c hh.2.2), if_neg c]
theorem bl_0 {d : gT} {mins : Int32} : bl d 0 mins = d := by
  funext k j
  exact if_neg (fun hh => by omega)
theorem bell_x {cs : Nat → List Int} {n fu : Nat} {p1 : Int32} {g d : gT} {L : lT} (h : DC cs n g d) : Pc (fX10_worthOfBell_9 fu p1 g L) (fun x _ _ => ∃ v w, LV cs n d v ∧ LV cs n (bl d n p1) w ∧ x = v - w) := by
  have hn := h.1
  have n12 := h.1.2
  unfold fX10_worthOfBell_9
  refine pc_cb (lv_x h) (fun x1 g2 L3 e2 => pc_stA (fun g5 e5 => ?_))
  have s49 : ∀ j, j < 12 → g5 49 j = g 25 j := fun j hj => by
    rw [e5, updA_at, cpy_at, if_pos hj, e2.2 25 (by decide) (by omega)]
  have k5 : ∀ k, k ≠ 49 → k ≠ 21 → (k < 43 ∨ 48 < k) → g5 k = g k := fun k a b c => by rw [e5, updA_ne a, e2.2 k b c]
  unfold fX10_worthOfBell_9_l29
  refine pc_loop (fun v => ∃ m : Nat, v.1.toInt = (m : Int) ∧ m ≤ n ∧ (∀ k, k ≠ 25 → k ≠ 49 → k ≠ 21 → (k < 43 ∨ 48 < k) → v.2.1 k = g k) ∧ (∀ j, j < 12 → v.2.1 49 j = g 25 j) ∧ (∀ j, j < 12 → v.2.1 25 j = if j < m then (if p1 < g 25 j then p1 else g 25 j) else g 25 j)) (fun k29 hk v hv => ?_) ⟨0, rfl, by omega, fun k _ a b c => k5 k a b c, s49, fun j hj => by
    show g5 25 j = _
    rw [k5 25 (by decide) (by decide) (by omega), if_neg (Nat.not_lt_zero _)]⟩
  obtain ⟨v3, g', L'⟩ := v
  obtain ⟨m, hm, mn, ek, e49, e25⟩ := hv
  replace hm : v3.toInt = (m : Int) := hm
  replace ek : ∀ k, k ≠ 25 → k ≠ 49 → k ≠ 21 → (k < 43 ∨ 48 < k) → g' k = g k := ek
  replace e49 : ∀ j, j < 12 → g' 49 j = g 25 j := e49
  replace e25 : ∀ j, j < 12 → g' 25 j = if j < m then (if p1 < g 25 j then p1 else g 25 j) else g 25 j := e25
  show Pc (fX10_worthOfBell_9_s29 fu p1 x1 k29 v3 g' L') _
  unfold fX10_worthOfBell_9_s29 fX10_lessonCount_9
  rw [ek 1 (by decide) (by decide) (by decide) (by omega), cbs]
  refine pc_ite (fun c => ?_) (fun c => ?_)
  · have c := icc_le hn.1 hm c
    have em : m = n := by omega
    have hD : DC cs n g' (bl d n p1) := by
      refine h.now (fun k a => ek k (by omega) (by omega) (by omega) (by omega)) (fun k hk _ => bl_k hk) (fun i hi => ?_) (fun i hi => ?_)
      · obtain ⟨z1, z2, z3, z4⟩ := (h.2.1 i hi).2
        refine ⟨?_, ?_, ?_, ?_⟩
        · rw [e25 i (by omega), if_pos (by omega), z1, bl_i hi]
        · show g' 26 i = _
          rw [ek 26 (by decide) (by decide) (by decide) (by omega), bl_o (by omega)]; exact z2
        · show g' 27 i = _
          rw [ek 27 (by decide) (by decide) (by decide) (by omega), bl_o (by omega)]; exact z3
        · show g' 28 i = _
          rw [ek 28 (by decide) (by decide) (by decide) (by omega), bl_o (by omega)]; exact z4
      · rw [bl_o (by omega)]; exact (h.2.2.2.2.1 i hi).1
    exact pc_cb (lv_x hD) (fun x11 g12 L13 e12 => pc_stA (fun g15 e15 => pc_some ⟨x1, x11, e2.1, e12.1, rfl⟩))
  · have c := icc_nle hn.1 hm c
    have ei : v3.toNatClampNeg = m := by rw [nc, hm]; omega
    have ew : (v3 + 1).toInt = ((m + 1 : Nat) : Int) := by rw [ic_addc hm (n := 1) rfl (by omega) (by omega)]; omega
    rw [ei, e49 m (by omega)]
    refine pc_ck (fun _ _ => pc_ck (fun _ _ => pc_st (fun g16 e16 => hk _ ⟨m + 1, ew, by omega, fun k a b c e => ?_, fun j hj => ?_, fun j hj => ?_⟩)))
    · show g16 k = g k
      rw [e16, ← ek k a b c e]; exact funext fun _ => upd2_nk a
    · show g16 49 j = _
      rw [e16, upd2_nk (by decide)]; exact e49 j hj
    · show g16 25 j = _
      rw [e16]
      by_cases q : j = m
      · rw [q, upd2_at, if_pos (show m < m + 1 by omega)]
      · rw [upd2_nj q, e25 j hj]
        by_cases q2 : j < m
        · rw [if_pos q2, if_pos (show j < m + 1 by omega)]
        · rw [if_neg q2, if_neg (show ¬ j < m + 1 by omega)]
theorem bell_m {cs : Nat → List Int} {n fu : Nat} (hfu : 1180591620717411303424 ≤ fu) {p1 v2 : Int32} {g d : gT} {L : lT} (hM : MD cs n d) (e : ∀ k, k < 29 → g k = d k) : Pc (fX12_bell_l41 fu p1 v2 0 g L) (fun x g1 _ => g1 0 = d 0 ∧ ∃ w, LV cs n (bl d n p1) w ∧ x = v2 - w) := by
  unfold fX12_bell_l41
  have n12 := hM.1.2
  refine pc_loop (fun v => ∃ m : Nat, v.1.toInt = (m : Int) ∧ m ≤ n ∧ (∀ k, k < 29 → v.2.1 k = bl d m p1 k)) (fun k41 hk v hv => ?_) ⟨0, rfl, by omega, fun k hk => by rw [bl_0]; exact e k hk⟩
  obtain ⟨v3, g', L'⟩ := v
  obtain ⟨m, hm, mn, e⟩ := hv
  replace hm : v3.toInt = (m : Int) := hm
  replace e : ∀ k, k < 29 → g' k = bl d m p1 k := e
  have ek : ∀ k, k ≠ 12 → k < 29 → g' k = d k := fun k a b => by rw [e k b, bl_k a]
  show Pc (fX12_bell_s41 fu p1 v2 k41 v3 g' L') _
  unfold fX12_bell_s41 fX12_bell_p70
  have e01 : (g' 0 1).toInt = (n : Int) := by rw [ek 0 (by decide) (by omega)]; exact hM.1.1
  have e0 : (0 + v3).toNatClampNeg = m := by rw [nc, ic_addc (m := 0) rfl hm (by omega) (by omega)]; omega
  refine pc_ite (fun c => ?_) (fun c => ?_)
  · have c := icc_le e01 hm c
    have em : m = n := by omega
    rw [em] at e
    refine pc_cb (lv_m (cs := cs) (n := n) ((hM.now (d' := bl d n p1) (fun k a _ => bl_k a)).t e)) (fun x20 g21 L22 e21 => pc_lti (fun x24 e24 => pc_cb (pc_ex (uX12_copies_42_12 fu hfu _ _)) (fun _ g26 L27 e26 => pc_some ⟨?_, x20, e21.1.t e, e24⟩)))
    rw [e26, cpd_ne (by decide), e21.2 0 (by omega), ek 0 (by decide) (by omega)]
  · have c := icc_nle e01 hm c
    have ew : (v3 + 1).toInt = ((m + 1 : Nat) : Int) := by rw [ic_addc hm (n := 1) rfl (by omega) (by omega)]; omega
    have em : g' 12 m = d 12 m := by rw [e 12 (by omega), bl_o (Nat.le_refl _)]
    have step : ∀ x : Int32, x = (if p1 < d 12 m then p1 else d 12 m) → ∀ k, k < 29 → upd2 g' 12 m x k = bl d (m + 1) p1 k := fun x hx k hk => by
      by_cases h12 : k = 12
      · subst h12
        funext j
        by_cases hj : j = m
        · rw [hj, upd2_at, bl_i (by omega)]; exact hx
        · rw [upd2_nj hj, e 12 (by omega)]
          by_cases q : j < m
          · rw [bl_i q, bl_i (by omega)]
          · rw [bl_o (by omega), bl_o (by omega)]
      · funext j
        rw [upd2_nk h12, e k hk, bl_k h12, bl_k h12]
    rw [e0, em]
    refine pc_ck (fun _ _ => pc_ite (fun c1 => hk _ ⟨m + 1, ew, by omega, fun k hk => ?_⟩) (fun c1 => pc_ck (fun _ _ => pc_st (fun g30 e30 => hk _ ⟨m + 1, ew, by omega, fun k hk => ?_⟩))))
    · have c1 := ic_le.mp c1
      have s := step (d 12 m) (by rw [if_neg (fun hh => by have := ic_lt.mp hh; omega)]) k hk
      rw [← em, upd2_s] at s
      exact s
    · show g30 k = _
      have c1 := icc_nle (m := (d 12 m).toInt) (n := p1.toInt) rfl rfl c1
      rw [e30]
      exact step p1 (by rw [if_pos (ic_lt.mpr c1)]) k hk
theorem cr_bell {fu : Nat} (hfu : 1180591620717411303424 ≤ fu) {p1 : Int32} {g gm g1 g2 : gT} {L Lm L1 L2 : lT} {rx : Except String Int32} {rm : Int32} (h : CR g gm) (e1 : fX11_bell_0 fu p1 g L = some (rx, (g1, L1))) (e2 : fX12_bell fu p1 gm Lm = some (rm, (g2, L2))) : (rx = .ok rm ∧ g2 0 0 = 0) ∨ (rx = .error IAE ∧ g2 0 0 = 1) := by
  have a0 : upd2 gm 0 0 0 0 0 = 0 := upd2_at
  unfold fX11_bell_0 at e1
  unfold fX12_bell at e2
  unfold sti at e2
  have e2 : cb (fX12_within fu p1 0 60 (upd2 gm 0 0 0) Lm) _ = some (rm, (g2, L2)) := e2
  by_cases c3 : (0 : Int32).toInt ≤ p1.toInt ∧ p1.toInt ≤ (60 : Int32).toInt
  rotate_left
  · rw [xwith0 c3] at e1
    have e1 : some (.error IAE, (g, L)) = some (rx, (g1, L1)) := e1
    rw [within0 c3, cbs, right0 a0 (by decide), cbs, if_pos rfl] at e2
    cases e1; cases e2
    exact Or.inr ⟨rfl, upd2_at⟩
  rw [xwith1 c3.1 c3.2, cbxs] at e1
  rw [within1 c3.1 c3.2, cbs, right1 a0, cbs, if_neg (by decide)] at e2
  obtain ⟨xa, ga, La, ea, e1⟩ := cb_some e1
  obtain ⟨xb, gb, Lb, eb, e2⟩ := cb_some e2
  obtain ⟨xc, gc, Lc, ec, e2⟩ := cb_some e2
  cases e1
  obtain ⟨cs, hX, hM, -⟩ := dc_all h
  have hM := hM.d (e0_u (x := 0))
  have hW := hM.2.1
  obtain ⟨v, w, u1, u2, u3⟩ := bell_x (hX.d (e0_u (x := 0))) _ _ _ ea
  have hb := lv_m hM _ _ _ eb
  have hc := pc_ex (uX12_copies_12_42 fu hfu _ _) _ _ _ ec
  obtain ⟨z0, w', s1, s2⟩ := bell_m hfu hM (fun k hk => by rw [hc, cpd_ne (by omega), hb.2 k (by omega)]) _ _ _ e2
  obtain rfl := LV.u hW u1 hb.1
  obtain rfl := LV.u (wf_e hW (bl_k (by decide)) (bl_k (by decide)) (bl_k (by decide)) (bl_k (by decide))) u2 s1
  exact Or.inl ⟨by rw [u3, s2], by rw [z0]; exact a0⟩
end
section
/-! ===== fits answers alike ===== -/
/-- all that was seen is so, at these ends -/
def SQ (d : gT) (M : Nat) (en : Nat → Int32) : Prop := ∀ k, k < M → en (d 43 (2 * k)).toInt.toNat - d 2 (d 43 (2 * k)).toInt.toNat = d 43 (2 * k + 1)
/-- it is so if lesson l runs over by m -/
def SE (cs : Nat → List Int) (n : Nat) (d : gT) (M l m : Nat) : Prop := ∃ bg en ru by_, DY cs (upd2 d 12 l (Int32.ofInt (m : Int))) n bg en ru by_ ∧ SQ d M en
/-- what was seen is of lessons that there are -/
def SO (d : gT) (M n : Nat) : Prop := ∀ k, k < M → 0 ≤ (d 43 (2 * k)).toInt ∧ (d 43 (2 * k)).toInt < (n : Int)
theorem se_iff {cs : Nat → List Int} {n M l m : Nat} {d : gT} {bg en ru by_ : Nat → Int32} (hW : WF n d) (hs : SO d M n) (h : DY cs (upd2 d 12 l (Int32.ofInt (m : Int))) n bg en ru by_) : SE cs n d M l m ↔ SQ d M en := by
  constructor
  · intro ⟨b1, e1, r1, y1, h1, h2⟩ k hk
    have u := DY.u (wf_p hW) h h1 (d 43 (2 * k)).toInt.toNat (by have := hs k hk; omega)
    rw [u.2.1]; exact h2 k hk
  · intro h2; exact ⟨_, _, _, _, h, h2⟩
abbrev T3 : Type := Int32 × Int32 × Int32
/-- one more fits -/
def stF (l m : Nat) (s : T3) : T3 := (s.1 + 1, (if s.1 = 0 then 100 * Int32.ofInt (l : Int) + Int32.ofInt (m : Int) else s.2.1), (if s.1 = 0 then Int32.ofInt (l : Int) else if s.2.2 = Int32.ofInt (l : Int) then s.2.2 else -1))
noncomputable def fsP (P : Prop) (l m : Nat) (s : T3) : T3 := @ite T3 P (Classical.propDecidable P) (stF l m s) s
theorem fsP_t {P : Prop} {l m : Nat} {s : T3} (h : P) : fsP P l m s = stF l m s := @if_pos P (Classical.propDecidable P) h T3 _ _
theorem fsP_f {P : Prop} {l m : Nat} {s : T3} (h : ¬ P) : fsP P l m s = s := @if_neg P (Classical.propDecidable P) h T3 _ _
noncomputable def ftS (B : Nat → Nat → Prop) : Nat → T3
  | 0 => (0, -1, -1)
  | k + 1 => fsP (B (k / 31) (k % 31)) (k / 31) (k % 31) (ftS B k)
theorem ftS_s {B : Nat → Nat → Prop} {l m : Nat} (h : m < 31) : ftS B (31 * l + (m + 1)) = fsP (B l m) l m (ftS B (31 * l + m)) := by
  show fsP (B ((31 * l + m) / 31) ((31 * l + m) % 31)) ((31 * l + m) / 31) ((31 * l + m) % 31) (ftS B (31 * l + m)) = _
  rw [show (31 * l + m) / 31 = l by omega, show (31 * l + m) % 31 = m by omega]
theorem ftS_b {B : Nat → Nat → Prop} : ∀ k : Nat, k ≤ 1000 → 0 ≤ (ftS B k).1.toInt ∧ (ftS B k).1.toInt ≤ (k : Int) := by
  intro k
  induction k with
  | zero =>
    intro _
    show 0 ≤ (0 : Int32).toInt ∧ (0 : Int32).toInt ≤ ((0 : Nat) : Int)
    decide
  | succ k ih =>
    intro hk
    have a := ih (by omega)
    show 0 ≤ (fsP _ _ _ (ftS B k)).1.toInt ∧ (fsP _ _ _ (ftS B k)).1.toInt ≤ _
    by_cases c : B (k / 31) (k % 31)
    · rw [fsP_t c]
      have e : ((ftS B k).1 + 1).toInt = (ftS B k).1.toInt + 1 := ic_addc rfl (n := 1) rfl (by omega) (by omega)
      show 0 ≤ ((ftS B k).1 + 1).toInt ∧ ((ftS B k).1 + 1).toInt ≤ _
      rw [e]; omega
    · rw [fsP_f c]; omega
/-- what the class's Trials hold -/
def TR (g : gT) (s : T3) : Prop := g 9 4 = s.1 ∧ g 9 5 = s.2.1 ∧ g 9 6 = s.2.2
theorem TR.c {g g' : gT} {s : T3} (h : TR g s) (e : g' 9 = g 9) : TR g' s := by unfold TR; rw [e]; exact h
theorem addB_x {fu l m : Nat} {p1 p2 : Int32} {g : gT} {L : lT} {s : T3} (h : TR g s) (h1 : p1.toInt = (l : Int)) (h2 : p2.toInt = (m : Int)) : Pc (fX10_addBeginner_9 fu p1 p2 g L) (fun _ g1 _ => TR g1 (stF l m s) ∧ ∀ k, k ≠ 9 → g1 k = g k) := by
  obtain ⟨a, b, c⟩ := h
  have i1 : Int32.ofInt (l : Int) = p1 := by rw [← h1]; exact io_i
  have i2 : Int32.ofInt (m : Int) = p2 := by rw [← h2]; exact io_i
  unfold fX10_addBeginner_9 fX10_addBeginner_9_p38 stF
  rw [i1, i2, a, c]
  refine pc_ite (fun c1 => ?_) (fun c1 => pc_ite (fun c2 => ?_) (fun c2 => ?_))
  · rw [if_pos c1, if_pos c1]
    refine pc_st (fun g5 e5 => pc_st (fun g6 e6 => pc_st (fun g7 e7 => pc_some ⟨⟨?_, ?_, ?_⟩, fun k hk => ?_⟩)))
    · rw [e7, upd2_at, e6, upd2_nj (by decide), e5, upd2_nj (by decide), a]
    · rw [e7, upd2_nj (by decide), e6, upd2_nj (by decide), e5, upd2_at]
    · rw [e7, upd2_nj (by decide), e6, upd2_at]
    · rw [e7, e6, e5]; exact funext fun _ => by rw [upd2_nk hk, upd2_nk hk, upd2_nk hk]
  · rw [if_neg c1, if_neg c1, if_pos c2]
    refine pc_st (fun g7 e7 => pc_some ⟨⟨?_, ?_, ?_⟩, fun k hk => ?_⟩)
    · rw [e7, upd2_at]
    · rw [e7, upd2_nj (by decide)]; exact b
    · rw [e7, upd2_nj (by decide)]; exact c
    · rw [e7]; exact funext fun _ => upd2_nk hk
  · rw [if_neg c1, if_neg c1, if_neg c2]
    refine pc_st (fun g4 e4 => pc_st (fun g7 e7 => pc_some ⟨⟨?_, ?_, ?_⟩, fun k hk => ?_⟩))
    · rw [e7, upd2_at, e4, upd2_nj (by decide), a]
    · rw [e7, upd2_nj (by decide), e4, upd2_nj (by decide)]; exact b
    · rw [e7, upd2_nj (by decide), e4, upd2_at]
    · rw [e7, e4]; exact funext fun _ => by rw [upd2_nk hk, upd2_nk hk]
theorem seen_x {cs : Nat → List Int} {n M fu : Nat} {g d d' : gT} {L : lT} (h : DC cs n g d') (h2 : d' 2 = d 2) (hM : (g 6 10).toInt = (M : Int)) (hS : ∀ k, k < M → g 32 k = d 43 (2 * k) ∧ g 33 k = d 43 (2 * k + 1)) (hs : SO d M n) : Pc (fX10_isAsSeen_9 fu g L) (fun x g1 _ => g1 = g ∧ ((x = 0 ∧ ¬ SQ d M (g 44)) ∨ (¬ x = 0 ∧ SQ d M (g 44)))) := by
  unfold fX10_isAsSeen_9 fX10_isAsSeen_9_l2
  refine pc_loop (fun v => ∃ m : Nat, v.1.toInt = (m : Int) ∧ m ≤ M ∧ v.2.1 = g ∧ ∀ k, k < m → g 44 (d 43 (2 * k)).toInt.toNat - d 2 (d 43 (2 * k)).toInt.toNat = d 43 (2 * k + 1)) (fun k2 hk v hv => ?_) ⟨0, rfl, by omega, rfl, fun k hk => absurd hk (Nat.not_lt_zero _)⟩
  obtain ⟨v1, g', L'⟩ := v
  obtain ⟨m, hm, mM, eg, ha⟩ := hv
  replace hm : v1.toInt = (m : Int) := hm
  replace eg : g' = g := eg
  subst eg
  show Pc (fX10_isAsSeen_9_s2 fu k2 v1 g' L') _
  unfold fX10_isAsSeen_9_s2
  have ei : v1.toNatClampNeg = m := by rw [nc, hm]; omega
  refine pc_ite (fun c => pc_ckb (pc_some ⟨rfl, Or.inr ⟨by decide, ?_⟩⟩)) (fun c => ?_)
  · have c := icc_le hM hm c
    have em : m = M := by omega
    rw [em] at ha; exact ha
  · have c := icc_nle hM hm c
    obtain ⟨s1, s2⟩ := hS m (by omega)
    have so := hs m (by omega)
    rw [ei, s1]
    refine pc_ck (fun _ _ => pc_cb (late_x h (i := (d 43 (2 * m)).toInt.toNat) (by omega) (by omega)) (fun x2 g3 L4 e => ?_))
    obtain ⟨rfl, e⟩ := e
    rw [h2] at e
    rw [s2]
    refine pc_ck (fun _ _ => pc_ite (fun c1 => hk _ ⟨m + 1, ?_, by omega, rfl, fun k hk => ?_⟩) (fun c1 => pc_ckb (pc_some ⟨rfl, Or.inl ⟨rfl, fun hh => c1 ?_⟩⟩)))
    · show (v1 + 1).toInt = _
      rw [ic_addc hm (n := 1) rfl (by omega) (by omega)]; omega
    · by_cases q : k = m
      · rw [q, ← e]; exact c1
      · exact ha k (by omega)
    · rw [e]; exact hh m (by omega)
theorem seen_m {cs : Nat → List Int} {n M fu : Nat} {d d' : gT} {L : lT} (hMD : MD cs n d') (h2 : d' 2 = d 2) (h43 : d' 43 = d 43) (hM : (d' 0 73).toInt = (M : Int)) (M8 : M ≤ 8) (hs : SO d M n) : Pc (fX12_isSeen fu d' L) (fun x g1 _ => WR cs d' n g1 ∧ ((x = 0 ∧ ¬ SQ d M (g1 32)) ∨ (¬ x = 0 ∧ SQ d M (g1 32)))) := by
  unfold fX12_isSeen
  refine pc_cb (wk_m hMD) (fun _ g L3 hw => ?_)
  have e := hw.2
  have e73 : (g 0 73).toInt = (M : Int) := by rw [e 0 (by omega)]; exact hM
  have e43 : g 43 = d 43 := by rw [e 43 (by omega), h43]
  unfold fX12_isSeen_l6
  refine pc_loop (fun v => ∃ m : Nat, v.1.toInt = (m : Int) ∧ m ≤ M ∧ v.2.1 = g ∧ ∀ k, k < m → g 32 (d 43 (2 * k)).toInt.toNat - d 2 (d 43 (2 * k)).toInt.toNat = d 43 (2 * k + 1)) (fun k6 hk v hv => ?_) ⟨0, rfl, by omega, rfl, fun k hk => absurd hk (Nat.not_lt_zero _)⟩
  obtain ⟨v1, g', L'⟩ := v
  obtain ⟨m, hm, mM, eg, ha⟩ := hv
  replace hm : v1.toInt = (m : Int) := hm
  replace eg : g' = g := eg
  subst eg
  show Pc (fX12_isSeen_s6 fu k6 v1 g' L') _
  unfold fX12_isSeen_s6
  have e2 : (2 * v1).toInt = 2 * (m : Int) := ic_mulc (m := 2) rfl hm (by omega) (by omega)
  have n2 : (2 * v1).toNatClampNeg = 2 * m := by rw [nc, e2]; omega
  have n3 : (2 * v1 + 1).toNatClampNeg = 2 * m + 1 := by rw [nc, ic_addc e2 (n := 1) rfl (by omega) (by omega)]; omega
  refine pc_ite (fun c => pc_ckb (pc_some ⟨hw, Or.inr ⟨by decide, ?_⟩⟩)) (fun c => ?_)
  · have c := icc_le e73 hm c
    have em : m = M := by omega
    rw [em] at ha; exact ha
  · have c := icc_nle e73 hm c
    have so := hs m (by omega)
    rw [n2, n3, e43]
    refine pc_ck (fun _ _ => pc_cb (late_m e (i := (d 43 (2 * m)).toInt.toNat) (by omega)) (fun x6 g7 L8 q => ?_))
    obtain ⟨rfl, q⟩ := q
    rw [h2] at q
    rw [e43]
    refine pc_ck (fun _ _ => pc_ite (fun c1 => hk _ ⟨m + 1, ?_, by omega, rfl, fun k hk => ?_⟩) (fun c1 => pc_ckb (pc_some ⟨hw, Or.inl ⟨rfl, fun hh => c1 ?_⟩⟩)))
    · show (v1 + 1).toInt = _
      rw [ic_addc hm (n := 1) rfl (by omega) (by omega)]; omega
    · by_cases q' : k = m
      · rw [q', ← q]; exact c1
      · exact ha k (by omega)
    · rw [q]; exact hh m (by omega)
theorem fits_x {cs : Nat → List Int} {n M fu : Nat} {g d : gT} {L : lT} (h : DC cs n g d) (hM : (g 6 10).toInt = (M : Int)) (hS : ∀ k, k < M → g 32 k = d 43 (2 * k) ∧ g 33 k = d 43 (2 * k + 1)) (hs : SO d M n) : Pc (fX10_findBeginners_9 fu g L) (fun _ g1 _ => TR g1 (ftS (SE cs n d M) (31 * n))) := by
  have hW := h.2.2.2.1
  have hn := h.1
  have n12 := h.1.2
  unfold fX10_findBeginners_9
  refine pc_st (fun g1 e1 => pc_st (fun g2 e2 => pc_st (fun g3 e3 => ?_)))
  have k3 : ∀ k, k ≠ 9 → g3 k = g k := fun k hk => by rw [e3, e2, e1]; exact funext fun _ => by rw [upd2_nk hk, upd2_nk hk, upd2_nk hk]
  have t3 : TR g3 (0, -1, -1) := by
    refine ⟨?_, ?_, ?_⟩
    · rw [e3, upd2_nj (by decide), e2, upd2_nj (by decide), e1, upd2_at]
    · rw [e3, upd2_nj (by decide), e2, upd2_at]
    · rw [e3, upd2_at]
  unfold fX10_findBeginners_9_l17
  refine pc_loop (fun v => ∃ l : Nat, v.1.toInt = (l : Int) ∧ l ≤ n ∧ (∀ k, k ≠ 9 → k ≠ 21 → (k < 43 ∨ 48 < k) → v.2.1 k = g k) ∧ TR v.2.1 (ftS (SE cs n d M) (31 * l))) (fun k17 hk v hv => ?_) ⟨0, rfl, by omega, fun k a _ _ => k3 k a, t3⟩
  obtain ⟨v1, g', L'⟩ := v
  obtain ⟨l, hl, ln, ek, ht⟩ := hv
  replace hl : v1.toInt = (l : Int) := hl
  replace ek : ∀ k, k ≠ 9 → k ≠ 21 → (k < 43 ∨ 48 < k) → g' k = g k := ek
  replace ht : TR g' (ftS (SE cs n d M) (31 * l)) := ht
  show Pc (fX10_findBeginners_9_s17 fu k17 v1 g' L') _
  unfold fX10_findBeginners_9_s17 fX10_lessonCount_9
  rw [ek 1 (by decide) (by decide) (by omega), cbs]
  refine pc_ite (fun c => pc_some ?_) (fun c => ?_)
  · have c := icc_le hn.1 hl c
    have em : l = n := by omega
    rw [em] at ht; exact ht
  have c := icc_nle hn.1 hl c
  have l' : l < n := by omega
  have el : v1.toNatClampNeg = l := by rw [nc, hl]; omega
  have hD' : DC cs n g' d := h.c3 (fun k a => ek k (by omega) (by omega) (by omega))
  refine pc_cb (rf_x hD' (f := 0) rfl (Nat.zero_le _)) (fun _ g10 L11 e10 => ?_)
  rw [el]
  refine pc_ck (fun _ _ => pc_lti (fun x13 e13 => ?_))
  have g25 : g' 25 = g 25 := ek 25 (by decide) (by decide) (by omega)
  have d13 : x13 = g 25 l := by rw [e13, e10.2.2 25 (by decide) (by omega), g25]
  have dl : g 25 l = d 12 l := (h.2.1 l l').2.1
  have k10 : ∀ k, k ≠ 9 → k ≠ 21 → (k < 43 ∨ 48 < k) → g10 k = g k := fun k a b c => (e10.2.2 k b c).trans (ek k a b c)
  unfold fX10_findBeginners_9_l45
  refine pc_loop (fun v => ∃ m : Nat, v.1.toInt = (m : Int) ∧ m ≤ 31 ∧ (∃ u : Int32, (∀ k, k ≠ 9 → k ≠ 21 → (k < 43 ∨ 48 < k) → v.2.1 k = upd2 g 25 l u k) ∧ DY cs (upd2 d 12 l u) n (v.2.1 43) (v.2.1 44) (v.2.1 45) (v.2.1 46)) ∧ TR v.2.1 (ftS (SE cs n d M) (31 * l + m))) (fun k45 hk2 v hv => ?_) ⟨0, rfl, by omega, ⟨d 12 l, fun k a b c => ?_, ?_⟩, ?_⟩
  rotate_left
  · show g10 k = _
    rw [← dl, upd2_s, k10 k a b c]
  · rw [upd2_s]
    exact fun i hi => e10.1 i (Nat.zero_le _) hi
  · exact ht.c (e10.2.2 9 (by decide) (by omega))
  obtain ⟨v3, g4, L4⟩ := v
  obtain ⟨m, hm, mm, ⟨u, ek4, hy⟩, ht4⟩ := hv
  replace hm : v3.toInt = (m : Int) := hm
  replace ek4 : ∀ k, k ≠ 9 → k ≠ 21 → (k < 43 ∨ 48 < k) → g4 k = upd2 g 25 l u k := ek4
  replace hy : DY cs (upd2 d 12 l u) n (g4 43) (g4 44) (g4 45) (g4 46) := hy
  replace ht4 : TR g4 (ftS (SE cs n d M) (31 * l + m)) := ht4
  show Pc (fX10_findBeginners_9_s45 fu k17 v1 x13 k45 v3 g4 L4) _
  unfold fX10_findBeginners_9_s45 fX10_findBeginners_9_p82
  have i30 : (30 : Int32).toInt = 30 := rfl
  rw [el]
  refine pc_ite (fun c => ?_) (fun c => ?_)
  · have c := icc_lt i30 hm c
    have em : m = 31 := by omega
    rw [em, show 31 * l + 31 = 31 * (l + 1) by omega] at ht4
    refine pc_ck (fun _ _ => pc_st (fun g15 e15 => hk _ ⟨l + 1, ?_, by omega, fun k a b c => ?_, ?_⟩))
    · show (v1 + 1).toInt = _
      rw [ic_addc hl (n := 1) rfl (by omega) (by omega)]; omega
    · show g15 k = g k
      rw [e15, put_c (ek4 k a b c), d13, upd2_s]
    · refine ht4.c ?_
      show g15 9 = g4 9
      rw [e15]; exact funext fun _ => upd2_nk (by decide)
  · have c := icc_nlt i30 hm c
    have v3i : Int32.ofInt (m : Int) = v3 := by rw [← hm]; exact io_i
    have ew : (v3 + 1).toInt = ((m + 1 : Nat) : Int) := by rw [ic_addc hm (n := 1) rfl (by omega) (by omega)]; omega
    refine pc_ck (fun _ _ => pc_st (fun g16 e16 => ?_))
    have f16 : ∀ k, k ≠ 9 → k ≠ 21 → (k < 43 ∨ 48 < k) → g16 k = upd2 g 25 l v3 k := fun k a b c => by
      rw [e16]; exact put_c (ek4 k a b c)
    have o16 : ∀ k, k ≠ 25 → g16 k = g4 k := fun k hk => by rw [e16]; exact funext fun _ => upd2_nk hk
    have hD : DC cs n g16 (upd2 d 12 l v3) := by
      have x := h.put (q := 0) (l := l) (v := v3) (by decide) (by omega) (fun e => absurd e (by decide))
      rw [show 12 * 0 + l = l by omega] at x
      exact x.c3 (fun k a => f16 k (by omega) (by omega) (by omega))
    have de : DE l (upd2 d 12 l u) (upd2 d 12 l v3) := ⟨fun k hk => by funext j; rw [upd2_nk hk, upd2_nk hk], fun x p a b _ => by rw [upd2_nj (by omega), upd2_nj (by omega)]⟩
    refine pc_cb (rf_x hD hl (by omega)) (fun _ g18 L19 e18 => ?_)
    have dy : DY cs (upd2 d 12 l v3) n (g18 43) (g18 44) (g18 45) (g18 46) := rf_dy (g := g16) de (wf_p hW) (wf_p hW) n12 (by rw [o16 43 (by decide), o16 44 (by decide), o16 45 (by decide), o16 46 (by decide)]; exact hy) e18
    have hD18 : DC cs n g18 (upd2 d 12 l v3) := hD.c e18.2.2
    have f18 : ∀ k, k ≠ 9 → k ≠ 21 → (k < 43 ∨ 48 < k) → g18 k = upd2 g 25 l v3 k := fun k a b c => by
      rw [e18.2.2 k b c, f16 k a b c]
    have q6 : g18 6 = g 6 := by rw [f18 6 (by decide) (by decide) (by omega)]; exact funext fun _ => upd2_nk (by decide)
    have q32 : g18 32 = g 32 := by rw [f18 32 (by decide) (by decide) (by omega)]; exact funext fun _ => upd2_nk (by decide)
    have q33 : g18 33 = g 33 := by rw [f18 33 (by decide) (by decide) (by omega)]; exact funext fun _ => upd2_nk (by decide)
    have t18 : TR g18 (ftS (SE cs n d M) (31 * l + m)) := ht4.c (by rw [e18.2.2 9 (by decide) (by omega), o16 9 (by decide)])
    have iff : SE cs n d M l m ↔ SQ d M (g18 44) := se_iff (bg := g18 43) (ru := g18 45) (by_ := g18 46) hW hs (by rw [v3i]; exact dy)
    refine pc_cb (seen_x hD18 (d := d) (funext fun _ => upd2_nk (by decide)) (by rw [q6]; exact hM) (fun k hk => by rw [q32, q33]; exact hS k hk) hs) (fun x21 g22 L23 e22 => ?_)
    obtain ⟨rfl, e22⟩ := e22
    rcases e22 with ⟨y0, y1⟩ | ⟨y0, y1⟩
    · rw [if_pos y0]
      refine hk2 _ ⟨m + 1, ew, by omega, ⟨v3, f18, dy⟩, ?_⟩
      show TR g22 (ftS (SE cs n d M) (31 * l + (m + 1)))
      rw [ftS_s (by omega), fsP_f (fun hh => y1 (iff.mp hh))]
      exact t18
    · rw [if_neg y0]
      refine pc_cb (addB_x t18 hl hm) (fun _ g27 L28 e27 => hk2 _ ⟨m + 1, ew, by omega, ⟨v3, fun k a b c => ?_, ?_⟩, ?_⟩)
      · show g27 k = _
        rw [e27.2 k a, f18 k a b c]
      · show DY cs _ n (g27 43) (g27 44) (g27 45) (g27 46)
        rw [e27.2 43 (by decide), e27.2 44 (by decide), e27.2 45 (by decide), e27.2 46 (by decide)]
        exact dy
      · show TR g27 (ftS (SE cs n d M) (31 * l + (m + 1)))
        rw [ftS_s (by omega), fsP_t (iff.mpr y1)]
        exact e27.1
/-- what the reference holds -/
def R4 (v2 v3 v4 v5 : Int32) (s : T3) : Prop := v2 = s.1 ∧ v3 = s.2.1 ∧ ((s.1 = 0 ∧ v3 = -1 ∧ v4 = -1 ∧ v5 = 1 ∧ s.2.2 = -1) ∨ (¬ s.1 = 0 ∧ ¬ v3 = -1 ∧ ¬ v4 = -1 ∧ ((v5 = 0 ∧ s.2.2 = -1) ∨ (v5 = 1 ∧ s.2.2 = v4))))
theorem fits_m {cs : Nat → List Int} {n M fu : Nat} {p1 : Int32} {d : gT} {L : lT} (hMD : MD cs n d) (hM : (d 0 73).toInt = (M : Int)) (M8 : M ≤ 8) (hs : SO d M n) : Pc (fX12_fits_l29 fu p1 0 (-1) (-1) 1 0 d L) (fun x g1 _ => g1 0 = d 0 ∧ x = if p1 = 0 then (ftS (SE cs n d M) (31 * n)).1 else if p1 = 1 then (ftS (SE cs n d M) (31 * n)).2.1 else (ftS (SE cs n d M) (31 * n)).2.2) := by
  have hW := hMD.2.1
  have n12 := hMD.1.2
  unfold fX12_fits_l29
  refine pc_loop (fun v => ∃ l : Nat, v.2.2.2.2.1.toInt = (l : Int) ∧ l ≤ n ∧ Em d v.2.2.2.2.2.1 ∧ R4 v.1 v.2.1 v.2.2.1 v.2.2.2.1 (ftS (SE cs n d M) (31 * l))) (fun k29 hk v hv => ?_) ⟨0, rfl, by omega, fun _ _ => rfl, rfl, rfl, Or.inl ⟨rfl, rfl, rfl, rfl, rfl⟩⟩
  obtain ⟨v2, v3, v4, v5, v6, g', L'⟩ := v
  obtain ⟨l, hl, ln, e, hr⟩ := hv
  replace hl : v6.toInt = (l : Int) := hl
  replace e : Em d g' := e
  replace hr : R4 v2 v3 v4 v5 (ftS (SE cs n d M) (31 * l)) := hr
  show Pc (fX12_fits_s29 fu p1 k29 v2 v3 v4 v5 v6 g' L') _
  unfold fX12_fits_s29 fX12_fits_p177
  have e01 : (g' 0 1).toInt = (n : Int) := by rw [e 0 (by omega)]; exact hMD.1.1
  have e0 : (0 + v6).toNatClampNeg = l := by rw [nc, ic_addc (m := 0) rfl hl (by omega) (by omega)]; omega
  refine pc_ite (fun c => ?_) (fun c => ?_)
  · have c := icc_le e01 hl c
    have em : l = n := by omega
    rw [em] at hr
    obtain ⟨r2, r3, r4⟩ := hr
    refine pc_ite (fun c1 => pc_some ⟨e 0 (by omega), ?_⟩) (fun c1 => pc_ite (fun c2 => pc_some ⟨e 0 (by omega), ?_⟩) (fun c2 => pc_ite (fun c3 => pc_some ⟨e 0 (by omega), ?_⟩) (fun c3 => pc_some ⟨e 0 (by omega), ?_⟩)))
    · rw [if_pos c1]; exact r2
    · rw [if_neg c1, if_pos c2]; exact r3
    · rw [if_neg c1, if_neg c2]
      rcases r4 with ⟨-, -, -, a, b⟩ | ⟨-, -, -, ⟨a, b⟩ | ⟨a, b⟩⟩
      · exact b.symm
      · exact b.symm
      · rw [a] at c3; exact absurd c3 (by decide)
    · rw [if_neg c1, if_neg c2]
      rcases r4 with ⟨-, -, a, -, b⟩ | ⟨-, -, -, ⟨a, b⟩ | ⟨a, b⟩⟩
      · rw [a, b]
      · exact absurd a c3
      · exact b.symm
  have c := icc_nle e01 hl c
  have l' : l < n := by omega
  have l6 : Int32.ofInt (l : Int) = v6 := by rw [← hl]; exact io_i
  rw [e0]
  refine pc_ck (fun _ _ => pc_lti (fun x11 e11 => ?_))
  have d11 : x11 = d 12 l := by rw [e11, e 12 (by omega)]
  unfold fX12_fits_l52
  refine pc_loop (fun v => ∃ m : Nat, v.2.2.2.2.1.toInt = (m : Int) ∧ m ≤ 31 ∧ (∃ u : Int32, Em (upd2 d 12 l u) v.2.2.2.2.2.1) ∧ R4 v.1 v.2.1 v.2.2.1 v.2.2.2.1 (ftS (SE cs n d M) (31 * l + m))) (fun k52 hk2 v hv => ?_) ⟨0, rfl, by omega, ⟨d 12 l, by rw [upd2_s]; exact e⟩, hr⟩
  obtain ⟨w2, w3, w4, w5, v8, g4, L4⟩ := v
  obtain ⟨m, hm, mm, ⟨u, e4⟩, hr⟩ := hv
  replace hm : v8.toInt = (m : Int) := hm
  replace e4 : Em (upd2 d 12 l u) g4 := e4
  replace hr : R4 w2 w3 w4 w5 (ftS (SE cs n d M) (31 * l + m)) := hr
  show Pc (fX12_fits_s52 fu k29 p1 v6 x11 k52 w2 w3 w4 w5 v8 g4 L4) _
  unfold fX12_fits_s52
  have i30 : (30 : Int32).toInt = 30 := rfl
  rw [e0]
  refine pc_ite (fun c => ?_) (fun c => ?_)
  · have c := icc_lt i30 hm c
    have em : m = 31 := by omega
    rw [em, show 31 * l + 31 = 31 * (l + 1) by omega] at hr
    refine pc_ck (fun _ _ => pc_st (fun g13 e13 => hk _ ⟨l + 1, ?_, by omega, ?_, hr⟩))
    · show (v6 + 1).toInt = _
      rw [ic_addc hl (n := 1) rfl (by omega) (by omega)]; omega
    · show Em d g13
      have x := e4.put (j := l) (v := x11)
      rw [upd2_2, d11, upd2_s, ← d11, ← e13] at x
      exact x
  · have c := icc_nlt i30 hm c
    have v8i : Int32.ofInt (m : Int) = v8 := by rw [← hm]; exact io_i
    have ew : (v8 + 1).toInt = ((m + 1 : Nat) : Int) := by rw [ic_addc hm (n := 1) rfl (by omega) (by omega)]; omega
    refine pc_ck (fun _ _ => pc_st (fun g14 e14 => ?_))
    have e14' : Em (upd2 d 12 l v8) g14 := by
      have x := e4.put (j := l) (v := v8)
      rw [upd2_2, ← e14] at x
      exact x
    have dk : ∀ k, k ≠ 12 → (k < 29 ∨ 35 < k) → g14 k = d k := fun k a b => by rw [e14' k b]; exact funext fun _ => upd2_nk a
    refine pc_cb (seen_m (cs := cs) (n := n) (M := M) (d := d) ((hMD.put (j := l) (v := v8)).e e14') (dk 2 (by decide) (by omega)) (dk 43 (by decide) (by omega)) (by rw [dk 0 (by decide) (by omega)]; exact hM) M8 hs) (fun x15 g16 L17 q => ?_)
    obtain ⟨⟨q1, q2⟩, q3⟩ := q
    have e16 : Em (upd2 d 12 l v8) g16 := fun k hk => (q2 k hk).trans (e14' k hk)
    have dy : DY cs (upd2 d 12 l v8) n (g16 31) (g16 32) (g16 33) (g16 34) := by
      rw [← DY_T, Td_e e14', DY_T] at q1
      exact q1
    have iff : SE cs n d M l m ↔ SQ d M (g16 32) := se_iff (bg := g16 31) (ru := g16 33) (by_ := g16 34) hW hs (by rw [v8i]; exact dy)
    rcases q3 with ⟨y0, y1⟩ | ⟨y0, y1⟩
    · rw [if_pos y0]
      unfold fX12_fits_p126
      refine hk2 _ ⟨m + 1, ew, by omega, ⟨v8, e16⟩, ?_⟩
      show R4 w2 w3 w4 w5 (ftS (SE cs n d M) (31 * l + (m + 1)))
      rw [ftS_s (by omega), fsP_f (fun hh => y1 (iff.mp hh))]
      exact hr
    · rw [if_neg y0]
      have sb := ftS_b (B := SE cs n d M) (31 * l + m) (by omega)
      have es : ftS (SE cs n d M) (31 * l + (m + 1)) = stF l m (ftS (SE cs n d M) (31 * l + m)) := by rw [ftS_s (by omega), fsP_t (iff.mpr y1)]
      generalize ftS (SE cs n d M) (31 * l + m) = s at *
      obtain ⟨s1, s2, s3⟩ := s
      obtain ⟨r2, r3, r4⟩ := hr
      replace r2 : w2 = s1 := r2
      replace r3 : w3 = s2 := r3
      replace r4 : (s1 = 0 ∧ w3 = -1 ∧ w4 = -1 ∧ w5 = 1 ∧ s3 = -1) ∨ (¬ s1 = 0 ∧ ¬ w3 = -1 ∧ ¬ w4 = -1 ∧ ((w5 = 0 ∧ s3 = -1) ∨ (w5 = 1 ∧ s3 = w4))) := r4
      replace sb : 0 ≤ s1.toInt ∧ s1.toInt ≤ ((31 * l + m : Nat) : Int) := sb
      have n1 : ¬ s1 + 1 = 0 := fun hh => by
        have : (s1 + 1).toInt = s1.toInt + 1 := ic_addc rfl (n := 1) rfl (by omega) (by omega)
        rw [hh] at this
        have z : (0 : Int32).toInt = 0 := rfl
        omega
      have n6 : ¬ v6 = -1 := fun hh => by
        rw [hh] at hl
        have z : (-1 : Int32).toInt = -1 := rfl
        omega
      have k1 : (100 * v6 + v8).toInt = 100 * (l : Int) + (m : Int) := ic_addc (ic_mulc (m := 100) rfl hl (by omega) (by omega)) hm (by omega) (by omega)
      have nf : ¬ 100 * v6 + v8 = -1 := fun hh => by
        rw [hh] at k1
        have z : (-1 : Int32).toInt = -1 := rfl
        omega
      have fin : ∀ (x3 one : Int32) (La : lT), R4 (w2 + 1) x3 v6 one (stF l m (s1, s2, s3)) → Pc (k52 (w2 + 1, x3, v6, one, (v8 + 1), g16, La)) (fun x g1 _ => g1 0 = d 0 ∧ x = if p1 = 0 then (ftS (SE cs n d M) (31 * n)).1 else if p1 = 1 then (ftS (SE cs n d M) (31 * n)).2.1 else (ftS (SE cs n d M) (31 * n)).2.2) := fun x3 one La hR => hk2 _ ⟨m + 1, ew, by omega, ⟨v8, e16⟩, by
        show R4 (w2 + 1) x3 v6 one (ftS (SE cs n d M) (31 * l + (m + 1)))
        rw [es]; exact hR⟩
      unfold stF at fin
      rw [l6, v8i] at fin
      unfold fX12_fits_p97 fX12_fits_p119 fX12_fits_p115 fX12_fits_p120 fX12_fits_p126
      rcases r4 with ⟨a, b, c1, d1, f1⟩ | ⟨a, b, c1, hh⟩
      · rw [if_pos b]
        refine pc_lti (fun x24 e24 => ?_)
        rw [if_neg (by rw [d1]; decide), if_pos c1]
        refine fin x24 1 _ ⟨by rw [r2], ?_, Or.inr ⟨n1, by rw [e24]; exact nf, n6, Or.inr ⟨rfl, ?_⟩⟩⟩
        · show x24 = if s1 = 0 then _ else _
          rw [if_pos a, e24]
        · show (if s1 = 0 then v6 else _) = v6
          rw [if_pos a]
      · rw [if_neg b]
        have t2 : ∀ z : Int32, (if s1 = 0 then z else s2) = w3 := fun z => by rw [if_neg a, r3]
        rcases hh with ⟨h5, h3⟩ | ⟨h5, h3⟩
        · rw [if_pos h5]
          refine fin w3 0 _ ⟨by rw [r2], (t2 _).symm, Or.inr ⟨n1, b, n6, Or.inl ⟨rfl, ?_⟩⟩⟩
          show (if s1 = 0 then v6 else if s3 = v6 then s3 else -1) = -1
          rw [if_neg a, h3, if_neg (fun q => n6 q.symm)]
        · rw [if_neg (by rw [h5]; decide), if_neg c1]
          refine pc_ite (fun c2 => fin w3 1 _ ⟨by rw [r2], (t2 _).symm, Or.inr ⟨n1, b, n6, Or.inr ⟨rfl, ?_⟩⟩⟩) (fun c2 => fin w3 0 _ ⟨by rw [r2], (t2 _).symm, Or.inr ⟨n1, b, n6, Or.inl ⟨rfl, ?_⟩⟩⟩)
          · show (if s1 = 0 then v6 else if s3 = v6 then s3 else -1) = v6
            rw [if_neg a, h3, if_pos c2]; exact c2
          · show (if s1 = 0 then v6 else if s3 = v6 then s3 else -1) = -1
            rw [if_neg a, h3, if_neg c2]
theorem cr_fits {fu : Nat} {p1 : Int32} {g gm g1 g2 : gT} {L Lm L1 L2 : lT} {rx : Except String Int32} {rm : Int32} (hS : CS g gm) (e1 : fX11_fits_0 fu p1 g L = some (rx, (g1, L1))) (e2 : fX12_fits fu p1 gm Lm = some (rm, (g2, L2))) : (rx = .ok rm ∧ g2 0 0 = 0) ∨ (rx = .error NSE ∧ g2 0 0 = 1) := by
  obtain ⟨h, hV⟩ := hS
  have hp := h.1.1
  have hI := hp.2.1
  obtain ⟨k1, k2, k3, k4, -⟩ := hp.2.2.2.2.2.2.1
  have r73 := hI 0 73 0 8 rfl
  have r1 := hI 0 1 0 12 rfl
  have a0 : upd2 gm 0 0 0 0 0 = 0 := upd2_at
  unfold fX11_fits_0 at e1
  unfold fX12_fits at e2
  unfold sti at e2
  have e2 : cb (fX12_isWhat fu p1 2 (upd2 gm 0 0 0) Lm) _ = some (rm, (g2, L2)) := e2
  have i3 : (3 : Int32).toInt = 3 := rfl
  have i2 : (2 : Int32).toInt = 2 := rfl
  by_cases c2 : 0 ≤ p1.toInt ∧ p1.toInt ≤ (2 : Int32).toInt
  rotate_left
  · rw [xwhat0 (fun hh => c2 (by omega))] at e1
    have e1 : some (.error NSE, (g, L)) = some (rx, (g1, L1)) := e1
    rw [what0 a0 c2] at e2
    have e2 : some ((0 : Int32), (upd2 (upd2 gm 0 0 0) 0 0 1, Lm)) = some (rm, (g2, L2)) := e2
    cases e1; cases e2
    exact Or.inr ⟨rfl, upd2_at⟩
  rw [xwhat1 c2.1 (by omega), cbxs] at e1
  rw [what1 a0 c2.1 c2.2, cbs, if_neg (by decide)] at e2
  obtain ⟨xa, ga, La, ea, e1⟩ := cb_some e1
  obtain ⟨cs, hX, hM, -⟩ := dc_all h
  obtain ⟨M, hMM⟩ : ∃ M : Nat, (gm 0 73).toInt = (M : Int) := ⟨(gm 0 73).toInt.toNat, by omega⟩
  have x43 : upd2 gm 0 0 0 43 = gm 43 := funext fun _ => upd2_nk (by decide)
  have hs : SO (upd2 gm 0 0 0) M (gm 0 1).toInt.toNat := fun k hk => by
    rw [x43]
    have := hV.2.1.2.2 k (by omega)
    omega
  have sc := h.1.2.2.1.2.2.2
  obtain ⟨t1, t2, t3⟩ := fits_x (hX.d (e0_u (x := 0))) (by rw [k4]; exact hMM) (fun k hk => by rw [x43]; exact sc k (by omega)) hs _ _ _ ea
  obtain ⟨z0, v⟩ := fits_m (hM.d (e0_u (x := 0))) hMM (by omega) hs _ _ _ e2
  have ne : ∀ {c : Int32} {m : Int}, c.toInt = m → p1.toInt ≠ m → ¬ p1 = c := fun a b e => b (by rw [e]; exact a)
  have z : g2 0 0 = 0 := by rw [z0]; exact a0
  rcases (by omega : p1.toInt = 0 ∨ p1.toInt = 1 ∨ p1.toInt = 2) with q | q | q
  · rw [if_pos q] at e1
    rw [if_pos (ic_eq.mpr q)] at v
    cases e1
    exact Or.inl ⟨by rw [v, t1], z⟩
  · rw [if_neg (by omega), if_pos q] at e1
    rw [if_neg (ne (m := 0) rfl (by omega)), if_pos (ic_eq.mpr q)] at v
    cases e1
    exact Or.inl ⟨by rw [v, t2], z⟩
  · rw [if_neg (by omega), if_neg (by omega)] at e1
    rw [if_neg (ne (m := 0) rfl (by omega)), if_neg (ne (m := 1) rfl (by omega))] at v
    cases e1
    exact Or.inl ⟨by rw [v, t3], z⟩
end
section
/-! ===== bits ===== -/
def tbi (x : Int32) (o : Nat) : Bool := x.toBitVec.getLsbD o
theorem tb_or {x y : Int32} {o : Nat} : tbi (x ||| y) o = (tbi x o || tbi y o) := by
  unfold tbi
  rw [Int32.toBitVec_or, BitVec.getLsbD_or]
theorem tb_and {x y : Int32} {o : Nat} : tbi (x &&& y) o = (tbi x o && tbi y o) := by
  unfold tbi
  rw [Int32.toBitVec_and, BitVec.getLsbD_and]
theorem tb_xor {x y : Int32} {o : Nat} : tbi (x ^^^ y) o = Bool.xor (tbi x o) (tbi y o) := by
  unfold tbi
  rw [Int32.toBitVec_xor, BitVec.getLsbD_xor]
theorem tb_0 {o : Nat} : tbi 0 o = false := by
  unfold tbi
  rw [show (0 : Int32).toBitVec = 0#32 from rfl, BitVec.getLsbD_zero]
theorem tb_n1 : ∀ o, o < 32 → tbi (-1) o = true := by decide
theorem tb_n1x {x : Int32} {o : Nat} (h : o < 32) : tbi (x ^^^ -1) o = ! tbi x o := by
  rw [tb_xor, tb_n1 o h, Bool.xor_true]
theorem smod_of : ∀ o : Nat, o < 12 → ((Int32.ofInt (o : Int) &&& 31).toBitVec.smod 32).toNat = o := by decide
theorem sh_bit {x k : Int32} {o : Nat} (hk : (k.toBitVec.smod 32).toNat = o) (ho : o < 32) : (x >>> k) &&& 1 = if tbi x o = true then 1 else 0 := by
  refine Int32.toBitVec_inj.mp ?_
  rw [Int32.toBitVec_and, Int32.toBitVec_shiftRight, show (1 : Int32).toBitVec = 1#32 from rfl, BitVec.and_one_eq_setWidth_ofBool_getLsbD, BitVec.getLsbD_sshiftRight', hk, if_pos (show o + 0 < 32 by omega), Nat.add_zero]
  unfold tbi
  cases x.toBitVec.getLsbD o <;> rfl
theorem stb_e {x : Int32} {o : Nat} (ho : o < 12) : stb x o = if tbi x o = true then 1 else 0 := sh_bit (smod_of o ho) (by omega)
theorem stb_1i {x : Int32} {o : Nat} (ho : o < 12) : stb x o = 1 ↔ tbi x o = true := by
  rw [stb_e ho]
  cases tbi x o <;> decide
theorem stb_0i {x : Int32} {o : Nat} (ho : o < 12) : stb x o = 0 ↔ tbi x o = false := by
  rw [stb_e ho]
  cases tbi x o <;> decide
theorem tb_s : ∀ i : Nat, i < 12 → ∀ o : Nat, o < 12 → tbi ((1 : Int32) <<< (Int32.ofInt (i : Int) &&& 31)) o = decide (i = o) := by decide +kernel
/-- the lessons whose ends are later -/
def fLB (en sv : Nat → Int32) (i : Nat) (a : Int32) : Int32 := if en i ≤ sv i then a else a ||| ((1 : Int32) <<< (Int32.ofInt (i : Int) &&& 31))
theorem flb_t {en sv : Nat → Int32} {o : Nat} (o12 : o < 12) : ∀ n : Nat, n ≤ 12 → (tbi (fo (fLB en sv) n) o = true ↔ (o < n ∧ ¬ en o ≤ sv o)) := by
  intro n
  induction n with
  | zero =>
    intro _
    show tbi 0 o = true ↔ _
    rw [tb_0]
    exact ⟨fun h => absurd h (by decide), fun h => absurd h.1 (Nat.not_lt_zero _)⟩
  | succ n ih =>
    intro hn
    have ih := ih (by omega)
    show tbi (fLB en sv n (fo (fLB en sv) n)) o = true ↔ _
    unfold fLB
    by_cases c : en n ≤ sv n
    · rw [if_pos c]
      refine ih.trans ⟨fun h => ⟨by omega, h.2⟩, fun h => ⟨?_, h.2⟩⟩
      by_cases e : o = n
      · rw [e] at h; exact absurd c h.2
      · omega
    · rw [if_neg c, tb_or, tb_s n (by omega) o o12]
      by_cases e : n = o
      · rw [e] at c
        rw [e, decide_eq_true rfl, Bool.or_true]
        exact ⟨fun _ => ⟨by omega, c⟩, fun _ => rfl⟩
      · rw [decide_eq_false e, Bool.or_false]
        exact ih.trans ⟨fun h => ⟨by omega, h.2⟩, fun h => ⟨by omega, h.2⟩⟩
end
section
/-! ===== one lesson runs over by more: far, reaches, slack ===== -/
/-- l runs over by m more, up to 180 -/
def mo (d : gT) (l : Nat) (m x : Int32) : gT := upd2 (upd2 d 12 l (d 12 l + m)) 0 61 x
theorem mo_k {d : gT} {l k : Nat} {m x : Int32} (h : k ≠ 12) (h0 : k ≠ 0) : mo d l m x k = d k := funext fun _ => by unfold mo; rw [upd2_nk h0, upd2_nk h]
theorem mo_0 {d : gT} {l j : Nat} {m x : Int32} (h : j ≠ 61) : mo d l m x 0 j = d 0 j := by unfold mo; rw [upd2_nj h, upd2_nk (by decide)]
theorem mo_61 {d : gT} {l : Nat} {m x : Int32} : mo d l m x 0 61 = x := by unfold mo; rw [upd2_at]
theorem mo_12 {d : gT} {l j : Nat} {m x : Int32} (h : j ≠ l) : mo d l m x 12 j = d 12 j := by unfold mo; rw [upd2_nk (by decide), upd2_nj h]
theorem mo_cmg {d : gT} {l : Nat} {m x : Int32} (l12 : l < 12) : cmg (mo d l m x) = cmg d := by
  funext en i k
  unfold cmg wf0 wy
  rw [mo_k (k := 9) (by decide) (by decide), mo_k (k := 4) (by decide) (by decide), mo_0 (j := 3) (by decide), mo_0 (j := 4) (by decide), mo_12 (show 24 + (d 9 (6 * i + k)).toInt.toNat ≠ l by omega), mo_12 (show 24 + i ≠ l by omega), mo_12 (show 12 + i ≠ l by omega)]
theorem mo_ld {cs : Nat → List Int} {d : gT} {l i : Nat} {m x : Int32} {bg en ru by_ : Nat → Int32} (l12 : l < 12) (il : i ≠ l) (h61 : d 0 61 ≠ Int32.ofInt (i : Int)) (hx : x ≠ Int32.ofInt (i : Int)) : LD cs (mo d l m x) bg en ru by_ i ↔ LD cs d bg en ru by_ i := by
  have ht : ∀ b, tl (mo d l m x) b i = tl d b i := fun b => by
    funext j
    match j with
    | 0 => show mo d l m x 12 i = d 12 i; rw [mo_12 il]
    | 1 => show b - mo d l m x 1 i = b - d 1 i; rw [mo_k (by decide) (by decide)]
    | 2 => rfl
    | 3 => show mo d l m x 12 (24 + i) = d 12 (24 + i); rw [mo_12 (by omega)]
    | 4 => show mo d l m x 4 i = d 4 i; rw [mo_k (by decide) (by decide)]
    | 5 => rfl
    | j + 6 => rfl
  have ho : ∀ b, ov cs (mo d l m x) i b = ov cs d i b := fun b => by
    rw [ov_e, ov_e]
    unfold gv
    rw [mo_0 (j := 60) (by decide), mo_61, mo_0 (j := 52) (by decide), mo_12 il, ht, if_neg hx, if_neg h61]
  unfold LD LB FC
  rw [mo_cmg l12, ho, mo_k (k := 1) (by decide) (by decide), mo_k (k := 2) (by decide) (by decide), mo_k (k := 3) (by decide) (by decide), mo_k (k := 5) (by decide) (by decide), mo_k (k := 6) (by decide) (by decide), mo_k (k := 8) (by decide) (by decide), mo_k (k := 9) (by decide) (by decide), mo_12 (show 36 + i ≠ l by omega)]
theorem DC.wide {cs : Nat → List Int} {n : Nat} {x : Int32} {g d : gT} (h : DC cs n g d) : DC cs n (upd2 g 8 9 x) (upd2 d 0 61 x) := by
  obtain ⟨a1, a3, a4, a5, a6, a7, a8, a9, a10⟩ := h
  have ek : ∀ k, k ≠ 8 → upd2 g 8 9 x k = g k := fun k hk => funext fun _ => upd2_nk hk
  have dk : ∀ k, k ≠ 0 → upd2 d 0 61 x k = d k := fun k hk => funext fun _ => upd2_nk hk
  have d0 : ∀ j, j ≠ 61 → upd2 d 0 61 x 0 j = d 0 j := fun j hj => upd2_nj hj
  refine ⟨by rw [ek 1 (by decide)]; exact a1, fun i hi => ⟨(a3 i hi).1.c (ek _ (by omega)) (ek _ (by omega)) (fun k x _ => dk k (by omega)), (a3 i hi).2.c (ek _ (by decide)) (ek _ (by decide)) (ek _ (by decide)) (ek _ (by decide)) (dk 12 (by decide))⟩, ?_, wf_e a5 (dk 5 (by decide)) (dk 6 (by decide)) (dk 8 (by decide)) (dk 9 (by decide)), ?_, ?_, ?_, ?_, ?_⟩
  · rw [ek 1 (by decide), d0 3 (by decide), d0 4 (by decide)]; exact a4
  · rw [dk 12 (by decide), dk 8 (by decide)]; exact a6
  · rw [ek 6 (by decide), ek 3 (by decide), d0 52 (by decide)]; exact a7
  · rw [ek 3 (by decide), ek 20 (by decide), ek 19 (by decide)]; exact a8
  · rw [upd2_nj (by decide), d0 60 (by decide)]; exact a9
  · rw [upd2_at, upd2_at]
theorem MD.wide {cs : Nat → List Int} {n : Nat} {x : Int32} {d : gT} (h : MD cs n d) : MD cs n (upd2 d 0 61 x) := by
  have dk : ∀ k, k ≠ 0 → upd2 d 0 61 x k = d k := fun k hk => funext fun _ => upd2_nk hk
  unfold MD WF
  rw [dk 5 (by decide), dk 6 (by decide), dk 8 (by decide), dk 9 (by decide), dk 10 (by decide), dk 11 (by decide), upd2_nj (by decide), upd2_nj (by decide)]
  exact h
/-- the ends of a day -/
def EN (cs : Nat → List Int) (n : Nat) (d : gT) (en : Nat → Int32) : Prop := ∃ bg ru by_, DY cs d n bg en ru by_
theorem EN.u {cs : Nat → List Int} {n : Nat} {d : gT} {en en' : Nat → Int32} (hW : WF n d) (h : EN cs n d en) (h' : EN cs n d en') : ∀ i, i < n → en i = en' i := by
  obtain ⟨b1, r1, y1, h1⟩ := h
  obtain ⟨b2, r2, y2, h2⟩ := h'
  exact fun i hi => (DY.u hW h1 h2 i hi).2.1
theorem EN.c {cs : Nat → List Int} {n : Nat} {d : gT} {en en' : Nat → Int32} (hW : WF n d) (h : EN cs n d en) (e : ∀ i, i < n → en i = en' i) : EN cs n d en' := by
  obtain ⟨b1, r1, y1, h1⟩ := h
  exact ⟨b1, r1, y1, fun i hi => (h1 i hi).c hW hi (fun j hj => e j (by omega)) rfl rfl rfl⟩
theorem EN.t {cs : Nat → List Int} {n : Nat} {d g : gT} {en : Nat → Int32} (e : ∀ k, k < 29 → g k = d k) (h : EN cs n g en) : EN cs n d en := by
  obtain ⟨b1, r1, y1, h1⟩ := h
  rw [← DY_T, Td_q e, DY_T] at h1
  exact ⟨b1, r1, y1, h1⟩
theorem wf_mo {n l : Nat} {d : gT} {m x : Int32} (hW : WF n d) : WF n (mo d l m x) := wf_e hW (mo_k (by decide) (by decide)) (mo_k (by decide) (by decide)) (mo_k (by decide) (by decide)) (mo_k (by decide) (by decide))
theorem oi_ne {i l : Nat} (h : i ≠ l) (hi : i < 12) (hl : l < 12) : Int32.ofInt (l : Int) ≠ Int32.ofInt (i : Int) := fun e => by
  have e := congrArg Int32.toInt e
  rw [Int32.toInt_ofInt_of_le (by omega) (by omega), Int32.toInt_ofInt_of_le (by omega) (by omega)] at e
  omega
theorem oi_n1 {i : Nat} (hi : i < 12) : (-1 : Int32) ≠ Int32.ofInt (i : Int) := fun e => by
  have e := congrArg Int32.toInt e
  rw [Int32.toInt_ofInt_of_le (by omega) (by omega)] at e
  have : (-1 : Int32).toInt = -1 := rfl
  omega
theorem keep_x {cs : Nat → List Int} {n fu : Nat} {g d : gT} {L : lT} (h : DC cs n g d) : Pc (fX10_keepEnds_9 fu g L) (fun _ g1 _ => (∀ k, k ≠ 49 → k ≠ 21 → (k < 43 ∨ 48 < k) → g1 k = g k) ∧ DY cs d n (g1 43) (g1 44) (g1 45) (g1 46) ∧ ∀ j, j < 12 → g1 49 j = g1 44 j) := by
  unfold fX10_keepEnds_9
  refine pc_cb (rf_x h (f := 0) rfl (Nat.zero_le _)) (fun _ g2 L3 e2 => pc_stA (fun g5 e5 => pc_some ⟨fun k a b c => ?_, ?_, fun j hj => ?_⟩))
  · rw [e5, updA_ne a, e2.2.2 k b c]
  · rw [e5, updA_ne (by decide), updA_ne (by decide), updA_ne (by decide), updA_ne (by decide)]
    exact fun i hi => e2.1 i (Nat.zero_le _) hi
  · rw [e5, updA_at, cpy_at, if_pos hj, updA_ne (by decide)]
/-- a lesson ahead stands as it was -/
theorem pre_c {cs : Nat → List Int} {n l : Nat} {d g g1 : gT} (hW : WF n d) (ln : l < n) (h : ∀ i, i < l → LD cs d (g 43) (g 44) (g 45) (g 46) i) (e : ∀ j, j < l → g1 43 j = g 43 j ∧ g1 44 j = g 44 j ∧ g1 45 j = g 45 j ∧ g1 46 j = g 46 j) : ∀ i, i < l → LD cs d (g1 43) (g1 44) (g1 45) (g1 46) i := fun i hi =>
  (h i hi).c hW (by omega) (fun j hj => (e j (by omega)).2.1.symm) (e i hi).1.symm (e i hi).2.2.1.symm (e i hi).2.2.2.symm
theorem more_x {cs : Nat → List Int} {n l fu : Nat} {p1 p2 : Int32} {g d : gT} {L : lT} (h : DC cs n g d) (h61 : d 0 61 = -1) (hl : p1.toInt = (l : Int)) (ln : l < n) (pre : ∀ i, i < l → LD cs d (g 43) (g 44) (g 45) (g 46) i) : Pc (fX10_runMore_9 fu p1 p2 g L) (fun _ g1 _ => (∀ k, k ≠ 21 → (k < 43 ∨ 48 < k) → g1 k = g k) ∧ (∀ i, i < l → LD cs d (g1 43) (g1 44) (g1 45) (g1 46) i) ∧ EN cs n (mo d l p2 p1) (g1 44)) := by
  have hW := h.2.2.2.1
  have n12 := h.1.2
  have l12' : l < 12 := by omega
  have el : p1.toNatClampNeg = l := by rw [nc, hl]; omega
  have pl : p1 = Int32.ofInt (l : Int) := by rw [← hl]; exact io_i.symm
  unfold fX10_runMore_9
  rw [el]
  refine pc_ck (fun _ _ => pc_lti (fun x1 e1 => pc_ck (fun _ _ => pc_st (fun g2 e2 => pc_st (fun g3 e3 => ?_)))))
  have d1 : g 25 l = d 12 l := (h.2.1 l ln).2.1
  have hD : DC cs n g3 (mo d l p2 p1) := by
    have x := (h.put (q := 0) (l := l) (v := d 12 l + p2) (by decide) l12' (fun e => absurd e (by decide))).wide (x := p1)
    rw [show 12 * 0 + l = l by omega] at x
    rw [e3, e2, e1, d1]; exact x
  have o3 : ∀ k, k ≠ 25 → k ≠ 8 → g3 k = g k := fun k a b => by rw [e3, e2]; exact funext fun _ => by rw [upd2_nk b, upd2_nk a]
  refine pc_cb (rf_x hD hl (by omega)) (fun _ g5 L6 e5 => pc_st (fun g8 e8 => pc_ck (fun _ _ => pc_st (fun g9 e9 => pc_some ?_))))
  obtain ⟨r1, r2, r3⟩ := e5
  have o9 : ∀ k, k ≠ 25 → k ≠ 8 → g9 k = g5 k := fun k a b => by rw [e9, e8]; exact funext fun _ => by rw [upd2_nk a, upd2_nk b]
  have q43 := o9 43 (by decide) (by decide)
  have q44 := o9 44 (by decide) (by decide)
  have q45 := o9 45 (by decide) (by decide)
  have q46 := o9 46 (by decide) (by decide)
  have pre5 : ∀ i, i < l → LD cs d (g5 43) (g5 44) (g5 45) (g5 46) i := pre_c hW ln pre (fun j hj => by
    have a := r2 j hj
    rw [o3 43 (by decide) (by decide), o3 44 (by decide) (by decide), o3 45 (by decide) (by decide), o3 46 (by decide) (by decide)] at a
    exact a)
  refine ⟨fun k a b => ?_, by rw [q43, q44, q45, q46]; exact pre5, ?_⟩
  · by_cases h25 : k = 25
    · subst h25
      funext j
      rw [e9]
      by_cases hj : j = l
      · rw [hj, upd2_at, e1]
      · rw [upd2_nj hj, e8, upd2_nk (by decide), r3 25 (by decide) (by omega), e3, upd2_nk (by decide), e2, upd2_nj hj]
    · by_cases h8 : k = 8
      · subst h8
        funext j
        rw [e9, upd2_nk (by decide), e8]
        by_cases hj : j = 9
        · rw [hj, upd2_at, h.2.2.2.2.2.2.2.2, h61]
        · rw [upd2_nj hj, r3 8 (by decide) (by omega), e3, upd2_nj hj, e2, upd2_nk (by decide)]
      · rw [o9 k h25 h8, r3 k a b, o3 k h25 h8]
  · rw [q44]
    refine ⟨g5 43, g5 45, g5 46, fun i hi => ?_⟩
    by_cases c : l ≤ i
    · exact r1 i c hi
    · have il : i ≠ l := by omega
      exact (mo_ld l12' il (by rw [h61]; exact oi_n1 (by omega)) (by rw [pl]; exact oi_ne il (by omega) l12')).mpr (pre5 i (by omega))
/-- minutes by which ends are later, all in all -/
def fLM (en sv : Nat → Int32) (i : Nat) (a : Int32) : Int32 := a + (en i - sv i)
def fLt (d : gT) (en : Nat → Int32) (i : Nat) (a : Int32) : Int32 := a + (en i - d 2 i)
theorem flm_e {d : gT} {en sv : Nat → Int32} : ∀ n : Nat, fo (fLM en sv) n = fo (fLt d en) n - fo (fLt d sv) n := by
  intro n
  induction n with
  | zero => show (0 : Int32) = 0 - 0; rw [Int32.sub_self]
  | succ n ih =>
    show fo (fLM en sv) n + (en n - sv n) = (fo (fLt d en) n + (en n - d 2 n)) - (fo (fLt d sv) n + (sv n - d 2 n))
    rw [ih]
    generalize fo (fLt d en) n = y
    generalize fo (fLt d sv) n = z
    generalize en n = e
    generalize sv n = s
    generalize d 2 n = t
    refine ((Int32.sub_eq_iff_eq_add).mpr ?_).symm
    have : y - z + (e - s) + (z + (s - t)) = (y + (e - t)) + ((-z + z) + (-s + s)) := by
      rw [Int32.sub_eq_add_neg, Int32.sub_eq_add_neg, Int32.sub_eq_add_neg, Int32.sub_eq_add_neg]
      ac_rfl
    rw [this, Int32.add_left_neg, Int32.add_left_neg, Int32.add_zero, Int32.add_zero]
theorem bits_x {cs : Nat → List Int} {n fu : Nat} {g d : gT} {L : lT} (h : DC cs n g d) : Pc (fX10_laterBits_9 fu g L) (fun x g1 _ => g1 = g ∧ x = fo (fLB (g 44) (g 49)) n) := by
  have hn := h.1
  have n12 := h.1.2
  unfold fX10_laterBits_9 fX10_laterBits_9_l4
  refine pc_loop (fun v => ∃ m : Nat, v.2.1.toInt = (m : Int) ∧ m ≤ n ∧ v.1 = fo (fLB (g 44) (g 49)) m ∧ v.2.2.1 = g) (fun k4 hk v hv => ?_) ⟨0, rfl, by omega, rfl, rfl⟩
  obtain ⟨v1, v2, g', L'⟩ := v
  obtain ⟨m, hm, mn, e1, eg⟩ := hv
  replace hm : v2.toInt = (m : Int) := hm
  replace e1 : v1 = fo (fLB (g 44) (g 49)) m := e1
  replace eg : g' = g := eg
  subst eg
  show Pc (fX10_laterBits_9_s4 fu k4 v1 v2 g' L') _
  unfold fX10_laterBits_9_s4 fX10_laterBits_9_p36 fX10_lessonCount_9
  rw [cbs]
  have ei : v2.toNatClampNeg = m := by rw [nc, hm]; omega
  have vi : v2 = Int32.ofInt (m : Int) := by rw [← hm]; exact io_i.symm
  refine pc_ite (fun c => pc_some ⟨rfl, ?_⟩) (fun c => ?_)
  · have c := icc_le hn.1 hm c
    rw [e1, show m = n by omega]
  have c := icc_nle hn.1 hm c
  have ew : (v2 + 1).toInt = ((m + 1 : Nat) : Int) := by rw [ic_addc hm (n := 1) rfl (by omega) (by omega)]; omega
  rw [ei]
  refine pc_ck (fun _ _ => pc_ck (fun _ _ => pc_ite (fun c1 => hk _ ⟨m + 1, ew, by omega, ?_, rfl⟩) (fun c1 => pc_lti (fun x7 e7 => hk _ ⟨m + 1, ew, by omega, ?_, rfl⟩))))
  · show v1 = fLB (g' 44) (g' 49) m (fo (fLB (g' 44) (g' 49)) m)
    unfold fLB
    rw [if_pos c1]; exact e1
  · show x7 = fLB (g' 44) (g' 49) m (fo (fLB (g' 44) (g' 49)) m)
    rw [e7, e1, vi]
    show _ = if g' 44 m ≤ g' 49 m then _ else _
    rw [if_neg c1]
theorem mins_x {cs : Nat → List Int} {n fu : Nat} {g d : gT} {L : lT} (h : DC cs n g d) : Pc (fX10_laterMinutes_9 fu g L) (fun x g1 _ => g1 = g ∧ x = fo (fLM (g 44) (g 49)) n) := by
  have hn := h.1
  have n12 := h.1.2
  unfold fX10_laterMinutes_9 fX10_laterMinutes_9_l4
  refine pc_loop (fun v => ∃ m : Nat, v.2.1.toInt = (m : Int) ∧ m ≤ n ∧ v.1 = fo (fLM (g 44) (g 49)) m ∧ v.2.2.1 = g) (fun k4 hk v hv => ?_) ⟨0, rfl, by omega, rfl, rfl⟩
  obtain ⟨v1, v2, g', L'⟩ := v
  obtain ⟨m, hm, mn, e1, eg⟩ := hv
  replace hm : v2.toInt = (m : Int) := hm
  replace e1 : v1 = fo (fLM (g 44) (g 49)) m := e1
  replace eg : g' = g := eg
  subst eg
  show Pc (fX10_laterMinutes_9_s4 fu k4 v1 v2 g' L') _
  unfold fX10_laterMinutes_9_s4 fX10_lessonCount_9
  rw [cbs]
  have ei : v2.toNatClampNeg = m := by rw [nc, hm]; omega
  refine pc_ite (fun c => pc_some ⟨rfl, ?_⟩) (fun c => ?_)
  · have c := icc_le hn.1 hm c
    rw [e1, show m = n by omega]
  have c := icc_nle hn.1 hm c
  rw [ei]
  refine pc_ck (fun _ _ => pc_ck (fun _ _ => pc_lti (fun x6 e6 => hk _ ⟨m + 1, ?_, by omega, ?_, rfl⟩)))
  · show (v2 + 1).toInt = _
    rw [ic_addc hm (n := 1) rfl (by omega) (by omega)]; omega
  · show x6 = fLM (g' 44) (g' 49) m (fo (fLM (g' 44) (g' 49)) m)
    rw [e6, e1]; rfl
/-! the reference -/
theorem cp37 {fu : Nat} {g : gT} {L : lT} : Pc (fX12_copies_32_37 fu g L) (fun _ g1 _ => (∀ j, j < 12 → g1 37 j = g 32 j) ∧ ∀ k, k ≠ 37 → g1 k = g k) := by
  unfold fX12_copies_32_37 fX12_copies_32_37_l2
  refine pc_loop (fun v => ∃ m : Nat, v.1.toInt = (m : Int) ∧ m ≤ 12 ∧ (∀ j, j < m → v.2.1 37 j = g 32 j) ∧ ∀ k, k ≠ 37 → v.2.1 k = g k) (fun k2 hk v hv => ?_) ⟨0, rfl, by omega, fun j hj => absurd hj (Nat.not_lt_zero _), fun _ _ => rfl⟩
  obtain ⟨v3, g', L'⟩ := v
  obtain ⟨m, hm, mn, e1, ek⟩ := hv
  replace hm : v3.toInt = (m : Int) := hm
  replace e1 : ∀ j, j < m → g' 37 j = g 32 j := e1
  replace ek : ∀ k, k ≠ 37 → g' k = g k := ek
  show Pc (fX12_copies_32_37_s2 fu k2 v3 g' L') _
  unfold fX12_copies_32_37_s2
  have ei : v3.toNatClampNeg = m := by rw [nc, hm]; omega
  refine pc_ite (fun c => pc_some ⟨fun j hj => e1 j ?_, ek⟩) (fun c => ?_)
  · have c := icc_le (m := 12) rfl hm c
    omega
  have c := icc_nle (m := 12) rfl hm c
  rw [ei, ek 32 (by decide)]
  refine pc_ck (fun _ _ => pc_ck (fun _ _ => pc_st (fun g2 e2 => hk _ ⟨m + 1, ?_, by omega, fun j hj => ?_, fun k h => ?_⟩)))
  · show (v3 + 1).toInt = _
    rw [ic_addc hm (n := 1) rfl (by omega) (by omega)]; omega
  · show g2 37 j = _
    by_cases q : j = m
    · rw [q, e2, upd2_at]
    · rw [e2, upd2_nj q]; exact e1 j (by omega)
  · show g2 k = g k
    rw [e2, ← ek k h]; exact funext fun _ => upd2_nk h
theorem lates_m {n fu : Nat} {g : gT} {L : lT} (hn : (g 0 1).toInt = (n : Int)) (n12 : n ≤ 12) : Pc (fX12_lates fu g L) (fun x g1 _ => g1 = g ∧ x = fo (fLt g (g 32)) n) := by
  unfold fX12_lates fX12_lates_l4
  refine pc_loop (fun v => ∃ m : Nat, v.2.1.toInt = (m : Int) ∧ m ≤ n ∧ v.1 = fo (fLt g (g 32)) m ∧ v.2.2.1 = g) (fun k4 hk v hv => ?_) ⟨0, rfl, by omega, rfl, rfl⟩
  obtain ⟨v1, v2, g', L'⟩ := v
  obtain ⟨m, hm, mn, e1, eg⟩ := hv
  replace hm : v2.toInt = (m : Int) := hm
  replace e1 : v1 = fo (fLt g (g 32)) m := e1
  replace eg : g' = g := eg
  subst eg
  show Pc (fX12_lates_s4 fu k4 v1 v2 g' L') _
  unfold fX12_lates_s4
  refine pc_ite (fun c => pc_some ⟨rfl, ?_⟩) (fun c => ?_)
  · have c := icc_le hn hm c
    rw [e1, show m = n by omega]
  have c := icc_nle hn hm c
  refine pc_cb (late_m (d := g') (fun _ _ => rfl) hm) (fun x2 g3 L4 e => ?_)
  obtain ⟨rfl, e⟩ := e
  refine pc_lti (fun x6 e6 => hk _ ⟨m + 1, ?_, by omega, ?_, rfl⟩)
  · show (v2 + 1).toInt = _
    rw [ic_addc hm (n := 1) rfl (by omega) (by omega)]; omega
  · show x6 = fLt g3 (g3 32) m (fo (fLt g3 (g3 32)) m)
    rw [e6, e, e1]; rfl
theorem fLt_c {d g : gT} {en : Nat → Int32} (e : g 2 = d 2) : fLt g en = fLt d en := by
  funext i a
  unfold fLt
  rw [e]
theorem later_m {n fu : Nat} {g : gT} {L : lT} (hn : (g 0 1).toInt = (n : Int)) (n12 : n ≤ 12) : Pc (fX12_later fu g L) (fun x g1 _ => g1 = g ∧ x = fo (fLB (g 32) (g 37)) n) := by
  unfold fX12_later fX12_later_l4
  refine pc_loop (fun v => ∃ m : Nat, v.2.1.toInt = (m : Int) ∧ m ≤ n ∧ v.1 = fo (fLB (g 32) (g 37)) m ∧ v.2.2.1 = g) (fun k4 hk v hv => ?_) ⟨0, rfl, by omega, rfl, rfl⟩
  obtain ⟨v1, v2, g', L'⟩ := v
  obtain ⟨m, hm, mn, e1, eg⟩ := hv
  replace hm : v2.toInt = (m : Int) := hm
  replace e1 : v1 = fo (fLB (g 32) (g 37)) m := e1
  replace eg : g' = g := eg
  subst eg
  show Pc (fX12_later_s4 fu k4 v1 v2 g' L') _
  unfold fX12_later_s4 fX12_later_p35
  have ei : v2.toNatClampNeg = m := by rw [nc, hm]; omega
  have vi : v2 = Int32.ofInt (m : Int) := by rw [← hm]; exact io_i.symm
  refine pc_ite (fun c => pc_some ⟨rfl, ?_⟩) (fun c => ?_)
  · have c := icc_le hn hm c
    rw [e1, show m = n by omega]
  have c := icc_nle hn hm c
  have ew : (v2 + 1).toInt = ((m + 1 : Nat) : Int) := by rw [ic_addc hm (n := 1) rfl (by omega) (by omega)]; omega
  rw [ei]
  refine pc_ck (fun _ _ => pc_ck (fun _ _ => pc_ite (fun c1 => pc_lti (fun x2 e2 => hk _ ⟨m + 1, ew, by omega, ?_, rfl⟩)) (fun c1 => pc_lti (fun x2 e2 => hk _ ⟨m + 1, ew, by omega, ?_, rfl⟩))))
  · show x2 = if g' 32 m ≤ g' 37 m then _ else _
    rw [if_pos c1, e2, Int32.or_zero]; exact e1
  · show x2 = if g' 32 m ≤ g' 37 m then _ else _
    rw [if_neg c1, e2, e1, vi]
theorem moreBy_m {cs : Nat → List Int} {n l fu : Nat} {p1 p2 : Int32} {g d : gT} {L : lT} (hM : MD cs n d) (e : ∀ k, k < 29 → g k = d k) (h61 : d 0 61 = -1) (hl : p1.toInt = (l : Int)) (l12' : l < 12) : Pc (fX12_moreBy fu p1 p2 g L) (fun x g1 _ => (∀ k, k < 29 → g1 k = d k) ∧ EN cs n d (g1 37) ∧ EN cs n (mo d l p2 p1) (g1 32) ∧ x = fo (fLM (g1 32) (g1 37)) n) := by
  have hW := hM.2.1
  have n12 := hM.1.2
  have e0 : (0 + p1).toNatClampNeg = l := by rw [nc, ic_addc (m := 0) rfl hl (by omega) (by omega)]; omega
  unfold fX12_moreBy
  rw [e0]
  refine pc_cb (wk_m (hM.t e)) (fun _ g2 L3 e2 => pc_cb cp37 (fun _ g6 L7 e6 => ?_))
  have k2 : ∀ k, k < 29 → g2 k = d k := fun k hk => (e2.2 k (by omega)).trans (e k hk)
  have k6 : ∀ k, k < 29 → g6 k = d k := fun k hk => (e6.2 k (by omega)).trans (k2 k hk)
  have n1 : EN cs n d (g6 37) := EN.c hW (EN.t e ⟨_, _, _, e2.1⟩) (fun i hi => (e6.1 i (by omega)).symm)
  refine pc_cb (lates_m (n := n) (by rw [k6 0 (by omega)]; exact hM.1.1) n12) (fun x9 g10 L11 q9 => ?_)
  obtain ⟨rfl, q9⟩ := q9
  rw [e6.2 32 (by decide), fLt_c (k6 2 (by omega))] at q9
  have q9' : x9 = fo (fLt d (g10 37)) n := by
    rw [q9]
    exact fo_c (fun i hi a => by unfold fLt; rw [e6.1 i (by omega)])
  refine pc_ck (fun _ _ => pc_ck (fun _ _ => pc_st (fun g13 e13 => pc_st (fun g14 e14 => ?_))))
  have k14 : ∀ k, k < 29 → g14 k = mo d l p2 p1 k := fun k hk => by
    rw [e14, e13, k6 12 (by omega)]
    by_cases h0 : k = 0
    · subst h0
      funext j
      by_cases hj : j = 61
      · rw [hj, upd2_at, mo_61]
      · rw [upd2_nj hj, upd2_nk (by decide), k6 0 (by omega), mo_0 hj]
    · by_cases h12 : k = 12
      · subst h12
        funext j
        rw [upd2_nk (by decide)]
        by_cases hj : j = l
        · rw [hj, upd2_at]
          show _ = upd2 (upd2 d 12 l (d 12 l + p2)) 0 61 p1 12 l
          rw [upd2_nk (by decide), upd2_at]
        · rw [upd2_nj hj, k6 12 (by omega), mo_12 hj]
      · funext j
        rw [upd2_nk h0, upd2_nk h12, k6 k hk, mo_k h12 h0]
  have hM14 : MD cs n g14 := MD.t (d := mo d l p2 p1) (MD.wide (MD.put hM)) k14
  refine pc_cb (wk_m hM14) (fun _ g16 L17 e16 => pc_st (fun g19 e19 => pc_ck (fun _ _ => pc_ck (fun _ _ => pc_st (fun g20 e20 => ?_)))))
  have n2 : EN cs n (mo d l p2 p1) (g16 32) := EN.t k14 ⟨_, _, _, e16.1⟩
  have a12 : g19 12 l = d 12 l + p2 := by
    rw [e19, upd2_nk (by decide), e16.2 12 (by omega), k14 12 (by omega)]
    show upd2 (upd2 d 12 l (d 12 l + p2)) 0 61 p1 12 l = _
    rw [upd2_nk (by decide), upd2_at]
  have k20 : ∀ k, k < 29 → g20 k = d k := fun k hk => by
    by_cases h12 : k = 12
    · subst h12
      funext j
      by_cases hj : j = l
      · rw [hj, e20, upd2_at, a12, Int32.add_sub_cancel]
      · rw [e20, upd2_nj hj, e19, upd2_nk (by decide), e16.2 12 (by omega), k14 12 (by omega), mo_12 hj]
    · by_cases h0 : k = 0
      · subst h0
        funext j
        rw [e20, upd2_nk (by decide), e19]
        by_cases hj : j = 61
        · rw [hj, upd2_at, h61]
        · rw [upd2_nj hj, e16.2 0 (by omega), k14 0 (by omega), mo_0 hj]
      · funext j
        rw [e20, upd2_nk h12, e19, upd2_nk h0, e16.2 k (by omega), k14 k hk, mo_k h12 h0]
  have o20 : ∀ k, k ≠ 12 → k ≠ 0 → g20 k = g16 k := fun k a b => by rw [e20, e19]; exact funext fun _ => by rw [upd2_nk a, upd2_nk b]
  have z37 : g20 37 = g10 37 := by
    rw [o20 37 (by decide) (by decide), e16.2 37 (by omega), e14, e13]
    exact funext fun _ => by rw [upd2_nk (by decide), upd2_nk (by decide)]
  refine pc_cb (lates_m (n := n) (by rw [k20 0 (by omega)]; exact hM.1.1) n12) (fun x21 g22 L23 q21 => ?_)
  obtain ⟨rfl, q21⟩ := q21
  rw [fLt_c (k20 2 (by omega))] at q21
  refine pc_some ⟨k20, by rw [z37]; exact n1, by rw [o20 32 (by decide) (by decide)]; exact n2, ?_⟩
  rw [flm_e (d := d), q21, q9', z37]
/-! the answers -/
def UP (Z : Nat → Prop) (x : Int32) : Prop := (x = -1 ∧ ∀ m : Nat, 1 ≤ m → m ≤ 120 → ¬ Z m) ∨ ∃ m : Nat, (1 ≤ m ∧ m ≤ 120) ∧ x.toInt = (m : Int) ∧ Z m ∧ ∀ m', 1 ≤ m' → m' < m → ¬ Z m'
theorem UP.u {Z : Nat → Prop} {x y : Int32} (h : UP Z x) (h' : UP Z y) : x = y := by
  rcases h with ⟨a, b⟩ | ⟨m, ⟨m1, m2⟩, a, b, c⟩
  · rcases h' with ⟨a', -⟩ | ⟨m', ⟨n1, n2⟩, -, b', -⟩
    · rw [a, a']
    · exact absurd b' (b m' n1 n2)
  · rcases h' with ⟨-, b'⟩ | ⟨m', ⟨n1, n2⟩, a', b', c'⟩
    · exact absurd b (b' m m1 m2)
    · rcases (by omega : m < m' ∨ m = m' ∨ m' < m) with e | e | e
      · exact absurd b (c' m m1 e)
      · exact ic_eq.mpr (by omega)
      · exact absurd b' (c m' n1 e)
def DN (Z : Nat → Prop) (x : Int32) : Prop := (x = 0 ∧ ∀ m : Nat, 1 ≤ m → m ≤ 120 → ¬ Z m) ∨ ∃ m : Nat, (1 ≤ m ∧ m ≤ 120) ∧ x.toInt = (m : Int) ∧ Z m ∧ ∀ m', m < m' → m' ≤ 120 → ¬ Z m'
theorem DN.u {Z : Nat → Prop} {x y : Int32} (h : DN Z x) (h' : DN Z y) : x = y := by
  rcases h with ⟨a, b⟩ | ⟨m, ⟨m1, m2⟩, a, b, c⟩
  · rcases h' with ⟨a', -⟩ | ⟨m', ⟨n1, n2⟩, -, b', -⟩
    · rw [a, a']
    · exact absurd b' (b m' n1 n2)
  · rcases h' with ⟨-, b'⟩ | ⟨m', ⟨n1, n2⟩, a', b', c'⟩
    · exact absurd b (b' m m1 m2)
    · rcases (by omega : m < m' ∨ m = m' ∨ m' < m) with e | e | e
      · exact absurd b' (c m' e n2)
      · exact ic_eq.mpr (by omega)
      · exact absurd b (c' m e m2)
/-- m minutes more of l make o later -/
def RZ (cs : Nat → List Int) (n : Nat) (d : gT) (l o : Nat) (p1 : Int32) (m : Nat) : Prop := ∃ sv en, EN cs n d sv ∧ EN cs n (mo d l (Int32.ofInt (m : Int)) p1) en ∧ ¬ en o ≤ sv o
/-- m minutes more of l make none but l later -/
def DZ (cs : Nat → List Int) (n : Nat) (d : gT) (l : Nat) (p1 : Int32) (m : Nat) : Prop := ∃ sv en, EN cs n d sv ∧ EN cs n (mo d l (Int32.ofInt (m : Int)) p1) en ∧ (fo (fLB en sv) n &&& (((1 : Int32) <<< (p1 &&& 31)) ^^^ -1)) = 0
theorem rz_iff {cs : Nat → List Int} {n l o m : Nat} {d : gT} {p1 : Int32} {sv en : Nat → Int32} (hW : WF n d) (on : o < n) (h1 : EN cs n d sv) (h2 : EN cs n (mo d l (Int32.ofInt (m : Int)) p1) en) : RZ cs n d l o p1 m ↔ ¬ en o ≤ sv o := by
  constructor
  · intro ⟨sv', en', a, b, c⟩
    rw [EN.u hW h1 a o on, EN.u (wf_mo hW) h2 b o on]; exact c
  · intro c; exact ⟨_, _, h1, h2, c⟩
theorem flb_u {cs : Nat → List Int} {n : Nat} {d d' : gT} {sv en sv' en' : Nat → Int32} (hW : WF n d) (hW' : WF n d') (h1 : EN cs n d sv) (h2 : EN cs n d' en) (h1' : EN cs n d sv') (h2' : EN cs n d' en') : fo (fLB en sv) n = fo (fLB en' sv') n :=
  fo_c (fun i hi a => by unfold fLB; rw [EN.u hW h1 h1' i hi, EN.u hW' h2 h2' i hi])
theorem dz_iff {cs : Nat → List Int} {n l m : Nat} {d : gT} {p1 : Int32} {sv en : Nat → Int32} (hW : WF n d) (h1 : EN cs n d sv) (h2 : EN cs n (mo d l (Int32.ofInt (m : Int)) p1) en) : DZ cs n d l p1 m ↔ (fo (fLB en sv) n &&& (((1 : Int32) <<< (p1 &&& 31)) ^^^ -1)) = 0 := by
  constructor
  · intro ⟨sv', en', a, b, c⟩
    rw [flb_u hW (wf_mo hW) h1 h2 a b]; exact c
  · intro c; exact ⟨_, _, h1, h2, c⟩
/-- what holds while trials of more minutes go on -/
def TM (cs : Nat → List Int) (n l : Nat) (d g g' : gT) : Prop := (∀ k, k ≠ 49 → k ≠ 21 → (k < 43 ∨ 48 < k) → g' k = g k) ∧ (∀ i, i < l → LD cs d (g' 43) (g' 44) (g' 45) (g' 46) i) ∧ EN cs n d (g' 49)
theorem tm_0 {cs : Nat → List Int} {n l fu : Nat} {g d : gT} {L : lT} (h : DC cs n g d) (ln : l < n) : Pc (fX10_keepEnds_9 fu g L) (fun _ g1 _ => TM cs n l d g g1) := by
  refine pc_mo (keep_x h) (fun _ g1 _ e => ⟨e.1, fun i hi => e.2.1 i (by omega), ?_⟩)
  have n12 := h.1.2
  exact EN.c h.2.2.2.1 ⟨_, _, _, e.2.1⟩ (fun i hi => (e.2.2 i (by omega)).symm)
theorem tm_c {cs : Nat → List Int} {n l : Nat} {d g g' : gT} (h : DC cs n g d) (t : TM cs n l d g g') : DC cs n g' d := h.c3 (fun k a => t.1 k (by omega) (by omega) (by omega))
theorem tm_s {cs : Nat → List Int} {n l fu : Nat} {p1 p2 : Int32} {g g' d : gT} {L : lT} (h : DC cs n g d) (h61 : d 0 61 = -1) (hl : p1.toInt = (l : Int)) (ln : l < n) (t : TM cs n l d g g') : Pc (fX10_runMore_9 fu p1 p2 g' L) (fun _ g1 _ => TM cs n l d g g1 ∧ EN cs n (mo d l p2 p1) (g1 44)) := by
  refine pc_mo (more_x (tm_c h t) h61 hl ln t.2.1) (fun _ g1 _ e => ⟨⟨fun k a b c => (e.1 k b c).trans (t.1 k a b c), e.2.1, ?_⟩, e.2.2⟩)
  rw [e.1 49 (by decide) (by omega)]; exact t.2.2
theorem reach_x {cs : Nat → List Int} {n l o fu : Nat} {p1 p2 : Int32} {g d : gT} {L : lT} (h : DC cs n g d) (h61 : d 0 61 = -1) (hl : p1.toInt = (l : Int)) (ln : l < n) (ho : p2.toInt = (o : Int)) (on : o < n) : Pc (fX10_leastThatReaches_9 fu p1 p2 g L) (fun x _ _ => UP (RZ cs n d l o p1) x) := by
  have hW := h.2.2.2.1
  have n12 := h.1.2
  have eo : p2.toNatClampNeg = o := by rw [nc, ho]; omega
  unfold fX10_leastThatReaches_9
  refine pc_cb (tm_0 h ln) (fun _ g2 L3 t2 => ?_)
  unfold fX10_leastThatReaches_9_l6
  refine pc_loop (fun v => ∃ m : Nat, v.1.toInt = (m : Int) ∧ 1 ≤ m ∧ m ≤ 121 ∧ TM cs n l d g v.2.1 ∧ ∀ m', 1 ≤ m' → m' < m → ¬ RZ cs n d l o p1 m') (fun k6 hk v hv => ?_) ⟨1, rfl, by omega, by omega, t2, fun m' a b => by omega⟩
  obtain ⟨v3, g', L'⟩ := v
  obtain ⟨m, hm, m1, m2, t, hz⟩ := hv
  replace hm : v3.toInt = (m : Int) := hm
  replace t : TM cs n l d g g' := t
  show Pc (fX10_leastThatReaches_9_s6 fu p1 p2 k6 v3 g' L') _
  unfold fX10_leastThatReaches_9_s6
  have i120 : (120 : Int32).toInt = 120 := rfl
  refine pc_ite (fun c => pc_some (Or.inl ⟨rfl, fun m' a b => hz m' a ?_⟩)) (fun c => ?_)
  · have c := icc_lt i120 hm c
    omega
  have c := icc_nlt i120 hm c
  have vm : Int32.ofInt (m : Int) = v3 := by rw [← hm]; exact io_i
  refine pc_cb (tm_s h h61 hl ln t) (fun _ g7 L8 e7 => ?_)
  obtain ⟨t7, n7⟩ := e7
  have iff : RZ cs n d l o p1 m ↔ ¬ g7 44 o ≤ g7 49 o := rz_iff hW on t7.2.2 (by rw [vm]; exact n7)
  rw [eo]
  refine pc_ck (fun _ _ => pc_ck (fun _ _ => pc_ite (fun c1 => hk _ ⟨m + 1, ?_, by omega, by omega, t7, fun m' a b => ?_⟩) (fun c1 => pc_some (Or.inr ⟨m, by omega, hm, iff.mpr c1, hz⟩))))
  · show (v3 + 1).toInt = _
    rw [ic_addc hm (n := 1) rfl (by omega) (by omega)]; omega
  · by_cases q : m' = m
    · rw [q]; exact fun hh => iff.mp hh c1
    · exact hz m' a (by omega)
theorem reach_m {cs : Nat → List Int} {n l o fu : Nat} {p1 p2 : Int32} {d : gT} {L : lT} (hM : MD cs n d) (h61 : d 0 61 = -1) (hl : p1.toInt = (l : Int)) (ln : l < n) (ho : p2.toInt = (o : Int)) (on : o < n) : Pc (fX12_reaches_l43 fu p1 p2 1 d L) (fun x g1 _ => g1 0 = d 0 ∧ UP (RZ cs n d l o p1) x) := by
  have hW := hM.2.1
  have n12 := hM.1.2
  have po : p2 = Int32.ofInt (o : Int) := by rw [← ho]; exact io_i.symm
  unfold fX12_reaches_l43
  refine pc_loop (fun v => ∃ m : Nat, v.1.toInt = (m : Int) ∧ 1 ≤ m ∧ m ≤ 121 ∧ (∀ k, k < 29 → v.2.1 k = d k) ∧ ∀ m', 1 ≤ m' → m' < m → ¬ RZ cs n d l o p1 m') (fun k43 hk v hv => ?_) ⟨1, rfl, by omega, by omega, fun _ _ => rfl, fun m' a b => by omega⟩
  obtain ⟨v3, g', L'⟩ := v
  obtain ⟨m, hm, m1, m2, e, hz⟩ := hv
  replace hm : v3.toInt = (m : Int) := hm
  replace e : ∀ k, k < 29 → g' k = d k := e
  show Pc (fX12_reaches_s43 fu p1 p2 k43 v3 g' L') _
  unfold fX12_reaches_s43
  have i120 : (120 : Int32).toInt = 120 := rfl
  refine pc_ite (fun c => pc_some ⟨e 0 (by omega), Or.inl ⟨rfl, fun m' a b => hz m' a ?_⟩⟩) (fun c => ?_)
  · have c := icc_lt i120 hm c
    omega
  have c := icc_nlt i120 hm c
  have vm : Int32.ofInt (m : Int) = v3 := by rw [← hm]; exact io_i
  refine pc_cb (moreBy_m hM e h61 hl (by omega)) (fun x18 g19 L20 q => ?_)
  obtain ⟨e19, n1, n2, -⟩ := q
  refine pc_cb (later_m (n := n) (by rw [e19 0 (by omega)]; exact hM.1.1) n12) (fun x22 g23 L24 q => ?_)
  obtain ⟨rfl, q⟩ := q
  have iff : RZ cs n d l o p1 m ↔ ¬ g23 32 o ≤ g23 37 o := rz_iff hW on n1 (by rw [vm]; exact n2)
  have ib : (x22 >>> (p2 &&& 31)) &&& 1 = 1 ↔ ¬ g23 32 o ≤ g23 37 o := by
    rw [po]
    show stb x22 o = 1 ↔ _
    rw [stb_1i (by omega), q]
    exact (flb_t (by omega) n n12).trans ⟨fun h => h.2, fun h => ⟨on, h⟩⟩
  refine pc_ite (fun c1 => pc_some ⟨e19 0 (by omega), Or.inr ⟨m, by omega, hm, iff.mpr (ib.mp c1), hz⟩⟩) (fun c1 => hk _ ⟨m + 1, ?_, by omega, by omega, e19, fun m' a b => ?_⟩)
  · show (v3 + 1).toInt = _
    rw [ic_addc hm (n := 1) rfl (by omega) (by omega)]; omega
  · by_cases q' : m' = m
    · rw [q']; exact fun hh => c1 (ib.mpr (iff.mp hh))
    · exact hz m' a (by omega)
theorem slack_x {cs : Nat → List Int} {n l fu : Nat} {p1 : Int32} {g d : gT} {L : lT} (h : DC cs n g d) (h61 : d 0 61 = -1) (hl : p1.toInt = (l : Int)) (ln : l < n) : Pc (fX10_mostThatDies_9 fu p1 g L) (fun x _ _ => DN (DZ cs n d l p1) x) := by
  have hW := h.2.2.2.1
  have n12 := h.1.2
  unfold fX10_mostThatDies_9
  refine pc_cb (tm_0 h ln) (fun _ g2 L3 t2 => ?_)
  unfold fX10_mostThatDies_9_l7
  refine pc_loop (fun v => ∃ m : Nat, v.1.toInt = (m : Int) ∧ m ≤ 120 ∧ TM cs n l d g v.2.1 ∧ ∀ m', m < m' → m' ≤ 120 → ¬ DZ cs n d l p1 m') (fun k7 hk v hv => ?_) ⟨120, rfl, by omega, t2, fun m' a b => by omega⟩
  obtain ⟨v2, g', L'⟩ := v
  obtain ⟨m, hm, m2, t, hz⟩ := hv
  replace hm : v2.toInt = (m : Int) := hm
  replace t : TM cs n l d g g' := t
  show Pc (fX10_mostThatDies_9_s7 fu p1 k7 v2 g' L') _
  unfold fX10_mostThatDies_9_s7
  refine pc_ite (fun c => pc_some (Or.inl ⟨rfl, fun m' a b => hz m' ?_ b⟩)) (fun c => ?_)
  · have c := icc_le hm (n := 0) rfl c
    omega
  have c := icc_nle hm (n := 0) rfl c
  have vm : Int32.ofInt (m : Int) = v2 := by rw [← hm]; exact io_i
  refine pc_cb (tm_s h h61 hl ln t) (fun _ g7 L8 e7 => ?_)
  obtain ⟨t7, n7⟩ := e7
  refine pc_cb (bits_x (tm_c h t7)) (fun x10 g11 L12 q => ?_)
  obtain ⟨rfl, q⟩ := q
  have iff : DZ cs n d l p1 m ↔ (x10 &&& (((1 : Int32) <<< (p1 &&& 31)) ^^^ -1)) = 0 := by
    rw [q]; exact dz_iff hW t7.2.2 (by rw [vm]; exact n7)
  refine pc_ite (fun c1 => pc_some (Or.inr ⟨m, by omega, hm, iff.mpr c1, hz⟩)) (fun c1 => hk _ ⟨m - 1, ?_, by omega, t7, fun m' a b => ?_⟩)
  · show (v2 + (-1)).toInt = _
    rw [ic_addc hm (n := -1) rfl (by omega) (by omega)]; omega
  · by_cases q' : m' = m
    · rw [q']; exact fun hh => c1 (iff.mp hh)
    · exact hz m' (by omega) b
theorem slack_m {cs : Nat → List Int} {n l fu : Nat} {p1 : Int32} {d : gT} {L : lT} (hM : MD cs n d) (h61 : d 0 61 = -1) (hl : p1.toInt = (l : Int)) (ln : l < n) : Pc (fX12_slack_l18 fu p1 120 d L) (fun x g1 _ => g1 0 = d 0 ∧ DN (DZ cs n d l p1) x) := by
  have hW := hM.2.1
  have n12 := hM.1.2
  unfold fX12_slack_l18
  refine pc_loop (fun v => ∃ m : Nat, v.1.toInt = (m : Int) ∧ m ≤ 120 ∧ (∀ k, k < 29 → v.2.1 k = d k) ∧ ∀ m', m < m' → m' ≤ 120 → ¬ DZ cs n d l p1 m') (fun k18 hk v hv => ?_) ⟨120, rfl, by omega, fun _ _ => rfl, fun m' a b => by omega⟩
  obtain ⟨v2, g', L'⟩ := v
  obtain ⟨m, hm, m2, e, hz⟩ := hv
  replace hm : v2.toInt = (m : Int) := hm
  replace e : ∀ k, k < 29 → g' k = d k := e
  show Pc (fX12_slack_s18 fu p1 k18 v2 g' L') _
  unfold fX12_slack_s18
  refine pc_ite (fun c => pc_some ⟨e 0 (by omega), Or.inl ⟨rfl, fun m' a b => hz m' ?_ b⟩⟩) (fun c => ?_)
  · have c := icc_le hm (n := 0) rfl c
    omega
  have c := icc_nle hm (n := 0) rfl c
  have vm : Int32.ofInt (m : Int) = v2 := by rw [← hm]; exact io_i
  refine pc_cb (moreBy_m hM e h61 hl (by omega)) (fun x8 g9 L10 q => ?_)
  obtain ⟨e9, n1, n2, -⟩ := q
  refine pc_cb (later_m (n := n) (by rw [e9 0 (by omega)]; exact hM.1.1) n12) (fun x12 g13 L14 q => ?_)
  obtain ⟨rfl, q⟩ := q
  have iff : DZ cs n d l p1 m ↔ (x12 &&& (((1 : Int32) <<< (p1 &&& 31)) ^^^ -1)) = 0 := by
    rw [q]; exact dz_iff hW n1 (by rw [vm]; exact n2)
  refine pc_ite (fun c1 => pc_some ⟨e9 0 (by omega), Or.inr ⟨m, by omega, hm, iff.mpr c1, hz⟩⟩) (fun c1 => hk _ ⟨m - 1, ?_, by omega, e9, fun m' a b => ?_⟩)
  · show (v2 + (-1)).toInt = _
    rw [ic_addc hm (n := -1) rfl (by omega) (by omega)]; omega
  · by_cases q' : m' = m
    · rw [q']; exact fun hh => c1 (iff.mp hh)
    · exact hz m' (by omega) b
end
