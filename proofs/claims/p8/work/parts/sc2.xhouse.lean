/-! ===== the class's house ===== -/
/-- the plan of the class -/
def pX (b : Nat → Int32) (n : Nat) (t : tS) (D : dT) (g : gT) : Prop := (∀ i, i < t.1 → LX b n (D.1 i) (57 + i) g) ∧ (g 1 3).toInt = D.2.2.1 ∧ (g 1 4).toInt = D.2.2.2 ∧ RX b n t.2.1 D.2.1 (g 3 4).toInt (g 20) (g 19)
/-- what is held begins as the plan tells -/
def hX (m : Int) (g : gT) : Prop := ∀ i : Nat, (i : Int) < m → g 25 i = g (57 + i) 6 ∧ g 26 i = g (57 + i) 13 ∧ g 27 i = g (57 + i) 7 ∧ g 28 i = g (57 + i) 11
/-- what the class's house comes to -/
def HX (b : Nat → Int32) (n : Nat) (D : dT) (g0 : gT) (r : Except Nat tS) (g1 : gT) : Prop := match r with
  | .error p => (g1 0 14).toInt = (p : Int) ∧ (∀ k, (k < 69 ∨ 81 ≤ k ∧ k < 93) → k ∉ [0, 2, 4, 5, 15, 22, 23] → g1 k = g0 k) ∧ (∀ j, j ∉ [13, 14] → g1 0 j = g0 0 j) ∧ g1 15 = upd (g0 15) 0 (g0 15 0 + 1) ∧ g1 23 0 = 0
  | .ok t => (g1 0 14).toInt = -1 ∧ g1 0 15 = 0 ∧ (g1 1 2).toInt = (t.1 : Int) ∧ (g1 3 3).toInt = (t.2.1 : Int) ∧ g1 6 9 = 0 ∧ g1 6 10 = 0 ∧ g1 6 11 = -1 ∧ g1 0 16 = 0 ∧ g1 7 = g0 7 ∧ g1 15 = g0 15 ∧ (∀ k, 34 ≤ k → k ≤ 42 → g1 k = g0 k) ∧ g1 20 0 = 0 ∧ g1 23 0 = g0 20 0 ∧ pX b n t D g1 ∧ hX (t.1 : Int) g1 ∧ g1 8 = g0 8
theorem l_house {fu : Nat} (hfu : 1180591620717411303424 ≤ fu) {b : Nat → Int32} {n : Nat} {p1 : Int32} {g0 : gT} {L0 : lT} (hI : zI XT g0) (hn : p1.toInt = (n : Int)) (h13 : p1.toInt ≤ (g0 0 13).toInt) (hb : ∀ j, j < n → g0 14 j = b j) (h23 : g0 23 0 = 0) : Ex (fX11_house_0 fu p1 g0 L0) (fun (r : Except String Int32) g1 L1 => HX b n (hoD b n 702 (0, 0, false, false) D0 (sk b n 0)) g0 (hoS b n 702 (0, 0, false, false) (sk b n 0)) g1) := by
  have q13 := hI 0 13 0 700 rfl
  unfold fX11_house_0
  refine Ex.ite (fun c => by have := icc_lt (m := p1.toInt) (n := 0) rfl (by decide) c; omega) (fun _ => ?_)
  refine Ex.ite (fun _ => ?_) (fun c => by have := icc_nle (m := p1.toInt) (n := (g0 0 13).toInt) rfl rfl c; omega)
  refine Ex.sti (hI.upd (lo := 0) (hi := 700) rfl (by decide) (by decide)) (fun g3 g3e i3 => ?_)
  have b3 : ∀ j, j < n → g3 14 j = b j := fun j hj => by rw [g3e]; exact hb j hj
  have z23 : g3 23 0 = 0 := by rw [g3e]; exact h23
  refine Ex.cb (l_read hfu i3 hn (by omega) b3 (by rw [z23]; rfl)) (fun _ g5 L5 hq => ?_)
  obtain ⟨⟨h1, w23⟩, h2, h3⟩ := hq
  rw [z23] at w23
  have e0 : g5 0 = g3 0 := h1 0 (by decide) (by decide)
  generalize hoS b n 702 (0, 0, false, false) (sk b n 0) = R at h3 ⊢
  generalize hoD b n 702 (0, 0, false, false) D0 (sk b n 0) = DD at h3 ⊢
  refine Ex.sti (h2.updN rfl) (fun g8 g8e i8 => ?_)
  have x14 : g8 0 14 = g5 5 8 := by rw [g8e]; exact upd2_at
  have x57 : g8 5 7 = g5 5 7 := by rw [g8e]; rfl
  have g8k : ∀ k, k ≠ 0 → g8 k = g5 k := fun k hk => by rw [g8e]; exact funext fun i => upd2_nk hk
  have f8 : ∀ k, (k < 69 ∨ 81 ≤ k ∧ k < 93) → k ∉ [0, 2, 4, 5, 22, 23] → g8 k = g0 k := by
    intro k hk hm
    have n0 : k ≠ 0 := fun e => hm (by rw [e]; decide)
    have e8 : g8 k = g5 k := by rw [g8e]; exact funext fun i => upd2_nk n0
    have e3 : g3 k = g0 k := by rw [g3e]; exact funext fun i => upd2_nk n0
    rw [e8, h1 k hk (fun h => hm (List.mem_cons_of_mem _ h)), e3]
  have f0 : ∀ j, j ∉ [13, 14] → g8 0 j = g0 0 j := by
    intro j hj
    have n13 : j ≠ 13 := fun e => hj (by rw [e]; decide)
    have n14 : j ≠ 14 := fun e => hj (by rw [e]; decide)
    rw [g8e, upd2_nj n14, e0, g3e, upd2_nj n13]
  have q2 : g8 2 = g5 2 := by rw [g8e]; exact funext fun i => upd2_nk (by decide)
  have q4 : g8 4 = g5 4 := by rw [g8e]; exact funext fun i => upd2_nk (by decide)
  rw [x57]
  cases R with
  | error p =>
    have h3 : (g5 5 7).toInt ≠ 0 ∧ (g5 5 8).toInt = (p : Int) := h3
    refine Ex.ite (fun c => absurd (icc_eq (m := (g5 5 7).toInt) (n := 0) rfl (by decide) c) h3.1) (fun _ => ?_)
    refine Ex.ck (by decide) (by decide) (Ex.ck (by decide) (by decide) ?_)
    have e15 : g8 15 = g0 15 := f8 15 (by decide) (by decide)
    refine e_st (fun g18 g18e => Ex.ret ⟨?_, fun k hk hm => ?_, fun j hj => ?_, ?_, ?_⟩)
    · rw [g18e]; show (g8 0 14).toInt = _; rw [x14]; exact h3.2
    · have n15 : k ≠ 15 := fun e => hm (by rw [e]; decide)
      have e8 : g18 k = g8 k := by rw [g18e]; exact funext fun i => upd2_nk n15
      rw [e8]
      refine f8 k hk (fun h => hm ?_)
      revert h
      generalize k = k'
      simp only [List.mem_cons, List.not_mem_nil, or_false]
      omega
    · rw [g18e, upd2_nk (by decide)]; exact f0 j hj
    · rw [g18e, upd2_k, e15]; rfl
    · rw [g18e, upd2_nk (by decide), g8k 23 (by decide)]; exact w23
  | ok u =>
    have h3 : (g5 5 7).toInt = 0 ∧ (g5 5 8).toInt = -1 ∧ (g5 2 2).toInt = (u.1 : Int) ∧ (g5 4 3).toInt = (u.2.1 : Int) ∧ dX b n u DD g5 := h3
    refine Ex.ite (fun _ => ?_) (fun c => absurd h3.1 (icc_neq (m := (g5 5 7).toInt) (n := 0) rfl (by decide) c))
    refine Ex.swp ?_
    have hI2 : zI XT (fun k => g8 (sg k)) := fun k j lo hi h => i8 (sg k) j lo hi ((xt_sg k j).trans h)
    have q12 : 0 ≤ ((fun k => g8 (sg k)) 1 2).toInt ∧ ((fun k => g8 (sg k)) 1 2).toInt ≤ 12 := hI2 1 2 0 12 rfl
    have y9 : Pc (fX3_start_6_1 fu (fun k => g8 (sg k)) (fun k => L5 (sg k))) (fun _ g1 _ => (g1 6 9 = 0 ∧ g1 6 10 = 0 ∧ g1 6 11 = -1) ∧ hX ((fun k => g8 (sg k)) 1 2).toInt g1) := by
      generalize hG : (fun k => g8 (sg k)) = G at q12 ⊢
      generalize (fun k => L5 (sg k)) = LL
      unfold fX3_start_6_1 fX3_start_6_1_l2
      refine pc_loop (fun v => (0 ≤ v.1.toInt ∧ v.1.toInt ≤ (G 1 2).toInt) ∧ v.2.1 1 2 = G 1 2 ∧ hX v.1.toInt v.2.1) (fun k hk v hv => ?_) ⟨(show 0 ≤ (0 : Int32).toInt ∧ (0 : Int32).toInt ≤ (G 1 2).toInt from ⟨by decide, q12.1⟩), rfl, fun i hi => absurd (show (i : Int) < 0 from hi) (by omega)⟩
      obtain ⟨v2, g', L'⟩ := v
      obtain ⟨hv, h12, hx⟩ := hv
      replace hv : 0 ≤ v2.toInt ∧ v2.toInt ≤ (G 1 2).toInt := hv
      replace h12 : g' 1 2 = G 1 2 := h12
      replace hx : hX v2.toInt g' := hx
      show Pc (fX3_start_6_1_s2 fu k v2 g' L') _
      unfold fX3_start_6_1_s2
      refine pc_ite (fun c => ?_) (fun c => ?_)
      · have c := icc_le (m := (g' 1 2).toInt) (n := v2.toInt) rfl rfl c
        rw [h12] at c
        refine pc_st (fun ga ea => pc_st (fun gb eb => pc_st (fun gc ec => pc_some ⟨⟨by rw [ec, eb, ea]; rfl, by rw [ec, eb]; rfl, by rw [ec]; rfl⟩, fun i hi => ?_⟩)))
        have nk : ∀ q, q ≠ 6 → gc q = g' q := fun q hq => by rw [ec, eb, ea]; exact funext fun j => by rw [upd2_nk hq, upd2_nk hq, upd2_nk hq]
        rw [nk 25 (by decide), nk 26 (by decide), nk 27 (by decide), nk 28 (by decide), nk (57 + i) (by omega)]
        exact hx i (by omega)
      · have c := icc_nle (m := (g' 1 2).toInt) (n := v2.toInt) rfl rfl c
        rw [h12] at c
        have eN : v2.toNatClampNeg = v2.toInt.toNat := by rw [nc]
        have eN12 : v2.toNatClampNeg % 12 = v2.toInt.toNat := by rw [eN]; omega
        refine pc_ck (fun _ _ => pc_ltn (fun q eq => pc_ck (fun _ _ => pc_st (fun ga ea => pc_ck (fun _ _ => pc_st (fun gb eb => pc_ck (fun _ _ => pc_st (fun gc ec => pc_ck (fun _ _ => pc_st (fun gd ed => hk _ ?_))))))))))
        rw [eN12] at eq
        rw [eN] at ea eb ec ed
        have ew : (v2 + 1).toInt = v2.toInt + 1 := ic_addc rfl (by decide) (by omega) (by omega)
        have nk : ∀ p, p ≠ 25 → p ≠ 26 → p ≠ 27 → p ≠ 28 → gd p = g' p := fun p h1 h2 h3 h4 => by rw [ed, ec, eb, ea]; exact funext fun j => by rw [upd2_nk h4, upd2_nk h3, upd2_nk h2, upd2_nk h1]
        refine ⟨(show 0 ≤ (v2 + 1).toInt ∧ (v2 + 1).toInt ≤ (G 1 2).toInt by omega), by show gd 1 2 = G 1 2; rw [nk 1 (by decide) (by decide) (by decide) (by decide)]; exact h12, fun i hi => ?_⟩
        replace hi : (i : Int) < (v2 + 1).toInt := hi
        show gd 25 i = gd (57 + i) 6 ∧ gd 26 i = gd (57 + i) 13 ∧ gd 27 i = gd (57 + i) 7 ∧ gd 28 i = gd (57 + i) 11
        rw [nk (57 + i) (by omega) (by omega) (by omega) (by omega)]
        have a1 : ga q = g' q := by rw [ea]; exact funext fun j => upd2_nk (by omega)
        have b1 : gb q = g' q := by rw [eb, ← a1]; exact funext fun j => upd2_nk (by omega)
        have c1 : gc q = g' q := by rw [ec, ← b1]; exact funext fun j => upd2_nk (by omega)
        by_cases ei : i = v2.toInt.toNat
        · have eqi : 57 + i = q := by omega
          rw [eqi]
          refine ⟨?_, ?_, ?_, ?_⟩
          · rw [ed, upd2_nk (by decide), ec, upd2_nk (by decide), eb, upd2_nk (by decide), ea, ei, upd2_at]
          · rw [ed, upd2_nk (by decide), ec, upd2_nk (by decide), eb, ei, upd2_at, a1]
          · rw [ed, upd2_nk (by decide), ec, ei, upd2_at, b1]
          · rw [ed, ei, upd2_at, c1]
        · obtain ⟨x1, x2, x3, x4⟩ := hx i (by omega)
          refine ⟨?_, ?_, ?_, ?_⟩
          · rw [ed, upd2_nk (by decide), ec, upd2_nk (by decide), eb, upd2_nk (by decide), ea, upd2_nj ei]; exact x1
          · rw [ed, upd2_nk (by decide), ec, upd2_nk (by decide), eb, upd2_nj ei, ea, upd2_nk (by decide)]; exact x2
          · rw [ed, upd2_nk (by decide), ec, upd2_nj ei, eb, upd2_nk (by decide), ea, upd2_nk (by decide)]; exact x3
          · rw [ed, upd2_nj ei, ec, upd2_nk (by decide), eb, upd2_nk (by decide), ea, upd2_nk (by decide)]; exact x4
    have yf := pc_kp (w_fX3_start_6_1 (fun k => g8 (sg k)) fu (fun k => g8 (sg k)) (fun k => L5 (sg k)) FW.refl)
    obtain ⟨x12, g13, L14, e12, -⟩ := sX3_start_6_1 fu hfu _ (fun k => L5 (sg k)) hI2
    refine Ex.cb (P := fun (_ : Unit) gz Lz => ((gz 6 9 = 0 ∧ gz 6 10 = 0 ∧ gz 6 11 = -1) ∧ hX ((fun k => g8 (sg k)) 1 2).toInt gz) ∧ FW wA_fX3_start_6_1 wB_fX3_start_6_1 (fun k => g8 (sg k)) gz) ⟨x12, g13, L14, e12, y9 _ _ _ e12, yf _ _ _ e12⟩ (fun _ g13 L14 hz => ?_)
    clear e12 y9 yf
    obtain ⟨⟨⟨z1, z2, z3⟩, zh⟩, hw⟩ := hz
    refine e_st (fun g16 g16e => ?_)
    refine e_st (fun g17 g17e => ?_)
    have f17 : ∀ k, k ≠ 0 → g17 k = g13 k := fun k hk => by rw [g17e, g16e]; exact funext fun i => (upd2_nk hk).trans (upd2_nk hk)
    refine Ex.ret ⟨?_, ?_, ?_, ?_, ?_, ?_, ?_, ?_, ?_, ?_, fun k k1 k2 => ?_, ?_, ?_, ?_, ?_, ?_⟩
    · rw [g17e, g16e]; show (g13 0 14).toInt = -1
      rw [hw 0 14 (by decide) (by decide)]
      show (g8 0 14).toInt = -1
      rw [x14]; exact h3.2.1
    · rw [g17e, g16e]; rfl
    · rw [f17 1 (by decide), hw 1 2 (by decide) (by decide)]
      show (g8 2 2).toInt = _
      rw [q2]; exact h3.2.2.1
    · rw [f17 3 (by decide), hw 3 3 (by decide) (by decide)]
      show (g8 4 3).toInt = _
      rw [q4]; exact h3.2.2.2.1
    · rw [f17 6 (by decide)]; exact z1
    · rw [f17 6 (by decide)]; exact z2
    · rw [f17 6 (by decide)]; exact z3
    · rw [g17e]; rfl
    · rw [f17 7 (by decide), hw.c (by decide) (by decide)]
      show g8 7 = g0 7
      exact f8 7 (by decide) (by decide)
    · rw [f17 15 (by decide), hw.c (by decide) (by decide)]
      show g8 15 = g0 15
      exact f8 15 (by decide) (by decide)
    · have hk : k ≠ 0 := by omega
      rw [f17 k hk]
      rcases (by omega : k = 34 ∨ k = 35 ∨ k = 36 ∨ k = 37 ∨ k = 38 ∨ k = 39 ∨ k = 40 ∨ k = 41 ∨ k = 42) with rfl | rfl | rfl | rfl | rfl | rfl | rfl | rfl | rfl
      all_goals (rw [hw.c (by decide) (by decide)]; exact f8 _ (by decide) (by decide))
    · rw [f17 20 (by decide), hw 20 0 (by decide) (by decide)]
      show g8 23 0 = 0
      rw [g8k 23 (by decide)]; exact w23
    · rw [f17 23 (by decide), hw 23 0 (by decide) (by decide)]
      show g8 20 0 = g0 20 0
      rw [f8 20 (by decide) (by decide)]
    · obtain ⟨y1, y2, y3, y4⟩ := h3.2.2.2.2
      have hu12 : u.1 ≤ 12 := by
        have := h2 2 2 0 12 rfl
        have := h3.2.2.1
        omega
      have fk : ∀ k, k ≠ 0 → k ∉ wB_fX3_start_6_1 → (k ∉ wA_fX3_start_6_1.map Prod.fst) → g17 k = g8 (sg k) := fun k h0 hB hA => by
        rw [f17 k h0, hw.c hB hA]
      refine ⟨fun i hi => ?_, ?_, ?_, ?_⟩
      · have s1 : sg (57 + i) = 69 + i := by unfold sg; rw [if_neg (by omega), if_pos (by omega)]; omega
        have s2 : sg (57 + i + 24) = 69 + i + 24 := by unfold sg; rw [if_neg (by omega), if_neg (by omega), if_neg (by omega), if_pos (by omega)]; omega
        have m1 : ∀ k, 57 ≤ k → k ∉ wB_fX3_start_6_1 ∧ k ∉ wA_fX3_start_6_1.map Prod.fst := fun k hk => by
          constructor
          · simp only [List.mem_cons, List.not_mem_nil, or_false]; omega
          · simp only [List.map_cons, List.map_nil, List.mem_cons, List.not_mem_nil, or_false]; omega
        have e1 : g17 (57 + i) = g5 (69 + i) := by rw [fk _ (by omega) (m1 _ (by omega)).1 (m1 _ (by omega)).2, s1, g8k _ (by omega)]
        have e2 : g17 (57 + i + 24) = g5 (69 + i + 24) := by rw [fk _ (by omega) (m1 _ (by omega)).1 (m1 _ (by omega)).2, s2, g8k _ (by omega)]
        have hL := y1 i hi
        refine ⟨fun j a c => by rw [e1]; exact hL.1 j a c, ?_, ?_, fun j hj => ?_⟩
        · rw [e1]; exact hL.2.1
        · rw [e1]; exact hL.2.2.1
        · rw [e2]; exact hL.2.2.2 j hj
      · rw [fk 1 (by decide) (by decide) (by decide)]
        show (g8 2 3).toInt = _
        rw [q2]; exact y2
      · rw [fk 1 (by decide) (by decide) (by decide)]
        show (g8 2 4).toInt = _
        rw [q2]; exact y3
      · rw [fk 3 (by decide) (by decide) (by decide), fk 20 (by decide) (by decide) (by decide), fk 19 (by decide) (by decide) (by decide)]
        show RX b n u.2.1 DD.2.1 (g8 4 4).toInt (g8 23) (g8 22)
        rw [q4, g8k 23 (by decide), g8k 22 (by decide)]; exact y4
    · have e12 : ((fun k => g8 (sg k)) 1 2).toInt = (u.1 : Int) := by
        show (g8 2 2).toInt = _
        rw [q2]; exact h3.2.2.1
      rw [e12] at zh
      intro i hi
      have := zh i hi
      rw [f17 25 (by decide), f17 26 (by decide), f17 27 (by decide), f17 28 (by decide), f17 (57 + i) (by omega)]
      exact this
    · rw [f17 8 (by decide), hw.c (by decide) (by decide)]
      show g8 8 = g0 8
      exact f8 8 (by decide) (by decide)
