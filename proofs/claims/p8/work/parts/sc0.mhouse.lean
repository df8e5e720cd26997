/-! ===== the reference's house ===== -/
/-- what the whole text comes to -/
abbrev aH : List Nat := [0, 18, 19, 20, 22, 23, 24, 25, 26, 27, 28, 30, 31, 32, 33, 34, 35, 36, 37]
abbrev aHs : List Nat := [0, 1, 2, 3, 4, 18, 19, 20, 22, 23, 24, 25, 26, 27, 28, 30, 31, 32, 33, 34, 35, 36, 37, 52, 62, 65, 73, 81]
abbrev bHs : List Nat := [1, 2, 3, 4, 5, 6, 7, 8, 9, 10, 11, 12, 15, 16, 17, 18, 19, 20, 21, 22, 23, 24, 25, 26, 27, 28]
/-- where a new row of the reference is copied to -/
def cpk (k : Nat) : Nat := match k with
  | 15 => 1
  | 16 => 2
  | 17 => 3
  | 18 => 4
  | 19 => 5
  | 20 => 6
  | 21 => 7
  | 22 => 8
  | 23 => 9
  | 24 => 12
  | k => k
theorem LM.t {b : Nat → Int32} {n P l : Nat} {g g1 : gT} (hI : zI MT g) (h : LM b n P l g) (hl : l < 12) (h1 : ∀ k j, 15 ≤ k → k ≤ 22 → j < 12 → g1 k j = g k j) (h2 : ∀ j, j < 72 → g1 23 j = g 23 j) (h3 : ∀ j, j < 48 → g1 24 j = g 24 j) : LM b n P l g1 := by
  obtain ⟨y2, y3, y4, y5, y6, y7, y8, y9, y10, y11, y12, y13, y14⟩ := h
  have q22 := hI 22 l 0 6 rfl
  refine ⟨?_, ?_, ?_, ?_, ?_, ?_, ?_, ?_, ?_, ?_, ?_, ?_, fun j hj => ?_⟩
  · rw [h1 15 l (by decide) (by decide) hl]; exact y2
  · rw [h1 16 l (by decide) (by decide) hl]; exact y3
  · rw [h1 17 l (by decide) (by decide) hl]; exact y4
  · rw [h3 l (by omega)]; exact y5
  · rw [h3 (24 + l) (by omega)]; exact y6
  · rw [h1 18 l (by decide) (by decide) hl]; exact y7
  · rw [h1 19 l (by decide) (by decide) hl]; exact y8
  · rw [h1 20 l (by decide) (by decide) hl]; exact y9
  · rw [h3 (36 + l) (by omega)]; exact y10
  · rw [h1 21 l (by decide) (by decide) hl]; exact y11
  · rw [h3 (12 + l) (by omega)]; exact y12
  · rw [h1 22 l (by decide) (by decide) hl]; exact y13
  · rw [h2 (6 * l + j) (by omega)]; exact y14 j hj
theorem RM.t {b : Nat → Int32} {n m : Nat} {ρ : Nat → Nat} {u : Int} {a1 c1 a2 c2 : Nat → Int32} (h : RM b n m ρ u a1 c1) (hu : u ≤ 1900) (hm : m ≤ 4) (h1 : ∀ j, j < 4 → a2 j = a1 j) (h2 : ∀ j, j < 1900 → c2 j = c1 j) : RM b n m ρ u a2 c2 := by
  obtain ⟨y1, y2, y3⟩ := h
  refine ⟨fun r hr => by rw [h1 r (by omega)]; exact y1 r hr, y2, fun r hr i hi => ?_⟩
  have hlt2 : oM b n ρ r + i < oM b n ρ m := by
    have k1 : oM b n ρ (r + 1) ≤ oM b n ρ m := oM_le (by omega)
    have k2 : oM b n ρ (r + 1) = oM b n ρ r + ((enc (xc b n (ρ r))).length + 1) := rfl
    have hi : i < (enc (xc b n (ρ r)) ++ [0]).length := hi
    rw [List.length_append] at hi
    have hi : i < (enc (xc b n (ρ r))).length + 1 := hi
    omega
  rw [h2 _ (by omega)]
  exact y3 r hr i hi
/-- the plan of the reference -/
def pM (b : Nat → Int32) (n : Nat) (t : tS) (D : dT) (g : gT) : Prop := (∀ i, i < t.1 → LM b n (D.1 i) i (fun k => g (cpk k))) ∧ (g 0 3).toInt = D.2.2.1 ∧ (g 0 4).toInt = D.2.2.2 ∧ (∃ u, RM b n t.2.1 D.2.1 u (g 10) (g 11))
def HM (b : Nat → Int32) (n : Nat) (D : dT) (g0 : gT) (r : Except Nat tS) (g1 : gT) : Prop := match r with
  | .error p => (g1 0 20).toInt = (p : Int) ∧ Fr aH (14 :: bP) g0 g1 ∧ g1 14 = upd (g0 14) 0 (g0 14 0 + 1)
  | .ok t => (g1 0 20).toInt = -1 ∧ g1 0 81 = 0 ∧ (g1 0 1).toInt = (t.1 : Int) ∧ (g1 0 2).toInt = (t.2.1 : Int) ∧ g1 0 52 = -1 ∧ g1 0 62 = 0 ∧ g1 0 73 = 0 ∧ g1 0 65 = 0 ∧ Fr aHs bHs g0 g1 ∧ pM b n t D g1
theorem e_st {ρ : Type} {Q : ρ → gT → lT → Prop} {g : gT} {k j : Nat} {x : Int32} {K : gT → Option (ρ × zS)} (h : ∀ g1, g1 = upd2 g k j x → Ex (K g1) Q) : Ex (sti g k j x K) Q := h _ rfl
def HE (b : Nat → Int32) (n : Nat) (D : dT) (r : Except Nat tS) (g : gT) : Prop := match r with
  | .error p => bM p g
  | .ok t => (g 0 19).toInt = 0 ∧ (g 0 20).toInt = -1 ∧ tn t g ∧ dM b n t D g ∧ zI MT g
set_option maxHeartbeats 8000000 in
theorem t_house {fu : Nat} (hfu : 1180591620717411303424 ≤ fu) {b : Nat → Int32} {n : Nat} {p1 : Int32} {g0 : gT} {L0 : lT} (hI : zI MT g0) (hn : p1.toInt = (n : Int)) (h18 : p1.toInt ≤ (g0 0 18).toInt) (hb : ∀ j, j < n → g0 13 j = b j) : Ex (fX12_house fu p1 g0 L0) (fun (r : Int32) g1 L1 => HM b n (hoD b n 702 (0, 0, false, false) D0 (sk b n 0)) g0 (hoS b n 702 (0, 0, false, false) (sk b n 0)) g1) := by
  have q18 := hI 0 18 0 700 rfl
  have hn7 : n ≤ 700 := by omega
  unfold fX12_house
  refine Ex.sti (hI.updN rfl) (fun ga gae hIa => ?_)
  have a0 : ga 0 0 = 0 := by rw [gae]; exact upd2_at
  have a18 : ga 0 18 = g0 0 18 := by rw [gae]; rfl
  rw [a18]
  refine Ex.ite (fun c => by have := icc_lt (m := p1.toInt) (n := 0) rfl (by decide) c; omega) (fun _ => ?_)
  refine Ex.ite (fun c => by have := icc_lt (m := (g0 0 18).toInt) (n := p1.toInt) rfl rfl c; omega) (fun _ => ?_)
  unfold fX12_house_p23
  have e : fX12_right fu 1 1 ga L0 = some (1, (ga, L0)) := by
    unfold fX12_right
    rw [if_pos a0, if_neg (by decide)]
    unfold fX12_right_p16 fX12_right_p28
    rw [ckb0, ckb1, if_pos a0]
  rw [e]
  refine e_b1 ?_
  refine Ex.sti (hIa.upd (lo := 0) (hi := 700) rfl (by decide) (by decide)) (fun g7 g7e hI7 => ?_)
  refine Ex.sti (hI7.updN rfl) (fun g8 g8e hI8 => ?_)
  refine Ex.sti (hI8.updN rfl) (fun g9 g9e hI9 => ?_)
  refine Ex.sti (hI9.upd (lo := 0) (hi := 700) rfl (by omega) (by omega)) (fun g10 g10e hI10 => ?_)
  refine Ex.sti (hI10.upd (lo := 0) (hi := 700) rfl (by decide) (by decide)) (fun g11 g11e hI11 => ?_)
  refine Ex.sti (hI11.upd (lo := 0) (hi := 12) rfl (by decide) (by decide)) (fun g12 g12e hI12 => ?_)
  refine Ex.sti (hI12.upd (lo := 0) (hi := 4) rfl (by decide) (by decide)) (fun g13 g13e hI13 => ?_)
  refine Ex.sti (hI13.updN rfl) (fun g14 g14e hI14 => ?_)
  refine Ex.sti (hI14.updN rfl) (fun g15 g15e hI15 => ?_)
  refine Ex.sti (hI15.updN rfl) (fun g16 g16e hI16 => ?_)
  refine Ex.sti (hI16.upd (lo := 0) (hi := 1900) rfl (by decide) (by decide)) (fun g17 g17e hI17 => ?_)
  have s19 : g17 0 19 = 0 := by rw [g17e, g16e, g15e, g14e, g13e, g12e, g11e, g10e, g9e]; rfl
  have s20 : g17 0 20 = -1 := by rw [g17e, g16e, g15e, g14e, g13e, g12e, g11e, g10e, g9e, g8e]; rfl
  have s22 : g17 0 22 = p1 := by rw [g17e, g16e, g15e, g14e, g13e, g12e, g11e, g10e]; rfl
  have s23 : g17 0 23 = 0 := by rw [g17e, g16e, g15e, g14e, g13e, g12e, g11e]; rfl
  have s30 : g17 0 30 = 0 := by rw [g17e, g16e, g15e, g14e, g13e, g12e]; rfl
  have s31 : g17 0 31 = 0 := by rw [g17e, g16e, g15e, g14e, g13e]; rfl
  have s33 : g17 0 33 = 99 := by rw [g17e, g16e, g15e]; rfl
  have s32 : g17 0 32 = 1 := by rw [g17e, g16e, g15e, g14e]; rfl
  have s34 : g17 0 34 = 0 := by rw [g17e, g16e]; rfl
  have s35 : g17 0 35 = 0 := by rw [g17e]; exact upd2_at
  have s81 : Fr aH bP g0 g17 := by rw [g17e, g16e, g15e, g14e, g13e, g12e, g11e, g10e, g9e, g8e, g7e, gae]; exact (((((((((((Fr.refl.u0 (by decide)).u0 (by decide)).u0 (by decide)).u0 (by decide)).u0 (by decide)).u0 (by decide)).u0 (by decide)).u0 (by decide)).u0 (by decide)).u0 (by decide)).u0 (by decide)).u0 (by decide)
  have s13 : g17 13 = g0 13 := by rw [g17e, g16e, g15e, g14e, g13e, g12e, g11e, g10e, g9e, g8e, g7e, gae]; rfl
  clear g17e g16e g15e g14e g13e g12e g11e g10e g9e g8e g7e hI7 hI8 hI9 hI10 hI11 hI12 hI13 hI14 hI15 hI16
  have u23 : (g17 0 23).toInt = 0 := by rw [s23]; rfl
  have u22 : (g17 0 22).toInt = (n : Int) := by rw [s22]; exact hn
  have b17 : ∀ j, j < n → g17 13 j = b j := fun j hj => by rw [s13]; exact hb j hj
  refine Ex.cb (tX12_goes fu hfu g17 L0 hI17 (by omega)) (fun _ gs Ls hq => ?_)
  obtain ⟨⟨k1, k2, k3, k4⟩, hm⟩ := hq
  have eN : mN g17 = n := by show (g17 0 22).toInt.toNat = n; omega
  have e3 : (g17 0 23).toInt.toNat = 0 := by omega
  have e13 : gs 13 = g17 13 := k2.2 13 (by decide) (by decide)
  have eN1 : mN gs = n := by show (gs 0 22).toInt.toNat = n; rw [k2.i (by decide)]; omega
  rw [eN, e3, sk_c b17] at hm
  have hsk := sk_le (b := b) (n := n) (p := 0) (Nat.zero_le _)
  generalize sk b n 0 = P0 at hm hsk
  obtain ⟨t1, t2, t3, t4, t5, t6, t7⟩ := hm
  rw [e13, eN1] at t2 t3 t4 t5 t6 t7
  rw [tK_c b17] at t2 t7
  rw [tE_c b17] at t3 t6 t7
  rw [tV_c hsk.2 b17] at t4
  have hE2 := tE_le (b := b) hsk.2
  have pc : ∀ k, P0 + k ≤ n → pI (g17 13) P0 k = pI b P0 k := by
    intro k
    induction k with
    | zero => intro _; rfl
    | succ k ih => intro hk; unfold pI; rw [ih (by omega), b17 (P0 + k) (by omega)]
  have hcs : cM b n P0 gs Ls := by
    refine ⟨k1, hn7, hsk.2, (k2.i (by decide)).trans u22, fun j hj => by rw [e13]; exact b17 j hj, t1, t2, t3, t4, fun h => (t5 h).trans (b17 _ h), t6, fun h => ?_, by rw [k2.i (by decide), s19]; rfl, by rw [k2.i (by decide), s20]; rfl⟩
    rw [← pc _ (by omega)]
    exact t7 h
  have hts : tn (0, 0, false, false) gs := ⟨by rw [k2.i (by decide), s30]; rfl, by rw [k2.i (by decide), s31]; rfl, by rw [k2.1 34 (by decide), s34]; rfl⟩
  have v30 : gs 0 30 = 0 := by rw [k2.1 30 (by decide)]; exact s30
  have v31 : gs 0 31 = 0 := by rw [k2.1 31 (by decide)]; exact s31
  have v33 : gs 0 33 = 99 := by rw [k2.1 33 (by decide)]; exact s33
  have v32 : gs 0 32 = 1 := by rw [k2.1 32 (by decide)]; exact s32
  have v35 : gs 0 35 = 0 := by rw [k2.1 35 (by decide)]; exact s35
  have v81 : Fr aH bP g0 gs := s81.tr (k2.mo (by decide) (by decide))
  have hds : gd gs := by
    have q25 := k1 0 25 0 700 rfl
    refine ⟨?_, ?_, ?_, ?_, ?_⟩
    · unfold mLs; rw [v30]; intro i hi; exact absurd hi (by show ¬ (i : Int) < 0; omega)
    · unfold rOk; rw [v31]; intro i hi; exact absurd hi (by show ¬ (i : Int) < 0; omega)
    · rw [v35]; show (0 : Int) ≤ _; omega
    · rw [v33]; decide
    · rw [v33]; decide
  have hDs : dM b n (0, 0, false, false) D0 gs := ⟨fun i hi => absurd hi (Nat.not_lt_zero _), by rw [v32]; rfl, by rw [v33]; rfl, fun r hr => absurd hr (Nat.not_lt_zero _), by rw [v35]; rfl, fun r hr => absurd hr (Nat.not_lt_zero _)⟩
  clear t1 t2 t3 t4 t5 t6 t7 pc k3 k4 k2 e13 eN1 eN e3 s19 s20 s22 s23 s30 s31 s33 s34 s35 s81 s13
  generalize hR : hoS b n 702 (0, 0, false, false) P0 = R
  generalize hDD : hoD b n 702 (0, 0, false, false) D0 P0 = DD
  unfold fX12_house_l92
  -- the end
  have fin : ∀ (g : gT) (L : lT), Fr aH bP g0 g → HE b n DD R g → Ex (fX12_house_p113 fu g L) (fun (r : Int32) g1 L1 => HM b n DD g0 R g1) := by
    intro g L h81 h
    unfold fX12_house_p113
    cases R with
    | error p =>
      have h : bM p g := h
      refine e_good (fun hg => absurd hg h.2.2.1) (fun _ => ?_)
      refine Ex.ck (by decide) (by decide) ?_
      refine Ex.ck (by decide) (by decide) ?_
      have e14 : g 14 = g0 14 := h81.2 14 (by decide) (by decide)
      refine ⟨_, _, _, rfl, h.2.2.2, (h81.mo (by decide) (by decide)).uk (by decide) (by decide), ?_⟩
      rw [upd2_k, e14]
      rfl
    | ok u =>
      have h : (g 0 19).toInt = 0 ∧ (g 0 20).toInt = -1 ∧ tn u g ∧ dM b n u DD g ∧ zI MT g := h
      refine e_good (fun _ => ?_) (fun hb => absurd h.1 hb)
      refine e_st (fun ga1 x1 => ?_)
      refine e_st (fun ga2 x2 => ?_)
      refine e_st (fun ga3 x3 => ?_)
      refine e_st (fun ga4 x4 => ?_)
      have y20 : ga4 0 20 = g 0 20 := by rw [x4, x3, x2, x1]; rfl
      have y1 : ga4 0 1 = g 0 30 := by rw [x4, x3, x2, x1]; rfl
      have y2 : ga4 0 2 = g 0 31 := by rw [x4, x3, x2, x1]; rfl
      have yF : Fr aHs bHs g0 ga4 := by rw [x4, x3, x2, x1]; exact ((((h81.mo (by decide) (by decide)).u0 (by decide)).u0 (by decide)).u0 (by decide)).u0 (by decide)
      have y3 : ga4 0 3 = g 0 32 := by rw [x4, x3, x2, x1]; rfl
      have y4 : ga4 0 4 = g 0 33 := by rw [x4, x3, x2, x1]; rfl
      have yk : ∀ k, k ≠ 0 → ga4 k = g k := fun k hk => by rw [x4, x3, x2, x1]; exact funext fun i => by rw [upd2_nk hk, upd2_nk hk, upd2_nk hk, upd2_nk hk]
      clear x1 x2 x3 x4
      refine Ex.cb (uX12_copies_15_1 fu hfu ga4 L) (fun _ gb1 L1 hc1 => ?_)
      refine Ex.cb (uX12_copies_16_2 fu hfu gb1 L1) (fun _ gb2 L2 hc2 => ?_)
      refine Ex.cb (uX12_copies_17_3 fu hfu gb2 L2) (fun _ gb3 L3 hc3 => ?_)
      refine Ex.cb (uX12_copies_18_4 fu hfu gb3 L3) (fun _ gb4 L4 hc4 => ?_)
      refine Ex.cb (uX12_copies_19_5 fu hfu gb4 L4) (fun _ gb5 L5 hc5 => ?_)
      refine Ex.cb (uX12_copies_20_6 fu hfu gb5 L5) (fun _ gb6 L6 hc6 => ?_)
      refine Ex.cb (uX12_copies_21_7 fu hfu gb6 L6) (fun _ gb7 L7 hc7 => ?_)
      refine Ex.cb (uX12_copies_22_8 fu hfu gb7 L7) (fun _ gb8 L8 hc8 => ?_)
      refine Ex.cb (uX12_copies_23_9 fu hfu gb8 L8) (fun _ gb9 L9 hc9 => ?_)
      refine Ex.cb (uX12_copies_24_12 fu hfu gb9 L9) (fun _ gb10 L10 hc10 => ?_)
      refine Ex.cb (uX12_copies_25_10 fu hfu gb10 L10) (fun _ gb11 L11 hc11 => ?_)
      refine Ex.cb (uX12_copies_26_11 fu hfu gb11 L11) (fun _ gb12 L12 hc12 => ?_)
      have w0 : gb12 0 = ga4 0 := by
        rw [hc12, cpd_ne (by decide), hc11, cpd_ne (by decide), hc10, cpd_ne (by decide), hc9, cpd_ne (by decide), hc8, cpd_ne (by decide), hc7, cpd_ne (by decide), hc6, cpd_ne (by decide), hc5, cpd_ne (by decide), hc4, cpd_ne (by decide), hc3, cpd_ne (by decide), hc2, cpd_ne (by decide), hc1, cpd_ne (by decide)]
      have wF : Fr aHs bHs g0 gb12 := by
        refine ⟨fun j hj => by rw [w0]; exact yF.1 j hj, fun k h0 hk => ?_⟩
        have nk : ∀ m, m ∈ bHs → k ≠ m := fun m hm e => hk (e ▸ hm)
        rw [hc12, cpd_ne (nk 11 (by decide)), hc11, cpd_ne (nk 10 (by decide)), hc10, cpd_ne (nk 12 (by decide)), hc9, cpd_ne (nk 9 (by decide)), hc8, cpd_ne (nk 8 (by decide)), hc7, cpd_ne (nk 7 (by decide)), hc6, cpd_ne (nk 6 (by decide)), hc5, cpd_ne (nk 5 (by decide)), hc4, cpd_ne (nk 4 (by decide)), hc3, cpd_ne (nk 3 (by decide)), hc2, cpd_ne (nk 2 (by decide)), hc1, cpd_ne (nk 1 (by decide))]
        exact yF.2 k h0 hk
      have hpM : pM b n u DD gb12 := by
        obtain ⟨-, -, ⟨t1, t2, -⟩, ⟨z1, z2, z3, z4⟩, hIg⟩ := h
        have q30 := hIg 0 30 0 12 rfl
        have q31 := hIg 0 31 0 4 rfl
        have q35 := hIg 0 35 0 1900 rfl
        have c1 : ∀ j, j < 12 → gb12 1 j = g 15 j := fun j hj => by
          rw [hc12, cpd_ne (by decide), hc11, cpd_ne (by decide), hc10, cpd_ne (by decide), hc9, cpd_ne (by decide), hc8, cpd_ne (by decide), hc7, cpd_ne (by decide), hc6, cpd_ne (by decide), hc5, cpd_ne (by decide), hc4, cpd_ne (by decide), hc3, cpd_ne (by decide), hc2, cpd_ne (by decide), hc1, cpd_at hj, yk 15 (by decide)]
        have c2 : ∀ j, j < 12 → gb12 2 j = g 16 j := fun j hj => by
          rw [hc12, cpd_ne (by decide), hc11, cpd_ne (by decide), hc10, cpd_ne (by decide), hc9, cpd_ne (by decide), hc8, cpd_ne (by decide), hc7, cpd_ne (by decide), hc6, cpd_ne (by decide), hc5, cpd_ne (by decide), hc4, cpd_ne (by decide), hc3, cpd_ne (by decide), hc2, cpd_at hj, hc1, cpd_ne (by decide), yk 16 (by decide)]
        have c3 : ∀ j, j < 12 → gb12 3 j = g 17 j := fun j hj => by
          rw [hc12, cpd_ne (by decide), hc11, cpd_ne (by decide), hc10, cpd_ne (by decide), hc9, cpd_ne (by decide), hc8, cpd_ne (by decide), hc7, cpd_ne (by decide), hc6, cpd_ne (by decide), hc5, cpd_ne (by decide), hc4, cpd_ne (by decide), hc3, cpd_at hj, hc2, cpd_ne (by decide), hc1, cpd_ne (by decide), yk 17 (by decide)]
        have c4 : ∀ j, j < 12 → gb12 4 j = g 18 j := fun j hj => by
          rw [hc12, cpd_ne (by decide), hc11, cpd_ne (by decide), hc10, cpd_ne (by decide), hc9, cpd_ne (by decide), hc8, cpd_ne (by decide), hc7, cpd_ne (by decide), hc6, cpd_ne (by decide), hc5, cpd_ne (by decide), hc4, cpd_at hj, hc3, cpd_ne (by decide), hc2, cpd_ne (by decide), hc1, cpd_ne (by decide), yk 18 (by decide)]
        have c5 : ∀ j, j < 12 → gb12 5 j = g 19 j := fun j hj => by
          rw [hc12, cpd_ne (by decide), hc11, cpd_ne (by decide), hc10, cpd_ne (by decide), hc9, cpd_ne (by decide), hc8, cpd_ne (by decide), hc7, cpd_ne (by decide), hc6, cpd_ne (by decide), hc5, cpd_at hj, hc4, cpd_ne (by decide), hc3, cpd_ne (by decide), hc2, cpd_ne (by decide), hc1, cpd_ne (by decide), yk 19 (by decide)]
        have c6 : ∀ j, j < 12 → gb12 6 j = g 20 j := fun j hj => by
          rw [hc12, cpd_ne (by decide), hc11, cpd_ne (by decide), hc10, cpd_ne (by decide), hc9, cpd_ne (by decide), hc8, cpd_ne (by decide), hc7, cpd_ne (by decide), hc6, cpd_at hj, hc5, cpd_ne (by decide), hc4, cpd_ne (by decide), hc3, cpd_ne (by decide), hc2, cpd_ne (by decide), hc1, cpd_ne (by decide), yk 20 (by decide)]
        have c7 : ∀ j, j < 12 → gb12 7 j = g 21 j := fun j hj => by
          rw [hc12, cpd_ne (by decide), hc11, cpd_ne (by decide), hc10, cpd_ne (by decide), hc9, cpd_ne (by decide), hc8, cpd_ne (by decide), hc7, cpd_at hj, hc6, cpd_ne (by decide), hc5, cpd_ne (by decide), hc4, cpd_ne (by decide), hc3, cpd_ne (by decide), hc2, cpd_ne (by decide), hc1, cpd_ne (by decide), yk 21 (by decide)]
        have c8 : ∀ j, j < 12 → gb12 8 j = g 22 j := fun j hj => by
          rw [hc12, cpd_ne (by decide), hc11, cpd_ne (by decide), hc10, cpd_ne (by decide), hc9, cpd_ne (by decide), hc8, cpd_at hj, hc7, cpd_ne (by decide), hc6, cpd_ne (by decide), hc5, cpd_ne (by decide), hc4, cpd_ne (by decide), hc3, cpd_ne (by decide), hc2, cpd_ne (by decide), hc1, cpd_ne (by decide), yk 22 (by decide)]
        have c9 : ∀ j, j < 72 → gb12 9 j = g 23 j := fun j hj => by
          rw [hc12, cpd_ne (by decide), hc11, cpd_ne (by decide), hc10, cpd_ne (by decide), hc9, cpd_at hj, hc8, cpd_ne (by decide), hc7, cpd_ne (by decide), hc6, cpd_ne (by decide), hc5, cpd_ne (by decide), hc4, cpd_ne (by decide), hc3, cpd_ne (by decide), hc2, cpd_ne (by decide), hc1, cpd_ne (by decide), yk 23 (by decide)]
        have c10 : ∀ j, j < 48 → gb12 12 j = g 24 j := fun j hj => by
          rw [hc12, cpd_ne (by decide), hc11, cpd_ne (by decide), hc10, cpd_at hj, hc9, cpd_ne (by decide), hc8, cpd_ne (by decide), hc7, cpd_ne (by decide), hc6, cpd_ne (by decide), hc5, cpd_ne (by decide), hc4, cpd_ne (by decide), hc3, cpd_ne (by decide), hc2, cpd_ne (by decide), hc1, cpd_ne (by decide), yk 24 (by decide)]
        have c11 : ∀ j, j < 4 → gb12 10 j = g 25 j := fun j hj => by
          rw [hc12, cpd_ne (by decide), hc11, cpd_at hj, hc10, cpd_ne (by decide), hc9, cpd_ne (by decide), hc8, cpd_ne (by decide), hc7, cpd_ne (by decide), hc6, cpd_ne (by decide), hc5, cpd_ne (by decide), hc4, cpd_ne (by decide), hc3, cpd_ne (by decide), hc2, cpd_ne (by decide), hc1, cpd_ne (by decide), yk 25 (by decide)]
        have c12 : ∀ j, j < 1900 → gb12 11 j = g 26 j := fun j hj => by
          rw [hc12, cpd_at hj, hc11, cpd_ne (by decide), hc10, cpd_ne (by decide), hc9, cpd_ne (by decide), hc8, cpd_ne (by decide), hc7, cpd_ne (by decide), hc6, cpd_ne (by decide), hc5, cpd_ne (by decide), hc4, cpd_ne (by decide), hc3, cpd_ne (by decide), hc2, cpd_ne (by decide), hc1, cpd_ne (by decide), yk 26 (by decide)]
        refine ⟨fun i hi => LM.t hIg (z1 i hi) (by omega) (fun k j a c hj => ?_) c9 c10, ?_, ?_, (g 0 35).toInt, z4.t (by omega) (by omega) c11 c12⟩
        · rcases (by omega : k = 15 ∨ k = 16 ∨ k = 17 ∨ k = 18 ∨ k = 19 ∨ k = 20 ∨ k = 21 ∨ k = 22) with rfl | rfl | rfl | rfl | rfl | rfl | rfl | rfl
          · exact c1 j hj
          · exact c2 j hj
          · exact c3 j hj
          · exact c4 j hj
          · exact c5 j hj
          · exact c6 j hj
          · exact c7 j hj
          · exact c8 j hj
        · rw [w0, y3]; exact z2
        · rw [w0, y4]; exact z3
      refine ⟨_, _, _, rfl, ?_, rfl, ?_, ?_, rfl, rfl, rfl, rfl, ((((wF.u0 (by decide)).u0 (by decide)).u0 (by decide)).u0 (by decide)).u0 (by decide), hpM⟩
      · show (gb12 0 20).toInt = -1
        rw [w0, y20]; exact h.2.1
      · show (gb12 0 1).toInt = _
        rw [w0, y1]; exact h.2.2.1.1
      · show (gb12 0 2).toInt = _
        rw [w0, y2]; exact h.2.2.1.2.1
  refine Ex.loop (α := gT × lT) (fun v => Fr aH bP g0 v.1 ∧ ((∃ (t : tS) (D : dT) (P f : Nat), hoS b n f t P = R ∧ (∀ t', R = .ok t' → hoD b n f t D P = DD) ∧ dM b n t D v.1 ∧ cM b n P v.1 v.2 ∧ tn t v.1 ∧ gd v.1 ∧ n + 1 ≤ f + P) ∨ (∃ p, R = .error p ∧ bM p v.1))) (fun v => mm v.1) (by omega) (by show mm gs < (fu : Int); have := mm_le k1; omega) ⟨v81, Or.inl ⟨(0, 0, false, false), D0, P0, 702, hR, fun _ _ => hDD, hDs, hcs, hts, hds, by omega⟩⟩ (fun k92 v hv ih => ?_)
  obtain ⟨g, L⟩ := v
  obtain ⟨h81, hI2⟩ := hv
  have h81 : Fr aH bP g0 g := h81
  show Ex (fX12_house_s92 fu k92 g L) _
  unfold fX12_house_s92
  rcases hI2 with ⟨t, D, P, f, q1, qD, qM, q2, q3, q5, q4⟩ | ⟨p, q1, q2⟩
  rotate_left
  · have q2 : bM p g := q2
    refine e_good (fun hg => absurd hg q2.2.2.1) (fun _ => fin g L h81 ?_)
    rw [q1]; exact q2
  have q2 : cM b n P g L := q2
  have q3 : tn t g := q3
  have qM : dM b n t D g := qM
  have q5 : gd g := q5
  obtain ⟨a1, a2, a3, a4, a5, a6, a7, a8, a9, a10, a11, a12, a13, a14⟩ := id q2
  obtain ⟨f, rfl⟩ : ∃ f', f = f' + 1 := ⟨f - 1, by omega⟩
  unfold hoS at q1
  unfold hoD at qD
  refine e_good (fun _ => ?_) (fun hb => absurd a13 hb)
  refine Ex.ite (fun c => ?_) (fun c => ?_)
  · have c := icc_eq (m := (g 0 24).toInt) (n := 0) rfl (by decide) c
    have k0 : tK b n P = 0 := sM_0.mp (by omega)
    rw [if_pos k0] at q1 qD
    refine fin g L h81 ?_
    rw [← qD t q1.symm, ← q1]; exact ⟨a13, a14, q3, qM, a1⟩
  have c := icc_neq (m := (g 0 24).toInt) (n := 0) rfl (by decide) c
  have k0 : ¬ tK b n P = 0 := fun h => c (by rw [a7]; exact sM_0.mpr h)
  rw [if_neg k0] at q1 qD
  have hpos : 0 < mm g := by rw [mm_g a13]; omega
  refine Ex.cb ((t_line hfu q2 q3 qM q5).and (sX12_line fu hfu g L a1 q2.pn a13 q5)) (fun _ gl Ll hx => ?_)
  obtain ⟨hx, hl⟩ := hx
  have l81 : Fr aH bP g0 gl := h81.tr (hl.2.1.mo (by decide) (by decide))
  cases hli : liS b n t P with
  | error p =>
    rw [hli] at hx q1
    exact ih (gl, Ll) ⟨l81, Or.inr ⟨p, q1.symm, hx⟩⟩ (mm_lt a1 a13 (fun hb => absurd hb hx.2.2.1)) hpos
  | ok q =>
    rw [hli] at hx q1 qD
    have hle := liS_le a3 hli
    have hgd := (hl.2.2.2 hx.1.c.2.2.2.2.2.2.2.2.2.2.2.1)
    exact ih (gl, Ll) ⟨l81, Or.inl ⟨q.1, liD b n t D P, q.2, f, q1, qD, hx.2.2, hx.1, hx.2.1, hgd.2, by omega⟩⟩ (mm_lt a1 a13 (fun _ => hgd.1)) hpos
