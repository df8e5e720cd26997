/-! ===== the class's house ===== -/
/-- what the class's house comes to -/
def HX (g0 : gT) (r : Except Nat tS) (g1 : gT) : Prop := match r with
  | .error p => (g1 0 14).toInt = (p : Int) ∧ (∀ k, k < 69 → k ∉ [0, 2, 4, 5, 15, 22, 23] → g1 k = g0 k) ∧ (∀ j, j ∉ [13, 14] → g1 0 j = g0 0 j) ∧ g1 15 = upd (g0 15) 0 (g0 15 0 + 1)
  | .ok t => (g1 0 14).toInt = -1 ∧ g1 0 15 = 0 ∧ (g1 1 2).toInt = (t.1 : Int) ∧ (g1 3 3).toInt = (t.2.1 : Int) ∧ g1 6 9 = 0 ∧ g1 6 10 = 0 ∧ g1 6 11 = -1 ∧ g1 0 16 = 0 ∧ g1 7 = g0 7 ∧ g1 15 = g0 15 ∧ ∀ k, 34 ≤ k → k ≤ 42 → g1 k = g0 k
theorem l_house {fu : Nat} (hfu : 1180591620717411303424 ≤ fu) {b : Nat → Int32} {n : Nat} {p1 : Int32} {g0 : gT} {L0 : lT} (hI : zI XT g0) (hn : p1.toInt = (n : Int)) (h13 : p1.toInt ≤ (g0 0 13).toInt) (hb : ∀ j, j < n → g0 14 j = b j) : Ex (fX11_house_0 fu p1 g0 L0) (fun (r : Except String Int32) g1 L1 => HX g0 (hoS b n 702 (0, 0, false, false) (sk b n 0)) g1) := by
  have q13 := hI 0 13 0 700 rfl
  unfold fX11_house_0
  refine Ex.ite (fun c => by have := icc_lt (m := p1.toInt) (n := 0) rfl (by decide) c; omega) (fun _ => ?_)
  refine Ex.ite (fun _ => ?_) (fun c => by have := icc_nle (m := p1.toInt) (n := (g0 0 13).toInt) rfl rfl c; omega)
  refine Ex.sti (hI.upd (lo := 0) (hi := 700) rfl (by decide) (by decide)) (fun g3 g3e i3 => ?_)
  have b3 : ∀ j, j < n → g3 14 j = b j := fun j hj => by rw [g3e]; exact hb j hj
  refine Ex.cb (l_read hfu i3 hn (by omega) b3) (fun _ g5 L5 hq => ?_)
  obtain ⟨h1, h2, h3⟩ := hq
  have e0 : g5 0 = g3 0 := h1 0 (by decide) (by decide)
  generalize hoS b n 702 (0, 0, false, false) (sk b n 0) = R at h3 ⊢
  refine Ex.sti (h2.updN rfl) (fun g8 g8e i8 => ?_)
  have x14 : g8 0 14 = g5 5 8 := by rw [g8e]; exact upd2_at
  have x57 : g8 5 7 = g5 5 7 := by rw [g8e]; rfl
  have f8 : ∀ k, k < 69 → k ∉ [0, 2, 4, 5, 22, 23] → g8 k = g0 k := by
    intro k hk hm
    have n0 : k ≠ 0 := fun e => hm (by rw [e]; decide)
    have e8 : g8 k = g5 k := by rw [g8e]; exact funext fun i => upd2_nk n0
    have e3 : g3 k = g0 k := by rw [g3e]; exact funext fun i => upd2_nk n0
    rw [e8, h1 k hk (fun h => hm (List.mem_cons_of_mem _ h)), e3]
  have f0 : ∀ j, j ∉ [13, 14] → g8 0 j = g0 0 j := by
    intro j hj
    have n13 : j ≠ 13 := fun e => hj (by rw [e]; decide)
    have n14 : j ≠ 14 := fun e => hj (by rw [e]; decide)
    rw [g8e, upd2_nj n14, e0, g3e, upd2_nj n13]
  have q2 : g8 2 = g5 2 := by rw [g8e]; exact funext fun i => upd2_nk (by decide)
  have q4 : g8 4 = g5 4 := by rw [g8e]; exact funext fun i => upd2_nk (by decide)
  rw [x57]
  cases R with
  | error p =>
    have h3 : (g5 5 7).toInt ≠ 0 ∧ (g5 5 8).toInt = (p : Int) := h3
    refine Ex.ite (fun c => absurd (icc_eq (m := (g5 5 7).toInt) (n := 0) rfl (by decide) c) h3.1) (fun _ => ?_)
    refine Ex.ck (by decide) (by decide) (Ex.ck (by decide) (by decide) ?_)
    have e15 : g8 15 = g0 15 := f8 15 (by decide) (by decide)
    refine e_st (fun g18 g18e => Ex.ret ⟨?_, fun k hk hm => ?_, fun j hj => ?_, ?_⟩)
    · rw [g18e]; show (g8 0 14).toInt = _; rw [x14]; exact h3.2
    · have n15 : k ≠ 15 := fun e => hm (by rw [e]; decide)
      have e8 : g18 k = g8 k := by rw [g18e]; exact funext fun i => upd2_nk n15
      rw [e8]
      refine f8 k hk (fun h => hm ?_)
      revert h
      generalize k = k'
      simp only [List.mem_cons, List.not_mem_nil, or_false]
      omega
    · rw [g18e, upd2_nk (by decide)]; exact f0 j hj
    · rw [g18e, upd2_k, e15]; rfl
  | ok u =>
    have h3 : (g5 5 7).toInt = 0 ∧ (g5 5 8).toInt = -1 ∧ (g5 2 2).toInt = (u.1 : Int) ∧ (g5 4 3).toInt = (u.2.1 : Int) := h3
    refine Ex.ite (fun _ => ?_) (fun c => absurd h3.1 (icc_neq (m := (g5 5 7).toInt) (n := 0) rfl (by decide) c))
    refine Ex.swp ?_
    have hI2 : zI XT (fun k => g8 (sg k)) := fun k j lo hi h => i8 (sg k) j lo hi ((xt_sg k j).trans h)
    have y9 : Pc (fX3_start_6_1 fu (fun k => g8 (sg k)) (fun k => L5 (sg k))) (fun _ g1 _ => g1 6 9 = 0 ∧ g1 6 10 = 0 ∧ g1 6 11 = -1) := by
      unfold fX3_start_6_1 fX3_start_6_1_l2
      refine pc_loop (fun _ => True) (fun k hk v _ => ?_) trivial
      obtain ⟨v2, g', L'⟩ := v
      show Pc (fX3_start_6_1_s2 fu k v2 g' L') _
      unfold fX3_start_6_1_s2
      refine pc_ite (fun _ => ?_) (fun _ => ?_)
      · exact pc_st (fun ga ea => pc_st (fun gb eb => pc_st (fun gc ec => pc_some ⟨by rw [ec, eb, ea]; rfl, by rw [ec, eb]; rfl, by rw [ec]; rfl⟩)))
      · exact pc_ck (fun _ _ => pc_ltn (fun q _ => pc_ck (fun _ _ => pc_st (fun ga _ => pc_ck (fun _ _ => pc_st (fun gb _ => pc_ck (fun _ _ => pc_st (fun gc _ => pc_ck (fun _ _ => pc_st (fun gd _ => hk _ trivial)))))))))) 
    have yf := pc_kp (w_fX3_start_6_1 (fun k => g8 (sg k)) fu (fun k => g8 (sg k)) (fun k => L5 (sg k)) FW.refl)
    obtain ⟨x12, g13, L14, e12, -⟩ := sX3_start_6_1 fu hfu _ (fun k => L5 (sg k)) hI2
    refine Ex.cb (P := fun (_ : Unit) gz Lz => (gz 6 9 = 0 ∧ gz 6 10 = 0 ∧ gz 6 11 = -1) ∧ FW wA_fX3_start_6_1 wB_fX3_start_6_1 (fun k => g8 (sg k)) gz) ⟨x12, g13, L14, e12, y9 _ _ _ e12, yf _ _ _ e12⟩ (fun _ g13 L14 hz => ?_)
    clear e12 y9 yf
    obtain ⟨⟨z1, z2, z3⟩, hw⟩ := hz
    refine e_st (fun g16 g16e => ?_)
    refine e_st (fun g17 g17e => ?_)
    have f17 : ∀ k, k ≠ 0 → g17 k = g13 k := fun k hk => by rw [g17e, g16e]; exact funext fun i => (upd2_nk hk).trans (upd2_nk hk)
    refine Ex.ret ⟨?_, ?_, ?_, ?_, ?_, ?_, ?_, ?_, ?_, ?_, fun k k1 k2 => ?_⟩
    · rw [g17e, g16e]; show (g13 0 14).toInt = -1
      rw [hw 0 14 (by decide) (by decide)]
      show (g8 0 14).toInt = -1
      rw [x14]; exact h3.2.1
    · rw [g17e, g16e]; rfl
    · rw [f17 1 (by decide), hw 1 2 (by decide) (by decide)]
      show (g8 2 2).toInt = _
      rw [q2]; exact h3.2.2.1
    · rw [f17 3 (by decide), hw 3 3 (by decide) (by decide)]
      show (g8 4 3).toInt = _
      rw [q4]; exact h3.2.2.2
    · rw [f17 6 (by decide)]; exact z1
    · rw [f17 6 (by decide)]; exact z2
    · rw [f17 6 (by decide)]; exact z3
    · rw [g17e]; rfl
    · rw [f17 7 (by decide), hw.c (by decide) (by decide)]
      show g8 7 = g0 7
      exact f8 7 (by decide) (by decide)
    · rw [f17 15 (by decide), hw.c (by decide) (by decide)]
      show g8 15 = g0 15
      exact f8 15 (by decide) (by decide)
    · have hk : k ≠ 0 := by omega
      rw [f17 k hk]
      rcases (by omega : k = 34 ∨ k = 35 ∨ k = 36 ∨ k = 37 ∨ k = 38 ∨ k = 39 ∨ k = 40 ∨ k = 41 ∨ k = 42) with rfl | rfl | rfl | rfl | rfl | rfl | rfl | rfl | rfl
      all_goals (rw [hw.c (by decide) (by decide)]; exact f8 _ (by decide) (by decide))
