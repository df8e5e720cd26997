section
/-! ===== chance and mean: the class ===== -/
/-- who is unsure, as the class holds it -/
def UX (d : gT) (i : Nat) (g : gT) (L : lT) : Prop := (g 11 2).toInt = ((us d i).length : Int) ∧ (∀ (k x : Nat), (us d i)[k]? = some x → g 52 k = Int32.ofInt (x : Int)) ∧ (∀ o, o < 12 → (tbi (g 11 3) o = true ↔ (o < i ∧ d 7 o = 0))) ∧ (L 11 6).toInt = ((10 ^ (us d i).length : Nat) : Int)
theorem UX.c {d : gT} {i : Nat} {g g' : gT} {L L' : lT} (h : UX d i g L) (e1 : g' 11 = g 11) (e2 : g' 52 = g 52) (e3 : L' 11 6 = L 11 6) : UX d i g' L' := by
  unfold UX
  rw [e1, e2, e3]; exact h
theorem ap_n {l : List Nat} {p q w : Nat} (h : (l ++ [p])[w]? = some q) : (w < l.length ∧ l[w]? = some q) ∨ (w = l.length ∧ q = p) := by
  rw [List.getElem?_append] at h
  by_cases c : w < l.length
  · rw [if_pos c] at h; exact Or.inl ⟨c, h⟩
  · rw [if_neg c] at h
    cases hk : w - l.length with
    | zero =>
      rw [hk] at h
      have h : some p = some q := h
      cases h
      exact Or.inr ⟨by omega, rfl⟩
    | succ k =>
      rw [hk] at h
      exact nomatch h
theorem unsure_x {cs : Nat → List Int} {n l fu : Nat} {p1 : Int32} {g d : gT} {L : lT} (h : DC cs n g d) (h7 : ∀ i, i < n → g (57 + i) 12 = d 7 i) (hb : ∀ i, i < n → 0 ≤ (d 7 i).toInt ∧ (d 7 i).toInt ≤ 10) (hl : p1.toInt = (l : Int)) (ln : l < n) : Pc (fX0_findUnsure_11 fu p1 g L) (fun _ g1 L1 => (∀ k, k ≠ 11 → k ≠ 52 → g1 k = g k) ∧ UX d (l + 1) g1 L1) := by
  have n12 := h.1.2
  unfold fX0_findUnsure_11
  refine pc_st (fun g1 e1 => pc_st (fun g2 e2 => pc_stle (fun L3 e3 => ?_)))
  have k2 : ∀ k, k ≠ 11 → g2 k = g k := fun k hk => by rw [e2, e1]; exact funext fun _ => by rw [upd2_nk hk, upd2_nk hk]
  unfold fX0_findUnsure_11_l17
  refine pc_loop (fun v => ∃ i : Nat, v.1.toInt = (i : Int) ∧ i ≤ l + 1 ∧ (∀ k, k ≠ 11 → k ≠ 52 → v.2.1 k = g k) ∧ UX d i v.2.1 v.2.2) (fun k17 hk v hv => ?_) ⟨0, rfl, by omega, fun k a _ => k2 k a, ?_, (fun k x hx => nomatch hx), fun o ho => ?_, ?_⟩
  rotate_left
  · show (g2 11 2).toInt = ((0 : Nat) : Int)
    rw [e2, upd2_nj (by decide), e1, upd2_at]; rfl
  · show tbi (g2 11 3) o = true ↔ _
    rw [e2, upd2_at, tb_0]
    exact ⟨fun q => absurd q (by decide), fun q => absurd q.1 (Nat.not_lt_zero _)⟩
  · show (L3 11 6).toInt = ((10 ^ 0 : Nat) : Int)
    rw [e3, updL_at]; rfl
  obtain ⟨v2, g', L'⟩ := v
  obtain ⟨i, hi, il, ek, hu⟩ := hv
  replace hi : v2.toInt = (i : Int) := hi
  replace ek : ∀ k, k ≠ 11 → k ≠ 52 → g' k = g k := ek
  replace hu : UX d i g' L' := hu
  obtain ⟨u1, u2, u3, u4⟩ := hu
  show Pc (fX0_findUnsure_11_s17 fu p1 k17 v2 g' L') _
  unfold fX0_findUnsure_11_s17 fX0_findUnsure_11_p104
  refine pc_ite (fun c => pc_some ⟨ek, ?_⟩) (fun c => ?_)
  · have c := icc_lt hl hi c
    rw [show l + 1 = i by omega]
    exact ⟨u1, u2, u3, u4⟩
  have c := icc_nlt hl hi c
  have i' : i < n := by omega
  have ew : (v2 + 1).toInt = ((i + 1 : Nat) : Int) := by rw [ic_addc hi (n := 1) rfl (by omega) (by omega)]; omega
  have ei : v2.toNatClampNeg = i := by rw [nc, hi]; omega
  have vi : v2 = Int32.ofInt (i : Int) := by rw [← hi]; exact io_i.symm
  have len := us_len (d := d) i
  have b := hb i i'
  rw [ei, show i % 12 = i by omega]
  refine pc_ck (fun _ _ => pc_ltn (fun q eq => ?_))
  subst eq
  refine pc_lti (fun x6 e6 => ?_)
  have d6 : x6 = d 7 i := by rw [e6, ek (57 + i) (by omega) (by omega)]; exact h7 i i'
  have same : ¬ d 7 i = 0 → ∀ o, o < 12 → (tbi (g' 11 3) o = true ↔ (o < i + 1 ∧ d 7 o = 0)) := fun hne o ho =>
    (u3 o ho).trans ⟨fun w => ⟨by omega, w.2⟩, fun w => ⟨by
      by_cases q : o = i
      · rw [q] at w; exact absurd w.2 hne
      · omega, w.2⟩⟩
  refine pc_ite (fun c1 => pc_st (fun g13 e13 => hk _ ⟨i + 1, ew, by omega, fun k a b => ?_, ?_⟩)) (fun c1 => pc_ite (fun c2 => hk _ ⟨i + 1, ew, by omega, ek, ?_⟩) (fun c2 => pc_ite (fun c3 => hk _ ⟨i + 1, ew, by omega, ek, ?_⟩) (fun c3 => ?_)))
  · show g13 k = g k
    rw [e13, ← ek k a b]; exact funext fun _ => upd2_nk a
  · show UX d (i + 1) g13 L'
    have z : d 7 i = 0 := by rw [← d6]; exact c1
    have z0 : (d 7 i).toInt = 0 := by rw [z]; rfl
    unfold UX
    rw [us_f (fun q => by omega)]
    refine ⟨by rw [e13, upd2_nj (by decide)]; exact u1, fun k x hx => by rw [e13, upd2_nk (by decide)]; exact u2 k x hx, fun o ho => ?_, u4⟩
    rw [e13, upd2_at, tb_or, vi, tb_s i (by omega) o ho]
    by_cases q : i = o
    · rw [decide_eq_true q, Bool.or_true]
      exact ⟨fun _ => ⟨by omega, by rw [← q]; exact z⟩, fun _ => rfl⟩
    · rw [decide_eq_false q, Bool.or_false]
      exact (u3 o ho).trans ⟨fun w => ⟨by omega, w.2⟩, fun w => ⟨by omega, w.2⟩⟩
  · show UX d (i + 1) g' L'
    have c2 := icc_le (m := 10) (n := x6.toInt) rfl rfl c2
    rw [d6] at c2
    unfold UX
    rw [us_f (fun q => by omega)]
    exact ⟨u1, u2, same (fun q => by rw [q] at c2; exact absurd c2 (by decide)), u4⟩
  · show UX d (i + 1) g' L'
    have c3 := icc_le (m := 8) rfl u1 c3
    unfold UX
    rw [us_f (fun q => by omega)]
    exact ⟨u1, u2, same (fun q => c1 (by rw [d6]; exact q)), u4⟩
  · have c2 := icc_nle (m := 10) (n := x6.toInt) rfl rfl c2
    have c3 := icc_nle (m := 8) rfl u1 c3
    rw [d6] at c2
    have nz : ¬ d 7 i = 0 := fun q => c1 (by rw [d6]; exact q)
    have nz' : ¬ (d 7 i).toInt = 0 := fun q => nz (ic_eq.mpr q)
    have eM : (g' 11 2).toNatClampNeg = (us d i).length := by rw [nc, u1]; omega
    rw [eM]
    refine pc_ck (fun _ _ => pc_st (fun g10 e10 => pc_st (fun g11 e11 => pc_stle (fun L12 e12 => hk _ ⟨i + 1, ew, by omega, fun k a b => ?_, ?_⟩))))
    · show g11 k = g k
      rw [e11, ← ek k a b, e10]; exact funext fun _ => by rw [upd2_nk a, upd2_nk b]
    · show UX d (i + 1) g11 L12
      have a10 : g10 11 2 = g' 11 2 := by rw [e10, upd2_nk (by decide)]
      have pl := p10 (us d i).length (by omega)
      unfold UX
      rw [us_t ⟨⟨by omega, by omega⟩, by omega⟩, List.length_append]
      refine ⟨?_, fun k x hx => ?_, fun o ho => ?_, ?_⟩
      · show _ = (((us d i).length + 1 : Nat) : Int)
        rw [e11, upd2_at, a10, ic_addc u1 (n := 1) rfl (by omega) (by omega)]; omega
      · rw [e11, upd2_nk (by decide), e10]
        rcases ap_n hx with ⟨q, hq⟩ | ⟨q, hq⟩
        · rw [upd2_nj (by omega)]; exact u2 k x hq
        · rw [q, upd2_at, hq]; exact vi
      · rw [e11, upd2_nj (by decide), e10, upd2_nk (by decide)]
        exact same nz o ho
      · show _ = ((10 ^ ((us d i).length + 1) : Nat) : Int)
        rw [e12, updL_at, lg_mulc u4 (n := 10) rfl (by omega) (by omega), Nat.pow_succ]
        omega
theorem runWith_x {cs : Nat → List Int} {n l x fu : Nat} {p1 p2 : Int32} {g d : gT} {L : lT} (h : DC cs n g d) (h88 : g 8 8 = -1) (hu : UX d (l + 1) g L) (hl : p2.toInt = (l : Int)) (ln : l < n) (hx : p1 = Int32.ofInt (x : Int)) (x257 : x < 257) : Pc (fX0_runWith_11 fu p1 p2 g L) (fun _ g1 L1 => L1 = L ∧ (∀ k, k ≠ 21 → (k < 43 ∨ 48 < k) → g1 k = g k) ∧ LT cs d l (RS d (un d (l + 1)) (us d (l + 1)).length x) (g1 44 l - d 2 l)) := by
  have n12 := h.1.2
  obtain ⟨u1, u2, u3, -⟩ := hu
  have len := us_len (d := d) (l + 1)
  unfold fX0_runWith_11
  refine pc_lti (fun x1 e1 => ?_)
  unfold fX0_runWith_11_l10
  refine pc_loop (fun v => ∃ k : Nat, v.2.1.toInt = (k : Int) ∧ k ≤ (us d (l + 1)).length ∧ v.2.2.1 = g ∧ v.2.2.2 = L ∧ ∀ o, o < l + 1 → (tbi v.1 o = true ↔ (¬ d 7 o = 0 ∧ ∀ k', k' < k → un d (l + 1) k' = o → x.testBit k' = true))) (fun k10 hk v hv => ?_) ⟨0, rfl, by omega, rfl, rfl, fun o ho => ?_⟩
  rotate_left
  · show tbi x1 o = true ↔ _
    have a := u3 o (by omega)
    rw [e1, tb_n1x (by omega)]
    by_cases q : tbi (g 11 3) o = true
    · have b := a.mp q
      rw [q]
      exact ⟨fun w => absurd w (by decide), fun w => absurd b.2 w.1⟩
    · rw [Bool.not_eq_true] at q
      rw [q]
      refine ⟨fun _ => ⟨fun w => ?_, fun k' hk' => absurd hk' (Nat.not_lt_zero _)⟩, fun _ => rfl⟩
      have := a.mpr ⟨ho, w⟩
      rw [q] at this; exact absurd this (by decide)
  obtain ⟨v3, v4, g', L'⟩ := v
  obtain ⟨k, hkk, kl, eg, eL, hb⟩ := hv
  replace hkk : v4.toInt = (k : Int) := hkk
  replace eg : g' = g := eg
  replace eL : L' = L := eL
  replace hb : ∀ o, o < l + 1 → (tbi v3 o = true ↔ (¬ d 7 o = 0 ∧ ∀ k', k' < k → un d (l + 1) k' = o → x.testBit k' = true)) := hb
  subst eg
  subst eL
  show Pc (fX0_runWith_11_s10 fu p1 p2 k10 v3 v4 g' L') _
  unfold fX0_runWith_11_s10 fX0_runWith_11_p42
  refine pc_ite (fun c => pc_st (fun g3 e3 => ?_)) (fun c => ?_)
  · have c := icc_le u1 hkk c
    rw [show k = (us d (l + 1)).length by omega] at hb
    have mk : ∀ i, i < l + 1 → (stb (v3 ^^^ -1) i = 1 ↔ ¬ RS d (un d (l + 1)) (us d (l + 1)).length x i) := fun i hi => by
      rw [stb_1i (by omega), tb_n1x (by omega)]
      have a := hb i hi
      unfold RS
      rw [← a]
      cases tbi v3 i <;> decide
    have hD : DC cs n g3 (rn0 d (v3 ^^^ -1)) := by
      rw [e3]
      exact h.run (fun i hi => by
        rw [stb_0i (by omega), stb_1i (by omega), tb_n1x (by omega)]
        cases tbi v3 i <;> decide)
    have k3 : ∀ k, k ≠ 8 → g3 k = g' k := fun k hk => by rw [e3]; exact funext fun _ => upd2_nk hk
    unfold fX0_runWith_11_l59
    refine pc_loop (fun v => ∃ i : Nat, v.1.toInt = (i : Int) ∧ i ≤ l + 1 ∧ RF cs (rn0 d (v3 ^^^ -1)) 0 i g3 v.2.1 ∧ v.2.2 = L') (fun k59 hk2 v hv => ?_) ⟨0, rfl, by omega, ⟨fun i _ hi => absurd hi (Nat.not_lt_zero _), fun _ _ => ⟨rfl, rfl, rfl, rfl⟩, fun _ _ _ => rfl⟩, rfl⟩
    obtain ⟨w4, g4, L4⟩ := v
    obtain ⟨i, hi, il, hR, eL⟩ := hv
    replace hi : w4.toInt = (i : Int) := hi
    replace hR : RF cs (rn0 d (v3 ^^^ -1)) 0 i g3 g4 := hR
    replace eL : L4 = L' := eL
    subst eL
    show Pc (fX0_runWith_11_s59 fu p2 k59 w4 g4 L4) _
    unfold fX0_runWith_11_s59
    refine pc_ite (fun c1 => pc_st (fun g5 e5 => pc_some ⟨rfl, fun k a b => ?_, ?_⟩)) (fun c1 => ?_)
    · by_cases k8 : k = 8
      · subst k8
        funext j
        by_cases j8 : j = 8
        · rw [j8, e5, upd2_at, h88]
        · rw [e5, upd2_nj j8, hR.2.2 8 (by decide) (by omega), e3, upd2_nj j8]
      · rw [e5, ← k3 k k8, ← hR.2.2 k a b]
        exact funext fun _ => upd2_nk k8
    · have c1 := icc_lt hl hi c1
      rw [show i = l + 1 by omega] at hR
      have q44 : g5 44 = g4 44 := by rw [e5]; exact funext fun _ => upd2_nk (by decide)
      rw [q44]
      exact ⟨_, _, _, _, _, _, mk, fun i hi => hR.1 i (Nat.zero_le _) hi, rfl, rfl⟩
    · have c1 := icc_nlt hl hi c1
      refine pc_cb (pc_and (rf_s hD hi (by omega) (Nat.zero_le _) hR) pl_ro) (fun _ g7 L8 e7 => hk2 _ ⟨i + 1, ?_, by omega, e7.1, e7.2⟩)
      show (w4 + 1).toInt = _
      rw [ic_addc hi (n := 1) rfl (by omega) (by omega)]; omega
  · have c := icc_nle u1 hkk c
    have ew : (v4 + 1).toInt = ((k + 1 : Nat) : Int) := by rw [ic_addc hkk (n := 1) rfl (by omega) (by omega)]; omega
    have ek : v4.toNatClampNeg = k := by rw [nc, hkk]; omega
    have vk : v4 = Int32.ofInt (k : Int) := by rw [← hkk]; exact io_i.symm
    have gk : g' 52 k = Int32.ofInt ((un d (l + 1) k : Nat) : Int) := u2 k _ (by rw [un_e (List.getElem?_eq_getElem (show k < (us d (l + 1)).length by omega))]; exact List.getElem?_eq_getElem (by omega))
    have ul := us_lt (l + 1) _ (un_m (d := d) (n := l + 1) (k := k) (by omega))
    have bit : (p1 >>> (v4 &&& 31)) &&& 1 = 0 ↔ x.testBit k = false := by
      rw [vk]
      show stb p1 k = 0 ↔ _
      rw [stb_0i (by omega), hx, tb_x x x257 k (by omega)]
    refine pc_ite (fun c1 => pc_ck (fun _ _ => pc_lti (fun x11 e11 => hk _ ⟨k + 1, ew, by omega, rfl, rfl, fun o ho => ?_⟩))) (fun c1 => hk _ ⟨k + 1, ew, by omega, rfl, rfl, fun o ho => ?_⟩)
    · show tbi x11 o = true ↔ _
      rw [e11, ek, gk, tb_and, tb_n1x (by omega), tb_s _ (by omega) o (by omega)]
      have a := hb o ho
      have c1 := bit.mp c1
      by_cases q : un d (l + 1) k = o
      · rw [decide_eq_true q, Bool.not_true, Bool.and_false]
        refine ⟨fun w => absurd w (by decide), fun w => ?_⟩
        have := w.2 k (by omega) q
        rw [c1] at this; exact absurd this (by decide)
      · rw [decide_eq_false q, Bool.not_false, Bool.and_true]
        refine a.trans ⟨fun w => ⟨w.1, fun k' hk' e => ?_⟩, fun w => ⟨w.1, fun k' hk' e => w.2 k' (by omega) e⟩⟩
        by_cases q' : k' = k
        · rw [q'] at e; exact absurd e q
        · exact w.2 k' (by omega) e
    · show tbi v3 o = true ↔ _
      have c1 : x.testBit k = true := by
        cases hb2 : x.testBit k with
        | false => exact absurd (bit.mpr hb2) c1
        | true => rfl
      refine (hb o ho).trans ⟨fun w => ⟨w.1, fun k' hk' e => ?_⟩, fun w => ⟨w.1, fun k' hk' e => w.2 k' (by omega) e⟩⟩
      by_cases q' : k' = k
      · rw [q']; exact c1
      · exact w.2 k' (by omega) e
theorem weight_x {cs : Nat → List Int} {n l x fu : Nat} {p1 : Int32} {g d : gT} {L : lT} (h : DC cs n g d) (h7 : ∀ i, i < n → g (57 + i) 12 = d 7 i) (hu : UX d (l + 1) g L) (ln : l < n) (hx : p1 = Int32.ofInt (x : Int)) (x257 : x < 257) : Pc (fX0_weight_11 fu p1 g L) (fun y g1 L1 => g1 = g ∧ L1 = L ∧ y.toInt = wt (fun k => (d 7 (un d (l + 1) k)).toInt) (us d (l + 1)).length x) := by
  have n12 := h.1.2
  obtain ⟨u1, u2, u3, -⟩ := hu
  have len := us_len (d := d) (l + 1)
  have pb : ∀ k, k < (us d (l + 1)).length → 1 ≤ (d 7 (un d (l + 1) k)).toInt ∧ (d 7 (un d (l + 1) k)).toInt ≤ 9 := fun k hk => (us_lt (l + 1) _ (un_m hk)).2
  unfold fX0_weight_11 fX0_weight_11_l5
  refine pc_loop (fun v => ∃ k : Nat, v.2.1.toInt = (k : Int) ∧ k ≤ (us d (l + 1)).length ∧ v.2.2.1 = g ∧ v.2.2.2 = L ∧ v.1.toInt = wt (fun k => (d 7 (un d (l + 1) k)).toInt) k x) (fun k5 hk v hv => ?_) ⟨0, rfl, by omega, rfl, rfl, rfl⟩
  obtain ⟨v2, v4, g', L'⟩ := v
  obtain ⟨k, hkk, kl, eg, eL, hw⟩ := hv
  replace hkk : v4.toInt = (k : Int) := hkk
  replace eg : g' = g := eg
  replace eL : L' = L := eL
  replace hw : v2.toInt = wt (fun k => (d 7 (un d (l + 1) k)).toInt) k x := hw
  subst eg
  subst eL
  show Pc (fX0_weight_11_s5 fu p1 k5 v2 v4 g' L') _
  unfold fX0_weight_11_s5 fX0_weight_11_p59
  refine pc_ite (fun c => pc_some ⟨rfl, rfl, ?_⟩) (fun c => ?_)
  · have c := icc_le u1 hkk c
    rw [hw, show k = (us d (l + 1)).length by omega]
  have c := icc_nle u1 hkk c
  have k' : k < (us d (l + 1)).length := by omega
  have ew : (v4 + 1).toInt = ((k + 1 : Nat) : Int) := by rw [ic_addc hkk (n := 1) rfl (by omega) (by omega)]; omega
  have ek : v4.toNatClampNeg = k := by rw [nc, hkk]; omega
  have vk : v4 = Int32.ofInt (k : Int) := by rw [← hkk]; exact io_i.symm
  have gk : g' 52 k = Int32.ofInt ((un d (l + 1) k : Nat) : Int) := u2 k _ (by rw [un_e (List.getElem?_eq_getElem k')]; exact List.getElem?_eq_getElem k')
  have ul := us_lt (l + 1) _ (un_m (d := d) (n := l + 1) (k := k) k')
  have gi : (Int32.ofInt ((un d (l + 1) k : Nat) : Int)).toInt = ((un d (l + 1) k : Nat) : Int) := Int32.toInt_ofInt_of_le (by omega) (by omega)
  have gn : (Int32.ofInt ((un d (l + 1) k : Nat) : Int)).toNatClampNeg = un d (l + 1) k := by rw [nc, gi]; omega
  have bit : (p1 >>> (v4 &&& 31)) &&& 1 = 0 ↔ x.testBit k = false := by
    rw [vk]
    show stb p1 k = 0 ↔ _
    rw [stb_0i (by omega), hx, tb_x x x257 k (by omega)]
  have wb := wt_b (p := fun k => (d 7 (un d (l + 1) k)).toInt) (x := x) (k + 1) (by omega) (fun k hk => pb k (by omega))
  have pl := p10 (k + 1) (by omega)
  rw [p10i] at wb
  rw [ek, gk, gn, show un d (l + 1) k % 12 = un d (l + 1) k by omega]
  refine pc_ck (fun _ _ => pc_ck (fun _ _ => pc_ltn (fun q eq => ?_)))
  subst eq
  refine pc_lti (fun x3 e3 => ?_)
  rw [h7 _ (by omega)] at e3
  have fin : ∀ (t : Int64), t.toInt = (if x.testBit k = true then (d 7 (un d (l + 1) k)).toInt else 10 - (d 7 (un d (l + 1) k)).toInt) → Pc (ltl (v2 * t) (fun y4 => k5 (y4, (v4 + 1), g', L'))) (fun y g1 L1 => g1 = g' ∧ L1 = L' ∧ y.toInt = wt (fun k => (d 7 (un d (l + 1) k)).toInt) (us d (l + 1)).length x) := fun t ht => pc_ltl (fun y4 e4 => hk _ ⟨k + 1, ew, by omega, rfl, rfl, by
    show y4.toInt = wt (fun k => (d 7 (un d (l + 1) k)).toInt) k x * (if x.testBit k = true then (d 7 (un d (l + 1) k)).toInt else 10 - (d 7 (un d (l + 1) k)).toInt)
    have wb' : 0 ≤ wt (fun k => (d 7 (un d (l + 1) k)).toInt) k x * (if x.testBit k = true then (d 7 (un d (l + 1) k)).toInt else 10 - (d 7 (un d (l + 1) k)).toInt) ∧ wt (fun k => (d 7 (un d (l + 1) k)).toInt) k x * (if x.testBit k = true then (d 7 (un d (l + 1) k)).toInt else 10 - (d 7 (un d (l + 1) k)).toInt) ≤ ((10 ^ (k + 1) : Nat) : Int) := wb
    rw [e4, lg_mulc hw ht (by omega) (by omega)]⟩)
  have pk := pb k k'
  refine pc_ite (fun c1 => fin _ ?_) (fun c1 => fin _ ?_)
  · rw [bit.mp c1, if_neg (by decide), Int32.toInt_toInt64, e3, ic_subc (m := 10) rfl rfl (by omega) (by omega)]
  · have c1 : x.testBit k = true := by
      cases hb2 : x.testBit k with
      | false => exact absurd (bit.mpr hb2) c1
      | true => rfl
    rw [if_pos c1, Int32.toInt_toInt64, e3]
/-! bounds -/
theorem nb_rn {n l : Nat} {d : gT} {m : Int32} (h : NB n d) (ln : l < n) : NB (l + 1) (rn0 d m) := by
  unfold NB
  rw [rn0_k (k := 1) (by decide), rn0_k (k := 2) (by decide), rn0_k (k := 3) (by decide), rn0_k (k := 4) (by decide), rn0_k (k := 7) (by decide), rn0_k (k := 12) (by decide), rn0_j (j := 3) (by decide), rn0_j (j := 4) (by decide)]
  exact ⟨fun i hi => h.1 i (by omega), h.2⟩
theorem td_b {cs : Nat → List Int} {n l : Nat} {d : gT} {R : Nat → Prop} {t : Int32} (hN : NB n d) (ln : l < n) (h : LT cs d l R t) : 0 ≤ t.toInt ∧ t.toInt ≤ 1478 := by
  obtain ⟨v, m, bg, en, ru, by_, h1, h2, -, ht⟩ := h
  have b := (dy_b (nb_rn hN ln) h2 l (Nat.lt_succ_self l)).2
  rw [rn0_k (by decide)] at b
  have f := (hN.1 l ln).1.1
  rw [ht, ic_sub (by omega) (by omega)]
  omega
theorem lf_b {cs : Nat → List Int} {n l : Nat} {d : gT} {R : Nat → Prop} (hN : NB n d) (hW : WF (l + 1) d) (ln : l < n) : 0 ≤ (lf (LT cs d l R)).toInt ∧ (lf (LT cs d l R)).toInt ≤ 1478 := by
  by_cases e : ∃ t, LT cs d l R t
  · obtain ⟨t, ht⟩ := e
    rw [lf_e (LT.u hW) ht]; exact td_b hN ln ht
  · have q : lf (LT cs d l R) = 0 := @dif_neg (∃ t, LT cs d l R t) (Classical.propDecidable _) e Int32 _ _
    rw [q]; exact ⟨by decide, by decide⟩
/-- a number of minutes is counted by something small -/
def FF (F : Int32 → Int) : Prop := ∀ t : Int32, 0 ≤ t.toInt → t.toInt ≤ 1478 → 0 ≤ F t ∧ F t ≤ 1478
theorem sq_b {cs : Nat → List Int} {n l m X : Nat} {d : gT} {u : Nat → Nat} {F : Int32 → Int} (hN : NB n d) (hW : WF (l + 1) d) (ln : l < n) (hF : FF F) (m8 : m ≤ 8) (hu : ∀ k, k < m → 1 ≤ (d 7 (u k)).toInt ∧ (d 7 (u k)).toInt ≤ 9) (hX : X ≤ 256) : (0 ≤ sF (fun x => wt (fun k => (d 7 (u k)).toInt) m x * fQ cs d l u F m x) X ∧ sF (fun x => wt (fun k => (d 7 (u k)).toInt) m x * fQ cs d l u F m x) X ≤ 37836800000000) ∧ ∀ x, 0 ≤ wt (fun k => (d 7 (u k)).toInt) m x * fQ cs d l u F m x ∧ wt (fun k => (d 7 (u k)).toInt) m x * fQ cs d l u F m x ≤ 147800000000 := by
  have each : ∀ x, 0 ≤ wt (fun k => (d 7 (u k)).toInt) m x * fQ cs d l u F m x ∧ wt (fun k => (d 7 (u k)).toInt) m x * fQ cs d l u F m x ≤ 147800000000 := fun x => by
    have a := wt_b (p := fun k => (d 7 (u k)).toInt) (x := x) m m8 hu
    have pl := p10 m m8
    rw [p10i] at a
    have b := lf_b (cs := cs) (R := RS d u m x) hN hW ln
    have c := hF _ b.1 b.2
    refine ⟨Int.mul_nonneg a.1 c.1, ?_⟩
    have e : wt (fun k => (d 7 (u k)).toInt) m x * fQ cs d l u F m x ≤ 100000000 * 1478 := Int.mul_le_mul (by omega) c.2 c.1 (by omega)
    omega
  refine ⟨?_, each⟩
  have a := sF_b (h := fun x => wt (fun k => (d 7 (u k)).toInt) m x * fQ cs d l u F m x) (B := 147800000000) X (fun x _ => each x)
  omega
/-- what holds while the class adds up -/
def CX (cs : Nat → List Int) (n l : Nat) (d g2 : gT) (F : Int32 → Int) (x : Nat) (g' : gT) (L2 L' : lT) : Prop := (∀ k, k ≠ 21 → (k < 43 ∨ 48 < k) → g' k = g2 k) ∧ L' 11 6 = L2 11 6 ∧ (L' 11 5).toInt = sF (fun x => wt (fun k => (d 7 (un d (l + 1) k)).toInt) (us d (l + 1)).length x * fQ cs d l (un d (l + 1)) F (us d (l + 1)).length x) x
/-- what the class answers: reduced -/
def RXm (cs : Nat → List Int) (d : gT) (l : Nat) (F : Int32 → Int) (L1 : lT) : Prop := ∃ up : Nat, (up : Int) = SQm cs d l (un d (l + 1)) F (us d (l + 1)).length ∧ (L1 11 5).toInt = ((up / Nat.gcd (10 ^ (us d (l + 1)).length) up : Nat) : Int) ∧ (L1 11 6).toInt = ((10 ^ (us d (l + 1)).length / Nat.gcd (10 ^ (us d (l + 1)).length) up : Nat) : Int)
section CLS
variable {cs : Nat → List Int} {n l fu : Nat} {g d : gT} {L : lT}
theorem cx_end {F : Int32 → Int} {g2 g' : gT} {L2 L' : lT} (hN : NB n d) (hW : WF (l + 1) d) (ln : l < n) (hF : FF F) (hu : UX d (l + 1) g2 L2) (hc : CX cs n l d g2 F (2 ^ (us d (l + 1)).length) g' L2 L') : Pc (cb (fX0_reduce_11 fu g' L') (fun _ g8 L9 => some ((), (g8, L9)))) (fun _ _ L1 => RXm cs d l F L1) := by
  obtain ⟨-, c6, c5⟩ := hc
  have len := us_len (d := d) (l + 1)
  have b := (sq_b (cs := cs) (u := un d (l + 1)) (m := (us d (l + 1)).length) (X := 2 ^ (us d (l + 1)).length) hN hW ln hF len (fun k hk => (us_lt (l + 1) _ (un_m hk)).2) (sh_m _ len).2).1
  have e5 : (L' 11 5).toInt = (((SQm cs d l (un d (l + 1)) F (us d (l + 1)).length).toNat : Nat) : Int) := by
    rw [c5]
    show sF _ _ = _
    unfold SQm
    omega
  have e6 : (L' 11 6).toInt = ((10 ^ (us d (l + 1)).length : Nat) : Int) := by rw [c6]; exact hu.2.2.2
  refine pc_cb (reduce_x e5 e6 (by have := (p10 _ len).1; omega)) (fun _ g8 L9 q => pc_some ⟨_, ?_, q.1, q.2⟩)
  unfold SQm
  omega
theorem ofLate_x {p1 p2 : Int32} (h : DC cs n g d) (h88 : g 8 8 = -1) (h7 : ∀ i, i < n → g (57 + i) 12 = d 7 i) (hN : NB n d) (hl : p1.toInt = (l : Int)) (ln : l < n) : Pc (fX0_ofLate_11 fu p1 p2 g L) (fun _ _ L1 => RXm cs d l (fun t => if t ≤ p2 then 0 else 1) L1) := by
  have hW : WF (l + 1) d := fun i hi => h.2.2.2.1 i (by omega)
  have n12 := h.1.2
  have len := us_len (d := d) (l + 1)
  have hF : FF (fun t => if t ≤ p2 then 0 else 1) := fun t _ _ => by
    show 0 ≤ (if t ≤ p2 then (0 : Int) else 1) ∧ (if t ≤ p2 then (0 : Int) else 1) ≤ 1478
    split <;> omega
  unfold fX0_ofLate_11
  refine pc_cb (unsure_x h h7 (fun i hi => (hN.1 i hi).1.2.2.2) hl ln) (fun _ g2 L3 e2 => pc_stle (fun L5 e5 => ?_))
  obtain ⟨k2, hu⟩ := e2
  have hu : UX d (l + 1) g2 L5 := hu.c rfl rfl (by rw [e5, updL_nj (by decide)])
  have h2 : DC cs n g2 d := h.c3 (fun k a => k2 k (by omega) (by omega))
  have g88 : g2 8 8 = -1 := by rw [k2 8 (by decide) (by decide)]; exact h88
  have h72 : ∀ i, i < n → g2 (57 + i) 12 = d 7 i := fun i hi => by rw [k2 _ (by omega) (by omega)]; exact h7 i hi
  have sh := sh_m _ len
  have e11 : g2 11 2 = Int32.ofInt (((us d (l + 1)).length : Nat) : Int) := ic_eq.mpr (by rw [hu.1, Int32.toInt_ofInt_of_le (by omega) (by omega)])
  unfold fX0_ofLate_11_l12
  refine pc_loop (fun v => ∃ x : Nat, v.1.toInt = (x : Int) ∧ x ≤ 2 ^ (us d (l + 1)).length ∧ CX cs n l d g2 (fun t => if t ≤ p2 then 0 else 1) x v.2.1 L5 v.2.2) (fun k12 hk v hv => ?_) ⟨0, rfl, Nat.zero_le _, fun _ _ _ => rfl, rfl, by show (L5 11 5).toInt = 0; rw [e5, updL_at]; rfl⟩
  obtain ⟨v3, g', L'⟩ := v
  obtain ⟨x, hx, xm, hc⟩ := hv
  replace hx : v3.toInt = (x : Int) := hx
  replace hc : CX cs n l d g2 (fun t => if t ≤ p2 then 0 else 1) x g' L5 L' := hc
  have hc0 := hc
  obtain ⟨ck, c6, c5⟩ := hc
  show Pc (fX0_ofLate_11_s12 fu p1 p2 k12 v3 g' L') _
  unfold fX0_ofLate_11_s12 fX0_ofLate_11_p54
  rw [ck 11 (by decide) (by omega), e11]
  refine pc_ite (fun c => ?_) (fun c => ?_)
  · have c := icc_le sh.1 hx c
    rw [show x = 2 ^ (us d (l + 1)).length by omega] at hc0
    exact cx_end hN hW ln hF hu hc0
  have c := icc_nle sh.1 hx c
  have vx : v3 = Int32.ofInt (x : Int) := by rw [← hx]; exact io_i.symm
  have ew : (v3 + 1).toInt = ((x + 1 : Nat) : Int) := by rw [ic_addc hx (n := 1) rfl (by omega) (by omega)]; omega
  have h' : DC cs n g' d := h2.c3 (fun k a => ck k (by omega) (by omega))
  have hu' : UX d (l + 1) g' L' := hu.c (ck 11 (by decide) (by omega)) (ck 52 (by decide) (by omega)) c6
  refine pc_cb (runWith_x h' (by rw [ck 8 (by decide) (by omega)]; exact g88) hu' hl ln vx (by omega)) (fun _ g12 L13 e12 => ?_)
  obtain ⟨rfl, r2, r3⟩ := e12
  have c12 : ∀ k, k ≠ 21 → (k < 43 ∨ 48 < k) → g12 k = g2 k := fun k a b => (r2 k a b).trans (ck k a b)
  have h12 : DC cs n g12 d := h2.c3 (fun k a => c12 k (by omega) (by omega))
  refine pc_cb (pc_and (late_x h12 hl ln) pl_late) (fun x15 g16 L17 q => ?_)
  obtain ⟨⟨rfl, q⟩, rfl⟩ := q
  rw [← q] at r3
  have fq : fQ cs d l (un d (l + 1)) (fun t => if t ≤ p2 then 0 else 1) (us d (l + 1)).length x = if x15 ≤ p2 then 0 else 1 := by
    unfold fQ
    rw [lf_e (LT.u hW) r3]
  have sb := sq_b (cs := cs) (u := un d (l + 1)) (m := (us d (l + 1)).length) (X := x) hN hW ln hF len (fun k hk => (us_lt (l + 1) _ (un_m hk)).2) (by omega)
  refine pc_ite (fun c1 => hk _ ⟨x + 1, ew, by omega, c12, c6, ?_⟩) (fun c1 => ?_)
  · show (L17 11 5).toInt = sF _ x + _ * fQ cs d l (un d (l + 1)) (fun t => if t ≤ p2 then 0 else 1) (us d (l + 1)).length x
    rw [fq, if_pos c1, Int.mul_zero, Int.add_zero]; exact c5
  · have hu12 : UX d (l + 1) g16 L17 := hu.c (c12 11 (by decide) (by omega)) (c12 52 (by decide) (by omega)) c6
    refine pc_cb (weight_x h12 (fun i hi => by rw [c12 _ (by omega) (by omega)]; exact h72 i hi) hu12 ln vx (by omega)) (fun x20 g21 L22 w => ?_)
    obtain ⟨rfl, rfl, w⟩ := w
    refine pc_stle (fun L24 e24 => hk _ ⟨x + 1, ew, by omega, c12, ?_, ?_⟩)
    · show L24 11 6 = L5 11 6
      rw [e24, updL_nj (by decide)]; exact c6
    · show (L24 11 5).toInt = sF _ x + _ * fQ cs d l (un d (l + 1)) (fun t => if t ≤ p2 then 0 else 1) (us d (l + 1)).length x
      have sx := sb.2 x
      rw [fq, if_neg c1, Int.mul_one] at sx ⊢
      rw [e24, updL_at, lg_addc c5 w (by omega) (by omega)]
theorem meanLate_x {p1 : Int32} (h : DC cs n g d) (h88 : g 8 8 = -1) (h7 : ∀ i, i < n → g (57 + i) 12 = d 7 i) (hN : NB n d) (hl : p1.toInt = (l : Int)) (ln : l < n) : Pc (fX0_meanLate_11 fu p1 g L) (fun _ _ L1 => RXm cs d l (fun t => t.toInt) L1) := by
  have hW : WF (l + 1) d := fun i hi => h.2.2.2.1 i (by omega)
  have n12 := h.1.2
  have len := us_len (d := d) (l + 1)
  have hF : FF (fun t => t.toInt) := fun t a b => ⟨a, b⟩
  unfold fX0_meanLate_11
  refine pc_cb (unsure_x h h7 (fun i hi => (hN.1 i hi).1.2.2.2) hl ln) (fun _ g2 L3 e2 => pc_stle (fun L5 e5 => ?_))
  obtain ⟨k2, hu⟩ := e2
  have hu : UX d (l + 1) g2 L5 := hu.c rfl rfl (by rw [e5, updL_nj (by decide)])
  have h2 : DC cs n g2 d := h.c3 (fun k a => k2 k (by omega) (by omega))
  have g88 : g2 8 8 = -1 := by rw [k2 8 (by decide) (by decide)]; exact h88
  have h72 : ∀ i, i < n → g2 (57 + i) 12 = d 7 i := fun i hi => by rw [k2 _ (by omega) (by omega)]; exact h7 i hi
  have sh := sh_m _ len
  have e11 : g2 11 2 = Int32.ofInt (((us d (l + 1)).length : Nat) : Int) := ic_eq.mpr (by rw [hu.1, Int32.toInt_ofInt_of_le (by omega) (by omega)])
  unfold fX0_meanLate_11_l12
  refine pc_loop (fun v => ∃ x : Nat, v.1.toInt = (x : Int) ∧ x ≤ 2 ^ (us d (l + 1)).length ∧ CX cs n l d g2 (fun t => t.toInt) x v.2.1 L5 v.2.2) (fun k12 hk v hv => ?_) ⟨0, rfl, Nat.zero_le _, fun _ _ _ => rfl, rfl, by show (L5 11 5).toInt = 0; rw [e5, updL_at]; rfl⟩
  obtain ⟨v2, g', L'⟩ := v
  obtain ⟨x, hx, xm, hc⟩ := hv
  replace hx : v2.toInt = (x : Int) := hx
  replace hc : CX cs n l d g2 (fun t => t.toInt) x g' L5 L' := hc
  have hc0 := hc
  obtain ⟨ck, c6, c5⟩ := hc
  show Pc (fX0_meanLate_11_s12 fu p1 k12 v2 g' L') _
  unfold fX0_meanLate_11_s12
  rw [ck 11 (by decide) (by omega), e11]
  refine pc_ite (fun c => ?_) (fun c => ?_)
  · have c := icc_le sh.1 hx c
    rw [show x = 2 ^ (us d (l + 1)).length by omega] at hc0
    exact cx_end hN hW ln hF hu hc0
  have c := icc_nle sh.1 hx c
  have vx : v2 = Int32.ofInt (x : Int) := by rw [← hx]; exact io_i.symm
  have ew : (v2 + 1).toInt = ((x + 1 : Nat) : Int) := by rw [ic_addc hx (n := 1) rfl (by omega) (by omega)]; omega
  have h' : DC cs n g' d := h2.c3 (fun k a => ck k (by omega) (by omega))
  have hu' : UX d (l + 1) g' L' := hu.c (ck 11 (by decide) (by omega)) (ck 52 (by decide) (by omega)) c6
  refine pc_cb (runWith_x h' (by rw [ck 8 (by decide) (by omega)]; exact g88) hu' hl ln vx (by omega)) (fun _ g12 L13 e12 => ?_)
  obtain ⟨rfl, r2, r3⟩ := e12
  have c12 : ∀ k, k ≠ 21 → (k < 43 ∨ 48 < k) → g12 k = g2 k := fun k a b => (r2 k a b).trans (ck k a b)
  have h12 : DC cs n g12 d := h2.c3 (fun k a => c12 k (by omega) (by omega))
  have hu12 : UX d (l + 1) g12 L13 := hu.c (c12 11 (by decide) (by omega)) (c12 52 (by decide) (by omega)) c6
  refine pc_cb (weight_x h12 (fun i hi => by rw [c12 _ (by omega) (by omega)]; exact h72 i hi) hu12 ln vx (by omega)) (fun x15 g16 L17 w => ?_)
  obtain ⟨rfl, rfl, w⟩ := w
  refine pc_cb (pc_and (late_x h12 hl ln) pl_late) (fun x19 g20 L21 q => ?_)
  obtain ⟨⟨rfl, q⟩, rfl⟩ := q
  rw [← q] at r3
  have fq : fQ cs d l (un d (l + 1)) (fun t => t.toInt) (us d (l + 1)).length x = x19.toInt := by
    unfold fQ
    rw [lf_e (LT.u hW) r3]
  have sb := sq_b (cs := cs) (u := un d (l + 1)) (m := (us d (l + 1)).length) (X := x) hN hW ln hF len (fun k hk => (us_lt (l + 1) _ (un_m hk)).2) (by omega)
  have sx := sb.2 x
  rw [fq] at sx
  refine pc_stle (fun L23 e23 => hk _ ⟨x + 1, ew, by omega, c12, ?_, ?_⟩)
  · show L23 11 6 = L5 11 6
    rw [e23, updL_nj (by decide)]; exact c6
  · show (L23 11 5).toInt = sF _ x + _ * fQ cs d l (un d (l + 1)) (fun t => t.toInt) (us d (l + 1)).length x
    rw [fq, e23, updL_at, lg_addc c5 (lg_mulc w (Int32.toInt_toInt64 x19) (by omega) (by omega)) (by omega) (by omega)]
end CLS
end
section
/-! ===== gaps: days with other gaps ===== -/
def gpd (d : gT) (γ : Nat → Int32) : gT := fun k j => if k = 12 ∧ 12 ≤ j ∧ j < 24 then γ (j - 12) else d k j
theorem gpd_k {d : gT} {γ : Nat → Int32} {k : Nat} (hk : k ≠ 12) : gpd d γ k = d k := funext fun _ => if_neg (fun h => hk h.1)
theorem gpd_o {d : gT} {γ : Nat → Int32} {j : Nat} (hj : ¬ (12 ≤ j ∧ j < 24)) : gpd d γ 12 j = d 12 j := if_neg (fun h => hj h.2)
theorem gpd_i {d : gT} {γ : Nat → Int32} {i : Nat} (hi : i < 12) : gpd d γ 12 (12 + i) = γ i := by
  have e : 12 + i - 12 = i := by omega
  show (if 12 = 12 ∧ 12 ≤ 12 + i ∧ 12 + i < 24 then γ (12 + i - 12) else d 12 (12 + i)) = _
  rw [if_pos ⟨rfl, by omega, by omega⟩, e]
def LBC (d : gT) (C : Nat → Int32) (i : Nat) (b y : Int32) : Prop :=
  ((d 5 i).toInt = 2 ∧ b = d 1 i ∧ y = -1) ∨
  ((d 5 i).toInt ≠ 2 ∧ ∃ v : Int32, KTH (fun k => (C k).toInt) (d 8 i).toInt.toNat (if (d 5 i).toInt = 0 then d 8 i else d 6 i).toInt.toNat v.toInt ∧
    ((v.toInt ≤ (d 1 i).toInt ∧ b = d 1 i ∧ y = -1) ∨ ((d 1 i).toInt < v.toInt ∧ (d 1 i + d 12 (36 + i)).toInt < v.toInt ∧ b = d 1 i + d 12 (36 + i) ∧ y = -1) ∨ ((d 1 i).toInt < v.toInt ∧ v.toInt ≤ (d 1 i + d 12 (36 + i)).toInt ∧ b = v ∧ ∃ k, k < (d 8 i).toInt.toNat ∧ y = d 9 (6 * i + k) ∧ C k = v ∧ ∀ m, m < k → C m ≠ v)))
def cmx (d : gT) (γ en : Nat → Int32) (i k : Nat) : Int32 := en (wf0 d i k) + wy d (wf0 d i k) i - γ i
theorem cmg_g {d : gT} {γ en : Nat → Int32} {i : Nat} (hi : i < 12) : cmg (gpd d γ) en i = cmx d γ en i := by
  funext k
  have w : wf0 (gpd d γ) i k = wf0 d i k := by unfold wf0; rw [gpd_k (by decide)]
  have y : wy (gpd d γ) (wf0 d i k) i = wy d (wf0 d i k) i := by
    unfold wy
    rw [gpd_k (k := 0) (by decide), gpd_k (k := 4) (by decide), gpd_o (j := 24 + wf0 d i k) (by omega), gpd_o (j := 24 + i) (by omega)]
  unfold cmg cmx
  rw [w, y, gpd_i hi]
theorem lb_g {d : gT} {γ en : Nat → Int32} {i : Nat} {b y : Int32} (hi : i < 12) : LB (gpd d γ) en i b y ↔ LBC d (cmx d γ en i) i b y := by
  unfold LB FC LBC
  rw [cmg_g hi, gpd_k (k := 5) (by decide), gpd_k (k := 1) (by decide), gpd_k (k := 8) (by decide), gpd_k (k := 6) (by decide), gpd_k (k := 9) (by decide), gpd_o (j := 36 + i) (by omega)]
  all_goals exact Iff.rfl
theorem LBC.c {d : gT} {C C' : Nat → Int32} {i : Nat} {b y : Int32} (hc : ∀ k, k < (d 8 i).toInt.toNat → C k = C' k) (h : LBC d C i b y) : LBC d C' i b y := by
  rcases h with h | ⟨h1, v, h2, h3⟩
  · exact Or.inl h
  · refine Or.inr ⟨h1, v, kth_c h2 (fun k hk => congrArg Int32.toInt (hc k hk)), ?_⟩
    rcases h3 with h3 | h3 | ⟨a, c, f, k, k1, k2, k3, k4⟩
    · exact Or.inl h3
    · exact Or.inr (Or.inl h3)
    · exact Or.inr (Or.inr ⟨a, c, f, k, k1, k2, by rw [← hc k k1]; exact k3, fun m hm => by rw [← hc m (by omega)]; exact k4 m hm⟩)
/-- one lesson of such a day -/
def L1 (cs : Nat → List Int) (d : gT) (γ en : Nat → Int32) (i : Nat) (b e r y : Int32) : Prop := LBC d (cmx d γ en i) i b y ∧ r = ov cs d i b ∧ e = (if d 2 i < b + d 3 i then b + d 3 i else d 2 i) + r
theorem ov_g {cs : Nat → List Int} {d : gT} {γ : Nat → Int32} {i : Nat} {b : Int32} (hi : i < 12) : ov cs (gpd d γ) i b = ov cs d i b := by
  have t : tl (gpd d γ) b i = tl d b i := by
    funext j
    match j with
    | 0 => show gpd d γ 12 i = d 12 i; exact gpd_o (by omega)
    | 1 => show b - gpd d γ 1 i = b - d 1 i; rw [gpd_k (by decide)]
    | 2 => rfl
    | 3 => show gpd d γ 12 (24 + i) = d 12 (24 + i); exact gpd_o (by omega)
    | 4 => show gpd d γ 4 i = d 4 i; rw [gpd_k (by decide)]
    | 5 => rfl
    | j + 6 => rfl
  rw [ov_e, ov_e]
  unfold gv
  rw [t, gpd_k (k := 0) (by decide), gpd_o (j := i) (by omega)]
theorem ld_g {cs : Nat → List Int} {d : gT} {γ bg en ru by_ : Nat → Int32} {i : Nat} (hi : i < 12) : LD cs (gpd d γ) bg en ru by_ i ↔ L1 cs d γ en i (bg i) (en i) (ru i) (by_ i) := by
  unfold LD L1
  rw [lb_g hi, ov_g hi, gpd_k (k := 2) (by decide), gpd_k (k := 3) (by decide)]
  all_goals exact Iff.rfl
theorem L1.c {cs : Nat → List Int} {d : gT} {γ γ' en en' : Nat → Int32} {i : Nat} {b e r y : Int32} (h : L1 cs d γ en i b e r y) (hγ : γ i = γ' i) (he : ∀ k, k < (d 8 i).toInt.toNat → en (wf0 d i k) = en' (wf0 d i k)) : L1 cs d γ' en' i b e r y :=
  ⟨h.1.c (fun k hk => by unfold cmx; rw [he k hk, hγ]), h.2⟩
theorem L1.u {cs : Nat → List Int} {d : gT} {γ en : Nat → Int32} {n i : Nat} {b e r y b' e' r' y' : Int32} (hW : WF n d) (hi : i < n) (n12 : n ≤ 12) (h : L1 cs d γ en i b e r y) (h' : L1 cs d γ en i b' e' r' y') : b = b' ∧ e = e' ∧ r = r' ∧ y = y' := by
  obtain ⟨a1, a2, a3⟩ := h
  obtain ⟨b1, b2, b3⟩ := h'
  obtain ⟨u1, u2⟩ := LB.u (wf_e hW (gpd_k (γ := γ) (by decide)) (gpd_k (by decide)) (gpd_k (by decide)) (gpd_k (by decide))) hi ((lb_g (by omega)).mpr a1) ((lb_g (by omega)).mpr b1)
  rw [← u1] at b2 b3
  have r1 : r = r' := a2.trans b2.symm
  rw [← r1] at b3
  exact ⟨u1, a3.trans b3.symm, r1, u2⟩
theorem l1_b {cs : Nat → List Int} {d : gT} {γ en : Nat → Int32} {n i : Nat} {b e r y : Int32} (hN : NB n d) (hi : i < n) (h : L1 cs d γ en i b e r y) : 0 < e.toInt := by
  obtain ⟨⟨f1, f2, f3⟩, ⟨f4, f5⟩, -⟩ := (hN.1 i hi).1
  obtain ⟨f6, f7⟩ := (hN.1 i hi).2.1
  obtain ⟨hl, hr, he⟩ := h
  have sl : (d 1 i + d 12 (36 + i)).toInt = (d 1 i).toInt + (d 12 (36 + i)).toInt := ic_addc rfl rfl (by omega) (by omega)
  have hb : (d 1 i).toInt ≤ b.toInt ∧ b.toInt ≤ 1098 := by
    rcases hl with ⟨-, b, -⟩ | ⟨-, v, -, ⟨-, b, -⟩ | ⟨-, -, b, -⟩ | ⟨c1, c2, b, -⟩⟩
    · rw [b]; omega
    · rw [b]; omega
    · rw [b]; omega
    · rw [b]; omega
  have o := ov_b (cs := cs) (d := d) (i := i) (b := b)
  rw [← hr] at o
  have s1 : (b + d 3 i).toInt = b.toInt + (d 3 i).toInt := ic_addc rfl rfl (by omega) (by omega)
  by_cases c : d 2 i < b + d 3 i
  · rw [if_pos c] at he
    have e : e.toInt = b.toInt + (d 3 i).toInt + r.toInt := by rw [he]; exact ic_addc s1 rfl (by omega) (by omega)
    omega
  · rw [if_neg c] at he
    have e : e.toInt = (d 2 i).toInt + r.toInt := by rw [he]; exact ic_addc rfl rfl (by omega) (by omega)
    omega
/-- the day of those asked -/
def AD (cs : Nat → List Int) (d : gT) (l : Nat) (A : Nat → Prop) (γ bg en ru by_ : Nat → Int32) : Prop := ∀ i, i ≤ l → A i → L1 cs d γ en i (bg i) (en i) (ru i) (by_ i)
def CLO (d : gT) (A : Nat → Prop) (n : Nat) : Prop := ∀ i, i < n → A i → ∀ k, k < (d 8 i).toInt.toNat → A (wf0 d i k)
theorem AD.u {cs : Nat → List Int} {d : gT} {n l m : Nat} {A : Nat → Prop} {γ bg en ru by_ γ' bg' en' ru' by' : Nat → Int32} (hW : WF n d) (ln : l < n) (n12 : n ≤ 12) (hC : CLO d A n) (h : AD cs d l A γ bg en ru by_) (h' : ∀ i, i < m → A i → L1 cs d γ' en' i (bg' i) (en' i) (ru' i) (by' i)) (ml : m ≤ l + 1) (hγ : ∀ i, i < m → A i → γ i = γ' i) : ∀ i, i < m → A i → en i = en' i := by
  intro i
  induction i using Nat.strongRecOn with
  | ind i ih =>
    intro him hA
    have a := (h i (by omega) hA).c (en' := en') (hγ i him hA) (fun k hk => by
      have w := wf_lt hW (show i < n by omega) hk
      exact ih _ w (by omega) (hC i (by omega) hA k hk))
    exact (a.u hW (by omega) n12 (h' i him hA)).2.1
/-- on time with such gaps -/
def OT (cs : Nat → List Int) (d : gT) (l : Nat) (A : Nat → Prop) (p : Int) (γ : Nat → Int32) : Prop := ∃ bg en ru by_, AD cs d l A γ bg en ru by_ ∧ (en l - d 2 l).toInt ≤ p
theorem OT.c {cs : Nat → List Int} {d : gT} {l : Nat} {A : Nat → Prop} {p : Int} {γ γ' : Nat → Int32} (hγ : ∀ i, i ≤ l → A i → γ i = γ' i) (h : OT cs d l A p γ) : OT cs d l A p γ' := by
  obtain ⟨bg, en, ru, by_, h, le⟩ := h
  exact ⟨bg, en, ru, by_, fun i hi hA => (h i hi hA).c (hγ i hi hA) (fun _ _ => rfl), le⟩
theorem ot_i {cs : Nat → List Int} {d : gT} {n l : Nat} {A : Nat → Prop} {p : Int} {γ bg en ru by_ : Nat → Int32} (hW : WF n d) (ln : l < n) (n12 : n ≤ 12) (hC : CLO d A n) (Al : A l) (h : AD cs d l A γ bg en ru by_) : OT cs d l A p γ ↔ (en l - d 2 l).toInt ≤ p := by
  constructor
  · intro ⟨bg', en', ru', by', h', le⟩
    rw [← h'.u hW ln n12 hC (m := l + 1) (fun i hi hA => h i (by omega) hA) (by omega) (fun _ _ _ => rfl) l (by omega) Al]
    exact le
  · intro le
    exact ⟨bg, en, ru, by_, h, le⟩
def putg (γ : Nat → Int32) (k : Nat) (t : Int32) : Nat → Int32 := fun i => if i = k then t else γ i
theorem putg_at {γ : Nat → Int32} {k : Nat} {t : Int32} : putg γ k t k = t := if_pos rfl
theorem putg_ne {γ : Nat → Int32} {k i : Nat} {t : Int32} (h : i ≠ k) : putg γ k t i = γ i := if_neg h
/-- the same end leads to the same day -/
theorem ot_skip {cs : Nat → List Int} {d : gT} {n l k : Nat} {A : Nat → Prop} {p : Int} {δ π bg en ru by_ : Nat → Int32} {t e b r y b' r' y' : Int32} (hW : WF n d) (ln : l < n) (n12 : n ≤ 12) (hC : CLO d A n) (kl : k ≤ l) (Ak : A k)
    (hπ : ∀ i, i < k → A i → L1 cs d π en i (bg i) (en i) (ru i) (by_ i)) (hδ : ∀ i, i < k → A i → δ i = π i)
    (ht : L1 cs d (putg π k t) en k b e r y) (hj : L1 cs d δ en k b' e r' y') (h : OT cs d l A p δ) : OT cs d l A p (putg δ k t) := by
  obtain ⟨bg2, en2, ru2, by2, h, le⟩ := h
  have same : ∀ i, i < k → A i → en2 i = en i := h.u hW ln n12 hC hπ (by omega) hδ
  have wk : ∀ j, j < (d 8 k).toInt.toNat → en2 (wf0 d k j) = en (wf0 d k j) := fun j hj => same _ (wf_lt hW (by omega) hj) (hC k (by omega) Ak j hj)
  have ek : en2 k = e := (((h k kl Ak).c (γ' := δ) (en' := en) rfl wk).u hW (by omega) n12 hj).2.1
  refine ⟨putg bg2 k b, en2, putg ru2 k r, putg by2 k y, fun i hi hA => ?_, le⟩
  by_cases q : i = k
  · subst q
    rw [putg_at, putg_at, putg_at, ek]
    exact ht.c (by rw [putg_at, putg_at]) (fun j hj => (wk j hj).symm)
  · rw [putg_ne q, putg_ne q, putg_ne q]
    exact (h i hi hA).c (putg_ne q).symm (fun _ _ => rfl)
/-! ===== the minutes of all gaps; rows in their order ===== -/
def SU (s : Int32) (γ : Nat → Int32) : Nat → Int
  | 0 => 0
  | i + 1 => SU s γ i + (if tbi s i = true then (γ i).toInt else 0)
theorem su_t {s : Int32} {γ : Nat → Int32} {i : Nat} (h : tbi s i = true) : SU s γ (i + 1) = SU s γ i + (γ i).toInt := by
  show SU s γ i + (if tbi s i = true then (γ i).toInt else 0) = _
  rw [if_pos h]
theorem su_f {s : Int32} {γ : Nat → Int32} {i : Nat} (h : ¬ tbi s i = true) : SU s γ (i + 1) = SU s γ i := by
  show SU s γ i + (if tbi s i = true then (γ i).toInt else 0) = _
  rw [if_neg h, Int.add_zero]
theorem su_le {s : Int32} {γ δ : Nat → Int32} : ∀ m, (∀ i, i < m → tbi s i = true → (γ i).toInt ≤ (δ i).toInt) → SU s γ m ≤ SU s δ m := by
  intro m
  induction m with
  | zero => intro _; exact Int.le_refl _
  | succ m ih =>
    intro h
    have a := ih (fun i hi => h i (by omega))
    by_cases c : tbi s m = true
    · rw [su_t c, su_t c]
      have := h m (by omega) c
      omega
    · rw [su_f c, su_f c]; exact a
theorem su_lt {s : Int32} {γ δ : Nat → Int32} {i0 : Nat} (t0 : tbi s i0 = true) (l0 : (γ i0).toInt < (δ i0).toInt) : ∀ m, i0 < m → (∀ i, i < m → tbi s i = true → (γ i).toInt ≤ (δ i).toInt) → SU s γ m < SU s δ m := by
  intro m
  induction m with
  | zero => intro q; exact absurd q (Nat.not_lt_zero _)
  | succ m ih =>
    intro q h
    by_cases e : i0 = m
    · have a := su_le (s := s) (γ := γ) (δ := δ) m (fun i hi => h i (by omega))
      rw [← e] at a ⊢
      rw [su_t t0, su_t t0]
      omega
    · have a := ih (by omega) (fun i hi => h i (by omega))
      by_cases c : tbi s m = true
      · rw [su_t c, su_t c]
        have := h m (by omega) c
        omega
      · rw [su_f c, su_f c]; exact a
theorem su_c {s : Int32} {γ δ : Nat → Int32} (m : Nat) (h : ∀ i, i < m → tbi s i = true → γ i = δ i) : SU s γ m = SU s δ m := by
  have a := su_le (s := s) (γ := γ) (δ := δ) m (fun i hi t => by rw [h i hi t]; exact Int.le_refl _)
  have b := su_le (s := s) (γ := δ) (δ := γ) m (fun i hi t => by rw [h i hi t]; exact Int.le_refl _)
  omega
theorem su_mo {s : Int32} {γ : Nat → Int32} {k : Nat} : ∀ m, k ≤ m → (∀ i, k ≤ i → i < m → tbi s i = true → 0 ≤ (γ i).toInt) → SU s γ k ≤ SU s γ m := by
  intro m
  induction m with
  | zero => intro q _; rw [show k = 0 by omega]; exact Int.le_refl _
  | succ m ih =>
    intro q h
    by_cases e : k = m + 1
    · rw [e]; exact Int.le_refl _
    · have a := ih (by omega) (fun i x y => h i x (by omega))
      by_cases c : tbi s m = true
      · rw [su_t c]
        have := h m (by omega) (by omega) c
        omega
      · rw [su_f c]; exact a
theorem su_z {s : Int32} {γ : Nat → Int32} {k : Nat} : ∀ m, k ≤ m → (∀ i, k ≤ i → i < m → tbi s i = true → (γ i).toInt = 0) → SU s γ m = SU s γ k := by
  intro m
  induction m with
  | zero => intro q _; rw [show k = 0 by omega]
  | succ m ih =>
    intro q h
    by_cases e : k = m + 1
    · rw [e]
    · have a := ih (by omega) (fun i x y => h i x (by omega))
      by_cases c : tbi s m = true
      · rw [su_t c, a, h m (by omega) (by omega) c]; omega
      · rw [su_f c]; exact a
def ct (s : Int32) : Nat → Nat
  | 0 => 0
  | i + 1 => ct s i + (if tbi s i = true then 1 else 0)
theorem ct_t {s : Int32} {i : Nat} (h : tbi s i = true) : ct s (i + 1) = ct s i + 1 := by
  show ct s i + (if tbi s i = true then 1 else 0) = _
  rw [if_pos h]
theorem ct_f {s : Int32} {i : Nat} (h : ¬ tbi s i = true) : ct s (i + 1) = ct s i := by
  show ct s i + (if tbi s i = true then 1 else 0) = _
  rw [if_neg h, Nat.add_zero]
theorem ct_mo {s : Int32} {i : Nat} : ∀ j, i ≤ j → ct s i ≤ ct s j := by
  intro j
  induction j with
  | zero => intro q; rw [show i = 0 by omega]; exact Nat.le_refl _
  | succ j ih =>
    intro q
    by_cases e : i = j + 1
    · rw [e]; exact Nat.le_refl _
    · have a := ih (by omega)
      by_cases c : tbi s j = true
      · rw [ct_t c]; omega
      · rw [ct_f c]; exact a
theorem su_4 {s : Int32} {γ : Nat → Int32} : ∀ m, (∀ i, i < m → tbi s i = true → (γ i).toInt ≤ 4) → SU s γ m ≤ 4 * (ct s m : Int) := by
  intro m
  induction m with
  | zero => intro _; exact Int.le_refl _
  | succ m ih =>
    intro h
    have a := ih (fun i hi => h i (by omega))
    by_cases c : tbi s m = true
    · rw [su_t c, ct_t c]
      have := h m (by omega) c
      omega
    · rw [su_f c, ct_f c]; exact a
/-- the rows that may be taken; those with nothing where nothing is asked -/
def RWg (n : Nat) (s : Int32) (own γ : Nat → Int32) : Prop := ∀ i, i < n → (tbi s i = true → 0 ≤ (γ i).toInt ∧ (γ i).toInt ≤ 4) ∧ (¬ tbi s i = true → γ i = own i)
def RA (n : Nat) (s a : Int32) (own γ : Nat → Int32) : Prop := RWg n s own γ ∧ ∀ i, i < n → tbi s i = true → ¬ tbi a i = true → γ i = 0
def LEx (γ δ : Nat → Int32) : Nat → Nat → Prop
  | _, 0 => True
  | k, r + 1 => (γ k).toInt < (δ k).toInt ∨ (γ k = δ k ∧ LEx γ δ (k + 1) r)
theorem lex_eq {γ δ : Nat → Int32} : ∀ r k, (∀ i, k ≤ i → i < k + r → γ i = δ i) → LEx γ δ k r := by
  intro r
  induction r with
  | zero => intro k _; exact trivial
  | succ r ih => intro k h; exact Or.inr ⟨h k (by omega) (by omega), ih (k + 1) (fun i x y => h i (by omega) (by omega))⟩
theorem lex_anti {γ δ : Nat → Int32} : ∀ r k, LEx γ δ k r → LEx δ γ k r → ∀ i, k ≤ i → i < k + r → γ i = δ i := by
  intro r
  induction r with
  | zero => intro k _ _ i x y; omega
  | succ r ih =>
    intro k h h' i x y
    rcases h with h | ⟨h1, h2⟩
    · rcases h' with h' | ⟨h1', -⟩
      · omega
      · rw [h1'] at h; omega
    · rcases h' with h' | ⟨-, h2'⟩
      · rw [h1] at h'; omega
      · by_cases e : i = k
        · rw [e]; exact h1
        · exact ih (k + 1) h2 h2' i (by omega) (by omega)
theorem lex_c {γ δ γ' δ' : Nat → Int32} : ∀ r k, (∀ i, k ≤ i → i < k + r → γ i = γ' i ∧ δ i = δ' i) → LEx γ δ k r → LEx γ' δ' k r := by
  intro r
  induction r with
  | zero => intro k _ _; exact trivial
  | succ r ih =>
    intro k h q
    obtain ⟨a, b⟩ := h k (by omega) (by omega)
    rcases q with q | ⟨q1, q2⟩
    · exact Or.inl (by rw [← a, ← b]; exact q)
    · exact Or.inr ⟨by rw [← a, ← b]; exact q1, ih (k + 1) (fun i x y => h i (by omega) (by omega)) q2⟩
theorem lex_lt {γ δ : Nat → Int32} {n k : Nat} (hk : k < n) (h : (γ k).toInt < (δ k).toInt) : LEx γ δ k (n - k) := by
  rw [show n - k = (n - (k + 1)) + 1 by omega]
  exact Or.inl h
theorem lex_up {γ δ : Nat → Int32} {n k : Nat} (hk : k < n) (h : γ k = δ k) (h1 : LEx γ δ (k + 1) (n - (k + 1))) : LEx γ δ k (n - k) := by
  rw [show n - k = (n - (k + 1)) + 1 by omega]
  exact Or.inr ⟨h, h1⟩
/-- the best row there is -/
def BT (n : Nat) (O : (Nat → Int32) → Prop) (s : Int32) (own : Nat → Int32) (F : Int) (B : Nat → Int32) : Prop := RWg n s own B ∧ O B ∧ SU s B n = F ∧ ∀ δ, RWg n s own δ → O δ → F < SU s δ n ∨ (F = SU s δ n ∧ LEx B δ 0 n)
theorem bt_u {n : Nat} {O : (Nat → Int32) → Prop} {s : Int32} {own : Nat → Int32} {F F' : Int} {B B' : Nat → Int32} (h : BT n O s own F B) (h' : BT n O s own F' B') : F = F' ∧ ∀ i, i < n → B i = B' i := by
  obtain ⟨a1, a2, a3, a4⟩ := h
  obtain ⟨b1, b2, b3, b4⟩ := h'
  rcases a4 B' b1 b2 with x | ⟨x1, x2⟩
  · rcases b4 B a1 a2 with y | ⟨y1, -⟩
    · omega
    · omega
  · rcases b4 B a1 a2 with y | ⟨y1, y2⟩
    · omega
    · exact ⟨by omega, fun i hi => lex_anti n 0 x2 y2 i (by omega) (by omega)⟩
/-- what a search among E makes of the best so far -/
def RSk (n : Nat) (O : (Nat → Int32) → Prop) (s : Int32) (k : Nat) (E : (Nat → Int32) → Prop) (F0 : Int32) (B0 : Nat → Int32) (F1 : Int32) (B1 : Nat → Int32) : Prop :=
  (F1 = F0 ∧ B1 = B0 ∧ ∀ δ, E δ → O δ → F0.toInt ≤ SU s δ n) ∨ (F1.toInt < F0.toInt ∧ E B1 ∧ O B1 ∧ SU s B1 n = F1.toInt ∧ ∀ δ, E δ → O δ → F1.toInt < SU s δ n ∨ (F1.toInt = SU s δ n ∧ LEx B1 δ k (n - k)))
theorem RSk.le {n : Nat} {O : (Nat → Int32) → Prop} {s : Int32} {k : Nat} {E : (Nat → Int32) → Prop} {F0 F1 : Int32} {B0 B1 : Nat → Int32} (h : RSk n O s k E F0 B0 F1 B1) : F1.toInt ≤ F0.toInt ∧ ∀ δ, E δ → O δ → F1.toInt ≤ SU s δ n := by
  rcases h with ⟨f, -, u⟩ | ⟨f, -, -, -, u⟩
  · rw [f]; exact ⟨Int.le_refl _, u⟩
  · refine ⟨by omega, fun δ a b => ?_⟩
    rcases u δ a b with w | w
    · omega
    · omega
theorem RSk.join {n : Nat} {O : (Nat → Int32) → Prop} {s : Int32} {k : Nat} {E1 E2 E : (Nat → Int32) → Prop} {F0 F1 F2 : Int32} {B0 B1 B2 : Nat → Int32} (hk : k < n) (h1 : RSk n O s k E1 F0 B0 F1 B1) (h2 : RSk n O s k E2 F1 B1 F2 B2) (lt : ∀ B δ, E1 B → E2 δ → (B k).toInt < (δ k).toInt) (i1 : ∀ δ, E1 δ → E δ) (i2 : ∀ δ, E2 δ → E δ) (iE : ∀ δ, E δ → E1 δ ∨ E2 δ) : RSk n O s k E F0 B0 F2 B2 := by
  have l1 := h1.le
  have l2 := h2.le
  rcases h2 with ⟨f2, b2, u2⟩ | ⟨f2, e2, o2, s2, u2⟩
  · rw [f2, b2]
    rcases h1 with ⟨f1, b1, u1⟩ | ⟨f1, e1, o1, s1, u1⟩
    · refine Or.inl ⟨f1, b1, fun δ hδ hO => ?_⟩
      rcases iE δ hδ with q | q
      · exact u1 δ q hO
      · have := u2 δ q hO
        rw [f1] at this; exact this
    · refine Or.inr ⟨f1, i1 _ e1, o1, s1, fun δ hδ hO => ?_⟩
      rcases iE δ hδ with q | q
      · exact u1 δ q hO
      · have a := u2 δ q hO
        by_cases c : F1.toInt < SU s δ n
        · exact Or.inl c
        · exact Or.inr ⟨by omega, lex_lt hk (lt _ _ e1 q)⟩
  · refine Or.inr ⟨by have := l1.1; omega, i2 _ e2, o2, s2, fun δ hδ hO => ?_⟩
    rcases iE δ hδ with q | q
    · have := l1.2 δ q hO
      exact Or.inl (by omega)
    · exact u2 δ q hO
theorem RSk.up {n : Nat} {O : (Nat → Int32) → Prop} {s : Int32} {k : Nat} {E : (Nat → Int32) → Prop} {F0 F1 : Int32} {B0 B1 : Nat → Int32} (hk : k < n) (h : RSk n O s (k + 1) E F0 B0 F1 B1) (he : ∀ B δ, E B → E δ → B k = δ k) : RSk n O s k E F0 B0 F1 B1 := by
  rcases h with h | ⟨f1, e1, o1, s1, u1⟩
  · exact Or.inl h
  · refine Or.inr ⟨f1, e1, o1, s1, fun δ hδ hO => ?_⟩
    rcases u1 δ hδ hO with w | ⟨w1, w2⟩
    · exact Or.inl w
    · exact Or.inr ⟨w1, lex_up hk (he _ _ e1 hδ) w2⟩
theorem RSk.more {n : Nat} {O : (Nat → Int32) → Prop} {s : Int32} {k : Nat} {E E' : (Nat → Int32) → Prop} {F0 F1 : Int32} {B0 B1 : Nat → Int32} (h : RSk n O s k E F0 B0 F1 B1) (hE : ∀ δ, E δ → E' δ) (hn : ∀ δ, E' δ → O δ → E δ ∨ ∃ δ', E δ' ∧ O δ' ∧ SU s δ' n < SU s δ n) : RSk n O s k E' F0 B0 F1 B1 := by
  have l := h.le
  rcases h with ⟨f, b, u⟩ | ⟨f, e, o, su, u⟩
  · refine Or.inl ⟨f, b, fun δ hδ hO => ?_⟩
    rcases hn δ hδ hO with q | ⟨δ', q1, q2, q3⟩
    · exact u δ q hO
    · have := u δ' q1 q2
      omega
  · refine Or.inr ⟨f, hE _ e, o, su, fun δ hδ hO => ?_⟩
    rcases hn δ hδ hO with q | ⟨δ', q1, q2, q3⟩
    · exact u δ q hO
    · have := l.2 δ' q1 q2
      exact Or.inl (by omega)
end
