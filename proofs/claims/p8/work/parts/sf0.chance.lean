/-! ===== chance and mean: the class ===== -/
/-- who is unsure, as the class holds it -/
def UX (d : gT) (i : Nat) (g : gT) (L : lT) : Prop := (g 11 2).toInt = ((us d i).length : Int) ∧ (∀ (k x : Nat), (us d i)[k]? = some x → g 52 k = Int32.ofInt (x : Int)) ∧ (∀ o, o < 12 → (tbi (g 11 3) o = true ↔ (o < i ∧ d 7 o = 0))) ∧ (L 11 6).toInt = ((10 ^ (us d i).length : Nat) : Int)
theorem UX.c {d : gT} {i : Nat} {g g' : gT} {L L' : lT} (h : UX d i g L) (e1 : g' 11 = g 11) (e2 : g' 52 = g 52) (e3 : L' 11 6 = L 11 6) : UX d i g' L' := by
  unfold UX
  rw [e1, e2, e3]; exact h
theorem ap_n {l : List Nat} {p q w : Nat} (h : (l ++ [p])[w]? = some q) : (w < l.length ∧ l[w]? = some q) ∨ (w = l.length ∧ q = p) := by
  rw [List.getElem?_append] at h
  by_cases c : w < l.length
  · rw [if_pos c] at h; exact Or.inl ⟨c, h⟩
  · rw [if_neg c] at h
    cases hk : w - l.length with
    | zero =>
      rw [hk] at h
      have h : some p = some q := h
      cases h
      exact Or.inr ⟨by omega, rfl⟩
    | succ k =>
      rw [hk] at h
      exact nomatch h
theorem unsure_x {cs : Nat → List Int} {n l fu : Nat} {p1 : Int32} {g d : gT} {L : lT} (h : DC cs n g d) (h7 : ∀ i, i < n → g (57 + i) 12 = d 7 i) (hb : ∀ i, i < n → 0 ≤ (d 7 i).toInt ∧ (d 7 i).toInt ≤ 10) (hl : p1.toInt = (l : Int)) (ln : l < n) : Pc (fX0_findUnsure_11 fu p1 g L) (fun _ g1 L1 => (∀ k, k ≠ 11 → k ≠ 52 → g1 k = g k) ∧ UX d (l + 1) g1 L1) := by
  have n12 := h.1.2
  unfold fX0_findUnsure_11
  refine pc_st (fun g1 e1 => pc_st (fun g2 e2 => pc_stle (fun L3 e3 => ?_)))
  have k2 : ∀ k, k ≠ 11 → g2 k = g k := fun k hk => by rw [e2, e1]; exact funext fun _ => by rw [upd2_nk hk, upd2_nk hk]
  unfold fX0_findUnsure_11_l17
  refine pc_loop (fun v => ∃ i : Nat, v.1.toInt = (i : Int) ∧ i ≤ l + 1 ∧ (∀ k, k ≠ 11 → k ≠ 52 → v.2.1 k = g k) ∧ UX d i v.2.1 v.2.2) (fun k17 hk v hv => ?_) ⟨0, rfl, by omega, fun k a _ => k2 k a, ?_, (fun k x hx => nomatch hx), fun o ho => ?_, ?_⟩
  rotate_left
  · show (g2 11 2).toInt = ((0 : Nat) : Int)
    rw [e2, upd2_nj (by decide), e1, upd2_at]; rfl
  · show tbi (g2 11 3) o = true ↔ _
    rw [e2, upd2_at, tb_0]
    exact ⟨fun q => absurd q (by decide), fun q => absurd q.1 (Nat.not_lt_zero _)⟩
  · show (L3 11 6).toInt = ((10 ^ 0 : Nat) : Int)
    rw [e3, updL_at]; rfl
  obtain ⟨v2, g', L'⟩ := v
  obtain ⟨i, hi, il, ek, hu⟩ := hv
  replace hi : v2.toInt = (i : Int) := hi
  replace ek : ∀ k, k ≠ 11 → k ≠ 52 → g' k = g k := ek
  replace hu : UX d i g' L' := hu
  obtain ⟨u1, u2, u3, u4⟩ := hu
  show Pc (fX0_findUnsure_11_s17 fu p1 k17 v2 g' L') _
  unfold fX0_findUnsure_11_s17 fX0_findUnsure_11_p104
  refine pc_ite (fun c => pc_some ⟨ek, ?_⟩) (fun c => ?_)
  · have c := icc_lt hl hi c
    rw [show l + 1 = i by omega]
    exact ⟨u1, u2, u3, u4⟩
  have c := icc_nlt hl hi c
  have i' : i < n := by omega
  have ew : (v2 + 1).toInt = ((i + 1 : Nat) : Int) := by rw [ic_addc hi (n := 1) rfl (by omega) (by omega)]; omega
  have ei : v2.toNatClampNeg = i := by rw [nc, hi]; omega
  have vi : v2 = Int32.ofInt (i : Int) := by rw [← hi]; exact io_i.symm
  have len := us_len (d := d) i
  have b := hb i i'
  rw [ei, show i % 12 = i by omega]
  refine pc_ck (fun _ _ => pc_ltn (fun q eq => ?_))
  subst eq
  refine pc_lti (fun x6 e6 => ?_)
  have d6 : x6 = d 7 i := by rw [e6, ek (57 + i) (by omega) (by omega)]; exact h7 i i'
  have same : ¬ d 7 i = 0 → ∀ o, o < 12 → (tbi (g' 11 3) o = true ↔ (o < i + 1 ∧ d 7 o = 0)) := fun hne o ho =>
    (u3 o ho).trans ⟨fun w => ⟨by omega, w.2⟩, fun w => ⟨by
      by_cases q : o = i
      · rw [q] at w; exact absurd w.2 hne
      · omega, w.2⟩⟩
  refine pc_ite (fun c1 => pc_st (fun g13 e13 => hk _ ⟨i + 1, ew, by omega, fun k a b => ?_, ?_⟩)) (fun c1 => pc_ite (fun c2 => hk _ ⟨i + 1, ew, by omega, ek, ?_⟩) (fun c2 => pc_ite (fun c3 => hk _ ⟨i + 1, ew, by omega, ek, ?_⟩) (fun c3 => ?_)))
  · show g13 k = g k
    rw [e13, ← ek k a b]; exact funext fun _ => upd2_nk a
  · show UX d (i + 1) g13 L'
    have z : d 7 i = 0 := by rw [← d6]; exact c1
    have z0 : (d 7 i).toInt = 0 := by rw [z]; rfl
    unfold UX
    rw [us_f (fun q => by omega)]
    refine ⟨by rw [e13, upd2_nj (by decide)]; exact u1, fun k x hx => by rw [e13, upd2_nk (by decide)]; exact u2 k x hx, fun o ho => ?_, u4⟩
    rw [e13, upd2_at, tb_or, vi, tb_s i (by omega) o ho]
    by_cases q : i = o
    · rw [decide_eq_true q, Bool.or_true]
      exact ⟨fun _ => ⟨by omega, by rw [← q]; exact z⟩, fun _ => rfl⟩
    · rw [decide_eq_false q, Bool.or_false]
      exact (u3 o ho).trans ⟨fun w => ⟨by omega, w.2⟩, fun w => ⟨by omega, w.2⟩⟩
  · show UX d (i + 1) g' L'
    have c2 := icc_le (m := 10) (n := x6.toInt) rfl rfl c2
    rw [d6] at c2
    unfold UX
    rw [us_f (fun q => by omega)]
    exact ⟨u1, u2, same (fun q => by rw [q] at c2; exact absurd c2 (by decide)), u4⟩
  · show UX d (i + 1) g' L'
    have c3 := icc_le (m := 8) rfl u1 c3
    unfold UX
    rw [us_f (fun q => by omega)]
    exact ⟨u1, u2, same (fun q => c1 (by rw [d6]; exact q)), u4⟩
  · have c2 := icc_nle (m := 10) (n := x6.toInt) rfl rfl c2
    have c3 := icc_nle (m := 8) rfl u1 c3
    rw [d6] at c2
    have nz : ¬ d 7 i = 0 := fun q => c1 (by rw [d6]; exact q)
    have nz' : ¬ (d 7 i).toInt = 0 := fun q => nz (ic_eq.mpr q)
    have eM : (g' 11 2).toNatClampNeg = (us d i).length := by rw [nc, u1]; omega
    rw [eM]
    refine pc_ck (fun _ _ => pc_st (fun g10 e10 => pc_st (fun g11 e11 => pc_stle (fun L12 e12 => hk _ ⟨i + 1, ew, by omega, fun k a b => ?_, ?_⟩))))
    · show g11 k = g k
      rw [e11, ← ek k a b, e10]; exact funext fun _ => by rw [upd2_nk a, upd2_nk b]
    · show UX d (i + 1) g11 L12
      have a10 : g10 11 2 = g' 11 2 := by rw [e10, upd2_nk (by decide)]
      have pl := p10 (us d i).length (by omega)
      unfold UX
      rw [us_t ⟨⟨by omega, by omega⟩, by omega⟩, List.length_append]
      refine ⟨?_, fun k x hx => ?_, fun o ho => ?_, ?_⟩
      · show _ = (((us d i).length + 1 : Nat) : Int)
        rw [e11, upd2_at, a10, ic_addc u1 (n := 1) rfl (by omega) (by omega)]; omega
      · rw [e11, upd2_nk (by decide), e10]
        rcases ap_n hx with ⟨q, hq⟩ | ⟨q, hq⟩
        · rw [upd2_nj (by omega)]; exact u2 k x hq
        · rw [q, upd2_at, hq]; exact vi
      · rw [e11, upd2_nj (by decide), e10, upd2_nk (by decide)]
        exact same nz o ho
      · show _ = ((10 ^ ((us d i).length + 1) : Nat) : Int)
        rw [e12, updL_at, lg_mulc u4 (n := 10) rfl (by omega) (by omega), Nat.pow_succ]
        omega
theorem runWith_x {cs : Nat → List Int} {n l x fu : Nat} {p1 p2 : Int32} {g d : gT} {L : lT} (h : DC cs n g d) (h88 : g 8 8 = -1) (hu : UX d (l + 1) g L) (hl : p2.toInt = (l : Int)) (ln : l < n) (hx : p1 = Int32.ofInt (x : Int)) (x257 : x < 257) : Pc (fX0_runWith_11 fu p1 p2 g L) (fun _ g1 L1 => L1 = L ∧ (∀ k, k ≠ 21 → (k < 43 ∨ 48 < k) → g1 k = g k) ∧ LT cs d l (RS d (un d (l + 1)) (us d (l + 1)).length x) (g1 44 l - d 2 l)) := by
  have n12 := h.1.2
  obtain ⟨u1, u2, u3, -⟩ := hu
  have len := us_len (d := d) (l + 1)
  unfold fX0_runWith_11
  refine pc_lti (fun x1 e1 => ?_)
  unfold fX0_runWith_11_l10
  refine pc_loop (fun v => ∃ k : Nat, v.2.1.toInt = (k : Int) ∧ k ≤ (us d (l + 1)).length ∧ v.2.2.1 = g ∧ v.2.2.2 = L ∧ ∀ o, o < l + 1 → (tbi v.1 o = true ↔ (¬ d 7 o = 0 ∧ ∀ k', k' < k → un d (l + 1) k' = o → x.testBit k' = true))) (fun k10 hk v hv => ?_) ⟨0, rfl, by omega, rfl, rfl, fun o ho => ?_⟩
  rotate_left
  · show tbi x1 o = true ↔ _
    have a := u3 o (by omega)
    rw [e1, tb_n1x (by omega)]
    by_cases q : tbi (g 11 3) o = true
    · have b := a.mp q
      rw [q]
      exact ⟨fun w => absurd w (by decide), fun w => absurd b.2 w.1⟩
    · rw [Bool.not_eq_true] at q
      rw [q]
      refine ⟨fun _ => ⟨fun w => ?_, fun k' hk' => absurd hk' (Nat.not_lt_zero _)⟩, fun _ => rfl⟩
      have := a.mpr ⟨ho, w⟩
      rw [q] at this; exact absurd this (by decide)
  obtain ⟨v3, v4, g', L'⟩ := v
  obtain ⟨k, hkk, kl, eg, eL, hb⟩ := hv
  replace hkk : v4.toInt = (k : Int) := hkk
  replace eg : g' = g := eg
  replace eL : L' = L := eL
  replace hb : ∀ o, o < l + 1 → (tbi v3 o = true ↔ (¬ d 7 o = 0 ∧ ∀ k', k' < k → un d (l + 1) k' = o → x.testBit k' = true)) := hb
  subst eg
  subst eL
  show Pc (fX0_runWith_11_s10 fu p1 p2 k10 v3 v4 g' L') _
  unfold fX0_runWith_11_s10 fX0_runWith_11_p42
  refine pc_ite (fun c => pc_st (fun g3 e3 => ?_)) (fun c => ?_)
  · have c := icc_le u1 hkk c
    rw [show k = (us d (l + 1)).length by omega] at hb
    have mk : ∀ i, i < l + 1 → (stb (v3 ^^^ -1) i = 1 ↔ ¬ RS d (un d (l + 1)) (us d (l + 1)).length x i) := fun i hi => by
      rw [stb_1i (by omega), tb_n1x (by omega)]
      have a := hb i hi
      unfold RS
      rw [← a]
      cases tbi v3 i <;> decide
    have hD : DC cs n g3 (rn0 d (v3 ^^^ -1)) := by
      rw [e3]
      exact h.run (fun i hi => by
        rw [stb_0i (by omega), stb_1i (by omega), tb_n1x (by omega)]
        cases tbi v3 i <;> decide)
    have k3 : ∀ k, k ≠ 8 → g3 k = g' k := fun k hk => by rw [e3]; exact funext fun _ => upd2_nk hk
    unfold fX0_runWith_11_l59
    refine pc_loop (fun v => ∃ i : Nat, v.1.toInt = (i : Int) ∧ i ≤ l + 1 ∧ RF cs (rn0 d (v3 ^^^ -1)) 0 i g3 v.2.1 ∧ v.2.2 = L') (fun k59 hk2 v hv => ?_) ⟨0, rfl, by omega, ⟨fun i _ hi => absurd hi (Nat.not_lt_zero _), fun _ _ => ⟨rfl, rfl, rfl, rfl⟩, fun _ _ _ => rfl⟩, rfl⟩
    obtain ⟨w4, g4, L4⟩ := v
    obtain ⟨i, hi, il, hR, eL⟩ := hv
    replace hi : w4.toInt = (i : Int) := hi
    replace hR : RF cs (rn0 d (v3 ^^^ -1)) 0 i g3 g4 := hR
    replace eL : L4 = L' := eL
    subst eL
    show Pc (fX0_runWith_11_s59 fu p2 k59 w4 g4 L4) _
    unfold fX0_runWith_11_s59
    refine pc_ite (fun c1 => pc_st (fun g5 e5 => pc_some ⟨rfl, fun k a b => ?_, ?_⟩)) (fun c1 => ?_)
    · by_cases k8 : k = 8
      · subst k8
        funext j
        by_cases j8 : j = 8
        · rw [j8, e5, upd2_at, h88]
        · rw [e5, upd2_nj j8, hR.2.2 8 (by decide) (by omega), e3, upd2_nj j8]
      · rw [e5, ← k3 k k8, ← hR.2.2 k a b]
        exact funext fun _ => upd2_nk k8
    · have c1 := icc_lt hl hi c1
      rw [show i = l + 1 by omega] at hR
      have q44 : g5 44 = g4 44 := by rw [e5]; exact funext fun _ => upd2_nk (by decide)
      rw [q44]
      exact ⟨_, _, _, _, _, _, mk, fun i hi => hR.1 i (Nat.zero_le _) hi, rfl, rfl⟩
    · have c1 := icc_nlt hl hi c1
      refine pc_cb (pc_and (rf_s hD hi (by omega) (Nat.zero_le _) hR) pl_ro) (fun _ g7 L8 e7 => hk2 _ ⟨i + 1, ?_, by omega, e7.1, e7.2⟩)
      show (w4 + 1).toInt = _
      rw [ic_addc hi (n := 1) rfl (by omega) (by omega)]; omega
  · have c := icc_nle u1 hkk c
    have ew : (v4 + 1).toInt = ((k + 1 : Nat) : Int) := by rw [ic_addc hkk (n := 1) rfl (by omega) (by omega)]; omega
    have ek : v4.toNatClampNeg = k := by rw [nc, hkk]; omega
    have vk : v4 = Int32.ofInt (k : Int) := by rw [← hkk]; exact io_i.symm
    have gk : g' 52 k = Int32.ofInt ((un d (l + 1) k : Nat) : Int) := u2 k _ (by rw [un_e (List.getElem?_eq_getElem (show k < (us d (l + 1)).length by omega))]; exact List.getElem?_eq_getElem (by omega))
    have ul := us_lt (l + 1) _ (un_m (d := d) (n := l + 1) (k := k) (by omega))
    have bit : (p1 >>> (v4 &&& 31)) &&& 1 = 0 ↔ x.testBit k = false := by
      rw [vk]
      show stb p1 k = 0 ↔ _
      rw [stb_0i (by omega), hx, tb_x x x257 k (by omega)]
    refine pc_ite (fun c1 => pc_ck (fun _ _ => pc_lti (fun x11 e11 => hk _ ⟨k + 1, ew, by omega, rfl, rfl, fun o ho => ?_⟩))) (fun c1 => hk _ ⟨k + 1, ew, by omega, rfl, rfl, fun o ho => ?_⟩)
    · show tbi x11 o = true ↔ _
      rw [e11, ek, gk, tb_and, tb_n1x (by omega), tb_s _ (by omega) o (by omega)]
      have a := hb o ho
      have c1 := bit.mp c1
      by_cases q : un d (l + 1) k = o
      · rw [decide_eq_true q, Bool.not_true, Bool.and_false]
        refine ⟨fun w => absurd w (by decide), fun w => ?_⟩
        have := w.2 k (by omega) q
        rw [c1] at this; exact absurd this (by decide)
      · rw [decide_eq_false q, Bool.not_false, Bool.and_true]
        refine a.trans ⟨fun w => ⟨w.1, fun k' hk' e => ?_⟩, fun w => ⟨w.1, fun k' hk' e => w.2 k' (by omega) e⟩⟩
        by_cases q' : k' = k
        · rw [q'] at e; exact absurd e q
        · exact w.2 k' (by omega) e
    · show tbi v3 o = true ↔ _
      have c1 : x.testBit k = true := by
        cases hb2 : x.testBit k with
        | false => exact absurd (bit.mpr hb2) c1
        | true => rfl
      refine (hb o ho).trans ⟨fun w => ⟨w.1, fun k' hk' e => ?_⟩, fun w => ⟨w.1, fun k' hk' e => w.2 k' (by omega) e⟩⟩
      by_cases q' : k' = k
      · rw [q']; exact c1
      · exact w.2 k' (by omega) e
theorem weight_x {cs : Nat → List Int} {n l x fu : Nat} {p1 : Int32} {g d : gT} {L : lT} (h : DC cs n g d) (h7 : ∀ i, i < n → g (57 + i) 12 = d 7 i) (hu : UX d (l + 1) g L) (ln : l < n) (hx : p1 = Int32.ofInt (x : Int)) (x257 : x < 257) : Pc (fX0_weight_11 fu p1 g L) (fun y g1 L1 => g1 = g ∧ L1 = L ∧ y.toInt = wt (fun k => (d 7 (un d (l + 1) k)).toInt) (us d (l + 1)).length x) := by
  have n12 := h.1.2
  obtain ⟨u1, u2, u3, -⟩ := hu
  have len := us_len (d := d) (l + 1)
  have pb : ∀ k, k < (us d (l + 1)).length → 1 ≤ (d 7 (un d (l + 1) k)).toInt ∧ (d 7 (un d (l + 1) k)).toInt ≤ 9 := fun k hk => (us_lt (l + 1) _ (un_m hk)).2
  unfold fX0_weight_11 fX0_weight_11_l5
  refine pc_loop (fun v => ∃ k : Nat, v.2.1.toInt = (k : Int) ∧ k ≤ (us d (l + 1)).length ∧ v.2.2.1 = g ∧ v.2.2.2 = L ∧ v.1.toInt = wt (fun k => (d 7 (un d (l + 1) k)).toInt) k x) (fun k5 hk v hv => ?_) ⟨0, rfl, by omega, rfl, rfl, rfl⟩
  obtain ⟨v2, v4, g', L'⟩ := v
  obtain ⟨k, hkk, kl, eg, eL, hw⟩ := hv
  replace hkk : v4.toInt = (k : Int) := hkk
  replace eg : g' = g := eg
  replace eL : L' = L := eL
  replace hw : v2.toInt = wt (fun k => (d 7 (un d (l + 1) k)).toInt) k x := hw
  subst eg
  subst eL
  show Pc (fX0_weight_11_s5 fu p1 k5 v2 v4 g' L') _
  unfold fX0_weight_11_s5 fX0_weight_11_p59
  refine pc_ite (fun c => pc_some ⟨rfl, rfl, ?_⟩) (fun c => ?_)
  · have c := icc_le u1 hkk c
    rw [hw, show k = (us d (l + 1)).length by omega]
  have c := icc_nle u1 hkk c
  have k' : k < (us d (l + 1)).length := by omega
  have ew : (v4 + 1).toInt = ((k + 1 : Nat) : Int) := by rw [ic_addc hkk (n := 1) rfl (by omega) (by omega)]; omega
  have ek : v4.toNatClampNeg = k := by rw [nc, hkk]; omega
  have vk : v4 = Int32.ofInt (k : Int) := by rw [← hkk]; exact io_i.symm
  have gk : g' 52 k = Int32.ofInt ((un d (l + 1) k : Nat) : Int) := u2 k _ (by rw [un_e (List.getElem?_eq_getElem k')]; exact List.getElem?_eq_getElem k')
  have ul := us_lt (l + 1) _ (un_m (d := d) (n := l + 1) (k := k) k')
  have gi : (Int32.ofInt ((un d (l + 1) k : Nat) : Int)).toInt = ((un d (l + 1) k : Nat) : Int) := Int32.toInt_ofInt_of_le (by omega) (by omega)
  have gn : (Int32.ofInt ((un d (l + 1) k : Nat) : Int)).toNatClampNeg = un d (l + 1) k := by rw [nc, gi]; omega
  have bit : (p1 >>> (v4 &&& 31)) &&& 1 = 0 ↔ x.testBit k = false := by
    rw [vk]
    show stb p1 k = 0 ↔ _
    rw [stb_0i (by omega), hx, tb_x x x257 k (by omega)]
  have wb := wt_b (p := fun k => (d 7 (un d (l + 1) k)).toInt) (x := x) (k + 1) (by omega) (fun k hk => pb k (by omega))
  have pl := p10 (k + 1) (by omega)
  rw [p10i] at wb
  rw [ek, gk, gn, show un d (l + 1) k % 12 = un d (l + 1) k by omega]
  refine pc_ck (fun _ _ => pc_ck (fun _ _ => pc_ltn (fun q eq => ?_)))
  subst eq
  refine pc_lti (fun x3 e3 => ?_)
  rw [h7 _ (by omega)] at e3
  have fin : ∀ (t : Int64), t.toInt = (if x.testBit k = true then (d 7 (un d (l + 1) k)).toInt else 10 - (d 7 (un d (l + 1) k)).toInt) → Pc (ltl (v2 * t) (fun y4 => k5 (y4, (v4 + 1), g', L'))) (fun y g1 L1 => g1 = g' ∧ L1 = L' ∧ y.toInt = wt (fun k => (d 7 (un d (l + 1) k)).toInt) (us d (l + 1)).length x) := fun t ht => pc_ltl (fun y4 e4 => hk _ ⟨k + 1, ew, by omega, rfl, rfl, by
    show y4.toInt = wt (fun k => (d 7 (un d (l + 1) k)).toInt) k x * (if x.testBit k = true then (d 7 (un d (l + 1) k)).toInt else 10 - (d 7 (un d (l + 1) k)).toInt)
    have wb' : 0 ≤ wt (fun k => (d 7 (un d (l + 1) k)).toInt) k x * (if x.testBit k = true then (d 7 (un d (l + 1) k)).toInt else 10 - (d 7 (un d (l + 1) k)).toInt) ∧ wt (fun k => (d 7 (un d (l + 1) k)).toInt) k x * (if x.testBit k = true then (d 7 (un d (l + 1) k)).toInt else 10 - (d 7 (un d (l + 1) k)).toInt) ≤ ((10 ^ (k + 1) : Nat) : Int) := wb
    rw [e4, lg_mulc hw ht (by omega) (by omega)]⟩)
  have pk := pb k k'
  refine pc_ite (fun c1 => fin _ ?_) (fun c1 => fin _ ?_)
  · rw [bit.mp c1, if_neg (by decide), Int32.toInt_toInt64, e3, ic_subc (m := 10) rfl rfl (by omega) (by omega)]
  · have c1 : x.testBit k = true := by
      cases hb2 : x.testBit k with
      | false => exact absurd (bit.mpr hb2) c1
      | true => rfl
    rw [if_pos c1, Int32.toInt_toInt64, e3]
/-! bounds -/
theorem nb_rn {n l : Nat} {d : gT} {m : Int32} (h : NB n d) (ln : l < n) : NB (l + 1) (rn0 d m) := by
  unfold NB
  rw [rn0_k (k := 1) (by decide), rn0_k (k := 2) (by decide), rn0_k (k := 3) (by decide), rn0_k (k := 4) (by decide), rn0_k (k := 7) (by decide), rn0_k (k := 12) (by decide), rn0_j (j := 3) (by decide), rn0_j (j := 4) (by decide)]
  exact ⟨fun i hi => h.1 i (by omega), h.2⟩
theorem td_b {cs : Nat → List Int} {n l : Nat} {d : gT} {R : Nat → Prop} {t : Int32} (hN : NB n d) (ln : l < n) (h : LT cs d l R t) : 0 ≤ t.toInt ∧ t.toInt ≤ 1478 := by
  obtain ⟨v, m, bg, en, ru, by_, h1, h2, -, ht⟩ := h
  have b := (dy_b (nb_rn hN ln) h2 l (Nat.lt_succ_self l)).2
  rw [rn0_k (by decide)] at b
  have f := (hN.1 l ln).1.1
  rw [ht, ic_sub (by omega) (by omega)]
  omega
theorem lf_b {cs : Nat → List Int} {n l : Nat} {d : gT} {R : Nat → Prop} (hN : NB n d) (hW : WF (l + 1) d) (ln : l < n) : 0 ≤ (lf (LT cs d l R)).toInt ∧ (lf (LT cs d l R)).toInt ≤ 1478 := by
  by_cases e : ∃ t, LT cs d l R t
  · obtain ⟨t, ht⟩ := e
    rw [lf_e (LT.u hW) ht]; exact td_b hN ln ht
  · have q : lf (LT cs d l R) = 0 := @dif_neg (∃ t, LT cs d l R t) (Classical.propDecidable _) e Int32 _ _
    rw [q]; exact ⟨by decide, by decide⟩
/-- a number of minutes is counted by something small -/
def FF (F : Int32 → Int) : Prop := ∀ t : Int32, 0 ≤ t.toInt → t.toInt ≤ 1478 → 0 ≤ F t ∧ F t ≤ 1478
theorem sq_b {cs : Nat → List Int} {n l m X : Nat} {d : gT} {u : Nat → Nat} {F : Int32 → Int} (hN : NB n d) (hW : WF (l + 1) d) (ln : l < n) (hF : FF F) (m8 : m ≤ 8) (hu : ∀ k, k < m → 1 ≤ (d 7 (u k)).toInt ∧ (d 7 (u k)).toInt ≤ 9) (hX : X ≤ 256) : (0 ≤ sF (fun x => wt (fun k => (d 7 (u k)).toInt) m x * fQ cs d l u F m x) X ∧ sF (fun x => wt (fun k => (d 7 (u k)).toInt) m x * fQ cs d l u F m x) X ≤ 37836800000000) ∧ ∀ x, 0 ≤ wt (fun k => (d 7 (u k)).toInt) m x * fQ cs d l u F m x ∧ wt (fun k => (d 7 (u k)).toInt) m x * fQ cs d l u F m x ≤ 147800000000 := by
  have each : ∀ x, 0 ≤ wt (fun k => (d 7 (u k)).toInt) m x * fQ cs d l u F m x ∧ wt (fun k => (d 7 (u k)).toInt) m x * fQ cs d l u F m x ≤ 147800000000 := fun x => by
    have a := wt_b (p := fun k => (d 7 (u k)).toInt) (x := x) m m8 hu
    have pl := p10 m m8
    rw [p10i] at a
    have b := lf_b (cs := cs) (R := RS d u m x) hN hW ln
    have c := hF _ b.1 b.2
    refine ⟨Int.mul_nonneg a.1 c.1, ?_⟩
    have e : wt (fun k => (d 7 (u k)).toInt) m x * fQ cs d l u F m x ≤ 100000000 * 1478 := Int.mul_le_mul (by omega) c.2 c.1 (by omega)
    omega
  refine ⟨?_, each⟩
  have a := sF_b (h := fun x => wt (fun k => (d 7 (u k)).toInt) m x * fQ cs d l u F m x) (B := 147800000000) X (fun x _ => each x)
  omega
/-- what holds while the class adds up -/
def CX (cs : Nat → List Int) (n l : Nat) (d g2 : gT) (F : Int32 → Int) (x : Nat) (g' : gT) (L2 L' : lT) : Prop := (∀ k, k ≠ 21 → (k < 43 ∨ 48 < k) → g' k = g2 k) ∧ L' 11 6 = L2 11 6 ∧ (L' 11 5).toInt = sF (fun x => wt (fun k => (d 7 (un d (l + 1) k)).toInt) (us d (l + 1)).length x * fQ cs d l (un d (l + 1)) F (us d (l + 1)).length x) x
/-- what the class answers: reduced -/
def RXm (cs : Nat → List Int) (d : gT) (l : Nat) (F : Int32 → Int) (L1 : lT) : Prop := ∃ up : Nat, (up : Int) = SQm cs d l (un d (l + 1)) F (us d (l + 1)).length ∧ (L1 11 5).toInt = ((up / Nat.gcd (10 ^ (us d (l + 1)).length) up : Nat) : Int) ∧ (L1 11 6).toInt = ((10 ^ (us d (l + 1)).length / Nat.gcd (10 ^ (us d (l + 1)).length) up : Nat) : Int)
section CLS
variable {cs : Nat → List Int} {n l fu : Nat} {g d : gT} {L : lT}
theorem cx_end {F : Int32 → Int} {g2 g' : gT} {L2 L' : lT} (hN : NB n d) (hW : WF (l + 1) d) (ln : l < n) (hF : FF F) (hu : UX d (l + 1) g2 L2) (hc : CX cs n l d g2 F (2 ^ (us d (l + 1)).length) g' L2 L') : Pc (cb (fX0_reduce_11 fu g' L') (fun _ g8 L9 => some ((), (g8, L9)))) (fun _ _ L1 => RXm cs d l F L1) := by
  obtain ⟨-, c6, c5⟩ := hc
  have len := us_len (d := d) (l + 1)
  have b := (sq_b (cs := cs) (u := un d (l + 1)) (m := (us d (l + 1)).length) (X := 2 ^ (us d (l + 1)).length) hN hW ln hF len (fun k hk => (us_lt (l + 1) _ (un_m hk)).2) (sh_m _ len).2).1
  have e5 : (L' 11 5).toInt = (((SQm cs d l (un d (l + 1)) F (us d (l + 1)).length).toNat : Nat) : Int) := by
    rw [c5]
    show sF _ _ = _
    unfold SQm
    omega
  have e6 : (L' 11 6).toInt = ((10 ^ (us d (l + 1)).length : Nat) : Int) := by rw [c6]; exact hu.2.2.2
  refine pc_cb (reduce_x e5 e6 (by have := (p10 _ len).1; omega)) (fun _ g8 L9 q => pc_some ⟨_, ?_, q.1, q.2⟩)
  unfold SQm
  omega
theorem ofLate_x {p1 p2 : Int32} (h : DC cs n g d) (h88 : g 8 8 = -1) (h7 : ∀ i, i < n → g (57 + i) 12 = d 7 i) (hN : NB n d) (hl : p1.toInt = (l : Int)) (ln : l < n) : Pc (fX0_ofLate_11 fu p1 p2 g L) (fun _ _ L1 => RXm cs d l (fun t => if t ≤ p2 then 0 else 1) L1) := by
  have hW : WF (l + 1) d := fun i hi => h.2.2.2.1 i (by omega)
  have n12 := h.1.2
  have len := us_len (d := d) (l + 1)
  have hF : FF (fun t => if t ≤ p2 then 0 else 1) := fun t _ _ => by
    show 0 ≤ (if t ≤ p2 then (0 : Int) else 1) ∧ (if t ≤ p2 then (0 : Int) else 1) ≤ 1478
    split <;> omega
  unfold fX0_ofLate_11
  refine pc_cb (unsure_x h h7 (fun i hi => (hN.1 i hi).1.2.2.2) hl ln) (fun _ g2 L3 e2 => pc_stle (fun L5 e5 => ?_))
  obtain ⟨k2, hu⟩ := e2
  have hu : UX d (l + 1) g2 L5 := hu.c rfl rfl (by rw [e5, updL_nj (by decide)])
  have h2 : DC cs n g2 d := h.c3 (fun k a => k2 k (by omega) (by omega))
  have g88 : g2 8 8 = -1 := by rw [k2 8 (by decide) (by decide)]; exact h88
  have h72 : ∀ i, i < n → g2 (57 + i) 12 = d 7 i := fun i hi => by rw [k2 _ (by omega) (by omega)]; exact h7 i hi
  have sh := sh_m _ len
  have e11 : g2 11 2 = Int32.ofInt (((us d (l + 1)).length : Nat) : Int) := ic_eq.mpr (by rw [hu.1, Int32.toInt_ofInt_of_le (by omega) (by omega)])
  unfold fX0_ofLate_11_l12
  refine pc_loop (fun v => ∃ x : Nat, v.1.toInt = (x : Int) ∧ x ≤ 2 ^ (us d (l + 1)).length ∧ CX cs n l d g2 (fun t => if t ≤ p2 then 0 else 1) x v.2.1 L5 v.2.2) (fun k12 hk v hv => ?_) ⟨0, rfl, Nat.zero_le _, fun _ _ _ => rfl, rfl, by show (L5 11 5).toInt = 0; rw [e5, updL_at]; rfl⟩
  obtain ⟨v3, g', L'⟩ := v
  obtain ⟨x, hx, xm, hc⟩ := hv
  replace hx : v3.toInt = (x : Int) := hx
  replace hc : CX cs n l d g2 (fun t => if t ≤ p2 then 0 else 1) x g' L5 L' := hc
  have hc0 := hc
  obtain ⟨ck, c6, c5⟩ := hc
  show Pc (fX0_ofLate_11_s12 fu p1 p2 k12 v3 g' L') _
  unfold fX0_ofLate_11_s12 fX0_ofLate_11_p54
  rw [ck 11 (by decide) (by omega), e11]
  refine pc_ite (fun c => ?_) (fun c => ?_)
  · have c := icc_le sh.1 hx c
    rw [show x = 2 ^ (us d (l + 1)).length by omega] at hc0
    exact cx_end hN hW ln hF hu hc0
  have c := icc_nle sh.1 hx c
  have vx : v3 = Int32.ofInt (x : Int) := by rw [← hx]; exact io_i.symm
  have ew : (v3 + 1).toInt = ((x + 1 : Nat) : Int) := by rw [ic_addc hx (n := 1) rfl (by omega) (by omega)]; omega
  have h' : DC cs n g' d := h2.c3 (fun k a => ck k (by omega) (by omega))
  have hu' : UX d (l + 1) g' L' := hu.c (ck 11 (by decide) (by omega)) (ck 52 (by decide) (by omega)) c6
  refine pc_cb (runWith_x h' (by rw [ck 8 (by decide) (by omega)]; exact g88) hu' hl ln vx (by omega)) (fun _ g12 L13 e12 => ?_)
  obtain ⟨rfl, r2, r3⟩ := e12
  have c12 : ∀ k, k ≠ 21 → (k < 43 ∨ 48 < k) → g12 k = g2 k := fun k a b => (r2 k a b).trans (ck k a b)
  have h12 : DC cs n g12 d := h2.c3 (fun k a => c12 k (by omega) (by omega))
  refine pc_cb (pc_and (late_x h12 hl ln) pl_late) (fun x15 g16 L17 q => ?_)
  obtain ⟨⟨rfl, q⟩, rfl⟩ := q
  rw [← q] at r3
  have fq : fQ cs d l (un d (l + 1)) (fun t => if t ≤ p2 then 0 else 1) (us d (l + 1)).length x = if x15 ≤ p2 then 0 else 1 := by
    unfold fQ
    rw [lf_e (LT.u hW) r3]
  have sb := sq_b (cs := cs) (u := un d (l + 1)) (m := (us d (l + 1)).length) (X := x) hN hW ln hF len (fun k hk => (us_lt (l + 1) _ (un_m hk)).2) (by omega)
  refine pc_ite (fun c1 => hk _ ⟨x + 1, ew, by omega, c12, c6, ?_⟩) (fun c1 => ?_)
  · show (L17 11 5).toInt = sF _ x + _ * fQ cs d l (un d (l + 1)) (fun t => if t ≤ p2 then 0 else 1) (us d (l + 1)).length x
    rw [fq, if_pos c1, Int.mul_zero, Int.add_zero]; exact c5
  · have hu12 : UX d (l + 1) g16 L17 := hu.c (c12 11 (by decide) (by omega)) (c12 52 (by decide) (by omega)) c6
    refine pc_cb (weight_x h12 (fun i hi => by rw [c12 _ (by omega) (by omega)]; exact h72 i hi) hu12 ln vx (by omega)) (fun x20 g21 L22 w => ?_)
    obtain ⟨rfl, rfl, w⟩ := w
    refine pc_stle (fun L24 e24 => hk _ ⟨x + 1, ew, by omega, c12, ?_, ?_⟩)
    · show L24 11 6 = L5 11 6
      rw [e24, updL_nj (by decide)]; exact c6
    · show (L24 11 5).toInt = sF _ x + _ * fQ cs d l (un d (l + 1)) (fun t => if t ≤ p2 then 0 else 1) (us d (l + 1)).length x
      have sx := sb.2 x
      rw [fq, if_neg c1, Int.mul_one] at sx ⊢
      rw [e24, updL_at, lg_addc c5 w (by omega) (by omega)]
theorem meanLate_x {p1 : Int32} (h : DC cs n g d) (h88 : g 8 8 = -1) (h7 : ∀ i, i < n → g (57 + i) 12 = d 7 i) (hN : NB n d) (hl : p1.toInt = (l : Int)) (ln : l < n) : Pc (fX0_meanLate_11 fu p1 g L) (fun _ _ L1 => RXm cs d l (fun t => t.toInt) L1) := by
  have hW : WF (l + 1) d := fun i hi => h.2.2.2.1 i (by omega)
  have n12 := h.1.2
  have len := us_len (d := d) (l + 1)
  have hF : FF (fun t => t.toInt) := fun t a b => ⟨a, b⟩
  unfold fX0_meanLate_11
  refine pc_cb (unsure_x h h7 (fun i hi => (hN.1 i hi).1.2.2.2) hl ln) (fun _ g2 L3 e2 => pc_stle (fun L5 e5 => ?_))
  obtain ⟨k2, hu⟩ := e2
  have hu : UX d (l + 1) g2 L5 := hu.c rfl rfl (by rw [e5, updL_nj (by decide)])
  have h2 : DC cs n g2 d := h.c3 (fun k a => k2 k (by omega) (by omega))
  have g88 : g2 8 8 = -1 := by rw [k2 8 (by decide) (by decide)]; exact h88
  have h72 : ∀ i, i < n → g2 (57 + i) 12 = d 7 i := fun i hi => by rw [k2 _ (by omega) (by omega)]; exact h7 i hi
  have sh := sh_m _ len
  have e11 : g2 11 2 = Int32.ofInt (((us d (l + 1)).length : Nat) : Int) := ic_eq.mpr (by rw [hu.1, Int32.toInt_ofInt_of_le (by omega) (by omega)])
  unfold fX0_meanLate_11_l12
  refine pc_loop (fun v => ∃ x : Nat, v.1.toInt = (x : Int) ∧ x ≤ 2 ^ (us d (l + 1)).length ∧ CX cs n l d g2 (fun t => t.toInt) x v.2.1 L5 v.2.2) (fun k12 hk v hv => ?_) ⟨0, rfl, Nat.zero_le _, fun _ _ _ => rfl, rfl, by show (L5 11 5).toInt = 0; rw [e5, updL_at]; rfl⟩
  obtain ⟨v2, g', L'⟩ := v
  obtain ⟨x, hx, xm, hc⟩ := hv
  replace hx : v2.toInt = (x : Int) := hx
  replace hc : CX cs n l d g2 (fun t => t.toInt) x g' L5 L' := hc
  have hc0 := hc
  obtain ⟨ck, c6, c5⟩ := hc
  show Pc (fX0_meanLate_11_s12 fu p1 k12 v2 g' L') _
  unfold fX0_meanLate_11_s12
  rw [ck 11 (by decide) (by omega), e11]
  refine pc_ite (fun c => ?_) (fun c => ?_)
  · have c := icc_le sh.1 hx c
    rw [show x = 2 ^ (us d (l + 1)).length by omega] at hc0
    exact cx_end hN hW ln hF hu hc0
  have c := icc_nle sh.1 hx c
  have vx : v2 = Int32.ofInt (x : Int) := by rw [← hx]; exact io_i.symm
  have ew : (v2 + 1).toInt = ((x + 1 : Nat) : Int) := by rw [ic_addc hx (n := 1) rfl (by omega) (by omega)]; omega
  have h' : DC cs n g' d := h2.c3 (fun k a => ck k (by omega) (by omega))
  have hu' : UX d (l + 1) g' L' := hu.c (ck 11 (by decide) (by omega)) (ck 52 (by decide) (by omega)) c6
  refine pc_cb (runWith_x h' (by rw [ck 8 (by decide) (by omega)]; exact g88) hu' hl ln vx (by omega)) (fun _ g12 L13 e12 => ?_)
  obtain ⟨rfl, r2, r3⟩ := e12
  have c12 : ∀ k, k ≠ 21 → (k < 43 ∨ 48 < k) → g12 k = g2 k := fun k a b => (r2 k a b).trans (ck k a b)
  have h12 : DC cs n g12 d := h2.c3 (fun k a => c12 k (by omega) (by omega))
  have hu12 : UX d (l + 1) g12 L13 := hu.c (c12 11 (by decide) (by omega)) (c12 52 (by decide) (by omega)) c6
  refine pc_cb (weight_x h12 (fun i hi => by rw [c12 _ (by omega) (by omega)]; exact h72 i hi) hu12 ln vx (by omega)) (fun x15 g16 L17 w => ?_)
  obtain ⟨rfl, rfl, w⟩ := w
  refine pc_cb (pc_and (late_x h12 hl ln) pl_late) (fun x19 g20 L21 q => ?_)
  obtain ⟨⟨rfl, q⟩, rfl⟩ := q
  rw [← q] at r3
  have fq : fQ cs d l (un d (l + 1)) (fun t => t.toInt) (us d (l + 1)).length x = x19.toInt := by
    unfold fQ
    rw [lf_e (LT.u hW) r3]
  have sb := sq_b (cs := cs) (u := un d (l + 1)) (m := (us d (l + 1)).length) (X := x) hN hW ln hF len (fun k hk => (us_lt (l + 1) _ (un_m hk)).2) (by omega)
  have sx := sb.2 x
  rw [fq] at sx
  refine pc_stle (fun L23 e23 => hk _ ⟨x + 1, ew, by omega, c12, ?_, ?_⟩)
  · show L23 11 6 = L5 11 6
    rw [e23, updL_nj (by decide)]; exact c6
  · show (L23 11 5).toInt = sF _ x + _ * fQ cs d l (un d (l + 1)) (fun t => t.toInt) (us d (l + 1)).length x
    rw [fq, e23, updL_at, lg_addc c5 (lg_mulc w (Int32.toInt_toInt64 x19) (by omega) (by omega)) (by omega) (by omega)]
end CLS
