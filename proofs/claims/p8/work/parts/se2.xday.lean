/-! ===== the class's day is a day ===== -/
/-- what a day is made of, in the class: d is the reference's -/
def DC (cs : Nat → List Int) (n : Nat) (g d : gT) : Prop := ((g 1 2).toInt = (n : Int) ∧ n ≤ 12) ∧ (∀ i, i < n → LC i g d ∧ HC i 25 12 g d) ∧ (g 1 3 = d 0 3 ∧ g 1 4 = d 0 4 ∧ 1 ≤ (d 0 4).toInt) ∧ WF n d ∧ (∀ i, i < n → (0 ≤ (d 12 (24 + i)).toInt ∧ (d 12 (24 + i)).toInt ≤ 9) ∧ (0 ≤ (d 8 i).toInt ∧ (d 8 i).toInt ≤ 6)) ∧ (g 6 11 = d 0 52 ∧ (d 0 52 = -1 ∨ (0 ≤ (d 0 52).toInt ∧ (d 0 52).toInt < (g 3 3).toInt))) ∧ (∀ r : Nat, (r : Int) < (g 3 3).toInt → ∃ o : Nat, (g 20 r).toInt = (o : Int) ∧ (g 20 (r + 1)).toInt = (o : Int) + ((cs r).length : Int) ∧ At (g 19) o (cs r) ∧ rp (cs r) 0 1) ∧ (∀ i, i < n → (stb (g 8 8) i = 0 ↔ stb (d 0 60) i = 1)) ∧ g 8 9 = d 0 61
theorem DC.c {cs : Nat → List Int} {n : Nat} {g g' d : gT} (h : DC cs n g d) (e : ∀ k, k ≠ 21 → (k < 43 ∨ 48 < k) → g' k = g k) : DC cs n g' d := by
  obtain ⟨⟨a1, a2⟩, a3, a4, a5, a6, a7, a8, a9, a10⟩ := h
  unfold DC
  rw [e 1 (by decide) (by omega), e 6 (by decide) (by omega), e 3 (by decide) (by omega), e 20 (by decide) (by omega), e 19 (by decide) (by omega), e 8 (by decide) (by omega)]
  refine ⟨⟨a1, a2⟩, fun i hi => ⟨(a3 i hi).1.c (e _ (by omega) (by omega)) (e _ (by omega) (by omega)) (fun _ _ _ => rfl), (a3 i hi).2.c (e _ (by decide) (by omega)) (e _ (by decide) (by omega)) (e _ (by decide) (by omega)) (e _ (by decide) (by omega)) rfl⟩, a4, a5, a6, a7, a8, a9, a10⟩
theorem up_x {fu : Nat} {p1 : Int32} {g : gT} {L : lT} : Pc (fX1_isUpstairs_8 fu p1 g L) (fun x g1 _ => g1 = g ∧ ((x = 1 ∧ 5 ≤ (g 27 p1.toNatClampNeg).toInt) ∨ (x = 0 ∧ (g 27 p1.toNatClampNeg).toInt < 5))) := by
  unfold fX1_isUpstairs_8 fX1_isUpstairs_8_p18
  refine pc_ck (fun _ _ => pc_ite (fun c => pc_ckb (pc_some ⟨rfl, Or.inr ⟨rfl, ?_⟩⟩)) (fun c => pc_ckb (pc_some ⟨rfl, Or.inl ⟨rfl, ?_⟩⟩)))
  · exact icc_lt (n := 5) rfl rfl c
  · exact icc_nlt (n := 5) rfl rfl c
theorem off_x {a b : Int32} (ha : 0 ≤ a.toInt ∧ a.toInt ≤ 9) (hb : 0 ≤ b.toInt ∧ b.toInt ≤ 9) : (if 0 ≤ a - b then a - b else 0 - (a - b)) = off a b := by
  have e : (a - b).toInt = a.toInt - b.toInt := ic_sub (by omega) (by omega)
  unfold off
  by_cases c : b ≤ a
  · have c' := icc_le (m := b.toInt) (n := a.toInt) rfl rfl c
    rw [if_pos c, if_pos (ic_le.mpr (by rw [e]; show 0 ≤ _; omega))]
  · have c' := icc_nle (m := b.toInt) (n := a.toInt) rfl rfl c
    rw [if_neg c, if_neg (fun h => by have := icc_le (m := 0) rfl e h; omega)]
    refine ic_eq.mpr ?_
    rw [ic_subc (m := 0) rfl e (by omega) (by omega), ic_sub (by omega) (by omega)]
    omega
theorem way_x {cs : Nat → List Int} {n j i fu : Nat} {p1 p2 : Int32} {g d : gT} {L : lT} (h : DC cs n g d) (hj : p1.toInt = (j : Int)) (hi : p2.toInt = (i : Int)) (jn : j < n) (ni : i < n) : Pc (fX1_way_8 fu p1 p2 g L) (fun x g1 _ => g1 = g ∧ x = wy d j i) := by
  obtain ⟨⟨-, a2⟩, a3, ⟨w1, w2, w3⟩, -, a6, -⟩ := h
  have ej : p1.toNatClampNeg = j := by rw [nc, hj]; omega
  have ei : p2.toNatClampNeg = i := by rw [nc, hi]; omega
  have rj : g 27 j = d 12 (24 + j) := (a3 j jn).2.2.2.1
  have ri : g 27 i = d 12 (24 + i) := (a3 i ni).2.2.2.1
  have pj : g (57 + j) 8 = d 4 j := (a3 j jn).1.1.2.2.2
  have bj := (a6 j jn).1
  have bi := (a6 i ni).1
  unfold fX1_way_8 fX1_way_8_p55
  rw [ej, ei, rj, ri, off_x bj bi, w1, show j % 12 = j by omega]
  refine pc_ck (fun _ _ => pc_ck (fun _ _ => pc_lti (fun x1 e1 => pc_cb up_x (fun x2 g3 L4 e2 => pc_cb up_x (fun x6 g7 L8 e6 => ?_)))))
  obtain ⟨rfl, e2⟩ := e2
  obtain ⟨rfl, e6⟩ := e6
  rw [ej, rj] at e2
  rw [ei, ri] at e6
  have z : ∀ x : Int32, x + 0 = x := Int32.add_zero
  unfold wy
  refine pc_ite (fun c => pc_some ⟨rfl, ?_⟩) (fun c => pc_ite (fun c1 => ?_) (fun c1 => ?_))
  · rw [if_pos (by
      rcases e2 with ⟨u, v⟩ | ⟨u, v⟩ <;> rcases e6 with ⟨s, t⟩ | ⟨s, t⟩
      · exact ⟨fun _ => t, fun _ => v⟩
      · rw [u, s] at c; exact absurd c (by decide)
      · rw [u, s] at c; exact absurd c (by decide)
      · constructor <;> intro <;> omega), z]
    exact e1
  · refine pc_ck (fun _ _ => pc_ltn (fun q eq => pc_cnz (pc_some ⟨rfl, ?_⟩)))
    rw [if_neg (by
      intro hh
      rcases e2 with ⟨u, v⟩ | ⟨u, v⟩ <;> rcases e6 with ⟨s, t⟩ | ⟨s, t⟩
      · exact c (by rw [u, s])
      · have := hh.mp v; omega
      · have := hh.mpr t; omega
      · exact c (by rw [u, s])), eq, pj, w2, e1]
  · exfalso
    rw [w2] at c1
    have := icc_nle (m := 1) (n := (d 0 4).toInt) rfl rfl c1
    omega
/-- the least by which so many have come -/
theorem co_x {fu N : Nat} {p1 p2 p3 : Int32} {g : gT} {L : lT} (hN : p2.toInt = (N : Int)) (h6 : N ≤ 6) (h1 : 1 ≤ p1.toInt) (h2 : p1.toInt ≤ (N : Int)) (hl : ∀ k, k < N → (g 47 k).toInt ≤ p3.toInt) : Pc (fX1_comingOf_8 fu p1 p2 p3 g L) (fun x g1 _ => g1 = g ∧ KTH (fun k => (g 47 k).toInt) N p1.toInt.toNat x.toInt) := by
  unfold fX1_comingOf_8 fX1_comingOf_8_l6
  refine pc_loop (fun v => ∃ m : Nat, v.2.1.toInt = (m : Int) ∧ m ≤ N ∧ v.2.2.1 = g ∧ (v.1 = p3 ∨ ∃ k, k < m ∧ v.1 = g 47 k ∧ p1.toInt.toNat ≤ cn (fun k => (g 47 k).toInt) N (g 47 k).toInt) ∧ v.1.toInt ≤ p3.toInt ∧ ∀ k, k < m → p1.toInt.toNat ≤ cn (fun k => (g 47 k).toInt) N (g 47 k).toInt → v.1.toInt ≤ (g 47 k).toInt) (fun k6 hk v hv => ?_) ⟨0, rfl, by omega, rfl, Or.inl rfl, Int.le_refl _, fun k hk => absurd hk (Nat.not_lt_zero _)⟩
  obtain ⟨v4, v5, g', L'⟩ := v
  obtain ⟨m, hm, hmN, eg, hv1, hv3, hv2⟩ := hv
  replace hm : v5.toInt = (m : Int) := hm
  replace eg : g' = g := eg
  subst eg
  show Pc (fX1_comingOf_8_s6 fu p1 p2 k6 v4 v5 g' L') _
  unfold fX1_comingOf_8_s6
  refine pc_ite (fun c => pc_some ⟨rfl, ?_, fun w hw => ?_⟩) (fun c => ?_)
  · rcases hv1 with e | ⟨k, k1, k2, k3⟩
    · replace e : v4 = p3 := e
      rw [e, cn_all (fun k hk => hl k hk)]; omega
    · replace k2 : v4 = g' 47 k := k2
      rw [k2]; exact k3
  · have c := icc_le hN hm c
    refine Nat.lt_of_not_le (fun hle => ?_)
    obtain ⟨q, q1, q2, q3⟩ := cn_max (show 1 ≤ cn (fun k => (g' 47 k).toInt) N w by omega)
    have e : cn (fun k => (g' 47 k).toInt) N (g' 47 q).toInt = cn (fun k => (g' 47 k).toInt) N w := cn_c (fun k hk => ⟨fun h => Int.le_trans h q2, fun h => q3 k hk h⟩)
    have := hv2 q (by omega) (by rw [e]; exact hle)
    replace hw : w < v4.toInt := hw
    replace this : v4.toInt ≤ (g' 47 q).toInt := this
    replace q2 : (g' 47 q).toInt ≤ w := q2
    omega
  · have c := icc_nle hN hm c
    have e5 : v5.toNatClampNeg = m := by rw [nc, hm]; omega
    have ew : (v5 + 1).toInt = ((m + 1 : Nat) : Int) := by rw [ic_addc hm (n := 1) rfl (by omega) (by omega)]; omega
    unfold fX1_comingOf_8_l18
    refine pc_loop (fun v => ∃ o : Nat, v.2.1.toInt = (o : Int) ∧ o ≤ N ∧ v.2.2.1 = g' ∧ v.1.toInt = (cn (fun k => (g' 47 k).toInt) o (g' 47 m).toInt : Int)) (fun k18 hk18 v hv => ?_) ⟨0, rfl, by omega, rfl, rfl⟩
    obtain ⟨v6, v7, g2, L2⟩ := v
    obtain ⟨o, ho, hoN, eg, h6'⟩ := hv
    replace ho : v7.toInt = (o : Int) := ho
    replace eg : g2 = g' := eg
    replace h6' : v6.toInt = (cn (fun k => (g' 47 k).toInt) o (g' 47 m).toInt : Int) := h6'
    subst eg
    have hcn := cn_le (c := fun k => (g2 47 k).toInt) (v := (g2 47 m).toInt) (n := o)
    have e7 : v7.toNatClampNeg = o := by rw [nc, ho]; omega
    show Pc (fX1_comingOf_8_s18 fu k6 p1 p2 v4 v5 k18 v6 v7 g2 L2) _
    unfold fX1_comingOf_8_s18 fX1_comingOf_8_p84 fX1_comingOf_8_p48
    rw [e5, e7]
    refine pc_ite (fun c1 => ?_) (fun c1 => ?_)
    · have c1 := icc_le hN ho c1
      have eo : o = N := by omega
      rw [eo] at h6'
      refine pc_ite (fun c2 => hk _ ⟨m + 1, ew, by omega, rfl, ?_, hv3, fun k hk hc => ?_⟩) (fun c2 => pc_ck (fun _ _ => pc_ite (fun c3 => hk _ ⟨m + 1, ew, by omega, rfl, ?_, hv3, fun k hk hc => ?_⟩) (fun c3 => pc_ck (fun _ _ => pc_lti (fun x5 e => hk _ ⟨m + 1, ew, by omega, rfl, Or.inr ⟨m, by omega, e, ?_⟩, ?_, fun k hk hc => ?_⟩)))))
      · rcases hv1 with e | ⟨k, k1, k2⟩
        · exact Or.inl e
        · exact Or.inr ⟨k, by omega, k2⟩
      · have c2 := icc_lt h6' (n := p1.toInt) rfl c2
        rcases (by omega : k < m ∨ k = m) with h | h
        · exact hv2 k h hc
        · subst h; omega
      · rcases hv1 with e | ⟨k, k1, k2⟩
        · exact Or.inl e
        · exact Or.inr ⟨k, by omega, k2⟩
      · have c3 := icc_le (m := v4.toInt) (n := (g2 47 m).toInt) rfl rfl c3
        rcases (by omega : k < m ∨ k = m) with h | h
        · exact hv2 k h hc
        · subst h; exact c3
      · have c2 := icc_nlt h6' (n := p1.toInt) rfl c2
        omega
      · show x5.toInt ≤ p3.toInt
        rw [e]; exact hl m (by omega)
      · have c3 := icc_nle (m := v4.toInt) (n := (g2 47 m).toInt) rfl rfl c3
        show x5.toInt ≤ _
        rw [e]
        rcases (by omega : k < m ∨ k = m) with h | h
        · have := hv2 k h hc
          replace this : v4.toInt ≤ (g2 47 k).toInt := this
          omega
        · subst h; omega
    · have c1 := icc_nle hN ho c1
      have eo : (v7 + 1).toInt = ((o + 1 : Nat) : Int) := by rw [ic_addc ho (n := 1) rfl (by omega) (by omega)]; omega
      refine pc_ck (fun _ _ => pc_ck (fun _ _ => pc_ite (fun c2 => pc_lti (fun x6 e6 => hk18 _ ⟨o + 1, eo, by omega, rfl, ?_⟩)) (fun c2 => pc_lti (fun x6 e6 => hk18 _ ⟨o + 1, eo, by omega, rfl, ?_⟩))))
      · have c2 := icc_lt (m := (g2 47 m).toInt) (n := (g2 47 o).toInt) rfl rfl c2
        show x6.toInt = _
        rw [cn_s, if_neg (by omega), e6, ic_addc h6' (n := 0) rfl (by omega) (by omega)]; rfl
      · have c2 := icc_nlt (m := (g2 47 m).toInt) (n := (g2 47 o).toInt) rfl rfl c2
        show x6.toInt = _
        rw [cn_s, if_pos (by omega), e6, ic_addc h6' (n := 1) rfl (by omega) (by omega)]; rfl
