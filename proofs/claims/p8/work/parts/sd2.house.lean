/-! ===== a new house: both hold the same ===== -/
/-- what a text tells, in both -/
theorem lc_house {b : Nat → Int32} {n P i : Nat} {g gm : gT} (hI : zI MT gm) (hX : LX b n P (57 + i) g) (hM : LM b n P i (fun k => gm (cpk k))) : LC i g gm := by
  obtain ⟨x1, x2, x3, x4⟩ := hX
  obtain ⟨y2, y3, y4, y5, y6, y7, y8, y9, y10, y11, y12, y13, y14⟩ := hM
  replace y13 : (gm 8 i).toInt = ((leA b n P).length : Int) := y13
  replace y14 : ∀ j (hj : j < (leA b n P).length), (gm 9 (6 * i + j)).toInt = (leA b n P)[j] := y14
  have x4 : ∀ j (hj : j < (leA b n P).length), (g (81 + i) j).toInt = (leA b n P)[j] := fun j hj => by
    have := x4 j hj
    rw [show 57 + i + 24 = 81 + i by omega] at this
    exact this
  refine ⟨⟨?_, ?_, ?_, ?_⟩, ⟨?_, ?_, ?_, ?_⟩, ?_, fun k hk => ?_⟩
  · exact ic_eq.mpr ((x1 3 (by decide) (by decide)).trans y2.symm)
  · exact ic_eq.mpr ((x1 4 (by decide) (by decide)).trans y3.symm)
  · exact ic_eq.mpr ((x1 5 (by decide) (by decide)).trans y4.symm)
  · exact ic_eq.mpr ((x1 8 (by decide) (by decide)).trans y7.symm)
  · exact ic_eq.mpr ((x1 9 (by decide) (by decide)).trans y8.symm)
  · exact ic_eq.mpr ((x1 10 (by decide) (by decide)).trans y9.symm)
  · exact ic_eq.mpr ((x1 12 (by decide) (by decide)).trans y11.symm)
  · exact ic_eq.mpr (x2.trans y13.symm)
  · rw [x3, wSn_m y14 _ (by omega)]
    rw [List.take_of_length_le (by omega)]
  · exact ic_eq.mpr ((x4 k (by omega)).trans (y14 k (by omega)).symm)
theorem rc_house {b : Nat → Int32} {n m : Nat} {ρ : Nat → Nat} {u v : Int} {g gm : gT} (hX : RX b n m ρ u (g 20) (g 19)) (hM : RM b n m ρ v (gm 10) (gm 11)) (hρ : ∀ r, r < m → ∃ q, xs b n xF 6 0 [] (ρ r) = .ok q) : RC m g gm := by
  obtain ⟨x1, x2, x3⟩ := hX
  obtain ⟨y1, y2, y3⟩ := hM
  refine ⟨fun r => xc b n (ρ r), oR b n ρ, oM b n ρ, x1, fun r hr => ⟨rfl, x3 r hr, y1 r hr, y3 r hr, ?_⟩⟩
  obtain ⟨q, hq⟩ := hρ r hr
  show rp (xc b n (ρ r)) 0 1
  unfold xc
  rw [hq]
  exact (xs_rp xF 6 0 [] _ q.1 q.2 hq (by decide) 0).2.2.2.2.2.2.1 rfl (by decide)
/-- the rules that stand were read -/
theorem ho_rules {b : Nat → Int32} {n : Nat} : ∀ (f : Nat) (t : tS) (D : dT) (P : Nat) (t' : tS), hoS b n f t P = .ok t' → (∀ r, r < t.2.1 → ∃ q, xs b n xF 6 0 [] (D.2.1 r) = .ok q) → ∀ r, r < t'.2.1 → ∃ q, xs b n xF 6 0 [] ((hoD b n f t D P).2.1 r) = .ok q := by
  intro f
  induction f with
  | zero => intro t D P t' h; exact nomatch h
  | succ f ih =>
    intro t D P t' h hD
    unfold hoS at h
    unfold hoD
    by_cases k0 : tK b n P = 0
    · rw [if_pos k0] at h ⊢
      cases h; exact hD
    rw [if_neg k0] at h ⊢
    cases hli : liS b n t P with
    | error p => rw [hli] at h; exact nomatch h
    | ok q =>
      rw [hli] at h
      have h : hoS b n f q.1 q.2 = .ok t' := h
      show ∀ r, r < t'.2.1 → ∃ q1, xs b n xF 6 0 [] ((hoD b n f q.1 (liD b n t D P) q.2).2.1 r) = .ok q1
      refine ih q.1 (liD b n t D P) q.2 t' h ?_
      have fn : ∀ {r : sR} {t1 : tS}, fnS b n r t1 = .ok q → q.1 = t1 ∧ ∃ Q, r = .ok Q := by
        intro r t1 e
        unfold fnS at e
        cases hr : r with
        | error p => rw [hr] at e; exact nomatch e
        | ok Q =>
          refine ⟨?_, Q, rfl⟩
          rw [hr] at e
          split at e
          · exact nomatch e
          · cases e; rfl
      unfold liS at hli
      unfold liD
      split at hli
      · rename_i w
        rw [if_pos w]
        obtain ⟨e1, -⟩ := fn hli
        rw [e1]; exact hD
      · rename_i w5
        rw [if_neg w5]
        split at hli
        · rename_i w
          rw [if_pos w]
          obtain ⟨e1, -⟩ := fn hli
          rw [e1]; exact hD
        · rename_i w11
          rw [if_neg w11]
          split at hli
          · rename_i w
            rw [if_pos w]
            obtain ⟨e1, -⟩ := fn hli
            rw [e1]; exact hD
          · rename_i w12
            rw [if_neg w12]
            split at hli
            · rename_i w
              rw [if_pos w]
              obtain ⟨e1, Q, e2⟩ := fn hli
              rw [e1]
              intro r hr
              have hr : r < t.2.1 + 1 := hr
              show ∃ q1, xs b n xF 6 0 [] (upN D.2.1 t.2.1 (nx b n P) r) = .ok q1
              by_cases er : r = t.2.1
              · rw [er, upN_at]
                split at e2
                · unfold xsP at e2
                  cases hx : xs b n xF 6 0 [] (nx b n P) with
                  | error p => rw [hx] at e2; exact nomatch e2
                  | ok q1 => exact ⟨q1, rfl⟩
                · exact nomatch e2
              · rw [upN_ne er]; exact hD r (by omega)
            · exact nomatch hli
theorem Fr.fw {A B : List Nat} {g g1 : gT} (h : Fr A B g g1) : FW (A.map (fun j => (0, j))) B g g1 := by
  intro k j hB hA
  by_cases h0 : k = 0
  · subst h0
    exact h.1 j (fun hj => hA (List.mem_map.mpr ⟨j, hj, rfl⟩))
  · rw [h.2 k h0 hB]
set_option maxHeartbeats 4000000 in
theorem cd_house {fu : Nat} (hfu : 1180591620717411303424 ≤ fu) {g gm g1 g2 : gT} {L Lm L1 L2 : lT} {p1 : Int32} {rx : Except String Int32} {rm : Int32} (h : CP g gm) (hd : CD g gm) (e1 : fX11_house_0 fu p1 g L = some (rx, (g1, L1))) (e2 : fX12_house fu p1 gm Lm = some (rm, (g2, L2))) (hI2' : zI MT g2) : CD g1 g2 := by
  obtain ⟨hI, hI2, hJ2, hT, h5, h6, ⟨k1, k2, k3, k4, k5⟩, z20, z23⟩ := h
  have q18 := hI2 0 18 0 700 rfl
  have e13 : (g 0 13).toInt = (gm 0 18).toInt := by rw [hT.1]
  by_cases c : 0 ≤ p1.toInt ∧ p1.toInt ≤ (gm 0 18).toInt
  · obtain ⟨n, hn⟩ : ∃ n : Nat, p1.toInt = (n : Int) := ⟨p1.toInt.toNat, by omega⟩
    have z4 := pc_ex (l_house hfu (b := gm 13) (n := n) (L0 := L) hI hn (by omega) (fun j hj => hT.2 j (by omega)) z23) _ _ _ e1
    have y4 := pc_ex (t_house hfu (b := gm 13) (n := n) (L0 := Lm) hI2 hn (by omega) (fun j hj => rfl)) _ _ _ e2
    have hρ := ho_rules (b := gm 13) (n := n) 702 (0, 0, false, false) D0 (sk (gm 13) n 0)
    clear e1 e2
    revert y4 z4 hρ
    generalize hoS (gm 13) n 702 (0, 0, false, false) (sk (gm 13) n 0) = R
    generalize hoD (gm 13) n 702 (0, 0, false, false) D0 (sk (gm 13) n 0) = DD
    intro z4 y4 hρ
    cases R with
    | error p =>
      obtain ⟨-, z2, z3, z5, -⟩ := z4
      obtain ⟨-, y2, y3⟩ := y4
      obtain ⟨d1, d2, d3, d4, d5⟩ := hd
      have f2 := y2.fw
      have q1 := hI2 0 1 0 12 rfl
      have zk : ∀ k, k < 69 ∨ 81 ≤ k ∧ k < 93 → k ∉ [0, 2, 4, 5, 15, 22, 23] → g1 k = g k := z2
      have f1 : FW ([(0, 13), (0, 14)] ++ []) ([2, 4, 5, 15, 22, 23, 69, 70, 71, 72, 73, 74, 75, 76, 77, 78, 79, 80] ++ []) (fun k j => if k < 69 ∨ 81 ≤ k ∧ k < 93 then g k j else g1 k j) g1 := by
        intro k j hB hA
        show g1 k j = if k < 69 ∨ 81 ≤ k ∧ k < 93 then g k j else g1 k j
        by_cases hk : k < 69 ∨ 81 ≤ k ∧ k < 93
        · rw [if_pos hk]
          by_cases h0 : k = 0
          · subst h0
            exact z3 j (fun hj => hA (by
              rcases List.mem_cons.mp hj with e | e
              · rw [e]; decide
              · rw [List.mem_singleton.mp e]; decide))
          · rw [zk k hk (fun hm => hB ?_)]
            revert hm
            simp only [List.mem_cons, List.not_mem_nil, or_false, List.append_nil]
            omega
        · rw [if_neg hk]
      have dd : ∀ {k : Nat}, (k < 69 ∨ 81 ≤ k ∧ k < 93) → (fun k j => if k < 69 ∨ 81 ≤ k ∧ k < 93 then g k j else g1 k j : gT) k = g k := fun hk => funext fun j => if_pos hk
      have b1 : PD (fun k j => if k < 69 ∨ 81 ≤ k ∧ k < 93 then g k j else g1 k j) gm := by
        obtain ⟨a1, a2, a3, a4⟩ := d1
        refine ⟨fun i hi => (a1 i hi).c (dd (by omega)) (dd (by omega)) (fun _ _ _ => rfl), ?_, ?_, a4.c (dd (by omega)) (dd (by omega)) rfl rfl⟩
        · rw [dd (by omega)]; exact a2
        · rw [dd (by omega)]; exact a3
      have b2 : HD (fun k j => if k < 69 ∨ 81 ≤ k ∧ k < 93 then g k j else g1 k j) gm := by
        obtain ⟨a1, a2, a3, a4⟩ := d2
        refine ⟨fun i hi => (a1 i hi).c (dd (by omega)) (dd (by omega)) (dd (by omega)) (dd (by omega)) rfl, ?_, a3.c (dd (by omega)) (dd (by omega)) (dd (by omega)) rfl, a4.c (dd (by omega)) (dd (by omega)) rfl⟩
        rw [dd (by omega)]; exact a2
      have b3 : ¬ gm 0 81 = 0 → IC (fun k j => if k < 69 ∨ 81 ≤ k ∧ k < 93 then g k j else g1 k j) gm := by
        intro h
        obtain ⟨a1, a2, a3, a4⟩ := d3 h
        refine ⟨fun i hi => (a1 i hi).c (dd (by omega)) (dd (by omega)) (dd (by omega)) (dd (by omega)) rfl, ?_, a3.c (dd (by omega)) (dd (by omega)) (dd (by omega)) rfl, a4.c (dd (by omega)) (dd (by omega)) rfl⟩
        rw [dd (by omega)]; exact a2
      have b5 : FD (fun k j => if k < 69 ∨ 81 ≤ k ∧ k < 93 then g k j else g1 k j) gm := by
        unfold FD; rw [dd (by omega)]; exact d5
      refine ⟨b1.f hI2 f1 f2 (by decide) (by decide), b2.f f1 f2 (by decide) (by decide), fun h => ?_, fun j hj => ?_, b5.f f1 f2 (by decide) (by decide)⟩
      · rw [y2.1 81 (by decide)] at h
        exact (b3 h).f f1 f2 (by decide) (by decide)
      · rw [z5, y3]
        unfold upd
        by_cases j0 : j = 0
        · rw [if_pos j0, if_pos j0, d4 0 (by decide)]
        · rw [if_neg j0, if_neg j0]; exact d4 j hj
    | ok t =>
      obtain ⟨z1, z2, z3, z4, z5, z6, z7, z8, z9, z10, z11, z12, z13, ⟨p1, p2, p3, p4⟩, z14, z15⟩ := z4
      obtain ⟨y1, y2, y3, y4, y5, y6, y7, y8, y9, ⟨q1, q2, q3, u, q4⟩⟩ := y4
      obtain ⟨d1, d2, d3, d4, d5⟩ := hd
      have hl : ∀ i : Nat, (i : Int) < (g2 0 1).toInt → i < t.1 := fun i hi => by omega
      refine ⟨⟨fun i hi => lc_house hI2' (p1 i (hl i hi)) (q1 i (hl i hi)), ic_eq.mpr (p2.trans q2.symm), ic_eq.mpr (p3.trans q3.symm), ?_⟩, ⟨fun i hi => ?_, ?_, ?_, ?_⟩, fun h => absurd y2 h, ?_, ?_⟩
      · have e : (g2 0 2).toInt.toNat = t.2.1 := by omega
        rw [e]
        exact rc_house p4 q4 (hρ t rfl (fun r hr => absurd hr (Nat.not_lt_zero _)))
      · obtain ⟨x1, x2, x3, x4⟩ := z14 i (by have := hl i hi; omega)
        have hx := (p1 i (hl i hi)).1
        obtain ⟨-, -, -, m5, m6, -, -, -, m10, -, m12, -⟩ := q1 i (hl i hi)
        refine ⟨?_, ?_, ?_, ?_⟩
        · rw [x1]; exact ic_eq.mpr ((hx 6 (by decide) (by decide)).trans m5.symm)
        · show g1 26 i = _
          rw [x2]; exact ic_eq.mpr ((hx 13 (by decide) (by decide)).trans m12.symm)
        · show g1 27 i = _
          rw [x3]; exact ic_eq.mpr ((hx 7 (by decide) (by decide)).trans m6.symm)
        · show g1 28 i = _
          rw [x4]; exact ic_eq.mpr ((hx 11 (by decide) (by decide)).trans m10.symm)
      · rw [z7, y5]
      · intro k hk
        rw [y6] at hk
        exact absurd hk (by show ¬ (k : Int) < 0; omega)
      · intro k hk
        rw [y7] at hk
        exact absurd hk (by show ¬ (k : Int) < 0; omega)
      · intro j hj
        rw [z10, y9.2 14 (by decide) (by decide)]; exact d4 j hj
      · unfold FD
        rw [z15, y9.1 60 (by decide), y9.1 61 (by decide)]; exact d5
  · have c' : p1.toInt < 0 ∨ (gm 0 18).toInt < p1.toInt := by omega
    rw [m_refused c'] at e2
    cases e2
    have e : fX11_house_0 fu p1 g L = some (.error "java/lang/IllegalArgumentException", (g, L)) := by
      unfold fX11_house_0 fX11_house_0_p12
      by_cases c1 : p1 < 0
      · exact if_pos c1
      · rw [if_neg c1]
        have c1 := icc_nlt (m := p1.toInt) (n := 0) rfl (by decide) c1
        exact if_neg (fun hh => by have := icc_le (m := p1.toInt) (n := (g 0 13).toInt) rfl rfl hh; omega)
    rw [e] at e1
    cases e1
    have f2 : FW [(0, 0)] [] gm (upd2 (upd2 gm 0 0 0) 0 0 1) := by
      intro k j _ hA
      by_cases hk : k = 0
      · subst hk
        have hj : j ≠ 0 := fun e => hA (by rw [e]; decide)
        rw [upd2_nj hj, upd2_nj hj]
      · rw [upd2_nk hk, upd2_nk hk]
    exact cd_fr hI2 hd FW.refl f2 (A := []) (B := []) (by decide) (by decide)
