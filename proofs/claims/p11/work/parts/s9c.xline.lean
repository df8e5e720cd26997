/-! ===== the class's lines ===== -/
theorem bn_as {r : sR} {k1 k2 : Nat → sR} : bn (bn r k1) k2 = bn r (fun P => bn (k1 P) k2) := by cases r <;> rfl
theorem bn_cg {r : sR} {k1 k2 : Nat → sR} (h : ∀ P, r = .ok P → k1 P = k2 P) : bn r k1 = bn r k2 := by
  cases r with
  | error p => rfl
  | ok P => exact h P rfl
/-- lessons' number may have grown -/
def K2 (g g1 : gT) : Prop := (∀ k, k < 69 → k ≠ 5 → k ≠ 2 → g1 k = g k) ∧ (∀ j, j ≠ 2 → g1 2 j = g 2 j) ∧ g1 5 9 = g 5 9 ∧ g1 5 10 = g 5 10
theorem KP.k2 {g g1 : gT} (h : KP g g1) : K2 g g1 := ⟨fun k a c _ => h.1 k a c, fun j _ => by rw [h.1 2 (by decide) (by decide)], h.2.1, h.2.2⟩
theorem K2.tr {g g1 g2 : gT} (h1 : K2 g g1) (h2 : K2 g1 g2) : K2 g g2 := ⟨fun k a c d => (h2.1 k a c d).trans (h1.1 k a c d), fun j hj => (h2.2.1 j hj).trans (h1.2.1 j hj), h2.2.2.1.trans h1.2.2.1, h2.2.2.2.trans h1.2.2.2⟩
theorem K2.refl {g : gT} : K2 g g := KP.refl.k2
theorem K2.b {g : gT} {x : Int32} : K2 g (upd2 g 2 2 x) := ⟨fun k _ _ h2 => funext fun i => upd2_nk h2, fun j hj => upd2_nj hj, rfl, rfl⟩
set_option maxHeartbeats 4000000 in
theorem s_176 {fu : Nat} (hfu : 1180591620717411303424 ≤ fu) {b : Nat → Int32} {n q : Nat} {g : gT} {L : lT} {r : sR} (hq1 : 69 ≤ q) (hq2 : q < 81) (hs : ST b n r g) (hl : (g 2 2).toInt ≤ 11) : Ex (fX6_readLesson_5_p176 fu q g L) (fun (_ : Unit) g1 L1 => ST b n (bn r (ops b n)) g1 ∧ K2 g g1 ∧ (g1 2 2).toInt = (g 2 2).toInt + 1) := by
  have q22 := hs.I 2 2 0 12 rfl
  unfold fX6_readLesson_5_p176
  refine s_opt_limit hfu hs (fun x1 g1 L1 s1 f1 => ?_)
  refine Ex.sti (s1.I.les hq1 hq2 (by decide)) (fun g2 g2e i2 => ?_)
  have s2 : ST b n (bn r (opS b n 8 99)) g2 := by rw [g2e] at i2 ⊢; exact s1.u i2 (by omega) (by omega)
  have k2 : KP g g2 := by rw [g2e]; exact (KP.x f1 (by decide) (by decide)).u hq1
  refine s_opt_maybe hfu s2 (fun x3 g3 L3 s3 f3 => ?_)
  refine Ex.sti (s3.I.les hq1 hq2 (by decide)) (fun g4 g4e i4 => ?_)
  have s4 : ST b n (bn (bn r (opS b n 8 99)) (opS b n 9 10)) g4 := by rw [g4e] at i4 ⊢; exact s3.u i4 (by omega) (by omega)
  have k4 : KP g g4 := by rw [g4e]; exact (k2.tr (KP.x f3 (by decide) (by decide))).u hq1
  refine s_opt_gap hfu s4 (fun x5 g5 L5 s5 f5 => ?_)
  refine Ex.sti (s5.I.les hq1 hq2 (by decide)) (fun g6 g6e i6 => ?_)
  have s6 : ST b n (bn (bn (bn r (opS b n 8 99)) (opS b n 9 10)) (opS b n 10 30)) g6 := by rw [g6e] at i6 ⊢; exact s5.u i6 (by omega) (by omega)
  have k6 : KP g g6 := by rw [g6e]; exact (k4.tr (KP.x f5 (by decide) (by decide))).u hq1
  have e22 : g6 2 2 = g 2 2 := by rw [k6.1 2 (by decide) (by decide)]
  have ew : (g6 2 2 + 1).toInt = (g 2 2).toInt + 1 := by rw [e22]; exact ic_addc rfl (by decide) (by omega) (by omega)
  refine Ex.sti (i6.upd (lo := 0) (hi := 12) rfl (by omega) (by omega)) (fun g7 g7e i7 => Ex.ret ⟨?_, ?_, ?_⟩)
  · have s7 : ST b n (bn (bn (bn r (opS b n 8 99)) (opS b n 9 10)) (opS b n 10 30)) g7 := by rw [g7e] at i7 ⊢; exact s6.u i7 (by decide) (by decide)
    rw [bn_as, bn_as] at s7
    exact s7
  · rw [g7e]; exact k6.k2.tr K2.b
  · rw [g7e, upd2_at]; exact ew
set_option maxHeartbeats 8000000 in
theorem s_lesson {fu : Nat} (hfu : 1180591620717411303424 ≤ fu) {b : Nat → Int32} {n P l : Nat} {g : gT} {L : lT} (hc : cX b n P g) (hl : (g 2 2).toInt = (l : Int)) : Ex (fX6_readLesson_5 fu g L) (fun (_ : Unit) g1 L1 => ST b n (if l < 12 then leS b n l P else .error P) g1 ∧ K2 g g1 ∧ (l < 12 → (g1 2 2).toInt = (l : Int) + 1)) := by
  unfold fX6_readLesson_5
  refine Ex.ite (fun c => ?_) (fun c => ?_)
  rotate_left
  · have c := icc_nlt (m := (g 2 2).toInt) (n := 12) rfl (by decide) c
    rw [if_neg (by omega)]
    exact x_ref (by decide) hc (fun g1 k1 k2 => Ex.ret ⟨k1, (KP.x k2 (by decide) (by decide)).k2, fun h => by omega⟩)
  have c := icc_lt (m := (g 2 2).toInt) (n := 12) rfl (by decide) c
  have hl12 : l < 12 := by omega
  rw [if_pos hl12]
  refine Ex.ck (by omega) (by omega) ?_
  refine Ex.ltn (fun q hq => ?_)
  have eq : q = 69 + l := by rw [hq, nc, hl]; omega
  have hq1 : 69 ≤ q := by omega
  have hq2 : q < 81 := by omega
  clear hq
  -- a fresh lesson
  have hI := hc.1
  have e : fX5_clear_les fu q g L = some ((), (upd2 (upd2 (upd2 (upd2 g q 9 2) q 10 0) q 1 0) q 2 0, L)) := rfl
  rw [e]
  generalize hga : upd2 (upd2 (upd2 (upd2 g q 9 2) q 10 0) q 1 0) q 2 0 = ga
  have hIa : zI XT ga := by
    rw [← hga]
    exact (((hI.les hq1 hq2 (by decide)).les hq1 hq2 (by decide)).upd (xt_les (by omega) hq2) (by decide) (by decide)).les hq1 hq2 (by decide)
  have ka : KP g ga := by rw [← hga]; exact (((KP.refl.u hq1).u hq1).u hq1).u hq1
  have sa : ST b n (.ok P) ga := by
    have hF : FX [] [q] g ga := by rw [← hga]; exact (((FX.refl.uk (by omega) (List.mem_singleton.mpr rfl)).uk (by omega) (List.mem_singleton.mpr rfl)).uk (by omega) (List.mem_singleton.mpr rfl)).uk (by omega) (List.mem_singleton.mpr rfl)
    exact hc.fr hIa hF (by decide) (by decide) (by decide) (by decide) (by decide) (by decide) (by decide) (fun h => by have := List.mem_singleton.mp h; omega)
  have a1 : (ga q 1).toInt = 0 := by rw [← hga, upd2_nj (by decide), upd2_at]; rfl
  have a2 : ga q 2 = 0 := by rw [← hga, upd2_at]
  have a10 : (ga q 10).toInt = 0 := by rw [← hga, upd2_nj (by decide), upd2_nj (by decide), upd2_at]; rfl
  refine Ex.cb (P := fun (_ : Unit) g1 L1 => g1 = ga ∧ L1 = L) ⟨(), ga, L, rfl, rfl, rfl⟩ (fun _ gx Lx hx => ?_)
  rw [hx.1, hx.2]
  clear hx gx Lx
  refine s_adv hfu sa (fun gb Lb sb fb => ?_)
  rw [bn_ok] at sb
  have kb := ka.tr (KP.x fb (by decide) (by decide))
  have bq : gb q = ga q := KP.q fb (by omega)
  -- a number is read and stored
  have keep : ∀ {g1 g2 : gT} {j : Nat} {x : Int32}, FX [3, 4, 5, 6, 7, 8] [] g1 g2 → j ≠ 1 → j ≠ 2 → j ≠ 10 → upd2 g2 q j x q 1 = g1 q 1 ∧ upd2 g2 q j x q 2 = g1 q 2 ∧ upd2 g2 q j x q 10 = g1 q 10 := by
    intro g1 g2 j x hf h1 h2 h10
    rw [upd2_nj (Ne.symm h1), upd2_nj (Ne.symm h2), upd2_nj (Ne.symm h10), KP.q hf (show q ≠ 5 by omega)]
    exact ⟨rfl, rfl, rfl⟩
  refine s_num hfu sb (fun x1 g1 L1 s1 f1 v1 => ?_)
  rw [bn_ok] at s1
  have s1 : ST b n (nuS b n 0 999 (nx b n P)) g1 := s1
  refine Ex.sti (s1.I.les hq1 hq2 (by decide)) (fun g2 g2e i2 => ?_)
  have s2 : ST b n (nuS b n 0 999 (nx b n P)) g2 := by rw [g2e] at i2 ⊢; exact s1.u i2 (by omega) (by omega)
  have k2 : KP g g2 := by rw [g2e]; exact (kb.tr (KP.x f1 (by decide) (by decide))).u hq1
  have r2 := keep (j := 3) (x := x1) f1 (by decide) (by decide) (by decide)
  rw [← g2e, bq] at r2
  have e23 : g2 q 3 = x1 := by rw [g2e]; exact upd2_at
  rw [e23]
  refine s_num hfu s2 (fun x3 g3 L3 s3 f3 _ => ?_)
  have s3 : ST b n (bn (nuS b n 0 999 (nx b n P)) (nuS b n (tV b n (nx b n P) + 1) 999)) g3 := by
    have e9 : bn (nuS b n 0 999 (nx b n P)) (nuS b n (tV b n (nx b n P) + 1) 999) = bn (nuS b n 0 999 (nx b n P)) (nuS b n (x1 + 1).toInt (999 : Int32).toInt) := by
      refine bn_cg (fun Q hQ => ?_)
      have hn : nuC b n 0 999 (nx b n P) := by
        by_cases h : nuC b n 0 999 (nx b n P)
        · exact h
        · unfold nuS at hQ; rw [nB_f h] at hQ; exact nomatch hQ
      have hv := v1 _ rfl hn
      have h1 := hn.2.2.1
      have h2 := hn.2.2.2
      rw [ic_addc hv (n := 1) (by decide) (by omega) (by omega)]
      rfl
    rw [e9]; exact s3
  clear s2 e23 v1
  refine Ex.sti (s3.I.les hq1 hq2 (by decide)) (fun g4 g4e i4 => ?_)
  have s4 := by have := s3.u (k := q) (j := 4) (x := x3) (by rw [← g4e]; exact i4) (by omega) (by omega); rw [← g4e] at this; exact this
  have k4 : KP g g4 := by rw [g4e]; exact (k2.tr (KP.x f3 (by decide) (by decide))).u hq1
  have r4 := keep (j := 4) (x := x3) f3 (by decide) (by decide) (by decide)
  rw [← g4e, r2.1, r2.2.1, r2.2.2] at r4
  clear s3 g4e
  refine s_num hfu s4 (fun x5 g5 L5 s5 f5 _ => ?_)
  refine Ex.sti (s5.I.les hq1 hq2 (by decide)) (fun g6 g6e i6 => ?_)
  have s6 := by have := s5.u (k := q) (j := 5) (x := x5) (by rw [← g6e]; exact i6) (by omega) (by omega); rw [← g6e] at this; exact this
  have k6 : KP g g6 := by rw [g6e]; exact (k4.tr (KP.x f5 (by decide) (by decide))).u hq1
  have r6 := keep (j := 5) (x := x5) f5 (by decide) (by decide) (by decide)
  rw [← g6e, r4.1, r4.2.1, r4.2.2] at r6
  clear s5 g6e
  refine s_num hfu s6 (fun x7 g7 L7 s7 f7 _ => ?_)
  refine Ex.sti (s7.I.les hq1 hq2 (by decide)) (fun g8 g8e i8 => ?_)
  have s8 := by have := s7.u (k := q) (j := 6) (x := x7) (by rw [← g8e]; exact i8) (by omega) (by omega); rw [← g8e] at this; exact this
  have k8 : KP g g8 := by rw [g8e]; exact (k6.tr (KP.x f7 (by decide) (by decide))).u hq1
  have r8 := keep (j := 6) (x := x7) f7 (by decide) (by decide) (by decide)
  rw [← g8e, r6.1, r6.2.1, r6.2.2] at r8
  clear s7 g8e
  refine s_num hfu s8 (fun x9 g9 L9 s9 f9 _ => ?_)
  refine Ex.sti (s9.I.les hq1 hq2 (by decide)) (fun h1 h1e i1 => ?_)
  have t1 := by have := s9.u (k := q) (j := 7) (x := x9) (by rw [← h1e]; exact i1) (by omega) (by omega); rw [← h1e] at this; exact this
  have m1 : KP g h1 := by rw [h1e]; exact (k8.tr (KP.x f9 (by decide) (by decide))).u hq1
  have u1 := keep (j := 7) (x := x9) f9 (by decide) (by decide) (by decide)
  rw [← h1e, r8.1, r8.2.1, r8.2.2] at u1
  clear s9 h1e
  refine s_num hfu t1 (fun x11 h2 L11 t2 f11 _ => ?_)
  refine Ex.sti (t2.I.les hq1 hq2 (by decide)) (fun h3 h3e i3 => ?_)
  have t3 := by have := t2.u (k := q) (j := 8) (x := x11) (by rw [← h3e]; exact i3) (by omega) (by omega); rw [← h3e] at this; exact this
  have m3 : KP g h3 := by rw [h3e]; exact (m1.tr (KP.x f11 (by decide) (by decide))).u hq1
  have u3 := keep (j := 8) (x := x11) f11 (by decide) (by decide) (by decide)
  rw [← h3e, u1.1, u1.2.1, u1.2.2] at u3
  clear t2 h3e
  -- the rest
  generalize hσ : bn (bn (bn (bn (bn (nuS b n 0 999 (nx b n P)) (nuS b n (tV b n (nx b n P) + 1) 999)) (nuS b n (Int32.toInt 1) (Int32.toInt 200))) (nuS b n (Int32.toInt 0) (Int32.toInt 60))) (nuS b n (Int32.toInt 0) (Int32.toInt 9))) (nuS b n (Int32.toInt 1) (Int32.toInt 99)) = σ at t3
  have hle : leS b n (l : Int) P = bn σ (tlS b n (l : Int)) := by
    rw [← hσ, bn_as, bn_as, bn_as, bn_as, bn_as]; rfl
  rw [hle]
  have e22 : (h3 2 2).toInt = (l : Int) := by rw [m3.1 2 (by decide) (by decide)]; exact hl
  have tail : ∀ (r : sR) (g' : gT) (L' : lT), ST b n r g' → KP g g' → Ex (fX6_readLesson_5_p176 fu q g' L') (fun (_ : Unit) g1 L1 => ST b n (bn r (ops b n)) g1 ∧ K2 g g1 ∧ (l < 12 → (g1 2 2).toInt = (l : Int) + 1)) := by
    intro r g' L' k1 k2
    have e : (g' 2 2).toInt = (l : Int) := by rw [k2.1 2 (by decide) (by decide)]; exact hl
    refine (s_176 hfu hq1 hq2 k1 (by omega)).mono (fun _ g1 L1 hq => ⟨hq.1, k2.k2.tr hq.2.1, fun _ => by rw [hq.2.2, e]⟩)
  cases σ with
  | error p =>
    have t3 : bX p h3 := t3
    refine e_allW hfu i3 (fun h => absurd h (xW_B t3.2.1 _)) (fun _ => ?_)
    exact e_someW hfu i3 (fun h => absurd h (xW_B t3.2.1 _)) (fun _ => tail (.error p) h3 L11 t3 m3)
  | ok Q =>
    have t3 : cX b n Q h3 := t3
    rw [bn_ok]
    unfold tlS
    refine e_allW hfu i3 (fun hw => ?_) (fun hw => ?_)
    · have hw := (xW_isW t3 _).mp hw
      rw [wB_t hw, if_pos rfl]
      refine x_adv hfu t3 (fun h4 L4 w1 w2 => ?_)
      refine Ex.sti (w1.1.les hq1 hq2 (by decide)) (fun h5 h5e i5 => ?_)
      have w5 : ST b n (.ok (nx b n Q)) h5 := by rw [h5e] at i5 ⊢; exact ST.u (r := .ok (nx b n Q)) w1 i5 (by omega) (by omega)
      have m5 : KP g h5 := by rw [h5e]; exact (m3.tr (KP.x w2 (by decide) (by decide))).u hq1
      have q4 : h4 q = h3 q := KP.q w2 (by omega)
      have y1 : (h5 q 1).toInt = 0 := by rw [h5e, upd2_nj (by decide), q4, u3.1]; exact a1
      have y2 : h5 q 2 = 0 := by rw [h5e, upd2_nj (by decide), q4, u3.2.1]; exact a2
      have y10 : (h5 q 10).toInt = 0 := by rw [h5e, upd2_nj (by decide), q4, u3.2.2]; exact a10
      have y22 : (h5 2 2).toInt = (l : Int) := by rw [m5.1 2 (by decide) (by decide)]; exact hl
      refine Ex.cb (s_waited hfu hq1 hq2 w5 (by omega) y1 y2) (fun _ h6 L6 hx => ?_)
      rw [bn_ok, y22, y10] at hx
      exact tail _ h6 L6 hx.1 (m5.tr hx.2)
    rw [wB_f (fun h => hw ((xW_isW t3 _).mpr h)), if_neg (by decide)]
    refine e_someW hfu i3 (fun hw2 => ?_) (fun hw2 => ?_)
    · have hw2 := (xW_isW t3 _).mp hw2
      rw [wB_t hw2, if_pos rfl]
      refine x_adv hfu t3 (fun h4 L4 w1 w2 => ?_)
      refine Ex.sti (w1.1.les hq1 hq2 (by decide)) (fun h5 h5e i5 => ?_)
      have w5 : ST b n (.ok (nx b n Q)) h5 := by rw [h5e] at i5 ⊢; exact ST.u (r := .ok (nx b n Q)) w1 i5 (by omega) (by omega)
      have m5 : KP g h5 := by rw [h5e]; exact (m3.tr (KP.x w2 (by decide) (by decide))).u hq1
      have q4 : h4 q = h3 q := KP.q w2 (by omega)
      have y1 : (h5 q 1).toInt = 0 := by rw [h5e, upd2_nj (by decide), q4, u3.1]; exact a1
      have y2 : h5 q 2 = 0 := by rw [h5e, upd2_nj (by decide), q4, u3.2.1]; exact a2
      refine s_num hfu w5 (fun x13 h6 L6 t6 f6 v6 => ?_)
      rw [bn_ok] at t6
      have t6 : ST b n (nuS b n 1 6 (nx b n Q)) h6 := t6
      refine Ex.sti (t6.I.les hq1 hq2 (by decide)) (fun h7 h7e i7 => ?_)
      have t7 : ST b n (nuS b n 1 6 (nx b n Q)) h7 := by rw [h7e] at i7 ⊢; exact t6.u i7 (by omega) (by omega)
      have m7 : KP g h7 := by rw [h7e]; exact (m5.tr (KP.x f6 (by decide) (by decide))).u hq1
      have q6 : h6 q = h5 q := KP.q f6 (by omega)
      have z1 : (h7 q 1).toInt = 0 := by rw [h7e, upd2_nj (by decide), q6]; exact y1
      have z2 : h7 q 2 = 0 := by rw [h7e, upd2_nj (by decide), q6]; exact y2
      have z10 : h7 q 10 = x13 := by rw [h7e]; exact upd2_at
      have z22 : (h7 2 2).toInt = (l : Int) := by rw [m7.1 2 (by decide) (by decide)]; exact hl
      refine Ex.cb (s_waited hfu hq1 hq2 t7 (by omega) z1 z2) (fun _ h8 L8 hx => ?_)
      rw [z22, z10] at hx
      have e9 : bn (nuS b n 1 6 (nx b n Q)) (waS b n (l : Int) x13.toInt 8 []) = bn (nuS b n 1 6 (nx b n Q)) (waS b n (l : Int) (tV b n (nx b n Q)) 8 []) := by
        refine bn_cg (fun Q' hQ' => ?_)
        have hn : nuC b n 1 6 (nx b n Q) := by
          by_cases h : nuC b n 1 6 (nx b n Q)
          · exact h
          · unfold nuS at hQ'; rw [nB_f h] at hQ'; exact nomatch hQ'
        rw [v6 _ rfl hn]
      rw [e9] at hx
      have k := tail _ h8 L8 hx.1 (m7.tr hx.2)
      rw [bn_as] at k
      exact k
    · rw [wB_f (fun h => hw2 ((xW_isW t3 _).mpr h)), if_neg (by decide)]
      have k := tail (.ok Q) h3 L11 t3 m3
      rw [bn_ok] at k
      exact k
