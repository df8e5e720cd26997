/-! ===== the class's lines ===== -/
theorem bn_as {r : sR} {k1 k2 : Nat → sR} : bn (bn r k1) k2 = bn r (fun P => bn (k1 P) k2) := by cases r <;> rfl
theorem bn_cg {r : sR} {k1 k2 : Nat → sR} (h : ∀ P, r = .ok P → k1 P = k2 P) : bn r k1 = bn r k2 := by
  cases r with
  | error p => rfl
  | ok P => exact h P rfl
/-- lessons' number may have grown -/
def K2 (q : Nat) (g g1 : gT) : Prop := (∀ k, k < 69 → k ≠ 5 → k ≠ 2 → g1 k = g k) ∧ (∀ j, j ≠ 2 → g1 2 j = g 2 j) ∧ g1 5 9 = g 5 9 ∧ g1 5 10 = g 5 10 ∧ (∀ k, 69 ≤ k → k ≠ q → k ≠ q + 24 → g1 k = g k)
theorem KP.k2 {q : Nat} {g g1 : gT} (h : KP q g g1) : K2 q g g1 := ⟨fun k a c _ => h.1 k a c, fun j _ => by rw [h.1 2 (by decide) (by decide)], h.2.1, h.2.2.1, h.2.2.2⟩
theorem K2.tr {q : Nat} {g g1 g2 : gT} (h1 : K2 q g g1) (h2 : K2 q g1 g2) : K2 q g g2 := ⟨fun k a c d => (h2.1 k a c d).trans (h1.1 k a c d), fun j hj => (h2.2.1 j hj).trans (h1.2.1 j hj), h2.2.2.1.trans h1.2.2.1, h2.2.2.2.1.trans h1.2.2.2.1, fun k a c d => (h2.2.2.2.2 k a c d).trans (h1.2.2.2.2 k a c d)⟩
theorem K2.refl {q : Nat} {g : gT} : K2 q g g := KP.refl.k2
theorem K2.b {q : Nat} {g : gT} {x : Int32} : K2 q g (upd2 g 2 2 x) := ⟨fun k _ _ h2 => funext fun i => upd2_nk h2, fun j hj => upd2_nj hj, rfl, rfl, fun k h _ _ => funext fun i => upd2_nk (by omega)⟩
set_option maxHeartbeats 4000000 in
theorem s_176 {fu : Nat} (hfu : 1180591620717411303424 ≤ fu) {b : Nat → Int32} {n q : Nat} {g : gT} {L : lT} {r : sR} (hq1 : 69 ≤ q) (hq2 : q < 81) (hs : ST b n r g) (hl : (g 2 2).toInt ≤ 11) : Ex (fX6_readLesson_5_p176 fu q g L) (fun (_ : Unit) g1 L1 => ST b n (bn r (ops b n)) g1 ∧ K2 q g g1 ∧ (g1 2 2).toInt = (g 2 2).toInt + 1 ∧ (∀ j, j < 11 → g1 q j = g q j) ∧ g1 (q + 24) = g (q + 24) ∧ (∀ R, bn r (ops b n) = .ok R → ∃ P, r = .ok P ∧ (g1 q 11).toInt = opV b n 8 99 P ∧ (g1 q 12).toInt = opV b n 9 10 (opN b n 8 P) ∧ (g1 q 13).toInt = opV b n 10 0 (opN b n 9 (opN b n 8 P)))) := by
  have q22 := hs.I 2 2 0 12 rfl
  unfold fX6_readLesson_5_p176
  refine s_opt_limit hfu hs (fun x1 g1 L1 s1 f1 o1 => ?_)
  refine Ex.sti (s1.I.les hq1 hq2 (by decide)) (fun g2 g2e i2 => ?_)
  have s2 : ST b n (bn r (opS b n 8 99)) g2 := by rw [g2e] at i2 ⊢; exact s1.u i2 (by omega) (by omega)
  have k2 : KP q g g2 := by rw [g2e]; exact (KP.x f1 (by decide) (by decide)).u hq1 (Or.inl rfl)
  refine s_opt_maybe hfu s2 (fun x3 g3 L3 s3 f3 o3 => ?_)
  refine Ex.sti (s3.I.les hq1 hq2 (by decide)) (fun g4 g4e i4 => ?_)
  have s4 : ST b n (bn (bn r (opS b n 8 99)) (opS b n 9 10)) g4 := by rw [g4e] at i4 ⊢; exact s3.u i4 (by omega) (by omega)
  have k4 : KP q g g4 := by rw [g4e]; exact (k2.tr (KP.x f3 (by decide) (by decide))).u hq1 (Or.inl rfl)
  refine s_opt_gap hfu s4 (fun x5 g5 L5 s5 f5 o5 => ?_)
  refine Ex.sti (s5.I.les hq1 hq2 (by decide)) (fun g6 g6e i6 => ?_)
  have s6 : ST b n (bn (bn (bn r (opS b n 8 99)) (opS b n 9 10)) (opS b n 10 30)) g6 := by rw [g6e] at i6 ⊢; exact s5.u i6 (by omega) (by omega)
  have k6 : KP q g g6 := by rw [g6e]; exact (k4.tr (KP.x f5 (by decide) (by decide))).u hq1 (Or.inl rfl)
  have e22 : g6 2 2 = g 2 2 := by rw [k6.1 2 (by decide) (by decide)]
  have ew : (g6 2 2 + 1).toInt = (g 2 2).toInt + 1 := by rw [e22]; exact ic_addc rfl (by decide) (by omega) (by omega)
  have j6 : ∀ j, j < 11 → g6 q j = g q j := fun j hj => by rw [g6e, upd2_nj (by omega), KP.q f5 (by omega), g4e, upd2_nj (by omega), KP.q f3 (by omega), g2e, upd2_nj (by omega), KP.q f1 (by omega)]
  have w6 : g6 (q + 24) = g (q + 24) := by
    have a2 : g2 (q + 24) = g1 (q + 24) := by rw [g2e]; exact funext fun i => upd2_nk (by omega)
    have a4 : g4 (q + 24) = g3 (q + 24) := by rw [g4e]; exact funext fun i => upd2_nk (by omega)
    have a6 : g6 (q + 24) = g5 (q + 24) := by rw [g6e]; exact funext fun i => upd2_nk (by omega)
    rw [a6, KP.q f5 (by omega), a4, KP.q f3 (by omega), a2, KP.q f1 (by omega)]
  have v13 : g6 q 13 = x5 := by rw [g6e]; exact upd2_at
  have v12 : g6 q 12 = x3 := by rw [g6e, upd2_nj (by decide), KP.q f5 (by omega), g4e]; exact upd2_at
  have v11 : g6 q 11 = x1 := by rw [g6e, upd2_nj (by decide), KP.q f5 (by omega), g4e, upd2_nj (by decide), KP.q f3 (by omega), g2e]; exact upd2_at
  refine Ex.sti (i6.upd (lo := 0) (hi := 12) rfl (by omega) (by omega)) (fun g7 g7e i7 => Ex.ret ⟨?_, ?_, ?_, fun j hj => ?_, ?_, fun R hR => ?_⟩)
  · have s7 : ST b n (bn (bn (bn r (opS b n 8 99)) (opS b n 9 10)) (opS b n 10 30)) g7 := by rw [g7e] at i7 ⊢; exact s6.u i7 (by decide) (by decide)
    rw [bn_as, bn_as] at s7
    exact s7
  · rw [g7e]; exact k6.k2.tr K2.b
  · rw [g7e, upd2_at]; exact ew
  · rw [g7e, upd2_nk (by omega)]; exact j6 j hj
  · rw [← w6, g7e]; exact funext fun i => upd2_nk (by omega)
  · have hR : bn (bn (bn r (opS b n 8 99)) (opS b n 9 10)) (opS b n 10 30) = .ok R := by rw [bn_as, bn_as]; exact hR
    obtain ⟨P3, a3, b3, -⟩ := o5 R hR
    obtain ⟨P2, a2, b2, c2⟩ := o3 P3 a3
    obtain ⟨P1, a1, b1, c1⟩ := o1 P2 a2
    refine ⟨P1, a1, ?_, ?_, ?_⟩
    · rw [g7e, upd2_nk (by omega), v11]; exact b1
    · rw [g7e, upd2_nk (by omega), v12, ← c1]; exact b2
    · rw [g7e, upd2_nk (by omega), v13, ← c1, ← c2]; exact b3
/-- what a line leaves alone: all but the plan that is being read, and the parser; and the first bound of the rules -/
def FL (g g1 : gT) : Prop := (∀ k, (k < 69 ∨ 81 ≤ k ∧ k < 93) → k ∉ [2, 4, 5, 22, 23] → g1 k = g k) ∧ g1 23 0 = g 23 0
theorem FL.refl {g : gT} : FL g g := ⟨fun _ _ _ => rfl, rfl⟩
theorem FL.tr {g g1 g2 : gT} (h1 : FL g g1) (h2 : FL g1 g2) : FL g g2 := ⟨fun k a c => (h2.1 k a c).trans (h1.1 k a c), h2.2.trans h1.2⟩
theorem FX.flc {g g1 : gT} {A B : List Nat} (h : FX A B g g1) (hB : ∀ k ∈ B, k ∈ [2, 4, 5, 22, 23]) (h0 : g1 23 0 = g 23 0) : FL g g1 := ⟨fun k _ c => h.2 k (fun e => c (by rw [e]; decide)) (fun hk => c (hB k hk)), h0⟩
theorem FX.fl {g g1 : gT} {A B : List Nat} (h : FX A B g g1) (hB : ∀ k ∈ B, k ∈ [2, 4, 5, 22]) : FL g g1 := h.flc (fun k hk => by
  have := hB k hk
  revert this
  simp only [List.mem_cons, List.not_mem_nil, or_false]
  omega) (by rw [h.2 23 (by decide) (fun hk => absurd (hB 23 hk) (by decide))])
theorem K2.fl {q : Nat} {g g1 : gT} (h : K2 q g g1) (h1 : 69 ≤ q) (h2 : q < 81) : FL g g1 := ⟨fun k a c => by
  rcases a with a | a
  · exact h.1 k a (fun e => c (by rw [e]; decide)) (fun e => c (by rw [e]; decide))
  · exact h.2.2.2.2 k (by omega) (by omega) (by omega), by rw [h.1 23 (by decide) (by decide) (by decide)]⟩
/-- a lesson's cells hold what its line tells -/
def LX (b : Nat → Int32) (n P q : Nat) (g : gT) : Prop := (∀ j, 3 ≤ j → j ≤ 13 → (g q j).toInt = leV b n P j) ∧ wX (leA b n P) q g
set_option maxHeartbeats 8000000 in
theorem s_lesson {fu : Nat} (hfu : 1180591620717411303424 ≤ fu) {b : Nat → Int32} {n P l : Nat} {g : gT} {L : lT} (hc : cX b n P g) (hl : (g 2 2).toInt = (l : Int)) : Ex (fX6_readLesson_5 fu g L) (fun (_ : Unit) g1 L1 => ST b n (if l < 12 then leS b n l P else .error P) g1 ∧ K2 (69 + l) g g1 ∧ (l < 12 → (g1 2 2).toInt = (l : Int) + 1) ∧ FL g g1 ∧ (∀ R, (if l < 12 then leS b n l P else .error P) = .ok R → LX b n P (69 + l) g1)) := by
  unfold fX6_readLesson_5
  refine Ex.ite (fun c => ?_) (fun c => ?_)
  rotate_left
  · have c := icc_nlt (m := (g 2 2).toInt) (n := 12) rfl (by decide) c
    rw [if_neg (by omega)]
    exact x_ref (by decide) hc (fun g1 k1 k2 => Ex.ret ⟨k1, (KP.x k2 (by decide) (by decide)).k2, fun h => by omega, k2.fl (by decide), fun R h => nomatch h⟩)
  have c := icc_lt (m := (g 2 2).toInt) (n := 12) rfl (by decide) c
  have hl12 : l < 12 := by omega
  rw [if_pos hl12]
  refine Ex.ck (by omega) (by omega) ?_
  refine Ex.ltn (fun q hq => ?_)
  have eq : q = 69 + l := by rw [hq, nc, hl]; omega
  rw [← eq]
  have hq1 : 69 ≤ q := by omega
  have hq2 : q < 81 := by omega
  clear hq
  -- a fresh lesson
  have hI := hc.1
  have e : fX5_clear_les fu q g L = some ((), (upd2 (upd2 (upd2 (upd2 g q 9 2) q 10 0) q 1 0) q 2 0, L)) := rfl
  rw [e]
  generalize hga : upd2 (upd2 (upd2 (upd2 g q 9 2) q 10 0) q 1 0) q 2 0 = ga
  have hIa : zI XT ga := by
    rw [← hga]
    exact (((hI.les hq1 hq2 (by decide)).les hq1 hq2 (by decide)).upd (xt_les (by omega) hq2) (by decide) (by decide)).les hq1 hq2 (by decide)
  have ka : KP q g ga := by rw [← hga]; exact (((KP.refl.u hq1 (Or.inl rfl)).u hq1 (Or.inl rfl)).u hq1 (Or.inl rfl)).u hq1 (Or.inl rfl)
  have sa : ST b n (.ok P) ga := by
    have hF : FX [] [q] g ga := by rw [← hga]; exact (((FX.refl.uk (by omega) (List.mem_singleton.mpr rfl)).uk (by omega) (List.mem_singleton.mpr rfl)).uk (by omega) (List.mem_singleton.mpr rfl)).uk (by omega) (List.mem_singleton.mpr rfl)
    exact hc.fr hIa hF (by decide) (by decide) (by decide) (by decide) (by decide) (by decide) (by decide) (fun h => by have := List.mem_singleton.mp h; omega)
  have a1 : (ga q 1).toInt = 0 := by rw [← hga, upd2_nj (by decide), upd2_at]; rfl
  have a2 : ga q 2 = 0 := by rw [← hga, upd2_at]
  have a10 : (ga q 10).toInt = 0 := by rw [← hga, upd2_nj (by decide), upd2_nj (by decide), upd2_at]; rfl
  have a9 : (ga q 9).toInt = 2 := by rw [← hga, upd2_nj (by decide), upd2_nj (by decide), upd2_nj (by decide), upd2_at]; rfl
  refine Ex.cb (P := fun (_ : Unit) g1 L1 => g1 = ga ∧ L1 = L) ⟨(), ga, L, rfl, rfl, rfl⟩ (fun _ gx Lx hx => ?_)
  rw [hx.1, hx.2]
  clear hx gx Lx
  refine s_adv hfu sa (fun gb Lb sb fb => ?_)
  rw [bn_ok] at sb
  have kb := ka.tr (KP.x fb (by decide) (by decide))
  have bq : gb q = ga q := KP.q fb (by omega)
  -- a number is read and stored
  have keep : ∀ {g1 g2 g3 : gT} {j : Nat} {x : Int32}, FX [3, 4, 5, 6, 7, 8] [] g1 g2 → g3 = upd2 g2 q j x → g3 q j = x ∧ ∀ i, i ≠ j → g3 q i = g1 q i := by
    intro g1 g2 g3 j x hf e
    rw [e]
    exact ⟨upd2_at, fun i hi => by rw [upd2_nj hi, KP.q hf (show q ≠ 5 by omega)]⟩
  refine s_num hfu sb (fun x1 g1 L1 s1 f1 v1 => ?_)
  rw [bn_ok] at s1
  have s1 : ST b n (nuS b n 0 999 (nx b n P)) g1 := s1
  refine Ex.sti (s1.I.les hq1 hq2 (by decide)) (fun g2 g2e i2 => ?_)
  have s2 : ST b n (nuS b n 0 999 (nx b n P)) g2 := by rw [g2e] at i2 ⊢; exact s1.u i2 (by omega) (by omega)
  have k2 : KP q g g2 := by rw [g2e]; exact (kb.tr (KP.x f1 (by decide) (by decide))).u hq1 (Or.inl rfl)
  have r2 := keep f1 g2e
  have e23 : g2 q 3 = x1 := by rw [g2e]; exact upd2_at
  rw [e23]
  refine s_num hfu s2 (fun x3 g3 L3 s3 f3 v3 => ?_)
  have s3 : ST b n (bn (nuS b n 0 999 (nx b n P)) (nuS b n (tV b n (nx b n P) + 1) 999)) g3 := by
    have e9 : bn (nuS b n 0 999 (nx b n P)) (nuS b n (tV b n (nx b n P) + 1) 999) = bn (nuS b n 0 999 (nx b n P)) (nuS b n (x1 + 1).toInt (999 : Int32).toInt) := by
      refine bn_cg (fun Q hQ => ?_)
      have hn : nuC b n 0 999 (nx b n P) := by
        by_cases h : nuC b n 0 999 (nx b n P)
        · exact h
        · unfold nuS at hQ; rw [nB_f h] at hQ; exact nomatch hQ
      have hv := v1 _ rfl hn
      have h1 := hn.2.2.1
      have h2 := hn.2.2.2
      rw [ic_addc hv (n := 1) (by decide) (by omega) (by omega)]
      rfl
    rw [e9]; exact s3
  clear s2 e23
  refine Ex.sti (s3.I.les hq1 hq2 (by decide)) (fun g4 g4e i4 => ?_)
  have s4 := by have := s3.u (k := q) (j := 4) (x := x3) (by rw [← g4e]; exact i4) (by omega) (by omega); rw [← g4e] at this; exact this
  have k4 : KP q g g4 := by rw [g4e]; exact (k2.tr (KP.x f3 (by decide) (by decide))).u hq1 (Or.inl rfl)
  have r4 := keep f3 g4e
  clear s3 g4e
  refine s_num hfu s4 (fun x5 g5 L5 s5 f5 v5 => ?_)
  refine Ex.sti (s5.I.les hq1 hq2 (by decide)) (fun g6 g6e i6 => ?_)
  have s6 := by have := s5.u (k := q) (j := 5) (x := x5) (by rw [← g6e]; exact i6) (by omega) (by omega); rw [← g6e] at this; exact this
  have k6 : KP q g g6 := by rw [g6e]; exact (k4.tr (KP.x f5 (by decide) (by decide))).u hq1 (Or.inl rfl)
  have r6 := keep f5 g6e
  clear s5 g6e
  refine s_num hfu s6 (fun x7 g7 L7 s7 f7 v7 => ?_)
  refine Ex.sti (s7.I.les hq1 hq2 (by decide)) (fun g8 g8e i8 => ?_)
  have s8 := by have := s7.u (k := q) (j := 6) (x := x7) (by rw [← g8e]; exact i8) (by omega) (by omega); rw [← g8e] at this; exact this
  have k8 : KP q g g8 := by rw [g8e]; exact (k6.tr (KP.x f7 (by decide) (by decide))).u hq1 (Or.inl rfl)
  have r8 := keep f7 g8e
  clear s7 g8e
  refine s_num hfu s8 (fun x9 g9 L9 s9 f9 v9 => ?_)
  refine Ex.sti (s9.I.les hq1 hq2 (by decide)) (fun h1 h1e i1 => ?_)
  have t1 := by have := s9.u (k := q) (j := 7) (x := x9) (by rw [← h1e]; exact i1) (by omega) (by omega); rw [← h1e] at this; exact this
  have m1 : KP q g h1 := by rw [h1e]; exact (k8.tr (KP.x f9 (by decide) (by decide))).u hq1 (Or.inl rfl)
  have u1 := keep f9 h1e
  clear s9 h1e
  refine s_num hfu t1 (fun x11 h2 L11 t2 f11 v11 => ?_)
  refine Ex.sti (t2.I.les hq1 hq2 (by decide)) (fun h3 h3e i3 => ?_)
  have t3 := by have := t2.u (k := q) (j := 8) (x := x11) (by rw [← h3e]; exact i3) (by omega) (by omega); rw [← h3e] at this; exact this
  have m3 : KP q g h3 := by rw [h3e]; exact (m1.tr (KP.x f11 (by decide) (by decide))).u hq1 (Or.inl rfl)
  have u3 := keep f11 h3e
  have V8 : h3 q 8 = x11 := u3.1
  have V7 : h3 q 7 = x9 := (u3.2 7 (by decide)).trans u1.1
  have V6 : h3 q 6 = x7 := (u3.2 6 (by decide)).trans ((u1.2 6 (by decide)).trans r8.1)
  have V5 : h3 q 5 = x5 := (u3.2 5 (by decide)).trans ((u1.2 5 (by decide)).trans ((r8.2 5 (by decide)).trans r6.1))
  have V4 : h3 q 4 = x3 := (u3.2 4 (by decide)).trans ((u1.2 4 (by decide)).trans ((r8.2 4 (by decide)).trans ((r6.2 4 (by decide)).trans r4.1)))
  have V3 : h3 q 3 = x1 := (u3.2 3 (by decide)).trans ((u1.2 3 (by decide)).trans ((r8.2 3 (by decide)).trans ((r6.2 3 (by decide)).trans ((r4.2 3 (by decide)).trans r2.1))))
  have VV : ∀ j, j ≠ 3 → j ≠ 4 → j ≠ 5 → j ≠ 6 → j ≠ 7 → j ≠ 8 → h3 q j = ga q j := fun j c3 c4 c5 c6 c7 c8 => (u3.2 j c8).trans ((u1.2 j c7).trans ((r8.2 j c6).trans ((r6.2 j c5).trans ((r4.2 j c4).trans ((r2.2 j c3).trans (by rw [bq]))))))
  replace u3 : h3 q 1 = ga q 1 ∧ h3 q 2 = ga q 2 ∧ h3 q 10 = ga q 10 ∧ h3 q 9 = ga q 9 := ⟨VV 1 (by decide) (by decide) (by decide) (by decide) (by decide) (by decide), VV 2 (by decide) (by decide) (by decide) (by decide) (by decide) (by decide), VV 10 (by decide) (by decide) (by decide) (by decide) (by decide) (by decide), VV 9 (by decide) (by decide) (by decide) (by decide) (by decide) (by decide)⟩
  clear VV r2 r4 r6 r8 u1
  clear t2 h3e
  -- the rest
  generalize hσ : bn (bn (bn (bn (bn (nuS b n 0 999 (nx b n P)) (nuS b n (tV b n (nx b n P) + 1) 999)) (nuS b n (Int32.toInt 1) (Int32.toInt 200))) (nuS b n (Int32.toInt 0) (Int32.toInt 60))) (nuS b n (Int32.toInt 0) (Int32.toInt 9))) (nuS b n (Int32.toInt 1) (Int32.toInt 99)) = σ at t3
  have num : ∀ Q, σ = .ok Q → Q = nxI b n 7 P ∧ x1.toInt = leV b n P 3 ∧ x3.toInt = leV b n P 4 ∧ x5.toInt = leV b n P 5 ∧ x7.toInt = leV b n P 6 ∧ x9.toInt = leV b n P 7 ∧ x11.toInt = leV b n P 8 := by
    intro Q hQ
    rw [← hσ] at hQ
    obtain ⟨P6, b6, c6, d6⟩ := nu_ok hQ (fun P' e h => v11 P' e h)
    obtain ⟨P5, b5, c5, d5⟩ := nu_ok b6 (fun P' e h => v9 P' e h)
    obtain ⟨P4, b4, c4, d4⟩ := nu_ok b5 (fun P' e h => v7 P' e h)
    obtain ⟨P3, b3, c3, d3⟩ := nu_ok b4 (fun P' e h => v5 P' e h)
    obtain ⟨P2, b2, c2⟩ := bn_inv b3
    have n1 := nuS_ok b2
    have n2 := nuS_ok c2
    have d1 := v1 _ rfl n1.1
    have d2 := v3 P2 b2 (by
      have e : (x1 + 1).toInt = tV b n (nx b n P) + 1 := by
        have h1 := n1.1.2.2.1
        have h2 := n1.1.2.2.2
        exact ic_addc d1 (by decide) (by omega) (by omega)
      rw [e]; exact n2.1)
    obtain rfl : P2 = nxI b n 2 P := n1.2
    obtain rfl : P3 = nxI b n 3 P := n2.2
    obtain rfl : P4 = nxI b n 4 P := c3
    obtain rfl : P5 = nxI b n 5 P := c4
    obtain rfl : P6 = nxI b n 6 P := c5
    exact ⟨c6, d1, d2, d3, d4, d5, d6⟩
  clear v1 v3 v5 v7 v9 v11
  have hle : leS b n (l : Int) P = bn σ (tlS b n (l : Int)) := by
    rw [← hσ, bn_as, bn_as, bn_as, bn_as, bn_as]; rfl
  rw [hle]
  have e22 : (h3 2 2).toInt = (l : Int) := by rw [m3.1 2 (by decide) (by decide)]; exact hl
  have tail : ∀ (r : sR) (g' : gT) (L' : lT), ST b n r g' → KP q g g' → (∀ R, r = .ok R → ∃ Q, σ = .ok Q ∧ R = (leL b n Q).2 ∧ (∀ j, 3 ≤ j → j ≤ 8 → g' q j = h3 q j) ∧ (g' q 9).toInt = leV b n P 9 ∧ (g' q 10).toInt = leV b n P 10 ∧ wX (leL b n Q).1 q g') → Ex (fX6_readLesson_5_p176 fu q g' L') (fun (_ : Unit) g1 L1 => ST b n (bn r (ops b n)) g1 ∧ K2 q g g1 ∧ (l < 12 → (g1 2 2).toInt = (l : Int) + 1) ∧ FL g g1 ∧ (∀ R, bn r (ops b n) = .ok R → LX b n P q g1)) := by
    intro r g' L' k1 k2 k3
    have e : (g' 2 2).toInt = (l : Int) := by rw [k2.1 2 (by decide) (by decide)]; exact hl
    refine (s_176 hfu hq1 hq2 k1 (by omega)).mono (fun _ g1 L1 hq => ⟨hq.1, k2.k2.tr hq.2.1, fun _ => by rw [hq.2.2.1, e], (k2.k2.tr hq.2.1).fl hq1 hq2, fun R hR => ?_⟩)
    obtain ⟨-, -, -, j1, w1, o1⟩ := hq
    obtain ⟨P', e1, o11, o12, o13⟩ := o1 R hR
    obtain ⟨Q, eQ, eR, y1, y9, y10, yw⟩ := k3 P' e1
    obtain ⟨eq7, n3, n4, n5, n6, n7, n8⟩ := num Q eQ
    subst eq7
    subst eR
    refine ⟨fun j hj1 hj2 => ?_, ?_⟩
    · rcases (by omega : j = 3 ∨ j = 4 ∨ j = 5 ∨ j = 6 ∨ j = 7 ∨ j = 8 ∨ j = 9 ∨ j = 10 ∨ j = 11 ∨ j = 12 ∨ j = 13) with rfl | rfl | rfl | rfl | rfl | rfl | rfl | rfl | rfl | rfl | rfl
      · rw [j1 3 (by decide), y1 3 (by decide) (by decide), V3]; exact n3
      · rw [j1 4 (by decide), y1 4 (by decide) (by decide), V4]; exact n4
      · rw [j1 5 (by decide), y1 5 (by decide) (by decide), V5]; exact n5
      · rw [j1 6 (by decide), y1 6 (by decide) (by decide), V6]; exact n6
      · rw [j1 7 (by decide), y1 7 (by decide) (by decide), V7]; exact n7
      · rw [j1 8 (by decide), y1 8 (by decide) (by decide), V8]; exact n8
      · rw [j1 9 (by decide)]; exact y9
      · rw [j1 10 (by decide)]; exact y10
      · exact o11
      · exact o12
      · exact o13
    · refine ⟨?_, ?_, fun i hi => ?_⟩
      · rw [j1 1 (by decide)]; exact yw.1
      · rw [j1 2 (by decide)]; exact yw.2.1
      · rw [w1]; exact yw.2.2 i hi
  cases σ with
  | error p =>
    have t3 : bX p h3 := t3
    refine e_allW hfu i3 (fun h => absurd h (xW_B t3.2.1 _)) (fun _ => ?_)
    exact e_someW hfu i3 (fun h => absurd h (xW_B t3.2.1 _)) (fun _ => tail (.error p) h3 L11 t3 m3 (fun R h => nomatch h))
  | ok Q =>
    have t3 : cX b n Q h3 := t3
    rw [bn_ok]
    unfold tlS
    have eq7 : Q = nxI b n 7 P := (num Q rfl).1
    refine e_allW hfu i3 (fun hw => ?_) (fun hw => ?_)
    · have hw := (xW_isW t3 _).mp hw
      rw [wB_t hw, if_pos rfl]
      refine x_adv hfu t3 (fun h4 L4 w1 w2 => ?_)
      refine Ex.sti (w1.1.les hq1 hq2 (by decide)) (fun h5 h5e i5 => ?_)
      have w5 : ST b n (.ok (nx b n Q)) h5 := by rw [h5e] at i5 ⊢; exact ST.u (r := .ok (nx b n Q)) w1 i5 (by omega) (by omega)
      have m5 : KP q g h5 := by rw [h5e]; exact (m3.tr (KP.x w2 (by decide) (by decide))).u hq1 (Or.inl rfl)
      have q4 : h4 q = h3 q := KP.q w2 (by omega)
      have y1 : (h5 q 1).toInt = 0 := by rw [h5e, upd2_nj (by decide), q4, u3.1]; exact a1
      have y2 : h5 q 2 = 0 := by rw [h5e, upd2_nj (by decide), q4, u3.2.1]; exact a2
      have y10 : (h5 q 10).toInt = 0 := by rw [h5e, upd2_nj (by decide), q4, u3.2.2.1]; exact a10
      have y9 : (h5 q 9).toInt = 0 := by rw [h5e, upd2_at]; rfl
      have yj : ∀ j, j ≠ 9 → h5 q j = h3 q j := fun j hj => by rw [h5e, upd2_nj hj, q4]
      have y22 : (h5 2 2).toInt = (l : Int) := by rw [m5.1 2 (by decide) (by decide)]; exact hl
      refine Ex.cb (s_waited hfu hq1 hq2 w5 (by omega) y1 y2) (fun _ h6 L6 hx => ?_)
      rw [bn_ok, y22, y10] at hx
      refine tail _ h6 L6 hx.1 (m5.tr hx.2.1) (fun R hR => ⟨Q, rfl, ?_⟩)
      have z := hx.2.2.2 R hR
      have e1 : leL b n Q = waL b n 8 [] (nx b n Q) := by unfold leL; rw [wB_t hw]; rfl
      rw [e1]
      refine ⟨z.1, fun j hj1 hj2 => ?_, ?_, ?_, z.2⟩
      · rw [hx.2.2.1 j (by omega) (by omega)]; exact yj j (by omega)
      · rw [hx.2.2.1 9 (by decide) (by decide), y9]; show 0 = if wB b n (nxI b n 7 P) 6 then _ else _; rw [← eq7, wB_t hw]; rfl
      · rw [hx.2.2.1 10 (by decide) (by decide), y10]; show 0 = if wB b n (nxI b n 7 P) 6 then _ else _; rw [← eq7, wB_t hw]; rfl
    have hw' : wB b n Q 6 = false := wB_f (fun h => hw ((xW_isW t3 _).mpr h))
    rw [hw', if_neg (by decide)]
    refine e_someW hfu i3 (fun hw2 => ?_) (fun hw2 => ?_)
    · have hw2 := (xW_isW t3 _).mp hw2
      rw [wB_t hw2, if_pos rfl]
      refine x_adv hfu t3 (fun h4 L4 w1 w2 => ?_)
      refine Ex.sti (w1.1.les hq1 hq2 (by decide)) (fun h5 h5e i5 => ?_)
      have w5 : ST b n (.ok (nx b n Q)) h5 := by rw [h5e] at i5 ⊢; exact ST.u (r := .ok (nx b n Q)) w1 i5 (by omega) (by omega)
      have m5 : KP q g h5 := by rw [h5e]; exact (m3.tr (KP.x w2 (by decide) (by decide))).u hq1 (Or.inl rfl)
      have q4 : h4 q = h3 q := KP.q w2 (by omega)
      have y1 : (h5 q 1).toInt = 0 := by rw [h5e, upd2_nj (by decide), q4, u3.1]; exact a1
      have y2 : h5 q 2 = 0 := by rw [h5e, upd2_nj (by decide), q4, u3.2.1]; exact a2
      refine s_num hfu w5 (fun x13 h6 L6 t6 f6 v6 => ?_)
      rw [bn_ok] at t6
      have t6 : ST b n (nuS b n 1 6 (nx b n Q)) h6 := t6
      refine Ex.sti (t6.I.les hq1 hq2 (by decide)) (fun h7 h7e i7 => ?_)
      have t7 : ST b n (nuS b n 1 6 (nx b n Q)) h7 := by rw [h7e] at i7 ⊢; exact t6.u i7 (by omega) (by omega)
      have m7 : KP q g h7 := by rw [h7e]; exact (m5.tr (KP.x f6 (by decide) (by decide))).u hq1 (Or.inl rfl)
      have q6 : h6 q = h5 q := KP.q f6 (by omega)
      have z1 : (h7 q 1).toInt = 0 := by rw [h7e, upd2_nj (by decide), q6]; exact y1
      have z2 : h7 q 2 = 0 := by rw [h7e, upd2_nj (by decide), q6]; exact y2
      have z10 : h7 q 10 = x13 := by rw [h7e]; exact upd2_at
      have z9 : (h7 q 9).toInt = 1 := by rw [h7e, upd2_nj (by decide), q6, h5e, upd2_at]; rfl
      have zj : ∀ j, j ≠ 9 → j ≠ 10 → h7 q j = h3 q j := fun j hj hj2 => by rw [h7e, upd2_nj hj2, q6, h5e, upd2_nj hj, q4]
      have z22 : (h7 2 2).toInt = (l : Int) := by rw [m7.1 2 (by decide) (by decide)]; exact hl
      refine Ex.cb (s_waited hfu hq1 hq2 t7 (by omega) z1 z2) (fun _ h8 L8 hx => ?_)
      rw [z22, z10] at hx
      have e9 : bn (nuS b n 1 6 (nx b n Q)) (waS b n (l : Int) x13.toInt 8 []) = bn (nuS b n 1 6 (nx b n Q)) (waS b n (l : Int) (tV b n (nx b n Q)) 8 []) := by
        refine bn_cg (fun Q' hQ' => ?_)
        have hn : nuC b n 1 6 (nx b n Q) := by
          by_cases h : nuC b n 1 6 (nx b n Q)
          · exact h
          · unfold nuS at hQ'; rw [nB_f h] at hQ'; exact nomatch hQ'
        rw [v6 _ rfl hn]
      rw [e9] at hx
      have k := tail _ h8 L8 hx.1 (m7.tr hx.2.1) (fun R hR => ⟨Q, rfl, by
        obtain ⟨P8, g8, -⟩ := bn_inv hR
        have n8 := nuS_ok g8
        have z := hx.2.2.2 R hR
        rw [g8] at z
        have z : R = (waL b n 8 [] P8).2 ∧ wX (waL b n 8 [] P8).1 q h8 := z
        rw [n8.2] at z
        have e1 : leL b n Q = waL b n 8 [] (nx b n (nx b n Q)) := by unfold leL; rw [hw', if_neg (by decide), wB_t hw2]; rfl
        rw [e1]
        refine ⟨z.1, fun j hj1 hj2 => ?_, ?_, ?_, z.2⟩
        · rw [hx.2.2.1 j (by omega) (by omega)]; exact zj j (by omega) (by omega)
        · rw [hx.2.2.1 9 (by decide) (by decide), z9]; show 1 = if wB b n (nxI b n 7 P) 6 then (0 : Int) else if wB b n (nxI b n 7 P) 7 then 1 else 2; rw [← eq7, hw', wB_t hw2]; rfl
        · rw [hx.2.2.1 10 (by decide) (by decide), z10, v6 _ rfl n8.1]; show _ = if wB b n (nxI b n 7 P) 6 then (0 : Int) else if wB b n (nxI b n 7 P) 7 then _ else 0; rw [← eq7, hw', wB_t hw2]; rfl⟩)
      rw [bn_as] at k
      exact k
    · have hw2' : wB b n Q 7 = false := wB_f (fun h => hw2 ((xW_isW t3 _).mpr h))
      rw [hw2', if_neg (by decide)]
      have k := tail (.ok Q) h3 L11 t3 m3 (fun R hR => ⟨Q, rfl, by
        cases hR
        have e1 : leL b n Q = ([], Q) := by unfold leL; rw [hw', if_neg (by decide), hw2', if_neg (by decide)]
        rw [e1]
        refine ⟨rfl, fun j _ _ => rfl, ?_, ?_, ?_, ?_, fun i hi => absurd hi (Nat.not_lt_zero _)⟩
        · rw [u3.2.2.2, a9]; show 2 = if wB b n (nxI b n 7 P) 6 then (0 : Int) else if wB b n (nxI b n 7 P) 7 then 1 else 2; rw [← eq7, hw', hw2']; rfl
        · rw [u3.2.2.1, a10]; show 0 = if wB b n (nxI b n 7 P) 6 then (0 : Int) else if wB b n (nxI b n 7 P) 7 then _ else 0; rw [← eq7, hw', hw2']; rfl
        · rw [u3.1]; exact a1
        · rw [u3.2.1]; exact a2⟩)
      rw [bn_ok] at k
      exact k
