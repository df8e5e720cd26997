section
/-! ===== the class's lines, one after another ===== -/
/-- the code of a rule; where it begins -/
def xc (b : Nat → Int32) (n P : Nat) : List Int := match xs b n xF 6 0 [] P with
  | .error _ => []
  | .ok q => q.1
def oR (b : Nat → Int32) (n : Nat) (ρ : Nat → Nat) : Nat → Nat
  | 0 => 0
  | r + 1 => oR b n ρ r + (xc b n (ρ r)).length
theorem oR_up {b : Nat → Int32} {n : Nat} {ρ : Nat → Nat} {k v : Nat} : ∀ {r : Nat}, r ≤ k → oR b n (upN ρ k v) r = oR b n ρ r := by
  intro r
  induction r with
  | zero => intro _; rfl
  | succ r ih =>
    intro h
    show oR b n (upN ρ k v) r + (xc b n (upN ρ k v r)).length = oR b n ρ r + (xc b n (ρ r)).length
    rw [ih (by omega), upN_ne (by omega)]
theorem oR_le {b : Nat → Int32} {n : Nat} {ρ : Nat → Nat} {k : Nat} : ∀ {r : Nat}, k ≤ r → oR b n ρ k ≤ oR b n ρ r := by
  intro r
  induction r with
  | zero => intro h; obtain rfl : k = 0 := by omega
            exact Nat.le_refl _
  | succ r ih =>
    intro h
    by_cases e : k = r + 1
    · rw [e]; exact Nat.le_refl _
    · exact Nat.le_trans (ih (by omega)) (Nat.le_add_right _ _)
/-- rules, as the class keeps them: bounds in one cell, steps in another -/
def RX (b : Nat → Int32) (n m : Nat) (ρ : Nat → Nat) (u : Int) (bo st : Nat → Int32) : Prop := (∀ r, r ≤ m → (bo r).toInt = (oR b n ρ r : Int)) ∧ u = (oR b n ρ m : Int) ∧ ∀ r, r < m → ∀ i, i < (xc b n (ρ r)).length → (st (oR b n ρ r + i)).toInt = (xc b n (ρ r)).getD i 0
/-- the plan that is being read holds what the lines have told -/
def dX (b : Nat → Int32) (n : Nat) (t : tS) (D : dT) (g : gT) : Prop := (∀ i, i < t.1 → LX b n (D.1 i) (69 + i) g) ∧ (g 2 3).toInt = D.2.2.1 ∧ (g 2 4).toInt = D.2.2.2 ∧ RX b n t.2.1 D.2.1 (g 4 4).toInt (g 23) (g 22)
theorem LX.c {b : Nat → Int32} {n P q : Nat} {g g1 : gT} (h : LX b n P q g) (h1 : g1 q = g q) (h2 : g1 (q + 24) = g (q + 24)) : LX b n P q g1 := by
  refine ⟨fun j a c => by rw [h1]; exact h.1 j a c, ?_, ?_, fun i hi => ?_⟩
  · rw [h1]; exact h.2.1
  · rw [h1]; exact h.2.2.1
  · rw [h2]; exact h.2.2.2 i hi
theorem dX.x {b : Nat → Int32} {n : Nat} {t : tS} {D : dT} {g g1 : gT} {A : List Nat} (h : dX b n t D g) (hF : FX A [] g g1) : dX b n t D g1 := by
  obtain ⟨h1, h2, h3, h4⟩ := h
  refine ⟨fun i hi => (h1 i hi).c (hF.2 _ (by omega) (List.not_mem_nil)) (hF.2 _ (by omega) (List.not_mem_nil)), ?_, ?_, ?_⟩
  · rw [hF.2 2 (by decide) (by decide)]; exact h2
  · rw [hF.2 2 (by decide) (by decide)]; exact h3
  · rw [hF.2 4 (by decide) (by decide), hF.2 23 (by decide) (by decide), hF.2 22 (by decide) (by decide)]; exact h4
/-- what has been told -/
def tX (b : Nat → Int32) (n : Nat) (t : tS) (D : dT) (P : Nat) (g : gT) : Prop := cX b n P g ∧ (g 2 2).toInt = (t.1 : Int) ∧ (g 4 3).toInt = (t.2.1 : Int) ∧ (g 5 9).toInt = (if t.2.2.1 then 1 else 0) ∧ (g 5 10).toInt = (if t.2.2.2 then 1 else 0) ∧ rm n P g ∧ dX b n t D g
def LPx (b : Nat → Int32) (n : Nat) (g : gT) (r : Except Nat (tS × Nat)) (D : dT) (g1 : gT) : Prop := FL g g1 ∧ (match r with
  | .error p => bX p g1
  | .ok q => tX b n q.1 D q.2 g1)
/-- what a line has told, its sign not yet read -/
def mX (b : Nat → Int32) (n : Nat) (t : tS) (D : dT) (P : Nat) (r : sR) (g : gT) : Prop := ST b n r g ∧ (∀ Q, r = .ok Q → P < Q ∧ Q ≤ n ∧ (g 2 2).toInt = (t.1 : Int) ∧ (g 4 3).toInt = (t.2.1 : Int) ∧ (g 5 9).toInt = (if t.2.2.1 then 1 else 0) ∧ (g 5 10).toInt = (if t.2.2.2 then 1 else 0) ∧ rm n Q g ∧ dX b n t D g)
theorem l_69 {fu : Nat} (hfu : 1180591620717411303424 ≤ fu) {b : Nat → Int32} {n P : Nat} {t : tS} {D : dT} {r : sR} {g0 g : gT} {L : lT} (hf : FL g0 g) (h : mX b n t D P r g) : Ex (fX6_readLine_5_p69 fu g L) (fun (_ : Unit) g1 L1 => LPx b n g0 (fnS b n r t) D g1) := by
  obtain ⟨h1, h2⟩ := h
  unfold fX6_readLine_5_p69
  refine s_sgn hfu h1 (fun g1 L1 s1 f1 => Ex.ret ⟨hf.tr (f1.fl (by decide)), ?_⟩)
  have s1 : ST b n (bn r (sgS b n 59)) g1 := s1
  unfold fnS
  cases r with
  | error p => exact s1
  | ok Q =>
    obtain ⟨y0, yn, y1, y2, y3, y4, y5, y6⟩ := h2 Q rfl
    rw [bn_ok] at s1 ⊢
    unfold sgS at s1 ⊢
    rcases sB_d b n Q 59 with ⟨hs, e⟩ | ⟨hs, e⟩
    · rw [e] at s1 ⊢
      have hn := nx_le (b := b) yn
      refine ⟨s1, ?_, ?_, ?_, ?_, ?_, y6.x f1⟩
      · rw [f1.2 2 (by decide) (by decide)]; exact y1
      · rw [f1.2 4 (by decide) (by decide)]; exact y2
      · rw [f1.1 9 (by decide)]; exact y3
      · rw [f1.1 10 (by decide)]; exact y4
      · have y5 : (g 4 4).toInt + (n : Int) ≤ 700 + (Q : Int) := y5
        show (g1 4 4).toInt + (n : Int) ≤ 700 + (nx b n Q : Int)
        rw [f1.2 4 (by decide) (by decide)]; omega
    · rw [e] at s1 ⊢
      exact s1
set_option maxHeartbeats 4000000 in
theorem l_walk {fu : Nat} (hfu : 1180591620717411303424 ≤ fu) {b : Nat → Int32} {n P : Nat} {t : tS} {D : dT} {g : gT} {L : lT} (h : tX b n t D P g) (hlt : P < n) : Ex (fX6_readWalk_5 fu g L) (fun (_ : Unit) g1 L1 => FL g g1 ∧ mX b n (t.1, t.2.1, true, t.2.2.2) (D.1, D.2.1, tV b n (nx b n P), D.2.2.2) P (if t.2.2.1 then .error P else nuS b n 0 9 (nx b n P)) g1) := by
  obtain ⟨hc, h1, h2, h3, h4, h5, h6⟩ := h
  have h5' : (g 4 4).toInt + (n : Int) ≤ 700 + (P : Int) := h5
  have P12 : ∀ (r : sR) (g' : gT) (L' : lT), ST b n r g' → FX [4, 7, 8] [] g g' → (∀ Q, r = .ok Q → Q = P) → Ex (fX6_readWalk_5_p12 fu g' L') (fun (_ : Unit) g1 L1 => FL g g1 ∧ mX b n (t.1, t.2.1, true, t.2.2.2) (D.1, D.2.1, tV b n (nx b n P), D.2.2.2) P (bn r (fun P => nuS b n 0 9 (nx b n P))) g1) := by
    intro r g' L' hs hf hr
    unfold fX6_readWalk_5_p12
    refine Ex.sti (hs.I.upd (lo := 0) (hi := 1) rfl (by decide) (by decide)) (fun ga gae ia => ?_)
    have sa : ST b n r ga := by rw [gae] at ia ⊢; exact hs.f ia (by decide)
    have fa : FX [4, 7, 8, 9] [] g ga := by rw [gae]; exact (hf.mo (by decide) (by decide)).u5 (by decide)
    have a9 : (ga 5 9).toInt = 1 := by rw [gae, upd2_at]; rfl
    refine s_adv hfu sa (fun gb Lb sb fb => ?_)
    refine s_num hfu sb (fun x gc Lc sc fc vx => ?_)
    rw [bn_as] at sc
    have sc : ST b n (bn r (fun P => nuS b n 0 9 (nx b n P))) gc := sc
    refine Ex.sti (sc.I.updN rfl) (fun gd gde id_ => ?_)
    have sd : ST b n (bn r (fun P => nuS b n 0 9 (nx b n P))) gd := by rw [gde] at id_ ⊢; exact sc.u id_ (by decide) (by decide)
    have fbc : FX [3, 4, 5, 6, 7, 8] [] ga gc := (fb.mo (by decide) (by decide)).tr fc
    have fd : FX [3, 4, 5, 6, 7, 8, 9] [2] g gd := by
      rw [gde]; exact (((fa.mo (by decide) (by decide)).tr (fbc.mo (by decide) (by decide))).uk (by decide) (by decide))
    have d22 : gd 2 2 = g 2 2 := by
      rw [gde, upd2_nj (by decide), fbc.2 2 (by decide) (by decide), fa.2 2 (by decide) (by decide)]
    refine Ex.ret ⟨fd.fl (by decide), sd, fun Q hQ => ?_⟩
    cases r with
    | error p => exact nomatch hQ
    | ok R =>
      obtain rfl := hr R rfl
      have hn := nx_le (b := b) hc.2.2.1
      have hq := nuS_le (b := b) hn.2.1 hQ
      have := hn.2.2 hlt
      refine ⟨by omega, hq.2, by rw [d22]; exact h1, ?_, ?_, ?_, ?_, ?_⟩
      · rw [fd.2 4 (by decide) (by decide)]; exact h2
      · rw [gde]; show (gc 5 9).toInt = _; rw [fbc.1 9 (by decide), a9]; rfl
      · rw [fd.1 10 (by decide)]; exact h4
      · show (gd 4 4).toInt + (n : Int) ≤ 700 + (Q : Int)
        rw [fd.2 4 (by decide) (by decide)]; omega
      · have fac : FX [3, 4, 5, 6, 7, 8, 9, 10] [] g gc := (fa.mo (by decide) (by decide)).tr (fbc.mo (by decide) (by decide))
        obtain ⟨z1, z2, z3, z4⟩ := h6.x fac
        have dk : ∀ k, k ≠ 2 → gd k = gc k := fun k hk => by rw [gde]; exact funext fun i => upd2_nk hk
        have hv : x.toInt = tV b n (nx b n R) := vx _ rfl (nuS_ok hQ).1
        refine ⟨fun i hi => (z1 i hi).c (dk _ (by omega)) (dk _ (by omega)), ?_, ?_, ?_⟩
        · rw [gde, upd2_at]; exact hv
        · rw [gde, upd2_nj (by decide)]; exact z3
        · rw [dk 4 (by decide), dk 23 (by decide), dk 22 (by decide)]; exact z4
  unfold fX6_readWalk_5
  refine Ex.ite (fun c => ?_) (fun c => ?_)
  · have c := icc_eq (m := (g 5 9).toInt) (n := 0) rfl (by decide) c
    have ht : t.2.2.1 = false := by
      cases hh : t.2.2.1 with
      | false => rfl
      | true => rw [hh] at h3; rw [h3] at c; exact absurd c (by decide)
    rw [ht]
    exact P12 (.ok P) g L hc FX.refl (fun Q hQ => by cases hQ; rfl)
  · have c := icc_neq (m := (g 5 9).toInt) (n := 0) rfl (by decide) c
    have ht : t.2.2.1 = true := by
      cases hh : t.2.2.1 with
      | true => rfl
      | false => rw [hh] at h3; exact absurd h3 c
    rw [ht]
    exact x_ref (by decide) hc (fun g1 k1 k2 => P12 (.error P) g1 L k1 k2 (fun Q hQ => nomatch hQ))
set_option maxHeartbeats 4000000 in
theorem l_stair {fu : Nat} (hfu : 1180591620717411303424 ≤ fu) {b : Nat → Int32} {n P : Nat} {t : tS} {D : dT} {g : gT} {L : lT} (h : tX b n t D P g) (hlt : P < n) : Ex (fX6_readStair_5 fu g L) (fun (_ : Unit) g1 L1 => FL g g1 ∧ mX b n (t.1, t.2.1, t.2.2.1, true) (D.1, D.2.1, D.2.2.1, tV b n (nx b n P)) P (if t.2.2.2 then .error P else nuS b n 1 99 (nx b n P)) g1) := by
  obtain ⟨hc, h1, h2, h3, h4, h5, h6⟩ := h
  have h5' : (g 4 4).toInt + (n : Int) ≤ 700 + (P : Int) := h5
  have P12 : ∀ (r : sR) (g' : gT) (L' : lT), ST b n r g' → FX [4, 7, 8] [] g g' → (∀ Q, r = .ok Q → Q = P) → Ex (fX6_readStair_5_p12 fu g' L') (fun (_ : Unit) g1 L1 => FL g g1 ∧ mX b n (t.1, t.2.1, t.2.2.1, true) (D.1, D.2.1, D.2.2.1, tV b n (nx b n P)) P (bn r (fun P => nuS b n 1 99 (nx b n P))) g1) := by
    intro r g' L' hs hf hr
    unfold fX6_readStair_5_p12
    refine Ex.sti (hs.I.upd (lo := 0) (hi := 1) rfl (by decide) (by decide)) (fun ga gae ia => ?_)
    have sa : ST b n r ga := by rw [gae] at ia ⊢; exact hs.f ia (by decide)
    have fa : FX [4, 7, 8, 10] [] g ga := by rw [gae]; exact (hf.mo (by decide) (by decide)).u5 (by decide)
    have a9 : (ga 5 10).toInt = 1 := by rw [gae, upd2_at]; rfl
    refine s_adv hfu sa (fun gb Lb sb fb => ?_)
    refine s_num hfu sb (fun x gc Lc sc fc vx => ?_)
    rw [bn_as] at sc
    have sc : ST b n (bn r (fun P => nuS b n 1 99 (nx b n P))) gc := sc
    refine Ex.sti (sc.I.updN rfl) (fun gd gde id_ => ?_)
    have sd : ST b n (bn r (fun P => nuS b n 1 99 (nx b n P))) gd := by rw [gde] at id_ ⊢; exact sc.u id_ (by decide) (by decide)
    have fbc : FX [3, 4, 5, 6, 7, 8] [] ga gc := (fb.mo (by decide) (by decide)).tr fc
    have fd : FX [3, 4, 5, 6, 7, 8, 10] [2] g gd := by
      rw [gde]; exact (((fa.mo (by decide) (by decide)).tr (fbc.mo (by decide) (by decide))).uk (by decide) (by decide))
    have d22 : gd 2 2 = g 2 2 := by
      rw [gde, upd2_nj (by decide), fbc.2 2 (by decide) (by decide), fa.2 2 (by decide) (by decide)]
    refine Ex.ret ⟨fd.fl (by decide), sd, fun Q hQ => ?_⟩
    cases r with
    | error p => exact nomatch hQ
    | ok R =>
      obtain rfl := hr R rfl
      have hn := nx_le (b := b) hc.2.2.1
      have hq := nuS_le (b := b) hn.2.1 hQ
      have := hn.2.2 hlt
      refine ⟨by omega, hq.2, by rw [d22]; exact h1, ?_, ?_, ?_, ?_, ?_⟩
      · rw [fd.2 4 (by decide) (by decide)]; exact h2
      · rw [fd.1 9 (by decide)]; exact h3
      · rw [gde]; show (gc 5 10).toInt = _; rw [fbc.1 10 (by decide), a9]; rfl
      · show (gd 4 4).toInt + (n : Int) ≤ 700 + (Q : Int)
        rw [fd.2 4 (by decide) (by decide)]; omega
      · have fac : FX [3, 4, 5, 6, 7, 8, 9, 10] [] g gc := (fa.mo (by decide) (by decide)).tr (fbc.mo (by decide) (by decide))
        obtain ⟨z1, z2, z3, z4⟩ := h6.x fac
        have dk : ∀ k, k ≠ 2 → gd k = gc k := fun k hk => by rw [gde]; exact funext fun i => upd2_nk hk
        have hv : x.toInt = tV b n (nx b n R) := vx _ rfl (nuS_ok hQ).1
        refine ⟨fun i hi => (z1 i hi).c (dk _ (by omega)) (dk _ (by omega)), ?_, ?_, ?_⟩
        · rw [gde, upd2_nj (by decide)]; exact z2
        · rw [gde, upd2_at]; exact hv
        · rw [dk 4 (by decide), dk 23 (by decide), dk 22 (by decide)]; exact z4
  unfold fX6_readStair_5
  refine Ex.ite (fun c => ?_) (fun c => ?_)
  · have c := icc_eq (m := (g 5 10).toInt) (n := 0) rfl (by decide) c
    have ht : t.2.2.2 = false := by
      cases hh : t.2.2.2 with
      | false => rfl
      | true => rw [hh] at h4; rw [h4] at c; exact absurd c (by decide)
    rw [ht]
    exact P12 (.ok P) g L hc FX.refl (fun Q hQ => by cases hQ; rfl)
  · have c := icc_neq (m := (g 5 10).toInt) (n := 0) rfl (by decide) c
    have ht : t.2.2.2 = true := by
      cases hh : t.2.2.2 with
      | true => rfl
      | false => rw [hh] at h4; exact absurd h4 c
    rw [ht]
    exact x_ref (by decide) hc (fun g1 k1 k2 => P12 (.error P) g1 L k1 k2 (fun Q hQ => nomatch hQ))
theorem x_close {fu : Nat} {g : gT} {L : lT} (hI : zI XT g) : Ex (fX8_close_4 fu g L) (fun (_ : Unit) g1 L1 => zI XT g1 ∧ FX [] [4, 23] g g1 ∧ g1 4 4 = g 4 4 ∧ ((g 4 3).toInt < 4 → (g1 4 3).toInt = (g 4 3).toInt + 1 ∧ g1 23 = upd (g 23) ((g 4 3).toInt.toNat + 1) (g 4 4)) ∧ g1 23 0 = g 23 0) := by
  have q3 := hI 4 3 0 4 rfl
  have q4 := hI 4 4 0 700 rfl
  unfold fX8_close_4 fX8_close_4_p31
  refine Ex.ite (fun c => Ex.ret ⟨hI, FX.refl, rfl, fun h => ?_, rfl⟩) (fun c => ?_)
  · have c := icc_le (m := 4) (n := (g 4 3).toInt) (by decide) rfl c
    omega
  have c := icc_nle (m := 4) (n := (g 4 3).toInt) (by decide) rfl c
  have ew : (g 4 3 + 1).toInt = (g 4 3).toInt + 1 := ic_addc rfl (by decide) (by omega) (by omega)
  refine Ex.sti (hI.upd (lo := 0) (hi := 4) rfl (by omega) (by omega)) (fun ga gae ia => ?_)
  have a3 : ga 4 3 = g 4 3 + 1 := by rw [gae]; exact upd2_at
  have a4 : ga 4 4 = g 4 4 := by rw [gae]; rfl
  rw [a3, a4]
  refine Ex.ck (by omega) (by omega) ?_
  refine Ex.sti (ia.upd (lo := 0) (hi := 700) rfl (by omega) (by omega)) (fun gb gbe ib => Ex.ret ⟨ib, ?_, ?_, fun _ => ?_, ?_⟩)
  · rw [gbe, gae]; exact (FX.refl.uk (by decide) (by decide)).uk (by decide) (by decide)
  · rw [gbe]; show ga 4 4 = g 4 4; exact a4
  · rw [gbe]
    refine ⟨?_, ?_⟩
    · show (ga 4 3).toInt = _; rw [a3]; exact ew
    · rw [upd2_k]
      have e1 : (g 4 3 + 1).toNatClampNeg = (g 4 3).toInt.toNat + 1 := by rw [nc, ew]; omega
      have e2 : ga 23 = g 23 := by rw [gae]; exact funext fun i => upd2_nk (by decide)
      rw [e1, e2]
  · have e1 : (g 4 3 + 1).toNatClampNeg = (g 4 3).toInt.toNat + 1 := by rw [nc, ew]; omega
    rw [gbe, e1, upd2_nj (by omega), gae, upd2_nk (by decide)]
set_option maxHeartbeats 4000000 in
theorem l_rule {fu : Nat} (hfu : 1180591620717411303424 ≤ fu) {b : Nat → Int32} {n P : Nat} {t : tS} {D : dT} {g : gT} {L : lT} (h : tX b n t D P g) (hlt : P < n) : Ex (fX6_readRule_5 fu g L) (fun (_ : Unit) g1 L1 => FL g g1 ∧ mX b n (t.1, t.2.1 + 1, t.2.2) (D.1, upN D.2.1 t.2.1 (nx b n P), D.2.2) P (if t.2.1 < 4 then xsP b n (nx b n P) else .error P) g1) := by
  obtain ⟨hc, h1, h2, h3, h4, h5, h6⟩ := h
  have h5' : (g 4 4).toInt + (n : Int) ≤ 700 + (P : Int) := h5
  have hn7 := hc.2.1
  have hn := nx_le (b := b) hc.2.2.1
  have hnl := hn.2.2 hlt
  unfold fX6_readRule_5 fX6_readRule_5_p19
  refine Ex.ite (fun c => ?_) (fun c => ?_)
  rotate_left
  · have c := icc_nlt (m := (g 4 3).toInt) (n := 4) rfl (by decide) c
    rw [if_neg (by omega)]
    refine x_ref (by decide) hc (fun g1 k1 k2 => ?_)
    refine x_advB k1.2.1 ?_
    have e : fX6_readExpr_5 fu 7 0 g1 L = fX6_readExpr_5_p35 fu (fX6_readExpr_5 fu 6) 0 g1 L := by
      show fX6_readExpr_5B fu (fX6_readExpr_5 fu 6) 0 g1 L = _
      unfold fX6_readExpr_5B
      rw [if_pos (by decide)]
    rw [e]
    refine Ex.cb (bX_expr hfu k1) (fun _ g2 L2 hx => ?_)
    refine Ex.cb (x_close hx.2.1) (fun _ g3 L3 hy => Ex.ret ⟨?_, ?_, fun Q hQ => nomatch hQ⟩)
    · exact ((k2.fl (by decide)).tr (hx.1.1.fl (by decide))).tr (hy.2.1.flc (by decide) hy.2.2.2.2)
    · exact hx.2.fr hy.1 hy.2.1 (by decide) (by decide) (by decide)
  have c := icc_lt (m := (g 4 3).toInt) (n := 4) rfl (by decide) c
  rw [if_pos (by omega)]
  refine x_adv hfu hc (fun g1 L1 k1 k2 => ?_)
  have e4 : g1 4 = g 4 := k2.2 4 (by decide) (by decide)
  have q44 := hc.1 4 4 0 700 rfl
  have hr1 : rm n (nx b n P) g1 := by unfold rm; rw [e4]; omega
  refine Ex.cb (cX_expr hfu 7 0 0 g1 L1 (nx b n P) xF (by decide) (by decide) rfl k1 hr1 (by unfold xF; omega)) (fun _ g2 L2 hx => ?_)
  unfold xsP
  cases hxs : xs b n xF 6 0 [] (nx b n P) with
  | error p =>
    rw [hxs] at hx
    have hx2 : bX p g2 := hx.2
    refine Ex.cb (x_close hx2.1) (fun _ g3 L3 hy => Ex.ret ⟨?_, ?_, fun Q hQ => nomatch hQ⟩)
    · exact ((k2.fl (by decide)).tr (hx.1.1.fl (by decide))).tr (hy.2.1.flc (by decide) hy.2.2.2.2)
    · exact hx2.fr hy.1 hy.2.1 (by decide) (by decide) (by decide)
  | ok q =>
    rw [hxs] at hx
    obtain ⟨hx1, hx2, hx3⟩ := hx
    have hl := xs_len xF 6 0 [] (nx b n P) q.1 q.2 hn.2.1 hxs (fun _ => rfl)
    have hl3 := hl.2.2.1
    simp only [List.length_nil] at hl3
    have e5 := kRd.len hx3
    rw [e4] at e5
    have e43 : g2 4 3 = g 4 3 := by rw [hx1.2, e4]
    refine Ex.cb (x_close hx2.1) (fun _ g3 L3 hy => Ex.ret ⟨?_, ?_, fun Q hQ => ?_⟩)
    · exact ((k2.fl (by decide)).tr (hx1.1.fl (by decide))).tr (hy.2.1.flc (by decide) hy.2.2.2.2)
    · exact hx2.fr hy.1 hy.2.1 (by decide) (by decide) (by decide) (by decide) (by decide) (by decide) (by decide) (by decide)
    · cases hQ
      have hcl := hy.2.2.2.1 (by rw [e43]; omega)
      refine ⟨by omega, hl.2.1, ?_, ?_, ?_, ?_, ?_, ?_⟩
      · rw [hy.2.1.2 2 (by decide) (by decide), hx1.1.2 2 (by decide) (by decide), k2.2 2 (by decide) (by decide)]; exact h1
      · rw [hcl.1, e43, h2]; show (t.2.1 : Int) + 1 = ((t.2.1 + 1 : Nat) : Int); omega
      · rw [hy.2.1.1 9 (by decide), hx1.1.1 9 (by decide), k2.1 9 (by decide)]; exact h3
      · rw [hy.2.1.1 10 (by decide), hx1.1.1 10 (by decide), k2.1 10 (by decide)]; exact h4
      · show (g3 4 4).toInt + (n : Int) ≤ 700 + (q.2 : Int)
        rw [hy.2.2.1]; omega
      · obtain ⟨z1, z2, z3, z4, z5, z6⟩ := h6.x k2
        have dk : ∀ k, k ≠ 4 → k ≠ 5 → k ≠ 22 → k ≠ 23 → g3 k = g1 k := fun k a4 a5 a22 a23 => by
          rw [hy.2.1.2 k a5 (by simp only [List.mem_cons, List.not_mem_nil, or_false]; omega), hx1.1.2 k a5 (by simp only [List.mem_cons, List.not_mem_nil, or_false]; omega)]
        have hxc : xc b n (nx b n P) = q.1 := by unfold xc; rw [hxs]
        have e23 : g3 23 = upd (g1 23) (t.2.1 + 1) (g2 4 4) := by
          rw [hcl.2, hx1.1.2 23 (by decide) (by decide), e43, h2]; rfl
        have eL := kRd.len hx3
        refine ⟨fun i hi => (z1 i hi).c (dk _ (by omega) (by omega) (by omega) (by omega)) (dk _ (by omega) (by omega) (by omega) (by omega)), by rw [dk 2 (by decide) (by decide) (by decide) (by decide)]; exact z2, by rw [dk 2 (by decide) (by decide) (by decide) (by decide)]; exact z3, ?_⟩
        show RX b n (t.2.1 + 1) (upN D.2.1 t.2.1 (nx b n P)) (g3 4 4).toInt (g3 23) (g3 22)
        have eo : oR b n (upN D.2.1 t.2.1 (nx b n P)) (t.2.1 + 1) = oR b n D.2.1 t.2.1 + q.1.length := by
          show oR b n (upN D.2.1 t.2.1 (nx b n P)) t.2.1 + (xc b n (upN D.2.1 t.2.1 (nx b n P) t.2.1)).length = _
          rw [oR_up (Nat.le_refl _), upN_at, hxc]
        have e44 : (g2 4 4).toInt = ((oR b n D.2.1 t.2.1 + q.1.length : Nat) : Int) := by rw [eL, z5]; omega
        refine ⟨fun r hr => ?_, ?_, fun r hr i hi => ?_⟩
        · rw [e23]
          by_cases er : r = t.2.1 + 1
          · rw [er, eo]; show (upd (g1 23) (t.2.1 + 1) (g2 4 4) (t.2.1 + 1)).toInt = _; unfold upd; rw [if_pos rfl]; exact e44
          · rw [oR_up (by omega)]
            show (upd (g1 23) (t.2.1 + 1) (g2 4 4) r).toInt = _
            unfold upd
            rw [if_neg er]
            exact z4 r (by omega)
        · rw [hy.2.2.1, eo]; exact e44
        · rw [hy.2.1.2 22 (by decide) (by decide)]
          rw [e4] at z5
          have zN : (g1 4 4).toInt.toNat = oR b n D.2.1 t.2.1 := by rw [e4]; omega
          by_cases er : r = t.2.1
          · subst er
            rw [oR_up (Nat.le_refl _), upN_at, hxc] at *
            have := hx3.2.2 i hi
            rw [zN] at this
            exact this
          · rw [upN_ne er] at hi ⊢
            rw [oR_up (by omega)]
            have hlt2 : oR b n D.2.1 r + i < oR b n D.2.1 t.2.1 := by
              have h1 : oR b n D.2.1 (r + 1) ≤ oR b n D.2.1 t.2.1 := oR_le (by omega)
              have h2 : oR b n D.2.1 (r + 1) = oR b n D.2.1 r + (xc b n (D.2.1 r)).length := rfl
              omega
            rw [hx3.2.1 _ (by rw [zN]; exact hlt2)]
            exact z6 r (by omega) i hi
theorem waS_le {b : Nat → Int32} {n : Nat} {l s : Int} : ∀ {f : Nat} {acc : List Int} {P Q : Nat}, P ≤ n → waS b n l s f acc P = .ok Q → P ≤ Q ∧ Q ≤ n := by
  intro f
  induction f with
  | zero => intro acc P Q _ h; exact nomatch h
  | succ f ih =>
    intro acc P Q hP h
    have hn := nx_le (b := b) hP
    unfold waS at h
    split at h
    · split at h
      · split at h
        · split at h
          · exact nomatch h
          · have := ih hn.2.1 h; omega
        · exact nomatch h
      · exact nomatch h
    · split at h
      · exact nomatch h
      · split at h
        · exact nomatch h
        · cases h; exact ⟨Nat.le_refl _, hP⟩
theorem opS_le {b : Nat → Int32} {n P Q k : Nat} {hi : Int} (hP : P ≤ n) (h : opS b n k hi P = .ok Q) : P ≤ Q ∧ Q ≤ n := by
  unfold opS at h
  have hn := nx_le (b := b) hP
  split at h
  · have := nuS_le hn.2.1 h; omega
  · cases h; exact ⟨Nat.le_refl _, hP⟩
theorem ops_le {b : Nat → Int32} {n P Q : Nat} (hP : P ≤ n) (h : ops b n P = .ok Q) : P ≤ Q ∧ Q ≤ n := by
  unfold ops at h
  obtain ⟨P1, e1, h⟩ := bn_inv h
  obtain ⟨P2, e2, h⟩ := bn_inv h
  have h1 := opS_le hP e1
  have h2 := opS_le h1.2 e2
  have h3 := opS_le h2.2 h
  omega
theorem tlS_le {b : Nat → Int32} {n P Q : Nat} {l : Int} (hP : P ≤ n) (h : tlS b n l P = .ok Q) : P ≤ Q ∧ Q ≤ n := by
  unfold tlS at h
  have hn := nx_le (b := b) hP
  split at h
  · obtain ⟨P1, e1, h⟩ := bn_inv h
    have h1 := waS_le hn.2.1 e1
    have h2 := ops_le h1.2 h
    omega
  · split at h
    · obtain ⟨P1, e1, h⟩ := bn_inv h
      obtain ⟨P2, e2, h⟩ := bn_inv h
      have h1 := nuS_le hn.2.1 e1
      have h2 := waS_le h1.2 e2
      have h3 := ops_le h2.2 h
      omega
    · exact ops_le hP h
theorem leS_le {b : Nat → Int32} {n P Q : Nat} {l : Int} (hP : P ≤ n) (h : leS b n l P = .ok Q) : P < Q ∧ Q ≤ n := by
  unfold leS at h
  have hn := nx_le (b := b) hP
  obtain ⟨P1, e1, h⟩ := bn_inv h
  obtain ⟨P2, e2, h⟩ := bn_inv h
  obtain ⟨P3, e3, h⟩ := bn_inv h
  obtain ⟨P4, e4, h⟩ := bn_inv h
  obtain ⟨P5, e5, h⟩ := bn_inv h
  obtain ⟨P6, e6, h⟩ := bn_inv h
  have h1 := nuS_le hn.2.1 e1
  have h2 := nuS_le h1.2 e2
  have h3 := nuS_le h2.2 e3
  have h4 := nuS_le h3.2 e4
  have h5 := nuS_le h4.2 e5
  have h6 := nuS_le h5.2 e6
  have h7 := tlS_le h6.2 h
  omega
set_option maxHeartbeats 4000000 in
theorem l_line {fu : Nat} (hfu : 1180591620717411303424 ≤ fu) {b : Nat → Int32} {n P : Nat} {t : tS} {D : dT} {g : gT} {L : lT} (h : tX b n t D P g) : Ex (fX6_readLine_5 fu g L) (fun (_ : Unit) g1 L1 => LPx b n g (liS b n t P) (liD b n t D P) g1) := by
  obtain ⟨hc, h1, h2, h3, h4, h5, h6⟩ := id h
  have h5' : (g 4 4).toInt + (n : Int) ≤ 700 + (P : Int) := h5
  unfold fX6_readLine_5
  unfold liS liD
  refine e_lessonW hfu hc.1 (fun w5 => ?_) (fun w5 => ?_)
  · have w5 := (xW_isW hc _).mp w5
    rw [wB_t w5, if_pos rfl, if_pos rfl]
    refine Ex.cb (s_lesson hfu hc h1) (fun _ g1 L1 hx => l_69 (P := P) hfu hx.2.2.2.1 ⟨hx.1, fun Q hQ => ?_⟩)
    have hl12 : t.1 < 12 := by
      by_cases hh : t.1 < 12
      · exact hh
      · rw [if_neg hh] at hQ; exact nomatch hQ
    have hLX := hx.2.2.2.2 Q hQ
    rw [if_pos hl12] at hQ
    have hle := leS_le hc.2.2.1 hQ
    refine ⟨hle.1, hle.2, ?_, ?_, ?_, ?_, ?_, ?_⟩
    · rw [hx.2.2.1 hl12]; show (t.1 : Int) + 1 = ((t.1 + 1 : Nat) : Int); omega
    · rw [hx.2.1.1 4 (by decide) (by decide) (by decide)]; exact h2
    · rw [hx.2.1.2.2.1]; exact h3
    · rw [hx.2.1.2.2.2.1]; exact h4
    · show (g1 4 4).toInt + (n : Int) ≤ 700 + (Q : Int)
      rw [hx.2.1.1 4 (by decide) (by decide) (by decide)]; omega
    · obtain ⟨z1, z2, z3, z4⟩ := h6
      have hk := hx.2.1
      refine ⟨fun i hi => ?_, by rw [hk.2.1 3 (by decide)]; exact z2, by rw [hk.2.1 4 (by decide)]; exact z3, ?_⟩
      · have hi : i < t.1 + 1 := hi
        show LX b n (upN D.1 t.1 P i) (69 + i) g1
        by_cases ei : i = t.1
        · rw [ei, upN_at]; exact hLX
        · rw [upN_ne ei]
          exact (z1 i (by omega)).c (hk.2.2.2.2 _ (by omega) (by omega) (by omega)) (hk.2.2.2.2 _ (by omega) (by omega) (by omega))
      · rw [hk.1 4 (by decide) (by decide) (by decide), hk.1 23 (by decide) (by decide) (by decide), hk.1 22 (by decide) (by decide) (by decide)]; exact z4
  rw [wB_f (fun h => w5 ((xW_isW hc _).mpr h)), if_neg (show ¬ (false = true) by decide), if_neg (show ¬ (false = true) by decide)]
  refine e_walkW hfu hc.1 (fun w11 => ?_) (fun w11 => ?_)
  · have w11 := (xW_isW hc _).mp w11
    rw [wB_t w11, if_pos rfl, if_pos rfl]
    exact Ex.cb (l_walk hfu h (isW_lt w11)) (fun _ g1 L1 hx => l_69 hfu hx.1 hx.2)
  rw [wB_f (fun h => w11 ((xW_isW hc _).mpr h)), if_neg (show ¬ (false = true) by decide), if_neg (show ¬ (false = true) by decide)]
  refine e_stairW hfu hc.1 (fun w12 => ?_) (fun w12 => ?_)
  · have w12 := (xW_isW hc _).mp w12
    rw [wB_t w12, if_pos rfl, if_pos rfl]
    exact Ex.cb (l_stair hfu h (isW_lt w12)) (fun _ g1 L1 hx => l_69 hfu hx.1 hx.2)
  rw [wB_f (fun h => w12 ((xW_isW hc _).mpr h)), if_neg (show ¬ (false = true) by decide), if_neg (show ¬ (false = true) by decide)]
  refine e_ruleW hfu hc.1 (fun w13 => ?_) (fun w13 => ?_)
  · have w13 := (xW_isW hc _).mp w13
    rw [wB_t w13, if_pos rfl, if_pos rfl]
    exact Ex.cb (l_rule hfu h (isW_lt w13)) (fun _ g1 L1 hx => l_69 hfu hx.1 hx.2)
  rw [wB_f (fun h => w13 ((xW_isW hc _).mpr h)), if_neg (show ¬ (false = true) by decide), if_neg (show ¬ (false = true) by decide)]
  refine x_ref (by decide) hc (fun g1 k1 k2 => ?_)
  unfold fX6_readLine_5_p69
  exact x_rsgB k1.2.1 (Ex.ret ⟨k2.fl (by decide), k1⟩)
theorem fnS_le {b : Nat → Int32} {n P : Nat} {r : sR} {t : tS} {q : tS × Nat} (hr : ∀ Q, r = .ok Q → P < Q ∧ Q ≤ n) (h : fnS b n r t = .ok q) : P < q.2 ∧ q.2 ≤ n := by
  unfold fnS at h
  split at h
  · exact nomatch h
  · rename_i Q hQ
    cases h
    obtain ⟨R, e1, e2⟩ := bn_inv hQ
    have := hr R e1
    unfold sgS at e2
    split at e2
    · cases e2
      have hn := nx_le (b := b) this.2
      exact ⟨by show P < nx b n R; omega, hn.2.1⟩
    · exact nomatch e2
theorem xsP_le {b : Nat → Int32} {n P Q : Nat} (hP : P ≤ n) (h : xsP b n P = .ok Q) : P < Q ∧ Q ≤ n := by
  unfold xsP at h
  split at h
  · exact nomatch h
  · rename_i q hq
    cases h
    have := xs_len xF 6 0 [] P q.1 q.2 hP hq (fun _ => rfl)
    exact ⟨this.2.2.2 (by decide), this.2.1⟩
theorem liS_le {b : Nat → Int32} {n P : Nat} {t : tS} {q : tS × Nat} (hP : P ≤ n) (h : liS b n t P = .ok q) : P < q.2 ∧ q.2 ≤ n := by
  have hn := nx_le (b := b) hP
  unfold liS at h
  split at h
  · refine fnS_le (fun Q hQ => ?_) h
    split at hQ
    · exact leS_le hP hQ
    · exact nomatch hQ
  split at h
  · refine fnS_le (fun Q hQ => ?_) h
    split at hQ
    · exact nomatch hQ
    · have := nuS_le hn.2.1 hQ; omega
  split at h
  · refine fnS_le (fun Q hQ => ?_) h
    split at hQ
    · exact nomatch hQ
    · have := nuS_le hn.2.1 hQ; omega
  split at h
  · refine fnS_le (fun Q hQ => ?_) h
    split at hQ
    · have := xsP_le hn.2.1 hQ; omega
    · exact nomatch hQ
  · exact nomatch h
/-- the whole text, as the class reads it -/
def HP (b : Nat → Int32) (n : Nat) (D : dT) (g : gT) (r : Except Nat tS) (g1 : gT) : Prop := FL g g1 ∧ zI XT g1 ∧ (match r with
  | .error p => (g1 5 7).toInt ≠ 0 ∧ (g1 5 8).toInt = (p : Int)
  | .ok t => (g1 5 7).toInt = 0 ∧ (g1 5 8).toInt = -1 ∧ (g1 2 2).toInt = (t.1 : Int) ∧ (g1 4 3).toInt = (t.2.1 : Int) ∧ dX b n t D g1)
set_option maxHeartbeats 4000000 in
theorem l_read {fu : Nat} (hfu : 1180591620717411303424 ≤ fu) {b : Nat → Int32} {n : Nat} {p1 : Int32} {g : gT} {L : lT} (hI : zI XT g) (hn : p1.toInt = (n : Int)) (hn7 : n ≤ 700) (hb : ∀ j, j < n → g 14 j = b j) (h23 : (g 23 0).toInt = 0) : Ex (fX6_read_5_2 fu p1 g L) (fun (_ : Unit) g1 L1 => HP b n (hoD b n 702 (0, 0, false, false) D0 (sk b n 0)) g (hoS b n 702 (0, 0, false, false) (sk b n 0)) g1) := by
  unfold fX6_read_5_2
  refine Ex.cb (P := fun (_ : Unit) g1 L1 => g1 = upd2 (upd2 (upd2 (upd2 (upd2 g 4 3 0) 4 4 0) 2 2 0) 2 3 1) 2 4 99 ∧ L1 = L) ⟨(), _, L, rfl, rfl, rfl⟩ (fun _ gx Lx hx => ?_)
  have ix : zI XT gx := by
    rw [hx.1]
    exact ((((hI.upd (lo := 0) (hi := 4) rfl (by decide) (by decide)).upd (lo := 0) (hi := 700) rfl (by decide) (by decide)).upd (lo := 0) (hi := 12) rfl (by decide) (by decide)).updN rfl).updN rfl
  have fx : FL g gx := by
    rw [hx.1]
    refine ⟨fun k _ hk => ?_, rfl⟩
    have h2 : k ≠ 2 := fun e => hk (by rw [e]; decide)
    have h4 : k ≠ 4 := fun e => hk (by rw [e]; decide)
    funext i
    rw [upd2_nk h2, upd2_nk h2, upd2_nk h2, upd2_nk h4, upd2_nk h4]
  have x22 : (gx 2 2).toInt = 0 := by rw [hx.1]; rfl
  have x43 : (gx 4 3).toInt = 0 := by rw [hx.1]; rfl
  have x44 : (gx 4 4).toInt = 0 := by rw [hx.1]; rfl
  have x23 : (gx 23 0).toInt = 0 := by rw [hx.1]; exact h23
  have x2 : (gx 2 3).toInt = 1 ∧ (gx 2 4).toInt = 99 := by rw [hx.1]; exact ⟨rfl, rfl⟩
  clear hx
  have em : (if 700 < p1 then 700 else p1 : Int32) = p1 := if_neg (fun h => by have := icc_lt (m := 700) (n := p1.toInt) (by decide) rfl h; omega)
  rw [em]
  refine Ex.sti (ix.upd (lo := 0) (hi := 700) rfl (by omega) (by omega)) (fun g1 e1 i1 => ?_)
  refine Ex.sti (i1.upd (lo := 0) (hi := 700) rfl (by decide) (by decide)) (fun g2 e2 i2 => ?_)
  refine Ex.sti (i2.updN rfl) (fun g3 e3 i3 => ?_)
  refine Ex.sti (i3.updN rfl) (fun g4 e4 i4 => ?_)
  refine Ex.sti (i4.upd (lo := 0) (hi := 1) rfl (by decide) (by decide)) (fun g5 e5 i5 => ?_)
  refine Ex.sti (i5.upd (lo := 0) (hi := 1) rfl (by decide) (by decide)) (fun g6 e6 i6 => ?_)
  refine Ex.sti (i6.updN rfl) (fun g7 e7 i7 => ?_)
  have f7 : FX [2, 3, 4, 7, 8, 9, 10] [] gx g7 := by
    rw [e7, e6, e5, e4, e3, e2, e1]
    exact ((((((FX.refl.u5 (by decide)).u5 (by decide)).u5 (by decide)).u5 (by decide)).u5 (by decide)).u5 (by decide)).u5 (by decide)
  have y2 : (g7 5 2).toInt = (n : Int) := by rw [e7, e6, e5, e4, e3, e2, e1]; exact hn
  have y3 : (g7 5 3).toInt = 0 := by rw [e7, e6, e5, e4, e3, e2]; rfl
  have y7 : (g7 5 7).toInt = 0 := by rw [e7, e6, e5, e4, e3]; rfl
  have y8 : (g7 5 8).toInt = -1 := by rw [e7, e6, e5, e4]; rfl
  have y9 : (g7 5 9).toInt = 0 := by rw [e7, e6, e5]; rfl
  have y10 : (g7 5 10).toInt = 0 := by rw [e7, e6]; rfl
  have y4 : (g7 5 4).toInt = 0 := by rw [e7, upd2_at]; rfl
  clear e1 e2 e3 e4 e5 e6 e7 i1 i2 i3 i4 i5 i6
  refine Ex.cb (tX6_advance fu hfu g7 Lx i7 (by omega) (by omega)) (fun _ gs Ls hq => ?_)
  obtain ⟨k1, k2, k3⟩ := hq
  have eN : xN g7 = n := by show (g7 5 2).toInt.toNat = n; omega
  have e3 : (g7 5 3).toInt.toNat = 0 := by omega
  have b7 : ∀ j, j < n → g7 14 j = b j := fun j hj => by rw [f7.2 14 (by decide) (by decide), fx.1 14 (by decide) (by decide)]; exact hb j hj
  have e14 : gs 14 = g7 14 := k2.2 14 (by decide) (by decide)
  have eN1 : xN gs = n := by show (gs 5 2).toInt.toNat = n; rw [k2.i (by decide)]; omega
  rw [eN, e3, sk_c b7] at k3
  have hsk := sk_le (b := b) (n := n) (p := 0) (Nat.zero_le _)
  generalize sk b n 0 = P0 at k3 hsk
  obtain ⟨t1, t2, t3, t4⟩ := k3
  rw [e14, eN1] at t2 t3 t4
  rw [tK_c b7] at t2
  rw [tE_c b7] at t3
  rw [tV_c hsk.2 b7] at t4
  have hs : tX b n (0, 0, false, false) D0 P0 gs := by
    refine ⟨⟨k1, hn7, hsk.2, (k2.i (by decide)).trans y2, fun j hj => by rw [e14]; exact b7 j hj, t1, t2, t3, t4, (k2.i (by decide)).trans y7, (k2.i (by decide)).trans y8⟩, ?_, ?_, ?_, ?_, ?_, ?_⟩
    · rw [k2.2 2 (by decide) (by decide), f7.2 2 (by decide) (by decide)]; exact x22
    · rw [k2.2 4 (by decide) (by decide), f7.2 4 (by decide) (by decide)]; exact x43
    · rw [k2.1 9 (by decide)]; exact y9
    · rw [k2.1 10 (by decide)]; exact y10
    · show (gs 4 4).toInt + (n : Int) ≤ 700 + (P0 : Int)
      rw [k2.2 4 (by decide) (by decide), f7.2 4 (by decide) (by decide)]; omega
    · have hd : dX b n (0, 0, false, false) D0 gx := by
        refine ⟨fun i hi => absurd hi (Nat.not_lt_zero _), x2.1, x2.2, fun r hr => ?_, x44, fun r hr => absurd hr (Nat.not_lt_zero _)⟩
        obtain rfl : r = 0 := Nat.le_zero.mp hr
        exact x23
      exact (hd.x f7).x k2
  have fs : FL g gs := (fx.tr (f7.fl (by decide))).tr (k2.fl (by decide))
  generalize hR : hoS b n 702 (0, 0, false, false) P0 = R
  generalize hD : hoD b n 702 (0, 0, false, false) D0 P0 = DD
  unfold fX6_read_5_2_l61
  refine Ex.loop (α := Int32 × gT × lT) (fun v => (0 ≤ v.1.toInt ∧ v.1.toInt ≤ 701) ∧ FL g v.2.1 ∧ ((∃ (t : tS) (D : dT) (P f : Nat), hoS b n f t P = R ∧ (∀ t', R = .ok t' → hoD b n f t D P = DD) ∧ tX b n t D P v.2.1 ∧ n + 1 ≤ f + P ∧ v.1.toInt ≤ (P : Int)) ∨ (∃ p, R = .error p ∧ bX p v.2.1))) (fun v => 702 - v.1.toInt) (by omega) (by show 702 - (0 : Int32).toInt < (fu : Int); have : (0 : Int32).toInt = 0 := rfl; omega) ⟨(show 0 ≤ (0 : Int32).toInt ∧ (0 : Int32).toInt ≤ 701 from by decide), fs, Or.inl ⟨(0, 0, false, false), D0, P0, 702, hR, fun _ _ => hD, hs, by omega, (show (0 : Int) ≤ (P0 : Int) by omega)⟩⟩ (fun k61 v hv ih => ?_)
  obtain ⟨v3, g', L'⟩ := v
  obtain ⟨hv, hf, hI2⟩ := hv
  have hv : 0 ≤ v3.toInt ∧ v3.toInt ≤ 701 := hv
  have hf : FL g g' := hf
  show Ex (fX6_read_5_2_s61 fu k61 v3 g' L') _
  unfold fX6_read_5_2_s61 fX6_read_5_2_p93
  rcases hI2 with ⟨t, D, P, f, q1, qD, q2, q3, q4⟩ | ⟨p, q1, q2⟩
  rotate_left
  · have q2 : bX p g' := q2
    have done : Ex (some ((), (g', L'))) (fun (_ : Unit) g1 L1 => HP b n DD g R g1) := Ex.ret (by rw [q1]; exact ⟨hf, q2.1, q2.2.2.1, q2.2.2.2⟩)
    refine Ex.ite (fun _ => done) (fun _ => Ex.ite (fun _ => done) (fun _ => Ex.ite (fun _ => done) (fun c => ?_)))
    exact absurd q2.2.1 (icc_neq (m := (g' 5 4).toInt) (n := 5) rfl (by decide) c)
  have q2 : tX b n t D P g' := q2
  have q4 : v3.toInt ≤ (P : Int) := q4
  obtain ⟨a1, a2, a3, a4, a5, a6, a7, a8, a9, a10, a11⟩ := id q2.1
  obtain ⟨f, rfl⟩ : ∃ f', f = f' + 1 := ⟨f - 1, by omega⟩
  unfold hoS at q1
  unfold hoD at qD
  have krg := tK_rg b n P
  by_cases k0 : tK b n P = 0
  · rw [if_pos k0] at q1 qD
    have done : Ex (some ((), (g', L'))) (fun (_ : Unit) g1 L1 => HP b n DD g R g1) := Ex.ret (by rw [← q1]; rw [← qD t q1.symm]; exact ⟨hf, a1, a10, a11, q2.2.1, q2.2.2.1, q2.2.2.2.2.2.2⟩)
    refine Ex.ite (fun _ => done) (fun _ => Ex.ite (fun _ => done) (fun c => ?_))
    exact absurd (a7.trans k0) (icc_neq (m := (g' 5 4).toInt) (n := 0) rfl (by decide) c)
  rw [if_neg k0] at q1 qD
  have hlt : P < n := tK_n0 (b := b) k0
  refine Ex.ite (fun c => by have := icc_lt (m := 700) (n := v3.toInt) (by decide) rfl c; omega) (fun _ => ?_)
  refine Ex.ite (fun c => by have := icc_eq (m := (g' 5 4).toInt) (n := 0) rfl (by decide) c; omega) (fun _ => ?_)
  refine Ex.ite (fun c => by have := icc_eq (m := (g' 5 4).toInt) (n := 5) rfl (by decide) c; omega) (fun _ => ?_)
  generalize hw : v3 + 1 = w
  have ew : w.toInt = v3.toInt + 1 := by rw [← hw]; exact ic_addc rfl (by decide) (by omega) (by omega)
  refine Ex.cb (l_line hfu q2) (fun _ g'' L'' hx => ?_)
  cases hli : liS b n t P with
  | error p =>
    rw [hli] at hx q1
    exact ih (w, g'', L'') ⟨(show 0 ≤ w.toInt ∧ w.toInt ≤ 701 by omega), hf.tr hx.1, Or.inr ⟨p, q1.symm, hx.2⟩⟩ (show 702 - w.toInt < 702 - v3.toInt by omega) (show 0 < 702 - v3.toInt by omega)
  | ok q =>
    rw [hli] at hx q1 qD
    have hle := liS_le a3 hli
    exact ih (w, g'', L'') ⟨(show 0 ≤ w.toInt ∧ w.toInt ≤ 701 by omega), hf.tr hx.1, Or.inl ⟨q.1, liD b n t D P, q.2, f, q1, qD, hx.2, by omega, (show w.toInt ≤ (q.2 : Int) by omega)⟩⟩ (show 702 - w.toInt < 702 - v3.toInt by omega) (show 0 < 702 - v3.toInt by omega)
end
section
/-! ===== the reference's lessons are the spec's ===== -/
/-- the reference, the word aside -/
def Sm (b : Nat → Int32) (n : Nat) (r : sR) (g : gT) : Prop := match r with
  | .error p => bM p g
  | .ok P => cm b n P g
theorem SM.m {b : Nat → Int32} {n : Nat} {r : sR} {g : gT} {L : lT} (h : SM b n r g L) : Sm b n r g := by
  cases r with
  | error p => exact h
  | ok P => exact h.c
theorem SM.I {b : Nat → Int32} {n : Nat} {r : sR} {g : gT} {L : lT} (h : SM b n r g L) : zI MT g := by
  cases r with
  | error p => exact h.1
  | ok P => exact h.1
theorem SM.u {b : Nat → Int32} {n : Nat} {r : sR} {g : gT} {L : lT} {k j : Nat} {x : Int32} (h : SM b n r g L) (hI : zI MT (upd2 g k j x)) (h0 : k ≠ 0) (h13 : k ≠ 13) : SM b n r (upd2 g k j x) L := by
  have hF : Fr [] [k] g (upd2 g k j x) := Fr.refl.uk h0 (List.mem_singleton.mpr rfl)
  have m : 13 ∉ [k] := fun h => h13 (List.mem_singleton.mp h).symm
  cases r with
  | error p => exact h.fr hI hF (by decide) (by decide) (by decide) (by decide) (by decide) (by decide)
  | ok P => exact h.fr hI hF (by decide) (by decide) (by decide) (by decide) (by decide) (by decide) (by decide) (by decide) (by decide) m
theorem SM.u0 {b : Nat → Int32} {n : Nat} {r : sR} {g : gT} {L : lT} {j : Nat} {x : Int32} (h : SM b n r g L) (hI : zI MT (upd2 g 0 j x)) (hj : 29 ≤ j) : SM b n r (upd2 g 0 j x) L := by
  have hF : Fr [j] [] g (upd2 g 0 j x) := Fr.refl.u0 (List.mem_singleton.mpr rfl)
  have m : ∀ i, i < 29 → i ∉ [j] := fun i hi h => by have := List.mem_singleton.mp h; omega
  cases r with
  | error p => exact h.fr hI hF (m 19 (by decide)) (m 20 (by decide)) (m 22 (by decide)) (m 23 (by decide)) (m 24 (by decide)) (m 25 (by decide))
  | ok P => exact h.fr hI hF (m 19 (by decide)) (m 20 (by decide)) (m 22 (by decide)) (m 23 (by decide)) (m 24 (by decide)) (m 25 (by decide)) (m 26 (by decide)) (m 27 (by decide)) (m 28 (by decide)) (List.not_mem_nil)
theorem isW_k {b : Nat → Int32} {n P k : Nat} {x : Int32} (hk : k < 17) (hx : (∃ k : Nat, k < 17 ∧ x.toInt = (k : Int) ∧ isW b n P k) ∨ (x.toInt = -1 ∧ ∀ k, k < 17 → ¬ isW b n P k)) : x.toInt = (k : Int) ↔ isW b n P k := by
  rcases hx with ⟨j, hj, h1, h2⟩ | ⟨h1, h2⟩
  · constructor
    · intro h
      have : j = k := by omega
      subst this; exact h2
    · intro h
      have := isW_u hj hk h2 h
      omega
  · constructor
    · intro h; omega
    · intro h; exact absurd h (h2 k hk)
section MSM
variable {ρ : Type} {Q : ρ → gT → lT → Prop} {b : Nat → Int32} {n : Nat} {g : gT} {L : lT} {fu : Nat} {r : sR}
theorem t_num {p1 p2 : Int32} {K : Int32 → gT → lT → Option (ρ × zS)} (hfu : 1180591620717411303424 ≤ fu) (hs : SM b n r g L) (h : ∀ (x : Int32) g1 L1, SM b n (bn r (nuS b n p1.toInt p2.toInt)) g1 L1 → Fr aN [] g g1 → (∀ P, r = .ok P → nuC b n p1.toInt p2.toInt P → x.toInt = tV b n P) → Ex (K x g1 L1) Q) : Ex (cb (fX12_number fu p1 p2 g L) K) Q := by
  cases r with
  | error p => exact m_numB hs.2.2.1 (h 0 g L hs Fr.refl (fun P e => nomatch e))
  | ok P =>
    refine m_num hfu hs (fun hn x g1 L1 k1 k2 k3 => h x g1 L1 ?_ (k3.mo (by decide) (by decide)) (fun P' e _ => by cases e; exact k1)) (fun hn x g1 k1 k2 => h x g1 L ?_ (k2.mo (by decide) (by decide)) (fun P' e hn' => by cases e; exact absurd hn' hn))
    · rw [bn_ok]; unfold nuS; rw [nB_t hn]; exact k2
    · rw [bn_ok]; unfold nuS; rw [nB_f hn]; exact k1
theorem t_perhaps {k : Nat} {p1 p2 p3 : Int32} {K : Int32 → gT → lT → Option (ρ × zS)} (hfu : 1180591620717411303424 ≤ fu) (hk : k < 17) (hp : p1.toInt = (k : Int)) (hs : SM b n r g L) (h : ∀ (x : Int32) g1 L1, SM b n (bn r (opS b n k p3.toInt)) g1 L1 → Fr aN [] g g1 → (∀ R, bn r (opS b n k p3.toInt) = .ok R → ∃ P, r = .ok P ∧ x.toInt = opV b n k p2.toInt P ∧ R = opN b n k P) → Ex (K x g1 L1) Q) : Ex (cb (fX12_perhaps fu p1 p2 p3 g L) K) Q := by
  have key : Ex (fX12_perhaps fu p1 p2 p3 g L) (fun (x : Int32) g1 L1 => SM b n (bn r (opS b n k p3.toInt)) g1 L1 ∧ Fr aN [] g g1 ∧ (∀ R, bn r (opS b n k p3.toInt) = .ok R → ∃ P, r = .ok P ∧ x.toInt = opV b n k p2.toInt P ∧ R = opN b n k P)) := by
    unfold fX12_perhaps fX12_perhaps_p15
    cases r with
    | error p => exact e_good (fun hg => absurd hg hs.2.2.1) (fun _ => Ex.ret ⟨hs, Fr.refl, fun R hR => nomatch hR⟩)
    | ok P =>
      have hs : cM b n P g L := hs
      refine e_good (fun _ => ?_) (fun hb => absurd hs.c.2.2.2.2.2.2.2.2.2.2.2.1 hb)
      refine m_known hfu hs (fun x hx => ?_)
      have hx := isW_k hk hx
      refine Ex.ite (fun c => ?_) (fun c => ?_)
      · have hw : isW b n P k := hx.mp (by rw [c]; exact hp)
        refine m_goes hfu hs (fun g1 L1 k1 k2 => ?_)
        refine t_num (r := .ok (nx b n P)) hfu k1 (fun x g2 L2 m1 m2 vx => Ex.ret ⟨?_, (k2.mo (by decide) (by decide)).tr m2, fun R hR => ⟨P, rfl, ?_⟩⟩)
        · rw [bn_ok]; unfold opS; rw [wB_t hw]; exact m1
        · rw [bn_ok] at hR; unfold opS at hR; rw [wB_t hw, if_pos rfl] at hR
          have e := nuS_ok hR
          unfold opV opN
          rw [wB_t hw, if_pos rfl, if_pos rfl]
          exact ⟨vx _ rfl e.1, e.2⟩
      · have hw : ¬ isW b n P k := fun h => c (ic_eq.mpr ((hx.mpr h).trans hp.symm))
        refine Ex.ret ⟨?_, Fr.refl, fun R hR => ⟨P, rfl, ?_⟩⟩
        · rw [bn_ok]; unfold opS; rw [wB_f hw]; exact hs
        · rw [bn_ok] at hR; unfold opS at hR; rw [wB_f hw, if_neg (by decide)] at hR
          cases hR
          unfold opV opN
          rw [wB_f hw, if_neg (by decide), if_neg (by decide)]
          exact ⟨rfl, rfl⟩
  exact Ex.cb key (fun x g1 L1 hq => h x g1 L1 hq.1 hq.2.1 hq.2.2)
/-- the sign at the end of a line -/
theorem t_170 (hfu : 1180591620717411303424 ≤ fu) (hs : Sm b n r g) : Ex (fX12_line_p170 fu g L) (fun (_ : Unit) g1 L1 => SM b n (bn r (sgS b n 59)) g1 L1 ∧ Fr aN [] g g1) := by
  unfold fX12_line_p170
  cases r with
  | error p =>
    refine e_signK (fun x _ => ?_)
    refine Ex.cb (P := fun (_ : Unit) g1 L1 => g1 = g ∧ L1 = L) ?_ (fun _ g1 L1 hq => Ex.ret ?_)
    · unfold fX12_need
      exact e_good (fun hg => absurd hg hs.2.2.1) (fun _ => Ex.ret ⟨rfl, rfl⟩)
    · rw [hq.1, hq.2]; exact ⟨hs, Fr.refl⟩
  | ok P =>
    have hs : cm b n P g := hs
    have hg : (g 0 19).toInt = 0 := hs.2.2.2.2.2.2.2.2.2.2.2.1
    rw [bn_ok]
    unfold sgS
    rcases sign_eq0 (fu := fu) (L := L) (c := 59) hs with ⟨h, e⟩ | ⟨h, e⟩
    · have h : isS b n P 59 := h
      rw [e, sB_t h, if_pos rfl]
      obtain ⟨g1, L1, e1, h1, h2⟩ := goes_eq0 (fu := fu) (L := L) hfu hs
      refine ⟨(), g1, L1, ?_, h1, h2.2.1.mo (by decide) (by decide)⟩
      unfold fX12_need fX12_need_p24
      exact q_cb rfl (q_cb (q_cb (good_eq hg) (q_f (by decide) (q_f (by decide) (q_cb e1 rfl)))) rfl)
    · have h : ¬ isS b n P 59 := h
      rw [e, sB_f h, if_neg (by decide)]
      obtain ⟨g1, e1, h1, h2⟩ := wrong_eq0 (fu := fu) (L := L) (w := 1) (by decide) hs
      refine ⟨(), g1, L, ?_, h1, h2.mo (by decide) (by decide)⟩
      unfold fX12_need fX12_need_p24
      exact q_cb rfl (q_cb (q_cb (good_eq hg) (q_f (by decide) (q_t rfl (q_cb e1 rfl)))) rfl)
/-- is the lesson named already -/
theorem t_83 {l : Nat} {v1 v2 : Int32} {Q : Unit → gT → lT → Prop} {k12 : Int32 × Int32 × gT × lT → Option (Unit × zS)} (hfu : 1180591620717411303424 ≤ fu) (hl : l ≤ 11) (hv1 : v1.toInt = 6 * (l : Int)) (h0 : 0 ≤ v2.toInt) (h6 : v2.toInt ≤ 6) (hN : ((g 0 19).toInt ≠ 0 ∨ ∀ i : Nat, (i : Int) < v2.toInt → g 23 (6 * l + i) ≠ g 0 27) → Ex (fX12_readsWaits_p140 fu k12 v1 v2 g L) Q) (hY : (g 0 19).toInt = 0 → (∃ i : Nat, (i : Int) < v2.toInt ∧ g 23 (6 * l + i) = g 0 27) → Ex (cb (fX12_wrong fu 4 g L) (fun _ g1 L1 => fX12_readsWaits_p140 fu k12 v1 v2 g1 L1)) Q) : Ex (fX12_readsWaits_l83 fu k12 v1 v2 0 0 g L) Q := by
  unfold fX12_readsWaits_l83
  refine Ex.loop (α := Int32 × Int32 × gT × lT) (fun v => (0 ≤ v.2.1.toInt ∧ v.2.1.toInt ≤ v2.toInt) ∧ v.2.2.1 = g ∧ v.2.2.2 = L ∧ ((v.1 = 0 ∧ ∀ i : Nat, (i : Int) < v.2.1.toInt → g 23 (6 * l + i) ≠ g 0 27) ∨ (v.1 = 1 ∧ ∃ i : Nat, (i : Int) < v.2.1.toInt ∧ g 23 (6 * l + i) = g 0 27))) (fun v => v2.toInt - v.2.1.toInt) (by omega) (by show v2.toInt - (0 : Int32).toInt < (fu : Int); have : (0 : Int32).toInt = 0 := rfl; omega) ⟨(show 0 ≤ (0 : Int32).toInt ∧ (0 : Int32).toInt ≤ v2.toInt from ⟨by decide, h0⟩), rfl, rfl, Or.inl ⟨rfl, fun i hi => absurd (show (i : Int) < 0 from hi) (by omega)⟩⟩ (fun k83 v hv ih => ?_)
  obtain ⟨v4, v5, g', L'⟩ := v
  obtain ⟨hv5, e1, e2, hd⟩ := hv
  have hv5 : 0 ≤ v5.toInt ∧ v5.toInt ≤ v2.toInt := hv5
  have e1 : g' = g := e1
  have e2 : L' = L := e2
  have hd : (v4 = 0 ∧ ∀ i : Nat, (i : Int) < v5.toInt → g 23 (6 * l + i) ≠ g 0 27) ∨ (v4 = 1 ∧ ∃ i : Nat, (i : Int) < v5.toInt ∧ g 23 (6 * l + i) = g 0 27) := hd
  subst e1 e2
  show Ex (fX12_readsWaits_s83 fu k12 v1 v2 k83 v4 v5 g' L') _
  unfold fX12_readsWaits_s83
  refine Ex.ite (fun c5 => ?_) (fun c5 => ?_)
  · have c5 := icc_le (m := v2.toInt) (n := v5.toInt) rfl rfl c5
    refine e_good (fun hg => ?_) (fun hb => hN (Or.inl hb))
    rcases hd with ⟨rfl, hz⟩ | ⟨rfl, i, hi, hz⟩
    · rw [if_pos rfl]; exact hN (Or.inr (fun i hi => hz i (by omega)))
    · rw [if_neg (by decide)]; exact hY hg ⟨i, by omega, hz⟩
  have c5 := icc_nle (m := v2.toInt) (n := v5.toInt) rfl rfl c5
  unfold fX12_readsWaits_p110 fX12_readsWaits_p115
  have ew : (v1 + v5).toInt = v1.toInt + v5.toInt := ic_addc rfl rfl (by omega) (by omega)
  have eN : (v1 + v5).toNatClampNeg = 6 * l + v5.toInt.toNat := by rw [nc, ew]; omega
  generalize hw : v5 + 1 = w
  have ew1 : w.toInt = v5.toInt + 1 := by rw [← hw]; exact ic_addc rfl (by decide) (by omega) (by omega)
  have yes : (∃ i : Nat, (i : Int) < w.toInt ∧ g' 23 (6 * l + i) = g' 0 27) → Ex (k83 (1, w, g', L')) Q := fun hx => ih (1, w, g', L') ⟨show 0 ≤ w.toInt ∧ w.toInt ≤ v2.toInt by omega, rfl, rfl, Or.inr ⟨rfl, hx⟩⟩ (show v2.toInt - w.toInt < v2.toInt - v5.toInt by omega) (show 0 < v2.toInt - v5.toInt by omega)
  rcases hd with ⟨rfl, hz⟩ | ⟨rfl, i, hi, hz⟩
  rotate_left
  · rw [if_neg (by decide)]
    exact yes ⟨i, by omega, hz⟩
  rw [if_pos rfl, ck_eq (by omega) (by omega), eN]
  refine Ex.ite (fun c => yes ⟨v5.toInt.toNat, by omega, c⟩) (fun c => ?_)
  refine ih (0, w, g', L') ⟨show 0 ≤ w.toInt ∧ w.toInt ≤ v2.toInt by omega, rfl, rfl, Or.inl ⟨rfl, fun i hi => ?_⟩⟩ (show v2.toInt - w.toInt < v2.toInt - v5.toInt by omega) (show 0 < v2.toInt - v5.toInt by omega)
  have hi : (i : Int) < w.toInt := hi
  by_cases e : i = v5.toInt.toNat
  · subst e; exact c
  · exact hz i (by omega)
/-- those waited for, in the reference's cells -/
def wM (acc : List Int) (l : Nat) (g : gT) : Prop := (g 22 l).toInt = (acc.length : Int) ∧ ∀ i (hi : i < acc.length), (g 23 (6 * l + i)).toInt = acc[i]
/-- what comes of them -/
def PW (b : Nat → Int32) (n l : Nat) (g : gT) (R : sR) (W : List Int × Nat) (g1 : gT) (L1 : lT) : Prop := SM b n R g1 L1 ∧ (∀ j, j < 6 * l → g1 23 j = g 23 j) ∧ (∀ R1, R = .ok R1 → R1 = W.2 ∧ wM W.1 l g1)
/-- those waited for -/
theorem t_waits (hfu : 1180591620717411303424 ≤ fu) {l : Nat} (hl : l ≤ 11) (hs : SM b n r g L) (h30 : (g 0 30).toInt = (l : Int)) : Ex (fX12_readsWaits fu g L) (fun (_ : Unit) g1 L1 => PW b n l g (bn r (waS b n l (g 20 l).toInt 8 [])) (waR b n r) g1 L1) := by
  unfold fX12_readsWaits
  refine Ex.lti (fun v1 _ x1 => ?_)
  have x1 : v1.toInt = 6 * (l : Int) := by rw [x1, ic_mulc (m := 6) (n := (g 0 30).toInt) (by decide) rfl (by omega) (by omega)]; omega
  have e30 : (g 0 30).toNatClampNeg = l := by rw [nc, h30]; omega
  -- the end
  have P184 : ∀ (r' : sR) (v2 : Int32) (g' : gT) (L' : lT), SM b n r' g' L' → Fr aN [23] g g' → 0 ≤ v2.toInt → v2.toInt ≤ 6 → (∀ j, j < 6 * l → g' 23 j = g 23 j) → ∀ W : List Int × Nat, (∀ R1, r' = .ok R1 → R1 = W.2 ∧ v2.toInt = (W.1.length : Int) ∧ ∀ i (hi : i < W.1.length), (g' 23 (6 * l + i)).toInt = W.1[i]) → Ex (fX12_readsWaits_p184 fu v2 g' L') (fun (_ : Unit) g1 L1 => PW b n l g (bn r' (fun P => if v2.toInt < (g 20 l).toInt then .error P else .ok P)) W g1 L1) := by
    intro r' v2 g' L' hs' hF h0 h6 hlow W hW
    unfold fX12_readsWaits_p184 fX12_readsWaits_p220
    have e : g' 0 30 = g 0 30 := hF.1 30 (by decide)
    rw [e, e30]
    refine Ex.ck (by omega) (by omega) ?_
    refine Ex.sti (hs'.I.upd (lo := 0) (hi := 6) rfl h0 h6) (fun ga gae hIa => ?_)
    have sa : SM b n r' ga L' := by rw [gae] at hIa ⊢; exact hs'.u hIa (by decide) (by decide)
    have a30 : ga 0 30 = g 0 30 := by rw [gae]; exact e
    have a20 : ga 20 = g 20 := by rw [gae]; exact hF.2 20 (by decide) (by decide)
    have a23 : ga 23 = g' 23 := by rw [gae]; exact funext fun i => upd2_nk (by decide)
    have a22 : ga 22 l = v2 := by rw [gae]; exact upd2_at
    cases r' with
    | error p => exact e_good (fun hg => absurd hg sa.2.2.1) (fun _ => Ex.ret ⟨sa, fun j hj => by rw [a23]; exact hlow j hj, fun R1 h => nomatch h⟩)
    | ok P =>
      have sa : cM b n P ga L' := sa
      refine e_good (fun _ => ?_) (fun hb => absurd sa.c.2.2.2.2.2.2.2.2.2.2.2.1 hb)
      rw [a30, e30, a20]
      refine Ex.ck (by omega) (by omega) ?_
      rw [bn_ok]
      refine Ex.ite (fun c => ?_) (fun c => ?_)
      · have c := icc_le (m := (g 20 l).toInt) (n := v2.toInt) rfl rfl c
        rw [if_neg (by omega)]; exact Ex.ret ⟨sa, fun j hj => by rw [a23]; exact hlow j hj, fun R1 h => by cases h; obtain ⟨w1, w2, w3⟩ := hW _ rfl; exact ⟨w1, by rw [a22]; exact w2, fun i hi => by rw [a23]; exact w3 i hi⟩⟩
      · have c := icc_nle (m := (g 20 l).toInt) (n := v2.toInt) rfl rfl c
        rw [if_pos (by omega)]
        exact m_wrong (by decide) sa (fun g1 k1 k2 => Ex.ret ⟨k1, fun j hj => by rw [k2.2 23 (by decide) (by decide), a23]; exact hlow j hj, fun R1 h => nomatch h⟩)
  unfold fX12_readsWaits_l12
  cases r with
  | error p =>
    -- wrong already
    obtain ⟨fu, rfl⟩ : ∃ f, fu = f + 1 := ⟨fu - 1, by omega⟩
    show Ex (fX12_readsWaits_s12 (fu + 1) v1 _ 0 1 g L) _
    unfold fX12_readsWaits_s12
    rw [if_neg (by decide)]
    refine e_good (fun hg => absurd hg hs.2.2.1) (fun _ => ?_)
    exact P184 (.error p) 0 g L hs Fr.refl (by decide) (by decide) (fun _ _ => rfl) _ (fun R1 h => nomatch h)
  | ok P =>
  rw [bn_ok]
  have hs : cM b n P g L := hs
  generalize hR : waS b n l (g 20 l).toInt 8 [] P = R
  generalize hWW : waR b n (.ok P) = W
  have hWW : waL b n 8 [] P = W := hWW
  have fin : ∀ {t : Option (Unit × zS)} {R' : sR}, R' = R → Ex t (fun (_ : Unit) g1 L1 => PW b n l g R' W g1 L1) → Ex t (fun (_ : Unit) g1 L1 => PW b n l g R W g1 L1) := fun e h => by rw [← e]; exact h
  refine Ex.loop (α := Int32 × Int32 × gT × lT) (fun v => ∃ (acc : List Int) (P' f : Nat), waS b n l (g 20 l).toInt f acc P' = R ∧ waL b n f acc P' = W ∧ (∀ j, j < 6 * l → v.2.2.1 23 j = g 23 j) ∧ cM b n P' v.2.2.1 v.2.2.2 ∧ Fr aN [23] g v.2.2.1 ∧ v.1.toInt = (acc.length : Int) ∧ acc.length + f = 8 ∧ acc.length ≤ 6 ∧ (∀ i (hi : i < acc.length), (v.2.2.1 23 (6 * l + i)).toInt = acc[i]) ∧ ((v.2.1 = 1 ∧ (acc.length = 0 ∨ tK b n P' = 1)) ∨ (v.2.1 = 0 ∧ acc.length ≠ 0 ∧ tK b n P' ≠ 1))) (fun v => 7 - v.1.toInt) (by omega) (by show 7 - (0 : Int32).toInt < (fu : Int); have : (0 : Int32).toInt = 0 := rfl; omega) ⟨[], P, 8, hR, hWW, fun _ _ => rfl, hs, Fr.refl, rfl, rfl, Nat.zero_le _, fun i hi => absurd hi (Nat.not_lt_zero _), Or.inl ⟨rfl, Or.inl rfl⟩⟩ (fun k12 v hv ih => ?_)
  obtain ⟨v2, v3, g', L'⟩ := v
  obtain ⟨acc, P', f, q1, qW, qL, q2, q3, q4, q5, q6, q7, q8⟩ := hv
  replace qL : ∀ j, j < 6 * l → g' 23 j = g 23 j := qL
  replace q2 : cM b n P' g' L' := q2
  replace q3 : Fr aN [23] g g' := q3
  replace q4 : v2.toInt = (acc.length : Int) := q4
  replace q7 : ∀ i (hi : i < acc.length), (g' 23 (6 * l + i)).toInt = acc[i] := q7
  replace q8 : (v3 = 1 ∧ (acc.length = 0 ∨ tK b n P' = 1)) ∨ (v3 = 0 ∧ acc.length ≠ 0 ∧ tK b n P' ≠ 1) := q8
  obtain ⟨f, rfl⟩ : ∃ f', f = f' + 1 := ⟨f - 1, by omega⟩
  show Ex (fX12_readsWaits_s12 fu v1 k12 v2 v3 g' L') _
  unfold fX12_readsWaits_s12
  unfold waS at q1
  unfold waL at qW
  have hg : (g' 0 19).toInt = 0 := q2.c.2.2.2.2.2.2.2.2.2.2.2.1
  obtain ⟨a1, a2, a3, a4, a5, a6, a7, a8, a9, a10, a11, a12, a13, a14⟩ := id q2
  -- nothing more after a fault
  have P140b : ∀ (p : Nat) (gb : gT) (Lb : lT), bM p gb → (∀ j, j < 6 * l → gb 23 j = g 23 j) → R = .error p → Ex (fX12_readsWaits_p140 fu k12 v1 v2 gb Lb) (fun (_ : Unit) g1 L1 => PW b n l g R W g1 L1) := by
    intro p gb Lb hb hlo e
    unfold fX12_readsWaits_p140
    exact e_good (fun h => absurd h hb.2.2.1) (fun _ => Ex.ret ⟨by rw [e]; exact hb, hlo, fun R1 h => by rw [e] at h; exact nomatch h⟩)
  have P77b : ∀ (p : Nat) (gb : gT) (Lb : lT), bM p gb → (∀ j, j < 6 * l → gb 23 j = g 23 j) → R = .error p → Ex (fX12_readsWaits_p77 fu k12 v1 v2 gb Lb) (fun (_ : Unit) g1 L1 => PW b n l g R W g1 L1) := by
    intro p gb Lb hb hlo e
    unfold fX12_readsWaits_p77
    exact t_83 hfu hl x1 (by omega) (by omega) (fun _ => P140b p gb Lb hb hlo e) (fun h => absurd h hb.2.2.1)
  have bad : ∀ (w : Int32) (K : Unit → gT → lT → Option (Unit × zS)), w.toInt ≠ 0 → R = .error P' → (∀ gb Lb, K () gb Lb = fX12_readsWaits_p77 fu k12 v1 v2 gb Lb) → Ex (cb (fX12_wrong fu w g' L') K) (fun (_ : Unit) g1 L1 => PW b n l g R W g1 L1) := by
    intro w K hw e hK
    refine m_wrong hw q2 (fun gb k1 k2 => ?_)
    rw [hK]
    exact P77b P' gb L' k1 (fun j hj => by rw [k2.2 23 (by decide) (by decide)]; exact qL j hj) e
  clear hs
  rcases q8 with ⟨e9, q8⟩ | ⟨e9, q8, q9⟩
  all_goals subst e9
  rotate_left
  · rw [if_pos rfl]
    rw [if_neg q9, if_neg q8] at q1
    rw [if_neg q9] at qW
    refine fin ?_ (P184 (.ok P') v2 g' L' q2 q3 (by omega) (by omega) qL W (fun R1 h => by cases h; rw [← qW]; exact ⟨rfl, q4, q7⟩))
    rw [bn_ok, ← q1, q4]
  rw [if_neg (by decide)]
  refine e_good (fun _ => ?_) (fun hb => absurd hg hb)
  unfold fX12_readsWaits_p53
  refine Ex.ite (fun c => ?_) (fun c => ?_)
  rotate_left
  · have c := icc_neq (m := (g' 0 24).toInt) (n := 2) rfl (by decide) c
    have hk : tK b n P' ≠ 1 := fun h => c (by rw [a7]; exact sM_2.mpr h)
    rw [if_neg hk, if_pos (q8.elim (fun h => h) (fun h => absurd h hk))] at q1
    exact bad 1 _ (by decide) q1.symm (fun _ _ => rfl)
  have c := icc_eq (m := (g' 0 24).toInt) (n := 2) rfl (by decide) c
  have hk : tK b n P' = 1 := sM_2.mp (by omega)
  have hlt : P' < n := tK_n0 (b := b) (by omega)
  rw [if_pos hk] at q1 qW
  refine Ex.ite (fun c6 => ?_) (fun c6 => ?_)
  · have c6 := icc_eq (m := v2.toInt) (n := 6) rfl (by decide) c6
    rw [if_neg (by omega)] at q1
    exact bad 2 _ (by decide) q1.symm (fun _ _ => rfl)
  have c6 := icc_neq (m := v2.toInt) (n := 6) rfl (by decide) c6
  refine Ex.ite (fun c4 => ?_) (fun c4 => ?_)
  rotate_left
  · have c4 := icc_nle (m := (g' 0 26).toInt) (n := 4) rfl (by decide) c4
    rw [if_neg (by omega)] at q1
    exact bad 2 _ (by decide) q1.symm (fun _ _ => rfl)
  have c4 := icc_le (m := (g' 0 26).toInt) (n := 4) rfl (by decide) c4
  rw [if_pos (by omega)] at q1
  have f30 := q3.i (j := 30) (by decide)
  refine Ex.ite (fun c7 => ?_) (fun c7 => ?_)
  rotate_left
  · have c7 := icc_nlt (m := (g' 0 27).toInt) (n := (g' 0 30).toInt) rfl rfl c7
    rw [if_neg (by omega)] at q1
    exact bad 3 _ (by decide) q1.symm (fun _ _ => rfl)
  have c7 := icc_lt (m := (g' 0 27).toInt) (n := (g' 0 30).toInt) rfl rfl c7
  rw [if_pos (by omega)] at q1
  have hv := a1 0 27 0 9999 rfl
  unfold fX12_readsWaits_p77
  have hmem : (∃ i : Nat, (i : Int) < v2.toInt ∧ g' 23 (6 * l + i) = g' 0 27) ↔ tV b n P' ∈ acc := by
    constructor
    · rintro ⟨i, hi, he⟩
      have hi : i < acc.length := by omega
      have := q7 i hi
      rw [he, a9] at this
      rw [this]; exact List.getElem_mem hi
    · intro hm
      obtain ⟨i, hi, he⟩ := List.getElem_of_mem hm
      refine ⟨i, by omega, ic_eq.mpr ?_⟩
      rw [q7 i hi, he, a9]
  refine t_83 hfu hl x1 (by omega) (by omega) (fun hno => ?_) (fun _ hyes => ?_)
  rotate_left
  · rw [if_pos (hmem.mp hyes)] at q1
    exact m_wrong (by decide) q2 (fun gb k1 k2 => P140b P' gb L' k1 (fun j hj => by rw [k2.2 23 (by decide) (by decide)]; exact qL j hj) q1.symm)
  have hno : tV b n P' ∉ acc := by
    rcases hno with h | h
    · exact absurd hg h
    · intro hm
      obtain ⟨i, hi, he⟩ := hmem.mpr hm
      exact h i hi he
  rw [if_neg hno] at q1
  unfold fX12_readsWaits_p140
  refine e_good (fun _ => ?_) (fun hb => absurd hg hb)
  have ew : (v1 + v2).toInt = v1.toInt + v2.toInt := ic_addc rfl rfl (by omega) (by omega)
  have eN : (v1 + v2).toNatClampNeg = 6 * l + acc.length := by rw [nc, ew]; omega
  refine Ex.ck (by omega) (by omega) ?_
  rw [eN]
  refine Ex.sti (a1.upd (lo := 0) (hi := 11) rfl (by omega) (by omega)) (fun ga gae hIa => ?_)
  have sa : cM b n P' ga L' := by rw [gae] at hIa ⊢; exact SM.u (r := .ok P') q2 hIa (by decide) (by decide)
  have fa : Fr aN [23] g ga := by rw [gae]; exact q3.uk (by decide) (by decide)
  refine m_goes hfu sa (fun gb Lb k1 k2 => ?_)
  have fb : Fr aN [23] g gb := fa.tr (k2.mo (by decide) (by decide))
  unfold fX12_readsWaits_p180
  have b23 : gb 23 = ga 23 := k2.2 23 (by decide) (by decide)
  have e7 : ∀ i (hi : i < (acc ++ [tV b n P']).length), (gb 23 (6 * l + i)).toInt = (acc ++ [tV b n P'])[i] := by
    intro i hi
    rw [b23, gae]
    by_cases h : i < acc.length
    · rw [upd2_nj (by omega), List.getElem_append_left h]; exact q7 i h
    · have : i = acc.length := by rw [List.length_append, List.length_singleton] at hi; omega
      subst this
      rw [upd2_at, List.getElem_append_right (Nat.le_refl _)]
      simp only [Nat.sub_self, List.getElem_singleton]
      exact a9
  have eL : ∀ j, j < 6 * l → gb 23 j = g 23 j := fun j hj => by rw [b23, gae, upd2_nj (by omega)]; exact qL j hj
  have el : (acc ++ [tV b n P']).length = acc.length + 1 := by rw [List.length_append, List.length_singleton]
  generalize hw : v2 + 1 = w
  have ew1 : w.toInt = v2.toInt + 1 := by rw [← hw]; exact ic_addc rfl (by decide) (by omega) (by omega)
  have b7 : (gb 0 24).toInt = sM (tK b n (nx b n P')) := k1.2.2.2.2.2.2.1
  have d1 : 7 - w.toInt < 7 - v2.toInt := by omega
  have d2 : 0 < 7 - v2.toInt := by omega
  have d3 : w.toInt = ((acc ++ [tV b n P']).length : Int) := by rw [el]; omega
  have d4 : (acc ++ [tV b n P']).length + f = 8 := by omega
  have d5 : (acc ++ [tV b n P']).length ≤ 6 := by omega
  have d6 : (acc ++ [tV b n P']).length ≠ 0 := by omega
  refine Ex.ite (fun c8 => ?_) (fun c8 => ?_)
  · have c8 := icc_eq (m := (gb 0 24).toInt) (n := 2) rfl (by decide) c8
    exact ih (w, 1, gb, Lb) ⟨acc ++ [tV b n P'], nx b n P', f, q1, qW, eL, k1, fb, d3, d4, d5, e7, Or.inl ⟨rfl, Or.inr (sM_2.mp (b7.symm.trans c8))⟩⟩ d1 d2
  · have c8 := icc_neq (m := (gb 0 24).toInt) (n := 2) rfl (by decide) c8
    exact ih (w, 0, gb, Lb) ⟨acc ++ [tV b n P'], nx b n P', f, q1, qW, eL, k1, fb, d3, d4, d5, e7, Or.inr ⟨rfl, d6, fun h => c8 (by rw [b7]; exact sM_2.mpr h)⟩⟩ d1 d2
end MSM
/-- a lesson as the reference keeps it -/
def LM (b : Nat → Int32) (n P l : Nat) (g : gT) : Prop := (g 15 l).toInt = leV b n P 3 ∧ (g 16 l).toInt = leV b n P 4 ∧ (g 17 l).toInt = leV b n P 5 ∧ (g 24 l).toInt = leV b n P 6 ∧ (g 24 (24 + l)).toInt = leV b n P 7 ∧ (g 18 l).toInt = leV b n P 8 ∧ (g 19 l).toInt = leV b n P 9 ∧ (g 20 l).toInt = leV b n P 10 ∧ (g 24 (36 + l)).toInt = leV b n P 11 ∧ (g 21 l).toInt = leV b n P 12 ∧ (g 24 (12 + l)).toInt = leV b n P 13 ∧ wM (leA b n P) l g
/-- the lessons ahead stand as they were -/
def FI (l : Nat) (g g1 : gT) : Prop := (∀ k i, 15 ≤ k → k ≤ 22 → i < l → g1 k i = g k i) ∧ (∀ j, j < 6 * l → g1 23 j = g 23 j) ∧ (∀ m i, m < 4 → i < l → g1 24 (12 * m + i) = g 24 (12 * m + i))
theorem FI.refl {l : Nat} {g : gT} : FI l g g := ⟨fun _ _ _ _ _ => rfl, fun _ _ => rfl, fun _ _ _ _ => rfl⟩
theorem FI.tr {l : Nat} {g g1 g2 : gT} (h1 : FI l g g1) (h2 : FI l g1 g2) : FI l g g2 := ⟨fun k i a c d => (h2.1 k i a c d).trans (h1.1 k i a c d), fun j a => (h2.2.1 j a).trans (h1.2.1 j a), fun m i a c => (h2.2.2 m i a c).trans (h1.2.2 m i a c)⟩
theorem FI.f {l : Nat} {g g1 g2 : gT} {A : List Nat} (h1 : FI l g g1) (hF : Fr A [] g1 g2) : FI l g g2 := h1.tr ⟨fun k i a c d => by rw [hF.2 k (by omega) (List.not_mem_nil)], fun j a => by rw [hF.2 23 (by decide) (List.not_mem_nil)], fun m i a c => by rw [hF.2 24 (by decide) (List.not_mem_nil)]⟩
theorem FI.a {l k : Nat} {g g1 : gT} {x : Int32} (h1 : FI l g g1) (hk : 15 ≤ k) (hk2 : k ≤ 22) : FI l g (upd2 g1 k l x) := h1.tr ⟨fun k' i a c d => by
  by_cases e : k' = k
  · subst e; rw [upd2_nj (by omega)]
  · rw [upd2_nk e], fun j a => by rw [upd2_nk (by omega)], fun m i a c => by rw [upd2_nk (by omega)]⟩
theorem FI.n {l j : Nat} {g g1 : gT} {x : Int32} (h1 : FI l g g1) (hl : l < 12) (hj : j = l ∨ j = 12 + l ∨ j = 24 + l ∨ j = 36 + l) : FI l g (upd2 g1 24 j x) := h1.tr ⟨fun k i a c d => by rw [upd2_nk (by omega)], fun j a => by rw [upd2_nk (by omega)], fun m i a c => by rw [upd2_nj (by omega)]⟩
set_option maxHeartbeats 16000000 in
theorem t_lesson {fu : Nat} (hfu : 1180591620717411303424 ≤ fu) {b : Nat → Int32} {n P l : Nat} {g : gT} {L : lT} (hc : cM b n P g L) (h30 : (g 0 30).toInt = (l : Int)) : Ex (fX12_readsLesson fu g L) (fun (_ : Unit) g1 L1 => SM b n (if l < 12 then leS b n l P else .error P) g1 L1 ∧ (∀ Q, (if l < 12 then leS b n l P else .error P) = .ok Q → (g1 0 30).toInt = (l : Int) + 1 ∧ LM b n P l g1 ∧ FI l g g1)) := by
  have q30 := hc.1 0 30 0 12 rfl
  have hg : (g 0 19).toInt = 0 := hc.c.2.2.2.2.2.2.2.2.2.2.2.1
  unfold fX12_readsLesson
  refine Ex.ite (fun c => ?_) (fun c => ?_)
  · have c := icc_eq (m := (g 0 30).toInt) (n := 12) rfl (by decide) c
    rw [if_neg (by omega)]
    refine m_wrong (by decide) hc (fun g1 k1 _ => ?_)
    unfold fX12_readsLesson_p14
    exact e_good (fun h => absurd h k1.2.2.1) (fun _ => Ex.ret ⟨k1, fun Q hQ => nomatch hQ⟩)
  have c := icc_neq (m := (g 0 30).toInt) (n := 12) rfl (by decide) c
  have hl12 : l < 12 := by omega
  rw [if_pos hl12]
  unfold fX12_readsLesson_p14
  refine e_good (fun _ => ?_) (fun hb => absurd hg hb)
  refine m_goes hfu hc (fun g7 L8 k7 f7 => ?_)
  have h7 : Fr aN bL g g7 := f7.mo (by decide) (by decide)
  have F7 : FI l g g7 := FI.refl.f f7
  have e30 : g7 0 30 = g 0 30 := f7.1 30 (by decide)
  rw [e30]
  refine Ex.lti (fun x10 xe xi => ?_)
  have eN : x10.toNatClampNeg = l := by rw [nc, xi, h30]; omega
  have hli : x10.toInt = (l : Int) := by omega
  have e36 : (36 + x10).toInt = 36 + x10.toInt := ic_addc (by decide) rfl (by omega) (by omega)
  have e12 : (12 + x10).toInt = 12 + x10.toInt := ic_addc (by decide) rfl (by omega) (by omega)
  have e24 : (24 + x10).toInt = 24 + x10.toInt := ic_addc (by decide) rfl (by omega) (by omega)
  have e0 : (0 + x10).toInt = x10.toInt := by rw [ic_addc (m := 0) (n := x10.toInt) (by decide) rfl (by omega) (by omega)]; omega
  have eN0 : (0 + x10).toNatClampNeg = l := by rw [nc, e0]; omega
  have eN12 : (12 + x10).toNatClampNeg = 12 + l := by rw [nc, e12]; omega
  have eN24 : (24 + x10).toNatClampNeg = 24 + l := by rw [nc, e24]; omega
  have eN36 : (36 + x10).toNatClampNeg = 36 + l := by rw [nc, e36]; omega
  -- the end
  obtain ⟨NM, eNM⟩ : ∃ NM : Nat → gT → Prop, NM = fun R g' => ∃ Q, Q = nxI b n 7 P ∧ R = (leL b n Q).2 ∧ (g' 15 l).toInt = leV b n P 3 ∧ (g' 16 l).toInt = leV b n P 4 ∧ (g' 17 l).toInt = leV b n P 5 ∧ (g' 24 l).toInt = leV b n P 6 ∧ (g' 24 (24 + l)).toInt = leV b n P 7 ∧ (g' 18 l).toInt = leV b n P 8 ∧ (g' 19 l).toInt = leV b n P 9 ∧ (g' 20 l).toInt = leV b n P 10 ∧ wM (leL b n Q).1 l g' := ⟨_, rfl⟩
  have P217 : ∀ (r : sR) (g' : gT) (L' : lT), SM b n r g' L' → Fr aN bL g g' → FI l g g' → (∀ R, r = .ok R → NM R g') → Ex (fX12_readsLesson_p217 fu x10 g' L') (fun (_ : Unit) g1 L1 => SM b n (bn r (ops b n)) g1 L1 ∧ (∀ Q, bn r (ops b n) = .ok Q → (g1 0 30).toInt = (l : Int) + 1 ∧ LM b n P l g1 ∧ FI l g g1)) := by
    intro r g' L' hs hF hFI hN
    unfold fX12_readsLesson_p217 fX12_readsLesson_p287
    rw [eN36, eN, eN12]
    refine t_perhaps (k := 8) hfu (by decide) rfl hs (fun x1 g1 L1 s1 f1 o1 => ?_)
    refine Ex.ck (by omega) (by omega) ?_
    refine Ex.sti (s1.I.updN rfl) (fun g2 g2e i2 => ?_)
    have s2 : SM b n (bn r (opS b n 8 99)) g2 L1 := by rw [g2e] at i2 ⊢; exact s1.u i2 (by decide) (by decide)
    have f2 : Fr aN bL g g2 := by rw [g2e]; exact (hF.tr (f1.mo (by decide) (by decide))).uk (by decide) (by decide)
    refine t_perhaps (k := 9) hfu (by decide) rfl s2 (fun x3 g3 L3 s3 f3 o3 => ?_)
    refine Ex.ck (by omega) (by omega) ?_
    refine Ex.sti (s3.I.updN rfl) (fun g4 g4e i4 => ?_)
    have s4 : SM b n (bn (bn r (opS b n 8 99)) (opS b n 9 10)) g4 L3 := by rw [g4e] at i4 ⊢; exact s3.u i4 (by decide) (by decide)
    have f4 : Fr aN bL g g4 := by rw [g4e]; exact (f2.tr (f3.mo (by decide) (by decide))).uk (by decide) (by decide)
    refine t_perhaps (k := 10) hfu (by decide) rfl s4 (fun x5 g5 L5 s5 f5 o5 => ?_)
    refine Ex.ck (by omega) (by omega) ?_
    refine Ex.sti (s5.I.updN rfl) (fun g6 g6e i6 => ?_)
    have s6 : SM b n (bn (bn (bn r (opS b n 8 99)) (opS b n 9 10)) (opS b n 10 30)) g6 L5 := by rw [g6e] at i6 ⊢; exact s5.u i6 (by decide) (by decide)
    have f6 : Fr aN bL g g6 := by rw [g6e]; exact (f4.tr (f5.mo (by decide) (by decide))).uk (by decide) (by decide)
    have F6 : FI l g g6 := by
      rw [g6e]
      refine FI.n (FI.f ?_ f5) hl12 (by omega)
      rw [g4e]
      refine FI.a (FI.f ?_ f3) (by decide) (by decide)
      rw [g2e]
      exact FI.n (FI.f hFI f1) hl12 (by omega)
    have c6 : ∀ R, bn r (ops b n) = .ok R → LM b n P l g6 := by
      intro R hR
      have hR : bn (bn (bn r (opS b n 8 99)) (opS b n 9 10)) (opS b n 10 30) = .ok R := by rw [bn_as, bn_as]; exact hR
      obtain ⟨P3, a3, b3, -⟩ := o5 R hR
      obtain ⟨P2, a2, b2, c2⟩ := o3 P3 a3
      obtain ⟨P1, a1, b1, c1⟩ := o1 P2 a2
      have hNM := hN P1 a1
      rw [eNM] at hNM
      obtain ⟨Q, y0, y1, y2, y3, y4, y5, y6, y7, y8, y9, y10⟩ := hNM
      have K2 : ∀ k, 15 ≤ k → k ≠ 24 → k ≠ 21 → g6 k = g' k := fun k h1 h2 h3 => by
        have a2 : g2 k = g1 k := by rw [g2e]; exact funext fun i => upd2_nk h2
        have a4 : g4 k = g3 k := by rw [g4e]; exact funext fun i => upd2_nk h3
        have a6 : g6 k = g5 k := by rw [g6e]; exact funext fun i => upd2_nk h2
        rw [a6, f5.2 k (by omega) (List.not_mem_nil), a4, f3.2 k (by omega) (List.not_mem_nil), a2, f1.2 k (by omega) (List.not_mem_nil)]
      have K4 : ∀ j, j ≠ 36 + l → j ≠ 12 + l → g6 24 j = g' 24 j := fun j h1 h2 => by
        rw [g6e, upd2_nj h2, f5.2 24 (by decide) (List.not_mem_nil), g4e, upd2_nk (by decide), f3.2 24 (by decide) (List.not_mem_nil), g2e, upd2_nj h1, f1.2 24 (by decide) (List.not_mem_nil)]
      have v13 : g6 24 (12 + l) = x5 := by rw [g6e]; exact upd2_at
      have v12 : g6 21 l = x3 := by rw [g6e, upd2_nk (by decide), f5.2 21 (by decide) (List.not_mem_nil), g4e]; exact upd2_at
      have v11 : g6 24 (36 + l) = x1 := by rw [g6e, upd2_nj (by omega), f5.2 24 (by decide) (List.not_mem_nil), g4e, upd2_nk (by decide), f3.2 24 (by decide) (List.not_mem_nil), g2e]; exact upd2_at
      subst y0
      subst y1
      refine ⟨?_, ?_, ?_, ?_, ?_, ?_, ?_, ?_, ?_, ?_, ?_, ?_, fun i hi => ?_⟩
      · rw [K2 15 (by decide) (by decide) (by decide)]; exact y2
      · rw [K2 16 (by decide) (by decide) (by decide)]; exact y3
      · rw [K2 17 (by decide) (by decide) (by decide)]; exact y4
      · rw [K4 l (by omega) (by omega)]; exact y5
      · rw [K4 (24 + l) (by omega) (by omega)]; exact y6
      · rw [K2 18 (by decide) (by decide) (by decide)]; exact y7
      · rw [K2 19 (by decide) (by decide) (by decide)]; exact y8
      · rw [K2 20 (by decide) (by decide) (by decide)]; exact y9
      · rw [v11]; exact b1
      · rw [v12, b2, c1]; rfl
      · rw [v13, b3, c2, c1]; rfl
      · rw [K2 22 (by decide) (by decide) (by decide)]; exact y10.1
      · rw [K2 23 (by decide) (by decide) (by decide)]; exact y10.2 i hi
    rw [bn_as, bn_as] at s6
    have s6 : SM b n (bn r (ops b n)) g6 L5 := s6
    have d30 : g6 0 30 = g 0 30 := f6.1 30 (by decide)
    generalize bn r (ops b n) = R at s6 c6 ⊢
    cases R with
    | error p => exact e_good (fun h => absurd h s6.2.2.1) (fun _ => Ex.ret ⟨s6, fun Q hQ => nomatch hQ⟩)
    | ok Q =>
      have s6 : cM b n Q g6 L5 := s6
      refine e_good (fun _ => ?_) (fun hb => absurd s6.c.2.2.2.2.2.2.2.2.2.2.2.1 hb)
      rw [d30]
      have ew : (g 0 30 + 1).toInt = (g 0 30).toInt + 1 := ic_addc rfl (by decide) (by omega) (by omega)
      refine Ex.sti (i6.upd (lo := 0) (hi := 12) rfl (by omega) (by omega)) (fun ga gae hIa => Ex.ret ⟨?_, fun Q1 hQ1 => ?_⟩)
      · rw [gae] at hIa ⊢; exact SM.u0 (r := .ok Q) s6 hIa (by decide)
      · have dk : ∀ k, k ≠ 0 → ga k = g6 k := fun k hk => by rw [gae]; exact funext fun i => upd2_nk hk
        obtain ⟨y2, y3, y4, y5, y6, y7, y8, y9, y10, y11, y12, y13, y14⟩ := c6 Q1 hQ1
        refine ⟨by rw [gae, upd2_at]; omega, ⟨?_, ?_, ?_, ?_, ?_, ?_, ?_, ?_, ?_, ?_, ?_, ?_, fun i hi => ?_⟩, F6.tr ⟨fun k i a c d => by rw [dk k (by omega)], fun j a => by rw [dk 23 (by decide)], fun m i a c => by rw [dk 24 (by decide)]⟩⟩
        · rw [dk 15 (by decide)]; exact y2
        · rw [dk 16 (by decide)]; exact y3
        · rw [dk 17 (by decide)]; exact y4
        · rw [dk 24 (by decide)]; exact y5
        · rw [dk 24 (by decide)]; exact y6
        · rw [dk 18 (by decide)]; exact y7
        · rw [dk 19 (by decide)]; exact y8
        · rw [dk 20 (by decide)]; exact y9
        · rw [dk 24 (by decide)]; exact y10
        · rw [dk 21 (by decide)]; exact y11
        · rw [dk 24 (by decide)]; exact y12
        · rw [dk 22 (by decide)]; exact y13
        · rw [dk 23 (by decide)]; exact y14 i hi
  have P213 : ∀ (r : sR) (g' : gT) (L' : lT) (m : Int), SM b n r g' L' → Fr aN bL g g' → FI l g g' → ((g' 20 l).toInt = m) → (∀ R, r = .ok R → ∀ g1 : gT, (∀ k, 15 ≤ k → k ≠ 22 → k ≠ 23 → g1 k = g' k) → wM (waL b n 8 [] R).1 l g1 → NM (waL b n 8 [] R).2 g1) → Ex (fX12_readsLesson_p213 fu x10 g' L') (fun (_ : Unit) g1 L1 => SM b n (bn r (fun P => bn (waS b n l m 8 [] P) (ops b n))) g1 L1 ∧ (∀ Q, bn r (fun P => bn (waS b n l m 8 [] P) (ops b n)) = .ok Q → (g1 0 30).toInt = (l : Int) + 1 ∧ LM b n P l g1 ∧ FI l g g1)) := by
    intro r g' L' m hs hF hFI hm hN
    unfold fX12_readsLesson_p213
    have d30 : (g' 0 30).toInt = (l : Int) := by rw [hF.i (by decide)]; exact h30
    have hpn : pN g' := by
      cases r with
      | error p => exact hs.2.1
      | ok P => exact hs.pn
    have hk := (t_waits hfu (show l ≤ 11 by omega) hs d30).and (sX12_readsWaits fu hfu g' L' hs.I hpn (by omega))
    refine Ex.cb hk (fun _ g1 L1 hq => ?_)
    obtain ⟨⟨h1, h1b, h1c⟩, h2, h2b, -⟩ := hq
    rw [hm] at h1 h1c
    have eL30 : (g' 0 30).toInt.toNat = l := by omega
    rw [eL30] at h2b
    have dk : ∀ k, 15 ≤ k → k ≠ 22 → k ≠ 23 → g1 k = g' k := fun k a c d => h2.2.1.2 k (by omega) (by simp only [List.mem_cons, List.not_mem_nil, or_false]; omega)
    have k := P217 _ g1 L1 h1 (hF.tr (h2.2.1.mo (by decide) (by decide))) (hFI.tr ⟨fun k i a c d => by
      by_cases e : k = 22
      · subst e; exact h2b i (by omega)
      · rw [dk k a e (by omega)], h1b, fun m i a c => by rw [dk 24 (by decide) (by decide) (by decide)]⟩) (fun R hR => by
      obtain ⟨R0, e0, e1⟩ := bn_inv hR
      have z := h1c R hR
      rw [e0] at z
      have z : R = (waL b n 8 [] R0).2 ∧ wM (waL b n 8 [] R0).1 l g1 := z
      rw [z.1]
      exact hN R0 e0 g1 dk z.2)
    rw [bn_as] at k
    exact k
  -- numbers
  refine t_num (r := .ok (nx b n P)) hfu k7 (fun r1 ga La sa fa v1 => ?_)
  rw [bn_ok] at sa
  have sa : SM b n (nuS b n 0 999 (nx b n P)) ga La := sa
  refine Ex.ck (by omega) (by omega) ?_
  refine Ex.sti (sa.I.updN rfl) (fun gb gbe hIb => ?_)
  have sb : SM b n (nuS b n 0 999 (nx b n P)) gb La := by rw [gbe] at hIb ⊢; exact sa.u hIb (by decide) (by decide)
  have fb : Fr aN bL g gb := by rw [gbe]; exact (h7.tr (fa.mo (by decide) (by decide))).uk (by decide) (by decide)
  have b15 : gb 15 x10.toNatClampNeg = r1 := by rw [gbe]; exact upd2_at
  have Fb : FI l g gb := by rw [gbe, eN]; exact (F7.f fa).a (by decide) (by decide)
  rw [b15]
  refine Ex.ck (by omega) (by omega) ?_
  refine t_num hfu sb (fun r2 gc Lc sc fc v2 => ?_)
  have sc : SM b n (bn (nuS b n 0 999 (nx b n P)) (nuS b n (tV b n (nx b n P) + 1) 999)) gc Lc := by
    have e9 : bn (nuS b n 0 999 (nx b n P)) (nuS b n (tV b n (nx b n P) + 1) 999) = bn (nuS b n 0 999 (nx b n P)) (nuS b n (r1 + 1).toInt (999 : Int32).toInt) := by
      refine bn_cg (fun Q hQ => ?_)
      have hn : nuC b n 0 999 (nx b n P) := by
        by_cases h : nuC b n 0 999 (nx b n P)
        · exact h
        · unfold nuS at hQ; rw [nB_f h] at hQ; exact nomatch hQ
      have hv := v1 _ rfl hn
      have h1 := hn.2.2.1
      have h2 := hn.2.2.2
      rw [ic_addc hv (n := 1) (by decide) (by omega) (by omega)]
      rfl
    rw [e9]; exact sc
  rw [eN] at b15
  clear sb gbe
  refine Ex.ck (by omega) (by omega) ?_
  refine Ex.sti (sc.I.updN rfl) (fun gd gde hId => ?_)
  have sd := by have := sc.u (k := 16) (j := x10.toNatClampNeg) (x := r2) (by rw [← gde]; exact hId) (by decide) (by decide); rw [← gde] at this; exact this
  have fd : Fr aN bL g gd := by rw [gde]; exact (fb.tr (fc.mo (by decide) (by decide))).uk (by decide) (by decide)
  have Fd : FI l g gd := by rw [gde, eN]; exact (Fb.f fc).a (by decide) (by decide)
  have V4 : gd 16 l = r2 := by rw [gde, eN]; exact upd2_at
  have Kd : ∀ k, k ≠ 0 → k ≠ 16 → gd k = gb k := fun k h0 h1 => (show gd k = gc k by rw [gde]; exact funext fun i => upd2_nk h1).trans (fc.2 k h0 (List.not_mem_nil))
  clear sc gde
  refine t_num hfu sd (fun r3 ge Le se fe v3 => ?_)
  refine Ex.ck (by omega) (by omega) ?_
  refine Ex.sti (se.I.updN rfl) (fun gf gfe hIf => ?_)
  have sf := by have := se.u (k := 17) (j := x10.toNatClampNeg) (x := r3) (by rw [← gfe]; exact hIf) (by decide) (by decide); rw [← gfe] at this; exact this
  have ff : Fr aN bL g gf := by rw [gfe]; exact (fd.tr (fe.mo (by decide) (by decide))).uk (by decide) (by decide)
  have Ff : FI l g gf := by rw [gfe, eN]; exact (Fd.f fe).a (by decide) (by decide)
  have V5 : gf 17 l = r3 := by rw [gfe, eN]; exact upd2_at
  have Kf : ∀ k, k ≠ 0 → k ≠ 17 → gf k = gd k := fun k h0 h1 => (show gf k = ge k by rw [gfe]; exact funext fun i => upd2_nk h1).trans (fe.2 k h0 (List.not_mem_nil))
  clear sd se gfe
  refine t_num hfu sf (fun r4 gg Lg sg fg v4 => ?_)
  refine Ex.ck (by omega) (by omega) ?_
  refine Ex.sti (sg.I.updN rfl) (fun gh ghe hIh => ?_)
  have sh := by have := sg.u (k := 24) (j := (0 + x10).toNatClampNeg) (x := r4) (by rw [← ghe]; exact hIh) (by decide) (by decide); rw [← ghe] at this; exact this
  have fh : Fr aN bL g gh := by rw [ghe]; exact (ff.tr (fg.mo (by decide) (by decide))).uk (by decide) (by decide)
  have Fh : FI l g gh := by rw [ghe, eN0]; exact (Ff.f fg).n hl12 (Or.inl rfl)
  have V6 : gh 24 l = r4 := by rw [ghe, eN0]; exact upd2_at
  have Kh : ∀ k, k ≠ 0 → k ≠ 24 → gh k = gf k := fun k h0 h1 => (show gh k = gg k by rw [ghe]; exact funext fun i => upd2_nk h1).trans (fg.2 k h0 (List.not_mem_nil))
  clear sf sg ghe
  refine t_num hfu sh (fun r5 gi Li si fi v5 => ?_)
  refine Ex.ck (by omega) (by omega) ?_
  refine Ex.sti (si.I.updN rfl) (fun gj gje hIj => ?_)
  have sj := by have := si.u (k := 24) (j := (24 + x10).toNatClampNeg) (x := r5) (by rw [← gje]; exact hIj) (by decide) (by decide); rw [← gje] at this; exact this
  have fj : Fr aN bL g gj := by rw [gje]; exact (fh.tr (fi.mo (by decide) (by decide))).uk (by decide) (by decide)
  have Fj : FI l g gj := by rw [gje, eN24]; exact (Fh.f fi).n hl12 (Or.inr (Or.inr (Or.inl rfl)))
  have V7 : gj 24 (24 + l) = r5 := by rw [gje, eN24]; exact upd2_at
  have V6j : gj 24 l = r4 := by rw [gje, eN24, upd2_nj (by omega), fi.2 24 (by decide) (List.not_mem_nil)]; exact V6
  have Kj : ∀ k, k ≠ 0 → k ≠ 24 → gj k = gh k := fun k h0 h1 => (show gj k = gi k by rw [gje]; exact funext fun i => upd2_nk h1).trans (fi.2 k h0 (List.not_mem_nil))
  clear sh si gje
  refine t_num hfu sj (fun r6 gk Lk sk' fk v6 => ?_)
  refine Ex.ck (by omega) (by omega) ?_
  refine Ex.sti (sk'.I.updN rfl) (fun gm gme hIm => ?_)
  have sm := by have := sk'.u (k := 18) (j := x10.toNatClampNeg) (x := r6) (by rw [← gme]; exact hIm) (by decide) (by decide); rw [← gme] at this; exact this
  have fm : Fr aN bL g gm := by rw [gme]; exact (fj.tr (fk.mo (by decide) (by decide))).uk (by decide) (by decide)
  have Fm : FI l g gm := by rw [gme, eN]; exact (Fj.f fk).a (by decide) (by decide)
  have V8 : gm 18 l = r6 := by rw [gme, eN]; exact upd2_at
  have Km : ∀ k, k ≠ 0 → k ≠ 18 → gm k = gj k := fun k h0 h1 => (show gm k = gk k by rw [gme]; exact funext fun i => upd2_nk h1).trans (fk.2 k h0 (List.not_mem_nil))
  clear sj sk' gme
  rw [eN]
  refine Ex.ck (by omega) (by omega) ?_
  refine Ex.sti (sm.I.updN rfl) (fun gn gne hIn => ?_)
  have sn := by have := sm.u (k := 19) (j := l) (x := 2) (by rw [← gne]; exact hIn) (by decide) (by decide); rw [← gne] at this; exact this
  have fn : Fr aN bL g gn := by rw [gne]; exact fm.uk (by decide) (by decide)
  have Fn : FI l g gn := by rw [gne]; exact Fm.a (by decide) (by decide)
  have V9n : gn 19 l = 2 := by rw [gne]; exact upd2_at
  have Kn : ∀ k, k ≠ 19 → gn k = gm k := fun k h1 => by rw [gne]; exact funext fun i => upd2_nk h1
  clear sm gne
  refine Ex.ck (by omega) (by omega) ?_
  refine Ex.sti (sn.I.updN rfl) (fun go goe hIo => ?_)
  have so := by have := sn.u (k := 20) (j := l) (x := 0) (by rw [← goe]; exact hIo) (by decide) (by decide); rw [← goe] at this; exact this
  have fo : Fr aN bL g go := by rw [goe]; exact fn.uk (by decide) (by decide)
  have o20 : go 20 l = 0 := by rw [goe]; exact upd2_at
  have Fo : FI l g go := by rw [goe]; exact Fn.a (by decide) (by decide)
  have Ko : ∀ k, k ≠ 20 → go k = gn k := fun k h1 => by rw [goe]; exact funext fun i => upd2_nk h1
  clear sn goe
  refine Ex.ck (by omega) (by omega) ?_
  refine Ex.sti (so.I.upd (lo := 0) (hi := 6) rfl (by decide) (by decide)) (fun gq gqe hIq => ?_)
  have sq := by have := so.u (k := 22) (j := l) (x := 0) (by rw [← gqe]; exact hIq) (by decide) (by decide); rw [← gqe] at this; exact this
  have fq : Fr aN bL g gq := by rw [gqe]; exact fo.uk (by decide) (by decide)
  have q20 : (gq 20 l).toInt = 0 := by rw [gqe, upd2_nk (by decide), o20]; rfl
  have Fq : FI l g gq := by rw [gqe]; exact Fo.a (by decide) (by decide)
  have V22 : (gq 22 l).toInt = 0 := by rw [gqe, upd2_at]; rfl
  have Kq : ∀ k, k ≠ 22 → gq k = go k := fun k h1 => by rw [gqe]; exact funext fun i => upd2_nk h1
  have W9 : (gq 19 l).toInt = 2 := by rw [Kq 19 (by decide), Ko 19 (by decide), V9n]; rfl
  have W8 : gq 18 l = r6 := by rw [Kq 18 (by decide), Ko 18 (by decide), Kn 18 (by decide)]; exact V8
  have W24 : gq 24 = gj 24 := by rw [Kq 24 (by decide), Ko 24 (by decide), Kn 24 (by decide), Km 24 (by decide) (by decide)]
  have W7 : gq 24 (24 + l) = r5 := by rw [W24]; exact V7
  have W6 : gq 24 l = r4 := by rw [W24]; exact V6j
  have W5 : gq 17 l = r3 := by rw [Kq 17 (by decide), Ko 17 (by decide), Kn 17 (by decide), Km 17 (by decide) (by decide), Kj 17 (by decide) (by decide), Kh 17 (by decide) (by decide)]; exact V5
  have W4 : gq 16 l = r2 := by rw [Kq 16 (by decide), Ko 16 (by decide), Kn 16 (by decide), Km 16 (by decide) (by decide), Kj 16 (by decide) (by decide), Kh 16 (by decide) (by decide), Kf 16 (by decide) (by decide)]; exact V4
  have W3 : gq 15 l = r1 := by rw [Kq 15 (by decide), Ko 15 (by decide), Kn 15 (by decide), Km 15 (by decide) (by decide), Kj 15 (by decide) (by decide), Kh 15 (by decide) (by decide), Kf 15 (by decide) (by decide), Kd 15 (by decide) (by decide)]; exact b15
  clear so gqe o20 V4 V5 V6 V7 V8 V6j V9n Kq Ko Kn Km Kj Kh Kf Kd b15
  generalize hσ : bn (bn (bn (bn (bn (nuS b n 0 999 (nx b n P)) (nuS b n (tV b n (nx b n P) + 1) 999)) (nuS b n (Int32.toInt 1) (Int32.toInt 200))) (nuS b n (Int32.toInt 0) (Int32.toInt 60))) (nuS b n (Int32.toInt 0) (Int32.toInt 9))) (nuS b n (Int32.toInt 1) (Int32.toInt 99)) = σ at sq
  have num : ∀ Q, σ = .ok Q → Q = nxI b n 7 P ∧ r1.toInt = leV b n P 3 ∧ r2.toInt = leV b n P 4 ∧ r3.toInt = leV b n P 5 ∧ r4.toInt = leV b n P 6 ∧ r5.toInt = leV b n P 7 ∧ r6.toInt = leV b n P 8 := by
    intro Q hQ
    rw [← hσ] at hQ
    obtain ⟨P6, b6, c6, d6⟩ := nu_ok hQ (fun P' e h => v6 P' e h)
    obtain ⟨P5, b5, c5, d5⟩ := nu_ok b6 (fun P' e h => v5 P' e h)
    obtain ⟨P4, b4, c4, d4⟩ := nu_ok b5 (fun P' e h => v4 P' e h)
    obtain ⟨P3, b3, c3, d3⟩ := nu_ok b4 (fun P' e h => v3 P' e h)
    obtain ⟨P2, b2, c2⟩ := bn_inv b3
    have n1 := nuS_ok b2
    have n2 := nuS_ok c2
    have d1 := v1 _ rfl n1.1
    have d2 := v2 P2 b2 (by
      have e : (r1 + 1).toInt = tV b n (nx b n P) + 1 := by
        have h1 := n1.1.2.2.1
        have h2 := n1.1.2.2.2
        exact ic_addc d1 (by decide) (by omega) (by omega)
      rw [e]; exact n2.1)
    obtain rfl : P2 = nxI b n 2 P := n1.2
    obtain rfl : P3 = nxI b n 3 P := n2.2
    obtain rfl : P4 = nxI b n 4 P := c3
    obtain rfl : P5 = nxI b n 5 P := c4
    obtain rfl : P6 = nxI b n 6 P := c5
    exact ⟨c6, d1, d2, d3, d4, d5, d6⟩
  clear v1 v2 v3 v4 v5 v6
  have hle : leS b n (l : Int) P = bn σ (tlS b n (l : Int)) := by
    rw [← hσ, bn_as, bn_as, bn_as, bn_as, bn_as]; rfl
  rw [hle]
  have key : ∀ (R : sR), (∀ Q, R = .ok Q → Q = nxI b n 7 P ∧ r1.toInt = leV b n P 3 ∧ r2.toInt = leV b n P 4 ∧ r3.toInt = leV b n P 5 ∧ r4.toInt = leV b n P 6 ∧ r5.toInt = leV b n P 7 ∧ r6.toInt = leV b n P 8) → SM b n R gq Lk → Ex (cb (fX12_isGood fu gq Lk) (fun x44 g45 L46 => if x44 = 0 then fX12_readsLesson_p160 fu x10 (-1) g45 L46 else cb (fX12_knownWord fu g45 L46) (fun x88 g89 L90 => fX12_readsLesson_p160 fu x10 x88 g89 L90))) (fun (_ : Unit) g1 L1 => SM b n (bn R (tlS b n l)) g1 L1 ∧ (∀ Q, bn R (tlS b n l) = .ok Q → (g1 0 30).toInt = (l : Int) + 1 ∧ LM b n P l g1 ∧ FI l g g1)) := by
    intro R hnum hs
    cases R with
    | error p =>
      refine e_good (fun h => absurd h hs.2.2.1) (fun _ => ?_)
      unfold fX12_readsLesson_p160
      rw [if_neg (by decide), if_neg (by decide)]
      exact P217 (.error p) gq Lk hs fq Fq (fun R h => nomatch h)
    | ok Q =>
      have hs : cM b n Q gq Lk := hs
      refine e_good (fun _ => ?_) (fun hb => absurd hs.c.2.2.2.2.2.2.2.2.2.2.2.1 hb)
      refine m_known hfu hs (fun x hx => ?_)
      have w6 := isW_k (k := 6) (by decide) hx
      have w7 := isW_k (k := 7) (by decide) hx
      rw [bn_ok]
      unfold tlS
      obtain ⟨eq7, n3, n4, n5, n6, n7, n8⟩ := hnum Q rfl
      unfold fX12_readsLesson_p160 fX12_readsLesson_p173 fX12_readsLesson_p189
      rw [eN]
      by_cases c6 : x = 6
      · have h6 : isW b n Q 6 := w6.mp (by rw [c6]; rfl)
        rw [if_pos c6, if_pos c6, wB_t h6, if_pos (show (true = true) from rfl)]
        refine Ex.ck (by omega) (by omega) ?_
        refine Ex.sti (hs.1.updN rfl) (fun ha hae hIa => ?_)
        have ta : cM b n Q ha Lk := by rw [hae] at hIa ⊢; exact SM.u (r := .ok Q) hs hIa (by decide) (by decide)
        have ua : Fr aN bL g ha := by rw [hae]; exact fq.uk (by decide) (by decide)
        have a20 : (ha 20 l).toInt = 0 := by rw [hae, upd2_nk (by decide)]; exact q20
        have Fa : FI l g ha := by rw [hae]; exact Fq.a (by decide) (by decide)
        have a19 : (ha 19 l).toInt = 0 := by rw [hae, upd2_at]; rfl
        have Ka : ∀ k, k ≠ 19 → ha k = gq k := fun k h1 => by rw [hae]; exact funext fun i => upd2_nk h1
        refine m_goes hfu ta (fun hb Lb tb fb2 => ?_)
        rw [if_neg (by rw [c6]; decide)]
        have k := P213 (.ok (nx b n Q)) hb Lb 0 tb (ua.tr (fb2.mo (by decide) (by decide))) (Fa.f fb2) (by rw [fb2.2 20 (by decide) (by decide)]; exact a20) (fun R hR g1 hk hw => by
          cases hR
          have Kb : ∀ k, 15 ≤ k → k ≠ 22 → k ≠ 23 → g1 k = ha k := fun k a c d => (hk k a c d).trans (fb2.2 k (by omega) (List.not_mem_nil))
          have e1 : leL b n Q = waL b n 8 [] (nx b n Q) := by unfold leL; rw [wB_t h6]; rfl
          rw [eNM]
          refine ⟨Q, eq7, by rw [e1], ?_, ?_, ?_, ?_, ?_, ?_, ?_, ?_, by rw [e1]; exact hw⟩
          · rw [Kb 15 (by decide) (by decide) (by decide), Ka 15 (by decide), W3]; exact n3
          · rw [Kb 16 (by decide) (by decide) (by decide), Ka 16 (by decide), W4]; exact n4
          · rw [Kb 17 (by decide) (by decide) (by decide), Ka 17 (by decide), W5]; exact n5
          · rw [Kb 24 (by decide) (by decide) (by decide), Ka 24 (by decide), W6]; exact n6
          · rw [Kb 24 (by decide) (by decide) (by decide), Ka 24 (by decide), W7]; exact n7
          · rw [Kb 18 (by decide) (by decide) (by decide), Ka 18 (by decide), W8]; exact n8
          · rw [Kb 19 (by decide) (by decide) (by decide), a19]; show 0 = if wB b n (nxI b n 7 P) 6 then (0 : Int) else if wB b n (nxI b n 7 P) 7 then 1 else 2; rw [← eq7, wB_t h6]; rfl
          · rw [Kb 20 (by decide) (by decide) (by decide), a20]; show 0 = if wB b n (nxI b n 7 P) 6 then (0 : Int) else if wB b n (nxI b n 7 P) 7 then _ else 0; rw [← eq7, wB_t h6]; rfl)
        rw [bn_ok] at k
        exact k
      have h6 : ¬ isW b n Q 6 := fun h => c6 (ic_eq.mpr (w6.mpr h))
      rw [if_neg c6, wB_f h6, if_neg (show ¬ (false = true) by decide)]
      by_cases c7 : x = 7
      · have h7' : isW b n Q 7 := w7.mp (by rw [c7]; rfl)
        rw [if_pos c7, if_neg c6, wB_t h7', if_pos (show (true = true) from rfl)]
        refine Ex.ck (by omega) (by omega) ?_
        refine Ex.sti (hs.1.updN rfl) (fun ha hae hIa => ?_)
        have ta : cM b n Q ha Lk := by rw [hae] at hIa ⊢; exact SM.u (r := .ok Q) hs hIa (by decide) (by decide)
        have ua : Fr aN bL g ha := by rw [hae]; exact fq.uk (by decide) (by decide)
        refine m_goes hfu ta (fun hb Lb tb fb2 => ?_)
        rw [if_pos c7]
        refine t_num (r := .ok (nx b n Q)) hfu tb (fun r8 hc' Lc' tc fc2 v8 => ?_)
        rw [bn_ok] at tc
        have tc : SM b n (nuS b n 1 6 (nx b n Q)) hc' Lc' := tc
        refine Ex.ck (by omega) (by omega) ?_
        refine Ex.sti (tc.I.updN rfl) (fun hd hde hId2 => ?_)
        have td : SM b n (nuS b n 1 6 (nx b n Q)) hd Lc' := by rw [hde] at hId2 ⊢; exact tc.u hId2 (by decide) (by decide)
        have ud : Fr aN bL g hd := by rw [hde]; exact ((ua.tr (fb2.mo (by decide) (by decide))).tr (fc2.mo (by decide) (by decide))).uk (by decide) (by decide)
        have d20 : hd 20 l = r8 := by rw [hde]; exact upd2_at
        have Fa : FI l g ha := by rw [hae]; exact Fq.a (by decide) (by decide)
        have Fd2 : FI l g hd := by rw [hde]; exact ((Fa.f fb2).f fc2).a (by decide) (by decide)
        have a19 : (ha 19 l).toInt = 1 := by rw [hae, upd2_at]; rfl
        have Ka : ∀ k, k ≠ 19 → ha k = gq k := fun k h1 => by rw [hae]; exact funext fun i => upd2_nk h1
        have Kd : ∀ k, k ≠ 0 → k ≠ 20 → hd k = ha k := fun k h0 h1 => ((show hd k = hc' k by rw [hde]; exact funext fun i => upd2_nk h1).trans (fc2.2 k h0 (List.not_mem_nil))).trans (fb2.2 k h0 (List.not_mem_nil))
        have k := P213 (nuS b n 1 6 (nx b n Q)) hd Lc' r8.toInt td ud Fd2 (by rw [d20]) (fun R hR g1 hk hw => by
          have m8 := nuS_ok hR
          have Kb : ∀ k, 15 ≤ k → k ≠ 22 → k ≠ 23 → k ≠ 20 → g1 k = ha k := fun k a c d e => (hk k a c d).trans (Kd k (by omega) e)
          have e1 : leL b n Q = waL b n 8 [] (nx b n (nx b n Q)) := by unfold leL; rw [wB_f h6, if_neg (by decide), wB_t h7']; rfl
          rw [m8.2] at hw ⊢
          rw [eNM]
          refine ⟨Q, eq7, by rw [e1], ?_, ?_, ?_, ?_, ?_, ?_, ?_, ?_, by rw [e1]; exact hw⟩
          · rw [Kb 15 (by decide) (by decide) (by decide) (by decide), Ka 15 (by decide), W3]; exact n3
          · rw [Kb 16 (by decide) (by decide) (by decide) (by decide), Ka 16 (by decide), W4]; exact n4
          · rw [Kb 17 (by decide) (by decide) (by decide) (by decide), Ka 17 (by decide), W5]; exact n5
          · rw [Kb 24 (by decide) (by decide) (by decide) (by decide), Ka 24 (by decide), W6]; exact n6
          · rw [Kb 24 (by decide) (by decide) (by decide) (by decide), Ka 24 (by decide), W7]; exact n7
          · rw [Kb 18 (by decide) (by decide) (by decide) (by decide), Ka 18 (by decide), W8]; exact n8
          · rw [Kb 19 (by decide) (by decide) (by decide) (by decide), a19]; show 1 = if wB b n (nxI b n 7 P) 6 then (0 : Int) else if wB b n (nxI b n 7 P) 7 then 1 else 2; rw [← eq7, wB_f h6, wB_t h7']; rfl
          · rw [hk 20 (by decide) (by decide) (by decide), d20, v8 _ rfl m8.1]; show _ = if wB b n (nxI b n 7 P) 6 then (0 : Int) else if wB b n (nxI b n 7 P) 7 then _ else 0; rw [← eq7, wB_f h6, wB_t h7']; rfl)
        have e9 : bn (nuS b n 1 6 (nx b n Q)) (fun P => bn (waS b n l r8.toInt 8 [] P) (ops b n)) = bn (nuS b n 1 6 (nx b n Q)) (fun P => bn (waS b n l (tV b n (nx b n Q)) 8 [] P) (ops b n)) := by
          refine bn_cg (fun Q' hQ' => ?_)
          have hn : nuC b n 1 6 (nx b n Q) := by
            by_cases h : nuC b n 1 6 (nx b n Q)
            · exact h
            · unfold nuS at hQ'; rw [nB_f h] at hQ'; exact nomatch hQ'
          rw [v8 _ rfl hn]
        rw [e9] at k
        exact k
      have h7' : ¬ isW b n Q 7 := fun h => c7 (ic_eq.mpr (w7.mpr h))
      rw [if_neg c7, wB_f h7', if_neg (show ¬ (false = true) by decide)]
      have k := P217 (.ok Q) gq Lk hs fq Fq (fun R hR => by
        cases hR
        have e1 : leL b n Q = ([], Q) := by unfold leL; rw [wB_f h6, if_neg (by decide), wB_f h7', if_neg (by decide)]
        rw [eNM]
        refine ⟨Q, eq7, by rw [e1], by rw [W3]; exact n3, by rw [W4]; exact n4, by rw [W5]; exact n5, by rw [W6]; exact n6, by rw [W7]; exact n7, by rw [W8]; exact n8, ?_, ?_, ?_, fun i hi => ?_⟩
        · rw [W9]; show 2 = if wB b n (nxI b n 7 P) 6 then (0 : Int) else if wB b n (nxI b n 7 P) 7 then 1 else 2; rw [← eq7, wB_f h6, wB_f h7']; rfl
        · rw [q20]; show 0 = if wB b n (nxI b n 7 P) 6 then (0 : Int) else if wB b n (nxI b n 7 P) 7 then _ else 0; rw [← eq7, wB_f h6, wB_f h7']; rfl
        · rw [e1]; exact V22
        · rw [e1] at hi; exact absurd hi (Nat.not_lt_zero _))
      rw [bn_ok] at k
      exact k
  exact key _ num sq
end
