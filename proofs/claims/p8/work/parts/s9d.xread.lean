/-! ===== the class's lines, one after another ===== -/
/-- the code of a rule; where it begins -/
def xc (b : Nat → Int32) (n P : Nat) : List Int := match xs b n xF 6 0 [] P with
  | .error _ => []
  | .ok q => q.1
def oR (b : Nat → Int32) (n : Nat) (ρ : Nat → Nat) : Nat → Nat
  | 0 => 0
  | r + 1 => oR b n ρ r + (xc b n (ρ r)).length
theorem oR_up {b : Nat → Int32} {n : Nat} {ρ : Nat → Nat} {k v : Nat} : ∀ {r : Nat}, r ≤ k → oR b n (upN ρ k v) r = oR b n ρ r := by
  intro r
  induction r with
  | zero => intro _; rfl
  | succ r ih =>
    intro h
    show oR b n (upN ρ k v) r + (xc b n (upN ρ k v r)).length = oR b n ρ r + (xc b n (ρ r)).length
    rw [ih (by omega), upN_ne (by omega)]
theorem oR_le {b : Nat → Int32} {n : Nat} {ρ : Nat → Nat} {k : Nat} : ∀ {r : Nat}, k ≤ r → oR b n ρ k ≤ oR b n ρ r := by
  intro r
  induction r with
  | zero => intro h; obtain rfl : k = 0 := by omega
            exact Nat.le_refl _
  | succ r ih =>
    intro h
    by_cases e : k = r + 1
    · rw [e]; exact Nat.le_refl _
    · exact Nat.le_trans (ih (by omega)) (Nat.le_add_right _ _)
/-- rules, as the class keeps them: bounds in one cell, steps in another -/
def RX (b : Nat → Int32) (n m : Nat) (ρ : Nat → Nat) (u : Int) (bo st : Nat → Int32) : Prop := (∀ r, r ≤ m → (bo r).toInt = (oR b n ρ r : Int)) ∧ u = (oR b n ρ m : Int) ∧ ∀ r, r < m → ∀ i, i < (xc b n (ρ r)).length → (st (oR b n ρ r + i)).toInt = (xc b n (ρ r)).getD i 0
/-- the plan that is being read holds what the lines have told -/
def dX (b : Nat → Int32) (n : Nat) (t : tS) (D : dT) (g : gT) : Prop := (∀ i, i < t.1 → LX b n (D.1 i) (69 + i) g) ∧ (g 2 3).toInt = D.2.2.1 ∧ (g 2 4).toInt = D.2.2.2 ∧ RX b n t.2.1 D.2.1 (g 4 4).toInt (g 23) (g 22)
theorem LX.c {b : Nat → Int32} {n P q : Nat} {g g1 : gT} (h : LX b n P q g) (h1 : g1 q = g q) (h2 : g1 (q + 24) = g (q + 24)) : LX b n P q g1 := by
  refine ⟨fun j a c => by rw [h1]; exact h.1 j a c, ?_, ?_, fun i hi => ?_⟩
  · rw [h1]; exact h.2.1
  · rw [h1]; exact h.2.2.1
  · rw [h2]; exact h.2.2.2 i hi
theorem dX.x {b : Nat → Int32} {n : Nat} {t : tS} {D : dT} {g g1 : gT} {A : List Nat} (h : dX b n t D g) (hF : FX A [] g g1) : dX b n t D g1 := by
  obtain ⟨h1, h2, h3, h4⟩ := h
  refine ⟨fun i hi => (h1 i hi).c (hF.2 _ (by omega) (List.not_mem_nil)) (hF.2 _ (by omega) (List.not_mem_nil)), ?_, ?_, ?_⟩
  · rw [hF.2 2 (by decide) (by decide)]; exact h2
  · rw [hF.2 2 (by decide) (by decide)]; exact h3
  · rw [hF.2 4 (by decide) (by decide), hF.2 23 (by decide) (by decide), hF.2 22 (by decide) (by decide)]; exact h4
/-- what has been told -/
def tX (b : Nat → Int32) (n : Nat) (t : tS) (D : dT) (P : Nat) (g : gT) : Prop := cX b n P g ∧ (g 2 2).toInt = (t.1 : Int) ∧ (g 4 3).toInt = (t.2.1 : Int) ∧ (g 5 9).toInt = (if t.2.2.1 then 1 else 0) ∧ (g 5 10).toInt = (if t.2.2.2 then 1 else 0) ∧ rm n P g ∧ dX b n t D g
def LPx (b : Nat → Int32) (n : Nat) (g : gT) (r : Except Nat (tS × Nat)) (D : dT) (g1 : gT) : Prop := FL g g1 ∧ (match r with
  | .error p => bX p g1
  | .ok q => tX b n q.1 D q.2 g1)
/-- what a line has told, its sign not yet read -/
def mX (b : Nat → Int32) (n : Nat) (t : tS) (D : dT) (P : Nat) (r : sR) (g : gT) : Prop := ST b n r g ∧ (∀ Q, r = .ok Q → P < Q ∧ Q ≤ n ∧ (g 2 2).toInt = (t.1 : Int) ∧ (g 4 3).toInt = (t.2.1 : Int) ∧ (g 5 9).toInt = (if t.2.2.1 then 1 else 0) ∧ (g 5 10).toInt = (if t.2.2.2 then 1 else 0) ∧ rm n Q g ∧ dX b n t D g)
theorem l_69 {fu : Nat} (hfu : 1180591620717411303424 ≤ fu) {b : Nat → Int32} {n P : Nat} {t : tS} {D : dT} {r : sR} {g0 g : gT} {L : lT} (hf : FL g0 g) (h : mX b n t D P r g) : Ex (fX6_readLine_5_p69 fu g L) (fun (_ : Unit) g1 L1 => LPx b n g0 (fnS b n r t) D g1) := by
  obtain ⟨h1, h2⟩ := h
  unfold fX6_readLine_5_p69
  refine s_sgn hfu h1 (fun g1 L1 s1 f1 => Ex.ret ⟨hf.tr (f1.fl (by decide)), ?_⟩)
  have s1 : ST b n (bn r (sgS b n 59)) g1 := s1
  unfold fnS
  cases r with
  | error p => exact s1
  | ok Q =>
    obtain ⟨y0, yn, y1, y2, y3, y4, y5, y6⟩ := h2 Q rfl
    rw [bn_ok] at s1 ⊢
    unfold sgS at s1 ⊢
    rcases sB_d b n Q 59 with ⟨hs, e⟩ | ⟨hs, e⟩
    · rw [e] at s1 ⊢
      have hn := nx_le (b := b) yn
      refine ⟨s1, ?_, ?_, ?_, ?_, ?_, y6.x f1⟩
      · rw [f1.2 2 (by decide) (by decide)]; exact y1
      · rw [f1.2 4 (by decide) (by decide)]; exact y2
      · rw [f1.1 9 (by decide)]; exact y3
      · rw [f1.1 10 (by decide)]; exact y4
      · have y5 : (g 4 4).toInt + (n : Int) ≤ 700 + (Q : Int) := y5
        show (g1 4 4).toInt + (n : Int) ≤ 700 + (nx b n Q : Int)
        rw [f1.2 4 (by decide) (by decide)]; omega
    · rw [e] at s1 ⊢
      exact s1
set_option maxHeartbeats 4000000 in
theorem l_walk {fu : Nat} (hfu : 1180591620717411303424 ≤ fu) {b : Nat → Int32} {n P : Nat} {t : tS} {D : dT} {g : gT} {L : lT} (h : tX b n t D P g) (hlt : P < n) : Ex (fX6_readWalk_5 fu g L) (fun (_ : Unit) g1 L1 => FL g g1 ∧ mX b n (t.1, t.2.1, true, t.2.2.2) (D.1, D.2.1, tV b n (nx b n P), D.2.2.2) P (if t.2.2.1 then .error P else nuS b n 0 9 (nx b n P)) g1) := by
  obtain ⟨hc, h1, h2, h3, h4, h5, h6⟩ := h
  have h5' : (g 4 4).toInt + (n : Int) ≤ 700 + (P : Int) := h5
  have P12 : ∀ (r : sR) (g' : gT) (L' : lT), ST b n r g' → FX [4, 7, 8] [] g g' → (∀ Q, r = .ok Q → Q = P) → Ex (fX6_readWalk_5_p12 fu g' L') (fun (_ : Unit) g1 L1 => FL g g1 ∧ mX b n (t.1, t.2.1, true, t.2.2.2) (D.1, D.2.1, tV b n (nx b n P), D.2.2.2) P (bn r (fun P => nuS b n 0 9 (nx b n P))) g1) := by
    intro r g' L' hs hf hr
    unfold fX6_readWalk_5_p12
    refine Ex.sti (hs.I.upd (lo := 0) (hi := 1) rfl (by decide) (by decide)) (fun ga gae ia => ?_)
    have sa : ST b n r ga := by rw [gae] at ia ⊢; exact hs.f ia (by decide)
    have fa : FX [4, 7, 8, 9] [] g ga := by rw [gae]; exact (hf.mo (by decide) (by decide)).u5 (by decide)
    have a9 : (ga 5 9).toInt = 1 := by rw [gae, upd2_at]; rfl
    refine s_adv hfu sa (fun gb Lb sb fb => ?_)
    refine s_num hfu sb (fun x gc Lc sc fc vx => ?_)
    rw [bn_as] at sc
    have sc : ST b n (bn r (fun P => nuS b n 0 9 (nx b n P))) gc := sc
    refine Ex.sti (sc.I.updN rfl) (fun gd gde id_ => ?_)
    have sd : ST b n (bn r (fun P => nuS b n 0 9 (nx b n P))) gd := by rw [gde] at id_ ⊢; exact sc.u id_ (by decide) (by decide)
    have fbc : FX [3, 4, 5, 6, 7, 8] [] ga gc := (fb.mo (by decide) (by decide)).tr fc
    have fd : FX [3, 4, 5, 6, 7, 8, 9] [2] g gd := by
      rw [gde]; exact (((fa.mo (by decide) (by decide)).tr (fbc.mo (by decide) (by decide))).uk (by decide) (by decide))
    have d22 : gd 2 2 = g 2 2 := by
      rw [gde, upd2_nj (by decide), fbc.2 2 (by decide) (by decide), fa.2 2 (by decide) (by decide)]
    refine Ex.ret ⟨fd.fl (by decide), sd, fun Q hQ => ?_⟩
    cases r with
    | error p => exact nomatch hQ
    | ok R =>
      obtain rfl := hr R rfl
      have hn := nx_le (b := b) hc.2.2.1
      have hq := nuS_le (b := b) hn.2.1 hQ
      have := hn.2.2 hlt
      refine ⟨by omega, hq.2, by rw [d22]; exact h1, ?_, ?_, ?_, ?_, ?_⟩
      · rw [fd.2 4 (by decide) (by decide)]; exact h2
      · rw [gde]; show (gc 5 9).toInt = _; rw [fbc.1 9 (by decide), a9]; rfl
      · rw [fd.1 10 (by decide)]; exact h4
      · show (gd 4 4).toInt + (n : Int) ≤ 700 + (Q : Int)
        rw [fd.2 4 (by decide) (by decide)]; omega
      · have fac : FX [3, 4, 5, 6, 7, 8, 9, 10] [] g gc := (fa.mo (by decide) (by decide)).tr (fbc.mo (by decide) (by decide))
        obtain ⟨z1, z2, z3, z4⟩ := h6.x fac
        have dk : ∀ k, k ≠ 2 → gd k = gc k := fun k hk => by rw [gde]; exact funext fun i => upd2_nk hk
        have hv : x.toInt = tV b n (nx b n R) := vx _ rfl (nuS_ok hQ).1
        refine ⟨fun i hi => (z1 i hi).c (dk _ (by omega)) (dk _ (by omega)), ?_, ?_, ?_⟩
        · rw [gde, upd2_at]; exact hv
        · rw [gde, upd2_nj (by decide)]; exact z3
        · rw [dk 4 (by decide), dk 23 (by decide), dk 22 (by decide)]; exact z4
  unfold fX6_readWalk_5
  refine Ex.ite (fun c => ?_) (fun c => ?_)
  · have c := icc_eq (m := (g 5 9).toInt) (n := 0) rfl (by decide) c
    have ht : t.2.2.1 = false := by
      cases hh : t.2.2.1 with
      | false => rfl
      | true => rw [hh] at h3; rw [h3] at c; exact absurd c (by decide)
    rw [ht]
    exact P12 (.ok P) g L hc FX.refl (fun Q hQ => by cases hQ; rfl)
  · have c := icc_neq (m := (g 5 9).toInt) (n := 0) rfl (by decide) c
    have ht : t.2.2.1 = true := by
      cases hh : t.2.2.1 with
      | true => rfl
      | false => rw [hh] at h3; exact absurd h3 c
    rw [ht]
    exact x_ref (by decide) hc (fun g1 k1 k2 => P12 (.error P) g1 L k1 k2 (fun Q hQ => nomatch hQ))
set_option maxHeartbeats 4000000 in
theorem l_stair {fu : Nat} (hfu : 1180591620717411303424 ≤ fu) {b : Nat → Int32} {n P : Nat} {t : tS} {D : dT} {g : gT} {L : lT} (h : tX b n t D P g) (hlt : P < n) : Ex (fX6_readStair_5 fu g L) (fun (_ : Unit) g1 L1 => FL g g1 ∧ mX b n (t.1, t.2.1, t.2.2.1, true) (D.1, D.2.1, D.2.2.1, tV b n (nx b n P)) P (if t.2.2.2 then .error P else nuS b n 1 99 (nx b n P)) g1) := by
  obtain ⟨hc, h1, h2, h3, h4, h5, h6⟩ := h
  have h5' : (g 4 4).toInt + (n : Int) ≤ 700 + (P : Int) := h5
  have P12 : ∀ (r : sR) (g' : gT) (L' : lT), ST b n r g' → FX [4, 7, 8] [] g g' → (∀ Q, r = .ok Q → Q = P) → Ex (fX6_readStair_5_p12 fu g' L') (fun (_ : Unit) g1 L1 => FL g g1 ∧ mX b n (t.1, t.2.1, t.2.2.1, true) (D.1, D.2.1, D.2.2.1, tV b n (nx b n P)) P (bn r (fun P => nuS b n 1 99 (nx b n P))) g1) := by
    intro r g' L' hs hf hr
    unfold fX6_readStair_5_p12
    refine Ex.sti (hs.I.upd (lo := 0) (hi := 1) rfl (by decide) (by decide)) (fun ga gae ia => ?_)
    have sa : ST b n r ga := by rw [gae] at ia ⊢; exact hs.f ia (by decide)
    have fa : FX [4, 7, 8, 10] [] g ga := by rw [gae]; exact (hf.mo (by decide) (by decide)).u5 (by decide)
    have a9 : (ga 5 10).toInt = 1 := by rw [gae, upd2_at]; rfl
    refine s_adv hfu sa (fun gb Lb sb fb => ?_)
    refine s_num hfu sb (fun x gc Lc sc fc vx => ?_)
    rw [bn_as] at sc
    have sc : ST b n (bn r (fun P => nuS b n 1 99 (nx b n P))) gc := sc
    refine Ex.sti (sc.I.updN rfl) (fun gd gde id_ => ?_)
    have sd : ST b n (bn r (fun P => nuS b n 1 99 (nx b n P))) gd := by rw [gde] at id_ ⊢; exact sc.u id_ (by decide) (by decide)
    have fbc : FX [3, 4, 5, 6, 7, 8] [] ga gc := (fb.mo (by decide) (by decide)).tr fc
    have fd : FX [3, 4, 5, 6, 7, 8, 10] [2] g gd := by
      rw [gde]; exact (((fa.mo (by decide) (by decide)).tr (fbc.mo (by decide) (by decide))).uk (by decide) (by decide))
    have d22 : gd 2 2 = g 2 2 := by
      rw [gde, upd2_nj (by decide), fbc.2 2 (by decide) (by decide), fa.2 2 (by decide) (by decide)]
    refine Ex.ret ⟨fd.fl (by decide), sd, fun Q hQ => ?_⟩
    cases r with
    | error p => exact nomatch hQ
    | ok R =>
      obtain rfl := hr R rfl
      have hn := nx_le (b := b) hc.2.2.1
      have hq := nuS_le (b := b) hn.2.1 hQ
      have := hn.2.2 hlt
      refine ⟨by omega, hq.2, by rw [d22]; exact h1, ?_, ?_, ?_, ?_, ?_⟩
      · rw [fd.2 4 (by decide) (by decide)]; exact h2
      · rw [fd.1 9 (by decide)]; exact h3
      · rw [gde]; show (gc 5 10).toInt = _; rw [fbc.1 10 (by decide), a9]; rfl
      · show (gd 4 4).toInt + (n : Int) ≤ 700 + (Q : Int)
        rw [fd.2 4 (by decide) (by decide)]; omega
      · have fac : FX [3, 4, 5, 6, 7, 8, 9, 10] [] g gc := (fa.mo (by decide) (by decide)).tr (fbc.mo (by decide) (by decide))
        obtain ⟨z1, z2, z3, z4⟩ := h6.x fac
        have dk : ∀ k, k ≠ 2 → gd k = gc k := fun k hk => by rw [gde]; exact funext fun i => upd2_nk hk
        have hv : x.toInt = tV b n (nx b n R) := vx _ rfl (nuS_ok hQ).1
        refine ⟨fun i hi => (z1 i hi).c (dk _ (by omega)) (dk _ (by omega)), ?_, ?_, ?_⟩
        · rw [gde, upd2_nj (by decide)]; exact z2
        · rw [gde, upd2_at]; exact hv
        · rw [dk 4 (by decide), dk 23 (by decide), dk 22 (by decide)]; exact z4
  unfold fX6_readStair_5
  refine Ex.ite (fun c => ?_) (fun c => ?_)
  · have c := icc_eq (m := (g 5 10).toInt) (n := 0) rfl (by decide) c
    have ht : t.2.2.2 = false := by
      cases hh : t.2.2.2 with
      | false => rfl
      | true => rw [hh] at h4; rw [h4] at c; exact absurd c (by decide)
    rw [ht]
    exact P12 (.ok P) g L hc FX.refl (fun Q hQ => by cases hQ; rfl)
  · have c := icc_neq (m := (g 5 10).toInt) (n := 0) rfl (by decide) c
    have ht : t.2.2.2 = true := by
      cases hh : t.2.2.2 with
      | true => rfl
      | false => rw [hh] at h4; exact absurd h4 c
    rw [ht]
    exact x_ref (by decide) hc (fun g1 k1 k2 => P12 (.error P) g1 L k1 k2 (fun Q hQ => nomatch hQ))
theorem x_close {fu : Nat} {g : gT} {L : lT} (hI : zI XT g) : Ex (fX8_close_4 fu g L) (fun (_ : Unit) g1 L1 => zI XT g1 ∧ FX [] [4, 23] g g1 ∧ g1 4 4 = g 4 4 ∧ ((g 4 3).toInt < 4 → (g1 4 3).toInt = (g 4 3).toInt + 1 ∧ g1 23 = upd (g 23) ((g 4 3).toInt.toNat + 1) (g 4 4)) ∧ g1 23 0 = g 23 0) := by
  have q3 := hI 4 3 0 4 rfl
  have q4 := hI 4 4 0 700 rfl
  unfold fX8_close_4 fX8_close_4_p31
  refine Ex.ite (fun c => Ex.ret ⟨hI, FX.refl, rfl, fun h => ?_, rfl⟩) (fun c => ?_)
  · have c := icc_le (m := 4) (n := (g 4 3).toInt) (by decide) rfl c
    omega
  have c := icc_nle (m := 4) (n := (g 4 3).toInt) (by decide) rfl c
  have ew : (g 4 3 + 1).toInt = (g 4 3).toInt + 1 := ic_addc rfl (by decide) (by omega) (by omega)
  refine Ex.sti (hI.upd (lo := 0) (hi := 4) rfl (by omega) (by omega)) (fun ga gae ia => ?_)
  have a3 : ga 4 3 = g 4 3 + 1 := by rw [gae]; exact upd2_at
  have a4 : ga 4 4 = g 4 4 := by rw [gae]; rfl
  rw [a3, a4]
  refine Ex.ck (by omega) (by omega) ?_
  refine Ex.sti (ia.upd (lo := 0) (hi := 700) rfl (by omega) (by omega)) (fun gb gbe ib => Ex.ret ⟨ib, ?_, ?_, fun _ => ?_, ?_⟩)
  · rw [gbe, gae]; exact (FX.refl.uk (by decide) (by decide)).uk (by decide) (by decide)
  · rw [gbe]; show ga 4 4 = g 4 4; exact a4
  · rw [gbe]
    refine ⟨?_, ?_⟩
    · show (ga 4 3).toInt = _; rw [a3]; exact ew
    · rw [upd2_k]
      have e1 : (g 4 3 + 1).toNatClampNeg = (g 4 3).toInt.toNat + 1 := by rw [nc, ew]; omega
      have e2 : ga 23 = g 23 := by rw [gae]; exact funext fun i => upd2_nk (by decide)
      rw [e1, e2]
  · have e1 : (g 4 3 + 1).toNatClampNeg = (g 4 3).toInt.toNat + 1 := by rw [nc, ew]; omega
    rw [gbe, e1, upd2_nj (by omega), gae, upd2_nk (by decide)]
set_option maxHeartbeats 4000000 in
theorem l_rule {fu : Nat} (hfu : 1180591620717411303424 ≤ fu) {b : Nat → Int32} {n P : Nat} {t : tS} {D : dT} {g : gT} {L : lT} (h : tX b n t D P g) (hlt : P < n) : Ex (fX6_readRule_5 fu g L) (fun (_ : Unit) g1 L1 => FL g g1 ∧ mX b n (t.1, t.2.1 + 1, t.2.2) (D.1, upN D.2.1 t.2.1 (nx b n P), D.2.2) P (if t.2.1 < 4 then xsP b n (nx b n P) else .error P) g1) := by
  obtain ⟨hc, h1, h2, h3, h4, h5, h6⟩ := h
  have h5' : (g 4 4).toInt + (n : Int) ≤ 700 + (P : Int) := h5
  have hn7 := hc.2.1
  have hn := nx_le (b := b) hc.2.2.1
  have hnl := hn.2.2 hlt
  unfold fX6_readRule_5 fX6_readRule_5_p19
  refine Ex.ite (fun c => ?_) (fun c => ?_)
  rotate_left
  · have c := icc_nlt (m := (g 4 3).toInt) (n := 4) rfl (by decide) c
    rw [if_neg (by omega)]
    refine x_ref (by decide) hc (fun g1 k1 k2 => ?_)
    refine x_advB k1.2.1 ?_
    have e : fX6_readExpr_5 fu 7 0 g1 L = fX6_readExpr_5_p35 fu (fX6_readExpr_5 fu 6) 0 g1 L := by
      show fX6_readExpr_5B fu (fX6_readExpr_5 fu 6) 0 g1 L = _
      unfold fX6_readExpr_5B
      rw [if_pos (by decide)]
    rw [e]
    refine Ex.cb (bX_expr hfu k1) (fun _ g2 L2 hx => ?_)
    refine Ex.cb (x_close hx.2.1) (fun _ g3 L3 hy => Ex.ret ⟨?_, ?_, fun Q hQ => nomatch hQ⟩)
    · exact ((k2.fl (by decide)).tr (hx.1.1.fl (by decide))).tr (hy.2.1.flc (by decide) hy.2.2.2.2)
    · exact hx.2.fr hy.1 hy.2.1 (by decide) (by decide) (by decide)
  have c := icc_lt (m := (g 4 3).toInt) (n := 4) rfl (by decide) c
  rw [if_pos (by omega)]
  refine x_adv hfu hc (fun g1 L1 k1 k2 => ?_)
  have e4 : g1 4 = g 4 := k2.2 4 (by decide) (by decide)
  have q44 := hc.1 4 4 0 700 rfl
  have hr1 : rm n (nx b n P) g1 := by unfold rm; rw [e4]; omega
  refine Ex.cb (cX_expr hfu 7 0 0 g1 L1 (nx b n P) xF (by decide) (by decide) rfl k1 hr1 (by unfold xF; omega)) (fun _ g2 L2 hx => ?_)
  unfold xsP
  cases hxs : xs b n xF 6 0 [] (nx b n P) with
  | error p =>
    rw [hxs] at hx
    have hx2 : bX p g2 := hx.2
    refine Ex.cb (x_close hx2.1) (fun _ g3 L3 hy => Ex.ret ⟨?_, ?_, fun Q hQ => nomatch hQ⟩)
    · exact ((k2.fl (by decide)).tr (hx.1.1.fl (by decide))).tr (hy.2.1.flc (by decide) hy.2.2.2.2)
    · exact hx2.fr hy.1 hy.2.1 (by decide) (by decide) (by decide)
  | ok q =>
    rw [hxs] at hx
    obtain ⟨hx1, hx2, hx3⟩ := hx
    have hl := xs_len xF 6 0 [] (nx b n P) q.1 q.2 hn.2.1 hxs (fun _ => rfl)
    have hl3 := hl.2.2.1
    simp only [List.length_nil] at hl3
    have e5 := kRd.len hx3
    rw [e4] at e5
    have e43 : g2 4 3 = g 4 3 := by rw [hx1.2, e4]
    refine Ex.cb (x_close hx2.1) (fun _ g3 L3 hy => Ex.ret ⟨?_, ?_, fun Q hQ => ?_⟩)
    · exact ((k2.fl (by decide)).tr (hx1.1.fl (by decide))).tr (hy.2.1.flc (by decide) hy.2.2.2.2)
    · exact hx2.fr hy.1 hy.2.1 (by decide) (by decide) (by decide) (by decide) (by decide) (by decide) (by decide) (by decide)
    · cases hQ
      have hcl := hy.2.2.2.1 (by rw [e43]; omega)
      refine ⟨by omega, hl.2.1, ?_, ?_, ?_, ?_, ?_, ?_⟩
      · rw [hy.2.1.2 2 (by decide) (by decide), hx1.1.2 2 (by decide) (by decide), k2.2 2 (by decide) (by decide)]; exact h1
      · rw [hcl.1, e43, h2]; show (t.2.1 : Int) + 1 = ((t.2.1 + 1 : Nat) : Int); omega
      · rw [hy.2.1.1 9 (by decide), hx1.1.1 9 (by decide), k2.1 9 (by decide)]; exact h3
      · rw [hy.2.1.1 10 (by decide), hx1.1.1 10 (by decide), k2.1 10 (by decide)]; exact h4
      · show (g3 4 4).toInt + (n : Int) ≤ 700 + (q.2 : Int)
        rw [hy.2.2.1]; omega
      · obtain ⟨z1, z2, z3, z4, z5, z6⟩ := h6.x k2
        have dk : ∀ k, k ≠ 4 → k ≠ 5 → k ≠ 22 → k ≠ 23 → g3 k = g1 k := fun k a4 a5 a22 a23 => by
          rw [hy.2.1.2 k a5 (by simp only [List.mem_cons, List.not_mem_nil, or_false]; omega), hx1.1.2 k a5 (by simp only [List.mem_cons, List.not_mem_nil, or_false]; omega)]
        have hxc : xc b n (nx b n P) = q.1 := by unfold xc; rw [hxs]
        have e23 : g3 23 = upd (g1 23) (t.2.1 + 1) (g2 4 4) := by
          rw [hcl.2, hx1.1.2 23 (by decide) (by decide), e43, h2]; rfl
        have eL := kRd.len hx3
        refine ⟨fun i hi => (z1 i hi).c (dk _ (by omega) (by omega) (by omega) (by omega)) (dk _ (by omega) (by omega) (by omega) (by omega)), by rw [dk 2 (by decide) (by decide) (by decide) (by decide)]; exact z2, by rw [dk 2 (by decide) (by decide) (by decide) (by decide)]; exact z3, ?_⟩
        show RX b n (t.2.1 + 1) (upN D.2.1 t.2.1 (nx b n P)) (g3 4 4).toInt (g3 23) (g3 22)
        have eo : oR b n (upN D.2.1 t.2.1 (nx b n P)) (t.2.1 + 1) = oR b n D.2.1 t.2.1 + q.1.length := by
          show oR b n (upN D.2.1 t.2.1 (nx b n P)) t.2.1 + (xc b n (upN D.2.1 t.2.1 (nx b n P) t.2.1)).length = _
          rw [oR_up (Nat.le_refl _), upN_at, hxc]
        have e44 : (g2 4 4).toInt = ((oR b n D.2.1 t.2.1 + q.1.length : Nat) : Int) := by rw [eL, z5]; omega
        refine ⟨fun r hr => ?_, ?_, fun r hr i hi => ?_⟩
        · rw [e23]
          by_cases er : r = t.2.1 + 1
          · rw [er, eo]; show (upd (g1 23) (t.2.1 + 1) (g2 4 4) (t.2.1 + 1)).toInt = _; unfold upd; rw [if_pos rfl]; exact e44
          · rw [oR_up (by omega)]
            show (upd (g1 23) (t.2.1 + 1) (g2 4 4) r).toInt = _
            unfold upd
            rw [if_neg er]
            exact z4 r (by omega)
        · rw [hy.2.2.1, eo]; exact e44
        · rw [hy.2.1.2 22 (by decide) (by decide)]
          rw [e4] at z5
          have zN : (g1 4 4).toInt.toNat = oR b n D.2.1 t.2.1 := by rw [e4]; omega
          by_cases er : r = t.2.1
          · subst er
            rw [oR_up (Nat.le_refl _), upN_at, hxc] at *
            have := hx3.2.2 i hi
            rw [zN] at this
            exact this
          · rw [upN_ne er] at hi ⊢
            rw [oR_up (by omega)]
            have hlt2 : oR b n D.2.1 r + i < oR b n D.2.1 t.2.1 := by
              have h1 : oR b n D.2.1 (r + 1) ≤ oR b n D.2.1 t.2.1 := oR_le (by omega)
              have h2 : oR b n D.2.1 (r + 1) = oR b n D.2.1 r + (xc b n (D.2.1 r)).length := rfl
              omega
            rw [hx3.2.1 _ (by rw [zN]; exact hlt2)]
            exact z6 r (by omega) i hi
theorem waS_le {b : Nat → Int32} {n : Nat} {l s : Int} : ∀ {f : Nat} {acc : List Int} {P Q : Nat}, P ≤ n → waS b n l s f acc P = .ok Q → P ≤ Q ∧ Q ≤ n := by
  intro f
  induction f with
  | zero => intro acc P Q _ h; exact nomatch h
  | succ f ih =>
    intro acc P Q hP h
    have hn := nx_le (b := b) hP
    unfold waS at h
    split at h
    · split at h
      · split at h
        · split at h
          · exact nomatch h
          · have := ih hn.2.1 h; omega
        · exact nomatch h
      · exact nomatch h
    · split at h
      · exact nomatch h
      · split at h
        · exact nomatch h
        · cases h; exact ⟨Nat.le_refl _, hP⟩
theorem opS_le {b : Nat → Int32} {n P Q k : Nat} {hi : Int} (hP : P ≤ n) (h : opS b n k hi P = .ok Q) : P ≤ Q ∧ Q ≤ n := by
  unfold opS at h
  have hn := nx_le (b := b) hP
  split at h
  · have := nuS_le hn.2.1 h; omega
  · cases h; exact ⟨Nat.le_refl _, hP⟩
theorem ops_le {b : Nat → Int32} {n P Q : Nat} (hP : P ≤ n) (h : ops b n P = .ok Q) : P ≤ Q ∧ Q ≤ n := by
  unfold ops at h
  obtain ⟨P1, e1, h⟩ := bn_inv h
  obtain ⟨P2, e2, h⟩ := bn_inv h
  have h1 := opS_le hP e1
  have h2 := opS_le h1.2 e2
  have h3 := opS_le h2.2 h
  omega
theorem tlS_le {b : Nat → Int32} {n P Q : Nat} {l : Int} (hP : P ≤ n) (h : tlS b n l P = .ok Q) : P ≤ Q ∧ Q ≤ n := by
  unfold tlS at h
  have hn := nx_le (b := b) hP
  split at h
  · obtain ⟨P1, e1, h⟩ := bn_inv h
    have h1 := waS_le hn.2.1 e1
    have h2 := ops_le h1.2 h
    omega
  · split at h
    · obtain ⟨P1, e1, h⟩ := bn_inv h
      obtain ⟨P2, e2, h⟩ := bn_inv h
      have h1 := nuS_le hn.2.1 e1
      have h2 := waS_le h1.2 e2
      have h3 := ops_le h2.2 h
      omega
    · exact ops_le hP h
theorem leS_le {b : Nat → Int32} {n P Q : Nat} {l : Int} (hP : P ≤ n) (h : leS b n l P = .ok Q) : P < Q ∧ Q ≤ n := by
  unfold leS at h
  have hn := nx_le (b := b) hP
  obtain ⟨P1, e1, h⟩ := bn_inv h
  obtain ⟨P2, e2, h⟩ := bn_inv h
  obtain ⟨P3, e3, h⟩ := bn_inv h
  obtain ⟨P4, e4, h⟩ := bn_inv h
  obtain ⟨P5, e5, h⟩ := bn_inv h
  obtain ⟨P6, e6, h⟩ := bn_inv h
  have h1 := nuS_le hn.2.1 e1
  have h2 := nuS_le h1.2 e2
  have h3 := nuS_le h2.2 e3
  have h4 := nuS_le h3.2 e4
  have h5 := nuS_le h4.2 e5
  have h6 := nuS_le h5.2 e6
  have h7 := tlS_le h6.2 h
  omega
set_option maxHeartbeats 4000000 in
theorem l_line {fu : Nat} (hfu : 1180591620717411303424 ≤ fu) {b : Nat → Int32} {n P : Nat} {t : tS} {D : dT} {g : gT} {L : lT} (h : tX b n t D P g) : Ex (fX6_readLine_5 fu g L) (fun (_ : Unit) g1 L1 => LPx b n g (liS b n t P) (liD b n t D P) g1) := by
  obtain ⟨hc, h1, h2, h3, h4, h5, h6⟩ := id h
  have h5' : (g 4 4).toInt + (n : Int) ≤ 700 + (P : Int) := h5
  unfold fX6_readLine_5
  unfold liS liD
  refine e_lessonW hfu hc.1 (fun w5 => ?_) (fun w5 => ?_)
  · have w5 := (xW_isW hc _).mp w5
    rw [wB_t w5, if_pos rfl, if_pos rfl]
    refine Ex.cb (s_lesson hfu hc h1) (fun _ g1 L1 hx => l_69 (P := P) hfu hx.2.2.2.1 ⟨hx.1, fun Q hQ => ?_⟩)
    have hl12 : t.1 < 12 := by
      by_cases hh : t.1 < 12
      · exact hh
      · rw [if_neg hh] at hQ; exact nomatch hQ
    have hLX := hx.2.2.2.2 Q hQ
    rw [if_pos hl12] at hQ
    have hle := leS_le hc.2.2.1 hQ
    refine ⟨hle.1, hle.2, ?_, ?_, ?_, ?_, ?_, ?_⟩
    · rw [hx.2.2.1 hl12]; show (t.1 : Int) + 1 = ((t.1 + 1 : Nat) : Int); omega
    · rw [hx.2.1.1 4 (by decide) (by decide) (by decide)]; exact h2
    · rw [hx.2.1.2.2.1]; exact h3
    · rw [hx.2.1.2.2.2.1]; exact h4
    · show (g1 4 4).toInt + (n : Int) ≤ 700 + (Q : Int)
      rw [hx.2.1.1 4 (by decide) (by decide) (by decide)]; omega
    · obtain ⟨z1, z2, z3, z4⟩ := h6
      have hk := hx.2.1
      refine ⟨fun i hi => ?_, by rw [hk.2.1 3 (by decide)]; exact z2, by rw [hk.2.1 4 (by decide)]; exact z3, ?_⟩
      · have hi : i < t.1 + 1 := hi
        show LX b n (upN D.1 t.1 P i) (69 + i) g1
        by_cases ei : i = t.1
        · rw [ei, upN_at]; exact hLX
        · rw [upN_ne ei]
          exact (z1 i (by omega)).c (hk.2.2.2.2 _ (by omega) (by omega) (by omega)) (hk.2.2.2.2 _ (by omega) (by omega) (by omega))
      · rw [hk.1 4 (by decide) (by decide) (by decide), hk.1 23 (by decide) (by decide) (by decide), hk.1 22 (by decide) (by decide) (by decide)]; exact z4
  rw [wB_f (fun h => w5 ((xW_isW hc _).mpr h)), if_neg (show ¬ (false = true) by decide), if_neg (show ¬ (false = true) by decide)]
  refine e_walkW hfu hc.1 (fun w11 => ?_) (fun w11 => ?_)
  · have w11 := (xW_isW hc _).mp w11
    rw [wB_t w11, if_pos rfl, if_pos rfl]
    exact Ex.cb (l_walk hfu h (isW_lt w11)) (fun _ g1 L1 hx => l_69 hfu hx.1 hx.2)
  rw [wB_f (fun h => w11 ((xW_isW hc _).mpr h)), if_neg (show ¬ (false = true) by decide), if_neg (show ¬ (false = true) by decide)]
  refine e_stairW hfu hc.1 (fun w12 => ?_) (fun w12 => ?_)
  · have w12 := (xW_isW hc _).mp w12
    rw [wB_t w12, if_pos rfl, if_pos rfl]
    exact Ex.cb (l_stair hfu h (isW_lt w12)) (fun _ g1 L1 hx => l_69 hfu hx.1 hx.2)
  rw [wB_f (fun h => w12 ((xW_isW hc _).mpr h)), if_neg (show ¬ (false = true) by decide), if_neg (show ¬ (false = true) by decide)]
  refine e_ruleW hfu hc.1 (fun w13 => ?_) (fun w13 => ?_)
  · have w13 := (xW_isW hc _).mp w13
    rw [wB_t w13, if_pos rfl, if_pos rfl]
    exact Ex.cb (l_rule hfu h (isW_lt w13)) (fun _ g1 L1 hx => l_69 hfu hx.1 hx.2)
  rw [wB_f (fun h => w13 ((xW_isW hc _).mpr h)), if_neg (show ¬ (false = true) by decide), if_neg (show ¬ (false = true) by decide)]
  refine x_ref (by decide) hc (fun g1 k1 k2 => ?_)
  unfold fX6_readLine_5_p69
  exact x_rsgB k1.2.1 (Ex.ret ⟨k2.fl (by decide), k1⟩)
theorem fnS_le {b : Nat → Int32} {n P : Nat} {r : sR} {t : tS} {q : tS × Nat} (hr : ∀ Q, r = .ok Q → P < Q ∧ Q ≤ n) (h : fnS b n r t = .ok q) : P < q.2 ∧ q.2 ≤ n := by
  unfold fnS at h
  split at h
  · exact nomatch h
  · rename_i Q hQ
    cases h
    obtain ⟨R, e1, e2⟩ := bn_inv hQ
    have := hr R e1
    unfold sgS at e2
    split at e2
    · cases e2
      have hn := nx_le (b := b) this.2
      exact ⟨by show P < nx b n R; omega, hn.2.1⟩
    · exact nomatch e2
theorem xsP_le {b : Nat → Int32} {n P Q : Nat} (hP : P ≤ n) (h : xsP b n P = .ok Q) : P < Q ∧ Q ≤ n := by
  unfold xsP at h
  split at h
  · exact nomatch h
  · rename_i q hq
    cases h
    have := xs_len xF 6 0 [] P q.1 q.2 hP hq (fun _ => rfl)
    exact ⟨this.2.2.2 (by decide), this.2.1⟩
theorem liS_le {b : Nat → Int32} {n P : Nat} {t : tS} {q : tS × Nat} (hP : P ≤ n) (h : liS b n t P = .ok q) : P < q.2 ∧ q.2 ≤ n := by
  have hn := nx_le (b := b) hP
  unfold liS at h
  split at h
  · refine fnS_le (fun Q hQ => ?_) h
    split at hQ
    · exact leS_le hP hQ
    · exact nomatch hQ
  split at h
  · refine fnS_le (fun Q hQ => ?_) h
    split at hQ
    · exact nomatch hQ
    · have := nuS_le hn.2.1 hQ; omega
  split at h
  · refine fnS_le (fun Q hQ => ?_) h
    split at hQ
    · exact nomatch hQ
    · have := nuS_le hn.2.1 hQ; omega
  split at h
  · refine fnS_le (fun Q hQ => ?_) h
    split at hQ
    · have := xsP_le hn.2.1 hQ; omega
    · exact nomatch hQ
  · exact nomatch h
/-- the whole text, as the class reads it -/
def HP (b : Nat → Int32) (n : Nat) (D : dT) (g : gT) (r : Except Nat tS) (g1 : gT) : Prop := FL g g1 ∧ zI XT g1 ∧ (match r with
  | .error p => (g1 5 7).toInt ≠ 0 ∧ (g1 5 8).toInt = (p : Int)
  | .ok t => (g1 5 7).toInt = 0 ∧ (g1 5 8).toInt = -1 ∧ (g1 2 2).toInt = (t.1 : Int) ∧ (g1 4 3).toInt = (t.2.1 : Int) ∧ dX b n t D g1)
set_option maxHeartbeats 4000000 in
theorem l_read {fu : Nat} (hfu : 1180591620717411303424 ≤ fu) {b : Nat → Int32} {n : Nat} {p1 : Int32} {g : gT} {L : lT} (hI : zI XT g) (hn : p1.toInt = (n : Int)) (hn7 : n ≤ 700) (hb : ∀ j, j < n → g 14 j = b j) (h23 : (g 23 0).toInt = 0) : Ex (fX6_read_5_2 fu p1 g L) (fun (_ : Unit) g1 L1 => HP b n (hoD b n 702 (0, 0, false, false) D0 (sk b n 0)) g (hoS b n 702 (0, 0, false, false) (sk b n 0)) g1) := by
  unfold fX6_read_5_2
  refine Ex.cb (P := fun (_ : Unit) g1 L1 => g1 = upd2 (upd2 (upd2 (upd2 (upd2 g 4 3 0) 4 4 0) 2 2 0) 2 3 1) 2 4 99 ∧ L1 = L) ⟨(), _, L, rfl, rfl, rfl⟩ (fun _ gx Lx hx => ?_)
  have ix : zI XT gx := by
    rw [hx.1]
    exact ((((hI.upd (lo := 0) (hi := 4) rfl (by decide) (by decide)).upd (lo := 0) (hi := 700) rfl (by decide) (by decide)).upd (lo := 0) (hi := 12) rfl (by decide) (by decide)).updN rfl).updN rfl
  have fx : FL g gx := by
    rw [hx.1]
    refine ⟨fun k _ hk => ?_, rfl⟩
    have h2 : k ≠ 2 := fun e => hk (by rw [e]; decide)
    have h4 : k ≠ 4 := fun e => hk (by rw [e]; decide)
    funext i
    rw [upd2_nk h2, upd2_nk h2, upd2_nk h2, upd2_nk h4, upd2_nk h4]
  have x22 : (gx 2 2).toInt = 0 := by rw [hx.1]; rfl
  have x43 : (gx 4 3).toInt = 0 := by rw [hx.1]; rfl
  have x44 : (gx 4 4).toInt = 0 := by rw [hx.1]; rfl
  have x23 : (gx 23 0).toInt = 0 := by rw [hx.1]; exact h23
  have x2 : (gx 2 3).toInt = 1 ∧ (gx 2 4).toInt = 99 := by rw [hx.1]; exact ⟨rfl, rfl⟩
  clear hx
  have em : (if 700 < p1 then 700 else p1 : Int32) = p1 := if_neg (fun h => by have := icc_lt (m := 700) (n := p1.toInt) (by decide) rfl h; omega)
  rw [em]
  refine Ex.sti (ix.upd (lo := 0) (hi := 700) rfl (by omega) (by omega)) (fun g1 e1 i1 => ?_)
  refine Ex.sti (i1.upd (lo := 0) (hi := 700) rfl (by decide) (by decide)) (fun g2 e2 i2 => ?_)
  refine Ex.sti (i2.updN rfl) (fun g3 e3 i3 => ?_)
  refine Ex.sti (i3.updN rfl) (fun g4 e4 i4 => ?_)
  refine Ex.sti (i4.upd (lo := 0) (hi := 1) rfl (by decide) (by decide)) (fun g5 e5 i5 => ?_)
  refine Ex.sti (i5.upd (lo := 0) (hi := 1) rfl (by decide) (by decide)) (fun g6 e6 i6 => ?_)
  refine Ex.sti (i6.updN rfl) (fun g7 e7 i7 => ?_)
  have f7 : FX [2, 3, 4, 7, 8, 9, 10] [] gx g7 := by
    rw [e7, e6, e5, e4, e3, e2, e1]
    exact ((((((FX.refl.u5 (by decide)).u5 (by decide)).u5 (by decide)).u5 (by decide)).u5 (by decide)).u5 (by decide)).u5 (by decide)
  have y2 : (g7 5 2).toInt = (n : Int) := by rw [e7, e6, e5, e4, e3, e2, e1]; exact hn
  have y3 : (g7 5 3).toInt = 0 := by rw [e7, e6, e5, e4, e3, e2]; rfl
  have y7 : (g7 5 7).toInt = 0 := by rw [e7, e6, e5, e4, e3]; rfl
  have y8 : (g7 5 8).toInt = -1 := by rw [e7, e6, e5, e4]; rfl
  have y9 : (g7 5 9).toInt = 0 := by rw [e7, e6, e5]; rfl
  have y10 : (g7 5 10).toInt = 0 := by rw [e7, e6]; rfl
  have y4 : (g7 5 4).toInt = 0 := by rw [e7, upd2_at]; rfl
  clear e1 e2 e3 e4 e5 e6 e7 i1 i2 i3 i4 i5 i6
  refine Ex.cb (tX6_advance fu hfu g7 Lx i7 (by omega) (by omega)) (fun _ gs Ls hq => ?_)
  obtain ⟨k1, k2, k3⟩ := hq
  have eN : xN g7 = n := by show (g7 5 2).toInt.toNat = n; omega
  have e3 : (g7 5 3).toInt.toNat = 0 := by omega
  have b7 : ∀ j, j < n → g7 14 j = b j := fun j hj => by rw [f7.2 14 (by decide) (by decide), fx.1 14 (by decide) (by decide)]; exact hb j hj
  have e14 : gs 14 = g7 14 := k2.2 14 (by decide) (by decide)
  have eN1 : xN gs = n := by show (gs 5 2).toInt.toNat = n; rw [k2.i (by decide)]; omega
  rw [eN, e3, sk_c b7] at k3
  have hsk := sk_le (b := b) (n := n) (p := 0) (Nat.zero_le _)
  generalize sk b n 0 = P0 at k3 hsk
  obtain ⟨t1, t2, t3, t4⟩ := k3
  rw [e14, eN1] at t2 t3 t4
  rw [tK_c b7] at t2
  rw [tE_c b7] at t3
  rw [tV_c hsk.2 b7] at t4
  have hs : tX b n (0, 0, false, false) D0 P0 gs := by
    refine ⟨⟨k1, hn7, hsk.2, (k2.i (by decide)).trans y2, fun j hj => by rw [e14]; exact b7 j hj, t1, t2, t3, t4, (k2.i (by decide)).trans y7, (k2.i (by decide)).trans y8⟩, ?_, ?_, ?_, ?_, ?_, ?_⟩
    · rw [k2.2 2 (by decide) (by decide), f7.2 2 (by decide) (by decide)]; exact x22
    · rw [k2.2 4 (by decide) (by decide), f7.2 4 (by decide) (by decide)]; exact x43
    · rw [k2.1 9 (by decide)]; exact y9
    · rw [k2.1 10 (by decide)]; exact y10
    · show (gs 4 4).toInt + (n : Int) ≤ 700 + (P0 : Int)
      rw [k2.2 4 (by decide) (by decide), f7.2 4 (by decide) (by decide)]; omega
    · have hd : dX b n (0, 0, false, false) D0 gx := by
        refine ⟨fun i hi => absurd hi (Nat.not_lt_zero _), x2.1, x2.2, fun r hr => ?_, x44, fun r hr => absurd hr (Nat.not_lt_zero _)⟩
        obtain rfl : r = 0 := Nat.le_zero.mp hr
        exact x23
      exact (hd.x f7).x k2
  have fs : FL g gs := (fx.tr (f7.fl (by decide))).tr (k2.fl (by decide))
  generalize hR : hoS b n 702 (0, 0, false, false) P0 = R
  generalize hD : hoD b n 702 (0, 0, false, false) D0 P0 = DD
  unfold fX6_read_5_2_l61
  refine Ex.loop (α := Int32 × gT × lT) (fun v => (0 ≤ v.1.toInt ∧ v.1.toInt ≤ 701) ∧ FL g v.2.1 ∧ ((∃ (t : tS) (D : dT) (P f : Nat), hoS b n f t P = R ∧ (∀ t', R = .ok t' → hoD b n f t D P = DD) ∧ tX b n t D P v.2.1 ∧ n + 1 ≤ f + P ∧ v.1.toInt ≤ (P : Int)) ∨ (∃ p, R = .error p ∧ bX p v.2.1))) (fun v => 702 - v.1.toInt) (by omega) (by show 702 - (0 : Int32).toInt < (fu : Int); have : (0 : Int32).toInt = 0 := rfl; omega) ⟨(show 0 ≤ (0 : Int32).toInt ∧ (0 : Int32).toInt ≤ 701 from by decide), fs, Or.inl ⟨(0, 0, false, false), D0, P0, 702, hR, fun _ _ => hD, hs, by omega, (show (0 : Int) ≤ (P0 : Int) by omega)⟩⟩ (fun k61 v hv ih => ?_)
  obtain ⟨v3, g', L'⟩ := v
  obtain ⟨hv, hf, hI2⟩ := hv
  have hv : 0 ≤ v3.toInt ∧ v3.toInt ≤ 701 := hv
  have hf : FL g g' := hf
  show Ex (fX6_read_5_2_s61 fu k61 v3 g' L') _
  unfold fX6_read_5_2_s61 fX6_read_5_2_p93
  rcases hI2 with ⟨t, D, P, f, q1, qD, q2, q3, q4⟩ | ⟨p, q1, q2⟩
  rotate_left
  · have q2 : bX p g' := q2
    have done : Ex (some ((), (g', L'))) (fun (_ : Unit) g1 L1 => HP b n DD g R g1) := Ex.ret (by rw [q1]; exact ⟨hf, q2.1, q2.2.2.1, q2.2.2.2⟩)
    refine Ex.ite (fun _ => done) (fun _ => Ex.ite (fun _ => done) (fun _ => Ex.ite (fun _ => done) (fun c => ?_)))
    exact absurd q2.2.1 (icc_neq (m := (g' 5 4).toInt) (n := 5) rfl (by decide) c)
  have q2 : tX b n t D P g' := q2
  have q4 : v3.toInt ≤ (P : Int) := q4
  obtain ⟨a1, a2, a3, a4, a5, a6, a7, a8, a9, a10, a11⟩ := id q2.1
  obtain ⟨f, rfl⟩ : ∃ f', f = f' + 1 := ⟨f - 1, by omega⟩
  unfold hoS at q1
  unfold hoD at qD
  have krg := tK_rg b n P
  by_cases k0 : tK b n P = 0
  · rw [if_pos k0] at q1 qD
    have done : Ex (some ((), (g', L'))) (fun (_ : Unit) g1 L1 => HP b n DD g R g1) := Ex.ret (by rw [← q1]; rw [← qD t q1.symm]; exact ⟨hf, a1, a10, a11, q2.2.1, q2.2.2.1, q2.2.2.2.2.2.2⟩)
    refine Ex.ite (fun _ => done) (fun _ => Ex.ite (fun _ => done) (fun c => ?_))
    exact absurd (a7.trans k0) (icc_neq (m := (g' 5 4).toInt) (n := 0) rfl (by decide) c)
  rw [if_neg k0] at q1 qD
  have hlt : P < n := tK_n0 (b := b) k0
  refine Ex.ite (fun c => by have := icc_lt (m := 700) (n := v3.toInt) (by decide) rfl c; omega) (fun _ => ?_)
  refine Ex.ite (fun c => by have := icc_eq (m := (g' 5 4).toInt) (n := 0) rfl (by decide) c; omega) (fun _ => ?_)
  refine Ex.ite (fun c => by have := icc_eq (m := (g' 5 4).toInt) (n := 5) rfl (by decide) c; omega) (fun _ => ?_)
  generalize hw : v3 + 1 = w
  have ew : w.toInt = v3.toInt + 1 := by rw [← hw]; exact ic_addc rfl (by decide) (by omega) (by omega)
  refine Ex.cb (l_line hfu q2) (fun _ g'' L'' hx => ?_)
  cases hli : liS b n t P with
  | error p =>
    rw [hli] at hx q1
    exact ih (w, g'', L'') ⟨(show 0 ≤ w.toInt ∧ w.toInt ≤ 701 by omega), hf.tr hx.1, Or.inr ⟨p, q1.symm, hx.2⟩⟩ (show 702 - w.toInt < 702 - v3.toInt by omega) (show 0 < 702 - v3.toInt by omega)
  | ok q =>
    rw [hli] at hx q1 qD
    have hle := liS_le a3 hli
    exact ih (w, g'', L'') ⟨(show 0 ≤ w.toInt ∧ w.toInt ≤ 701 by omega), hf.tr hx.1, Or.inl ⟨q.1, liD b n t D P, q.2, f, q1, qD, hx.2, by omega, (show w.toInt ≤ (q.2 : Int) by omega)⟩⟩ (show 702 - w.toInt < 702 - v3.toInt by omega) (show 0 < 702 - v3.toInt by omega)
