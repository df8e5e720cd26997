/-! ===== the class's lines, one after another ===== -/
def FL (g g1 : gT) : Prop := ∀ k, k < 69 → k ∉ [2, 4, 5, 22, 23] → g1 k = g k
theorem FL.refl {g : gT} : FL g g := fun _ _ _ => rfl
theorem FL.tr {g g1 g2 : gT} (h1 : FL g g1) (h2 : FL g1 g2) : FL g g2 := fun k a c => (h2 k a c).trans (h1 k a c)
theorem FX.fl {g g1 : gT} {A B : List Nat} (h : FX A B g g1) (hB : ∀ k ∈ B, k ∈ [2, 4, 5, 22, 23]) : FL g g1 := fun k _ c => h.2 k (fun e => c (by rw [e]; decide)) (fun hk => c (hB k hk))
theorem K2.fl {g g1 : gT} (h : K2 g g1) : FL g g1 := fun k a c => h.1 k a (fun e => c (by rw [e]; decide)) (fun e => c (by rw [e]; decide))
/-- what has been told -/
def tX (b : Nat → Int32) (n : Nat) (t : tS) (P : Nat) (g : gT) : Prop := cX b n P g ∧ (g 2 2).toInt = (t.1 : Int) ∧ (g 4 3).toInt = (t.2.1 : Int) ∧ (g 5 9).toInt = (if t.2.2.1 then 1 else 0) ∧ (g 5 10).toInt = (if t.2.2.2 then 1 else 0) ∧ rm n P g
def LPx (b : Nat → Int32) (n : Nat) (g : gT) (r : Except Nat (tS × Nat)) (g1 : gT) : Prop := FL g g1 ∧ (match r with
  | .error p => bX p g1
  | .ok q => tX b n q.1 q.2 g1)
/-- what a line has told, its sign not yet read -/
def mX (b : Nat → Int32) (n : Nat) (t : tS) (P : Nat) (r : sR) (g : gT) : Prop := ST b n r g ∧ (∀ Q, r = .ok Q → P < Q ∧ Q ≤ n ∧ (g 2 2).toInt = (t.1 : Int) ∧ (g 4 3).toInt = (t.2.1 : Int) ∧ (g 5 9).toInt = (if t.2.2.1 then 1 else 0) ∧ (g 5 10).toInt = (if t.2.2.2 then 1 else 0) ∧ rm n Q g)
theorem l_69 {fu : Nat} (hfu : 1180591620717411303424 ≤ fu) {b : Nat → Int32} {n P : Nat} {t : tS} {r : sR} {g0 g : gT} {L : lT} (hf : FL g0 g) (h : mX b n t P r g) : Ex (fX6_readLine_5_p69 fu g L) (fun (_ : Unit) g1 L1 => LPx b n g0 (fnS b n r t) g1) := by
  obtain ⟨h1, h2⟩ := h
  unfold fX6_readLine_5_p69
  refine s_sgn hfu h1 (fun g1 L1 s1 f1 => Ex.ret ⟨hf.tr (f1.fl (by decide)), ?_⟩)
  have s1 : ST b n (bn r (sgS b n 59)) g1 := s1
  unfold fnS
  cases r with
  | error p => exact s1
  | ok Q =>
    obtain ⟨y0, yn, y1, y2, y3, y4, y5⟩ := h2 Q rfl
    rw [bn_ok] at s1 ⊢
    unfold sgS at s1 ⊢
    rcases sB_d b n Q 59 with ⟨hs, e⟩ | ⟨hs, e⟩
    · rw [e] at s1 ⊢
      have hn := nx_le (b := b) yn
      refine ⟨s1, ?_, ?_, ?_, ?_, ?_⟩
      · rw [f1.2 2 (by decide) (by decide)]; exact y1
      · rw [f1.2 4 (by decide) (by decide)]; exact y2
      · rw [f1.1 9 (by decide)]; exact y3
      · rw [f1.1 10 (by decide)]; exact y4
      · have y5 : (g 4 4).toInt + (n : Int) ≤ 700 + (Q : Int) := y5
        show (g1 4 4).toInt + (n : Int) ≤ 700 + (nx b n Q : Int)
        rw [f1.2 4 (by decide) (by decide)]; omega
    · rw [e] at s1 ⊢
      exact s1
set_option maxHeartbeats 4000000 in
theorem l_walk {fu : Nat} (hfu : 1180591620717411303424 ≤ fu) {b : Nat → Int32} {n P : Nat} {t : tS} {g : gT} {L : lT} (h : tX b n t P g) (hlt : P < n) : Ex (fX6_readWalk_5 fu g L) (fun (_ : Unit) g1 L1 => FL g g1 ∧ mX b n (t.1, t.2.1, true, t.2.2.2) P (if t.2.2.1 then .error P else nuS b n 0 9 (nx b n P)) g1) := by
  obtain ⟨hc, h1, h2, h3, h4, h5⟩ := h
  have h5' : (g 4 4).toInt + (n : Int) ≤ 700 + (P : Int) := h5
  have P12 : ∀ (r : sR) (g' : gT) (L' : lT), ST b n r g' → FX [4, 7, 8] [] g g' → (∀ Q, r = .ok Q → Q = P) → Ex (fX6_readWalk_5_p12 fu g' L') (fun (_ : Unit) g1 L1 => FL g g1 ∧ mX b n (t.1, t.2.1, true, t.2.2.2) P (bn r (fun P => nuS b n 0 9 (nx b n P))) g1) := by
    intro r g' L' hs hf hr
    unfold fX6_readWalk_5_p12
    refine Ex.sti (hs.I.upd (lo := 0) (hi := 1) rfl (by decide) (by decide)) (fun ga gae ia => ?_)
    have sa : ST b n r ga := by rw [gae] at ia ⊢; exact hs.f ia (by decide)
    have fa : FX [4, 7, 8, 9] [] g ga := by rw [gae]; exact (hf.mo (by decide) (by decide)).u5 (by decide)
    have a9 : (ga 5 9).toInt = 1 := by rw [gae, upd2_at]; rfl
    refine s_adv hfu sa (fun gb Lb sb fb => ?_)
    refine s_num hfu sb (fun x gc Lc sc fc _ => ?_)
    rw [bn_as] at sc
    have sc : ST b n (bn r (fun P => nuS b n 0 9 (nx b n P))) gc := sc
    refine Ex.sti (sc.I.updN rfl) (fun gd gde id_ => ?_)
    have sd : ST b n (bn r (fun P => nuS b n 0 9 (nx b n P))) gd := by rw [gde] at id_ ⊢; exact sc.u id_ (by decide) (by decide)
    have fbc : FX [3, 4, 5, 6, 7, 8] [] ga gc := (fb.mo (by decide) (by decide)).tr fc
    have fd : FX [3, 4, 5, 6, 7, 8, 9] [2] g gd := by
      rw [gde]; exact (((fa.mo (by decide) (by decide)).tr (fbc.mo (by decide) (by decide))).uk (by decide) (by decide))
    have d22 : gd 2 2 = g 2 2 := by
      rw [gde, upd2_nj (by decide), fbc.2 2 (by decide) (by decide), fa.2 2 (by decide) (by decide)]
    refine Ex.ret ⟨fd.fl (by decide), sd, fun Q hQ => ?_⟩
    cases r with
    | error p => exact nomatch hQ
    | ok R =>
      obtain rfl := hr R rfl
      have hn := nx_le (b := b) hc.2.2.1
      have hq := nuS_le (b := b) hn.2.1 hQ
      have := hn.2.2 hlt
      refine ⟨by omega, hq.2, by rw [d22]; exact h1, ?_, ?_, ?_, ?_⟩
      · rw [fd.2 4 (by decide) (by decide)]; exact h2
      · rw [gde]; show (gc 5 9).toInt = _; rw [fbc.1 9 (by decide), a9]; rfl
      · rw [fd.1 10 (by decide)]; exact h4
      · show (gd 4 4).toInt + (n : Int) ≤ 700 + (Q : Int)
        rw [fd.2 4 (by decide) (by decide)]; omega
  unfold fX6_readWalk_5
  refine Ex.ite (fun c => ?_) (fun c => ?_)
  · have c := icc_eq (m := (g 5 9).toInt) (n := 0) rfl (by decide) c
    have ht : t.2.2.1 = false := by
      cases hh : t.2.2.1 with
      | false => rfl
      | true => rw [hh] at h3; rw [h3] at c; exact absurd c (by decide)
    rw [ht]
    exact P12 (.ok P) g L hc FX.refl (fun Q hQ => by cases hQ; rfl)
  · have c := icc_neq (m := (g 5 9).toInt) (n := 0) rfl (by decide) c
    have ht : t.2.2.1 = true := by
      cases hh : t.2.2.1 with
      | true => rfl
      | false => rw [hh] at h3; exact absurd h3 c
    rw [ht]
    exact x_ref (by decide) hc (fun g1 k1 k2 => P12 (.error P) g1 L k1 k2 (fun Q hQ => nomatch hQ))
set_option maxHeartbeats 4000000 in
theorem l_stair {fu : Nat} (hfu : 1180591620717411303424 ≤ fu) {b : Nat → Int32} {n P : Nat} {t : tS} {g : gT} {L : lT} (h : tX b n t P g) (hlt : P < n) : Ex (fX6_readStair_5 fu g L) (fun (_ : Unit) g1 L1 => FL g g1 ∧ mX b n (t.1, t.2.1, t.2.2.1, true) P (if t.2.2.2 then .error P else nuS b n 1 99 (nx b n P)) g1) := by
  obtain ⟨hc, h1, h2, h3, h4, h5⟩ := h
  have h5' : (g 4 4).toInt + (n : Int) ≤ 700 + (P : Int) := h5
  have P12 : ∀ (r : sR) (g' : gT) (L' : lT), ST b n r g' → FX [4, 7, 8] [] g g' → (∀ Q, r = .ok Q → Q = P) → Ex (fX6_readStair_5_p12 fu g' L') (fun (_ : Unit) g1 L1 => FL g g1 ∧ mX b n (t.1, t.2.1, t.2.2.1, true) P (bn r (fun P => nuS b n 1 99 (nx b n P))) g1) := by
    intro r g' L' hs hf hr
    unfold fX6_readStair_5_p12
    refine Ex.sti (hs.I.upd (lo := 0) (hi := 1) rfl (by decide) (by decide)) (fun ga gae ia => ?_)
    have sa : ST b n r ga := by rw [gae] at ia ⊢; exact hs.f ia (by decide)
    have fa : FX [4, 7, 8, 10] [] g ga := by rw [gae]; exact (hf.mo (by decide) (by decide)).u5 (by decide)
    have a9 : (ga 5 10).toInt = 1 := by rw [gae, upd2_at]; rfl
    refine s_adv hfu sa (fun gb Lb sb fb => ?_)
    refine s_num hfu sb (fun x gc Lc sc fc _ => ?_)
    rw [bn_as] at sc
    have sc : ST b n (bn r (fun P => nuS b n 1 99 (nx b n P))) gc := sc
    refine Ex.sti (sc.I.updN rfl) (fun gd gde id_ => ?_)
    have sd : ST b n (bn r (fun P => nuS b n 1 99 (nx b n P))) gd := by rw [gde] at id_ ⊢; exact sc.u id_ (by decide) (by decide)
    have fbc : FX [3, 4, 5, 6, 7, 8] [] ga gc := (fb.mo (by decide) (by decide)).tr fc
    have fd : FX [3, 4, 5, 6, 7, 8, 10] [2] g gd := by
      rw [gde]; exact (((fa.mo (by decide) (by decide)).tr (fbc.mo (by decide) (by decide))).uk (by decide) (by decide))
    have d22 : gd 2 2 = g 2 2 := by
      rw [gde, upd2_nj (by decide), fbc.2 2 (by decide) (by decide), fa.2 2 (by decide) (by decide)]
    refine Ex.ret ⟨fd.fl (by decide), sd, fun Q hQ => ?_⟩
    cases r with
    | error p => exact nomatch hQ
    | ok R =>
      obtain rfl := hr R rfl
      have hn := nx_le (b := b) hc.2.2.1
      have hq := nuS_le (b := b) hn.2.1 hQ
      have := hn.2.2 hlt
      refine ⟨by omega, hq.2, by rw [d22]; exact h1, ?_, ?_, ?_, ?_⟩
      · rw [fd.2 4 (by decide) (by decide)]; exact h2
      · rw [fd.1 9 (by decide)]; exact h3
      · rw [gde]; show (gc 5 10).toInt = _; rw [fbc.1 10 (by decide), a9]; rfl
      · show (gd 4 4).toInt + (n : Int) ≤ 700 + (Q : Int)
        rw [fd.2 4 (by decide) (by decide)]; omega
  unfold fX6_readStair_5
  refine Ex.ite (fun c => ?_) (fun c => ?_)
  · have c := icc_eq (m := (g 5 10).toInt) (n := 0) rfl (by decide) c
    have ht : t.2.2.2 = false := by
      cases hh : t.2.2.2 with
      | false => rfl
      | true => rw [hh] at h4; rw [h4] at c; exact absurd c (by decide)
    rw [ht]
    exact P12 (.ok P) g L hc FX.refl (fun Q hQ => by cases hQ; rfl)
  · have c := icc_neq (m := (g 5 10).toInt) (n := 0) rfl (by decide) c
    have ht : t.2.2.2 = true := by
      cases hh : t.2.2.2 with
      | true => rfl
      | false => rw [hh] at h4; exact absurd h4 c
    rw [ht]
    exact x_ref (by decide) hc (fun g1 k1 k2 => P12 (.error P) g1 L k1 k2 (fun Q hQ => nomatch hQ))
theorem x_close {fu : Nat} {g : gT} {L : lT} (hI : zI XT g) : Ex (fX8_close_4 fu g L) (fun (_ : Unit) g1 L1 => zI XT g1 ∧ FX [] [4, 23] g g1 ∧ g1 4 4 = g 4 4 ∧ ((g 4 3).toInt < 4 → (g1 4 3).toInt = (g 4 3).toInt + 1)) := by
  have q3 := hI 4 3 0 4 rfl
  have q4 := hI 4 4 0 700 rfl
  unfold fX8_close_4 fX8_close_4_p31
  refine Ex.ite (fun c => Ex.ret ⟨hI, FX.refl, rfl, fun h => ?_⟩) (fun c => ?_)
  · have c := icc_le (m := 4) (n := (g 4 3).toInt) (by decide) rfl c
    omega
  have c := icc_nle (m := 4) (n := (g 4 3).toInt) (by decide) rfl c
  have ew : (g 4 3 + 1).toInt = (g 4 3).toInt + 1 := ic_addc rfl (by decide) (by omega) (by omega)
  refine Ex.sti (hI.upd (lo := 0) (hi := 4) rfl (by omega) (by omega)) (fun ga gae ia => ?_)
  have a3 : ga 4 3 = g 4 3 + 1 := by rw [gae]; exact upd2_at
  have a4 : ga 4 4 = g 4 4 := by rw [gae]; rfl
  rw [a3, a4]
  refine Ex.ck (by omega) (by omega) ?_
  refine Ex.sti (ia.upd (lo := 0) (hi := 700) rfl (by omega) (by omega)) (fun gb gbe ib => Ex.ret ⟨ib, ?_, ?_, fun _ => ?_⟩)
  · rw [gbe, gae]; exact (FX.refl.uk (by decide) (by decide)).uk (by decide) (by decide)
  · rw [gbe]; show ga 4 4 = g 4 4; exact a4
  · rw [gbe]; show (ga 4 3).toInt = _; rw [a3]; exact ew
set_option maxHeartbeats 4000000 in
theorem l_rule {fu : Nat} (hfu : 1180591620717411303424 ≤ fu) {b : Nat → Int32} {n P : Nat} {t : tS} {g : gT} {L : lT} (h : tX b n t P g) (hlt : P < n) : Ex (fX6_readRule_5 fu g L) (fun (_ : Unit) g1 L1 => FL g g1 ∧ mX b n (t.1, t.2.1 + 1, t.2.2) P (if t.2.1 < 4 then xsP b n (nx b n P) else .error P) g1) := by
  obtain ⟨hc, h1, h2, h3, h4, h5⟩ := h
  have h5' : (g 4 4).toInt + (n : Int) ≤ 700 + (P : Int) := h5
  have hn7 := hc.2.1
  have hn := nx_le (b := b) hc.2.2.1
  have hnl := hn.2.2 hlt
  unfold fX6_readRule_5 fX6_readRule_5_p19
  refine Ex.ite (fun c => ?_) (fun c => ?_)
  rotate_left
  · have c := icc_nlt (m := (g 4 3).toInt) (n := 4) rfl (by decide) c
    rw [if_neg (by omega)]
    refine x_ref (by decide) hc (fun g1 k1 k2 => ?_)
    refine x_advB k1.2.1 ?_
    have e : fX6_readExpr_5 fu 7 0 g1 L = fX6_readExpr_5_p35 fu (fX6_readExpr_5 fu 6) 0 g1 L := by
      show fX6_readExpr_5B fu (fX6_readExpr_5 fu 6) 0 g1 L = _
      unfold fX6_readExpr_5B
      rw [if_pos (by decide)]
    rw [e]
    refine Ex.cb (bX_expr hfu k1) (fun _ g2 L2 hx => ?_)
    refine Ex.cb (x_close hx.2.1) (fun _ g3 L3 hy => Ex.ret ⟨?_, ?_, fun Q hQ => nomatch hQ⟩)
    · exact ((k2.fl (by decide)).tr (hx.1.1.fl (by decide))).tr (hy.2.1.fl (by decide))
    · exact hx.2.fr hy.1 hy.2.1 (by decide) (by decide) (by decide)
  have c := icc_lt (m := (g 4 3).toInt) (n := 4) rfl (by decide) c
  rw [if_pos (by omega)]
  refine x_adv hfu hc (fun g1 L1 k1 k2 => ?_)
  have e4 : g1 4 = g 4 := k2.2 4 (by decide) (by decide)
  have q44 := hc.1 4 4 0 700 rfl
  have hr1 : rm n (nx b n P) g1 := by unfold rm; rw [e4]; omega
  refine Ex.cb (cX_expr hfu 7 0 0 g1 L1 (nx b n P) xF (by decide) (by decide) rfl k1 hr1 (by unfold xF; omega)) (fun _ g2 L2 hx => ?_)
  unfold xsP
  cases hxs : xs b n xF 6 0 [] (nx b n P) with
  | error p =>
    rw [hxs] at hx
    have hx2 : bX p g2 := hx.2
    refine Ex.cb (x_close hx2.1) (fun _ g3 L3 hy => Ex.ret ⟨?_, ?_, fun Q hQ => nomatch hQ⟩)
    · exact ((k2.fl (by decide)).tr (hx.1.1.fl (by decide))).tr (hy.2.1.fl (by decide))
    · exact hx2.fr hy.1 hy.2.1 (by decide) (by decide) (by decide)
  | ok q =>
    rw [hxs] at hx
    obtain ⟨hx1, hx2, hx3⟩ := hx
    have hl := xs_len xF 6 0 [] (nx b n P) q.1 q.2 hn.2.1 hxs (fun _ => rfl)
    have hl3 := hl.2.2.1
    simp only [List.length_nil] at hl3
    have e5 := kRd.len hx3
    rw [e4] at e5
    have e43 : g2 4 3 = g 4 3 := by rw [hx1.2, e4]
    refine Ex.cb (x_close hx2.1) (fun _ g3 L3 hy => Ex.ret ⟨?_, ?_, fun Q hQ => ?_⟩)
    · exact ((k2.fl (by decide)).tr (hx1.1.fl (by decide))).tr (hy.2.1.fl (by decide))
    · exact hx2.fr hy.1 hy.2.1 (by decide) (by decide) (by decide) (by decide) (by decide) (by decide) (by decide) (by decide)
    · cases hQ
      refine ⟨by omega, hl.2.1, ?_, ?_, ?_, ?_, ?_⟩
      · rw [hy.2.1.2 2 (by decide) (by decide), hx1.1.2 2 (by decide) (by decide), k2.2 2 (by decide) (by decide)]; exact h1
      · rw [hy.2.2.2 (by rw [e43]; omega), e43, h2]; show (t.2.1 : Int) + 1 = ((t.2.1 + 1 : Nat) : Int); omega
      · rw [hy.2.1.1 9 (by decide), hx1.1.1 9 (by decide), k2.1 9 (by decide)]; exact h3
      · rw [hy.2.1.1 10 (by decide), hx1.1.1 10 (by decide), k2.1 10 (by decide)]; exact h4
      · show (g3 4 4).toInt + (n : Int) ≤ 700 + (q.2 : Int)
        rw [hy.2.2.1]; omega
theorem waS_le {b : Nat → Int32} {n : Nat} {l s : Int} : ∀ {f : Nat} {acc : List Int} {P Q : Nat}, P ≤ n → waS b n l s f acc P = .ok Q → P ≤ Q ∧ Q ≤ n := by
  intro f
  induction f with
  | zero => intro acc P Q _ h; exact nomatch h
  | succ f ih =>
    intro acc P Q hP h
    have hn := nx_le (b := b) hP
    unfold waS at h
    split at h
    · split at h
      · split at h
        · split at h
          · exact nomatch h
          · have := ih hn.2.1 h; omega
        · exact nomatch h
      · exact nomatch h
    · split at h
      · exact nomatch h
      · split at h
        · exact nomatch h
        · cases h; exact ⟨Nat.le_refl _, hP⟩
theorem bn_inv {r : sR} {k : Nat → sR} {Q : Nat} (h : bn r k = .ok Q) : ∃ P, r = .ok P ∧ k P = .ok Q := by
  cases r with
  | error p => exact nomatch h
  | ok P => exact ⟨P, rfl, h⟩
theorem opS_le {b : Nat → Int32} {n P Q k : Nat} {hi : Int} (hP : P ≤ n) (h : opS b n k hi P = .ok Q) : P ≤ Q ∧ Q ≤ n := by
  unfold opS at h
  have hn := nx_le (b := b) hP
  split at h
  · have := nuS_le hn.2.1 h; omega
  · cases h; exact ⟨Nat.le_refl _, hP⟩
theorem ops_le {b : Nat → Int32} {n P Q : Nat} (hP : P ≤ n) (h : ops b n P = .ok Q) : P ≤ Q ∧ Q ≤ n := by
  unfold ops at h
  obtain ⟨P1, e1, h⟩ := bn_inv h
  obtain ⟨P2, e2, h⟩ := bn_inv h
  have h1 := opS_le hP e1
  have h2 := opS_le h1.2 e2
  have h3 := opS_le h2.2 h
  omega
theorem tlS_le {b : Nat → Int32} {n P Q : Nat} {l : Int} (hP : P ≤ n) (h : tlS b n l P = .ok Q) : P ≤ Q ∧ Q ≤ n := by
  unfold tlS at h
  have hn := nx_le (b := b) hP
  split at h
  · obtain ⟨P1, e1, h⟩ := bn_inv h
    have h1 := waS_le hn.2.1 e1
    have h2 := ops_le h1.2 h
    omega
  · split at h
    · obtain ⟨P1, e1, h⟩ := bn_inv h
      obtain ⟨P2, e2, h⟩ := bn_inv h
      have h1 := nuS_le hn.2.1 e1
      have h2 := waS_le h1.2 e2
      have h3 := ops_le h2.2 h
      omega
    · exact ops_le hP h
theorem leS_le {b : Nat → Int32} {n P Q : Nat} {l : Int} (hP : P ≤ n) (h : leS b n l P = .ok Q) : P < Q ∧ Q ≤ n := by
  unfold leS at h
  have hn := nx_le (b := b) hP
  obtain ⟨P1, e1, h⟩ := bn_inv h
  obtain ⟨P2, e2, h⟩ := bn_inv h
  obtain ⟨P3, e3, h⟩ := bn_inv h
  obtain ⟨P4, e4, h⟩ := bn_inv h
  obtain ⟨P5, e5, h⟩ := bn_inv h
  obtain ⟨P6, e6, h⟩ := bn_inv h
  have h1 := nuS_le hn.2.1 e1
  have h2 := nuS_le h1.2 e2
  have h3 := nuS_le h2.2 e3
  have h4 := nuS_le h3.2 e4
  have h5 := nuS_le h4.2 e5
  have h6 := nuS_le h5.2 e6
  have h7 := tlS_le h6.2 h
  omega
set_option maxHeartbeats 4000000 in
theorem l_line {fu : Nat} (hfu : 1180591620717411303424 ≤ fu) {b : Nat → Int32} {n P : Nat} {t : tS} {g : gT} {L : lT} (h : tX b n t P g) : Ex (fX6_readLine_5 fu g L) (fun (_ : Unit) g1 L1 => LPx b n g (liS b n t P) g1) := by
  obtain ⟨hc, h1, h2, h3, h4, h5⟩ := id h
  have h5' : (g 4 4).toInt + (n : Int) ≤ 700 + (P : Int) := h5
  unfold fX6_readLine_5
  unfold liS
  refine e_lessonW hfu hc.1 (fun w5 => ?_) (fun w5 => ?_)
  · have w5 := (xW_isW hc _).mp w5
    rw [wB_t w5, if_pos rfl]
    refine Ex.cb (s_lesson hfu hc h1) (fun _ g1 L1 hx => l_69 (P := P) hfu hx.2.1.fl ⟨hx.1, fun Q hQ => ?_⟩)
    have hl12 : t.1 < 12 := by
      by_cases hh : t.1 < 12
      · exact hh
      · rw [if_neg hh] at hQ; exact nomatch hQ
    rw [if_pos hl12] at hQ
    have hle := leS_le hc.2.2.1 hQ
    refine ⟨hle.1, hle.2, ?_, ?_, ?_, ?_, ?_⟩
    · rw [hx.2.2 hl12]; show (t.1 : Int) + 1 = ((t.1 + 1 : Nat) : Int); omega
    · rw [hx.2.1.1 4 (by decide) (by decide) (by decide)]; exact h2
    · rw [hx.2.1.2.2.1]; exact h3
    · rw [hx.2.1.2.2.2]; exact h4
    · show (g1 4 4).toInt + (n : Int) ≤ 700 + (Q : Int)
      rw [hx.2.1.1 4 (by decide) (by decide) (by decide)]; omega
  rw [wB_f (fun h => w5 ((xW_isW hc _).mpr h)), if_neg (by decide)]
  refine e_walkW hfu hc.1 (fun w11 => ?_) (fun w11 => ?_)
  · have w11 := (xW_isW hc _).mp w11
    rw [wB_t w11, if_pos rfl]
    exact Ex.cb (l_walk hfu h (isW_lt w11)) (fun _ g1 L1 hx => l_69 hfu hx.1 hx.2)
  rw [wB_f (fun h => w11 ((xW_isW hc _).mpr h)), if_neg (by decide)]
  refine e_stairW hfu hc.1 (fun w12 => ?_) (fun w12 => ?_)
  · have w12 := (xW_isW hc _).mp w12
    rw [wB_t w12, if_pos rfl]
    exact Ex.cb (l_stair hfu h (isW_lt w12)) (fun _ g1 L1 hx => l_69 hfu hx.1 hx.2)
  rw [wB_f (fun h => w12 ((xW_isW hc _).mpr h)), if_neg (by decide)]
  refine e_ruleW hfu hc.1 (fun w13 => ?_) (fun w13 => ?_)
  · have w13 := (xW_isW hc _).mp w13
    rw [wB_t w13, if_pos rfl]
    exact Ex.cb (l_rule hfu h (isW_lt w13)) (fun _ g1 L1 hx => l_69 hfu hx.1 hx.2)
  rw [wB_f (fun h => w13 ((xW_isW hc _).mpr h)), if_neg (by decide)]
  refine x_ref (by decide) hc (fun g1 k1 k2 => ?_)
  unfold fX6_readLine_5_p69
  exact x_rsgB k1.2.1 (Ex.ret ⟨k2.fl (by decide), k1⟩)
theorem fnS_le {b : Nat → Int32} {n P : Nat} {r : sR} {t : tS} {q : tS × Nat} (hr : ∀ Q, r = .ok Q → P < Q ∧ Q ≤ n) (h : fnS b n r t = .ok q) : P < q.2 ∧ q.2 ≤ n := by
  unfold fnS at h
  split at h
  · exact nomatch h
  · rename_i Q hQ
    cases h
    obtain ⟨R, e1, e2⟩ := bn_inv hQ
    have := hr R e1
    unfold sgS at e2
    split at e2
    · cases e2
      have hn := nx_le (b := b) this.2
      exact ⟨by show P < nx b n R; omega, hn.2.1⟩
    · exact nomatch e2
theorem xsP_le {b : Nat → Int32} {n P Q : Nat} (hP : P ≤ n) (h : xsP b n P = .ok Q) : P < Q ∧ Q ≤ n := by
  unfold xsP at h
  split at h
  · exact nomatch h
  · rename_i q hq
    cases h
    have := xs_len xF 6 0 [] P q.1 q.2 hP hq (fun _ => rfl)
    exact ⟨this.2.2.2 (by decide), this.2.1⟩
theorem liS_le {b : Nat → Int32} {n P : Nat} {t : tS} {q : tS × Nat} (hP : P ≤ n) (h : liS b n t P = .ok q) : P < q.2 ∧ q.2 ≤ n := by
  have hn := nx_le (b := b) hP
  unfold liS at h
  split at h
  · refine fnS_le (fun Q hQ => ?_) h
    split at hQ
    · exact leS_le hP hQ
    · exact nomatch hQ
  split at h
  · refine fnS_le (fun Q hQ => ?_) h
    split at hQ
    · exact nomatch hQ
    · have := nuS_le hn.2.1 hQ; omega
  split at h
  · refine fnS_le (fun Q hQ => ?_) h
    split at hQ
    · exact nomatch hQ
    · have := nuS_le hn.2.1 hQ; omega
  split at h
  · refine fnS_le (fun Q hQ => ?_) h
    split at hQ
    · have := xsP_le hn.2.1 hQ; omega
    · exact nomatch hQ
  · exact nomatch h
/-- the whole text, as the class reads it -/
def HP (g : gT) (r : Except Nat tS) (g1 : gT) : Prop := FL g g1 ∧ zI XT g1 ∧ (match r with
  | .error p => (g1 5 7).toInt ≠ 0 ∧ (g1 5 8).toInt = (p : Int)
  | .ok t => (g1 5 7).toInt = 0 ∧ (g1 5 8).toInt = -1 ∧ (g1 2 2).toInt = (t.1 : Int) ∧ (g1 4 3).toInt = (t.2.1 : Int))
set_option maxHeartbeats 4000000 in
theorem l_read {fu : Nat} (hfu : 1180591620717411303424 ≤ fu) {b : Nat → Int32} {n : Nat} {p1 : Int32} {g : gT} {L : lT} (hI : zI XT g) (hn : p1.toInt = (n : Int)) (hn7 : n ≤ 700) (hb : ∀ j, j < n → g 14 j = b j) : Ex (fX6_read_5_2 fu p1 g L) (fun (_ : Unit) g1 L1 => HP g (hoS b n 702 (0, 0, false, false) (sk b n 0)) g1) := by
  unfold fX6_read_5_2
  refine Ex.cb (P := fun (_ : Unit) g1 L1 => g1 = upd2 (upd2 (upd2 (upd2 (upd2 g 4 3 0) 4 4 0) 2 2 0) 2 3 1) 2 4 99 ∧ L1 = L) ⟨(), _, L, rfl, rfl, rfl⟩ (fun _ gx Lx hx => ?_)
  have ix : zI XT gx := by
    rw [hx.1]
    exact ((((hI.upd (lo := 0) (hi := 4) rfl (by decide) (by decide)).upd (lo := 0) (hi := 700) rfl (by decide) (by decide)).upd (lo := 0) (hi := 12) rfl (by decide) (by decide)).updN rfl).updN rfl
  have fx : FL g gx := by
    rw [hx.1]
    intro k _ hk
    have h2 : k ≠ 2 := fun e => hk (by rw [e]; decide)
    have h4 : k ≠ 4 := fun e => hk (by rw [e]; decide)
    funext i
    rw [upd2_nk h2, upd2_nk h2, upd2_nk h2, upd2_nk h4, upd2_nk h4]
  have x22 : (gx 2 2).toInt = 0 := by rw [hx.1]; rfl
  have x43 : (gx 4 3).toInt = 0 := by rw [hx.1]; rfl
  have x44 : (gx 4 4).toInt = 0 := by rw [hx.1]; rfl
  clear hx
  have em : (if 700 < p1 then 700 else p1 : Int32) = p1 := if_neg (fun h => by have := icc_lt (m := 700) (n := p1.toInt) (by decide) rfl h; omega)
  rw [em]
  refine Ex.sti (ix.upd (lo := 0) (hi := 700) rfl (by omega) (by omega)) (fun g1 e1 i1 => ?_)
  refine Ex.sti (i1.upd (lo := 0) (hi := 700) rfl (by decide) (by decide)) (fun g2 e2 i2 => ?_)
  refine Ex.sti (i2.updN rfl) (fun g3 e3 i3 => ?_)
  refine Ex.sti (i3.updN rfl) (fun g4 e4 i4 => ?_)
  refine Ex.sti (i4.upd (lo := 0) (hi := 1) rfl (by decide) (by decide)) (fun g5 e5 i5 => ?_)
  refine Ex.sti (i5.upd (lo := 0) (hi := 1) rfl (by decide) (by decide)) (fun g6 e6 i6 => ?_)
  refine Ex.sti (i6.updN rfl) (fun g7 e7 i7 => ?_)
  have f7 : FX [2, 3, 4, 7, 8, 9, 10] [] gx g7 := by
    rw [e7, e6, e5, e4, e3, e2, e1]
    exact ((((((FX.refl.u5 (by decide)).u5 (by decide)).u5 (by decide)).u5 (by decide)).u5 (by decide)).u5 (by decide)).u5 (by decide)
  have y2 : (g7 5 2).toInt = (n : Int) := by rw [e7, e6, e5, e4, e3, e2, e1]; exact hn
  have y3 : (g7 5 3).toInt = 0 := by rw [e7, e6, e5, e4, e3, e2]; rfl
  have y7 : (g7 5 7).toInt = 0 := by rw [e7, e6, e5, e4, e3]; rfl
  have y8 : (g7 5 8).toInt = -1 := by rw [e7, e6, e5, e4]; rfl
  have y9 : (g7 5 9).toInt = 0 := by rw [e7, e6, e5]; rfl
  have y10 : (g7 5 10).toInt = 0 := by rw [e7, e6]; rfl
  have y4 : (g7 5 4).toInt = 0 := by rw [e7, upd2_at]; rfl
  clear e1 e2 e3 e4 e5 e6 e7 i1 i2 i3 i4 i5 i6
  refine Ex.cb (tX6_advance fu hfu g7 Lx i7 (by omega) (by omega)) (fun _ gs Ls hq => ?_)
  obtain ⟨k1, k2, k3⟩ := hq
  have eN : xN g7 = n := by show (g7 5 2).toInt.toNat = n; omega
  have e3 : (g7 5 3).toInt.toNat = 0 := by omega
  have b7 : ∀ j, j < n → g7 14 j = b j := fun j hj => by rw [f7.2 14 (by decide) (by decide), fx 14 (by decide) (by decide)]; exact hb j hj
  have e14 : gs 14 = g7 14 := k2.2 14 (by decide) (by decide)
  have eN1 : xN gs = n := by show (gs 5 2).toInt.toNat = n; rw [k2.i (by decide)]; omega
  rw [eN, e3, sk_c b7] at k3
  have hsk := sk_le (b := b) (n := n) (p := 0) (Nat.zero_le _)
  generalize sk b n 0 = P0 at k3 hsk
  obtain ⟨t1, t2, t3, t4⟩ := k3
  rw [e14, eN1] at t2 t3 t4
  rw [tK_c b7] at t2
  rw [tE_c b7] at t3
  rw [tV_c hsk.2 b7] at t4
  have hs : tX b n (0, 0, false, false) P0 gs := by
    refine ⟨⟨k1, hn7, hsk.2, (k2.i (by decide)).trans y2, fun j hj => by rw [e14]; exact b7 j hj, t1, t2, t3, t4, (k2.i (by decide)).trans y7, (k2.i (by decide)).trans y8⟩, ?_, ?_, ?_, ?_, ?_⟩
    · rw [k2.2 2 (by decide) (by decide), f7.2 2 (by decide) (by decide)]; exact x22
    · rw [k2.2 4 (by decide) (by decide), f7.2 4 (by decide) (by decide)]; exact x43
    · rw [k2.1 9 (by decide)]; exact y9
    · rw [k2.1 10 (by decide)]; exact y10
    · show (gs 4 4).toInt + (n : Int) ≤ 700 + (P0 : Int)
      rw [k2.2 4 (by decide) (by decide), f7.2 4 (by decide) (by decide)]; omega
  have fs : FL g gs := (fx.tr (f7.fl (by decide))).tr (k2.fl (by decide))
  generalize hR : hoS b n 702 (0, 0, false, false) P0 = R
  unfold fX6_read_5_2_l61
  refine Ex.loop (α := Int32 × gT × lT) (fun v => (0 ≤ v.1.toInt ∧ v.1.toInt ≤ 701) ∧ FL g v.2.1 ∧ ((∃ (t : tS) (P f : Nat), hoS b n f t P = R ∧ tX b n t P v.2.1 ∧ n + 1 ≤ f + P ∧ v.1.toInt ≤ (P : Int)) ∨ (∃ p, R = .error p ∧ bX p v.2.1))) (fun v => 702 - v.1.toInt) (by omega) (by show 702 - (0 : Int32).toInt < (fu : Int); have : (0 : Int32).toInt = 0 := rfl; omega) ⟨(show 0 ≤ (0 : Int32).toInt ∧ (0 : Int32).toInt ≤ 701 from by decide), fs, Or.inl ⟨(0, 0, false, false), P0, 702, hR, hs, by omega, (show (0 : Int) ≤ (P0 : Int) by omega)⟩⟩ (fun k61 v hv ih => ?_)
  obtain ⟨v3, g', L'⟩ := v
  obtain ⟨hv, hf, hI2⟩ := hv
  have hv : 0 ≤ v3.toInt ∧ v3.toInt ≤ 701 := hv
  have hf : FL g g' := hf
  show Ex (fX6_read_5_2_s61 fu k61 v3 g' L') _
  unfold fX6_read_5_2_s61 fX6_read_5_2_p93
  rcases hI2 with ⟨t, P, f, q1, q2, q3, q4⟩ | ⟨p, q1, q2⟩
  rotate_left
  · have q2 : bX p g' := q2
    have done : Ex (some ((), (g', L'))) (fun (_ : Unit) g1 L1 => HP g R g1) := Ex.ret (by rw [q1]; exact ⟨hf, q2.1, q2.2.2.1, q2.2.2.2⟩)
    refine Ex.ite (fun _ => done) (fun _ => Ex.ite (fun _ => done) (fun _ => Ex.ite (fun _ => done) (fun c => ?_)))
    exact absurd q2.2.1 (icc_neq (m := (g' 5 4).toInt) (n := 5) rfl (by decide) c)
  have q2 : tX b n t P g' := q2
  have q4 : v3.toInt ≤ (P : Int) := q4
  obtain ⟨a1, a2, a3, a4, a5, a6, a7, a8, a9, a10, a11⟩ := id q2.1
  obtain ⟨f, rfl⟩ : ∃ f', f = f' + 1 := ⟨f - 1, by omega⟩
  unfold hoS at q1
  have krg := tK_rg b n P
  by_cases k0 : tK b n P = 0
  · rw [if_pos k0] at q1
    have done : Ex (some ((), (g', L'))) (fun (_ : Unit) g1 L1 => HP g R g1) := Ex.ret (by rw [← q1]; exact ⟨hf, a1, a10, a11, q2.2.1, q2.2.2.1⟩)
    refine Ex.ite (fun _ => done) (fun _ => Ex.ite (fun _ => done) (fun c => ?_))
    exact absurd (a7.trans k0) (icc_neq (m := (g' 5 4).toInt) (n := 0) rfl (by decide) c)
  rw [if_neg k0] at q1
  have hlt : P < n := tK_n0 (b := b) k0
  refine Ex.ite (fun c => by have := icc_lt (m := 700) (n := v3.toInt) (by decide) rfl c; omega) (fun _ => ?_)
  refine Ex.ite (fun c => by have := icc_eq (m := (g' 5 4).toInt) (n := 0) rfl (by decide) c; omega) (fun _ => ?_)
  refine Ex.ite (fun c => by have := icc_eq (m := (g' 5 4).toInt) (n := 5) rfl (by decide) c; omega) (fun _ => ?_)
  generalize hw : v3 + 1 = w
  have ew : w.toInt = v3.toInt + 1 := by rw [← hw]; exact ic_addc rfl (by decide) (by omega) (by omega)
  refine Ex.cb (l_line hfu q2) (fun _ g'' L'' hx => ?_)
  cases hli : liS b n t P with
  | error p =>
    rw [hli] at hx q1
    exact ih (w, g'', L'') ⟨(show 0 ≤ w.toInt ∧ w.toInt ≤ 701 by omega), hf.tr hx.1, Or.inr ⟨p, q1.symm, hx.2⟩⟩ (show 702 - w.toInt < 702 - v3.toInt by omega) (show 0 < 702 - v3.toInt by omega)
  | ok q =>
    rw [hli] at hx q1
    have hle := liS_le a3 hli
    exact ih (w, g'', L'') ⟨(show 0 ≤ w.toInt ∧ w.toInt ≤ 701 by omega), hf.tr hx.1, Or.inl ⟨q.1, q.2, f, q1, hx.2, by omega, (show w.toInt ≤ (q.2 : Int) by omega)⟩⟩ (show 702 - w.toInt < 702 - v3.toInt by omega) (show 0 < 702 - v3.toInt by omega)
