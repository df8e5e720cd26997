section
/-! ===== both parsers at a place of the same bytes ===== -/
abbrev nx (b : Nat → Int32) (n P : Nat) : Nat := sk b n (tE b n P)
def isS (b : Nat → Int32) (n P : Nat) (c : Int) : Prop := tK b n P = 3 ∧ (b P).toInt = c
def nuC (b : Nat → Int32) (n : Nat) (lo hi : Int) (P : Nat) : Prop := tK b n P = 1 ∧ tE b n P ≤ P + 4 ∧ lo ≤ tV b n P ∧ tV b n P ≤ hi
theorem nx_le {b : Nat → Int32} {n P : Nat} (h : P ≤ n) : P ≤ nx b n P ∧ nx b n P ≤ n ∧ (P < n → P < nx b n P) := by
  have h1 := tE_le (b := b) h
  have h2 := sk_le (b := b) h1.2.1
  show P ≤ sk b n (tE b n P) ∧ sk b n (tE b n P) ≤ n ∧ (P < n → P < sk b n (tE b n P))
  omega
/-- the class: good, at place P -/
def cX (b : Nat → Int32) (n P : Nat) (g : gT) : Prop := zI XT g ∧ n ≤ 700 ∧ P ≤ n ∧ (g 5 2).toInt = (n : Int) ∧ (∀ j, j < n → g 14 j = b j) ∧ (g 5 5).toInt = (P : Int) ∧ (g 5 4).toInt = tK b n P ∧ (g 5 3).toInt = (tE b n P : Int) ∧ (g 5 6).toInt = tV b n P ∧ (g 5 7).toInt = 0 ∧ (g 5 8).toInt = -1
/-- the class: a fault at place P -/
def bX (P : Nat) (g : gT) : Prop := zI XT g ∧ (g 5 4).toInt = 5 ∧ (g 5 7).toInt ≠ 0 ∧ (g 5 8).toInt = (P : Int)
def cM (b : Nat → Int32) (n P : Nat) (g : gT) (L : lT) : Prop := zI MT g ∧ n ≤ 700 ∧ P ≤ n ∧ (g 0 22).toInt = (n : Int) ∧ (∀ j, j < n → g 13 j = b j) ∧ (g 0 25).toInt = (P : Int) ∧ (g 0 24).toInt = sM (tK b n P) ∧ (g 0 23).toInt = (tE b n P : Int) ∧ (g 0 27).toInt = tV b n P ∧ (P < n → g 0 28 = b P) ∧ (g 0 26).toInt = (tE b n P : Int) - (P : Int) ∧ (tK b n P = 2 → (L 0 29).toInt = pI b P (tE b n P - P)) ∧ (g 0 19).toInt = 0 ∧ (g 0 20).toInt = -1
/-- the same without the word -/
def cm (b : Nat → Int32) (n P : Nat) (g : gT) : Prop := zI MT g ∧ n ≤ 700 ∧ P ≤ n ∧ (g 0 22).toInt = (n : Int) ∧ (∀ j, j < n → g 13 j = b j) ∧ (g 0 25).toInt = (P : Int) ∧ (g 0 24).toInt = sM (tK b n P) ∧ (g 0 23).toInt = (tE b n P : Int) ∧ (g 0 27).toInt = tV b n P ∧ (P < n → g 0 28 = b P) ∧ (g 0 26).toInt = (tE b n P : Int) - (P : Int) ∧ (g 0 19).toInt = 0 ∧ (g 0 20).toInt = -1
theorem cM.c {b : Nat → Int32} {n P : Nat} {g : gT} {L : lT} (h : cM b n P g L) : cm b n P g := by
  obtain ⟨a1, a2, a3, a4, a5, a6, a7, a8, a9, a10, a11, a12, a13, a14⟩ := h
  exact ⟨a1, a2, a3, a4, a5, a6, a7, a8, a9, a10, a11, a13, a14⟩
theorem cm.fr {b : Nat → Int32} {n P : Nat} {g g1 : gT} {A B : List Nat} (h : cm b n P g) (hI : zI MT g1) (hF : Fr A B g g1) (h19 : 19 ∉ A) (h20 : 20 ∉ A) (h22 : 22 ∉ A) (h23 : 23 ∉ A) (h24 : 24 ∉ A) (h25 : 25 ∉ A) (h26 : 26 ∉ A) (h27 : 27 ∉ A) (h28 : 28 ∉ A) (h13 : 13 ∉ B) : cm b n P g1 := by
  obtain ⟨a1, a2, a3, a4, a5, a6, a7, a8, a9, a10, a11, a13, a14⟩ := h
  have e13 : g1 13 = g 13 := hF.2 13 (by decide) h13
  exact ⟨hI, a2, a3, (hF.i h22).trans a4, fun j hj => by rw [e13]; exact a5 j hj, (hF.i h25).trans a6, (hF.i h24).trans a7, (hF.i h23).trans a8, (hF.i h27).trans a9, fun hP => (hF.1 28 h28).trans (a10 hP), (hF.i h26).trans a11, (hF.i h19).trans a13, (hF.i h20).trans a14⟩
def bM (P : Nat) (g : gT) : Prop := zI MT g ∧ pN g ∧ (g 0 19).toInt ≠ 0 ∧ (g 0 20).toInt = (P : Int)
theorem cX.fr {b : Nat → Int32} {n P : Nat} {g g1 : gT} {A B : List Nat} (h : cX b n P g) (hI : zI XT g1) (hF : FX A B g g1) (h2 : 2 ∉ A) (h3 : 3 ∉ A) (h4 : 4 ∉ A) (h5 : 5 ∉ A) (h6 : 6 ∉ A) (h7 : 7 ∉ A) (h8 : 8 ∉ A) (h14 : 14 ∉ B) : cX b n P g1 := by
  obtain ⟨a1, a2, a3, a4, a5, a6, a7, a8, a9, a10, a11⟩ := h
  have e14 : g1 14 = g 14 := hF.2 14 (by decide) h14
  exact ⟨hI, a2, a3, (hF.i h2).trans a4, fun j hj => by rw [e14]; exact a5 j hj, (hF.i h5).trans a6, (hF.i h4).trans a7, (hF.i h3).trans a8, (hF.i h6).trans a9, (hF.i h7).trans a10, (hF.i h8).trans a11⟩
theorem bX.fr {P : Nat} {g g1 : gT} {A B : List Nat} (h : bX P g) (hI : zI XT g1) (hF : FX A B g g1) (h4 : 4 ∉ A) (h7 : 7 ∉ A) (h8 : 8 ∉ A) : bX P g1 := by
  obtain ⟨a1, a2, a3, a4⟩ := h
  exact ⟨hI, (hF.i h4).trans a2, by rw [hF.i h7]; exact a3, (hF.i h8).trans a4⟩
theorem cX.k5 {b : Nat → Int32} {n P : Nat} {g : gT} (h : cX b n P g) : (g 5 4).toInt ≠ 5 := by
  have h1 := h.2.2.2.2.2.2.1
  have h2 := tK_rg b n P
  omega
section CX
variable {ρ : Type} {Q : ρ → gT → lT → Prop} {b : Nat → Int32} {n P : Nat} {g : gT} {L : lT} {fu : Nat}
theorem x_adv {K : Unit → gT → lT → Option (ρ × zS)} (hfu : 1180591620717411303424 ≤ fu) (hc : cX b n P g) (h : ∀ g1 L1, cX b n (nx b n P) g1 → FX [3, 4, 5, 6] [] g g1 → Ex (K () g1 L1) Q) : Ex (cb (fX6_advance_5 fu g L) K) Q := by
  obtain ⟨a1, a2, a3, a4, a5, a6, a7, a8, a9, a10, a11⟩ := id hc
  have hE := tE_le (b := b) a3
  refine Ex.cb (tX6_advance fu hfu g L a1 hc.k5 (by omega)) (fun _ g1 L1 hq => ?_)
  obtain ⟨k1, k2, k3⟩ := hq
  have eN : xN g = n := by show (g 5 2).toInt.toNat = n; omega
  have e3 : (g 5 3).toInt.toNat = tE b n P := by omega
  have e14 : g1 14 = g 14 := k2.2 14 (by decide) (by decide)
  have eN1 : xN g1 = n := by show (g1 5 2).toInt.toNat = n; rw [k2.i (by decide)]; omega
  rw [eN, e3, sk_c a5] at k3
  have hn := nx_le (b := b) a3
  obtain ⟨t1, t2, t3, t4⟩ := k3
  rw [e14, eN1] at t2 t3 t4
  have hb' : ∀ j, j < n → g 14 j = b j := a5
  rw [tK_c hb'] at t2
  rw [tE_c hb'] at t3
  rw [tV_c hn.2.1 hb'] at t4
  exact h g1 L1 ⟨k1, a2, hn.2.1, (k2.i (by decide)).trans a4, fun j hj => by rw [e14]; exact a5 j hj, t1, t2, t3, t4, (k2.i (by decide)).trans a10, (k2.i (by decide)).trans a11⟩ k2
theorem x_advB {K : Unit → gT → lT → Option (ρ × zS)} (hk : (g 5 4).toInt = 5) (h : Ex (K () g L) Q) : Ex (cb (fX6_advance_5 fu g L) K) Q := by
  unfold fX6_advance_5
  rw [if_pos (ic_eq.mpr (show (g 5 4).toInt = (5 : Int32).toInt from hk))]; exact h
theorem x_ref {w : Int32} {K : Unit → gT → lT → Option (ρ × zS)} (hw : w.toInt ≠ 0) (hc : cX b n P g) (h : ∀ g1, bX P g1 → FX [4, 7, 8] [] g g1 → Ex (K () g1 L) Q) : Ex (cb (fX6_refuse_5 fu w g L) K) Q := by
  have e : fX6_refuse_5 fu w g L = some ((), (upd2 (upd2 (upd2 g 5 7 w) 5 8 (g 5 5)) 5 4 5, L)) := by
    unfold fX6_refuse_5
    rw [if_neg (fun h => hc.k5 (icc_eq (m := (g 5 4).toInt) (n := 5) rfl (by decide) h))]
    rfl
  rw [e]
  refine h _ ⟨((hc.1.updN rfl).updN rfl).updN rfl, ?_, ?_, ?_⟩ (((FX.refl.u5 (by decide)).u5 (by decide)).u5 (by decide))
  · show (upd2 (upd2 (upd2 g 5 7 w) 5 8 (g 5 5)) 5 4 5 5 4).toInt = 5
    rw [upd2_at]; rfl
  · show w.toInt ≠ 0
    exact hw
  · show (g 5 5).toInt = (P : Int)
    exact hc.2.2.2.2.2.1
theorem x_refB {w : Int32} {K : Unit → gT → lT → Option (ρ × zS)} (hk : (g 5 4).toInt = 5) (h : Ex (K () g L) Q) : Ex (cb (fX6_refuse_5 fu w g L) K) Q := by
  unfold fX6_refuse_5 fX6_refuse_5_p26
  rw [if_pos (ic_eq.mpr (show (g 5 4).toInt = (5 : Int32).toInt from hk))]; exact h
theorem x_sgn {c : Int32} {A B : gT → lT → Option (ρ × zS)} (hc : cX b n P g) (h1 : isS b n P c.toInt → Ex (B g L) Q) (h0 : ¬ isS b n P c.toInt → Ex (A g L) Q) : Ex (cb (fX6_isSignNow_5 fu c g L) (fun x g1 L1 => if x = 0 then A g1 L1 else B g1 L1)) Q := by
  obtain ⟨a1, a2, a3, a4, a5, a6, a7, a8, a9, a10, a11⟩ := id hc
  unfold fX6_isSignNow_5 fX6_isSignNow_5_p25 fX6_isSignNow_5_p26
  rw [ckb0, ckb1]
  by_cases c1 : g 5 4 = 3
  · rw [if_pos c1]
    have c1 := icc_eq (m := (g 5 4).toInt) (n := 3) rfl (by decide) c1
    have hP : P < n := tK_n0 (b := b) (by omega)
    have eP : (g 5 5).toNatClampNeg = P := by rw [nc, a6]; omega
    rw [ck_eq (by omega) (by omega), eP, a5 P hP]
    by_cases c2 : b P = c
    · rw [if_pos c2]; exact e_b1 (h1 ⟨by omega, by rw [c2]⟩)
    · rw [if_neg c2]; exact e_b0 (h0 (fun h => c2 (ic_eq.mpr h.2)))
  · rw [if_neg c1]
    have c1 := icc_neq (m := (g 5 4).toInt) (n := 3) rfl (by decide) c1
    exact e_b0 (h0 (fun h => c1 (by have := h.1; omega)))
theorem x_sgnB {c : Int32} {A B : gT → lT → Option (ρ × zS)} (hk : (g 5 4).toInt = 5) (h0 : Ex (A g L) Q) : Ex (cb (fX6_isSignNow_5 fu c g L) (fun x g1 L1 => if x = 0 then A g1 L1 else B g1 L1)) Q := by
  unfold fX6_isSignNow_5 fX6_isSignNow_5_p25 fX6_isSignNow_5_p26
  rw [ckb0, if_neg (fun h => by have := icc_eq (m := (g 5 4).toInt) (n := 3) rfl (by decide) h; omega)]
  exact e_b0 h0
theorem x_rsg {c : Int32} {K : Unit → gT → lT → Option (ρ × zS)} (hfu : 1180591620717411303424 ≤ fu) (hc : cX b n P g) (h1 : isS b n P c.toInt → ∀ g1 L1, cX b n (nx b n P) g1 → FX [3, 4, 5, 6] [] g g1 → Ex (K () g1 L1) Q) (h0 : ¬ isS b n P c.toInt → ∀ g1, bX P g1 → FX [4, 7, 8] [] g g1 → Ex (K () g1 L) Q) : Ex (cb (fX6_readSign_5 fu c g L) K) Q := by
  have key : Ex (fX6_readSign_5 fu c g L) (fun (_ : Unit) g1 L1 => (isS b n P c.toInt ∧ cX b n (nx b n P) g1 ∧ FX [3, 4, 5, 6] [] g g1) ∨ (¬ isS b n P c.toInt ∧ bX P g1 ∧ FX [4, 7, 8] [] g g1 ∧ L1 = L)) := by
    unfold fX6_readSign_5 fX6_readSign_5_p20
    refine x_sgn hc (fun hs => x_adv hfu hc (fun g1 L1 k1 k2 => Ex.ret (Or.inl ⟨hs, k1, k2⟩))) (fun hs => x_ref (by decide) hc (fun g1 k1 k2 => Ex.ret (Or.inr ⟨hs, k1, k2, rfl⟩)))
  refine Ex.cb key (fun _ g1 L1 hq => ?_)
  rcases hq with ⟨k1, k2, k3⟩ | ⟨k1, k2, k3, rfl⟩
  · exact h1 k1 g1 L1 k2 k3
  · exact h0 k1 g1 k2 k3
theorem x_rsgB {c : Int32} {K : Unit → gT → lT → Option (ρ × zS)} (hk : (g 5 4).toInt = 5) (h : Ex (K () g L) Q) : Ex (cb (fX6_readSign_5 fu c g L) K) Q := by
  have key : Ex (fX6_readSign_5 fu c g L) (fun (_ : Unit) g1 L1 => g1 = g ∧ L1 = L) := by
    unfold fX6_readSign_5 fX6_readSign_5_p20
    exact x_sgnB hk (x_refB hk (Ex.ret ⟨rfl, rfl⟩))
  refine Ex.cb key (fun _ g1 L1 hq => ?_)
  obtain ⟨rfl, rfl⟩ := hq
  exact h
theorem x_num {p1 p2 : Int32} {K : Int32 → gT → lT → Option (ρ × zS)} (hfu : 1180591620717411303424 ≤ fu) (hc : cX b n P g) (h1 : nuC b n p1.toInt p2.toInt P → ∀ (r : Int32) g1 L1, r.toInt = tV b n P → cX b n (nx b n P) g1 → FX [3, 4, 5, 6] [] g g1 → Ex (K r g1 L1) Q) (h0 : ¬ nuC b n p1.toInt p2.toInt P → ∀ g1, bX P g1 → FX [4, 7, 8] [] g g1 → Ex (K 0 g1 L) Q) : Ex (cb (fX6_readNumber_5 fu p1 p2 g L) K) Q := by
  obtain ⟨a1, a2, a3, a4, a5, a6, a7, a8, a9, a10, a11⟩ := id hc
  have q3 := a1 5 3 0 700 rfl
  have q5 := a1 5 5 0 700 rfl
  have key : Ex (fX6_readNumber_5 fu p1 p2 g L) (fun (r : Int32) g1 L1 => (nuC b n p1.toInt p2.toInt P ∧ r.toInt = tV b n P ∧ cX b n (nx b n P) g1 ∧ FX [3, 4, 5, 6] [] g g1) ∨ (¬ nuC b n p1.toInt p2.toInt P ∧ r = 0 ∧ bX P g1 ∧ FX [4, 7, 8] [] g g1 ∧ L1 = L)) := by
    have bad : ¬ nuC b n p1.toInt p2.toInt P → Ex (fX6_readNumber_5_p38 fu g L) (fun (r : Int32) g1 L1 => (nuC b n p1.toInt p2.toInt P ∧ r.toInt = tV b n P ∧ cX b n (nx b n P) g1 ∧ FX [3, 4, 5, 6] [] g g1) ∨ (¬ nuC b n p1.toInt p2.toInt P ∧ r = 0 ∧ bX P g1 ∧ FX [4, 7, 8] [] g g1 ∧ L1 = L)) := by
      intro hn
      unfold fX6_readNumber_5_p38
      exact x_ref (by decide) hc (fun g1 k1 k2 => Ex.ret (Or.inr ⟨hn, rfl, k1, k2, rfl⟩))
    unfold fX6_readNumber_5
    refine Ex.ite (fun c1 => ?_) (fun c1 => ?_)
    rotate_left
    · have c1 := icc_neq (m := (g 5 4).toInt) (n := 1) rfl (by decide) c1
      exact x_ref (by decide) hc (fun g1 k1 k2 => Ex.ret (Or.inr ⟨fun h => c1 (by have := h.1; omega), rfl, k1, k2, rfl⟩))
    have c1 := icc_eq (m := (g 5 4).toInt) (n := 1) rfl (by decide) c1
    unfold fX6_isTooLong_5 fX6_isTooLong_5_p18
    rw [ckb0, ckb1]
    have ez : ((g 5 3) - (g 5 5)).toInt = (g 5 3).toInt - (g 5 5).toInt := ic_subc rfl rfl (by omega) (by omega)
    by_cases c2 : (g 5 3) - (g 5 5) ≤ 4
    rotate_left
    · rw [if_neg c2]
      have c2 := icc_nle (m := ((g 5 3) - (g 5 5)).toInt) (n := 4) rfl (by decide) c2
      exact e_b1 (bad (fun h => by have := h.2.1; omega))
    rw [if_pos c2]
    have c2 := icc_le (m := ((g 5 3) - (g 5 5)).toInt) (n := 4) rfl (by decide) c2
    refine e_b0 ?_
    refine Ex.ite (fun c3 => bad (fun h => ?_)) (fun c3 => ?_)
    · have c3 := icc_lt (m := (g 5 6).toInt) (n := p1.toInt) rfl rfl c3
      have := h.2.2.1; omega
    have c3 := icc_nlt (m := (g 5 6).toInt) (n := p1.toInt) rfl rfl c3
    refine Ex.ite (fun c4 => ?_) (fun c4 => bad (fun h => ?_))
    rotate_left
    · have c4 := icc_nle (m := (g 5 6).toInt) (n := p2.toInt) rfl rfl c4
      have := h.2.2.2; omega
    have c4 := icc_le (m := (g 5 6).toInt) (n := p2.toInt) rfl rfl c4
    refine Ex.lti (fun x xe xi => ?_)
    exact x_adv hfu hc (fun g1 L1 k1 k2 => Ex.ret (Or.inl ⟨⟨by omega, by omega, by omega, by omega⟩, by omega, k1, k2⟩))
  refine Ex.cb key (fun r g1 L1 hq => ?_)
  rcases hq with ⟨k1, k2, k3, k4⟩ | ⟨k1, rfl, k3, k4, rfl⟩
  · exact h1 k1 r g1 L1 k2 k3 k4
  · exact h0 k1 g1 k3 k4
theorem x_numB {p1 p2 : Int32} {K : Int32 → gT → lT → Option (ρ × zS)} (hk : (g 5 4).toInt = 5) (h : Ex (K 0 g L) Q) : Ex (cb (fX6_readNumber_5 fu p1 p2 g L) K) Q := by
  have key : Ex (fX6_readNumber_5 fu p1 p2 g L) (fun (r : Int32) g1 L1 => r = 0 ∧ g1 = g ∧ L1 = L) := by
    unfold fX6_readNumber_5
    rw [if_neg (fun h => by have := icc_eq (m := (g 5 4).toInt) (n := 1) rfl (by decide) h; omega)]
    exact x_refB hk (Ex.ret ⟨rfl, rfl, rfl⟩)
  refine Ex.cb key (fun r g1 L1 hq => ?_)
  obtain ⟨rfl, rfl, rfl⟩ := hq
  exact h
theorem xW_isW (hc : cX b n P g) (k : Nat) : xW g k ↔ isW b n P k := by
  obtain ⟨a1, a2, a3, a4, a5, a6, a7, a8, a9, a10, a11⟩ := hc
  have hE := tE_le (b := b) a3
  have hl := wd_le k
  unfold xW isW
  have eP : (g 5 5).toInt.toNat = P := by omega
  rw [eP]
  constructor
  · rintro ⟨h1, h2, h3⟩
    refine ⟨by omega, by omega, fun i hi => ?_⟩
    rw [← a5 (P + i) (by omega)]; exact h3 i hi
  · rintro ⟨h1, h2, h3⟩
    refine ⟨by omega, by omega, fun i hi => ?_⟩
    rw [a5 (P + i) (by omega)]; exact h3 i hi
theorem xW_B (hk : (g 5 4).toInt = 5) (k : Nat) : ¬ xW g k := fun h => by have := h.1; omega
end CX
theorem isW_u {b : Nat → Int32} {n P j k : Nat} (hj : j < 17) (hk : k < 17) (h1 : isW b n P j) (h2 : isW b n P k) : j = k := by
  have e1 := pcon (P := P) hj h1.2.2
  have e2 := pcon (P := P) hk h2.2.2
  have el : (wd j).length = (wd k).length := by have := h1.2.1; have := h2.2.1; omega
  rw [el] at e1
  have e : wI j = wI k := e1.symm.trans e2
  have inj : ∀ j, j < 17 → ∀ k, k < 17 → wI j = wI k → j = k := by decide
  exact inj j hj k hk e
/-! the reference -/
theorem cM.pn {b : Nat → Int32} {n P : Nat} {g : gT} {L : lT} (h : cM b n P g L) : pN g := by
  obtain ⟨a1, a2, a3, a4, a5, a6, a7, a8, a9, a10, a11, a12, a13, a14⟩ := h
  have hE := tE_le (b := b) a3
  refine ⟨by omega, by omega, fun hs => ?_⟩
  have : P < n := by
    by_cases c : P < n
    · exact c
    · rw [a7, tK_ge c] at hs; exact absurd rfl hs
  have := hE.2.2 this
  omega
theorem cM.fr {b : Nat → Int32} {n P : Nat} {g g1 : gT} {L : lT} {A B : List Nat} (h : cM b n P g L) (hI : zI MT g1) (hF : Fr A B g g1) (h19 : 19 ∉ A) (h20 : 20 ∉ A) (h22 : 22 ∉ A) (h23 : 23 ∉ A) (h24 : 24 ∉ A) (h25 : 25 ∉ A) (h26 : 26 ∉ A) (h27 : 27 ∉ A) (h28 : 28 ∉ A) (h13 : 13 ∉ B) : cM b n P g1 L := by
  obtain ⟨a1, a2, a3, a4, a5, a6, a7, a8, a9, a10, a11, a12, a13, a14⟩ := h
  have e13 : g1 13 = g 13 := hF.2 13 (by decide) h13
  exact ⟨hI, a2, a3, (hF.i h22).trans a4, fun j hj => by rw [e13]; exact a5 j hj, (hF.i h25).trans a6, (hF.i h24).trans a7, (hF.i h23).trans a8, (hF.i h27).trans a9, fun hP => (hF.1 28 h28).trans (a10 hP), (hF.i h26).trans a11, a12, (hF.i h19).trans a13, (hF.i h20).trans a14⟩
theorem bM.fr {P : Nat} {g g1 : gT} {A B : List Nat} (h : bM P g) (hI : zI MT g1) (hF : Fr A B g g1) (h19 : 19 ∉ A) (h20 : 20 ∉ A) (h22 : 22 ∉ A) (h23 : 23 ∉ A) (h24 : 24 ∉ A) (h25 : 25 ∉ A) : bM P g1 := ⟨hI, h.2.1.fr hF h22 h23 h24 h25, by rw [hF.i h19]; exact h.2.2.1, (hF.i h20).trans h.2.2.2⟩
theorem sM_3 {k : Int} : sM k = 3 ↔ k = 3 := by unfold sM; split <;> (try split) <;> omega
theorem sM_2 {k : Int} : sM k = 2 ↔ k = 1 := by unfold sM; split <;> (try split) <;> omega
theorem sM_1 {k : Int} : sM k = 1 ↔ k = 2 := by unfold sM; split <;> (try split) <;> omega
theorem sM_0 {k : Int} : sM k = 0 ↔ k = 0 := by unfold sM; split <;> (try split) <;> omega
section CM
variable {ρ : Type} {Q : ρ → gT → lT → Prop} {b : Nat → Int32} {n P : Nat} {g : gT} {L : lT} {fu : Nat}
theorem goes_eq0 (hfu : 1180591620717411303424 ≤ fu) (hc : cm b n P g) : ∃ g1 L1, fX12_goes fu g L = some ((), (g1, L1)) ∧ cM b n (nx b n P) g1 L1 ∧ QG g g1 := by
  obtain ⟨a1, a2, a3, a4, a5, a6, a7, a8, a9, a10, a11, a13, a14⟩ := id hc
  have hE := tE_le (b := b) a3
  obtain ⟨x, g1, L1, e, hq⟩ := tX12_goes fu hfu g L a1 (by omega)
  obtain ⟨⟨k1, k2, k3, k4⟩, hm⟩ := hq
  have eN : mN g = n := by show (g 0 22).toInt.toNat = n; omega
  have e3 : (g 0 23).toInt.toNat = tE b n P := by omega
  have e13 : g1 13 = g 13 := k2.2 13 (by decide) (by decide)
  have eN1 : mN g1 = n := by show (g1 0 22).toInt.toNat = n; rw [k2.i (by decide)]; omega
  rw [eN, e3, sk_c a5] at hm
  have hn := nx_le (b := b) a3
  obtain ⟨t1, t2, t3, t4, t5, t6, t7⟩ := hm
  rw [e13, eN1] at t2 t3 t4 t5 t6 t7
  rw [tK_c a5] at t2 t7
  rw [tE_c a5] at t3 t6 t7
  rw [tV_c hn.2.1 a5] at t4
  refine ⟨g1, L1, e, ⟨k1, a2, hn.2.1, (k2.i (by decide)).trans a4, fun j hj => by rw [e13]; exact a5 j hj, t1, t2, t3, t4, fun h => (t5 h).trans (a5 _ h), t6, fun h => ?_, (k2.i (by decide)).trans a13, (k2.i (by decide)).trans a14⟩, ⟨k1, k2, k3, k4⟩⟩
  have hE2 := tE_le (b := b) hn.2.1
  have pc : ∀ k, nx b n P + k ≤ n → pI (g 13) (nx b n P) k = pI b (nx b n P) k := by
    intro k
    induction k with
    | zero => intro _; rfl
    | succ k ih => intro hk; unfold pI; rw [ih (by omega), a5 (nx b n P + k) (by omega)]
  rw [← pc _ (by show nx b n P + (tE b n (nx b n P) - nx b n P) ≤ n; omega)]
  exact t7 h
theorem goes_eq (hfu : 1180591620717411303424 ≤ fu) (hc : cM b n P g L) : ∃ g1 L1, fX12_goes fu g L = some ((), (g1, L1)) ∧ cM b n (nx b n P) g1 L1 ∧ Fr aG [] g g1 := by
  obtain ⟨g1, L1, h1, h2, h3⟩ := goes_eq0 (fu := fu) (L := L) hfu hc.c
  exact ⟨g1, L1, h1, h2, h3.2.1⟩
theorem m_goes {K : Unit → gT → lT → Option (ρ × zS)} (hfu : 1180591620717411303424 ≤ fu) (hc : cM b n P g L) (h : ∀ g1 L1, cM b n (nx b n P) g1 L1 → Fr aG [] g g1 → Ex (K () g1 L1) Q) : Ex (cb (fX12_goes fu g L) K) Q := by
  obtain ⟨g1, L1, e, h1, h2⟩ := goes_eq hfu hc
  rw [e]; exact h g1 L1 h1 h2
theorem wrong_eq {w : Int32} (hw : w.toInt ≠ 0) (hc : cM b n P g L) : ∃ g1, fX12_wrong fu w g L = some ((), (g1, L)) ∧ bM P g1 ∧ Fr [19, 20] [] g g1 := by
  have hpn := hc.pn
  obtain ⟨a1, a2, a3, a4, a5, a6, a7, a8, a9, a10, a11, a12, a13, a14⟩ := hc
  have hF : Fr [19, 20] [] g (upd2 (upd2 g 0 19 w) 0 20 (upd2 g 0 19 w 0 25)) := (Fr.refl.u0 (by decide)).u0 (by decide)
  refine ⟨_, ?_, ⟨(a1.updN rfl).updN rfl, hpn.fr hF (by decide) (by decide) (by decide) (by decide), ?_, ?_⟩, hF⟩
  · unfold fX12_wrong
    rw [if_pos (ic_eq.mpr (show (g 0 19).toInt = (0 : Int32).toInt from a13))]
    rfl
  · exact hw
  · rw [upd2_at]; exact a6
theorem m_wrong {w : Int32} {K : Unit → gT → lT → Option (ρ × zS)} (hw : w.toInt ≠ 0) (hc : cM b n P g L) (h : ∀ g1, bM P g1 → Fr [19, 20] [] g g1 → Ex (K () g1 L) Q) : Ex (cb (fX12_wrong fu w g L) K) Q := by
  obtain ⟨g1, e, h1, h2⟩ := wrong_eq (fu := fu) hw hc
  rw [e]; exact h g1 h1 h2
theorem m_wrongB {w : Int32} {K : Unit → gT → lT → Option (ρ × zS)} (hb : (g 0 19).toInt ≠ 0) (h : Ex (K () g L) Q) : Ex (cb (fX12_wrong fu w g L) K) Q := by
  unfold fX12_wrong
  rw [if_neg (fun h => hb (icc_eq (m := (g 0 19).toInt) (n := 0) rfl (by decide) h))]; exact h
theorem good_eq (hg : (g 0 19).toInt = 0) : fX12_isGood fu g L = some (1, (g, L)) := by
  unfold fX12_isGood fX12_isGood_p12
  rw [ckb1, if_pos (ic_eq.mpr (show (g 0 19).toInt = (0 : Int32).toInt from hg))]
theorem bad_eq (hg : (g 0 19).toInt ≠ 0) : fX12_isGood fu g L = some (0, (g, L)) := by
  unfold fX12_isGood fX12_isGood_p12
  rw [ckb0, if_neg (fun h => hg (icc_eq (m := (g 0 19).toInt) (n := 0) rfl (by decide) h))]
theorem sign_eq {c : Int32} (hc : cM b n P g L) : (isS b n P c.toInt ∧ fX12_isSign fu c g L = some (1, (g, L))) ∨ (¬ isS b n P c.toInt ∧ fX12_isSign fu c g L = some (0, (g, L))) := by
  obtain ⟨a1, a2, a3, a4, a5, a6, a7, a8, a9, a10, a11, a12, a13, a14⟩ := hc
  unfold fX12_isSign fX12_isSign_p20 fX12_isSign_p21
  rw [ckb0, ckb1]
  by_cases c1 : g 0 24 = 3
  · rw [if_pos c1]
    have c1 := icc_eq (m := (g 0 24).toInt) (n := 3) rfl (by decide) c1
    have hk : tK b n P = 3 := sM_3.mp (by omega)
    have hP : P < n := tK_n0 (b := b) (by omega)
    rw [a10 hP]
    by_cases c2 : b P = c
    · rw [if_pos c2]; exact Or.inl ⟨⟨hk, by rw [c2]⟩, rfl⟩
    · rw [if_neg c2]; exact Or.inr ⟨fun h => c2 (ic_eq.mpr h.2), rfl⟩
  · rw [if_neg c1]
    have c1 := icc_neq (m := (g 0 24).toInt) (n := 3) rfl (by decide) c1
    exact Or.inr ⟨fun h => c1 (by rw [a7]; exact sM_3.mpr h.1), rfl⟩
theorem m_sign {c : Int32} {A B : gT → lT → Option (ρ × zS)} (hc : cM b n P g L) (h1 : isS b n P c.toInt → Ex (B g L) Q) (h0 : ¬ isS b n P c.toInt → Ex (A g L) Q) : Ex (cb (fX12_isSign fu c g L) (fun x g1 L1 => if x = 0 then A g1 L1 else B g1 L1)) Q := by
  rcases sign_eq (fu := fu) (c := c) hc with ⟨h, e⟩ | ⟨h, e⟩
  · rw [e]; exact e_b1 (h1 h)
  · rw [e]; exact e_b0 (h0 h)
theorem known_eq (hfu : 1180591620717411303424 ≤ fu) (hc : cM b n P g L) : ∃ x : Int32, fX12_knownWord fu g L = some (x, (g, L)) ∧ ((∃ k : Nat, k < 17 ∧ x.toInt = (k : Int) ∧ isW b n P k) ∨ (x.toInt = -1 ∧ ∀ k, k < 17 → ¬ isW b n P k)) := by
  obtain ⟨a1, a2, a3, a4, a5, a6, a7, a8, a9, a10, a11, a12, a13, a14⟩ := hc
  have hE := tE_le (b := b) a3
  have key : Ex (fX12_knownWord fu g L) (fun (x : Int32) g1 L1 => g1 = g ∧ L1 = L ∧ ((∃ k : Nat, k < 17 ∧ x.toInt = (k : Int) ∧ isW b n P k) ∨ (x.toInt = -1 ∧ ∀ k, k < 17 → ¬ isW b n P k))) := by
    have no : (∀ k, k < 17 → ¬ isW b n P k) → Ex (some ((-1 : Int32), (g, L))) (fun (x : Int32) g1 L1 => g1 = g ∧ L1 = L ∧ ((∃ k : Nat, k < 17 ∧ x.toInt = (k : Int) ∧ isW b n P k) ∨ (x.toInt = -1 ∧ ∀ k, k < 17 → ¬ isW b n P k))) := fun h => Ex.ret ⟨rfl, rfl, Or.inr ⟨rfl, h⟩⟩
    unfold fX12_knownWord fX12_knownWord_p17
    refine Ex.ite (fun c1 => ?_) (fun c1 => no (fun k _ h => ?_))
    rotate_left
    · have c1 := icc_neq (m := (g 0 24).toInt) (n := 1) rfl (by decide) c1
      exact c1 (by rw [a7]; exact sM_1.mpr h.1)
    have c1 := icc_eq (m := (g 0 24).toInt) (n := 1) rfl (by decide) c1
    have hk2 : tK b n P = 2 := sM_1.mp (by omega)
    have hP : P < n := tK_n0 (b := b) (by omega)
    have hE3 := hE.2.2 hP
    refine Ex.ite (fun c2 => ?_) (fun c2 => no (fun k hk h => ?_))
    rotate_left
    · have c2 := icc_nle (m := (g 0 26).toInt) (n := 6) rfl (by decide) c2
      have := wd_le k
      have := h.2.1
      omega
    have c2 := icc_le (m := (g 0 26).toInt) (n := 6) rfl (by decide) c2
    have hw := a12 hk2
    have hl : ∀ i, i < tE b n P - P → 97 ≤ (b (P + i)).toInt ∧ (b (P + i)).toInt ≤ 122 := fun i hi => kd_2 ((tE_all (Or.inr hk2) (by omega) (by omega)).trans hk2)
    unfold fX12_knownWord_l21
    refine Ex.loop (α := Int32 × gT × lT) (fun v => (0 ≤ v.1.toInt ∧ v.1.toInt ≤ 17) ∧ v.2.1 = g ∧ v.2.2 = L ∧ ∀ k : Nat, (k : Int) < v.1.toInt → ¬ isW b n P k) (fun v => 18 - v.1.toInt) (by omega) (by show 18 - (0 : Int32).toInt < (fu : Int); have : (0 : Int32).toInt = 0 := rfl; omega) ⟨(show 0 ≤ (0 : Int32).toInt ∧ (0 : Int32).toInt ≤ 17 from by decide), rfl, rfl, fun k hk => absurd (show (k : Int) < 0 from hk) (by omega)⟩ (fun k21 v hv ih => ?_)
    obtain ⟨v1, g2, L2⟩ := v
    obtain ⟨hv, e1, e2, hm⟩ := hv
    have hv : 0 ≤ v1.toInt ∧ v1.toInt ≤ 17 := hv
    have e1 : g2 = g := e1
    have e2 : L2 = L := e2
    have hm : ∀ k : Nat, (k : Int) < v1.toInt → ¬ isW b n P k := hm
    subst e1 e2
    show Ex (fX12_knownWord_s21 fu k21 v1 g2 L2) _
    unfold fX12_knownWord_s21
    refine Ex.ite (fun c3 => no (fun k hk => hm k ?_)) (fun c3 => ?_)
    · have c3 := icc_le (m := 17) (n := v1.toInt) (by decide) rfl c3
      omega
    have c3 := icc_nle (m := 17) (n := v1.toInt) (by decide) rfl c3
    obtain ⟨y, ey, hy⟩ := let_eq (fu := fu) (v := v1) (g := g2) (L := L2) (by omega) (by omega)
    rw [ey]
    have hcmp : lg_cmp y (L2 0 29) = 0 ↔ y.toInt = (L2 0 29).toInt := by
      unfold lg_cmp
      constructor
      · intro h
        split at h
        · exact absurd h (by decide)
        · split at h
          · rename_i h9; rw [h9]
          · exact absurd h (by decide)
      · intro h
        have e : y = L2 0 29 := Int64.toInt_inj.mp h
        rw [e, if_neg (fun h9 => by have := Int64.lt_iff_toInt_lt.mp h9; omega), if_pos rfl]
    show Ex (if lg_cmp y (L2 0 29) = 0 then some (v1, (g2, L2)) else k21 ((v1 + 1), g2, L2)) _
    refine Ex.ite (fun c4 => ?_) (fun c4 => ?_)
    · have c4 := hcmp.mp c4
      have hp := pinj (b := b) (P := P) (m := tE b n P - P) (k := v1.toInt.toNat) (by omega) hl (by omega) (by omega) (by rw [← hw, ← c4, hy])
      exact Ex.ret ⟨rfl, rfl, Or.inl ⟨v1.toInt.toNat, by omega, by omega, hk2, by omega, hp.2⟩⟩
    · generalize hw1 : v1 + 1 = w
      have ew : w.toInt = v1.toInt + 1 := by rw [← hw1]; exact ic_addc rfl (by decide) (by omega) (by omega)
      refine ih (w, g2, L2) ⟨(show 0 ≤ w.toInt ∧ w.toInt ≤ 17 by omega), rfl, rfl, fun k hk => ?_⟩ (show 18 - w.toInt < 18 - v1.toInt by omega) (show 0 < 18 - v1.toInt by omega)
      have hk : (k : Int) < w.toInt := hk
      by_cases e : k = v1.toInt.toNat
      · subst e
        intro hW
        refine c4 (hcmp.mpr ?_)
        have h9 := pcon (P := P) (k := v1.toInt.toNat) (by omega) hW.2.2
        rw [hy, hw, ← h9]
        congr 1
        have := hW.2.1
        omega
      · exact hm k (by omega)
  obtain ⟨x, g1, L1, e, rfl, rfl, hx⟩ := key
  exact ⟨x, e, hx⟩
theorem m_known {K : Int32 → gT → lT → Option (ρ × zS)} (hfu : 1180591620717411303424 ≤ fu) (hc : cM b n P g L) (h : ∀ x : Int32, ((∃ k : Nat, k < 17 ∧ x.toInt = (k : Int) ∧ isW b n P k) ∨ (x.toInt = -1 ∧ ∀ k, k < 17 → ¬ isW b n P k)) → Ex (K x g L) Q) : Ex (cb (fX12_knownWord fu g L) K) Q := by
  obtain ⟨x, e, hx⟩ := known_eq hfu hc
  rw [e]; exact h x hx
theorem m_num {p1 p2 : Int32} {K : Int32 → gT → lT → Option (ρ × zS)} (hfu : 1180591620717411303424 ≤ fu) (hc : cM b n P g L) (h1 : nuC b n p1.toInt p2.toInt P → ∀ (r : Int32) g1 L1, r.toInt = tV b n P → cM b n (nx b n P) g1 L1 → Fr aG [] g g1 → Ex (K r g1 L1) Q) (h0 : ¬ nuC b n p1.toInt p2.toInt P → ∀ (r : Int32) g1, bM P g1 → Fr [19, 20] [] g g1 → Ex (K r g1 L) Q) : Ex (cb (fX12_number fu p1 p2 g L) K) Q := by
  obtain ⟨a1, a2, a3, a4, a5, a6, a7, a8, a9, a10, a11, a12, a13, a14⟩ := id hc
  have key : Ex (fX12_number fu p1 p2 g L) (fun (r : Int32) g1 L1 => (nuC b n p1.toInt p2.toInt P ∧ r.toInt = tV b n P ∧ cM b n (nx b n P) g1 L1 ∧ Fr aG [] g g1) ∨ (¬ nuC b n p1.toInt p2.toInt P ∧ bM P g1 ∧ Fr [19, 20] [] g g1 ∧ L1 = L)) := by
    have bad : ∀ (w : Int32) (K : Unit → gT → lT → Option (Int32 × zS)), w.toInt ≠ 0 → ¬ nuC b n p1.toInt p2.toInt P → (∀ g1 L1, K () g1 L1 = fX12_number_p54 fu g1 L1) → Ex (cb (fX12_wrong fu w g L) K) (fun (r : Int32) g1 L1 => (nuC b n p1.toInt p2.toInt P ∧ r.toInt = tV b n P ∧ cM b n (nx b n P) g1 L1 ∧ Fr aG [] g g1) ∨ (¬ nuC b n p1.toInt p2.toInt P ∧ bM P g1 ∧ Fr [19, 20] [] g g1 ∧ L1 = L)) := by
      intro w K hw hn hK
      refine m_wrong hw hc (fun g1 k1 k2 => ?_)
      rw [hK]
      unfold fX12_number_p54
      refine Ex.lti (fun x xe xi => ?_)
      refine e_good (fun h => absurd h k1.2.2.1) (fun _ => ?_)
      unfold fX12_number_p70
      exact Ex.ret (Or.inr ⟨hn, k1, k2, rfl⟩)
    unfold fX12_number
    refine e_good (fun hg => ?_) (fun hb => absurd a13 hb)
    refine Ex.ite (fun c => ?_) (fun c => bad 1 _ (by decide) (fun h => ?_) (fun _ _ => rfl))
    rotate_left
    · have c := icc_neq (m := (g 0 24).toInt) (n := 2) rfl (by decide) c
      exact c (by rw [a7]; exact sM_2.mpr h.1)
    have c := icc_eq (m := (g 0 24).toInt) (n := 2) rfl (by decide) c
    have hk : tK b n P = 1 := sM_2.mp (by omega)
    unfold fX12_number_p49
    refine Ex.ite (fun c2 => bad 2 _ (by decide) (fun h => ?_) (fun _ _ => rfl)) (fun c2 => ?_)
    · have c2 := icc_lt (m := 4) (n := (g 0 26).toInt) (by decide) rfl c2
      have := h.2.1; omega
    have c2 := icc_nlt (m := 4) (n := (g 0 26).toInt) (by decide) rfl c2
    refine Ex.ite (fun c3 => bad 2 _ (by decide) (fun h => ?_) (fun _ _ => rfl)) (fun c3 => ?_)
    · have c3 := icc_lt (m := (g 0 27).toInt) (n := p1.toInt) rfl rfl c3
      have := h.2.2.1; omega
    have c3 := icc_nlt (m := (g 0 27).toInt) (n := p1.toInt) rfl rfl c3
    refine Ex.ite (fun c4 => ?_) (fun c4 => bad 2 _ (by decide) (fun h => ?_) (fun _ _ => rfl))
    rotate_left
    · have c4 := icc_nle (m := (g 0 27).toInt) (n := p2.toInt) rfl rfl c4
      have := h.2.2.2; omega
    have c4 := icc_le (m := (g 0 27).toInt) (n := p2.toInt) rfl rfl c4
    unfold fX12_number_p54
    refine Ex.lti (fun x xe xi => ?_)
    refine e_good (fun _ => ?_) (fun h => absurd hg h)
    refine m_goes hfu hc (fun g1 L1 k1 k2 => ?_)
    unfold fX12_number_p70
    exact Ex.ret (Or.inl ⟨⟨hk, by omega, by omega, by omega⟩, by omega, k1, k2⟩)
  refine Ex.cb key (fun r g1 L1 hq => ?_)
  rcases hq with ⟨k1, k2, k3, k4⟩ | ⟨k1, k3, k4, rfl⟩
  · exact h1 k1 r g1 L1 k2 k3 k4
  · exact h0 k1 r g1 k3 k4
theorem m_numB {p1 p2 : Int32} {K : Int32 → gT → lT → Option (ρ × zS)} (hb : (g 0 19).toInt ≠ 0) (h : Ex (K 0 g L) Q) : Ex (cb (fX12_number fu p1 p2 g L) K) Q := by
  have key : Ex (fX12_number fu p1 p2 g L) (fun (r : Int32) g1 L1 => r = 0 ∧ g1 = g ∧ L1 = L) := by
    unfold fX12_number
    exact e_good (fun hg => absurd hg hb) (fun _ => Ex.ret ⟨rfl, rfl, rfl⟩)
  refine Ex.cb key (fun r g1 L1 hq => ?_)
  obtain ⟨rfl, rfl, rfl⟩ := hq
  exact h
end CM
end
section
/-! ===== what an expression is: the code that it stands for, and where it ends; or the place of its fault ===== -/
def dS (b : Nat → Int32) (n P : Nat) (c : Int) : Decidable (isS b n P c) := by unfold isS; exact inferInstance
def dW (b : Nat → Int32) (n P k : Nat) : Decidable (isW b n P k) := by unfold isW; exact inferInstance
def sB (b : Nat → Int32) (n P : Nat) (c : Int) : Bool := @decide (isS b n P c) (dS b n P c)
def wB (b : Nat → Int32) (n P k : Nat) : Bool := @decide (isW b n P k) (dW b n P k)
theorem sB_t {b : Nat → Int32} {n P : Nat} {c : Int} (h : isS b n P c) : sB b n P c = true := @decide_eq_true _ (dS b n P c) h
theorem sB_f {b : Nat → Int32} {n P : Nat} {c : Int} (h : ¬ isS b n P c) : sB b n P c = false := @decide_eq_false _ (dS b n P c) h
theorem wB_t {b : Nat → Int32} {n P k : Nat} (h : isW b n P k) : wB b n P k = true := @decide_eq_true _ (dW b n P k) h
theorem wB_f {b : Nat → Int32} {n P k : Nat} (h : ¬ isW b n P k) : wB b n P k = false := @decide_eq_false _ (dW b n P k) h
theorem sB_d (b : Nat → Int32) (n P : Nat) (c : Int) : (isS b n P c ∧ sB b n P c = true) ∨ (¬ isS b n P c ∧ sB b n P c = false) := by
  by_cases h : isS b n P c
  · exact Or.inl ⟨h, sB_t h⟩
  · exact Or.inr ⟨h, sB_f h⟩
theorem wB_d (b : Nat → Int32) (n P k : Nat) : (isW b n P k ∧ wB b n P k = true) ∨ (¬ isW b n P k ∧ wB b n P k = false) := by
  by_cases h : isW b n P k
  · exact Or.inl ⟨h, wB_t h⟩
  · exact Or.inr ⟨h, wB_f h⟩
/-- which value a word is; 6: none -/
def vW (b : Nat → Int32) (n P : Nat) : Nat := if wB b n P 0 then 0 else if wB b n P 1 then 1 else if wB b n P 2 then 2 else if wB b n P 3 then 3 else if wB b n P 4 then 4 else if wB b n P 5 then 5 else 6
abbrev xR : Type := Except Nat (List Int × Nat)
def eb (r : xR) (k : List Int → Nat → xR) : xR := match r with
  | .error p => .error p
  | .ok q => k q.1 q.2
theorem eb_ok {c : List Int} {Q : Nat} {k : List Int → Nat → xR} : eb (.ok (c, Q)) k = k c Q := rfl
theorem eb_er {p : Nat} {k : List Int → Nat → xR} : eb (.error p) k = .error p := rfl
/-- 0 part, 1 product, 2 sum, 3 test, 4 nots, 5 and, 6 expression; 7, 8, 10, 11: more of 1, 2, 5, 6 -/
def xs (b : Nat → Int32) (n : Nat) : Nat → Nat → Nat → List Int → Nat → xR
  | 0, _, _, _, P => .error P
  | f + 1, lev, d, acc, P => match lev with
    | 0 => if tK b n P = 1 then (if tE b n P ≤ P + 4 then .ok ([tV b n P], nx b n P) else .error P)
      else if tK b n P = 2 then (if vW b n P < 6 then .ok ([-1 - (vW b n P : Int)], nx b n P) else .error P)
      else if sB b n P 40 then (if d ≤ 5 then eb (xs b n f 6 (d + 1) [] (nx b n P)) (fun c Q => if sB b n Q 41 then .ok (c, nx b n Q) else .error Q) else .error P)
      else .error P
    | 1 => eb (xs b n f 0 d [] P) (fun c Q => xs b n f 7 d c Q)
    | 2 => eb (xs b n f 1 d [] P) (fun c Q => xs b n f 8 d c Q)
    | 3 => eb (xs b n f 2 d [] P) (fun c Q => if sB b n Q 60 then eb (xs b n f 2 d [] (nx b n Q)) (fun c2 R => .ok (c ++ c2 ++ [-11], R))
        else if sB b n Q 61 then eb (xs b n f 2 d [] (nx b n Q)) (fun c2 R => .ok (c ++ c2 ++ [-12], R)) else .ok (c, Q))
    | 4 => if wB b n P 16 then (if acc.length < 6 then xs b n f 4 d (-15 :: acc) (nx b n P) else .error P) else eb (xs b n f 3 d [] P) (fun c Q => .ok (c ++ acc, Q))
    | 5 => eb (xs b n f 4 d [] P) (fun c Q => xs b n f 10 d c Q)
    | 6 => if d ≤ 5 then eb (xs b n f 5 d [] P) (fun c Q => xs b n f 11 d c Q) else .error P
    | 7 => if sB b n P 42 then eb (xs b n f 0 d [] (nx b n P)) (fun c Q => xs b n f 7 d (acc ++ c ++ [-9]) Q)
      else if sB b n P 47 then eb (xs b n f 0 d [] (nx b n P)) (fun c Q => xs b n f 7 d (acc ++ c ++ [-10]) Q) else .ok (acc, P)
    | 8 => if sB b n P 43 then eb (xs b n f 1 d [] (nx b n P)) (fun c Q => xs b n f 8 d (acc ++ c ++ [-7]) Q)
      else if sB b n P 45 then eb (xs b n f 1 d [] (nx b n P)) (fun c Q => xs b n f 8 d (acc ++ c ++ [-8]) Q) else .ok (acc, P)
    | 10 => if wB b n P 14 then eb (xs b n f 4 d [] (nx b n P)) (fun c Q => xs b n f 10 d (acc ++ c ++ [-13]) Q) else .ok (acc, P)
    | 11 => if wB b n P 15 then eb (xs b n f 5 d [] (nx b n P)) (fun c Q => xs b n f 11 d (acc ++ c ++ [-14]) Q) else .ok (acc, P)
    | _ => .error P
section XSE
variable {b : Nat → Int32} {n f d P : Nat} {acc : List Int}
theorem xe_0 : xs b n (f + 1) 0 d acc P = (if tK b n P = 1 then (if tE b n P ≤ P + 4 then .ok ([tV b n P], nx b n P) else .error P) else if tK b n P = 2 then (if vW b n P < 6 then .ok ([-1 - (vW b n P : Int)], nx b n P) else .error P) else if sB b n P 40 then (if d ≤ 5 then eb (xs b n f 6 (d + 1) [] (nx b n P)) (fun c Q => if sB b n Q 41 then .ok (c, nx b n Q) else .error Q) else .error P) else .error P) := rfl
theorem xe_1 : xs b n (f + 1) 1 d acc P = eb (xs b n f 0 d [] P) (fun c Q => xs b n f 7 d c Q) := rfl
theorem xe_2 : xs b n (f + 1) 2 d acc P = eb (xs b n f 1 d [] P) (fun c Q => xs b n f 8 d c Q) := rfl
theorem xe_3 : xs b n (f + 1) 3 d acc P = eb (xs b n f 2 d [] P) (fun c Q => if sB b n Q 60 then eb (xs b n f 2 d [] (nx b n Q)) (fun c2 R => .ok (c ++ c2 ++ [-11], R)) else if sB b n Q 61 then eb (xs b n f 2 d [] (nx b n Q)) (fun c2 R => .ok (c ++ c2 ++ [-12], R)) else .ok (c, Q)) := rfl
theorem xe_4 : xs b n (f + 1) 4 d acc P = (if wB b n P 16 then (if acc.length < 6 then xs b n f 4 d (-15 :: acc) (nx b n P) else .error P) else eb (xs b n f 3 d [] P) (fun c Q => .ok (c ++ acc, Q))) := rfl
theorem xe_5 : xs b n (f + 1) 5 d acc P = eb (xs b n f 4 d [] P) (fun c Q => xs b n f 10 d c Q) := rfl
theorem xe_6 : xs b n (f + 1) 6 d acc P = (if d ≤ 5 then eb (xs b n f 5 d [] P) (fun c Q => xs b n f 11 d c Q) else .error P) := rfl
theorem xe_7 : xs b n (f + 1) 7 d acc P = (if sB b n P 42 then eb (xs b n f 0 d [] (nx b n P)) (fun c Q => xs b n f 7 d (acc ++ c ++ [-9]) Q) else if sB b n P 47 then eb (xs b n f 0 d [] (nx b n P)) (fun c Q => xs b n f 7 d (acc ++ c ++ [-10]) Q) else .ok (acc, P)) := rfl
theorem xe_8 : xs b n (f + 1) 8 d acc P = (if sB b n P 43 then eb (xs b n f 1 d [] (nx b n P)) (fun c Q => xs b n f 8 d (acc ++ c ++ [-7]) Q) else if sB b n P 45 then eb (xs b n f 1 d [] (nx b n P)) (fun c Q => xs b n f 8 d (acc ++ c ++ [-8]) Q) else .ok (acc, P)) := rfl
theorem xe_10 : xs b n (f + 1) 10 d acc P = (if wB b n P 14 then eb (xs b n f 4 d [] (nx b n P)) (fun c Q => xs b n f 10 d (acc ++ c ++ [-13]) Q) else .ok (acc, P)) := rfl
theorem xe_11 : xs b n (f + 1) 11 d acc P = (if wB b n P 15 then eb (xs b n f 5 d [] (nx b n P)) (fun c Q => xs b n f 11 d (acc ++ c ++ [-14]) Q) else .ok (acc, P)) := rfl
end XSE
theorem eb_inv {r : xR} {k : List Int → Nat → xR} {c : List Int} {Q : Nat} (h : eb r k = .ok (c, Q)) : ∃ c1 Q1, r = .ok (c1, Q1) ∧ k c1 Q1 = .ok (c, Q) := by
  cases r with
  | error p => exact nomatch h
  | ok q => exact ⟨q.1, q.2, rfl, h⟩
theorem isS_lt {b : Nat → Int32} {n P : Nat} {c : Int} (h : isS b n P c) : P < n := tK_n0 (b := b) (by have := h.1; omega)
theorem isW_lt {b : Nat → Int32} {n P k : Nat} (h : isW b n P k) : P < n := tK_n0 (b := b) (by have := h.1; omega)
theorem sB_lt {b : Nat → Int32} {n P : Nat} {c : Int} (h : sB b n P c = true) : P < n := isS_lt (@of_decide_eq_true _ (dS b n P c) h)
theorem wB_lt {b : Nat → Int32} {n P k : Nat} (h : wB b n P k = true) : P < n := isW_lt (@of_decide_eq_true _ (dW b n P k) h)
/-- an expression goes on in the bytes, and has no more code than bytes -/
theorem xs_len {b : Nat → Int32} {n : Nat} : ∀ (f lev d : Nat) (acc : List Int) (P : Nat) (c : List Int) (Q : Nat), P ≤ n → xs b n f lev d acc P = .ok (c, Q) → (lev ≤ 3 ∨ lev = 5 ∨ lev = 6 → acc = []) → P ≤ Q ∧ Q ≤ n ∧ c.length + P ≤ acc.length + Q ∧ (lev ≤ 6 → P < Q) := by
  intro f
  induction f with
  | zero => intro lev d acc P c Q _ h _; exact nomatch h
  | succ f ih =>
    intro lev d acc P c Q hP h ha
    have hn := nx_le (b := b) hP
    have two : ∀ (l1 l2 : Nat) (A : List Int) (op : Int) (c : List Int) (Q : Nat), (l1 ≤ 6 ∧ l1 ≠ 4 ∨ l1 = 4) → l2 = 7 ∨ l2 = 8 ∨ l2 = 10 ∨ l2 = 11 → P < n → eb (xs b n f l1 d [] (nx b n P)) (fun c1 Q1 => xs b n f l2 d (A ++ c1 ++ [op]) Q1) = .ok (c, Q) → P ≤ Q ∧ Q ≤ n ∧ c.length + P ≤ A.length + Q := by
      intro l1 l2 A op c Q h1 h2 hlt h
      obtain ⟨c1, Q1, e1, e2⟩ := eb_inv h
      have k1 := ih l1 d [] _ c1 Q1 hn.2.1 e1 (fun _ => rfl)
      have k2 := ih l2 d _ Q1 c Q k1.2.1 e2 (fun h => by omega)
      have k3 := k1.2.2.1
      have k4 := k2.2.2.1
      simp only [List.length_append, List.length_cons, List.length_nil] at k3 k4
      have := hn.2.2 hlt
      omega
    have seq : ∀ (l1 l2 : Nat) (c : List Int) (Q : Nat), l1 ≤ 6 → l2 = 7 ∨ l2 = 8 ∨ l2 = 10 ∨ l2 = 11 → eb (xs b n f l1 d [] P) (fun c1 Q1 => xs b n f l2 d c1 Q1) = .ok (c, Q) → P ≤ Q ∧ Q ≤ n ∧ c.length + P ≤ 0 + Q ∧ P < Q := by
      intro l1 l2 c Q h1 h2 h
      obtain ⟨c1, Q1, e1, e2⟩ := eb_inv h
      have k1 := ih l1 d [] P c1 Q1 hP e1 (fun _ => rfl)
      have k2 := ih l2 d c1 Q1 c Q k1.2.1 e2 (fun h => by omega)
      have k3 := k1.2.2.1
      have k5 := k1.2.2.2 h1
      simp only [List.length_nil] at k3
      omega
    match lev, h, ha with
    | 0, h, ha =>
      rw [ha (Or.inl (by decide))] at h ⊢
      rw [xe_0] at h
      split at h
      · split at h
        · cases h
          have hlt : P < n := tK_n0 (b := b) (by omega)
          have := hn.2.2 hlt
          simp only [List.length_cons, List.length_nil]
          omega
        · exact nomatch h
      · split at h
        · split at h
          · cases h
            have hlt : P < n := tK_n0 (b := b) (by omega)
            have := hn.2.2 hlt
            simp only [List.length_cons, List.length_nil]
            omega
          · exact nomatch h
        · split at h
          · rename_i hs
            split at h
            · obtain ⟨c1, Q1, e1, e2⟩ := eb_inv h
              have k1 := ih 6 (d + 1) [] _ c1 Q1 hn.2.1 e1 (fun _ => rfl)
              have k3 := k1.2.2.1
              split at e2
              · cases e2
                have hlt := sB_lt hs
                have := hn.2.2 hlt
                have m := nx_le (b := b) k1.2.1
                simp only [List.length_nil] at k3 ⊢
                omega
              · exact nomatch e2
            · exact nomatch h
          · exact nomatch h
    | 1, h, ha =>
      rw [ha (Or.inl (by decide))]
      rw [xe_1] at h
      have := seq 0 7 c Q (by decide) (Or.inl rfl) h
      exact ⟨this.1, this.2.1, this.2.2.1, fun _ => this.2.2.2⟩
    | 2, h, ha =>
      rw [ha (Or.inl (by decide))]
      rw [xe_2] at h
      have := seq 1 8 c Q (by decide) (Or.inr (Or.inl rfl)) h
      exact ⟨this.1, this.2.1, this.2.2.1, fun _ => this.2.2.2⟩
    | 3, h, ha =>
      rw [ha (Or.inl (by decide))]
      rw [xe_3] at h
      obtain ⟨c1, Q1, e1, e2⟩ := eb_inv h
      have k1 := ih 2 d [] P c1 Q1 hP e1 (fun _ => rfl)
      have k3 := k1.2.2.1
      have k4 := k1.2.2.2 (by decide)
      have m := nx_le (b := b) k1.2.1
      have tl : ∀ op : Int, Q1 < n → eb (xs b n f 2 d [] (nx b n Q1)) (fun c2 R => .ok (c1 ++ c2 ++ [op], R)) = .ok (c, Q) → P ≤ Q ∧ Q ≤ n ∧ c.length + P ≤ ([] : List Int).length + Q ∧ (3 ≤ 6 → P < Q) := by
        intro op hlt h
        obtain ⟨c2, Q2, e3, e4⟩ := eb_inv h
        cases e4
        have k5 := ih 2 d [] _ c2 Q m.2.1 e3 (fun _ => rfl)
        have k6 := k5.2.2.1
        have := m.2.2 hlt
        simp only [List.length_append, List.length_cons, List.length_nil] at k3 k6 ⊢
        omega
      split at e2
      · rename_i hs; exact tl _ (sB_lt hs) e2
      · split at e2
        · rename_i hs; exact tl _ (sB_lt hs) e2
        · cases e2
          simp only [List.length_nil] at k3 ⊢
          omega
    | 4, h, _ =>
      rw [xe_4] at h
      split at h
      · rename_i hw
        split at h
        · have k1 := ih 4 d _ _ c Q hn.2.1 h (fun h => by omega)
          have k3 := k1.2.2.1
          have := hn.2.2 (wB_lt hw)
          simp only [List.length_cons] at k3
          omega
        · exact nomatch h
      · obtain ⟨c1, Q1, e1, e2⟩ := eb_inv h
        cases e2
        have k1 := ih 3 d [] P c1 Q hP e1 (fun _ => rfl)
        have k3 := k1.2.2.1
        have k4 := k1.2.2.2 (by decide)
        simp only [List.length_append, List.length_nil] at k3 ⊢
        omega
    | 5, h, ha =>
      rw [ha (Or.inr (Or.inl rfl))]
      rw [xe_5] at h
      have := seq 4 10 c Q (by decide) (Or.inr (Or.inr (Or.inl rfl))) h
      exact ⟨this.1, this.2.1, this.2.2.1, fun _ => this.2.2.2⟩
    | 6, h, ha =>
      rw [ha (Or.inr (Or.inr rfl))]
      rw [xe_6] at h
      split at h
      · have := seq 5 11 c Q (by decide) (Or.inr (Or.inr (Or.inr rfl))) h
        exact ⟨this.1, this.2.1, this.2.2.1, fun _ => this.2.2.2⟩
      · exact nomatch h
    | 7, h, _ =>
      rw [xe_7] at h
      split at h
      · rename_i hs
        have := two 0 7 acc (-9) c Q (Or.inl (by decide)) (Or.inl rfl) (sB_lt hs) h
        exact ⟨this.1, this.2.1, this.2.2, fun h => absurd h (by decide)⟩
      · split at h
        · rename_i hs
          have := two 0 7 acc (-10) c Q (Or.inl (by decide)) (Or.inl rfl) (sB_lt hs) h
          exact ⟨this.1, this.2.1, this.2.2, fun h => absurd h (by decide)⟩
        · cases h; exact ⟨Nat.le_refl _, hP, Nat.le_refl _, fun h => absurd h (by decide)⟩
    | 8, h, _ =>
      rw [xe_8] at h
      split at h
      · rename_i hs
        have := two 1 8 acc (-7) c Q (Or.inl (by decide)) (Or.inr (Or.inl rfl)) (sB_lt hs) h
        exact ⟨this.1, this.2.1, this.2.2, fun h => absurd h (by decide)⟩
      · split at h
        · rename_i hs
          have := two 1 8 acc (-8) c Q (Or.inl (by decide)) (Or.inr (Or.inl rfl)) (sB_lt hs) h
          exact ⟨this.1, this.2.1, this.2.2, fun h => absurd h (by decide)⟩
        · cases h; exact ⟨Nat.le_refl _, hP, Nat.le_refl _, fun h => absurd h (by decide)⟩
    | 9, h, _ => exact nomatch h
    | 10, h, _ =>
      rw [xe_10] at h
      split at h
      · rename_i hs
        have := two 4 10 acc (-13) c Q (Or.inr rfl) (Or.inr (Or.inr (Or.inl rfl))) (wB_lt hs) h
        exact ⟨this.1, this.2.1, this.2.2, fun h => absurd h (by decide)⟩
      · cases h; exact ⟨Nat.le_refl _, hP, Nat.le_refl _, fun h => absurd h (by decide)⟩
    | 11, h, _ =>
      rw [xe_11] at h
      split at h
      · rename_i hs
        have := two 5 11 acc (-14) c Q (Or.inl (by decide)) (Or.inr (Or.inr (Or.inr rfl))) (wB_lt hs) h
        exact ⟨this.1, this.2.1, this.2.2, fun h => absurd h (by decide)⟩
      · cases h; exact ⟨Nat.le_refl _, hP, Nat.le_refl _, fun h => absurd h (by decide)⟩
    | lev + 12, h, _ => exact nomatch h
end
section
/-! ===== the class's expressions ===== -/
def kF (g g1 : gT) : Prop := FX [3, 4, 5, 6, 7, 8] [4, 22] g g1 ∧ g1 4 3 = g 4 3
theorem kF.refl {g : gT} : kF g g := ⟨FX.refl, rfl⟩
theorem kF.tr {g g1 g2 : gT} (h1 : kF g g1) (h2 : kF g1 g2) : kF g g2 := ⟨h1.1.tr h2.1, h2.2.trans h1.2⟩
theorem kF.p {g g1 : gT} {A : List Nat} (h : FX A [] g g1) (hA : ∀ j ∈ A, j ∈ [3, 4, 5, 6, 7, 8]) : kF g g1 := ⟨h.mo hA (by decide), by rw [h.2 4 (by decide) (by decide)]⟩
theorem kF.k {g g1 : gT} (h : FX [] [4, 22] g g1) (h3 : g1 4 3 = g 4 3) : kF g g1 := ⟨h.mo (by decide) (by decide), h3⟩
/-- the code has grown by c -/
def kRd (g g1 : gT) (c : List Int) : Prop := (g1 4 4).toInt = (g 4 4).toInt + (c.length : Int) ∧ (∀ i, i < (g 4 4).toInt.toNat → g1 22 i = g 22 i) ∧ ∀ i, i < c.length → (g1 22 ((g 4 4).toInt.toNat + i)).toInt = c.getD i 0
theorem kRd.nil {g g1 : gT} (h4 : g1 4 4 = g 4 4) (h22 : g1 22 = g 22) : kRd g g1 [] := ⟨by rw [h4]; show _ = _ + (0 : Int); omega, fun i _ => by rw [h22], fun i hi => absurd hi (Nat.not_lt_zero _)⟩
theorem kRd.p {g g1 : gT} {A : List Nat} (h : FX A [] g g1) : kRd g g1 [] := kRd.nil (by rw [h.2 4 (by decide) (by decide)]) (h.2 22 (by decide) (by decide))
theorem kRd.tr {g g1 g2 : gT} {c c' : List Int} (h0 : 0 ≤ (g 4 4).toInt) (h1 : kRd g g1 c) (h2 : kRd g1 g2 c') : kRd g g2 (c ++ c') := by
  obtain ⟨a1, a2, a3⟩ := h1
  obtain ⟨b1, b2, b3⟩ := h2
  have e : (g1 4 4).toInt.toNat = (g 4 4).toInt.toNat + c.length := by omega
  rw [e] at b2 b3
  refine ⟨by rw [List.length_append]; omega, fun i hi => (b2 i (by omega)).trans (a2 i hi), fun i hi => ?_⟩
  rw [List.length_append] at hi
  by_cases hc : i < c.length
  · rw [b2 _ (by omega), a3 i hc]
    rw [List.getD_eq_getElem?_getD, List.getD_eq_getElem?_getD, List.getElem?_append_left hc]
  · have h9 := b3 (i - c.length) (by omega)
    rw [show (g 4 4).toInt.toNat + c.length + (i - c.length) = (g 4 4).toInt.toNat + i by omega] at h9
    rw [h9, List.getD_eq_getElem?_getD, List.getD_eq_getElem?_getD, List.getElem?_append_right (by omega)]
def XB (p : Nat) (g g1 : gT) : Prop := kF g g1 ∧ bX p g1
def XP (b : Nat → Int32) (n : Nat) (g : gT) (r : xR) (g1 : gT) : Prop := kF g g1 ∧ (match r with
  | .error p => bX p g1
  | .ok q => cX b n q.2 g1 ∧ kRd g g1 q.1)
theorem XP.e {b : Nat → Int32} {n p : Nat} {g g1 : gT} (h : XB p g g1) : XP b n g (.error p) g1 := h
theorem XB.tr {p : Nat} {g g1 g2 : gT} (h1 : kF g g1) (h2 : XB p g1 g2) : XB p g g2 := ⟨h1.tr h2.1, h2.2⟩
/-- there is room for the code of what is left -/
def rm (n P : Nat) (g : gT) : Prop := (g 4 4).toInt + (n : Int) ≤ 700 + (P : Int)
section XA
variable {ρ : Type} {Q : ρ → gT → lT → Prop} {b : Nat → Int32} {n P : Nat} {g : gT} {L : lT} {fu : Nat}
theorem x_add {v : Int32} {K : Unit → gT → lT → Option (ρ × zS)} (hI : zI XT g) (hu : (g 4 4).toInt < 700) (h : ∀ g1, zI XT g1 → FX [] [4, 22] g g1 → g1 4 3 = g 4 3 → kRd g g1 [v.toInt] → Ex (K () g1 L) Q) : Ex (cb (fX8_add_4 fu v g L) K) Q := by
  have q4 := hI 4 4 0 700 rfl
  have ew : (g 4 4 + 1).toInt = (g 4 4).toInt + 1 := ic_addc rfl (by decide) (by omega) (by omega)
  have e : fX8_add_4 fu v g L = some ((), (upd2 (upd2 g 22 (g 4 4).toNatClampNeg v) 4 4 (g 4 4 + 1), L)) := by
    unfold fX8_add_4 fX8_add_4_p32
    rw [if_neg (fun h => by have := icc_le (m := 700) (n := (g 4 4).toInt) (by decide) rfl h; omega), ck_eq (by omega) (by omega)]
    rfl
  rw [e]
  refine h _ ((hI.updN rfl).upd (lo := 0) (hi := 700) rfl (by omega) (by omega)) ((FX.refl.uk (by decide) (by decide)).uk (by decide) (by decide)) rfl ⟨?_, fun i hi => ?_, fun i hi => ?_⟩
  · show (upd2 (upd2 g 22 (g 4 4).toNatClampNeg v) 4 4 (g 4 4 + 1) 4 4).toInt = (g 4 4).toInt + (1 : Int)
    rw [upd2_at]; exact ew
  · show upd2 (upd2 g 22 (g 4 4).toNatClampNeg v) 4 4 (g 4 4 + 1) 22 i = g 22 i
    rw [upd2_nk (by decide), upd2_nj (show i ≠ (g 4 4).toNatClampNeg by rw [nc]; omega)]
  · have hi : i < 1 := hi
    have e0 : i = 0 := by omega
    subst e0
    show (upd2 (upd2 g 22 (g 4 4).toNatClampNeg v) 4 4 (g 4 4 + 1) 22 ((g 4 4).toNatClampNeg)).toInt = v.toInt
    rw [upd2_nk (by decide), upd2_at]
theorem x_addB {v : Int32} {K : Unit → gT → lT → Option (ρ × zS)} (hI : zI XT g) (h : ∀ g1, zI XT g1 → FX [] [4, 22] g g1 → g1 4 3 = g 4 3 → Ex (K () g1 L) Q) : Ex (cb (fX8_add_4 fu v g L) K) Q := by
  by_cases hu : (g 4 4).toInt < 700
  · exact x_add hI hu (fun g1 k1 k2 k3 _ => h g1 k1 k2 k3)
  · have e : fX8_add_4 fu v g L = some ((), (g, L)) := by
      unfold fX8_add_4 fX8_add_4_p32
      rw [if_pos (ic_le.mpr (show (700 : Int32).toInt ≤ (g 4 4).toInt by have : (700 : Int32).toInt = 700 := rfl; omega))]
    rw [e]; exact h g hI FX.refl rfl
/-- add behind a fault -/
theorem x_addX {p : Nat} {v : Int32} {g0 : gT} {K : Unit → gT → lT → Option (ρ × zS)} (hb : XB p g0 g) (h : ∀ g1, XB p g0 g1 → Ex (K () g1 L) Q) : Ex (cb (fX8_add_4 fu v g L) K) Q := x_addB hb.2.1 (fun g1 k1 k2 k3 => h g1 ⟨hb.1.tr (kF.k k2 k3), hb.2.fr k1 k2 (by decide) (by decide) (by decide)⟩)
theorem x_vln {K : Int32 → gT → lT → Option (ρ × zS)} (hfu : 1180591620717411303424 ≤ fu) (hc : cX b n P g) (h : ∀ x : Int32, (vW b n P < 6 ∧ x.toInt = (vW b n P : Int)) ∨ (¬ vW b n P < 6 ∧ x.toInt = -1) → Ex (K x g L) Q) : Ex (cb (fX6_valueNow_5 fu g L) K) Q := by
  have hI := hc.1
  have w : ∀ k, xW g k ↔ isW b n P k := fun k => xW_isW hc k
  have key : Ex (fX6_valueNow_5 fu g L) (fun (x : Int32) g1 L1 => g1 = g ∧ L1 = L ∧ ((vW b n P < 6 ∧ x.toInt = (vW b n P : Int)) ∨ (¬ vW b n P < 6 ∧ x.toInt = -1))) := by
    unfold fX6_valueNow_5 fX6_valueNow_5_p69
    refine e_overW hfu hI (fun h0 => ?_) (fun h0 => ?_)
    · have e : vW b n P = 0 := by unfold vW; rw [wB_t ((w 0).mp h0)]; rfl
      exact Ex.ret ⟨rfl, rfl, Or.inl ⟨by rw [e]; decide, by rw [e]; rfl⟩⟩
    have f0 := wB_f (fun h => h0 ((w 0).mpr h))
    refine e_lateW hfu hI (fun h1 => ?_) (fun h1 => ?_)
    · have e : vW b n P = 1 := by unfold vW; rw [f0, wB_t ((w 1).mp h1)]; rfl
      exact Ex.ret ⟨rfl, rfl, Or.inl ⟨by rw [e]; decide, by rw [e]; rfl⟩⟩
    have f1 := wB_f (fun h => h1 ((w 1).mpr h))
    refine e_clockW hfu hI (fun h2 => ?_) (fun h2 => ?_)
    · have e : vW b n P = 2 := by unfold vW; rw [f0, f1, wB_t ((w 2).mp h2)]; rfl
      exact Ex.ret ⟨rfl, rfl, Or.inl ⟨by rw [e]; decide, by rw [e]; rfl⟩⟩
    have f2 := wB_f (fun h => h2 ((w 2).mpr h))
    refine e_roomW hfu hI (fun h3 => ?_) (fun h3 => ?_)
    · have e : vW b n P = 3 := by unfold vW; rw [f0, f1, f2, wB_t ((w 3).mp h3)]; rfl
      exact Ex.ret ⟨rfl, rfl, Or.inl ⟨by rw [e]; decide, by rw [e]; rfl⟩⟩
    have f3 := wB_f (fun h => h3 ((w 3).mpr h))
    refine e_peopleW hfu hI (fun h4 => ?_) (fun h4 => ?_)
    · have e : vW b n P = 4 := by unfold vW; rw [f0, f1, f2, f3, wB_t ((w 4).mp h4)]; rfl
      exact Ex.ret ⟨rfl, rfl, Or.inl ⟨by rw [e]; decide, by rw [e]; rfl⟩⟩
    have f4 := wB_f (fun h => h4 ((w 4).mpr h))
    refine e_lessonW hfu hI (fun h5 => ?_) (fun h5 => ?_)
    · have e : vW b n P = 5 := by unfold vW; rw [f0, f1, f2, f3, f4, wB_t ((w 5).mp h5)]; rfl
      exact Ex.ret ⟨rfl, rfl, Or.inl ⟨by rw [e]; decide, by rw [e]; rfl⟩⟩
    have f5 := wB_f (fun h => h5 ((w 5).mpr h))
    have e : vW b n P = 6 := by unfold vW; rw [f0, f1, f2, f3, f4, f5]; rfl
    exact Ex.ret ⟨rfl, rfl, Or.inr ⟨by rw [e]; decide, rfl⟩⟩
  refine Ex.cb key (fun x g1 L1 hx => ?_)
  obtain ⟨rfl, rfl, hx⟩ := hx
  exact h x hx
end XA
/-- what is asked of the expression one deeper -/
def Rc (b : Nat → Int32) (n d : Nat) (rc : Int32 → gT → lT → Option (Unit × zS)) : Prop := d ≤ 5 → ∀ (p1 : Int32) (g : gT) (L : lT) (P f : Nat), p1.toInt = (d : Int) + 1 → cX b n P g → rm n P g → 16 * (n + 1 - P) + 8 ≤ f → Ex (rc p1 g L) (fun (_ : Unit) g1 L1 => XP b n g (xs b n f 6 (d + 1) [] P) g1)
theorem kRd.len {g g1 : gT} {c : List Int} (h : kRd g g1 c) : (g1 4 4).toInt = (g 4 4).toInt + (c.length : Int) := h.1
theorem rm.fx {n P : Nat} {g g1 : gT} {A : List Nat} (h : rm n P g) (hF : FX A [] g g1) : rm n P g1 := by unfold rm; rw [hF.2 4 (by decide) (by decide)]; exact h
set_option maxHeartbeats 4000000 in
theorem bX_part {fu : Nat} {rc : Int32 → gT → lT → Option (Unit × zS)} {p1 : Int32} {g : gT} {L : lT} {p : Nat} (hb : bX p g) : Ex (fX6_readPart_5 fu rc p1 g L) (fun (_ : Unit) g1 L1 => XB p g g1) := by
  have hk := hb.2.1
  unfold fX6_readPart_5 fX6_readPart_5_p106 fX6_readPart_5_p111
  rw [if_neg (fun h => by have := icc_eq (m := (g 5 4).toInt) (n := 1) rfl (by decide) h; omega), if_neg (fun h => by have := icc_eq (m := (g 5 4).toInt) (n := 2) rfl (by decide) h; omega)]
  exact x_sgnB hk (x_refB hk (Ex.ret ⟨kF.refl, hb⟩))
set_option maxHeartbeats 4000000 in
theorem cX_part {fu : Nat} (hfu : 1180591620717411303424 ≤ fu) {rc : Int32 → gT → lT → Option (Unit × zS)} {b : Nat → Int32} {n d P f : Nat} (hrc : Rc b n d rc) {p1 : Int32} {g : gT} {L : lT} (hp : p1.toInt = (d : Int)) (hc : cX b n P g) (hr : rm n P g) (hf : 16 * (n + 1 - P) + 1 ≤ f) : Ex (fX6_readPart_5 fu rc p1 g L) (fun (_ : Unit) g1 L1 => XP b n g (xs b n f 0 d [] P) g1) := by
  obtain ⟨f, rfl⟩ : ∃ f', f = f' + 1 := ⟨f - 1, by omega⟩
  rw [xe_0]
  obtain ⟨a1, a2, a3, a4, a5, a6, a7, a8, a9, a10, a11⟩ := id hc
  have q6 := a1 5 6 0 9999 rfl
  have q4 := a1 4 4 0 700 rfl
  have hn := nx_le (b := b) a3
  have hr' : (g 4 4).toInt + (n : Int) ≤ 700 + (P : Int) := hr
  unfold fX6_readPart_5 fX6_readPart_5_p106 fX6_readPart_5_p52 fX6_readPart_5_p111
  refine Ex.ite (fun c1 => ?_) (fun c1 => ?_)
  · have c1 := icc_eq (m := (g 5 4).toInt) (n := 1) rfl (by decide) c1
    have hk : tK b n P = 1 := by omega
    have hlt : P < n := tK_n0 (b := b) (by omega)
    rw [if_pos hk]
    refine x_num hfu hc (fun hnu r g1 L1 hrv k1 k2 => ?_) (fun hnu g1 k1 k2 => ?_)
    · rw [if_pos hnu.2.1]
      have e4 : g1 4 4 = g 4 4 := by rw [k2.2 4 (by decide) (by decide)]
      refine x_add k1.1 (by rw [e4]; omega) (fun g2 m1 m2 m3 m4 => Ex.ret ⟨(kF.p k2 (by decide)).tr (kF.k m2 m3), k1.fr m1 m2 (by decide) (by decide) (by decide) (by decide) (by decide) (by decide) (by decide) (by decide), ?_⟩)
      have := kRd.tr q4.1 (kRd.p k2) m4
      rw [hrv] at this
      exact this
    · rw [if_neg (fun h => hnu ⟨hk, h, by have : (0 : Int32).toInt = 0 := rfl; omega, by have : (9999 : Int32).toInt = 9999 := rfl; omega⟩)]
      exact x_addX ⟨kF.p k2 (by decide), k1⟩ (fun g2 m => Ex.ret m)
  have c1 := icc_neq (m := (g 5 4).toInt) (n := 1) rfl (by decide) c1
  rw [if_neg (show ¬ tK b n P = 1 by omega)]
  refine Ex.ite (fun c2 => ?_) (fun c2 => ?_)
  · have c2 := icc_eq (m := (g 5 4).toInt) (n := 2) rfl (by decide) c2
    have hk : tK b n P = 2 := by omega
    have hlt : P < n := tK_n0 (b := b) (by omega)
    rw [if_pos hk]
    refine x_vln hfu hc (fun x hx => ?_)
    refine Ex.ite (fun c3 => ?_) (fun c3 => ?_)
    · have c3 := icc_eq (m := x.toInt) (n := -1) rfl (by decide) c3
      have hv : ¬ vW b n P < 6 := by omega
      rw [if_neg hv]
      refine x_ref (by decide) hc (fun g1 k1 k2 => ?_)
      refine x_addX ⟨kF.p k2 (by decide), k1⟩ (fun g2 m => ?_)
      exact x_advB m.2.2.1 (Ex.ret m)
    · have c3 := icc_neq (m := x.toInt) (n := -1) rfl (by decide) c3
      have hv : vW b n P < 6 ∧ x.toInt = (vW b n P : Int) := by omega
      rw [if_pos hv.1]
      have ex : ((-1) - x).toInt = -1 - (vW b n P : Int) := by rw [ic_subc (m := -1) (by decide) hv.2 (by omega) (by omega)]
      refine x_add a1 (by omega) (fun g2 m1 m2 m3 m4 => ?_)
      rw [ex] at m4
      have hc2 := hc.fr m1 m2 (by decide) (by decide) (by decide) (by decide) (by decide) (by decide) (by decide) (by decide)
      refine x_adv hfu hc2 (fun g3 L3 k1 k2 => Ex.ret ⟨(kF.k m2 m3).tr (kF.p k2 (by decide)), k1, ?_⟩)
      have := kRd.tr q4.1 m4 (kRd.p k2)
      rw [List.append_nil] at this
      exact this
  have c2 := icc_neq (m := (g 5 4).toInt) (n := 2) rfl (by decide) c2
  rw [if_neg (show ¬ tK b n P = 2 by omega)]
  refine x_sgn hc (fun hs => ?_) (fun hs => ?_)
  rotate_left
  · rw [sB_f (c := 40) hs]
    exact x_ref (by decide) hc (fun g1 k1 k2 => Ex.ret ⟨kF.p k2 (by decide), k1⟩)
  rw [sB_t (c := 40) hs]
  have hlt := isS_lt hs
  have hnl := hn.2.2 hlt
  show Ex _ (fun (_ : Unit) g1 L1 => XP b n g (if d ≤ 5 then _ else _) g1)
  refine Ex.ite (fun c3 => ?_) (fun c3 => ?_)
  · have c3 := icc_lt (m := 5) (n := p1.toInt) (by decide) rfl c3
    rw [if_neg (show ¬ d ≤ 5 by omega)]
    exact x_ref (by decide) hc (fun g1 k1 k2 => Ex.ret ⟨kF.p k2 (by decide), k1⟩)
  have c3 := icc_nlt (m := 5) (n := p1.toInt) (by decide) rfl c3
  have hd : d ≤ 5 := by omega
  rw [if_pos hd]
  refine x_adv hfu hc (fun g1 L1 k1 k2 => ?_)
  have e4 : g1 4 4 = g 4 4 := by rw [k2.2 4 (by decide) (by decide)]
  have hr1 : rm n (nx b n P) g1 := by unfold rm; rw [e4]; omega
  have ep : (p1 + 1).toInt = (d : Int) + 1 := ic_addc hp (by decide) (by omega) (by omega)
  refine Ex.cb (hrc hd (p1 + 1) g1 L1 (nx b n P) f ep k1 hr1 (by omega)) (fun _ g2 L2 hx => ?_)
  have kf1 := kF.p k2 (by decide)
  cases hxs : xs b n f 6 (d + 1) [] (nx b n P) with
  | error p =>
    rw [hxs] at hx
    exact x_rsgB hx.2.2.1 (Ex.ret ⟨kf1.tr hx.1, hx.2⟩)
  | ok q =>
    rw [hxs] at hx
    obtain ⟨hx1, hx2, hx3⟩ := hx
    show Ex _ (fun (_ : Unit) g1 L1 => XP b n g (if sB b n q.2 41 = true then Except.ok (q.1, nx b n q.2) else Except.error q.2) g1)
    refine x_rsg hfu hx2 (fun hs2 g3 L3 m1 m2 => ?_) (fun hs2 g3 m1 m2 => ?_)
    · rw [sB_t (c := 41) hs2]
      refine Ex.ret ⟨(kf1.tr hx1).tr (kF.p m2 (by decide)), m1, ?_⟩
      have := kRd.tr q4.1 (kRd.p k2) (kRd.tr (by rw [e4]; exact q4.1) hx3 (kRd.p m2))
      rw [List.append_nil] at this
      exact this
    · rw [sB_f (c := 41) hs2]
      exact Ex.ret ⟨(kf1.tr hx1).tr (kF.p m2 (by decide)), m1⟩
set_option maxHeartbeats 4000000 in
theorem L_readProduct {fu : Nat} (hfu : 1180591620717411303424 ≤ fu) {rc : Int32 → gT → lT → Option (Unit × zS)} {b : Nat → Int32} {n d : Nat} (hrc : Rc b n d rc) {p1 : Int32} {g0 g : gT} {L : lT} {R : xR} (q0 : 0 ≤ (g0 4 4).toInt) (hp : p1.toInt = (d : Int)) (hI : (∃ (acc : List Int) (P f : Nat), R = xs b n f 7 d acc P ∧ cX b n P g ∧ kRd g0 g acc ∧ kF g0 g ∧ rm n P g ∧ 16 * (n + 1 - P) + 2 ≤ f) ∨ (∃ p, R = .error p ∧ XB p g0 g)) : Ex (fX6_readProduct_5_l7 fu rc p1 0 g L) (fun (_ : Unit) g1 L1 => XP b n g0 R g1) := by
  unfold fX6_readProduct_5_l7
  refine Ex.loop (α := Int32 × gT × lT) (fun v => (0 ≤ v.1.toInt ∧ v.1.toInt ≤ 700) ∧ ((∃ (acc : List Int) (P f : Nat), R = xs b n f 7 d acc P ∧ cX b n P v.2.1 ∧ kRd g0 v.2.1 acc ∧ kF g0 v.2.1 ∧ rm n P v.2.1 ∧ 16 * (n + 1 - P) + 2 ≤ f ∧ v.1.toInt ≤ (P : Int)) ∨ (∃ p, R = .error p ∧ XB p g0 v.2.1))) (fun v => 701 - v.1.toInt) (by omega) (by show 701 - (0 : Int32).toInt < (fu : Int); have : (0 : Int32).toInt = 0 := rfl; omega) ⟨(show 0 ≤ (0 : Int32).toInt ∧ (0 : Int32).toInt ≤ 700 from by decide), ?_⟩ (fun k7 v hv ih => ?_)
  · rcases hI with ⟨acc, P, f, h1, h2, h3, h4, h5, h6⟩ | hI
    · exact Or.inl ⟨acc, P, f, h1, h2, h3, h4, h5, h6, show (0 : Int) ≤ (P : Int) by omega⟩
    · exact Or.inr hI
  clear hI
  obtain ⟨v2, g, L⟩ := v
  obtain ⟨hv, hI⟩ := hv
  have hv : 0 ≤ v2.toInt ∧ v2.toInt ≤ 700 := hv
  show Ex (fX6_readProduct_5_s7 fu rc p1 k7 v2 g L) _
  unfold fX6_readProduct_5_s7 fX6_readProduct_5_p75
  rcases hI with ⟨acc, P, f, h1, h2, h3, h4, h5, h6, h7⟩ | ⟨p, h1, h2⟩
  rotate_left
  · have h2 : XB p g0 g := h2
    have hk := h2.2.2.1
    rw [h1]
    exact Ex.ite (fun _ => Ex.ret h2) (fun _ => x_sgnB hk (x_sgnB hk (Ex.ret h2)))
  have h2 : cX b n P g := h2
  have h3 : kRd g0 g acc := h3
  have h4 : kF g0 g := h4
  have h5 : rm n P g := h5
  have h7 : v2.toInt ≤ (P : Int) := h7
  obtain ⟨f, rfl⟩ : ∃ f', f = f' + 1 := ⟨f - 1, by omega⟩
  rw [xe_7] at h1
  obtain ⟨a1, a2, a3, a4, a5, a6, a7, a8, a9, a10, a11⟩ := id h2
  have q4 := a1 4 4 0 700 rfl
  have hn := nx_le (b := b) a3
  have h5' : (g 4 4).toInt + (n : Int) ≤ 700 + (P : Int) := h5
  have more : ∀ (t0 : Int32) (K : Unit → gT → lT → Option (Unit × zS)), P < n → R = eb (xs b n f 0 d [] (nx b n P)) (fun c Q => xs b n f 7 d (acc ++ c ++ [t0.toInt]) Q) → v2.toInt < 700 → (∀ g' L', K () g' L' = cb (fX6_readPart_5 fu rc p1 g' L') (fun x g'' L'' => cb (fX8_add_4 fu t0 g'' L'') (fun y g3 L3 => k7 ((v2 + 1), g3, L3)))) → Ex (cb (fX6_advance_5 fu g L) K) (fun (_ : Unit) g1 L1 => XP b n g0 R g1) := by
    intro t0 K hlt hR hv7 hK
    have hnl := hn.2.2 hlt
    generalize hw : v2 + 1 = w at hK
    have ew : w.toInt = v2.toInt + 1 := by rw [← hw]; exact ic_addc rfl (by decide) (by omega) (by omega)
    refine x_adv hfu h2 (fun g1 L1 k1 k2 => ?_)
    rw [hK]
    have e4 : g1 4 4 = g 4 4 := by rw [k2.2 4 (by decide) (by decide)]
    have hr1 : rm n (nx b n P) g1 := by unfold rm; rw [e4]; omega
    have kf1 := h4.tr (kF.p k2 (by decide))
    refine Ex.cb (cX_part hfu hrc hp k1 hr1 (f := f) (by omega)) (fun _ g2 L2 hx => ?_)
    cases hxs : xs b n f 0 d [] (nx b n P) with
    | error p =>
      rw [hxs] at hx hR
      refine x_addX ⟨kf1.tr hx.1, hx.2⟩ (fun g3 m => ?_)
      exact ih (w, g3, L2) ⟨(show 0 ≤ w.toInt ∧ w.toInt ≤ 700 by omega), Or.inr ⟨p, hR, m⟩⟩ (show 701 - w.toInt < 701 - v2.toInt by omega) (show 0 < 701 - v2.toInt by omega)
    | ok q =>
      rw [hxs] at hx hR
      obtain ⟨hx1, hx2, hx3⟩ := hx
      have hl := xs_len f 0 d [] (nx b n P) q.1 q.2 hn.2.1 hxs (fun _ => rfl)
      have hl3 := hl.2.2.1
      simp only [List.length_nil] at hl3
      have e5 := kRd.len hx3
      rw [e4] at e5
      refine x_add hx2.1 (by omega) (fun g3 m1 m2 m3 m4 => ?_)
      have e6 := kRd.len m4
      have e6 : (g3 4 4).toInt = (g2 4 4).toInt + (1 : Int) := e6
      refine ih (w, g3, L2) ⟨(show 0 ≤ w.toInt ∧ w.toInt ≤ 700 by omega), Or.inl ⟨acc ++ q.1 ++ [t0.toInt], q.2, f, hR, hx2.fr m1 m2 (by decide) (by decide) (by decide) (by decide) (by decide) (by decide) (by decide) (by decide), ?_, (kf1.tr hx1).tr (kF.k m2 m3), ?_, by omega, ?_⟩⟩ (show 701 - w.toInt < 701 - v2.toInt by omega) (show 0 < 701 - v2.toInt by omega)
      · have := kRd.tr q0 h3 (kRd.tr q4.1 (kRd.p k2) (kRd.tr (by rw [e4]; exact q4.1) hx3 m4))
        rw [List.nil_append, ← List.append_assoc] at this
        exact this
      · show (g3 4 4).toInt + (n : Int) ≤ 700 + (q.2 : Int)
        omega
      · show w.toInt ≤ (q.2 : Int)
        omega
  have stop : ∀ L1 : lT, R = .ok (acc, P) → Ex (some ((), (g, L1))) (fun (_ : Unit) g1 L1 => XP b n g0 R g1) := fun L1 hR => Ex.ret (by rw [hR]; exact ⟨h4, h2, h3⟩)
  refine Ex.ite (fun c7 => stop L ?_) (fun c7 => ?_)
  · have c7 := icc_le (m := 700) (n := v2.toInt) (by decide) rfl c7
    rw [sB_f (fun h => by have := isS_lt h; omega), sB_f (fun h => by have := isS_lt h; omega)] at h1
    exact h1
  have c7 := icc_nle (m := 700) (n := v2.toInt) (by decide) rfl c7
  have P32 : ∀ hs : (isS b n P 42 ∨ isS b n P 47), Ex (fX6_readProduct_5_p32 fu rc k7 p1 v2 g L) (fun (_ : Unit) g1 L1 => XP b n g0 R g1) := by
    intro hs
    unfold fX6_readProduct_5_p32 fX6_readProduct_5_p48
    refine x_sgn h2 (fun s1 => ?_) (fun s1 => ?_)
    · rw [sB_t (c := 42) s1] at h1
      exact more (-9) _ (isS_lt s1) h1 c7 (fun _ _ => rfl)
    · have s2 : isS b n P 47 := hs.resolve_left s1
      rw [sB_f (c := 42) s1, sB_t (c := 47) s2] at h1
      exact more (-10) _ (isS_lt s2) h1 c7 (fun _ _ => rfl)
  refine x_sgn h2 (fun s1 => P32 (Or.inl s1)) (fun s1 => ?_)
  refine x_sgn h2 (fun s2 => P32 (Or.inr s2)) (fun s2 => stop L ?_)
  rw [sB_f (c := 42) s1, sB_f (c := 47) s2] at h1
  exact h1
theorem bX_product {fu : Nat} (hfu : 1180591620717411303424 ≤ fu) {rc : Int32 → gT → lT → Option (Unit × zS)} {p1 : Int32} {g : gT} {L : lT} {p : Nat} (hb : bX p g) : Ex (fX6_readProduct_5 fu rc p1 g L) (fun (_ : Unit) g1 L1 => XB p g g1) := by
  unfold fX6_readProduct_5
  refine Ex.cb (bX_part hb) (fun _ g1 L1 hx => ?_)
  unfold fX6_readProduct_5_l7
  refine Ex.loop (α := Int32 × gT × lT) (fun v => XB p g v.2.1) (fun v => 0) (by omega) (by omega) hx (fun k7 v hv ih => ?_)
  obtain ⟨v2, g2, L2⟩ := v
  have h2 : XB p g g2 := hv
  have hk := h2.2.2.1
  show Ex (fX6_readProduct_5_s7 fu rc p1 k7 v2 g2 L2) _
  unfold fX6_readProduct_5_s7 fX6_readProduct_5_p75
  exact Ex.ite (fun _ => Ex.ret h2) (fun _ => x_sgnB hk (x_sgnB hk (Ex.ret h2)))
theorem cX_product {fu : Nat} (hfu : 1180591620717411303424 ≤ fu) {rc : Int32 → gT → lT → Option (Unit × zS)} {b : Nat → Int32} {n d P f : Nat} (hrc : Rc b n d rc) {p1 : Int32} {g : gT} {L : lT} (hp : p1.toInt = (d : Int)) (hc : cX b n P g) (hr : rm n P g) (hf : 16 * (n + 1 - P) + 3 ≤ f) : Ex (fX6_readProduct_5 fu rc p1 g L) (fun (_ : Unit) g1 L1 => XP b n g (xs b n f 1 d [] P) g1) := by
  obtain ⟨f, rfl⟩ : ∃ f', f = f' + 1 := ⟨f - 1, by omega⟩
  rw [xe_1]
  have q4 := hc.1 4 4 0 700 rfl
  have hr' : (g 4 4).toInt + (n : Int) ≤ 700 + (P : Int) := hr
  unfold fX6_readProduct_5
  refine Ex.cb (cX_part hfu hrc hp hc hr (f := f) (by omega)) (fun _ g2 L2 hx => ?_)
  refine L_readProduct hfu hrc q4.1 hp ?_
  cases hxs : xs b n f 0 d [] P with
  | error p =>
    rw [hxs] at hx
    exact Or.inr ⟨p, rfl, hx⟩
  | ok q =>
    rw [hxs] at hx
    obtain ⟨hx1, hx2, hx3⟩ := hx
    have hl := xs_len f 0 d [] P q.1 q.2 hc.2.2.1 hxs (fun _ => rfl)
    have hl3 := hl.2.2.1
    simp only [List.length_nil] at hl3
    have e5 := kRd.len hx3
    refine Or.inl ⟨q.1, q.2, f, rfl, hx2, hx3, hx1, ?_, by omega⟩
    show (g2 4 4).toInt + (n : Int) ≤ 700 + (q.2 : Int)
    omega
set_option maxHeartbeats 4000000 in
theorem L_readSum {fu : Nat} (hfu : 1180591620717411303424 ≤ fu) {rc : Int32 → gT → lT → Option (Unit × zS)} {b : Nat → Int32} {n d : Nat} (hrc : Rc b n d rc) {p1 : Int32} {g0 g : gT} {L : lT} {R : xR} (q0 : 0 ≤ (g0 4 4).toInt) (hp : p1.toInt = (d : Int)) (hI : (∃ (acc : List Int) (P f : Nat), R = xs b n f 8 d acc P ∧ cX b n P g ∧ kRd g0 g acc ∧ kF g0 g ∧ rm n P g ∧ 16 * (n + 1 - P) + 2 ≤ f) ∨ (∃ p, R = .error p ∧ XB p g0 g)) : Ex (fX6_readSum_5_l7 fu rc p1 0 g L) (fun (_ : Unit) g1 L1 => XP b n g0 R g1) := by
  unfold fX6_readSum_5_l7
  refine Ex.loop (α := Int32 × gT × lT) (fun v => (0 ≤ v.1.toInt ∧ v.1.toInt ≤ 700) ∧ ((∃ (acc : List Int) (P f : Nat), R = xs b n f 8 d acc P ∧ cX b n P v.2.1 ∧ kRd g0 v.2.1 acc ∧ kF g0 v.2.1 ∧ rm n P v.2.1 ∧ 16 * (n + 1 - P) + 2 ≤ f ∧ v.1.toInt ≤ (P : Int)) ∨ (∃ p, R = .error p ∧ XB p g0 v.2.1))) (fun v => 701 - v.1.toInt) (by omega) (by show 701 - (0 : Int32).toInt < (fu : Int); have : (0 : Int32).toInt = 0 := rfl; omega) ⟨(show 0 ≤ (0 : Int32).toInt ∧ (0 : Int32).toInt ≤ 700 from by decide), ?_⟩ (fun k7 v hv ih => ?_)
  · rcases hI with ⟨acc, P, f, h1, h2, h3, h4, h5, h6⟩ | hI
    · exact Or.inl ⟨acc, P, f, h1, h2, h3, h4, h5, h6, show (0 : Int) ≤ (P : Int) by omega⟩
    · exact Or.inr hI
  clear hI
  obtain ⟨v2, g, L⟩ := v
  obtain ⟨hv, hI⟩ := hv
  have hv : 0 ≤ v2.toInt ∧ v2.toInt ≤ 700 := hv
  show Ex (fX6_readSum_5_s7 fu rc p1 k7 v2 g L) _
  unfold fX6_readSum_5_s7 fX6_readSum_5_p75
  rcases hI with ⟨acc, P, f, h1, h2, h3, h4, h5, h6, h7⟩ | ⟨p, h1, h2⟩
  rotate_left
  · have h2 : XB p g0 g := h2
    have hk := h2.2.2.1
    rw [h1]
    exact Ex.ite (fun _ => Ex.ret h2) (fun _ => x_sgnB hk (x_sgnB hk (Ex.ret h2)))
  have h2 : cX b n P g := h2
  have h3 : kRd g0 g acc := h3
  have h4 : kF g0 g := h4
  have h5 : rm n P g := h5
  have h7 : v2.toInt ≤ (P : Int) := h7
  obtain ⟨f, rfl⟩ : ∃ f', f = f' + 1 := ⟨f - 1, by omega⟩
  rw [xe_8] at h1
  obtain ⟨a1, a2, a3, a4, a5, a6, a7, a8, a9, a10, a11⟩ := id h2
  have q4 := a1 4 4 0 700 rfl
  have hn := nx_le (b := b) a3
  have h5' : (g 4 4).toInt + (n : Int) ≤ 700 + (P : Int) := h5
  have more : ∀ (t0 : Int32) (K : Unit → gT → lT → Option (Unit × zS)), P < n → R = eb (xs b n f 1 d [] (nx b n P)) (fun c Q => xs b n f 8 d (acc ++ c ++ [t0.toInt]) Q) → v2.toInt < 700 → (∀ g' L', K () g' L' = cb (fX6_readProduct_5 fu rc p1 g' L') (fun x g'' L'' => cb (fX8_add_4 fu t0 g'' L'') (fun y g3 L3 => k7 ((v2 + 1), g3, L3)))) → Ex (cb (fX6_advance_5 fu g L) K) (fun (_ : Unit) g1 L1 => XP b n g0 R g1) := by
    intro t0 K hlt hR hv7 hK
    have hnl := hn.2.2 hlt
    generalize hw : v2 + 1 = w at hK
    have ew : w.toInt = v2.toInt + 1 := by rw [← hw]; exact ic_addc rfl (by decide) (by omega) (by omega)
    refine x_adv hfu h2 (fun g1 L1 k1 k2 => ?_)
    rw [hK]
    have e4 : g1 4 4 = g 4 4 := by rw [k2.2 4 (by decide) (by decide)]
    have hr1 : rm n (nx b n P) g1 := by unfold rm; rw [e4]; omega
    have kf1 := h4.tr (kF.p k2 (by decide))
    refine Ex.cb (cX_product hfu hrc hp k1 hr1 (f := f) (by omega)) (fun _ g2 L2 hx => ?_)
    cases hxs : xs b n f 1 d [] (nx b n P) with
    | error p =>
      rw [hxs] at hx hR
      refine x_addX ⟨kf1.tr hx.1, hx.2⟩ (fun g3 m => ?_)
      exact ih (w, g3, L2) ⟨(show 0 ≤ w.toInt ∧ w.toInt ≤ 700 by omega), Or.inr ⟨p, hR, m⟩⟩ (show 701 - w.toInt < 701 - v2.toInt by omega) (show 0 < 701 - v2.toInt by omega)
    | ok q =>
      rw [hxs] at hx hR
      obtain ⟨hx1, hx2, hx3⟩ := hx
      have hl := xs_len f 1 d [] (nx b n P) q.1 q.2 hn.2.1 hxs (fun _ => rfl)
      have hl3 := hl.2.2.1
      simp only [List.length_nil] at hl3
      have e5 := kRd.len hx3
      rw [e4] at e5
      refine x_add hx2.1 (by omega) (fun g3 m1 m2 m3 m4 => ?_)
      have e6 := kRd.len m4
      have e6 : (g3 4 4).toInt = (g2 4 4).toInt + (1 : Int) := e6
      refine ih (w, g3, L2) ⟨(show 0 ≤ w.toInt ∧ w.toInt ≤ 700 by omega), Or.inl ⟨acc ++ q.1 ++ [t0.toInt], q.2, f, hR, hx2.fr m1 m2 (by decide) (by decide) (by decide) (by decide) (by decide) (by decide) (by decide) (by decide), ?_, (kf1.tr hx1).tr (kF.k m2 m3), ?_, by omega, ?_⟩⟩ (show 701 - w.toInt < 701 - v2.toInt by omega) (show 0 < 701 - v2.toInt by omega)
      · have := kRd.tr q0 h3 (kRd.tr q4.1 (kRd.p k2) (kRd.tr (by rw [e4]; exact q4.1) hx3 m4))
        rw [List.nil_append, ← List.append_assoc] at this
        exact this
      · show (g3 4 4).toInt + (n : Int) ≤ 700 + (q.2 : Int)
        omega
      · show w.toInt ≤ (q.2 : Int)
        omega
  have stop : ∀ L1 : lT, R = .ok (acc, P) → Ex (some ((), (g, L1))) (fun (_ : Unit) g1 L1 => XP b n g0 R g1) := fun L1 hR => Ex.ret (by rw [hR]; exact ⟨h4, h2, h3⟩)
  refine Ex.ite (fun c7 => stop L ?_) (fun c7 => ?_)
  · have c7 := icc_le (m := 700) (n := v2.toInt) (by decide) rfl c7
    rw [sB_f (fun h => by have := isS_lt h; omega), sB_f (fun h => by have := isS_lt h; omega)] at h1
    exact h1
  have c7 := icc_nle (m := 700) (n := v2.toInt) (by decide) rfl c7
  have P32 : ∀ hs : (isS b n P 43 ∨ isS b n P 45), Ex (fX6_readSum_5_p32 fu rc k7 p1 v2 g L) (fun (_ : Unit) g1 L1 => XP b n g0 R g1) := by
    intro hs
    unfold fX6_readSum_5_p32 fX6_readSum_5_p48
    refine x_sgn h2 (fun s1 => ?_) (fun s1 => ?_)
    · rw [sB_t (c := 43) s1] at h1
      exact more (-7) _ (isS_lt s1) h1 c7 (fun _ _ => rfl)
    · have s2 : isS b n P 45 := hs.resolve_left s1
      rw [sB_f (c := 43) s1, sB_t (c := 45) s2] at h1
      exact more (-8) _ (isS_lt s2) h1 c7 (fun _ _ => rfl)
  refine x_sgn h2 (fun s1 => P32 (Or.inl s1)) (fun s1 => ?_)
  refine x_sgn h2 (fun s2 => P32 (Or.inr s2)) (fun s2 => stop L ?_)
  rw [sB_f (c := 43) s1, sB_f (c := 45) s2] at h1
  exact h1
theorem bX_sum {fu : Nat} (hfu : 1180591620717411303424 ≤ fu) {rc : Int32 → gT → lT → Option (Unit × zS)} {p1 : Int32} {g : gT} {L : lT} {p : Nat} (hb : bX p g) : Ex (fX6_readSum_5 fu rc p1 g L) (fun (_ : Unit) g1 L1 => XB p g g1) := by
  unfold fX6_readSum_5
  refine Ex.cb (bX_product hfu hb) (fun _ g1 L1 hx => ?_)
  unfold fX6_readSum_5_l7
  refine Ex.loop (α := Int32 × gT × lT) (fun v => XB p g v.2.1) (fun v => 0) (by omega) (by omega) hx (fun k7 v hv ih => ?_)
  obtain ⟨v2, g2, L2⟩ := v
  have h2 : XB p g g2 := hv
  have hk := h2.2.2.1
  show Ex (fX6_readSum_5_s7 fu rc p1 k7 v2 g2 L2) _
  unfold fX6_readSum_5_s7 fX6_readSum_5_p75
  exact Ex.ite (fun _ => Ex.ret h2) (fun _ => x_sgnB hk (x_sgnB hk (Ex.ret h2)))
theorem cX_sum {fu : Nat} (hfu : 1180591620717411303424 ≤ fu) {rc : Int32 → gT → lT → Option (Unit × zS)} {b : Nat → Int32} {n d P f : Nat} (hrc : Rc b n d rc) {p1 : Int32} {g : gT} {L : lT} (hp : p1.toInt = (d : Int)) (hc : cX b n P g) (hr : rm n P g) (hf : 16 * (n + 1 - P) + 4 ≤ f) : Ex (fX6_readSum_5 fu rc p1 g L) (fun (_ : Unit) g1 L1 => XP b n g (xs b n f 2 d [] P) g1) := by
  obtain ⟨f, rfl⟩ : ∃ f', f = f' + 1 := ⟨f - 1, by omega⟩
  rw [xe_2]
  have q4 := hc.1 4 4 0 700 rfl
  have hr' : (g 4 4).toInt + (n : Int) ≤ 700 + (P : Int) := hr
  unfold fX6_readSum_5
  refine Ex.cb (cX_product hfu hrc hp hc hr (f := f) (by omega)) (fun _ g2 L2 hx => ?_)
  refine L_readSum hfu hrc q4.1 hp ?_
  cases hxs : xs b n f 1 d [] P with
  | error p =>
    rw [hxs] at hx
    exact Or.inr ⟨p, rfl, hx⟩
  | ok q =>
    rw [hxs] at hx
    obtain ⟨hx1, hx2, hx3⟩ := hx
    have hl := xs_len f 1 d [] P q.1 q.2 hc.2.2.1 hxs (fun _ => rfl)
    have hl3 := hl.2.2.1
    simp only [List.length_nil] at hl3
    have e5 := kRd.len hx3
    refine Or.inl ⟨q.1, q.2, f, rfl, hx2, hx3, hx1, ?_, by omega⟩
    show (g2 4 4).toInt + (n : Int) ≤ 700 + (q.2 : Int)
    omega
theorem bX_test {fu : Nat} (hfu : 1180591620717411303424 ≤ fu) {rc : Int32 → gT → lT → Option (Unit × zS)} {p1 : Int32} {g : gT} {L : lT} {p : Nat} (hb : bX p g) : Ex (fX6_readTest_5 fu rc p1 g L) (fun (_ : Unit) g1 L1 => XB p g g1) := by
  unfold fX6_readTest_5 fX6_readTest_5_p68
  refine Ex.cb (bX_sum hfu hb) (fun _ g1 L1 hx => ?_)
  exact x_sgnB hx.2.2.1 (x_sgnB hx.2.2.1 (Ex.ret hx))
set_option maxHeartbeats 4000000 in
theorem cX_test {fu : Nat} (hfu : 1180591620717411303424 ≤ fu) {rc : Int32 → gT → lT → Option (Unit × zS)} {b : Nat → Int32} {n d P f : Nat} (hrc : Rc b n d rc) {p1 : Int32} {g : gT} {L : lT} (hp : p1.toInt = (d : Int)) (hc : cX b n P g) (hr : rm n P g) (hf : 16 * (n + 1 - P) + 5 ≤ f) : Ex (fX6_readTest_5 fu rc p1 g L) (fun (_ : Unit) g1 L1 => XP b n g (xs b n f 3 d [] P) g1) := by
  obtain ⟨f, rfl⟩ : ∃ f', f = f' + 1 := ⟨f - 1, by omega⟩
  rw [xe_3]
  have q4 := hc.1 4 4 0 700 rfl
  have hr' : (g 4 4).toInt + (n : Int) ≤ 700 + (P : Int) := hr
  unfold fX6_readTest_5 fX6_readTest_5_p68
  refine Ex.cb (cX_sum hfu hrc hp hc hr (f := f) (by omega)) (fun _ g2 L2 hx => ?_)
  cases hxs : xs b n f 2 d [] P with
  | error p =>
    rw [hxs] at hx
    exact x_sgnB hx.2.2.1 (x_sgnB hx.2.2.1 (Ex.ret hx))
  | ok q =>
    rw [hxs] at hx
    obtain ⟨hx1, hx2, hx3⟩ := hx
    have hl := xs_len f 2 d [] P q.1 q.2 hc.2.2.1 hxs (fun _ => rfl)
    have hl3 := hl.2.2.1
    simp only [List.length_nil] at hl3
    have e5 := kRd.len hx3
    have q42 := hx2.1 4 4 0 700 rfl
    have hn := nx_le (b := b) hl.2.1
    rw [eb_ok]
    have more : ∀ (t0 : Int32) (K : Unit → gT → lT → Option (Unit × zS)), q.2 < n → (∀ g' L', K () g' L' = cb (fX6_readSum_5 fu rc p1 g' L') (fun x g'' L'' => cb (fX8_add_4 fu t0 g'' L'') (fun y g3 L3 => some ((), (g3, L3))))) → Ex (cb (fX6_advance_5 fu g2 L2) K) (fun (_ : Unit) g1 L1 => XP b n g (eb (xs b n f 2 d [] (nx b n q.2)) (fun c2 R => .ok (q.1 ++ c2 ++ [t0.toInt], R))) g1) := by
      intro t0 K hlt hK
      have hnl := hn.2.2 hlt
      refine x_adv hfu hx2 (fun g3 L3 k1 k2 => ?_)
      rw [hK]
      have e4 : g3 4 4 = g2 4 4 := by rw [k2.2 4 (by decide) (by decide)]
      have hr1 : rm n (nx b n q.2) g3 := by unfold rm; rw [e4]; omega
      have kf1 := hx1.tr (kF.p k2 (by decide))
      refine Ex.cb (cX_sum hfu hrc hp k1 hr1 (f := f) (by omega)) (fun _ g4 L4 hy => ?_)
      cases hys : xs b n f 2 d [] (nx b n q.2) with
      | error p =>
        rw [hys] at hy
        exact x_addX ⟨kf1.tr hy.1, hy.2⟩ (fun g5 m => Ex.ret m)
      | ok r =>
        rw [hys] at hy
        obtain ⟨hy1, hy2, hy3⟩ := hy
        have hl := xs_len f 2 d [] (nx b n q.2) r.1 r.2 hn.2.1 hys (fun _ => rfl)
        have hl3' := hl.2.2.1
        simp only [List.length_nil] at hl3'
        have e6 := kRd.len hy3
        rw [e4] at e6
        refine x_add hy2.1 (by omega) (fun g5 m1 m2 m3 m4 => Ex.ret ⟨(kf1.tr hy1).tr (kF.k m2 m3), hy2.fr m1 m2 (by decide) (by decide) (by decide) (by decide) (by decide) (by decide) (by decide) (by decide), ?_⟩)
        have := kRd.tr q4.1 hx3 (kRd.tr q42.1 (kRd.p k2) (kRd.tr (by rw [e4]; exact q42.1) hy3 m4))
        rw [List.nil_append, ← List.append_assoc] at this
        exact this
    refine x_sgn hx2 (fun s1 => ?_) (fun s1 => ?_)
    · rw [sB_t (c := 60) s1]
      exact more (-11) _ (isS_lt s1) (fun _ _ => rfl)
    rw [sB_f (c := 60) s1]
    refine x_sgn hx2 (fun s2 => ?_) (fun s2 => ?_)
    · rw [sB_t (c := 61) s2]
      exact more (-12) _ (isS_lt s2) (fun _ _ => rfl)
    rw [sB_f (c := 61) s2]
    exact Ex.ret ⟨hx1, hx2, hx3⟩
/-- so many nots are written -/
theorem x_nots {fu : Nat} (hfu : 1180591620717411303424 ≤ fu) {rc : Int32 → gT → lT → Option (Unit × zS)} {v2 : Int32} {g : gT} {L : lT} (h0 : 0 ≤ v2.toInt) (h6 : v2.toInt ≤ 6) (hI : zI XT g) : Ex (fX6_readNot_5_l54 fu rc v2 0 g L) (fun (_ : Unit) g1 L1 => zI XT g1 ∧ FX [] [4, 22] g g1 ∧ g1 4 3 = g 4 3 ∧ ((g 4 4).toInt + v2.toInt ≤ 700 → kRd g g1 (List.replicate v2.toInt.toNat (-15)))) := by
  have q4 := hI 4 4 0 700 rfl
  unfold fX6_readNot_5_l54
  refine Ex.loop (α := Int32 × gT × lT) (fun v => (0 ≤ v.1.toInt ∧ v.1.toInt ≤ v2.toInt) ∧ zI XT v.2.1 ∧ FX [] [4, 22] g v.2.1 ∧ v.2.1 4 3 = g 4 3 ∧ ((g 4 4).toInt + v2.toInt ≤ 700 → kRd g v.2.1 (List.replicate v.1.toInt.toNat (-15)))) (fun v => v2.toInt - v.1.toInt) (by omega) (by show v2.toInt - (0 : Int32).toInt < (fu : Int); have : (0 : Int32).toInt = 0 := rfl; omega) ⟨(show 0 ≤ (0 : Int32).toInt ∧ (0 : Int32).toInt ≤ v2.toInt from ⟨by decide, h0⟩), hI, FX.refl, rfl, fun _ => kRd.nil rfl rfl⟩ (fun k54 v hv ih => ?_)
  obtain ⟨v3, g', L'⟩ := v
  obtain ⟨hv, h1, h2, h3, h4⟩ := hv
  have hv : 0 ≤ v3.toInt ∧ v3.toInt ≤ v2.toInt := hv
  have h1 : zI XT g' := h1
  have h2 : FX [] [4, 22] g g' := h2
  have h3 : g' 4 3 = g 4 3 := h3
  have h4 : (g 4 4).toInt + v2.toInt ≤ 700 → kRd g g' (List.replicate v3.toInt.toNat (-15)) := h4
  show Ex (fX6_readNot_5_s54 fu rc v2 k54 v3 g' L') _
  unfold fX6_readNot_5_s54
  refine Ex.ite (fun c => Ex.ret ⟨h1, h2, h3, fun hr => ?_⟩) (fun c => ?_)
  · have c := icc_le (m := v2.toInt) (n := v3.toInt) rfl rfl c
    rw [show v2.toInt = v3.toInt by omega]
    exact h4 hr
  have c := icc_nle (m := v2.toInt) (n := v3.toInt) rfl rfl c
  generalize hw : v3 + 1 = w
  have ew : w.toInt = v3.toInt + 1 := by rw [← hw]; exact ic_addc rfl (by decide) (by omega) (by omega)
  have q4' := h1 4 4 0 700 rfl
  by_cases hr : (g 4 4).toInt + v2.toInt ≤ 700
  · have h4 := h4 hr
    have e := kRd.len h4
    rw [List.length_replicate] at e
    refine x_add h1 (by omega) (fun g1 m1 m2 m3 m4 => ?_)
    refine ih (w, g1, L') ⟨(show 0 ≤ w.toInt ∧ w.toInt ≤ v2.toInt by omega), m1, h2.tr m2, m3.trans h3, fun _ => ?_⟩ (show v2.toInt - w.toInt < v2.toInt - v3.toInt by omega) (show 0 < v2.toInt - v3.toInt by omega)
    have := kRd.tr q4.1 h4 m4
    show kRd g g1 (List.replicate w.toInt.toNat (-15))
    rw [show w.toInt.toNat = v3.toInt.toNat + 1 by omega, List.replicate_succ']
    exact this
  · refine x_addB h1 (fun g1 m1 m2 m3 => ?_)
    exact ih (w, g1, L') ⟨(show 0 ≤ w.toInt ∧ w.toInt ≤ v2.toInt by omega), m1, h2.tr m2, m3.trans h3, fun h => absurd h hr⟩ (show v2.toInt - w.toInt < v2.toInt - v3.toInt by omega) (show 0 < v2.toInt - v3.toInt by omega)
theorem x_notB {fu : Nat} (hfu : 1180591620717411303424 ≤ fu) {rc : Int32 → gT → lT → Option (Unit × zS)} {v1 v2 : Int32} {g0 g : gT} {L : lT} {p : Nat} (h0 : 0 ≤ v2.toInt) (h6 : v2.toInt ≤ 6) (hb : XB p g0 g) : Ex (fX6_readNot_5_p47 fu rc v1 v2 g L) (fun (_ : Unit) g1 L1 => XB p g0 g1) := by
  unfold fX6_readNot_5_p47
  refine Ex.cb (bX_test hfu hb.2) (fun _ g1 L1 hx => ?_)
  refine (x_nots hfu h0 h6 hx.2.1).mono (fun _ g2 L2 m => ?_)
  exact ⟨(hb.1.tr hx.1).tr (kF.k m.2.1 m.2.2.1), hx.2.fr m.1 m.2.1 (by decide) (by decide) (by decide)⟩
theorem bX_not {fu : Nat} (hfu : 1180591620717411303424 ≤ fu) {rc : Int32 → gT → lT → Option (Unit × zS)} {p1 : Int32} {g : gT} {L : lT} {p : Nat} (hb : bX p g) : Ex (fX6_readNot_5 fu rc p1 g L) (fun (_ : Unit) g1 L1 => XB p g g1) := by
  have hk := hb.2.1
  unfold fX6_readNot_5 fX6_readNot_5_l2
  refine Ex.loop (α := Int32 × gT × lT) (fun v => (0 ≤ v.1.toInt ∧ v.1.toInt ≤ 6) ∧ v.2.1 = g) (fun v => 0) (by omega) (by omega) ⟨(show 0 ≤ (0 : Int32).toInt ∧ (0 : Int32).toInt ≤ 6 from by decide), rfl⟩ (fun k2 v hv ih => ?_)
  obtain ⟨v2, g', L'⟩ := v
  obtain ⟨hv, he⟩ := hv
  have hv : 0 ≤ v2.toInt ∧ v2.toInt ≤ 6 := hv
  have he : g' = g := he
  subst he
  show Ex (fX6_readNot_5_s2 fu rc p1 k2 v2 g' L') _
  unfold fX6_readNot_5_s2
  have P27 : Ex (fX6_readNot_5_p27 fu rc p1 v2 g' L') (fun (_ : Unit) g1 L1 => XB p g' g1) := by
    unfold fX6_readNot_5_p27
    exact e_notW hfu hb.1 (fun h => absurd h (xW_B hk _)) (fun _ => x_notB hfu hv.1 hv.2 ⟨kF.refl, hb⟩)
  exact Ex.ite (fun _ => P27) (fun _ => e_notW hfu hb.1 (fun h => absurd h (xW_B hk _)) (fun _ => P27))
set_option maxHeartbeats 4000000 in
theorem cX_not {fu : Nat} (hfu : 1180591620717411303424 ≤ fu) {rc : Int32 → gT → lT → Option (Unit × zS)} {b : Nat → Int32} {n d P f : Nat} (hrc : Rc b n d rc) {p1 : Int32} {g : gT} {L : lT} (hp : p1.toInt = (d : Int)) (hc : cX b n P g) (hr : rm n P g) (hf : 16 * (n + 1 - P) + 6 ≤ f) : Ex (fX6_readNot_5 fu rc p1 g L) (fun (_ : Unit) g1 L1 => XP b n g (xs b n f 4 d [] P) g1) := by
  have q4 := hc.1 4 4 0 700 rfl
  have hr' : (g 4 4).toInt + (n : Int) ≤ 700 + (P : Int) := hr
  generalize hR : xs b n f 4 d [] P = R
  unfold fX6_readNot_5 fX6_readNot_5_l2
  refine Ex.loop (α := Int32 × gT × lT) (fun v => (0 ≤ v.1.toInt ∧ v.1.toInt ≤ 6) ∧ ∃ (Q f' : Nat), xs b n f' 4 d (List.replicate v.1.toInt.toNat (-15)) Q = R ∧ cX b n Q v.2.1 ∧ FX [3, 4, 5, 6] [] g v.2.1 ∧ v.1.toInt + (P : Int) ≤ (Q : Int) ∧ 16 * (n + 1 - Q) + 6 ≤ f') (fun v => 7 - v.1.toInt) (by omega) (by show 7 - (0 : Int32).toInt < (fu : Int); have : (0 : Int32).toInt = 0 := rfl; omega) ⟨(show 0 ≤ (0 : Int32).toInt ∧ (0 : Int32).toInt ≤ 6 from by decide), P, f, hR, hc, FX.refl, (show (0 : Int) + (P : Int) ≤ (P : Int) by omega), hf⟩ (fun k2 v hv ih => ?_)
  obtain ⟨v2, g', L'⟩ := v
  obtain ⟨hv, Q, f', h1, h2, h3, h4, h5⟩ := hv
  have hv : 0 ≤ v2.toInt ∧ v2.toInt ≤ 6 := hv
  have h1 : xs b n f' 4 d (List.replicate v2.toInt.toNat (-15)) Q = R := h1
  have h2 : cX b n Q g' := h2
  have h3 : FX [3, 4, 5, 6] [] g g' := h3
  have h4 : v2.toInt + (P : Int) ≤ (Q : Int) := h4
  obtain ⟨f', rfl⟩ : ∃ f'', f' = f'' + 1 := ⟨f' - 1, by omega⟩
  rw [xe_4, List.length_replicate] at h1
  have a1 := h2.1
  have hn := nx_le (b := b) h2.2.2.1
  have kf3 : kF g g' := kF.p h3 (by decide)
  have e4 : g' 4 4 = g 4 4 := by rw [h3.2 4 (by decide) (by decide)]
  show Ex (fX6_readNot_5_s2 fu rc p1 k2 v2 g' L') _
  unfold fX6_readNot_5_s2
  -- no not more
  have P47 : ¬ isW b n Q 16 → Ex (fX6_readNot_5_p47 fu rc p1 v2 g' L') (fun (_ : Unit) g1 L1 => XP b n g R g1) := by
    intro hw
    rw [wB_f hw] at h1
    have h1 : eb (xs b n f' 3 d [] Q) (fun c Q => .ok (c ++ List.replicate v2.toInt.toNat (-15), Q)) = R := h1
    unfold fX6_readNot_5_p47
    refine Ex.cb (cX_test hfu hrc hp h2 (by unfold rm; rw [e4]; omega) (f := f') (by omega)) (fun _ g2 L2 hx => ?_)
    cases hxs : xs b n f' 3 d [] Q with
    | error p =>
      rw [hxs] at hx h1
      rw [← h1]
      refine (x_nots hfu hv.1 hv.2 hx.2.1).mono (fun _ g3 L3 m => ?_)
      exact ⟨(kf3.tr hx.1).tr (kF.k m.2.1 m.2.2.1), hx.2.fr m.1 m.2.1 (by decide) (by decide) (by decide)⟩
    | ok q =>
      rw [hxs] at hx h1
      rw [← h1]
      obtain ⟨hx1, hx2, hx3⟩ := hx
      have hl := xs_len f' 3 d [] Q q.1 q.2 h2.2.2.1 hxs (fun _ => rfl)
      have hl3 := hl.2.2.1
      simp only [List.length_nil] at hl3
      have e5 := kRd.len hx3
      rw [e4] at e5
      refine (x_nots hfu hv.1 hv.2 hx2.1).mono (fun _ g3 L3 m => ?_)
      refine ⟨(kf3.tr hx1).tr (kF.k m.2.1 m.2.2.1), hx2.fr m.1 m.2.1 (by decide) (by decide) (by decide) (by decide) (by decide) (by decide) (by decide) (by decide), ?_⟩
      have := kRd.tr q4.1 (kRd.p h3) (kRd.tr (by rw [e4]; exact q4.1) hx3 (m.2.2.2 (by omega)))
      rw [List.nil_append] at this
      exact this
  have P27 : ∀ hs : (¬ isW b n Q 16 ∨ 6 ≤ v2.toInt), Ex (fX6_readNot_5_p27 fu rc p1 v2 g' L') (fun (_ : Unit) g1 L1 => XP b n g R g1) := by
    intro hs
    unfold fX6_readNot_5_p27
    refine e_notW hfu a1 (fun s1 => ?_) (fun s1 => P47 (fun h => s1 ((xW_isW h2 _).mpr h)))
    have s1 := (xW_isW h2 _).mp s1
    have h6 : 6 ≤ v2.toInt := hs.resolve_left (fun h => h s1)
    refine Ex.ite (fun c => ?_) (fun _ => ?_)
    · have c := icc_lt (m := v2.toInt) (n := 6) rfl (by decide) c
      omega
    rw [wB_t s1, if_pos rfl, if_neg (by omega)] at h1
    rw [← h1]
    refine x_ref (by decide) h2 (fun g2 k1 k2 => ?_)
    exact x_notB hfu hv.1 hv.2 ⟨kf3.tr (kF.p k2 (by decide)), k1⟩
  refine Ex.ite (fun c => P27 (Or.inr (icc_le (m := 6) (n := v2.toInt) (by decide) rfl c))) (fun c => ?_)
  have c := icc_nle (m := 6) (n := v2.toInt) (by decide) rfl c
  refine e_notW hfu a1 (fun s1 => ?_) (fun s1 => P27 (Or.inl (fun h => s1 ((xW_isW h2 _).mpr h))))
  have s1 := (xW_isW h2 _).mp s1
  have hnl := hn.2.2 (isW_lt s1)
  rw [wB_t s1, if_pos rfl, if_pos (by omega)] at h1
  generalize hw : v2 + 1 = w
  have ew : w.toInt = v2.toInt + 1 := by rw [← hw]; exact ic_addc rfl (by decide) (by omega) (by omega)
  refine x_adv hfu h2 (fun g2 L2 k1 k2 => ?_)
  refine ih (w, g2, L2) ⟨(show 0 ≤ w.toInt ∧ w.toInt ≤ 6 by omega), nx b n Q, f', ?_, k1, h3.tr k2, (show w.toInt + (P : Int) ≤ ((nx b n Q : Nat) : Int) by omega), by omega⟩ (show 7 - w.toInt < 7 - v2.toInt by omega) (show 0 < 7 - v2.toInt by omega)
  show xs b n f' 4 d (List.replicate w.toInt.toNat (-15)) (nx b n Q) = R
  rw [show w.toInt.toNat = v2.toInt.toNat + 1 by omega, List.replicate_succ]
  exact h1
set_option maxHeartbeats 4000000 in
theorem L_readAnd {fu : Nat} (hfu : 1180591620717411303424 ≤ fu) {rc : Int32 → gT → lT → Option (Unit × zS)} {b : Nat → Int32} {n d : Nat} (hrc : Rc b n d rc) {p1 : Int32} {g0 g : gT} {L : lT} {R : xR} (q0 : 0 ≤ (g0 4 4).toInt) (hp : p1.toInt = (d : Int)) (hI : (∃ (acc : List Int) (P f : Nat), R = xs b n f 10 d acc P ∧ cX b n P g ∧ kRd g0 g acc ∧ kF g0 g ∧ rm n P g ∧ 16 * (n + 1 - P) + 2 ≤ f) ∨ (∃ p, R = .error p ∧ XB p g0 g)) : Ex (fX6_readAnd_5_l7 fu rc p1 0 g L) (fun (_ : Unit) g1 L1 => XP b n g0 R g1) := by
  unfold fX6_readAnd_5_l7
  refine Ex.loop (α := Int32 × gT × lT) (fun v => (0 ≤ v.1.toInt ∧ v.1.toInt ≤ 700) ∧ ((∃ (acc : List Int) (P f : Nat), R = xs b n f 10 d acc P ∧ cX b n P v.2.1 ∧ kRd g0 v.2.1 acc ∧ kF g0 v.2.1 ∧ rm n P v.2.1 ∧ 16 * (n + 1 - P) + 2 ≤ f ∧ v.1.toInt ≤ (P : Int)) ∨ (∃ p, R = .error p ∧ XB p g0 v.2.1))) (fun v => 701 - v.1.toInt) (by omega) (by show 701 - (0 : Int32).toInt < (fu : Int); have : (0 : Int32).toInt = 0 := rfl; omega) ⟨(show 0 ≤ (0 : Int32).toInt ∧ (0 : Int32).toInt ≤ 700 from by decide), ?_⟩ (fun k7 v hv ih => ?_)
  · rcases hI with ⟨acc, P, f, h1, h2, h3, h4, h5, h6⟩ | hI
    · exact Or.inl ⟨acc, P, f, h1, h2, h3, h4, h5, h6, show (0 : Int) ≤ (P : Int) by omega⟩
    · exact Or.inr hI
  clear hI
  obtain ⟨v2, g, L⟩ := v
  obtain ⟨hv, hI⟩ := hv
  have hv : 0 ≤ v2.toInt ∧ v2.toInt ≤ 700 := hv
  show Ex (fX6_readAnd_5_s7 fu rc p1 k7 v2 g L) _
  unfold fX6_readAnd_5_s7 fX6_readAnd_5_p50
  rcases hI with ⟨acc, P, f, h1, h2, h3, h4, h5, h6, h7⟩ | ⟨p, h1, h2⟩
  rotate_left
  · have h2 : XB p g0 g := h2
    have hk := h2.2.2.1
    rw [h1]
    exact Ex.ite (fun _ => Ex.ret h2) (fun _ => e_andW hfu h2.2.1 (fun h => absurd h (xW_B hk _)) (fun _ => Ex.ret h2))
  have h2 : cX b n P g := h2
  have h3 : kRd g0 g acc := h3
  have h4 : kF g0 g := h4
  have h5 : rm n P g := h5
  have h7 : v2.toInt ≤ (P : Int) := h7
  obtain ⟨f, rfl⟩ : ∃ f', f = f' + 1 := ⟨f - 1, by omega⟩
  rw [xe_10] at h1
  obtain ⟨a1, a2, a3, a4, a5, a6, a7, a8, a9, a10, a11⟩ := id h2
  have q4 := a1 4 4 0 700 rfl
  have hn := nx_le (b := b) a3
  have h5' : (g 4 4).toInt + (n : Int) ≤ 700 + (P : Int) := h5
  have more : ∀ (t0 : Int32) (K : Unit → gT → lT → Option (Unit × zS)), P < n → R = eb (xs b n f 4 d [] (nx b n P)) (fun c Q => xs b n f 10 d (acc ++ c ++ [t0.toInt]) Q) → v2.toInt < 700 → (∀ g' L', K () g' L' = cb (fX6_readNot_5 fu rc p1 g' L') (fun x g'' L'' => cb (fX8_add_4 fu t0 g'' L'') (fun y g3 L3 => k7 ((v2 + 1), g3, L3)))) → Ex (cb (fX6_advance_5 fu g L) K) (fun (_ : Unit) g1 L1 => XP b n g0 R g1) := by
    intro t0 K hlt hR hv7 hK
    have hnl := hn.2.2 hlt
    generalize hw : v2 + 1 = w at hK
    have ew : w.toInt = v2.toInt + 1 := by rw [← hw]; exact ic_addc rfl (by decide) (by omega) (by omega)
    refine x_adv hfu h2 (fun g1 L1 k1 k2 => ?_)
    rw [hK]
    have e4 : g1 4 4 = g 4 4 := by rw [k2.2 4 (by decide) (by decide)]
    have hr1 : rm n (nx b n P) g1 := by unfold rm; rw [e4]; omega
    have kf1 := h4.tr (kF.p k2 (by decide))
    refine Ex.cb (cX_not hfu hrc hp k1 hr1 (f := f) (by omega)) (fun _ g2 L2 hx => ?_)
    cases hxs : xs b n f 4 d [] (nx b n P) with
    | error p =>
      rw [hxs] at hx hR
      refine x_addX ⟨kf1.tr hx.1, hx.2⟩ (fun g3 m => ?_)
      exact ih (w, g3, L2) ⟨(show 0 ≤ w.toInt ∧ w.toInt ≤ 700 by omega), Or.inr ⟨p, hR, m⟩⟩ (show 701 - w.toInt < 701 - v2.toInt by omega) (show 0 < 701 - v2.toInt by omega)
    | ok q =>
      rw [hxs] at hx hR
      obtain ⟨hx1, hx2, hx3⟩ := hx
      have hl := xs_len f 4 d [] (nx b n P) q.1 q.2 hn.2.1 hxs (fun _ => rfl)
      have hl3 := hl.2.2.1
      simp only [List.length_nil] at hl3
      have e5 := kRd.len hx3
      rw [e4] at e5
      refine x_add hx2.1 (by omega) (fun g3 m1 m2 m3 m4 => ?_)
      have e6 := kRd.len m4
      have e6 : (g3 4 4).toInt = (g2 4 4).toInt + (1 : Int) := e6
      refine ih (w, g3, L2) ⟨(show 0 ≤ w.toInt ∧ w.toInt ≤ 700 by omega), Or.inl ⟨acc ++ q.1 ++ [t0.toInt], q.2, f, hR, hx2.fr m1 m2 (by decide) (by decide) (by decide) (by decide) (by decide) (by decide) (by decide) (by decide), ?_, (kf1.tr hx1).tr (kF.k m2 m3), ?_, by omega, ?_⟩⟩ (show 701 - w.toInt < 701 - v2.toInt by omega) (show 0 < 701 - v2.toInt by omega)
      · have := kRd.tr q0 h3 (kRd.tr q4.1 (kRd.p k2) (kRd.tr (by rw [e4]; exact q4.1) hx3 m4))
        rw [List.nil_append, ← List.append_assoc] at this
        exact this
      · show (g3 4 4).toInt + (n : Int) ≤ 700 + (q.2 : Int)
        omega
      · show w.toInt ≤ (q.2 : Int)
        omega
  have stop : ∀ L1 : lT, R = .ok (acc, P) → Ex (some ((), (g, L1))) (fun (_ : Unit) g1 L1 => XP b n g0 R g1) := fun L1 hR => Ex.ret (by rw [hR]; exact ⟨h4, h2, h3⟩)
  refine Ex.ite (fun c7 => stop L ?_) (fun c7 => ?_)
  · have c7 := icc_le (m := 700) (n := v2.toInt) (by decide) rfl c7
    rw [wB_f (fun h => by have := isW_lt h; omega)] at h1
    exact h1
  have c7 := icc_nle (m := 700) (n := v2.toInt) (by decide) rfl c7
  refine e_andW hfu a1 (fun s1 => ?_) (fun s1 => stop L ?_)
  · have s1 := (xW_isW h2 _).mp s1
    rw [wB_t s1] at h1
    exact more (-13) _ (isW_lt s1) h1 c7 (fun _ _ => rfl)
  · rw [wB_f (fun h => s1 ((xW_isW h2 _).mpr h))] at h1
    exact h1
theorem bX_and {fu : Nat} (hfu : 1180591620717411303424 ≤ fu) {rc : Int32 → gT → lT → Option (Unit × zS)} {p1 : Int32} {g : gT} {L : lT} {p : Nat} (hb : bX p g) : Ex (fX6_readAnd_5 fu rc p1 g L) (fun (_ : Unit) g1 L1 => XB p g g1) := by
  unfold fX6_readAnd_5
  refine Ex.cb (bX_not hfu hb) (fun _ g1 L1 hx => ?_)
  unfold fX6_readAnd_5_l7
  refine Ex.loop (α := Int32 × gT × lT) (fun v => XB p g v.2.1) (fun v => 0) (by omega) (by omega) hx (fun k7 v hv ih => ?_)
  obtain ⟨v2, g2, L2⟩ := v
  have h2 : XB p g g2 := hv
  have hk := h2.2.2.1
  show Ex (fX6_readAnd_5_s7 fu rc p1 k7 v2 g2 L2) _
  unfold fX6_readAnd_5_s7 fX6_readAnd_5_p50
  exact Ex.ite (fun _ => Ex.ret h2) (fun _ => e_andW hfu h2.2.1 (fun h => absurd h (xW_B hk _)) (fun _ => Ex.ret h2))
theorem cX_and {fu : Nat} (hfu : 1180591620717411303424 ≤ fu) {rc : Int32 → gT → lT → Option (Unit × zS)} {b : Nat → Int32} {n d P f : Nat} (hrc : Rc b n d rc) {p1 : Int32} {g : gT} {L : lT} (hp : p1.toInt = (d : Int)) (hc : cX b n P g) (hr : rm n P g) (hf : 16 * (n + 1 - P) + 7 ≤ f) : Ex (fX6_readAnd_5 fu rc p1 g L) (fun (_ : Unit) g1 L1 => XP b n g (xs b n f 5 d [] P) g1) := by
  obtain ⟨f, rfl⟩ : ∃ f', f = f' + 1 := ⟨f - 1, by omega⟩
  rw [xe_5]
  have q4 := hc.1 4 4 0 700 rfl
  have hr' : (g 4 4).toInt + (n : Int) ≤ 700 + (P : Int) := hr
  unfold fX6_readAnd_5
  refine Ex.cb (cX_not hfu hrc hp hc hr (f := f) (by omega)) (fun _ g2 L2 hx => ?_)
  refine L_readAnd hfu hrc q4.1 hp ?_
  cases hxs : xs b n f 4 d [] P with
  | error p =>
    rw [hxs] at hx
    exact Or.inr ⟨p, rfl, hx⟩
  | ok q =>
    rw [hxs] at hx
    obtain ⟨hx1, hx2, hx3⟩ := hx
    have hl := xs_len f 4 d [] P q.1 q.2 hc.2.2.1 hxs (fun _ => rfl)
    have hl3 := hl.2.2.1
    simp only [List.length_nil] at hl3
    have e5 := kRd.len hx3
    refine Or.inl ⟨q.1, q.2, f, rfl, hx2, hx3, hx1, ?_, by omega⟩
    show (g2 4 4).toInt + (n : Int) ≤ 700 + (q.2 : Int)
    omega
set_option maxHeartbeats 4000000 in
theorem L_readExpr {fu : Nat} (hfu : 1180591620717411303424 ≤ fu) {rc : Int32 → gT → lT → Option (Unit × zS)} {b : Nat → Int32} {n d : Nat} (hrc : Rc b n d rc) {p1 : Int32} {g0 g : gT} {L : lT} {R : xR} (q0 : 0 ≤ (g0 4 4).toInt) (hp : p1.toInt = (d : Int)) (hI : (∃ (acc : List Int) (P f : Nat), R = xs b n f 11 d acc P ∧ cX b n P g ∧ kRd g0 g acc ∧ kF g0 g ∧ rm n P g ∧ 16 * (n + 1 - P) + 2 ≤ f) ∨ (∃ p, R = .error p ∧ XB p g0 g)) : Ex (fX6_readExpr_5_l42 fu rc p1 0 g L) (fun (_ : Unit) g1 L1 => XP b n g0 R g1) := by
  unfold fX6_readExpr_5_l42
  refine Ex.loop (α := Int32 × gT × lT) (fun v => (0 ≤ v.1.toInt ∧ v.1.toInt ≤ 700) ∧ ((∃ (acc : List Int) (P f : Nat), R = xs b n f 11 d acc P ∧ cX b n P v.2.1 ∧ kRd g0 v.2.1 acc ∧ kF g0 v.2.1 ∧ rm n P v.2.1 ∧ 16 * (n + 1 - P) + 2 ≤ f ∧ v.1.toInt ≤ (P : Int)) ∨ (∃ p, R = .error p ∧ XB p g0 v.2.1))) (fun v => 701 - v.1.toInt) (by omega) (by show 701 - (0 : Int32).toInt < (fu : Int); have : (0 : Int32).toInt = 0 := rfl; omega) ⟨(show 0 ≤ (0 : Int32).toInt ∧ (0 : Int32).toInt ≤ 700 from by decide), ?_⟩ (fun k7 v hv ih => ?_)
  · rcases hI with ⟨acc, P, f, h1, h2, h3, h4, h5, h6⟩ | hI
    · exact Or.inl ⟨acc, P, f, h1, h2, h3, h4, h5, h6, show (0 : Int) ≤ (P : Int) by omega⟩
    · exact Or.inr hI
  clear hI
  obtain ⟨v2, g, L⟩ := v
  obtain ⟨hv, hI⟩ := hv
  have hv : 0 ≤ v2.toInt ∧ v2.toInt ≤ 700 := hv
  show Ex (fX6_readExpr_5_s42 fu rc p1 k7 v2 g L) _
  unfold fX6_readExpr_5_s42 fX6_readExpr_5_p85
  rcases hI with ⟨acc, P, f, h1, h2, h3, h4, h5, h6, h7⟩ | ⟨p, h1, h2⟩
  rotate_left
  · have h2 : XB p g0 g := h2
    have hk := h2.2.2.1
    rw [h1]
    exact Ex.ite (fun _ => Ex.ret h2) (fun _ => e_orW hfu h2.2.1 (fun h => absurd h (xW_B hk _)) (fun _ => Ex.ret h2))
  have h2 : cX b n P g := h2
  have h3 : kRd g0 g acc := h3
  have h4 : kF g0 g := h4
  have h5 : rm n P g := h5
  have h7 : v2.toInt ≤ (P : Int) := h7
  obtain ⟨f, rfl⟩ : ∃ f', f = f' + 1 := ⟨f - 1, by omega⟩
  rw [xe_11] at h1
  obtain ⟨a1, a2, a3, a4, a5, a6, a7, a8, a9, a10, a11⟩ := id h2
  have q4 := a1 4 4 0 700 rfl
  have hn := nx_le (b := b) a3
  have h5' : (g 4 4).toInt + (n : Int) ≤ 700 + (P : Int) := h5
  have more : ∀ (t0 : Int32) (K : Unit → gT → lT → Option (Unit × zS)), P < n → R = eb (xs b n f 5 d [] (nx b n P)) (fun c Q => xs b n f 11 d (acc ++ c ++ [t0.toInt]) Q) → v2.toInt < 700 → (∀ g' L', K () g' L' = cb (fX6_readAnd_5 fu rc p1 g' L') (fun x g'' L'' => cb (fX8_add_4 fu t0 g'' L'') (fun y g3 L3 => k7 ((v2 + 1), g3, L3)))) → Ex (cb (fX6_advance_5 fu g L) K) (fun (_ : Unit) g1 L1 => XP b n g0 R g1) := by
    intro t0 K hlt hR hv7 hK
    have hnl := hn.2.2 hlt
    generalize hw : v2 + 1 = w at hK
    have ew : w.toInt = v2.toInt + 1 := by rw [← hw]; exact ic_addc rfl (by decide) (by omega) (by omega)
    refine x_adv hfu h2 (fun g1 L1 k1 k2 => ?_)
    rw [hK]
    have e4 : g1 4 4 = g 4 4 := by rw [k2.2 4 (by decide) (by decide)]
    have hr1 : rm n (nx b n P) g1 := by unfold rm; rw [e4]; omega
    have kf1 := h4.tr (kF.p k2 (by decide))
    refine Ex.cb (cX_and hfu hrc hp k1 hr1 (f := f) (by omega)) (fun _ g2 L2 hx => ?_)
    cases hxs : xs b n f 5 d [] (nx b n P) with
    | error p =>
      rw [hxs] at hx hR
      refine x_addX ⟨kf1.tr hx.1, hx.2⟩ (fun g3 m => ?_)
      exact ih (w, g3, L2) ⟨(show 0 ≤ w.toInt ∧ w.toInt ≤ 700 by omega), Or.inr ⟨p, hR, m⟩⟩ (show 701 - w.toInt < 701 - v2.toInt by omega) (show 0 < 701 - v2.toInt by omega)
    | ok q =>
      rw [hxs] at hx hR
      obtain ⟨hx1, hx2, hx3⟩ := hx
      have hl := xs_len f 5 d [] (nx b n P) q.1 q.2 hn.2.1 hxs (fun _ => rfl)
      have hl3 := hl.2.2.1
      simp only [List.length_nil] at hl3
      have e5 := kRd.len hx3
      rw [e4] at e5
      refine x_add hx2.1 (by omega) (fun g3 m1 m2 m3 m4 => ?_)
      have e6 := kRd.len m4
      have e6 : (g3 4 4).toInt = (g2 4 4).toInt + (1 : Int) := e6
      refine ih (w, g3, L2) ⟨(show 0 ≤ w.toInt ∧ w.toInt ≤ 700 by omega), Or.inl ⟨acc ++ q.1 ++ [t0.toInt], q.2, f, hR, hx2.fr m1 m2 (by decide) (by decide) (by decide) (by decide) (by decide) (by decide) (by decide) (by decide), ?_, (kf1.tr hx1).tr (kF.k m2 m3), ?_, by omega, ?_⟩⟩ (show 701 - w.toInt < 701 - v2.toInt by omega) (show 0 < 701 - v2.toInt by omega)
      · have := kRd.tr q0 h3 (kRd.tr q4.1 (kRd.p k2) (kRd.tr (by rw [e4]; exact q4.1) hx3 m4))
        rw [List.nil_append, ← List.append_assoc] at this
        exact this
      · show (g3 4 4).toInt + (n : Int) ≤ 700 + (q.2 : Int)
        omega
      · show w.toInt ≤ (q.2 : Int)
        omega
  have stop : ∀ L1 : lT, R = .ok (acc, P) → Ex (some ((), (g, L1))) (fun (_ : Unit) g1 L1 => XP b n g0 R g1) := fun L1 hR => Ex.ret (by rw [hR]; exact ⟨h4, h2, h3⟩)
  refine Ex.ite (fun c7 => stop L ?_) (fun c7 => ?_)
  · have c7 := icc_le (m := 700) (n := v2.toInt) (by decide) rfl c7
    rw [wB_f (fun h => by have := isW_lt h; omega)] at h1
    exact h1
  have c7 := icc_nle (m := 700) (n := v2.toInt) (by decide) rfl c7
  refine e_orW hfu a1 (fun s1 => ?_) (fun s1 => stop L ?_)
  · have s1 := (xW_isW h2 _).mp s1
    rw [wB_t s1] at h1
    exact more (-14) _ (isW_lt s1) h1 c7 (fun _ _ => rfl)
  · rw [wB_f (fun h => s1 ((xW_isW h2 _).mpr h))] at h1
    exact h1
theorem bX_expr {fu : Nat} (hfu : 1180591620717411303424 ≤ fu) {rc : Int32 → gT → lT → Option (Unit × zS)} {p1 : Int32} {g : gT} {L : lT} {p : Nat} (hb : bX p g) : Ex (fX6_readExpr_5_p35 fu rc p1 g L) (fun (_ : Unit) g1 L1 => XB p g g1) := by
  unfold fX6_readExpr_5_p35
  refine Ex.cb (bX_and hfu hb) (fun _ g1 L1 hx => ?_)
  unfold fX6_readExpr_5_l42
  refine Ex.loop (α := Int32 × gT × lT) (fun v => XB p g v.2.1) (fun v => 0) (by omega) (by omega) hx (fun k7 v hv ih => ?_)
  obtain ⟨v2, g2, L2⟩ := v
  have h2 : XB p g g2 := hv
  have hk := h2.2.2.1
  show Ex (fX6_readExpr_5_s42 fu rc p1 k7 v2 g2 L2) _
  unfold fX6_readExpr_5_s42 fX6_readExpr_5_p85
  exact Ex.ite (fun _ => Ex.ret h2) (fun _ => e_orW hfu h2.2.1 (fun h => absurd h (xW_B hk _)) (fun _ => Ex.ret h2))
set_option maxHeartbeats 4000000 in
theorem cX_exprB {fu : Nat} (hfu : 1180591620717411303424 ≤ fu) {rc : Int32 → gT → lT → Option (Unit × zS)} {b : Nat → Int32} {n d P f : Nat} (hrc : Rc b n d rc) {p1 : Int32} {g : gT} {L : lT} (hp : p1.toInt = (d : Int)) (hc : cX b n P g) (hr : rm n P g) (hf : 16 * (n + 1 - P) + 8 ≤ f) : Ex (fX6_readExpr_5B fu rc p1 g L) (fun (_ : Unit) g1 L1 => XP b n g (xs b n f 6 d [] P) g1) := by
  obtain ⟨f, rfl⟩ : ∃ f', f = f' + 1 := ⟨f - 1, by omega⟩
  rw [xe_6]
  obtain ⟨a1, a2, a3, a4, a5, a6, a7, a8, a9, a10, a11⟩ := id hc
  have q4 := a1 4 4 0 700 rfl
  have hr' : (g 4 4).toInt + (n : Int) ≤ 700 + (P : Int) := hr
  unfold fX6_readExpr_5B
  have bad : ∀ (w : Int32), w.toInt ≠ 0 → Ex (cb (fX6_refuse_5 fu w g L) (fun x g1 L1 => fX6_readExpr_5_p35 fu rc p1 g1 L1)) (fun (_ : Unit) g1 L1 => XP b n g (.error P) g1) := by
    intro w hw
    refine x_ref hw hc (fun g1 k1 k2 => ?_)
    exact (bX_expr hfu k1).mono (fun _ g2 L2 hx => XB.tr (kF.p k2 (by decide)) hx)
  refine Ex.ite (fun c => ?_) (fun c => ?_)
  · have c := icc_le (m := p1.toInt) (n := 5) rfl (by decide) c
    rw [if_pos (show d ≤ 5 by omega)]
    unfold fX6_readExpr_5_p35
    refine Ex.cb (cX_and hfu hrc hp hc hr (f := f) (by omega)) (fun _ g2 L2 hx => ?_)
    refine L_readExpr hfu hrc q4.1 hp ?_
    cases hxs : xs b n f 5 d [] P with
    | error p =>
      rw [hxs] at hx
      exact Or.inr ⟨p, rfl, hx⟩
    | ok q =>
      rw [hxs] at hx
      obtain ⟨hx1, hx2, hx3⟩ := hx
      have hl := xs_len f 5 d [] P q.1 q.2 hc.2.2.1 hxs (fun _ => rfl)
      have hl3 := hl.2.2.1
      simp only [List.length_nil] at hl3
      have e5 := kRd.len hx3
      refine Or.inl ⟨q.1, q.2, f, rfl, hx2, hx3, hx1, ?_, by omega⟩
      show (g2 4 4).toInt + (n : Int) ≤ 700 + (q.2 : Int)
      omega
  have c := icc_nle (m := p1.toInt) (n := 5) rfl (by decide) c
  have hd : ¬ d ≤ 5 := by omega
  rw [if_neg hd]
  unfold fX6_readExpr_5_p30
  refine Ex.ite (fun _ => bad 2 (by decide)) (fun c1 => ?_)
  refine Ex.ite (fun _ => bad 2 (by decide)) (fun c2 => ?_)
  have c1 := icc_neq (m := (g 5 4).toInt) (n := 1) rfl (by decide) c1
  have c2 := icc_neq (m := (g 5 4).toInt) (n := 2) rfl (by decide) c2
  refine x_sgn hc (fun _ => bad 2 (by decide)) (fun hs => ?_)
  -- neither number nor word nor opening: the part is at fault
  have e : ∀ f, 16 * (n + 1 - P) + 7 ≤ f → xs b n f 5 d [] P = .error P := by
    intro f hf
    obtain ⟨f, rfl⟩ : ∃ f', f = f' + 1 := ⟨f - 1, by omega⟩
    obtain ⟨f, rfl⟩ : ∃ f', f = f' + 1 := ⟨f - 1, by omega⟩
    obtain ⟨f, rfl⟩ : ∃ f', f = f' + 1 := ⟨f - 1, by omega⟩
    obtain ⟨f, rfl⟩ : ∃ f', f = f' + 1 := ⟨f - 1, by omega⟩
    obtain ⟨f, rfl⟩ : ∃ f', f = f' + 1 := ⟨f - 1, by omega⟩
    obtain ⟨f, rfl⟩ : ∃ f', f = f' + 1 := ⟨f - 1, by omega⟩
    have hw : wB b n P 16 = false := wB_f (fun h => by have := h.1; omega)
    rw [xe_5, xe_4, hw, if_neg (by decide), xe_3, xe_2, xe_1, xe_0, if_neg (by omega), if_neg (by omega), sB_f (c := 40) hs, if_neg (by decide)]
    rfl
  unfold fX6_readExpr_5_p35
  refine Ex.cb (cX_and hfu hrc hp hc hr (f := 16 * (n + 1 - P) + 7) (Nat.le_refl _)) (fun _ g2 L2 hx => ?_)
  rw [e _ (Nat.le_refl _)] at hx
  exact L_readExpr hfu hrc q4.1 hp (Or.inr ⟨P, rfl, hx⟩)
/-- an expression, so many deep -/
theorem cX_expr {fu : Nat} (hfu : 1180591620717411303424 ≤ fu) {b : Nat → Int32} {n : Nat} : ∀ (m d : Nat) (p1 : Int32) (g : gT) (L : lT) (P f : Nat), 7 ≤ m + d → d ≤ 6 → p1.toInt = (d : Int) → cX b n P g → rm n P g → 16 * (n + 1 - P) + 8 ≤ f → Ex (fX6_readExpr_5 fu m p1 g L) (fun (_ : Unit) g1 L1 => XP b n g (xs b n f 6 d [] P) g1) := by
  intro m
  induction m with
  | zero => intro d p1 g L P f h1 h2; omega
  | succ m ih =>
    intro d p1 g L P f h1 h2 hp hc hr hf
    refine cX_exprB hfu (fun hd p2 g2 L2 P2 f2 hp2 hc2 hr2 hf2 => ?_) hp hc hr hf
    exact ih (d + 1) p2 g2 L2 P2 f2 (by omega) (by omega) hp2 hc2 hr2 hf2
end
