/-! ===== both parsers at a place of the same bytes ===== -/
abbrev nx (b : Nat → Int32) (n P : Nat) : Nat := sk b n (tE b n P)
def isS (b : Nat → Int32) (n P : Nat) (c : Int) : Prop := tK b n P = 3 ∧ (b P).toInt = c
def nuC (b : Nat → Int32) (n : Nat) (lo hi : Int) (P : Nat) : Prop := tK b n P = 1 ∧ tE b n P ≤ P + 4 ∧ lo ≤ tV b n P ∧ tV b n P ≤ hi
theorem nx_le {b : Nat → Int32} {n P : Nat} (h : P ≤ n) : P ≤ nx b n P ∧ nx b n P ≤ n ∧ (P < n → P < nx b n P) := by
  have h1 := tE_le (b := b) h
  have h2 := sk_le (b := b) h1.2.1
  show P ≤ sk b n (tE b n P) ∧ sk b n (tE b n P) ≤ n ∧ (P < n → P < sk b n (tE b n P))
  omega
/-- the class: good, at place P -/
def cX (b : Nat → Int32) (n P : Nat) (g : gT) : Prop := zI XT g ∧ n ≤ 700 ∧ P ≤ n ∧ (g 5 2).toInt = (n : Int) ∧ (∀ j, j < n → g 14 j = b j) ∧ (g 5 5).toInt = (P : Int) ∧ (g 5 4).toInt = tK b n P ∧ (g 5 3).toInt = (tE b n P : Int) ∧ (g 5 6).toInt = tV b n P ∧ (g 5 7).toInt = 0 ∧ (g 5 8).toInt = -1
/-- the class: a fault at place P -/
def bX (P : Nat) (g : gT) : Prop := zI XT g ∧ (g 5 4).toInt = 5 ∧ (g 5 7).toInt ≠ 0 ∧ (g 5 8).toInt = (P : Int)
def cM (b : Nat → Int32) (n P : Nat) (g : gT) (L : lT) : Prop := zI MT g ∧ n ≤ 700 ∧ P ≤ n ∧ (g 0 22).toInt = (n : Int) ∧ (∀ j, j < n → g 13 j = b j) ∧ (g 0 25).toInt = (P : Int) ∧ (g 0 24).toInt = sM (tK b n P) ∧ (g 0 23).toInt = (tE b n P : Int) ∧ (g 0 27).toInt = tV b n P ∧ (P < n → g 0 28 = b P) ∧ (g 0 26).toInt = (tE b n P : Int) - (P : Int) ∧ (tK b n P = 2 → (L 0 29).toInt = pI b P (tE b n P - P)) ∧ (g 0 19).toInt = 0 ∧ (g 0 20).toInt = -1
/-- the same without the word -/
def cm (b : Nat → Int32) (n P : Nat) (g : gT) : Prop := zI MT g ∧ n ≤ 700 ∧ P ≤ n ∧ (g 0 22).toInt = (n : Int) ∧ (∀ j, j < n → g 13 j = b j) ∧ (g 0 25).toInt = (P : Int) ∧ (g 0 24).toInt = sM (tK b n P) ∧ (g 0 23).toInt = (tE b n P : Int) ∧ (g 0 27).toInt = tV b n P ∧ (P < n → g 0 28 = b P) ∧ (g 0 26).toInt = (tE b n P : Int) - (P : Int) ∧ (g 0 19).toInt = 0 ∧ (g 0 20).toInt = -1
theorem cM.c {b : Nat → Int32} {n P : Nat} {g : gT} {L : lT} (h : cM b n P g L) : cm b n P g := by
  obtain ⟨a1, a2, a3, a4, a5, a6, a7, a8, a9, a10, a11, a12, a13, a14⟩ := h
  exact ⟨a1, a2, a3, a4, a5, a6, a7, a8, a9, a10, a11, a13, a14⟩
theorem cm.fr {b : Nat → Int32} {n P : Nat} {g g1 : gT} {A B : List Nat} (h : cm b n P g) (hI : zI MT g1) (hF : Fr A B g g1) (h19 : 19 ∉ A) (h20 : 20 ∉ A) (h22 : 22 ∉ A) (h23 : 23 ∉ A) (h24 : 24 ∉ A) (h25 : 25 ∉ A) (h26 : 26 ∉ A) (h27 : 27 ∉ A) (h28 : 28 ∉ A) (h13 : 13 ∉ B) : cm b n P g1 := by
  obtain ⟨a1, a2, a3, a4, a5, a6, a7, a8, a9, a10, a11, a13, a14⟩ := h
  have e13 : g1 13 = g 13 := hF.2 13 (by decide) h13
  exact ⟨hI, a2, a3, (hF.i h22).trans a4, fun j hj => by rw [e13]; exact a5 j hj, (hF.i h25).trans a6, (hF.i h24).trans a7, (hF.i h23).trans a8, (hF.i h27).trans a9, fun hP => (hF.1 28 h28).trans (a10 hP), (hF.i h26).trans a11, (hF.i h19).trans a13, (hF.i h20).trans a14⟩
def bM (P : Nat) (g : gT) : Prop := zI MT g ∧ pN g ∧ (g 0 19).toInt ≠ 0 ∧ (g 0 20).toInt = (P : Int)
theorem cX.fr {b : Nat → Int32} {n P : Nat} {g g1 : gT} {A B : List Nat} (h : cX b n P g) (hI : zI XT g1) (hF : FX A B g g1) (h2 : 2 ∉ A) (h3 : 3 ∉ A) (h4 : 4 ∉ A) (h5 : 5 ∉ A) (h6 : 6 ∉ A) (h7 : 7 ∉ A) (h8 : 8 ∉ A) (h14 : 14 ∉ B) : cX b n P g1 := by
  obtain ⟨a1, a2, a3, a4, a5, a6, a7, a8, a9, a10, a11⟩ := h
  have e14 : g1 14 = g 14 := hF.2 14 (by decide) h14
  exact ⟨hI, a2, a3, (hF.i h2).trans a4, fun j hj => by rw [e14]; exact a5 j hj, (hF.i h5).trans a6, (hF.i h4).trans a7, (hF.i h3).trans a8, (hF.i h6).trans a9, (hF.i h7).trans a10, (hF.i h8).trans a11⟩
theorem bX.fr {P : Nat} {g g1 : gT} {A B : List Nat} (h : bX P g) (hI : zI XT g1) (hF : FX A B g g1) (h4 : 4 ∉ A) (h7 : 7 ∉ A) (h8 : 8 ∉ A) : bX P g1 := by
  obtain ⟨a1, a2, a3, a4⟩ := h
  exact ⟨hI, (hF.i h4).trans a2, by rw [hF.i h7]; exact a3, (hF.i h8).trans a4⟩
theorem cX.k5 {b : Nat → Int32} {n P : Nat} {g : gT} (h : cX b n P g) : (g 5 4).toInt ≠ 5 := by
  have h1 := h.2.2.2.2.2.2.1
  have h2 := tK_rg b n P
  omega
section CX
variable {ρ : Type} {Q : ρ → gT → lT → Prop} {b : Nat → Int32} {n P : Nat} {g : gT} {L : lT} {fu : Nat}
theorem x_adv {K : Unit → gT → lT → Option (ρ × zS)} (hfu : 1180591620717411303424 ≤ fu) (hc : cX b n P g) (h : ∀ g1 L1, cX b n (nx b n P) g1 → FX [3, 4, 5, 6] [] g g1 → Ex (K () g1 L1) Q) : Ex (cb (fX6_advance_5 fu g L) K) Q := by
  obtain ⟨a1, a2, a3, a4, a5, a6, a7, a8, a9, a10, a11⟩ := id hc
  have hE := tE_le (b := b) a3
  refine Ex.cb (tX6_advance fu hfu g L a1 hc.k5 (by omega)) (fun _ g1 L1 hq => ?_)
  obtain ⟨k1, k2, k3⟩ := hq
  have eN : xN g = n := by show (g 5 2).toInt.toNat = n; omega
  have e3 : (g 5 3).toInt.toNat = tE b n P := by omega
  have e14 : g1 14 = g 14 := k2.2 14 (by decide) (by decide)
  have eN1 : xN g1 = n := by show (g1 5 2).toInt.toNat = n; rw [k2.i (by decide)]; omega
  rw [eN, e3, sk_c a5] at k3
  have hn := nx_le (b := b) a3
  obtain ⟨t1, t2, t3, t4⟩ := k3
  rw [e14, eN1] at t2 t3 t4
  have hb' : ∀ j, j < n → g 14 j = b j := a5
  rw [tK_c hb'] at t2
  rw [tE_c hb'] at t3
  rw [tV_c hn.2.1 hb'] at t4
  exact h g1 L1 ⟨k1, a2, hn.2.1, (k2.i (by decide)).trans a4, fun j hj => by rw [e14]; exact a5 j hj, t1, t2, t3, t4, (k2.i (by decide)).trans a10, (k2.i (by decide)).trans a11⟩ k2
theorem x_advB {K : Unit → gT → lT → Option (ρ × zS)} (hk : (g 5 4).toInt = 5) (h : Ex (K () g L) Q) : Ex (cb (fX6_advance_5 fu g L) K) Q := by
  unfold fX6_advance_5
  rw [if_pos (ic_eq.mpr (show (g 5 4).toInt = (5 : Int32).toInt from hk))]; exact h
theorem x_ref {w : Int32} {K : Unit → gT → lT → Option (ρ × zS)} (hw : w.toInt ≠ 0) (hc : cX b n P g) (h : ∀ g1, bX P g1 → FX [4, 7, 8] [] g g1 → Ex (K () g1 L) Q) : Ex (cb (fX6_refuse_5 fu w g L) K) Q := by
  have e : fX6_refuse_5 fu w g L = some ((), (upd2 (upd2 (upd2 g 5 7 w) 5 8 (g 5 5)) 5 4 5, L)) := by
    unfold fX6_refuse_5
    rw [if_neg (fun h => hc.k5 (icc_eq (m := (g 5 4).toInt) (n := 5) rfl (by decide) h))]
    rfl
  rw [e]
  refine h _ ⟨((hc.1.updN rfl).updN rfl).updN rfl, ?_, ?_, ?_⟩ (((FX.refl.u5 (by decide)).u5 (by decide)).u5 (by decide))
  · show (upd2 (upd2 (upd2 g 5 7 w) 5 8 (g 5 5)) 5 4 5 5 4).toInt = 5
    rw [upd2_at]; rfl
  · show w.toInt ≠ 0
    exact hw
  · show (g 5 5).toInt = (P : Int)
    exact hc.2.2.2.2.2.1
theorem x_refB {w : Int32} {K : Unit → gT → lT → Option (ρ × zS)} (hk : (g 5 4).toInt = 5) (h : Ex (K () g L) Q) : Ex (cb (fX6_refuse_5 fu w g L) K) Q := by
  unfold fX6_refuse_5 fX6_refuse_5_p26
  rw [if_pos (ic_eq.mpr (show (g 5 4).toInt = (5 : Int32).toInt from hk))]; exact h
theorem x_sgn {c : Int32} {A B : gT → lT → Option (ρ × zS)} (hc : cX b n P g) (h1 : isS b n P c.toInt → Ex (B g L) Q) (h0 : ¬ isS b n P c.toInt → Ex (A g L) Q) : Ex (cb (fX6_isSignNow_5 fu c g L) (fun x g1 L1 => if x = 0 then A g1 L1 else B g1 L1)) Q := by
  obtain ⟨a1, a2, a3, a4, a5, a6, a7, a8, a9, a10, a11⟩ := id hc
  unfold fX6_isSignNow_5 fX6_isSignNow_5_p25 fX6_isSignNow_5_p26
  rw [ckb0, ckb1]
  by_cases c1 : g 5 4 = 3
  · rw [if_pos c1]
    have c1 := icc_eq (m := (g 5 4).toInt) (n := 3) rfl (by decide) c1
    have hP : P < n := tK_n0 (b := b) (by omega)
    have eP : (g 5 5).toNatClampNeg = P := by rw [nc, a6]; omega
    rw [ck_eq (by omega) (by omega), eP, a5 P hP]
    by_cases c2 : b P = c
    · rw [if_pos c2]; exact e_b1 (h1 ⟨by omega, by rw [c2]⟩)
    · rw [if_neg c2]; exact e_b0 (h0 (fun h => c2 (ic_eq.mpr h.2)))
  · rw [if_neg c1]
    have c1 := icc_neq (m := (g 5 4).toInt) (n := 3) rfl (by decide) c1
    exact e_b0 (h0 (fun h => c1 (by have := h.1; omega)))
theorem x_sgnB {c : Int32} {A B : gT → lT → Option (ρ × zS)} (hk : (g 5 4).toInt = 5) (h0 : Ex (A g L) Q) : Ex (cb (fX6_isSignNow_5 fu c g L) (fun x g1 L1 => if x = 0 then A g1 L1 else B g1 L1)) Q := by
  unfold fX6_isSignNow_5 fX6_isSignNow_5_p25 fX6_isSignNow_5_p26
  rw [ckb0, if_neg (fun h => by have := icc_eq (m := (g 5 4).toInt) (n := 3) rfl (by decide) h; omega)]
  exact e_b0 h0
theorem x_rsg {c : Int32} {K : Unit → gT → lT → Option (ρ × zS)} (hfu : 1180591620717411303424 ≤ fu) (hc : cX b n P g) (h1 : isS b n P c.toInt → ∀ g1 L1, cX b n (nx b n P) g1 → FX [3, 4, 5, 6] [] g g1 → Ex (K () g1 L1) Q) (h0 : ¬ isS b n P c.toInt → ∀ g1, bX P g1 → FX [4, 7, 8] [] g g1 → Ex (K () g1 L) Q) : Ex (cb (fX6_readSign_5 fu c g L) K) Q := by
  have key : Ex (fX6_readSign_5 fu c g L) (fun (_ : Unit) g1 L1 => (isS b n P c.toInt ∧ cX b n (nx b n P) g1 ∧ FX [3, 4, 5, 6] [] g g1) ∨ (¬ isS b n P c.toInt ∧ bX P g1 ∧ FX [4, 7, 8] [] g g1 ∧ L1 = L)) := by
    unfold fX6_readSign_5 fX6_readSign_5_p20
    refine x_sgn hc (fun hs => x_adv hfu hc (fun g1 L1 k1 k2 => Ex.ret (Or.inl ⟨hs, k1, k2⟩))) (fun hs => x_ref (by decide) hc (fun g1 k1 k2 => Ex.ret (Or.inr ⟨hs, k1, k2, rfl⟩)))
  refine Ex.cb key (fun _ g1 L1 hq => ?_)
  rcases hq with ⟨k1, k2, k3⟩ | ⟨k1, k2, k3, rfl⟩
  · exact h1 k1 g1 L1 k2 k3
  · exact h0 k1 g1 k2 k3
theorem x_rsgB {c : Int32} {K : Unit → gT → lT → Option (ρ × zS)} (hk : (g 5 4).toInt = 5) (h : Ex (K () g L) Q) : Ex (cb (fX6_readSign_5 fu c g L) K) Q := by
  have key : Ex (fX6_readSign_5 fu c g L) (fun (_ : Unit) g1 L1 => g1 = g ∧ L1 = L) := by
    unfold fX6_readSign_5 fX6_readSign_5_p20
    exact x_sgnB hk (x_refB hk (Ex.ret ⟨rfl, rfl⟩))
  refine Ex.cb key (fun _ g1 L1 hq => ?_)
  obtain ⟨rfl, rfl⟩ := hq
  exact h
theorem x_num {p1 p2 : Int32} {K : Int32 → gT → lT → Option (ρ × zS)} (hfu : 1180591620717411303424 ≤ fu) (hc : cX b n P g) (h1 : nuC b n p1.toInt p2.toInt P → ∀ (r : Int32) g1 L1, r.toInt = tV b n P → cX b n (nx b n P) g1 → FX [3, 4, 5, 6] [] g g1 → Ex (K r g1 L1) Q) (h0 : ¬ nuC b n p1.toInt p2.toInt P → ∀ g1, bX P g1 → FX [4, 7, 8] [] g g1 → Ex (K 0 g1 L) Q) : Ex (cb (fX6_readNumber_5 fu p1 p2 g L) K) Q := by
  obtain ⟨a1, a2, a3, a4, a5, a6, a7, a8, a9, a10, a11⟩ := id hc
  have q3 := a1 5 3 0 700 rfl
  have q5 := a1 5 5 0 700 rfl
  have key : Ex (fX6_readNumber_5 fu p1 p2 g L) (fun (r : Int32) g1 L1 => (nuC b n p1.toInt p2.toInt P ∧ r.toInt = tV b n P ∧ cX b n (nx b n P) g1 ∧ FX [3, 4, 5, 6] [] g g1) ∨ (¬ nuC b n p1.toInt p2.toInt P ∧ r = 0 ∧ bX P g1 ∧ FX [4, 7, 8] [] g g1 ∧ L1 = L)) := by
    have bad : ¬ nuC b n p1.toInt p2.toInt P → Ex (fX6_readNumber_5_p38 fu g L) (fun (r : Int32) g1 L1 => (nuC b n p1.toInt p2.toInt P ∧ r.toInt = tV b n P ∧ cX b n (nx b n P) g1 ∧ FX [3, 4, 5, 6] [] g g1) ∨ (¬ nuC b n p1.toInt p2.toInt P ∧ r = 0 ∧ bX P g1 ∧ FX [4, 7, 8] [] g g1 ∧ L1 = L)) := by
      intro hn
      unfold fX6_readNumber_5_p38
      exact x_ref (by decide) hc (fun g1 k1 k2 => Ex.ret (Or.inr ⟨hn, rfl, k1, k2, rfl⟩))
    unfold fX6_readNumber_5
    refine Ex.ite (fun c1 => ?_) (fun c1 => ?_)
    rotate_left
    · have c1 := icc_neq (m := (g 5 4).toInt) (n := 1) rfl (by decide) c1
      exact x_ref (by decide) hc (fun g1 k1 k2 => Ex.ret (Or.inr ⟨fun h => c1 (by have := h.1; omega), rfl, k1, k2, rfl⟩))
    have c1 := icc_eq (m := (g 5 4).toInt) (n := 1) rfl (by decide) c1
    unfold fX6_isTooLong_5 fX6_isTooLong_5_p18
    rw [ckb0, ckb1]
    have ez : ((g 5 3) - (g 5 5)).toInt = (g 5 3).toInt - (g 5 5).toInt := ic_subc rfl rfl (by omega) (by omega)
    by_cases c2 : (g 5 3) - (g 5 5) ≤ 4
    rotate_left
    · rw [if_neg c2]
      have c2 := icc_nle (m := ((g 5 3) - (g 5 5)).toInt) (n := 4) rfl (by decide) c2
      exact e_b1 (bad (fun h => by have := h.2.1; omega))
    rw [if_pos c2]
    have c2 := icc_le (m := ((g 5 3) - (g 5 5)).toInt) (n := 4) rfl (by decide) c2
    refine e_b0 ?_
    refine Ex.ite (fun c3 => bad (fun h => ?_)) (fun c3 => ?_)
    · have c3 := icc_lt (m := (g 5 6).toInt) (n := p1.toInt) rfl rfl c3
      have := h.2.2.1; omega
    have c3 := icc_nlt (m := (g 5 6).toInt) (n := p1.toInt) rfl rfl c3
    refine Ex.ite (fun c4 => ?_) (fun c4 => bad (fun h => ?_))
    rotate_left
    · have c4 := icc_nle (m := (g 5 6).toInt) (n := p2.toInt) rfl rfl c4
      have := h.2.2.2; omega
    have c4 := icc_le (m := (g 5 6).toInt) (n := p2.toInt) rfl rfl c4
    refine Ex.lti (fun x xe xi => ?_)
    exact x_adv hfu hc (fun g1 L1 k1 k2 => Ex.ret (Or.inl ⟨⟨by omega, by omega, by omega, by omega⟩, by omega, k1, k2⟩))
  refine Ex.cb key (fun r g1 L1 hq => ?_)
  rcases hq with ⟨k1, k2, k3, k4⟩ | ⟨k1, rfl, k3, k4, rfl⟩
  · exact h1 k1 r g1 L1 k2 k3 k4
  · exact h0 k1 g1 k3 k4
theorem x_numB {p1 p2 : Int32} {K : Int32 → gT → lT → Option (ρ × zS)} (hk : (g 5 4).toInt = 5) (h : Ex (K 0 g L) Q) : Ex (cb (fX6_readNumber_5 fu p1 p2 g L) K) Q := by
  have key : Ex (fX6_readNumber_5 fu p1 p2 g L) (fun (r : Int32) g1 L1 => r = 0 ∧ g1 = g ∧ L1 = L) := by
    unfold fX6_readNumber_5
    rw [if_neg (fun h => by have := icc_eq (m := (g 5 4).toInt) (n := 1) rfl (by decide) h; omega)]
    exact x_refB hk (Ex.ret ⟨rfl, rfl, rfl⟩)
  refine Ex.cb key (fun r g1 L1 hq => ?_)
  obtain ⟨rfl, rfl, rfl⟩ := hq
  exact h
theorem xW_isW (hc : cX b n P g) (k : Nat) : xW g k ↔ isW b n P k := by
  obtain ⟨a1, a2, a3, a4, a5, a6, a7, a8, a9, a10, a11⟩ := hc
  have hE := tE_le (b := b) a3
  have hl := wd_le k
  unfold xW isW
  have eP : (g 5 5).toInt.toNat = P := by omega
  rw [eP]
  constructor
  · rintro ⟨h1, h2, h3⟩
    refine ⟨by omega, by omega, fun i hi => ?_⟩
    rw [← a5 (P + i) (by omega)]; exact h3 i hi
  · rintro ⟨h1, h2, h3⟩
    refine ⟨by omega, by omega, fun i hi => ?_⟩
    rw [a5 (P + i) (by omega)]; exact h3 i hi
theorem xW_B (hk : (g 5 4).toInt = 5) (k : Nat) : ¬ xW g k := fun h => by have := h.1; omega
end CX
theorem isW_u {b : Nat → Int32} {n P j k : Nat} (hj : j < 17) (hk : k < 17) (h1 : isW b n P j) (h2 : isW b n P k) : j = k := by
  have e1 := pcon (P := P) hj h1.2.2
  have e2 := pcon (P := P) hk h2.2.2
  have el : (wd j).length = (wd k).length := by have := h1.2.1; have := h2.2.1; omega
  rw [el] at e1
  have e : wI j = wI k := e1.symm.trans e2
  have inj : ∀ j, j < 17 → ∀ k, k < 17 → wI j = wI k → j = k := by decide
  exact inj j hj k hk e
/-! the reference -/
theorem cM.pn {b : Nat → Int32} {n P : Nat} {g : gT} {L : lT} (h : cM b n P g L) : pN g := by
  obtain ⟨a1, a2, a3, a4, a5, a6, a7, a8, a9, a10, a11, a12, a13, a14⟩ := h
  have hE := tE_le (b := b) a3
  refine ⟨by omega, by omega, fun hs => ?_⟩
  have : P < n := by
    by_cases c : P < n
    · exact c
    · rw [a7, tK_ge c] at hs; exact absurd rfl hs
  have := hE.2.2 this
  omega
theorem cM.fr {b : Nat → Int32} {n P : Nat} {g g1 : gT} {L : lT} {A B : List Nat} (h : cM b n P g L) (hI : zI MT g1) (hF : Fr A B g g1) (h19 : 19 ∉ A) (h20 : 20 ∉ A) (h22 : 22 ∉ A) (h23 : 23 ∉ A) (h24 : 24 ∉ A) (h25 : 25 ∉ A) (h26 : 26 ∉ A) (h27 : 27 ∉ A) (h28 : 28 ∉ A) (h13 : 13 ∉ B) : cM b n P g1 L := by
  obtain ⟨a1, a2, a3, a4, a5, a6, a7, a8, a9, a10, a11, a12, a13, a14⟩ := h
  have e13 : g1 13 = g 13 := hF.2 13 (by decide) h13
  exact ⟨hI, a2, a3, (hF.i h22).trans a4, fun j hj => by rw [e13]; exact a5 j hj, (hF.i h25).trans a6, (hF.i h24).trans a7, (hF.i h23).trans a8, (hF.i h27).trans a9, fun hP => (hF.1 28 h28).trans (a10 hP), (hF.i h26).trans a11, a12, (hF.i h19).trans a13, (hF.i h20).trans a14⟩
theorem bM.fr {P : Nat} {g g1 : gT} {A B : List Nat} (h : bM P g) (hI : zI MT g1) (hF : Fr A B g g1) (h19 : 19 ∉ A) (h20 : 20 ∉ A) (h22 : 22 ∉ A) (h23 : 23 ∉ A) (h24 : 24 ∉ A) (h25 : 25 ∉ A) : bM P g1 := ⟨hI, h.2.1.fr hF h22 h23 h24 h25, by rw [hF.i h19]; exact h.2.2.1, (hF.i h20).trans h.2.2.2⟩
theorem sM_3 {k : Int} : sM k = 3 ↔ k = 3 := by unfold sM; split <;> (try split) <;> omega
theorem sM_2 {k : Int} : sM k = 2 ↔ k = 1 := by unfold sM; split <;> (try split) <;> omega
theorem sM_1 {k : Int} : sM k = 1 ↔ k = 2 := by unfold sM; split <;> (try split) <;> omega
theorem sM_0 {k : Int} : sM k = 0 ↔ k = 0 := by unfold sM; split <;> (try split) <;> omega
section CM
variable {ρ : Type} {Q : ρ → gT → lT → Prop} {b : Nat → Int32} {n P : Nat} {g : gT} {L : lT} {fu : Nat}
theorem goes_eq0 (hfu : 1180591620717411303424 ≤ fu) (hc : cm b n P g) : ∃ g1 L1, fX12_goes fu g L = some ((), (g1, L1)) ∧ cM b n (nx b n P) g1 L1 ∧ QG g g1 := by
  obtain ⟨a1, a2, a3, a4, a5, a6, a7, a8, a9, a10, a11, a13, a14⟩ := id hc
  have hE := tE_le (b := b) a3
  obtain ⟨x, g1, L1, e, hq⟩ := tX12_goes fu hfu g L a1 (by omega)
  obtain ⟨⟨k1, k2, k3, k4⟩, hm⟩ := hq
  have eN : mN g = n := by show (g 0 22).toInt.toNat = n; omega
  have e3 : (g 0 23).toInt.toNat = tE b n P := by omega
  have e13 : g1 13 = g 13 := k2.2 13 (by decide) (by decide)
  have eN1 : mN g1 = n := by show (g1 0 22).toInt.toNat = n; rw [k2.i (by decide)]; omega
  rw [eN, e3, sk_c a5] at hm
  have hn := nx_le (b := b) a3
  obtain ⟨t1, t2, t3, t4, t5, t6, t7⟩ := hm
  rw [e13, eN1] at t2 t3 t4 t5 t6 t7
  rw [tK_c a5] at t2 t7
  rw [tE_c a5] at t3 t6 t7
  rw [tV_c hn.2.1 a5] at t4
  refine ⟨g1, L1, e, ⟨k1, a2, hn.2.1, (k2.i (by decide)).trans a4, fun j hj => by rw [e13]; exact a5 j hj, t1, t2, t3, t4, fun h => (t5 h).trans (a5 _ h), t6, fun h => ?_, (k2.i (by decide)).trans a13, (k2.i (by decide)).trans a14⟩, ⟨k1, k2, k3, k4⟩⟩
  have hE2 := tE_le (b := b) hn.2.1
  have pc : ∀ k, nx b n P + k ≤ n → pI (g 13) (nx b n P) k = pI b (nx b n P) k := by
    intro k
    induction k with
    | zero => intro _; rfl
    | succ k ih => intro hk; unfold pI; rw [ih (by omega), a5 (nx b n P + k) (by omega)]
  rw [← pc _ (by show nx b n P + (tE b n (nx b n P) - nx b n P) ≤ n; omega)]
  exact t7 h
theorem goes_eq (hfu : 1180591620717411303424 ≤ fu) (hc : cM b n P g L) : ∃ g1 L1, fX12_goes fu g L = some ((), (g1, L1)) ∧ cM b n (nx b n P) g1 L1 ∧ Fr aG [] g g1 := by
  obtain ⟨g1, L1, h1, h2, h3⟩ := goes_eq0 (fu := fu) (L := L) hfu hc.c
  exact ⟨g1, L1, h1, h2, h3.2.1⟩
theorem m_goes {K : Unit → gT → lT → Option (ρ × zS)} (hfu : 1180591620717411303424 ≤ fu) (hc : cM b n P g L) (h : ∀ g1 L1, cM b n (nx b n P) g1 L1 → Fr aG [] g g1 → Ex (K () g1 L1) Q) : Ex (cb (fX12_goes fu g L) K) Q := by
  obtain ⟨g1, L1, e, h1, h2⟩ := goes_eq hfu hc
  rw [e]; exact h g1 L1 h1 h2
theorem wrong_eq {w : Int32} (hw : w.toInt ≠ 0) (hc : cM b n P g L) : ∃ g1, fX12_wrong fu w g L = some ((), (g1, L)) ∧ bM P g1 ∧ Fr [19, 20] [] g g1 := by
  have hpn := hc.pn
  obtain ⟨a1, a2, a3, a4, a5, a6, a7, a8, a9, a10, a11, a12, a13, a14⟩ := hc
  have hF : Fr [19, 20] [] g (upd2 (upd2 g 0 19 w) 0 20 (upd2 g 0 19 w 0 25)) := (Fr.refl.u0 (by decide)).u0 (by decide)
  refine ⟨_, ?_, ⟨(a1.updN rfl).updN rfl, hpn.fr hF (by decide) (by decide) (by decide) (by decide), ?_, ?_⟩, hF⟩
  · unfold fX12_wrong
    rw [if_pos (ic_eq.mpr (show (g 0 19).toInt = (0 : Int32).toInt from a13))]
    rfl
  · exact hw
  · rw [upd2_at]; exact a6
theorem m_wrong {w : Int32} {K : Unit → gT → lT → Option (ρ × zS)} (hw : w.toInt ≠ 0) (hc : cM b n P g L) (h : ∀ g1, bM P g1 → Fr [19, 20] [] g g1 → Ex (K () g1 L) Q) : Ex (cb (fX12_wrong fu w g L) K) Q := by
  obtain ⟨g1, e, h1, h2⟩ := wrong_eq (fu := fu) hw hc
  rw [e]; exact h g1 h1 h2
theorem m_wrongB {w : Int32} {K : Unit → gT → lT → Option (ρ × zS)} (hb : (g 0 19).toInt ≠ 0) (h : Ex (K () g L) Q) : Ex (cb (fX12_wrong fu w g L) K) Q := by
  unfold fX12_wrong
  rw [if_neg (fun h => hb (icc_eq (m := (g 0 19).toInt) (n := 0) rfl (by decide) h))]; exact h
theorem good_eq (hg : (g 0 19).toInt = 0) : fX12_isGood fu g L = some (1, (g, L)) := by
  unfold fX12_isGood fX12_isGood_p12
  rw [ckb1, if_pos (ic_eq.mpr (show (g 0 19).toInt = (0 : Int32).toInt from hg))]
theorem bad_eq (hg : (g 0 19).toInt ≠ 0) : fX12_isGood fu g L = some (0, (g, L)) := by
  unfold fX12_isGood fX12_isGood_p12
  rw [ckb0, if_neg (fun h => hg (icc_eq (m := (g 0 19).toInt) (n := 0) rfl (by decide) h))]
theorem sign_eq {c : Int32} (hc : cM b n P g L) : (isS b n P c.toInt ∧ fX12_isSign fu c g L = some (1, (g, L))) ∨ (¬ isS b n P c.toInt ∧ fX12_isSign fu c g L = some (0, (g, L))) := by
  obtain ⟨a1, a2, a3, a4, a5, a6, a7, a8, a9, a10, a11, a12, a13, a14⟩ := hc
  unfold fX12_isSign fX12_isSign_p20 fX12_isSign_p21
  rw [ckb0, ckb1]
  by_cases c1 : g 0 24 = 3
  · rw [if_pos c1]
    have c1 := icc_eq (m := (g 0 24).toInt) (n := 3) rfl (by decide) c1
    have hk : tK b n P = 3 := sM_3.mp (by omega)
    have hP : P < n := tK_n0 (b := b) (by omega)
    rw [a10 hP]
    by_cases c2 : b P = c
    · rw [if_pos c2]; exact Or.inl ⟨⟨hk, by rw [c2]⟩, rfl⟩
    · rw [if_neg c2]; exact Or.inr ⟨fun h => c2 (ic_eq.mpr h.2), rfl⟩
  · rw [if_neg c1]
    have c1 := icc_neq (m := (g 0 24).toInt) (n := 3) rfl (by decide) c1
    exact Or.inr ⟨fun h => c1 (by rw [a7]; exact sM_3.mpr h.1), rfl⟩
theorem m_sign {c : Int32} {A B : gT → lT → Option (ρ × zS)} (hc : cM b n P g L) (h1 : isS b n P c.toInt → Ex (B g L) Q) (h0 : ¬ isS b n P c.toInt → Ex (A g L) Q) : Ex (cb (fX12_isSign fu c g L) (fun x g1 L1 => if x = 0 then A g1 L1 else B g1 L1)) Q := by
  rcases sign_eq (fu := fu) (c := c) hc with ⟨h, e⟩ | ⟨h, e⟩
  · rw [e]; exact e_b1 (h1 h)
  · rw [e]; exact e_b0 (h0 h)
theorem known_eq (hfu : 1180591620717411303424 ≤ fu) (hc : cM b n P g L) : ∃ x : Int32, fX12_knownWord fu g L = some (x, (g, L)) ∧ ((∃ k : Nat, k < 17 ∧ x.toInt = (k : Int) ∧ isW b n P k) ∨ (x.toInt = -1 ∧ ∀ k, k < 17 → ¬ isW b n P k)) := by
  obtain ⟨a1, a2, a3, a4, a5, a6, a7, a8, a9, a10, a11, a12, a13, a14⟩ := hc
  have hE := tE_le (b := b) a3
  have key : Ex (fX12_knownWord fu g L) (fun (x : Int32) g1 L1 => g1 = g ∧ L1 = L ∧ ((∃ k : Nat, k < 17 ∧ x.toInt = (k : Int) ∧ isW b n P k) ∨ (x.toInt = -1 ∧ ∀ k, k < 17 → ¬ isW b n P k))) := by
    have no : (∀ k, k < 17 → ¬ isW b n P k) → Ex (some ((-1 : Int32), (g, L))) (fun (x : Int32) g1 L1 => g1 = g ∧ L1 = L ∧ ((∃ k : Nat, k < 17 ∧ x.toInt = (k : Int) ∧ isW b n P k) ∨ (x.toInt = -1 ∧ ∀ k, k < 17 → ¬ isW b n P k))) := fun h => Ex.ret ⟨rfl, rfl, Or.inr ⟨rfl, h⟩⟩
    unfold fX12_knownWord fX12_knownWord_p17
    refine Ex.ite (fun c1 => ?_) (fun c1 => no (fun k _ h => ?_))
    rotate_left
    · have c1 := icc_neq (m := (g 0 24).toInt) (n := 1) rfl (by decide) c1
      exact c1 (by rw [a7]; exact sM_1.mpr h.1)
    have c1 := icc_eq (m := (g 0 24).toInt) (n := 1) rfl (by decide) c1
    have hk2 : tK b n P = 2 := sM_1.mp (by omega)
    have hP : P < n := tK_n0 (b := b) (by omega)
    have hE3 := hE.2.2 hP
    refine Ex.ite (fun c2 => ?_) (fun c2 => no (fun k hk h => ?_))
    rotate_left
    · have c2 := icc_nle (m := (g 0 26).toInt) (n := 6) rfl (by decide) c2
      have := wd_le k
      have := h.2.1
      omega
    have c2 := icc_le (m := (g 0 26).toInt) (n := 6) rfl (by decide) c2
    have hw := a12 hk2
    have hl : ∀ i, i < tE b n P - P → 97 ≤ (b (P + i)).toInt ∧ (b (P + i)).toInt ≤ 122 := fun i hi => kd_2 ((tE_all (Or.inr hk2) (by omega) (by omega)).trans hk2)
    unfold fX12_knownWord_l21
    refine Ex.loop (α := Int32 × gT × lT) (fun v => (0 ≤ v.1.toInt ∧ v.1.toInt ≤ 17) ∧ v.2.1 = g ∧ v.2.2 = L ∧ ∀ k : Nat, (k : Int) < v.1.toInt → ¬ isW b n P k) (fun v => 18 - v.1.toInt) (by omega) (by show 18 - (0 : Int32).toInt < (fu : Int); have : (0 : Int32).toInt = 0 := rfl; omega) ⟨(show 0 ≤ (0 : Int32).toInt ∧ (0 : Int32).toInt ≤ 17 from by decide), rfl, rfl, fun k hk => absurd (show (k : Int) < 0 from hk) (by omega)⟩ (fun k21 v hv ih => ?_)
    obtain ⟨v1, g2, L2⟩ := v
    obtain ⟨hv, e1, e2, hm⟩ := hv
    have hv : 0 ≤ v1.toInt ∧ v1.toInt ≤ 17 := hv
    have e1 : g2 = g := e1
    have e2 : L2 = L := e2
    have hm : ∀ k : Nat, (k : Int) < v1.toInt → ¬ isW b n P k := hm
    subst e1 e2
    show Ex (fX12_knownWord_s21 fu k21 v1 g2 L2) _
    unfold fX12_knownWord_s21
    refine Ex.ite (fun c3 => no (fun k hk => hm k ?_)) (fun c3 => ?_)
    · have c3 := icc_le (m := 17) (n := v1.toInt) (by decide) rfl c3
      omega
    have c3 := icc_nle (m := 17) (n := v1.toInt) (by decide) rfl c3
    obtain ⟨y, ey, hy⟩ := let_eq (fu := fu) (v := v1) (g := g2) (L := L2) (by omega) (by omega)
    rw [ey]
    have hcmp : lg_cmp y (L2 0 29) = 0 ↔ y.toInt = (L2 0 29).toInt := by
      unfold lg_cmp
      constructor
      · intro h
        split at h
        · exact absurd h (by decide)
        · split at h
          · rename_i h9; rw [h9]
          · exact absurd h (by decide)
      · intro h
        have e : y = L2 0 29 := Int64.toInt_inj.mp h
        rw [e, if_neg (fun h9 => by have := Int64.lt_iff_toInt_lt.mp h9; omega), if_pos rfl]
    show Ex (if lg_cmp y (L2 0 29) = 0 then some (v1, (g2, L2)) else k21 ((v1 + 1), g2, L2)) _
    refine Ex.ite (fun c4 => ?_) (fun c4 => ?_)
    · have c4 := hcmp.mp c4
      have hp := pinj (b := b) (P := P) (m := tE b n P - P) (k := v1.toInt.toNat) (by omega) hl (by omega) (by omega) (by rw [← hw, ← c4, hy])
      exact Ex.ret ⟨rfl, rfl, Or.inl ⟨v1.toInt.toNat, by omega, by omega, hk2, by omega, hp.2⟩⟩
    · generalize hw1 : v1 + 1 = w
      have ew : w.toInt = v1.toInt + 1 := by rw [← hw1]; exact ic_addc rfl (by decide) (by omega) (by omega)
      refine ih (w, g2, L2) ⟨(show 0 ≤ w.toInt ∧ w.toInt ≤ 17 by omega), rfl, rfl, fun k hk => ?_⟩ (show 18 - w.toInt < 18 - v1.toInt by omega) (show 0 < 18 - v1.toInt by omega)
      have hk : (k : Int) < w.toInt := hk
      by_cases e : k = v1.toInt.toNat
      · subst e
        intro hW
        refine c4 (hcmp.mpr ?_)
        have h9 := pcon (P := P) (k := v1.toInt.toNat) (by omega) hW.2.2
        rw [hy, hw, ← h9]
        congr 1
        have := hW.2.1
        omega
      · exact hm k (by omega)
  obtain ⟨x, g1, L1, e, rfl, rfl, hx⟩ := key
  exact ⟨x, e, hx⟩
theorem m_known {K : Int32 → gT → lT → Option (ρ × zS)} (hfu : 1180591620717411303424 ≤ fu) (hc : cM b n P g L) (h : ∀ x : Int32, ((∃ k : Nat, k < 17 ∧ x.toInt = (k : Int) ∧ isW b n P k) ∨ (x.toInt = -1 ∧ ∀ k, k < 17 → ¬ isW b n P k)) → Ex (K x g L) Q) : Ex (cb (fX12_knownWord fu g L) K) Q := by
  obtain ⟨x, e, hx⟩ := known_eq hfu hc
  rw [e]; exact h x hx
theorem m_num {p1 p2 : Int32} {K : Int32 → gT → lT → Option (ρ × zS)} (hfu : 1180591620717411303424 ≤ fu) (hc : cM b n P g L) (h1 : nuC b n p1.toInt p2.toInt P → ∀ (r : Int32) g1 L1, r.toInt = tV b n P → cM b n (nx b n P) g1 L1 → Fr aG [] g g1 → Ex (K r g1 L1) Q) (h0 : ¬ nuC b n p1.toInt p2.toInt P → ∀ (r : Int32) g1, bM P g1 → Fr [19, 20] [] g g1 → Ex (K r g1 L) Q) : Ex (cb (fX12_number fu p1 p2 g L) K) Q := by
  obtain ⟨a1, a2, a3, a4, a5, a6, a7, a8, a9, a10, a11, a12, a13, a14⟩ := id hc
  have key : Ex (fX12_number fu p1 p2 g L) (fun (r : Int32) g1 L1 => (nuC b n p1.toInt p2.toInt P ∧ r.toInt = tV b n P ∧ cM b n (nx b n P) g1 L1 ∧ Fr aG [] g g1) ∨ (¬ nuC b n p1.toInt p2.toInt P ∧ bM P g1 ∧ Fr [19, 20] [] g g1 ∧ L1 = L)) := by
    have bad : ∀ (w : Int32) (K : Unit → gT → lT → Option (Int32 × zS)), w.toInt ≠ 0 → ¬ nuC b n p1.toInt p2.toInt P → (∀ g1 L1, K () g1 L1 = fX12_number_p54 fu g1 L1) → Ex (cb (fX12_wrong fu w g L) K) (fun (r : Int32) g1 L1 => (nuC b n p1.toInt p2.toInt P ∧ r.toInt = tV b n P ∧ cM b n (nx b n P) g1 L1 ∧ Fr aG [] g g1) ∨ (¬ nuC b n p1.toInt p2.toInt P ∧ bM P g1 ∧ Fr [19, 20] [] g g1 ∧ L1 = L)) := by
      intro w K hw hn hK
      refine m_wrong hw hc (fun g1 k1 k2 => ?_)
      rw [hK]
      unfold fX12_number_p54
      refine Ex.lti (fun x xe xi => ?_)
      refine e_good (fun h => absurd h k1.2.2.1) (fun _ => ?_)
      unfold fX12_number_p70
      exact Ex.ret (Or.inr ⟨hn, k1, k2, rfl⟩)
    unfold fX12_number
    refine e_good (fun hg => ?_) (fun hb => absurd a13 hb)
    refine Ex.ite (fun c => ?_) (fun c => bad 1 _ (by decide) (fun h => ?_) (fun _ _ => rfl))
    rotate_left
    · have c := icc_neq (m := (g 0 24).toInt) (n := 2) rfl (by decide) c
      exact c (by rw [a7]; exact sM_2.mpr h.1)
    have c := icc_eq (m := (g 0 24).toInt) (n := 2) rfl (by decide) c
    have hk : tK b n P = 1 := sM_2.mp (by omega)
    unfold fX12_number_p49
    refine Ex.ite (fun c2 => bad 2 _ (by decide) (fun h => ?_) (fun _ _ => rfl)) (fun c2 => ?_)
    · have c2 := icc_lt (m := 4) (n := (g 0 26).toInt) (by decide) rfl c2
      have := h.2.1; omega
    have c2 := icc_nlt (m := 4) (n := (g 0 26).toInt) (by decide) rfl c2
    refine Ex.ite (fun c3 => bad 2 _ (by decide) (fun h => ?_) (fun _ _ => rfl)) (fun c3 => ?_)
    · have c3 := icc_lt (m := (g 0 27).toInt) (n := p1.toInt) rfl rfl c3
      have := h.2.2.1; omega
    have c3 := icc_nlt (m := (g 0 27).toInt) (n := p1.toInt) rfl rfl c3
    refine Ex.ite (fun c4 => ?_) (fun c4 => bad 2 _ (by decide) (fun h => ?_) (fun _ _ => rfl))
    rotate_left
    · have c4 := icc_nle (m := (g 0 27).toInt) (n := p2.toInt) rfl rfl c4
      have := h.2.2.2; omega
    have c4 := icc_le (m := (g 0 27).toInt) (n := p2.toInt) rfl rfl c4
    unfold fX12_number_p54
    refine Ex.lti (fun x xe xi => ?_)
    refine e_good (fun _ => ?_) (fun h => absurd hg h)
    refine m_goes hfu hc (fun g1 L1 k1 k2 => ?_)
    unfold fX12_number_p70
    exact Ex.ret (Or.inl ⟨⟨hk, by omega, by omega, by omega⟩, by omega, k1, k2⟩)
  refine Ex.cb key (fun r g1 L1 hq => ?_)
  rcases hq with ⟨k1, k2, k3, k4⟩ | ⟨k1, k3, k4, rfl⟩
  · exact h1 k1 r g1 L1 k2 k3 k4
  · exact h0 k1 r g1 k3 k4
theorem m_numB {p1 p2 : Int32} {K : Int32 → gT → lT → Option (ρ × zS)} (hb : (g 0 19).toInt ≠ 0) (h : Ex (K 0 g L) Q) : Ex (cb (fX12_number fu p1 p2 g L) K) Q := by
  have key : Ex (fX12_number fu p1 p2 g L) (fun (r : Int32) g1 L1 => r = 0 ∧ g1 = g ∧ L1 = L) := by
    unfold fX12_number
    exact e_good (fun hg => absurd hg hb) (fun _ => Ex.ret ⟨rfl, rfl, rfl⟩)
  refine Ex.cb key (fun r g1 L1 hq => ?_)
  obtain ⟨rfl, rfl, rfl⟩ := hq
  exact h
end CM
