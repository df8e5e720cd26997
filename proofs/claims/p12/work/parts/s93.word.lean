/-! ===== words ===== -/
def wdl : List (List Int) := [[111, 118, 101, 114], [108, 97, 116, 101], [99, 108, 111, 99, 107], [114, 111, 111, 109], [112, 101, 111, 112, 108, 101], [108, 101, 115, 115, 111, 110], [97, 108, 108], [115, 111, 109, 101], [108, 105, 109, 105, 116], [109, 97, 121, 98, 101], [103, 97, 112], [119, 97, 108, 107], [115, 116, 97, 105, 114], [114, 117, 108, 101], [97, 110, 100], [111, 114], [110, 111, 116]]
abbrev wd (k : Nat) : List Int := wdl.getD k []
abbrev wI (k : Nat) : Int := (wd k).foldl (fun a c => 32 * a + (c - 96)) 0
/-- the word number k stands at place P -/
def isW (b : Nat → Int32) (n P k : Nat) : Prop := tK b n P = 2 ∧ tE b n P = P + (wd k).length ∧ ∀ i, i < (wd k).length → (b (P + i)).toInt = (wd k).getD i 0
def xW (g : gT) (k : Nat) : Prop := (g 5 4).toInt = 2 ∧ (g 5 3).toInt = (g 5 5).toInt + ((wd k).length : Int) ∧ ∀ i, i < (wd k).length → (g 14 ((g 5 5).toInt.toNat + i)).toInt = (wd k).getD i 0
theorem wd_le : ∀ k, (wd k).length ≤ 6 := by
  intro k
  by_cases h : k < 17
  · have : ∀ k, k < 17 → (wd k).length ≤ 6 := by decide
    exact this k h
  · have e : wd k = [] := by
      show wdl.getD k [] = []
      rw [List.getD_eq_getElem?_getD, List.getElem?_eq_none (by have : wdl.length = 17 := rfl; omega)]; rfl
    rw [e]; exact Nat.zero_le _
theorem e_overW {ρ : Type} {Q : ρ → gT → lT → Prop} {g : gT} {L : lT} {fu : Nat} {A B : gT → lT → Option (ρ × zS)} (hfu : 1180591620717411303424 ≤ fu) (hI : zI XT g) (h1 : xW g 0 → Ex (B g L) Q) (h0 : ¬ xW g 0 → Ex (A g L) Q) : Ex (cb (fX6_isWord_5_over fu g L) (fun x g1 L1 => if x = 0 then A g1 L1 else B g1 L1)) Q := by
  have q3 := hI 5 3 0 700 rfl
  have q5 := hI 5 5 0 700 rfl
  have key : Ex (fX6_isWord_5_over fu g L) (fun (x : Int32) g1 L1 => g1 = g ∧ L1 = L ∧ ((x = 1 ∧ xW g 0) ∨ (x = 0 ∧ ¬ xW g 0))) := by
    unfold fX6_isWord_5_over fX6_isWord_5_over_p24
    rw [ckb0]
    refine Ex.ite (fun c1 => ?_) (fun c1 => Ex.ret ⟨rfl, rfl, Or.inr ⟨rfl, fun h => ?_⟩⟩)
    rotate_left
    · have c1 := icc_neq (m := (g 5 4).toInt) (n := 2) rfl (by decide) c1
      exact c1 h.1
    have c1 := icc_eq (m := (g 5 4).toInt) (n := 2) rfl (by decide) c1
    have ez : ((g 5 3) - (g 5 5)).toInt = (g 5 3).toInt - (g 5 5).toInt := ic_subc rfl rfl (by omega) (by omega)
    refine Ex.ite (fun c2 => ?_) (fun c2 => Ex.ret ⟨rfl, rfl, Or.inr ⟨rfl, fun h => ?_⟩⟩)
    rotate_left
    · have c2 := icc_neq (m := ((g 5 3) - (g 5 5)).toInt) (n := 4) rfl (by decide) c2
      have h2 : (g 5 3).toInt = (g 5 5).toInt + 4 := h.2.1
      omega
    have c2 := icc_eq (m := ((g 5 3) - (g 5 5)).toInt) (n := 4) rfl (by decide) c2
    unfold fX6_isWord_5_over_l28
    refine Ex.loop (α := Int32 × gT × lT) (fun v => (0 ≤ v.1.toInt ∧ v.1.toInt ≤ 4) ∧ v.2.1 = g ∧ v.2.2 = L ∧ ∀ i : Nat, (i : Int) < v.1.toInt → (g 14 ((g 5 5).toInt.toNat + i)).toInt = (wd 0).getD i 0) (fun v => 4 - v.1.toInt) (by omega) (by show 4 - (0 : Int32).toInt < (fu : Int); have : (0 : Int32).toInt = 0 := rfl; omega) ⟨(show 0 ≤ (0 : Int32).toInt ∧ (0 : Int32).toInt ≤ 4 from by decide), rfl, rfl, fun i hi => absurd (show (i : Int) < 0 from hi) (by omega)⟩ (fun k28 v hv ih => ?_)
    obtain ⟨v2, g', L'⟩ := v
    obtain ⟨hv, e1, e2, hm⟩ := hv
    have hv : 0 ≤ v2.toInt ∧ v2.toInt ≤ 4 := hv
    have e1 : g' = g := e1
    have e2 : L' = L := e2
    have hm : ∀ i : Nat, (i : Int) < v2.toInt → (g 14 ((g 5 5).toInt.toNat + i)).toInt = (wd 0).getD i 0 := hm
    subst e1 e2
    show Ex (fX6_isWord_5_over_s28 fu k28 v2 g' L') _
    unfold fX6_isWord_5_over_s28
    rw [ckb0, ckb1]
    refine Ex.ite (fun c3 => Ex.ret ⟨rfl, rfl, Or.inl ⟨rfl, c1, ?_, fun i hi => hm i ?_⟩⟩) (fun c3 => ?_)
    · show (g' 5 3).toInt = (g' 5 5).toInt + 4
      omega
    · have c3 := icc_le (m := 4) (n := v2.toInt) (by decide) rfl c3
      have hi : i < 4 := hi
      omega
    have c3 := icc_nle (m := 4) (n := v2.toInt) (by decide) rfl c3
    have ew : ((g' 5 5) + v2).toInt = (g' 5 5).toInt + v2.toInt := ic_addc rfl rfl (by omega) (by omega)
    refine Ex.ck (by omega) (by omega) ?_
    refine Ex.ck (by omega) (by omega) ?_
    have en : ((g' 5 5) + v2).toNatClampNeg = (g' 5 5).toInt.toNat + v2.toInt.toNat := by rw [nc, ew]; omega
    have ev : v2.toNatClampNeg = v2.toInt.toNat := nc v2
    rw [en, ev]
    have hs : ∀ i : Nat, i < 4 → (sch 12 i).toInt = (wd 0).getD i 0 := by decide
    have hs := hs v2.toInt.toNat (by omega)
    refine Ex.ite (fun c4 => ?_) (fun c4 => Ex.ret ⟨rfl, rfl, Or.inr ⟨rfl, fun h => ?_⟩⟩)
    · have c4 := icc_eq (m := (g' 14 ((g' 5 5).toInt.toNat + v2.toInt.toNat)).toInt) (n := (sch 12 v2.toInt.toNat).toInt) rfl rfl c4
      generalize hw : v2 + 1 = w
      have ew : w.toInt = v2.toInt + 1 := by rw [← hw]; exact ic_addc rfl (by decide) (by omega) (by omega)
      refine ih (w, g', L') ⟨(show 0 ≤ w.toInt ∧ w.toInt ≤ 4 by omega), rfl, rfl, fun i hi => ?_⟩ (show 4 - w.toInt < 4 - v2.toInt by omega) (show 0 < 4 - v2.toInt by omega)
      have hi : (i : Int) < w.toInt := hi
      by_cases e : i = v2.toInt.toNat
      · rw [e]; exact c4.trans hs
      · exact hm i (by omega)
    · have c4 := icc_neq (m := (g' 14 ((g' 5 5).toInt.toNat + v2.toInt.toNat)).toInt) (n := (sch 12 v2.toInt.toNat).toInt) rfl rfl c4
      have h3 := h.2.2 v2.toInt.toNat (show v2.toInt.toNat < 4 by omega)
      exact c4 (h3.trans hs.symm)
  refine Ex.cb key (fun x g1 L1 hx => ?_)
  obtain ⟨rfl, rfl, hx⟩ := hx
  rcases hx with ⟨rfl, hx⟩ | ⟨rfl, hx⟩
  · rw [if_neg (by decide)]; exact h1 hx
  · rw [if_pos rfl]; exact h0 hx
theorem e_lateW {ρ : Type} {Q : ρ → gT → lT → Prop} {g : gT} {L : lT} {fu : Nat} {A B : gT → lT → Option (ρ × zS)} (hfu : 1180591620717411303424 ≤ fu) (hI : zI XT g) (h1 : xW g 1 → Ex (B g L) Q) (h0 : ¬ xW g 1 → Ex (A g L) Q) : Ex (cb (fX6_isWord_5_late fu g L) (fun x g1 L1 => if x = 0 then A g1 L1 else B g1 L1)) Q := by
  have q3 := hI 5 3 0 700 rfl
  have q5 := hI 5 5 0 700 rfl
  have key : Ex (fX6_isWord_5_late fu g L) (fun (x : Int32) g1 L1 => g1 = g ∧ L1 = L ∧ ((x = 1 ∧ xW g 1) ∨ (x = 0 ∧ ¬ xW g 1))) := by
    unfold fX6_isWord_5_late fX6_isWord_5_late_p24
    rw [ckb0]
    refine Ex.ite (fun c1 => ?_) (fun c1 => Ex.ret ⟨rfl, rfl, Or.inr ⟨rfl, fun h => ?_⟩⟩)
    rotate_left
    · have c1 := icc_neq (m := (g 5 4).toInt) (n := 2) rfl (by decide) c1
      exact c1 h.1
    have c1 := icc_eq (m := (g 5 4).toInt) (n := 2) rfl (by decide) c1
    have ez : ((g 5 3) - (g 5 5)).toInt = (g 5 3).toInt - (g 5 5).toInt := ic_subc rfl rfl (by omega) (by omega)
    refine Ex.ite (fun c2 => ?_) (fun c2 => Ex.ret ⟨rfl, rfl, Or.inr ⟨rfl, fun h => ?_⟩⟩)
    rotate_left
    · have c2 := icc_neq (m := ((g 5 3) - (g 5 5)).toInt) (n := 4) rfl (by decide) c2
      have h2 : (g 5 3).toInt = (g 5 5).toInt + 4 := h.2.1
      omega
    have c2 := icc_eq (m := ((g 5 3) - (g 5 5)).toInt) (n := 4) rfl (by decide) c2
    unfold fX6_isWord_5_late_l28
    refine Ex.loop (α := Int32 × gT × lT) (fun v => (0 ≤ v.1.toInt ∧ v.1.toInt ≤ 4) ∧ v.2.1 = g ∧ v.2.2 = L ∧ ∀ i : Nat, (i : Int) < v.1.toInt → (g 14 ((g 5 5).toInt.toNat + i)).toInt = (wd 1).getD i 0) (fun v => 4 - v.1.toInt) (by omega) (by show 4 - (0 : Int32).toInt < (fu : Int); have : (0 : Int32).toInt = 0 := rfl; omega) ⟨(show 0 ≤ (0 : Int32).toInt ∧ (0 : Int32).toInt ≤ 4 from by decide), rfl, rfl, fun i hi => absurd (show (i : Int) < 0 from hi) (by omega)⟩ (fun k28 v hv ih => ?_)
    obtain ⟨v2, g', L'⟩ := v
    obtain ⟨hv, e1, e2, hm⟩ := hv
    have hv : 0 ≤ v2.toInt ∧ v2.toInt ≤ 4 := hv
    have e1 : g' = g := e1
    have e2 : L' = L := e2
    have hm : ∀ i : Nat, (i : Int) < v2.toInt → (g 14 ((g 5 5).toInt.toNat + i)).toInt = (wd 1).getD i 0 := hm
    subst e1 e2
    show Ex (fX6_isWord_5_late_s28 fu k28 v2 g' L') _
    unfold fX6_isWord_5_late_s28
    rw [ckb0, ckb1]
    refine Ex.ite (fun c3 => Ex.ret ⟨rfl, rfl, Or.inl ⟨rfl, c1, ?_, fun i hi => hm i ?_⟩⟩) (fun c3 => ?_)
    · show (g' 5 3).toInt = (g' 5 5).toInt + 4
      omega
    · have c3 := icc_le (m := 4) (n := v2.toInt) (by decide) rfl c3
      have hi : i < 4 := hi
      omega
    have c3 := icc_nle (m := 4) (n := v2.toInt) (by decide) rfl c3
    have ew : ((g' 5 5) + v2).toInt = (g' 5 5).toInt + v2.toInt := ic_addc rfl rfl (by omega) (by omega)
    refine Ex.ck (by omega) (by omega) ?_
    refine Ex.ck (by omega) (by omega) ?_
    have en : ((g' 5 5) + v2).toNatClampNeg = (g' 5 5).toInt.toNat + v2.toInt.toNat := by rw [nc, ew]; omega
    have ev : v2.toNatClampNeg = v2.toInt.toNat := nc v2
    rw [en, ev]
    have hs : ∀ i : Nat, i < 4 → (sch 13 i).toInt = (wd 1).getD i 0 := by decide
    have hs := hs v2.toInt.toNat (by omega)
    refine Ex.ite (fun c4 => ?_) (fun c4 => Ex.ret ⟨rfl, rfl, Or.inr ⟨rfl, fun h => ?_⟩⟩)
    · have c4 := icc_eq (m := (g' 14 ((g' 5 5).toInt.toNat + v2.toInt.toNat)).toInt) (n := (sch 13 v2.toInt.toNat).toInt) rfl rfl c4
      generalize hw : v2 + 1 = w
      have ew : w.toInt = v2.toInt + 1 := by rw [← hw]; exact ic_addc rfl (by decide) (by omega) (by omega)
      refine ih (w, g', L') ⟨(show 0 ≤ w.toInt ∧ w.toInt ≤ 4 by omega), rfl, rfl, fun i hi => ?_⟩ (show 4 - w.toInt < 4 - v2.toInt by omega) (show 0 < 4 - v2.toInt by omega)
      have hi : (i : Int) < w.toInt := hi
      by_cases e : i = v2.toInt.toNat
      · rw [e]; exact c4.trans hs
      · exact hm i (by omega)
    · have c4 := icc_neq (m := (g' 14 ((g' 5 5).toInt.toNat + v2.toInt.toNat)).toInt) (n := (sch 13 v2.toInt.toNat).toInt) rfl rfl c4
      have h3 := h.2.2 v2.toInt.toNat (show v2.toInt.toNat < 4 by omega)
      exact c4 (h3.trans hs.symm)
  refine Ex.cb key (fun x g1 L1 hx => ?_)
  obtain ⟨rfl, rfl, hx⟩ := hx
  rcases hx with ⟨rfl, hx⟩ | ⟨rfl, hx⟩
  · rw [if_neg (by decide)]; exact h1 hx
  · rw [if_pos rfl]; exact h0 hx
theorem e_clockW {ρ : Type} {Q : ρ → gT → lT → Prop} {g : gT} {L : lT} {fu : Nat} {A B : gT → lT → Option (ρ × zS)} (hfu : 1180591620717411303424 ≤ fu) (hI : zI XT g) (h1 : xW g 2 → Ex (B g L) Q) (h0 : ¬ xW g 2 → Ex (A g L) Q) : Ex (cb (fX6_isWord_5_clock fu g L) (fun x g1 L1 => if x = 0 then A g1 L1 else B g1 L1)) Q := by
  have q3 := hI 5 3 0 700 rfl
  have q5 := hI 5 5 0 700 rfl
  have key : Ex (fX6_isWord_5_clock fu g L) (fun (x : Int32) g1 L1 => g1 = g ∧ L1 = L ∧ ((x = 1 ∧ xW g 2) ∨ (x = 0 ∧ ¬ xW g 2))) := by
    unfold fX6_isWord_5_clock fX6_isWord_5_clock_p24
    rw [ckb0]
    refine Ex.ite (fun c1 => ?_) (fun c1 => Ex.ret ⟨rfl, rfl, Or.inr ⟨rfl, fun h => ?_⟩⟩)
    rotate_left
    · have c1 := icc_neq (m := (g 5 4).toInt) (n := 2) rfl (by decide) c1
      exact c1 h.1
    have c1 := icc_eq (m := (g 5 4).toInt) (n := 2) rfl (by decide) c1
    have ez : ((g 5 3) - (g 5 5)).toInt = (g 5 3).toInt - (g 5 5).toInt := ic_subc rfl rfl (by omega) (by omega)
    refine Ex.ite (fun c2 => ?_) (fun c2 => Ex.ret ⟨rfl, rfl, Or.inr ⟨rfl, fun h => ?_⟩⟩)
    rotate_left
    · have c2 := icc_neq (m := ((g 5 3) - (g 5 5)).toInt) (n := 5) rfl (by decide) c2
      have h2 : (g 5 3).toInt = (g 5 5).toInt + 5 := h.2.1
      omega
    have c2 := icc_eq (m := ((g 5 3) - (g 5 5)).toInt) (n := 5) rfl (by decide) c2
    unfold fX6_isWord_5_clock_l28
    refine Ex.loop (α := Int32 × gT × lT) (fun v => (0 ≤ v.1.toInt ∧ v.1.toInt ≤ 5) ∧ v.2.1 = g ∧ v.2.2 = L ∧ ∀ i : Nat, (i : Int) < v.1.toInt → (g 14 ((g 5 5).toInt.toNat + i)).toInt = (wd 2).getD i 0) (fun v => 5 - v.1.toInt) (by omega) (by show 5 - (0 : Int32).toInt < (fu : Int); have : (0 : Int32).toInt = 0 := rfl; omega) ⟨(show 0 ≤ (0 : Int32).toInt ∧ (0 : Int32).toInt ≤ 5 from by decide), rfl, rfl, fun i hi => absurd (show (i : Int) < 0 from hi) (by omega)⟩ (fun k28 v hv ih => ?_)
    obtain ⟨v2, g', L'⟩ := v
    obtain ⟨hv, e1, e2, hm⟩ := hv
    have hv : 0 ≤ v2.toInt ∧ v2.toInt ≤ 5 := hv
    have e1 : g' = g := e1
    have e2 : L' = L := e2
    have hm : ∀ i : Nat, (i : Int) < v2.toInt → (g 14 ((g 5 5).toInt.toNat + i)).toInt = (wd 2).getD i 0 := hm
    subst e1 e2
    show Ex (fX6_isWord_5_clock_s28 fu k28 v2 g' L') _
    unfold fX6_isWord_5_clock_s28
    rw [ckb0, ckb1]
    refine Ex.ite (fun c3 => Ex.ret ⟨rfl, rfl, Or.inl ⟨rfl, c1, ?_, fun i hi => hm i ?_⟩⟩) (fun c3 => ?_)
    · show (g' 5 3).toInt = (g' 5 5).toInt + 5
      omega
    · have c3 := icc_le (m := 5) (n := v2.toInt) (by decide) rfl c3
      have hi : i < 5 := hi
      omega
    have c3 := icc_nle (m := 5) (n := v2.toInt) (by decide) rfl c3
    have ew : ((g' 5 5) + v2).toInt = (g' 5 5).toInt + v2.toInt := ic_addc rfl rfl (by omega) (by omega)
    refine Ex.ck (by omega) (by omega) ?_
    refine Ex.ck (by omega) (by omega) ?_
    have en : ((g' 5 5) + v2).toNatClampNeg = (g' 5 5).toInt.toNat + v2.toInt.toNat := by rw [nc, ew]; omega
    have ev : v2.toNatClampNeg = v2.toInt.toNat := nc v2
    rw [en, ev]
    have hs : ∀ i : Nat, i < 5 → (sch 14 i).toInt = (wd 2).getD i 0 := by decide
    have hs := hs v2.toInt.toNat (by omega)
    refine Ex.ite (fun c4 => ?_) (fun c4 => Ex.ret ⟨rfl, rfl, Or.inr ⟨rfl, fun h => ?_⟩⟩)
    · have c4 := icc_eq (m := (g' 14 ((g' 5 5).toInt.toNat + v2.toInt.toNat)).toInt) (n := (sch 14 v2.toInt.toNat).toInt) rfl rfl c4
      generalize hw : v2 + 1 = w
      have ew : w.toInt = v2.toInt + 1 := by rw [← hw]; exact ic_addc rfl (by decide) (by omega) (by omega)
      refine ih (w, g', L') ⟨(show 0 ≤ w.toInt ∧ w.toInt ≤ 5 by omega), rfl, rfl, fun i hi => ?_⟩ (show 5 - w.toInt < 5 - v2.toInt by omega) (show 0 < 5 - v2.toInt by omega)
      have hi : (i : Int) < w.toInt := hi
      by_cases e : i = v2.toInt.toNat
      · rw [e]; exact c4.trans hs
      · exact hm i (by omega)
    · have c4 := icc_neq (m := (g' 14 ((g' 5 5).toInt.toNat + v2.toInt.toNat)).toInt) (n := (sch 14 v2.toInt.toNat).toInt) rfl rfl c4
      have h3 := h.2.2 v2.toInt.toNat (show v2.toInt.toNat < 5 by omega)
      exact c4 (h3.trans hs.symm)
  refine Ex.cb key (fun x g1 L1 hx => ?_)
  obtain ⟨rfl, rfl, hx⟩ := hx
  rcases hx with ⟨rfl, hx⟩ | ⟨rfl, hx⟩
  · rw [if_neg (by decide)]; exact h1 hx
  · rw [if_pos rfl]; exact h0 hx
theorem e_roomW {ρ : Type} {Q : ρ → gT → lT → Prop} {g : gT} {L : lT} {fu : Nat} {A B : gT → lT → Option (ρ × zS)} (hfu : 1180591620717411303424 ≤ fu) (hI : zI XT g) (h1 : xW g 3 → Ex (B g L) Q) (h0 : ¬ xW g 3 → Ex (A g L) Q) : Ex (cb (fX6_isWord_5_room fu g L) (fun x g1 L1 => if x = 0 then A g1 L1 else B g1 L1)) Q := by
  have q3 := hI 5 3 0 700 rfl
  have q5 := hI 5 5 0 700 rfl
  have key : Ex (fX6_isWord_5_room fu g L) (fun (x : Int32) g1 L1 => g1 = g ∧ L1 = L ∧ ((x = 1 ∧ xW g 3) ∨ (x = 0 ∧ ¬ xW g 3))) := by
    unfold fX6_isWord_5_room fX6_isWord_5_room_p24
    rw [ckb0]
    refine Ex.ite (fun c1 => ?_) (fun c1 => Ex.ret ⟨rfl, rfl, Or.inr ⟨rfl, fun h => ?_⟩⟩)
    rotate_left
    · have c1 := icc_neq (m := (g 5 4).toInt) (n := 2) rfl (by decide) c1
      exact c1 h.1
    have c1 := icc_eq (m := (g 5 4).toInt) (n := 2) rfl (by decide) c1
    have ez : ((g 5 3) - (g 5 5)).toInt = (g 5 3).toInt - (g 5 5).toInt := ic_subc rfl rfl (by omega) (by omega)
    refine Ex.ite (fun c2 => ?_) (fun c2 => Ex.ret ⟨rfl, rfl, Or.inr ⟨rfl, fun h => ?_⟩⟩)
    rotate_left
    · have c2 := icc_neq (m := ((g 5 3) - (g 5 5)).toInt) (n := 4) rfl (by decide) c2
      have h2 : (g 5 3).toInt = (g 5 5).toInt + 4 := h.2.1
      omega
    have c2 := icc_eq (m := ((g 5 3) - (g 5 5)).toInt) (n := 4) rfl (by decide) c2
    unfold fX6_isWord_5_room_l28
    refine Ex.loop (α := Int32 × gT × lT) (fun v => (0 ≤ v.1.toInt ∧ v.1.toInt ≤ 4) ∧ v.2.1 = g ∧ v.2.2 = L ∧ ∀ i : Nat, (i : Int) < v.1.toInt → (g 14 ((g 5 5).toInt.toNat + i)).toInt = (wd 3).getD i 0) (fun v => 4 - v.1.toInt) (by omega) (by show 4 - (0 : Int32).toInt < (fu : Int); have : (0 : Int32).toInt = 0 := rfl; omega) ⟨(show 0 ≤ (0 : Int32).toInt ∧ (0 : Int32).toInt ≤ 4 from by decide), rfl, rfl, fun i hi => absurd (show (i : Int) < 0 from hi) (by omega)⟩ (fun k28 v hv ih => ?_)
    obtain ⟨v2, g', L'⟩ := v
    obtain ⟨hv, e1, e2, hm⟩ := hv
    have hv : 0 ≤ v2.toInt ∧ v2.toInt ≤ 4 := hv
    have e1 : g' = g := e1
    have e2 : L' = L := e2
    have hm : ∀ i : Nat, (i : Int) < v2.toInt → (g 14 ((g 5 5).toInt.toNat + i)).toInt = (wd 3).getD i 0 := hm
    subst e1 e2
    show Ex (fX6_isWord_5_room_s28 fu k28 v2 g' L') _
    unfold fX6_isWord_5_room_s28
    rw [ckb0, ckb1]
    refine Ex.ite (fun c3 => Ex.ret ⟨rfl, rfl, Or.inl ⟨rfl, c1, ?_, fun i hi => hm i ?_⟩⟩) (fun c3 => ?_)
    · show (g' 5 3).toInt = (g' 5 5).toInt + 4
      omega
    · have c3 := icc_le (m := 4) (n := v2.toInt) (by decide) rfl c3
      have hi : i < 4 := hi
      omega
    have c3 := icc_nle (m := 4) (n := v2.toInt) (by decide) rfl c3
    have ew : ((g' 5 5) + v2).toInt = (g' 5 5).toInt + v2.toInt := ic_addc rfl rfl (by omega) (by omega)
    refine Ex.ck (by omega) (by omega) ?_
    refine Ex.ck (by omega) (by omega) ?_
    have en : ((g' 5 5) + v2).toNatClampNeg = (g' 5 5).toInt.toNat + v2.toInt.toNat := by rw [nc, ew]; omega
    have ev : v2.toNatClampNeg = v2.toInt.toNat := nc v2
    rw [en, ev]
    have hs : ∀ i : Nat, i < 4 → (sch 15 i).toInt = (wd 3).getD i 0 := by decide
    have hs := hs v2.toInt.toNat (by omega)
    refine Ex.ite (fun c4 => ?_) (fun c4 => Ex.ret ⟨rfl, rfl, Or.inr ⟨rfl, fun h => ?_⟩⟩)
    · have c4 := icc_eq (m := (g' 14 ((g' 5 5).toInt.toNat + v2.toInt.toNat)).toInt) (n := (sch 15 v2.toInt.toNat).toInt) rfl rfl c4
      generalize hw : v2 + 1 = w
      have ew : w.toInt = v2.toInt + 1 := by rw [← hw]; exact ic_addc rfl (by decide) (by omega) (by omega)
      refine ih (w, g', L') ⟨(show 0 ≤ w.toInt ∧ w.toInt ≤ 4 by omega), rfl, rfl, fun i hi => ?_⟩ (show 4 - w.toInt < 4 - v2.toInt by omega) (show 0 < 4 - v2.toInt by omega)
      have hi : (i : Int) < w.toInt := hi
      by_cases e : i = v2.toInt.toNat
      · rw [e]; exact c4.trans hs
      · exact hm i (by omega)
    · have c4 := icc_neq (m := (g' 14 ((g' 5 5).toInt.toNat + v2.toInt.toNat)).toInt) (n := (sch 15 v2.toInt.toNat).toInt) rfl rfl c4
      have h3 := h.2.2 v2.toInt.toNat (show v2.toInt.toNat < 4 by omega)
      exact c4 (h3.trans hs.symm)
  refine Ex.cb key (fun x g1 L1 hx => ?_)
  obtain ⟨rfl, rfl, hx⟩ := hx
  rcases hx with ⟨rfl, hx⟩ | ⟨rfl, hx⟩
  · rw [if_neg (by decide)]; exact h1 hx
  · rw [if_pos rfl]; exact h0 hx
theorem e_peopleW {ρ : Type} {Q : ρ → gT → lT → Prop} {g : gT} {L : lT} {fu : Nat} {A B : gT → lT → Option (ρ × zS)} (hfu : 1180591620717411303424 ≤ fu) (hI : zI XT g) (h1 : xW g 4 → Ex (B g L) Q) (h0 : ¬ xW g 4 → Ex (A g L) Q) : Ex (cb (fX6_isWord_5_people fu g L) (fun x g1 L1 => if x = 0 then A g1 L1 else B g1 L1)) Q := by
  have q3 := hI 5 3 0 700 rfl
  have q5 := hI 5 5 0 700 rfl
  have key : Ex (fX6_isWord_5_people fu g L) (fun (x : Int32) g1 L1 => g1 = g ∧ L1 = L ∧ ((x = 1 ∧ xW g 4) ∨ (x = 0 ∧ ¬ xW g 4))) := by
    unfold fX6_isWord_5_people fX6_isWord_5_people_p24
    rw [ckb0]
    refine Ex.ite (fun c1 => ?_) (fun c1 => Ex.ret ⟨rfl, rfl, Or.inr ⟨rfl, fun h => ?_⟩⟩)
    rotate_left
    · have c1 := icc_neq (m := (g 5 4).toInt) (n := 2) rfl (by decide) c1
      exact c1 h.1
    have c1 := icc_eq (m := (g 5 4).toInt) (n := 2) rfl (by decide) c1
    have ez : ((g 5 3) - (g 5 5)).toInt = (g 5 3).toInt - (g 5 5).toInt := ic_subc rfl rfl (by omega) (by omega)
    refine Ex.ite (fun c2 => ?_) (fun c2 => Ex.ret ⟨rfl, rfl, Or.inr ⟨rfl, fun h => ?_⟩⟩)
    rotate_left
    · have c2 := icc_neq (m := ((g 5 3) - (g 5 5)).toInt) (n := 6) rfl (by decide) c2
      have h2 : (g 5 3).toInt = (g 5 5).toInt + 6 := h.2.1
      omega
    have c2 := icc_eq (m := ((g 5 3) - (g 5 5)).toInt) (n := 6) rfl (by decide) c2
    unfold fX6_isWord_5_people_l28
    refine Ex.loop (α := Int32 × gT × lT) (fun v => (0 ≤ v.1.toInt ∧ v.1.toInt ≤ 6) ∧ v.2.1 = g ∧ v.2.2 = L ∧ ∀ i : Nat, (i : Int) < v.1.toInt → (g 14 ((g 5 5).toInt.toNat + i)).toInt = (wd 4).getD i 0) (fun v => 6 - v.1.toInt) (by omega) (by show 6 - (0 : Int32).toInt < (fu : Int); have : (0 : Int32).toInt = 0 := rfl; omega) ⟨(show 0 ≤ (0 : Int32).toInt ∧ (0 : Int32).toInt ≤ 6 from by decide), rfl, rfl, fun i hi => absurd (show (i : Int) < 0 from hi) (by omega)⟩ (fun k28 v hv ih => ?_)
    obtain ⟨v2, g', L'⟩ := v
    obtain ⟨hv, e1, e2, hm⟩ := hv
    have hv : 0 ≤ v2.toInt ∧ v2.toInt ≤ 6 := hv
    have e1 : g' = g := e1
    have e2 : L' = L := e2
    have hm : ∀ i : Nat, (i : Int) < v2.toInt → (g 14 ((g 5 5).toInt.toNat + i)).toInt = (wd 4).getD i 0 := hm
    subst e1 e2
    show Ex (fX6_isWord_5_people_s28 fu k28 v2 g' L') _
    unfold fX6_isWord_5_people_s28
    rw [ckb0, ckb1]
    refine Ex.ite (fun c3 => Ex.ret ⟨rfl, rfl, Or.inl ⟨rfl, c1, ?_, fun i hi => hm i ?_⟩⟩) (fun c3 => ?_)
    · show (g' 5 3).toInt = (g' 5 5).toInt + 6
      omega
    · have c3 := icc_le (m := 6) (n := v2.toInt) (by decide) rfl c3
      have hi : i < 6 := hi
      omega
    have c3 := icc_nle (m := 6) (n := v2.toInt) (by decide) rfl c3
    have ew : ((g' 5 5) + v2).toInt = (g' 5 5).toInt + v2.toInt := ic_addc rfl rfl (by omega) (by omega)
    refine Ex.ck (by omega) (by omega) ?_
    refine Ex.ck (by omega) (by omega) ?_
    have en : ((g' 5 5) + v2).toNatClampNeg = (g' 5 5).toInt.toNat + v2.toInt.toNat := by rw [nc, ew]; omega
    have ev : v2.toNatClampNeg = v2.toInt.toNat := nc v2
    rw [en, ev]
    have hs : ∀ i : Nat, i < 6 → (sch 16 i).toInt = (wd 4).getD i 0 := by decide
    have hs := hs v2.toInt.toNat (by omega)
    refine Ex.ite (fun c4 => ?_) (fun c4 => Ex.ret ⟨rfl, rfl, Or.inr ⟨rfl, fun h => ?_⟩⟩)
    · have c4 := icc_eq (m := (g' 14 ((g' 5 5).toInt.toNat + v2.toInt.toNat)).toInt) (n := (sch 16 v2.toInt.toNat).toInt) rfl rfl c4
      generalize hw : v2 + 1 = w
      have ew : w.toInt = v2.toInt + 1 := by rw [← hw]; exact ic_addc rfl (by decide) (by omega) (by omega)
      refine ih (w, g', L') ⟨(show 0 ≤ w.toInt ∧ w.toInt ≤ 6 by omega), rfl, rfl, fun i hi => ?_⟩ (show 6 - w.toInt < 6 - v2.toInt by omega) (show 0 < 6 - v2.toInt by omega)
      have hi : (i : Int) < w.toInt := hi
      by_cases e : i = v2.toInt.toNat
      · rw [e]; exact c4.trans hs
      · exact hm i (by omega)
    · have c4 := icc_neq (m := (g' 14 ((g' 5 5).toInt.toNat + v2.toInt.toNat)).toInt) (n := (sch 16 v2.toInt.toNat).toInt) rfl rfl c4
      have h3 := h.2.2 v2.toInt.toNat (show v2.toInt.toNat < 6 by omega)
      exact c4 (h3.trans hs.symm)
  refine Ex.cb key (fun x g1 L1 hx => ?_)
  obtain ⟨rfl, rfl, hx⟩ := hx
  rcases hx with ⟨rfl, hx⟩ | ⟨rfl, hx⟩
  · rw [if_neg (by decide)]; exact h1 hx
  · rw [if_pos rfl]; exact h0 hx
theorem e_lessonW {ρ : Type} {Q : ρ → gT → lT → Prop} {g : gT} {L : lT} {fu : Nat} {A B : gT → lT → Option (ρ × zS)} (hfu : 1180591620717411303424 ≤ fu) (hI : zI XT g) (h1 : xW g 5 → Ex (B g L) Q) (h0 : ¬ xW g 5 → Ex (A g L) Q) : Ex (cb (fX6_isWord_5_lesson fu g L) (fun x g1 L1 => if x = 0 then A g1 L1 else B g1 L1)) Q := by
  have q3 := hI 5 3 0 700 rfl
  have q5 := hI 5 5 0 700 rfl
  have key : Ex (fX6_isWord_5_lesson fu g L) (fun (x : Int32) g1 L1 => g1 = g ∧ L1 = L ∧ ((x = 1 ∧ xW g 5) ∨ (x = 0 ∧ ¬ xW g 5))) := by
    unfold fX6_isWord_5_lesson fX6_isWord_5_lesson_p24
    rw [ckb0]
    refine Ex.ite (fun c1 => ?_) (fun c1 => Ex.ret ⟨rfl, rfl, Or.inr ⟨rfl, fun h => ?_⟩⟩)
    rotate_left
    · have c1 := icc_neq (m := (g 5 4).toInt) (n := 2) rfl (by decide) c1
      exact c1 h.1
    have c1 := icc_eq (m := (g 5 4).toInt) (n := 2) rfl (by decide) c1
    have ez : ((g 5 3) - (g 5 5)).toInt = (g 5 3).toInt - (g 5 5).toInt := ic_subc rfl rfl (by omega) (by omega)
    refine Ex.ite (fun c2 => ?_) (fun c2 => Ex.ret ⟨rfl, rfl, Or.inr ⟨rfl, fun h => ?_⟩⟩)
    rotate_left
    · have c2 := icc_neq (m := ((g 5 3) - (g 5 5)).toInt) (n := 6) rfl (by decide) c2
      have h2 : (g 5 3).toInt = (g 5 5).toInt + 6 := h.2.1
      omega
    have c2 := icc_eq (m := ((g 5 3) - (g 5 5)).toInt) (n := 6) rfl (by decide) c2
    unfold fX6_isWord_5_lesson_l28
    refine Ex.loop (α := Int32 × gT × lT) (fun v => (0 ≤ v.1.toInt ∧ v.1.toInt ≤ 6) ∧ v.2.1 = g ∧ v.2.2 = L ∧ ∀ i : Nat, (i : Int) < v.1.toInt → (g 14 ((g 5 5).toInt.toNat + i)).toInt = (wd 5).getD i 0) (fun v => 6 - v.1.toInt) (by omega) (by show 6 - (0 : Int32).toInt < (fu : Int); have : (0 : Int32).toInt = 0 := rfl; omega) ⟨(show 0 ≤ (0 : Int32).toInt ∧ (0 : Int32).toInt ≤ 6 from by decide), rfl, rfl, fun i hi => absurd (show (i : Int) < 0 from hi) (by omega)⟩ (fun k28 v hv ih => ?_)
    obtain ⟨v2, g', L'⟩ := v
    obtain ⟨hv, e1, e2, hm⟩ := hv
    have hv : 0 ≤ v2.toInt ∧ v2.toInt ≤ 6 := hv
    have e1 : g' = g := e1
    have e2 : L' = L := e2
    have hm : ∀ i : Nat, (i : Int) < v2.toInt → (g 14 ((g 5 5).toInt.toNat + i)).toInt = (wd 5).getD i 0 := hm
    subst e1 e2
    show Ex (fX6_isWord_5_lesson_s28 fu k28 v2 g' L') _
    unfold fX6_isWord_5_lesson_s28
    rw [ckb0, ckb1]
    refine Ex.ite (fun c3 => Ex.ret ⟨rfl, rfl, Or.inl ⟨rfl, c1, ?_, fun i hi => hm i ?_⟩⟩) (fun c3 => ?_)
    · show (g' 5 3).toInt = (g' 5 5).toInt + 6
      omega
    · have c3 := icc_le (m := 6) (n := v2.toInt) (by decide) rfl c3
      have hi : i < 6 := hi
      omega
    have c3 := icc_nle (m := 6) (n := v2.toInt) (by decide) rfl c3
    have ew : ((g' 5 5) + v2).toInt = (g' 5 5).toInt + v2.toInt := ic_addc rfl rfl (by omega) (by omega)
    refine Ex.ck (by omega) (by omega) ?_
    refine Ex.ck (by omega) (by omega) ?_
    have en : ((g' 5 5) + v2).toNatClampNeg = (g' 5 5).toInt.toNat + v2.toInt.toNat := by rw [nc, ew]; omega
    have ev : v2.toNatClampNeg = v2.toInt.toNat := nc v2
    rw [en, ev]
    have hs : ∀ i : Nat, i < 6 → (sch 0 i).toInt = (wd 5).getD i 0 := by decide
    have hs := hs v2.toInt.toNat (by omega)
    refine Ex.ite (fun c4 => ?_) (fun c4 => Ex.ret ⟨rfl, rfl, Or.inr ⟨rfl, fun h => ?_⟩⟩)
    · have c4 := icc_eq (m := (g' 14 ((g' 5 5).toInt.toNat + v2.toInt.toNat)).toInt) (n := (sch 0 v2.toInt.toNat).toInt) rfl rfl c4
      generalize hw : v2 + 1 = w
      have ew : w.toInt = v2.toInt + 1 := by rw [← hw]; exact ic_addc rfl (by decide) (by omega) (by omega)
      refine ih (w, g', L') ⟨(show 0 ≤ w.toInt ∧ w.toInt ≤ 6 by omega), rfl, rfl, fun i hi => ?_⟩ (show 6 - w.toInt < 6 - v2.toInt by omega) (show 0 < 6 - v2.toInt by omega)
      have hi : (i : Int) < w.toInt := hi
      by_cases e : i = v2.toInt.toNat
      · rw [e]; exact c4.trans hs
      · exact hm i (by omega)
    · have c4 := icc_neq (m := (g' 14 ((g' 5 5).toInt.toNat + v2.toInt.toNat)).toInt) (n := (sch 0 v2.toInt.toNat).toInt) rfl rfl c4
      have h3 := h.2.2 v2.toInt.toNat (show v2.toInt.toNat < 6 by omega)
      exact c4 (h3.trans hs.symm)
  refine Ex.cb key (fun x g1 L1 hx => ?_)
  obtain ⟨rfl, rfl, hx⟩ := hx
  rcases hx with ⟨rfl, hx⟩ | ⟨rfl, hx⟩
  · rw [if_neg (by decide)]; exact h1 hx
  · rw [if_pos rfl]; exact h0 hx
theorem e_allW {ρ : Type} {Q : ρ → gT → lT → Prop} {g : gT} {L : lT} {fu : Nat} {A B : gT → lT → Option (ρ × zS)} (hfu : 1180591620717411303424 ≤ fu) (hI : zI XT g) (h1 : xW g 6 → Ex (B g L) Q) (h0 : ¬ xW g 6 → Ex (A g L) Q) : Ex (cb (fX6_isWord_5_all fu g L) (fun x g1 L1 => if x = 0 then A g1 L1 else B g1 L1)) Q := by
  have q3 := hI 5 3 0 700 rfl
  have q5 := hI 5 5 0 700 rfl
  have key : Ex (fX6_isWord_5_all fu g L) (fun (x : Int32) g1 L1 => g1 = g ∧ L1 = L ∧ ((x = 1 ∧ xW g 6) ∨ (x = 0 ∧ ¬ xW g 6))) := by
    unfold fX6_isWord_5_all fX6_isWord_5_all_p24
    rw [ckb0]
    refine Ex.ite (fun c1 => ?_) (fun c1 => Ex.ret ⟨rfl, rfl, Or.inr ⟨rfl, fun h => ?_⟩⟩)
    rotate_left
    · have c1 := icc_neq (m := (g 5 4).toInt) (n := 2) rfl (by decide) c1
      exact c1 h.1
    have c1 := icc_eq (m := (g 5 4).toInt) (n := 2) rfl (by decide) c1
    have ez : ((g 5 3) - (g 5 5)).toInt = (g 5 3).toInt - (g 5 5).toInt := ic_subc rfl rfl (by omega) (by omega)
    refine Ex.ite (fun c2 => ?_) (fun c2 => Ex.ret ⟨rfl, rfl, Or.inr ⟨rfl, fun h => ?_⟩⟩)
    rotate_left
    · have c2 := icc_neq (m := ((g 5 3) - (g 5 5)).toInt) (n := 3) rfl (by decide) c2
      have h2 : (g 5 3).toInt = (g 5 5).toInt + 3 := h.2.1
      omega
    have c2 := icc_eq (m := ((g 5 3) - (g 5 5)).toInt) (n := 3) rfl (by decide) c2
    unfold fX6_isWord_5_all_l28
    refine Ex.loop (α := Int32 × gT × lT) (fun v => (0 ≤ v.1.toInt ∧ v.1.toInt ≤ 3) ∧ v.2.1 = g ∧ v.2.2 = L ∧ ∀ i : Nat, (i : Int) < v.1.toInt → (g 14 ((g 5 5).toInt.toNat + i)).toInt = (wd 6).getD i 0) (fun v => 3 - v.1.toInt) (by omega) (by show 3 - (0 : Int32).toInt < (fu : Int); have : (0 : Int32).toInt = 0 := rfl; omega) ⟨(show 0 ≤ (0 : Int32).toInt ∧ (0 : Int32).toInt ≤ 3 from by decide), rfl, rfl, fun i hi => absurd (show (i : Int) < 0 from hi) (by omega)⟩ (fun k28 v hv ih => ?_)
    obtain ⟨v2, g', L'⟩ := v
    obtain ⟨hv, e1, e2, hm⟩ := hv
    have hv : 0 ≤ v2.toInt ∧ v2.toInt ≤ 3 := hv
    have e1 : g' = g := e1
    have e2 : L' = L := e2
    have hm : ∀ i : Nat, (i : Int) < v2.toInt → (g 14 ((g 5 5).toInt.toNat + i)).toInt = (wd 6).getD i 0 := hm
    subst e1 e2
    show Ex (fX6_isWord_5_all_s28 fu k28 v2 g' L') _
    unfold fX6_isWord_5_all_s28
    rw [ckb0, ckb1]
    refine Ex.ite (fun c3 => Ex.ret ⟨rfl, rfl, Or.inl ⟨rfl, c1, ?_, fun i hi => hm i ?_⟩⟩) (fun c3 => ?_)
    · show (g' 5 3).toInt = (g' 5 5).toInt + 3
      omega
    · have c3 := icc_le (m := 3) (n := v2.toInt) (by decide) rfl c3
      have hi : i < 3 := hi
      omega
    have c3 := icc_nle (m := 3) (n := v2.toInt) (by decide) rfl c3
    have ew : ((g' 5 5) + v2).toInt = (g' 5 5).toInt + v2.toInt := ic_addc rfl rfl (by omega) (by omega)
    refine Ex.ck (by omega) (by omega) ?_
    refine Ex.ck (by omega) (by omega) ?_
    have en : ((g' 5 5) + v2).toNatClampNeg = (g' 5 5).toInt.toNat + v2.toInt.toNat := by rw [nc, ew]; omega
    have ev : v2.toNatClampNeg = v2.toInt.toNat := nc v2
    rw [en, ev]
    have hs : ∀ i : Nat, i < 3 → (sch 4 i).toInt = (wd 6).getD i 0 := by decide
    have hs := hs v2.toInt.toNat (by omega)
    refine Ex.ite (fun c4 => ?_) (fun c4 => Ex.ret ⟨rfl, rfl, Or.inr ⟨rfl, fun h => ?_⟩⟩)
    · have c4 := icc_eq (m := (g' 14 ((g' 5 5).toInt.toNat + v2.toInt.toNat)).toInt) (n := (sch 4 v2.toInt.toNat).toInt) rfl rfl c4
      generalize hw : v2 + 1 = w
      have ew : w.toInt = v2.toInt + 1 := by rw [← hw]; exact ic_addc rfl (by decide) (by omega) (by omega)
      refine ih (w, g', L') ⟨(show 0 ≤ w.toInt ∧ w.toInt ≤ 3 by omega), rfl, rfl, fun i hi => ?_⟩ (show 3 - w.toInt < 3 - v2.toInt by omega) (show 0 < 3 - v2.toInt by omega)
      have hi : (i : Int) < w.toInt := hi
      by_cases e : i = v2.toInt.toNat
      · rw [e]; exact c4.trans hs
      · exact hm i (by omega)
    · have c4 := icc_neq (m := (g' 14 ((g' 5 5).toInt.toNat + v2.toInt.toNat)).toInt) (n := (sch 4 v2.toInt.toNat).toInt) rfl rfl c4
      have h3 := h.2.2 v2.toInt.toNat (show v2.toInt.toNat < 3 by omega)
      exact c4 (h3.trans hs.symm)
  refine Ex.cb key (fun x g1 L1 hx => ?_)
  obtain ⟨rfl, rfl, hx⟩ := hx
  rcases hx with ⟨rfl, hx⟩ | ⟨rfl, hx⟩
  · rw [if_neg (by decide)]; exact h1 hx
  · rw [if_pos rfl]; exact h0 hx
theorem e_someW {ρ : Type} {Q : ρ → gT → lT → Prop} {g : gT} {L : lT} {fu : Nat} {A B : gT → lT → Option (ρ × zS)} (hfu : 1180591620717411303424 ≤ fu) (hI : zI XT g) (h1 : xW g 7 → Ex (B g L) Q) (h0 : ¬ xW g 7 → Ex (A g L) Q) : Ex (cb (fX6_isWord_5_some fu g L) (fun x g1 L1 => if x = 0 then A g1 L1 else B g1 L1)) Q := by
  have q3 := hI 5 3 0 700 rfl
  have q5 := hI 5 5 0 700 rfl
  have key : Ex (fX6_isWord_5_some fu g L) (fun (x : Int32) g1 L1 => g1 = g ∧ L1 = L ∧ ((x = 1 ∧ xW g 7) ∨ (x = 0 ∧ ¬ xW g 7))) := by
    unfold fX6_isWord_5_some fX6_isWord_5_some_p24
    rw [ckb0]
    refine Ex.ite (fun c1 => ?_) (fun c1 => Ex.ret ⟨rfl, rfl, Or.inr ⟨rfl, fun h => ?_⟩⟩)
    rotate_left
    · have c1 := icc_neq (m := (g 5 4).toInt) (n := 2) rfl (by decide) c1
      exact c1 h.1
    have c1 := icc_eq (m := (g 5 4).toInt) (n := 2) rfl (by decide) c1
    have ez : ((g 5 3) - (g 5 5)).toInt = (g 5 3).toInt - (g 5 5).toInt := ic_subc rfl rfl (by omega) (by omega)
    refine Ex.ite (fun c2 => ?_) (fun c2 => Ex.ret ⟨rfl, rfl, Or.inr ⟨rfl, fun h => ?_⟩⟩)
    rotate_left
    · have c2 := icc_neq (m := ((g 5 3) - (g 5 5)).toInt) (n := 4) rfl (by decide) c2
      have h2 : (g 5 3).toInt = (g 5 5).toInt + 4 := h.2.1
      omega
    have c2 := icc_eq (m := ((g 5 3) - (g 5 5)).toInt) (n := 4) rfl (by decide) c2
    unfold fX6_isWord_5_some_l28
    refine Ex.loop (α := Int32 × gT × lT) (fun v => (0 ≤ v.1.toInt ∧ v.1.toInt ≤ 4) ∧ v.2.1 = g ∧ v.2.2 = L ∧ ∀ i : Nat, (i : Int) < v.1.toInt → (g 14 ((g 5 5).toInt.toNat + i)).toInt = (wd 7).getD i 0) (fun v => 4 - v.1.toInt) (by omega) (by show 4 - (0 : Int32).toInt < (fu : Int); have : (0 : Int32).toInt = 0 := rfl; omega) ⟨(show 0 ≤ (0 : Int32).toInt ∧ (0 : Int32).toInt ≤ 4 from by decide), rfl, rfl, fun i hi => absurd (show (i : Int) < 0 from hi) (by omega)⟩ (fun k28 v hv ih => ?_)
    obtain ⟨v2, g', L'⟩ := v
    obtain ⟨hv, e1, e2, hm⟩ := hv
    have hv : 0 ≤ v2.toInt ∧ v2.toInt ≤ 4 := hv
    have e1 : g' = g := e1
    have e2 : L' = L := e2
    have hm : ∀ i : Nat, (i : Int) < v2.toInt → (g 14 ((g 5 5).toInt.toNat + i)).toInt = (wd 7).getD i 0 := hm
    subst e1 e2
    show Ex (fX6_isWord_5_some_s28 fu k28 v2 g' L') _
    unfold fX6_isWord_5_some_s28
    rw [ckb0, ckb1]
    refine Ex.ite (fun c3 => Ex.ret ⟨rfl, rfl, Or.inl ⟨rfl, c1, ?_, fun i hi => hm i ?_⟩⟩) (fun c3 => ?_)
    · show (g' 5 3).toInt = (g' 5 5).toInt + 4
      omega
    · have c3 := icc_le (m := 4) (n := v2.toInt) (by decide) rfl c3
      have hi : i < 4 := hi
      omega
    have c3 := icc_nle (m := 4) (n := v2.toInt) (by decide) rfl c3
    have ew : ((g' 5 5) + v2).toInt = (g' 5 5).toInt + v2.toInt := ic_addc rfl rfl (by omega) (by omega)
    refine Ex.ck (by omega) (by omega) ?_
    refine Ex.ck (by omega) (by omega) ?_
    have en : ((g' 5 5) + v2).toNatClampNeg = (g' 5 5).toInt.toNat + v2.toInt.toNat := by rw [nc, ew]; omega
    have ev : v2.toNatClampNeg = v2.toInt.toNat := nc v2
    rw [en, ev]
    have hs : ∀ i : Nat, i < 4 → (sch 5 i).toInt = (wd 7).getD i 0 := by decide
    have hs := hs v2.toInt.toNat (by omega)
    refine Ex.ite (fun c4 => ?_) (fun c4 => Ex.ret ⟨rfl, rfl, Or.inr ⟨rfl, fun h => ?_⟩⟩)
    · have c4 := icc_eq (m := (g' 14 ((g' 5 5).toInt.toNat + v2.toInt.toNat)).toInt) (n := (sch 5 v2.toInt.toNat).toInt) rfl rfl c4
      generalize hw : v2 + 1 = w
      have ew : w.toInt = v2.toInt + 1 := by rw [← hw]; exact ic_addc rfl (by decide) (by omega) (by omega)
      refine ih (w, g', L') ⟨(show 0 ≤ w.toInt ∧ w.toInt ≤ 4 by omega), rfl, rfl, fun i hi => ?_⟩ (show 4 - w.toInt < 4 - v2.toInt by omega) (show 0 < 4 - v2.toInt by omega)
      have hi : (i : Int) < w.toInt := hi
      by_cases e : i = v2.toInt.toNat
      · rw [e]; exact c4.trans hs
      · exact hm i (by omega)
    · have c4 := icc_neq (m := (g' 14 ((g' 5 5).toInt.toNat + v2.toInt.toNat)).toInt) (n := (sch 5 v2.toInt.toNat).toInt) rfl rfl c4
      have h3 := h.2.2 v2.toInt.toNat (show v2.toInt.toNat < 4 by omega)
      exact c4 (h3.trans hs.symm)
  refine Ex.cb key (fun x g1 L1 hx => ?_)
  obtain ⟨rfl, rfl, hx⟩ := hx
  rcases hx with ⟨rfl, hx⟩ | ⟨rfl, hx⟩
  · rw [if_neg (by decide)]; exact h1 hx
  · rw [if_pos rfl]; exact h0 hx
theorem e_limitW {ρ : Type} {Q : ρ → gT → lT → Prop} {g : gT} {L : lT} {fu : Nat} {A B : gT → lT → Option (ρ × zS)} (hfu : 1180591620717411303424 ≤ fu) (hI : zI XT g) (h1 : xW g 8 → Ex (B g L) Q) (h0 : ¬ xW g 8 → Ex (A g L) Q) : Ex (cb (fX6_isWord_5_limit fu g L) (fun x g1 L1 => if x = 0 then A g1 L1 else B g1 L1)) Q := by
  have q3 := hI 5 3 0 700 rfl
  have q5 := hI 5 5 0 700 rfl
  have key : Ex (fX6_isWord_5_limit fu g L) (fun (x : Int32) g1 L1 => g1 = g ∧ L1 = L ∧ ((x = 1 ∧ xW g 8) ∨ (x = 0 ∧ ¬ xW g 8))) := by
    unfold fX6_isWord_5_limit fX6_isWord_5_limit_p24
    rw [ckb0]
    refine Ex.ite (fun c1 => ?_) (fun c1 => Ex.ret ⟨rfl, rfl, Or.inr ⟨rfl, fun h => ?_⟩⟩)
    rotate_left
    · have c1 := icc_neq (m := (g 5 4).toInt) (n := 2) rfl (by decide) c1
      exact c1 h.1
    have c1 := icc_eq (m := (g 5 4).toInt) (n := 2) rfl (by decide) c1
    have ez : ((g 5 3) - (g 5 5)).toInt = (g 5 3).toInt - (g 5 5).toInt := ic_subc rfl rfl (by omega) (by omega)
    refine Ex.ite (fun c2 => ?_) (fun c2 => Ex.ret ⟨rfl, rfl, Or.inr ⟨rfl, fun h => ?_⟩⟩)
    rotate_left
    · have c2 := icc_neq (m := ((g 5 3) - (g 5 5)).toInt) (n := 5) rfl (by decide) c2
      have h2 : (g 5 3).toInt = (g 5 5).toInt + 5 := h.2.1
      omega
    have c2 := icc_eq (m := ((g 5 3) - (g 5 5)).toInt) (n := 5) rfl (by decide) c2
    unfold fX6_isWord_5_limit_l28
    refine Ex.loop (α := Int32 × gT × lT) (fun v => (0 ≤ v.1.toInt ∧ v.1.toInt ≤ 5) ∧ v.2.1 = g ∧ v.2.2 = L ∧ ∀ i : Nat, (i : Int) < v.1.toInt → (g 14 ((g 5 5).toInt.toNat + i)).toInt = (wd 8).getD i 0) (fun v => 5 - v.1.toInt) (by omega) (by show 5 - (0 : Int32).toInt < (fu : Int); have : (0 : Int32).toInt = 0 := rfl; omega) ⟨(show 0 ≤ (0 : Int32).toInt ∧ (0 : Int32).toInt ≤ 5 from by decide), rfl, rfl, fun i hi => absurd (show (i : Int) < 0 from hi) (by omega)⟩ (fun k28 v hv ih => ?_)
    obtain ⟨v2, g', L'⟩ := v
    obtain ⟨hv, e1, e2, hm⟩ := hv
    have hv : 0 ≤ v2.toInt ∧ v2.toInt ≤ 5 := hv
    have e1 : g' = g := e1
    have e2 : L' = L := e2
    have hm : ∀ i : Nat, (i : Int) < v2.toInt → (g 14 ((g 5 5).toInt.toNat + i)).toInt = (wd 8).getD i 0 := hm
    subst e1 e2
    show Ex (fX6_isWord_5_limit_s28 fu k28 v2 g' L') _
    unfold fX6_isWord_5_limit_s28
    rw [ckb0, ckb1]
    refine Ex.ite (fun c3 => Ex.ret ⟨rfl, rfl, Or.inl ⟨rfl, c1, ?_, fun i hi => hm i ?_⟩⟩) (fun c3 => ?_)
    · show (g' 5 3).toInt = (g' 5 5).toInt + 5
      omega
    · have c3 := icc_le (m := 5) (n := v2.toInt) (by decide) rfl c3
      have hi : i < 5 := hi
      omega
    have c3 := icc_nle (m := 5) (n := v2.toInt) (by decide) rfl c3
    have ew : ((g' 5 5) + v2).toInt = (g' 5 5).toInt + v2.toInt := ic_addc rfl rfl (by omega) (by omega)
    refine Ex.ck (by omega) (by omega) ?_
    refine Ex.ck (by omega) (by omega) ?_
    have en : ((g' 5 5) + v2).toNatClampNeg = (g' 5 5).toInt.toNat + v2.toInt.toNat := by rw [nc, ew]; omega
    have ev : v2.toNatClampNeg = v2.toInt.toNat := nc v2
    rw [en, ev]
    have hs : ∀ i : Nat, i < 5 → (sch 6 i).toInt = (wd 8).getD i 0 := by decide
    have hs := hs v2.toInt.toNat (by omega)
    refine Ex.ite (fun c4 => ?_) (fun c4 => Ex.ret ⟨rfl, rfl, Or.inr ⟨rfl, fun h => ?_⟩⟩)
    · have c4 := icc_eq (m := (g' 14 ((g' 5 5).toInt.toNat + v2.toInt.toNat)).toInt) (n := (sch 6 v2.toInt.toNat).toInt) rfl rfl c4
      generalize hw : v2 + 1 = w
      have ew : w.toInt = v2.toInt + 1 := by rw [← hw]; exact ic_addc rfl (by decide) (by omega) (by omega)
      refine ih (w, g', L') ⟨(show 0 ≤ w.toInt ∧ w.toInt ≤ 5 by omega), rfl, rfl, fun i hi => ?_⟩ (show 5 - w.toInt < 5 - v2.toInt by omega) (show 0 < 5 - v2.toInt by omega)
      have hi : (i : Int) < w.toInt := hi
      by_cases e : i = v2.toInt.toNat
      · rw [e]; exact c4.trans hs
      · exact hm i (by omega)
    · have c4 := icc_neq (m := (g' 14 ((g' 5 5).toInt.toNat + v2.toInt.toNat)).toInt) (n := (sch 6 v2.toInt.toNat).toInt) rfl rfl c4
      have h3 := h.2.2 v2.toInt.toNat (show v2.toInt.toNat < 5 by omega)
      exact c4 (h3.trans hs.symm)
  refine Ex.cb key (fun x g1 L1 hx => ?_)
  obtain ⟨rfl, rfl, hx⟩ := hx
  rcases hx with ⟨rfl, hx⟩ | ⟨rfl, hx⟩
  · rw [if_neg (by decide)]; exact h1 hx
  · rw [if_pos rfl]; exact h0 hx
theorem e_maybeW {ρ : Type} {Q : ρ → gT → lT → Prop} {g : gT} {L : lT} {fu : Nat} {A B : gT → lT → Option (ρ × zS)} (hfu : 1180591620717411303424 ≤ fu) (hI : zI XT g) (h1 : xW g 9 → Ex (B g L) Q) (h0 : ¬ xW g 9 → Ex (A g L) Q) : Ex (cb (fX6_isWord_5_maybe fu g L) (fun x g1 L1 => if x = 0 then A g1 L1 else B g1 L1)) Q := by
  have q3 := hI 5 3 0 700 rfl
  have q5 := hI 5 5 0 700 rfl
  have key : Ex (fX6_isWord_5_maybe fu g L) (fun (x : Int32) g1 L1 => g1 = g ∧ L1 = L ∧ ((x = 1 ∧ xW g 9) ∨ (x = 0 ∧ ¬ xW g 9))) := by
    unfold fX6_isWord_5_maybe fX6_isWord_5_maybe_p24
    rw [ckb0]
    refine Ex.ite (fun c1 => ?_) (fun c1 => Ex.ret ⟨rfl, rfl, Or.inr ⟨rfl, fun h => ?_⟩⟩)
    rotate_left
    · have c1 := icc_neq (m := (g 5 4).toInt) (n := 2) rfl (by decide) c1
      exact c1 h.1
    have c1 := icc_eq (m := (g 5 4).toInt) (n := 2) rfl (by decide) c1
    have ez : ((g 5 3) - (g 5 5)).toInt = (g 5 3).toInt - (g 5 5).toInt := ic_subc rfl rfl (by omega) (by omega)
    refine Ex.ite (fun c2 => ?_) (fun c2 => Ex.ret ⟨rfl, rfl, Or.inr ⟨rfl, fun h => ?_⟩⟩)
    rotate_left
    · have c2 := icc_neq (m := ((g 5 3) - (g 5 5)).toInt) (n := 5) rfl (by decide) c2
      have h2 : (g 5 3).toInt = (g 5 5).toInt + 5 := h.2.1
      omega
    have c2 := icc_eq (m := ((g 5 3) - (g 5 5)).toInt) (n := 5) rfl (by decide) c2
    unfold fX6_isWord_5_maybe_l28
    refine Ex.loop (α := Int32 × gT × lT) (fun v => (0 ≤ v.1.toInt ∧ v.1.toInt ≤ 5) ∧ v.2.1 = g ∧ v.2.2 = L ∧ ∀ i : Nat, (i : Int) < v.1.toInt → (g 14 ((g 5 5).toInt.toNat + i)).toInt = (wd 9).getD i 0) (fun v => 5 - v.1.toInt) (by omega) (by show 5 - (0 : Int32).toInt < (fu : Int); have : (0 : Int32).toInt = 0 := rfl; omega) ⟨(show 0 ≤ (0 : Int32).toInt ∧ (0 : Int32).toInt ≤ 5 from by decide), rfl, rfl, fun i hi => absurd (show (i : Int) < 0 from hi) (by omega)⟩ (fun k28 v hv ih => ?_)
    obtain ⟨v2, g', L'⟩ := v
    obtain ⟨hv, e1, e2, hm⟩ := hv
    have hv : 0 ≤ v2.toInt ∧ v2.toInt ≤ 5 := hv
    have e1 : g' = g := e1
    have e2 : L' = L := e2
    have hm : ∀ i : Nat, (i : Int) < v2.toInt → (g 14 ((g 5 5).toInt.toNat + i)).toInt = (wd 9).getD i 0 := hm
    subst e1 e2
    show Ex (fX6_isWord_5_maybe_s28 fu k28 v2 g' L') _
    unfold fX6_isWord_5_maybe_s28
    rw [ckb0, ckb1]
    refine Ex.ite (fun c3 => Ex.ret ⟨rfl, rfl, Or.inl ⟨rfl, c1, ?_, fun i hi => hm i ?_⟩⟩) (fun c3 => ?_)
    · show (g' 5 3).toInt = (g' 5 5).toInt + 5
      omega
    · have c3 := icc_le (m := 5) (n := v2.toInt) (by decide) rfl c3
      have hi : i < 5 := hi
      omega
    have c3 := icc_nle (m := 5) (n := v2.toInt) (by decide) rfl c3
    have ew : ((g' 5 5) + v2).toInt = (g' 5 5).toInt + v2.toInt := ic_addc rfl rfl (by omega) (by omega)
    refine Ex.ck (by omega) (by omega) ?_
    refine Ex.ck (by omega) (by omega) ?_
    have en : ((g' 5 5) + v2).toNatClampNeg = (g' 5 5).toInt.toNat + v2.toInt.toNat := by rw [nc, ew]; omega
    have ev : v2.toNatClampNeg = v2.toInt.toNat := nc v2
    rw [en, ev]
    have hs : ∀ i : Nat, i < 5 → (sch 7 i).toInt = (wd 9).getD i 0 := by decide
    have hs := hs v2.toInt.toNat (by omega)
    refine Ex.ite (fun c4 => ?_) (fun c4 => Ex.ret ⟨rfl, rfl, Or.inr ⟨rfl, fun h => ?_⟩⟩)
    · have c4 := icc_eq (m := (g' 14 ((g' 5 5).toInt.toNat + v2.toInt.toNat)).toInt) (n := (sch 7 v2.toInt.toNat).toInt) rfl rfl c4
      generalize hw : v2 + 1 = w
      have ew : w.toInt = v2.toInt + 1 := by rw [← hw]; exact ic_addc rfl (by decide) (by omega) (by omega)
      refine ih (w, g', L') ⟨(show 0 ≤ w.toInt ∧ w.toInt ≤ 5 by omega), rfl, rfl, fun i hi => ?_⟩ (show 5 - w.toInt < 5 - v2.toInt by omega) (show 0 < 5 - v2.toInt by omega)
      have hi : (i : Int) < w.toInt := hi
      by_cases e : i = v2.toInt.toNat
      · rw [e]; exact c4.trans hs
      · exact hm i (by omega)
    · have c4 := icc_neq (m := (g' 14 ((g' 5 5).toInt.toNat + v2.toInt.toNat)).toInt) (n := (sch 7 v2.toInt.toNat).toInt) rfl rfl c4
      have h3 := h.2.2 v2.toInt.toNat (show v2.toInt.toNat < 5 by omega)
      exact c4 (h3.trans hs.symm)
  refine Ex.cb key (fun x g1 L1 hx => ?_)
  obtain ⟨rfl, rfl, hx⟩ := hx
  rcases hx with ⟨rfl, hx⟩ | ⟨rfl, hx⟩
  · rw [if_neg (by decide)]; exact h1 hx
  · rw [if_pos rfl]; exact h0 hx
theorem e_gapW {ρ : Type} {Q : ρ → gT → lT → Prop} {g : gT} {L : lT} {fu : Nat} {A B : gT → lT → Option (ρ × zS)} (hfu : 1180591620717411303424 ≤ fu) (hI : zI XT g) (h1 : xW g 10 → Ex (B g L) Q) (h0 : ¬ xW g 10 → Ex (A g L) Q) : Ex (cb (fX6_isWord_5_gap fu g L) (fun x g1 L1 => if x = 0 then A g1 L1 else B g1 L1)) Q := by
  have q3 := hI 5 3 0 700 rfl
  have q5 := hI 5 5 0 700 rfl
  have key : Ex (fX6_isWord_5_gap fu g L) (fun (x : Int32) g1 L1 => g1 = g ∧ L1 = L ∧ ((x = 1 ∧ xW g 10) ∨ (x = 0 ∧ ¬ xW g 10))) := by
    unfold fX6_isWord_5_gap fX6_isWord_5_gap_p24
    rw [ckb0]
    refine Ex.ite (fun c1 => ?_) (fun c1 => Ex.ret ⟨rfl, rfl, Or.inr ⟨rfl, fun h => ?_⟩⟩)
    rotate_left
    · have c1 := icc_neq (m := (g 5 4).toInt) (n := 2) rfl (by decide) c1
      exact c1 h.1
    have c1 := icc_eq (m := (g 5 4).toInt) (n := 2) rfl (by decide) c1
    have ez : ((g 5 3) - (g 5 5)).toInt = (g 5 3).toInt - (g 5 5).toInt := ic_subc rfl rfl (by omega) (by omega)
    refine Ex.ite (fun c2 => ?_) (fun c2 => Ex.ret ⟨rfl, rfl, Or.inr ⟨rfl, fun h => ?_⟩⟩)
    rotate_left
    · have c2 := icc_neq (m := ((g 5 3) - (g 5 5)).toInt) (n := 3) rfl (by decide) c2
      have h2 : (g 5 3).toInt = (g 5 5).toInt + 3 := h.2.1
      omega
    have c2 := icc_eq (m := ((g 5 3) - (g 5 5)).toInt) (n := 3) rfl (by decide) c2
    unfold fX6_isWord_5_gap_l28
    refine Ex.loop (α := Int32 × gT × lT) (fun v => (0 ≤ v.1.toInt ∧ v.1.toInt ≤ 3) ∧ v.2.1 = g ∧ v.2.2 = L ∧ ∀ i : Nat, (i : Int) < v.1.toInt → (g 14 ((g 5 5).toInt.toNat + i)).toInt = (wd 10).getD i 0) (fun v => 3 - v.1.toInt) (by omega) (by show 3 - (0 : Int32).toInt < (fu : Int); have : (0 : Int32).toInt = 0 := rfl; omega) ⟨(show 0 ≤ (0 : Int32).toInt ∧ (0 : Int32).toInt ≤ 3 from by decide), rfl, rfl, fun i hi => absurd (show (i : Int) < 0 from hi) (by omega)⟩ (fun k28 v hv ih => ?_)
    obtain ⟨v2, g', L'⟩ := v
    obtain ⟨hv, e1, e2, hm⟩ := hv
    have hv : 0 ≤ v2.toInt ∧ v2.toInt ≤ 3 := hv
    have e1 : g' = g := e1
    have e2 : L' = L := e2
    have hm : ∀ i : Nat, (i : Int) < v2.toInt → (g 14 ((g 5 5).toInt.toNat + i)).toInt = (wd 10).getD i 0 := hm
    subst e1 e2
    show Ex (fX6_isWord_5_gap_s28 fu k28 v2 g' L') _
    unfold fX6_isWord_5_gap_s28
    rw [ckb0, ckb1]
    refine Ex.ite (fun c3 => Ex.ret ⟨rfl, rfl, Or.inl ⟨rfl, c1, ?_, fun i hi => hm i ?_⟩⟩) (fun c3 => ?_)
    · show (g' 5 3).toInt = (g' 5 5).toInt + 3
      omega
    · have c3 := icc_le (m := 3) (n := v2.toInt) (by decide) rfl c3
      have hi : i < 3 := hi
      omega
    have c3 := icc_nle (m := 3) (n := v2.toInt) (by decide) rfl c3
    have ew : ((g' 5 5) + v2).toInt = (g' 5 5).toInt + v2.toInt := ic_addc rfl rfl (by omega) (by omega)
    refine Ex.ck (by omega) (by omega) ?_
    refine Ex.ck (by omega) (by omega) ?_
    have en : ((g' 5 5) + v2).toNatClampNeg = (g' 5 5).toInt.toNat + v2.toInt.toNat := by rw [nc, ew]; omega
    have ev : v2.toNatClampNeg = v2.toInt.toNat := nc v2
    rw [en, ev]
    have hs : ∀ i : Nat, i < 3 → (sch 8 i).toInt = (wd 10).getD i 0 := by decide
    have hs := hs v2.toInt.toNat (by omega)
    refine Ex.ite (fun c4 => ?_) (fun c4 => Ex.ret ⟨rfl, rfl, Or.inr ⟨rfl, fun h => ?_⟩⟩)
    · have c4 := icc_eq (m := (g' 14 ((g' 5 5).toInt.toNat + v2.toInt.toNat)).toInt) (n := (sch 8 v2.toInt.toNat).toInt) rfl rfl c4
      generalize hw : v2 + 1 = w
      have ew : w.toInt = v2.toInt + 1 := by rw [← hw]; exact ic_addc rfl (by decide) (by omega) (by omega)
      refine ih (w, g', L') ⟨(show 0 ≤ w.toInt ∧ w.toInt ≤ 3 by omega), rfl, rfl, fun i hi => ?_⟩ (show 3 - w.toInt < 3 - v2.toInt by omega) (show 0 < 3 - v2.toInt by omega)
      have hi : (i : Int) < w.toInt := hi
      by_cases e : i = v2.toInt.toNat
      · rw [e]; exact c4.trans hs
      · exact hm i (by omega)
    · have c4 := icc_neq (m := (g' 14 ((g' 5 5).toInt.toNat + v2.toInt.toNat)).toInt) (n := (sch 8 v2.toInt.toNat).toInt) rfl rfl c4
      have h3 := h.2.2 v2.toInt.toNat (show v2.toInt.toNat < 3 by omega)
      exact c4 (h3.trans hs.symm)
  refine Ex.cb key (fun x g1 L1 hx => ?_)
  obtain ⟨rfl, rfl, hx⟩ := hx
  rcases hx with ⟨rfl, hx⟩ | ⟨rfl, hx⟩
  · rw [if_neg (by decide)]; exact h1 hx
  · rw [if_pos rfl]; exact h0 hx
theorem e_walkW {ρ : Type} {Q : ρ → gT → lT → Prop} {g : gT} {L : lT} {fu : Nat} {A B : gT → lT → Option (ρ × zS)} (hfu : 1180591620717411303424 ≤ fu) (hI : zI XT g) (h1 : xW g 11 → Ex (B g L) Q) (h0 : ¬ xW g 11 → Ex (A g L) Q) : Ex (cb (fX6_isWord_5_walk fu g L) (fun x g1 L1 => if x = 0 then A g1 L1 else B g1 L1)) Q := by
  have q3 := hI 5 3 0 700 rfl
  have q5 := hI 5 5 0 700 rfl
  have key : Ex (fX6_isWord_5_walk fu g L) (fun (x : Int32) g1 L1 => g1 = g ∧ L1 = L ∧ ((x = 1 ∧ xW g 11) ∨ (x = 0 ∧ ¬ xW g 11))) := by
    unfold fX6_isWord_5_walk fX6_isWord_5_walk_p24
    rw [ckb0]
    refine Ex.ite (fun c1 => ?_) (fun c1 => Ex.ret ⟨rfl, rfl, Or.inr ⟨rfl, fun h => ?_⟩⟩)
    rotate_left
    · have c1 := icc_neq (m := (g 5 4).toInt) (n := 2) rfl (by decide) c1
      exact c1 h.1
    have c1 := icc_eq (m := (g 5 4).toInt) (n := 2) rfl (by decide) c1
    have ez : ((g 5 3) - (g 5 5)).toInt = (g 5 3).toInt - (g 5 5).toInt := ic_subc rfl rfl (by omega) (by omega)
    refine Ex.ite (fun c2 => ?_) (fun c2 => Ex.ret ⟨rfl, rfl, Or.inr ⟨rfl, fun h => ?_⟩⟩)
    rotate_left
    · have c2 := icc_neq (m := ((g 5 3) - (g 5 5)).toInt) (n := 4) rfl (by decide) c2
      have h2 : (g 5 3).toInt = (g 5 5).toInt + 4 := h.2.1
      omega
    have c2 := icc_eq (m := ((g 5 3) - (g 5 5)).toInt) (n := 4) rfl (by decide) c2
    unfold fX6_isWord_5_walk_l28
    refine Ex.loop (α := Int32 × gT × lT) (fun v => (0 ≤ v.1.toInt ∧ v.1.toInt ≤ 4) ∧ v.2.1 = g ∧ v.2.2 = L ∧ ∀ i : Nat, (i : Int) < v.1.toInt → (g 14 ((g 5 5).toInt.toNat + i)).toInt = (wd 11).getD i 0) (fun v => 4 - v.1.toInt) (by omega) (by show 4 - (0 : Int32).toInt < (fu : Int); have : (0 : Int32).toInt = 0 := rfl; omega) ⟨(show 0 ≤ (0 : Int32).toInt ∧ (0 : Int32).toInt ≤ 4 from by decide), rfl, rfl, fun i hi => absurd (show (i : Int) < 0 from hi) (by omega)⟩ (fun k28 v hv ih => ?_)
    obtain ⟨v2, g', L'⟩ := v
    obtain ⟨hv, e1, e2, hm⟩ := hv
    have hv : 0 ≤ v2.toInt ∧ v2.toInt ≤ 4 := hv
    have e1 : g' = g := e1
    have e2 : L' = L := e2
    have hm : ∀ i : Nat, (i : Int) < v2.toInt → (g 14 ((g 5 5).toInt.toNat + i)).toInt = (wd 11).getD i 0 := hm
    subst e1 e2
    show Ex (fX6_isWord_5_walk_s28 fu k28 v2 g' L') _
    unfold fX6_isWord_5_walk_s28
    rw [ckb0, ckb1]
    refine Ex.ite (fun c3 => Ex.ret ⟨rfl, rfl, Or.inl ⟨rfl, c1, ?_, fun i hi => hm i ?_⟩⟩) (fun c3 => ?_)
    · show (g' 5 3).toInt = (g' 5 5).toInt + 4
      omega
    · have c3 := icc_le (m := 4) (n := v2.toInt) (by decide) rfl c3
      have hi : i < 4 := hi
      omega
    have c3 := icc_nle (m := 4) (n := v2.toInt) (by decide) rfl c3
    have ew : ((g' 5 5) + v2).toInt = (g' 5 5).toInt + v2.toInt := ic_addc rfl rfl (by omega) (by omega)
    refine Ex.ck (by omega) (by omega) ?_
    refine Ex.ck (by omega) (by omega) ?_
    have en : ((g' 5 5) + v2).toNatClampNeg = (g' 5 5).toInt.toNat + v2.toInt.toNat := by rw [nc, ew]; omega
    have ev : v2.toNatClampNeg = v2.toInt.toNat := nc v2
    rw [en, ev]
    have hs : ∀ i : Nat, i < 4 → (sch 1 i).toInt = (wd 11).getD i 0 := by decide
    have hs := hs v2.toInt.toNat (by omega)
    refine Ex.ite (fun c4 => ?_) (fun c4 => Ex.ret ⟨rfl, rfl, Or.inr ⟨rfl, fun h => ?_⟩⟩)
    · have c4 := icc_eq (m := (g' 14 ((g' 5 5).toInt.toNat + v2.toInt.toNat)).toInt) (n := (sch 1 v2.toInt.toNat).toInt) rfl rfl c4
      generalize hw : v2 + 1 = w
      have ew : w.toInt = v2.toInt + 1 := by rw [← hw]; exact ic_addc rfl (by decide) (by omega) (by omega)
      refine ih (w, g', L') ⟨(show 0 ≤ w.toInt ∧ w.toInt ≤ 4 by omega), rfl, rfl, fun i hi => ?_⟩ (show 4 - w.toInt < 4 - v2.toInt by omega) (show 0 < 4 - v2.toInt by omega)
      have hi : (i : Int) < w.toInt := hi
      by_cases e : i = v2.toInt.toNat
      · rw [e]; exact c4.trans hs
      · exact hm i (by omega)
    · have c4 := icc_neq (m := (g' 14 ((g' 5 5).toInt.toNat + v2.toInt.toNat)).toInt) (n := (sch 1 v2.toInt.toNat).toInt) rfl rfl c4
      have h3 := h.2.2 v2.toInt.toNat (show v2.toInt.toNat < 4 by omega)
      exact c4 (h3.trans hs.symm)
  refine Ex.cb key (fun x g1 L1 hx => ?_)
  obtain ⟨rfl, rfl, hx⟩ := hx
  rcases hx with ⟨rfl, hx⟩ | ⟨rfl, hx⟩
  · rw [if_neg (by decide)]; exact h1 hx
  · rw [if_pos rfl]; exact h0 hx
theorem e_stairW {ρ : Type} {Q : ρ → gT → lT → Prop} {g : gT} {L : lT} {fu : Nat} {A B : gT → lT → Option (ρ × zS)} (hfu : 1180591620717411303424 ≤ fu) (hI : zI XT g) (h1 : xW g 12 → Ex (B g L) Q) (h0 : ¬ xW g 12 → Ex (A g L) Q) : Ex (cb (fX6_isWord_5_stair fu g L) (fun x g1 L1 => if x = 0 then A g1 L1 else B g1 L1)) Q := by
  have q3 := hI 5 3 0 700 rfl
  have q5 := hI 5 5 0 700 rfl
  have key : Ex (fX6_isWord_5_stair fu g L) (fun (x : Int32) g1 L1 => g1 = g ∧ L1 = L ∧ ((x = 1 ∧ xW g 12) ∨ (x = 0 ∧ ¬ xW g 12))) := by
    unfold fX6_isWord_5_stair fX6_isWord_5_stair_p24
    rw [ckb0]
    refine Ex.ite (fun c1 => ?_) (fun c1 => Ex.ret ⟨rfl, rfl, Or.inr ⟨rfl, fun h => ?_⟩⟩)
    rotate_left
    · have c1 := icc_neq (m := (g 5 4).toInt) (n := 2) rfl (by decide) c1
      exact c1 h.1
    have c1 := icc_eq (m := (g 5 4).toInt) (n := 2) rfl (by decide) c1
    have ez : ((g 5 3) - (g 5 5)).toInt = (g 5 3).toInt - (g 5 5).toInt := ic_subc rfl rfl (by omega) (by omega)
    refine Ex.ite (fun c2 => ?_) (fun c2 => Ex.ret ⟨rfl, rfl, Or.inr ⟨rfl, fun h => ?_⟩⟩)
    rotate_left
    · have c2 := icc_neq (m := ((g 5 3) - (g 5 5)).toInt) (n := 5) rfl (by decide) c2
      have h2 : (g 5 3).toInt = (g 5 5).toInt + 5 := h.2.1
      omega
    have c2 := icc_eq (m := ((g 5 3) - (g 5 5)).toInt) (n := 5) rfl (by decide) c2
    unfold fX6_isWord_5_stair_l28
    refine Ex.loop (α := Int32 × gT × lT) (fun v => (0 ≤ v.1.toInt ∧ v.1.toInt ≤ 5) ∧ v.2.1 = g ∧ v.2.2 = L ∧ ∀ i : Nat, (i : Int) < v.1.toInt → (g 14 ((g 5 5).toInt.toNat + i)).toInt = (wd 12).getD i 0) (fun v => 5 - v.1.toInt) (by omega) (by show 5 - (0 : Int32).toInt < (fu : Int); have : (0 : Int32).toInt = 0 := rfl; omega) ⟨(show 0 ≤ (0 : Int32).toInt ∧ (0 : Int32).toInt ≤ 5 from by decide), rfl, rfl, fun i hi => absurd (show (i : Int) < 0 from hi) (by omega)⟩ (fun k28 v hv ih => ?_)
    obtain ⟨v2, g', L'⟩ := v
    obtain ⟨hv, e1, e2, hm⟩ := hv
    have hv : 0 ≤ v2.toInt ∧ v2.toInt ≤ 5 := hv
    have e1 : g' = g := e1
    have e2 : L' = L := e2
    have hm : ∀ i : Nat, (i : Int) < v2.toInt → (g 14 ((g 5 5).toInt.toNat + i)).toInt = (wd 12).getD i 0 := hm
    subst e1 e2
    show Ex (fX6_isWord_5_stair_s28 fu k28 v2 g' L') _
    unfold fX6_isWord_5_stair_s28
    rw [ckb0, ckb1]
    refine Ex.ite (fun c3 => Ex.ret ⟨rfl, rfl, Or.inl ⟨rfl, c1, ?_, fun i hi => hm i ?_⟩⟩) (fun c3 => ?_)
    · show (g' 5 3).toInt = (g' 5 5).toInt + 5
      omega
    · have c3 := icc_le (m := 5) (n := v2.toInt) (by decide) rfl c3
      have hi : i < 5 := hi
      omega
    have c3 := icc_nle (m := 5) (n := v2.toInt) (by decide) rfl c3
    have ew : ((g' 5 5) + v2).toInt = (g' 5 5).toInt + v2.toInt := ic_addc rfl rfl (by omega) (by omega)
    refine Ex.ck (by omega) (by omega) ?_
    refine Ex.ck (by omega) (by omega) ?_
    have en : ((g' 5 5) + v2).toNatClampNeg = (g' 5 5).toInt.toNat + v2.toInt.toNat := by rw [nc, ew]; omega
    have ev : v2.toNatClampNeg = v2.toInt.toNat := nc v2
    rw [en, ev]
    have hs : ∀ i : Nat, i < 5 → (sch 2 i).toInt = (wd 12).getD i 0 := by decide
    have hs := hs v2.toInt.toNat (by omega)
    refine Ex.ite (fun c4 => ?_) (fun c4 => Ex.ret ⟨rfl, rfl, Or.inr ⟨rfl, fun h => ?_⟩⟩)
    · have c4 := icc_eq (m := (g' 14 ((g' 5 5).toInt.toNat + v2.toInt.toNat)).toInt) (n := (sch 2 v2.toInt.toNat).toInt) rfl rfl c4
      generalize hw : v2 + 1 = w
      have ew : w.toInt = v2.toInt + 1 := by rw [← hw]; exact ic_addc rfl (by decide) (by omega) (by omega)
      refine ih (w, g', L') ⟨(show 0 ≤ w.toInt ∧ w.toInt ≤ 5 by omega), rfl, rfl, fun i hi => ?_⟩ (show 5 - w.toInt < 5 - v2.toInt by omega) (show 0 < 5 - v2.toInt by omega)
      have hi : (i : Int) < w.toInt := hi
      by_cases e : i = v2.toInt.toNat
      · rw [e]; exact c4.trans hs
      · exact hm i (by omega)
    · have c4 := icc_neq (m := (g' 14 ((g' 5 5).toInt.toNat + v2.toInt.toNat)).toInt) (n := (sch 2 v2.toInt.toNat).toInt) rfl rfl c4
      have h3 := h.2.2 v2.toInt.toNat (show v2.toInt.toNat < 5 by omega)
      exact c4 (h3.trans hs.symm)
  refine Ex.cb key (fun x g1 L1 hx => ?_)
  obtain ⟨rfl, rfl, hx⟩ := hx
  rcases hx with ⟨rfl, hx⟩ | ⟨rfl, hx⟩
  · rw [if_neg (by decide)]; exact h1 hx
  · rw [if_pos rfl]; exact h0 hx
theorem e_ruleW {ρ : Type} {Q : ρ → gT → lT → Prop} {g : gT} {L : lT} {fu : Nat} {A B : gT → lT → Option (ρ × zS)} (hfu : 1180591620717411303424 ≤ fu) (hI : zI XT g) (h1 : xW g 13 → Ex (B g L) Q) (h0 : ¬ xW g 13 → Ex (A g L) Q) : Ex (cb (fX6_isWord_5_rule fu g L) (fun x g1 L1 => if x = 0 then A g1 L1 else B g1 L1)) Q := by
  have q3 := hI 5 3 0 700 rfl
  have q5 := hI 5 5 0 700 rfl
  have key : Ex (fX6_isWord_5_rule fu g L) (fun (x : Int32) g1 L1 => g1 = g ∧ L1 = L ∧ ((x = 1 ∧ xW g 13) ∨ (x = 0 ∧ ¬ xW g 13))) := by
    unfold fX6_isWord_5_rule fX6_isWord_5_rule_p24
    rw [ckb0]
    refine Ex.ite (fun c1 => ?_) (fun c1 => Ex.ret ⟨rfl, rfl, Or.inr ⟨rfl, fun h => ?_⟩⟩)
    rotate_left
    · have c1 := icc_neq (m := (g 5 4).toInt) (n := 2) rfl (by decide) c1
      exact c1 h.1
    have c1 := icc_eq (m := (g 5 4).toInt) (n := 2) rfl (by decide) c1
    have ez : ((g 5 3) - (g 5 5)).toInt = (g 5 3).toInt - (g 5 5).toInt := ic_subc rfl rfl (by omega) (by omega)
    refine Ex.ite (fun c2 => ?_) (fun c2 => Ex.ret ⟨rfl, rfl, Or.inr ⟨rfl, fun h => ?_⟩⟩)
    rotate_left
    · have c2 := icc_neq (m := ((g 5 3) - (g 5 5)).toInt) (n := 4) rfl (by decide) c2
      have h2 : (g 5 3).toInt = (g 5 5).toInt + 4 := h.2.1
      omega
    have c2 := icc_eq (m := ((g 5 3) - (g 5 5)).toInt) (n := 4) rfl (by decide) c2
    unfold fX6_isWord_5_rule_l28
    refine Ex.loop (α := Int32 × gT × lT) (fun v => (0 ≤ v.1.toInt ∧ v.1.toInt ≤ 4) ∧ v.2.1 = g ∧ v.2.2 = L ∧ ∀ i : Nat, (i : Int) < v.1.toInt → (g 14 ((g 5 5).toInt.toNat + i)).toInt = (wd 13).getD i 0) (fun v => 4 - v.1.toInt) (by omega) (by show 4 - (0 : Int32).toInt < (fu : Int); have : (0 : Int32).toInt = 0 := rfl; omega) ⟨(show 0 ≤ (0 : Int32).toInt ∧ (0 : Int32).toInt ≤ 4 from by decide), rfl, rfl, fun i hi => absurd (show (i : Int) < 0 from hi) (by omega)⟩ (fun k28 v hv ih => ?_)
    obtain ⟨v2, g', L'⟩ := v
    obtain ⟨hv, e1, e2, hm⟩ := hv
    have hv : 0 ≤ v2.toInt ∧ v2.toInt ≤ 4 := hv
    have e1 : g' = g := e1
    have e2 : L' = L := e2
    have hm : ∀ i : Nat, (i : Int) < v2.toInt → (g 14 ((g 5 5).toInt.toNat + i)).toInt = (wd 13).getD i 0 := hm
    subst e1 e2
    show Ex (fX6_isWord_5_rule_s28 fu k28 v2 g' L') _
    unfold fX6_isWord_5_rule_s28
    rw [ckb0, ckb1]
    refine Ex.ite (fun c3 => Ex.ret ⟨rfl, rfl, Or.inl ⟨rfl, c1, ?_, fun i hi => hm i ?_⟩⟩) (fun c3 => ?_)
    · show (g' 5 3).toInt = (g' 5 5).toInt + 4
      omega
    · have c3 := icc_le (m := 4) (n := v2.toInt) (by decide) rfl c3
      have hi : i < 4 := hi
      omega
    have c3 := icc_nle (m := 4) (n := v2.toInt) (by decide) rfl c3
    have ew : ((g' 5 5) + v2).toInt = (g' 5 5).toInt + v2.toInt := ic_addc rfl rfl (by omega) (by omega)
    refine Ex.ck (by omega) (by omega) ?_
    refine Ex.ck (by omega) (by omega) ?_
    have en : ((g' 5 5) + v2).toNatClampNeg = (g' 5 5).toInt.toNat + v2.toInt.toNat := by rw [nc, ew]; omega
    have ev : v2.toNatClampNeg = v2.toInt.toNat := nc v2
    rw [en, ev]
    have hs : ∀ i : Nat, i < 4 → (sch 3 i).toInt = (wd 13).getD i 0 := by decide
    have hs := hs v2.toInt.toNat (by omega)
    refine Ex.ite (fun c4 => ?_) (fun c4 => Ex.ret ⟨rfl, rfl, Or.inr ⟨rfl, fun h => ?_⟩⟩)
    · have c4 := icc_eq (m := (g' 14 ((g' 5 5).toInt.toNat + v2.toInt.toNat)).toInt) (n := (sch 3 v2.toInt.toNat).toInt) rfl rfl c4
      generalize hw : v2 + 1 = w
      have ew : w.toInt = v2.toInt + 1 := by rw [← hw]; exact ic_addc rfl (by decide) (by omega) (by omega)
      refine ih (w, g', L') ⟨(show 0 ≤ w.toInt ∧ w.toInt ≤ 4 by omega), rfl, rfl, fun i hi => ?_⟩ (show 4 - w.toInt < 4 - v2.toInt by omega) (show 0 < 4 - v2.toInt by omega)
      have hi : (i : Int) < w.toInt := hi
      by_cases e : i = v2.toInt.toNat
      · rw [e]; exact c4.trans hs
      · exact hm i (by omega)
    · have c4 := icc_neq (m := (g' 14 ((g' 5 5).toInt.toNat + v2.toInt.toNat)).toInt) (n := (sch 3 v2.toInt.toNat).toInt) rfl rfl c4
      have h3 := h.2.2 v2.toInt.toNat (show v2.toInt.toNat < 4 by omega)
      exact c4 (h3.trans hs.symm)
  refine Ex.cb key (fun x g1 L1 hx => ?_)
  obtain ⟨rfl, rfl, hx⟩ := hx
  rcases hx with ⟨rfl, hx⟩ | ⟨rfl, hx⟩
  · rw [if_neg (by decide)]; exact h1 hx
  · rw [if_pos rfl]; exact h0 hx
theorem e_andW {ρ : Type} {Q : ρ → gT → lT → Prop} {g : gT} {L : lT} {fu : Nat} {A B : gT → lT → Option (ρ × zS)} (hfu : 1180591620717411303424 ≤ fu) (hI : zI XT g) (h1 : xW g 14 → Ex (B g L) Q) (h0 : ¬ xW g 14 → Ex (A g L) Q) : Ex (cb (fX6_isWord_5_and fu g L) (fun x g1 L1 => if x = 0 then A g1 L1 else B g1 L1)) Q := by
  have q3 := hI 5 3 0 700 rfl
  have q5 := hI 5 5 0 700 rfl
  have key : Ex (fX6_isWord_5_and fu g L) (fun (x : Int32) g1 L1 => g1 = g ∧ L1 = L ∧ ((x = 1 ∧ xW g 14) ∨ (x = 0 ∧ ¬ xW g 14))) := by
    unfold fX6_isWord_5_and fX6_isWord_5_and_p24
    rw [ckb0]
    refine Ex.ite (fun c1 => ?_) (fun c1 => Ex.ret ⟨rfl, rfl, Or.inr ⟨rfl, fun h => ?_⟩⟩)
    rotate_left
    · have c1 := icc_neq (m := (g 5 4).toInt) (n := 2) rfl (by decide) c1
      exact c1 h.1
    have c1 := icc_eq (m := (g 5 4).toInt) (n := 2) rfl (by decide) c1
    have ez : ((g 5 3) - (g 5 5)).toInt = (g 5 3).toInt - (g 5 5).toInt := ic_subc rfl rfl (by omega) (by omega)
    refine Ex.ite (fun c2 => ?_) (fun c2 => Ex.ret ⟨rfl, rfl, Or.inr ⟨rfl, fun h => ?_⟩⟩)
    rotate_left
    · have c2 := icc_neq (m := ((g 5 3) - (g 5 5)).toInt) (n := 3) rfl (by decide) c2
      have h2 : (g 5 3).toInt = (g 5 5).toInt + 3 := h.2.1
      omega
    have c2 := icc_eq (m := ((g 5 3) - (g 5 5)).toInt) (n := 3) rfl (by decide) c2
    unfold fX6_isWord_5_and_l28
    refine Ex.loop (α := Int32 × gT × lT) (fun v => (0 ≤ v.1.toInt ∧ v.1.toInt ≤ 3) ∧ v.2.1 = g ∧ v.2.2 = L ∧ ∀ i : Nat, (i : Int) < v.1.toInt → (g 14 ((g 5 5).toInt.toNat + i)).toInt = (wd 14).getD i 0) (fun v => 3 - v.1.toInt) (by omega) (by show 3 - (0 : Int32).toInt < (fu : Int); have : (0 : Int32).toInt = 0 := rfl; omega) ⟨(show 0 ≤ (0 : Int32).toInt ∧ (0 : Int32).toInt ≤ 3 from by decide), rfl, rfl, fun i hi => absurd (show (i : Int) < 0 from hi) (by omega)⟩ (fun k28 v hv ih => ?_)
    obtain ⟨v2, g', L'⟩ := v
    obtain ⟨hv, e1, e2, hm⟩ := hv
    have hv : 0 ≤ v2.toInt ∧ v2.toInt ≤ 3 := hv
    have e1 : g' = g := e1
    have e2 : L' = L := e2
    have hm : ∀ i : Nat, (i : Int) < v2.toInt → (g 14 ((g 5 5).toInt.toNat + i)).toInt = (wd 14).getD i 0 := hm
    subst e1 e2
    show Ex (fX6_isWord_5_and_s28 fu k28 v2 g' L') _
    unfold fX6_isWord_5_and_s28
    rw [ckb0, ckb1]
    refine Ex.ite (fun c3 => Ex.ret ⟨rfl, rfl, Or.inl ⟨rfl, c1, ?_, fun i hi => hm i ?_⟩⟩) (fun c3 => ?_)
    · show (g' 5 3).toInt = (g' 5 5).toInt + 3
      omega
    · have c3 := icc_le (m := 3) (n := v2.toInt) (by decide) rfl c3
      have hi : i < 3 := hi
      omega
    have c3 := icc_nle (m := 3) (n := v2.toInt) (by decide) rfl c3
    have ew : ((g' 5 5) + v2).toInt = (g' 5 5).toInt + v2.toInt := ic_addc rfl rfl (by omega) (by omega)
    refine Ex.ck (by omega) (by omega) ?_
    refine Ex.ck (by omega) (by omega) ?_
    have en : ((g' 5 5) + v2).toNatClampNeg = (g' 5 5).toInt.toNat + v2.toInt.toNat := by rw [nc, ew]; omega
    have ev : v2.toNatClampNeg = v2.toInt.toNat := nc v2
    rw [en, ev]
    have hs : ∀ i : Nat, i < 3 → (sch 10 i).toInt = (wd 14).getD i 0 := by decide
    have hs := hs v2.toInt.toNat (by omega)
    refine Ex.ite (fun c4 => ?_) (fun c4 => Ex.ret ⟨rfl, rfl, Or.inr ⟨rfl, fun h => ?_⟩⟩)
    · have c4 := icc_eq (m := (g' 14 ((g' 5 5).toInt.toNat + v2.toInt.toNat)).toInt) (n := (sch 10 v2.toInt.toNat).toInt) rfl rfl c4
      generalize hw : v2 + 1 = w
      have ew : w.toInt = v2.toInt + 1 := by rw [← hw]; exact ic_addc rfl (by decide) (by omega) (by omega)
      refine ih (w, g', L') ⟨(show 0 ≤ w.toInt ∧ w.toInt ≤ 3 by omega), rfl, rfl, fun i hi => ?_⟩ (show 3 - w.toInt < 3 - v2.toInt by omega) (show 0 < 3 - v2.toInt by omega)
      have hi : (i : Int) < w.toInt := hi
      by_cases e : i = v2.toInt.toNat
      · rw [e]; exact c4.trans hs
      · exact hm i (by omega)
    · have c4 := icc_neq (m := (g' 14 ((g' 5 5).toInt.toNat + v2.toInt.toNat)).toInt) (n := (sch 10 v2.toInt.toNat).toInt) rfl rfl c4
      have h3 := h.2.2 v2.toInt.toNat (show v2.toInt.toNat < 3 by omega)
      exact c4 (h3.trans hs.symm)
  refine Ex.cb key (fun x g1 L1 hx => ?_)
  obtain ⟨rfl, rfl, hx⟩ := hx
  rcases hx with ⟨rfl, hx⟩ | ⟨rfl, hx⟩
  · rw [if_neg (by decide)]; exact h1 hx
  · rw [if_pos rfl]; exact h0 hx
theorem e_orW {ρ : Type} {Q : ρ → gT → lT → Prop} {g : gT} {L : lT} {fu : Nat} {A B : gT → lT → Option (ρ × zS)} (hfu : 1180591620717411303424 ≤ fu) (hI : zI XT g) (h1 : xW g 15 → Ex (B g L) Q) (h0 : ¬ xW g 15 → Ex (A g L) Q) : Ex (cb (fX6_isWord_5_or fu g L) (fun x g1 L1 => if x = 0 then A g1 L1 else B g1 L1)) Q := by
  have q3 := hI 5 3 0 700 rfl
  have q5 := hI 5 5 0 700 rfl
  have key : Ex (fX6_isWord_5_or fu g L) (fun (x : Int32) g1 L1 => g1 = g ∧ L1 = L ∧ ((x = 1 ∧ xW g 15) ∨ (x = 0 ∧ ¬ xW g 15))) := by
    unfold fX6_isWord_5_or fX6_isWord_5_or_p24
    rw [ckb0]
    refine Ex.ite (fun c1 => ?_) (fun c1 => Ex.ret ⟨rfl, rfl, Or.inr ⟨rfl, fun h => ?_⟩⟩)
    rotate_left
    · have c1 := icc_neq (m := (g 5 4).toInt) (n := 2) rfl (by decide) c1
      exact c1 h.1
    have c1 := icc_eq (m := (g 5 4).toInt) (n := 2) rfl (by decide) c1
    have ez : ((g 5 3) - (g 5 5)).toInt = (g 5 3).toInt - (g 5 5).toInt := ic_subc rfl rfl (by omega) (by omega)
    refine Ex.ite (fun c2 => ?_) (fun c2 => Ex.ret ⟨rfl, rfl, Or.inr ⟨rfl, fun h => ?_⟩⟩)
    rotate_left
    · have c2 := icc_neq (m := ((g 5 3) - (g 5 5)).toInt) (n := 2) rfl (by decide) c2
      have h2 : (g 5 3).toInt = (g 5 5).toInt + 2 := h.2.1
      omega
    have c2 := icc_eq (m := ((g 5 3) - (g 5 5)).toInt) (n := 2) rfl (by decide) c2
    unfold fX6_isWord_5_or_l28
    refine Ex.loop (α := Int32 × gT × lT) (fun v => (0 ≤ v.1.toInt ∧ v.1.toInt ≤ 2) ∧ v.2.1 = g ∧ v.2.2 = L ∧ ∀ i : Nat, (i : Int) < v.1.toInt → (g 14 ((g 5 5).toInt.toNat + i)).toInt = (wd 15).getD i 0) (fun v => 2 - v.1.toInt) (by omega) (by show 2 - (0 : Int32).toInt < (fu : Int); have : (0 : Int32).toInt = 0 := rfl; omega) ⟨(show 0 ≤ (0 : Int32).toInt ∧ (0 : Int32).toInt ≤ 2 from by decide), rfl, rfl, fun i hi => absurd (show (i : Int) < 0 from hi) (by omega)⟩ (fun k28 v hv ih => ?_)
    obtain ⟨v2, g', L'⟩ := v
    obtain ⟨hv, e1, e2, hm⟩ := hv
    have hv : 0 ≤ v2.toInt ∧ v2.toInt ≤ 2 := hv
    have e1 : g' = g := e1
    have e2 : L' = L := e2
    have hm : ∀ i : Nat, (i : Int) < v2.toInt → (g 14 ((g 5 5).toInt.toNat + i)).toInt = (wd 15).getD i 0 := hm
    subst e1 e2
    show Ex (fX6_isWord_5_or_s28 fu k28 v2 g' L') _
    unfold fX6_isWord_5_or_s28
    rw [ckb0, ckb1]
    refine Ex.ite (fun c3 => Ex.ret ⟨rfl, rfl, Or.inl ⟨rfl, c1, ?_, fun i hi => hm i ?_⟩⟩) (fun c3 => ?_)
    · show (g' 5 3).toInt = (g' 5 5).toInt + 2
      omega
    · have c3 := icc_le (m := 2) (n := v2.toInt) (by decide) rfl c3
      have hi : i < 2 := hi
      omega
    have c3 := icc_nle (m := 2) (n := v2.toInt) (by decide) rfl c3
    have ew : ((g' 5 5) + v2).toInt = (g' 5 5).toInt + v2.toInt := ic_addc rfl rfl (by omega) (by omega)
    refine Ex.ck (by omega) (by omega) ?_
    refine Ex.ck (by omega) (by omega) ?_
    have en : ((g' 5 5) + v2).toNatClampNeg = (g' 5 5).toInt.toNat + v2.toInt.toNat := by rw [nc, ew]; omega
    have ev : v2.toNatClampNeg = v2.toInt.toNat := nc v2
    rw [en, ev]
    have hs : ∀ i : Nat, i < 2 → (sch 9 i).toInt = (wd 15).getD i 0 := by decide
    have hs := hs v2.toInt.toNat (by omega)
    refine Ex.ite (fun c4 => ?_) (fun c4 => Ex.ret ⟨rfl, rfl, Or.inr ⟨rfl, fun h => ?_⟩⟩)
    · have c4 := icc_eq (m := (g' 14 ((g' 5 5).toInt.toNat + v2.toInt.toNat)).toInt) (n := (sch 9 v2.toInt.toNat).toInt) rfl rfl c4
      generalize hw : v2 + 1 = w
      have ew : w.toInt = v2.toInt + 1 := by rw [← hw]; exact ic_addc rfl (by decide) (by omega) (by omega)
      refine ih (w, g', L') ⟨(show 0 ≤ w.toInt ∧ w.toInt ≤ 2 by omega), rfl, rfl, fun i hi => ?_⟩ (show 2 - w.toInt < 2 - v2.toInt by omega) (show 0 < 2 - v2.toInt by omega)
      have hi : (i : Int) < w.toInt := hi
      by_cases e : i = v2.toInt.toNat
      · rw [e]; exact c4.trans hs
      · exact hm i (by omega)
    · have c4 := icc_neq (m := (g' 14 ((g' 5 5).toInt.toNat + v2.toInt.toNat)).toInt) (n := (sch 9 v2.toInt.toNat).toInt) rfl rfl c4
      have h3 := h.2.2 v2.toInt.toNat (show v2.toInt.toNat < 2 by omega)
      exact c4 (h3.trans hs.symm)
  refine Ex.cb key (fun x g1 L1 hx => ?_)
  obtain ⟨rfl, rfl, hx⟩ := hx
  rcases hx with ⟨rfl, hx⟩ | ⟨rfl, hx⟩
  · rw [if_neg (by decide)]; exact h1 hx
  · rw [if_pos rfl]; exact h0 hx
theorem e_notW {ρ : Type} {Q : ρ → gT → lT → Prop} {g : gT} {L : lT} {fu : Nat} {A B : gT → lT → Option (ρ × zS)} (hfu : 1180591620717411303424 ≤ fu) (hI : zI XT g) (h1 : xW g 16 → Ex (B g L) Q) (h0 : ¬ xW g 16 → Ex (A g L) Q) : Ex (cb (fX6_isWord_5_not fu g L) (fun x g1 L1 => if x = 0 then A g1 L1 else B g1 L1)) Q := by
  have q3 := hI 5 3 0 700 rfl
  have q5 := hI 5 5 0 700 rfl
  have key : Ex (fX6_isWord_5_not fu g L) (fun (x : Int32) g1 L1 => g1 = g ∧ L1 = L ∧ ((x = 1 ∧ xW g 16) ∨ (x = 0 ∧ ¬ xW g 16))) := by
    unfold fX6_isWord_5_not fX6_isWord_5_not_p24
    rw [ckb0]
    refine Ex.ite (fun c1 => ?_) (fun c1 => Ex.ret ⟨rfl, rfl, Or.inr ⟨rfl, fun h => ?_⟩⟩)
    rotate_left
    · have c1 := icc_neq (m := (g 5 4).toInt) (n := 2) rfl (by decide) c1
      exact c1 h.1
    have c1 := icc_eq (m := (g 5 4).toInt) (n := 2) rfl (by decide) c1
    have ez : ((g 5 3) - (g 5 5)).toInt = (g 5 3).toInt - (g 5 5).toInt := ic_subc rfl rfl (by omega) (by omega)
    refine Ex.ite (fun c2 => ?_) (fun c2 => Ex.ret ⟨rfl, rfl, Or.inr ⟨rfl, fun h => ?_⟩⟩)
    rotate_left
    · have c2 := icc_neq (m := ((g 5 3) - (g 5 5)).toInt) (n := 3) rfl (by decide) c2
      have h2 : (g 5 3).toInt = (g 5 5).toInt + 3 := h.2.1
      omega
    have c2 := icc_eq (m := ((g 5 3) - (g 5 5)).toInt) (n := 3) rfl (by decide) c2
    unfold fX6_isWord_5_not_l28
    refine Ex.loop (α := Int32 × gT × lT) (fun v => (0 ≤ v.1.toInt ∧ v.1.toInt ≤ 3) ∧ v.2.1 = g ∧ v.2.2 = L ∧ ∀ i : Nat, (i : Int) < v.1.toInt → (g 14 ((g 5 5).toInt.toNat + i)).toInt = (wd 16).getD i 0) (fun v => 3 - v.1.toInt) (by omega) (by show 3 - (0 : Int32).toInt < (fu : Int); have : (0 : Int32).toInt = 0 := rfl; omega) ⟨(show 0 ≤ (0 : Int32).toInt ∧ (0 : Int32).toInt ≤ 3 from by decide), rfl, rfl, fun i hi => absurd (show (i : Int) < 0 from hi) (by omega)⟩ (fun k28 v hv ih => ?_)
    obtain ⟨v2, g', L'⟩ := v
    obtain ⟨hv, e1, e2, hm⟩ := hv
    have hv : 0 ≤ v2.toInt ∧ v2.toInt ≤ 3 := hv
    have e1 : g' = g := e1
    have e2 : L' = L := e2
    have hm : ∀ i : Nat, (i : Int) < v2.toInt → (g 14 ((g 5 5).toInt.toNat + i)).toInt = (wd 16).getD i 0 := hm
    subst e1 e2
    show Ex (fX6_isWord_5_not_s28 fu k28 v2 g' L') _
    unfold fX6_isWord_5_not_s28
    rw [ckb0, ckb1]
    refine Ex.ite (fun c3 => Ex.ret ⟨rfl, rfl, Or.inl ⟨rfl, c1, ?_, fun i hi => hm i ?_⟩⟩) (fun c3 => ?_)
    · show (g' 5 3).toInt = (g' 5 5).toInt + 3
      omega
    · have c3 := icc_le (m := 3) (n := v2.toInt) (by decide) rfl c3
      have hi : i < 3 := hi
      omega
    have c3 := icc_nle (m := 3) (n := v2.toInt) (by decide) rfl c3
    have ew : ((g' 5 5) + v2).toInt = (g' 5 5).toInt + v2.toInt := ic_addc rfl rfl (by omega) (by omega)
    refine Ex.ck (by omega) (by omega) ?_
    refine Ex.ck (by omega) (by omega) ?_
    have en : ((g' 5 5) + v2).toNatClampNeg = (g' 5 5).toInt.toNat + v2.toInt.toNat := by rw [nc, ew]; omega
    have ev : v2.toNatClampNeg = v2.toInt.toNat := nc v2
    rw [en, ev]
    have hs : ∀ i : Nat, i < 3 → (sch 11 i).toInt = (wd 16).getD i 0 := by decide
    have hs := hs v2.toInt.toNat (by omega)
    refine Ex.ite (fun c4 => ?_) (fun c4 => Ex.ret ⟨rfl, rfl, Or.inr ⟨rfl, fun h => ?_⟩⟩)
    · have c4 := icc_eq (m := (g' 14 ((g' 5 5).toInt.toNat + v2.toInt.toNat)).toInt) (n := (sch 11 v2.toInt.toNat).toInt) rfl rfl c4
      generalize hw : v2 + 1 = w
      have ew : w.toInt = v2.toInt + 1 := by rw [← hw]; exact ic_addc rfl (by decide) (by omega) (by omega)
      refine ih (w, g', L') ⟨(show 0 ≤ w.toInt ∧ w.toInt ≤ 3 by omega), rfl, rfl, fun i hi => ?_⟩ (show 3 - w.toInt < 3 - v2.toInt by omega) (show 0 < 3 - v2.toInt by omega)
      have hi : (i : Int) < w.toInt := hi
      by_cases e : i = v2.toInt.toNat
      · rw [e]; exact c4.trans hs
      · exact hm i (by omega)
    · have c4 := icc_neq (m := (g' 14 ((g' 5 5).toInt.toNat + v2.toInt.toNat)).toInt) (n := (sch 11 v2.toInt.toNat).toInt) rfl rfl c4
      have h3 := h.2.2 v2.toInt.toNat (show v2.toInt.toNat < 3 by omega)
      exact c4 (h3.trans hs.symm)
  refine Ex.cb key (fun x g1 L1 hx => ?_)
  obtain ⟨rfl, rfl, hx⟩ := hx
  rcases hx with ⟨rfl, hx⟩ | ⟨rfl, hx⟩
  · rw [if_neg (by decide)]; exact h1 hx
  · rw [if_pos rfl]; exact h0 hx
theorem let_eq {fu : Nat} {v : Int32} {g : gT} {L : lT} (h0 : 0 ≤ v.toInt) (h1 : v.toInt ≤ 16) : ∃ y : Int64, fX12_letters fu v g L = some (y, (g, L)) ∧ y.toInt = wI v.toInt.toNat := by
  unfold fX12_letters
  rcases (by omega : v.toInt = 0 ∨ v.toInt = 1 ∨ v.toInt = 2 ∨ v.toInt = 3 ∨ v.toInt = 4 ∨ v.toInt = 5 ∨ v.toInt = 6 ∨ v.toInt = 7 ∨ v.toInt = 8 ∨ v.toInt = 9 ∨ v.toInt = 10 ∨ v.toInt = 11 ∨ v.toInt = 12 ∨ v.toInt = 13 ∨ v.toInt = 14 ∨ v.toInt = 15 ∨ v.toInt = 16) with h | h | h | h | h | h | h | h | h | h | h | h | h | h | h | h | h
  · rw [h]
    rw [if_pos rfl]
    exact ⟨_, rfl, by decide⟩
  · rw [h]
    rw [if_neg (by decide), if_pos rfl]
    exact ⟨_, rfl, by decide⟩
  · rw [h]
    rw [if_neg (by decide), if_neg (by decide), if_pos rfl]
    exact ⟨_, rfl, by decide⟩
  · rw [h]
    rw [if_neg (by decide), if_neg (by decide), if_neg (by decide), if_pos rfl]
    exact ⟨_, rfl, by decide⟩
  · rw [h]
    rw [if_neg (by decide), if_neg (by decide), if_neg (by decide), if_neg (by decide), if_pos rfl]
    exact ⟨_, rfl, by decide⟩
  · rw [h]
    rw [if_neg (by decide), if_neg (by decide), if_neg (by decide), if_neg (by decide), if_neg (by decide), if_pos rfl]
    exact ⟨_, rfl, by decide⟩
  · rw [h]
    rw [if_neg (by decide), if_neg (by decide), if_neg (by decide), if_neg (by decide), if_neg (by decide), if_neg (by decide), if_pos rfl]
    exact ⟨_, rfl, by decide⟩
  · rw [h]
    rw [if_neg (by decide), if_neg (by decide), if_neg (by decide), if_neg (by decide), if_neg (by decide), if_neg (by decide), if_neg (by decide), if_pos rfl]
    exact ⟨_, rfl, by decide⟩
  · rw [h]
    rw [if_neg (by decide), if_neg (by decide), if_neg (by decide), if_neg (by decide), if_neg (by decide), if_neg (by decide), if_neg (by decide), if_neg (by decide), if_pos rfl]
    exact ⟨_, rfl, by decide⟩
  · rw [h]
    rw [if_neg (by decide), if_neg (by decide), if_neg (by decide), if_neg (by decide), if_neg (by decide), if_neg (by decide), if_neg (by decide), if_neg (by decide), if_neg (by decide), if_pos rfl]
    exact ⟨_, rfl, by decide⟩
  · rw [h]
    rw [if_neg (by decide), if_neg (by decide), if_neg (by decide), if_neg (by decide), if_neg (by decide), if_neg (by decide), if_neg (by decide), if_neg (by decide), if_neg (by decide), if_neg (by decide), if_pos rfl]
    exact ⟨_, rfl, by decide⟩
  · rw [h]
    rw [if_neg (by decide), if_neg (by decide), if_neg (by decide), if_neg (by decide), if_neg (by decide), if_neg (by decide), if_neg (by decide), if_neg (by decide), if_neg (by decide), if_neg (by decide), if_neg (by decide), if_pos rfl]
    exact ⟨_, rfl, by decide⟩
  · rw [h]
    rw [if_neg (by decide), if_neg (by decide), if_neg (by decide), if_neg (by decide), if_neg (by decide), if_neg (by decide), if_neg (by decide), if_neg (by decide), if_neg (by decide), if_neg (by decide), if_neg (by decide), if_neg (by decide), if_pos rfl]
    exact ⟨_, rfl, by decide⟩
  · rw [h]
    rw [if_neg (by decide), if_neg (by decide), if_neg (by decide), if_neg (by decide), if_neg (by decide), if_neg (by decide), if_neg (by decide), if_neg (by decide), if_neg (by decide), if_neg (by decide), if_neg (by decide), if_neg (by decide), if_neg (by decide), if_pos rfl]
    exact ⟨_, rfl, by decide⟩
  · rw [h]
    rw [if_neg (by decide), if_neg (by decide), if_neg (by decide), if_neg (by decide), if_neg (by decide), if_neg (by decide), if_neg (by decide), if_neg (by decide), if_neg (by decide), if_neg (by decide), if_neg (by decide), if_neg (by decide), if_neg (by decide), if_neg (by decide), if_pos rfl]
    exact ⟨_, rfl, by decide⟩
  · rw [h]
    rw [if_neg (by decide), if_neg (by decide), if_neg (by decide), if_neg (by decide), if_neg (by decide), if_neg (by decide), if_neg (by decide), if_neg (by decide), if_neg (by decide), if_neg (by decide), if_neg (by decide), if_neg (by decide), if_neg (by decide), if_neg (by decide), if_neg (by decide), if_pos rfl]
    exact ⟨_, rfl, by decide⟩
  · rw [h]
    rw [if_neg (by decide), if_neg (by decide), if_neg (by decide), if_neg (by decide), if_neg (by decide), if_neg (by decide), if_neg (by decide), if_neg (by decide), if_neg (by decide), if_neg (by decide), if_neg (by decide), if_neg (by decide), if_neg (by decide), if_neg (by decide), if_neg (by decide), if_neg (by decide)]
    exact ⟨_, rfl, by decide⟩
theorem pinj_0 {b : Nat → Int32} {P m : Nat} (hl : ∀ i, i < m → 97 ≤ (b (P + i)).toInt ∧ (b (P + i)).toInt ≤ 122) (h1 : 1 ≤ m) (h6 : m ≤ 6) (h : pI b P m = wI 0) : m = 4 ∧ ∀ i, i < 4 → (b (P + i)).toInt = (wd 0).getD i 0 := by
  have hw : wI 0 = 514226 := by decide
  rw [hw] at h
  rcases (by omega : m = 1 ∨ m = 2 ∨ m = 3 ∨ m = 4 ∨ m = 5 ∨ m = 6) with rfl | rfl | rfl | rfl | rfl | rfl
  · rw [pI_s (by decide), show pI b P 0 = 0 from rfl] at h
    have l0 := hl 0 (by decide)
    generalize (b (P + 0)).toInt = y0 at h l0
    omega
  · rw [pI_s (by decide), pI_s (by decide), show pI b P 0 = 0 from rfl] at h
    have l0 := hl 0 (by decide)
    have l1 := hl 1 (by decide)
    generalize (b (P + 0)).toInt = y0 at h l0
    generalize (b (P + 1)).toInt = y1 at h l1
    omega
  · rw [pI_s (by decide), pI_s (by decide), pI_s (by decide), show pI b P 0 = 0 from rfl] at h
    have l0 := hl 0 (by decide)
    have l1 := hl 1 (by decide)
    have l2 := hl 2 (by decide)
    generalize (b (P + 0)).toInt = y0 at h l0
    generalize (b (P + 1)).toInt = y1 at h l1
    generalize (b (P + 2)).toInt = y2 at h l2
    omega
  · rw [pI_s (by decide), pI_s (by decide), pI_s (by decide), pI_s (by decide), show pI b P 0 = 0 from rfl] at h
    have l0 := hl 0 (by decide)
    have l1 := hl 1 (by decide)
    have l2 := hl 2 (by decide)
    have l3 := hl 3 (by decide)
    generalize e0 : (b (P + 0)).toInt = y0 at h l0
    generalize e1 : (b (P + 1)).toInt = y1 at h l1
    generalize e2 : (b (P + 2)).toInt = y2 at h l2
    generalize e3 : (b (P + 3)).toInt = y3 at h l3
    refine ⟨rfl, fun i hi => ?_⟩
    rcases (by omega : i = 0 ∨ i = 1 ∨ i = 2 ∨ i = 3) with rfl | rfl | rfl | rfl
    · rw [e0]; show y0 = 111; omega
    · rw [e1]; show y1 = 118; omega
    · rw [e2]; show y2 = 101; omega
    · rw [e3]; show y3 = 114; omega
  · rw [pI_s (by decide), pI_s (by decide), pI_s (by decide), pI_s (by decide), pI_s (by decide), show pI b P 0 = 0 from rfl] at h
    have l0 := hl 0 (by decide)
    have l1 := hl 1 (by decide)
    have l2 := hl 2 (by decide)
    have l3 := hl 3 (by decide)
    have l4 := hl 4 (by decide)
    generalize (b (P + 0)).toInt = y0 at h l0
    generalize (b (P + 1)).toInt = y1 at h l1
    generalize (b (P + 2)).toInt = y2 at h l2
    generalize (b (P + 3)).toInt = y3 at h l3
    generalize (b (P + 4)).toInt = y4 at h l4
    omega
  · rw [pI_s (by decide), pI_s (by decide), pI_s (by decide), pI_s (by decide), pI_s (by decide), pI_s (by decide), show pI b P 0 = 0 from rfl] at h
    have l0 := hl 0 (by decide)
    have l1 := hl 1 (by decide)
    have l2 := hl 2 (by decide)
    have l3 := hl 3 (by decide)
    have l4 := hl 4 (by decide)
    have l5 := hl 5 (by decide)
    generalize (b (P + 0)).toInt = y0 at h l0
    generalize (b (P + 1)).toInt = y1 at h l1
    generalize (b (P + 2)).toInt = y2 at h l2
    generalize (b (P + 3)).toInt = y3 at h l3
    generalize (b (P + 4)).toInt = y4 at h l4
    generalize (b (P + 5)).toInt = y5 at h l5
    omega
theorem pinj_1 {b : Nat → Int32} {P m : Nat} (hl : ∀ i, i < m → 97 ≤ (b (P + i)).toInt ∧ (b (P + i)).toInt ≤ 122) (h1 : 1 ≤ m) (h6 : m ≤ 6) (h : pI b P m = wI 1) : m = 4 ∧ ∀ i, i < 4 → (b (P + i)).toInt = (wd 1).getD i 0 := by
  have hw : wI 1 = 394885 := by decide
  rw [hw] at h
  rcases (by omega : m = 1 ∨ m = 2 ∨ m = 3 ∨ m = 4 ∨ m = 5 ∨ m = 6) with rfl | rfl | rfl | rfl | rfl | rfl
  · rw [pI_s (by decide), show pI b P 0 = 0 from rfl] at h
    have l0 := hl 0 (by decide)
    generalize (b (P + 0)).toInt = y0 at h l0
    omega
  · rw [pI_s (by decide), pI_s (by decide), show pI b P 0 = 0 from rfl] at h
    have l0 := hl 0 (by decide)
    have l1 := hl 1 (by decide)
    generalize (b (P + 0)).toInt = y0 at h l0
    generalize (b (P + 1)).toInt = y1 at h l1
    omega
  · rw [pI_s (by decide), pI_s (by decide), pI_s (by decide), show pI b P 0 = 0 from rfl] at h
    have l0 := hl 0 (by decide)
    have l1 := hl 1 (by decide)
    have l2 := hl 2 (by decide)
    generalize (b (P + 0)).toInt = y0 at h l0
    generalize (b (P + 1)).toInt = y1 at h l1
    generalize (b (P + 2)).toInt = y2 at h l2
    omega
  · rw [pI_s (by decide), pI_s (by decide), pI_s (by decide), pI_s (by decide), show pI b P 0 = 0 from rfl] at h
    have l0 := hl 0 (by decide)
    have l1 := hl 1 (by decide)
    have l2 := hl 2 (by decide)
    have l3 := hl 3 (by decide)
    generalize e0 : (b (P + 0)).toInt = y0 at h l0
    generalize e1 : (b (P + 1)).toInt = y1 at h l1
    generalize e2 : (b (P + 2)).toInt = y2 at h l2
    generalize e3 : (b (P + 3)).toInt = y3 at h l3
    refine ⟨rfl, fun i hi => ?_⟩
    rcases (by omega : i = 0 ∨ i = 1 ∨ i = 2 ∨ i = 3) with rfl | rfl | rfl | rfl
    · rw [e0]; show y0 = 108; omega
    · rw [e1]; show y1 = 97; omega
    · rw [e2]; show y2 = 116; omega
    · rw [e3]; show y3 = 101; omega
  · rw [pI_s (by decide), pI_s (by decide), pI_s (by decide), pI_s (by decide), pI_s (by decide), show pI b P 0 = 0 from rfl] at h
    have l0 := hl 0 (by decide)
    have l1 := hl 1 (by decide)
    have l2 := hl 2 (by decide)
    have l3 := hl 3 (by decide)
    have l4 := hl 4 (by decide)
    generalize (b (P + 0)).toInt = y0 at h l0
    generalize (b (P + 1)).toInt = y1 at h l1
    generalize (b (P + 2)).toInt = y2 at h l2
    generalize (b (P + 3)).toInt = y3 at h l3
    generalize (b (P + 4)).toInt = y4 at h l4
    omega
  · rw [pI_s (by decide), pI_s (by decide), pI_s (by decide), pI_s (by decide), pI_s (by decide), pI_s (by decide), show pI b P 0 = 0 from rfl] at h
    have l0 := hl 0 (by decide)
    have l1 := hl 1 (by decide)
    have l2 := hl 2 (by decide)
    have l3 := hl 3 (by decide)
    have l4 := hl 4 (by decide)
    have l5 := hl 5 (by decide)
    generalize (b (P + 0)).toInt = y0 at h l0
    generalize (b (P + 1)).toInt = y1 at h l1
    generalize (b (P + 2)).toInt = y2 at h l2
    generalize (b (P + 3)).toInt = y3 at h l3
    generalize (b (P + 4)).toInt = y4 at h l4
    generalize (b (P + 5)).toInt = y5 at h l5
    omega
theorem pinj_2 {b : Nat → Int32} {P m : Nat} (hl : ∀ i, i < m → 97 ≤ (b (P + i)).toInt ∧ (b (P + i)).toInt ≤ 122) (h1 : 1 ≤ m) (h6 : m ≤ 6) (h : pI b P m = wI 2) : m = 5 ∧ ∀ i, i < 5 → (b (P + i)).toInt = (wd 2).getD i 0 := by
  have hw : wI 2 = 3554411 := by decide
  rw [hw] at h
  rcases (by omega : m = 1 ∨ m = 2 ∨ m = 3 ∨ m = 4 ∨ m = 5 ∨ m = 6) with rfl | rfl | rfl | rfl | rfl | rfl
  · rw [pI_s (by decide), show pI b P 0 = 0 from rfl] at h
    have l0 := hl 0 (by decide)
    generalize (b (P + 0)).toInt = y0 at h l0
    omega
  · rw [pI_s (by decide), pI_s (by decide), show pI b P 0 = 0 from rfl] at h
    have l0 := hl 0 (by decide)
    have l1 := hl 1 (by decide)
    generalize (b (P + 0)).toInt = y0 at h l0
    generalize (b (P + 1)).toInt = y1 at h l1
    omega
  · rw [pI_s (by decide), pI_s (by decide), pI_s (by decide), show pI b P 0 = 0 from rfl] at h
    have l0 := hl 0 (by decide)
    have l1 := hl 1 (by decide)
    have l2 := hl 2 (by decide)
    generalize (b (P + 0)).toInt = y0 at h l0
    generalize (b (P + 1)).toInt = y1 at h l1
    generalize (b (P + 2)).toInt = y2 at h l2
    omega
  · rw [pI_s (by decide), pI_s (by decide), pI_s (by decide), pI_s (by decide), show pI b P 0 = 0 from rfl] at h
    have l0 := hl 0 (by decide)
    have l1 := hl 1 (by decide)
    have l2 := hl 2 (by decide)
    have l3 := hl 3 (by decide)
    generalize (b (P + 0)).toInt = y0 at h l0
    generalize (b (P + 1)).toInt = y1 at h l1
    generalize (b (P + 2)).toInt = y2 at h l2
    generalize (b (P + 3)).toInt = y3 at h l3
    omega
  · rw [pI_s (by decide), pI_s (by decide), pI_s (by decide), pI_s (by decide), pI_s (by decide), show pI b P 0 = 0 from rfl] at h
    have l0 := hl 0 (by decide)
    have l1 := hl 1 (by decide)
    have l2 := hl 2 (by decide)
    have l3 := hl 3 (by decide)
    have l4 := hl 4 (by decide)
    generalize e0 : (b (P + 0)).toInt = y0 at h l0
    generalize e1 : (b (P + 1)).toInt = y1 at h l1
    generalize e2 : (b (P + 2)).toInt = y2 at h l2
    generalize e3 : (b (P + 3)).toInt = y3 at h l3
    generalize e4 : (b (P + 4)).toInt = y4 at h l4
    refine ⟨rfl, fun i hi => ?_⟩
    rcases (by omega : i = 0 ∨ i = 1 ∨ i = 2 ∨ i = 3 ∨ i = 4) with rfl | rfl | rfl | rfl | rfl
    · rw [e0]; show y0 = 99; omega
    · rw [e1]; show y1 = 108; omega
    · rw [e2]; show y2 = 111; omega
    · rw [e3]; show y3 = 99; omega
    · rw [e4]; show y4 = 107; omega
  · rw [pI_s (by decide), pI_s (by decide), pI_s (by decide), pI_s (by decide), pI_s (by decide), pI_s (by decide), show pI b P 0 = 0 from rfl] at h
    have l0 := hl 0 (by decide)
    have l1 := hl 1 (by decide)
    have l2 := hl 2 (by decide)
    have l3 := hl 3 (by decide)
    have l4 := hl 4 (by decide)
    have l5 := hl 5 (by decide)
    generalize (b (P + 0)).toInt = y0 at h l0
    generalize (b (P + 1)).toInt = y1 at h l1
    generalize (b (P + 2)).toInt = y2 at h l2
    generalize (b (P + 3)).toInt = y3 at h l3
    generalize (b (P + 4)).toInt = y4 at h l4
    generalize (b (P + 5)).toInt = y5 at h l5
    omega
theorem pinj_3 {b : Nat → Int32} {P m : Nat} (hl : ∀ i, i < m → 97 ≤ (b (P + i)).toInt ∧ (b (P + i)).toInt ≤ 122) (h1 : 1 ≤ m) (h6 : m ≤ 6) (h : pI b P m = wI 3) : m = 4 ∧ ∀ i, i < 4 → (b (P + i)).toInt = (wd 3).getD i 0 := by
  have hw : wI 3 = 605677 := by decide
  rw [hw] at h
  rcases (by omega : m = 1 ∨ m = 2 ∨ m = 3 ∨ m = 4 ∨ m = 5 ∨ m = 6) with rfl | rfl | rfl | rfl | rfl | rfl
  · rw [pI_s (by decide), show pI b P 0 = 0 from rfl] at h
    have l0 := hl 0 (by decide)
    generalize (b (P + 0)).toInt = y0 at h l0
    omega
  · rw [pI_s (by decide), pI_s (by decide), show pI b P 0 = 0 from rfl] at h
    have l0 := hl 0 (by decide)
    have l1 := hl 1 (by decide)
    generalize (b (P + 0)).toInt = y0 at h l0
    generalize (b (P + 1)).toInt = y1 at h l1
    omega
  · rw [pI_s (by decide), pI_s (by decide), pI_s (by decide), show pI b P 0 = 0 from rfl] at h
    have l0 := hl 0 (by decide)
    have l1 := hl 1 (by decide)
    have l2 := hl 2 (by decide)
    generalize (b (P + 0)).toInt = y0 at h l0
    generalize (b (P + 1)).toInt = y1 at h l1
    generalize (b (P + 2)).toInt = y2 at h l2
    omega
  · rw [pI_s (by decide), pI_s (by decide), pI_s (by decide), pI_s (by decide), show pI b P 0 = 0 from rfl] at h
    have l0 := hl 0 (by decide)
    have l1 := hl 1 (by decide)
    have l2 := hl 2 (by decide)
    have l3 := hl 3 (by decide)
    generalize e0 : (b (P + 0)).toInt = y0 at h l0
    generalize e1 : (b (P + 1)).toInt = y1 at h l1
    generalize e2 : (b (P + 2)).toInt = y2 at h l2
    generalize e3 : (b (P + 3)).toInt = y3 at h l3
    refine ⟨rfl, fun i hi => ?_⟩
    rcases (by omega : i = 0 ∨ i = 1 ∨ i = 2 ∨ i = 3) with rfl | rfl | rfl | rfl
    · rw [e0]; show y0 = 114; omega
    · rw [e1]; show y1 = 111; omega
    · rw [e2]; show y2 = 111; omega
    · rw [e3]; show y3 = 109; omega
  · rw [pI_s (by decide), pI_s (by decide), pI_s (by decide), pI_s (by decide), pI_s (by decide), show pI b P 0 = 0 from rfl] at h
    have l0 := hl 0 (by decide)
    have l1 := hl 1 (by decide)
    have l2 := hl 2 (by decide)
    have l3 := hl 3 (by decide)
    have l4 := hl 4 (by decide)
    generalize (b (P + 0)).toInt = y0 at h l0
    generalize (b (P + 1)).toInt = y1 at h l1
    generalize (b (P + 2)).toInt = y2 at h l2
    generalize (b (P + 3)).toInt = y3 at h l3
    generalize (b (P + 4)).toInt = y4 at h l4
    omega
  · rw [pI_s (by decide), pI_s (by decide), pI_s (by decide), pI_s (by decide), pI_s (by decide), pI_s (by decide), show pI b P 0 = 0 from rfl] at h
    have l0 := hl 0 (by decide)
    have l1 := hl 1 (by decide)
    have l2 := hl 2 (by decide)
    have l3 := hl 3 (by decide)
    have l4 := hl 4 (by decide)
    have l5 := hl 5 (by decide)
    generalize (b (P + 0)).toInt = y0 at h l0
    generalize (b (P + 1)).toInt = y1 at h l1
    generalize (b (P + 2)).toInt = y2 at h l2
    generalize (b (P + 3)).toInt = y3 at h l3
    generalize (b (P + 4)).toInt = y4 at h l4
    generalize (b (P + 5)).toInt = y5 at h l5
    omega
theorem pinj_4 {b : Nat → Int32} {P m : Nat} (hl : ∀ i, i < m → 97 ≤ (b (P + i)).toInt ∧ (b (P + i)).toInt ≤ 122) (h1 : 1 ≤ m) (h6 : m ≤ 6) (h : pI b P m = wI 4) : m = 6 ∧ ∀ i, i < 6 → (b (P + i)).toInt = (wd 4).getD i 0 := by
  have hw : wI 4 = 542622085 := by decide
  rw [hw] at h
  rcases (by omega : m = 1 ∨ m = 2 ∨ m = 3 ∨ m = 4 ∨ m = 5 ∨ m = 6) with rfl | rfl | rfl | rfl | rfl | rfl
  · rw [pI_s (by decide), show pI b P 0 = 0 from rfl] at h
    have l0 := hl 0 (by decide)
    generalize (b (P + 0)).toInt = y0 at h l0
    omega
  · rw [pI_s (by decide), pI_s (by decide), show pI b P 0 = 0 from rfl] at h
    have l0 := hl 0 (by decide)
    have l1 := hl 1 (by decide)
    generalize (b (P + 0)).toInt = y0 at h l0
    generalize (b (P + 1)).toInt = y1 at h l1
    omega
  · rw [pI_s (by decide), pI_s (by decide), pI_s (by decide), show pI b P 0 = 0 from rfl] at h
    have l0 := hl 0 (by decide)
    have l1 := hl 1 (by decide)
    have l2 := hl 2 (by decide)
    generalize (b (P + 0)).toInt = y0 at h l0
    generalize (b (P + 1)).toInt = y1 at h l1
    generalize (b (P + 2)).toInt = y2 at h l2
    omega
  · rw [pI_s (by decide), pI_s (by decide), pI_s (by decide), pI_s (by decide), show pI b P 0 = 0 from rfl] at h
    have l0 := hl 0 (by decide)
    have l1 := hl 1 (by decide)
    have l2 := hl 2 (by decide)
    have l3 := hl 3 (by decide)
    generalize (b (P + 0)).toInt = y0 at h l0
    generalize (b (P + 1)).toInt = y1 at h l1
    generalize (b (P + 2)).toInt = y2 at h l2
    generalize (b (P + 3)).toInt = y3 at h l3
    omega
  · rw [pI_s (by decide), pI_s (by decide), pI_s (by decide), pI_s (by decide), pI_s (by decide), show pI b P 0 = 0 from rfl] at h
    have l0 := hl 0 (by decide)
    have l1 := hl 1 (by decide)
    have l2 := hl 2 (by decide)
    have l3 := hl 3 (by decide)
    have l4 := hl 4 (by decide)
    generalize (b (P + 0)).toInt = y0 at h l0
    generalize (b (P + 1)).toInt = y1 at h l1
    generalize (b (P + 2)).toInt = y2 at h l2
    generalize (b (P + 3)).toInt = y3 at h l3
    generalize (b (P + 4)).toInt = y4 at h l4
    omega
  · rw [pI_s (by decide), pI_s (by decide), pI_s (by decide), pI_s (by decide), pI_s (by decide), pI_s (by decide), show pI b P 0 = 0 from rfl] at h
    have l0 := hl 0 (by decide)
    have l1 := hl 1 (by decide)
    have l2 := hl 2 (by decide)
    have l3 := hl 3 (by decide)
    have l4 := hl 4 (by decide)
    have l5 := hl 5 (by decide)
    generalize e0 : (b (P + 0)).toInt = y0 at h l0
    generalize e1 : (b (P + 1)).toInt = y1 at h l1
    generalize e2 : (b (P + 2)).toInt = y2 at h l2
    generalize e3 : (b (P + 3)).toInt = y3 at h l3
    generalize e4 : (b (P + 4)).toInt = y4 at h l4
    generalize e5 : (b (P + 5)).toInt = y5 at h l5
    refine ⟨rfl, fun i hi => ?_⟩
    rcases (by omega : i = 0 ∨ i = 1 ∨ i = 2 ∨ i = 3 ∨ i = 4 ∨ i = 5) with rfl | rfl | rfl | rfl | rfl | rfl
    · rw [e0]; show y0 = 112; omega
    · rw [e1]; show y1 = 101; omega
    · rw [e2]; show y2 = 111; omega
    · rw [e3]; show y3 = 112; omega
    · rw [e4]; show y4 = 108; omega
    · rw [e5]; show y5 = 101; omega
theorem pinj_5 {b : Nat → Int32} {P m : Nat} (hl : ∀ i, i < m → 97 ≤ (b (P + i)).toInt ∧ (b (P + i)).toInt ≤ 122) (h1 : 1 ≤ m) (h6 : m ≤ 6) (h : pI b P m = wI 5) : m = 6 ∧ ∀ i, i < 6 → (b (P + i)).toInt = (wd 5).getD i 0 := by
  have hw : wI 5 = 408538606 := by decide
  rw [hw] at h
  rcases (by omega : m = 1 ∨ m = 2 ∨ m = 3 ∨ m = 4 ∨ m = 5 ∨ m = 6) with rfl | rfl | rfl | rfl | rfl | rfl
  · rw [pI_s (by decide), show pI b P 0 = 0 from rfl] at h
    have l0 := hl 0 (by decide)
    generalize (b (P + 0)).toInt = y0 at h l0
    omega
  · rw [pI_s (by decide), pI_s (by decide), show pI b P 0 = 0 from rfl] at h
    have l0 := hl 0 (by decide)
    have l1 := hl 1 (by decide)
    generalize (b (P + 0)).toInt = y0 at h l0
    generalize (b (P + 1)).toInt = y1 at h l1
    omega
  · rw [pI_s (by decide), pI_s (by decide), pI_s (by decide), show pI b P 0 = 0 from rfl] at h
    have l0 := hl 0 (by decide)
    have l1 := hl 1 (by decide)
    have l2 := hl 2 (by decide)
    generalize (b (P + 0)).toInt = y0 at h l0
    generalize (b (P + 1)).toInt = y1 at h l1
    generalize (b (P + 2)).toInt = y2 at h l2
    omega
  · rw [pI_s (by decide), pI_s (by decide), pI_s (by decide), pI_s (by decide), show pI b P 0 = 0 from rfl] at h
    have l0 := hl 0 (by decide)
    have l1 := hl 1 (by decide)
    have l2 := hl 2 (by decide)
    have l3 := hl 3 (by decide)
    generalize (b (P + 0)).toInt = y0 at h l0
    generalize (b (P + 1)).toInt = y1 at h l1
    generalize (b (P + 2)).toInt = y2 at h l2
    generalize (b (P + 3)).toInt = y3 at h l3
    omega
  · rw [pI_s (by decide), pI_s (by decide), pI_s (by decide), pI_s (by decide), pI_s (by decide), show pI b P 0 = 0 from rfl] at h
    have l0 := hl 0 (by decide)
    have l1 := hl 1 (by decide)
    have l2 := hl 2 (by decide)
    have l3 := hl 3 (by decide)
    have l4 := hl 4 (by decide)
    generalize (b (P + 0)).toInt = y0 at h l0
    generalize (b (P + 1)).toInt = y1 at h l1
    generalize (b (P + 2)).toInt = y2 at h l2
    generalize (b (P + 3)).toInt = y3 at h l3
    generalize (b (P + 4)).toInt = y4 at h l4
    omega
  · rw [pI_s (by decide), pI_s (by decide), pI_s (by decide), pI_s (by decide), pI_s (by decide), pI_s (by decide), show pI b P 0 = 0 from rfl] at h
    have l0 := hl 0 (by decide)
    have l1 := hl 1 (by decide)
    have l2 := hl 2 (by decide)
    have l3 := hl 3 (by decide)
    have l4 := hl 4 (by decide)
    have l5 := hl 5 (by decide)
    generalize e0 : (b (P + 0)).toInt = y0 at h l0
    generalize e1 : (b (P + 1)).toInt = y1 at h l1
    generalize e2 : (b (P + 2)).toInt = y2 at h l2
    generalize e3 : (b (P + 3)).toInt = y3 at h l3
    generalize e4 : (b (P + 4)).toInt = y4 at h l4
    generalize e5 : (b (P + 5)).toInt = y5 at h l5
    refine ⟨rfl, fun i hi => ?_⟩
    rcases (by omega : i = 0 ∨ i = 1 ∨ i = 2 ∨ i = 3 ∨ i = 4 ∨ i = 5) with rfl | rfl | rfl | rfl | rfl | rfl
    · rw [e0]; show y0 = 108; omega
    · rw [e1]; show y1 = 101; omega
    · rw [e2]; show y2 = 115; omega
    · rw [e3]; show y3 = 115; omega
    · rw [e4]; show y4 = 111; omega
    · rw [e5]; show y5 = 110; omega
theorem pinj_6 {b : Nat → Int32} {P m : Nat} (hl : ∀ i, i < m → 97 ≤ (b (P + i)).toInt ∧ (b (P + i)).toInt ≤ 122) (h1 : 1 ≤ m) (h6 : m ≤ 6) (h : pI b P m = wI 6) : m = 3 ∧ ∀ i, i < 3 → (b (P + i)).toInt = (wd 6).getD i 0 := by
  have hw : wI 6 = 1420 := by decide
  rw [hw] at h
  rcases (by omega : m = 1 ∨ m = 2 ∨ m = 3 ∨ m = 4 ∨ m = 5 ∨ m = 6) with rfl | rfl | rfl | rfl | rfl | rfl
  · rw [pI_s (by decide), show pI b P 0 = 0 from rfl] at h
    have l0 := hl 0 (by decide)
    generalize (b (P + 0)).toInt = y0 at h l0
    omega
  · rw [pI_s (by decide), pI_s (by decide), show pI b P 0 = 0 from rfl] at h
    have l0 := hl 0 (by decide)
    have l1 := hl 1 (by decide)
    generalize (b (P + 0)).toInt = y0 at h l0
    generalize (b (P + 1)).toInt = y1 at h l1
    omega
  · rw [pI_s (by decide), pI_s (by decide), pI_s (by decide), show pI b P 0 = 0 from rfl] at h
    have l0 := hl 0 (by decide)
    have l1 := hl 1 (by decide)
    have l2 := hl 2 (by decide)
    generalize e0 : (b (P + 0)).toInt = y0 at h l0
    generalize e1 : (b (P + 1)).toInt = y1 at h l1
    generalize e2 : (b (P + 2)).toInt = y2 at h l2
    refine ⟨rfl, fun i hi => ?_⟩
    rcases (by omega : i = 0 ∨ i = 1 ∨ i = 2) with rfl | rfl | rfl
    · rw [e0]; show y0 = 97; omega
    · rw [e1]; show y1 = 108; omega
    · rw [e2]; show y2 = 108; omega
  · rw [pI_s (by decide), pI_s (by decide), pI_s (by decide), pI_s (by decide), show pI b P 0 = 0 from rfl] at h
    have l0 := hl 0 (by decide)
    have l1 := hl 1 (by decide)
    have l2 := hl 2 (by decide)
    have l3 := hl 3 (by decide)
    generalize (b (P + 0)).toInt = y0 at h l0
    generalize (b (P + 1)).toInt = y1 at h l1
    generalize (b (P + 2)).toInt = y2 at h l2
    generalize (b (P + 3)).toInt = y3 at h l3
    omega
  · rw [pI_s (by decide), pI_s (by decide), pI_s (by decide), pI_s (by decide), pI_s (by decide), show pI b P 0 = 0 from rfl] at h
    have l0 := hl 0 (by decide)
    have l1 := hl 1 (by decide)
    have l2 := hl 2 (by decide)
    have l3 := hl 3 (by decide)
    have l4 := hl 4 (by decide)
    generalize (b (P + 0)).toInt = y0 at h l0
    generalize (b (P + 1)).toInt = y1 at h l1
    generalize (b (P + 2)).toInt = y2 at h l2
    generalize (b (P + 3)).toInt = y3 at h l3
    generalize (b (P + 4)).toInt = y4 at h l4
    omega
  · rw [pI_s (by decide), pI_s (by decide), pI_s (by decide), pI_s (by decide), pI_s (by decide), pI_s (by decide), show pI b P 0 = 0 from rfl] at h
    have l0 := hl 0 (by decide)
    have l1 := hl 1 (by decide)
    have l2 := hl 2 (by decide)
    have l3 := hl 3 (by decide)
    have l4 := hl 4 (by decide)
    have l5 := hl 5 (by decide)
    generalize (b (P + 0)).toInt = y0 at h l0
    generalize (b (P + 1)).toInt = y1 at h l1
    generalize (b (P + 2)).toInt = y2 at h l2
    generalize (b (P + 3)).toInt = y3 at h l3
    generalize (b (P + 4)).toInt = y4 at h l4
    generalize (b (P + 5)).toInt = y5 at h l5
    omega
theorem pinj_7 {b : Nat → Int32} {P m : Nat} (hl : ∀ i, i < m → 97 ≤ (b (P + i)).toInt ∧ (b (P + i)).toInt ≤ 122) (h1 : 1 ≤ m) (h6 : m ≤ 6) (h : pI b P m = wI 7) : m = 4 ∧ ∀ i, i < 4 → (b (P + i)).toInt = (wd 7).getD i 0 := by
  have hw : wI 7 = 638373 := by decide
  rw [hw] at h
  rcases (by omega : m = 1 ∨ m = 2 ∨ m = 3 ∨ m = 4 ∨ m = 5 ∨ m = 6) with rfl | rfl | rfl | rfl | rfl | rfl
  · rw [pI_s (by decide), show pI b P 0 = 0 from rfl] at h
    have l0 := hl 0 (by decide)
    generalize (b (P + 0)).toInt = y0 at h l0
    omega
  · rw [pI_s (by decide), pI_s (by decide), show pI b P 0 = 0 from rfl] at h
    have l0 := hl 0 (by decide)
    have l1 := hl 1 (by decide)
    generalize (b (P + 0)).toInt = y0 at h l0
    generalize (b (P + 1)).toInt = y1 at h l1
    omega
  · rw [pI_s (by decide), pI_s (by decide), pI_s (by decide), show pI b P 0 = 0 from rfl] at h
    have l0 := hl 0 (by decide)
    have l1 := hl 1 (by decide)
    have l2 := hl 2 (by decide)
    generalize (b (P + 0)).toInt = y0 at h l0
    generalize (b (P + 1)).toInt = y1 at h l1
    generalize (b (P + 2)).toInt = y2 at h l2
    omega
  · rw [pI_s (by decide), pI_s (by decide), pI_s (by decide), pI_s (by decide), show pI b P 0 = 0 from rfl] at h
    have l0 := hl 0 (by decide)
    have l1 := hl 1 (by decide)
    have l2 := hl 2 (by decide)
    have l3 := hl 3 (by decide)
    generalize e0 : (b (P + 0)).toInt = y0 at h l0
    generalize e1 : (b (P + 1)).toInt = y1 at h l1
    generalize e2 : (b (P + 2)).toInt = y2 at h l2
    generalize e3 : (b (P + 3)).toInt = y3 at h l3
    refine ⟨rfl, fun i hi => ?_⟩
    rcases (by omega : i = 0 ∨ i = 1 ∨ i = 2 ∨ i = 3) with rfl | rfl | rfl | rfl
    · rw [e0]; show y0 = 115; omega
    · rw [e1]; show y1 = 111; omega
    · rw [e2]; show y2 = 109; omega
    · rw [e3]; show y3 = 101; omega
  · rw [pI_s (by decide), pI_s (by decide), pI_s (by decide), pI_s (by decide), pI_s (by decide), show pI b P 0 = 0 from rfl] at h
    have l0 := hl 0 (by decide)
    have l1 := hl 1 (by decide)
    have l2 := hl 2 (by decide)
    have l3 := hl 3 (by decide)
    have l4 := hl 4 (by decide)
    generalize (b (P + 0)).toInt = y0 at h l0
    generalize (b (P + 1)).toInt = y1 at h l1
    generalize (b (P + 2)).toInt = y2 at h l2
    generalize (b (P + 3)).toInt = y3 at h l3
    generalize (b (P + 4)).toInt = y4 at h l4
    omega
  · rw [pI_s (by decide), pI_s (by decide), pI_s (by decide), pI_s (by decide), pI_s (by decide), pI_s (by decide), show pI b P 0 = 0 from rfl] at h
    have l0 := hl 0 (by decide)
    have l1 := hl 1 (by decide)
    have l2 := hl 2 (by decide)
    have l3 := hl 3 (by decide)
    have l4 := hl 4 (by decide)
    have l5 := hl 5 (by decide)
    generalize (b (P + 0)).toInt = y0 at h l0
    generalize (b (P + 1)).toInt = y1 at h l1
    generalize (b (P + 2)).toInt = y2 at h l2
    generalize (b (P + 3)).toInt = y3 at h l3
    generalize (b (P + 4)).toInt = y4 at h l4
    generalize (b (P + 5)).toInt = y5 at h l5
    omega
theorem pinj_8 {b : Nat → Int32} {P m : Nat} (hl : ∀ i, i < m → 97 ≤ (b (P + i)).toInt ∧ (b (P + i)).toInt ≤ 122) (h1 : 1 ≤ m) (h6 : m ≤ 6) (h : pI b P m = wI 8) : m = 5 ∧ ∀ i, i < 5 → (b (P + i)).toInt = (wd 8).getD i 0 := by
  have hw : wI 8 = 12891444 := by decide
  rw [hw] at h
  rcases (by omega : m = 1 ∨ m = 2 ∨ m = 3 ∨ m = 4 ∨ m = 5 ∨ m = 6) with rfl | rfl | rfl | rfl | rfl | rfl
  · rw [pI_s (by decide), show pI b P 0 = 0 from rfl] at h
    have l0 := hl 0 (by decide)
    generalize (b (P + 0)).toInt = y0 at h l0
    omega
  · rw [pI_s (by decide), pI_s (by decide), show pI b P 0 = 0 from rfl] at h
    have l0 := hl 0 (by decide)
    have l1 := hl 1 (by decide)
    generalize (b (P + 0)).toInt = y0 at h l0
    generalize (b (P + 1)).toInt = y1 at h l1
    omega
  · rw [pI_s (by decide), pI_s (by decide), pI_s (by decide), show pI b P 0 = 0 from rfl] at h
    have l0 := hl 0 (by decide)
    have l1 := hl 1 (by decide)
    have l2 := hl 2 (by decide)
    generalize (b (P + 0)).toInt = y0 at h l0
    generalize (b (P + 1)).toInt = y1 at h l1
    generalize (b (P + 2)).toInt = y2 at h l2
    omega
  · rw [pI_s (by decide), pI_s (by decide), pI_s (by decide), pI_s (by decide), show pI b P 0 = 0 from rfl] at h
    have l0 := hl 0 (by decide)
    have l1 := hl 1 (by decide)
    have l2 := hl 2 (by decide)
    have l3 := hl 3 (by decide)
    generalize (b (P + 0)).toInt = y0 at h l0
    generalize (b (P + 1)).toInt = y1 at h l1
    generalize (b (P + 2)).toInt = y2 at h l2
    generalize (b (P + 3)).toInt = y3 at h l3
    omega
  · rw [pI_s (by decide), pI_s (by decide), pI_s (by decide), pI_s (by decide), pI_s (by decide), show pI b P 0 = 0 from rfl] at h
    have l0 := hl 0 (by decide)
    have l1 := hl 1 (by decide)
    have l2 := hl 2 (by decide)
    have l3 := hl 3 (by decide)
    have l4 := hl 4 (by decide)
    generalize e0 : (b (P + 0)).toInt = y0 at h l0
    generalize e1 : (b (P + 1)).toInt = y1 at h l1
    generalize e2 : (b (P + 2)).toInt = y2 at h l2
    generalize e3 : (b (P + 3)).toInt = y3 at h l3
    generalize e4 : (b (P + 4)).toInt = y4 at h l4
    refine ⟨rfl, fun i hi => ?_⟩
    rcases (by omega : i = 0 ∨ i = 1 ∨ i = 2 ∨ i = 3 ∨ i = 4) with rfl | rfl | rfl | rfl | rfl
    · rw [e0]; show y0 = 108; omega
    · rw [e1]; show y1 = 105; omega
    · rw [e2]; show y2 = 109; omega
    · rw [e3]; show y3 = 105; omega
    · rw [e4]; show y4 = 116; omega
  · rw [pI_s (by decide), pI_s (by decide), pI_s (by decide), pI_s (by decide), pI_s (by decide), pI_s (by decide), show pI b P 0 = 0 from rfl] at h
    have l0 := hl 0 (by decide)
    have l1 := hl 1 (by decide)
    have l2 := hl 2 (by decide)
    have l3 := hl 3 (by decide)
    have l4 := hl 4 (by decide)
    have l5 := hl 5 (by decide)
    generalize (b (P + 0)).toInt = y0 at h l0
    generalize (b (P + 1)).toInt = y1 at h l1
    generalize (b (P + 2)).toInt = y2 at h l2
    generalize (b (P + 3)).toInt = y3 at h l3
    generalize (b (P + 4)).toInt = y4 at h l4
    generalize (b (P + 5)).toInt = y5 at h l5
    omega
theorem pinj_9 {b : Nat → Int32} {P m : Nat} (hl : ∀ i, i < m → 97 ≤ (b (P + i)).toInt ∧ (b (P + i)).toInt ≤ 122) (h1 : 1 ≤ m) (h6 : m ≤ 6) (h : pI b P m = wI 9) : m = 5 ∧ ∀ i, i < 5 → (b (P + i)).toInt = (wd 9).getD i 0 := by
  have hw : wI 9 = 13689925 := by decide
  rw [hw] at h
  rcases (by omega : m = 1 ∨ m = 2 ∨ m = 3 ∨ m = 4 ∨ m = 5 ∨ m = 6) with rfl | rfl | rfl | rfl | rfl | rfl
  · rw [pI_s (by decide), show pI b P 0 = 0 from rfl] at h
    have l0 := hl 0 (by decide)
    generalize (b (P + 0)).toInt = y0 at h l0
    omega
  · rw [pI_s (by decide), pI_s (by decide), show pI b P 0 = 0 from rfl] at h
    have l0 := hl 0 (by decide)
    have l1 := hl 1 (by decide)
    generalize (b (P + 0)).toInt = y0 at h l0
    generalize (b (P + 1)).toInt = y1 at h l1
    omega
  · rw [pI_s (by decide), pI_s (by decide), pI_s (by decide), show pI b P 0 = 0 from rfl] at h
    have l0 := hl 0 (by decide)
    have l1 := hl 1 (by decide)
    have l2 := hl 2 (by decide)
    generalize (b (P + 0)).toInt = y0 at h l0
    generalize (b (P + 1)).toInt = y1 at h l1
    generalize (b (P + 2)).toInt = y2 at h l2
    omega
  · rw [pI_s (by decide), pI_s (by decide), pI_s (by decide), pI_s (by decide), show pI b P 0 = 0 from rfl] at h
    have l0 := hl 0 (by decide)
    have l1 := hl 1 (by decide)
    have l2 := hl 2 (by decide)
    have l3 := hl 3 (by decide)
    generalize (b (P + 0)).toInt = y0 at h l0
    generalize (b (P + 1)).toInt = y1 at h l1
    generalize (b (P + 2)).toInt = y2 at h l2
    generalize (b (P + 3)).toInt = y3 at h l3
    omega
  · rw [pI_s (by decide), pI_s (by decide), pI_s (by decide), pI_s (by decide), pI_s (by decide), show pI b P 0 = 0 from rfl] at h
    have l0 := hl 0 (by decide)
    have l1 := hl 1 (by decide)
    have l2 := hl 2 (by decide)
    have l3 := hl 3 (by decide)
    have l4 := hl 4 (by decide)
    generalize e0 : (b (P + 0)).toInt = y0 at h l0
    generalize e1 : (b (P + 1)).toInt = y1 at h l1
    generalize e2 : (b (P + 2)).toInt = y2 at h l2
    generalize e3 : (b (P + 3)).toInt = y3 at h l3
    generalize e4 : (b (P + 4)).toInt = y4 at h l4
    refine ⟨rfl, fun i hi => ?_⟩
    rcases (by omega : i = 0 ∨ i = 1 ∨ i = 2 ∨ i = 3 ∨ i = 4) with rfl | rfl | rfl | rfl | rfl
    · rw [e0]; show y0 = 109; omega
    · rw [e1]; show y1 = 97; omega
    · rw [e2]; show y2 = 121; omega
    · rw [e3]; show y3 = 98; omega
    · rw [e4]; show y4 = 101; omega
  · rw [pI_s (by decide), pI_s (by decide), pI_s (by decide), pI_s (by decide), pI_s (by decide), pI_s (by decide), show pI b P 0 = 0 from rfl] at h
    have l0 := hl 0 (by decide)
    have l1 := hl 1 (by decide)
    have l2 := hl 2 (by decide)
    have l3 := hl 3 (by decide)
    have l4 := hl 4 (by decide)
    have l5 := hl 5 (by decide)
    generalize (b (P + 0)).toInt = y0 at h l0
    generalize (b (P + 1)).toInt = y1 at h l1
    generalize (b (P + 2)).toInt = y2 at h l2
    generalize (b (P + 3)).toInt = y3 at h l3
    generalize (b (P + 4)).toInt = y4 at h l4
    generalize (b (P + 5)).toInt = y5 at h l5
    omega
theorem pinj_10 {b : Nat → Int32} {P m : Nat} (hl : ∀ i, i < m → 97 ≤ (b (P + i)).toInt ∧ (b (P + i)).toInt ≤ 122) (h1 : 1 ≤ m) (h6 : m ≤ 6) (h : pI b P m = wI 10) : m = 3 ∧ ∀ i, i < 3 → (b (P + i)).toInt = (wd 10).getD i 0 := by
  have hw : wI 10 = 7216 := by decide
  rw [hw] at h
  rcases (by omega : m = 1 ∨ m = 2 ∨ m = 3 ∨ m = 4 ∨ m = 5 ∨ m = 6) with rfl | rfl | rfl | rfl | rfl | rfl
  · rw [pI_s (by decide), show pI b P 0 = 0 from rfl] at h
    have l0 := hl 0 (by decide)
    generalize (b (P + 0)).toInt = y0 at h l0
    omega
  · rw [pI_s (by decide), pI_s (by decide), show pI b P 0 = 0 from rfl] at h
    have l0 := hl 0 (by decide)
    have l1 := hl 1 (by decide)
    generalize (b (P + 0)).toInt = y0 at h l0
    generalize (b (P + 1)).toInt = y1 at h l1
    omega
  · rw [pI_s (by decide), pI_s (by decide), pI_s (by decide), show pI b P 0 = 0 from rfl] at h
    have l0 := hl 0 (by decide)
    have l1 := hl 1 (by decide)
    have l2 := hl 2 (by decide)
    generalize e0 : (b (P + 0)).toInt = y0 at h l0
    generalize e1 : (b (P + 1)).toInt = y1 at h l1
    generalize e2 : (b (P + 2)).toInt = y2 at h l2
    refine ⟨rfl, fun i hi => ?_⟩
    rcases (by omega : i = 0 ∨ i = 1 ∨ i = 2) with rfl | rfl | rfl
    · rw [e0]; show y0 = 103; omega
    · rw [e1]; show y1 = 97; omega
    · rw [e2]; show y2 = 112; omega
  · rw [pI_s (by decide), pI_s (by decide), pI_s (by decide), pI_s (by decide), show pI b P 0 = 0 from rfl] at h
    have l0 := hl 0 (by decide)
    have l1 := hl 1 (by decide)
    have l2 := hl 2 (by decide)
    have l3 := hl 3 (by decide)
    generalize (b (P + 0)).toInt = y0 at h l0
    generalize (b (P + 1)).toInt = y1 at h l1
    generalize (b (P + 2)).toInt = y2 at h l2
    generalize (b (P + 3)).toInt = y3 at h l3
    omega
  · rw [pI_s (by decide), pI_s (by decide), pI_s (by decide), pI_s (by decide), pI_s (by decide), show pI b P 0 = 0 from rfl] at h
    have l0 := hl 0 (by decide)
    have l1 := hl 1 (by decide)
    have l2 := hl 2 (by decide)
    have l3 := hl 3 (by decide)
    have l4 := hl 4 (by decide)
    generalize (b (P + 0)).toInt = y0 at h l0
    generalize (b (P + 1)).toInt = y1 at h l1
    generalize (b (P + 2)).toInt = y2 at h l2
    generalize (b (P + 3)).toInt = y3 at h l3
    generalize (b (P + 4)).toInt = y4 at h l4
    omega
  · rw [pI_s (by decide), pI_s (by decide), pI_s (by decide), pI_s (by decide), pI_s (by decide), pI_s (by decide), show pI b P 0 = 0 from rfl] at h
    have l0 := hl 0 (by decide)
    have l1 := hl 1 (by decide)
    have l2 := hl 2 (by decide)
    have l3 := hl 3 (by decide)
    have l4 := hl 4 (by decide)
    have l5 := hl 5 (by decide)
    generalize (b (P + 0)).toInt = y0 at h l0
    generalize (b (P + 1)).toInt = y1 at h l1
    generalize (b (P + 2)).toInt = y2 at h l2
    generalize (b (P + 3)).toInt = y3 at h l3
    generalize (b (P + 4)).toInt = y4 at h l4
    generalize (b (P + 5)).toInt = y5 at h l5
    omega
theorem pinj_11 {b : Nat → Int32} {P m : Nat} (hl : ∀ i, i < m → 97 ≤ (b (P + i)).toInt ∧ (b (P + i)).toInt ≤ 122) (h1 : 1 ≤ m) (h6 : m ≤ 6) (h : pI b P m = wI 11) : m = 4 ∧ ∀ i, i < 4 → (b (P + i)).toInt = (wd 11).getD i 0 := by
  have hw : wI 11 = 755083 := by decide
  rw [hw] at h
  rcases (by omega : m = 1 ∨ m = 2 ∨ m = 3 ∨ m = 4 ∨ m = 5 ∨ m = 6) with rfl | rfl | rfl | rfl | rfl | rfl
  · rw [pI_s (by decide), show pI b P 0 = 0 from rfl] at h
    have l0 := hl 0 (by decide)
    generalize (b (P + 0)).toInt = y0 at h l0
    omega
  · rw [pI_s (by decide), pI_s (by decide), show pI b P 0 = 0 from rfl] at h
    have l0 := hl 0 (by decide)
    have l1 := hl 1 (by decide)
    generalize (b (P + 0)).toInt = y0 at h l0
    generalize (b (P + 1)).toInt = y1 at h l1
    omega
  · rw [pI_s (by decide), pI_s (by decide), pI_s (by decide), show pI b P 0 = 0 from rfl] at h
    have l0 := hl 0 (by decide)
    have l1 := hl 1 (by decide)
    have l2 := hl 2 (by decide)
    generalize (b (P + 0)).toInt = y0 at h l0
    generalize (b (P + 1)).toInt = y1 at h l1
    generalize (b (P + 2)).toInt = y2 at h l2
    omega
  · rw [pI_s (by decide), pI_s (by decide), pI_s (by decide), pI_s (by decide), show pI b P 0 = 0 from rfl] at h
    have l0 := hl 0 (by decide)
    have l1 := hl 1 (by decide)
    have l2 := hl 2 (by decide)
    have l3 := hl 3 (by decide)
    generalize e0 : (b (P + 0)).toInt = y0 at h l0
    generalize e1 : (b (P + 1)).toInt = y1 at h l1
    generalize e2 : (b (P + 2)).toInt = y2 at h l2
    generalize e3 : (b (P + 3)).toInt = y3 at h l3
    refine ⟨rfl, fun i hi => ?_⟩
    rcases (by omega : i = 0 ∨ i = 1 ∨ i = 2 ∨ i = 3) with rfl | rfl | rfl | rfl
    · rw [e0]; show y0 = 119; omega
    · rw [e1]; show y1 = 97; omega
    · rw [e2]; show y2 = 108; omega
    · rw [e3]; show y3 = 107; omega
  · rw [pI_s (by decide), pI_s (by decide), pI_s (by decide), pI_s (by decide), pI_s (by decide), show pI b P 0 = 0 from rfl] at h
    have l0 := hl 0 (by decide)
    have l1 := hl 1 (by decide)
    have l2 := hl 2 (by decide)
    have l3 := hl 3 (by decide)
    have l4 := hl 4 (by decide)
    generalize (b (P + 0)).toInt = y0 at h l0
    generalize (b (P + 1)).toInt = y1 at h l1
    generalize (b (P + 2)).toInt = y2 at h l2
    generalize (b (P + 3)).toInt = y3 at h l3
    generalize (b (P + 4)).toInt = y4 at h l4
    omega
  · rw [pI_s (by decide), pI_s (by decide), pI_s (by decide), pI_s (by decide), pI_s (by decide), pI_s (by decide), show pI b P 0 = 0 from rfl] at h
    have l0 := hl 0 (by decide)
    have l1 := hl 1 (by decide)
    have l2 := hl 2 (by decide)
    have l3 := hl 3 (by decide)
    have l4 := hl 4 (by decide)
    have l5 := hl 5 (by decide)
    generalize (b (P + 0)).toInt = y0 at h l0
    generalize (b (P + 1)).toInt = y1 at h l1
    generalize (b (P + 2)).toInt = y2 at h l2
    generalize (b (P + 3)).toInt = y3 at h l3
    generalize (b (P + 4)).toInt = y4 at h l4
    generalize (b (P + 5)).toInt = y5 at h l5
    omega
theorem pinj_12 {b : Nat → Int32} {P m : Nat} (hl : ∀ i, i < m → 97 ≤ (b (P + i)).toInt ∧ (b (P + i)).toInt ≤ 122) (h1 : 1 ≤ m) (h6 : m ≤ 6) (h : pI b P m = wI 12) : m = 5 ∧ ∀ i, i < 5 → (b (P + i)).toInt = (wd 12).getD i 0 := by
  have hw : wI 12 = 20579634 := by decide
  rw [hw] at h
  rcases (by omega : m = 1 ∨ m = 2 ∨ m = 3 ∨ m = 4 ∨ m = 5 ∨ m = 6) with rfl | rfl | rfl | rfl | rfl | rfl
  · rw [pI_s (by decide), show pI b P 0 = 0 from rfl] at h
    have l0 := hl 0 (by decide)
    generalize (b (P + 0)).toInt = y0 at h l0
    omega
  · rw [pI_s (by decide), pI_s (by decide), show pI b P 0 = 0 from rfl] at h
    have l0 := hl 0 (by decide)
    have l1 := hl 1 (by decide)
    generalize (b (P + 0)).toInt = y0 at h l0
    generalize (b (P + 1)).toInt = y1 at h l1
    omega
  · rw [pI_s (by decide), pI_s (by decide), pI_s (by decide), show pI b P 0 = 0 from rfl] at h
    have l0 := hl 0 (by decide)
    have l1 := hl 1 (by decide)
    have l2 := hl 2 (by decide)
    generalize (b (P + 0)).toInt = y0 at h l0
    generalize (b (P + 1)).toInt = y1 at h l1
    generalize (b (P + 2)).toInt = y2 at h l2
    omega
  · rw [pI_s (by decide), pI_s (by decide), pI_s (by decide), pI_s (by decide), show pI b P 0 = 0 from rfl] at h
    have l0 := hl 0 (by decide)
    have l1 := hl 1 (by decide)
    have l2 := hl 2 (by decide)
    have l3 := hl 3 (by decide)
    generalize (b (P + 0)).toInt = y0 at h l0
    generalize (b (P + 1)).toInt = y1 at h l1
    generalize (b (P + 2)).toInt = y2 at h l2
    generalize (b (P + 3)).toInt = y3 at h l3
    omega
  · rw [pI_s (by decide), pI_s (by decide), pI_s (by decide), pI_s (by decide), pI_s (by decide), show pI b P 0 = 0 from rfl] at h
    have l0 := hl 0 (by decide)
    have l1 := hl 1 (by decide)
    have l2 := hl 2 (by decide)
    have l3 := hl 3 (by decide)
    have l4 := hl 4 (by decide)
    generalize e0 : (b (P + 0)).toInt = y0 at h l0
    generalize e1 : (b (P + 1)).toInt = y1 at h l1
    generalize e2 : (b (P + 2)).toInt = y2 at h l2
    generalize e3 : (b (P + 3)).toInt = y3 at h l3
    generalize e4 : (b (P + 4)).toInt = y4 at h l4
    refine ⟨rfl, fun i hi => ?_⟩
    rcases (by omega : i = 0 ∨ i = 1 ∨ i = 2 ∨ i = 3 ∨ i = 4) with rfl | rfl | rfl | rfl | rfl
    · rw [e0]; show y0 = 115; omega
    · rw [e1]; show y1 = 116; omega
    · rw [e2]; show y2 = 97; omega
    · rw [e3]; show y3 = 105; omega
    · rw [e4]; show y4 = 114; omega
  · rw [pI_s (by decide), pI_s (by decide), pI_s (by decide), pI_s (by decide), pI_s (by decide), pI_s (by decide), show pI b P 0 = 0 from rfl] at h
    have l0 := hl 0 (by decide)
    have l1 := hl 1 (by decide)
    have l2 := hl 2 (by decide)
    have l3 := hl 3 (by decide)
    have l4 := hl 4 (by decide)
    have l5 := hl 5 (by decide)
    generalize (b (P + 0)).toInt = y0 at h l0
    generalize (b (P + 1)).toInt = y1 at h l1
    generalize (b (P + 2)).toInt = y2 at h l2
    generalize (b (P + 3)).toInt = y3 at h l3
    generalize (b (P + 4)).toInt = y4 at h l4
    generalize (b (P + 5)).toInt = y5 at h l5
    omega
theorem pinj_13 {b : Nat → Int32} {P m : Nat} (hl : ∀ i, i < m → 97 ≤ (b (P + i)).toInt ∧ (b (P + i)).toInt ≤ 122) (h1 : 1 ≤ m) (h6 : m ≤ 6) (h : pI b P m = wI 13) : m = 4 ∧ ∀ i, i < 4 → (b (P + i)).toInt = (wd 13).getD i 0 := by
  have hw : wI 13 = 611717 := by decide
  rw [hw] at h
  rcases (by omega : m = 1 ∨ m = 2 ∨ m = 3 ∨ m = 4 ∨ m = 5 ∨ m = 6) with rfl | rfl | rfl | rfl | rfl | rfl
  · rw [pI_s (by decide), show pI b P 0 = 0 from rfl] at h
    have l0 := hl 0 (by decide)
    generalize (b (P + 0)).toInt = y0 at h l0
    omega
  · rw [pI_s (by decide), pI_s (by decide), show pI b P 0 = 0 from rfl] at h
    have l0 := hl 0 (by decide)
    have l1 := hl 1 (by decide)
    generalize (b (P + 0)).toInt = y0 at h l0
    generalize (b (P + 1)).toInt = y1 at h l1
    omega
  · rw [pI_s (by decide), pI_s (by decide), pI_s (by decide), show pI b P 0 = 0 from rfl] at h
    have l0 := hl 0 (by decide)
    have l1 := hl 1 (by decide)
    have l2 := hl 2 (by decide)
    generalize (b (P + 0)).toInt = y0 at h l0
    generalize (b (P + 1)).toInt = y1 at h l1
    generalize (b (P + 2)).toInt = y2 at h l2
    omega
  · rw [pI_s (by decide), pI_s (by decide), pI_s (by decide), pI_s (by decide), show pI b P 0 = 0 from rfl] at h
    have l0 := hl 0 (by decide)
    have l1 := hl 1 (by decide)
    have l2 := hl 2 (by decide)
    have l3 := hl 3 (by decide)
    generalize e0 : (b (P + 0)).toInt = y0 at h l0
    generalize e1 : (b (P + 1)).toInt = y1 at h l1
    generalize e2 : (b (P + 2)).toInt = y2 at h l2
    generalize e3 : (b (P + 3)).toInt = y3 at h l3
    refine ⟨rfl, fun i hi => ?_⟩
    rcases (by omega : i = 0 ∨ i = 1 ∨ i = 2 ∨ i = 3) with rfl | rfl | rfl | rfl
    · rw [e0]; show y0 = 114; omega
    · rw [e1]; show y1 = 117; omega
    · rw [e2]; show y2 = 108; omega
    · rw [e3]; show y3 = 101; omega
  · rw [pI_s (by decide), pI_s (by decide), pI_s (by decide), pI_s (by decide), pI_s (by decide), show pI b P 0 = 0 from rfl] at h
    have l0 := hl 0 (by decide)
    have l1 := hl 1 (by decide)
    have l2 := hl 2 (by decide)
    have l3 := hl 3 (by decide)
    have l4 := hl 4 (by decide)
    generalize (b (P + 0)).toInt = y0 at h l0
    generalize (b (P + 1)).toInt = y1 at h l1
    generalize (b (P + 2)).toInt = y2 at h l2
    generalize (b (P + 3)).toInt = y3 at h l3
    generalize (b (P + 4)).toInt = y4 at h l4
    omega
  · rw [pI_s (by decide), pI_s (by decide), pI_s (by decide), pI_s (by decide), pI_s (by decide), pI_s (by decide), show pI b P 0 = 0 from rfl] at h
    have l0 := hl 0 (by decide)
    have l1 := hl 1 (by decide)
    have l2 := hl 2 (by decide)
    have l3 := hl 3 (by decide)
    have l4 := hl 4 (by decide)
    have l5 := hl 5 (by decide)
    generalize (b (P + 0)).toInt = y0 at h l0
    generalize (b (P + 1)).toInt = y1 at h l1
    generalize (b (P + 2)).toInt = y2 at h l2
    generalize (b (P + 3)).toInt = y3 at h l3
    generalize (b (P + 4)).toInt = y4 at h l4
    generalize (b (P + 5)).toInt = y5 at h l5
    omega
theorem pinj_14 {b : Nat → Int32} {P m : Nat} (hl : ∀ i, i < m → 97 ≤ (b (P + i)).toInt ∧ (b (P + i)).toInt ≤ 122) (h1 : 1 ≤ m) (h6 : m ≤ 6) (h : pI b P m = wI 14) : m = 3 ∧ ∀ i, i < 3 → (b (P + i)).toInt = (wd 14).getD i 0 := by
  have hw : wI 14 = 1476 := by decide
  rw [hw] at h
  rcases (by omega : m = 1 ∨ m = 2 ∨ m = 3 ∨ m = 4 ∨ m = 5 ∨ m = 6) with rfl | rfl | rfl | rfl | rfl | rfl
  · rw [pI_s (by decide), show pI b P 0 = 0 from rfl] at h
    have l0 := hl 0 (by decide)
    generalize (b (P + 0)).toInt = y0 at h l0
    omega
  · rw [pI_s (by decide), pI_s (by decide), show pI b P 0 = 0 from rfl] at h
    have l0 := hl 0 (by decide)
    have l1 := hl 1 (by decide)
    generalize (b (P + 0)).toInt = y0 at h l0
    generalize (b (P + 1)).toInt = y1 at h l1
    omega
  · rw [pI_s (by decide), pI_s (by decide), pI_s (by decide), show pI b P 0 = 0 from rfl] at h
    have l0 := hl 0 (by decide)
    have l1 := hl 1 (by decide)
    have l2 := hl 2 (by decide)
    generalize e0 : (b (P + 0)).toInt = y0 at h l0
    generalize e1 : (b (P + 1)).toInt = y1 at h l1
    generalize e2 : (b (P + 2)).toInt = y2 at h l2
    refine ⟨rfl, fun i hi => ?_⟩
    rcases (by omega : i = 0 ∨ i = 1 ∨ i = 2) with rfl | rfl | rfl
    · rw [e0]; show y0 = 97; omega
    · rw [e1]; show y1 = 110; omega
    · rw [e2]; show y2 = 100; omega
  · rw [pI_s (by decide), pI_s (by decide), pI_s (by decide), pI_s (by decide), show pI b P 0 = 0 from rfl] at h
    have l0 := hl 0 (by decide)
    have l1 := hl 1 (by decide)
    have l2 := hl 2 (by decide)
    have l3 := hl 3 (by decide)
    generalize (b (P + 0)).toInt = y0 at h l0
    generalize (b (P + 1)).toInt = y1 at h l1
    generalize (b (P + 2)).toInt = y2 at h l2
    generalize (b (P + 3)).toInt = y3 at h l3
    omega
  · rw [pI_s (by decide), pI_s (by decide), pI_s (by decide), pI_s (by decide), pI_s (by decide), show pI b P 0 = 0 from rfl] at h
    have l0 := hl 0 (by decide)
    have l1 := hl 1 (by decide)
    have l2 := hl 2 (by decide)
    have l3 := hl 3 (by decide)
    have l4 := hl 4 (by decide)
    generalize (b (P + 0)).toInt = y0 at h l0
    generalize (b (P + 1)).toInt = y1 at h l1
    generalize (b (P + 2)).toInt = y2 at h l2
    generalize (b (P + 3)).toInt = y3 at h l3
    generalize (b (P + 4)).toInt = y4 at h l4
    omega
  · rw [pI_s (by decide), pI_s (by decide), pI_s (by decide), pI_s (by decide), pI_s (by decide), pI_s (by decide), show pI b P 0 = 0 from rfl] at h
    have l0 := hl 0 (by decide)
    have l1 := hl 1 (by decide)
    have l2 := hl 2 (by decide)
    have l3 := hl 3 (by decide)
    have l4 := hl 4 (by decide)
    have l5 := hl 5 (by decide)
    generalize (b (P + 0)).toInt = y0 at h l0
    generalize (b (P + 1)).toInt = y1 at h l1
    generalize (b (P + 2)).toInt = y2 at h l2
    generalize (b (P + 3)).toInt = y3 at h l3
    generalize (b (P + 4)).toInt = y4 at h l4
    generalize (b (P + 5)).toInt = y5 at h l5
    omega
theorem pinj_15 {b : Nat → Int32} {P m : Nat} (hl : ∀ i, i < m → 97 ≤ (b (P + i)).toInt ∧ (b (P + i)).toInt ≤ 122) (h1 : 1 ≤ m) (h6 : m ≤ 6) (h : pI b P m = wI 15) : m = 2 ∧ ∀ i, i < 2 → (b (P + i)).toInt = (wd 15).getD i 0 := by
  have hw : wI 15 = 498 := by decide
  rw [hw] at h
  rcases (by omega : m = 1 ∨ m = 2 ∨ m = 3 ∨ m = 4 ∨ m = 5 ∨ m = 6) with rfl | rfl | rfl | rfl | rfl | rfl
  · rw [pI_s (by decide), show pI b P 0 = 0 from rfl] at h
    have l0 := hl 0 (by decide)
    generalize (b (P + 0)).toInt = y0 at h l0
    omega
  · rw [pI_s (by decide), pI_s (by decide), show pI b P 0 = 0 from rfl] at h
    have l0 := hl 0 (by decide)
    have l1 := hl 1 (by decide)
    generalize e0 : (b (P + 0)).toInt = y0 at h l0
    generalize e1 : (b (P + 1)).toInt = y1 at h l1
    refine ⟨rfl, fun i hi => ?_⟩
    rcases (by omega : i = 0 ∨ i = 1) with rfl | rfl
    · rw [e0]; show y0 = 111; omega
    · rw [e1]; show y1 = 114; omega
  · rw [pI_s (by decide), pI_s (by decide), pI_s (by decide), show pI b P 0 = 0 from rfl] at h
    have l0 := hl 0 (by decide)
    have l1 := hl 1 (by decide)
    have l2 := hl 2 (by decide)
    generalize (b (P + 0)).toInt = y0 at h l0
    generalize (b (P + 1)).toInt = y1 at h l1
    generalize (b (P + 2)).toInt = y2 at h l2
    omega
  · rw [pI_s (by decide), pI_s (by decide), pI_s (by decide), pI_s (by decide), show pI b P 0 = 0 from rfl] at h
    have l0 := hl 0 (by decide)
    have l1 := hl 1 (by decide)
    have l2 := hl 2 (by decide)
    have l3 := hl 3 (by decide)
    generalize (b (P + 0)).toInt = y0 at h l0
    generalize (b (P + 1)).toInt = y1 at h l1
    generalize (b (P + 2)).toInt = y2 at h l2
    generalize (b (P + 3)).toInt = y3 at h l3
    omega
  · rw [pI_s (by decide), pI_s (by decide), pI_s (by decide), pI_s (by decide), pI_s (by decide), show pI b P 0 = 0 from rfl] at h
    have l0 := hl 0 (by decide)
    have l1 := hl 1 (by decide)
    have l2 := hl 2 (by decide)
    have l3 := hl 3 (by decide)
    have l4 := hl 4 (by decide)
    generalize (b (P + 0)).toInt = y0 at h l0
    generalize (b (P + 1)).toInt = y1 at h l1
    generalize (b (P + 2)).toInt = y2 at h l2
    generalize (b (P + 3)).toInt = y3 at h l3
    generalize (b (P + 4)).toInt = y4 at h l4
    omega
  · rw [pI_s (by decide), pI_s (by decide), pI_s (by decide), pI_s (by decide), pI_s (by decide), pI_s (by decide), show pI b P 0 = 0 from rfl] at h
    have l0 := hl 0 (by decide)
    have l1 := hl 1 (by decide)
    have l2 := hl 2 (by decide)
    have l3 := hl 3 (by decide)
    have l4 := hl 4 (by decide)
    have l5 := hl 5 (by decide)
    generalize (b (P + 0)).toInt = y0 at h l0
    generalize (b (P + 1)).toInt = y1 at h l1
    generalize (b (P + 2)).toInt = y2 at h l2
    generalize (b (P + 3)).toInt = y3 at h l3
    generalize (b (P + 4)).toInt = y4 at h l4
    generalize (b (P + 5)).toInt = y5 at h l5
    omega
theorem pinj_16 {b : Nat → Int32} {P m : Nat} (hl : ∀ i, i < m → 97 ≤ (b (P + i)).toInt ∧ (b (P + i)).toInt ≤ 122) (h1 : 1 ≤ m) (h6 : m ≤ 6) (h : pI b P m = wI 16) : m = 3 ∧ ∀ i, i < 3 → (b (P + i)).toInt = (wd 16).getD i 0 := by
  have hw : wI 16 = 14836 := by decide
  rw [hw] at h
  rcases (by omega : m = 1 ∨ m = 2 ∨ m = 3 ∨ m = 4 ∨ m = 5 ∨ m = 6) with rfl | rfl | rfl | rfl | rfl | rfl
  · rw [pI_s (by decide), show pI b P 0 = 0 from rfl] at h
    have l0 := hl 0 (by decide)
    generalize (b (P + 0)).toInt = y0 at h l0
    omega
  · rw [pI_s (by decide), pI_s (by decide), show pI b P 0 = 0 from rfl] at h
    have l0 := hl 0 (by decide)
    have l1 := hl 1 (by decide)
    generalize (b (P + 0)).toInt = y0 at h l0
    generalize (b (P + 1)).toInt = y1 at h l1
    omega
  · rw [pI_s (by decide), pI_s (by decide), pI_s (by decide), show pI b P 0 = 0 from rfl] at h
    have l0 := hl 0 (by decide)
    have l1 := hl 1 (by decide)
    have l2 := hl 2 (by decide)
    generalize e0 : (b (P + 0)).toInt = y0 at h l0
    generalize e1 : (b (P + 1)).toInt = y1 at h l1
    generalize e2 : (b (P + 2)).toInt = y2 at h l2
    refine ⟨rfl, fun i hi => ?_⟩
    rcases (by omega : i = 0 ∨ i = 1 ∨ i = 2) with rfl | rfl | rfl
    · rw [e0]; show y0 = 110; omega
    · rw [e1]; show y1 = 111; omega
    · rw [e2]; show y2 = 116; omega
  · rw [pI_s (by decide), pI_s (by decide), pI_s (by decide), pI_s (by decide), show pI b P 0 = 0 from rfl] at h
    have l0 := hl 0 (by decide)
    have l1 := hl 1 (by decide)
    have l2 := hl 2 (by decide)
    have l3 := hl 3 (by decide)
    generalize (b (P + 0)).toInt = y0 at h l0
    generalize (b (P + 1)).toInt = y1 at h l1
    generalize (b (P + 2)).toInt = y2 at h l2
    generalize (b (P + 3)).toInt = y3 at h l3
    omega
  · rw [pI_s (by decide), pI_s (by decide), pI_s (by decide), pI_s (by decide), pI_s (by decide), show pI b P 0 = 0 from rfl] at h
    have l0 := hl 0 (by decide)
    have l1 := hl 1 (by decide)
    have l2 := hl 2 (by decide)
    have l3 := hl 3 (by decide)
    have l4 := hl 4 (by decide)
    generalize (b (P + 0)).toInt = y0 at h l0
    generalize (b (P + 1)).toInt = y1 at h l1
    generalize (b (P + 2)).toInt = y2 at h l2
    generalize (b (P + 3)).toInt = y3 at h l3
    generalize (b (P + 4)).toInt = y4 at h l4
    omega
  · rw [pI_s (by decide), pI_s (by decide), pI_s (by decide), pI_s (by decide), pI_s (by decide), pI_s (by decide), show pI b P 0 = 0 from rfl] at h
    have l0 := hl 0 (by decide)
    have l1 := hl 1 (by decide)
    have l2 := hl 2 (by decide)
    have l3 := hl 3 (by decide)
    have l4 := hl 4 (by decide)
    have l5 := hl 5 (by decide)
    generalize (b (P + 0)).toInt = y0 at h l0
    generalize (b (P + 1)).toInt = y1 at h l1
    generalize (b (P + 2)).toInt = y2 at h l2
    generalize (b (P + 3)).toInt = y3 at h l3
    generalize (b (P + 4)).toInt = y4 at h l4
    generalize (b (P + 5)).toInt = y5 at h l5
    omega
theorem pinj {b : Nat → Int32} {P m k : Nat} (hk : k < 17) (hl : ∀ i, i < m → 97 ≤ (b (P + i)).toInt ∧ (b (P + i)).toInt ≤ 122) (h1 : 1 ≤ m) (h6 : m ≤ 6) (h : pI b P m = wI k) : m = (wd k).length ∧ ∀ i, i < (wd k).length → (b (P + i)).toInt = (wd k).getD i 0 := match k, hk with | 0, _ => pinj_0 hl h1 h6 h | 1, _ => pinj_1 hl h1 h6 h | 2, _ => pinj_2 hl h1 h6 h | 3, _ => pinj_3 hl h1 h6 h | 4, _ => pinj_4 hl h1 h6 h | 5, _ => pinj_5 hl h1 h6 h | 6, _ => pinj_6 hl h1 h6 h | 7, _ => pinj_7 hl h1 h6 h | 8, _ => pinj_8 hl h1 h6 h | 9, _ => pinj_9 hl h1 h6 h | 10, _ => pinj_10 hl h1 h6 h | 11, _ => pinj_11 hl h1 h6 h | 12, _ => pinj_12 hl h1 h6 h | 13, _ => pinj_13 hl h1 h6 h | 14, _ => pinj_14 hl h1 h6 h | 15, _ => pinj_15 hl h1 h6 h | 16, _ => pinj_16 hl h1 h6 h | k + 17, hk => absurd hk (by omega)
theorem pcon_0 {b : Nat → Int32} {P : Nat} (h : ∀ i, i < 4 → (b (P + i)).toInt = (wd 0).getD i 0) : pI b P 4 = wI 0 := by
  rw [pI_s (by decide), pI_s (by decide), pI_s (by decide), pI_s (by decide), show pI b P 0 = 0 from rfl]
  rw [h 0 (by decide), h 1 (by decide), h 2 (by decide), h 3 (by decide)]
  decide
theorem pcon_1 {b : Nat → Int32} {P : Nat} (h : ∀ i, i < 4 → (b (P + i)).toInt = (wd 1).getD i 0) : pI b P 4 = wI 1 := by
  rw [pI_s (by decide), pI_s (by decide), pI_s (by decide), pI_s (by decide), show pI b P 0 = 0 from rfl]
  rw [h 0 (by decide), h 1 (by decide), h 2 (by decide), h 3 (by decide)]
  decide
theorem pcon_2 {b : Nat → Int32} {P : Nat} (h : ∀ i, i < 5 → (b (P + i)).toInt = (wd 2).getD i 0) : pI b P 5 = wI 2 := by
  rw [pI_s (by decide), pI_s (by decide), pI_s (by decide), pI_s (by decide), pI_s (by decide), show pI b P 0 = 0 from rfl]
  rw [h 0 (by decide), h 1 (by decide), h 2 (by decide), h 3 (by decide), h 4 (by decide)]
  decide
theorem pcon_3 {b : Nat → Int32} {P : Nat} (h : ∀ i, i < 4 → (b (P + i)).toInt = (wd 3).getD i 0) : pI b P 4 = wI 3 := by
  rw [pI_s (by decide), pI_s (by decide), pI_s (by decide), pI_s (by decide), show pI b P 0 = 0 from rfl]
  rw [h 0 (by decide), h 1 (by decide), h 2 (by decide), h 3 (by decide)]
  decide
theorem pcon_4 {b : Nat → Int32} {P : Nat} (h : ∀ i, i < 6 → (b (P + i)).toInt = (wd 4).getD i 0) : pI b P 6 = wI 4 := by
  rw [pI_s (by decide), pI_s (by decide), pI_s (by decide), pI_s (by decide), pI_s (by decide), pI_s (by decide), show pI b P 0 = 0 from rfl]
  rw [h 0 (by decide), h 1 (by decide), h 2 (by decide), h 3 (by decide), h 4 (by decide), h 5 (by decide)]
  decide
theorem pcon_5 {b : Nat → Int32} {P : Nat} (h : ∀ i, i < 6 → (b (P + i)).toInt = (wd 5).getD i 0) : pI b P 6 = wI 5 := by
  rw [pI_s (by decide), pI_s (by decide), pI_s (by decide), pI_s (by decide), pI_s (by decide), pI_s (by decide), show pI b P 0 = 0 from rfl]
  rw [h 0 (by decide), h 1 (by decide), h 2 (by decide), h 3 (by decide), h 4 (by decide), h 5 (by decide)]
  decide
theorem pcon_6 {b : Nat → Int32} {P : Nat} (h : ∀ i, i < 3 → (b (P + i)).toInt = (wd 6).getD i 0) : pI b P 3 = wI 6 := by
  rw [pI_s (by decide), pI_s (by decide), pI_s (by decide), show pI b P 0 = 0 from rfl]
  rw [h 0 (by decide), h 1 (by decide), h 2 (by decide)]
  decide
theorem pcon_7 {b : Nat → Int32} {P : Nat} (h : ∀ i, i < 4 → (b (P + i)).toInt = (wd 7).getD i 0) : pI b P 4 = wI 7 := by
  rw [pI_s (by decide), pI_s (by decide), pI_s (by decide), pI_s (by decide), show pI b P 0 = 0 from rfl]
  rw [h 0 (by decide), h 1 (by decide), h 2 (by decide), h 3 (by decide)]
  decide
theorem pcon_8 {b : Nat → Int32} {P : Nat} (h : ∀ i, i < 5 → (b (P + i)).toInt = (wd 8).getD i 0) : pI b P 5 = wI 8 := by
  rw [pI_s (by decide), pI_s (by decide), pI_s (by decide), pI_s (by decide), pI_s (by decide), show pI b P 0 = 0 from rfl]
  rw [h 0 (by decide), h 1 (by decide), h 2 (by decide), h 3 (by decide), h 4 (by decide)]
  decide
theorem pcon_9 {b : Nat → Int32} {P : Nat} (h : ∀ i, i < 5 → (b (P + i)).toInt = (wd 9).getD i 0) : pI b P 5 = wI 9 := by
  rw [pI_s (by decide), pI_s (by decide), pI_s (by decide), pI_s (by decide), pI_s (by decide), show pI b P 0 = 0 from rfl]
  rw [h 0 (by decide), h 1 (by decide), h 2 (by decide), h 3 (by decide), h 4 (by decide)]
  decide
theorem pcon_10 {b : Nat → Int32} {P : Nat} (h : ∀ i, i < 3 → (b (P + i)).toInt = (wd 10).getD i 0) : pI b P 3 = wI 10 := by
  rw [pI_s (by decide), pI_s (by decide), pI_s (by decide), show pI b P 0 = 0 from rfl]
  rw [h 0 (by decide), h 1 (by decide), h 2 (by decide)]
  decide
theorem pcon_11 {b : Nat → Int32} {P : Nat} (h : ∀ i, i < 4 → (b (P + i)).toInt = (wd 11).getD i 0) : pI b P 4 = wI 11 := by
  rw [pI_s (by decide), pI_s (by decide), pI_s (by decide), pI_s (by decide), show pI b P 0 = 0 from rfl]
  rw [h 0 (by decide), h 1 (by decide), h 2 (by decide), h 3 (by decide)]
  decide
theorem pcon_12 {b : Nat → Int32} {P : Nat} (h : ∀ i, i < 5 → (b (P + i)).toInt = (wd 12).getD i 0) : pI b P 5 = wI 12 := by
  rw [pI_s (by decide), pI_s (by decide), pI_s (by decide), pI_s (by decide), pI_s (by decide), show pI b P 0 = 0 from rfl]
  rw [h 0 (by decide), h 1 (by decide), h 2 (by decide), h 3 (by decide), h 4 (by decide)]
  decide
theorem pcon_13 {b : Nat → Int32} {P : Nat} (h : ∀ i, i < 4 → (b (P + i)).toInt = (wd 13).getD i 0) : pI b P 4 = wI 13 := by
  rw [pI_s (by decide), pI_s (by decide), pI_s (by decide), pI_s (by decide), show pI b P 0 = 0 from rfl]
  rw [h 0 (by decide), h 1 (by decide), h 2 (by decide), h 3 (by decide)]
  decide
theorem pcon_14 {b : Nat → Int32} {P : Nat} (h : ∀ i, i < 3 → (b (P + i)).toInt = (wd 14).getD i 0) : pI b P 3 = wI 14 := by
  rw [pI_s (by decide), pI_s (by decide), pI_s (by decide), show pI b P 0 = 0 from rfl]
  rw [h 0 (by decide), h 1 (by decide), h 2 (by decide)]
  decide
theorem pcon_15 {b : Nat → Int32} {P : Nat} (h : ∀ i, i < 2 → (b (P + i)).toInt = (wd 15).getD i 0) : pI b P 2 = wI 15 := by
  rw [pI_s (by decide), pI_s (by decide), show pI b P 0 = 0 from rfl]
  rw [h 0 (by decide), h 1 (by decide)]
  decide
theorem pcon_16 {b : Nat → Int32} {P : Nat} (h : ∀ i, i < 3 → (b (P + i)).toInt = (wd 16).getD i 0) : pI b P 3 = wI 16 := by
  rw [pI_s (by decide), pI_s (by decide), pI_s (by decide), show pI b P 0 = 0 from rfl]
  rw [h 0 (by decide), h 1 (by decide), h 2 (by decide)]
  decide
theorem pcon {b : Nat → Int32} {P k : Nat} (hk : k < 17) (h : ∀ i, i < (wd k).length → (b (P + i)).toInt = (wd k).getD i 0) : pI b P (wd k).length = wI k := match k, hk with | 0, _ => pcon_0 h | 1, _ => pcon_1 h | 2, _ => pcon_2 h | 3, _ => pcon_3 h | 4, _ => pcon_4 h | 5, _ => pcon_5 h | 6, _ => pcon_6 h | 7, _ => pcon_7 h | 8, _ => pcon_8 h | 9, _ => pcon_9 h | 10, _ => pcon_10 h | 11, _ => pcon_11 h | 12, _ => pcon_12 h | 13, _ => pcon_13 h | 14, _ => pcon_14 h | 15, _ => pcon_15 h | 16, _ => pcon_16 h | k + 17, hk => absurd hk (by omega)
