section
/-! ===== the reference's parser: frames, the reading of signs ===== -/
abbrev gT : Type := Nat → Nat → Int32
abbrev lT : Type := Nat → Nat → Int64
/-- g' is g but for the fields A of the object and the arrays B -/
def Fr (A B : List Nat) (g g' : gT) : Prop := (∀ j, j ∉ A → g' 0 j = g 0 j) ∧ (∀ k, k ≠ 0 → k ∉ B → g' k = g k)
theorem Fr.refl {A B : List Nat} {g : gT} : Fr A B g g := ⟨fun _ _ => rfl, fun _ _ _ => rfl⟩
theorem Fr.tr {A B : List Nat} {g1 g2 g3 : gT} (h1 : Fr A B g1 g2) (h2 : Fr A B g2 g3) : Fr A B g1 g3 := ⟨fun j hj => (h2.1 j hj).trans (h1.1 j hj), fun k h0 hk => (h2.2 k h0 hk).trans (h1.2 k h0 hk)⟩
theorem Fr.mo {A B A' B' : List Nat} {g g' : gT} (h : Fr A B g g') (hA : ∀ j ∈ A, j ∈ A') (hB : ∀ k ∈ B, k ∈ B') : Fr A' B' g g' := ⟨fun j hj => h.1 j (fun h => hj (hA j h)), fun k h0 hk => h.2 k h0 (fun h => hk (hB k h))⟩
theorem Fr.u0 {A B : List Nat} {g g' : gT} {j : Nat} {x : Int32} (h : Fr A B g g') (hj : j ∈ A) : Fr A B g (upd2 g' 0 j x) := ⟨fun i hi => (upd2_nj (show i ≠ j from fun e => hi (by rw [e]; exact hj))).trans (h.1 i hi), fun k h0 hk => (funext fun i => upd2_nk h0).trans (h.2 k h0 hk)⟩
theorem Fr.uk {A B : List Nat} {g g' : gT} {k j : Nat} {x : Int32} (h : Fr A B g g') (h0 : k ≠ 0) (hk : k ∈ B) : Fr A B g (upd2 g' k j x) := ⟨fun i hi => (upd2_nk (Ne.symm h0)).trans (h.1 i hi), fun k' h0' hk' => (funext fun i => upd2_nk (show k' ≠ k from fun e => hk' (by rw [e]; exact hk))).trans (h.2 k' h0' hk')⟩
theorem Fr.i {A B : List Nat} {g g' : gT} (h : Fr A B g g') {j : Nat} (hj : j ∉ A) : (g' 0 j).toInt = (g 0 j).toInt := congrArg Int32.toInt (h.1 j hj)
abbrev aG : List Nat := [23, 24, 25, 26, 27, 28]
abbrev aN : List Nat := [19, 20, 23, 24, 25, 26, 27, 28]
def pN (g : gT) : Prop := (g 0 23).toInt ≤ (g 0 22).toInt ∧ (g 0 25).toInt ≤ (g 0 23).toInt ∧ ((g 0 24).toInt ≠ 0 → (g 0 25).toInt < (g 0 23).toInt)
def QG (g g1 : gT) : Prop := zI MT g1 ∧ Fr aG [] g g1 ∧ pN g1 ∧ (g 0 23).toInt ≤ (g1 0 25).toInt
def QN (g g1 : gT) : Prop := zI MT g1 ∧ Fr aN [] g g1 ∧ pN g1 ∧ ((g 0 19).toInt ≠ 0 → (g1 0 19).toInt ≠ 0) ∧ (g 0 25).toInt ≤ (g1 0 25).toInt
theorem pN.congr {g g1 : gT} (h : pN g) (h22 : (g1 0 22).toInt = (g 0 22).toInt) (h23 : (g1 0 23).toInt = (g 0 23).toInt) (h24 : (g1 0 24).toInt = (g 0 24).toInt) (h25 : (g1 0 25).toInt = (g 0 25).toInt) : pN g1 := by
  unfold pN at h ⊢
  rw [h22, h23, h24, h25]; exact h
theorem pN.fr {g g1 : gT} {A B : List Nat} (h : pN g) (hF : Fr A B g g1) (h22 : 22 ∉ A) (h23 : 23 ∉ A) (h24 : 24 ∉ A) (h25 : 25 ∉ A) : pN g1 := h.congr (hF.i h22) (hF.i h23) (hF.i h24) (hF.i h25)
def bt (g : gT) (k : Int32) : Int32 := if g 0 22 ≤ k then 0 else g 13 k.toNatClampNeg
theorem bt_lt {g : gT} {k : Int32} (h : (bt g k).toInt ≠ 0) : k.toInt < (g 0 22).toInt := by
  unfold bt at h
  split at h
  · exact absurd rfl h
  · rename_i c; exact icc_nle (m := (g 0 22).toInt) (n := k.toInt) rfl rfl c
section LX
variable {ρ : Type} {Q : ρ → gT → lT → Prop} {g : gT} {L : lT} {fu : Nat}
theorem e_byte {k : Int32} {K : Int32 → gT → lT → Option (ρ × zS)} (h0 : 0 ≤ k.toInt) (h7 : (g 0 22).toInt ≤ 700) (h : Ex (K (bt g k) g L) Q) : Ex (cb (fX12_byteAt fu k g L) K) Q := by
  have e : fX12_byteAt fu k g L = some (bt g k, (g, L)) := by
    unfold fX12_byteAt bt
    split
    · rfl
    · rename_i c
      have c := icc_nle (m := (g 0 22).toInt) (n := k.toInt) rfl rfl c
      exact ck_eq h0 (by omega)
  rw [e]; exact h
theorem ckb0 {α : Type} {K : Option α} : ckb 0 K = K := if_pos rfl
theorem ckb1 {α : Type} {K : Option α} : ckb 1 K = K := if_pos rfl
theorem e_b0 {A B : gT → lT → Option (ρ × zS)} (h : Ex (A g L) Q) : Ex (cb (some ((0 : Int32), (g, L))) (fun x g1 L1 => if x = 0 then A g1 L1 else B g1 L1)) Q := by
  show Ex (if (0 : Int32) = 0 then A g L else B g L) Q
  rw [if_pos rfl]; exact h
theorem e_b1 {A B : gT → lT → Option (ρ × zS)} (h : Ex (B g L) Q) : Ex (cb (some ((1 : Int32), (g, L))) (fun x g1 L1 => if x = 0 then A g1 L1 else B g1 L1)) Q := by
  show Ex (if (1 : Int32) = 0 then A g L else B g L) Q
  rw [if_neg (by decide)]; exact h
theorem e_letter {c : Int32} {A B : gT → lT → Option (ρ × zS)} (h0 : c.toInt < 97 ∨ 122 < c.toInt → Ex (A g L) Q) (h1 : 97 ≤ c.toInt → c.toInt ≤ 122 → Ex (B g L) Q) : Ex (cb (fX12_isLetter fu c g L) (fun x g1 L1 => if x = 0 then A g1 L1 else B g1 L1)) Q := by
  unfold fX12_isLetter fX12_isLetter_p16 fX12_isLetter_p17
  rw [ckb0, ckb1]
  by_cases c1 : c < 97
  · rw [if_pos c1]; exact e_b0 (h0 (Or.inl (icc_lt (m := c.toInt) (n := 97) rfl (by decide) c1)))
  · rw [if_neg c1]
    by_cases c2 : 122 < c
    · rw [if_pos c2]; exact e_b0 (h0 (Or.inr (icc_lt (m := 122) (n := c.toInt) (by decide) rfl c2)))
    · rw [if_neg c2]; exact e_b1 (h1 (icc_nlt (m := c.toInt) (n := 97) rfl (by decide) c1) (icc_nlt (m := 122) (n := c.toInt) (by decide) rfl c2))
theorem e_digit {c : Int32} {A B : gT → lT → Option (ρ × zS)} (h0 : c.toInt < 48 ∨ 57 < c.toInt → Ex (A g L) Q) (h1 : 48 ≤ c.toInt → c.toInt ≤ 57 → Ex (B g L) Q) : Ex (cb (fX12_isDigit fu c g L) (fun x g1 L1 => if x = 0 then A g1 L1 else B g1 L1)) Q := by
  unfold fX12_isDigit fX12_isDigit_p16 fX12_isDigit_p17
  rw [ckb0, ckb1]
  by_cases c1 : c < 48
  · rw [if_pos c1]; exact e_b0 (h0 (Or.inl (icc_lt (m := c.toInt) (n := 48) rfl (by decide) c1)))
  · rw [if_neg c1]
    by_cases c2 : 57 < c
    · rw [if_pos c2]; exact e_b0 (h0 (Or.inr (icc_lt (m := 57) (n := c.toInt) (by decide) rfl c2)))
    · rw [if_neg c2]; exact e_b1 (h1 (icc_nlt (m := c.toInt) (n := 48) rfl (by decide) c1) (icc_nlt (m := 57) (n := c.toInt) (by decide) rfl c2))
theorem e_good {A B : gT → lT → Option (ρ × zS)} (h1 : (g 0 19).toInt = 0 → Ex (B g L) Q) (h0 : (g 0 19).toInt ≠ 0 → Ex (A g L) Q) : Ex (cb (fX12_isGood fu g L) (fun x g1 L1 => if x = 0 then A g1 L1 else B g1 L1)) Q := by
  unfold fX12_isGood fX12_isGood_p12
  rw [ckb0, ckb1]
  by_cases c1 : g 0 19 = 0
  · rw [if_pos c1]; exact e_b1 (h1 (icc_eq (m := (g 0 19).toInt) (n := 0) rfl (by decide) c1))
  · rw [if_neg c1]; exact e_b0 (h0 (icc_neq (m := (g 0 19).toInt) (n := 0) rfl (by decide) c1))
theorem e_signK {c : Int32} {K : Int32 → gT → lT → Option (ρ × zS)} (h : ∀ x : Int32, (x = 0 ∨ (x = 1 ∧ (g 0 24).toInt = 3)) → Ex (K x g L) Q) : Ex (cb (fX12_isSign fu c g L) K) Q := by
  unfold fX12_isSign fX12_isSign_p20 fX12_isSign_p21
  rw [ckb0, ckb1]
  by_cases c1 : g 0 24 = 3
  · rw [if_pos c1]
    by_cases c2 : g 0 28 = c
    · rw [if_pos c2]; exact h 1 (Or.inr ⟨rfl, icc_eq (m := (g 0 24).toInt) (n := 3) rfl (by decide) c1⟩)
    · rw [if_neg c2]; exact h 0 (Or.inl rfl)
  · rw [if_neg c1]; exact h 0 (Or.inl rfl)
theorem e_sign {c : Int32} {A B : gT → lT → Option (ρ × zS)} (h1 : (g 0 24).toInt = 3 → Ex (B g L) Q) (h0 : Ex (A g L) Q) : Ex (cb (fX12_isSign fu c g L) (fun x g1 L1 => if x = 0 then A g1 L1 else B g1 L1)) Q := by
  refine e_signK (fun x hx => ?_)
  rcases hx with rfl | ⟨rfl, hx⟩
  · rw [if_pos rfl]; exact h0
  · rw [if_neg (by decide)]; exact h1 hx
theorem e_wrong {w : Int32} {K : Unit → gT → lT → Option (ρ × zS)} (hI : zI MT g) (hw : w.toInt ≠ 0) (h : ∀ g1, zI MT g1 → Fr [19, 20] [] g g1 → (g1 0 19).toInt ≠ 0 → Ex (K () g1 L) Q) : Ex (cb (fX12_wrong fu w g L) K) Q := by
  unfold fX12_wrong
  by_cases c1 : g 0 19 = 0
  · rw [if_pos c1]
    refine h (upd2 (upd2 g 0 19 w) 0 20 (upd2 g 0 19 w 0 25)) ((hI.updN rfl).updN rfl) ((Fr.refl.u0 (by decide)).u0 (by decide)) ?_
    exact hw
  · rw [if_neg c1]
    exact h g hI Fr.refl (icc_neq (m := (g 0 19).toInt) (n := 0) rfl (by decide) c1)
theorem e_spelled {a b c d e f : Int32} : Ex (fX12_spelled fu a b c d e f g L) (fun (_ : Int64) g1 L1 => g1 = g) := by
  unfold fX12_spelled fX12_spelled_p32 fX12_spelled_p48 fX12_spelled_p66 fX12_spelled_p84
  repeat' first | exact ⟨_, _, _, rfl, rfl⟩ | (refine Ex.ltl (fun _ _ => ?_)) | (refine Ex.ite (fun _ => ?_) (fun _ => ?_))
theorem e_letters {a : Int32} : Ex (fX12_letters fu a g L) (fun (_ : Int64) g1 L1 => g1 = g) := by
  have e : ∀ (a b c d e f : Int32), Ex (cb (fX12_spelled fu a b c d e f g L) (fun x g1 L1 => some (x, (g1, L1)))) (fun (_ : Int64) g1 L1 => g1 = g) := fun a b c d e f => Ex.cb e_spelled (fun x g1 L1 h => Ex.ret h)
  unfold fX12_letters
  repeat' first | exact e _ _ _ _ _ _ | (refine Ex.ite (fun _ => ?_) (fun _ => ?_))
theorem e_known {K : Int32 → gT → lT → Option (ρ × zS)} (hfu : 1180591620717411303424 ≤ fu) (h : ∀ (x : Int32) (L1 : lT), -1 ≤ x.toInt → x.toInt ≤ 16 → (x.toInt ≠ -1 → (g 0 24).toInt = 1) → Ex (K x g L1) Q) : Ex (cb (fX12_knownWord fu g L) K) Q := by
  have key : Ex (fX12_knownWord fu g L) (fun (x : Int32) g1 L1 => g1 = g ∧ -1 ≤ x.toInt ∧ x.toInt ≤ 16 ∧ (x.toInt ≠ -1 → (g 0 24).toInt = 1)) := by
    have hn : ∀ L1 : lT, Ex (some ((-1 : Int32), (g, L1))) (fun (x : Int32) g1 L1 => g1 = g ∧ -1 ≤ x.toInt ∧ x.toInt ≤ 16 ∧ (x.toInt ≠ -1 → (g 0 24).toInt = 1)) := fun L1 => Ex.ret ⟨rfl, by decide, by decide, fun h => absurd rfl h⟩
    unfold fX12_knownWord fX12_knownWord_p17
    refine Ex.ite (fun c => Ex.ite (fun _ => ?_) (fun _ => hn L)) (fun _ => hn L)
    have c := icc_eq (m := (g 0 24).toInt) (n := 1) rfl (by decide) c
    unfold fX12_knownWord_l21
    refine Ex.loop (α := Int32 × gT × lT) (fun v => (0 ≤ v.1.toInt ∧ v.1.toInt ≤ 17) ∧ v.2.1 = g) (fun v => 18 - v.1.toInt) (by omega) (by show 18 - (0 : Int32).toInt < (fu : Int); have : (0 : Int32).toInt = 0 := rfl; omega) ⟨(show 0 ≤ (0 : Int32).toInt ∧ (0 : Int32).toInt ≤ 17 from by decide), rfl⟩ (fun k21 v hv ih => ?_)
    obtain ⟨v1, g2, L2⟩ := v
    obtain ⟨hv, hg⟩ := hv
    have hv : 0 ≤ v1.toInt ∧ v1.toInt ≤ 17 := hv
    have hg : g2 = g := hg
    subst hg
    show Ex (fX12_knownWord_s21 fu k21 v1 g2 L2) _
    unfold fX12_knownWord_s21
    refine Ex.ite (fun _ => hn L2) (fun c1 => ?_)
    have c1 := icc_nle (m := 17) (n := v1.toInt) (by decide) rfl c1
    refine Ex.cb e_letters (fun x4 g5 L6 he => ?_)
    subst he
    refine Ex.ite (fun _ => Ex.ret ⟨rfl, by omega, by omega, fun _ => c⟩) (fun _ => ?_)
    generalize hw : v1 + 1 = w
    have ew : w.toInt = v1.toInt + 1 := by rw [← hw]; exact ic_addc rfl (by decide) (by omega) (by omega)
    exact ih (w, g5, L6) ⟨show 0 ≤ w.toInt ∧ w.toInt ≤ 17 by omega, rfl⟩ (show 18 - w.toInt < 18 - v1.toInt by omega) (show 0 < 18 - v1.toInt by omega)
  refine Ex.cb key (fun x g1 L1 hx => ?_)
  obtain ⟨rfl, h1, h2, h3⟩ := hx
  exact h x L1 h1 h2 h3
end LX
set_option maxHeartbeats 4000000 in
theorem sX12_goes (fu : Nat) (hfu : 1180591620717411303424 ≤ fu) (g0 : gT) (L0 : lT) (hI : zI MT g0) (hn : (g0 0 23).toInt ≤ (g0 0 22).toInt) : Ex (fX12_goes fu g0 L0) (fun (_ : Unit) g1 L1 => QG g0 g1) := by
  have fin : ∀ (t0 : Int32) (g : gT) (L : lT), zI MT g → Fr aG [] g0 g → (g 0 23).toInt ≤ (g 0 22).toInt → (g 0 25).toInt ≤ (g 0 23).toInt → (g0 0 23).toInt ≤ (g 0 25).toInt → (t0.toInt ≠ 0 → (g 0 25).toInt < (g 0 23).toInt) → Ex (sti g 0 24 t0 (fun g22 => fX12_goes_p331 fu g22 L)) (fun (_ : Unit) g1 L1 => QG g0 g1) := by
    intro t0 g L hI hF h1 h2 h3 h4
    refine Ex.sti (hI.updN rfl) (fun ga gae hI => ?_)
    unfold fX12_goes_p331
    refine Ex.sti (hI.updN rfl) (fun gb gbe hI => Ex.ret ?_)
    have hF : Fr aG [] g0 gb := by rw [gbe, gae]; exact (hF.u0 (by decide)).u0 (by decide)
    have r22 : gb 0 22 = g 0 22 := by rw [gbe, gae]; rfl
    have r23 : gb 0 23 = g 0 23 := by rw [gbe, gae]; rfl
    have r24 : gb 0 24 = t0 := by rw [gbe, gae]; rfl
    have r25 : gb 0 25 = g 0 25 := by rw [gbe, gae]; rfl
    exact ⟨hI, hF, by unfold pN; rw [r22, r23, r24, r25]; exact ⟨h1, h2, h4⟩, by rw [r25]; exact h3⟩
  -- the rest of a number
  have P187 : ∀ (g : gT) (L : lT), zI MT g → Fr aG [] g0 g → (g 0 23).toInt ≤ (g 0 22).toInt → (g 0 25).toInt = (g 0 23).toInt → (g0 0 23).toInt ≤ (g 0 25).toInt → (g 0 27).toInt = 0 → 48 ≤ (bt g (g 0 23)).toInt → (bt g (g 0 23)).toInt ≤ 57 → Ex (fX12_goes_l187 fu g L) (fun (_ : Unit) g1 L1 => QG g0 g1) := by
    intro g L hI hF h1 h2 h3 h4 h5 h6
    have q22 := hI 0 22 0 700 rfl
    have q23 := hI 0 23 0 700 rfl
    unfold fX12_goes_l187
    refine Ex.loop (α := gT × lT) (fun v => zI MT v.1 ∧ Fr aG [] g0 v.1 ∧ (v.1 0 23).toInt ≤ (v.1 0 22).toInt ∧ (v.1 0 25).toInt ≤ (v.1 0 23).toInt ∧ (g0 0 23).toInt ≤ (v.1 0 25).toInt ∧ ((v.1 0 23).toInt - (v.1 0 25).toInt = 0 → (v.1 0 27).toInt ≤ 0 ∧ 48 ≤ (bt v.1 (v.1 0 23)).toInt ∧ (bt v.1 (v.1 0 23)).toInt ≤ 57) ∧ ((v.1 0 23).toInt - (v.1 0 25).toInt = 1 → (v.1 0 27).toInt ≤ 9) ∧ ((v.1 0 23).toInt - (v.1 0 25).toInt = 2 → (v.1 0 27).toInt ≤ 99) ∧ ((v.1 0 23).toInt - (v.1 0 25).toInt = 3 → (v.1 0 27).toInt ≤ 999)) (fun v => 701 - (v.1 0 23).toInt) (by omega) (by show 701 - (g 0 23).toInt < (fu : Int); omega) ⟨hI, hF, h1, (show (g 0 25).toInt ≤ (g 0 23).toInt by omega), h3, (show (g 0 23).toInt - (g 0 25).toInt = 0 → (g 0 27).toInt ≤ 0 ∧ 48 ≤ (bt g (g 0 23)).toInt ∧ (bt g (g 0 23)).toInt ≤ 57 from fun _ => ⟨by omega, h5, h6⟩), (show (g 0 23).toInt - (g 0 25).toInt = 1 → (g 0 27).toInt ≤ 9 by omega), (show (g 0 23).toInt - (g 0 25).toInt = 2 → (g 0 27).toInt ≤ 99 by omega), (show (g 0 23).toInt - (g 0 25).toInt = 3 → (g 0 27).toInt ≤ 999 by omega)⟩ (fun k187 v hv ih => ?_)
    clear hI hF h1 h2 h3 h4 h5 h6 q22 q23 g L
    obtain ⟨g, L⟩ := v
    obtain ⟨hI, hF, h1, h2, h3, d0, d1, d2, d3⟩ := hv
    have hI : zI MT g := hI
    have hF : Fr aG [] g0 g := hF
    have h1 : (g 0 23).toInt ≤ (g 0 22).toInt := h1
    have h2 : (g 0 25).toInt ≤ (g 0 23).toInt := h2
    have h3 : (g0 0 23).toInt ≤ (g 0 25).toInt := h3
    have d0 : (g 0 23).toInt - (g 0 25).toInt = 0 → (g 0 27).toInt ≤ 0 ∧ 48 ≤ (bt g (g 0 23)).toInt ∧ (bt g (g 0 23)).toInt ≤ 57 := d0
    have d1 : (g 0 23).toInt - (g 0 25).toInt = 1 → (g 0 27).toInt ≤ 9 := d1
    have d2 : (g 0 23).toInt - (g 0 25).toInt = 2 → (g 0 27).toInt ≤ 99 := d2
    have d3 : (g 0 23).toInt - (g 0 25).toInt = 3 → (g 0 27).toInt ≤ 999 := d3
    have q22 := hI 0 22 0 700 rfl
    have q23 := hI 0 23 0 700 rfl
    have q25 := hI 0 25 0 700 rfl
    have q27 := hI 0 27 0 9999 rfl
    show Ex (fX12_goes_s187 fu k187 g L) _
    unfold fX12_goes_s187
    refine e_byte (by omega) (by omega) ?_
    have hlt := bt_lt (g := g) (k := g 0 23)
    generalize hb : bt g (g 0 23) = b at d0 hlt ⊢
    refine e_digit (fun c => fin 2 g L hI hF h1 h2 h3 (fun _ => by omega)) (fun c1 c2 => ?_)
    have hlt := hlt (by omega)
    -- the next sign
    have P237 : ∀ (g1 : gT) (L1 : lT), zI MT g1 → Fr aG [] g0 g1 → g1 0 22 = g 0 22 → g1 0 23 = g 0 23 → g1 0 25 = g 0 25 → ((g 0 23).toInt - (g 0 25).toInt = 0 → (g1 0 27).toInt ≤ 9) → ((g 0 23).toInt - (g 0 25).toInt = 1 → (g1 0 27).toInt ≤ 99) → ((g 0 23).toInt - (g 0 25).toInt = 2 → (g1 0 27).toInt ≤ 999) → Ex (fX12_goes_p237 fu k187 g1 L1) (fun (_ : Unit) g1 L1 => QG g0 g1) := by
      intro g1 L1 hI hF r22 r23 r25 f0 f1 f2
      unfold fX12_goes_p237
      rw [r23]
      generalize hw : (g 0 23) + 1 = w
      have ew : w.toInt = (g 0 23).toInt + 1 := by rw [← hw]; exact ic_addc rfl (by decide) (by omega) (by omega)
      refine Ex.sti (hI.upd (lo := 0) (hi := 700) rfl (by omega) (by omega)) (fun ga gae hI => ?_)
      have s22 : ga 0 22 = g 0 22 := by rw [gae]; exact r22
      have s23 : ga 0 23 = w := by rw [gae]; exact upd2_at
      have s25 : ga 0 25 = g 0 25 := by rw [gae]; exact r25
      have s27 : ga 0 27 = g1 0 27 := by rw [gae]; rfl
      have hF : Fr aG [] g0 ga := by rw [gae]; exact hF.u0 (by decide)
      refine ih (ga, L1) ⟨hI, hF, ?_, ?_, ?_, ?_, ?_, ?_, ?_⟩ ?_ ?_
      · show (ga 0 23).toInt ≤ (ga 0 22).toInt
        rw [s22, s23]; omega
      · show (ga 0 25).toInt ≤ (ga 0 23).toInt
        rw [s25, s23]; omega
      · show (g0 0 23).toInt ≤ (ga 0 25).toInt
        rw [s25]; exact h3
      · show (ga 0 23).toInt - (ga 0 25).toInt = 0 → _
        rw [s25, s23]; intro h; omega
      · show (ga 0 23).toInt - (ga 0 25).toInt = 1 → (ga 0 27).toInt ≤ 9
        rw [s25, s23, s27]; omega
      · show (ga 0 23).toInt - (ga 0 25).toInt = 2 → (ga 0 27).toInt ≤ 99
        rw [s25, s23, s27]; omega
      · show (ga 0 23).toInt - (ga 0 25).toInt = 3 → (ga 0 27).toInt ≤ 999
        rw [s25, s23, s27]; omega
      · show 701 - (ga 0 23).toInt < 701 - (g 0 23).toInt
        rw [s23]; omega
      · show 0 < 701 - (g 0 23).toInt
        omega
    generalize hz : (g 0 23) - (g 0 25) = z
    have ez : z.toInt = (g 0 23).toInt - (g 0 25).toInt := by rw [← hz]; exact ic_subc rfl rfl (by omega) (by omega)
    refine Ex.ite (fun c4 => ?_) (fun c4 => ?_)
    · have c4 := icc_le (m := 4) (n := z.toInt) (by decide) rfl c4
      exact P237 g L hI hF rfl rfl rfl (by omega) (by omega) (by omega)
    · have c4 := icc_nle (m := 4) (n := z.toInt) (by decide) rfl c4
      refine e_byte (by omega) (by omega) ?_
      rw [hb]
      generalize hm : 10 * (g 0 27) = m
      have em : m.toInt = 10 * (g 0 27).toInt := by rw [← hm]; exact ic_mulc (by decide) rfl (by omega) (by omega)
      generalize hs : m + b = s
      have es : s.toInt = m.toInt + b.toInt := by rw [← hs]; exact ic_addc rfl rfl (by omega) (by omega)
      generalize ht : s - 48 = t
      have et : t.toInt = s.toInt - 48 := by rw [← ht]; exact ic_subc rfl (by decide) (by omega) (by omega)
      have b0 : (g 0 23).toInt - (g 0 25).toInt = 0 → (g 0 27).toInt ≤ 0 := fun h => (d0 h).1
      refine Ex.sti (hI.upd (lo := 0) (hi := 9999) rfl (by omega) (by omega)) (fun ga gae hI => ?_)
      have s27 : ga 0 27 = t := by rw [gae]; exact upd2_at
      exact P237 ga L hI (by rw [gae]; exact hF.u0 (by decide)) (by rw [gae]; rfl) (by rw [gae]; rfl) (by rw [gae]; rfl) (by rw [s27]; omega) (by rw [s27]; omega) (by rw [s27]; omega)
  -- the rest of a word
  have P108 : ∀ (g : gT) (L : lT), zI MT g → Fr aG [] g0 g → (g 0 23).toInt ≤ (g 0 22).toInt → (g 0 25).toInt = (g 0 23).toInt → (g0 0 23).toInt ≤ (g 0 25).toInt → 97 ≤ (bt g (g 0 23)).toInt → (bt g (g 0 23)).toInt ≤ 122 → Ex (fX12_goes_l108 fu g L) (fun (_ : Unit) g1 L1 => QG g0 g1) := by
    intro g L hI hF h1 h2 h3 h5 h6
    have q22 := hI 0 22 0 700 rfl
    have q23 := hI 0 23 0 700 rfl
    unfold fX12_goes_l108
    refine Ex.loop (α := gT × lT) (fun v => zI MT v.1 ∧ Fr aG [] g0 v.1 ∧ (v.1 0 23).toInt ≤ (v.1 0 22).toInt ∧ (v.1 0 25).toInt ≤ (v.1 0 23).toInt ∧ (g0 0 23).toInt ≤ (v.1 0 25).toInt ∧ ((v.1 0 25).toInt = (v.1 0 23).toInt → 97 ≤ (bt v.1 (v.1 0 23)).toInt ∧ (bt v.1 (v.1 0 23)).toInt ≤ 122)) (fun v => 701 - (v.1 0 23).toInt) (by omega) (by show 701 - (g 0 23).toInt < (fu : Int); omega) ⟨hI, hF, h1, (show (g 0 25).toInt ≤ (g 0 23).toInt by omega), h3, fun _ => ⟨h5, h6⟩⟩ (fun k108 v hv ih => ?_)
    clear hI hF h1 h2 h3 h5 h6 q22 q23 g L
    obtain ⟨g, L⟩ := v
    obtain ⟨hI, hF, h1, h2, h3, d0⟩ := hv
    have hI : zI MT g := hI
    have hF : Fr aG [] g0 g := hF
    have h1 : (g 0 23).toInt ≤ (g 0 22).toInt := h1
    have h2 : (g 0 25).toInt ≤ (g 0 23).toInt := h2
    have h3 : (g0 0 23).toInt ≤ (g 0 25).toInt := h3
    have d0 : (g 0 25).toInt = (g 0 23).toInt → 97 ≤ (bt g (g 0 23)).toInt ∧ (bt g (g 0 23)).toInt ≤ 122 := d0
    have q22 := hI 0 22 0 700 rfl
    have q23 := hI 0 23 0 700 rfl
    have q25 := hI 0 25 0 700 rfl
    show Ex (fX12_goes_s108 fu k108 g L) _
    unfold fX12_goes_s108
    refine e_byte (by omega) (by omega) ?_
    have hlt := bt_lt (g := g) (k := g 0 23)
    generalize hb : bt g (g 0 23) = b at d0 hlt ⊢
    refine e_letter (fun c => fin 1 g L hI hF h1 h2 h3 (fun _ => by omega)) (fun c1 c2 => ?_)
    have hlt := hlt (by omega)
    have P159 : ∀ (L1 : lT), Ex (fX12_goes_p159 fu k108 g L1) (fun (_ : Unit) g1 L1 => QG g0 g1) := by
      intro L1
      unfold fX12_goes_p159
      generalize hw : (g 0 23) + 1 = w
      have ew : w.toInt = (g 0 23).toInt + 1 := by rw [← hw]; exact ic_addc rfl (by decide) (by omega) (by omega)
      refine Ex.sti (hI.upd (lo := 0) (hi := 700) rfl (by omega) (by omega)) (fun ga gae hI => ?_)
      have s22 : ga 0 22 = g 0 22 := by rw [gae]; rfl
      have s23 : ga 0 23 = w := by rw [gae]; exact upd2_at
      have s25 : ga 0 25 = g 0 25 := by rw [gae]; rfl
      have hF : Fr aG [] g0 ga := by rw [gae]; exact hF.u0 (by decide)
      refine ih (ga, L1) ⟨hI, hF, ?_, ?_, ?_, ?_⟩ ?_ ?_
      · show (ga 0 23).toInt ≤ (ga 0 22).toInt
        rw [s22, s23]; omega
      · show (ga 0 25).toInt ≤ (ga 0 23).toInt
        rw [s25, s23]; omega
      · show (g0 0 23).toInt ≤ (ga 0 25).toInt
        rw [s25]; exact h3
      · show (ga 0 25).toInt = (ga 0 23).toInt → _
        rw [s25, s23]; intro h; omega
      · show 701 - (ga 0 23).toInt < 701 - (g 0 23).toInt
        rw [s23]; omega
      · show 0 < 701 - (g 0 23).toInt
        omega
    refine Ex.ite (fun _ => P159 L) (fun _ => ?_)
    refine e_byte (by omega) (by omega) ?_
    refine Ex.stl (fun L1 _ => P159 L1)
  -- a sign's beginning
  have P50 : ∀ (g : gT) (L : lT), zI MT g → Fr aG [] g0 g → (g 0 23).toInt ≤ (g 0 22).toInt → (g0 0 23).toInt ≤ (g 0 23).toInt → Ex (fX12_goes_p50 fu g L) (fun (_ : Unit) g1 L1 => QG g0 g1) := by
    intro g L hI hF h1 h2
    have q22 := hI 0 22 0 700 rfl
    have q23 := hI 0 23 0 700 rfl
    unfold fX12_goes_p50
    refine Ex.sti (hI.upd (lo := 0) (hi := 700) rfl (by omega) (by omega)) (fun g1 g1e hI => ?_)
    refine Ex.stl (fun L2 _ => ?_)
    refine Ex.sti (hI.upd (lo := 0) (hi := 9999) rfl (by decide) (by decide)) (fun g3 g3e hI => ?_)
    have s22 : g3 0 22 = g 0 22 := by rw [g3e, g1e]; rfl
    have s23 : g3 0 23 = g 0 23 := by rw [g3e, g1e]; rfl
    have s25 : g3 0 25 = g 0 23 := by rw [g3e, g1e]; rfl
    have s27 : g3 0 27 = 0 := by rw [g3e]; exact upd2_at
    have hF : Fr aG [] g0 g3 := by rw [g3e, g1e]; exact (hF.u0 (by decide)).u0 (by decide)
    clear g3e g1e
    rw [s23]
    refine e_byte (by omega) (by rw [s22]; omega) ?_
    generalize hb : bt g3 (g 0 23) = b
    refine Ex.sti (hI.updN rfl) (fun g8 g8e hI => ?_)
    have t22 : g8 0 22 = g 0 22 := by rw [g8e]; exact s22
    have t23 : g8 0 23 = g 0 23 := by rw [g8e]; exact s23
    have t25 : g8 0 25 = g 0 23 := by rw [g8e]; exact s25
    have t27 : g8 0 27 = 0 := by rw [g8e]; exact s27
    have tb : bt g8 (g8 0 23) = b := by
      rw [t23, ← hb]; unfold bt; rw [t22, s22]; rw [g8e]; rfl
    have hF : Fr aG [] g0 g8 := by rw [g8e]; exact hF.u0 (by decide)
    clear g8e s22 s23 s25 s27
    refine Ex.ite (fun c => ?_) (fun c => fin 0 g8 L2 hI hF (by rw [t22, t23]; exact h1) (by rw [t25, t23]; exact Int.le_refl _) (by rw [t25]; exact h2) (fun h => absurd rfl h))
    rw [t23, t22] at c
    have c := icc_lt (m := (g 0 23).toInt) (n := (g 0 22).toInt) rfl rfl c
    refine e_letter (fun _ => ?_) (fun l1 l2 => P108 g8 L2 hI hF (by rw [t22, t23]; exact h1) (by rw [t25, t23]) (by rw [t25]; exact h2) (by rw [tb]; exact l1) (by rw [tb]; exact l2))
    refine e_digit (fun _ => ?_) (fun l1 l2 => P187 g8 L2 hI hF (by rw [t22, t23]; exact h1) (by rw [t25, t23]) (by rw [t25]; exact h2) (by rw [t27]; rfl) (by rw [tb]; exact l1) (by rw [tb]; exact l2))
    rw [t23]
    generalize hw : (g 0 23) + 1 = w
    have ew : w.toInt = (g 0 23).toInt + 1 := by rw [← hw]; exact ic_addc rfl (by decide) (by omega) (by omega)
    refine Ex.sti (hI.upd (lo := 0) (hi := 700) rfl (by omega) (by omega)) (fun ga gae hI => ?_)
    have u22 : ga 0 22 = g 0 22 := by rw [gae]; exact t22
    have u23 : ga 0 23 = w := by rw [gae]; exact upd2_at
    have u25 : ga 0 25 = g 0 23 := by rw [gae]; exact t25
    have hF : Fr aG [] g0 ga := by rw [gae]; exact hF.u0 (by decide)
    have e : ∀ t0 : Int32, Ex (fX12_goes_p328 fu t0 ga L2) (fun (_ : Unit) g1 L1 => QG g0 g1) := fun t0 => fin t0 ga L2 hI hF (by rw [u22, u23]; omega) (by rw [u25, u23]; omega) (by rw [u25]; exact h2) (fun _ => by rw [u25, u23]; omega)
    unfold fX12_goes_p323
    repeat' first | exact e _ | (refine Ex.ite (fun _ => ?_) (fun _ => ?_))
  unfold fX12_goes fX12_goes_l0
  have q22 := hI 0 22 0 700 rfl
  have q23 := hI 0 23 0 700 rfl
  refine Ex.loop (α := gT × lT) (fun v => zI MT v.1 ∧ Fr aG [] g0 v.1 ∧ (v.1 0 23).toInt ≤ (v.1 0 22).toInt ∧ (g0 0 23).toInt ≤ (v.1 0 23).toInt) (fun v => 701 - (v.1 0 23).toInt) (by omega) (by show 701 - (g0 0 23).toInt < (fu : Int); omega) ⟨hI, Fr.refl, hn, Int.le_refl _⟩ (fun k0 v hv ih => ?_)
  clear hI q22 q23
  obtain ⟨g, L⟩ := v
  obtain ⟨hI, hF, h1, h2⟩ := hv
  have hI : zI MT g := hI
  have hF : Fr aG [] g0 g := hF
  have h1 : (g 0 23).toInt ≤ (g 0 22).toInt := h1
  have h2 : (g0 0 23).toInt ≤ (g 0 23).toInt := h2
  have q22 := hI 0 22 0 700 rfl
  have q23 := hI 0 23 0 700 rfl
  show Ex (fX12_goes_s0 fu k0 g L) _
  unfold fX12_goes_s0
  refine Ex.ite (fun _ => P50 g L hI hF h1 h2) (fun c => ?_)
  have c := icc_nle (m := (g 0 22).toInt) (n := (g 0 23).toInt) rfl rfl c
  have P37 : Ex (fX12_goes_p37 fu k0 g L) (fun (_ : Unit) g1 L1 => QG g0 g1) := by
    unfold fX12_goes_p37
    generalize hw : (g 0 23) + 1 = w
    have ew : w.toInt = (g 0 23).toInt + 1 := by rw [← hw]; exact ic_addc rfl (by decide) (by omega) (by omega)
    refine Ex.sti (hI.upd (lo := 0) (hi := 700) rfl (by omega) (by omega)) (fun ga gae hI => ?_)
    have s22 : ga 0 22 = g 0 22 := by rw [gae]; rfl
    have s23 : ga 0 23 = w := by rw [gae]; exact upd2_at
    have hF : Fr aG [] g0 ga := by rw [gae]; exact hF.u0 (by decide)
    refine ih (ga, L) ⟨hI, hF, ?_, ?_⟩ ?_ ?_
    · show (ga 0 23).toInt ≤ (ga 0 22).toInt
      rw [s22, s23]; omega
    · show (g0 0 23).toInt ≤ (ga 0 23).toInt
      rw [s23]; omega
    · show 701 - (ga 0 23).toInt < 701 - (g 0 23).toInt
      rw [s23]; omega
    · show 0 < 701 - (g 0 23).toInt
      omega
  refine e_byte (by omega) (by omega) ?_
  refine Ex.ite (fun _ => P37) (fun _ => ?_)
  refine e_byte (by omega) (by omega) ?_
  exact Ex.ite (fun _ => P37) (fun _ => P50 g L hI hF h1 h2)
section LY
variable {ρ : Type} {Q : ρ → gT → lT → Prop} {g : gT} {L : lT} {fu : Nat}
theorem e_goes {K : Unit → gT → lT → Option (ρ × zS)} (hfu : 1180591620717411303424 ≤ fu) (hI : zI MT g) (hn : pN g) (h : ∀ g1 L1, QG g g1 → Ex (K () g1 L1) Q) : Ex (cb (fX12_goes fu g L) K) Q := Ex.cb (sX12_goes fu hfu g L hI hn.1) (fun _ g1 L1 hq => h g1 L1 hq)
end LY
theorem QG.n {g g1 : gT} (h : QG g g1) (hp : pN g) : QN g g1 := ⟨h.1, h.2.1.mo (by decide) (by decide), h.2.2.1, fun hb => by rw [h.2.1.i (by decide)]; exact hb, Int.le_trans hp.2.1 h.2.2.2⟩
theorem QN.w {g g1 : gT} (hp : pN g) (hI : zI MT g1) (hF : Fr [19, 20] [] g g1) (hb : (g1 0 19).toInt ≠ 0) : QN g g1 := ⟨hI, hF.mo (by decide) (by decide), hp.fr hF (by decide) (by decide) (by decide) (by decide), fun _ => hb, by rw [hF.i (by decide)]; exact Int.le_refl _⟩
theorem QN.refl {g : gT} (hI : zI MT g) (hp : pN g) : QN g g := ⟨hI, Fr.refl, hp, id, Int.le_refl _⟩
theorem QN.tr {g g1 g2 : gT} (h1 : QN g g1) (h2 : QN g1 g2) : QN g g2 := ⟨h2.1, h1.2.1.tr h2.2.1, h2.2.2.1, fun h => h2.2.2.2.1 (h1.2.2.2.1 h), Int.le_trans h1.2.2.2.2 h2.2.2.2.2⟩
def QR (p1 p2 : Int) (g : gT) (r : Int32) (g1 : gT) : Prop := QN g g1 ∧ 0 ≤ r.toInt ∧ r.toInt ≤ 9999 ∧ ((g1 0 19).toInt = 0 → p1 ≤ r.toInt ∧ r.toInt ≤ p2 ∧ (g 0 25).toInt < (g1 0 25).toInt)
theorem sX12_number (fu : Nat) (hfu : 1180591620717411303424 ≤ fu) (p1 p2 : Int32) (g0 : gT) (L0 : lT) (hI : zI MT g0) (hp : pN g0) : Ex (fX12_number fu p1 p2 g0 L0) (fun (r : Int32) g1 L1 => QR p1.toInt p2.toInt g0 r g1) := by
  have bad : ∀ (w : Int32) (K : Unit → gT → lT → Option (Int32 × zS)), w.toInt ≠ 0 → (∀ g1 L1, K () g1 L1 = fX12_number_p54 fu g1 L1) → Ex (cb (fX12_wrong fu w g0 L0) K) (fun (r : Int32) g1 L1 => QR p1.toInt p2.toInt g0 r g1) := by
    intro w K hw hK
    refine e_wrong hI hw (fun g1 hI1 hF hb => ?_)
    rw [hK]
    unfold fX12_number_p54
    refine Ex.lti (fun x xe xi => ?_)
    have q27 := hI1 0 27 0 9999 rfl
    refine e_good (fun h => absurd h hb) (fun _ => ?_)
    unfold fX12_number_p70
    exact Ex.ret ⟨QN.w hp hI1 hF hb, by omega, by omega, fun h => absurd h hb⟩
  unfold fX12_number
  refine e_good (fun hg => ?_) (fun hb => Ex.ret ⟨QN.refl hI hp, by decide, by decide, fun h => absurd h hb⟩)
  refine Ex.ite (fun c => ?_) (fun _ => bad 1 _ (by decide) (fun _ _ => rfl))
  have c := icc_eq (m := (g0 0 24).toInt) (n := 2) rfl (by decide) c
  unfold fX12_number_p49
  refine Ex.ite (fun _ => bad 2 _ (by decide) (fun _ _ => rfl)) (fun _ => ?_)
  refine Ex.ite (fun _ => bad 2 _ (by decide) (fun _ _ => rfl)) (fun c1 => ?_)
  refine Ex.ite (fun c2 => ?_) (fun _ => bad 2 _ (by decide) (fun _ _ => rfl))
  have c1 := icc_nlt (m := (g0 0 27).toInt) (n := p1.toInt) rfl rfl c1
  have c2 := icc_le (m := (g0 0 27).toInt) (n := p2.toInt) rfl rfl c2
  have q27 := hI 0 27 0 9999 rfl
  unfold fX12_number_p54
  refine Ex.lti (fun x xe xi => ?_)
  refine e_good (fun _ => ?_) (fun h => absurd hg h)
  refine e_goes hfu hI hp (fun g1 L1 hq => ?_)
  unfold fX12_number_p70
  refine Ex.ret ⟨hq.n hp, by omega, by omega, fun _ => ⟨by omega, by omega, ?_⟩⟩
  have := hp.2.2 (by omega)
  have := hq.2.2.2
  omega
theorem sX12_need (fu : Nat) (hfu : 1180591620717411303424 ≤ fu) (p1 : Int32) (g0 : gT) (L0 : lT) (hI : zI MT g0) (hp : pN g0) : Ex (fX12_need fu p1 g0 L0) (fun (_ : Unit) g1 L1 => QN g0 g1) := by
  unfold fX12_need fX12_need_p24
  refine e_good (fun hg => ?_) (fun hb => Ex.ret (QN.refl hI hp))
  refine Ex.ite (fun _ => ?_) (fun _ => e_goes hfu hI hp (fun g1 L1 hq => Ex.ret (hq.n hp)))
  exact e_wrong hI (by decide) (fun g1 hI1 hF hb => Ex.ret (QN.w hp hI1 hF hb))
theorem sX12_perhaps (fu : Nat) (hfu : 1180591620717411303424 ≤ fu) (p1 p2 p3 : Int32) (g0 : gT) (L0 : lT) (hI : zI MT g0) (hp : pN g0) : Ex (fX12_perhaps fu p1 p2 p3 g0 L0) (fun (r : Int32) g1 L1 => QN g0 g1) := by
  unfold fX12_perhaps fX12_perhaps_p15
  refine e_good (fun hg => ?_) (fun hb => Ex.ret (QN.refl hI hp))
  refine e_known hfu (fun x L1 _ _ _ => ?_)
  refine Ex.ite (fun _ => ?_) (fun _ => Ex.ret (QN.refl hI hp))
  refine e_goes hfu hI hp (fun g1 L2 hq => ?_)
  refine Ex.cb (sX12_number fu hfu 0 p3 g1 L2 hq.1 hq.2.2.1) (fun r g2 L3 hr => ?_)
  exact Ex.ret ((hq.n hp).tr hr.1)
end
section
/-! ===== the reference's parser: the code that is written ===== -/
def stp (c : Nat → Int32) (t h t' h' : Nat) : Prop := ((c t).toInt = 1 ∧ t' = t + 2 ∧ h' = h + 1) ∨ ((c t).toInt = 2 ∧ 0 ≤ (c (t + 1)).toInt ∧ (c (t + 1)).toInt ≤ 5 ∧ t' = t + 2 ∧ h' = h + 1) ∨ ((c t).toInt = 3 ∧ 1 ≤ h ∧ t' = t + 1 ∧ h' = h) ∨ (4 ≤ (c t).toInt ∧ 2 ≤ h ∧ t' = t + 1 ∧ h' + 1 = h)
/-- n steps from place s, with nothing on the pile, to place t, with h on it -/
def rn (c : Nat → Int32) (s : Nat) : Nat → Nat → Nat → Prop
  | 0, t, h => t = s ∧ h = 0
  | n + 1, t, h => ∃ t' h', rn c s n t' h' ∧ stp c t' h' t h
theorem rn_b {c : Nat → Int32} {s : Nat} : ∀ {n t h : Nat}, rn c s n t h → s + n ≤ t ∧ 2 * h + s ≤ t := by
  intro n
  induction n with
  | zero => intro t h hr; obtain ⟨h1, h2⟩ := hr; omega
  | succ n ih =>
    intro t h hr
    obtain ⟨t', h', hr, hs⟩ := hr
    have := ih hr
    rcases hs with ⟨-, h1, h2⟩ | ⟨-, -, -, h1, h2⟩ | ⟨-, -, h1, h2⟩ | ⟨-, -, h1, h2⟩ <;> omega
theorem rn_c {c c' : Nat → Int32} {s : Nat} : ∀ {n t h : Nat}, (∀ j, j < t → c' j = c j) → rn c s n t h → rn c' s n t h := by
  intro n
  induction n with
  | zero => intro t h _ hr; exact hr
  | succ n ih =>
    intro t h hc hr
    obtain ⟨t', h', hr, hs⟩ := hr
    refine ⟨t', h', ih (fun j hj => hc j ?_) hr, ?_⟩
    · rcases hs with ⟨-, h1, h2⟩ | ⟨-, -, -, h1, h2⟩ | ⟨-, -, h1, h2⟩ | ⟨-, -, h1, h2⟩ <;> omega
    · rcases hs with ⟨h0, h1, h2⟩ | ⟨h0, h3, h4, h1, h2⟩ | ⟨h0, h3, h1, h2⟩ | ⟨h0, h3, h1, h2⟩
      · exact Or.inl ⟨by rw [hc t' (by omega)]; exact h0, h1, h2⟩
      · exact Or.inr (Or.inl ⟨by rw [hc t' (by omega)]; exact h0, by rw [hc (t' + 1) (by omega)]; exact h3, by rw [hc (t' + 1) (by omega)]; exact h4, h1, h2⟩)
      · exact Or.inr (Or.inr (Or.inl ⟨by rw [hc t' (by omega)]; exact h0, h3, h1, h2⟩))
      · exact Or.inr (Or.inr (Or.inr ⟨by rw [hc t' (by omega)]; exact h0, h3, h1, h2⟩))
theorem rn_wf {c : Nat → Int32} {s : Nat} : ∀ {n m t h : Nat}, rn c s n t h → t < 1900 → wf c m t h → wf c (n + m) s 0 := by
  intro n
  induction n with
  | zero =>
    intro m t h hr _ hw
    obtain ⟨rfl, rfl⟩ := hr
    rw [Nat.zero_add]; exact hw
  | succ n ih =>
    intro m t h hr ht hw
    obtain ⟨t', h', hr, hs⟩ := hr
    have b := rn_b hr
    have key : t' < 1900 ∧ wf c (m + 1) t' h' := by
      rcases hs with ⟨h0, h1, h2⟩ | ⟨h0, h3, h4, h1, h2⟩ | ⟨h0, h3, h1, h2⟩ | ⟨h0, h3, h1, h2⟩
      · subst h1 h2
        exact ⟨by omega, by omega, Or.inr (Or.inl ⟨h0, by omega, by omega, hw⟩)⟩
      · subst h1 h2
        exact ⟨by omega, by omega, Or.inr (Or.inr (Or.inl ⟨h0, by omega, by omega, h3, h4, hw⟩))⟩
      · subst h1 h2
        exact ⟨by omega, by omega, Or.inr (Or.inr (Or.inr (Or.inl ⟨h0, h3, by omega, hw⟩)))⟩
      · subst h1
        have e : h = h' - 1 := by omega
        subst e
        exact ⟨by omega, by omega, Or.inr (Or.inr (Or.inr (Or.inr ⟨by omega, by omega, by omega, by omega, h3, by omega, hw⟩)))⟩
    have := ih hr key.1 key.2
    rw [show n + 1 + m = n + (m + 1) by omega]; exact this
def cl (c : Nat → Int32) (s T : Nat) : Prop := ∃ n t h, rn c s n t h ∧ (c t).toInt = 0 ∧ t < T
theorem cl_wf {c : Nat → Int32} {s T : Nat} (hT : T ≤ 1900) (h : cl c s T) : ∃ n : Nat, n ≤ 2000 ∧ wf c n s 0 := by
  obtain ⟨n, t, h, hr, h0, ht⟩ := h
  have b := rn_b hr
  exact ⟨n + 1, by omega, rn_wf hr (by omega) ⟨by omega, Or.inl h0⟩⟩
theorem cl_c {c c' : Nat → Int32} {s T T' : Nat} (hc : ∀ j, j < T → c' j = c j) (hT : T ≤ T') (h : cl c s T) : cl c' s T' := by
  obtain ⟨n, t, h, hr, h0, ht⟩ := h
  exact ⟨n, t, h, rn_c (fun j hj => hc j (by omega)) hr, by rw [hc t ht]; exact h0, by omega⟩
/-- code that agrees below the end of the store -/
theorem wf_c {c c' : Nat → Int32} (hc : ∀ j, j < 1900 → c' j = c j) : ∀ {n k m : Nat}, wf c n k m → wf c' n k m := by
  intro n
  induction n with
  | zero => intro k m h; exact h
  | succ n ih =>
    intro k m h
    obtain ⟨hk, h⟩ := h
    refine ⟨hk, ?_⟩
    rw [hc k hk]
    rcases h with h | ⟨h, h1, h2, h3⟩ | ⟨h, h1, h2, h3, h4, h5⟩ | ⟨h, h1, h2, h3⟩ | ⟨h, h1, h2, h3, h4, h5, h6⟩
    · exact Or.inl h
    · exact Or.inr (Or.inl ⟨h, h1, h2, ih h3⟩)
    · exact Or.inr (Or.inr (Or.inl ⟨h, h1, h2, by rw [hc (k + 1) h1]; exact h3, by rw [hc (k + 1) h1]; exact h4, ih h5⟩))
    · exact Or.inr (Or.inr (Or.inr (Or.inl ⟨h, h1, h2, ih h3⟩)))
    · exact Or.inr (Or.inr (Or.inr (Or.inr ⟨h, h1, h2, h3, h4, h5, ih h6⟩)))
/-- binary acts, and openings, that wait -/
def cB (w : Nat → Int32) : Nat → Nat
  | 0 => 0
  | n + 1 => cB w n + (if 4 ≤ (w n).toInt ∧ (w n).toInt ≤ 11 then 1 else 0)
def cO (w : Nat → Int32) : Nat → Nat
  | 0 => 0
  | n + 1 => cO w n + (if 14 ≤ (w n).toInt then 1 else 0)
def wOk (w : Nat → Int32) (n : Nat) : Prop := ∀ i, i < n → 3 ≤ (w i).toInt ∧ ((w i).toInt ≤ 11 ∨ 14 ≤ (w i).toInt)
theorem cB_c {w w' : Nat → Int32} : ∀ {n : Nat}, (∀ i, i < n → w' i = w i) → cB w' n = cB w n := by
  intro n
  induction n with
  | zero => intro _; rfl
  | succ n ih => intro h; unfold cB; rw [ih (fun i hi => h i (by omega)), h n (by omega)]
theorem cO_c {w w' : Nat → Int32} : ∀ {n : Nat}, (∀ i, i < n → w' i = w i) → cO w' n = cO w n := by
  intro n
  induction n with
  | zero => intro _; rfl
  | succ n ih => intro h; unfold cO; rw [ih (fun i hi => h i (by omega)), h n (by omega)]
theorem cB_b {w : Nat → Int32} {n : Nat} (h : 4 ≤ (w n).toInt) (h' : (w n).toInt ≤ 11) : cB w (n + 1) = cB w n + 1 := by
  show cB w n + _ = _; rw [if_pos ⟨h, h'⟩]
theorem cB_n {w : Nat → Int32} {n : Nat} (h : ¬ (4 ≤ (w n).toInt ∧ (w n).toInt ≤ 11)) : cB w (n + 1) = cB w n := by
  show cB w n + _ = _; rw [if_neg h]; rfl
theorem cO_o {w : Nat → Int32} {n : Nat} (h : 14 ≤ (w n).toInt) : cO w (n + 1) = cO w n + 1 := by
  show cO w n + _ = _; rw [if_pos h]
theorem cO_n {w : Nat → Int32} {n : Nat} (h : ¬ 14 ≤ (w n).toInt) : cO w (n + 1) = cO w n := by
  show cO w n + _ = _; rw [if_neg h]; rfl
theorem cO_ge {w : Nat → Int32} {i : Nat} (h : 14 ≤ (w i).toInt) : ∀ {n : Nat}, i < n → 1 ≤ cO w n := by
  intro n
  induction n with
  | zero => intro hi; omega
  | succ n ih =>
    intro hi
    by_cases e : i = n
    · subst e; rw [cO_o h]; omega
    · have := ih (by omega)
      show 1 ≤ cO w n + _
      omega
abbrev gW (g : gT) : Nat := (g 0 36).toInt.toNat
abbrev gP (g : gT) : Nat := (g 0 35).toInt.toNat
theorem upd_at {f : Nat → Int32} {k : Nat} {x : Int32} : upd f k x k = x := if_pos rfl
theorem upd_ne {f : Nat → Int32} {k j : Nat} {x : Int32} (h : j ≠ k) : upd f k x j = f j := if_neg h
/-- a state behind puts, waitsFor -/
theorem upd2_k {g : gT} {k j : Nat} {x : Int32} : upd2 g k j x k = upd (g k) j x := updA_at
theorem puts_eq {fu : Nat} {v : Int32} {g : gT} {L : lT} (h0 : 0 ≤ (g 0 35).toInt) (h1 : (g 0 35).toInt < 1900) : ∃ g1, fX12_puts fu v g L = some ((), (g1, L)) ∧ (zI MT g → zI MT g1) ∧ Fr [35] [26] g g1 ∧ (g1 0 35).toInt = (g 0 35).toInt + 1 ∧ (∀ j, j ≠ gP g → g1 26 j = g 26 j) ∧ g1 26 (gP g) = v := by
  have ew : (g 0 35 + 1).toInt = (g 0 35).toInt + 1 := ic_addc rfl (by decide) (by omega) (by omega)
  refine ⟨upd2 (upd2 g 26 (gP g) v) 0 35 (g 0 35 + 1), ?_, fun hI => (hI.updN rfl).upd (lo := 0) (hi := 1900) rfl (by omega) (by omega), (Fr.refl.uk (by decide) (by decide)).u0 (by decide), ?_, fun j hj => ?_, ?_⟩
  · unfold fX12_puts
    rw [ck_eq h0 (by omega)]
    rfl
  · rw [upd2_at]; exact ew
  · rw [upd2_nk (by decide), upd2_nj hj]
  · rw [upd2_nk (by decide), upd2_at]
theorem waitsFor_eq {fu : Nat} {v : Int32} {g : gT} {L : lT} (h0 : 0 ≤ (g 0 36).toInt) (h1 : (g 0 36).toInt < 950) : ∃ g1, fX12_waitsFor fu v g L = some ((), (g1, L)) ∧ (zI MT g → zI MT g1) ∧ Fr [36] [27] g g1 ∧ (g1 0 36).toInt = (g 0 36).toInt + 1 ∧ (∀ j, j ≠ gW g → g1 27 j = g 27 j) ∧ g1 27 (gW g) = v := by
  have ew : (g 0 36 + 1).toInt = (g 0 36).toInt + 1 := ic_addc rfl (by decide) (by omega) (by omega)
  refine ⟨upd2 (upd2 g 27 (gW g) v) 0 36 (g 0 36 + 1), ?_, fun hI => (hI.updN rfl).upd (lo := 0) (hi := 950) rfl (by omega) (by omega), (Fr.refl.uk (by decide) (by decide)).u0 (by decide), ?_, fun j hj => ?_, ?_⟩
  · unfold fX12_waitsFor
    rw [ck_eq h0 (by omega)]
    rfl
  · rw [upd2_at]; exact ew
  · rw [upd2_nk (by decide), upd2_nj hj]
  · rw [upd2_nk (by decide), upd2_at]
section LZ
variable {ρ : Type} {Q : ρ → gT → lT → Prop} {g : gT} {L : lT} {fu : Nat}
theorem e_puts {v : Int32} {K : Unit → gT → lT → Option (ρ × zS)} (hI : zI MT g) (h1 : (g 0 35).toInt < 1900) (h : ∀ g1, zI MT g1 → Fr [35] [26] g g1 → (g1 0 35).toInt = (g 0 35).toInt + 1 → (∀ j, j ≠ gP g → g1 26 j = g 26 j) → g1 26 (gP g) = v → Ex (K () g1 L) Q) : Ex (cb (fX12_puts fu v g L) K) Q := by
  have q35 := hI 0 35 0 1900 rfl
  obtain ⟨g1, e, k1, k2, k3, k4, k5⟩ := puts_eq (fu := fu) (v := v) (g := g) (L := L) (by omega) h1
  rw [e]; exact h g1 (k1 hI) k2 k3 k4 k5
theorem e_waitsFor {v : Int32} {K : Unit → gT → lT → Option (ρ × zS)} (hI : zI MT g) (h1 : (g 0 36).toInt < 950) (h : ∀ g1, zI MT g1 → Fr [36] [27] g g1 → (g1 0 36).toInt = (g 0 36).toInt + 1 → (∀ j, j ≠ gW g → g1 27 j = g 27 j) → g1 27 (gW g) = v → Ex (K () g1 L) Q) : Ex (cb (fX12_waitsFor fu v g L) K) Q := by
  have q36 := hI 0 36 0 950 rfl
  obtain ⟨g1, e, k1, k2, k3, k4, k5⟩ := waitsFor_eq (fu := fu) (v := v) (g := g) (L := L) (by omega) h1
  rw [e]; exact h g1 (k1 hI) k2 k3 k4 k5
theorem e_isOpen {c : Int32} {A B : gT → lT → Option (ρ × zS)} (h1 : 14 ≤ c.toInt → Ex (B g L) Q) (h0 : c.toInt < 14 → Ex (A g L) Q) : Ex (cb (fX12_isOpen fu c g L) (fun x g1 L1 => if x = 0 then A g1 L1 else B g1 L1)) Q := by
  unfold fX12_isOpen fX12_isOpen_p11
  rw [ckb0, ckb1]
  by_cases c1 : c < 14
  · rw [if_pos c1]; exact e_b0 (h0 (icc_lt (m := c.toInt) (n := 14) rfl (by decide) c1))
  · rw [if_neg c1]; exact e_b1 (h1 (icc_nlt (m := c.toInt) (n := 14) rfl (by decide) c1))
theorem e_strength {c : Int32} {K : Int32 → gT → lT → Option (ρ × zS)} (h : ∀ x : Int32, 1 ≤ x.toInt → Ex (K x g L) Q) : Ex (cb (fX12_strength fu c g L) K) Q := by
  have e : ∃ x : Int32, 1 ≤ x.toInt ∧ fX12_strength fu c g L = some (x, (g, L)) := by
    unfold fX12_strength fX12_strength_p39 fX12_strength_p55 fX12_strength_p61
    repeat' first | exact ⟨_, by decide, rfl⟩ | split
  obtain ⟨x, h1, h2⟩ := e
  rw [h2]; exact h x h1
end LZ
/-- what drops does -/
def DQ (g g1 : gT) : Prop := zI MT g1 ∧ Fr [35, 36] [26] g g1 ∧ (g1 0 35).toInt + (g1 0 36).toInt = (g 0 35).toInt + (g 0 36).toInt ∧ (g 0 35).toInt ≤ (g1 0 35).toInt ∧ (∀ j, j < gP g → g1 26 j = g 26 j) ∧ (∀ s n h, rn (g 26) s n (gP g) h → h = cB (g 27) (gW g) + 1 → wOk (g 27) (gW g) → ∃ n' h', rn (g1 26) s n' (gP g1) h' ∧ h' = cB (g 27) (gW g1) + 1 ∧ cO (g 27) (gW g1) = cO (g 27) (gW g))
theorem DQ.refl {g : gT} (hI : zI MT g) : DQ g g := ⟨hI, Fr.refl, rfl, Int.le_refl _, fun _ _ => rfl, fun s n h h1 h2 _ => ⟨n, h, h1, h2, rfl⟩⟩
theorem DQ.tr {g g1 g2 : gT} (hI : zI MT g) (h1 : DQ g g1) (h2 : DQ g1 g2) : DQ g g2 := by
  obtain ⟨a1, a2, a3, a4, a5, a6⟩ := h1
  obtain ⟨b1, b2, b3, b4, b5, b6⟩ := h2
  have q35 := hI 0 35 0 1900 rfl
  have q36 := hI 0 36 0 950 rfl
  have r36 := a1 0 36 0 950 rfl
  have r35 := a1 0 35 0 1900 rfl
  have e27 : g1 27 = g 27 := a2.2 27 (by decide) (by decide)
  have hp : gP g ≤ gP g1 := by show (g 0 35).toInt.toNat ≤ (g1 0 35).toInt.toNat; omega
  have hw : gW g1 ≤ gW g := by show (g1 0 36).toInt.toNat ≤ (g 0 36).toInt.toNat; omega
  refine ⟨b1, a2.tr b2, by omega, by omega, fun j hj => (b5 j (by omega)).trans (a5 j hj), fun s n h k1 k2 k3 => ?_⟩
  obtain ⟨n1, h1, c1, c2, c3⟩ := a6 s n h k1 k2 k3
  rw [e27] at b6
  obtain ⟨n2, h2, d1, d2, d3⟩ := b6 s n1 h1 c1 c2 (fun i hi => k3 i (by omega))
  exact ⟨n2, h2, d1, d2, d3.trans c3⟩
/-- one act more is put -/
theorem DQ.step {g ga g1 : gT} (hI : zI MT g) (hw : 0 < (g 0 36).toInt) (hS : (g 0 35).toInt + (g 0 36).toInt ≤ 1890) (ea : ga = upd2 g 0 36 (g 0 36 - 1)) (hI1 : zI MT g1) (hF : Fr [35] [26] ga g1) (hp : (g1 0 35).toInt = (ga 0 35).toInt + 1) (hc : ∀ j, j ≠ gP ga → g1 26 j = ga 26 j) (hv : g1 26 (gP ga) = g 27 (gW g - 1)) (ho : (g 27 (gW g - 1)).toInt < 14) : DQ g g1 := by
  have q35 := hI 0 35 0 1900 rfl
  have q36 := hI 0 36 0 950 rfl
  have ew : (g 0 36 - 1).toInt = (g 0 36).toInt - 1 := ic_subc rfl (by decide) (by omega) (by omega)
  have hFa : Fr [35, 36] [26] g ga := by rw [ea]; exact Fr.refl.u0 (by decide)
  have a36 : (ga 0 36).toInt = (g 0 36).toInt - 1 := by rw [ea, upd2_at]; exact ew
  have a35 : (ga 0 35).toInt = (g 0 35).toInt := by rw [ea]; rfl
  have a26 : ga 26 = g 26 := by rw [ea]; rfl
  have b36 : (g1 0 36).toInt = (g 0 36).toInt - 1 := by rw [hF.i (by decide)]; exact a36
  have b35 : (g1 0 35).toInt = (g 0 35).toInt + 1 := by omega
  have eP : gP ga = gP g := by show (ga 0 35).toInt.toNat = (g 0 35).toInt.toNat; rw [a35]
  have eP1 : gP g1 = gP g + 1 := by show (g1 0 35).toInt.toNat = (g 0 35).toInt.toNat + 1; omega
  have eW1 : gW g1 = gW g - 1 := by show (g1 0 36).toInt.toNat = (g 0 36).toInt.toNat - 1; omega
  have eW : gW g = (gW g - 1) + 1 := by have : 0 < gW g := (by show 0 < (g 0 36).toInt.toNat; omega); omega
  rw [eP] at hc hv
  rw [a26] at hc
  refine ⟨hI1, hFa.tr (hF.mo (by decide) (by decide)), by omega, by omega, fun j hj => hc j (by omega), fun s n h k1 k2 k3 => ?_⟩
  have k3 := k3 (gW g - 1) (by omega)
  have hr : rn (g1 26) s n (gP g) h := rn_c (fun j hj => hc j (by omega)) k1
  rw [eP1, eW1]
  by_cases hb : 4 ≤ (g 27 (gW g - 1)).toInt
  · have e1 := cB_b (w := g 27) (n := gW g - 1) hb (by omega)
    have e2 := cO_n (w := g 27) (n := gW g - 1) (by omega)
    rw [← eW] at e1 e2
    refine ⟨n + 1, h - 1, ⟨gP g, h, hr, Or.inr (Or.inr (Or.inr ⟨by rw [hv]; exact hb, by omega, rfl, by omega⟩))⟩, by omega, e2.symm⟩
  · have e1 := cB_n (w := g 27) (n := gW g - 1) (by omega)
    have e2 := cO_n (w := g 27) (n := gW g - 1) (by omega)
    rw [← eW] at e1 e2
    refine ⟨n + 1, h, ⟨gP g, h, hr, Or.inr (Or.inr (Or.inl ⟨by rw [hv]; omega, by omega, rfl, rfl⟩))⟩, by omega, e2.symm⟩
set_option maxHeartbeats 4000000 in
theorem sX12_drops (fu : Nat) (hfu : 1180591620717411303424 ≤ fu) (p1 : Int32) (g0 : gT) (L0 : lT) (hI : zI MT g0) (hS : (g0 0 35).toInt + (g0 0 36).toInt ≤ 1890) : Ex (fX12_drops fu p1 g0 L0) (fun (_ : Unit) g1 L1 => DQ g0 g1 ∧ (p1.toInt ≤ 0 → (g1 0 36).toInt ≤ 0 ∨ 14 ≤ (g0 27 (gW g1 - 1)).toInt)) := by
  unfold fX12_drops fX12_drops_l0
  have q36 := hI 0 36 0 950 rfl
  refine Ex.loop (α := gT × lT) (fun v => DQ g0 v.1) (fun v => (v.1 0 36).toInt) (by omega) (by show (g0 0 36).toInt < (fu : Int); omega) (DQ.refl hI) (fun k0 v hv ih => ?_)
  obtain ⟨g, L⟩ := v
  have hv : DQ g0 g := hv
  have hI1 : zI MT g := hv.1
  have q36 := hI1 0 36 0 950 rfl
  have q35 := hI1 0 35 0 1900 rfl
  have e27 : g 27 = g0 27 := hv.2.1.2 27 (by decide) (by decide)
  have hS1 := hv.2.2.1
  show Ex (fX12_drops_s0 fu p1 k0 g L) _
  unfold fX12_drops_s0 fX12_drops_p68
  refine Ex.ite (fun c => Ex.ret ⟨hv, fun _ => Or.inl (icc_le (m := (g 0 36).toInt) (n := 0) rfl (by decide) c)⟩) (fun c => ?_)
  have c := icc_nle (m := (g 0 36).toInt) (n := 0) rfl (by decide) c
  have ew : (g 0 36 - 1).toInt = (g 0 36).toInt - 1 := ic_subc rfl (by decide) (by omega) (by omega)
  have eN : (g 0 36 - 1).toNatClampNeg = gW g - 1 := by
    show (g 0 36 - 1).toInt.toNat = (g 0 36).toInt.toNat - 1
    rw [ew]; omega
  refine Ex.ck (by omega) (by omega) ?_
  rw [eN]
  refine e_isOpen (fun ho => Ex.ret ⟨hv, fun _ => Or.inr (by rw [← e27]; exact ho)⟩) (fun ho => ?_)
  refine Ex.ck (by omega) (by omega) ?_
  refine e_strength (fun x hx => ?_)
  refine Ex.ite (fun c1 => Ex.ret ⟨hv, fun hp => ?_⟩) (fun _ => ?_)
  · have c1 := icc_lt (m := x.toInt) (n := p1.toInt) rfl rfl c1
    omega
  refine Ex.sti (hI1.upd (lo := 0) (hi := 950) rfl (by omega) (by omega)) (fun ga gae hIa => ?_)
  have a36 : ga 0 36 = g 0 36 - 1 := by rw [gae]; exact upd2_at
  have a35 : (ga 0 35).toInt = (g 0 35).toInt := by rw [gae]; rfl
  have a27 : ga 27 = g 27 := by rw [gae]; rfl
  rw [a36, eN, a27]
  refine Ex.ck (by omega) (by omega) ?_
  refine e_puts hIa (by omega) (fun g1 hI2 hF hp hc hvv => ?_)
  have hd := DQ.step hI1 c (by omega) gae hI2 hF hp hc hvv ho
  have b36 : (g1 0 36).toInt = (g 0 36).toInt - 1 := by rw [hF.i (by decide), a36]; exact ew
  exact ih (g1, L) (hv.tr hI hd) (show (g1 0 36).toInt < (g 0 36).toInt by omega) (show 0 < (g 0 36).toInt by omega)
end
section
/-! ===== the reference's parser: expressions ===== -/
abbrev aE : List Nat := [19, 20, 23, 24, 25, 26, 27, 28, 35, 36, 37]
abbrev bE : List Nat := [26, 27, 28]
/-- the code of the rule that is being read, in a good state -/
def xC (s d e : Nat) (g : gT) : Prop := wOk (g 27) (gW g) ∧ (cO (g 27) (gW g) : Int) + 1 = (g 0 37).toInt + (e : Int) ∧ (g 0 37).toInt ≤ 6 ∧ ∃ n h, rn (g 26) s n (gP g) h ∧ h = cB (g 27) (gW g) + d
/-- g0: where the expression began; s: where its code begins; d: 1 behind an operand; e: 1 between an opening and deeper; u, v: what the next sign pays -/
def xI (g0 : gT) (s d e : Nat) (u v : Int) (g : gT) : Prop := zI MT g ∧ Fr aE bE g0 g ∧ pN g ∧ (g0 0 25).toInt ≤ (g 0 25).toInt ∧ (g 0 36).toInt ≤ (g 0 25).toInt + u ∧ (g 0 35).toInt + (g 0 36).toInt ≤ 2 * (g 0 25).toInt ∧ (s : Int) ≤ (g 0 35).toInt ∧ (∀ j, j < s → g 26 j = g0 26 j) ∧ ((g 0 19).toInt = 0 → (g 0 35).toInt + (g 0 36).toInt + 2 ≤ 2 * (g 0 25).toInt + v ∧ xC s d e g)
theorem xC.congr {s d e : Nat} {g g1 : gT} (h : xC s d e g) (h26 : g1 26 = g 26) (h27 : g1 27 = g 27) (h35 : (g1 0 35).toInt = (g 0 35).toInt) (h36 : (g1 0 36).toInt = (g 0 36).toInt) (h37 : (g1 0 37).toInt = (g 0 37).toInt) : xC s d e g1 := by
  have eP : gP g1 = gP g := by show (g1 0 35).toInt.toNat = (g 0 35).toInt.toNat; rw [h35]
  have eW : gW g1 = gW g := by show (g1 0 36).toInt.toNat = (g 0 36).toInt.toNat; rw [h36]
  unfold xC at h ⊢
  rw [h26, h27, h37, eP, eW]; exact h
/-- a fault: nothing is asked of the code any more -/
theorem xI.wrong {g0 g g1 : gT} {s d e d' e' : Nat} {u v v' : Int} (h : xI g0 s d e u v g) (hI : zI MT g1) (hF : Fr [19, 20] [] g g1) (hb : (g1 0 19).toInt ≠ 0) : xI g0 s d' e' u v' g1 := by
  obtain ⟨h1, h2, h3, h4, h5, h6, h7, h8, h9⟩ := h
  have e25 := hF.i (j := 25) (by decide)
  have e35 := hF.i (j := 35) (by decide)
  have e36 := hF.i (j := 36) (by decide)
  have e26 : g1 26 = g 26 := hF.2 26 (by decide) (by decide)
  exact ⟨hI, h2.tr (hF.mo (by decide) (by decide)), h3.fr hF (by decide) (by decide) (by decide) (by decide), by omega, by omega, by omega, by omega, fun j hj => by rw [e26]; exact h8 j hj, fun h => absurd h hb⟩
/-- a sign is read -/
theorem xI.goes {g0 g g1 : gT} {s d e : Nat} {u v : Int} (h : xI g0 s d e u v g) (hu : u ≤ 1) (hv : v ≤ 2) (hs : (g 0 24).toInt ≠ 0) (hq : QG g g1) : xI g0 s d e 0 0 g1 ∧ (g 0 25).toInt < (g1 0 25).toInt ∧ ((g 0 19).toInt = (g1 0 19).toInt) := by
  obtain ⟨h1, h2, h3, h4, h5, h6, h7, h8, h9⟩ := h
  obtain ⟨k1, hF, k3, k4⟩ := hq
  have p := h3.2.2 hs
  have e19 := hF.i (j := 19) (by decide)
  have e35 := hF.i (j := 35) (by decide)
  have e36 := hF.i (j := 36) (by decide)
  have e37 := hF.i (j := 37) (by decide)
  have e26 : g1 26 = g 26 := hF.2 26 (by decide) (by decide)
  have e27 : g1 27 = g 27 := hF.2 27 (by decide) (by decide)
  refine ⟨⟨k1, h2.tr (hF.mo (by decide) (by decide)), k3, by omega, by omega, by omega, by omega, fun j hj => by rw [e26]; exact h8 j hj, fun h => ?_⟩, by omega, e19.symm⟩
  rw [e19] at h
  have h9 := h9 h
  exact ⟨by omega, h9.2.congr e26 e27 e35 e36 e37⟩
theorem xI.drop {g0 g g1 : gT} {s : Nat} (h : xI g0 s 1 0 0 0 g) (hq : DQ g g1) : xI g0 s 1 0 0 0 g1 := by
  obtain ⟨h1, h2, h3, h4, h5, h6, h7, h8, h9⟩ := h
  obtain ⟨k1, hF, k3, k4, k5, k6⟩ := hq
  have e19 := hF.i (j := 19) (by decide)
  have e25 := hF.i (j := 25) (by decide)
  have e37 := hF.i (j := 37) (by decide)
  have e27 : g1 27 = g 27 := hF.2 27 (by decide) (by decide)
  have q36 := k1 0 36 0 950 rfl
  have hw : gW g1 ≤ gW g := by show (g1 0 36).toInt.toNat ≤ (g 0 36).toInt.toNat; omega
  refine ⟨k1, h2.tr (hF.mo (by decide) (by decide)), h3.fr hF (by decide) (by decide) (by decide) (by decide), by omega, by omega, by omega, by omega, fun j hj => (k5 j (by show j < (g 0 35).toInt.toNat; omega)).trans (h8 j hj), fun h => ?_⟩
  rw [e19] at h
  obtain ⟨h9, c1, c2, c3, n, hh, c4, c5⟩ := h9 h
  obtain ⟨n', h', d1, d2, d3⟩ := k6 s n hh c4 c5 c1
  refine ⟨by omega, ?_⟩
  unfold xC
  rw [e27, e37]
  exact ⟨fun i hi => c1 i (by omega), by rw [d3]; exact c2, c3, n', h', d1, d2⟩
/-- an act waits -/
theorem xI.wait {g0 g g1 : gT} {s d d' e e' : Nat} {v : Int32} (h : xI g0 s d e 0 0 g) (hg : (g 0 19).toInt = 0) (hI : zI MT g1) (hF : Fr [36] [27] g g1) (hp : (g1 0 36).toInt = (g 0 36).toInt + 1) (hc : ∀ j, j ≠ gW g → g1 27 j = g 27 j) (hv : g1 27 (gW g) = v) (hd : (4 ≤ v.toInt ∧ v.toInt ≤ 11 ∧ d = d' + 1 ∧ e' = e) ∨ (v.toInt = 3 ∧ d' = d ∧ e' = e) ∨ (v.toInt = 14 ∧ d' = d ∧ e' = e + 1)) : xI g0 s d' e' 1 1 g1 := by
  obtain ⟨h1, h2, h3, h4, h5, h6, h7, h8, h9⟩ := h
  have e19 := hF.i (j := 19) (by decide)
  have e25 := hF.i (j := 25) (by decide)
  have e35 := hF.i (j := 35) (by decide)
  have e37 := hF.i (j := 37) (by decide)
  have e26 : g1 26 = g 26 := hF.2 26 (by decide) (by decide)
  have q36 := h1 0 36 0 950 rfl
  obtain ⟨b1, c1, c2, c3, n, hh, c4, c5⟩ := h9 hg
  have eP : gP g1 = gP g := by show (g1 0 35).toInt.toNat = (g 0 35).toInt.toNat; rw [e35]
  have eW : gW g1 = gW g + 1 := by show (g1 0 36).toInt.toNat = (g 0 36).toInt.toNat + 1; omega
  refine ⟨hI, h2.tr (hF.mo (by decide) (by decide)), h3.fr hF (by decide) (by decide) (by decide) (by decide), by omega, by omega, by omega, by omega, fun j hj => by rw [e26]; exact h8 j hj, fun _ => ⟨by omega, ?_⟩⟩
  have eB : cB (g1 27) (gW g) = cB (g 27) (gW g) := cB_c (fun i hi => hc i (by omega))
  have eO : cO (g1 27) (gW g) = cO (g 27) (gW g) := cO_c (fun i hi => hc i (by omega))
  unfold xC
  rw [e26, e37, eP, eW]
  refine ⟨fun i hi => ?_, ?_, c3, n, hh, c4, ?_⟩
  · by_cases hiw : i = gW g
    · rw [hiw, hv]; omega
    · rw [hc i hiw]; exact c1 i (by omega)
  · rcases hd with ⟨d1, d2, d3, d4⟩ | ⟨d1, d3, d4⟩ | ⟨d1, d3, d4⟩
    · rw [cO_n (by rw [hv]; omega), eO]; omega
    · rw [cO_n (by rw [hv]; omega), eO]; omega
    · rw [cO_o (by rw [hv]; omega), eO]; omega
  · rcases hd with ⟨d1, d2, d3, d4⟩ | ⟨d1, d3, d4⟩ | ⟨d1, d3, d4⟩
    · rw [cB_b (by rw [hv]; omega) (by rw [hv]; omega), eB]; omega
    · rw [cB_n (by rw [hv]; omega), eB]; omega
    · rw [cB_n (by rw [hv]; omega), eB]; omega
theorem xI.test {g0 g g1 : gT} {s d e : Nat} {u v : Int} {j : Nat} {x : Int32} (h : xI g0 s d e u v g) (hI : zI MT g1) (e1 : g1 = upd2 g 28 j x) : xI g0 s d e u v g1 := by
  obtain ⟨h1, h2, h3, h4, h5, h6, h7, h8, h9⟩ := h
  have hF : Fr [] [28] g g1 := by rw [e1]; exact Fr.refl.uk (by decide) (by decide)
  have e19 := hF.i (j := 19) (by decide)
  have e25 := hF.i (j := 25) (by decide)
  have e35 := hF.i (j := 35) (by decide)
  have e36 := hF.i (j := 36) (by decide)
  have e37 := hF.i (j := 37) (by decide)
  have e26 : g1 26 = g 26 := hF.2 26 (by decide) (by decide)
  have e27 : g1 27 = g 27 := hF.2 27 (by decide) (by decide)
  refine ⟨hI, h2.tr (hF.mo (by decide) (by decide)), h3.fr hF (by decide) (by decide) (by decide) (by decide), by omega, by omega, by omega, by omega, fun j hj => by rw [e26]; exact h8 j hj, fun h => ?_⟩
  rw [e19] at h
  have h9 := h9 h
  exact ⟨by omega, h9.2.congr e26 e27 e35 e36 e37⟩
theorem nar01 (x : Int32) (h : x = 0 ∨ x = 1) : 0 ≤ (vp_nar .boolean x).toInt ∧ (vp_nar .boolean x).toInt ≤ 1 := by
  rcases h with rfl | rfl <;> decide
/-- deeper: behind an opening -/
theorem sX12_deeper (fu : Nat) (g0 g : gT) (L : lT) (s : Nat) (h : xI g0 s 0 1 0 0 g) (hg : (g 0 19).toInt = 0) : Ex (fX12_deeper fu g L) (fun (_ : Unit) g1 L1 => xI g0 s 0 0 0 0 g1 ∧ (g1 0 25).toInt = (g 0 25).toInt) := by
  have hI := h.1
  have bad : ∀ t0 : Int32, t0.toInt ≠ 0 → Ex (fX12_deeper_p61 fu t0 g L) (fun (_ : Unit) g1 L1 => xI g0 s 0 0 0 0 g1 ∧ (g1 0 25).toInt = (g 0 25).toInt) := by
    intro t0 ht
    unfold fX12_deeper_p61
    exact e_wrong hI ht (fun g1 hI1 hF hb => Ex.ret ⟨h.wrong hI1 hF hb, hF.i (by decide)⟩)
  unfold fX12_deeper fX12_deeper_p56
  refine Ex.ite (fun _ => ?_) (fun c => ?_)
  · refine Ex.ite (fun _ => bad 2 (by decide)) (fun _ => ?_)
    refine Ex.ite (fun _ => bad 2 (by decide)) (fun _ => ?_)
    exact e_sign (fun _ => bad 2 (by decide)) (bad 1 (by decide))
  have c := icc_nle (m := 6) (n := (g 0 37).toInt) (by decide) rfl c
  obtain ⟨b1, c1, c2, c3, n, hh, c4, c5⟩ := h.2.2.2.2.2.2.2.2 hg
  have hrg : 0 ≤ (g 0 37).toInt := by omega
  generalize hw : (g 0 37) + 1 = w
  have ew : w.toInt = (g 0 37).toInt + 1 := by rw [← hw]; exact ic_addc rfl (by decide) (by omega) (by omega)
  refine Ex.sti (hI.updN rfl) (fun ga gae hIa => ?_)
  have a37 : ga 0 37 = w := by rw [gae]; exact upd2_at
  rw [a37]
  refine Ex.ck (by omega) (by omega) ?_
  have hn := nar01 0 (Or.inl rfl)
  refine Ex.sti (hIa.upd (lo := 0) (hi := 1) rfl hn.1 hn.2) (fun gb gbe hIb => Ex.ret ⟨?_, ?_⟩)
  · have ha : xI g0 s 0 0 0 0 ga := by
      obtain ⟨h1, h2, h3, h4, h5, h6, h7, h8, h9⟩ := h
      have hF : Fr [37] [] g ga := by rw [gae]; exact Fr.refl.u0 (by decide)
      have e19 := hF.i (j := 19) (by decide)
      have e25 := hF.i (j := 25) (by decide)
      have e35 := hF.i (j := 35) (by decide)
      have e36 := hF.i (j := 36) (by decide)
      have e26 : ga 26 = g 26 := hF.2 26 (by decide) (by decide)
      have e27 : ga 27 = g 27 := hF.2 27 (by decide) (by decide)
      have eP : gP ga = gP g := by show (ga 0 35).toInt.toNat = (g 0 35).toInt.toNat; rw [e35]
      have eW : gW ga = gW g := by show (ga 0 36).toInt.toNat = (g 0 36).toInt.toNat; rw [e36]
      refine ⟨hIa, h2.tr (hF.mo (by decide) (by decide)), h3.fr hF (by decide) (by decide) (by decide) (by decide), by omega, by omega, by omega, by omega, fun j hj => by rw [e26]; exact h8 j hj, fun _ => ⟨by omega, ?_⟩⟩
      unfold xC
      rw [e26, e27, eP, eW, a37]
      exact ⟨c1, by omega, by omega, n, hh, c4, c5⟩
    exact ha.test hIb gbe
  · rw [gbe, gae]; rfl
/-- the code grows by an operand -/
theorem rn_op {g g1 g2 : gT} {s n h : Nat} {a b : Int32} (hr : rn (g 26) s n (gP g) h) (h0 : 0 ≤ (g 0 35).toInt) (hp : (g1 0 35).toInt = (g 0 35).toInt + 1) (hc : ∀ j, j ≠ gP g → g1 26 j = g 26 j) (hv : g1 26 (gP g) = a) (hp2 : (g2 0 35).toInt = (g1 0 35).toInt + 1) (hc2 : ∀ j, j ≠ gP g1 → g2 26 j = g1 26 j) (hv2 : g2 26 (gP g1) = b) (hab : a.toInt = 1 ∨ (a.toInt = 2 ∧ 0 ≤ b.toInt ∧ b.toInt ≤ 5)) : rn (g2 26) s (n + 1) (gP g2) (h + 1) := by
  have e1 : gP g1 = gP g + 1 := by show (g1 0 35).toInt.toNat = (g 0 35).toInt.toNat + 1; omega
  have e2 : gP g2 = gP g + 2 := by show (g2 0 35).toInt.toNat = (g 0 35).toInt.toNat + 2; omega
  rw [e1] at hc2 hv2
  have h1 : g2 26 (gP g) = a := by rw [hc2 _ (by omega)]; exact hv
  refine ⟨gP g, h, rn_c (fun j hj => by rw [hc2 j (by omega), hc j (by omega)]) hr, ?_⟩
  rcases hab with hab | ⟨hab, hb⟩
  · exact Or.inl ⟨by rw [h1]; exact hab, e2, rfl⟩
  · exact Or.inr (Or.inl ⟨by rw [h1]; exact hab, by rw [hv2]; exact hb.1, by rw [hv2]; exact hb.2, e2, rfl⟩)
set_option maxHeartbeats 4000000 in
theorem sX12_part (fu : Nat) (hfu : 1180591620717411303424 ≤ fu) (g0 g : gT) (L : lT) (s : Nat) (h : xI g0 s 0 0 0 0 g) : Ex (fX12_part fu g L) (fun (_ : Unit) g1 L1 => xI g0 s 1 0 0 0 g1 ∧ (g 0 25).toInt ≤ (g1 0 25).toInt ∧ ((g 0 19).toInt ≠ 0 → (g1 0 19).toInt ≠ 0)) := by
  have hI := h.1
  have q25 := hI 0 25 0 700 rfl
  -- two are put
  have two : ∀ (a b : Int32) (gx gy : gT) (Ly : lT), (gx = g ∨ (g 0 19).toInt = 0) → (g 0 19).toInt = 0 → (g 0 24).toInt ≠ 0 → zI MT gx → Fr [19, 20] [] g gx → zI MT gy → (∃ g1, zI MT g1 ∧ Fr [35] [26] gx g1 ∧ (g1 0 35).toInt = (gx 0 35).toInt + 1 ∧ (∀ j, j ≠ gP gx → g1 26 j = gx 26 j) ∧ g1 26 (gP gx) = a ∧ Fr [35] [26] g1 gy ∧ (gy 0 35).toInt = (g1 0 35).toInt + 1 ∧ (∀ j, j ≠ gP g1 → gy 26 j = g1 26 j) ∧ gy 26 (gP g1) = b) → ((gx 0 19).toInt = 0 → a.toInt = 1 ∨ (a.toInt = 2 ∧ 0 ≤ b.toInt ∧ b.toInt ≤ 5)) → Ex (fX12_part_p90 fu gy Ly) (fun (_ : Unit) g1 L1 => xI g0 s 1 0 0 0 g1 ∧ (g 0 25).toInt ≤ (g1 0 25).toInt ∧ ((g 0 19).toInt ≠ 0 → (g1 0 19).toInt ≠ 0)) := by
    intro a b gx gy Ly _ hg hs hIx hFx hIy hex hab
    obtain ⟨g1, hI1, hF1, p1, c1, v1, hF2, p2, c2, v2⟩ := hex
    obtain ⟨h1, h2, h3, h4, h5, h6, h7, h8, h9⟩ := h
    obtain ⟨b1, w1, w2, w3, n, hh, w4, w5⟩ := h9 hg
    have q35 := hI 0 35 0 1900 rfl
    have hFy : Fr [19, 20, 35] [26] g gy := ((hFx.mo (by decide) (by decide)).tr (hF1.mo (by decide) (by decide))).tr (hF2.mo (by decide) (by decide))
    have x35 := hFx.i (j := 35) (by decide)
    have x26 : gx 26 = g 26 := hFx.2 26 (by decide) (by decide)
    have eP : gP gx = gP g := by show (gx 0 35).toInt.toNat = (g 0 35).toInt.toNat; rw [x35]
    have e24 := hFy.i (j := 24) (by decide)
    have e25 := hFy.i (j := 25) (by decide)
    have e36 := hFy.i (j := 36) (by decide)
    have e37 := hFy.i (j := 37) (by decide)
    have e27 : gy 27 = g 27 := hFy.2 27 (by decide) (by decide)
    have e19 : (gy 0 19).toInt = (gx 0 19).toInt := by rw [hF2.i (by decide), hF1.i (by decide)]
    have eW : gW gy = gW g := by show (gy 0 36).toInt.toNat = (g 0 36).toInt.toNat; rw [e36]
    have e1 : gP g1 = gP g + 1 := by show (g1 0 35).toInt.toNat = (g 0 35).toInt.toNat + 1; omega
    have hy : xI g0 s 1 0 0 2 gy := by
      refine ⟨hIy, h2.tr (hFy.mo (by decide) (by decide)), h3.fr hFy (by decide) (by decide) (by decide) (by decide), by omega, by omega, by omega, by omega, fun j hj => ?_, fun hgy => ⟨by omega, ?_⟩⟩
      · have hjp : j < gP g := by show j < (g 0 35).toInt.toNat; omega
        rw [c2 j (by omega), c1 j (by omega), x26]; exact h8 j hj
      · rw [e19] at hgy
        unfold xC
        rw [e27, eW, e37]
        exact ⟨w1, w2, w3, n + 1, hh + 1, rn_op (g := gx) (g1 := g1) (by rw [x26, eP]; exact w4) (by omega) p1 c1 v1 p2 c2 v2 (hab hgy), by omega⟩
    unfold fX12_part_p90 fX12_part_p101
    refine e_good (fun _ => ?_) (fun hb => Ex.ret ⟨?_, by omega, fun _ => hb⟩)
    · refine e_goes hfu hIy hy.2.2.1 (fun g2 L2 hq => Ex.ret ?_)
      obtain ⟨k1, k2, k3⟩ := hy.goes (by decide) (by decide) (by omega) hq
      exact ⟨k1, by omega, fun h => absurd hg h⟩
    · obtain ⟨y1, y2, y3, y4, y5, y6, y7, y8, y9⟩ := hy
      exact ⟨y1, y2, y3, y4, y5, y6, y7, y8, fun h => absurd h hb⟩
  unfold fX12_part
  refine e_good (fun hg => ?_) (fun hb => Ex.ret ⟨?_, Int.le_refl _, id⟩)
  rotate_left
  · obtain ⟨h1, h2, h3, h4, h5, h6, h7, h8, h9⟩ := h
    exact ⟨h1, h2, h3, h4, h5, h6, h7, h8, fun h => absurd h hb⟩
  have b1 := (h.2.2.2.2.2.2.2.2 hg).1
  have q36 := hI 0 36 0 950 rfl
  have q35 := hI 0 35 0 1900 rfl
  -- a number
  have num : ∀ (gx : gT), zI MT gx → Fr [19, 20] [] g gx → (g 0 24).toInt ≠ 0 → Ex (fX12_part_p29 fu gx L) (fun (_ : Unit) g1 L1 => xI g0 s 1 0 0 0 g1 ∧ (g 0 25).toInt ≤ (g1 0 25).toInt ∧ ((g 0 19).toInt ≠ 0 → (g1 0 19).toInt ≠ 0)) := by
    intro gx hIx hFx hs
    have x35 := hFx.i (j := 35) (by decide)
    unfold fX12_part_p29
    refine e_puts hIx (by omega) (fun g1 hI1 hF1 p1 c1 v1 => ?_)
    refine e_puts hI1 (by omega) (fun gy hIy hF2 p2 c2 v2 => ?_)
    exact two 1 _ gx gy L (Or.inr hg) hg hs hIx hFx hIy ⟨g1, hI1, hF1, p1, c1, v1, hF2, p2, c2, v2⟩ (fun _ => Or.inl rfl)
  -- a word
  have wrd : ∀ (x : Int32) (gx : gT) (Lx : lT), zI MT gx → Fr [19, 20] [] g gx → (g 0 24).toInt ≠ 0 → ((gx 0 19).toInt = 0 → 0 ≤ x.toInt ∧ x.toInt ≤ 5) → Ex (fX12_part_p72 fu x gx Lx) (fun (_ : Unit) g1 L1 => xI g0 s 1 0 0 0 g1 ∧ (g 0 25).toInt ≤ (g1 0 25).toInt ∧ ((g 0 19).toInt ≠ 0 → (g1 0 19).toInt ≠ 0)) := by
    intro x gx Lx hIx hFx hs hx
    have x35 := hFx.i (j := 35) (by decide)
    unfold fX12_part_p72
    refine e_puts hIx (by omega) (fun g1 hI1 hF1 p1 c1 v1 => ?_)
    refine e_puts hI1 (by omega) (fun gy hIy hF2 p2 c2 v2 => ?_)
    exact two 2 x gx gy Lx (Or.inr hg) hg hs hIx hFx hIy ⟨g1, hI1, hF1, p1, c1, v1, hF2, p2, c2, v2⟩ (fun hgx => Or.inr ⟨rfl, hx hgx⟩)
  refine Ex.ite (fun c => ?_) (fun _ => ?_)
  · have c := icc_eq (m := (g 0 24).toInt) (n := 2) rfl (by decide) c
    refine Ex.ite (fun _ => num g hI Fr.refl (by omega)) (fun _ => ?_)
    exact e_wrong hI (by decide) (fun g1 hI1 hF hb => num g1 hI1 hF (by omega))
  refine Ex.ite (fun c => ?_) (fun _ => ?_)
  · have c := icc_eq (m := (g 0 24).toInt) (n := 1) rfl (by decide) c
    refine e_known hfu (fun x L1 x1 x2 x3 => ?_)
    have bad : Ex (fX12_part_p67 fu x g L1) (fun (_ : Unit) g1 L1 => xI g0 s 1 0 0 0 g1 ∧ (g 0 25).toInt ≤ (g1 0 25).toInt ∧ ((g 0 19).toInt ≠ 0 → (g1 0 19).toInt ≠ 0)) := by
      unfold fX12_part_p67
      exact e_wrong hI (by decide) (fun g1 hI1 hF hb => wrd x g1 L1 hI1 hF (by omega) (fun h => absurd h hb))
    refine Ex.ite (fun _ => bad) (fun d1 => ?_)
    refine Ex.ite (fun d2 => ?_) (fun _ => bad)
    have d1 := icc_nlt (m := x.toInt) (n := 0) rfl (by decide) d1
    have d2 := icc_le (m := x.toInt) (n := 5) rfl (by decide) d2
    exact wrd x g L1 hI Fr.refl (by omega) (fun _ => ⟨d1, d2⟩)
  · refine e_wrong hI (by decide) (fun g1 hI1 hF hb => ?_)
    unfold fX12_part_p90 fX12_part_p101
    refine e_good (fun h => absurd h hb) (fun _ => Ex.ret ⟨h.wrong hI1 hF hb, ?_, fun _ => hb⟩)
    have := hF.i (j := 25) (by decide)
    omega
/-- what is left to read -/
def mm (g : gT) : Int := if (g 0 19).toInt = 0 then 701 - (g 0 25).toInt else 0
theorem mm_g {g : gT} (h : (g 0 19).toInt = 0) : mm g = 701 - (g 0 25).toInt := if_pos h
theorem mm_b {g : gT} (h : (g 0 19).toInt ≠ 0) : mm g = 0 := if_neg h
theorem mm_0 {g : gT} (hI : zI MT g) : 0 ≤ mm g := by
  have q25 := hI 0 25 0 700 rfl
  unfold mm; split <;> omega
theorem mm_le {g : gT} (hI : zI MT g) : mm g ≤ 701 := by
  have q25 := hI 0 25 0 700 rfl
  unfold mm; split <;> omega
theorem mm_lt {g g1 : gT} (hI : zI MT g) (hg : (g 0 19).toInt = 0) (h : (g1 0 19).toInt = 0 → (g 0 25).toInt < (g1 0 25).toInt) : mm g1 < mm g := by
  have q25 := hI 0 25 0 700 rfl
  rw [mm_g hg]
  by_cases hb : (g1 0 19).toInt = 0
  · rw [mm_g hb]; have := h hb; omega
  · rw [mm_b hb]; omega
theorem mm_mo {g g1 : gT} (hI0 : zI MT g) (hI : zI MT g1) (hb : (g 0 19).toInt ≠ 0 → (g1 0 19).toInt ≠ 0) (h : (g1 0 19).toInt = 0 → (g 0 25).toInt ≤ (g1 0 25).toInt) : mm g1 ≤ mm g := by
  have q25 := hI 0 25 0 700 rfl
  have p25 := hI0 0 25 0 700 rfl
  by_cases hc : (g 0 19).toInt = 0
  · rw [mm_g hc]
    by_cases hd : (g1 0 19).toInt = 0
    · rw [mm_g hd]; have := h hd; omega
    · rw [mm_b hd]; omega
  · rw [mm_b hc, mm_b (hb hc)]; exact Int.le_refl _
def mf (b : Int32) (g : gT) : Int := if b = 0 then 0 else 1 + mm g
theorem mf_n {b : Int32} {g : gT} (h : ¬ b = 0) : mf b g = 1 + mm g := if_neg h
theorem mf_z {b : Int32} {g : gT} (h : b = 0) : mf b g = 0 := if_pos h
def mn (g g1 : gT) : Prop := (g 0 25).toInt ≤ (g1 0 25).toInt ∧ ((g 0 19).toInt ≠ 0 → (g1 0 19).toInt ≠ 0)
theorem mn.refl {g : gT} : mn g g := ⟨Int.le_refl _, id⟩
theorem mn.tr {g g1 g2 : gT} (h1 : mn g g1) (h2 : mn g1 g2) : mn g g2 := ⟨Int.le_trans h1.1 h2.1, fun h => h2.2 (h1.2 h)⟩
set_option maxHeartbeats 4000000 in
theorem sX12_operand (fu : Nat) (hfu : 1180591620717411303424 ≤ fu) (p1 : Int32) (g0 g : gT) (L : lT) (s : Nat) (h : xI g0 s 0 0 0 0 g) : Ex (fX12_operand fu p1 g L) (fun (_ : Unit) g1 L1 => xI g0 s 1 0 0 0 g1 ∧ mn g g1) := by
  unfold fX12_operand fX12_operand_l4
  have hm := mm_le h.1
  refine Ex.loop (α := Int32 × Int32 × gT × lT) (fun v => xI g0 s 0 0 0 0 v.2.2.1 ∧ mn g v.2.2.1) (fun v => mf v.2.1 v.2.2.1) (by omega) (by show mf 1 g < (fu : Int); rw [mf_n (by decide)]; omega) ⟨h, mn.refl⟩ (fun k4 v hv ih => ?_)
  clear h hm
  obtain ⟨v2, v3, gg, Lg⟩ := v
  obtain ⟨h, hmn⟩ := hv
  have h : xI g0 s 0 0 0 0 gg := h
  have hmn : mn g gg := hmn
  have hmg := mm_0 h.1
  show Ex (fX12_operand_s4 fu k4 v2 v3 gg Lg) _
  unfold fX12_operand_s4
  have fin : ∀ L1 : lT, Ex (fX12_operand_p120 fu gg L1) (fun (_ : Unit) g1 L1 => xI g0 s 1 0 0 0 g1 ∧ mn g g1) := by
    intro L1
    unfold fX12_operand_p120
    exact Ex.cb (sX12_part fu hfu g0 gg L1 s h) (fun _ g1 L2 hq => Ex.ret ⟨hq.1, hmn.tr hq.2⟩)
  refine Ex.ite (fun _ => fin Lg) (fun c3 => ?_)
  have ih : ∀ (a b : Int32) (g' : gT) (L' : lT), xI g0 s 0 0 0 0 g' → mn g g' → (b = 0 ∨ mm g' < mm gg) → Ex (k4 (a, b, g', L')) (fun (_ : Unit) g1 L1 => xI g0 s 1 0 0 0 g1 ∧ mn g g1) := by
    intro a b g' L' h1 h2 h3
    have := mm_0 h1.1
    refine ih (a, b, g', L') ⟨h1, h2⟩ ?_ (by show 0 < mf v3 gg; rw [mf_n c3]; omega)
    show mf b g' < mf v3 gg
    rw [mf_n c3]
    by_cases hb : b = 0
    · rw [mf_z hb]; omega
    · rw [mf_n hb]
      rcases h3 with h3 | h3
      · exact absurd h3 hb
      · omega
  refine e_good (fun hg => ?_) (fun _ => fin Lg)
  -- behind the nots
  have P75 : ∀ (g' : gT) (L' : lT), xI g0 s 0 0 0 0 g' → mn gg g' → Ex (fX12_operand_p75 fu k4 v2 g' L') (fun (_ : Unit) g1 L1 => xI g0 s 1 0 0 0 g1 ∧ mn g g1) := by
    intro g' L' h1 h2
    have z : Ex (fX12_operand_p96 fu k4 v2 0 g' L') (fun (_ : Unit) g1 L1 => xI g0 s 1 0 0 0 g1 ∧ mn g g1) := by
      unfold fX12_operand_p96 fX12_operand_p117
      rw [if_pos rfl]
      exact ih v2 0 g' L' h1 (hmn.tr h2) (Or.inl rfl)
    unfold fX12_operand_p75 fX12_operand_p95
    refine e_good (fun hg' => e_sign (fun hs => ?_) z) (fun _ => z)
    unfold fX12_operand_p96 fX12_operand_p117
    rw [if_neg (by decide)]
    have q25 := h1.1 0 25 0 700 rfl
    have w36 := h1.2.2.2.2.1
    refine e_waitsFor h1.1 (by omega) (fun ga hIa hFa pa ca va => ?_)
    have ha : xI g0 s 0 1 1 1 ga := h1.wait hg' hIa hFa pa ca va (Or.inr (Or.inr ⟨by decide, rfl, rfl⟩))
    have a24 := hFa.i (j := 24) (by decide)
    have a25 := hFa.i (j := 25) (by decide)
    have a19 := hFa.i (j := 19) (by decide)
    refine e_goes hfu hIa ha.2.2.1 (fun gb Lb hq => ?_)
    obtain ⟨hb, b25, b19⟩ := ha.goes (by decide) (by decide) (by omega) hq
    refine Ex.cb (sX12_deeper fu g0 gb Lb s hb (by omega)) (fun _ gc Lc hc => ?_)
    have m1 := h2.1
    exact ih 1 1 gc Lc hc.1 (hmn.tr ⟨by omega, fun h => absurd hg h⟩) (Or.inr (mm_lt h.1 hg (fun _ => by omega)))
  unfold fX12_operand_l18
  have hm := mm_le h.1
  refine Ex.loop (α := Int32 × gT × lT) (fun v => xI g0 s 0 0 0 0 v.2.1 ∧ mn gg v.2.1) (fun v => mm v.2.1) (by omega) (by show mm gg < (fu : Int); omega) ⟨h, mn.refl⟩ (fun k18 v hv ih2 => ?_)
  obtain ⟨v4, g', L'⟩ := v
  obtain ⟨h1, h2⟩ := hv
  have h1 : xI g0 s 0 0 0 0 g' := h1
  have h2 : mn gg g' := h2
  have ih2 : ∀ (a : Int32) (g2 : gT) (L2 : lT), xI g0 s 0 0 0 0 g2 → mn gg g2 → mm g2 < mm g' → 0 < mm g' → Ex (k18 (a, g2, L2)) (fun (_ : Unit) g1 L1 => xI g0 s 1 0 0 0 g1 ∧ mn g g1) := fun a g2 L2 k1 k2 k3 k4 => ih2 (a, g2, L2) ⟨k1, k2⟩ k3 k4
  show Ex (fX12_operand_s18 fu k4 v2 k18 v4 g' L') _
  unfold fX12_operand_s18
  refine e_good (fun hg' => ?_) (fun _ => P75 g' L' h1 h2)
  have q25 := h1.1 0 25 0 700 rfl
  have hm1 := mm_g hg'
  refine Ex.ite (fun _ => P75 g' L' h1 h2) (fun _ => ?_)
  refine e_known hfu (fun x L1 x1 x2 x3 => ?_)
  refine Ex.ite (fun cx => ?_) (fun _ => P75 g' L1 h1 h2)
  have cx := icc_eq (m := x.toInt) (n := 16) rfl (by decide) cx
  have hs := x3 (by omega)
  refine Ex.ite (fun _ => ?_) (fun _ => ?_)
  · refine e_wrong h1.1 (by decide) (fun ga hIa hFa hb => ?_)
    have ha : xI g0 s 0 0 0 0 ga := h1.wrong hIa hFa hb
    unfold fX12_operand_p50
    refine e_good (fun h => absurd h hb) (fun _ => ?_)
    have a25 := hFa.i (j := 25) (by decide)
    have m1 := h2.1
    exact ih2 _ ga L1 ha ⟨by omega, fun _ => hb⟩ (by rw [mm_b hb]; omega) (by omega)
  · unfold fX12_operand_p50
    refine e_good (fun _ => ?_) (fun hb => absurd hg' hb)
    have w36 := h1.2.2.2.2.1
    refine e_waitsFor h1.1 (by omega) (fun ga hIa hFa pa ca va => ?_)
    have ha : xI g0 s 0 0 1 1 ga := h1.wait hg' hIa hFa pa ca va (Or.inr (Or.inl ⟨by decide, rfl, rfl⟩))
    have a24 := hFa.i (j := 24) (by decide)
    have a25 := hFa.i (j := 25) (by decide)
    have a19 := hFa.i (j := 19) (by decide)
    refine e_goes hfu hIa ha.2.2.1 (fun gb Lb hq => ?_)
    obtain ⟨hb, b25, b19⟩ := ha.goes (by decide) (by decide) (by omega) hq
    have m1 := h2.1
    exact ih2 _ gb Lb hb ⟨by omega, fun h => absurd hg h⟩ (mm_lt h1.1 hg' (fun _ => by omega)) (by omega)
section LW
variable {ρ : Type} {Q : ρ → gT → lT → Prop} {g : gT} {L : lT} {fu : Nat}
theorem e_opened {A B : gT → lT → Option (ρ × zS)} (hfu : 1180591620717411303424 ≤ fu) (hI : zI MT g) (h1 : ∀ L1, 1 ≤ cO (g 27) (gW g) → Ex (B g L1) Q) (h0 : ∀ L1, Ex (A g L1) Q) : Ex (cb (fX12_isOpened fu g L) (fun x g1 L1 => if x = 0 then A g1 L1 else B g1 L1)) Q := by
  have q36 := hI 0 36 0 950 rfl
  have key : Ex (fX12_isOpened fu g L) (fun (x : Int32) g1 L1 => g1 = g ∧ (x = 0 ∨ (x = 1 ∧ 1 ≤ cO (g 27) (gW g)))) := by
    unfold fX12_isOpened
    refine Ex.lti (fun x _ xi => ?_)
    have xi : x.toInt = (g 0 36).toInt - 1 := by rw [xi]; exact ic_subc rfl (by decide) (by omega) (by omega)
    unfold fX12_isOpened_l7
    refine Ex.loop (α := Int32 × gT × lT) (fun v => (-1 ≤ v.1.toInt ∧ v.1.toInt < (g 0 36).toInt) ∧ v.2.1 = g) (fun v => v.1.toInt + 1) (by omega) (by show x.toInt + 1 < (fu : Int); omega) ⟨(show -1 ≤ x.toInt ∧ x.toInt < (g 0 36).toInt by omega), rfl⟩ (fun k7 v hv ih => ?_)
    obtain ⟨v1, g2, L2⟩ := v
    obtain ⟨hv, hg⟩ := hv
    have hv : -1 ≤ v1.toInt ∧ v1.toInt < (g 0 36).toInt := hv
    have hg : g2 = g := hg
    subst hg
    show Ex (fX12_isOpened_s7 fu k7 v1 g2 L2) _
    unfold fX12_isOpened_s7 fX12_isOpened_p29 fX12_isOpened_p38
    rw [ckb0, ckb1]
    refine Ex.ite (fun c => ?_) (fun c => ?_)
    · rw [if_pos c]; exact Ex.ret ⟨rfl, Or.inl rfl⟩
    have c' := icc_nlt (m := v1.toInt) (n := 0) rfl (by decide) c
    refine Ex.ck (by omega) (by omega) ?_
    refine e_isOpen (fun ho => ?_) (fun _ => ?_)
    · rw [if_neg c]
      refine Ex.ret ⟨rfl, Or.inr ⟨rfl, cO_ge (i := v1.toNatClampNeg) ho ?_⟩⟩
      show v1.toInt.toNat < (g2 0 36).toInt.toNat
      omega
    · generalize hw : v1 + (-1) = w
      have ew : w.toInt = v1.toInt + -1 := by rw [← hw]; exact ic_addc rfl (by decide) (by omega) (by omega)
      exact ih (w, g2, L2) ⟨show -1 ≤ w.toInt ∧ w.toInt < (g2 0 36).toInt by omega, rfl⟩ (show w.toInt + 1 < v1.toInt + 1 by omega) (show 0 < v1.toInt + 1 by omega)
  refine Ex.cb key (fun x g1 L1 hx => ?_)
  obtain ⟨rfl, hx⟩ := hx
  rcases hx with rfl | ⟨rfl, hx⟩
  · rw [if_pos rfl]; exact h0 L1
  · rw [if_neg (by decide)]; exact h1 L1 hx
end LW
theorem sX12_closes (fu : Nat) (hfu : 1180591620717411303424 ≤ fu) (g0 g : gT) (L : lT) (s : Nat) (h : xI g0 s 1 0 0 0 g) (hg : (g 0 19).toInt = 0) (hs : (g 0 24).toInt ≠ 0) (ho : 1 ≤ cO (g 27) (gW g)) : Ex (fX12_closes fu g L) (fun (_ : Unit) g1 L1 => xI g0 s 1 0 0 0 g1 ∧ (g 0 25).toInt < (g1 0 25).toInt) := by
  unfold fX12_closes
  have q25 := h.1 0 25 0 700 rfl
  have b1 := (h.2.2.2.2.2.2.2.2 hg).1
  refine Ex.cb (sX12_drops fu hfu 0 g L h.1 (by omega)) (fun _ g2 L2 hq => ?_)
  obtain ⟨hq, hz⟩ := hq
  have h2 := h.drop hq
  have hF := hq.2.1
  have e19 := hF.i (j := 19) (by decide)
  have e24 := hF.i (j := 24) (by decide)
  have e25 := hF.i (j := 25) (by decide)
  have e27 : g2 27 = g 27 := hF.2 27 (by decide) (by decide)
  have e37 := hF.i (j := 37) (by decide)
  have q36 := h2.1 0 36 0 950 rfl
  obtain ⟨b2, c1, c2, c3, n, hh, c4, c5⟩ := h2.2.2.2.2.2.2.2.2 (by omega)
  obtain ⟨-, -, d2, -⟩ := h.2.2.2.2.2.2.2.2 hg
  have hcO : 1 ≤ cO (g2 27) (gW g2) := by omega
  have hpos : 0 < (g2 0 36).toInt := by
    by_cases hp : 0 < (g2 0 36).toInt
    · exact hp
    · have e0 : gW g2 = 0 := by show (g2 0 36).toInt.toNat = 0; omega
      rw [e0] at hcO
      exact absurd hcO (show ¬ 1 ≤ 0 by decide)
  have ho2 : 14 ≤ (g2 27 (gW g2 - 1)).toInt := by
    rcases hz (by decide) with hz | hz
    · omega
    · rw [e27]; exact hz
  have ew : (g2 0 36 - 1).toInt = (g2 0 36).toInt - 1 := ic_subc rfl (by decide) (by omega) (by omega)
  refine Ex.sti (h2.1.upd (lo := 0) (hi := 950) rfl (by omega) (by omega)) (fun ga gae hIa => ?_)
  refine Ex.sti (hIa.updN rfl) (fun gb gbe hIb => ?_)
  have a37 : ga 0 37 = g2 0 37 := by rw [gae]; rfl
  have ev : (ga 0 37 - 1).toInt = (g2 0 37).toInt - 1 := by rw [a37]; exact ic_subc rfl (by decide) (by omega) (by omega)
  have s36 : (gb 0 36).toInt = (g2 0 36).toInt - 1 := by rw [gbe, gae]; exact ew
  have s37 : (gb 0 37).toInt = (g2 0 37).toInt - 1 := by rw [gbe, upd2_at]; exact ev
  have hFb : Fr [36, 37] [] g2 gb := by rw [gbe, gae]; exact (Fr.refl.u0 (by decide)).u0 (by decide)
  have hb : xI g0 s 1 0 0 0 gb := by
    obtain ⟨h1, k2, h3, h4, h5, h6, h7, h8, h9⟩ := h2
    have f19 := hFb.i (j := 19) (by decide)
    have f25 := hFb.i (j := 25) (by decide)
    have f35 := hFb.i (j := 35) (by decide)
    have f26 : gb 26 = g2 26 := hFb.2 26 (by decide) (by decide)
    have f27 : gb 27 = g2 27 := hFb.2 27 (by decide) (by decide)
    have eP : gP gb = gP g2 := by show (gb 0 35).toInt.toNat = (g2 0 35).toInt.toNat; rw [f35]
    have eW : gW gb = gW g2 - 1 := by show (gb 0 36).toInt.toNat = (g2 0 36).toInt.toNat - 1; omega
    have eW1 : gW g2 = (gW g2 - 1) + 1 := by have : 0 < gW g2 := (by show 0 < (g2 0 36).toInt.toNat; omega); omega
    have o1 := cO_o (w := g2 27) (n := gW g2 - 1) ho2
    have o2 := cB_n (w := g2 27) (n := gW g2 - 1) (by omega)
    rw [← eW1] at o1 o2
    refine ⟨hIb, k2.tr (hFb.mo (by decide) (by decide)), h3.fr hFb (by decide) (by decide) (by decide) (by decide), by omega, by omega, by omega, by omega, fun j hj => by rw [f26]; exact h8 j hj, fun _ => ⟨by omega, ?_⟩⟩
    unfold xC
    rw [f26, f27, eP, eW]
    exact ⟨fun i hi => c1 i (by omega), by omega, by omega, n, hh, c4, by omega⟩
  have f24 := hFb.i (j := 24) (by decide)
  have f25 := hFb.i (j := 25) (by decide)
  refine e_goes hfu hIb hb.2.2.1 (fun gc Lc hqc => Ex.ret ?_)
  obtain ⟨k1, k2, -⟩ := hb.goes (by decide) (by decide) (by omega) hqc
  exact ⟨k1, by omega⟩
def XQ (g0 : gT) (s : Nat) (g1 : gT) : Prop := zI MT g1 ∧ Fr aE bE g0 g1 ∧ pN g1 ∧ (g0 0 25).toInt ≤ (g1 0 25).toInt ∧ (∀ j, j < s → g1 26 j = g0 26 j) ∧ ((g1 0 19).toInt = 0 → cl (g1 26) s (gP g1) ∧ (g1 0 35).toInt ≤ 2 * (g1 0 25).toInt ∧ (s : Int) ≤ (g1 0 35).toInt)
theorem expr_end (fu : Nat) (hfu : 1180591620717411303424 ≤ fu) (g0 g : gT) (L : lT) (s : Nat) (h : xI g0 s 1 0 0 0 g) : Ex (fX12_expression_p345 fu g L) (fun (_ : Unit) g1 L1 => XQ g0 s g1) := by
  unfold fX12_expression_p345
  have q25 := h.1 0 25 0 700 rfl
  have b1 := h.2.2.2.2.2.1
  refine Ex.cb (sX12_drops fu hfu 0 g L h.1 (by omega)) (fun _ g2 L2 hq => ?_)
  obtain ⟨h1, h2, h3, h4, h5, h6, h7, h8, h9⟩ := h.drop hq.1
  have q36 := h1 0 36 0 950 rfl
  have q35 := h1 0 35 0 1900 rfl
  have r25 := h1 0 25 0 700 rfl
  refine e_puts h1 (by omega) (fun g3 hI3 hF p c v => Ex.ret ?_)
  have e19 := hF.i (j := 19) (by decide)
  have e25 := hF.i (j := 25) (by decide)
  refine ⟨hI3, h2.tr (hF.mo (by decide) (by decide)), h3.fr hF (by decide) (by decide) (by decide) (by decide), by omega, fun j hj => ?_, fun hg => ?_⟩
  · rw [c j (by have : j < gP g2 := (by show j < (g2 0 35).toInt.toNat; omega); omega)]; exact h8 j hj
  · rw [e19] at hg
    obtain ⟨b2, c1, c2, c3, n, hh, c4, c5⟩ := h9 hg
    refine ⟨⟨n, gP g2, hh, rn_c (fun j hj => c j (by omega)) c4, by rw [v]; rfl, ?_⟩, by omega, by omega⟩
    show (g2 0 35).toInt.toNat < (g3 0 35).toInt.toNat
    omega
set_option maxHeartbeats 4000000 in
theorem sX12_expression (fu : Nat) (hfu : 1180591620717411303424 ≤ fu) (g0 : gT) (L0 : lT) (hI : zI MT g0) (hp : pN g0) (hg : (g0 0 19).toInt = 0) (hb : (g0 0 35).toInt + 2 ≤ 2 * (g0 0 25).toInt) : Ex (fX12_expression fu g0 L0) (fun (_ : Unit) g1 L1 => XQ g0 (gP g0) g1) := by
  generalize hs : gP g0 = s
  have q35 := hI 0 35 0 1900 rfl
  have q25 := hI 0 25 0 700 rfl
  unfold fX12_expression
  refine e_good (fun _ => ?_) (fun h => absurd hg h)
  refine Ex.sti (hI.upd (lo := 0) (hi := 950) rfl (by decide) (by decide)) (fun ga gae hIa => ?_)
  refine Ex.sti (hIa.updN rfl) (fun gb gbe hIb => ?_)
  have hFb : Fr [36, 37] [] g0 gb := by rw [gbe, gae]; exact (Fr.refl.u0 (by decide)).u0 (by decide)
  have s36 : (gb 0 36).toInt = 0 := by rw [gbe, gae]; rfl
  have s37 : (gb 0 37).toInt = 0 := by rw [gbe, gae]; rfl
  have h0 : xI g0 s 0 1 0 0 gb := by
    have f19 := hFb.i (j := 19) (by decide)
    have f25 := hFb.i (j := 25) (by decide)
    have f35 := hFb.i (j := 35) (by decide)
    have f26 : gb 26 = g0 26 := hFb.2 26 (by decide) (by decide)
    have eW : gW gb = 0 := by show (gb 0 36).toInt.toNat = 0; omega
    have eP : gP gb = s := by rw [← hs]; show (gb 0 35).toInt.toNat = (g0 0 35).toInt.toNat; rw [f35]
    have hs' : (s : Int) = (g0 0 35).toInt := by rw [← hs]; show (((g0 0 35).toInt.toNat : Nat) : Int) = _; omega
    refine ⟨hIb, hFb.mo (by decide) (by decide), hp.fr hFb (by decide) (by decide) (by decide) (by decide), by omega, by omega, by omega, by omega, fun j hj => by rw [f26], fun _ => ⟨by omega, ?_⟩⟩
    unfold xC
    rw [eW, eP, s37]
    exact ⟨fun i hi => absurd hi (Nat.not_lt_zero _), rfl, by decide, 0, 0, ⟨rfl, rfl⟩, rfl⟩
  have f19 := hFb.i (j := 19) (by decide)
  refine Ex.cb (sX12_deeper fu g0 gb L0 s h0 (by omega)) (fun _ gc Lc hc => ?_)
  refine Ex.cb (sX12_operand fu hfu 1 g0 gc Lc s hc.1) (fun _ gd Ld hd => ?_)
  clear h0 hc hIb hIa s36 s37 hFb gbe gae
  have hd := hd.1
  unfold fX12_expression_l29
  have hm := mm_le hd.1
  refine Ex.loop (α := Int32 × gT × lT) (fun v => xI g0 s 1 0 0 0 v.2.1) (fun v => mf v.1 v.2.1) (by omega) (by show mf 1 gd < (fu : Int); rw [mf_n (by decide)]; omega) hd (fun k29 v hv ih => ?_)
  clear hd hm
  obtain ⟨v1, g, L⟩ := v
  have h : xI g0 s 1 0 0 0 g := hv
  have hmg := mm_0 h.1
  show Ex (fX12_expression_s29 fu k29 v1 g L) _
  unfold fX12_expression_s29
  have fin : ∀ L1 : lT, Ex (fX12_expression_p325 fu g L1) (fun (_ : Unit) g1 L1 => XQ g0 s g1) := by
    intro L1
    unfold fX12_expression_p325
    refine e_good (fun _ => ?_) (fun _ => expr_end fu hfu g0 g L1 s h)
    refine Ex.ite (fun _ => expr_end fu hfu g0 g L1 s h) (fun _ => ?_)
    exact e_wrong h.1 (by decide) (fun g1 hI1 hF hb => expr_end fu hfu g0 g1 L1 s (h.wrong hI1 hF hb))
  refine Ex.ite (fun _ => fin L) (fun cv => ?_)
  refine e_good (fun hg => ?_) (fun _ => fin L)
  have next : ∀ (g' : gT) (L' : lT), xI g0 s 1 0 0 0 g' → (g 0 25).toInt < (g' 0 25).toInt → Ex (k29 (v1, g', L')) (fun (_ : Unit) g1 L1 => XQ g0 s g1) := by
    intro g' L' h1 h2
    refine ih (v1, g', L') h1 ?_ (by show 0 < mf v1 g; rw [mf_n cv]; omega)
    show mf v1 g' < mf v1 g
    rw [mf_n cv, mf_n cv]
    have := mm_lt h.1 hg (g1 := g') (fun _ => h2)
    omega
  have stop : ∀ (L' : lT), Ex (fX12_expression_p320 fu k29 g L') (fun (_ : Unit) g1 L1 => XQ g0 s g1) := by
    intro L'
    unfold fX12_expression_p320 fX12_expression_p322
    refine ih (0, g, L') h ?_ (by show 0 < mf v1 g; rw [mf_n cv]; omega)
    show mf 0 g < mf v1 g
    rw [mf_n cv, mf_z rfl]; omega
  have q25 := h.1 0 25 0 700 rfl
  have b1 := h.2.2.2.2.2.1
  -- behind drops: the act waits, the next operand is read
  have act : ∀ (g2 : gT) (v : Int32) (Lx : lT) (m : Int32) (K : Unit → gT → lT → Option (Unit × zS)), DQ g g2 → (g 0 24).toInt ≠ 0 → 4 ≤ v.toInt → v.toInt ≤ 11 → (∀ g' L', K () g' L' = k29 (v1, g', L')) → Ex (cb (fX12_waitsFor fu v g2 Lx) (fun _ ga La => cb (fX12_goes fu ga La) (fun _ gb Lb => cb (fX12_operand fu m gb Lb) K))) (fun (_ : Unit) g1 L1 => XQ g0 s g1) := by
    intro g2 v Lx m K hq hs1 hv1 hv2 hK
    have h2 := h.drop hq
    have e19 := hq.2.1.i (j := 19) (by decide)
    have e24 := hq.2.1.i (j := 24) (by decide)
    have e25 := hq.2.1.i (j := 25) (by decide)
    have w36 := h2.2.2.2.2.1
    refine e_waitsFor h2.1 (by omega) (fun ga hIa hFa pa ca va => ?_)
    have ha : xI g0 s 0 0 1 1 ga := h2.wait (by omega) hIa hFa pa ca va (Or.inl ⟨hv1, hv2, rfl, rfl⟩)
    have a24 := hFa.i (j := 24) (by decide)
    have a25 := hFa.i (j := 25) (by decide)
    refine e_goes hfu hIa ha.2.2.1 (fun gb Lb hqb => ?_)
    obtain ⟨hb, b25, -⟩ := ha.goes (by decide) (by decide) (by omega) hqb
    refine Ex.cb (sX12_operand fu hfu m g0 gb Lb s hb) (fun _ gd Ld hd => ?_)
    rw [hK]
    have m1 := hd.2.1
    exact next gd Ld hd.1 (by omega)
  have actT : ∀ (g2 : gT) (v : Int32) (Lx : lT) (m x : Int32) (K : Unit → gT → lT → Option (Unit × zS)), DQ g g2 → (g 0 24).toInt ≠ 0 → 4 ≤ v.toInt → v.toInt ≤ 11 → (x = 0 ∨ x = 1) → (∀ g' L', K () g' L' = k29 (v1, g', L')) → Ex (cb (fX12_waitsFor fu v g2 Lx) (fun _ ga La => ck (ga 0 37) 9 (sti ga 28 (Int32.toNatClampNeg (ga 0 37)) (vp_nar .boolean x) (fun ge => cb (fX12_goes fu ge La) (fun _ gb Lb => cb (fX12_operand fu m gb Lb) K))))) (fun (_ : Unit) g1 L1 => XQ g0 s g1) := by
    intro g2 v Lx m x K hq hs1 hv1 hv2 hx hK
    have h2 := h.drop hq
    have e19 := hq.2.1.i (j := 19) (by decide)
    have e24 := hq.2.1.i (j := 24) (by decide)
    have e25 := hq.2.1.i (j := 25) (by decide)
    have w36 := h2.2.2.2.2.1
    refine e_waitsFor h2.1 (by omega) (fun ga hIa hFa pa ca va => ?_)
    have ha : xI g0 s 0 0 1 1 ga := h2.wait (by omega) hIa hFa pa ca va (Or.inl ⟨hv1, hv2, rfl, rfl⟩)
    have a19 := hFa.i (j := 19) (by decide)
    have a24 := hFa.i (j := 24) (by decide)
    have a25 := hFa.i (j := 25) (by decide)
    obtain ⟨-, -, z2, z3, -⟩ := ha.2.2.2.2.2.2.2.2 (by omega)
    refine Ex.ck (by omega) (by omega) ?_
    have hn := nar01 x hx
    refine Ex.sti (hIa.upd (lo := 0) (hi := 1) rfl hn.1 hn.2) (fun ge gee hIe => ?_)
    have he := ha.test hIe gee
    have d24 : (ge 0 24).toInt = (ga 0 24).toInt := by rw [gee]; rfl
    have d25 : (ge 0 25).toInt = (ga 0 25).toInt := by rw [gee]; rfl
    refine e_goes hfu hIe he.2.2.1 (fun gb Lb hqb => ?_)
    obtain ⟨hb, b25, -⟩ := he.goes (by decide) (by decide) (by omega) hqb
    refine Ex.cb (sX12_operand fu hfu m g0 gb Lb s hb) (fun _ gd Ld hd => ?_)
    rw [hK]
    have m1 := hd.2.1
    exact next gd Ld hd.1 (by omega)
  have dr : ∀ (p1 : Int32) (Lx : lT) (K : Unit → gT → lT → Option (Unit × zS)), (∀ g2 L2, DQ g g2 → Ex (K () g2 L2) (fun (_ : Unit) g1 L1 => XQ g0 s g1)) → Ex (cb (fX12_drops fu p1 g Lx) K) (fun (_ : Unit) g1 L1 => XQ g0 s g1) := fun p1 Lx K hK => Ex.cb (sX12_drops fu hfu p1 g Lx h.1 (by omega)) (fun _ g2 L2 hq => hK g2 L2 hq.1)
  have P57 : ∀ (x : Int32) (Lx : lT), (g 0 24).toInt ≠ 0 → Ex (fX12_expression_p57 fu k29 v1 x g Lx) (fun (_ : Unit) g1 L1 => XQ g0 s g1) := by
    intro x Lx hs1
    have P69 : ∀ t0 : Int32, Ex (fX12_expression_p69 fu k29 v1 x t0 g Lx) (fun (_ : Unit) g1 L1 => XQ g0 s g1) := by
      intro t0
      unfold fX12_expression_p69 fX12_expression_p84 fX12_expression_p322
      refine dr t0 Lx _ (fun g2 L2 hq => ?_)
      exact Ex.ite (fun _ => actT g2 4 L2 1 0 _ hq hs1 (by decide) (by decide) (Or.inl rfl) (fun _ _ => rfl)) (fun _ => actT g2 5 L2 1 0 _ hq hs1 (by decide) (by decide) (Or.inl rfl) (fun _ _ => rfl))
    unfold fX12_expression_p57
    exact Ex.ite (fun _ => P69 2) (fun _ => P69 1)
  have P204 : ∀ Lx : lT, (g 0 24).toInt ≠ 0 → Ex (fX12_expression_p204 fu k29 v1 g Lx) (fun (_ : Unit) g1 L1 => XQ g0 s g1) := by
    intro Lx hs1
    unfold fX12_expression_p204 fX12_expression_p226 fX12_expression_p322
    refine dr 5 Lx _ (fun g2 L2 hq => ?_)
    exact e_sign (fun _ => act g2 8 L2 0 _ hq hs1 (by decide) (by decide) (fun _ _ => rfl)) (act g2 9 L2 0 _ hq hs1 (by decide) (by decide) (fun _ _ => rfl))
  have P259 : ∀ Lx : lT, (g 0 24).toInt ≠ 0 → Ex (fX12_expression_p259 fu k29 v1 g Lx) (fun (_ : Unit) g1 L1 => XQ g0 s g1) := by
    intro Lx hs1
    unfold fX12_expression_p259 fX12_expression_p282 fX12_expression_p322
    refine dr 6 Lx _ (fun g2 L2 hq => ?_)
    exact e_sign (fun _ => act g2 10 L2 0 _ hq hs1 (by decide) (by decide) (fun _ _ => rfl)) (act g2 11 L2 0 _ hq hs1 (by decide) (by decide) (fun _ _ => rfl))
  have P186 : ∀ Lx : lT, Ex (fX12_expression_p186 fu k29 v1 g Lx) (fun (_ : Unit) g1 L1 => XQ g0 s g1) := by
    intro Lx
    unfold fX12_expression_p186
    refine e_sign (fun hs1 => P204 Lx (by omega)) ?_
    refine e_sign (fun hs1 => P204 Lx (by omega)) ?_
    refine e_sign (fun hs1 => P259 Lx (by omega)) ?_
    refine e_sign (fun hs1 => P259 Lx (by omega)) ?_
    refine e_sign (fun hs1 => ?_) (stop Lx)
    refine e_opened hfu h.1 (fun L1 ho => ?_) (fun L1 => stop L1)
    refine Ex.cb (sX12_closes fu hfu g0 g L1 s h hg (by omega) ho) (fun _ gd Ld hd => ?_)
    unfold fX12_expression_p322
    exact next gd Ld hd.1 hd.2
  have P127 : ∀ Lx : lT, (g 0 24).toInt ≠ 0 → Ex (fX12_expression_p127 fu k29 v1 g Lx) (fun (_ : Unit) g1 L1 => XQ g0 s g1) := by
    intro Lx hs1
    unfold fX12_expression_p127
    obtain ⟨-, -, z2, z3, -⟩ := h.2.2.2.2.2.2.2.2 hg
    refine Ex.ck (by omega) (by omega) ?_
    refine Ex.ite (fun _ => ?_) (fun _ => P186 Lx)
    unfold fX12_expression_p161 fX12_expression_p322
    refine dr 4 Lx _ (fun g2 L2 hq => ?_)
    exact e_sign (fun _ => actT g2 6 L2 0 1 _ hq hs1 (by decide) (by decide) (Or.inr rfl) (fun _ _ => rfl)) (actT g2 7 L2 0 1 _ hq hs1 (by decide) (by decide) (Or.inr rfl) (fun _ _ => rfl))
  refine e_known hfu (fun x L1 x1 x2 x3 => ?_)
  refine Ex.ite (fun cx => ?_) (fun _ => ?_)
  · have cx := icc_eq (m := x.toInt) (n := 14) rfl (by decide) cx
    have := x3 (by omega)
    exact P57 x L1 (by omega)
  refine Ex.ite (fun cx => ?_) (fun _ => ?_)
  · have cx := icc_eq (m := x.toInt) (n := 15) rfl (by decide) cx
    have := x3 (by omega)
    exact P57 x L1 (by omega)
  refine e_sign (fun hs1 => P127 L1 (by omega)) ?_
  exact e_sign (fun hs1 => P127 L1 (by omega)) (P186 L1)
end
