/-! ===== the reference's parser: frames, the reading of signs ===== -/
abbrev gT : Type := Nat → Nat → Int32
abbrev lT : Type := Nat → Nat → Int64
/-- g' is g but for the fields A of the object and the arrays B -/
def Fr (A B : List Nat) (g g' : gT) : Prop := (∀ j, j ∉ A → g' 0 j = g 0 j) ∧ (∀ k, k ≠ 0 → k ∉ B → g' k = g k)
theorem Fr.refl {A B : List Nat} {g : gT} : Fr A B g g := ⟨fun _ _ => rfl, fun _ _ _ => rfl⟩
theorem Fr.tr {A B : List Nat} {g1 g2 g3 : gT} (h1 : Fr A B g1 g2) (h2 : Fr A B g2 g3) : Fr A B g1 g3 := ⟨fun j hj => (h2.1 j hj).trans (h1.1 j hj), fun k h0 hk => (h2.2 k h0 hk).trans (h1.2 k h0 hk)⟩
theorem Fr.mo {A B A' B' : List Nat} {g g' : gT} (h : Fr A B g g') (hA : ∀ j ∈ A, j ∈ A') (hB : ∀ k ∈ B, k ∈ B') : Fr A' B' g g' := ⟨fun j hj => h.1 j (fun h => hj (hA j h)), fun k h0 hk => h.2 k h0 (fun h => hk (hB k h))⟩
theorem Fr.u0 {A B : List Nat} {g g' : gT} {j : Nat} {x : Int32} (h : Fr A B g g') (hj : j ∈ A) : Fr A B g (upd2 g' 0 j x) := ⟨fun i hi => (upd2_nj (show i ≠ j from fun e => hi (by rw [e]; exact hj))).trans (h.1 i hi), fun k h0 hk => (funext fun i => upd2_nk h0).trans (h.2 k h0 hk)⟩
theorem Fr.uk {A B : List Nat} {g g' : gT} {k j : Nat} {x : Int32} (h : Fr A B g g') (h0 : k ≠ 0) (hk : k ∈ B) : Fr A B g (upd2 g' k j x) := ⟨fun i hi => (upd2_nk (Ne.symm h0)).trans (h.1 i hi), fun k' h0' hk' => (funext fun i => upd2_nk (show k' ≠ k from fun e => hk' (by rw [e]; exact hk))).trans (h.2 k' h0' hk')⟩
theorem Fr.i {A B : List Nat} {g g' : gT} (h : Fr A B g g') {j : Nat} (hj : j ∉ A) : (g' 0 j).toInt = (g 0 j).toInt := congrArg Int32.toInt (h.1 j hj)
abbrev aG : List Nat := [23, 24, 25, 26, 27, 28]
abbrev aN : List Nat := [19, 20, 23, 24, 25, 26, 27, 28]
def pN (g : gT) : Prop := (g 0 23).toInt ≤ (g 0 22).toInt ∧ (g 0 25).toInt ≤ (g 0 23).toInt ∧ ((g 0 24).toInt ≠ 0 → (g 0 25).toInt < (g 0 23).toInt)
def QG (g g1 : gT) : Prop := zI MT g1 ∧ Fr aG [] g g1 ∧ pN g1 ∧ (g 0 23).toInt ≤ (g1 0 25).toInt
def QN (g g1 : gT) : Prop := zI MT g1 ∧ Fr aN [] g g1 ∧ pN g1 ∧ ((g 0 19).toInt ≠ 0 → (g1 0 19).toInt ≠ 0) ∧ (g 0 25).toInt ≤ (g1 0 25).toInt
theorem pN.congr {g g1 : gT} (h : pN g) (h22 : (g1 0 22).toInt = (g 0 22).toInt) (h23 : (g1 0 23).toInt = (g 0 23).toInt) (h24 : (g1 0 24).toInt = (g 0 24).toInt) (h25 : (g1 0 25).toInt = (g 0 25).toInt) : pN g1 := by
  unfold pN at h ⊢
  rw [h22, h23, h24, h25]; exact h
theorem pN.fr {g g1 : gT} {A B : List Nat} (h : pN g) (hF : Fr A B g g1) (h22 : 22 ∉ A) (h23 : 23 ∉ A) (h24 : 24 ∉ A) (h25 : 25 ∉ A) : pN g1 := h.congr (hF.i h22) (hF.i h23) (hF.i h24) (hF.i h25)
def bt (g : gT) (k : Int32) : Int32 := if g 0 22 ≤ k then 0 else g 13 k.toNatClampNeg
theorem bt_lt {g : gT} {k : Int32} (h : (bt g k).toInt ≠ 0) : k.toInt < (g 0 22).toInt := by
  unfold bt at h
  split at h
  · exact absurd rfl h
  · rename_i c; exact icc_nle (m := (g 0 22).toInt) (n := k.toInt) rfl rfl c
section LX
variable {ρ : Type} {Q : ρ → gT → lT → Prop} {g : gT} {L : lT} {fu : Nat}
theorem e_byte {k : Int32} {K : Int32 → gT → lT → Option (ρ × zS)} (h0 : 0 ≤ k.toInt) (h7 : (g 0 22).toInt ≤ 700) (h : Ex (K (bt g k) g L) Q) : Ex (cb (fX12_byteAt fu k g L) K) Q := by
  have e : fX12_byteAt fu k g L = some (bt g k, (g, L)) := by
    unfold fX12_byteAt bt
    split
    · rfl
    · rename_i c
      have c := icc_nle (m := (g 0 22).toInt) (n := k.toInt) rfl rfl c
      exact ck_eq h0 (by omega)
  rw [e]; exact h
theorem ckb0 {α : Type} {K : Option α} : ckb 0 K = K := if_pos rfl
theorem ckb1 {α : Type} {K : Option α} : ckb 1 K = K := if_pos rfl
theorem e_b0 {A B : gT → lT → Option (ρ × zS)} (h : Ex (A g L) Q) : Ex (cb (some ((0 : Int32), (g, L))) (fun x g1 L1 => if x = 0 then A g1 L1 else B g1 L1)) Q := by
  show Ex (if (0 : Int32) = 0 then A g L else B g L) Q
  rw [if_pos rfl]; exact h
theorem e_b1 {A B : gT → lT → Option (ρ × zS)} (h : Ex (B g L) Q) : Ex (cb (some ((1 : Int32), (g, L))) (fun x g1 L1 => if x = 0 then A g1 L1 else B g1 L1)) Q := by
  show Ex (if (1 : Int32) = 0 then A g L else B g L) Q
  rw [if_neg (by decide)]; exact h
theorem e_letter {c : Int32} {A B : gT → lT → Option (ρ × zS)} (h0 : c.toInt < 97 ∨ 122 < c.toInt → Ex (A g L) Q) (h1 : 97 ≤ c.toInt → c.toInt ≤ 122 → Ex (B g L) Q) : Ex (cb (fX12_isLetter fu c g L) (fun x g1 L1 => if x = 0 then A g1 L1 else B g1 L1)) Q := by
  unfold fX12_isLetter fX12_isLetter_p16 fX12_isLetter_p17
  rw [ckb0, ckb1]
  by_cases c1 : c < 97
  · rw [if_pos c1]; exact e_b0 (h0 (Or.inl (icc_lt (m := c.toInt) (n := 97) rfl (by decide) c1)))
  · rw [if_neg c1]
    by_cases c2 : 122 < c
    · rw [if_pos c2]; exact e_b0 (h0 (Or.inr (icc_lt (m := 122) (n := c.toInt) (by decide) rfl c2)))
    · rw [if_neg c2]; exact e_b1 (h1 (icc_nlt (m := c.toInt) (n := 97) rfl (by decide) c1) (icc_nlt (m := 122) (n := c.toInt) (by decide) rfl c2))
theorem e_digit {c : Int32} {A B : gT → lT → Option (ρ × zS)} (h0 : c.toInt < 48 ∨ 57 < c.toInt → Ex (A g L) Q) (h1 : 48 ≤ c.toInt → c.toInt ≤ 57 → Ex (B g L) Q) : Ex (cb (fX12_isDigit fu c g L) (fun x g1 L1 => if x = 0 then A g1 L1 else B g1 L1)) Q := by
  unfold fX12_isDigit fX12_isDigit_p16 fX12_isDigit_p17
  rw [ckb0, ckb1]
  by_cases c1 : c < 48
  · rw [if_pos c1]; exact e_b0 (h0 (Or.inl (icc_lt (m := c.toInt) (n := 48) rfl (by decide) c1)))
  · rw [if_neg c1]
    by_cases c2 : 57 < c
    · rw [if_pos c2]; exact e_b0 (h0 (Or.inr (icc_lt (m := 57) (n := c.toInt) (by decide) rfl c2)))
    · rw [if_neg c2]; exact e_b1 (h1 (icc_nlt (m := c.toInt) (n := 48) rfl (by decide) c1) (icc_nlt (m := 57) (n := c.toInt) (by decide) rfl c2))
theorem e_good {A B : gT → lT → Option (ρ × zS)} (h1 : (g 0 19).toInt = 0 → Ex (B g L) Q) (h0 : (g 0 19).toInt ≠ 0 → Ex (A g L) Q) : Ex (cb (fX12_isGood fu g L) (fun x g1 L1 => if x = 0 then A g1 L1 else B g1 L1)) Q := by
  unfold fX12_isGood fX12_isGood_p12
  rw [ckb0, ckb1]
  by_cases c1 : g 0 19 = 0
  · rw [if_pos c1]; exact e_b1 (h1 (icc_eq (m := (g 0 19).toInt) (n := 0) rfl (by decide) c1))
  · rw [if_neg c1]; exact e_b0 (h0 (icc_neq (m := (g 0 19).toInt) (n := 0) rfl (by decide) c1))
theorem e_signK {c : Int32} {K : Int32 → gT → lT → Option (ρ × zS)} (h : ∀ x : Int32, (x = 0 ∨ (x = 1 ∧ (g 0 24).toInt = 3)) → Ex (K x g L) Q) : Ex (cb (fX12_isSign fu c g L) K) Q := by
  unfold fX12_isSign fX12_isSign_p20 fX12_isSign_p21
  rw [ckb0, ckb1]
  by_cases c1 : g 0 24 = 3
  · rw [if_pos c1]
    by_cases c2 : g 0 28 = c
    · rw [if_pos c2]; exact h 1 (Or.inr ⟨rfl, icc_eq (m := (g 0 24).toInt) (n := 3) rfl (by decide) c1⟩)
    · rw [if_neg c2]; exact h 0 (Or.inl rfl)
  · rw [if_neg c1]; exact h 0 (Or.inl rfl)
theorem e_sign {c : Int32} {A B : gT → lT → Option (ρ × zS)} (h1 : (g 0 24).toInt = 3 → Ex (B g L) Q) (h0 : Ex (A g L) Q) : Ex (cb (fX12_isSign fu c g L) (fun x g1 L1 => if x = 0 then A g1 L1 else B g1 L1)) Q := by
  refine e_signK (fun x hx => ?_)
  rcases hx with rfl | ⟨rfl, hx⟩
  · rw [if_pos rfl]; exact h0
  · rw [if_neg (by decide)]; exact h1 hx
theorem e_wrong {w : Int32} {K : Unit → gT → lT → Option (ρ × zS)} (hI : zI MT g) (hw : w.toInt ≠ 0) (h : ∀ g1, zI MT g1 → Fr [19, 20] [] g g1 → (g1 0 19).toInt ≠ 0 → Ex (K () g1 L) Q) : Ex (cb (fX12_wrong fu w g L) K) Q := by
  unfold fX12_wrong
  by_cases c1 : g 0 19 = 0
  · rw [if_pos c1]
    refine h (upd2 (upd2 g 0 19 w) 0 20 (upd2 g 0 19 w 0 25)) ((hI.updN rfl).updN rfl) ((Fr.refl.u0 (by decide)).u0 (by decide)) ?_
    exact hw
  · rw [if_neg c1]
    exact h g hI Fr.refl (icc_neq (m := (g 0 19).toInt) (n := 0) rfl (by decide) c1)
theorem e_spelled {a b c d e f : Int32} : Ex (fX12_spelled fu a b c d e f g L) (fun (_ : Int64) g1 L1 => g1 = g) := by
  unfold fX12_spelled fX12_spelled_p32 fX12_spelled_p48 fX12_spelled_p66 fX12_spelled_p84
  repeat' first | exact ⟨_, _, _, rfl, rfl⟩ | (refine Ex.ltl (fun _ _ => ?_)) | (refine Ex.ite (fun _ => ?_) (fun _ => ?_))
theorem e_letters {a : Int32} : Ex (fX12_letters fu a g L) (fun (_ : Int64) g1 L1 => g1 = g) := by
  have e : ∀ (a b c d e f : Int32), Ex (cb (fX12_spelled fu a b c d e f g L) (fun x g1 L1 => some (x, (g1, L1)))) (fun (_ : Int64) g1 L1 => g1 = g) := fun a b c d e f => Ex.cb e_spelled (fun x g1 L1 h => Ex.ret h)
  unfold fX12_letters
  repeat' first | exact e _ _ _ _ _ _ | (refine Ex.ite (fun _ => ?_) (fun _ => ?_))
theorem e_known {K : Int32 → gT → lT → Option (ρ × zS)} (hfu : 1180591620717411303424 ≤ fu) (h : ∀ (x : Int32) (L1 : lT), -1 ≤ x.toInt → x.toInt ≤ 16 → (x.toInt ≠ -1 → (g 0 24).toInt = 1) → Ex (K x g L1) Q) : Ex (cb (fX12_knownWord fu g L) K) Q := by
  have key : Ex (fX12_knownWord fu g L) (fun (x : Int32) g1 L1 => g1 = g ∧ -1 ≤ x.toInt ∧ x.toInt ≤ 16 ∧ (x.toInt ≠ -1 → (g 0 24).toInt = 1)) := by
    have hn : ∀ L1 : lT, Ex (some ((-1 : Int32), (g, L1))) (fun (x : Int32) g1 L1 => g1 = g ∧ -1 ≤ x.toInt ∧ x.toInt ≤ 16 ∧ (x.toInt ≠ -1 → (g 0 24).toInt = 1)) := fun L1 => Ex.ret ⟨rfl, by decide, by decide, fun h => absurd rfl h⟩
    unfold fX12_knownWord fX12_knownWord_p17
    refine Ex.ite (fun c => Ex.ite (fun _ => ?_) (fun _ => hn L)) (fun _ => hn L)
    have c := icc_eq (m := (g 0 24).toInt) (n := 1) rfl (by decide) c
    unfold fX12_knownWord_l21
    refine Ex.loop (α := Int32 × gT × lT) (fun v => (0 ≤ v.1.toInt ∧ v.1.toInt ≤ 17) ∧ v.2.1 = g) (fun v => 18 - v.1.toInt) (by omega) (by show 18 - (0 : Int32).toInt < (fu : Int); have : (0 : Int32).toInt = 0 := rfl; omega) ⟨(show 0 ≤ (0 : Int32).toInt ∧ (0 : Int32).toInt ≤ 17 from by decide), rfl⟩ (fun k21 v hv ih => ?_)
    obtain ⟨v1, g2, L2⟩ := v
    obtain ⟨hv, hg⟩ := hv
    have hv : 0 ≤ v1.toInt ∧ v1.toInt ≤ 17 := hv
    have hg : g2 = g := hg
    subst hg
    show Ex (fX12_knownWord_s21 fu k21 v1 g2 L2) _
    unfold fX12_knownWord_s21
    refine Ex.ite (fun _ => hn L2) (fun c1 => ?_)
    have c1 := icc_nle (m := 17) (n := v1.toInt) (by decide) rfl c1
    refine Ex.cb e_letters (fun x4 g5 L6 he => ?_)
    subst he
    refine Ex.ite (fun _ => Ex.ret ⟨rfl, by omega, by omega, fun _ => c⟩) (fun _ => ?_)
    generalize hw : v1 + 1 = w
    have ew : w.toInt = v1.toInt + 1 := by rw [← hw]; exact ic_addc rfl (by decide) (by omega) (by omega)
    exact ih (w, g5, L6) ⟨show 0 ≤ w.toInt ∧ w.toInt ≤ 17 by omega, rfl⟩ (show 18 - w.toInt < 18 - v1.toInt by omega) (show 0 < 18 - v1.toInt by omega)
  refine Ex.cb key (fun x g1 L1 hx => ?_)
  obtain ⟨rfl, h1, h2, h3⟩ := hx
  exact h x L1 h1 h2 h3
end LX
set_option maxHeartbeats 4000000 in
theorem sX12_goes (fu : Nat) (hfu : 1180591620717411303424 ≤ fu) (g0 : gT) (L0 : lT) (hI : zI MT g0) (hn : (g0 0 23).toInt ≤ (g0 0 22).toInt) : Ex (fX12_goes fu g0 L0) (fun (_ : Unit) g1 L1 => QG g0 g1) := by
  have fin : ∀ (t0 : Int32) (g : gT) (L : lT), zI MT g → Fr aG [] g0 g → (g 0 23).toInt ≤ (g 0 22).toInt → (g 0 25).toInt ≤ (g 0 23).toInt → (g0 0 23).toInt ≤ (g 0 25).toInt → (t0.toInt ≠ 0 → (g 0 25).toInt < (g 0 23).toInt) → Ex (sti g 0 24 t0 (fun g22 => fX12_goes_p331 fu g22 L)) (fun (_ : Unit) g1 L1 => QG g0 g1) := by
    intro t0 g L hI hF h1 h2 h3 h4
    refine Ex.sti (hI.updN rfl) (fun ga gae hI => ?_)
    unfold fX12_goes_p331
    refine Ex.sti (hI.updN rfl) (fun gb gbe hI => Ex.ret ?_)
    have hF : Fr aG [] g0 gb := by rw [gbe, gae]; exact (hF.u0 (by decide)).u0 (by decide)
    have r22 : gb 0 22 = g 0 22 := by rw [gbe, gae]; rfl
    have r23 : gb 0 23 = g 0 23 := by rw [gbe, gae]; rfl
    have r24 : gb 0 24 = t0 := by rw [gbe, gae]; rfl
    have r25 : gb 0 25 = g 0 25 := by rw [gbe, gae]; rfl
    exact ⟨hI, hF, by unfold pN; rw [r22, r23, r24, r25]; exact ⟨h1, h2, h4⟩, by rw [r25]; exact h3⟩
  -- the rest of a number
  have P187 : ∀ (g : gT) (L : lT), zI MT g → Fr aG [] g0 g → (g 0 23).toInt ≤ (g 0 22).toInt → (g 0 25).toInt = (g 0 23).toInt → (g0 0 23).toInt ≤ (g 0 25).toInt → (g 0 27).toInt = 0 → 48 ≤ (bt g (g 0 23)).toInt → (bt g (g 0 23)).toInt ≤ 57 → Ex (fX12_goes_l187 fu g L) (fun (_ : Unit) g1 L1 => QG g0 g1) := by
    intro g L hI hF h1 h2 h3 h4 h5 h6
    have q22 := hI 0 22 0 700 rfl
    have q23 := hI 0 23 0 700 rfl
    unfold fX12_goes_l187
    refine Ex.loop (α := gT × lT) (fun v => zI MT v.1 ∧ Fr aG [] g0 v.1 ∧ (v.1 0 23).toInt ≤ (v.1 0 22).toInt ∧ (v.1 0 25).toInt ≤ (v.1 0 23).toInt ∧ (g0 0 23).toInt ≤ (v.1 0 25).toInt ∧ ((v.1 0 23).toInt - (v.1 0 25).toInt = 0 → (v.1 0 27).toInt ≤ 0 ∧ 48 ≤ (bt v.1 (v.1 0 23)).toInt ∧ (bt v.1 (v.1 0 23)).toInt ≤ 57) ∧ ((v.1 0 23).toInt - (v.1 0 25).toInt = 1 → (v.1 0 27).toInt ≤ 9) ∧ ((v.1 0 23).toInt - (v.1 0 25).toInt = 2 → (v.1 0 27).toInt ≤ 99) ∧ ((v.1 0 23).toInt - (v.1 0 25).toInt = 3 → (v.1 0 27).toInt ≤ 999)) (fun v => 701 - (v.1 0 23).toInt) (by omega) (by show 701 - (g 0 23).toInt < (fu : Int); omega) ⟨hI, hF, h1, (show (g 0 25).toInt ≤ (g 0 23).toInt by omega), h3, (show (g 0 23).toInt - (g 0 25).toInt = 0 → (g 0 27).toInt ≤ 0 ∧ 48 ≤ (bt g (g 0 23)).toInt ∧ (bt g (g 0 23)).toInt ≤ 57 from fun _ => ⟨by omega, h5, h6⟩), (show (g 0 23).toInt - (g 0 25).toInt = 1 → (g 0 27).toInt ≤ 9 by omega), (show (g 0 23).toInt - (g 0 25).toInt = 2 → (g 0 27).toInt ≤ 99 by omega), (show (g 0 23).toInt - (g 0 25).toInt = 3 → (g 0 27).toInt ≤ 999 by omega)⟩ (fun k187 v hv ih => ?_)
    clear hI hF h1 h2 h3 h4 h5 h6 q22 q23 g L
    obtain ⟨g, L⟩ := v
    obtain ⟨hI, hF, h1, h2, h3, d0, d1, d2, d3⟩ := hv
    have hI : zI MT g := hI
    have hF : Fr aG [] g0 g := hF
    have h1 : (g 0 23).toInt ≤ (g 0 22).toInt := h1
    have h2 : (g 0 25).toInt ≤ (g 0 23).toInt := h2
    have h3 : (g0 0 23).toInt ≤ (g 0 25).toInt := h3
    have d0 : (g 0 23).toInt - (g 0 25).toInt = 0 → (g 0 27).toInt ≤ 0 ∧ 48 ≤ (bt g (g 0 23)).toInt ∧ (bt g (g 0 23)).toInt ≤ 57 := d0
    have d1 : (g 0 23).toInt - (g 0 25).toInt = 1 → (g 0 27).toInt ≤ 9 := d1
    have d2 : (g 0 23).toInt - (g 0 25).toInt = 2 → (g 0 27).toInt ≤ 99 := d2
    have d3 : (g 0 23).toInt - (g 0 25).toInt = 3 → (g 0 27).toInt ≤ 999 := d3
    have q22 := hI 0 22 0 700 rfl
    have q23 := hI 0 23 0 700 rfl
    have q25 := hI 0 25 0 700 rfl
    have q27 := hI 0 27 0 9999 rfl
    show Ex (fX12_goes_s187 fu k187 g L) _
    unfold fX12_goes_s187
    refine e_byte (by omega) (by omega) ?_
    have hlt := bt_lt (g := g) (k := g 0 23)
    generalize hb : bt g (g 0 23) = b at d0 hlt ⊢
    refine e_digit (fun c => fin 2 g L hI hF h1 h2 h3 (fun _ => by omega)) (fun c1 c2 => ?_)
    have hlt := hlt (by omega)
    -- the next sign
    have P237 : ∀ (g1 : gT) (L1 : lT), zI MT g1 → Fr aG [] g0 g1 → g1 0 22 = g 0 22 → g1 0 23 = g 0 23 → g1 0 25 = g 0 25 → ((g 0 23).toInt - (g 0 25).toInt = 0 → (g1 0 27).toInt ≤ 9) → ((g 0 23).toInt - (g 0 25).toInt = 1 → (g1 0 27).toInt ≤ 99) → ((g 0 23).toInt - (g 0 25).toInt = 2 → (g1 0 27).toInt ≤ 999) → Ex (fX12_goes_p237 fu k187 g1 L1) (fun (_ : Unit) g1 L1 => QG g0 g1) := by
      intro g1 L1 hI hF r22 r23 r25 f0 f1 f2
      unfold fX12_goes_p237
      rw [r23]
      generalize hw : (g 0 23) + 1 = w
      have ew : w.toInt = (g 0 23).toInt + 1 := by rw [← hw]; exact ic_addc rfl (by decide) (by omega) (by omega)
      refine Ex.sti (hI.upd (lo := 0) (hi := 700) rfl (by omega) (by omega)) (fun ga gae hI => ?_)
      have s22 : ga 0 22 = g 0 22 := by rw [gae]; exact r22
      have s23 : ga 0 23 = w := by rw [gae]; exact upd2_at
      have s25 : ga 0 25 = g 0 25 := by rw [gae]; exact r25
      have s27 : ga 0 27 = g1 0 27 := by rw [gae]; rfl
      have hF : Fr aG [] g0 ga := by rw [gae]; exact hF.u0 (by decide)
      refine ih (ga, L1) ⟨hI, hF, ?_, ?_, ?_, ?_, ?_, ?_, ?_⟩ ?_ ?_
      · show (ga 0 23).toInt ≤ (ga 0 22).toInt
        rw [s22, s23]; omega
      · show (ga 0 25).toInt ≤ (ga 0 23).toInt
        rw [s25, s23]; omega
      · show (g0 0 23).toInt ≤ (ga 0 25).toInt
        rw [s25]; exact h3
      · show (ga 0 23).toInt - (ga 0 25).toInt = 0 → _
        rw [s25, s23]; intro h; omega
      · show (ga 0 23).toInt - (ga 0 25).toInt = 1 → (ga 0 27).toInt ≤ 9
        rw [s25, s23, s27]; omega
      · show (ga 0 23).toInt - (ga 0 25).toInt = 2 → (ga 0 27).toInt ≤ 99
        rw [s25, s23, s27]; omega
      · show (ga 0 23).toInt - (ga 0 25).toInt = 3 → (ga 0 27).toInt ≤ 999
        rw [s25, s23, s27]; omega
      · show 701 - (ga 0 23).toInt < 701 - (g 0 23).toInt
        rw [s23]; omega
      · show 0 < 701 - (g 0 23).toInt
        omega
    generalize hz : (g 0 23) - (g 0 25) = z
    have ez : z.toInt = (g 0 23).toInt - (g 0 25).toInt := by rw [← hz]; exact ic_subc rfl rfl (by omega) (by omega)
    refine Ex.ite (fun c4 => ?_) (fun c4 => ?_)
    · have c4 := icc_le (m := 4) (n := z.toInt) (by decide) rfl c4
      exact P237 g L hI hF rfl rfl rfl (by omega) (by omega) (by omega)
    · have c4 := icc_nle (m := 4) (n := z.toInt) (by decide) rfl c4
      refine e_byte (by omega) (by omega) ?_
      rw [hb]
      generalize hm : 10 * (g 0 27) = m
      have em : m.toInt = 10 * (g 0 27).toInt := by rw [← hm]; exact ic_mulc (by decide) rfl (by omega) (by omega)
      generalize hs : m + b = s
      have es : s.toInt = m.toInt + b.toInt := by rw [← hs]; exact ic_addc rfl rfl (by omega) (by omega)
      generalize ht : s - 48 = t
      have et : t.toInt = s.toInt - 48 := by rw [← ht]; exact ic_subc rfl (by decide) (by omega) (by omega)
      have b0 : (g 0 23).toInt - (g 0 25).toInt = 0 → (g 0 27).toInt ≤ 0 := fun h => (d0 h).1
      refine Ex.sti (hI.upd (lo := 0) (hi := 9999) rfl (by omega) (by omega)) (fun ga gae hI => ?_)
      have s27 : ga 0 27 = t := by rw [gae]; exact upd2_at
      exact P237 ga L hI (by rw [gae]; exact hF.u0 (by decide)) (by rw [gae]; rfl) (by rw [gae]; rfl) (by rw [gae]; rfl) (by rw [s27]; omega) (by rw [s27]; omega) (by rw [s27]; omega)
  -- the rest of a word
  have P108 : ∀ (g : gT) (L : lT), zI MT g → Fr aG [] g0 g → (g 0 23).toInt ≤ (g 0 22).toInt → (g 0 25).toInt = (g 0 23).toInt → (g0 0 23).toInt ≤ (g 0 25).toInt → 97 ≤ (bt g (g 0 23)).toInt → (bt g (g 0 23)).toInt ≤ 122 → Ex (fX12_goes_l108 fu g L) (fun (_ : Unit) g1 L1 => QG g0 g1) := by
    intro g L hI hF h1 h2 h3 h5 h6
    have q22 := hI 0 22 0 700 rfl
    have q23 := hI 0 23 0 700 rfl
    unfold fX12_goes_l108
    refine Ex.loop (α := gT × lT) (fun v => zI MT v.1 ∧ Fr aG [] g0 v.1 ∧ (v.1 0 23).toInt ≤ (v.1 0 22).toInt ∧ (v.1 0 25).toInt ≤ (v.1 0 23).toInt ∧ (g0 0 23).toInt ≤ (v.1 0 25).toInt ∧ ((v.1 0 25).toInt = (v.1 0 23).toInt → 97 ≤ (bt v.1 (v.1 0 23)).toInt ∧ (bt v.1 (v.1 0 23)).toInt ≤ 122)) (fun v => 701 - (v.1 0 23).toInt) (by omega) (by show 701 - (g 0 23).toInt < (fu : Int); omega) ⟨hI, hF, h1, (show (g 0 25).toInt ≤ (g 0 23).toInt by omega), h3, fun _ => ⟨h5, h6⟩⟩ (fun k108 v hv ih => ?_)
    clear hI hF h1 h2 h3 h5 h6 q22 q23 g L
    obtain ⟨g, L⟩ := v
    obtain ⟨hI, hF, h1, h2, h3, d0⟩ := hv
    have hI : zI MT g := hI
    have hF : Fr aG [] g0 g := hF
    have h1 : (g 0 23).toInt ≤ (g 0 22).toInt := h1
    have h2 : (g 0 25).toInt ≤ (g 0 23).toInt := h2
    have h3 : (g0 0 23).toInt ≤ (g 0 25).toInt := h3
    have d0 : (g 0 25).toInt = (g 0 23).toInt → 97 ≤ (bt g (g 0 23)).toInt ∧ (bt g (g 0 23)).toInt ≤ 122 := d0
    have q22 := hI 0 22 0 700 rfl
    have q23 := hI 0 23 0 700 rfl
    have q25 := hI 0 25 0 700 rfl
    show Ex (fX12_goes_s108 fu k108 g L) _
    unfold fX12_goes_s108
    refine e_byte (by omega) (by omega) ?_
    have hlt := bt_lt (g := g) (k := g 0 23)
    generalize hb : bt g (g 0 23) = b at d0 hlt ⊢
    refine e_letter (fun c => fin 1 g L hI hF h1 h2 h3 (fun _ => by omega)) (fun c1 c2 => ?_)
    have hlt := hlt (by omega)
    have P159 : ∀ (L1 : lT), Ex (fX12_goes_p159 fu k108 g L1) (fun (_ : Unit) g1 L1 => QG g0 g1) := by
      intro L1
      unfold fX12_goes_p159
      generalize hw : (g 0 23) + 1 = w
      have ew : w.toInt = (g 0 23).toInt + 1 := by rw [← hw]; exact ic_addc rfl (by decide) (by omega) (by omega)
      refine Ex.sti (hI.upd (lo := 0) (hi := 700) rfl (by omega) (by omega)) (fun ga gae hI => ?_)
      have s22 : ga 0 22 = g 0 22 := by rw [gae]; rfl
      have s23 : ga 0 23 = w := by rw [gae]; exact upd2_at
      have s25 : ga 0 25 = g 0 25 := by rw [gae]; rfl
      have hF : Fr aG [] g0 ga := by rw [gae]; exact hF.u0 (by decide)
      refine ih (ga, L1) ⟨hI, hF, ?_, ?_, ?_, ?_⟩ ?_ ?_
      · show (ga 0 23).toInt ≤ (ga 0 22).toInt
        rw [s22, s23]; omega
      · show (ga 0 25).toInt ≤ (ga 0 23).toInt
        rw [s25, s23]; omega
      · show (g0 0 23).toInt ≤ (ga 0 25).toInt
        rw [s25]; exact h3
      · show (ga 0 25).toInt = (ga 0 23).toInt → _
        rw [s25, s23]; intro h; omega
      · show 701 - (ga 0 23).toInt < 701 - (g 0 23).toInt
        rw [s23]; omega
      · show 0 < 701 - (g 0 23).toInt
        omega
    refine Ex.ite (fun _ => P159 L) (fun _ => ?_)
    refine e_byte (by omega) (by omega) ?_
    refine Ex.stl (fun L1 _ => P159 L1)
  -- a sign's beginning
  have P50 : ∀ (g : gT) (L : lT), zI MT g → Fr aG [] g0 g → (g 0 23).toInt ≤ (g 0 22).toInt → (g0 0 23).toInt ≤ (g 0 23).toInt → Ex (fX12_goes_p50 fu g L) (fun (_ : Unit) g1 L1 => QG g0 g1) := by
    intro g L hI hF h1 h2
    have q22 := hI 0 22 0 700 rfl
    have q23 := hI 0 23 0 700 rfl
    unfold fX12_goes_p50
    refine Ex.sti (hI.upd (lo := 0) (hi := 700) rfl (by omega) (by omega)) (fun g1 g1e hI => ?_)
    refine Ex.stl (fun L2 _ => ?_)
    refine Ex.sti (hI.upd (lo := 0) (hi := 9999) rfl (by decide) (by decide)) (fun g3 g3e hI => ?_)
    have s22 : g3 0 22 = g 0 22 := by rw [g3e, g1e]; rfl
    have s23 : g3 0 23 = g 0 23 := by rw [g3e, g1e]; rfl
    have s25 : g3 0 25 = g 0 23 := by rw [g3e, g1e]; rfl
    have s27 : g3 0 27 = 0 := by rw [g3e]; exact upd2_at
    have hF : Fr aG [] g0 g3 := by rw [g3e, g1e]; exact (hF.u0 (by decide)).u0 (by decide)
    clear g3e g1e
    rw [s23]
    refine e_byte (by omega) (by rw [s22]; omega) ?_
    generalize hb : bt g3 (g 0 23) = b
    refine Ex.sti (hI.updN rfl) (fun g8 g8e hI => ?_)
    have t22 : g8 0 22 = g 0 22 := by rw [g8e]; exact s22
    have t23 : g8 0 23 = g 0 23 := by rw [g8e]; exact s23
    have t25 : g8 0 25 = g 0 23 := by rw [g8e]; exact s25
    have t27 : g8 0 27 = 0 := by rw [g8e]; exact s27
    have tb : bt g8 (g8 0 23) = b := by
      rw [t23, ← hb]; unfold bt; rw [t22, s22]; rw [g8e]; rfl
    have hF : Fr aG [] g0 g8 := by rw [g8e]; exact hF.u0 (by decide)
    clear g8e s22 s23 s25 s27
    refine Ex.ite (fun c => ?_) (fun c => fin 0 g8 L2 hI hF (by rw [t22, t23]; exact h1) (by rw [t25, t23]; exact Int.le_refl _) (by rw [t25]; exact h2) (fun h => absurd rfl h))
    rw [t23, t22] at c
    have c := icc_lt (m := (g 0 23).toInt) (n := (g 0 22).toInt) rfl rfl c
    refine e_letter (fun _ => ?_) (fun l1 l2 => P108 g8 L2 hI hF (by rw [t22, t23]; exact h1) (by rw [t25, t23]) (by rw [t25]; exact h2) (by rw [tb]; exact l1) (by rw [tb]; exact l2))
    refine e_digit (fun _ => ?_) (fun l1 l2 => P187 g8 L2 hI hF (by rw [t22, t23]; exact h1) (by rw [t25, t23]) (by rw [t25]; exact h2) (by rw [t27]; rfl) (by rw [tb]; exact l1) (by rw [tb]; exact l2))
    rw [t23]
    generalize hw : (g 0 23) + 1 = w
    have ew : w.toInt = (g 0 23).toInt + 1 := by rw [← hw]; exact ic_addc rfl (by decide) (by omega) (by omega)
    refine Ex.sti (hI.upd (lo := 0) (hi := 700) rfl (by omega) (by omega)) (fun ga gae hI => ?_)
    have u22 : ga 0 22 = g 0 22 := by rw [gae]; exact t22
    have u23 : ga 0 23 = w := by rw [gae]; exact upd2_at
    have u25 : ga 0 25 = g 0 23 := by rw [gae]; exact t25
    have hF : Fr aG [] g0 ga := by rw [gae]; exact hF.u0 (by decide)
    have e : ∀ t0 : Int32, Ex (fX12_goes_p328 fu t0 ga L2) (fun (_ : Unit) g1 L1 => QG g0 g1) := fun t0 => fin t0 ga L2 hI hF (by rw [u22, u23]; omega) (by rw [u25, u23]; omega) (by rw [u25]; exact h2) (fun _ => by rw [u25, u23]; omega)
    unfold fX12_goes_p323
    repeat' first | exact e _ | (refine Ex.ite (fun _ => ?_) (fun _ => ?_))
  unfold fX12_goes fX12_goes_l0
  have q22 := hI 0 22 0 700 rfl
  have q23 := hI 0 23 0 700 rfl
  refine Ex.loop (α := gT × lT) (fun v => zI MT v.1 ∧ Fr aG [] g0 v.1 ∧ (v.1 0 23).toInt ≤ (v.1 0 22).toInt ∧ (g0 0 23).toInt ≤ (v.1 0 23).toInt) (fun v => 701 - (v.1 0 23).toInt) (by omega) (by show 701 - (g0 0 23).toInt < (fu : Int); omega) ⟨hI, Fr.refl, hn, Int.le_refl _⟩ (fun k0 v hv ih => ?_)
  clear hI q22 q23
  obtain ⟨g, L⟩ := v
  obtain ⟨hI, hF, h1, h2⟩ := hv
  have hI : zI MT g := hI
  have hF : Fr aG [] g0 g := hF
  have h1 : (g 0 23).toInt ≤ (g 0 22).toInt := h1
  have h2 : (g0 0 23).toInt ≤ (g 0 23).toInt := h2
  have q22 := hI 0 22 0 700 rfl
  have q23 := hI 0 23 0 700 rfl
  show Ex (fX12_goes_s0 fu k0 g L) _
  unfold fX12_goes_s0
  refine Ex.ite (fun _ => P50 g L hI hF h1 h2) (fun c => ?_)
  have c := icc_nle (m := (g 0 22).toInt) (n := (g 0 23).toInt) rfl rfl c
  have P37 : Ex (fX12_goes_p37 fu k0 g L) (fun (_ : Unit) g1 L1 => QG g0 g1) := by
    unfold fX12_goes_p37
    generalize hw : (g 0 23) + 1 = w
    have ew : w.toInt = (g 0 23).toInt + 1 := by rw [← hw]; exact ic_addc rfl (by decide) (by omega) (by omega)
    refine Ex.sti (hI.upd (lo := 0) (hi := 700) rfl (by omega) (by omega)) (fun ga gae hI => ?_)
    have s22 : ga 0 22 = g 0 22 := by rw [gae]; rfl
    have s23 : ga 0 23 = w := by rw [gae]; exact upd2_at
    have hF : Fr aG [] g0 ga := by rw [gae]; exact hF.u0 (by decide)
    refine ih (ga, L) ⟨hI, hF, ?_, ?_⟩ ?_ ?_
    · show (ga 0 23).toInt ≤ (ga 0 22).toInt
      rw [s22, s23]; omega
    · show (g0 0 23).toInt ≤ (ga 0 23).toInt
      rw [s23]; omega
    · show 701 - (ga 0 23).toInt < 701 - (g 0 23).toInt
      rw [s23]; omega
    · show 0 < 701 - (g 0 23).toInt
      omega
  refine e_byte (by omega) (by omega) ?_
  refine Ex.ite (fun _ => P37) (fun _ => ?_)
  refine e_byte (by omega) (by omega) ?_
  exact Ex.ite (fun _ => P37) (fun _ => P50 g L hI hF h1 h2)
section LY
variable {ρ : Type} {Q : ρ → gT → lT → Prop} {g : gT} {L : lT} {fu : Nat}
theorem e_goes {K : Unit → gT → lT → Option (ρ × zS)} (hfu : 1180591620717411303424 ≤ fu) (hI : zI MT g) (hn : pN g) (h : ∀ g1 L1, QG g g1 → Ex (K () g1 L1) Q) : Ex (cb (fX12_goes fu g L) K) Q := Ex.cb (sX12_goes fu hfu g L hI hn.1) (fun _ g1 L1 hq => h g1 L1 hq)
end LY
theorem QG.n {g g1 : gT} (h : QG g g1) (hp : pN g) : QN g g1 := ⟨h.1, h.2.1.mo (by decide) (by decide), h.2.2.1, fun hb => by rw [h.2.1.i (by decide)]; exact hb, Int.le_trans hp.2.1 h.2.2.2⟩
theorem QN.w {g g1 : gT} (hp : pN g) (hI : zI MT g1) (hF : Fr [19, 20] [] g g1) (hb : (g1 0 19).toInt ≠ 0) : QN g g1 := ⟨hI, hF.mo (by decide) (by decide), hp.fr hF (by decide) (by decide) (by decide) (by decide), fun _ => hb, by rw [hF.i (by decide)]; exact Int.le_refl _⟩
theorem QN.refl {g : gT} (hI : zI MT g) (hp : pN g) : QN g g := ⟨hI, Fr.refl, hp, id, Int.le_refl _⟩
theorem QN.tr {g g1 g2 : gT} (h1 : QN g g1) (h2 : QN g1 g2) : QN g g2 := ⟨h2.1, h1.2.1.tr h2.2.1, h2.2.2.1, fun h => h2.2.2.2.1 (h1.2.2.2.1 h), Int.le_trans h1.2.2.2.2 h2.2.2.2.2⟩
def QR (p1 p2 : Int) (g : gT) (r : Int32) (g1 : gT) : Prop := QN g g1 ∧ 0 ≤ r.toInt ∧ r.toInt ≤ 9999 ∧ ((g1 0 19).toInt = 0 → p1 ≤ r.toInt ∧ r.toInt ≤ p2 ∧ (g 0 25).toInt < (g1 0 25).toInt)
theorem sX12_number (fu : Nat) (hfu : 1180591620717411303424 ≤ fu) (p1 p2 : Int32) (g0 : gT) (L0 : lT) (hI : zI MT g0) (hp : pN g0) : Ex (fX12_number fu p1 p2 g0 L0) (fun (r : Int32) g1 L1 => QR p1.toInt p2.toInt g0 r g1) := by
  have bad : ∀ (w : Int32) (K : Unit → gT → lT → Option (Int32 × zS)), w.toInt ≠ 0 → (∀ g1 L1, K () g1 L1 = fX12_number_p54 fu g1 L1) → Ex (cb (fX12_wrong fu w g0 L0) K) (fun (r : Int32) g1 L1 => QR p1.toInt p2.toInt g0 r g1) := by
    intro w K hw hK
    refine e_wrong hI hw (fun g1 hI1 hF hb => ?_)
    rw [hK]
    unfold fX12_number_p54
    refine Ex.lti (fun x xe xi => ?_)
    have q27 := hI1 0 27 0 9999 rfl
    refine e_good (fun h => absurd h hb) (fun _ => ?_)
    unfold fX12_number_p70
    exact Ex.ret ⟨QN.w hp hI1 hF hb, by omega, by omega, fun h => absurd h hb⟩
  unfold fX12_number
  refine e_good (fun hg => ?_) (fun hb => Ex.ret ⟨QN.refl hI hp, by decide, by decide, fun h => absurd h hb⟩)
  refine Ex.ite (fun c => ?_) (fun _ => bad 1 _ (by decide) (fun _ _ => rfl))
  have c := icc_eq (m := (g0 0 24).toInt) (n := 2) rfl (by decide) c
  unfold fX12_number_p49
  refine Ex.ite (fun _ => bad 2 _ (by decide) (fun _ _ => rfl)) (fun _ => ?_)
  refine Ex.ite (fun _ => bad 2 _ (by decide) (fun _ _ => rfl)) (fun c1 => ?_)
  refine Ex.ite (fun c2 => ?_) (fun _ => bad 2 _ (by decide) (fun _ _ => rfl))
  have c1 := icc_nlt (m := (g0 0 27).toInt) (n := p1.toInt) rfl rfl c1
  have c2 := icc_le (m := (g0 0 27).toInt) (n := p2.toInt) rfl rfl c2
  have q27 := hI 0 27 0 9999 rfl
  unfold fX12_number_p54
  refine Ex.lti (fun x xe xi => ?_)
  refine e_good (fun _ => ?_) (fun h => absurd hg h)
  refine e_goes hfu hI hp (fun g1 L1 hq => ?_)
  unfold fX12_number_p70
  refine Ex.ret ⟨hq.n hp, by omega, by omega, fun _ => ⟨by omega, by omega, ?_⟩⟩
  have := hp.2.2 (by omega)
  have := hq.2.2.2
  omega
theorem sX12_need (fu : Nat) (hfu : 1180591620717411303424 ≤ fu) (p1 : Int32) (g0 : gT) (L0 : lT) (hI : zI MT g0) (hp : pN g0) : Ex (fX12_need fu p1 g0 L0) (fun (_ : Unit) g1 L1 => QN g0 g1) := by
  unfold fX12_need fX12_need_p24
  refine e_good (fun hg => ?_) (fun hb => Ex.ret (QN.refl hI hp))
  refine Ex.ite (fun _ => ?_) (fun _ => e_goes hfu hI hp (fun g1 L1 hq => Ex.ret (hq.n hp)))
  exact e_wrong hI (by decide) (fun g1 hI1 hF hb => Ex.ret (QN.w hp hI1 hF hb))
theorem sX12_perhaps (fu : Nat) (hfu : 1180591620717411303424 ≤ fu) (p1 p2 p3 : Int32) (g0 : gT) (L0 : lT) (hI : zI MT g0) (hp : pN g0) : Ex (fX12_perhaps fu p1 p2 p3 g0 L0) (fun (r : Int32) g1 L1 => QN g0 g1) := by
  unfold fX12_perhaps fX12_perhaps_p15
  refine e_good (fun hg => ?_) (fun hb => Ex.ret (QN.refl hI hp))
  refine e_known hfu (fun x L1 _ _ _ => ?_)
  refine Ex.ite (fun _ => ?_) (fun _ => Ex.ret (QN.refl hI hp))
  refine e_goes hfu hI hp (fun g1 L2 hq => ?_)
  refine Ex.cb (sX12_number fu hfu 0 p3 g1 L2 hq.1 hq.2.2.1) (fun r g2 L3 hr => ?_)
  exact Ex.ret ((hq.n hp).tr hr.1)
