/-! ===== the reference's parser: the code that is written ===== -/
def stp (c : Nat → Int32) (t h t' h' : Nat) : Prop := ((c t).toInt = 1 ∧ t' = t + 2 ∧ h' = h + 1) ∨ ((c t).toInt = 2 ∧ 0 ≤ (c (t + 1)).toInt ∧ (c (t + 1)).toInt ≤ 5 ∧ t' = t + 2 ∧ h' = h + 1) ∨ ((c t).toInt = 3 ∧ 1 ≤ h ∧ t' = t + 1 ∧ h' = h) ∨ (4 ≤ (c t).toInt ∧ 2 ≤ h ∧ t' = t + 1 ∧ h' + 1 = h)
/-- n steps from place s, with nothing on the pile, to place t, with h on it -/
def rn (c : Nat → Int32) (s : Nat) : Nat → Nat → Nat → Prop
  | 0, t, h => t = s ∧ h = 0
  | n + 1, t, h => ∃ t' h', rn c s n t' h' ∧ stp c t' h' t h
theorem rn_b {c : Nat → Int32} {s : Nat} : ∀ {n t h : Nat}, rn c s n t h → s + n ≤ t ∧ 2 * h + s ≤ t := by
  intro n
  induction n with
  | zero => intro t h hr; obtain ⟨h1, h2⟩ := hr; omega
  | succ n ih =>
    intro t h hr
    obtain ⟨t', h', hr, hs⟩ := hr
    have := ih hr
    rcases hs with ⟨-, h1, h2⟩ | ⟨-, -, -, h1, h2⟩ | ⟨-, -, h1, h2⟩ | ⟨-, -, h1, h2⟩ <;> omega
theorem rn_c {c c' : Nat → Int32} {s : Nat} : ∀ {n t h : Nat}, (∀ j, j < t → c' j = c j) → rn c s n t h → rn c' s n t h := by
  intro n
  induction n with
  | zero => intro t h _ hr; exact hr
  | succ n ih =>
    intro t h hc hr
    obtain ⟨t', h', hr, hs⟩ := hr
    refine ⟨t', h', ih (fun j hj => hc j ?_) hr, ?_⟩
    · rcases hs with ⟨-, h1, h2⟩ | ⟨-, -, -, h1, h2⟩ | ⟨-, -, h1, h2⟩ | ⟨-, -, h1, h2⟩ <;> omega
    · rcases hs with ⟨h0, h1, h2⟩ | ⟨h0, h3, h4, h1, h2⟩ | ⟨h0, h3, h1, h2⟩ | ⟨h0, h3, h1, h2⟩
      · exact Or.inl ⟨by rw [hc t' (by omega)]; exact h0, h1, h2⟩
      · exact Or.inr (Or.inl ⟨by rw [hc t' (by omega)]; exact h0, by rw [hc (t' + 1) (by omega)]; exact h3, by rw [hc (t' + 1) (by omega)]; exact h4, h1, h2⟩)
      · exact Or.inr (Or.inr (Or.inl ⟨by rw [hc t' (by omega)]; exact h0, h3, h1, h2⟩))
      · exact Or.inr (Or.inr (Or.inr ⟨by rw [hc t' (by omega)]; exact h0, h3, h1, h2⟩))
theorem rn_wf {c : Nat → Int32} {s : Nat} : ∀ {n m t h : Nat}, rn c s n t h → t < 1900 → wf c m t h → wf c (n + m) s 0 := by
  intro n
  induction n with
  | zero =>
    intro m t h hr _ hw
    obtain ⟨rfl, rfl⟩ := hr
    rw [Nat.zero_add]; exact hw
  | succ n ih =>
    intro m t h hr ht hw
    obtain ⟨t', h', hr, hs⟩ := hr
    have b := rn_b hr
    have key : t' < 1900 ∧ wf c (m + 1) t' h' := by
      rcases hs with ⟨h0, h1, h2⟩ | ⟨h0, h3, h4, h1, h2⟩ | ⟨h0, h3, h1, h2⟩ | ⟨h0, h3, h1, h2⟩
      · subst h1 h2
        exact ⟨by omega, by omega, Or.inr (Or.inl ⟨h0, by omega, by omega, hw⟩)⟩
      · subst h1 h2
        exact ⟨by omega, by omega, Or.inr (Or.inr (Or.inl ⟨h0, by omega, by omega, h3, h4, hw⟩))⟩
      · subst h1 h2
        exact ⟨by omega, by omega, Or.inr (Or.inr (Or.inr (Or.inl ⟨h0, h3, by omega, hw⟩)))⟩
      · subst h1
        have e : h = h' - 1 := by omega
        subst e
        exact ⟨by omega, by omega, Or.inr (Or.inr (Or.inr (Or.inr ⟨by omega, by omega, by omega, by omega, h3, by omega, hw⟩)))⟩
    have := ih hr key.1 key.2
    rw [show n + 1 + m = n + (m + 1) by omega]; exact this
def cl (c : Nat → Int32) (s T : Nat) : Prop := ∃ n t h, rn c s n t h ∧ (c t).toInt = 0 ∧ t < T
theorem cl_wf {c : Nat → Int32} {s T : Nat} (hT : T ≤ 1900) (h : cl c s T) : ∃ n : Nat, n ≤ 2000 ∧ wf c n s 0 := by
  obtain ⟨n, t, h, hr, h0, ht⟩ := h
  have b := rn_b hr
  exact ⟨n + 1, by omega, rn_wf hr (by omega) ⟨by omega, Or.inl h0⟩⟩
theorem cl_c {c c' : Nat → Int32} {s T T' : Nat} (hc : ∀ j, j < T → c' j = c j) (hT : T ≤ T') (h : cl c s T) : cl c' s T' := by
  obtain ⟨n, t, h, hr, h0, ht⟩ := h
  exact ⟨n, t, h, rn_c (fun j hj => hc j (by omega)) hr, by rw [hc t ht]; exact h0, by omega⟩
/-- code that agrees below the end of the store -/
theorem wf_c {c c' : Nat → Int32} (hc : ∀ j, j < 1900 → c' j = c j) : ∀ {n k m : Nat}, wf c n k m → wf c' n k m := by
  intro n
  induction n with
  | zero => intro k m h; exact h
  | succ n ih =>
    intro k m h
    obtain ⟨hk, h⟩ := h
    refine ⟨hk, ?_⟩
    rw [hc k hk]
    rcases h with h | ⟨h, h1, h2, h3⟩ | ⟨h, h1, h2, h3, h4, h5⟩ | ⟨h, h1, h2, h3⟩ | ⟨h, h1, h2, h3, h4, h5, h6⟩
    · exact Or.inl h
    · exact Or.inr (Or.inl ⟨h, h1, h2, ih h3⟩)
    · exact Or.inr (Or.inr (Or.inl ⟨h, h1, h2, by rw [hc (k + 1) h1]; exact h3, by rw [hc (k + 1) h1]; exact h4, ih h5⟩))
    · exact Or.inr (Or.inr (Or.inr (Or.inl ⟨h, h1, h2, ih h3⟩)))
    · exact Or.inr (Or.inr (Or.inr (Or.inr ⟨h, h1, h2, h3, h4, h5, ih h6⟩)))
/-- binary acts, and openings, that wait -/
def cB (w : Nat → Int32) : Nat → Nat
  | 0 => 0
  | n + 1 => cB w n + (if 4 ≤ (w n).toInt ∧ (w n).toInt ≤ 11 then 1 else 0)
def cO (w : Nat → Int32) : Nat → Nat
  | 0 => 0
  | n + 1 => cO w n + (if 14 ≤ (w n).toInt then 1 else 0)
def wOk (w : Nat → Int32) (n : Nat) : Prop := ∀ i, i < n → 3 ≤ (w i).toInt ∧ ((w i).toInt ≤ 11 ∨ 14 ≤ (w i).toInt)
theorem cB_c {w w' : Nat → Int32} : ∀ {n : Nat}, (∀ i, i < n → w' i = w i) → cB w' n = cB w n := by
  intro n
  induction n with
  | zero => intro _; rfl
  | succ n ih => intro h; unfold cB; rw [ih (fun i hi => h i (by omega)), h n (by omega)]
theorem cO_c {w w' : Nat → Int32} : ∀ {n : Nat}, (∀ i, i < n → w' i = w i) → cO w' n = cO w n := by
  intro n
  induction n with
  | zero => intro _; rfl
  | succ n ih => intro h; unfold cO; rw [ih (fun i hi => h i (by omega)), h n (by omega)]
theorem cB_b {w : Nat → Int32} {n : Nat} (h : 4 ≤ (w n).toInt) (h' : (w n).toInt ≤ 11) : cB w (n + 1) = cB w n + 1 := by
  show cB w n + _ = _; rw [if_pos ⟨h, h'⟩]
theorem cB_n {w : Nat → Int32} {n : Nat} (h : ¬ (4 ≤ (w n).toInt ∧ (w n).toInt ≤ 11)) : cB w (n + 1) = cB w n := by
  show cB w n + _ = _; rw [if_neg h]; rfl
theorem cO_o {w : Nat → Int32} {n : Nat} (h : 14 ≤ (w n).toInt) : cO w (n + 1) = cO w n + 1 := by
  show cO w n + _ = _; rw [if_pos h]
theorem cO_n {w : Nat → Int32} {n : Nat} (h : ¬ 14 ≤ (w n).toInt) : cO w (n + 1) = cO w n := by
  show cO w n + _ = _; rw [if_neg h]; rfl
theorem cO_ge {w : Nat → Int32} {i : Nat} (h : 14 ≤ (w i).toInt) : ∀ {n : Nat}, i < n → 1 ≤ cO w n := by
  intro n
  induction n with
  | zero => intro hi; omega
  | succ n ih =>
    intro hi
    by_cases e : i = n
    · subst e; rw [cO_o h]; omega
    · have := ih (by omega)
      show 1 ≤ cO w n + _
      omega
abbrev gW (g : gT) : Nat := (g 0 36).toInt.toNat
abbrev gP (g : gT) : Nat := (g 0 35).toInt.toNat
theorem upd_at {f : Nat → Int32} {k : Nat} {x : Int32} : upd f k x k = x := if_pos rfl
theorem upd_ne {f : Nat → Int32} {k j : Nat} {x : Int32} (h : j ≠ k) : upd f k x j = f j := if_neg h
/-- a state behind puts, waitsFor -/
theorem upd2_k {g : gT} {k j : Nat} {x : Int32} : upd2 g k j x k = upd (g k) j x := updA_at
theorem puts_eq {fu : Nat} {v : Int32} {g : gT} {L : lT} (h0 : 0 ≤ (g 0 35).toInt) (h1 : (g 0 35).toInt < 1900) : ∃ g1, fX12_puts fu v g L = some ((), (g1, L)) ∧ (zI MT g → zI MT g1) ∧ Fr [35] [26] g g1 ∧ (g1 0 35).toInt = (g 0 35).toInt + 1 ∧ (∀ j, j ≠ gP g → g1 26 j = g 26 j) ∧ g1 26 (gP g) = v := by
  have ew : (g 0 35 + 1).toInt = (g 0 35).toInt + 1 := ic_addc rfl (by decide) (by omega) (by omega)
  refine ⟨upd2 (upd2 g 26 (gP g) v) 0 35 (g 0 35 + 1), ?_, fun hI => (hI.updN rfl).upd (lo := 0) (hi := 1900) rfl (by omega) (by omega), (Fr.refl.uk (by decide) (by decide)).u0 (by decide), ?_, fun j hj => ?_, ?_⟩
  · unfold fX12_puts
    rw [ck_eq h0 (by omega)]
    rfl
  · rw [upd2_at]; exact ew
  · rw [upd2_nk (by decide), upd2_nj hj]
  · rw [upd2_nk (by decide), upd2_at]
theorem waitsFor_eq {fu : Nat} {v : Int32} {g : gT} {L : lT} (h0 : 0 ≤ (g 0 36).toInt) (h1 : (g 0 36).toInt < 950) : ∃ g1, fX12_waitsFor fu v g L = some ((), (g1, L)) ∧ (zI MT g → zI MT g1) ∧ Fr [36] [27] g g1 ∧ (g1 0 36).toInt = (g 0 36).toInt + 1 ∧ (∀ j, j ≠ gW g → g1 27 j = g 27 j) ∧ g1 27 (gW g) = v := by
  have ew : (g 0 36 + 1).toInt = (g 0 36).toInt + 1 := ic_addc rfl (by decide) (by omega) (by omega)
  refine ⟨upd2 (upd2 g 27 (gW g) v) 0 36 (g 0 36 + 1), ?_, fun hI => (hI.updN rfl).upd (lo := 0) (hi := 950) rfl (by omega) (by omega), (Fr.refl.uk (by decide) (by decide)).u0 (by decide), ?_, fun j hj => ?_, ?_⟩
  · unfold fX12_waitsFor
    rw [ck_eq h0 (by omega)]
    rfl
  · rw [upd2_at]; exact ew
  · rw [upd2_nk (by decide), upd2_nj hj]
  · rw [upd2_nk (by decide), upd2_at]
section LZ
variable {ρ : Type} {Q : ρ → gT → lT → Prop} {g : gT} {L : lT} {fu : Nat}
theorem e_puts {v : Int32} {K : Unit → gT → lT → Option (ρ × zS)} (hI : zI MT g) (h1 : (g 0 35).toInt < 1900) (h : ∀ g1, zI MT g1 → Fr [35] [26] g g1 → (g1 0 35).toInt = (g 0 35).toInt + 1 → (∀ j, j ≠ gP g → g1 26 j = g 26 j) → g1 26 (gP g) = v → Ex (K () g1 L) Q) : Ex (cb (fX12_puts fu v g L) K) Q := by
  have q35 := hI 0 35 0 1900 rfl
  obtain ⟨g1, e, k1, k2, k3, k4, k5⟩ := puts_eq (fu := fu) (v := v) (g := g) (L := L) (by omega) h1
  rw [e]; exact h g1 (k1 hI) k2 k3 k4 k5
theorem e_waitsFor {v : Int32} {K : Unit → gT → lT → Option (ρ × zS)} (hI : zI MT g) (h1 : (g 0 36).toInt < 950) (h : ∀ g1, zI MT g1 → Fr [36] [27] g g1 → (g1 0 36).toInt = (g 0 36).toInt + 1 → (∀ j, j ≠ gW g → g1 27 j = g 27 j) → g1 27 (gW g) = v → Ex (K () g1 L) Q) : Ex (cb (fX12_waitsFor fu v g L) K) Q := by
  have q36 := hI 0 36 0 950 rfl
  obtain ⟨g1, e, k1, k2, k3, k4, k5⟩ := waitsFor_eq (fu := fu) (v := v) (g := g) (L := L) (by omega) h1
  rw [e]; exact h g1 (k1 hI) k2 k3 k4 k5
theorem e_isOpen {c : Int32} {A B : gT → lT → Option (ρ × zS)} (h1 : 14 ≤ c.toInt → Ex (B g L) Q) (h0 : c.toInt < 14 → Ex (A g L) Q) : Ex (cb (fX12_isOpen fu c g L) (fun x g1 L1 => if x = 0 then A g1 L1 else B g1 L1)) Q := by
  unfold fX12_isOpen fX12_isOpen_p11
  rw [ckb0, ckb1]
  by_cases c1 : c < 14
  · rw [if_pos c1]; exact e_b0 (h0 (icc_lt (m := c.toInt) (n := 14) rfl (by decide) c1))
  · rw [if_neg c1]; exact e_b1 (h1 (icc_nlt (m := c.toInt) (n := 14) rfl (by decide) c1))
theorem e_strength {c : Int32} {K : Int32 → gT → lT → Option (ρ × zS)} (h : ∀ x : Int32, 1 ≤ x.toInt → Ex (K x g L) Q) : Ex (cb (fX12_strength fu c g L) K) Q := by
  have e : ∃ x : Int32, 1 ≤ x.toInt ∧ fX12_strength fu c g L = some (x, (g, L)) := by
    unfold fX12_strength fX12_strength_p39 fX12_strength_p55 fX12_strength_p61
    repeat' first | exact ⟨_, by decide, rfl⟩ | split
  obtain ⟨x, h1, h2⟩ := e
  rw [h2]; exact h x h1
end LZ
/-- what drops does -/
def DQ (g g1 : gT) : Prop := zI MT g1 ∧ Fr [35, 36] [26] g g1 ∧ (g1 0 35).toInt + (g1 0 36).toInt = (g 0 35).toInt + (g 0 36).toInt ∧ (g 0 35).toInt ≤ (g1 0 35).toInt ∧ (∀ j, j < gP g → g1 26 j = g 26 j) ∧ (∀ s n h, rn (g 26) s n (gP g) h → h = cB (g 27) (gW g) + 1 → wOk (g 27) (gW g) → ∃ n' h', rn (g1 26) s n' (gP g1) h' ∧ h' = cB (g 27) (gW g1) + 1 ∧ cO (g 27) (gW g1) = cO (g 27) (gW g))
theorem DQ.refl {g : gT} (hI : zI MT g) : DQ g g := ⟨hI, Fr.refl, rfl, Int.le_refl _, fun _ _ => rfl, fun s n h h1 h2 _ => ⟨n, h, h1, h2, rfl⟩⟩
theorem DQ.tr {g g1 g2 : gT} (hI : zI MT g) (h1 : DQ g g1) (h2 : DQ g1 g2) : DQ g g2 := by
  obtain ⟨a1, a2, a3, a4, a5, a6⟩ := h1
  obtain ⟨b1, b2, b3, b4, b5, b6⟩ := h2
  have q35 := hI 0 35 0 1900 rfl
  have q36 := hI 0 36 0 950 rfl
  have r36 := a1 0 36 0 950 rfl
  have r35 := a1 0 35 0 1900 rfl
  have e27 : g1 27 = g 27 := a2.2 27 (by decide) (by decide)
  have hp : gP g ≤ gP g1 := by show (g 0 35).toInt.toNat ≤ (g1 0 35).toInt.toNat; omega
  have hw : gW g1 ≤ gW g := by show (g1 0 36).toInt.toNat ≤ (g 0 36).toInt.toNat; omega
  refine ⟨b1, a2.tr b2, by omega, by omega, fun j hj => (b5 j (by omega)).trans (a5 j hj), fun s n h k1 k2 k3 => ?_⟩
  obtain ⟨n1, h1, c1, c2, c3⟩ := a6 s n h k1 k2 k3
  rw [e27] at b6
  obtain ⟨n2, h2, d1, d2, d3⟩ := b6 s n1 h1 c1 c2 (fun i hi => k3 i (by omega))
  exact ⟨n2, h2, d1, d2, d3.trans c3⟩
/-- one act more is put -/
theorem DQ.step {g ga g1 : gT} (hI : zI MT g) (hw : 0 < (g 0 36).toInt) (hS : (g 0 35).toInt + (g 0 36).toInt ≤ 1890) (ea : ga = upd2 g 0 36 (g 0 36 - 1)) (hI1 : zI MT g1) (hF : Fr [35] [26] ga g1) (hp : (g1 0 35).toInt = (ga 0 35).toInt + 1) (hc : ∀ j, j ≠ gP ga → g1 26 j = ga 26 j) (hv : g1 26 (gP ga) = g 27 (gW g - 1)) (ho : (g 27 (gW g - 1)).toInt < 14) : DQ g g1 := by
  have q35 := hI 0 35 0 1900 rfl
  have q36 := hI 0 36 0 950 rfl
  have ew : (g 0 36 - 1).toInt = (g 0 36).toInt - 1 := ic_subc rfl (by decide) (by omega) (by omega)
  have hFa : Fr [35, 36] [26] g ga := by rw [ea]; exact Fr.refl.u0 (by decide)
  have a36 : (ga 0 36).toInt = (g 0 36).toInt - 1 := by rw [ea, upd2_at]; exact ew
  have a35 : (ga 0 35).toInt = (g 0 35).toInt := by rw [ea]; rfl
  have a26 : ga 26 = g 26 := by rw [ea]; rfl
  have b36 : (g1 0 36).toInt = (g 0 36).toInt - 1 := by rw [hF.i (by decide)]; exact a36
  have b35 : (g1 0 35).toInt = (g 0 35).toInt + 1 := by omega
  have eP : gP ga = gP g := by show (ga 0 35).toInt.toNat = (g 0 35).toInt.toNat; rw [a35]
  have eP1 : gP g1 = gP g + 1 := by show (g1 0 35).toInt.toNat = (g 0 35).toInt.toNat + 1; omega
  have eW1 : gW g1 = gW g - 1 := by show (g1 0 36).toInt.toNat = (g 0 36).toInt.toNat - 1; omega
  have eW : gW g = (gW g - 1) + 1 := by have : 0 < gW g := (by show 0 < (g 0 36).toInt.toNat; omega); omega
  rw [eP] at hc hv
  rw [a26] at hc
  refine ⟨hI1, hFa.tr (hF.mo (by decide) (by decide)), by omega, by omega, fun j hj => hc j (by omega), fun s n h k1 k2 k3 => ?_⟩
  have k3 := k3 (gW g - 1) (by omega)
  have hr : rn (g1 26) s n (gP g) h := rn_c (fun j hj => hc j (by omega)) k1
  rw [eP1, eW1]
  by_cases hb : 4 ≤ (g 27 (gW g - 1)).toInt
  · have e1 := cB_b (w := g 27) (n := gW g - 1) hb (by omega)
    have e2 := cO_n (w := g 27) (n := gW g - 1) (by omega)
    rw [← eW] at e1 e2
    refine ⟨n + 1, h - 1, ⟨gP g, h, hr, Or.inr (Or.inr (Or.inr ⟨by rw [hv]; exact hb, by omega, rfl, by omega⟩))⟩, by omega, e2.symm⟩
  · have e1 := cB_n (w := g 27) (n := gW g - 1) (by omega)
    have e2 := cO_n (w := g 27) (n := gW g - 1) (by omega)
    rw [← eW] at e1 e2
    refine ⟨n + 1, h, ⟨gP g, h, hr, Or.inr (Or.inr (Or.inl ⟨by rw [hv]; omega, by omega, rfl, rfl⟩))⟩, by omega, e2.symm⟩
set_option maxHeartbeats 4000000 in
theorem sX12_drops (fu : Nat) (hfu : 1180591620717411303424 ≤ fu) (p1 : Int32) (g0 : gT) (L0 : lT) (hI : zI MT g0) (hS : (g0 0 35).toInt + (g0 0 36).toInt ≤ 1890) : Ex (fX12_drops fu p1 g0 L0) (fun (_ : Unit) g1 L1 => DQ g0 g1 ∧ (p1.toInt ≤ 0 → (g1 0 36).toInt ≤ 0 ∨ 14 ≤ (g0 27 (gW g1 - 1)).toInt)) := by
  unfold fX12_drops fX12_drops_l0
  have q36 := hI 0 36 0 950 rfl
  refine Ex.loop (α := gT × lT) (fun v => DQ g0 v.1) (fun v => (v.1 0 36).toInt) (by omega) (by show (g0 0 36).toInt < (fu : Int); omega) (DQ.refl hI) (fun k0 v hv ih => ?_)
  obtain ⟨g, L⟩ := v
  have hv : DQ g0 g := hv
  have hI1 : zI MT g := hv.1
  have q36 := hI1 0 36 0 950 rfl
  have q35 := hI1 0 35 0 1900 rfl
  have e27 : g 27 = g0 27 := hv.2.1.2 27 (by decide) (by decide)
  have hS1 := hv.2.2.1
  show Ex (fX12_drops_s0 fu p1 k0 g L) _
  unfold fX12_drops_s0 fX12_drops_p68
  refine Ex.ite (fun c => Ex.ret ⟨hv, fun _ => Or.inl (icc_le (m := (g 0 36).toInt) (n := 0) rfl (by decide) c)⟩) (fun c => ?_)
  have c := icc_nle (m := (g 0 36).toInt) (n := 0) rfl (by decide) c
  have ew : (g 0 36 - 1).toInt = (g 0 36).toInt - 1 := ic_subc rfl (by decide) (by omega) (by omega)
  have eN : (g 0 36 - 1).toNatClampNeg = gW g - 1 := by
    show (g 0 36 - 1).toInt.toNat = (g 0 36).toInt.toNat - 1
    rw [ew]; omega
  refine Ex.ck (by omega) (by omega) ?_
  rw [eN]
  refine e_isOpen (fun ho => Ex.ret ⟨hv, fun _ => Or.inr (by rw [← e27]; exact ho)⟩) (fun ho => ?_)
  refine Ex.ck (by omega) (by omega) ?_
  refine e_strength (fun x hx => ?_)
  refine Ex.ite (fun c1 => Ex.ret ⟨hv, fun hp => ?_⟩) (fun _ => ?_)
  · have c1 := icc_lt (m := x.toInt) (n := p1.toInt) rfl rfl c1
    omega
  refine Ex.sti (hI1.upd (lo := 0) (hi := 950) rfl (by omega) (by omega)) (fun ga gae hIa => ?_)
  have a36 : ga 0 36 = g 0 36 - 1 := by rw [gae]; exact upd2_at
  have a35 : (ga 0 35).toInt = (g 0 35).toInt := by rw [gae]; rfl
  have a27 : ga 27 = g 27 := by rw [gae]; rfl
  rw [a36, eN, a27]
  refine Ex.ck (by omega) (by omega) ?_
  refine e_puts hIa (by omega) (fun g1 hI2 hF hp hc hvv => ?_)
  have hd := DQ.step hI1 c (by omega) gae hI2 hF hp hc hvv ho
  have b36 : (g1 0 36).toInt = (g 0 36).toInt - 1 := by rw [hF.i (by decide), a36]; exact ew
  exact ih (g1, L) (hv.tr hI hd) (show (g1 0 36).toInt < (g 0 36).toInt by omega) (show 0 < (g 0 36).toInt by omega)
