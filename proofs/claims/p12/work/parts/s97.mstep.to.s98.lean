section
/-! ===== what is written, what waits ===== -/
/-- a step of the class's code, as the reference writes it -/
def en1 (x : Int) : List Int := if 0 ≤ x then [1, x] else if -6 ≤ x then [2, -1 - x] else if x = -7 then [8] else if x = -8 then [9] else if x = -9 then [10] else if x = -10 then [11] else if x = -11 then [6] else if x = -12 then [7] else if x = -13 then [4] else if x = -14 then [5] else [3]
def enc : List Int → List Int
  | [] => []
  | x :: c => en1 x ++ enc c
theorem enc_ap : ∀ (c d : List Int), enc (c ++ d) = enc c ++ enc d := by
  intro c
  induction c with
  | nil => intro d; rfl
  | cons x c ih =>
    intro d
    show en1 x ++ enc (c ++ d) = (en1 x ++ enc c) ++ enc d
    rw [ih, List.append_assoc]
theorem enc_1 {x : Int} : enc [x] = en1 x := List.append_nil _
/-- how strongly an act binds -/
def stg (a : Int) : Int := if a = 5 then 1 else if a = 4 then 2 else if a = 3 then 3 else if a = 6 then 4 else if a = 7 then 4 else if a = 8 then 5 else if a = 9 then 5 else 6
theorem stg_le (a : Int) : 1 ≤ stg a ∧ stg a ≤ 6 := by
  unfold stg
  by_cases h5 : a = 5
  · rw [if_pos h5]; decide
  rw [if_neg h5]
  by_cases h4 : a = 4
  · rw [if_pos h4]; decide
  rw [if_neg h4]
  by_cases h3 : a = 3
  · rw [if_pos h3]; decide
  rw [if_neg h3]
  by_cases h6 : a = 6
  · rw [if_pos h6]; decide
  rw [if_neg h6]
  by_cases h7 : a = 7
  · rw [if_pos h7]; decide
  rw [if_neg h7]
  by_cases h8 : a = 8
  · rw [if_pos h8]; decide
  rw [if_neg h8]
  by_cases h9 : a = 9
  · rw [if_pos h9]; decide
  rw [if_neg h9]; decide
/-- those that wait, the last one first -/
def wL : List Int → Nat → (Nat → Int32) → Prop
  | [], n, _ => n = 0
  | a :: w, n, f => ∃ m, n = m + 1 ∧ (f m).toInt = a ∧ wL w m f
theorem wL.c {f f' : Nat → Int32} : ∀ {w : List Int} {n : Nat}, wL w n f → (∀ j, j < n → f' j = f j) → wL w n f' := by
  intro w
  induction w with
  | nil => intro n h _; exact h
  | cons a w ih =>
    intro n h hj
    obtain ⟨m, rfl, h1, h2⟩ := h
    exact ⟨m, rfl, by rw [hj m (by omega)]; exact h1, ih h2 (fun j h => hj j (by omega))⟩
/-- the code that is written from s on, and what waits -/
def StR (s : Nat) (e w : List Int) (g : gT) : Prop := gP g = s + e.length ∧ (∀ i (hi : i < e.length), (g 26 (s + i)).toInt = e[i]) ∧ wL w (gW g) (g 27)
theorem StR.c {s : Nat} {e w : List Int} {g g1 : gT} (h : StR s e w g) (h35 : (g1 0 35).toInt = (g 0 35).toInt) (h36 : (g1 0 36).toInt = (g 0 36).toInt) (h26 : g1 26 = g 26) (h27 : g1 27 = g 27) : StR s e w g1 := by
  obtain ⟨a1, a2, a3⟩ := h
  have eP : gP g1 = gP g := by show (g1 0 35).toInt.toNat = (g 0 35).toInt.toNat; rw [h35]
  have eW : gW g1 = gW g := by show (g1 0 36).toInt.toNat = (g 0 36).toInt.toNat; rw [h36]
  exact ⟨by rw [eP]; exact a1, fun i hi => by rw [h26]; exact a2 i hi, by rw [eW, h27]; exact a3⟩
theorem StR.f {s : Nat} {e w : List Int} {g g1 : gT} {A B : List Nat} (h : StR s e w g) (hF : Fr A B g g1) (h35 : 35 ∉ A) (h36 : 36 ∉ A) (h26 : 26 ∉ B) (h27 : 27 ∉ B) : StR s e w g1 := h.c (hF.i h35) (hF.i h36) (hF.2 26 (by decide) h26) (hF.2 27 (by decide) h27)
theorem StR.push {s : Nat} {e w : List Int} {g g1 : gT} {v : Int32} (h : StR s e w g) (h0 : 0 ≤ (g 0 36).toInt) (k2 : Fr [36] [27] g g1) (k3 : (g1 0 36).toInt = (g 0 36).toInt + 1) (k4 : ∀ j, j ≠ gW g → g1 27 j = g 27 j) (k5 : g1 27 (gW g) = v) : StR s e (v.toInt :: w) g1 := by
  obtain ⟨a1, a2, a3⟩ := h
  have eP : gP g1 = gP g := by show (g1 0 35).toInt.toNat = (g 0 35).toInt.toNat; rw [k2.i (by decide)]
  refine ⟨by rw [eP]; exact a1, fun i hi => by rw [k2.2 26 (by decide) (by decide)]; exact a2 i hi, gW g, ?_, by rw [k5], a3.c (fun j hj => k4 j (by omega))⟩
  show (g1 0 36).toInt.toNat = (g 0 36).toInt.toNat + 1
  omega
theorem StR.put {s : Nat} {e w : List Int} {g g1 : gT} {v : Int32} (h : StR s e w g) (h0 : 0 ≤ (g 0 35).toInt) (hF : Fr [35] [26] g g1) (p : (g1 0 35).toInt = (g 0 35).toInt + 1) (c : ∀ j, j ≠ gP g → g1 26 j = g 26 j) (hv : g1 26 (gP g) = v) : StR s (e ++ [v.toInt]) w g1 := by
  obtain ⟨a1, a2, a3⟩ := h
  have eW : gW g1 = gW g := by show (g1 0 36).toInt.toNat = (g 0 36).toInt.toNat; rw [hF.i (by decide)]
  refine ⟨?_, fun i hi => ?_, by rw [eW, hF.2 27 (by decide) (by decide)]; exact a3⟩
  · have e1 : gP g1 = gP g + 1 := by show (g1 0 35).toInt.toNat = (g 0 35).toInt.toNat + 1; omega
    rw [e1, a1, List.length_append]; rfl
  · rw [List.length_append] at hi
    have hi : i < e.length + 1 := hi
    by_cases h : i < e.length
    · rw [c (s + i) (by omega), List.getElem_append_left h]; exact a2 i h
    · obtain rfl : i = e.length := by omega
      rw [← a1, hv, List.getElem_append_right (Nat.le_refl _)]
      simp
/-- what waits below: nothing of it is dropped -/
def lowW (t : Int) : List Int → Prop
  | [] => True
  | a :: _ => 14 ≤ a ∨ stg a < t
theorem lowW.mo {t t' : Int} {w : List Int} (h : lowW t w) (ht : t ≤ t') : lowW t' w := by
  cases w with
  | nil => exact trivial
  | cons a w => exact h.elim Or.inl (fun h => Or.inr (show stg a < t' by have h : stg a < t := h; omega))
def pOk (t : Int) (pend : List Int) : Prop := ∀ a, a ∈ pend → 3 ≤ a ∧ a ≤ 11 ∧ t ≤ stg a
theorem pOk.mo {t t' : Int} {p : List Int} (h : pOk t p) (ht : t' ≤ t) : pOk t' p := fun a ha => by have := h a ha; exact ⟨this.1, this.2.1, by omega⟩
theorem strength_eq {fu : Nat} {c : Int32} {g : gT} {L : lT} : ∃ x : Int32, fX12_strength fu c g L = some (x, (g, L)) ∧ x.toInt = stg c.toInt := by
  unfold fX12_strength fX12_strength_p39 fX12_strength_p55 fX12_strength_p61 stg
  have key : ∀ (k : Int32) (m : Int), k.toInt = m → (c = k ↔ c.toInt = m) := fun k m e => by rw [← e]; exact ic_eq
  by_cases h5 : c = 5
  · exact ⟨1, by rw [if_pos h5], by rw [if_pos ((key 5 5 rfl).mp h5)]; rfl⟩
  rw [if_neg h5, if_neg (fun h => h5 ((key 5 5 rfl).mpr h))]
  by_cases h4 : c = 4
  · exact ⟨2, by rw [if_pos h4], by rw [if_pos ((key 4 4 rfl).mp h4)]; rfl⟩
  rw [if_neg h4, if_neg (fun h => h4 ((key 4 4 rfl).mpr h))]
  by_cases h3 : c = 3
  · exact ⟨3, by rw [if_pos h3], by rw [if_pos ((key 3 3 rfl).mp h3)]; rfl⟩
  rw [if_neg h3, if_neg (fun h => h3 ((key 3 3 rfl).mpr h))]
  by_cases h6 : c = 6
  · exact ⟨4, by rw [if_pos h6], by rw [if_pos ((key 6 6 rfl).mp h6)]; rfl⟩
  rw [if_neg h6, if_neg (fun h => h6 ((key 6 6 rfl).mpr h))]
  by_cases h7 : c = 7
  · exact ⟨4, by rw [if_pos h7], by rw [if_pos ((key 7 7 rfl).mp h7)]; rfl⟩
  rw [if_neg h7, if_neg (fun h => h7 ((key 7 7 rfl).mpr h))]
  by_cases h8 : c = 8
  · exact ⟨5, by rw [if_pos h8], by rw [if_pos ((key 8 8 rfl).mp h8)]; rfl⟩
  rw [if_neg h8, if_neg (fun h => h8 ((key 8 8 rfl).mpr h))]
  by_cases h9 : c = 9
  · exact ⟨5, by rw [if_pos h9], by rw [if_pos ((key 9 9 rfl).mp h9)]; rfl⟩
  rw [if_neg h9, if_neg (fun h => h9 ((key 9 9 rfl).mpr h))]
  exact ⟨6, rfl, rfl⟩
/-- what is dropped is written -/
theorem drops_st {fu : Nat} (hfu : 1180591620717411303424 ≤ fu) {t : Int32} {s : Nat} {e pend w0 : List Int} {g0 : gT} {L0 : lT} (hI : zI MT g0) (hS : (g0 0 35).toInt + (g0 0 36).toInt ≤ 1890) (h : StR s e (pend ++ w0) g0) (hp : pOk t.toInt pend) (hw : lowW t.toInt w0) : Ex (fX12_drops fu t g0 L0) (fun (_ : Unit) g1 L1 => StR s (e ++ pend) w0 g1) := by
  unfold fX12_drops fX12_drops_l0
  have q36 := hI 0 36 0 950 rfl
  refine Ex.loop (α := gT × lT) (fun v => zI MT v.1 ∧ (v.1 0 35).toInt + (v.1 0 36).toInt ≤ 1890 ∧ ∃ e1 p1, StR s e1 (p1 ++ w0) v.1 ∧ pOk t.toInt p1 ∧ e1 ++ p1 = e ++ pend) (fun v => (v.1 0 36).toInt) (by omega) (by show (g0 0 36).toInt < (fu : Int); omega) ⟨hI, hS, e, pend, h, hp, rfl⟩ (fun k0 v hv ih => ?_)
  obtain ⟨g, L⟩ := v
  obtain ⟨hI1, hS1, e1, p1, h1, hp1, he⟩ := hv
  replace hI1 : zI MT g := hI1
  replace hS1 : (g 0 35).toInt + (g 0 36).toInt ≤ 1890 := hS1
  replace h1 : StR s e1 (p1 ++ w0) g := h1
  have q36 := hI1 0 36 0 950 rfl
  have q35 := hI1 0 35 0 1900 rfl
  show Ex (fX12_drops_s0 fu t k0 g L) _
  unfold fX12_drops_s0 fX12_drops_p68
  have stop : p1 = [] → Ex (some ((), (g, L))) (fun (_ : Unit) g1 L1 => StR s (e ++ pend) w0 g1) := by
    intro e0
    subst e0
    rw [List.append_nil] at he
    rw [← he]
    exact Ex.ret h1
  have ew : 0 < (g 0 36).toInt → (g 0 36 - 1).toInt = (g 0 36).toInt - 1 := fun h => ic_subc rfl (by decide) (by omega) (by omega)
  have eN : 0 < (g 0 36).toInt → (g 0 36 - 1).toNatClampNeg = gW g - 1 := fun h => by
    show (g 0 36 - 1).toInt.toNat = (g 0 36).toInt.toNat - 1
    rw [ew h]; omega
  cases p1 with
  | nil =>
    have stop := stop rfl
    refine Ex.ite (fun _ => stop) (fun c => ?_)
    have c := icc_nle (m := (g 0 36).toInt) (n := 0) rfl (by decide) c
    have ew := ew c
    have eN := eN c
    refine Ex.ck (by omega) (by omega) ?_
    rw [eN]
    have h3 : wL w0 (gW g) (g 27) := h1.2.2
    refine e_isOpen (fun _ => stop) (fun ho => ?_)
    refine Ex.ck (by omega) (by omega) ?_
    obtain ⟨x, ex, hx⟩ := strength_eq (fu := fu) (c := g 27 (gW g - 1)) (g := g) (L := L)
    rw [eN]
    refine Ex.cb (P := fun y g' L' => y = x ∧ g' = g ∧ L' = L) ⟨x, g, L, ex, rfl, rfl, rfl⟩ (fun y g' L' hy => ?_)
    rw [hy.1, hy.2.1, hy.2.2]
    clear hy
    refine Ex.ite (fun _ => stop) (fun c1 => ?_)
    have c1 := icc_nlt (m := x.toInt) (n := t.toInt) rfl rfl c1
    cases w0 with
    | nil =>
      have : (g 0 36).toInt.toNat = 0 := h3
      omega
    | cons a w0 =>
      obtain ⟨m, e2, e3, -⟩ := h3
      have em : gW g - 1 = m := by omega
      rw [em] at ho hx
      rw [e3] at hx ho
      rcases hw with hw | hw
      · omega
      · omega
  | cons a p1 =>
    obtain ⟨m, e2, e3, e4⟩ := h1.2.2
    have e2 : (g 0 36).toInt.toNat = m + 1 := e2
    have ha := hp1 a (List.mem_cons_self)
    refine Ex.ite (fun c => by have := icc_le (m := (g 0 36).toInt) (n := 0) rfl (by decide) c; omega) (fun c => ?_)
    have c := icc_nle (m := (g 0 36).toInt) (n := 0) rfl (by decide) c
    have ew := ew c
    have eN := eN c
    have em : gW g - 1 = m := by show (g 0 36).toInt.toNat - 1 = m; omega
    rw [em] at eN
    refine Ex.ck (by omega) (by omega) ?_
    rw [eN]
    refine e_isOpen (fun ho => by rw [e3] at ho; omega) (fun ho => ?_)
    refine Ex.ck (by omega) (by omega) ?_
    obtain ⟨x, ex, hx⟩ := strength_eq (fu := fu) (c := g 27 m) (g := g) (L := L)
    rw [eN]
    refine Ex.cb (P := fun y g' L' => y = x ∧ g' = g ∧ L' = L) ⟨x, g, L, ex, rfl, rfl, rfl⟩ (fun y g' L' hy => ?_)
    rw [hy.1, hy.2.1, hy.2.2]
    clear hy
    rw [e3] at hx
    refine Ex.ite (fun c1 => by have := icc_lt (m := x.toInt) (n := t.toInt) rfl rfl c1; omega) (fun _ => ?_)
    refine Ex.sti (hI1.upd (lo := 0) (hi := 950) rfl (by omega) (by omega)) (fun ga gae hIa => ?_)
    have a36 : ga 0 36 = g 0 36 - 1 := by rw [gae]; exact upd2_at
    have a35 : (ga 0 35).toInt = (g 0 35).toInt := by rw [gae]; rfl
    have a27 : ga 27 = g 27 := by rw [gae]; rfl
    have a26 : ga 26 = g 26 := by rw [gae]; rfl
    rw [a36, eN, a27]
    have hsa : StR s e1 (p1 ++ w0) ga := by
      refine ⟨?_, fun i hi => by rw [a26]; exact h1.2.1 i hi, ?_⟩
      · show (ga 0 35).toInt.toNat = _
        rw [a35]; exact h1.1
      · have : gW ga = m := by show (ga 0 36).toInt.toNat = m; rw [a36, ew]; omega
        rw [this, a27]; exact e4
    refine Ex.ck (by omega) (by omega) ?_
    refine e_puts hIa (by omega) (fun g1 hI2 hF p c2 hv => ?_)
    have b36 : (g1 0 36).toInt = (g 0 36).toInt - 1 := by rw [hF.i (by decide), a36]; exact ew
    have hq := hsa.put (by omega) hF p c2 hv
    rw [e3] at hq
    refine ih (g1, L) ⟨hI2, (show (g1 0 35).toInt + (g1 0 36).toInt ≤ 1890 by omega), e1 ++ [a], p1, hq, fun x hx => hp1 x (List.mem_cons_of_mem _ hx), by rw [List.append_assoc]; exact he⟩ (show (g1 0 36).toInt < (g 0 36).toInt by omega) (show 0 < (g 0 36).toInt by omega)
/-- read so far from (e0, w0) on: what is written and what may yet be dropped make up the code c -/
def PR (s : Nat) (t : Int) (e0 w0 c : List Int) (g : gT) : Prop := ∃ e1 pend, StR s e1 (pend ++ w0) g ∧ pOk t pend ∧ e1 ++ pend = e0 ++ enc c
theorem PR.mo {s : Nat} {t t' : Int} {e0 w0 c : List Int} {g : gT} (h : PR s t e0 w0 c g) (ht : t' ≤ t) : PR s t' e0 w0 c g := by
  obtain ⟨e1, p, h1, h2, h3⟩ := h
  exact ⟨e1, p, h1, h2.mo ht, h3⟩
theorem PR.st {s : Nat} {t : Int} {e0 w0 : List Int} {g : gT} (h : StR s e0 w0 g) : PR s t e0 w0 [] g := ⟨e0, [], h, fun a ha => absurd ha (List.not_mem_nil), by rw [List.append_nil]; exact (List.append_nil _).symm⟩
theorem PR.op {s : Nat} {t t' : Int} {e0 w0 acc c : List Int} {a o : Int} {g : gT} (h : PR s t' (e0 ++ enc acc) (a :: w0) c g) (ht : t ≤ t') (h3 : 3 ≤ a) (h11 : a ≤ 11) (hs : t ≤ stg a) (ho : en1 o = [a]) : PR s t e0 w0 (acc ++ c ++ [o]) g := by
  obtain ⟨e1, p, h1, h2, h4⟩ := h
  refine ⟨e1, p ++ [a], by rw [List.append_assoc]; exact h1, fun x hx => ?_, ?_⟩
  · rcases List.mem_append.mp hx with hx | hx
    · exact h2.mo ht x hx
    · rw [List.mem_singleton.mp hx]; exact ⟨h3, h11, hs⟩
  · rw [← List.append_assoc, h4, enc_ap, enc_ap, enc_1, ho, List.append_assoc, List.append_assoc, List.append_assoc]
/-! ===== the reference's expressions: its steps ===== -/
section QE
variable {ρ β : Type} {R : Option (ρ × zS)} {g : gT} {L : lT}
theorem q_cb {m : Option (β × zS)} {K : β → gT → lT → Option (ρ × zS)} {x : β} (e : m = some (x, (g, L))) (h : K x g L = R) : cb m K = R := by rw [e]; exact h
theorem q_t {c : Prop} [Decidable c] {A B : Option (ρ × zS)} (h : c) (hA : A = R) : (if c then A else B) = R := by rw [if_pos h]; exact hA
theorem q_f {c : Prop} [Decidable c] {A B : Option (ρ × zS)} (h : ¬ c) (hB : B = R) : (if c then A else B) = R := by rw [if_neg h]; exact hB
theorem q_ck {i : Int32} {N : Nat} {K : Option (ρ × zS)} (h1 : 0 ≤ i.toInt) (h2 : i.toInt < (N : Int)) (h : K = R) : ck i N K = R := by rw [ck_eq h1 h2]; exact h
theorem q_sti {k j : Nat} {x : Int32} {K : gT → Option (ρ × zS)} (h : K (upd2 g k j x) = R) : sti g k j x K = R := h
end QE
theorem cm.M {b : Nat → Int32} {n P : Nat} {g : gT} {L : lT} (h : cm b n P g) (hk : tK b n P ≠ 2) : cM b n P g L := by
  obtain ⟨a1, a2, a3, a4, a5, a6, a7, a8, a9, a10, a11, a13, a14⟩ := h
  exact ⟨a1, a2, a3, a4, a5, a6, a7, a8, a9, a10, a11, fun h => absurd h hk, a13, a14⟩
theorem sign0 {b : Nat → Int32} {n P fu : Nat} {g : gT} {L : lT} {c : Int32} {ci : Int} (hc : cM b n P g L) (e : c.toInt = ci) (h : ¬ isS b n P ci) : fX12_isSign fu c g L = some (0, (g, L)) := by
  subst e
  rcases sign_eq (fu := fu) (c := c) hc with ⟨h1, -⟩ | ⟨-, h2⟩
  · exact absurd h1 h
  · exact h2
theorem sign1 {b : Nat → Int32} {n P fu : Nat} {g : gT} {L : lT} {c : Int32} {ci : Int} (hc : cM b n P g L) (e : c.toInt = ci) (h : isS b n P ci) : fX12_isSign fu c g L = some (1, (g, L)) := by
  subst e
  rcases sign_eq (fu := fu) (c := c) hc with ⟨-, h2⟩ | ⟨h1, -⟩
  · exact h2
  · exact absurd h h1
theorem isS_u {b : Nat → Int32} {n P : Nat} {c d : Int} (h : isS b n P c) (hn : c ≠ d) : ¬ isS b n P d := fun h' => hn (h.2.symm.trans h'.2)
/-- behind an operand, at place P, so deep -/
def mA (b : Nat → Int32) (n : Nat) (g0 : gT) (s P d : Nat) (g : gT) (L : lT) : Prop := cM b n P g L ∧ xI g0 s 1 0 0 0 g ∧ (g 0 37).toInt = (d : Int) + 1
/-- before an operand -/
def mO (b : Nat → Int32) (n : Nat) (g0 : gT) (s P d : Nat) (g : gT) (L : lT) : Prop := cM b n P g L ∧ xI g0 s 0 0 0 0 g ∧ (g 0 37).toInt = (d : Int) + 1
abbrev kD (fu m : Nat) : Int32 × gT × lT → Option (Unit × zS) := whileK (fun k v => fX12_expression_s29 fu k v.1 v.2.1 v.2.2) m
abbrev Dl (fu m : Nat) (g : gT) (L : lT) : Option (Unit × zS) := kD fu m ((1 : Int32), g, L)
abbrev kQ (fu m : Nat) : Int32 × Int32 × gT × lT → Option (Unit × zS) := whileK (fun k v => fX12_operand_s4 fu k v.1 v.2.1 v.2.2.1 v.2.2.2) m
def Cl (fu m nn : Nat) (v2 : Int32) (g : gT) (L : lT) : Option (Unit × zS) := cb (kQ fu m (v2, (1 : Int32), g, L)) (fun _ g' L' => Dl fu nn g' L')
/-- an act waits, and the next sign is read -/
theorem act_eq {fu : Nat} (hfu : 1180591620717411303424 ≤ fu) {b : Nat → Int32} {n s P d : Nat} {g0 g g2 : gT} {L L2 : lT} {v : Int32} (h : mA b n g0 s P d g L) (hq : DQ g g2) (hk : tK b n P ≠ 0) (h4 : 4 ≤ v.toInt) (h11 : v.toInt ≤ 11) : ∃ ga gb Lb, fX12_waitsFor fu v g2 L2 = some ((), (ga, L2)) ∧ fX12_goes fu ga L2 = some ((), (gb, Lb)) ∧ mO b n g0 s (nx b n P) d gb Lb ∧ gb 28 = g 28 ∧ (∀ e w, StR s e w g2 → StR s e (v.toInt :: w) gb) := by
  obtain ⟨hc, hx, hd⟩ := h
  have h2 := hx.drop hq
  have e19 := hq.2.1.i (j := 19) (by decide)
  have e24 := hq.2.1.i (j := 24) (by decide)
  have hc2 : cm b n P g2 := hc.c.fr hq.1 hq.2.1 (by decide) (by decide) (by decide) (by decide) (by decide) (by decide) (by decide) (by decide) (by decide) (by decide)
  have w36 := h2.2.2.2.2.1
  have q25 := h2.1 0 25 0 700 rfl
  have q36 := h2.1 0 36 0 950 rfl
  have a13 := hc2.2.2.2.2.2.2.2.2.2.2.2.1
  have a7 := hc2.2.2.2.2.2.2.1
  obtain ⟨ga, ea, k1, k2, k3, k4, k5⟩ := waitsFor_eq (fu := fu) (v := v) (g := g2) (L := L2) (by omega) (by omega)
  have hIa := k1 h2.1
  have ha : xI g0 s 0 0 1 1 ga := h2.wait a13 hIa k2 k3 k4 k5 (Or.inl ⟨h4, h11, rfl, rfl⟩)
  have hca : cm b n P ga := hc2.fr hIa k2 (by decide) (by decide) (by decide) (by decide) (by decide) (by decide) (by decide) (by decide) (by decide) (by decide)
  obtain ⟨gb, Lb, eb, hcb, hqb⟩ := goes_eq0 (fu := fu) (L := L2) hfu hca
  have s24 : (ga 0 24).toInt ≠ 0 := by rw [hca.2.2.2.2.2.2.1]; exact fun h => hk (sM_0.mp h)
  obtain ⟨hb, -, -⟩ := ha.goes (by decide) (by decide) s24 hqb
  refine ⟨ga, gb, Lb, ea, eb, ⟨hcb, hb, ?_⟩, ?_, fun e w hS => (hS.push q36.1 k2 k3 k4 k5).f hqb.2.1 (by decide) (by decide) (by decide) (by decide)⟩
  · rw [hqb.2.1.i (by decide), k2.i (by decide), hq.2.1.i (by decide)]; exact hd
  · rw [hqb.2.1.2 28 (by decide) (by decide), k2.2 28 (by decide) (by decide), hq.2.1.2 28 (by decide) (by decide)]
theorem actT_eq {fu : Nat} (hfu : 1180591620717411303424 ≤ fu) {b : Nat → Int32} {n s P d : Nat} {g0 g g2 : gT} {L L2 : lT} {v x : Int32} (h : mA b n g0 s P d g L) (hq : DQ g g2) (hk : tK b n P ≠ 0) (h4 : 4 ≤ v.toInt) (h11 : v.toInt ≤ 11) (hx01 : x = 0 ∨ x = 1) : ∃ ga gb Lb, fX12_waitsFor fu v g2 L2 = some ((), (ga, L2)) ∧ (0 ≤ (ga 0 37).toInt ∧ (ga 0 37).toInt < 9) ∧ fX12_goes fu (upd2 ga 28 (ga 0 37).toNatClampNeg (vp_nar .boolean x)) L2 = some ((), (gb, Lb)) ∧ mO b n g0 s (nx b n P) d gb Lb ∧ gb 28 (d + 1) = vp_nar .boolean x ∧ (∀ j, j ≠ d + 1 → gb 28 j = g 28 j) ∧ (∀ e w, StR s e w g2 → StR s e (v.toInt :: w) gb) := by
  obtain ⟨hc, hx, hd⟩ := h
  have h2 := hx.drop hq
  have hc2 : cm b n P g2 := hc.c.fr hq.1 hq.2.1 (by decide) (by decide) (by decide) (by decide) (by decide) (by decide) (by decide) (by decide) (by decide) (by decide)
  have w36 := h2.2.2.2.2.1
  have q25 := h2.1 0 25 0 700 rfl
  have q36 := h2.1 0 36 0 950 rfl
  have a13 := hc2.2.2.2.2.2.2.2.2.2.2.2.1
  obtain ⟨ga, ea, k1, k2, k3, k4, k5⟩ := waitsFor_eq (fu := fu) (v := v) (g := g2) (L := L2) (by omega) (by omega)
  have hIa := k1 h2.1
  have ha : xI g0 s 0 0 1 1 ga := h2.wait a13 hIa k2 k3 k4 k5 (Or.inl ⟨h4, h11, rfl, rfl⟩)
  have hca : cm b n P ga := hc2.fr hIa k2 (by decide) (by decide) (by decide) (by decide) (by decide) (by decide) (by decide) (by decide) (by decide) (by decide)
  have a37 : (ga 0 37).toInt = (d : Int) + 1 := by rw [k2.i (by decide), hq.2.1.i (by decide)]; exact hd
  obtain ⟨-, -, -, z3, -⟩ := ha.2.2.2.2.2.2.2.2 hca.2.2.2.2.2.2.2.2.2.2.2.1
  have eN : (ga 0 37).toNatClampNeg = d + 1 := by rw [nc]; omega
  have hn := nar01 x hx01
  have hIe : zI MT (upd2 ga 28 (d + 1) (vp_nar .boolean x)) := hIa.upd (lo := 0) (hi := 1) rfl hn.1 hn.2
  have he : xI g0 s 0 0 1 1 (upd2 ga 28 (d + 1) (vp_nar .boolean x)) := ha.test hIe rfl
  have hFe : Fr [] [28] ga (upd2 ga 28 (d + 1) (vp_nar .boolean x)) := Fr.refl.uk (by decide) (by decide)
  have hce : cm b n P (upd2 ga 28 (d + 1) (vp_nar .boolean x)) := hca.fr hIe hFe (by decide) (by decide) (by decide) (by decide) (by decide) (by decide) (by decide) (by decide) (by decide) (by decide)
  obtain ⟨gb, Lb, eb, hcb, hqb⟩ := goes_eq0 (fu := fu) (L := L2) hfu hce
  have s24 : (upd2 ga 28 (d + 1) (vp_nar .boolean x) 0 24).toInt ≠ 0 := by rw [hce.2.2.2.2.2.2.1]; exact fun h => hk (sM_0.mp h)
  obtain ⟨hb, -, -⟩ := he.goes (by decide) (by decide) s24 hqb
  have e28 : gb 28 = upd2 ga 28 (d + 1) (vp_nar .boolean x) 28 := hqb.2.1.2 28 (by decide) (by decide)
  refine ⟨ga, gb, Lb, ea, ⟨by omega, by omega⟩, by rw [eN]; exact eb, ⟨hcb, hb, ?_⟩, ?_, fun j hj => ?_, fun e w hS => ((hS.push q36.1 k2 k3 k4 k5).f hFe (by decide) (by decide) (by decide) (by decide)).f hqb.2.1 (by decide) (by decide) (by decide) (by decide)⟩
  · rw [hqb.2.1.i (by decide)]
    show (ga 0 37).toInt = _
    exact a37
  · rw [e28, upd2_at]
  · rw [e28, upd2_nj hj, k2.2 28 (by decide) (by decide), hq.2.1.2 28 (by decide) (by decide)]
theorem drops_ex {fu : Nat} (hfu : 1180591620717411303424 ≤ fu) {s : Nat} {g0 g : gT} {L : lT} (p1 : Int32) (hx : xI g0 s 1 0 0 0 g) : ∃ g2 L2, fX12_drops fu p1 g L = some ((), (g2, L2)) ∧ DQ g g2 ∧ (p1.toInt ≤ 0 → (g2 0 36).toInt ≤ 0 ∨ 14 ≤ (g 27 (gW g2 - 1)).toInt) ∧ (∀ e pend w0, StR s e (pend ++ w0) g → pOk p1.toInt pend → lowW p1.toInt w0 → StR s (e ++ pend) w0 g2) := by
  have q25 := hx.1 0 25 0 700 rfl
  have b1 := hx.2.2.2.2.2.1
  obtain ⟨_, g2, L2, e, hq⟩ := sX12_drops fu hfu p1 g L hx.1 (by omega)
  refine ⟨g2, L2, e, hq.1, hq.2, fun e0 pend w0 h1 h2 h3 => ?_⟩
  obtain ⟨_, g', L', e', h'⟩ := drops_st hfu (L0 := L) hx.1 (by omega) h1 h2 h3
  rw [e] at e'
  cases e'
  exact h'
/-- no word, no comparison -/
theorem D_186 {fu : Nat} (hfu : 1180591620717411303424 ≤ fu) {b : Nat → Int32} {n s P d m : Nat} {g0 g : gT} {L : lT} (h : mA b n g0 s P d g L) (h14 : ¬ isW b n P 14) (h15 : ¬ isW b n P 15) (ht : isS b n P 60 ∨ isS b n P 61 → (g 28 (d + 1)).toInt ≠ 0) : Dl fu (m + 1) g L = fX12_expression_p186 fu (kD fu m) 1 g L := by
  obtain ⟨hc, hx, hd⟩ := h
  have hg : (g 0 19).toInt = 0 := hc.c.2.2.2.2.2.2.2.2.2.2.2.1
  obtain ⟨-, -, -, z3, -⟩ := hx.2.2.2.2.2.2.2.2 hg
  show fX12_expression_s29 fu (kD fu m) 1 g L = _
  unfold fX12_expression_s29
  refine q_f (by decide) (q_cb (good_eq hg) (q_f (by decide) ?_))
  obtain ⟨x, ex, hxx⟩ := known_eq hfu hc
  refine q_cb ex ?_
  have hw : ∀ k : Nat, k < 17 → ¬ isW b n P k → x.toInt ≠ (k : Int) := by
    intro k hk hn he
    rcases hxx with ⟨j, hj, h1, h2⟩ | ⟨h1, -⟩
    · have : j = k := by omega
      subst this; exact hn h2
    · omega
  refine q_f (fun h9 => hw 14 (by decide) h14 (icc_eq (m := x.toInt) (n := 14) rfl (by decide) h9)) ?_
  refine q_f (fun h9 => hw 15 (by decide) h15 (icc_eq (m := x.toInt) (n := 15) rfl (by decide) h9)) ?_
  have P127 : isS b n P 60 ∨ isS b n P 61 → fX12_expression_p127 fu (kD fu m) 1 g L = fX12_expression_p186 fu (kD fu m) 1 g L := by
    intro hs
    unfold fX12_expression_p127
    have eN : (g 0 37).toNatClampNeg = d + 1 := by rw [nc]; omega
    rw [eN]
    refine q_ck (by omega) (by omega) (q_f (fun h9 => ht hs (icc_eq (m := (g 28 (d + 1)).toInt) (n := 0) rfl (by decide) h9)) rfl)
  by_cases s60 : isS b n P 60
  · exact q_cb (sign1 hc rfl s60) (q_f (by decide) (P127 (Or.inl s60)))
  refine q_cb (sign0 hc rfl s60) (q_t rfl ?_)
  by_cases s61 : isS b n P 61
  · exact q_cb (sign1 hc rfl s61) (q_f (by decide) (P127 (Or.inr s61)))
  exact q_cb (sign0 hc rfl s61) (q_t rfl rfl)
theorem noW {b : Nat → Int32} {n P k : Nat} {c : Int} (h : isS b n P c) : ¬ isW b n P k := fun h' => by have := h.1; have := h'.1; omega
/-- plus, minus, times, by -/
theorem D_op {fu : Nat} (hfu : 1180591620717411303424 ≤ fu) {b : Nat → Int32} {n s P d m : Nat} {g0 g : gT} {L : lT} {t a : Int} (h : mA b n g0 s P d g L) (hs4 : (isS b n P 43 ∧ t = 5 ∧ a = 8) ∨ (isS b n P 45 ∧ t = 5 ∧ a = 9) ∨ (isS b n P 42 ∧ t = 6 ∧ a = 10) ∨ (isS b n P 47 ∧ t = 6 ∧ a = 11)) : ∃ g' L', Dl fu (m + 1) g L = Cl fu fu m 0 g' L' ∧ mO b n g0 s (nx b n P) d g' L' ∧ g' 28 = g 28 ∧ (∀ e pend w0, StR s e (pend ++ w0) g → pOk t pend → lowW t w0 → StR s (e ++ pend) (a :: w0) g') := by
  have hs : isS b n P 43 ∨ isS b n P 45 ∨ isS b n P 42 ∨ isS b n P 47 := by
    rcases hs4 with h | h | h | h
    · exact Or.inl h.1
    · exact Or.inr (Or.inl h.1)
    · exact Or.inr (Or.inr (Or.inl h.1))
    · exact Or.inr (Or.inr (Or.inr h.1))
  obtain ⟨c, hsc, hcc⟩ : ∃ c : Int, isS b n P c ∧ (c = 43 ∨ c = 45 ∨ c = 42 ∨ c = 47) := by
    rcases hs with h | h | h | h
    · exact ⟨43, h, Or.inl rfl⟩
    · exact ⟨45, h, Or.inr (Or.inl rfl)⟩
    · exact ⟨42, h, Or.inr (Or.inr (Or.inl rfl))⟩
    · exact ⟨47, h, Or.inr (Or.inr (Or.inr rfl))⟩
  have hk3 := hsc.1
  have n60 := isS_u hsc (show c ≠ 60 by omega)
  have n61 := isS_u hsc (show c ≠ 61 by omega)
  rw [D_186 hfu h (noW hsc) (noW hsc) (fun h9 => absurd h9 (fun h9 => h9.elim n60 n61))]
  have hc := h.1
  have fin : ∀ (t0 : Int32) (lst : Int32), 4 ≤ t0.toInt → t0.toInt ≤ 11 → ∀ g2 L2, DQ g g2 → ∃ g' L', (cb (fX12_waitsFor fu t0 g2 L2) (fun _ ga La => cb (fX12_goes fu ga La) (fun _ gb Lb => cb (fX12_operand fu 0 gb Lb) (fun _ gc Lc => kD fu m ((1 : Int32), gc, Lc))))) = Cl fu fu m 0 g' L' ∧ mO b n g0 s (nx b n P) d g' L' ∧ g' 28 = g 28 ∧ (∀ e w, StR s e w g2 → StR s e (t0.toInt :: w) g') := by
    intro t0 _ h4 h11 g2 L2 hq
    obtain ⟨ga, gb, Lb, e1, e2, e3, e4, e5⟩ := act_eq hfu (L2 := L2) h hq (by omega) h4 h11
    exact ⟨gb, Lb, q_cb e1 (q_cb e2 rfl), e3, e4, e5⟩
  have P204 : (isS b n P 43 ∨ isS b n P 45) → ∃ g' L', fX12_expression_p204 fu (kD fu m) 1 g L = Cl fu fu m 0 g' L' ∧ mO b n g0 s (nx b n P) d g' L' ∧ g' 28 = g 28 ∧ (∀ e pend w0, StR s e (pend ++ w0) g → pOk t pend → lowW t w0 → StR s (e ++ pend) (a :: w0) g') := by
    intro hs
    obtain ⟨g2, L2, ed, hq, -, hst⟩ := drops_ex hfu (L := L) 5 h.2.1
    have hc2 : cM b n P g2 L2 := (hc.c.fr hq.1 hq.2.1 (by decide) (by decide) (by decide) (by decide) (by decide) (by decide) (by decide) (by decide) (by decide) (by decide)).M (by omega)
    by_cases s43 : isS b n P 43
    · obtain ⟨g', L', e1, e2, e3, e4⟩ := fin 8 0 (by decide) (by decide) g2 L2 hq
      have hta : t = 5 ∧ a = 8 := by
        rcases hs4 with ⟨k, k2, k3⟩ | ⟨k, k2, k3⟩ | ⟨k, k2, k3⟩ | ⟨k, k2, k3⟩
        · exact ⟨k2, k3⟩
        · exact absurd k (isS_u s43 (by decide))
        · exact absurd k (isS_u s43 (by decide))
        · exact absurd k (isS_u s43 (by decide))
      refine ⟨g', L', ?_, e2, e3, by rw [hta.1, hta.2]; exact fun e pend w0 y1 y2 y3 => e4 _ _ (hst e pend w0 y1 y2 y3)⟩
      unfold fX12_expression_p204 fX12_expression_p226 fX12_expression_p322
      exact q_cb ed (q_cb (sign1 hc2 rfl s43) (q_f (by decide) e1))
    · obtain ⟨g', L', e1, e2, e3, e4⟩ := fin 9 0 (by decide) (by decide) g2 L2 hq
      have hta : t = 5 ∧ a = 9 := by
        rcases hs4 with ⟨k, k2, k3⟩ | ⟨k, k2, k3⟩ | ⟨k, k2, k3⟩ | ⟨k, k2, k3⟩
        · exact absurd k s43
        · exact ⟨k2, k3⟩
        · exact absurd k (isS_u (hs.resolve_left s43) (by decide))
        · exact absurd k (isS_u (hs.resolve_left s43) (by decide))
      refine ⟨g', L', ?_, e2, e3, by rw [hta.1, hta.2]; exact fun e pend w0 y1 y2 y3 => e4 _ _ (hst e pend w0 y1 y2 y3)⟩
      unfold fX12_expression_p204 fX12_expression_p226 fX12_expression_p322
      exact q_cb ed (q_cb (sign0 hc2 rfl s43) (q_t rfl e1))
  have P259 : (isS b n P 42 ∨ isS b n P 47) → ∃ g' L', fX12_expression_p259 fu (kD fu m) 1 g L = Cl fu fu m 0 g' L' ∧ mO b n g0 s (nx b n P) d g' L' ∧ g' 28 = g 28 ∧ (∀ e pend w0, StR s e (pend ++ w0) g → pOk t pend → lowW t w0 → StR s (e ++ pend) (a :: w0) g') := by
    intro hs7
    obtain ⟨g2, L2, ed, hq, -, hst⟩ := drops_ex hfu (L := L) 6 h.2.1
    have hc2 : cM b n P g2 L2 := (hc.c.fr hq.1 hq.2.1 (by decide) (by decide) (by decide) (by decide) (by decide) (by decide) (by decide) (by decide) (by decide) (by decide)).M (by omega)
    by_cases s42 : isS b n P 42
    · obtain ⟨g', L', e1, e2, e3, e4⟩ := fin 10 0 (by decide) (by decide) g2 L2 hq
      have hta : t = 6 ∧ a = 10 := by
        rcases hs4 with ⟨k, k2, k3⟩ | ⟨k, k2, k3⟩ | ⟨k, k2, k3⟩ | ⟨k, k2, k3⟩
        · exact absurd k (isS_u s42 (by decide))
        · exact absurd k (isS_u s42 (by decide))
        · exact ⟨k2, k3⟩
        · exact absurd k (isS_u s42 (by decide))
      refine ⟨g', L', ?_, e2, e3, by rw [hta.1, hta.2]; exact fun e pend w0 y1 y2 y3 => e4 _ _ (hst e pend w0 y1 y2 y3)⟩
      unfold fX12_expression_p259 fX12_expression_p282 fX12_expression_p322
      exact q_cb ed (q_cb (sign1 hc2 rfl s42) (q_f (by decide) e1))
    · obtain ⟨g', L', e1, e2, e3, e4⟩ := fin 11 0 (by decide) (by decide) g2 L2 hq
      have hta : t = 6 ∧ a = 11 := by
        rcases hs4 with ⟨k, k2, k3⟩ | ⟨k, k2, k3⟩ | ⟨k, k2, k3⟩ | ⟨k, k2, k3⟩
        · exact absurd k (isS_u (hs7.resolve_left s42) (by decide))
        · exact absurd k (isS_u (hs7.resolve_left s42) (by decide))
        · exact absurd k s42
        · exact ⟨k2, k3⟩
      refine ⟨g', L', ?_, e2, e3, by rw [hta.1, hta.2]; exact fun e pend w0 y1 y2 y3 => e4 _ _ (hst e pend w0 y1 y2 y3)⟩
      unfold fX12_expression_p259 fX12_expression_p282 fX12_expression_p322
      exact q_cb ed (q_cb (sign0 hc2 rfl s42) (q_t rfl e1))
  by_cases s43 : isS b n P 43
  · obtain ⟨g', L', e1, e2, e3⟩ := P204 (Or.inl s43)
    refine ⟨g', L', ?_, e2, e3⟩
    unfold fX12_expression_p186
    exact q_cb (sign1 hc rfl s43) (q_f (by decide) e1)
  by_cases s45 : isS b n P 45
  · obtain ⟨g', L', e1, e2, e3⟩ := P204 (Or.inr s45)
    refine ⟨g', L', ?_, e2, e3⟩
    unfold fX12_expression_p186
    exact q_cb (sign0 hc rfl s43) (q_t rfl (q_cb (sign1 hc rfl s45) (q_f (by decide) e1)))
  have s7 : isS b n P 42 ∨ isS b n P 47 := by
    rcases hs with h | h | h
    · exact absurd h s43
    · exact absurd h s45
    · exact h
  obtain ⟨g', L', e1, e2, e3⟩ := P259 s7
  refine ⟨g', L', ?_, e2, e3⟩
  unfold fX12_expression_p186
  refine q_cb (sign0 hc rfl s43) (q_t rfl (q_cb (sign0 hc rfl s45) (q_t rfl ?_)))
  by_cases s42 : isS b n P 42
  · exact q_cb (sign1 hc rfl s42) (q_f (by decide) e1)
  have s47 : isS b n P 47 := by
    rcases hs with h | h | h | h
    · exact absurd h s43
    · exact absurd h s45
    · exact absurd h s42
    · exact h
  exact q_cb (sign0 hc rfl s42) (q_t rfl (q_cb (sign1 hc rfl s47) (q_f (by decide) e1)))
/-- less, same -/
theorem D_cmp {fu : Nat} (hfu : 1180591620717411303424 ≤ fu) {b : Nat → Int32} {n s P d m : Nat} {g0 g : gT} {L : lT} {a : Int} (h : mA b n g0 s P d g L) (hs2 : (isS b n P 60 ∧ a = 6) ∨ (isS b n P 61 ∧ a = 7)) (ht : (g 28 (d + 1)).toInt = 0) : ∃ g' L', Dl fu (m + 1) g L = Cl fu fu m 0 g' L' ∧ mO b n g0 s (nx b n P) d g' L' ∧ (g' 28 (d + 1)).toInt = 1 ∧ (∀ j, j ≠ d + 1 → g' 28 j = g 28 j) ∧ (∀ e pend w0, StR s e (pend ++ w0) g → pOk 4 pend → lowW 4 w0 → StR s (e ++ pend) (a :: w0) g') := by
  have hs : isS b n P 60 ∨ isS b n P 61 := hs2.elim (fun h => Or.inl h.1) (fun h => Or.inr h.1)
  obtain ⟨c, hsc⟩ : ∃ c : Int, isS b n P c := hs.elim (fun h => ⟨_, h⟩) (fun h => ⟨_, h⟩)
  have hk3 := hsc.1
  have hc := h.1
  have hg : (g 0 19).toInt = 0 := hc.c.2.2.2.2.2.2.2.2.2.2.2.1
  obtain ⟨-, -, -, z3, -⟩ := h.2.1.2.2.2.2.2.2.2.2 hg
  have hd := h.2.2
  obtain ⟨g2, L2, ed, hq, -, hst⟩ := drops_ex hfu (L := L) 4 h.2.1
  have hc2 : cM b n P g2 L2 := (hc.c.fr hq.1 hq.2.1 (by decide) (by decide) (by decide) (by decide) (by decide) (by decide) (by decide) (by decide) (by decide) (by decide)).M (by omega)
  have P127 : ∃ g' L', fX12_expression_p127 fu (kD fu m) 1 g L = Cl fu fu m 0 g' L' ∧ mO b n g0 s (nx b n P) d g' L' ∧ (g' 28 (d + 1)).toInt = 1 ∧ (∀ j, j ≠ d + 1 → g' 28 j = g 28 j) ∧ (∀ e pend w0, StR s e (pend ++ w0) g → pOk 4 pend → lowW 4 w0 → StR s (e ++ pend) (a :: w0) g') := by
    have eN : (g 0 37).toNatClampNeg = d + 1 := by rw [nc]; omega
    have go : ∀ t0 : Int32, 4 ≤ t0.toInt → t0.toInt ≤ 11 → a = t0.toInt → ∃ g' L', fX12_expression_p161 fu (kD fu m) 1 t0 g2 L2 = Cl fu fu m 0 g' L' ∧ mO b n g0 s (nx b n P) d g' L' ∧ (g' 28 (d + 1)).toInt = 1 ∧ (∀ j, j ≠ d + 1 → g' 28 j = g 28 j) ∧ (∀ e pend w0, StR s e (pend ++ w0) g → pOk 4 pend → lowW 4 w0 → StR s (e ++ pend) (a :: w0) g') := by
      intro t0 h4 h11 hta
      obtain ⟨ga, gb, Lb, e1, e2, e3, e4, e5, e6, e7⟩ := actT_eq hfu (L2 := L2) (x := 1) h hq (by omega) h4 h11 (Or.inr rfl)
      refine ⟨gb, Lb, ?_, e4, by rw [e5]; decide, e6, by rw [hta]; exact fun e pend w0 y1 y2 y3 => e7 _ _ (hst e pend w0 y1 y2 y3)⟩
      unfold fX12_expression_p161 fX12_expression_p322
      exact q_cb e1 (q_ck e2.1 e2.2 (q_sti (q_cb e3 rfl)))
    by_cases s60 : isS b n P 60
    · obtain ⟨g', L', e1, e2⟩ := go 6 (by decide) (by decide) (hs2.elim (fun h => h.2) (fun h => absurd h.1 (isS_u s60 (by decide))))
      refine ⟨g', L', ?_, e2⟩
      unfold fX12_expression_p127
      rw [eN]
      exact q_ck (by omega) (by omega) (q_t (ic_eq.mpr (show (g 28 (d + 1)).toInt = (0 : Int32).toInt from ht)) (q_cb ed (q_cb (sign1 hc2 rfl s60) (q_f (by decide) e1))))
    · obtain ⟨g', L', e1, e2⟩ := go 7 (by decide) (by decide) (hs2.elim (fun h => absurd h.1 s60) (fun h => h.2))
      refine ⟨g', L', ?_, e2⟩
      unfold fX12_expression_p127
      rw [eN]
      exact q_ck (by omega) (by omega) (q_t (ic_eq.mpr (show (g 28 (d + 1)).toInt = (0 : Int32).toInt from ht)) (q_cb ed (q_cb (sign0 hc2 rfl s60) (q_t rfl e1))))
  obtain ⟨g', L', e1, e2⟩ := P127
  refine ⟨g', L', ?_, e2⟩
  show fX12_expression_s29 fu (kD fu m) 1 g L = _
  unfold fX12_expression_s29
  refine q_f (by decide) (q_cb (good_eq hg) (q_f (by decide) ?_))
  obtain ⟨x, ex, hxx⟩ := known_eq hfu hc
  have hx1 : x.toInt = -1 := by
    rcases hxx with ⟨j, hj, h1, h2⟩ | ⟨h1, -⟩
    · exact absurd h2 (noW hsc)
    · exact h1
  refine q_cb ex ?_
  refine q_f (fun h9 => by have := icc_eq (m := x.toInt) (n := 14) rfl (by decide) h9; omega) ?_
  refine q_f (fun h9 => by have := icc_eq (m := x.toInt) (n := 15) rfl (by decide) h9; omega) ?_
  by_cases s60 : isS b n P 60
  · exact q_cb (sign1 hc rfl s60) (q_f (by decide) e1)
  · exact q_cb (sign0 hc rfl s60) (q_t rfl (q_cb (sign1 hc rfl (hs.resolve_left s60)) (q_f (by decide) e1)))
/-- and, or -/
theorem D_wrd {fu : Nat} (hfu : 1180591620717411303424 ≤ fu) {b : Nat → Int32} {n s P d m : Nat} {g0 g : gT} {L : lT} {t a : Int} (h : mA b n g0 s P d g L) (hs2 : (isW b n P 14 ∧ t = 2 ∧ a = 4) ∨ (isW b n P 15 ∧ t = 1 ∧ a = 5)) : ∃ g' L', Dl fu (m + 1) g L = Cl fu fu m 1 g' L' ∧ mO b n g0 s (nx b n P) d g' L' ∧ (g' 28 (d + 1)).toInt = 0 ∧ (∀ j, j ≠ d + 1 → g' 28 j = g 28 j) ∧ (∀ e pend w0, StR s e (pend ++ w0) g → pOk t pend → lowW t w0 → StR s (e ++ pend) (a :: w0) g') := by
  have hs : isW b n P 14 ∨ isW b n P 15 := hs2.elim (fun h => Or.inl h.1) (fun h => Or.inr h.1)
  have hk2 : tK b n P = 2 := hs.elim (fun h => h.1) (fun h => h.1)
  have hc := h.1
  have hg : (g 0 19).toInt = 0 := hc.c.2.2.2.2.2.2.2.2.2.2.2.1
  have go : ∀ (p t0 : Int32), 4 ≤ t0.toInt → t0.toInt ≤ 11 → t = p.toInt → a = t0.toInt → ∃ g2 L2 g' L', fX12_drops fu p g L = some ((), (g2, L2)) ∧ fX12_expression_p84 fu (kD fu m) 1 t0 g2 L2 = Cl fu fu m 1 g' L' ∧ mO b n g0 s (nx b n P) d g' L' ∧ (g' 28 (d + 1)).toInt = 0 ∧ (∀ j, j ≠ d + 1 → g' 28 j = g 28 j) ∧ (∀ e pend w0, StR s e (pend ++ w0) g → pOk t pend → lowW t w0 → StR s (e ++ pend) (a :: w0) g') := by
    intro p t0 h4 h11 ht1 ht2
    obtain ⟨g2, L2, ed, hq, -, hst⟩ := drops_ex hfu (L := L) p h.2.1
    obtain ⟨ga, gb, Lb, e1, e2, e3, e4, e5, e6, e7⟩ := actT_eq hfu (L2 := L2) (x := 0) h hq (by omega) h4 h11 (Or.inl rfl)
    refine ⟨g2, L2, gb, Lb, ed, ?_, e4, by rw [e5]; decide, e6, by rw [ht1, ht2]; exact fun e pend w0 y1 y2 y3 => e7 _ _ (hst e pend w0 y1 y2 y3)⟩
    unfold fX12_expression_p84 fX12_expression_p322
    exact q_cb e1 (q_ck e2.1 e2.2 (q_sti (q_cb e3 rfl)))
  obtain ⟨x, ex, hxx⟩ := known_eq hfu hc
  have P57 : (x.toInt = 14 ∨ x.toInt = 15) → ∃ g' L', fX12_expression_p57 fu (kD fu m) 1 x g L = Cl fu fu m 1 g' L' ∧ mO b n g0 s (nx b n P) d g' L' ∧ (g' 28 (d + 1)).toInt = 0 ∧ (∀ j, j ≠ d + 1 → g' 28 j = g 28 j) ∧ (∀ e pend w0, StR s e (pend ++ w0) g → pOk t pend → lowW t w0 → StR s (e ++ pend) (a :: w0) g') := by
    intro hx
    have w14 : x = 14 → isW b n P 14 := by
      intro h9
      rcases hxx with ⟨j, hj, h1, h2⟩ | ⟨h1, -⟩
      · have h9' : x.toInt = 14 := by rw [h9]; rfl
        have : j = 14 := by omega
        subst this; exact h2
      · rw [h9] at h1; exact absurd h1 (by decide)
    have w15 : ¬ x = 14 → isW b n P 15 := by
      intro h9
      rcases hxx with ⟨j, hj, h1, h2⟩ | ⟨h1, -⟩
      · have : j = 15 := by
          rcases hx with h | h
          · exact absurd (ic_eq.mpr (show x.toInt = (14 : Int32).toInt from h)) h9
          · omega
        subst this; exact h2
      · omega
    by_cases x14 : x = 14
    · obtain ⟨g2, L2, g', L', e1, e2, e3⟩ := go 2 4 (by decide) (by decide) (hs2.elim (fun h => h.2.1) (fun h => absurd (isW_u (by decide) (by decide) (w14 x14) h.1) (by decide))) (hs2.elim (fun h => h.2.2) (fun h => absurd (isW_u (by decide) (by decide) (w14 x14) h.1) (by decide)))
      refine ⟨g', L', ?_, e3⟩
      unfold fX12_expression_p57 fX12_expression_p69
      exact q_t x14 (q_cb e1 (q_t x14 e2))
    · obtain ⟨g2, L2, g', L', e1, e2, e3⟩ := go 1 5 (by decide) (by decide) (hs2.elim (fun h => absurd (isW_u (by decide) (by decide) (w15 x14) h.1) (by decide)) (fun h => h.2.1)) (hs2.elim (fun h => absurd (isW_u (by decide) (by decide) (w15 x14) h.1) (by decide)) (fun h => h.2.2))
      refine ⟨g', L', ?_, e3⟩
      unfold fX12_expression_p57 fX12_expression_p69
      exact q_f x14 (q_cb e1 (q_f x14 e2))
  have hxv : x.toInt = 14 ∨ x.toInt = 15 := by
    rcases hxx with ⟨j, hj, h1, h2⟩ | ⟨-, h2⟩
    · rcases hs with h9 | h9
      · have := isW_u hj (by decide) h2 h9; omega
      · have := isW_u hj (by decide) h2 h9; omega
    · rcases hs with h9 | h9
      · exact absurd h9 (h2 14 (by decide))
      · exact absurd h9 (h2 15 (by decide))
  obtain ⟨g', L', e1, e2⟩ := P57 hxv
  refine ⟨g', L', ?_, e2⟩
  show fX12_expression_s29 fu (kD fu m) 1 g L = _
  unfold fX12_expression_s29
  refine q_f (by decide) (q_cb (good_eq hg) (q_f (by decide) (q_cb ex ?_)))
  by_cases x14 : x = 14
  · exact q_t x14 e1
  · refine q_f x14 (q_t (ic_eq.mpr (show x.toInt = (15 : Int32).toInt from ?_)) e1)
    rcases hxv with h9 | h9
    · exact absurd (ic_eq.mpr (show x.toInt = (14 : Int32).toInt from h9)) x14
    · exact h9
/-- nothing more of it -/
theorem D_stop {fu : Nat} (hfu : 1180591620717411303424 ≤ fu) {b : Nat → Int32} {n s P d m : Nat} {g0 g : gT} {L : lT} (h : mA b n g0 s P d g L) (h14 : ¬ isW b n P 14) (h15 : ¬ isW b n P 15) (ht : isS b n P 60 ∨ isS b n P 61 → (g 28 (d + 1)).toInt ≠ 0) (s43 : ¬ isS b n P 43) (s45 : ¬ isS b n P 45) (s42 : ¬ isS b n P 42) (s47 : ¬ isS b n P 47) (s41 : isS b n P 41 → d = 0) : ∃ L', Dl fu (m + 2) g L = fX12_expression_p325 fu g L' := by
  rw [D_186 hfu h h14 h15 ht]
  obtain ⟨hc, hx, hd⟩ := h
  have hg : (g 0 19).toInt = 0 := hc.c.2.2.2.2.2.2.2.2.2.2.2.1
  have stop : ∀ L' : lT, fX12_expression_p320 fu (kD fu (m + 1)) g L' = fX12_expression_p325 fu g L' := by
    intro L'
    unfold fX12_expression_p320 fX12_expression_p322
    show fX12_expression_s29 fu (kD fu m) 0 g L' = _
    unfold fX12_expression_s29
    exact q_t rfl rfl
  have key : ∃ L', fX12_expression_p186 fu (kD fu (m + 1)) 1 g L = fX12_expression_p320 fu (kD fu (m + 1)) g L' := by
    by_cases h41 : isS b n P 41
    · -- nothing is open
      have ho : Ex (fX12_isOpened fu g L) (fun (x : Int32) g1 L1 => g1 = g ∧ x = 0) := by
        have hz := hx.2.2.2.2.2.2.2.2 hg
        obtain ⟨-, -, z2, -⟩ := hz
        have hcO : cO (g 27) (gW g) = 0 := by have := s41 h41; omega
        have k := e_opened (fu := fu) (g := g) (L := L) (ρ := Int32) (Q := fun (x : Int32) g1 L1 => g1 = g ∧ x = 0) (A := fun g1 L1 => some (0, (g1, L1))) (B := fun g1 L1 => some (1, (g1, L1))) hfu hx.1 (fun L1 h9 => by omega) (fun L1 => Ex.ret ⟨rfl, rfl⟩)
        obtain ⟨x, g1, L1, e, hh⟩ := k
        cases hm : fX12_isOpened fu g L with
        | none => rw [hm] at e; exact nomatch e
        | some v =>
          obtain ⟨y, g2, L2⟩ := v
          rw [hm] at e
          have e : (if y = 0 then some ((0 : Int32), ((g2, L2) : zS)) else some ((1 : Int32), ((g2, L2) : zS))) = some (x, (g1, L1)) := e
          by_cases y0 : y = 0
          · rw [if_pos y0] at e
            cases e
            exact ⟨y, g1, L1, rfl, hh.1, y0⟩
          · rw [if_neg y0] at e
            cases e
            exact absurd hh.2 (by decide)
      obtain ⟨x, g1, L1, e, rfl, rfl⟩ := ho
      refine ⟨L1, ?_⟩
      unfold fX12_expression_p186
      exact q_cb (sign0 hc rfl s43) (q_t rfl (q_cb (sign0 hc rfl s45) (q_t rfl (q_cb (sign0 hc rfl s42) (q_t rfl (q_cb (sign0 hc rfl s47) (q_t rfl (q_cb (sign1 hc rfl h41) (q_f (by decide) (q_cb e (q_t rfl rfl)))))))))))
    · refine ⟨L, ?_⟩
      unfold fX12_expression_p186
      exact q_cb (sign0 hc rfl s43) (q_t rfl (q_cb (sign0 hc rfl s45) (q_t rfl (q_cb (sign0 hc rfl s42) (q_t rfl (q_cb (sign0 hc rfl s47) (q_t rfl (q_cb (sign0 hc rfl h41) (q_t rfl rfl)))))))))
  obtain ⟨L', e⟩ := key
  exact ⟨L', e.trans (stop L')⟩
end
section
/-! ===== the reference's expressions: closings, ends, operands ===== -/
theorem Ex.and {ρ : Type} {t : Option (ρ × zS)} {Q1 Q2 : ρ → gT → lT → Prop} (h1 : Ex t Q1) (h2 : Ex t Q2) : Ex t (fun x g L => Q1 x g L ∧ Q2 x g L) := by
  obtain ⟨x, g, L, e, p⟩ := h1
  obtain ⟨x', g', L', e', p'⟩ := h2
  rw [e] at e'
  cases e'
  exact ⟨x, g, L, e, p, p'⟩
theorem sign_eq0 {b : Nat → Int32} {n P fu : Nat} {g : gT} {L : lT} {c : Int32} (hc : cm b n P g) : (isS b n P c.toInt ∧ fX12_isSign fu c g L = some (1, (g, L))) ∨ (¬ isS b n P c.toInt ∧ fX12_isSign fu c g L = some (0, (g, L))) := by
  by_cases hk : tK b n P = 2
  · refine Or.inr ⟨fun h => by have := h.1; omega, ?_⟩
    have a7 := hc.2.2.2.2.2.2.1
    have e1 : sM (tK b n P) = 1 := sM_1.mpr hk
    unfold fX12_isSign fX12_isSign_p20 fX12_isSign_p21
    rw [ckb0, if_neg (fun h => by have := icc_eq (m := (g 0 24).toInt) (n := 3) rfl (by decide) h; omega)]
  · exact sign_eq (hc.M hk)
theorem opened_eq {fu : Nat} (hfu : 1180591620717411303424 ≤ fu) {g : gT} {L : lT} (hI : zI MT g) : ∃ x : Int32, fX12_isOpened fu g L = some (x, (g, L)) ∧ ((x = 1 ∧ 1 ≤ cO (g 27) (gW g)) ∨ (x = 0 ∧ cO (g 27) (gW g) = 0)) := by
  have q36 := hI 0 36 0 950 rfl
  have key : Ex (fX12_isOpened fu g L) (fun (x : Int32) g1 L1 => g1 = g ∧ L1 = L ∧ ((x = 1 ∧ 1 ≤ cO (g 27) (gW g)) ∨ (x = 0 ∧ cO (g 27) (gW g) = 0))) := by
    unfold fX12_isOpened
    refine Ex.lti (fun x _ xi => ?_)
    have xi : x.toInt = (g 0 36).toInt - 1 := by rw [xi]; exact ic_subc rfl (by decide) (by omega) (by omega)
    unfold fX12_isOpened_l7
    refine Ex.loop (α := Int32 × gT × lT) (fun v => (-1 ≤ v.1.toInt ∧ v.1.toInt < (g 0 36).toInt) ∧ v.2.1 = g ∧ v.2.2 = L ∧ cO (g 27) (gW g) = cO (g 27) (v.1.toInt + 1).toNat) (fun v => v.1.toInt + 1) (by omega) (by show x.toInt + 1 < (fu : Int); omega) ⟨(show -1 ≤ x.toInt ∧ x.toInt < (g 0 36).toInt by omega), rfl, rfl, by show cO (g 27) (g 0 36).toInt.toNat = cO (g 27) (x.toInt + 1).toNat; rw [xi]; congr 1; omega⟩ (fun k7 v hv ih => ?_)
    obtain ⟨v1, g2, L2⟩ := v
    obtain ⟨hv, e1, e2, hm⟩ := hv
    have hv : -1 ≤ v1.toInt ∧ v1.toInt < (g 0 36).toInt := hv
    have e1 : g2 = g := e1
    have e2 : L2 = L := e2
    have hm : cO (g 27) (gW g) = cO (g 27) (v1.toInt + 1).toNat := hm
    subst e1 e2
    show Ex (fX12_isOpened_s7 fu k7 v1 g2 L2) _
    unfold fX12_isOpened_s7 fX12_isOpened_p29 fX12_isOpened_p38
    rw [ckb0, ckb1]
    refine Ex.ite (fun c => ?_) (fun c => ?_)
    · rw [if_pos c]
      have c := icc_lt (m := v1.toInt) (n := 0) rfl (by decide) c
      refine Ex.ret ⟨rfl, rfl, Or.inr ⟨rfl, ?_⟩⟩
      rw [hm, show (v1.toInt + 1).toNat = 0 by omega]; rfl
    have c' := icc_nlt (m := v1.toInt) (n := 0) rfl (by decide) c
    refine Ex.ck (by omega) (by omega) ?_
    refine e_isOpen (fun ho => ?_) (fun ho => ?_)
    · rw [if_neg c]
      refine Ex.ret ⟨rfl, rfl, Or.inl ⟨rfl, cO_ge (i := v1.toNatClampNeg) ho ?_⟩⟩
      show v1.toInt.toNat < (g2 0 36).toInt.toNat
      omega
    · generalize hw : v1 + (-1) = w
      have ew : w.toInt = v1.toInt + -1 := by rw [← hw]; exact ic_addc rfl (by decide) (by omega) (by omega)
      refine ih (w, g2, L2) ⟨(show -1 ≤ w.toInt ∧ w.toInt < (g2 0 36).toInt by omega), rfl, rfl, ?_⟩ (show w.toInt + 1 < v1.toInt + 1 by omega) (show 0 < v1.toInt + 1 by omega)
      show cO (g2 27) (gW g2) = cO (g2 27) (w.toInt + 1).toNat
      rw [hm, show (v1.toInt + 1).toNat = v1.toInt.toNat + 1 by omega, show (w.toInt + 1).toNat = v1.toInt.toNat by omega]
      exact cO_n (by show ¬ 14 ≤ (g2 27 v1.toNatClampNeg).toInt; omega)
  obtain ⟨x, g1, L1, e, rfl, rfl, hx⟩ := key
  exact ⟨x, e, hx⟩
/-- a closing -/
theorem D_close {fu : Nat} (hfu : 1180591620717411303424 ≤ fu) {b : Nat → Int32} {n s P d m : Nat} {g0 g : gT} {L : lT} (h : mA b n g0 s P (d + 1) g L) (hs : isS b n P 41) : ∃ g' L', Dl fu (m + 1) g L = Dl fu m g' L' ∧ mA b n g0 s (nx b n P) d g' L' ∧ g' 28 = g 28 ∧ (∀ e pend w0, StR s e (pend ++ 14 :: w0) g → pOk 0 pend → StR s (e ++ pend) w0 g') := by
  have n60 := isS_u hs (show (41 : Int) ≠ 60 by decide)
  have n61 := isS_u hs (show (41 : Int) ≠ 61 by decide)
  rw [D_186 hfu h (noW hs) (noW hs) (fun h9 => absurd h9 (fun h9 => h9.elim n60 n61))]
  obtain ⟨hc, hx, hd⟩ := h
  have hg : (g 0 19).toInt = 0 := hc.c.2.2.2.2.2.2.2.2.2.2.2.1
  obtain ⟨-, -, d2, -⟩ := hx.2.2.2.2.2.2.2.2 hg
  have ho : 1 ≤ cO (g 27) (gW g) := by omega
  obtain ⟨x, ex, hxx⟩ := opened_eq hfu (g := g) (L := L) hx.1
  have hx1 : x = 1 := by
    rcases hxx with ⟨h1, -⟩ | ⟨-, h2⟩
    · exact h1
    · omega
  subst hx1
  -- as in closes
  obtain ⟨g2, L2, ed, hq, hz, hst⟩ := drops_ex hfu (L := L) 0 hx
  have h2 := hx.drop hq
  have hF := hq.2.1
  have e27 : g2 27 = g 27 := hF.2 27 (by decide) (by decide)
  have e37 := hF.i (j := 37) (by decide)
  have e19 := hF.i (j := 19) (by decide)
  have q36 := h2.1 0 36 0 950 rfl
  obtain ⟨b2, c1, c2, c3, nn, hh, c4, c5⟩ := h2.2.2.2.2.2.2.2.2 (by omega)
  have hcO : 1 ≤ cO (g2 27) (gW g2) := by omega
  have hpos : 0 < (g2 0 36).toInt := by
    by_cases hp : 0 < (g2 0 36).toInt
    · exact hp
    · have e0 : gW g2 = 0 := by show (g2 0 36).toInt.toNat = 0; omega
      rw [e0] at hcO
      exact absurd hcO (show ¬ 1 ≤ 0 by decide)
  have ho2 : 14 ≤ (g2 27 (gW g2 - 1)).toInt := by
    rcases hz (by decide) with hz | hz
    · omega
    · rw [e27]; exact hz
  have ew : (g2 0 36 - 1).toInt = (g2 0 36).toInt - 1 := ic_subc rfl (by decide) (by omega) (by omega)
  generalize gae : upd2 g2 0 36 (g2 0 36 - 1) = ga
  have hIa : zI MT ga := by rw [← gae]; exact h2.1.upd (lo := 0) (hi := 950) rfl (by omega) (by omega)
  generalize gbe : upd2 ga 0 37 (ga 0 37 - 1) = gb
  have hIb : zI MT gb := by rw [← gbe]; exact hIa.updN rfl
  have a37 : ga 0 37 = g2 0 37 := by rw [← gae]; rfl
  have ev : (ga 0 37 - 1).toInt = (g2 0 37).toInt - 1 := by rw [a37]; exact ic_subc rfl (by decide) (by omega) (by omega)
  have s36 : (gb 0 36).toInt = (g2 0 36).toInt - 1 := by rw [← gbe, ← gae]; exact ew
  have s37 : (gb 0 37).toInt = (g2 0 37).toInt - 1 := by rw [← gbe, upd2_at]; exact ev
  have hFb : Fr [36, 37] [] g2 gb := by rw [← gbe, ← gae]; exact (Fr.refl.u0 (by decide)).u0 (by decide)
  have hb : xI g0 s 1 0 0 0 gb := by
    obtain ⟨h1, k2, h3, h4, h5, h6, h7, h8, h9⟩ := h2
    have f19 := hFb.i (j := 19) (by decide)
    have f25 := hFb.i (j := 25) (by decide)
    have f35 := hFb.i (j := 35) (by decide)
    have f26 : gb 26 = g2 26 := hFb.2 26 (by decide) (by decide)
    have f27 : gb 27 = g2 27 := hFb.2 27 (by decide) (by decide)
    have eP : gP gb = gP g2 := by show (gb 0 35).toInt.toNat = (g2 0 35).toInt.toNat; rw [f35]
    have eW : gW gb = gW g2 - 1 := by show (gb 0 36).toInt.toNat = (g2 0 36).toInt.toNat - 1; omega
    have eW1 : gW g2 = (gW g2 - 1) + 1 := by have : 0 < gW g2 := (by show 0 < (g2 0 36).toInt.toNat; omega); omega
    have o1 := cO_o (w := g2 27) (n := gW g2 - 1) ho2
    have o2 := cB_n (w := g2 27) (n := gW g2 - 1) (by omega)
    rw [← eW1] at o1 o2
    refine ⟨hIb, k2.tr (hFb.mo (by decide) (by decide)), h3.fr hFb (by decide) (by decide) (by decide) (by decide), by omega, by omega, by omega, by omega, fun j hj => by rw [f26]; exact h8 j hj, fun _ => ⟨by omega, ?_⟩⟩
    unfold xC
    rw [f26, f27, eP, eW]
    exact ⟨fun i hi => c1 i (by omega), by omega, by omega, nn, hh, c4, by omega⟩
  have hc2 : cm b n P g2 := hc.c.fr hq.1 hq.2.1 (by decide) (by decide) (by decide) (by decide) (by decide) (by decide) (by decide) (by decide) (by decide) (by decide)
  have hcb : cm b n P gb := hc2.fr hIb hFb (by decide) (by decide) (by decide) (by decide) (by decide) (by decide) (by decide) (by decide) (by decide) (by decide)
  obtain ⟨gc, Lc, ec, hcc, hqc⟩ := goes_eq0 (fu := fu) (L := L2) hfu hcb
  have s24 : (gb 0 24).toInt ≠ 0 := by rw [hcb.2.2.2.2.2.2.1]; exact fun h => by have := sM_0.mp h; have := hs.1; omega
  obtain ⟨k1, -, -⟩ := hb.goes (by decide) (by decide) s24 hqc
  have hcl : fX12_closes fu g L = some ((), (gc, Lc)) := by
    unfold fX12_closes
    refine q_cb ed (q_sti ?_)
    rw [gae]
    refine q_sti ?_
    rw [gbe]
    exact q_cb ec rfl
  refine ⟨gc, Lc, ?_, ⟨hcc, k1, ?_⟩, ?_, fun e pend w0 y1 y2 => ?_⟩
  rotate_left 3
  · obtain ⟨u1, u2, u3⟩ := hst e pend (14 :: w0) y1 y2 (Or.inl (by decide))
    obtain ⟨m', e1, -, e3⟩ := u3
    have hb3 : StR s (e ++ pend) w0 gb := by
      refine ⟨?_, fun i hi => by rw [hFb.2 26 (by decide) (by decide)]; exact u2 i hi, ?_⟩
      · show (gb 0 35).toInt.toNat = _
        rw [hFb.i (by decide)]; exact u1
      · have e1 : (g2 0 36).toInt.toNat = m' + 1 := e1
        have : gW gb = m' := by show (gb 0 36).toInt.toNat = m'; omega
        rw [this, hFb.2 27 (by decide) (by decide)]; exact e3
    exact hb3.f hqc.2.1 (by decide) (by decide) (by decide) (by decide)
  · unfold fX12_expression_p186
    exact q_cb (sign0 hc rfl (isS_u hs (by decide))) (q_t rfl (q_cb (sign0 hc rfl (isS_u hs (by decide))) (q_t rfl (q_cb (sign0 hc rfl (isS_u hs (by decide))) (q_t rfl (q_cb (sign0 hc rfl (isS_u hs (by decide))) (q_t rfl (q_cb (sign1 hc rfl hs) (q_f (by decide) (q_cb ex (q_f (by decide) (q_cb hcl rfl))))))))))))
  · rw [hqc.2.1.i (by decide), s37, e37, hd]; omega
  · rw [hqc.2.1.2 28 (by decide) (by decide), hFb.2 28 (by decide) (by decide), hF.2 28 (by decide) (by decide)]
/-- the end of an expression -/
theorem p345_eq {fu : Nat} (hfu : 1180591620717411303424 ≤ fu) {s : Nat} {g0 g : gT} {L : lT} (h : xI g0 s 1 0 0 0 g) : ∃ g1 L1, fX12_expression_p345 fu g L = some ((), (g1, L1)) ∧ XQ g0 s g1 ∧ Fr [35, 36] [26] g g1 ∧ (∀ e pend, StR s e pend g → pOk 0 pend → StR s (e ++ pend ++ [0]) [] g1) := by
  have key : Ex (fX12_expression_p345 fu g L) (fun (_ : Unit) g1 L1 => Fr [35, 36] [26] g g1 ∧ (∀ e pend, StR s e pend g → pOk 0 pend → StR s (e ++ pend ++ [0]) [] g1)) := by
    unfold fX12_expression_p345
    have q25 := h.1 0 25 0 700 rfl
    have b1 := h.2.2.2.2.2.1
    obtain ⟨g2, L2, ed, hq1, -, hst⟩ := drops_ex hfu (L := L) 0 h
    refine Ex.cb (P := fun (_ : Unit) g' L' => g' = g2 ∧ L' = L2) ⟨(), g2, L2, ed, rfl, rfl⟩ (fun _ g' L' hy => ?_)
    rw [hy.1, hy.2]
    clear hy
    have h2 := h.drop hq1
    have q35 := h2.1 0 35 0 1900 rfl
    have q36 := h2.1 0 36 0 950 rfl
    have r25 := h2.1 0 25 0 700 rfl
    have b2 := h2.2.2.2.2.2.1
    refine e_puts h2.1 (by omega) (fun g3 hI3 hF p c v => Ex.ret ⟨?_, fun e pend y1 y2 => ?_⟩)
    · exact hq1.2.1.tr (hF.mo (by decide) (by decide))
    · have y3 := hst e pend [] (by rw [List.append_nil]; exact y1) y2 trivial
      exact y3.put q35.1 hF p c v
  obtain ⟨x, g1, L1, e, h1, h2⟩ := (expr_end fu hfu g0 g L s h).and key
  exact ⟨g1, L1, e, h1, h2.1, h2.2⟩
theorem bad_xI {g0 g : gT} {s d e d' e' : Nat} {u v : Int} (h : xI g0 s d e u v g) (hb : (g 0 19).toInt ≠ 0) : xI g0 s d' e' u 0 g := by
  obtain ⟨h1, h2, h3, h4, h5, h6, h7, h8, h9⟩ := h
  exact ⟨h1, h2, h3, h4, h5, h6, h7, h8, fun h => absurd h hb⟩
theorem p325_bad {fu : Nat} (hfu : 1180591620717411303424 ≤ fu) {s p d e : Nat} {v : Int} {g0 g : gT} {L : lT} (hb : bM p g) (h : xI g0 s d e 0 v g) : ∃ g1 L1, fX12_expression_p325 fu g L = some ((), (g1, L1)) ∧ bM p g1 ∧ XQ g0 s g1 := by
  obtain ⟨g1, L1, e, hx, hF, -⟩ := p345_eq hfu (L := L) (bad_xI (d' := 1) (e' := 0) h hb.2.2.1)
  refine ⟨g1, L1, ?_, hb.fr hx.1 hF (by decide) (by decide) (by decide) (by decide) (by decide) (by decide), hx⟩
  unfold fX12_expression_p325
  exact q_cb (bad_eq hb.2.2.1) (q_t rfl e)
/-- behind a fault the expression ends -/
theorem D_bad {fu : Nat} (hfu : 1180591620717411303424 ≤ fu) {s p d e m : Nat} {v : Int} {g0 g : gT} {L : lT} (hb : bM p g) (h : xI g0 s d e 0 v g) : ∃ g1 L1, Dl fu (m + 1) g L = some ((), (g1, L1)) ∧ bM p g1 ∧ XQ g0 s g1 := by
  obtain ⟨g1, L1, e, h1⟩ := p325_bad hfu (L := L) hb h
  refine ⟨g1, L1, ?_, h1⟩
  show fX12_expression_s29 fu (kD fu m) 1 g L = _
  unfold fX12_expression_s29
  exact q_f (by decide) (q_cb (bad_eq hb.2.2.1) (q_t rfl e))
theorem part_bad {fu : Nat} {p : Nat} {g : gT} {L : lT} (hb : bM p g) : fX12_part fu g L = some ((), (g, L)) := by
  unfold fX12_part
  exact q_cb (bad_eq hb.2.2.1) (q_t rfl rfl)
theorem kQ_bad {fu m : Nat} {p : Nat} {g : gT} {L : lT} {v2 v3 : Int32} (hb : bM p g) : kQ fu (m + 1) (v2, v3, g, L) = some ((), (g, L)) := by
  show fX12_operand_s4 fu (kQ fu m) v2 v3 g L = _
  unfold fX12_operand_s4 fX12_operand_p120
  by_cases c : v3 = 0
  · exact q_t c (q_cb (part_bad hb) rfl)
  · exact q_f c (q_cb (bad_eq hb.2.2.1) (q_t rfl (q_cb (part_bad hb) rfl)))
theorem C_bad {fu : Nat} (hfu : 1180591620717411303424 ≤ fu) {s p d e m nn : Nat} {v : Int} {g0 g : gT} {L : lT} {v2 : Int32} (hb : bM p g) (h : xI g0 s d e 0 v g) : ∃ g1 L1, Cl fu (m + 1) (nn + 1) v2 g L = some ((), (g1, L1)) ∧ bM p g1 ∧ XQ g0 s g1 := by
  obtain ⟨g1, L1, e, h1⟩ := D_bad hfu (m := nn) (L := L) hb h
  exact ⟨g1, L1, q_cb (kQ_bad hb) e, h1⟩
/-- the nots are read: an opening, or a part -/
def Zl (fu m nn : Nat) (v2 : Int32) (g : gT) (L : lT) : Option (Unit × zS) := cb (fX12_operand_p75 fu (kQ fu m) v2 g L) (fun _ g' L' => Dl fu nn g' L')
abbrev kN (fu m j : Nat) : Int32 × gT × lT → Option (Unit × zS) := whileK (fun k v => fX12_operand_s18 fu (kQ fu m) 1 k v.1 v.2.1 v.2.2) j
/-- nots are being read -/
def Nl (fu m nn j : Nat) (v4 : Int32) (g : gT) (L : lT) : Option (Unit × zS) := cb (kN fu m j (v4, g, L)) (fun _ g' L' => Dl fu nn g' L')
theorem C_0 {fu : Nat} (hfu : 1180591620717411303424 ≤ fu) {m nn : Nat} {g : gT} {L : lT} (hg : (g 0 19).toInt = 0) : Cl fu (m + 1) nn 0 g L = Zl fu m nn 0 g L := by
  have e : kQ fu (m + 1) ((0 : Int32), (1 : Int32), g, L) = fX12_operand_p75 fu (kQ fu m) 0 g L := by
    show fX12_operand_s4 fu (kQ fu m) 0 1 g L = _
    unfold fX12_operand_s4
    refine q_f (by decide) (q_cb (good_eq hg) (q_f (by decide) ?_))
    unfold fX12_operand_l18
    obtain ⟨f, rfl⟩ : ∃ f, fu = f + 1 := ⟨fu - 1, by omega⟩
    show fX12_operand_s18 (f + 1) (kQ (f + 1) m) 0 _ 0 g L = _
    unfold fX12_operand_s18
    exact q_cb (good_eq hg) (q_f (by decide) (q_t rfl rfl))
  unfold Cl Zl
  rw [e]
theorem C_1 {fu m nn : Nat} {g : gT} {L : lT} (hg : (g 0 19).toInt = 0) : Cl fu (m + 1) nn 1 g L = Nl fu m nn fu 0 g L := by
  have e : kQ fu (m + 1) ((1 : Int32), (1 : Int32), g, L) = kN fu m fu ((0 : Int32), g, L) := by
    show fX12_operand_s4 fu (kQ fu m) 1 1 g L = _
    unfold fX12_operand_s4
    exact q_f (by decide) (q_cb (good_eq hg) (q_f (by decide) rfl))
  unfold Cl Nl
  rw [e]
theorem N_stop {fu : Nat} (hfu : 1180591620717411303424 ≤ fu) {b : Nat → Int32} {n P m nn j : Nat} {g : gT} {L : lT} {v4 : Int32} (hc : cM b n P g L) (hw : ¬ isW b n P 16) : Nl fu m nn (j + 1) v4 g L = Zl fu m nn 1 g L := by
  have hg : (g 0 19).toInt = 0 := hc.c.2.2.2.2.2.2.2.2.2.2.2.1
  obtain ⟨x, ex, hxx⟩ := known_eq hfu hc
  have e : kN fu m (j + 1) (v4, g, L) = fX12_operand_p75 fu (kQ fu m) 1 g L := by
    show fX12_operand_s18 fu (kQ fu m) 1 (kN fu m j) v4 g L = _
    unfold fX12_operand_s18
    refine q_cb (good_eq hg) (q_f (by decide) (q_f (by decide) (q_cb ex (q_f (fun h9 => ?_) rfl))))
    have h9 := icc_eq (m := x.toInt) (n := 16) rfl (by decide) h9
    rcases hxx with ⟨k, hk, h1, h2⟩ | ⟨h1, -⟩
    · have : k = 16 := by omega
      subst this; exact hw h2
    · omega
  unfold Nl Zl
  rw [e]
theorem known16 {fu : Nat} (hfu : 1180591620717411303424 ≤ fu) {b : Nat → Int32} {n P : Nat} {g : gT} {L : lT} (hc : cM b n P g L) (hw : isW b n P 16) : fX12_knownWord fu g L = some (16, (g, L)) := by
  obtain ⟨x, ex, hxx⟩ := known_eq hfu hc
  have : x.toInt = 16 := by
    rcases hxx with ⟨k, hk, h1, h2⟩ | ⟨-, h2⟩
    · have := isW_u hk (by decide) h2 hw; omega
    · exact absurd hw (h2 16 (by decide))
  have e : x = 16 := ic_eq.mpr (show x.toInt = (16 : Int32).toInt from this)
  rw [← e]; exact ex
theorem N_more {fu : Nat} (hfu : 1180591620717411303424 ≤ fu) {b : Nat → Int32} {n s P d m nn j : Nat} {g0 g : gT} {L : lT} {v4 : Int32} (h : mO b n g0 s P d g L) (hw : isW b n P 16) (h6 : v4.toInt ≠ 6) : ∃ g' L', Nl fu m nn (j + 1) v4 g L = Nl fu m nn j (v4 + 1) g' L' ∧ mO b n g0 s (nx b n P) d g' L' ∧ g' 28 = g 28 ∧ (∀ e w, StR s e w g → StR s e (3 :: w) g') := by
  obtain ⟨hc, hx, hd⟩ := h
  have hg : (g 0 19).toInt = 0 := hc.c.2.2.2.2.2.2.2.2.2.2.2.1
  have w36 := hx.2.2.2.2.1
  have q25 := hx.1 0 25 0 700 rfl
  have q36 := hx.1 0 36 0 950 rfl
  obtain ⟨ga, ea, k1, k2, k3, k4, k5⟩ := waitsFor_eq (fu := fu) (v := 3) (g := g) (L := L) (by omega) (by omega)
  have hIa := k1 hx.1
  have ha : xI g0 s 0 0 1 1 ga := hx.wait hg hIa k2 k3 k4 k5 (Or.inr (Or.inl ⟨by decide, rfl, rfl⟩))
  have hca : cm b n P ga := hc.c.fr hIa k2 (by decide) (by decide) (by decide) (by decide) (by decide) (by decide) (by decide) (by decide) (by decide) (by decide)
  obtain ⟨gb, Lb, eb, hcb, hqb⟩ := goes_eq0 (fu := fu) (L := L) hfu hca
  have s24 : (ga 0 24).toInt ≠ 0 := by rw [hca.2.2.2.2.2.2.1]; exact fun h => by have := sM_0.mp h; have := hw.1; omega
  obtain ⟨hb, -, -⟩ := ha.goes (by decide) (by decide) s24 hqb
  have e : kN fu m (j + 1) (v4, g, L) = kN fu m j ((v4 + 1), gb, Lb) := by
    show fX12_operand_s18 fu (kQ fu m) 1 (kN fu m j) v4 g L = _
    unfold fX12_operand_s18 fX12_operand_p50
    exact q_cb (good_eq hg) (q_f (by decide) (q_f (by decide) (q_cb (known16 hfu hc hw) (q_t rfl (q_f (fun h9 => h6 (icc_eq (m := v4.toInt) (n := 6) rfl (by decide) h9)) (q_cb (good_eq hg) (q_f (by decide) (q_cb ea (q_cb eb rfl)))))))))
  refine ⟨gb, Lb, by unfold Nl; rw [e], ⟨hcb, hb, ?_⟩, ?_, fun e w hS => (hS.push q36.1 k2 k3 k4 k5).f hqb.2.1 (by decide) (by decide) (by decide) (by decide)⟩
  · rw [hqb.2.1.i (by decide), k2.i (by decide)]; exact hd
  · rw [hqb.2.1.2 28 (by decide) (by decide), k2.2 28 (by decide) (by decide)]
theorem Z_bad {fu : Nat} (hfu : 1180591620717411303424 ≤ fu) {s p d e m nn : Nat} {v : Int} {g0 g : gT} {L : lT} {v2 : Int32} (hb : bM p g) (h : xI g0 s d e 0 v g) : ∃ g1 L1, Zl fu (m + 1) (nn + 1) v2 g L = some ((), (g1, L1)) ∧ bM p g1 ∧ XQ g0 s g1 := by
  obtain ⟨g1, L1, e, h1⟩ := D_bad hfu (m := nn) (L := L) hb h
  refine ⟨g1, L1, ?_, h1⟩
  have e2 : fX12_operand_p75 fu (kQ fu (m + 1)) v2 g L = some ((), (g, L)) := by
    unfold fX12_operand_p75 fX12_operand_p95 fX12_operand_p96 fX12_operand_p117
    exact q_cb (bad_eq hb.2.2.1) (q_t rfl (q_t rfl (kQ_bad hb)))
  exact q_cb e2 e
theorem N_bad {fu : Nat} (hfu : 1180591620717411303424 ≤ fu) {b : Nat → Int32} {n s P d m nn j : Nat} {g0 g : gT} {L : lT} {v4 : Int32} (h : mO b n g0 s P d g L) (hw : isW b n P 16) (h6 : v4.toInt = 6) : ∃ g1 L1, Nl fu (m + 1) (nn + 1) (j + 2) v4 g L = some ((), (g1, L1)) ∧ bM P g1 ∧ XQ g0 s g1 := by
  obtain ⟨hc, hx, hd⟩ := h
  have hg : (g 0 19).toInt = 0 := hc.c.2.2.2.2.2.2.2.2.2.2.2.1
  obtain ⟨ga, ea, hba, hFa⟩ := wrong_eq (fu := fu) (w := 2) (by decide) hc
  have ha : xI g0 s 0 0 0 0 ga := hx.wrong hba.1 hFa hba.2.2.1
  obtain ⟨g1, L1, e1, h1⟩ := Z_bad hfu (m := m) (nn := nn) (v2 := 1) (L := L) hba ha
  refine ⟨g1, L1, ?_, h1⟩
  have e : kN fu (m + 1) (j + 2) (v4, g, L) = fX12_operand_p75 fu (kQ fu (m + 1)) 1 ga L := by
    show fX12_operand_s18 fu (kQ fu (m + 1)) 1 (kN fu (m + 1) (j + 1)) v4 g L = _
    unfold fX12_operand_s18 fX12_operand_p50
    refine q_cb (good_eq hg) (q_f (by decide) (q_f (by decide) (q_cb (known16 hfu hc hw) (q_t rfl (q_t (ic_eq.mpr (show v4.toInt = (6 : Int32).toInt from h6)) (q_cb ea (q_cb (bad_eq hba.2.2.1) (q_t rfl ?_))))))))
    show fX12_operand_s18 fu (kQ fu (m + 1)) 1 (kN fu (m + 1) j) (v4 + 1) ga L = _
    unfold fX12_operand_s18
    exact q_cb (bad_eq hba.2.2.1) (q_t rfl rfl)
  unfold Nl
  rw [e]; exact e1
/-- a part: what is asked, and what becomes of it -/
def paC (b : Nat → Int32) (n P : Nat) : Prop := (tK b n P = 1 ∧ tE b n P ≤ P + 4) ∨ (tK b n P = 2 ∧ vW b n P < 6)
theorem vW_lt {b : Nat → Int32} {n P : Nat} : vW b n P < 6 ↔ ∃ k, k < 6 ∧ isW b n P k := by
  unfold vW
  rcases wB_d b n P 0 with ⟨h0, e0⟩ | ⟨h0, e0⟩
  · rw [e0]; exact ⟨fun _ => ⟨0, by decide, h0⟩, fun _ => (by decide : (0 : Nat) < 6)⟩
  rcases wB_d b n P 1 with ⟨h1, e1⟩ | ⟨h1, e1⟩
  · rw [e0, e1]; exact ⟨fun _ => ⟨1, by decide, h1⟩, fun _ => (by decide : (1 : Nat) < 6)⟩
  rcases wB_d b n P 2 with ⟨h2, e2⟩ | ⟨h2, e2⟩
  · rw [e0, e1, e2]; exact ⟨fun _ => ⟨2, by decide, h2⟩, fun _ => (by decide : (2 : Nat) < 6)⟩
  rcases wB_d b n P 3 with ⟨h3, e3⟩ | ⟨h3, e3⟩
  · rw [e0, e1, e2, e3]; exact ⟨fun _ => ⟨3, by decide, h3⟩, fun _ => (by decide : (3 : Nat) < 6)⟩
  rcases wB_d b n P 4 with ⟨h4, e4⟩ | ⟨h4, e4⟩
  · rw [e0, e1, e2, e3, e4]; exact ⟨fun _ => ⟨4, by decide, h4⟩, fun _ => (by decide : (4 : Nat) < 6)⟩
  rcases wB_d b n P 5 with ⟨h5, e5⟩ | ⟨h5, e5⟩
  · rw [e0, e1, e2, e3, e4, e5]; exact ⟨fun _ => ⟨5, by decide, h5⟩, fun _ => (by decide : (5 : Nat) < 6)⟩
  rw [e0, e1, e2, e3, e4, e5]
  constructor
  · intro h; exact absurd (show (6 : Nat) < 6 from h) (by decide)
  · rintro ⟨k, hk, hw⟩
    rcases (by omega : k = 0 ∨ k = 1 ∨ k = 2 ∨ k = 3 ∨ k = 4 ∨ k = 5) with rfl | rfl | rfl | rfl | rfl | rfl
    · exact absurd hw h0
    · exact absurd hw h1
    · exact absurd hw h2
    · exact absurd hw h3
    · exact absurd hw h4
    · exact absurd hw h5
def paV (b : Nat → Int32) (n P : Nat) : Int := if tK b n P = 1 then tV b n P else -1 - (vW b n P : Int)
theorem vW_eq {b : Nat → Int32} {n P k : Nat} (hk : k < 6) (h : isW b n P k) : vW b n P = k := by
  have nw : ∀ j, j < 6 → j ≠ k → wB b n P j = false := fun j hj hn => wB_f (fun h' => hn (isW_u (by omega) (by omega) h' h))
  unfold vW
  rcases (by omega : k = 0 ∨ k = 1 ∨ k = 2 ∨ k = 3 ∨ k = 4 ∨ k = 5) with rfl | rfl | rfl | rfl | rfl | rfl
  · rw [wB_t h]; rfl
  · rw [nw 0 (by decide) (by decide), wB_t h]; rfl
  · rw [nw 0 (by decide) (by decide), nw 1 (by decide) (by decide), wB_t h]; rfl
  · rw [nw 0 (by decide) (by decide), nw 1 (by decide) (by decide), nw 2 (by decide) (by decide), wB_t h]; rfl
  · rw [nw 0 (by decide) (by decide), nw 1 (by decide) (by decide), nw 2 (by decide) (by decide), nw 3 (by decide) (by decide), wB_t h]; rfl
  · rw [nw 0 (by decide) (by decide), nw 1 (by decide) (by decide), nw 2 (by decide) (by decide), nw 3 (by decide) (by decide), nw 4 (by decide) (by decide), wB_t h]; rfl
set_option maxHeartbeats 4000000 in
theorem part_tok {fu : Nat} (hfu : 1180591620717411303424 ≤ fu) {b : Nat → Int32} {n P : Nat} {g : gT} {L : lT} (hc : cM b n P g L) (h35 : (g 0 35).toInt ≤ 1890) : Ex (fX12_part fu g L) (fun (_ : Unit) g1 L1 => ((paC b n P ∧ cM b n (nx b n P) g1 L1 ∧ (∀ s e w, StR s e w g → StR s (e ++ enc [paV b n P]) w g1)) ∨ (¬ paC b n P ∧ bM P g1)) ∧ g1 28 = g 28 ∧ g1 0 37 = g 0 37) := by
  obtain ⟨a1, a2, a3, a4, a5, a6, a7, a8, a9, a10, a11, a12, a13, a14⟩ := id hc
  -- two are put in a good state
  have good : ∀ (x y : Int32) (Lx : lT) (K : Unit → gT → lT → Option (Unit × zS)), paC b n P → enc [paV b n P] = [x.toInt, y.toInt] → (∀ g1 L1, Fr [35] [26] g g1 → K () g1 L1 = cb (fX12_puts fu y g1 L1) (fun _ g2 L2 => fX12_part_p90 fu g2 L2)) → Ex (cb (fX12_puts fu x g Lx) K) (fun (_ : Unit) g1 L1 => ((paC b n P ∧ cM b n (nx b n P) g1 L1 ∧ (∀ s e w, StR s e w g → StR s (e ++ enc [paV b n P]) w g1)) ∨ (¬ paC b n P ∧ bM P g1)) ∧ g1 28 = g 28 ∧ g1 0 37 = g 0 37) := by
    intro x y Lx K hp hen hK
    have q35 := a1 0 35 0 1900 rfl
    refine e_puts a1 (by omega) (fun g1 hI1 hF1 p1 c1 v1 => ?_)
    rw [hK g1 Lx hF1]
    refine e_puts hI1 (by omega) (fun g2 hI2 hF2 p2 c2 v2 => ?_)
    have hF : Fr [35] [26] g g2 := hF1.tr hF2
    have hc2 : cm b n P g2 := hc.c.fr hI2 hF (by decide) (by decide) (by decide) (by decide) (by decide) (by decide) (by decide) (by decide) (by decide) (by decide)
    unfold fX12_part_p90 fX12_part_p101
    refine e_good (fun _ => ?_) (fun h => absurd hc2.2.2.2.2.2.2.2.2.2.2.2.1 h)
    obtain ⟨g3, L3, e3, h3, hq⟩ := goes_eq0 (fu := fu) (L := Lx) hfu hc2
    rw [e3]
    refine Ex.ret ⟨Or.inl ⟨hp, h3, fun s e w hS => ?_⟩, ?_, ?_⟩
    · have y1 := (hS.put q35.1 hF1 p1 c1 v1).put (by omega) hF2 p2 c2 v2
      rw [hen]
      rw [List.append_assoc] at y1
      exact y1.f hq.2.1 (by decide) (by decide) (by decide) (by decide)
    · show g3 28 = g 28
      rw [hq.2.1.2 28 (by decide) (by decide), hF.2 28 (by decide) (by decide)]
    · show g3 0 37 = g 0 37
      rw [hq.2.1.1 37 (by decide), hF.1 37 (by decide)]
  have bad : ∀ (w x y : Int32) (Lx : lT) (K : Unit → gT → lT → Option (Unit × zS)), w.toInt ≠ 0 → ¬ paC b n P → (∀ g1 L1, Fr [19, 20] [] g g1 → K () g1 L1 = cb (fX12_puts fu x g1 L1) (fun _ g2 L2 => cb (fX12_puts fu y g2 L2) (fun _ g3 L3 => fX12_part_p90 fu g3 L3))) → Ex (cb (fX12_wrong fu w g Lx) K) (fun (_ : Unit) g1 L1 => ((paC b n P ∧ cM b n (nx b n P) g1 L1 ∧ (∀ s e w, StR s e w g → StR s (e ++ enc [paV b n P]) w g1)) ∨ (¬ paC b n P ∧ bM P g1)) ∧ g1 28 = g 28 ∧ g1 0 37 = g 0 37) := by
    intro w x y Lx K hw hp hK
    obtain ⟨ga, ea, hba, hFa⟩ := wrong_eq (fu := fu) (w := w) hw hc
    have ea : fX12_wrong fu w g Lx = some ((), (ga, Lx)) := by
      unfold fX12_wrong at ea ⊢
      rw [if_pos (ic_eq.mpr (show (g 0 19).toInt = (0 : Int32).toInt from a13))] at ea ⊢
      have ea : some ((), ((upd2 (upd2 g 0 19 w) 0 20 (upd2 g 0 19 w 0 25), L) : zS)) = some ((), ((ga, L) : zS)) := ea
      have e9 : upd2 (upd2 g 0 19 w) 0 20 (upd2 g 0 19 w 0 25) = ga := congrArg (fun q : Option (Unit × zS) => (q.getD ((), (ga, L))).2.1) ea
      rw [← e9]; rfl
    rw [ea]
    show Ex (K () ga Lx) _
    rw [hK ga Lx hFa]
    have e35 := hFa.i (j := 35) (by decide)
    refine e_puts hba.1 (by omega) (fun g1 hI1 hF1 p1 c1 v1 => ?_)
    refine e_puts hI1 (by omega) (fun g2 hI2 hF2 p2 c2 v2 => ?_)
    have hF : Fr [35] [26] ga g2 := hF1.tr hF2
    have hb2 := hba.fr hI2 hF (by decide) (by decide) (by decide) (by decide) (by decide) (by decide)
    unfold fX12_part_p90 fX12_part_p101
    refine e_good (fun h => absurd h hb2.2.2.1) (fun _ => Ex.ret ⟨Or.inr ⟨hp, hb2⟩, ?_, ?_⟩)
    · rw [hF.2 28 (by decide) (by decide), hFa.2 28 (by decide) (by decide)]
    · rw [hF.1 37 (by decide), hFa.1 37 (by decide)]
  unfold fX12_part
  refine e_good (fun _ => ?_) (fun h => absurd a13 h)
  unfold fX12_part_p29
  refine Ex.ite (fun c1 => ?_) (fun c1 => ?_)
  · have c1 := icc_eq (m := (g 0 24).toInt) (n := 2) rfl (by decide) c1
    have hk : tK b n P = 1 := sM_2.mp (by omega)
    refine Ex.ite (fun c2 => ?_) (fun c2 => ?_)
    · have c2 := icc_le (m := (g 0 26).toInt) (n := 4) rfl (by decide) c2
      have q27 := a1 0 27 0 9999 rfl
      exact good 1 (g 0 27) L _ (Or.inl ⟨hk, by omega⟩) (by
        rw [enc_1]; unfold paV; rw [if_pos hk, ← a9]; unfold en1; rw [if_pos (by omega)]; rfl) (fun g1 L1 hF => by rw [hF.1 27 (by decide)])
    · have c2 := icc_nle (m := (g 0 26).toInt) (n := 4) rfl (by decide) c2
      refine m_wrong (by decide) hc (fun ga hba hFa => ?_)
      have e35 := hFa.i (j := 35) (by decide)
      refine e_puts hba.1 (by omega) (fun g1 hI1 hF1 p1 c1 v1 => ?_)
      refine e_puts hI1 (by omega) (fun g2 hI2 hF2 p2 c2 v2 => ?_)
      have hF : Fr [35] [26] ga g2 := hF1.tr hF2
      have hb2 := hba.fr hI2 hF (by decide) (by decide) (by decide) (by decide) (by decide) (by decide)
      unfold fX12_part_p90 fX12_part_p101
      refine e_good (fun h => absurd h hb2.2.2.1) (fun _ => Ex.ret ⟨Or.inr ⟨fun h => ?_, hb2⟩, ?_, ?_⟩)
      · rcases h with h | h
        · have := h.2; omega
        · have := h.1; omega
      · rw [hF.2 28 (by decide) (by decide), hFa.2 28 (by decide) (by decide)]
      · rw [hF.1 37 (by decide), hFa.1 37 (by decide)]
  have c1 := icc_neq (m := (g 0 24).toInt) (n := 2) rfl (by decide) c1
  have hk1 : tK b n P ≠ 1 := fun h => c1 (by rw [a7]; exact sM_2.mpr h)
  refine Ex.ite (fun c2 => ?_) (fun c2 => ?_)
  · have c2 := icc_eq (m := (g 0 24).toInt) (n := 1) rfl (by decide) c2
    have hk : tK b n P = 2 := sM_1.mp (by omega)
    refine m_known hfu hc (fun x hx => ?_)
    have iff6 : (0 ≤ x.toInt ∧ x.toInt ≤ 5) ↔ vW b n P < 6 := by
      rw [vW_lt]
      rcases hx with ⟨k, hk, h1, h2⟩ | ⟨h1, h2⟩
      · constructor
        · intro h; exact ⟨k, by omega, h2⟩
        · rintro ⟨j, hj, h3⟩
          have := isW_u (show j < 17 by omega) hk h3 h2
          omega
      · constructor
        · intro h; omega
        · rintro ⟨j, hj, h3⟩
          exact absurd h3 (h2 j (by omega))
    have nb : ¬ (0 ≤ x.toInt ∧ x.toInt ≤ 5) → Ex (fX12_part_p67 fu x g L) (fun (_ : Unit) g1 L1 => ((paC b n P ∧ cM b n (nx b n P) g1 L1 ∧ (∀ s e w, StR s e w g → StR s (e ++ enc [paV b n P]) w g1)) ∨ (¬ paC b n P ∧ bM P g1)) ∧ g1 28 = g 28 ∧ g1 0 37 = g 0 37) := by
      intro hn
      unfold fX12_part_p67
      refine bad 3 2 x L _ (by decide) (fun h => ?_) (fun g1 L1 _ => rfl)
      rcases h with h | h
      · exact hk1 h.1
      · exact hn (iff6.mpr h.2)
    refine Ex.ite (fun d1 => nb (fun h => ?_)) (fun d1 => ?_)
    · have d1 := icc_lt (m := x.toInt) (n := 0) rfl (by decide) d1
      omega
    have d1 := icc_nlt (m := x.toInt) (n := 0) rfl (by decide) d1
    refine Ex.ite (fun d2 => ?_) (fun d2 => nb (fun h => ?_))
    · have d2 := icc_le (m := x.toInt) (n := 5) rfl (by decide) d2
      unfold fX12_part_p72
      exact good 2 x L _ (Or.inr ⟨hk, iff6.mp ⟨d1, d2⟩⟩) (by
        have hv : (vW b n P : Int) = x.toInt := by
          rcases hx with ⟨k, hk17, h1, h2⟩ | ⟨h1, h2⟩
          · rw [vW_eq (show k < 6 by omega) h2]; exact h1.symm
          · omega
        rw [enc_1]; unfold paV; rw [if_neg hk1, hv]; unfold en1; rw [if_neg (by omega), if_pos (by omega)]
        show [2, -1 - (-1 - x.toInt)] = [2, x.toInt]
        congr 2; omega) (fun g1 L1 _ => rfl)
    · have d2 := icc_nle (m := x.toInt) (n := 5) rfl (by decide) d2
      omega
  · have c2 := icc_neq (m := (g 0 24).toInt) (n := 1) rfl (by decide) c2
    have hk2 : tK b n P ≠ 2 := fun h => c2 (by rw [a7]; exact sM_1.mpr h)
    refine m_wrong (by decide) hc (fun ga hba hFa => ?_)
    unfold fX12_part_p90 fX12_part_p101
    refine e_good (fun h => absurd h hba.2.2.1) (fun _ => Ex.ret ⟨Or.inr ⟨fun h => ?_, hba⟩, ?_, ?_⟩)
    · rcases h with h | h
      · exact hk1 h.1
      · exact hk2 h.1
    · rw [hFa.2 28 (by decide) (by decide)]
    · rw [hFa.1 37 (by decide)]
/-- a part that is no opening -/
theorem Z_part {fu : Nat} (hfu : 1180591620717411303424 ≤ fu) {b : Nat → Int32} {n s P d m nn : Nat} {g0 g : gT} {L : lT} {v2 : Int32} (h : mO b n g0 s P d g L) (hs : ¬ isS b n P 40) : (paC b n P ∧ ∃ g1 L1, Zl fu (m + 1) (nn + 1) v2 g L = Dl fu (nn + 1) g1 L1 ∧ mA b n g0 s (nx b n P) d g1 L1 ∧ g1 28 = g 28 ∧ (∀ e w, StR s e w g → StR s (e ++ enc [paV b n P]) w g1)) ∨ (¬ paC b n P ∧ ∃ g1 L1, Zl fu (m + 1) (nn + 1) v2 g L = some ((), (g1, L1)) ∧ bM P g1 ∧ XQ g0 s g1) := by
  obtain ⟨hc, hx, hd⟩ := h
  have hg : (g 0 19).toInt = 0 := hc.c.2.2.2.2.2.2.2.2.2.2.2.1
  have q25 := hx.1 0 25 0 700 rfl
  have q36 := hx.1 0 36 0 950 rfl
  have b1 := hx.2.2.2.2.2.1
  obtain ⟨u, g1, L1, e, ⟨hp, h28, h37⟩, hx1, -⟩ := (part_tok hfu hc (by omega)).and (sX12_part fu hfu g0 g L s hx)
  have eZ : fX12_operand_p75 fu (kQ fu (m + 1)) v2 g L = some ((), (g1, L1)) := by
    unfold fX12_operand_p75 fX12_operand_p95 fX12_operand_p96 fX12_operand_p117
    refine q_cb (good_eq hg) (q_f (by decide) (q_cb (sign0 hc rfl hs) (q_t rfl (q_t rfl ?_))))
    show fX12_operand_s4 fu (kQ fu m) v2 0 g L = _
    unfold fX12_operand_s4 fX12_operand_p120
    exact q_t rfl (q_cb e rfl)
  rcases hp with ⟨hp, hc1, hst⟩ | ⟨hp, hb1⟩
  · exact Or.inl ⟨hp, g1, L1, q_cb eZ rfl, ⟨hc1, hx1, by rw [h37]; exact hd⟩, h28, hst s⟩
  · obtain ⟨g2, L2, e2, h2⟩ := D_bad hfu (m := nn) (L := L1) hb1 hx1
    exact Or.inr ⟨hp, g2, L2, q_cb eZ e2, h2⟩
/-- an opening -/
theorem Z_open {fu : Nat} (hfu : 1180591620717411303424 ≤ fu) {b : Nat → Int32} {n s P d m nn : Nat} {g0 g : gT} {L : lT} {v2 : Int32} (h : mO b n g0 s P d g L) (hs : isS b n P 40) : (d ≤ 4 ∧ ∃ g1 L1, Zl fu m nn v2 g L = Cl fu m nn 1 g1 L1 ∧ mO b n g0 s (nx b n P) (d + 1) g1 L1 ∧ (g1 28 (d + 2)).toInt = 0 ∧ (∀ j, j ≠ d + 2 → g1 28 j = g 28 j) ∧ (∀ e w, StR s e w g → StR s e (14 :: w) g1)) ∨ (¬ d ≤ 4 ∧ ∃ g1 L1, Zl fu m nn v2 g L = Cl fu m nn 1 g1 L1 ∧ bM (nx b n P) g1 ∧ xI g0 s 0 0 0 0 g1) := by
  obtain ⟨hc, hx, hd⟩ := h
  have hg : (g 0 19).toInt = 0 := hc.c.2.2.2.2.2.2.2.2.2.2.2.1
  have w36 := hx.2.2.2.2.1
  have q25 := hx.1 0 25 0 700 rfl
  have q36 := hx.1 0 36 0 950 rfl
  obtain ⟨ga, ea, k1, k2, k3, k4, k5⟩ := waitsFor_eq (fu := fu) (v := 14) (g := g) (L := L) (by omega) (by omega)
  have hIa := k1 hx.1
  have ha : xI g0 s 0 1 1 1 ga := hx.wait hg hIa k2 k3 k4 k5 (Or.inr (Or.inr ⟨by decide, rfl, rfl⟩))
  have hca : cm b n P ga := hc.c.fr hIa k2 (by decide) (by decide) (by decide) (by decide) (by decide) (by decide) (by decide) (by decide) (by decide) (by decide)
  obtain ⟨gb, Lb, eb, hcb, hqb⟩ := goes_eq0 (fu := fu) (L := L) hfu hca
  have s24 : (ga 0 24).toInt ≠ 0 := by rw [hca.2.2.2.2.2.2.1]; exact fun h => by have := sM_0.mp h; have := hs.1; omega
  obtain ⟨hb, -, -⟩ := ha.goes (by decide) (by decide) s24 hqb
  have b37 : (gb 0 37).toInt = (d : Int) + 1 := by rw [hqb.2.1.i (by decide), k2.i (by decide)]; exact hd
  have b28 : gb 28 = g 28 := by rw [hqb.2.1.2 28 (by decide) (by decide), k2.2 28 (by decide) (by decide)]
  have hgb : (gb 0 19).toInt = 0 := hcb.c.2.2.2.2.2.2.2.2.2.2.2.1
  have tok : Ex (fX12_deeper fu gb Lb) (fun (_ : Unit) g1 L1 => (d ≤ 4 ∧ cM b n (nx b n P) g1 L1 ∧ (g1 0 37).toInt = (d : Int) + 2 ∧ (g1 28 (d + 2)).toInt = 0 ∧ (∀ j, j ≠ d + 2 → g1 28 j = g 28 j) ∧ (∀ e w, StR s e w gb → StR s e w g1)) ∨ (¬ d ≤ 4 ∧ bM (nx b n P) g1)) := by
    have bad : ∀ t0 : Int32, t0.toInt ≠ 0 → ¬ d ≤ 4 → Ex (fX12_deeper_p61 fu t0 gb Lb) (fun (_ : Unit) g1 L1 => (d ≤ 4 ∧ cM b n (nx b n P) g1 L1 ∧ (g1 0 37).toInt = (d : Int) + 2 ∧ (g1 28 (d + 2)).toInt = 0 ∧ (∀ j, j ≠ d + 2 → g1 28 j = g 28 j) ∧ (∀ e w, StR s e w gb → StR s e w g1)) ∨ (¬ d ≤ 4 ∧ bM (nx b n P) g1)) := by
      intro t0 ht hd4
      unfold fX12_deeper_p61
      exact m_wrong ht hcb (fun g1 hb1 _ => Ex.ret (Or.inr ⟨hd4, hb1⟩))
    unfold fX12_deeper fX12_deeper_p56
    refine Ex.ite (fun c => ?_) (fun c => ?_)
    · have c := icc_le (m := 6) (n := (gb 0 37).toInt) (by decide) rfl c
      have hd4 : ¬ d ≤ 4 := by omega
      refine Ex.ite (fun _ => bad 2 (by decide) hd4) (fun _ => ?_)
      refine Ex.ite (fun _ => bad 2 (by decide) hd4) (fun _ => ?_)
      exact e_sign (fun _ => bad 2 (by decide) hd4) (bad 1 (by decide) hd4)
    have c := icc_nle (m := 6) (n := (gb 0 37).toInt) (by decide) rfl c
    generalize hw : (gb 0 37) + 1 = w
    have ew : w.toInt = (gb 0 37).toInt + 1 := by rw [← hw]; exact ic_addc rfl (by decide) (by omega) (by omega)
    refine Ex.sti (hcb.1.updN rfl) (fun gc gce hIc => ?_)
    have c37 : gc 0 37 = w := by rw [gce]; exact upd2_at
    rw [c37]
    refine Ex.ck (by omega) (by omega) ?_
    have eN : w.toNatClampNeg = d + 2 := by rw [nc]; omega
    rw [eN]
    have hn := nar01 0 (Or.inl rfl)
    refine Ex.sti (hIc.upd (lo := 0) (hi := 1) rfl hn.1 hn.2) (fun ge gee hIe => Ex.ret (Or.inl ⟨by omega, ?_, ?_, ?_, fun j hj => ?_, fun e w hS => hS.f (show Fr [37] [28] gb ge by rw [gee, gce]; exact (Fr.refl.u0 (by decide)).uk (by decide) (by decide)) (by decide) (by decide) (by decide) (by decide)⟩))
    · have hF : Fr [37] [28] gb ge := by rw [gee, gce]; exact (Fr.refl.u0 (by decide)).uk (by decide) (by decide)
      exact hcb.fr hIe hF (by decide) (by decide) (by decide) (by decide) (by decide) (by decide) (by decide) (by decide) (by decide) (by decide)
    · rw [gee]
      show (gc 0 37).toInt = _
      rw [c37]; omega
    · rw [gee, upd2_at]; decide
    · rw [gee, upd2_nj hj, gce]
      show gb 28 j = g 28 j
      rw [b28]
  obtain ⟨u, gc, Lc, ec, hx1, hx2⟩ := tok.and (sX12_deeper fu g0 gb Lb s hb hgb)
  have eZ : Zl fu m nn v2 g L = Cl fu m nn 1 gc Lc := by
    unfold Zl Cl
    have e : fX12_operand_p75 fu (kQ fu m) v2 g L = kQ fu m ((1 : Int32), (1 : Int32), gc, Lc) := by
      unfold fX12_operand_p75 fX12_operand_p96 fX12_operand_p117
      exact q_cb (good_eq hg) (q_f (by decide) (q_cb (sign1 hc rfl hs) (q_f (by decide) (q_f (by decide) (q_cb ea (q_cb eb (q_cb ec rfl)))))))
    rw [e]
  rcases hx1 with ⟨h4, y1, y2, y3, y4, y5⟩ | ⟨h4, y1⟩
  · exact Or.inl ⟨h4, gc, Lc, eZ, ⟨y1, hx2.1, by rw [y2]; omega⟩, y3, y4, fun e w hS => y5 _ _ ((hS.push q36.1 k2 k3 k4 k5).f hqb.2.1 (by decide) (by decide) (by decide) (by decide))⟩
  · exact Or.inr ⟨h4, gc, Lc, eZ, y1, hx2.1⟩
end
