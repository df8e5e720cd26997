/-! ===== the reference's expressions: its steps ===== -/
section QE
variable {ρ β : Type} {R : Option (ρ × zS)} {g : gT} {L : lT}
theorem q_cb {m : Option (β × zS)} {K : β → gT → lT → Option (ρ × zS)} {x : β} (e : m = some (x, (g, L))) (h : K x g L = R) : cb m K = R := by rw [e]; exact h
theorem q_t {c : Prop} [Decidable c] {A B : Option (ρ × zS)} (h : c) (hA : A = R) : (if c then A else B) = R := by rw [if_pos h]; exact hA
theorem q_f {c : Prop} [Decidable c] {A B : Option (ρ × zS)} (h : ¬ c) (hB : B = R) : (if c then A else B) = R := by rw [if_neg h]; exact hB
theorem q_ck {i : Int32} {N : Nat} {K : Option (ρ × zS)} (h1 : 0 ≤ i.toInt) (h2 : i.toInt < (N : Int)) (h : K = R) : ck i N K = R := by rw [ck_eq h1 h2]; exact h
theorem q_sti {k j : Nat} {x : Int32} {K : gT → Option (ρ × zS)} (h : K (upd2 g k j x) = R) : sti g k j x K = R := h
end QE
theorem cm.M {b : Nat → Int32} {n P : Nat} {g : gT} {L : lT} (h : cm b n P g) (hk : tK b n P ≠ 2) : cM b n P g L := by
  obtain ⟨a1, a2, a3, a4, a5, a6, a7, a8, a9, a10, a11, a13, a14⟩ := h
  exact ⟨a1, a2, a3, a4, a5, a6, a7, a8, a9, a10, a11, fun h => absurd h hk, a13, a14⟩
theorem sign0 {b : Nat → Int32} {n P fu : Nat} {g : gT} {L : lT} {c : Int32} {ci : Int} (hc : cM b n P g L) (e : c.toInt = ci) (h : ¬ isS b n P ci) : fX12_isSign fu c g L = some (0, (g, L)) := by
  subst e
  rcases sign_eq (fu := fu) (c := c) hc with ⟨h1, -⟩ | ⟨-, h2⟩
  · exact absurd h1 h
  · exact h2
theorem sign1 {b : Nat → Int32} {n P fu : Nat} {g : gT} {L : lT} {c : Int32} {ci : Int} (hc : cM b n P g L) (e : c.toInt = ci) (h : isS b n P ci) : fX12_isSign fu c g L = some (1, (g, L)) := by
  subst e
  rcases sign_eq (fu := fu) (c := c) hc with ⟨-, h2⟩ | ⟨h1, -⟩
  · exact h2
  · exact absurd h h1
theorem isS_u {b : Nat → Int32} {n P : Nat} {c d : Int} (h : isS b n P c) (hn : c ≠ d) : ¬ isS b n P d := fun h' => hn (h.2.symm.trans h'.2)
/-- behind an operand, at place P, so deep -/
def mA (b : Nat → Int32) (n : Nat) (g0 : gT) (s P d : Nat) (g : gT) (L : lT) : Prop := cM b n P g L ∧ xI g0 s 1 0 0 0 g ∧ (g 0 37).toInt = (d : Int) + 1
/-- before an operand -/
def mO (b : Nat → Int32) (n : Nat) (g0 : gT) (s P d : Nat) (g : gT) (L : lT) : Prop := cM b n P g L ∧ xI g0 s 0 0 0 0 g ∧ (g 0 37).toInt = (d : Int) + 1
abbrev kD (fu m : Nat) : Int32 × gT × lT → Option (Unit × zS) := whileK (fun k v => fX12_expression_s29 fu k v.1 v.2.1 v.2.2) m
abbrev Dl (fu m : Nat) (g : gT) (L : lT) : Option (Unit × zS) := kD fu m ((1 : Int32), g, L)
abbrev kQ (fu m : Nat) : Int32 × Int32 × gT × lT → Option (Unit × zS) := whileK (fun k v => fX12_operand_s4 fu k v.1 v.2.1 v.2.2.1 v.2.2.2) m
def Cl (fu m nn : Nat) (v2 : Int32) (g : gT) (L : lT) : Option (Unit × zS) := cb (kQ fu m (v2, (1 : Int32), g, L)) (fun _ g' L' => Dl fu nn g' L')
/-- an act waits, and the next sign is read -/
theorem act_eq {fu : Nat} (hfu : 1180591620717411303424 ≤ fu) {b : Nat → Int32} {n s P d : Nat} {g0 g g2 : gT} {L L2 : lT} {v : Int32} (h : mA b n g0 s P d g L) (hq : DQ g g2) (hk : tK b n P ≠ 0) (h4 : 4 ≤ v.toInt) (h11 : v.toInt ≤ 11) : ∃ ga gb Lb, fX12_waitsFor fu v g2 L2 = some ((), (ga, L2)) ∧ fX12_goes fu ga L2 = some ((), (gb, Lb)) ∧ mO b n g0 s (nx b n P) d gb Lb ∧ gb 28 = g 28 := by
  obtain ⟨hc, hx, hd⟩ := h
  have h2 := hx.drop hq
  have e19 := hq.2.1.i (j := 19) (by decide)
  have e24 := hq.2.1.i (j := 24) (by decide)
  have hc2 : cm b n P g2 := hc.c.fr hq.1 hq.2.1 (by decide) (by decide) (by decide) (by decide) (by decide) (by decide) (by decide) (by decide) (by decide) (by decide)
  have w36 := h2.2.2.2.2.1
  have q25 := h2.1 0 25 0 700 rfl
  have q36 := h2.1 0 36 0 950 rfl
  have a13 := hc2.2.2.2.2.2.2.2.2.2.2.2.1
  have a7 := hc2.2.2.2.2.2.2.1
  obtain ⟨ga, ea, k1, k2, k3, k4, k5⟩ := waitsFor_eq (fu := fu) (v := v) (g := g2) (L := L2) (by omega) (by omega)
  have hIa := k1 h2.1
  have ha : xI g0 s 0 0 1 1 ga := h2.wait a13 hIa k2 k3 k4 k5 (Or.inl ⟨h4, h11, rfl, rfl⟩)
  have hca : cm b n P ga := hc2.fr hIa k2 (by decide) (by decide) (by decide) (by decide) (by decide) (by decide) (by decide) (by decide) (by decide) (by decide)
  obtain ⟨gb, Lb, eb, hcb, hqb⟩ := goes_eq0 (fu := fu) (L := L2) hfu hca
  have s24 : (ga 0 24).toInt ≠ 0 := by rw [hca.2.2.2.2.2.2.1]; exact fun h => hk (sM_0.mp h)
  obtain ⟨hb, -, -⟩ := ha.goes (by decide) (by decide) s24 hqb
  refine ⟨ga, gb, Lb, ea, eb, ⟨hcb, hb, ?_⟩, ?_⟩
  · rw [hqb.2.1.i (by decide), k2.i (by decide), hq.2.1.i (by decide)]; exact hd
  · rw [hqb.2.1.2 28 (by decide) (by decide), k2.2 28 (by decide) (by decide), hq.2.1.2 28 (by decide) (by decide)]
theorem actT_eq {fu : Nat} (hfu : 1180591620717411303424 ≤ fu) {b : Nat → Int32} {n s P d : Nat} {g0 g g2 : gT} {L L2 : lT} {v x : Int32} (h : mA b n g0 s P d g L) (hq : DQ g g2) (hk : tK b n P ≠ 0) (h4 : 4 ≤ v.toInt) (h11 : v.toInt ≤ 11) (hx01 : x = 0 ∨ x = 1) : ∃ ga gb Lb, fX12_waitsFor fu v g2 L2 = some ((), (ga, L2)) ∧ (0 ≤ (ga 0 37).toInt ∧ (ga 0 37).toInt < 9) ∧ fX12_goes fu (upd2 ga 28 (ga 0 37).toNatClampNeg (vp_nar .boolean x)) L2 = some ((), (gb, Lb)) ∧ mO b n g0 s (nx b n P) d gb Lb ∧ gb 28 (d + 1) = vp_nar .boolean x ∧ ∀ j, j ≠ d + 1 → gb 28 j = g 28 j := by
  obtain ⟨hc, hx, hd⟩ := h
  have h2 := hx.drop hq
  have hc2 : cm b n P g2 := hc.c.fr hq.1 hq.2.1 (by decide) (by decide) (by decide) (by decide) (by decide) (by decide) (by decide) (by decide) (by decide) (by decide)
  have w36 := h2.2.2.2.2.1
  have q25 := h2.1 0 25 0 700 rfl
  have q36 := h2.1 0 36 0 950 rfl
  have a13 := hc2.2.2.2.2.2.2.2.2.2.2.2.1
  obtain ⟨ga, ea, k1, k2, k3, k4, k5⟩ := waitsFor_eq (fu := fu) (v := v) (g := g2) (L := L2) (by omega) (by omega)
  have hIa := k1 h2.1
  have ha : xI g0 s 0 0 1 1 ga := h2.wait a13 hIa k2 k3 k4 k5 (Or.inl ⟨h4, h11, rfl, rfl⟩)
  have hca : cm b n P ga := hc2.fr hIa k2 (by decide) (by decide) (by decide) (by decide) (by decide) (by decide) (by decide) (by decide) (by decide) (by decide)
  have a37 : (ga 0 37).toInt = (d : Int) + 1 := by rw [k2.i (by decide), hq.2.1.i (by decide)]; exact hd
  obtain ⟨-, -, -, z3, -⟩ := ha.2.2.2.2.2.2.2.2 hca.2.2.2.2.2.2.2.2.2.2.2.1
  have eN : (ga 0 37).toNatClampNeg = d + 1 := by rw [nc]; omega
  have hn := nar01 x hx01
  have hIe : zI MT (upd2 ga 28 (d + 1) (vp_nar .boolean x)) := hIa.upd (lo := 0) (hi := 1) rfl hn.1 hn.2
  have he : xI g0 s 0 0 1 1 (upd2 ga 28 (d + 1) (vp_nar .boolean x)) := ha.test hIe rfl
  have hFe : Fr [] [28] ga (upd2 ga 28 (d + 1) (vp_nar .boolean x)) := Fr.refl.uk (by decide) (by decide)
  have hce : cm b n P (upd2 ga 28 (d + 1) (vp_nar .boolean x)) := hca.fr hIe hFe (by decide) (by decide) (by decide) (by decide) (by decide) (by decide) (by decide) (by decide) (by decide) (by decide)
  obtain ⟨gb, Lb, eb, hcb, hqb⟩ := goes_eq0 (fu := fu) (L := L2) hfu hce
  have s24 : (upd2 ga 28 (d + 1) (vp_nar .boolean x) 0 24).toInt ≠ 0 := by rw [hce.2.2.2.2.2.2.1]; exact fun h => hk (sM_0.mp h)
  obtain ⟨hb, -, -⟩ := he.goes (by decide) (by decide) s24 hqb
  have e28 : gb 28 = upd2 ga 28 (d + 1) (vp_nar .boolean x) 28 := hqb.2.1.2 28 (by decide) (by decide)
  refine ⟨ga, gb, Lb, ea, ⟨by omega, by omega⟩, by rw [eN]; exact eb, ⟨hcb, hb, ?_⟩, ?_, fun j hj => ?_⟩
  · rw [hqb.2.1.i (by decide)]
    show (ga 0 37).toInt = _
    exact a37
  · rw [e28, upd2_at]
  · rw [e28, upd2_nj hj, k2.2 28 (by decide) (by decide), hq.2.1.2 28 (by decide) (by decide)]
theorem drops_ex {fu : Nat} (hfu : 1180591620717411303424 ≤ fu) {s : Nat} {g0 g : gT} {L : lT} (p1 : Int32) (hx : xI g0 s 1 0 0 0 g) : ∃ g2 L2, fX12_drops fu p1 g L = some ((), (g2, L2)) ∧ DQ g g2 ∧ (p1.toInt ≤ 0 → (g2 0 36).toInt ≤ 0 ∨ 14 ≤ (g 27 (gW g2 - 1)).toInt) := by
  have q25 := hx.1 0 25 0 700 rfl
  have b1 := hx.2.2.2.2.2.1
  obtain ⟨_, g2, L2, e, hq⟩ := sX12_drops fu hfu p1 g L hx.1 (by omega)
  exact ⟨g2, L2, e, hq.1, hq.2⟩
/-- no word, no comparison -/
theorem D_186 {fu : Nat} (hfu : 1180591620717411303424 ≤ fu) {b : Nat → Int32} {n s P d m : Nat} {g0 g : gT} {L : lT} (h : mA b n g0 s P d g L) (h14 : ¬ isW b n P 14) (h15 : ¬ isW b n P 15) (ht : isS b n P 60 ∨ isS b n P 61 → (g 28 (d + 1)).toInt ≠ 0) : Dl fu (m + 1) g L = fX12_expression_p186 fu (kD fu m) 1 g L := by
  obtain ⟨hc, hx, hd⟩ := h
  have hg : (g 0 19).toInt = 0 := hc.c.2.2.2.2.2.2.2.2.2.2.2.1
  obtain ⟨-, -, -, z3, -⟩ := hx.2.2.2.2.2.2.2.2 hg
  show fX12_expression_s29 fu (kD fu m) 1 g L = _
  unfold fX12_expression_s29
  refine q_f (by decide) (q_cb (good_eq hg) (q_f (by decide) ?_))
  obtain ⟨x, ex, hxx⟩ := known_eq hfu hc
  refine q_cb ex ?_
  have hw : ∀ k : Nat, k < 17 → ¬ isW b n P k → x.toInt ≠ (k : Int) := by
    intro k hk hn he
    rcases hxx with ⟨j, hj, h1, h2⟩ | ⟨h1, -⟩
    · have : j = k := by omega
      subst this; exact hn h2
    · omega
  refine q_f (fun h9 => hw 14 (by decide) h14 (icc_eq (m := x.toInt) (n := 14) rfl (by decide) h9)) ?_
  refine q_f (fun h9 => hw 15 (by decide) h15 (icc_eq (m := x.toInt) (n := 15) rfl (by decide) h9)) ?_
  have P127 : isS b n P 60 ∨ isS b n P 61 → fX12_expression_p127 fu (kD fu m) 1 g L = fX12_expression_p186 fu (kD fu m) 1 g L := by
    intro hs
    unfold fX12_expression_p127
    have eN : (g 0 37).toNatClampNeg = d + 1 := by rw [nc]; omega
    rw [eN]
    refine q_ck (by omega) (by omega) (q_f (fun h9 => ht hs (icc_eq (m := (g 28 (d + 1)).toInt) (n := 0) rfl (by decide) h9)) rfl)
  by_cases s60 : isS b n P 60
  · exact q_cb (sign1 hc rfl s60) (q_f (by decide) (P127 (Or.inl s60)))
  refine q_cb (sign0 hc rfl s60) (q_t rfl ?_)
  by_cases s61 : isS b n P 61
  · exact q_cb (sign1 hc rfl s61) (q_f (by decide) (P127 (Or.inr s61)))
  exact q_cb (sign0 hc rfl s61) (q_t rfl rfl)
theorem noW {b : Nat → Int32} {n P k : Nat} {c : Int} (h : isS b n P c) : ¬ isW b n P k := fun h' => by have := h.1; have := h'.1; omega
/-- plus, minus, times, by -/
theorem D_op {fu : Nat} (hfu : 1180591620717411303424 ≤ fu) {b : Nat → Int32} {n s P d m : Nat} {g0 g : gT} {L : lT} (h : mA b n g0 s P d g L) (hs : isS b n P 43 ∨ isS b n P 45 ∨ isS b n P 42 ∨ isS b n P 47) : ∃ g' L', Dl fu (m + 1) g L = Cl fu fu m 0 g' L' ∧ mO b n g0 s (nx b n P) d g' L' ∧ g' 28 = g 28 := by
  obtain ⟨c, hsc, hcc⟩ : ∃ c : Int, isS b n P c ∧ (c = 43 ∨ c = 45 ∨ c = 42 ∨ c = 47) := by
    rcases hs with h | h | h | h
    · exact ⟨43, h, Or.inl rfl⟩
    · exact ⟨45, h, Or.inr (Or.inl rfl)⟩
    · exact ⟨42, h, Or.inr (Or.inr (Or.inl rfl))⟩
    · exact ⟨47, h, Or.inr (Or.inr (Or.inr rfl))⟩
  have hk3 := hsc.1
  have n60 := isS_u hsc (show c ≠ 60 by omega)
  have n61 := isS_u hsc (show c ≠ 61 by omega)
  rw [D_186 hfu h (noW hsc) (noW hsc) (fun h9 => absurd h9 (fun h9 => h9.elim n60 n61))]
  have hc := h.1
  have fin : ∀ (t0 : Int32) (lst : Int32), 4 ≤ t0.toInt → t0.toInt ≤ 11 → ∀ g2 L2, DQ g g2 → ∃ g' L', (cb (fX12_waitsFor fu t0 g2 L2) (fun _ ga La => cb (fX12_goes fu ga La) (fun _ gb Lb => cb (fX12_operand fu 0 gb Lb) (fun _ gc Lc => kD fu m ((1 : Int32), gc, Lc))))) = Cl fu fu m 0 g' L' ∧ mO b n g0 s (nx b n P) d g' L' ∧ g' 28 = g 28 := by
    intro t0 _ h4 h11 g2 L2 hq
    obtain ⟨ga, gb, Lb, e1, e2, e3, e4⟩ := act_eq hfu (L2 := L2) h hq (by omega) h4 h11
    exact ⟨gb, Lb, q_cb e1 (q_cb e2 rfl), e3, e4⟩
  have P204 : (isS b n P 43 ∨ isS b n P 45) → ∃ g' L', fX12_expression_p204 fu (kD fu m) 1 g L = Cl fu fu m 0 g' L' ∧ mO b n g0 s (nx b n P) d g' L' ∧ g' 28 = g 28 := by
    intro hs
    obtain ⟨g2, L2, ed, hq, -⟩ := drops_ex hfu (L := L) 5 h.2.1
    have hc2 : cM b n P g2 L2 := (hc.c.fr hq.1 hq.2.1 (by decide) (by decide) (by decide) (by decide) (by decide) (by decide) (by decide) (by decide) (by decide) (by decide)).M (by omega)
    by_cases s43 : isS b n P 43
    · obtain ⟨g', L', e1, e2, e3⟩ := fin 8 0 (by decide) (by decide) g2 L2 hq
      refine ⟨g', L', ?_, e2, e3⟩
      unfold fX12_expression_p204 fX12_expression_p226 fX12_expression_p322
      exact q_cb ed (q_cb (sign1 hc2 rfl s43) (q_f (by decide) e1))
    · obtain ⟨g', L', e1, e2, e3⟩ := fin 9 0 (by decide) (by decide) g2 L2 hq
      refine ⟨g', L', ?_, e2, e3⟩
      unfold fX12_expression_p204 fX12_expression_p226 fX12_expression_p322
      exact q_cb ed (q_cb (sign0 hc2 rfl s43) (q_t rfl e1))
  have P259 : ∃ g' L', fX12_expression_p259 fu (kD fu m) 1 g L = Cl fu fu m 0 g' L' ∧ mO b n g0 s (nx b n P) d g' L' ∧ g' 28 = g 28 := by
    obtain ⟨g2, L2, ed, hq, -⟩ := drops_ex hfu (L := L) 6 h.2.1
    have hc2 : cM b n P g2 L2 := (hc.c.fr hq.1 hq.2.1 (by decide) (by decide) (by decide) (by decide) (by decide) (by decide) (by decide) (by decide) (by decide) (by decide)).M (by omega)
    by_cases s42 : isS b n P 42
    · obtain ⟨g', L', e1, e2, e3⟩ := fin 10 0 (by decide) (by decide) g2 L2 hq
      refine ⟨g', L', ?_, e2, e3⟩
      unfold fX12_expression_p259 fX12_expression_p282 fX12_expression_p322
      exact q_cb ed (q_cb (sign1 hc2 rfl s42) (q_f (by decide) e1))
    · obtain ⟨g', L', e1, e2, e3⟩ := fin 11 0 (by decide) (by decide) g2 L2 hq
      refine ⟨g', L', ?_, e2, e3⟩
      unfold fX12_expression_p259 fX12_expression_p282 fX12_expression_p322
      exact q_cb ed (q_cb (sign0 hc2 rfl s42) (q_t rfl e1))
  by_cases s43 : isS b n P 43
  · obtain ⟨g', L', e1, e2, e3⟩ := P204 (Or.inl s43)
    refine ⟨g', L', ?_, e2, e3⟩
    unfold fX12_expression_p186
    exact q_cb (sign1 hc rfl s43) (q_f (by decide) e1)
  by_cases s45 : isS b n P 45
  · obtain ⟨g', L', e1, e2, e3⟩ := P204 (Or.inr s45)
    refine ⟨g', L', ?_, e2, e3⟩
    unfold fX12_expression_p186
    exact q_cb (sign0 hc rfl s43) (q_t rfl (q_cb (sign1 hc rfl s45) (q_f (by decide) e1)))
  obtain ⟨g', L', e1, e2, e3⟩ := P259
  refine ⟨g', L', ?_, e2, e3⟩
  unfold fX12_expression_p186
  refine q_cb (sign0 hc rfl s43) (q_t rfl (q_cb (sign0 hc rfl s45) (q_t rfl ?_)))
  by_cases s42 : isS b n P 42
  · exact q_cb (sign1 hc rfl s42) (q_f (by decide) e1)
  have s47 : isS b n P 47 := by
    rcases hs with h | h | h | h
    · exact absurd h s43
    · exact absurd h s45
    · exact absurd h s42
    · exact h
  exact q_cb (sign0 hc rfl s42) (q_t rfl (q_cb (sign1 hc rfl s47) (q_f (by decide) e1)))
/-- less, same -/
theorem D_cmp {fu : Nat} (hfu : 1180591620717411303424 ≤ fu) {b : Nat → Int32} {n s P d m : Nat} {g0 g : gT} {L : lT} (h : mA b n g0 s P d g L) (hs : isS b n P 60 ∨ isS b n P 61) (ht : (g 28 (d + 1)).toInt = 0) : ∃ g' L', Dl fu (m + 1) g L = Cl fu fu m 0 g' L' ∧ mO b n g0 s (nx b n P) d g' L' ∧ (g' 28 (d + 1)).toInt = 1 ∧ ∀ j, j ≠ d + 1 → g' 28 j = g 28 j := by
  obtain ⟨c, hsc⟩ : ∃ c : Int, isS b n P c := hs.elim (fun h => ⟨_, h⟩) (fun h => ⟨_, h⟩)
  have hk3 := hsc.1
  have hc := h.1
  have hg : (g 0 19).toInt = 0 := hc.c.2.2.2.2.2.2.2.2.2.2.2.1
  obtain ⟨-, -, -, z3, -⟩ := h.2.1.2.2.2.2.2.2.2.2 hg
  have hd := h.2.2
  obtain ⟨g2, L2, ed, hq, -⟩ := drops_ex hfu (L := L) 4 h.2.1
  have hc2 : cM b n P g2 L2 := (hc.c.fr hq.1 hq.2.1 (by decide) (by decide) (by decide) (by decide) (by decide) (by decide) (by decide) (by decide) (by decide) (by decide)).M (by omega)
  have P127 : ∃ g' L', fX12_expression_p127 fu (kD fu m) 1 g L = Cl fu fu m 0 g' L' ∧ mO b n g0 s (nx b n P) d g' L' ∧ (g' 28 (d + 1)).toInt = 1 ∧ ∀ j, j ≠ d + 1 → g' 28 j = g 28 j := by
    have eN : (g 0 37).toNatClampNeg = d + 1 := by rw [nc]; omega
    have go : ∀ t0 : Int32, 4 ≤ t0.toInt → t0.toInt ≤ 11 → ∃ g' L', fX12_expression_p161 fu (kD fu m) 1 t0 g2 L2 = Cl fu fu m 0 g' L' ∧ mO b n g0 s (nx b n P) d g' L' ∧ (g' 28 (d + 1)).toInt = 1 ∧ ∀ j, j ≠ d + 1 → g' 28 j = g 28 j := by
      intro t0 h4 h11
      obtain ⟨ga, gb, Lb, e1, e2, e3, e4, e5, e6⟩ := actT_eq hfu (L2 := L2) (x := 1) h hq (by omega) h4 h11 (Or.inr rfl)
      refine ⟨gb, Lb, ?_, e4, by rw [e5]; decide, e6⟩
      unfold fX12_expression_p161 fX12_expression_p322
      exact q_cb e1 (q_ck e2.1 e2.2 (q_sti (q_cb e3 rfl)))
    by_cases s60 : isS b n P 60
    · obtain ⟨g', L', e1, e2⟩ := go 6 (by decide) (by decide)
      refine ⟨g', L', ?_, e2⟩
      unfold fX12_expression_p127
      rw [eN]
      exact q_ck (by omega) (by omega) (q_t (ic_eq.mpr (show (g 28 (d + 1)).toInt = (0 : Int32).toInt from ht)) (q_cb ed (q_cb (sign1 hc2 rfl s60) (q_f (by decide) e1))))
    · obtain ⟨g', L', e1, e2⟩ := go 7 (by decide) (by decide)
      refine ⟨g', L', ?_, e2⟩
      unfold fX12_expression_p127
      rw [eN]
      exact q_ck (by omega) (by omega) (q_t (ic_eq.mpr (show (g 28 (d + 1)).toInt = (0 : Int32).toInt from ht)) (q_cb ed (q_cb (sign0 hc2 rfl s60) (q_t rfl e1))))
  obtain ⟨g', L', e1, e2⟩ := P127
  refine ⟨g', L', ?_, e2⟩
  show fX12_expression_s29 fu (kD fu m) 1 g L = _
  unfold fX12_expression_s29
  refine q_f (by decide) (q_cb (good_eq hg) (q_f (by decide) ?_))
  obtain ⟨x, ex, hxx⟩ := known_eq hfu hc
  have hx1 : x.toInt = -1 := by
    rcases hxx with ⟨j, hj, h1, h2⟩ | ⟨h1, -⟩
    · exact absurd h2 (noW hsc)
    · exact h1
  refine q_cb ex ?_
  refine q_f (fun h9 => by have := icc_eq (m := x.toInt) (n := 14) rfl (by decide) h9; omega) ?_
  refine q_f (fun h9 => by have := icc_eq (m := x.toInt) (n := 15) rfl (by decide) h9; omega) ?_
  by_cases s60 : isS b n P 60
  · exact q_cb (sign1 hc rfl s60) (q_f (by decide) e1)
  · exact q_cb (sign0 hc rfl s60) (q_t rfl (q_cb (sign1 hc rfl (hs.resolve_left s60)) (q_f (by decide) e1)))
/-- and, or -/
theorem D_wrd {fu : Nat} (hfu : 1180591620717411303424 ≤ fu) {b : Nat → Int32} {n s P d m : Nat} {g0 g : gT} {L : lT} (h : mA b n g0 s P d g L) (hs : isW b n P 14 ∨ isW b n P 15) : ∃ g' L', Dl fu (m + 1) g L = Cl fu fu m 1 g' L' ∧ mO b n g0 s (nx b n P) d g' L' ∧ (g' 28 (d + 1)).toInt = 0 ∧ ∀ j, j ≠ d + 1 → g' 28 j = g 28 j := by
  have hk2 : tK b n P = 2 := hs.elim (fun h => h.1) (fun h => h.1)
  have hc := h.1
  have hg : (g 0 19).toInt = 0 := hc.c.2.2.2.2.2.2.2.2.2.2.2.1
  have go : ∀ (p t0 : Int32), 4 ≤ t0.toInt → t0.toInt ≤ 11 → ∃ g2 L2 g' L', fX12_drops fu p g L = some ((), (g2, L2)) ∧ fX12_expression_p84 fu (kD fu m) 1 t0 g2 L2 = Cl fu fu m 1 g' L' ∧ mO b n g0 s (nx b n P) d g' L' ∧ (g' 28 (d + 1)).toInt = 0 ∧ ∀ j, j ≠ d + 1 → g' 28 j = g 28 j := by
    intro p t0 h4 h11
    obtain ⟨g2, L2, ed, hq, -⟩ := drops_ex hfu (L := L) p h.2.1
    obtain ⟨ga, gb, Lb, e1, e2, e3, e4, e5, e6⟩ := actT_eq hfu (L2 := L2) (x := 0) h hq (by omega) h4 h11 (Or.inl rfl)
    refine ⟨g2, L2, gb, Lb, ed, ?_, e4, by rw [e5]; decide, e6⟩
    unfold fX12_expression_p84 fX12_expression_p322
    exact q_cb e1 (q_ck e2.1 e2.2 (q_sti (q_cb e3 rfl)))
  obtain ⟨x, ex, hxx⟩ := known_eq hfu hc
  have P57 : (x.toInt = 14 ∨ x.toInt = 15) → ∃ g' L', fX12_expression_p57 fu (kD fu m) 1 x g L = Cl fu fu m 1 g' L' ∧ mO b n g0 s (nx b n P) d g' L' ∧ (g' 28 (d + 1)).toInt = 0 ∧ ∀ j, j ≠ d + 1 → g' 28 j = g 28 j := by
    intro hx
    by_cases x14 : x = 14
    · obtain ⟨g2, L2, g', L', e1, e2, e3⟩ := go 2 4 (by decide) (by decide)
      refine ⟨g', L', ?_, e3⟩
      unfold fX12_expression_p57 fX12_expression_p69
      exact q_t x14 (q_cb e1 (q_t x14 e2))
    · obtain ⟨g2, L2, g', L', e1, e2, e3⟩ := go 1 5 (by decide) (by decide)
      refine ⟨g', L', ?_, e3⟩
      unfold fX12_expression_p57 fX12_expression_p69
      exact q_f x14 (q_cb e1 (q_f x14 e2))
  have hxv : x.toInt = 14 ∨ x.toInt = 15 := by
    rcases hxx with ⟨j, hj, h1, h2⟩ | ⟨-, h2⟩
    · rcases hs with h9 | h9
      · have := isW_u hj (by decide) h2 h9; omega
      · have := isW_u hj (by decide) h2 h9; omega
    · rcases hs with h9 | h9
      · exact absurd h9 (h2 14 (by decide))
      · exact absurd h9 (h2 15 (by decide))
  obtain ⟨g', L', e1, e2⟩ := P57 hxv
  refine ⟨g', L', ?_, e2⟩
  show fX12_expression_s29 fu (kD fu m) 1 g L = _
  unfold fX12_expression_s29
  refine q_f (by decide) (q_cb (good_eq hg) (q_f (by decide) (q_cb ex ?_)))
  by_cases x14 : x = 14
  · exact q_t x14 e1
  · refine q_f x14 (q_t (ic_eq.mpr (show x.toInt = (15 : Int32).toInt from ?_)) e1)
    rcases hxv with h9 | h9
    · exact absurd (ic_eq.mpr (show x.toInt = (14 : Int32).toInt from h9)) x14
    · exact h9
/-- nothing more of it -/
theorem D_stop {fu : Nat} (hfu : 1180591620717411303424 ≤ fu) {b : Nat → Int32} {n s P d m : Nat} {g0 g : gT} {L : lT} (h : mA b n g0 s P d g L) (h14 : ¬ isW b n P 14) (h15 : ¬ isW b n P 15) (ht : isS b n P 60 ∨ isS b n P 61 → (g 28 (d + 1)).toInt ≠ 0) (s43 : ¬ isS b n P 43) (s45 : ¬ isS b n P 45) (s42 : ¬ isS b n P 42) (s47 : ¬ isS b n P 47) (s41 : isS b n P 41 → d = 0) : ∃ L', Dl fu (m + 2) g L = fX12_expression_p325 fu g L' := by
  rw [D_186 hfu h h14 h15 ht]
  obtain ⟨hc, hx, hd⟩ := h
  have hg : (g 0 19).toInt = 0 := hc.c.2.2.2.2.2.2.2.2.2.2.2.1
  have stop : ∀ L' : lT, fX12_expression_p320 fu (kD fu (m + 1)) g L' = fX12_expression_p325 fu g L' := by
    intro L'
    unfold fX12_expression_p320 fX12_expression_p322
    show fX12_expression_s29 fu (kD fu m) 0 g L' = _
    unfold fX12_expression_s29
    exact q_t rfl rfl
  have key : ∃ L', fX12_expression_p186 fu (kD fu (m + 1)) 1 g L = fX12_expression_p320 fu (kD fu (m + 1)) g L' := by
    by_cases h41 : isS b n P 41
    · -- nothing is open
      have ho : Ex (fX12_isOpened fu g L) (fun (x : Int32) g1 L1 => g1 = g ∧ x = 0) := by
        have hz := hx.2.2.2.2.2.2.2.2 hg
        obtain ⟨-, -, z2, -⟩ := hz
        have hcO : cO (g 27) (gW g) = 0 := by have := s41 h41; omega
        have k := e_opened (fu := fu) (g := g) (L := L) (ρ := Int32) (Q := fun (x : Int32) g1 L1 => g1 = g ∧ x = 0) (A := fun g1 L1 => some (0, (g1, L1))) (B := fun g1 L1 => some (1, (g1, L1))) hfu hx.1 (fun L1 h9 => by omega) (fun L1 => Ex.ret ⟨rfl, rfl⟩)
        obtain ⟨x, g1, L1, e, hh⟩ := k
        cases hm : fX12_isOpened fu g L with
        | none => rw [hm] at e; exact nomatch e
        | some v =>
          obtain ⟨y, g2, L2⟩ := v
          rw [hm] at e
          have e : (if y = 0 then some ((0 : Int32), ((g2, L2) : zS)) else some ((1 : Int32), ((g2, L2) : zS))) = some (x, (g1, L1)) := e
          by_cases y0 : y = 0
          · rw [if_pos y0] at e
            cases e
            exact ⟨y, g1, L1, rfl, hh.1, y0⟩
          · rw [if_neg y0] at e
            cases e
            exact absurd hh.2 (by decide)
      obtain ⟨x, g1, L1, e, rfl, rfl⟩ := ho
      refine ⟨L1, ?_⟩
      unfold fX12_expression_p186
      exact q_cb (sign0 hc rfl s43) (q_t rfl (q_cb (sign0 hc rfl s45) (q_t rfl (q_cb (sign0 hc rfl s42) (q_t rfl (q_cb (sign0 hc rfl s47) (q_t rfl (q_cb (sign1 hc rfl h41) (q_f (by decide) (q_cb e (q_t rfl rfl)))))))))))
    · refine ⟨L, ?_⟩
      unfold fX12_expression_p186
      exact q_cb (sign0 hc rfl s43) (q_t rfl (q_cb (sign0 hc rfl s45) (q_t rfl (q_cb (sign0 hc rfl s42) (q_t rfl (q_cb (sign0 hc rfl s47) (q_t rfl (q_cb (sign0 hc rfl h41) (q_t rfl rfl)))))))))
  obtain ⟨L', e⟩ := key
  exact ⟨L', e.trans (stop L')⟩
