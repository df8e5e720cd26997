/-! ===== the class's parser ===== -/
def pJ (g : Nat → Nat → Int32) : Prop := (g 5 4).toInt = 3 → (g 5 5).toInt ≤ 699
def pSup (k j : Nat) : Bool := match k with
  | 5 => (match j with | 4 => true | 5 => true | _ => false)
  | _ => false
theorem pJ.upd {g : Nat → Nat → Int32} {k j : Nat} {x : Int32} (hJ : pJ g) (hs : pSup k j = false) : pJ (upd2 g k j x) := by
  have e : ∀ j', pSup 5 j' = true → upd2 g k j x 5 j' = g 5 j' := fun j' h' => by
    by_cases hk : 5 = k
    · subst hk
      by_cases hj : j' = j
      · subst hj; rw [hs] at h'; exact nomatch h'
      · exact upd2_nj hj
    · exact upd2_nk hk
  unfold pJ
  rw [e 4 rfl, e 5 rfl]; exact hJ
theorem pJ.updn {g : Nat → Nat → Int32} {k j : Nat} {x : Int32} (hJ : pJ g) (hs : k ≠ 5) : pJ (upd2 g k j x) := by
  unfold pJ
  rw [upd2_nk (Ne.symm hs), upd2_nk (Ne.symm hs)]; exact hJ
theorem pJ.kind {g : Nat → Nat → Int32} {x : Int32} (h : x.toInt ≠ 3) : pJ (upd2 g 5 4 x) := fun h' => absurd (show x.toInt = 3 from h') h
set_option maxHeartbeats 4000000 in
theorem uX6_kindOf (fu : Nat) (p1 : Int32) (g0 : Nat → Nat → Int32) (L0 : Nat → Nat → Int64) : Ex (fX6_kindOf fu p1 g0 L0) (fun (r : Int32) g1 L1 => g1 = g0 ∧ (1 ≤ r.toInt ∧ r.toInt ≤ 4) ∧ (r.toInt = 1 → 48 ≤ p1.toInt ∧ p1.toInt ≤ 57)) := by
  have e2 : Ex (some ((2 : Int32), (g0, L0))) (fun (r : Int32) g1 L1 => g1 = g0 ∧ (1 ≤ r.toInt ∧ r.toInt ≤ 4) ∧ (r.toInt = 1 → 48 ≤ p1.toInt ∧ p1.toInt ≤ 57)) := Ex.ret ⟨rfl, by decide, fun h => absurd h (by decide)⟩
  have e3 : Ex (some ((3 : Int32), (g0, L0))) (fun (r : Int32) g1 L1 => g1 = g0 ∧ (1 ≤ r.toInt ∧ r.toInt ≤ 4) ∧ (r.toInt = 1 → 48 ≤ p1.toInt ∧ p1.toInt ≤ 57)) := Ex.ret ⟨rfl, by decide, fun h => absurd h (by decide)⟩
  have e4 : Ex (some ((4 : Int32), (g0, L0))) (fun (r : Int32) g1 L1 => g1 = g0 ∧ (1 ≤ r.toInt ∧ r.toInt ≤ 4) ∧ (r.toInt = 1 → 48 ≤ p1.toInt ∧ p1.toInt ≤ 57)) := Ex.ret ⟨rfl, by decide, fun h => absurd h (by decide)⟩
  have e27 : Ex (fX6_kindOf_p28 fu p1 g0 L0) (fun (r : Int32) g1 L1 => g1 = g0 ∧ (1 ≤ r.toInt ∧ r.toInt ≤ 4) ∧ (r.toInt = 1 → 48 ≤ p1.toInt ∧ p1.toInt ≤ 57)) := by
    unfold fX6_kindOf_p28
    repeat' (apply Ex.ite <;> intro)
    all_goals first | exact e3 | exact e4
  have e14 : Ex (fX6_kindOf_p14 fu p1 g0 L0) (fun (r : Int32) g1 L1 => g1 = g0 ∧ (1 ≤ r.toInt ∧ r.toInt ≤ 4) ∧ (r.toInt = 1 → 48 ≤ p1.toInt ∧ p1.toInt ≤ 57)) := by
    unfold fX6_kindOf_p14
    refine Ex.ite (fun _ => e27) (fun c1 => Ex.ite (fun _ => e27) (fun c2 => ?_))
    have c1 := icc_nlt (m := p1.toInt) (n := 48) rfl (by decide) c1
    have c2 := icc_nlt (m := 57) (n := p1.toInt) (by decide) rfl c2
    exact Ex.ret ⟨rfl, by decide, fun _ => ⟨c1, c2⟩⟩
  unfold fX6_kindOf
  exact Ex.ite (fun _ => e14) (fun _ => Ex.ite (fun _ => e14) (fun _ => e2))
abbrev PQ (g0 g1 : Nat → Nat → Int32) : Prop := zI XT g1 ∧ pJ g1 ∧ g1 2 2 = g0 2 2 ∧ g1 0 13 = g0 0 13
set_option maxHeartbeats 4000000 in
theorem sX6_advance_5 (fu : Nat) (hfu : 1180591620717411303424 ≤ fu) (g0 : Nat → Nat → Int32) (L0 : Nat → Nat → Int64) (hI : zI XT g0) (hJ : pJ g0) : Ex (fX6_advance_5 fu g0 L0) (fun (r : Unit) g1 L1 => PQ g0 g1) := by
  have fin : ∀ (g : Nat → Nat → Int32) (L : Nat → Nat → Int64), zI XT g → pJ g → (∀ k, k ≠ 5 → g k = g0 k) → Ex (some ((), (g, L))) (fun (r : Unit) g1 L1 => PQ g0 g1) := fun g L h1 h2 h3 => Ex.ret ⟨h1, h2, by rw [h3 2 (by decide)], by rw [h3 0 (by decide)]⟩
  have fk : ∀ (g g1 : Nat → Nat → Int32) (j : Nat) (x : Int32), g1 = upd2 g 5 j x → (∀ k, k ≠ 5 → g k = g0 k) → ∀ k, k ≠ 5 → g1 k = g0 k := fun g g1 j x e h k hk => by rw [e]; funext i; rw [upd2_nk hk, h k hk]
  -- one more sign
  have P123 : ∀ (g : Nat → Nat → Int32) (L : Nat → Nat → Int64), zI XT g → pJ g → (∀ k, k ≠ 5 → g k = g0 k) → (g 5 3).toInt < (g 5 2).toInt → Ex (fX6_advance_5_p123 fu g L) (fun (r : Unit) g1 L1 => PQ g0 g1) := by
    intro g L hI hJ hF hn
    have h2 := hI 5 2 0 700 rfl
    have h3 := hI 5 3 0 700 rfl
    unfold fX6_advance_5_p123
    generalize hw : (g 5 3) + 1 = w
    have ew : w.toInt = (g 5 3).toInt + 1 := by rw [← hw]; exact ic_addc rfl (by decide) (by omega) (by omega)
    refine Ex.sti (hI.upd (lo := 0) (hi := 700) rfl (by omega) (by omega)) (fun g1 g1e hI => ?_)
    exact fin g1 L hI (by rw [g1e]; exact hJ.upd rfl) (fk g g1 3 w g1e hF)
  -- the rest of a word or of a number
  have P134 : ∀ (g : Nat → Nat → Int32) (L : Nat → Nat → Int64), zI XT g → (∀ k, k ≠ 5 → g k = g0 k) → (g 5 4).toInt ≠ 3 → (g 5 5).toInt = (g 5 3).toInt → (g 5 6).toInt = 0 → Ex (fX6_advance_5_l134 fu g L) (fun (r : Unit) g1 L1 => PQ g0 g1) := by
    intro g L hI hF hk hp hnum
    have h2 := hI 5 2 0 700 rfl
    have h3 := hI 5 3 0 700 rfl
    unfold fX6_advance_5_l134
    refine Ex.loop (α := (Nat → Nat → Int32) × (Nat → Nat → Int64)) (fun v => zI XT v.1 ∧ (∀ k, k ≠ 5 → v.1 k = g0 k) ∧ (v.1 5 4).toInt ≠ 3 ∧ (v.1 5 5).toInt ≤ (v.1 5 3).toInt ∧ ((v.1 5 3).toInt - (v.1 5 5).toInt = 0 → (v.1 5 6).toInt ≤ 0) ∧ ((v.1 5 3).toInt - (v.1 5 5).toInt = 1 → (v.1 5 6).toInt ≤ 9) ∧ ((v.1 5 3).toInt - (v.1 5 5).toInt = 2 → (v.1 5 6).toInt ≤ 99) ∧ ((v.1 5 3).toInt - (v.1 5 5).toInt = 3 → (v.1 5 6).toInt ≤ 999)) (fun v => (v.1 5 2).toInt - (v.1 5 3).toInt) (by omega) (by show (g 5 2).toInt - (g 5 3).toInt < (fu : Int); omega) ⟨hI, hF, hk, (show (g 5 5).toInt ≤ (g 5 3).toInt by omega), (fun _ => (show (g 5 6).toInt ≤ 0 by omega)), (fun _ => (show (g 5 6).toInt ≤ 9 by omega)), (fun _ => (show (g 5 6).toInt ≤ 99 by omega)), (fun _ => (show (g 5 6).toInt ≤ 999 by omega))⟩ (fun k134 v hv ih => ?_)
    clear hI hF hk hp hnum h2 h3 g L
    obtain ⟨g, L⟩ := v
    obtain ⟨hI, hF, hk, hpl, d0, d1, d2, d3⟩ := hv
    have hI : zI XT g := hI
    have hF : ∀ k, k ≠ 5 → g k = g0 k := hF
    have hk : (g 5 4).toInt ≠ 3 := hk
    have hpl : (g 5 5).toInt ≤ (g 5 3).toInt := hpl
    have d0 : (g 5 3).toInt - (g 5 5).toInt = 0 → (g 5 6).toInt ≤ 0 := d0
    have d1 : (g 5 3).toInt - (g 5 5).toInt = 1 → (g 5 6).toInt ≤ 9 := d1
    have d2 : (g 5 3).toInt - (g 5 5).toInt = 2 → (g 5 6).toInt ≤ 99 := d2
    have d3 : (g 5 3).toInt - (g 5 5).toInt = 3 → (g 5 6).toInt ≤ 999 := d3
    have h2 := hI 5 2 0 700 rfl
    have h3 := hI 5 3 0 700 rfl
    have h5 := hI 5 5 0 700 rfl
    have h6 := hI 5 6 0 9999 rfl
    have hJ : pJ g := fun h => absurd h hk
    show Ex (fX6_advance_5_s134 fu k134 g L) _
    unfold fX6_advance_5_s134
    refine Ex.ite (fun _ => fin g L hI hJ hF) (fun c => ?_)
    have c := icc_nle (m := (g 5 2).toInt) (n := (g 5 3).toInt) rfl rfl c
    refine Ex.ck (by omega) (by omega) ?_
    refine Ex.cb (uX6_kindOf fu _ g L) (fun x14 g15 L16 hq => ?_)
    obtain ⟨hg, hx, hd⟩ := hq
    subst hg
    -- the next sign
    have P209 : ∀ (g1 : Nat → Nat → Int32), zI XT g1 → (∀ k, k ≠ 5 → g1 k = g0 k) → g1 5 2 = g15 5 2 → g1 5 3 = g15 5 3 → g1 5 4 = g15 5 4 → g1 5 5 = g15 5 5 → ((g15 5 3).toInt - (g15 5 5).toInt = 0 → (g1 5 6).toInt ≤ 9) → ((g15 5 3).toInt - (g15 5 5).toInt = 1 → (g1 5 6).toInt ≤ 99) → ((g15 5 3).toInt - (g15 5 5).toInt = 2 → (g1 5 6).toInt ≤ 999) → Ex (fX6_advance_5_p209 fu k134 g1 L16) (fun (r : Unit) g1 L1 => PQ g0 g1) := by
      intro g1 hI hF q2 q3 q4 q5 f0 f1 f2
      unfold fX6_advance_5_p209
      rw [q3]
      generalize hw : (g15 5 3) + 1 = w
      have ew : w.toInt = (g15 5 3).toInt + 1 := by rw [← hw]; exact ic_addc rfl (by decide) (by omega) (by omega)
      refine Ex.sti (hI.upd (lo := 0) (hi := 700) rfl (by omega) (by omega)) (fun g19 g19e hI => ?_)
      have r2 : g19 5 2 = g15 5 2 := by rw [g19e]; exact q2
      have r3 : g19 5 3 = w := by rw [g19e]; exact upd2_at
      have r4 : g19 5 4 = g15 5 4 := by rw [g19e]; exact q4
      have r5 : g19 5 5 = g15 5 5 := by rw [g19e]; exact q5
      have r6 : g19 5 6 = g1 5 6 := by rw [g19e]; rfl
      refine ih (g19, L16) ⟨hI, fk g1 g19 3 w g19e hF, ?_, ?_, ?_, ?_, ?_, ?_⟩ ?_ ?_
      · show (g19 5 4).toInt ≠ 3
        rw [r4]; exact hk
      · show (g19 5 5).toInt ≤ (g19 5 3).toInt
        rw [r5, r3]; omega
      · show (g19 5 3).toInt - (g19 5 5).toInt = 0 → (g19 5 6).toInt ≤ 0
        rw [r5, r3]; omega
      · show (g19 5 3).toInt - (g19 5 5).toInt = 1 → (g19 5 6).toInt ≤ 9
        rw [r5, r3, r6]; omega
      · show (g19 5 3).toInt - (g19 5 5).toInt = 2 → (g19 5 6).toInt ≤ 99
        rw [r5, r3, r6]; omega
      · show (g19 5 3).toInt - (g19 5 5).toInt = 3 → (g19 5 6).toInt ≤ 999
        rw [r5, r3, r6]; omega
      · show (g19 5 2).toInt - (g19 5 3).toInt < (g15 5 2).toInt - (g15 5 3).toInt
        rw [r2, r3]; omega
      · show 0 < (g15 5 2).toInt - (g15 5 3).toInt
        omega
    refine Ex.ite (fun ck_ => ?_) (fun _ => fin g15 L16 hI hJ hF)
    refine Ex.ite (fun c1 => ?_) (fun c1 => ?_)
    · have c1 := icc_eq (m := (g15 5 4).toInt) (n := 1) rfl (by decide) c1
      have ck_ := icc_eq (m := x14.toInt) (n := (g15 5 4).toInt) rfl rfl ck_
      have hd := hd (by omega)
      generalize hz : (g15 5 3) - (g15 5 5) = z
      have ez : z.toInt = (g15 5 3).toInt - (g15 5 5).toInt := by rw [← hz]; exact ic_subc rfl rfl (by omega) (by omega)
      refine Ex.ite (fun c4 => ?_) (fun c4 => ?_)
      · have c4 := icc_le (m := 4) (n := z.toInt) (by decide) rfl c4
        exact P209 g15 hI hF rfl rfl rfl rfl (by omega) (by omega) (by omega)
      · have c4 := icc_nle (m := 4) (n := z.toInt) (by decide) rfl c4
        refine Ex.ck (by omega) (by omega) ?_
        generalize hb : g15 14 (Int32.toNatClampNeg (g15 5 3)) = b at hd ⊢
        generalize hm : (g15 5 6) * 10 = m
        have em : m.toInt = (g15 5 6).toInt * 10 := by rw [← hm]; exact ic_mulc rfl (by decide) (by omega) (by omega)
        generalize hs : m + b = s
        have es : s.toInt = m.toInt + b.toInt := by rw [← hs]; exact ic_addc rfl rfl (by omega) (by omega)
        generalize ht : s - 48 = t
        have et : t.toInt = s.toInt - 48 := by rw [← ht]; exact ic_subc rfl (by decide) (by omega) (by omega)
        refine Ex.sti (hI.upd (lo := 0) (hi := 9999) rfl (by omega) (by omega)) (fun g22 g22e hI => ?_)
        have r6 : g22 5 6 = t := by rw [g22e]; exact upd2_at
        exact P209 g22 hI (fk g15 g22 6 t g22e hF) (by rw [g22e]; rfl) (by rw [g22e]; rfl) (by rw [g22e]; rfl) (by rw [g22e]; rfl) (by rw [r6]; omega) (by rw [r6]; omega) (by rw [r6]; omega)
    · have c1 := icc_neq (m := (g15 5 4).toInt) (n := 1) rfl (by decide) c1
      exact P209 g15 hI hF rfl rfl rfl rfl (by omega) (by omega) (by omega)
  have P61 : ∀ (g : Nat → Nat → Int32) (L : Nat → Nat → Int64), zI XT g → (∀ k, k ≠ 5 → g k = g0 k) → Ex (fX6_advance_5_p61 fu g L) (fun (r : Unit) g1 L1 => PQ g0 g1) := by
    intro g L hI hF
    have h2 := hI 5 2 0 700 rfl
    have h3 := hI 5 3 0 700 rfl
    unfold fX6_advance_5_p61
    refine Ex.sti (hI.upd (lo := 0) (hi := 700) rfl h3.1 h3.2) (fun g2 g2e hI => ?_)
    refine Ex.sti (hI.upd (lo := 0) (hi := 9999) rfl (by decide) (by decide)) (fun g3 g3e hI => ?_)
    have hF3 := fk g2 g3 6 0 g3e (fk g g2 5 _ g2e hF)
    have r2 : g3 5 2 = g 5 2 := by rw [g3e, g2e]; rfl
    have r3 : g3 5 3 = g 5 3 := by rw [g3e, g2e]; rfl
    have r5 : g3 5 5 = g 5 3 := by rw [g3e, g2e]; rfl
    have r6 : g3 5 6 = 0 := by rw [g3e]; rfl
    rw [r2, r3]
    refine Ex.ite (fun c => ?_) (fun c => ?_)
    · have c := icc_lt (m := (g 5 3).toInt) (n := (g 5 2).toInt) rfl rfl c
      refine Ex.ck (by omega) (by omega) ?_
      refine Ex.cb (uX6_kindOf fu _ g3 L) (fun x5 g6 L7 hq => ?_)
      obtain ⟨hg, hx, -⟩ := hq
      subst hg
      refine Ex.sti (hI.updN rfl) (fun g9 g9e hI => ?_)
      have hF9 := fk g6 g9 4 x5 g9e hF3
      have s2 : g9 5 2 = g 5 2 := by rw [g9e]; exact r2
      have s3 : g9 5 3 = g 5 3 := by rw [g9e]; exact r3
      have s4 : g9 5 4 = x5 := by rw [g9e]; exact upd2_at
      have s5 : g9 5 5 = g 5 3 := by rw [g9e]; exact r5
      have s6 : g9 5 6 = 0 := by rw [g9e]; exact r6
      have hJ9 : pJ g9 := fun _ => by rw [s5]; omega
      refine Ex.ite (fun _ => P123 g9 L7 hI hJ9 hF9 (by rw [s2, s3]; exact c)) (fun c3 => ?_)
      have c3 := icc_neq (m := (g9 5 4).toInt) (n := 3) rfl (by decide) c3
      refine Ex.ite (fun _ => P123 g9 L7 hI hJ9 hF9 (by rw [s2, s3]; exact c)) (fun _ => ?_)
      exact P134 g9 L7 hI hF9 c3 (by rw [s5, s3]) (by rw [s6]; decide)
    · refine Ex.sti (hI.updN rfl) (fun g23 g23e hI => ?_)
      exact fin g23 L hI (by rw [g23e]; exact pJ.kind (by decide)) (fk g3 g23 4 0 g23e hF3)
  unfold fX6_advance_5
  refine Ex.ite (fun _ => fin g0 L0 hI hJ (fun _ _ => rfl)) (fun _ => ?_)
  have h2 := hI 5 2 0 700 rfl
  have h3 := hI 5 3 0 700 rfl
  unfold fX6_advance_5_l9
  refine Ex.loop (α := (Nat → Nat → Int32) × (Nat → Nat → Int64)) (fun v => zI XT v.1 ∧ (∀ k, k ≠ 5 → v.1 k = g0 k)) (fun v => (v.1 5 2).toInt - (v.1 5 3).toInt) (by omega) (by show (g0 5 2).toInt - (g0 5 3).toInt < (fu : Int); omega) ⟨hI, fun _ _ => rfl⟩ (fun k9 v hv ih => ?_)
  clear hI hJ h2 h3
  obtain ⟨g, L⟩ := v
  obtain ⟨hI, hF⟩ := hv
  have hI : zI XT g := hI
  have hF : ∀ k, k ≠ 5 → g k = g0 k := hF
  have h2 := hI 5 2 0 700 rfl
  have h3 := hI 5 3 0 700 rfl
  show Ex (fX6_advance_5_s9 fu k9 g L) _
  unfold fX6_advance_5_s9
  refine Ex.ite (fun _ => P61 g L hI hF) (fun c => ?_)
  have c := icc_nle (m := (g 5 2).toInt) (n := (g 5 3).toInt) rfl rfl c
  have P48 : Ex (fX6_advance_5_p48 fu k9 g L) (fun (r : Unit) g1 L1 => PQ g0 g1) := by
    unfold fX6_advance_5_p48
    generalize hw : (g 5 3) + 1 = w
    have ew : w.toInt = (g 5 3).toInt + 1 := by rw [← hw]; exact ic_addc rfl (by decide) (by omega) (by omega)
    refine Ex.sti (hI.upd (lo := 0) (hi := 700) rfl (by omega) (by omega)) (fun g1 g1e hI => ?_)
    have r2 : g1 5 2 = g 5 2 := by rw [g1e]; rfl
    have r3 : g1 5 3 = w := by rw [g1e]; exact upd2_at
    exact ih (g1, L) ⟨hI, fk g g1 3 w g1e hF⟩ (by show (g1 5 2).toInt - (g1 5 3).toInt < (g 5 2).toInt - (g 5 3).toInt; rw [r2, r3]; omega) (by show 0 < (g 5 2).toInt - (g 5 3).toInt; omega)
  refine Ex.ck (by omega) (by omega) (Ex.ite (fun _ => P48) (fun _ => Ex.ck (by omega) (by omega) (Ex.ite (fun _ => P48) (fun _ => P61 g L hI hF))))
