section
/-! ===== the reference's expressions are the spec's ===== -/
def n2 (b : Nat → Int32) (n Q : Nat) : Prop := ¬ isS b n Q 42 ∧ ¬ isS b n Q 47
def n4 (b : Nat → Int32) (n Q : Nat) : Prop := n2 b n Q ∧ ¬ isS b n Q 43 ∧ ¬ isS b n Q 45
def xPre (b : Nat → Int32) (n lev P : Nat) : Prop := match lev with
  | 8 => n2 b n P
  | 10 => n4 b n P
  | 11 => n4 b n P ∧ ¬ isW b n P 14
  | _ => True
def xPost (b : Nat → Int32) (n lev Q : Nat) : Prop := match lev with
  | 1 => n2 b n Q
  | 7 => n2 b n Q
  | 2 => n4 b n Q
  | 8 => n4 b n Q
  | 3 => n4 b n Q
  | 4 => n4 b n Q
  | 5 => n4 b n Q ∧ ¬ isW b n Q 14
  | 10 => n4 b n Q ∧ ¬ isW b n Q 14
  | 6 => n4 b n Q ∧ ¬ isW b n Q 14 ∧ ¬ isW b n Q 15
  | 11 => n4 b n Q ∧ ¬ isW b n Q 14 ∧ ¬ isW b n Q 15
  | _ => True
theorem sB_n {b : Nat → Int32} {n P : Nat} {c : Int} (h : ¬ sB b n P c = true) : ¬ isS b n P c := fun h' => h (sB_t h')
theorem wB_n {b : Nat → Int32} {n P k : Nat} (h : ¬ wB b n P k = true) : ¬ isW b n P k := fun h' => h (wB_t h')
/-- what can't stand behind -/
theorem xs_post {b : Nat → Int32} {n : Nat} : ∀ (f lev d : Nat) (acc : List Int) (P : Nat) (c : List Int) (Q : Nat), xs b n f lev d acc P = .ok (c, Q) → xPre b n lev P → xPost b n lev Q := by
  intro f
  induction f with
  | zero => intro lev d acc P c Q h _; exact nomatch h
  | succ f ih =>
    intro lev d acc P c Q h hp
    match lev, h, hp with
    | 0, _, _ => exact trivial
    | 1, h, _ =>
      rw [xe_1] at h
      obtain ⟨c1, Q1, e1, e2⟩ := eb_inv h
      exact ih 7 d c1 Q1 c Q e2 trivial
    | 2, h, _ =>
      rw [xe_2] at h
      obtain ⟨c1, Q1, e1, e2⟩ := eb_inv h
      exact ih 8 d c1 Q1 c Q e2 (ih 1 d [] P c1 Q1 e1 trivial)
    | 3, h, _ =>
      rw [xe_3] at h
      obtain ⟨c1, Q1, e1, e2⟩ := eb_inv h
      split at e2
      · obtain ⟨c2, Q2, e3, e4⟩ := eb_inv e2
        cases e4
        exact ih 2 d [] _ c2 Q e3 trivial
      · split at e2
        · obtain ⟨c2, Q2, e3, e4⟩ := eb_inv e2
          cases e4
          exact ih 2 d [] _ c2 Q e3 trivial
        · cases e2
          exact ih 2 d [] P _ _ e1 trivial
    | 4, h, _ =>
      rw [xe_4] at h
      split at h
      · split at h
        · exact ih 4 d _ _ c Q h trivial
        · exact nomatch h
      · obtain ⟨c1, Q1, e1, e2⟩ := eb_inv h
        cases e2
        exact ih 3 d [] P c1 Q e1 trivial
    | 5, h, _ =>
      rw [xe_5] at h
      obtain ⟨c1, Q1, e1, e2⟩ := eb_inv h
      exact ih 10 d c1 Q1 c Q e2 (ih 4 d [] P c1 Q1 e1 trivial)
    | 6, h, _ =>
      rw [xe_6] at h
      split at h
      · obtain ⟨c1, Q1, e1, e2⟩ := eb_inv h
        exact ih 11 d c1 Q1 c Q e2 (ih 5 d [] P c1 Q1 e1 trivial)
      · exact nomatch h
    | 7, h, _ =>
      rw [xe_7] at h
      split at h
      · obtain ⟨c1, Q1, e1, e2⟩ := eb_inv h
        exact ih 7 d _ Q1 c Q e2 trivial
      · rename_i s1
        split at h
        · obtain ⟨c1, Q1, e1, e2⟩ := eb_inv h
          exact ih 7 d _ Q1 c Q e2 trivial
        · rename_i s2
          cases h
          exact ⟨sB_n s1, sB_n s2⟩
    | 8, h, hp =>
      rw [xe_8] at h
      split at h
      · obtain ⟨c1, Q1, e1, e2⟩ := eb_inv h
        exact ih 8 d _ Q1 c Q e2 (ih 1 d [] _ c1 Q1 e1 trivial)
      · rename_i s1
        split at h
        · obtain ⟨c1, Q1, e1, e2⟩ := eb_inv h
          exact ih 8 d _ Q1 c Q e2 (ih 1 d [] _ c1 Q1 e1 trivial)
        · rename_i s2
          cases h
          exact ⟨hp, sB_n s1, sB_n s2⟩
    | 9, h, _ => exact nomatch h
    | 10, h, hp =>
      rw [xe_10] at h
      split at h
      · obtain ⟨c1, Q1, e1, e2⟩ := eb_inv h
        exact ih 10 d _ Q1 c Q e2 (ih 4 d [] _ c1 Q1 e1 trivial)
      · rename_i s1
        cases h
        exact ⟨hp, wB_n s1⟩
    | 11, h, hp =>
      rw [xe_11] at h
      split at h
      · obtain ⟨c1, Q1, e1, e2⟩ := eb_inv h
        exact ih 11 d _ Q1 c Q e2 (ih 5 d [] _ c1 Q1 e1 trivial)
      · rename_i s1
        cases h
        exact ⟨hp.1, hp.2, wB_n s1⟩
    | lev + 12, h, _ => exact nomatch h
theorem cm.pn {b : Nat → Int32} {n P : Nat} {g : gT} (h : cm b n P g) : pN g := by
  obtain ⟨a1, a2, a3, a4, a5, a6, a7, a8, a9, a10, a11, a13, a14⟩ := h
  have hE := tE_le (b := b) a3
  refine ⟨by omega, by omega, fun hs => ?_⟩
  have : P < n := by
    by_cases c : P < n
    · exact c
    · rw [a7, tK_ge c] at hs; exact absurd rfl hs
  have := hE.2.2 this
  omega
theorem wrong_eq0 {fu : Nat} {b : Nat → Int32} {n P : Nat} {g : gT} {L : lT} {w : Int32} (hw : w.toInt ≠ 0) (hc : cm b n P g) : ∃ g1, fX12_wrong fu w g L = some ((), (g1, L)) ∧ bM P g1 ∧ Fr [19, 20] [] g g1 := by
  have hpn := hc.pn
  obtain ⟨a1, a2, a3, a4, a5, a6, a7, a8, a9, a10, a11, a13, a14⟩ := hc
  have hF : Fr [19, 20] [] g (upd2 (upd2 g 0 19 w) 0 20 (upd2 g 0 19 w 0 25)) := (Fr.refl.u0 (by decide)).u0 (by decide)
  refine ⟨_, ?_, ⟨(a1.updN rfl).updN rfl, hpn.fr hF (by decide) (by decide) (by decide) (by decide), ?_, ?_⟩, hF⟩
  · unfold fX12_wrong
    rw [if_pos (ic_eq.mpr (show (g 0 19).toInt = (0 : Int32).toInt from a13))]
    rfl
  · exact hw
  · rw [upd2_at]; exact a6
section SIM
variable (fu : Nat) (b : Nat → Int32) (n : Nat) (g0 : gT) (s : Nat)
def Oe (p : Nat) (Run : Option (Unit × zS)) : Prop := ∃ g1 L1, Run = some ((), (g1, L1)) ∧ bM p g1 ∧ XQ g0 s g1
def Ol (t : Int) (e0 w0 : List Int) (d : Nat) (g : gT) (r : xR) (Run : Option (Unit × zS)) : Prop := match r with
  | .error p => Oe g0 s p Run
  | .ok q => ∃ g1 L1 m, Run = Dl fu m g1 L1 ∧ mA b n g0 s q.2 d g1 L1 ∧ n + 2 ≤ m + q.2 ∧ (∀ j, j ≤ d + 1 → g1 28 j = g 28 j) ∧ PR s t e0 w0 q.1 g1
def Oh (t : Int) (e0 w0 : List Int) (d : Nat) (g : gT) (r : xR) (Run : Option (Unit × zS)) : Prop := match r with
  | .error p => Oe g0 s p Run
  | .ok q => ∃ g1 L1 m, Run = Dl fu m g1 L1 ∧ mA b n g0 s q.2 d g1 L1 ∧ n + 2 ≤ m + q.2 ∧ (∀ j, j ≤ d → g1 28 j = g 28 j) ∧ (isS b n q.2 60 ∨ isS b n q.2 61 → (g1 28 (d + 1)).toInt ≠ 0) ∧ PR s t e0 w0 q.1 g1
def th (lev : Nat) : Int := match lev with | 0 => 7 | 1 => 6 | 2 => 5 | 5 => 2 | _ => 1
def rk (lev : Nat) : Nat := match lev with | 0 => 1 | 1 => 3 | _ => 4
def SimP (f : Nat) : Prop :=
  (∀ lev, lev ≤ 2 → ∀ (e0 w0 : List Int) (d P m nn : Nat) (v2 : Int32) (g : gT) (L : lT), d ≤ 5 → mO b n g0 s P d g L → StR s e0 w0 g → lowW (th lev) w0 → n + 2 ≤ m + P → n + 2 ≤ nn + P → 16 * (n + 1 - P) + rk lev ≤ f → Ol fu b n g0 s (th lev) e0 w0 d g (xs b n f lev d [] P) (Zl fu m nn v2 g L))
  ∧ (∀ (e0 w0 : List Int) (d P m nn : Nat) (v2 : Int32) (g : gT) (L : lT), d ≤ 5 → mO b n g0 s P d g L → StR s e0 w0 g → lowW 4 w0 → (g 28 (d + 1)).toInt = 0 → n + 2 ≤ m + P → n + 2 ≤ nn + P → 16 * (n + 1 - P) + 5 ≤ f → Oh fu b n g0 s 4 e0 w0 d g (xs b n f 3 d [] P) (Zl fu m nn v2 g L))
  ∧ (∀ (e0 w0 : List Int) (d P m nn j : Nat) (v4 : Int32) (acc : List Int) (g : gT) (L : lT), d ≤ 5 → mO b n g0 s P d g L → acc = List.replicate acc.length (-15) → StR s e0 (List.replicate acc.length 3 ++ w0) g → lowW 3 w0 → (g 28 (d + 1)).toInt = 0 → v4.toInt = (acc.length : Int) → acc.length ≤ 6 → n + 2 ≤ m + P → n + 2 ≤ nn + P → n + 2 ≤ j + P → 16 * (n + 1 - P) + 6 ≤ f → Oh fu b n g0 s 3 e0 w0 d g (xs b n f 4 d acc P) (Nl fu m nn j v4 g L))
  ∧ (∀ lev, lev = 5 ∨ lev = 6 → ∀ (e0 w0 : List Int) (d P m nn : Nat) (g : gT) (L : lT), d ≤ 5 → mO b n g0 s P d g L → StR s e0 w0 g → lowW (th lev) w0 → (g 28 (d + 1)).toInt = 0 → n + 3 ≤ m + P → n + 2 ≤ nn + P → 16 * (n + 1 - P) + lev + 2 ≤ f → Oh fu b n g0 s (th lev) e0 w0 d g (xs b n f lev d [] P) (Cl fu m nn 1 g L))
  ∧ (∀ (e0 w0 : List Int) (d P m : Nat) (acc : List Int) (g : gT) (L : lT), d ≤ 5 → mA b n g0 s P d g L → PR s 6 e0 w0 acc g → lowW 6 w0 → n + 2 ≤ m + P → 16 * (n + 1 - P) + 2 ≤ f → Ol fu b n g0 s 6 e0 w0 d g (xs b n f 7 d acc P) (Dl fu m g L))
  ∧ (∀ (e0 w0 : List Int) (d P m : Nat) (acc : List Int) (g : gT) (L : lT), d ≤ 5 → mA b n g0 s P d g L → PR s 5 e0 w0 acc g → lowW 5 w0 → n2 b n P → n + 2 ≤ m + P → 16 * (n + 1 - P) + 2 ≤ f → Ol fu b n g0 s 5 e0 w0 d g (xs b n f 8 d acc P) (Dl fu m g L))
  ∧ (∀ (e0 w0 : List Int) (d P m : Nat) (acc : List Int) (g : gT) (L : lT), d ≤ 5 → mA b n g0 s P d g L → PR s 2 e0 w0 acc g → lowW 2 w0 → (isS b n P 60 ∨ isS b n P 61 → (g 28 (d + 1)).toInt ≠ 0) → n + 2 ≤ m + P → 16 * (n + 1 - P) + 2 ≤ f → Oh fu b n g0 s 2 e0 w0 d g (xs b n f 10 d acc P) (Dl fu m g L))
  ∧ (∀ (e0 w0 : List Int) (d P m : Nat) (acc : List Int) (g : gT) (L : lT), d ≤ 5 → mA b n g0 s P d g L → PR s 1 e0 w0 acc g → lowW 1 w0 → (isS b n P 60 ∨ isS b n P 61 → (g 28 (d + 1)).toInt ≠ 0) → n + 2 ≤ m + P → 16 * (n + 1 - P) + 2 ≤ f → Oh fu b n g0 s 1 e0 w0 d g (xs b n f 11 d acc P) (Dl fu m g L))
end SIM
theorem Ol.mo {fu : Nat} {b : Nat → Int32} {n s d : Nat} {t : Int} {e0 w0 : List Int} {g0 g g1 : gT} {r : xR} {Run : Option (Unit × zS)} (h : Ol fu b n g0 s t e0 w0 d g1 r Run) (he : ∀ j, j ≤ d + 1 → g1 28 j = g 28 j) : Ol fu b n g0 s t e0 w0 d g r Run := by
  cases r with
  | error p => exact h
  | ok q =>
    obtain ⟨g2, L2, m, h1, h2, h3, h4, h5⟩ := h
    exact ⟨g2, L2, m, h1, h2, h3, fun j hj => (h4 j hj).trans (he j hj), h5⟩
theorem Oh.mo {fu : Nat} {b : Nat → Int32} {n s d : Nat} {t : Int} {e0 w0 : List Int} {g0 g g1 : gT} {r : xR} {Run : Option (Unit × zS)} (h : Oh fu b n g0 s t e0 w0 d g1 r Run) (he : ∀ j, j ≤ d → g1 28 j = g 28 j) : Oh fu b n g0 s t e0 w0 d g r Run := by
  cases r with
  | error p => exact h
  | ok q =>
    obtain ⟨g2, L2, m, h1, h2, h3, h4, h5, h6⟩ := h
    exact ⟨g2, L2, m, h1, h2, h3, fun j hj => (h4 j hj).trans (he j hj), h5, h6⟩
/-- a change of the strength -/
theorem Oh.tt {fu : Nat} {b : Nat → Int32} {n s d : Nat} {t t' : Int} {e0 w0 : List Int} {g0 g : gT} {r : xR} {Run : Option (Unit × zS)} (h : Oh fu b n g0 s t e0 w0 d g r Run) (ht : t' ≤ t) : Oh fu b n g0 s t' e0 w0 d g r Run := by
  cases r with
  | error p => exact h
  | ok q =>
    obtain ⟨g2, L2, m, h1, h2, h3, h4, h5, h6⟩ := h
    exact ⟨g2, L2, m, h1, h2, h3, h4, h5, h6.mo ht⟩
theorem PR.of {s : Nat} {t : Int} {e0 w0 c : List Int} {g : gT} (h : StR s (e0 ++ enc c) w0 g) : PR s t e0 w0 c g := ⟨e0 ++ enc c, [], h, fun a ha => absurd ha (List.not_mem_nil), List.append_nil _⟩
theorem C_0' {fu : Nat} (hfu : 1180591620717411303424 ≤ fu) {nn : Nat} {g : gT} {L : lT} (hg : (g 0 19).toInt = 0) : Cl fu fu nn 0 g L = Zl fu (fu - 1) nn 0 g L := by
  have e : Cl fu fu nn 0 g L = Cl fu (fu - 1 + 1) nn 0 g L := congrArg (fun q => Cl fu q nn 0 g L) (show fu = fu - 1 + 1 by omega)
  rw [e]; exact C_0 hfu hg
theorem mO.g {b : Nat → Int32} {n s P d : Nat} {g0 g : gT} {L : lT} (h : mO b n g0 s P d g L) : (g 0 19).toInt = 0 := h.1.c.2.2.2.2.2.2.2.2.2.2.2.1
theorem mA.g {b : Nat → Int32} {n s P d : Nat} {g0 g : gT} {L : lT} (h : mA b n g0 s P d g L) : (g 0 19).toInt = 0 := h.1.c.2.2.2.2.2.2.2.2.2.2.2.1
/-- an expression that isn't closed -/
theorem p325_deep {fu : Nat} (hfu : 1180591620717411303424 ≤ fu) {b : Nat → Int32} {n s P d : Nat} {g0 g : gT} {L L' : lT} (h : mA b n g0 s P (d + 1) g L) : Oe g0 s P (fX12_expression_p325 fu g L') := by
  obtain ⟨hc, hx, hd⟩ := id h
  obtain ⟨ga, ea, hba, hFa⟩ := wrong_eq0 (fu := fu) (L := L') (w := 1) (by decide) hc.c
  have ha : xI g0 s 1 0 0 0 ga := hx.wrong hba.1 hFa hba.2.2.1
  obtain ⟨g1, L1, e, hq, hF, -⟩ := p345_eq hfu (L := L') ha
  refine ⟨g1, L1, ?_, hba.fr hq.1 hF (by decide) (by decide) (by decide) (by decide) (by decide) (by decide), hq⟩
  unfold fX12_expression_p325
  refine q_cb (good_eq h.g) (q_f (by decide) (q_f (fun h9 => ?_) (q_cb ea e)))
  have h9 := icc_le (m := (g 0 37).toInt) (n := 1) rfl (by decide) h9
  omega
theorem mA.le {b : Nat → Int32} {n s P d : Nat} {g0 g : gT} {L : lT} (h : mA b n g0 s P d g L) : P ≤ n := h.1.2.2.1
theorem mO.le {b : Nat → Int32} {n s P d : Nat} {g0 g : gT} {L : lT} (h : mO b n g0 s P d g L) : P ≤ n := h.1.2.2.1
set_option maxHeartbeats 8000000 in
theorem sim {fu : Nat} (hfu : 1180591620717411303424 ≤ fu) (b : Nat → Int32) (n : Nat) (hn7 : n ≤ 700) (g0 : gT) (s : Nat) : ∀ f, SimP fu b n g0 s f := by
  intro f
  induction f with
  | zero =>
    refine ⟨?_, ?_, ?_, ?_, ?_, ?_, ?_, ?_⟩
    · intro lev hl e0 w0 d P m nn v2 g L _ _ _ _ _ _ hf
      have : 1 ≤ rk lev := by rcases (by omega : lev = 0 ∨ lev = 1 ∨ lev = 2) with rfl | rfl | rfl <;> decide
      omega
    all_goals (intros; omega)
  | succ f ih =>
    obtain ⟨iZ, i3, i4, i56, i7, i8, i10, i11⟩ := ih
    -- a sequel: the sub-expression at Q is read from Z
    have subZ : ∀ (lev : Nat), lev ≤ 2 → ∀ (e0 w0 : List Int) (d Q m : Nat) (g : gT) (L : lT), d ≤ 5 → mO b n g0 s Q d g L → StR s e0 w0 g → lowW (th lev) w0 → n + 2 ≤ m + Q → 16 * (n + 1 - Q) + rk lev ≤ f → Ol fu b n g0 s (th lev) e0 w0 d g (xs b n f lev d [] Q) (Cl fu fu m 0 g L) := by
      intro lev hl e0 w0 d Q m g L hd h hst hlw hm hf
      rw [C_0' hfu h.g]
      exact iZ lev hl e0 w0 d Q (fu - 1) m 0 g L hd h hst hlw (by have := h.le; omega) hm hf
    refine ⟨?_, ?_, ?_, ?_, ?_, ?_, ?_, ?_⟩
    · -- part, product, sum
      intro lev hl e0 w0 d P m nn v2 g L hd h hst hlw hm hnn hf
      have hle := h.le
      have hn := nx_le (b := b) hle
      rcases (by omega : lev = 0 ∨ lev = 1 ∨ lev = 2) with rfl | rfl | rfl
      · obtain ⟨m, rfl⟩ : ∃ m', m = m' + 1 := ⟨m - 1, by omega⟩
        obtain ⟨nn, rfl⟩ : ∃ m', nn = m' + 1 := ⟨nn - 1, by omega⟩
        have hf : 16 * (n + 1 - P) + 1 ≤ f + 1 := hf
        by_cases s40 : isS b n P 40
        · have hlt := isS_lt s40
          have hnl := hn.2.2 hlt
          have hk := s40.1
          rw [xe_0, if_neg (by omega), if_neg (by omega), sB_t s40, if_pos rfl, if_pos hd]
          rcases Z_open hfu (m := m + 1) (nn := nn + 1) (v2 := v2) h s40 with ⟨h4, g1, L1, e1, y1, y2, y3, y4⟩ | ⟨h4, g1, L1, e1, y1, y2⟩
          · rw [e1]
            have k := i56 6 (Or.inr rfl) e0 (14 :: w0) (d + 1) (nx b n P) (m + 1) (nn + 1) g1 L1 (by omega) y1 (y4 _ _ hst) (Or.inl (by decide)) y2 (by omega) (by omega) (by omega)
            cases hxs : xs b n f 6 (d + 1) [] (nx b n P) with
            | error p => rw [hxs] at k; exact k
            | ok q =>
              rw [hxs] at k
              obtain ⟨g2, L2, m2, e2, z1, z2, z3, z4, e1', pd, z6, z7, z8⟩ := k
              have hpost := xs_post f 6 (d + 1) [] _ q.1 q.2 hxs trivial
              have z5 := z1.le
              have hn2 := nx_le (b := b) z5
              rw [eb_ok, e2]
              by_cases s41 : isS b n q.2 41
              · rw [sB_t s41, if_pos rfl]
                have := hn2.2.2 (isS_lt s41)
                obtain ⟨m2, rfl⟩ : ∃ m', m2 = m' + 1 := ⟨m2 - 1, by omega⟩
                obtain ⟨g3, L3, e3, w1, w2, w3⟩ := D_close hfu (m := m2) z1 s41
                have w4 := w3 e1' pd w0 z6 (z7.mo (by decide))
                rw [z8] at w4
                refine ⟨g3, L3, m2, e3, w1, ?_, fun j hj => ?_, PR.of w4⟩
                · show n + 2 ≤ m2 + nx b n q.2
                  omega
                · rw [w2, z3 j (by omega), y3 j (by omega)]
              · rw [sB_f s41, if_neg (by decide)]
                obtain ⟨m2, rfl⟩ : ∃ m', m2 = m' + 2 := ⟨m2 - 2, by omega⟩
                obtain ⟨⟨⟨p1, p2⟩, p3, p4⟩, p5, p6⟩ := hpost
                obtain ⟨L', e3⟩ := D_stop hfu (m := m2) z1 p5 p6 z4 p3 p4 p1 p2 (fun h9 => absurd h9 s41)
                rw [e3]
                exact p325_deep hfu z1
          · rw [e1]
            have e : xs b n f 6 (d + 1) [] (nx b n P) = .error (nx b n P) := by
              obtain ⟨f, rfl⟩ : ∃ f', f = f' + 1 := ⟨f - 1, by omega⟩
              rw [xe_6, if_neg (by omega)]
            rw [e, eb_er]
            exact C_bad hfu y1 y2
        · rcases Z_part hfu (m := m) (nn := nn) (v2 := v2) h s40 with ⟨hp, g1, L1, e1, y1, y2, y3⟩ | ⟨hp, g1, L1, e1, y1⟩
          · have e : ∃ c, xs b n (f + 1) 0 d [] P = .ok (c, nx b n P) ∧ P < n ∧ c = [paV b n P] := by
              rcases hp with ⟨k1, k2⟩ | ⟨k1, k2⟩
              · exact ⟨_, by rw [xe_0, if_pos k1, if_pos k2], tK_n0 (b := b) (by omega), by unfold paV; rw [if_pos k1]⟩
              · exact ⟨_, by rw [xe_0, if_neg (by omega), if_pos k1, if_pos k2], tK_n0 (b := b) (by omega), by unfold paV; rw [if_neg (by omega)]⟩
            obtain ⟨c, e, hlt, rfl⟩ := e
            have := hn.2.2 hlt
            rw [e]
            refine ⟨g1, L1, nn + 1, e1, y1, ?_, fun j _ => by rw [y2], PR.of (y3 _ _ hst)⟩
            show n + 2 ≤ nn + 1 + nx b n P
            omega
          · have e : xs b n (f + 1) 0 d [] P = .error P := by
              rw [xe_0]
              by_cases k1 : tK b n P = 1
              · rw [if_pos k1, if_neg (fun k2 => hp (Or.inl ⟨k1, k2⟩))]
              · rw [if_neg k1]
                by_cases k2 : tK b n P = 2
                · rw [if_pos k2, if_neg (fun k3 => hp (Or.inr ⟨k2, k3⟩))]
                · rw [if_neg k2, sB_f s40, if_neg (by decide)]
            rw [e]
            exact ⟨g1, L1, e1, y1⟩
      · -- product
        have hf : 16 * (n + 1 - P) + 3 ≤ f + 1 := hf
        rw [xe_1]
        have k := iZ 0 (by decide) e0 w0 d P m nn v2 g L hd h hst (lowW.mo (t := 6) hlw (by decide)) hm hnn (show 16 * (n + 1 - P) + 1 ≤ f by omega)
        cases hxs : xs b n f 0 d [] P with
        | error p => rw [hxs] at k; exact k
        | ok q =>
          rw [hxs] at k
          obtain ⟨g1, L1, m1, e1, y1, y2, y3, y4⟩ := k
          have hl := xs_len f 0 d [] P q.1 q.2 hle hxs (fun _ => rfl)
          rw [eb_ok, e1]
          exact (i7 e0 w0 d q.2 m1 q.1 g1 L1 hd y1 (PR.mo (t := 7) y4 (by decide)) hlw y2 (by omega)).mo y3
      · -- sum
        have hf : 16 * (n + 1 - P) + 4 ≤ f + 1 := hf
        rw [xe_2]
        have k := iZ 1 (by decide) e0 w0 d P m nn v2 g L hd h hst (lowW.mo (t := 5) hlw (by decide)) hm hnn (show 16 * (n + 1 - P) + 3 ≤ f by omega)
        cases hxs : xs b n f 1 d [] P with
        | error p => rw [hxs] at k; exact k
        | ok q =>
          rw [hxs] at k
          obtain ⟨g1, L1, m1, e1, y1, y2, y3, y4⟩ := k
          have hl := xs_len f 1 d [] P q.1 q.2 hle hxs (fun _ => rfl)
          have hpost := xs_post f 1 d [] P q.1 q.2 hxs trivial
          rw [eb_ok, e1]
          exact (i8 e0 w0 d q.2 m1 q.1 g1 L1 hd y1 (PR.mo (t := 6) y4 (by decide)) hlw hpost y2 (by omega)).mo y3
    · -- test
      intro e0 w0 d P m nn v2 g L hd h hst hlw ht hm hnn hf
      have hle := h.le
      rw [xe_3]
      have k := iZ 2 (by decide) e0 w0 d P m nn v2 g L hd h hst (lowW.mo (t := 4) hlw (by decide)) hm hnn (show 16 * (n + 1 - P) + 4 ≤ f by omega)
      cases hxs : xs b n f 2 d [] P with
      | error p => rw [hxs] at k; exact k
      | ok q =>
        rw [hxs] at k
        obtain ⟨g1, L1, m1, e1, y1, y2, y3, e1', pd, y6, y7, y8⟩ := k
        have hl := xs_len f 2 d [] P q.1 q.2 hle hxs (fun _ => rfl)
        have hn := nx_le (b := b) y1.le
        rw [eb_ok, e1]
        have more : ∀ op a : Int, ((isS b n q.2 60 ∧ a = 6) ∨ (isS b n q.2 61 ∧ a = 7)) → en1 op = [a] → Oh fu b n g0 s 4 e0 w0 d g (eb (xs b n f 2 d [] (nx b n q.2)) (fun c2 R => .ok (q.1 ++ c2 ++ [op], R))) (Dl fu m1 g1 L1) := by
          intro op a hs hop
          have hlt : q.2 < n := hs.elim (fun h => isS_lt h.1) (fun h => isS_lt h.1)
          have ha : stg a = 4 ∧ 3 ≤ a ∧ a ≤ 11 := by rcases hs with ⟨-, rfl⟩ | ⟨-, rfl⟩ <;> decide
          have hnl := hn.2.2 hlt
          obtain ⟨m1, rfl⟩ : ∃ m', m1 = m' + 1 := ⟨m1 - 1, by omega⟩
          obtain ⟨g2, L2, e2, z1, z2, z3, z4⟩ := D_cmp hfu (m := m1) y1 hs (by rw [y3 (d + 1) (Nat.le_refl _)]; exact ht)
          have z5 := z4 e1' pd w0 y6 (pOk.mo (t := 5) y7 (by decide)) hlw
          rw [y8] at z5
          rw [e2]
          have k := subZ 2 (by decide) (e0 ++ enc q.1) (a :: w0) d (nx b n q.2) m1 g2 L2 hd z1 z5 (Or.inr (show stg a < 5 by omega)) (by omega) (show 16 * (n + 1 - nx b n q.2) + 4 ≤ f by omega)
          cases hys : xs b n f 2 d [] (nx b n q.2) with
          | error p => rw [hys] at k; exact k
          | ok r =>
            rw [hys] at k
            obtain ⟨g3, L3, m3, e3, w1, w2, w3, w4⟩ := k
            refine ⟨g3, L3, m3, e3, w1, w2, fun j hj => ?_, fun _ => ?_, PR.op (t' := 5) w4 (by decide) ha.2.1 ha.2.2 (by omega) hop⟩
            · rw [w3 j (by omega), z3 j (by omega), y3 j (by omega)]
            · rw [w3 (d + 1) (Nat.le_refl _), z2]; decide
        rcases sB_d b n q.2 60 with ⟨s60, e60⟩ | ⟨s60, e60⟩
        · rw [e60, if_pos rfl]; exact more (-11) 6 (Or.inl ⟨s60, rfl⟩) rfl
        rcases sB_d b n q.2 61 with ⟨s61, e61⟩ | ⟨s61, e61⟩
        · rw [e60, e61, if_neg (by decide), if_pos rfl]; exact more (-12) 7 (Or.inr ⟨s61, rfl⟩) rfl
        rw [e60, e61, if_neg (by decide), if_neg (by decide)]
        exact ⟨g1, L1, m1, rfl, y1, y2, fun j hj => y3 j (by omega), fun h9 => absurd h9 (fun h9 => h9.elim s60 s61), e1', pd, y6, pOk.mo (t := 5) y7 (by decide), y8⟩
    · -- nots
      intro e0 w0 d P m nn j v4 acc g L hd h hrep hst hlw ht hv hacc hm hnn hj hf
      have hle := h.le
      have hn := nx_le (b := b) hle
      rw [xe_4]
      rcases wB_d b n P 16 with ⟨hw, ew⟩ | ⟨hw, ew⟩
      · have hnl := hn.2.2 (isW_lt hw)
        rw [ew, if_pos rfl]
        by_cases h6 : acc.length < 6
        · rw [if_pos h6]
          obtain ⟨j, rfl⟩ : ∃ m', j = m' + 1 := ⟨j - 1, by omega⟩
          obtain ⟨g1, L1, e1, y1, y2, y3⟩ := N_more hfu (m := m) (nn := nn) (j := j) (v4 := v4) h hw (by omega)
          have hrep' : (-15 :: acc : List Int) = List.replicate (-15 :: acc : List Int).length (-15) := by
            rw [List.length_cons, List.replicate_succ, ← hrep]
          have hst' : StR s e0 (List.replicate (-15 :: acc : List Int).length 3 ++ w0) g1 := by
            rw [List.length_cons, List.replicate_succ]; exact y3 _ _ hst
          rw [e1]
          have ev : (v4 + 1).toInt = ((-15 :: acc).length : Int) := by
            rw [ic_addc hv (n := 1) (by decide) (by omega) (by omega), List.length_cons]; omega
          exact (i4 e0 w0 d (nx b n P) m nn j (v4 + 1) (-15 :: acc) g1 L1 hd y1 hrep' hst' hlw (by rw [y2]; exact ht) ev (by rw [List.length_cons]; omega) (by omega) (by omega) (by omega) (by omega)).mo (fun j _ => by rw [y2])
        · rw [if_neg h6]
          obtain ⟨m, rfl⟩ : ∃ m', m = m' + 1 := ⟨m - 1, by omega⟩
          obtain ⟨nn, rfl⟩ : ∃ m', nn = m' + 1 := ⟨nn - 1, by omega⟩
          obtain ⟨j, rfl⟩ : ∃ m', j = m' + 2 := ⟨j - 2, by omega⟩
          exact N_bad hfu h hw (by omega)
      · rw [ew, if_neg (by decide)]
        obtain ⟨j, rfl⟩ : ∃ m', j = m' + 1 := ⟨j - 1, by omega⟩
        rw [N_stop hfu h.1 hw]
        have hlw' : lowW 4 (List.replicate acc.length 3 ++ w0) := by
          cases hn : acc.length with
          | zero => exact hlw.mo (by decide)
          | succ k => exact Or.inr (by decide)
        have k := i3 e0 (List.replicate acc.length 3 ++ w0) d P m nn 1 g L hd h hst hlw' ht hm hnn (by omega)
        cases hxs : xs b n f 3 d [] P with
        | error p => rw [hxs] at k; exact k
        | ok q =>
          rw [hxs] at k
          obtain ⟨g2, L2, m2, z1, z2, z3, z4, z5, e1', pd, z6, z7, z8⟩ := k
          refine ⟨g2, L2, m2, z1, z2, z3, z4, z5, e1', pd ++ List.replicate acc.length 3, by rw [List.append_assoc]; exact z6, fun x hx => ?_, ?_⟩
          · rcases List.mem_append.mp hx with hx | hx
            · exact z7.mo (by decide) x hx
            · rw [(List.mem_replicate.mp hx).2]; decide
          · have er : ∀ k : Nat, enc (List.replicate k (-15)) = List.replicate k 3 := by
              intro k
              induction k with
              | zero => rfl
              | succ k ih => rw [List.replicate_succ, List.replicate_succ]; show en1 (-15) ++ enc (List.replicate k (-15)) = _; rw [ih]; rfl
            have ea : enc acc = List.replicate acc.length 3 := by rw [← er, ← hrep]
            show e1' ++ (pd ++ List.replicate acc.length 3) = e0 ++ enc (q.1 ++ acc)
            rw [← List.append_assoc, z8, enc_ap, ea, List.append_assoc]
    · -- and, expression
      intro lev hl e0 w0 d P m nn g L hd h hst hlw ht hm hnn hf
      have hle := h.le
      rcases hl with rfl | rfl
      · rw [xe_5]
        obtain ⟨m, rfl⟩ : ∃ m', m = m' + 1 := ⟨m - 1, by omega⟩
        rw [C_1 h.g]
        have k := i4 e0 w0 d P m nn fu 0 [] g L hd h rfl hst (lowW.mo (t := 2) hlw (by decide)) ht rfl (by decide) (by omega) hnn (by omega) (by omega)
        cases hxs : xs b n f 4 d [] P with
        | error p => rw [hxs] at k; exact k
        | ok q =>
          rw [hxs] at k
          obtain ⟨g1, L1, m1, e1, y1, y2, y3, y4, y5⟩ := k
          have hl := xs_len f 4 d [] P q.1 q.2 hle hxs (fun _ => rfl)
          rw [eb_ok, e1]
          exact (i10 e0 w0 d q.2 m1 q.1 g1 L1 hd y1 (y5.mo (by decide)) hlw y4 y2 (by omega)).mo y3
      · rw [xe_6, if_pos hd]
        have k := i56 5 (Or.inl rfl) e0 w0 d P m nn g L hd h hst (lowW.mo (t := 1) hlw (by decide)) ht hm hnn (by omega)
        cases hxs : xs b n f 5 d [] P with
        | error p => rw [hxs] at k; exact k
        | ok q =>
          rw [hxs] at k
          obtain ⟨g1, L1, m1, e1, y1, y2, y3, y4, y5⟩ := k
          have hl := xs_len f 5 d [] P q.1 q.2 hle hxs (fun _ => rfl)
          rw [eb_ok, e1]
          exact (i11 e0 w0 d q.2 m1 q.1 g1 L1 hd y1 (PR.mo (t := 2) y5 (by decide)) hlw y4 y2 (by omega)).mo y3
    · -- more of a product
      intro e0 w0 d P m acc g L hd h hpr hlw hm hf
      have hle := h.le
      have hn := nx_le (b := b) hle
      have more : ∀ op a : Int, ((isS b n P 42 ∧ a = 10) ∨ (isS b n P 47 ∧ a = 11)) → en1 op = [a] → Ol fu b n g0 s 6 e0 w0 d g (eb (xs b n f 0 d [] (nx b n P)) (fun c Q => xs b n f 7 d (acc ++ c ++ [op]) Q)) (Dl fu m g L) := by
        intro op a hs hop
        have hnl := hn.2.2 (hs.elim (fun h => isS_lt h.1) (fun h => isS_lt h.1))
        have ha : stg a = 6 ∧ 3 ≤ a ∧ a ≤ 11 := by rcases hs with ⟨-, rfl⟩ | ⟨-, rfl⟩ <;> decide
        obtain ⟨m, rfl⟩ : ∃ m', m = m' + 1 := ⟨m - 1, by omega⟩
        obtain ⟨g1, L1, e1, y1, y2, y3⟩ := D_op hfu (m := m) (t := 6) (a := a) h (Or.inr (Or.inr (hs.elim (fun h => Or.inl ⟨h.1, rfl, h.2⟩) (fun h => Or.inr ⟨h.1, rfl, h.2⟩))))
        obtain ⟨e1', pd, x1, x2, x3⟩ := hpr
        have y4 := y3 e1' pd w0 x1 x2 hlw
        rw [x3] at y4
        rw [e1]
        have k := subZ 0 (by decide) (e0 ++ enc acc) (a :: w0) d (nx b n P) m g1 L1 hd y1 y4 (Or.inr (show stg a < 7 by omega)) (by omega) (show 16 * (n + 1 - nx b n P) + 1 ≤ f by omega)
        cases hxs : xs b n f 0 d [] (nx b n P) with
        | error p => rw [hxs] at k; exact k
        | ok q =>
          rw [hxs] at k
          obtain ⟨g2, L2, m2, e2, z1, z2, z3, z4⟩ := k
          have hl := xs_len f 0 d [] (nx b n P) q.1 q.2 hn.2.1 hxs (fun _ => rfl)
          rw [eb_ok, e2]
          exact (i7 e0 w0 d q.2 m2 _ g2 L2 hd z1 (PR.op (t' := 7) z4 (by decide) ha.2.1 ha.2.2 (by omega) hop) hlw z2 (by omega)).mo (fun j hj => by rw [z3 j hj, y2])
      rw [xe_7]
      rcases sB_d b n P 42 with ⟨s1, e1⟩ | ⟨s1, e1⟩
      · rw [e1, if_pos rfl]; exact more (-9) 10 (Or.inl ⟨s1, rfl⟩) rfl
      rcases sB_d b n P 47 with ⟨s2, e2⟩ | ⟨s2, e2⟩
      · rw [e1, e2, if_neg (by decide), if_pos rfl]; exact more (-10) 11 (Or.inr ⟨s2, rfl⟩) rfl
      rw [e1, e2, if_neg (by decide), if_neg (by decide)]
      exact ⟨g, L, m, rfl, h, hm, fun j _ => rfl, hpr⟩
    · -- more of a sum
      intro e0 w0 d P m acc g L hd h hpr hlw hp hm hf
      have hle := h.le
      have hn := nx_le (b := b) hle
      have more : ∀ op a : Int, ((isS b n P 43 ∧ a = 8) ∨ (isS b n P 45 ∧ a = 9)) → en1 op = [a] → Ol fu b n g0 s 5 e0 w0 d g (eb (xs b n f 1 d [] (nx b n P)) (fun c Q => xs b n f 8 d (acc ++ c ++ [op]) Q)) (Dl fu m g L) := by
        intro op a hs hop
        have hnl := hn.2.2 (hs.elim (fun h => isS_lt h.1) (fun h => isS_lt h.1))
        have ha : stg a = 5 ∧ 3 ≤ a ∧ a ≤ 11 := by rcases hs with ⟨-, rfl⟩ | ⟨-, rfl⟩ <;> decide
        obtain ⟨m, rfl⟩ : ∃ m', m = m' + 1 := ⟨m - 1, by omega⟩
        obtain ⟨g1, L1, e1, y1, y2, y3⟩ := D_op hfu (m := m) (t := 5) (a := a) h (hs.elim (fun h => Or.inl ⟨h.1, rfl, h.2⟩) (fun h => Or.inr (Or.inl ⟨h.1, rfl, h.2⟩)))
        obtain ⟨e1', pd, x1, x2, x3⟩ := hpr
        have y4 := y3 e1' pd w0 x1 x2 hlw
        rw [x3] at y4
        rw [e1]
        have k := subZ 1 (by decide) (e0 ++ enc acc) (a :: w0) d (nx b n P) m g1 L1 hd y1 y4 (Or.inr (show stg a < 6 by omega)) (by omega) (show 16 * (n + 1 - nx b n P) + 3 ≤ f by omega)
        cases hxs : xs b n f 1 d [] (nx b n P) with
        | error p => rw [hxs] at k; exact k
        | ok q =>
          rw [hxs] at k
          obtain ⟨g2, L2, m2, e2, z1, z2, z3, z4⟩ := k
          have hl := xs_len f 1 d [] (nx b n P) q.1 q.2 hn.2.1 hxs (fun _ => rfl)
          have hpost := xs_post f 1 d [] _ q.1 q.2 hxs trivial
          rw [eb_ok, e2]
          exact (i8 e0 w0 d q.2 m2 _ g2 L2 hd z1 (PR.op (t' := 6) z4 (by decide) ha.2.1 ha.2.2 (by omega) hop) hlw hpost z2 (by omega)).mo (fun j hj => by rw [z3 j hj, y2])
      rw [xe_8]
      rcases sB_d b n P 43 with ⟨s1, e1⟩ | ⟨s1, e1⟩
      · rw [e1, if_pos rfl]; exact more (-7) 8 (Or.inl ⟨s1, rfl⟩) rfl
      rcases sB_d b n P 45 with ⟨s2, e2⟩ | ⟨s2, e2⟩
      · rw [e1, e2, if_neg (by decide), if_pos rfl]; exact more (-8) 9 (Or.inr ⟨s2, rfl⟩) rfl
      rw [e1, e2, if_neg (by decide), if_neg (by decide)]
      exact ⟨g, L, m, rfl, h, hm, fun j _ => rfl, hpr⟩
    · -- more of and
      intro e0 w0 d P m acc g L hd h hpr hlw ht hm hf
      have hle := h.le
      have hn := nx_le (b := b) hle
      rw [xe_10]
      rcases wB_d b n P 14 with ⟨s1, e1⟩ | ⟨s1, e1⟩
      · rw [e1, if_pos rfl]
        have hnl := hn.2.2 (isW_lt s1)
        obtain ⟨m, rfl⟩ : ∃ m', m = m' + 1 := ⟨m - 1, by omega⟩
        obtain ⟨g1, L1, e2, y1, y2, y3, y4⟩ := D_wrd hfu (m := m) (t := 2) (a := 4) h (Or.inl ⟨s1, rfl, rfl⟩)
        obtain ⟨e1', pd, x1, x2, x3⟩ := hpr
        have y5 := y4 e1' pd w0 x1 x2 hlw
        rw [x3] at y5
        rw [e2]
        have eC : Cl fu fu m 1 g1 L1 = Nl fu (fu - 1) m fu 0 g1 L1 := by
          have e : Cl fu fu m 1 g1 L1 = Cl fu (fu - 1 + 1) m 1 g1 L1 := congrArg (fun q => Cl fu q m 1 g1 L1) (show fu = fu - 1 + 1 by omega)
          rw [e]; exact C_1 y1.g
        rw [eC]
        have k := i4 (e0 ++ enc acc) (4 :: w0) d (nx b n P) (fu - 1) m fu 0 [] g1 L1 hd y1 rfl y5 (Or.inr (by decide)) y2 rfl (by decide) (by omega) (by omega) (by omega) (by omega)
        cases hxs : xs b n f 4 d [] (nx b n P) with
        | error p => rw [hxs] at k; exact k
        | ok q =>
          rw [hxs] at k
          obtain ⟨g2, L2, m2, e3, z1, z2, z3, z4, z5⟩ := k
          have hl := xs_len f 4 d [] (nx b n P) q.1 q.2 hn.2.1 hxs (fun _ => rfl)
          rw [eb_ok, e3]
          exact (i10 e0 w0 d q.2 m2 _ g2 L2 hd z1 (PR.op (t' := 3) z5 (by decide) (by decide) (by decide) (by decide) rfl) hlw z4 z2 (by omega)).mo (fun j hj => by rw [z3 j hj, y3 j (by omega)])
      · rw [e1, if_neg (by decide)]
        exact ⟨g, L, m, rfl, h, hm, fun j _ => rfl, ht, hpr⟩
    · -- more of or
      intro e0 w0 d P m acc g L hd h hpr hlw ht hm hf
      have hle := h.le
      have hn := nx_le (b := b) hle
      rw [xe_11]
      rcases wB_d b n P 15 with ⟨s1, e1⟩ | ⟨s1, e1⟩
      · rw [e1, if_pos rfl]
        have hnl := hn.2.2 (isW_lt s1)
        obtain ⟨m, rfl⟩ : ∃ m', m = m' + 1 := ⟨m - 1, by omega⟩
        obtain ⟨g1, L1, e2, y1, y2, y3, y4⟩ := D_wrd hfu (m := m) (t := 1) (a := 5) h (Or.inr ⟨s1, rfl, rfl⟩)
        obtain ⟨e1', pd, x1, x2, x3⟩ := hpr
        have y5 := y4 e1' pd w0 x1 x2 hlw
        rw [x3] at y5
        rw [e2]
        have k := i56 5 (Or.inl rfl) (e0 ++ enc acc) (5 :: w0) d (nx b n P) fu m g1 L1 hd y1 y5 (Or.inr (by decide)) y2 (by omega) (by omega) (by omega)
        cases hxs : xs b n f 5 d [] (nx b n P) with
        | error p => rw [hxs] at k; exact k
        | ok q =>
          rw [hxs] at k
          obtain ⟨g2, L2, m2, e3, z1, z2, z3, z4, z5⟩ := k
          have hl := xs_len f 5 d [] (nx b n P) q.1 q.2 hn.2.1 hxs (fun _ => rfl)
          rw [eb_ok, e3]
          exact (i11 e0 w0 d q.2 m2 _ g2 L2 hd z1 (PR.op (t' := 2) z5 (by decide) (by decide) (by decide) (by decide) rfl) hlw z4 z2 (by omega)).mo (fun j hj => by rw [z3 j hj, y3 j (by omega)])
      · rw [e1, if_neg (by decide)]
        exact ⟨g, L, m, rfl, h, hm, fun j _ => rfl, ht, hpr⟩
end
section
/-! ===== what a line is: where it ends, or the place of its fault ===== -/
def dN (b : Nat → Int32) (n : Nat) (lo hi : Int) (P : Nat) : Decidable (nuC b n lo hi P) := by unfold nuC; exact inferInstance
def nB (b : Nat → Int32) (n : Nat) (lo hi : Int) (P : Nat) : Bool := @decide (nuC b n lo hi P) (dN b n lo hi P)
theorem nB_t {b : Nat → Int32} {n P : Nat} {lo hi : Int} (h : nuC b n lo hi P) : nB b n lo hi P = true := @decide_eq_true _ (dN b n lo hi P) h
theorem nB_f {b : Nat → Int32} {n P : Nat} {lo hi : Int} (h : ¬ nuC b n lo hi P) : nB b n lo hi P = false := @decide_eq_false _ (dN b n lo hi P) h
abbrev sR : Type := Except Nat Nat
def bn (r : sR) (k : Nat → sR) : sR := match r with
  | .error p => .error p
  | .ok P => k P
theorem bn_ok {P : Nat} {k : Nat → sR} : bn (.ok P) k = k P := rfl
theorem bn_er {p : Nat} {k : Nat → sR} : bn (.error p) k = .error p := rfl
def nuS (b : Nat → Int32) (n : Nat) (lo hi : Int) (P : Nat) : sR := if nB b n lo hi P then .ok (nx b n P) else .error P
def sgS (b : Nat → Int32) (n : Nat) (c : Int) (P : Nat) : sR := if sB b n P c then .ok (nx b n P) else .error P
def opS (b : Nat → Int32) (n k : Nat) (hi : Int) (P : Nat) : sR := if wB b n P k then nuS b n 0 hi (nx b n P) else .ok P
/-- those waited for: acc are named already -/
def waS (b : Nat → Int32) (n : Nat) (l some : Int) : Nat → List Int → Nat → sR
  | 0, _, P => .error P
  | f + 1, acc, P => if tK b n P = 1 then (if tE b n P ≤ P + 4 ∧ acc.length < 6 then (if tV b n P < l then (if tV b n P ∈ acc then .error P else waS b n l some f (acc ++ [tV b n P]) (nx b n P)) else .error P) else .error P)
    else (if acc.length = 0 then .error P else if (acc.length : Int) < some then .error P else .ok P)
def ops (b : Nat → Int32) (n P : Nat) : sR := bn (opS b n 8 99 P) (fun P1 => bn (opS b n 9 10 P1) (fun P2 => opS b n 10 30 P2))
def tlS (b : Nat → Int32) (n : Nat) (l : Int) (P : Nat) : sR :=
  if wB b n P 6 then bn (waS b n l 0 8 [] (nx b n P)) (ops b n)
  else if wB b n P 7 then bn (nuS b n 1 6 (nx b n P)) (fun P1 => bn (waS b n l (tV b n (nx b n P)) 8 [] P1) (ops b n))
  else ops b n P
def leS (b : Nat → Int32) (n : Nat) (l : Int) (P : Nat) : sR :=
  bn (nuS b n 0 999 (nx b n P)) (fun P1 => bn (nuS b n (tV b n (nx b n P) + 1) 999 P1) (fun P2 => bn (nuS b n 1 200 P2) (fun P3 => bn (nuS b n 0 60 P3) (fun P4 => bn (nuS b n 0 9 P4) (fun P5 => bn (nuS b n 1 99 P5) (tlS b n l))))))
/-- a line; what has been told: lessons, rules, walk, stair -/
abbrev tS : Type := Nat × Nat × Bool × Bool
def xF : Nat := 16 * 702 + 8
def xsP (b : Nat → Int32) (n P : Nat) : sR := match xs b n xF 6 0 [] P with
  | .error p => .error p
  | .ok q => .ok q.2
def fnS (b : Nat → Int32) (n : Nat) (r : sR) (t : tS) : Except Nat (tS × Nat) := match bn r (sgS b n 59) with
  | .error p => .error p
  | .ok Q => .ok (t, Q)
def liS (b : Nat → Int32) (n : Nat) (t : tS) (P : Nat) : Except Nat (tS × Nat) :=
  if wB b n P 5 then fnS b n (if t.1 < 12 then leS b n t.1 P else .error P) (t.1 + 1, t.2)
  else if wB b n P 11 then fnS b n (if t.2.2.1 then .error P else nuS b n 0 9 (nx b n P)) (t.1, t.2.1, true, t.2.2.2)
  else if wB b n P 12 then fnS b n (if t.2.2.2 then .error P else nuS b n 1 99 (nx b n P)) (t.1, t.2.1, t.2.2.1, true)
  else if wB b n P 13 then fnS b n (if t.2.1 < 4 then xsP b n (nx b n P) else .error P) (t.1, t.2.1 + 1, t.2.2)
  else .error P
/-- the whole text -/
def hoS (b : Nat → Int32) (n : Nat) : Nat → tS → Nat → Except Nat tS
  | 0, _, P => .error P
  | f + 1, t, P => if tK b n P = 0 then .ok t else match liS b n t P with
    | .error p => .error p
    | .ok q => hoS b n f q.1 q.2
/-- what a line tells: the k-th token behind; the fields of a lesson; those waited for -/
def nxI (b : Nat → Int32) (n : Nat) : Nat → Nat → Nat
  | 0, P => P
  | k + 1, P => nx b n (nxI b n k P)
def waL (b : Nat → Int32) (n : Nat) : Nat → List Int → Nat → List Int × Nat
  | 0, acc, P => (acc, P)
  | f + 1, acc, P => if tK b n P = 1 then waL b n f (acc ++ [tV b n P]) (nx b n P) else (acc, P)
def opV (b : Nat → Int32) (n k : Nat) (d : Int) (P : Nat) : Int := if wB b n P k then tV b n (nx b n P) else d
def opN (b : Nat → Int32) (n k P : Nat) : Nat := if wB b n P k then nx b n (nx b n P) else P
def leL (b : Nat → Int32) (n Q : Nat) : List Int × Nat := if wB b n Q 6 then waL b n 8 [] (nx b n Q) else if wB b n Q 7 then waL b n 8 [] (nx b n (nx b n Q)) else ([], Q)
def leV (b : Nat → Int32) (n P : Nat) : Nat → Int
  | 3 => tV b n (nxI b n 1 P)
  | 4 => tV b n (nxI b n 2 P)
  | 5 => tV b n (nxI b n 3 P)
  | 6 => tV b n (nxI b n 4 P)
  | 7 => tV b n (nxI b n 5 P)
  | 8 => tV b n (nxI b n 6 P)
  | 9 => if wB b n (nxI b n 7 P) 6 then 0 else if wB b n (nxI b n 7 P) 7 then 1 else 2
  | 10 => if wB b n (nxI b n 7 P) 6 then 0 else if wB b n (nxI b n 7 P) 7 then tV b n (nx b n (nxI b n 7 P)) else 0
  | 11 => opV b n 8 99 (leL b n (nxI b n 7 P)).2
  | 12 => opV b n 9 10 (opN b n 8 (leL b n (nxI b n 7 P)).2)
  | 13 => opV b n 10 0 (opN b n 9 (opN b n 8 (leL b n (nxI b n 7 P)).2))
  | _ => 0
def leA (b : Nat → Int32) (n P : Nat) : List Int := (leL b n (nxI b n 7 P)).1
def mW (acc : List Int) : Int32 := acc.foldl (fun x k => x ||| ((1 : Int32) <<< (Int32.ofInt k &&& 31))) 0
theorem mW_ap {acc : List Int} {k : Int32} : mW (acc ++ [k.toInt]) = mW acc ||| ((1 : Int32) <<< (k &&& 31)) := by
  unfold mW
  rw [List.foldl_append]
  show _ ||| ((1 : Int32) <<< (Int32.ofInt k.toInt &&& 31)) = _
  rw [Int32.ofInt_toInt]
theorem waL_len {b : Nat → Int32} {n : Nat} : ∀ {f : Nat} {acc : List Int} {P : Nat}, (waL b n f acc P).1.length ≤ acc.length + f := by
  intro f
  induction f with
  | zero => intro acc P; exact Nat.le_refl _
  | succ f ih =>
    intro acc P
    unfold waL
    split
    · have := ih (acc := acc ++ [tV b n P]) (P := nx b n P)
      rw [List.length_append] at this
      have this : _ ≤ acc.length + 1 + f := this
      omega
    · show acc.length ≤ _; omega
/-- where lessons and rules stand in the text, walk, stair -/
abbrev dT : Type := (Nat → Nat) × (Nat → Nat) × Int × Int
def upN (f : Nat → Nat) (k v : Nat) : Nat → Nat := fun i => if i = k then v else f i
theorem upN_at {f : Nat → Nat} {k v : Nat} : upN f k v k = v := if_pos rfl
theorem upN_ne {f : Nat → Nat} {k v i : Nat} (h : i ≠ k) : upN f k v i = f i := if_neg h
def liD (b : Nat → Int32) (n : Nat) (t : tS) (D : dT) (P : Nat) : dT :=
  if wB b n P 5 then (upN D.1 t.1 P, D.2)
  else if wB b n P 11 then (D.1, D.2.1, tV b n (nx b n P), D.2.2.2)
  else if wB b n P 12 then (D.1, D.2.1, D.2.2.1, tV b n (nx b n P))
  else if wB b n P 13 then (D.1, upN D.2.1 t.2.1 (nx b n P), D.2.2)
  else D
def hoD (b : Nat → Int32) (n : Nat) : Nat → tS → dT → Nat → dT
  | 0, _, D, _ => D
  | f + 1, t, D, P => if tK b n P = 0 then D else match liS b n t P with
    | .error _ => D
    | .ok q => hoD b n f q.1 (liD b n t D P) q.2
def D0 : dT := (fun _ => 0, fun _ => 0, 1, 99)
theorem nuS_ok {b : Nat → Int32} {n P Q : Nat} {lo hi : Int} (h : nuS b n lo hi P = .ok Q) : nuC b n lo hi P ∧ Q = nx b n P := by
  unfold nuS at h
  split at h
  · rename_i hc
    cases h
    exact ⟨@of_decide_eq_true _ (dN b n lo hi P) hc, rfl⟩
  · exact nomatch h
theorem bn_inv {r : sR} {k : Nat → sR} {Q : Nat} (h : bn r k = .ok Q) : ∃ P, r = .ok P ∧ k P = .ok Q := by
  cases r with
  | error p => exact nomatch h
  | ok P => exact ⟨P, rfl, h⟩
/-- a number was read -/
theorem nu_ok {b : Nat → Int32} {n Q : Nat} {lo hi : Int} {r : sR} {x : Int32} (h : bn r (nuS b n lo hi) = .ok Q) (v : ∀ P, r = .ok P → nuC b n lo hi P → x.toInt = tV b n P) : ∃ P, r = .ok P ∧ Q = nx b n P ∧ x.toInt = tV b n P := by
  obtain ⟨P, e1, e2⟩ := bn_inv h
  have e := nuS_ok e2
  exact ⟨P, e1, e.2, v P e1 e.1⟩
theorem nuS_le {b : Nat → Int32} {n P Q : Nat} {lo hi : Int} (hP : P ≤ n) (h : nuS b n lo hi P = .ok Q) : P < Q ∧ Q ≤ n := by
  unfold nuS at h
  split at h
  · rename_i hc
    cases h
    have hc : nuC b n lo hi P := @of_decide_eq_true _ (dN b n lo hi P) hc
    have := nx_le (b := b) hP
    have := this.2.2 (tK_n0 (b := b) (by have := hc.1; omega))
    omega
  · exact nomatch h
/-- the class's state, good or not -/
def ST (b : Nat → Int32) (n : Nat) (r : sR) (g : gT) : Prop := match r with
  | .error p => bX p g
  | .ok P => cX b n P g
def SM (b : Nat → Int32) (n : Nat) (r : sR) (g : gT) (L : lT) : Prop := match r with
  | .error p => bM p g
  | .ok P => cM b n P g L
theorem ST.I {b : Nat → Int32} {n : Nat} {r : sR} {g : gT} (h : ST b n r g) : zI XT g := by
  cases r with
  | error p => exact h.1
  | ok P => exact h.1
/-- nothing but the parser and one lesson has changed -/
def KP (q : Nat) (g g1 : gT) : Prop := (∀ k, k < 69 → k ≠ 5 → g1 k = g k) ∧ g1 5 9 = g 5 9 ∧ g1 5 10 = g 5 10 ∧ (∀ k, 69 ≤ k → k ≠ q → k ≠ q + 24 → g1 k = g k)
theorem KP.refl {q : Nat} {g : gT} : KP q g g := ⟨fun _ _ _ => rfl, rfl, rfl, fun _ _ _ _ => rfl⟩
theorem KP.tr {q : Nat} {g g1 g2 : gT} (h1 : KP q g g1) (h2 : KP q g1 g2) : KP q g g2 := ⟨fun k a c => (h2.1 k a c).trans (h1.1 k a c), h2.2.1.trans h1.2.1, h2.2.2.1.trans h1.2.2.1, fun k a c d => (h2.2.2.2 k a c d).trans (h1.2.2.2 k a c d)⟩
theorem KP.x {q : Nat} {g g1 : gT} {A : List Nat} (h : FX A [] g g1) (h9 : 9 ∉ A) (h10 : 10 ∉ A) : KP q g g1 := ⟨fun k _ c => h.2 k c (List.not_mem_nil), h.1 9 h9, h.1 10 h10, fun k a _ _ => h.2 k (by omega) (List.not_mem_nil)⟩
theorem KP.u {q : Nat} {g g1 : gT} {k j : Nat} {x : Int32} (h : KP q g g1) (hq : 69 ≤ q) (hk : k = q ∨ k = q + 24) : KP q g (upd2 g1 k j x) := by
  refine ⟨fun k' a c => (funext fun i => upd2_nk (show k' ≠ k by omega)).trans (h.1 k' a c), ?_, ?_, fun k' a c d => (funext fun i => upd2_nk (show k' ≠ k by omega)).trans (h.2.2.2 k' a c d)⟩
  · rw [upd2_nk (by omega)]; exact h.2.1
  · rw [upd2_nk (by omega)]; exact h.2.2.1
theorem ST.u {b : Nat → Int32} {n : Nat} {r : sR} {g : gT} {k j : Nat} {x : Int32} (h : ST b n r g) (hI : zI XT (upd2 g k j x)) (h5 : k ≠ 5) (h14 : k ≠ 14) : ST b n r (upd2 g k j x) := by
  have hF : FX [] [k] g (upd2 g k j x) := FX.refl.uk h5 (List.mem_singleton.mpr rfl)
  have m : 14 ∉ [k] := fun h => h14 (List.mem_singleton.mp h).symm
  cases r with
  | error p => exact h.fr hI hF (by decide) (by decide) (by decide)
  | ok P => exact h.fr hI hF (by decide) (by decide) (by decide) (by decide) (by decide) (by decide) (by decide) m
theorem ST.f {b : Nat → Int32} {n : Nat} {r : sR} {g : gT} {j : Nat} {x : Int32} (h : ST b n r g) (hI : zI XT (upd2 g 5 j x)) (hj : 9 ≤ j) : ST b n r (upd2 g 5 j x) := by
  have hF : FX [j] [] g (upd2 g 5 j x) := FX.refl.u5 (List.mem_singleton.mpr rfl)
  have m : ∀ i, i < 9 → i ∉ [j] := fun i hi h => by have := List.mem_singleton.mp h; omega
  cases r with
  | error p => exact h.fr hI hF (m 4 (by decide)) (m 7 (by decide)) (m 8 (by decide))
  | ok P => exact h.fr hI hF (m 2 (by decide)) (m 3 (by decide)) (m 4 (by decide)) (m 5 (by decide)) (m 6 (by decide)) (m 7 (by decide)) (m 8 (by decide)) (List.not_mem_nil)
section XST
variable {ρ : Type} {Q : ρ → gT → lT → Prop} {b : Nat → Int32} {n : Nat} {g : gT} {L : lT} {fu : Nat} {r : sR}
theorem s_adv {K : Unit → gT → lT → Option (ρ × zS)} (hfu : 1180591620717411303424 ≤ fu) (hs : ST b n r g) (h : ∀ g1 L1, ST b n (bn r (fun P => .ok (nx b n P))) g1 → FX [3, 4, 5, 6] [] g g1 → Ex (K () g1 L1) Q) : Ex (cb (fX6_advance_5 fu g L) K) Q := by
  cases r with
  | error p => exact x_advB hs.2.1 (h g L hs FX.refl)
  | ok P => exact x_adv hfu hs (fun g1 L1 k1 k2 => h g1 L1 k1 k2)
theorem s_num {p1 p2 : Int32} {K : Int32 → gT → lT → Option (ρ × zS)} (hfu : 1180591620717411303424 ≤ fu) (hs : ST b n r g) (h : ∀ (x : Int32) g1 L1, ST b n (bn r (nuS b n p1.toInt p2.toInt)) g1 → FX [3, 4, 5, 6, 7, 8] [] g g1 → (∀ P, r = .ok P → nuC b n p1.toInt p2.toInt P → x.toInt = tV b n P) → Ex (K x g1 L1) Q) : Ex (cb (fX6_readNumber_5 fu p1 p2 g L) K) Q := by
  cases r with
  | error p => exact x_numB hs.2.1 (h 0 g L hs FX.refl (fun P e => nomatch e))
  | ok P =>
    refine x_num hfu hs (fun hn x g1 L1 k1 k2 k3 => h x g1 L1 ?_ (k3.mo (by decide) (by decide)) (fun P' e _ => by cases e; exact k1)) (fun hn g1 k1 k2 => h 0 g1 L ?_ (k2.mo (by decide) (by decide)) (fun P' e hn' => by cases e; exact absurd hn' hn))
    · rw [bn_ok]; unfold nuS; rw [nB_t hn]; exact k2
    · rw [bn_ok]; unfold nuS; rw [nB_f hn]; exact k1
theorem s_sgn {c : Int32} {K : Unit → gT → lT → Option (ρ × zS)} (hfu : 1180591620717411303424 ≤ fu) (hs : ST b n r g) (h : ∀ g1 L1, ST b n (bn r (sgS b n c.toInt)) g1 → FX [3, 4, 5, 6, 7, 8] [] g g1 → Ex (K () g1 L1) Q) : Ex (cb (fX6_readSign_5 fu c g L) K) Q := by
  cases r with
  | error p => exact x_rsgB hs.2.1 (h g L hs FX.refl)
  | ok P =>
    refine x_rsg hfu hs (fun hn g1 L1 k1 k2 => h g1 L1 ?_ (k2.mo (by decide) (by decide))) (fun hn g1 k1 k2 => h g1 L ?_ (k2.mo (by decide) (by decide)))
    · rw [bn_ok]; unfold sgS; rw [sB_t hn]; exact k1
    · rw [bn_ok]; unfold sgS; rw [sB_f hn]; exact k1
theorem s_refuse {w : Int32} {K : Unit → gT → lT → Option (ρ × zS)} (hw : w.toInt ≠ 0) (hs : ST b n r g) (h : ∀ g1, ST b n (bn r (fun P => .error P)) g1 → FX [4, 7, 8] [] g g1 → Ex (K () g1 L) Q) : Ex (cb (fX6_refuse_5 fu w g L) K) Q := by
  cases r with
  | error p => exact x_refB hs.2.1 (h g hs FX.refl)
  | ok P => exact x_ref hw hs (fun g1 k1 k2 => h g1 k1 k2)
end XST
end
section
/-! ===== the class's lessons ===== -/
theorem b_and1 (y : BitVec 32) : (y &&& 1#32 = 0#32) ↔ y.getLsbD 0 = false := by
  have e : (y &&& 1#32).toNat = y.toNat % 2 := by rw [BitVec.toNat_and]; exact Nat.and_one_is_mod _
  have t : y.getLsbD 0 = decide (y.toNat % 2 = 1) := by
    show y.toNat.testBit 0 = _
    exact Nat.testBit_zero _
  rw [t]
  constructor
  · intro h
    rw [h] at e
    have e : 0 = y.toNat % 2 := e
    exact decide_eq_false (by omega)
  · intro h
    have h := of_decide_eq_false h
    apply BitVec.eq_of_toNat_eq
    rw [e]
    show y.toNat % 2 = 0
    omega
theorem b_tst {x k : Int32} (h0 : 0 ≤ k.toInt) (h1 : k.toInt ≤ 11) : ((x >>> (k &&& 31)) &&& 1 = 0) ↔ x.toBitVec.getLsbD k.toInt.toNat = false := by
  have key : ∀ (m : Nat) (y : Int32), m < 12 → y.toBitVec.smod 32 = BitVec.ofNat 32 m → (((x >>> y) &&& 1 = 0) ↔ x.toBitVec.getLsbD m = false) := by
    intro m y hm hy
    have e : ((x >>> y) &&& 1).toBitVec = (x.toBitVec.sshiftRight m) &&& 1#32 := by
      rw [Int32.toBitVec_and, Int32.toBitVec_shiftRight, hy]
      have : (BitVec.ofNat 32 m).toNat = m := by rw [BitVec.toNat_ofNat]; exact Nat.mod_eq_of_lt (by omega)
      show x.toBitVec.sshiftRight (BitVec.ofNat 32 m).toNat &&& _ = _
      rw [this]; rfl
    have i : ((x >>> y) &&& 1 = 0) ↔ ((x >>> y) &&& 1).toBitVec = 0#32 := ⟨fun h => by rw [h]; rfl, fun h => Int32.toBitVec_inj.mp h⟩
    rw [i, e, b_and1, BitVec.getLsbD_sshiftRight]
    simp only [Nat.add_zero]
    have h2 : m < 32 := by omega
    simp [h2]
  rcases (by omega : k.toInt = 0 ∨ k.toInt = 1 ∨ k.toInt = 2 ∨ k.toInt = 3 ∨ k.toInt = 4 ∨ k.toInt = 5 ∨ k.toInt = 6 ∨ k.toInt = 7 ∨ k.toInt = 8 ∨ k.toInt = 9 ∨ k.toInt = 10 ∨ k.toInt = 11) with h | h | h | h | h | h | h | h | h | h | h | h
  · obtain rfl : k = 0 := ic_eq.mpr h; exact key 0 _ (by decide) (by decide)
  · obtain rfl : k = 1 := ic_eq.mpr h; exact key 1 _ (by decide) (by decide)
  · obtain rfl : k = 2 := ic_eq.mpr h; exact key 2 _ (by decide) (by decide)
  · obtain rfl : k = 3 := ic_eq.mpr h; exact key 3 _ (by decide) (by decide)
  · obtain rfl : k = 4 := ic_eq.mpr h; exact key 4 _ (by decide) (by decide)
  · obtain rfl : k = 5 := ic_eq.mpr h; exact key 5 _ (by decide) (by decide)
  · obtain rfl : k = 6 := ic_eq.mpr h; exact key 6 _ (by decide) (by decide)
  · obtain rfl : k = 7 := ic_eq.mpr h; exact key 7 _ (by decide) (by decide)
  · obtain rfl : k = 8 := ic_eq.mpr h; exact key 8 _ (by decide) (by decide)
  · obtain rfl : k = 9 := ic_eq.mpr h; exact key 9 _ (by decide) (by decide)
  · obtain rfl : k = 10 := ic_eq.mpr h; exact key 10 _ (by decide) (by decide)
  · obtain rfl : k = 11 := ic_eq.mpr h; exact key 11 _ (by decide) (by decide)
theorem b_one {k : Int32} (h0 : 0 ≤ k.toInt) (h1 : k.toInt ≤ 11) (i : Nat) (hi : i ≤ 11) : ((1 : Int32) <<< (k &&& 31)).toBitVec.getLsbD i = decide (i = k.toInt.toNat) := by
  have key : ∀ (m : Int32), m.toInt = 0 ∨ m.toInt = 1 ∨ m.toInt = 2 ∨ m.toInt = 3 ∨ m.toInt = 4 ∨ m.toInt = 5 ∨ m.toInt = 6 ∨ m.toInt = 7 ∨ m.toInt = 8 ∨ m.toInt = 9 ∨ m.toInt = 10 ∨ m.toInt = 11 → ((1 : Int32) <<< (m &&& 31)).toBitVec.getLsbD i = decide (i = m.toInt.toNat) := by
    intro m hm
    rcases hm with h | h | h | h | h | h | h | h | h | h | h | h
    · obtain rfl : m = 0 := ic_eq.mpr h
      rcases (by omega : i = 0 ∨ i = 1 ∨ i = 2 ∨ i = 3 ∨ i = 4 ∨ i = 5 ∨ i = 6 ∨ i = 7 ∨ i = 8 ∨ i = 9 ∨ i = 10 ∨ i = 11) with rfl | rfl | rfl | rfl | rfl | rfl | rfl | rfl | rfl | rfl | rfl | rfl <;> decide
    · obtain rfl : m = 1 := ic_eq.mpr h
      rcases (by omega : i = 0 ∨ i = 1 ∨ i = 2 ∨ i = 3 ∨ i = 4 ∨ i = 5 ∨ i = 6 ∨ i = 7 ∨ i = 8 ∨ i = 9 ∨ i = 10 ∨ i = 11) with rfl | rfl | rfl | rfl | rfl | rfl | rfl | rfl | rfl | rfl | rfl | rfl <;> decide
    · obtain rfl : m = 2 := ic_eq.mpr h
      rcases (by omega : i = 0 ∨ i = 1 ∨ i = 2 ∨ i = 3 ∨ i = 4 ∨ i = 5 ∨ i = 6 ∨ i = 7 ∨ i = 8 ∨ i = 9 ∨ i = 10 ∨ i = 11) with rfl | rfl | rfl | rfl | rfl | rfl | rfl | rfl | rfl | rfl | rfl | rfl <;> decide
    · obtain rfl : m = 3 := ic_eq.mpr h
      rcases (by omega : i = 0 ∨ i = 1 ∨ i = 2 ∨ i = 3 ∨ i = 4 ∨ i = 5 ∨ i = 6 ∨ i = 7 ∨ i = 8 ∨ i = 9 ∨ i = 10 ∨ i = 11) with rfl | rfl | rfl | rfl | rfl | rfl | rfl | rfl | rfl | rfl | rfl | rfl <;> decide
    · obtain rfl : m = 4 := ic_eq.mpr h
      rcases (by omega : i = 0 ∨ i = 1 ∨ i = 2 ∨ i = 3 ∨ i = 4 ∨ i = 5 ∨ i = 6 ∨ i = 7 ∨ i = 8 ∨ i = 9 ∨ i = 10 ∨ i = 11) with rfl | rfl | rfl | rfl | rfl | rfl | rfl | rfl | rfl | rfl | rfl | rfl <;> decide
    · obtain rfl : m = 5 := ic_eq.mpr h
      rcases (by omega : i = 0 ∨ i = 1 ∨ i = 2 ∨ i = 3 ∨ i = 4 ∨ i = 5 ∨ i = 6 ∨ i = 7 ∨ i = 8 ∨ i = 9 ∨ i = 10 ∨ i = 11) with rfl | rfl | rfl | rfl | rfl | rfl | rfl | rfl | rfl | rfl | rfl | rfl <;> decide
    · obtain rfl : m = 6 := ic_eq.mpr h
      rcases (by omega : i = 0 ∨ i = 1 ∨ i = 2 ∨ i = 3 ∨ i = 4 ∨ i = 5 ∨ i = 6 ∨ i = 7 ∨ i = 8 ∨ i = 9 ∨ i = 10 ∨ i = 11) with rfl | rfl | rfl | rfl | rfl | rfl | rfl | rfl | rfl | rfl | rfl | rfl <;> decide
    · obtain rfl : m = 7 := ic_eq.mpr h
      rcases (by omega : i = 0 ∨ i = 1 ∨ i = 2 ∨ i = 3 ∨ i = 4 ∨ i = 5 ∨ i = 6 ∨ i = 7 ∨ i = 8 ∨ i = 9 ∨ i = 10 ∨ i = 11) with rfl | rfl | rfl | rfl | rfl | rfl | rfl | rfl | rfl | rfl | rfl | rfl <;> decide
    · obtain rfl : m = 8 := ic_eq.mpr h
      rcases (by omega : i = 0 ∨ i = 1 ∨ i = 2 ∨ i = 3 ∨ i = 4 ∨ i = 5 ∨ i = 6 ∨ i = 7 ∨ i = 8 ∨ i = 9 ∨ i = 10 ∨ i = 11) with rfl | rfl | rfl | rfl | rfl | rfl | rfl | rfl | rfl | rfl | rfl | rfl <;> decide
    · obtain rfl : m = 9 := ic_eq.mpr h
      rcases (by omega : i = 0 ∨ i = 1 ∨ i = 2 ∨ i = 3 ∨ i = 4 ∨ i = 5 ∨ i = 6 ∨ i = 7 ∨ i = 8 ∨ i = 9 ∨ i = 10 ∨ i = 11) with rfl | rfl | rfl | rfl | rfl | rfl | rfl | rfl | rfl | rfl | rfl | rfl <;> decide
    · obtain rfl : m = 10 := ic_eq.mpr h
      rcases (by omega : i = 0 ∨ i = 1 ∨ i = 2 ∨ i = 3 ∨ i = 4 ∨ i = 5 ∨ i = 6 ∨ i = 7 ∨ i = 8 ∨ i = 9 ∨ i = 10 ∨ i = 11) with rfl | rfl | rfl | rfl | rfl | rfl | rfl | rfl | rfl | rfl | rfl | rfl <;> decide
    · obtain rfl : m = 11 := ic_eq.mpr h
      rcases (by omega : i = 0 ∨ i = 1 ∨ i = 2 ∨ i = 3 ∨ i = 4 ∨ i = 5 ∨ i = 6 ∨ i = 7 ∨ i = 8 ∨ i = 9 ∨ i = 10 ∨ i = 11) with rfl | rfl | rfl | rfl | rfl | rfl | rfl | rfl | rfl | rfl | rfl | rfl <;> decide
  exact key k (by omega)
/-- the bits of those named -/
def bR (x : Int32) (acc : List Int) : Prop := ∀ i : Nat, i ≤ 11 → (x.toBitVec.getLsbD i = true ↔ (i : Int) ∈ acc)
theorem bR_0 : bR 0 [] := fun i hi => by
  have h : ∀ i, i ≤ 11 → (0 : Int32).toBitVec.getLsbD i = false := by decide
  rw [h i hi]
  exact ⟨fun h => absurd h (by decide), fun h => absurd h (List.not_mem_nil)⟩
theorem bR_or {x k : Int32} {acc : List Int} (h : bR x acc) (h0 : 0 ≤ k.toInt) (h1 : k.toInt ≤ 11) : bR (x ||| ((1 : Int32) <<< (k &&& 31))) (acc ++ [k.toInt]) := by
  intro i hi
  rw [Int32.toBitVec_or, BitVec.getLsbD_or, b_one h0 h1 i hi, Bool.or_eq_true, h i hi, decide_eq_true_eq, List.mem_append, List.mem_singleton]
  constructor
  · rintro (h | h)
    · exact Or.inl h
    · exact Or.inr (by omega)
  · rintro (h | h)
    · exact Or.inl h
    · exact Or.inr (by omega)
theorem bR_t {x k : Int32} {acc : List Int} (h : bR x acc) (h0 : 0 ≤ k.toInt) (h1 : k.toInt ≤ 11) : ((x >>> (k &&& 31)) &&& 1 = 0) ↔ k.toInt ∉ acc := by
  rw [b_tst h0 h1]
  have e := h k.toInt.toNat (by omega)
  rw [show ((k.toInt.toNat : Nat) : Int) = k.toInt by omega] at e
  constructor
  · intro hf hm
    rw [e.mpr hm] at hf
    exact nomatch hf
  · intro hm
    cases hb : x.toBitVec.getLsbD k.toInt.toNat with
    | false => rfl
    | true => exact absurd (e.mp hb) hm
section XLE
variable {ρ : Type} {Q : ρ → gT → lT → Prop} {b : Nat → Int32} {n : Nat} {g : gT} {L : lT} {fu : Nat} {r : sR}
theorem s_opt_limit {p1 p2 : Int32} {K : Int32 → gT → lT → Option (ρ × zS)} (hfu : 1180591620717411303424 ≤ fu) (hs : ST b n r g) (h : ∀ (x : Int32) g1 L1, ST b n (bn r (opS b n 8 p1.toInt)) g1 → FX [3, 4, 5, 6, 7, 8] [] g g1 → (∀ R, bn r (opS b n 8 p1.toInt) = .ok R → ∃ P, r = .ok P ∧ x.toInt = opV b n 8 p2.toInt P ∧ R = opN b n 8 P) → Ex (K x g1 L1) Q) : Ex (cb (fX6_readOption_5_limit fu p1 p2 g L) K) Q := by
  have key : Ex (fX6_readOption_5_limit fu p1 p2 g L) (fun (x : Int32) g1 L1 => ST b n (bn r (opS b n 8 p1.toInt)) g1 ∧ FX [3, 4, 5, 6, 7, 8] [] g g1 ∧ (∀ R, bn r (opS b n 8 p1.toInt) = .ok R → ∃ P, r = .ok P ∧ x.toInt = opV b n 8 p2.toInt P ∧ R = opN b n 8 P)) := by
    unfold fX6_readOption_5_limit
    cases r with
    | error p => exact e_limitW hfu hs.1 (fun h => absurd h (xW_B hs.2.1 _)) (fun _ => Ex.ret ⟨hs, FX.refl, fun R hR => nomatch hR⟩)
    | ok P =>
      have hs : cX b n P g := hs
      refine e_limitW hfu hs.1 (fun hw => ?_) (fun hw => ?_)
      · have hw := (xW_isW hs _).mp hw
        refine x_adv hfu hs (fun g1 L1 k1 k2 => ?_)
        refine s_num (r := .ok (nx b n P)) hfu k1 (fun x g2 L2 m1 m2 vx => Ex.ret ⟨?_, (k2.mo (by decide) (by decide)).tr m2, fun R hR => ⟨P, rfl, ?_⟩⟩)
        · rw [bn_ok]; unfold opS; rw [wB_t hw]; exact m1
        · rw [bn_ok] at hR; unfold opS at hR; rw [wB_t hw, if_pos rfl] at hR
          have e := nuS_ok hR
          unfold opV opN
          rw [wB_t hw, if_pos rfl, if_pos rfl]
          exact ⟨vx _ rfl e.1, e.2⟩
      · have hw' := wB_f (fun h => hw ((xW_isW hs _).mpr h))
        refine Ex.ret ⟨?_, FX.refl, fun R hR => ⟨P, rfl, ?_⟩⟩
        · rw [bn_ok]; unfold opS; rw [hw']; exact hs
        · rw [bn_ok] at hR; unfold opS at hR; rw [hw', if_neg (by decide)] at hR
          cases hR
          unfold opV opN
          rw [hw', if_neg (by decide), if_neg (by decide)]
          exact ⟨rfl, rfl⟩
  exact Ex.cb key (fun x g1 L1 hq => h x g1 L1 hq.1 hq.2.1 hq.2.2)
theorem s_opt_maybe {p1 p2 : Int32} {K : Int32 → gT → lT → Option (ρ × zS)} (hfu : 1180591620717411303424 ≤ fu) (hs : ST b n r g) (h : ∀ (x : Int32) g1 L1, ST b n (bn r (opS b n 9 p1.toInt)) g1 → FX [3, 4, 5, 6, 7, 8] [] g g1 → (∀ R, bn r (opS b n 9 p1.toInt) = .ok R → ∃ P, r = .ok P ∧ x.toInt = opV b n 9 p2.toInt P ∧ R = opN b n 9 P) → Ex (K x g1 L1) Q) : Ex (cb (fX6_readOption_5_maybe fu p1 p2 g L) K) Q := by
  have key : Ex (fX6_readOption_5_maybe fu p1 p2 g L) (fun (x : Int32) g1 L1 => ST b n (bn r (opS b n 9 p1.toInt)) g1 ∧ FX [3, 4, 5, 6, 7, 8] [] g g1 ∧ (∀ R, bn r (opS b n 9 p1.toInt) = .ok R → ∃ P, r = .ok P ∧ x.toInt = opV b n 9 p2.toInt P ∧ R = opN b n 9 P)) := by
    unfold fX6_readOption_5_maybe
    cases r with
    | error p => exact e_maybeW hfu hs.1 (fun h => absurd h (xW_B hs.2.1 _)) (fun _ => Ex.ret ⟨hs, FX.refl, fun R hR => nomatch hR⟩)
    | ok P =>
      have hs : cX b n P g := hs
      refine e_maybeW hfu hs.1 (fun hw => ?_) (fun hw => ?_)
      · have hw := (xW_isW hs _).mp hw
        refine x_adv hfu hs (fun g1 L1 k1 k2 => ?_)
        refine s_num (r := .ok (nx b n P)) hfu k1 (fun x g2 L2 m1 m2 vx => Ex.ret ⟨?_, (k2.mo (by decide) (by decide)).tr m2, fun R hR => ⟨P, rfl, ?_⟩⟩)
        · rw [bn_ok]; unfold opS; rw [wB_t hw]; exact m1
        · rw [bn_ok] at hR; unfold opS at hR; rw [wB_t hw, if_pos rfl] at hR
          have e := nuS_ok hR
          unfold opV opN
          rw [wB_t hw, if_pos rfl, if_pos rfl]
          exact ⟨vx _ rfl e.1, e.2⟩
      · have hw' := wB_f (fun h => hw ((xW_isW hs _).mpr h))
        refine Ex.ret ⟨?_, FX.refl, fun R hR => ⟨P, rfl, ?_⟩⟩
        · rw [bn_ok]; unfold opS; rw [hw']; exact hs
        · rw [bn_ok] at hR; unfold opS at hR; rw [hw', if_neg (by decide)] at hR
          cases hR
          unfold opV opN
          rw [hw', if_neg (by decide), if_neg (by decide)]
          exact ⟨rfl, rfl⟩
  exact Ex.cb key (fun x g1 L1 hq => h x g1 L1 hq.1 hq.2.1 hq.2.2)
theorem s_opt_gap {p1 p2 : Int32} {K : Int32 → gT → lT → Option (ρ × zS)} (hfu : 1180591620717411303424 ≤ fu) (hs : ST b n r g) (h : ∀ (x : Int32) g1 L1, ST b n (bn r (opS b n 10 p1.toInt)) g1 → FX [3, 4, 5, 6, 7, 8] [] g g1 → (∀ R, bn r (opS b n 10 p1.toInt) = .ok R → ∃ P, r = .ok P ∧ x.toInt = opV b n 10 p2.toInt P ∧ R = opN b n 10 P) → Ex (K x g1 L1) Q) : Ex (cb (fX6_readOption_5_gap fu p1 p2 g L) K) Q := by
  have key : Ex (fX6_readOption_5_gap fu p1 p2 g L) (fun (x : Int32) g1 L1 => ST b n (bn r (opS b n 10 p1.toInt)) g1 ∧ FX [3, 4, 5, 6, 7, 8] [] g g1 ∧ (∀ R, bn r (opS b n 10 p1.toInt) = .ok R → ∃ P, r = .ok P ∧ x.toInt = opV b n 10 p2.toInt P ∧ R = opN b n 10 P)) := by
    unfold fX6_readOption_5_gap
    cases r with
    | error p => exact e_gapW hfu hs.1 (fun h => absurd h (xW_B hs.2.1 _)) (fun _ => Ex.ret ⟨hs, FX.refl, fun R hR => nomatch hR⟩)
    | ok P =>
      have hs : cX b n P g := hs
      refine e_gapW hfu hs.1 (fun hw => ?_) (fun hw => ?_)
      · have hw := (xW_isW hs _).mp hw
        refine x_adv hfu hs (fun g1 L1 k1 k2 => ?_)
        refine s_num (r := .ok (nx b n P)) hfu k1 (fun x g2 L2 m1 m2 vx => Ex.ret ⟨?_, (k2.mo (by decide) (by decide)).tr m2, fun R hR => ⟨P, rfl, ?_⟩⟩)
        · rw [bn_ok]; unfold opS; rw [wB_t hw]; exact m1
        · rw [bn_ok] at hR; unfold opS at hR; rw [wB_t hw, if_pos rfl] at hR
          have e := nuS_ok hR
          unfold opV opN
          rw [wB_t hw, if_pos rfl, if_pos rfl]
          exact ⟨vx _ rfl e.1, e.2⟩
      · have hw' := wB_f (fun h => hw ((xW_isW hs _).mpr h))
        refine Ex.ret ⟨?_, FX.refl, fun R hR => ⟨P, rfl, ?_⟩⟩
        · rw [bn_ok]; unfold opS; rw [hw']; exact hs
        · rw [bn_ok] at hR; unfold opS at hR; rw [hw', if_neg (by decide)] at hR
          cases hR
          unfold opV opN
          rw [hw', if_neg (by decide), if_neg (by decide)]
          exact ⟨rfl, rfl⟩
  exact Ex.cb key (fun x g1 L1 hq => h x g1 L1 hq.1 hq.2.1 hq.2.2)
end XLE
theorem zI.les {g : gT} {q j : Nat} {x : Int32} (hI : zI XT g) (h1 : 69 ≤ q) (h2 : q < 81) (hj : j ≠ 1) : zI XT (upd2 g q j x) := hI.updN (xt_lesN (by omega) h2 hj)
theorem KP.q {g g1 : gT} {A : List Nat} {q : Nat} (h : FX A [] g g1) (hq : q ≠ 5) : g1 q = g q := h.2 q hq (List.not_mem_nil)
/-- those waited for, in a lesson's cells -/
def wX (acc : List Int) (q : Nat) (g : gT) : Prop := (g q 1).toInt = (acc.length : Int) ∧ g q 2 = mW acc ∧ ∀ i (hi : i < acc.length), (g (q + 24) i).toInt = acc[i]
def waR (b : Nat → Int32) (n : Nat) (r : sR) : List Int × Nat := match r with
  | .error p => ([], p)
  | .ok P => waL b n 8 [] P
set_option maxHeartbeats 8000000 in
/-- those waited for -/
theorem s_waited {fu : Nat} (hfu : 1180591620717411303424 ≤ fu) {b : Nat → Int32} {n q : Nat} {g : gT} {L : lT} {r : sR} (hq1 : 69 ≤ q) (hq2 : q < 81) (hs : ST b n r g) (hl : (g 2 2).toInt ≤ 11) (h1 : (g q 1).toInt = 0) (h2 : g q 2 = 0) : Ex (fX6_readWaited_5_les fu q g L) (fun (_ : Unit) g1 L1 => ST b n (bn r (waS b n (g 2 2).toInt (g q 10).toInt 8 [])) g1 ∧ KP q g g1 ∧ (∀ j, j ≠ 1 → j ≠ 2 → g1 q j = g q j) ∧ (∀ R, bn r (waS b n (g 2 2).toInt (g q 10).toInt 8 []) = .ok R → R = (waR b n r).2 ∧ wX (waR b n r).1 q g1)) := by
  generalize hW : waR b n r = W
  generalize hR : bn r (waS b n (g 2 2).toInt (g q 10).toInt 8 []) = R
  unfold fX6_readWaited_5_les fX6_readWaited_5_les_l2
  have fin : ∀ (g' : gT) (L' : lT), ST b n R g' → KP q g g' → (∀ j, j ≠ 1 → j ≠ 2 → g' q j = g q j) → ((∃ p, R = .error p) ∨ (¬ (g' q 1).toInt < (g' q 10).toInt ∧ (g' q 1).toInt ≠ 0 ∧ (∀ R1, R = .ok R1 → R1 = W.2 ∧ wX W.1 q g'))) → Ex (fX6_readWaited_5_les_p102 fu q g' L') (fun (_ : Unit) g1 L1 => ST b n R g1 ∧ KP q g g1 ∧ (∀ j, j ≠ 1 → j ≠ 2 → g1 q j = g q j) ∧ (∀ R1, R = .ok R1 → R1 = W.2 ∧ wX W.1 q g1)) := by
    intro g' L' k1 k2 kj k3
    unfold fX6_readWaited_5_les_p102 fX6_readWaited_5_les_p119 fX6_readWaited_5_les_p131
    rcases k3 with ⟨p, rfl⟩ | ⟨k3, k4, k5⟩
    · have hk := k1.2.1
      refine Ex.ite (fun _ => ?_) (fun _ => x_refB hk ?_)
      · exact Ex.ite (fun _ => x_refB hk (Ex.ret ⟨k1, k2, kj, fun R1 h => nomatch h⟩)) (fun _ => Ex.ret ⟨k1, k2, kj, fun R1 h => nomatch h⟩)
      · exact Ex.ite (fun _ => x_refB hk (Ex.ret ⟨k1, k2, kj, fun R1 h => nomatch h⟩)) (fun _ => Ex.ret ⟨k1, k2, kj, fun R1 h => nomatch h⟩)
    · refine Ex.ite (fun _ => ?_) (fun c => absurd (icc_nle (m := (g' q 10).toInt) (n := (g' q 1).toInt) rfl rfl c) k3)
      exact Ex.ite (fun c => absurd (icc_eq (m := (g' q 1).toInt) (n := 0) rfl (by decide) c) k4) (fun _ => Ex.ret ⟨k1, k2, kj, k5⟩)
  refine Ex.loop (α := Int32 × gT × lT) (fun v => (0 ≤ v.1.toInt ∧ v.1.toInt ≤ 7) ∧ KP q g v.2.1 ∧ (∀ j, j ≠ 1 → j ≠ 2 → v.2.1 q j = g q j) ∧ ((∃ (acc : List Int) (P f : Nat), R = waS b n (g 2 2).toInt (g q 10).toInt f acc P ∧ W = waL b n f acc P ∧ wX acc q v.2.1 ∧ cX b n P v.2.1 ∧ (v.2.1 q 1).toInt = (acc.length : Int) ∧ v.2.1 q 10 = g q 10 ∧ bR (v.2.1 q 2) acc ∧ v.1.toInt = (acc.length : Int) ∧ acc.length ≤ 6 ∧ f + acc.length = 8) ∨ (∃ p, R = .error p ∧ bX p v.2.1))) (fun v => 8 - v.1.toInt) (by omega) (by show 8 - (0 : Int32).toInt < (fu : Int); have : (0 : Int32).toInt = 0 := rfl; omega) ⟨(show 0 ≤ (0 : Int32).toInt ∧ (0 : Int32).toInt ≤ 7 from by decide), KP.refl, fun _ _ _ => rfl, ?_⟩ (fun k2 v hv ih => ?_)
  · cases r with
    | error p => exact Or.inr ⟨p, hR.symm, hs⟩
    | ok P => exact Or.inl ⟨[], P, 8, hR.symm, hW.symm, ⟨h1, h2, fun i hi => absurd hi (Nat.not_lt_zero _)⟩, hs, h1, rfl, (show bR (g q 2) [] by rw [h2]; exact bR_0), rfl, by decide, rfl⟩
  obtain ⟨v2, g', L'⟩ := v
  obtain ⟨hv, hK, hJ, hI⟩ := hv
  have hv : 0 ≤ v2.toInt ∧ v2.toInt ≤ 7 := hv
  have hK : KP q g g' := hK
  have hJ : ∀ j, j ≠ 1 → j ≠ 2 → g' q j = g q j := hJ
  have hj5 : ∀ {A : List Nat} {ga gb : gT}, FX A [] ga gb → (∀ j, j ≠ 1 → j ≠ 2 → ga q j = g q j) → ∀ j, j ≠ 1 → j ≠ 2 → gb q j = g q j := fun hF h j a c => by rw [KP.q hF (show q ≠ 5 by omega)]; exact h j a c
  show Ex (fX6_readWaited_5_les_s2 fu q k2 v2 g' L') _
  unfold fX6_readWaited_5_les_s2
  rcases hI with ⟨acc, P, f, e1, eW, eX, e2, e3, e4, e5, e6, e7, e8⟩ | ⟨p, e1, e2⟩
  rotate_left
  · have e2 : bX p g' := e2
    have hk := e2.2.1
    have go := fin g' L' (by rw [e1]; exact e2) hK hJ (Or.inl ⟨p, e1⟩)
    refine Ex.ite (fun _ => go) (fun _ => ?_)
    exact Ex.ite (fun c => by have := icc_eq (m := (g' 5 4).toInt) (n := 1) rfl (by decide) c; omega) (fun _ => go)
  have e2 : cX b n P g' := e2
  have eX : wX acc q g' := eX
  have e3 : (g' q 1).toInt = (acc.length : Int) := e3
  have e4 : g' q 10 = g q 10 := e4
  have e5 : bR (g' q 2) acc := e5
  have e6 : v2.toInt = (acc.length : Int) := e6
  obtain ⟨f, rfl⟩ : ∃ f', f = f' + 1 := ⟨f - 1, by omega⟩
  unfold waS at e1
  unfold waL at eW
  obtain ⟨a1, a2, a3, a4, a5, a6, a7, a8, a9, a10, a11⟩ := id e2
  have q3 := a1 5 3 0 700 rfl
  have q5 := a1 5 5 0 700 rfl
  have q6 := a1 5 6 0 9999 rfl
  have g22 : (g' 2 2).toInt = (g 2 2).toInt := by rw [hK.1 2 (by decide) (by decide)]
  refine Ex.ite (fun c => by have := icc_lt (m := 6) (n := v2.toInt) (by decide) rfl c; omega) (fun _ => ?_)
  generalize hw : v2 + 1 = w
  have ew : w.toInt = v2.toInt + 1 := by rw [← hw]; exact ic_addc rfl (by decide) (by omega) (by omega)
  have badK : ∀ (wv : Int32) (K : Unit → gT → lT → Option (Unit × zS)), wv.toInt ≠ 0 → R = .error P → (∀ g1 L1, K () g1 L1 = k2 (w, g1, L1)) → Ex (cb (fX6_refuse_5 fu wv g' L') K) (fun (_ : Unit) g1 L1 => ST b n R g1 ∧ KP q g g1 ∧ (∀ j, j ≠ 1 → j ≠ 2 → g1 q j = g q j) ∧ (∀ R1, R = .ok R1 → R1 = W.2 ∧ wX W.1 q g1)) := by
    intro wv K hwv hRe hKK
    refine x_ref hwv e2 (fun g1 m1 m2 => ?_)
    rw [hKK]
    exact ih (w, g1, L') ⟨(show 0 ≤ w.toInt ∧ w.toInt ≤ 7 by omega), hK.tr (KP.x m2 (by decide) (by decide)), hj5 m2 hJ, Or.inr ⟨P, hRe, m1⟩⟩ (show 8 - w.toInt < 8 - v2.toInt by omega) (show 0 < 8 - v2.toInt by omega)
  refine Ex.ite (fun c1 => ?_) (fun c1 => ?_)
  rotate_left
  · have c1 := icc_neq (m := (g' 5 4).toInt) (n := 1) rfl (by decide) c1
    rw [if_neg (show ¬ tK b n P = 1 by omega)] at e1 eW
    by_cases h0 : acc.length = 0
    · rw [if_pos h0] at e1
      -- neither named: a fault here
      have hz : (g' q 1).toInt = 0 := by omega
      unfold fX6_readWaited_5_les_p102 fX6_readWaited_5_les_p119 fX6_readWaited_5_les_p131
      refine Ex.ite (fun _ => ?_) (fun _ => ?_)
      · refine Ex.ite (fun _ => ?_) (fun c => absurd hz (icc_neq (m := (g' q 1).toInt) (n := 0) rfl (by decide) c))
        exact x_ref (by decide) e2 (fun g1 m1 m2 => Ex.ret ⟨by rw [e1]; exact m1, hK.tr (KP.x m2 (by decide) (by decide)), hj5 m2 hJ, fun R1 h => by rw [e1] at h; exact nomatch h⟩)
      · refine x_ref (by decide) e2 (fun g1 m1 m2 => ?_)
        have hk1 := hK.tr (KP.x m2 (by decide) (by decide))
        exact Ex.ite (fun _ => x_refB m1.2.1 (Ex.ret ⟨by rw [e1]; exact m1, hk1, hj5 m2 hJ, fun R1 h => by rw [e1] at h; exact nomatch h⟩)) (fun _ => Ex.ret ⟨by rw [e1]; exact m1, hk1, hj5 m2 hJ, fun R1 h => by rw [e1] at h; exact nomatch h⟩)
    · rw [if_neg h0] at e1
      by_cases hsm : (acc.length : Int) < (g q 10).toInt
      · rw [if_pos hsm] at e1
        unfold fX6_readWaited_5_les_p102 fX6_readWaited_5_les_p119 fX6_readWaited_5_les_p131
        refine Ex.ite (fun c => ?_) (fun _ => ?_)
        · have c := icc_le (m := (g' q 10).toInt) (n := (g' q 1).toInt) rfl rfl c
          rw [e4] at c
          omega
        · refine x_ref (by decide) e2 (fun g1 m1 m2 => ?_)
          have hk1 := hK.tr (KP.x m2 (by decide) (by decide))
          exact Ex.ite (fun _ => x_refB m1.2.1 (Ex.ret ⟨by rw [e1]; exact m1, hk1, hj5 m2 hJ, fun R1 h => by rw [e1] at h; exact nomatch h⟩)) (fun _ => Ex.ret ⟨by rw [e1]; exact m1, hk1, hj5 m2 hJ, fun R1 h => by rw [e1] at h; exact nomatch h⟩)
      · rw [if_neg hsm] at e1
        exact fin g' L' (by rw [e1]; exact e2) hK hJ (Or.inr ⟨by rw [e4]; omega, by omega, fun R1 h => by rw [e1] at h; cases h; rw [eW]; exact ⟨rfl, eX⟩⟩)
  have c1 := icc_eq (m := (g' 5 4).toInt) (n := 1) rfl (by decide) c1
  rw [if_pos (show tK b n P = 1 by omega)] at e1 eW
  unfold fX6_isTooLong_5 fX6_isTooLong_5_p18 fX6_readWaited_5_les_p32 fX6_readWaited_5_les_p96
  rw [ckb0, ckb1, hw]
  have ez : ((g' 5 3) - (g' 5 5)).toInt = (g' 5 3).toInt - (g' 5 5).toInt := ic_subc rfl rfl (by omega) (by omega)
  by_cases c2 : (g' 5 3) - (g' 5 5) ≤ 4
  rotate_left
  · rw [if_neg c2]
    have c2 := icc_nle (m := ((g' 5 3) - (g' 5 5)).toInt) (n := 4) rfl (by decide) c2
    rw [if_neg (fun h => by have := h.1; omega)] at e1
    exact e_b1 (badK 2 _ (by decide) e1 (fun _ _ => rfl))
  rw [if_pos c2]
  have c2 := icc_le (m := ((g' 5 3) - (g' 5 5)).toInt) (n := 4) rfl (by decide) c2
  refine e_b0 ?_
  refine Ex.ite (fun c3 => ?_) (fun c3 => ?_)
  rotate_left
  · have c3 := icc_nlt (m := (g' q 1).toInt) (n := 6) rfl (by decide) c3
    rw [if_neg (fun h => by have := h.2; omega)] at e1
    exact badK 2 _ (by decide) e1 (fun _ _ => rfl)
  have c3 := icc_lt (m := (g' q 1).toInt) (n := 6) rfl (by decide) c3
  rw [if_pos ⟨by omega, by omega⟩] at e1
  refine Ex.ite (fun c4 => ?_) (fun c4 => ?_)
  rotate_left
  · have c4 := icc_nlt (m := (g' 5 6).toInt) (n := (g' 2 2).toInt) rfl rfl c4
    rw [if_neg (by omega)] at e1
    exact badK 3 _ (by decide) e1 (fun _ _ => rfl)
  have c4 := icc_lt (m := (g' 5 6).toInt) (n := (g' 2 2).toInt) rfl rfl c4
  rw [if_pos (by omega)] at e1
  have hbt := bR_t (k := g' 5 6) e5 (by omega) (by omega)
  rw [a9] at hbt
  refine Ex.ite (fun c5 => ?_) (fun c5 => ?_)
  rotate_left
  · rw [if_pos (Decidable.byContradiction (fun h => c5 (hbt.mpr h)))] at e1
    exact badK 4 _ (by decide) e1 (fun _ _ => rfl)
  rw [if_neg (hbt.mp c5)] at e1
  -- one more is named
  unfold fX5_waitFor_les fX5_waitFor_les_p41
  rw [if_neg (fun h => by have := icc_le (m := 6) (n := (g' q 1).toInt) (by decide) rfl h; omega), ck_eq (by omega) (by omega)]
  show Ex (cb (some ((), ((_, L') : zS))) _) _
  generalize hga : upd2 g' (q + 24) (g' q 1).toNatClampNeg (g' 5 6) = ga
  have hIa : zI XT ga := by rw [← hga]; exact a1.upd (xt_wai (by omega)) (by omega) (by omega)
  have sa : ST b n (.ok P) ga := by rw [← hga] at hIa ⊢; exact ST.u (r := .ok P) e2 hIa (by omega) (by omega)
  have ka : KP q g ga := by rw [← hga]; exact hK.u hq1 (Or.inr rfl)
  have aq : ga q = g' q := by rw [← hga]; exact funext fun i => upd2_nk (by omega)
  have ew1 : (ga q 1 + 1).toInt = (acc.length : Int) + 1 := by rw [aq]; exact ic_addc e3 (by decide) (by omega) (by omega)
  generalize hgb : upd2 ga q 1 (ga q 1 + 1) = gb
  have hIb : zI XT gb := by rw [← hgb]; exact hIa.upd (xt_les (by omega) hq2) (by omega) (by omega)
  have sb : ST b n (.ok P) gb := by rw [← hgb] at hIb ⊢; exact sa.u hIb (by omega) (by omega)
  have kb : KP q g gb := by rw [← hgb]; exact ka.u hq1 (Or.inl rfl)
  have b1 : (gb q 1).toInt = (acc.length : Int) + 1 := by rw [← hgb, upd2_at]; exact ew1
  have b2 : gb q 2 = g' q 2 := by rw [← hgb, upd2_nj (by decide), aq]
  have b10 : gb q 10 = g q 10 := by rw [← hgb, upd2_nj (by decide), aq]; exact e4
  generalize hgc : upd2 gb q 2 (gb q 2 ||| ((1 : Int32) <<< ((g' 5 6) &&& 31))) = gc
  have hIc : zI XT gc := by rw [← hgc]; exact hIb.les hq1 hq2 (by decide)
  have sc : ST b n (.ok P) gc := by rw [← hgc] at hIc ⊢; exact sb.u hIc (by omega) (by omega)
  have kc : KP q g gc := by rw [← hgc]; exact kb.u hq1 (Or.inl rfl)
  have c1' : (gc q 1).toInt = (acc.length : Int) + 1 := by rw [← hgc, upd2_nj (by decide)]; exact b1
  have c2' : gc q 2 = g' q 2 ||| ((1 : Int32) <<< ((g' 5 6) &&& 31)) := by rw [← hgc, upd2_at, b2]
  have c10' : gc q 10 = g q 10 := by rw [← hgc, upd2_nj (by decide)]; exact b10
  show Ex (cb (fX6_advance_5 fu gc L') (fun _ g1 L1 => k2 (w, g1, L1))) _
  refine x_adv hfu sc (fun gd Ld m1 m2 => ?_)
  have dq : gd q = gc q := KP.q m2 (by omega)
  have dw : gd (q + 24) = gc (q + 24) := KP.q m2 (by omega)
  have cj : ∀ j, j ≠ 1 → j ≠ 2 → gc q j = g q j := fun j a c => by rw [← hgc, upd2_nj c, ← hgb, upd2_nj a, aq]; exact hJ j a c
  have cw : gc (q + 24) = ga (q + 24) := by rw [← hgc, ← hgb]; exact funext fun i => by rw [upd2_nk (by omega), upd2_nk (by omega)]
  have eNl : (g' q 1).toNatClampNeg = acc.length := by rw [nc, e3]; omega
  refine ih (w, gd, Ld) ⟨(show 0 ≤ w.toInt ∧ w.toInt ≤ 7 by omega), kc.tr (KP.x m2 (by decide) (by decide)), hj5 m2 cj, Or.inl ⟨acc ++ [tV b n P], nx b n P, f, e1, eW, ⟨?_, ?_, ?_⟩, m1, ?_, ?_, ?_, ?_, ?_, ?_⟩⟩ (show 8 - w.toInt < 8 - v2.toInt by omega) (show 0 < 8 - v2.toInt by omega)
  · show (gd q 1).toInt = _
    rw [dq, c1', List.length_append]; rfl
  · show gd q 2 = _
    rw [dq, c2', ← a9, mW_ap, eX.2.1]
  · intro i hi
    show (gd (q + 24) i).toInt = _
    rw [dw, cw, ← hga, eNl]
    rw [List.length_append] at hi
    have hi : i < acc.length + 1 := hi
    by_cases hil : i < acc.length
    · rw [upd2_nj (by omega), List.getElem_append_left hil]; exact eX.2.2 i hil
    · obtain rfl : i = acc.length := by omega
      rw [upd2_at, List.getElem_append_right (Nat.le_refl _)]
      show (g' 5 6).toInt = [tV b n P][acc.length - acc.length]
      rw [a9]
      simp
  · show (gd q 1).toInt = _
    rw [dq, c1', List.length_append]; rfl
  · show gd q 10 = g q 10
    rw [dq]; exact c10'
  · show bR (gd q 2) _
    rw [dq, c2', ← a9]; exact bR_or e5 (by omega) (by omega)
  · show w.toInt = _
    rw [List.length_append]; show w.toInt = ((acc.length + 1 : Nat) : Int); omega
  · rw [List.length_append]; show acc.length + 1 ≤ 6; omega
  · rw [List.length_append]; show f + (acc.length + 1) = 8; omega
end
section
/-! ===== the class's lines ===== -/
theorem bn_as {r : sR} {k1 k2 : Nat → sR} : bn (bn r k1) k2 = bn r (fun P => bn (k1 P) k2) := by cases r <;> rfl
theorem bn_cg {r : sR} {k1 k2 : Nat → sR} (h : ∀ P, r = .ok P → k1 P = k2 P) : bn r k1 = bn r k2 := by
  cases r with
  | error p => rfl
  | ok P => exact h P rfl
/-- lessons' number may have grown -/
def K2 (q : Nat) (g g1 : gT) : Prop := (∀ k, k < 69 → k ≠ 5 → k ≠ 2 → g1 k = g k) ∧ (∀ j, j ≠ 2 → g1 2 j = g 2 j) ∧ g1 5 9 = g 5 9 ∧ g1 5 10 = g 5 10 ∧ (∀ k, 69 ≤ k → k ≠ q → k ≠ q + 24 → g1 k = g k)
theorem KP.k2 {q : Nat} {g g1 : gT} (h : KP q g g1) : K2 q g g1 := ⟨fun k a c _ => h.1 k a c, fun j _ => by rw [h.1 2 (by decide) (by decide)], h.2.1, h.2.2.1, h.2.2.2⟩
theorem K2.tr {q : Nat} {g g1 g2 : gT} (h1 : K2 q g g1) (h2 : K2 q g1 g2) : K2 q g g2 := ⟨fun k a c d => (h2.1 k a c d).trans (h1.1 k a c d), fun j hj => (h2.2.1 j hj).trans (h1.2.1 j hj), h2.2.2.1.trans h1.2.2.1, h2.2.2.2.1.trans h1.2.2.2.1, fun k a c d => (h2.2.2.2.2 k a c d).trans (h1.2.2.2.2 k a c d)⟩
theorem K2.refl {q : Nat} {g : gT} : K2 q g g := KP.refl.k2
theorem K2.b {q : Nat} {g : gT} {x : Int32} : K2 q g (upd2 g 2 2 x) := ⟨fun k _ _ h2 => funext fun i => upd2_nk h2, fun j hj => upd2_nj hj, rfl, rfl, fun k h _ _ => funext fun i => upd2_nk (by omega)⟩
set_option maxHeartbeats 4000000 in
theorem s_176 {fu : Nat} (hfu : 1180591620717411303424 ≤ fu) {b : Nat → Int32} {n q : Nat} {g : gT} {L : lT} {r : sR} (hq1 : 69 ≤ q) (hq2 : q < 81) (hs : ST b n r g) (hl : (g 2 2).toInt ≤ 11) : Ex (fX6_readLesson_5_p176 fu q g L) (fun (_ : Unit) g1 L1 => ST b n (bn r (ops b n)) g1 ∧ K2 q g g1 ∧ (g1 2 2).toInt = (g 2 2).toInt + 1 ∧ (∀ j, j < 11 → g1 q j = g q j) ∧ g1 (q + 24) = g (q + 24) ∧ (∀ R, bn r (ops b n) = .ok R → ∃ P, r = .ok P ∧ (g1 q 11).toInt = opV b n 8 99 P ∧ (g1 q 12).toInt = opV b n 9 10 (opN b n 8 P) ∧ (g1 q 13).toInt = opV b n 10 0 (opN b n 9 (opN b n 8 P)))) := by
  have q22 := hs.I 2 2 0 12 rfl
  unfold fX6_readLesson_5_p176
  refine s_opt_limit hfu hs (fun x1 g1 L1 s1 f1 o1 => ?_)
  refine Ex.sti (s1.I.les hq1 hq2 (by decide)) (fun g2 g2e i2 => ?_)
  have s2 : ST b n (bn r (opS b n 8 99)) g2 := by rw [g2e] at i2 ⊢; exact s1.u i2 (by omega) (by omega)
  have k2 : KP q g g2 := by rw [g2e]; exact (KP.x f1 (by decide) (by decide)).u hq1 (Or.inl rfl)
  refine s_opt_maybe hfu s2 (fun x3 g3 L3 s3 f3 o3 => ?_)
  refine Ex.sti (s3.I.les hq1 hq2 (by decide)) (fun g4 g4e i4 => ?_)
  have s4 : ST b n (bn (bn r (opS b n 8 99)) (opS b n 9 10)) g4 := by rw [g4e] at i4 ⊢; exact s3.u i4 (by omega) (by omega)
  have k4 : KP q g g4 := by rw [g4e]; exact (k2.tr (KP.x f3 (by decide) (by decide))).u hq1 (Or.inl rfl)
  refine s_opt_gap hfu s4 (fun x5 g5 L5 s5 f5 o5 => ?_)
  refine Ex.sti (s5.I.les hq1 hq2 (by decide)) (fun g6 g6e i6 => ?_)
  have s6 : ST b n (bn (bn (bn r (opS b n 8 99)) (opS b n 9 10)) (opS b n 10 30)) g6 := by rw [g6e] at i6 ⊢; exact s5.u i6 (by omega) (by omega)
  have k6 : KP q g g6 := by rw [g6e]; exact (k4.tr (KP.x f5 (by decide) (by decide))).u hq1 (Or.inl rfl)
  have e22 : g6 2 2 = g 2 2 := by rw [k6.1 2 (by decide) (by decide)]
  have ew : (g6 2 2 + 1).toInt = (g 2 2).toInt + 1 := by rw [e22]; exact ic_addc rfl (by decide) (by omega) (by omega)
  have j6 : ∀ j, j < 11 → g6 q j = g q j := fun j hj => by rw [g6e, upd2_nj (by omega), KP.q f5 (by omega), g4e, upd2_nj (by omega), KP.q f3 (by omega), g2e, upd2_nj (by omega), KP.q f1 (by omega)]
  have w6 : g6 (q + 24) = g (q + 24) := by
    have a2 : g2 (q + 24) = g1 (q + 24) := by rw [g2e]; exact funext fun i => upd2_nk (by omega)
    have a4 : g4 (q + 24) = g3 (q + 24) := by rw [g4e]; exact funext fun i => upd2_nk (by omega)
    have a6 : g6 (q + 24) = g5 (q + 24) := by rw [g6e]; exact funext fun i => upd2_nk (by omega)
    rw [a6, KP.q f5 (by omega), a4, KP.q f3 (by omega), a2, KP.q f1 (by omega)]
  have v13 : g6 q 13 = x5 := by rw [g6e]; exact upd2_at
  have v12 : g6 q 12 = x3 := by rw [g6e, upd2_nj (by decide), KP.q f5 (by omega), g4e]; exact upd2_at
  have v11 : g6 q 11 = x1 := by rw [g6e, upd2_nj (by decide), KP.q f5 (by omega), g4e, upd2_nj (by decide), KP.q f3 (by omega), g2e]; exact upd2_at
  refine Ex.sti (i6.upd (lo := 0) (hi := 12) rfl (by omega) (by omega)) (fun g7 g7e i7 => Ex.ret ⟨?_, ?_, ?_, fun j hj => ?_, ?_, fun R hR => ?_⟩)
  · have s7 : ST b n (bn (bn (bn r (opS b n 8 99)) (opS b n 9 10)) (opS b n 10 30)) g7 := by rw [g7e] at i7 ⊢; exact s6.u i7 (by decide) (by decide)
    rw [bn_as, bn_as] at s7
    exact s7
  · rw [g7e]; exact k6.k2.tr K2.b
  · rw [g7e, upd2_at]; exact ew
  · rw [g7e, upd2_nk (by omega)]; exact j6 j hj
  · rw [← w6, g7e]; exact funext fun i => upd2_nk (by omega)
  · have hR : bn (bn (bn r (opS b n 8 99)) (opS b n 9 10)) (opS b n 10 30) = .ok R := by rw [bn_as, bn_as]; exact hR
    obtain ⟨P3, a3, b3, -⟩ := o5 R hR
    obtain ⟨P2, a2, b2, c2⟩ := o3 P3 a3
    obtain ⟨P1, a1, b1, c1⟩ := o1 P2 a2
    refine ⟨P1, a1, ?_, ?_, ?_⟩
    · rw [g7e, upd2_nk (by omega), v11]; exact b1
    · rw [g7e, upd2_nk (by omega), v12, ← c1]; exact b2
    · rw [g7e, upd2_nk (by omega), v13, ← c1, ← c2]; exact b3
/-- what a line leaves alone: all but the plan that is being read, and the parser; and the first bound of the rules -/
def FL (g g1 : gT) : Prop := (∀ k, (k < 69 ∨ 81 ≤ k ∧ k < 93) → k ∉ [2, 4, 5, 22, 23] → g1 k = g k) ∧ g1 23 0 = g 23 0
theorem FL.refl {g : gT} : FL g g := ⟨fun _ _ _ => rfl, rfl⟩
theorem FL.tr {g g1 g2 : gT} (h1 : FL g g1) (h2 : FL g1 g2) : FL g g2 := ⟨fun k a c => (h2.1 k a c).trans (h1.1 k a c), h2.2.trans h1.2⟩
theorem FX.flc {g g1 : gT} {A B : List Nat} (h : FX A B g g1) (hB : ∀ k ∈ B, k ∈ [2, 4, 5, 22, 23]) (h0 : g1 23 0 = g 23 0) : FL g g1 := ⟨fun k _ c => h.2 k (fun e => c (by rw [e]; decide)) (fun hk => c (hB k hk)), h0⟩
theorem FX.fl {g g1 : gT} {A B : List Nat} (h : FX A B g g1) (hB : ∀ k ∈ B, k ∈ [2, 4, 5, 22]) : FL g g1 := h.flc (fun k hk => by
  have := hB k hk
  revert this
  simp only [List.mem_cons, List.not_mem_nil, or_false]
  omega) (by rw [h.2 23 (by decide) (fun hk => absurd (hB 23 hk) (by decide))])
theorem K2.fl {q : Nat} {g g1 : gT} (h : K2 q g g1) (h1 : 69 ≤ q) (h2 : q < 81) : FL g g1 := ⟨fun k a c => by
  rcases a with a | a
  · exact h.1 k a (fun e => c (by rw [e]; decide)) (fun e => c (by rw [e]; decide))
  · exact h.2.2.2.2 k (by omega) (by omega) (by omega), by rw [h.1 23 (by decide) (by decide) (by decide)]⟩
/-- a lesson's cells hold what its line tells -/
def LX (b : Nat → Int32) (n P q : Nat) (g : gT) : Prop := (∀ j, 3 ≤ j → j ≤ 13 → (g q j).toInt = leV b n P j) ∧ wX (leA b n P) q g
set_option maxHeartbeats 8000000 in
theorem s_lesson {fu : Nat} (hfu : 1180591620717411303424 ≤ fu) {b : Nat → Int32} {n P l : Nat} {g : gT} {L : lT} (hc : cX b n P g) (hl : (g 2 2).toInt = (l : Int)) : Ex (fX6_readLesson_5 fu g L) (fun (_ : Unit) g1 L1 => ST b n (if l < 12 then leS b n l P else .error P) g1 ∧ K2 (69 + l) g g1 ∧ (l < 12 → (g1 2 2).toInt = (l : Int) + 1) ∧ FL g g1 ∧ (∀ R, (if l < 12 then leS b n l P else .error P) = .ok R → LX b n P (69 + l) g1)) := by
  unfold fX6_readLesson_5
  refine Ex.ite (fun c => ?_) (fun c => ?_)
  rotate_left
  · have c := icc_nlt (m := (g 2 2).toInt) (n := 12) rfl (by decide) c
    rw [if_neg (by omega)]
    exact x_ref (by decide) hc (fun g1 k1 k2 => Ex.ret ⟨k1, (KP.x k2 (by decide) (by decide)).k2, fun h => by omega, k2.fl (by decide), fun R h => nomatch h⟩)
  have c := icc_lt (m := (g 2 2).toInt) (n := 12) rfl (by decide) c
  have hl12 : l < 12 := by omega
  rw [if_pos hl12]
  refine Ex.ck (by omega) (by omega) ?_
  refine Ex.ltn (fun q hq => ?_)
  have eq : q = 69 + l := by rw [hq, nc, hl]; omega
  rw [← eq]
  have hq1 : 69 ≤ q := by omega
  have hq2 : q < 81 := by omega
  clear hq
  -- a fresh lesson
  have hI := hc.1
  have e : fX5_clear_les fu q g L = some ((), (upd2 (upd2 (upd2 (upd2 g q 9 2) q 10 0) q 1 0) q 2 0, L)) := rfl
  rw [e]
  generalize hga : upd2 (upd2 (upd2 (upd2 g q 9 2) q 10 0) q 1 0) q 2 0 = ga
  have hIa : zI XT ga := by
    rw [← hga]
    exact (((hI.les hq1 hq2 (by decide)).les hq1 hq2 (by decide)).upd (xt_les (by omega) hq2) (by decide) (by decide)).les hq1 hq2 (by decide)
  have ka : KP q g ga := by rw [← hga]; exact (((KP.refl.u hq1 (Or.inl rfl)).u hq1 (Or.inl rfl)).u hq1 (Or.inl rfl)).u hq1 (Or.inl rfl)
  have sa : ST b n (.ok P) ga := by
    have hF : FX [] [q] g ga := by rw [← hga]; exact (((FX.refl.uk (by omega) (List.mem_singleton.mpr rfl)).uk (by omega) (List.mem_singleton.mpr rfl)).uk (by omega) (List.mem_singleton.mpr rfl)).uk (by omega) (List.mem_singleton.mpr rfl)
    exact hc.fr hIa hF (by decide) (by decide) (by decide) (by decide) (by decide) (by decide) (by decide) (fun h => by have := List.mem_singleton.mp h; omega)
  have a1 : (ga q 1).toInt = 0 := by rw [← hga, upd2_nj (by decide), upd2_at]; rfl
  have a2 : ga q 2 = 0 := by rw [← hga, upd2_at]
  have a10 : (ga q 10).toInt = 0 := by rw [← hga, upd2_nj (by decide), upd2_nj (by decide), upd2_at]; rfl
  have a9 : (ga q 9).toInt = 2 := by rw [← hga, upd2_nj (by decide), upd2_nj (by decide), upd2_nj (by decide), upd2_at]; rfl
  refine Ex.cb (P := fun (_ : Unit) g1 L1 => g1 = ga ∧ L1 = L) ⟨(), ga, L, rfl, rfl, rfl⟩ (fun _ gx Lx hx => ?_)
  rw [hx.1, hx.2]
  clear hx gx Lx
  refine s_adv hfu sa (fun gb Lb sb fb => ?_)
  rw [bn_ok] at sb
  have kb := ka.tr (KP.x fb (by decide) (by decide))
  have bq : gb q = ga q := KP.q fb (by omega)
  -- a number is read and stored
  have keep : ∀ {g1 g2 g3 : gT} {j : Nat} {x : Int32}, FX [3, 4, 5, 6, 7, 8] [] g1 g2 → g3 = upd2 g2 q j x → g3 q j = x ∧ ∀ i, i ≠ j → g3 q i = g1 q i := by
    intro g1 g2 g3 j x hf e
    rw [e]
    exact ⟨upd2_at, fun i hi => by rw [upd2_nj hi, KP.q hf (show q ≠ 5 by omega)]⟩
  refine s_num hfu sb (fun x1 g1 L1 s1 f1 v1 => ?_)
  rw [bn_ok] at s1
  have s1 : ST b n (nuS b n 0 999 (nx b n P)) g1 := s1
  refine Ex.sti (s1.I.les hq1 hq2 (by decide)) (fun g2 g2e i2 => ?_)
  have s2 : ST b n (nuS b n 0 999 (nx b n P)) g2 := by rw [g2e] at i2 ⊢; exact s1.u i2 (by omega) (by omega)
  have k2 : KP q g g2 := by rw [g2e]; exact (kb.tr (KP.x f1 (by decide) (by decide))).u hq1 (Or.inl rfl)
  have r2 := keep f1 g2e
  have e23 : g2 q 3 = x1 := by rw [g2e]; exact upd2_at
  rw [e23]
  refine s_num hfu s2 (fun x3 g3 L3 s3 f3 v3 => ?_)
  have s3 : ST b n (bn (nuS b n 0 999 (nx b n P)) (nuS b n (tV b n (nx b n P) + 1) 999)) g3 := by
    have e9 : bn (nuS b n 0 999 (nx b n P)) (nuS b n (tV b n (nx b n P) + 1) 999) = bn (nuS b n 0 999 (nx b n P)) (nuS b n (x1 + 1).toInt (999 : Int32).toInt) := by
      refine bn_cg (fun Q hQ => ?_)
      have hn : nuC b n 0 999 (nx b n P) := by
        by_cases h : nuC b n 0 999 (nx b n P)
        · exact h
        · unfold nuS at hQ; rw [nB_f h] at hQ; exact nomatch hQ
      have hv := v1 _ rfl hn
      have h1 := hn.2.2.1
      have h2 := hn.2.2.2
      rw [ic_addc hv (n := 1) (by decide) (by omega) (by omega)]
      rfl
    rw [e9]; exact s3
  clear s2 e23
  refine Ex.sti (s3.I.les hq1 hq2 (by decide)) (fun g4 g4e i4 => ?_)
  have s4 := by have := s3.u (k := q) (j := 4) (x := x3) (by rw [← g4e]; exact i4) (by omega) (by omega); rw [← g4e] at this; exact this
  have k4 : KP q g g4 := by rw [g4e]; exact (k2.tr (KP.x f3 (by decide) (by decide))).u hq1 (Or.inl rfl)
  have r4 := keep f3 g4e
  clear s3 g4e
  refine s_num hfu s4 (fun x5 g5 L5 s5 f5 v5 => ?_)
  refine Ex.sti (s5.I.les hq1 hq2 (by decide)) (fun g6 g6e i6 => ?_)
  have s6 := by have := s5.u (k := q) (j := 5) (x := x5) (by rw [← g6e]; exact i6) (by omega) (by omega); rw [← g6e] at this; exact this
  have k6 : KP q g g6 := by rw [g6e]; exact (k4.tr (KP.x f5 (by decide) (by decide))).u hq1 (Or.inl rfl)
  have r6 := keep f5 g6e
  clear s5 g6e
  refine s_num hfu s6 (fun x7 g7 L7 s7 f7 v7 => ?_)
  refine Ex.sti (s7.I.les hq1 hq2 (by decide)) (fun g8 g8e i8 => ?_)
  have s8 := by have := s7.u (k := q) (j := 6) (x := x7) (by rw [← g8e]; exact i8) (by omega) (by omega); rw [← g8e] at this; exact this
  have k8 : KP q g g8 := by rw [g8e]; exact (k6.tr (KP.x f7 (by decide) (by decide))).u hq1 (Or.inl rfl)
  have r8 := keep f7 g8e
  clear s7 g8e
  refine s_num hfu s8 (fun x9 g9 L9 s9 f9 v9 => ?_)
  refine Ex.sti (s9.I.les hq1 hq2 (by decide)) (fun h1 h1e i1 => ?_)
  have t1 := by have := s9.u (k := q) (j := 7) (x := x9) (by rw [← h1e]; exact i1) (by omega) (by omega); rw [← h1e] at this; exact this
  have m1 : KP q g h1 := by rw [h1e]; exact (k8.tr (KP.x f9 (by decide) (by decide))).u hq1 (Or.inl rfl)
  have u1 := keep f9 h1e
  clear s9 h1e
  refine s_num hfu t1 (fun x11 h2 L11 t2 f11 v11 => ?_)
  refine Ex.sti (t2.I.les hq1 hq2 (by decide)) (fun h3 h3e i3 => ?_)
  have t3 := by have := t2.u (k := q) (j := 8) (x := x11) (by rw [← h3e]; exact i3) (by omega) (by omega); rw [← h3e] at this; exact this
  have m3 : KP q g h3 := by rw [h3e]; exact (m1.tr (KP.x f11 (by decide) (by decide))).u hq1 (Or.inl rfl)
  have u3 := keep f11 h3e
  have V8 : h3 q 8 = x11 := u3.1
  have V7 : h3 q 7 = x9 := (u3.2 7 (by decide)).trans u1.1
  have V6 : h3 q 6 = x7 := (u3.2 6 (by decide)).trans ((u1.2 6 (by decide)).trans r8.1)
  have V5 : h3 q 5 = x5 := (u3.2 5 (by decide)).trans ((u1.2 5 (by decide)).trans ((r8.2 5 (by decide)).trans r6.1))
  have V4 : h3 q 4 = x3 := (u3.2 4 (by decide)).trans ((u1.2 4 (by decide)).trans ((r8.2 4 (by decide)).trans ((r6.2 4 (by decide)).trans r4.1)))
  have V3 : h3 q 3 = x1 := (u3.2 3 (by decide)).trans ((u1.2 3 (by decide)).trans ((r8.2 3 (by decide)).trans ((r6.2 3 (by decide)).trans ((r4.2 3 (by decide)).trans r2.1))))
  have VV : ∀ j, j ≠ 3 → j ≠ 4 → j ≠ 5 → j ≠ 6 → j ≠ 7 → j ≠ 8 → h3 q j = ga q j := fun j c3 c4 c5 c6 c7 c8 => (u3.2 j c8).trans ((u1.2 j c7).trans ((r8.2 j c6).trans ((r6.2 j c5).trans ((r4.2 j c4).trans ((r2.2 j c3).trans (by rw [bq]))))))
  replace u3 : h3 q 1 = ga q 1 ∧ h3 q 2 = ga q 2 ∧ h3 q 10 = ga q 10 ∧ h3 q 9 = ga q 9 := ⟨VV 1 (by decide) (by decide) (by decide) (by decide) (by decide) (by decide), VV 2 (by decide) (by decide) (by decide) (by decide) (by decide) (by decide), VV 10 (by decide) (by decide) (by decide) (by decide) (by decide) (by decide), VV 9 (by decide) (by decide) (by decide) (by decide) (by decide) (by decide)⟩
  clear VV r2 r4 r6 r8 u1
  clear t2 h3e
  -- the rest
  generalize hσ : bn (bn (bn (bn (bn (nuS b n 0 999 (nx b n P)) (nuS b n (tV b n (nx b n P) + 1) 999)) (nuS b n (Int32.toInt 1) (Int32.toInt 200))) (nuS b n (Int32.toInt 0) (Int32.toInt 60))) (nuS b n (Int32.toInt 0) (Int32.toInt 9))) (nuS b n (Int32.toInt 1) (Int32.toInt 99)) = σ at t3
  have num : ∀ Q, σ = .ok Q → Q = nxI b n 7 P ∧ x1.toInt = leV b n P 3 ∧ x3.toInt = leV b n P 4 ∧ x5.toInt = leV b n P 5 ∧ x7.toInt = leV b n P 6 ∧ x9.toInt = leV b n P 7 ∧ x11.toInt = leV b n P 8 := by
    intro Q hQ
    rw [← hσ] at hQ
    obtain ⟨P6, b6, c6, d6⟩ := nu_ok hQ (fun P' e h => v11 P' e h)
    obtain ⟨P5, b5, c5, d5⟩ := nu_ok b6 (fun P' e h => v9 P' e h)
    obtain ⟨P4, b4, c4, d4⟩ := nu_ok b5 (fun P' e h => v7 P' e h)
    obtain ⟨P3, b3, c3, d3⟩ := nu_ok b4 (fun P' e h => v5 P' e h)
    obtain ⟨P2, b2, c2⟩ := bn_inv b3
    have n1 := nuS_ok b2
    have n2 := nuS_ok c2
    have d1 := v1 _ rfl n1.1
    have d2 := v3 P2 b2 (by
      have e : (x1 + 1).toInt = tV b n (nx b n P) + 1 := by
        have h1 := n1.1.2.2.1
        have h2 := n1.1.2.2.2
        exact ic_addc d1 (by decide) (by omega) (by omega)
      rw [e]; exact n2.1)
    obtain rfl : P2 = nxI b n 2 P := n1.2
    obtain rfl : P3 = nxI b n 3 P := n2.2
    obtain rfl : P4 = nxI b n 4 P := c3
    obtain rfl : P5 = nxI b n 5 P := c4
    obtain rfl : P6 = nxI b n 6 P := c5
    exact ⟨c6, d1, d2, d3, d4, d5, d6⟩
  clear v1 v3 v5 v7 v9 v11
  have hle : leS b n (l : Int) P = bn σ (tlS b n (l : Int)) := by
    rw [← hσ, bn_as, bn_as, bn_as, bn_as, bn_as]; rfl
  rw [hle]
  have e22 : (h3 2 2).toInt = (l : Int) := by rw [m3.1 2 (by decide) (by decide)]; exact hl
  have tail : ∀ (r : sR) (g' : gT) (L' : lT), ST b n r g' → KP q g g' → (∀ R, r = .ok R → ∃ Q, σ = .ok Q ∧ R = (leL b n Q).2 ∧ (∀ j, 3 ≤ j → j ≤ 8 → g' q j = h3 q j) ∧ (g' q 9).toInt = leV b n P 9 ∧ (g' q 10).toInt = leV b n P 10 ∧ wX (leL b n Q).1 q g') → Ex (fX6_readLesson_5_p176 fu q g' L') (fun (_ : Unit) g1 L1 => ST b n (bn r (ops b n)) g1 ∧ K2 q g g1 ∧ (l < 12 → (g1 2 2).toInt = (l : Int) + 1) ∧ FL g g1 ∧ (∀ R, bn r (ops b n) = .ok R → LX b n P q g1)) := by
    intro r g' L' k1 k2 k3
    have e : (g' 2 2).toInt = (l : Int) := by rw [k2.1 2 (by decide) (by decide)]; exact hl
    refine (s_176 hfu hq1 hq2 k1 (by omega)).mono (fun _ g1 L1 hq => ⟨hq.1, k2.k2.tr hq.2.1, fun _ => by rw [hq.2.2.1, e], (k2.k2.tr hq.2.1).fl hq1 hq2, fun R hR => ?_⟩)
    obtain ⟨-, -, -, j1, w1, o1⟩ := hq
    obtain ⟨P', e1, o11, o12, o13⟩ := o1 R hR
    obtain ⟨Q, eQ, eR, y1, y9, y10, yw⟩ := k3 P' e1
    obtain ⟨eq7, n3, n4, n5, n6, n7, n8⟩ := num Q eQ
    subst eq7
    subst eR
    refine ⟨fun j hj1 hj2 => ?_, ?_⟩
    · rcases (by omega : j = 3 ∨ j = 4 ∨ j = 5 ∨ j = 6 ∨ j = 7 ∨ j = 8 ∨ j = 9 ∨ j = 10 ∨ j = 11 ∨ j = 12 ∨ j = 13) with rfl | rfl | rfl | rfl | rfl | rfl | rfl | rfl | rfl | rfl | rfl
      · rw [j1 3 (by decide), y1 3 (by decide) (by decide), V3]; exact n3
      · rw [j1 4 (by decide), y1 4 (by decide) (by decide), V4]; exact n4
      · rw [j1 5 (by decide), y1 5 (by decide) (by decide), V5]; exact n5
      · rw [j1 6 (by decide), y1 6 (by decide) (by decide), V6]; exact n6
      · rw [j1 7 (by decide), y1 7 (by decide) (by decide), V7]; exact n7
      · rw [j1 8 (by decide), y1 8 (by decide) (by decide), V8]; exact n8
      · rw [j1 9 (by decide)]; exact y9
      · rw [j1 10 (by decide)]; exact y10
      · exact o11
      · exact o12
      · exact o13
    · refine ⟨?_, ?_, fun i hi => ?_⟩
      · rw [j1 1 (by decide)]; exact yw.1
      · rw [j1 2 (by decide)]; exact yw.2.1
      · rw [w1]; exact yw.2.2 i hi
  cases σ with
  | error p =>
    have t3 : bX p h3 := t3
    refine e_allW hfu i3 (fun h => absurd h (xW_B t3.2.1 _)) (fun _ => ?_)
    exact e_someW hfu i3 (fun h => absurd h (xW_B t3.2.1 _)) (fun _ => tail (.error p) h3 L11 t3 m3 (fun R h => nomatch h))
  | ok Q =>
    have t3 : cX b n Q h3 := t3
    rw [bn_ok]
    unfold tlS
    have eq7 : Q = nxI b n 7 P := (num Q rfl).1
    refine e_allW hfu i3 (fun hw => ?_) (fun hw => ?_)
    · have hw := (xW_isW t3 _).mp hw
      rw [wB_t hw, if_pos rfl]
      refine x_adv hfu t3 (fun h4 L4 w1 w2 => ?_)
      refine Ex.sti (w1.1.les hq1 hq2 (by decide)) (fun h5 h5e i5 => ?_)
      have w5 : ST b n (.ok (nx b n Q)) h5 := by rw [h5e] at i5 ⊢; exact ST.u (r := .ok (nx b n Q)) w1 i5 (by omega) (by omega)
      have m5 : KP q g h5 := by rw [h5e]; exact (m3.tr (KP.x w2 (by decide) (by decide))).u hq1 (Or.inl rfl)
      have q4 : h4 q = h3 q := KP.q w2 (by omega)
      have y1 : (h5 q 1).toInt = 0 := by rw [h5e, upd2_nj (by decide), q4, u3.1]; exact a1
      have y2 : h5 q 2 = 0 := by rw [h5e, upd2_nj (by decide), q4, u3.2.1]; exact a2
      have y10 : (h5 q 10).toInt = 0 := by rw [h5e, upd2_nj (by decide), q4, u3.2.2.1]; exact a10
      have y9 : (h5 q 9).toInt = 0 := by rw [h5e, upd2_at]; rfl
      have yj : ∀ j, j ≠ 9 → h5 q j = h3 q j := fun j hj => by rw [h5e, upd2_nj hj, q4]
      have y22 : (h5 2 2).toInt = (l : Int) := by rw [m5.1 2 (by decide) (by decide)]; exact hl
      refine Ex.cb (s_waited hfu hq1 hq2 w5 (by omega) y1 y2) (fun _ h6 L6 hx => ?_)
      rw [bn_ok, y22, y10] at hx
      refine tail _ h6 L6 hx.1 (m5.tr hx.2.1) (fun R hR => ⟨Q, rfl, ?_⟩)
      have z := hx.2.2.2 R hR
      have e1 : leL b n Q = waL b n 8 [] (nx b n Q) := by unfold leL; rw [wB_t hw]; rfl
      rw [e1]
      refine ⟨z.1, fun j hj1 hj2 => ?_, ?_, ?_, z.2⟩
      · rw [hx.2.2.1 j (by omega) (by omega)]; exact yj j (by omega)
      · rw [hx.2.2.1 9 (by decide) (by decide), y9]; show 0 = if wB b n (nxI b n 7 P) 6 then _ else _; rw [← eq7, wB_t hw]; rfl
      · rw [hx.2.2.1 10 (by decide) (by decide), y10]; show 0 = if wB b n (nxI b n 7 P) 6 then _ else _; rw [← eq7, wB_t hw]; rfl
    have hw' : wB b n Q 6 = false := wB_f (fun h => hw ((xW_isW t3 _).mpr h))
    rw [hw', if_neg (by decide)]
    refine e_someW hfu i3 (fun hw2 => ?_) (fun hw2 => ?_)
    · have hw2 := (xW_isW t3 _).mp hw2
      rw [wB_t hw2, if_pos rfl]
      refine x_adv hfu t3 (fun h4 L4 w1 w2 => ?_)
      refine Ex.sti (w1.1.les hq1 hq2 (by decide)) (fun h5 h5e i5 => ?_)
      have w5 : ST b n (.ok (nx b n Q)) h5 := by rw [h5e] at i5 ⊢; exact ST.u (r := .ok (nx b n Q)) w1 i5 (by omega) (by omega)
      have m5 : KP q g h5 := by rw [h5e]; exact (m3.tr (KP.x w2 (by decide) (by decide))).u hq1 (Or.inl rfl)
      have q4 : h4 q = h3 q := KP.q w2 (by omega)
      have y1 : (h5 q 1).toInt = 0 := by rw [h5e, upd2_nj (by decide), q4, u3.1]; exact a1
      have y2 : h5 q 2 = 0 := by rw [h5e, upd2_nj (by decide), q4, u3.2.1]; exact a2
      refine s_num hfu w5 (fun x13 h6 L6 t6 f6 v6 => ?_)
      rw [bn_ok] at t6
      have t6 : ST b n (nuS b n 1 6 (nx b n Q)) h6 := t6
      refine Ex.sti (t6.I.les hq1 hq2 (by decide)) (fun h7 h7e i7 => ?_)
      have t7 : ST b n (nuS b n 1 6 (nx b n Q)) h7 := by rw [h7e] at i7 ⊢; exact t6.u i7 (by omega) (by omega)
      have m7 : KP q g h7 := by rw [h7e]; exact (m5.tr (KP.x f6 (by decide) (by decide))).u hq1 (Or.inl rfl)
      have q6 : h6 q = h5 q := KP.q f6 (by omega)
      have z1 : (h7 q 1).toInt = 0 := by rw [h7e, upd2_nj (by decide), q6]; exact y1
      have z2 : h7 q 2 = 0 := by rw [h7e, upd2_nj (by decide), q6]; exact y2
      have z10 : h7 q 10 = x13 := by rw [h7e]; exact upd2_at
      have z9 : (h7 q 9).toInt = 1 := by rw [h7e, upd2_nj (by decide), q6, h5e, upd2_at]; rfl
      have zj : ∀ j, j ≠ 9 → j ≠ 10 → h7 q j = h3 q j := fun j hj hj2 => by rw [h7e, upd2_nj hj2, q6, h5e, upd2_nj hj, q4]
      have z22 : (h7 2 2).toInt = (l : Int) := by rw [m7.1 2 (by decide) (by decide)]; exact hl
      refine Ex.cb (s_waited hfu hq1 hq2 t7 (by omega) z1 z2) (fun _ h8 L8 hx => ?_)
      rw [z22, z10] at hx
      have e9 : bn (nuS b n 1 6 (nx b n Q)) (waS b n (l : Int) x13.toInt 8 []) = bn (nuS b n 1 6 (nx b n Q)) (waS b n (l : Int) (tV b n (nx b n Q)) 8 []) := by
        refine bn_cg (fun Q' hQ' => ?_)
        have hn : nuC b n 1 6 (nx b n Q) := by
          by_cases h : nuC b n 1 6 (nx b n Q)
          · exact h
          · unfold nuS at hQ'; rw [nB_f h] at hQ'; exact nomatch hQ'
        rw [v6 _ rfl hn]
      rw [e9] at hx
      have k := tail _ h8 L8 hx.1 (m7.tr hx.2.1) (fun R hR => ⟨Q, rfl, by
        obtain ⟨P8, g8, -⟩ := bn_inv hR
        have n8 := nuS_ok g8
        have z := hx.2.2.2 R hR
        rw [g8] at z
        have z : R = (waL b n 8 [] P8).2 ∧ wX (waL b n 8 [] P8).1 q h8 := z
        rw [n8.2] at z
        have e1 : leL b n Q = waL b n 8 [] (nx b n (nx b n Q)) := by unfold leL; rw [hw', if_neg (by decide), wB_t hw2]; rfl
        rw [e1]
        refine ⟨z.1, fun j hj1 hj2 => ?_, ?_, ?_, z.2⟩
        · rw [hx.2.2.1 j (by omega) (by omega)]; exact zj j (by omega) (by omega)
        · rw [hx.2.2.1 9 (by decide) (by decide), z9]; show 1 = if wB b n (nxI b n 7 P) 6 then (0 : Int) else if wB b n (nxI b n 7 P) 7 then 1 else 2; rw [← eq7, hw', wB_t hw2]; rfl
        · rw [hx.2.2.1 10 (by decide) (by decide), z10, v6 _ rfl n8.1]; show _ = if wB b n (nxI b n 7 P) 6 then (0 : Int) else if wB b n (nxI b n 7 P) 7 then _ else 0; rw [← eq7, hw', wB_t hw2]; rfl⟩)
      rw [bn_as] at k
      exact k
    · have hw2' : wB b n Q 7 = false := wB_f (fun h => hw2 ((xW_isW t3 _).mpr h))
      rw [hw2', if_neg (by decide)]
      have k := tail (.ok Q) h3 L11 t3 m3 (fun R hR => ⟨Q, rfl, by
        cases hR
        have e1 : leL b n Q = ([], Q) := by unfold leL; rw [hw', if_neg (by decide), hw2', if_neg (by decide)]
        rw [e1]
        refine ⟨rfl, fun j _ _ => rfl, ?_, ?_, ?_, ?_, fun i hi => absurd hi (Nat.not_lt_zero _)⟩
        · rw [u3.2.2.2, a9]; show 2 = if wB b n (nxI b n 7 P) 6 then (0 : Int) else if wB b n (nxI b n 7 P) 7 then 1 else 2; rw [← eq7, hw', hw2']; rfl
        · rw [u3.2.2.1, a10]; show 0 = if wB b n (nxI b n 7 P) 6 then (0 : Int) else if wB b n (nxI b n 7 P) 7 then _ else 0; rw [← eq7, hw', hw2']; rfl
        · rw [u3.1]; exact a1
        · rw [u3.2.1]; exact a2⟩)
      rw [bn_ok] at k
      exact k
end
