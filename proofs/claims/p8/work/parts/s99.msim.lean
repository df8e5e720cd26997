/-! ===== the reference's expressions are the spec's ===== -/
def n2 (b : Nat → Int32) (n Q : Nat) : Prop := ¬ isS b n Q 42 ∧ ¬ isS b n Q 47
def n4 (b : Nat → Int32) (n Q : Nat) : Prop := n2 b n Q ∧ ¬ isS b n Q 43 ∧ ¬ isS b n Q 45
def xPre (b : Nat → Int32) (n lev P : Nat) : Prop := match lev with
  | 8 => n2 b n P
  | 10 => n4 b n P
  | 11 => n4 b n P ∧ ¬ isW b n P 14
  | _ => True
def xPost (b : Nat → Int32) (n lev Q : Nat) : Prop := match lev with
  | 1 => n2 b n Q
  | 7 => n2 b n Q
  | 2 => n4 b n Q
  | 8 => n4 b n Q
  | 3 => n4 b n Q
  | 4 => n4 b n Q
  | 5 => n4 b n Q ∧ ¬ isW b n Q 14
  | 10 => n4 b n Q ∧ ¬ isW b n Q 14
  | 6 => n4 b n Q ∧ ¬ isW b n Q 14 ∧ ¬ isW b n Q 15
  | 11 => n4 b n Q ∧ ¬ isW b n Q 14 ∧ ¬ isW b n Q 15
  | _ => True
theorem sB_n {b : Nat → Int32} {n P : Nat} {c : Int} (h : ¬ sB b n P c = true) : ¬ isS b n P c := fun h' => h (sB_t h')
theorem wB_n {b : Nat → Int32} {n P k : Nat} (h : ¬ wB b n P k = true) : ¬ isW b n P k := fun h' => h (wB_t h')
/-- what can't stand behind -/
theorem xs_post {b : Nat → Int32} {n : Nat} : ∀ (f lev d : Nat) (acc : List Int) (P : Nat) (c : List Int) (Q : Nat), xs b n f lev d acc P = .ok (c, Q) → xPre b n lev P → xPost b n lev Q := by
  intro f
  induction f with
  | zero => intro lev d acc P c Q h _; exact nomatch h
  | succ f ih =>
    intro lev d acc P c Q h hp
    match lev, h, hp with
    | 0, _, _ => exact trivial
    | 1, h, _ =>
      rw [xe_1] at h
      obtain ⟨c1, Q1, e1, e2⟩ := eb_inv h
      exact ih 7 d c1 Q1 c Q e2 trivial
    | 2, h, _ =>
      rw [xe_2] at h
      obtain ⟨c1, Q1, e1, e2⟩ := eb_inv h
      exact ih 8 d c1 Q1 c Q e2 (ih 1 d [] P c1 Q1 e1 trivial)
    | 3, h, _ =>
      rw [xe_3] at h
      obtain ⟨c1, Q1, e1, e2⟩ := eb_inv h
      split at e2
      · obtain ⟨c2, Q2, e3, e4⟩ := eb_inv e2
        cases e4
        exact ih 2 d [] _ c2 Q e3 trivial
      · split at e2
        · obtain ⟨c2, Q2, e3, e4⟩ := eb_inv e2
          cases e4
          exact ih 2 d [] _ c2 Q e3 trivial
        · cases e2
          exact ih 2 d [] P _ _ e1 trivial
    | 4, h, _ =>
      rw [xe_4] at h
      split at h
      · split at h
        · exact ih 4 d _ _ c Q h trivial
        · exact nomatch h
      · obtain ⟨c1, Q1, e1, e2⟩ := eb_inv h
        cases e2
        exact ih 3 d [] P c1 Q e1 trivial
    | 5, h, _ =>
      rw [xe_5] at h
      obtain ⟨c1, Q1, e1, e2⟩ := eb_inv h
      exact ih 10 d c1 Q1 c Q e2 (ih 4 d [] P c1 Q1 e1 trivial)
    | 6, h, _ =>
      rw [xe_6] at h
      split at h
      · obtain ⟨c1, Q1, e1, e2⟩ := eb_inv h
        exact ih 11 d c1 Q1 c Q e2 (ih 5 d [] P c1 Q1 e1 trivial)
      · exact nomatch h
    | 7, h, _ =>
      rw [xe_7] at h
      split at h
      · obtain ⟨c1, Q1, e1, e2⟩ := eb_inv h
        exact ih 7 d _ Q1 c Q e2 trivial
      · rename_i s1
        split at h
        · obtain ⟨c1, Q1, e1, e2⟩ := eb_inv h
          exact ih 7 d _ Q1 c Q e2 trivial
        · rename_i s2
          cases h
          exact ⟨sB_n s1, sB_n s2⟩
    | 8, h, hp =>
      rw [xe_8] at h
      split at h
      · obtain ⟨c1, Q1, e1, e2⟩ := eb_inv h
        exact ih 8 d _ Q1 c Q e2 (ih 1 d [] _ c1 Q1 e1 trivial)
      · rename_i s1
        split at h
        · obtain ⟨c1, Q1, e1, e2⟩ := eb_inv h
          exact ih 8 d _ Q1 c Q e2 (ih 1 d [] _ c1 Q1 e1 trivial)
        · rename_i s2
          cases h
          exact ⟨hp, sB_n s1, sB_n s2⟩
    | 9, h, _ => exact nomatch h
    | 10, h, hp =>
      rw [xe_10] at h
      split at h
      · obtain ⟨c1, Q1, e1, e2⟩ := eb_inv h
        exact ih 10 d _ Q1 c Q e2 (ih 4 d [] _ c1 Q1 e1 trivial)
      · rename_i s1
        cases h
        exact ⟨hp, wB_n s1⟩
    | 11, h, hp =>
      rw [xe_11] at h
      split at h
      · obtain ⟨c1, Q1, e1, e2⟩ := eb_inv h
        exact ih 11 d _ Q1 c Q e2 (ih 5 d [] _ c1 Q1 e1 trivial)
      · rename_i s1
        cases h
        exact ⟨hp.1, hp.2, wB_n s1⟩
    | lev + 12, h, _ => exact nomatch h
theorem cm.pn {b : Nat → Int32} {n P : Nat} {g : gT} (h : cm b n P g) : pN g := by
  obtain ⟨a1, a2, a3, a4, a5, a6, a7, a8, a9, a10, a11, a13, a14⟩ := h
  have hE := tE_le (b := b) a3
  refine ⟨by omega, by omega, fun hs => ?_⟩
  have : P < n := by
    by_cases c : P < n
    · exact c
    · rw [a7, tK_ge c] at hs; exact absurd rfl hs
  have := hE.2.2 this
  omega
theorem wrong_eq0 {fu : Nat} {b : Nat → Int32} {n P : Nat} {g : gT} {L : lT} {w : Int32} (hw : w.toInt ≠ 0) (hc : cm b n P g) : ∃ g1, fX12_wrong fu w g L = some ((), (g1, L)) ∧ bM P g1 ∧ Fr [19, 20] [] g g1 := by
  have hpn := hc.pn
  obtain ⟨a1, a2, a3, a4, a5, a6, a7, a8, a9, a10, a11, a13, a14⟩ := hc
  have hF : Fr [19, 20] [] g (upd2 (upd2 g 0 19 w) 0 20 (upd2 g 0 19 w 0 25)) := (Fr.refl.u0 (by decide)).u0 (by decide)
  refine ⟨_, ?_, ⟨(a1.updN rfl).updN rfl, hpn.fr hF (by decide) (by decide) (by decide) (by decide), ?_, ?_⟩, hF⟩
  · unfold fX12_wrong
    rw [if_pos (ic_eq.mpr (show (g 0 19).toInt = (0 : Int32).toInt from a13))]
    rfl
  · exact hw
  · rw [upd2_at]; exact a6
section SIM
variable (fu : Nat) (b : Nat → Int32) (n : Nat) (g0 : gT) (s : Nat)
def Oe (p : Nat) (Run : Option (Unit × zS)) : Prop := ∃ g1 L1, Run = some ((), (g1, L1)) ∧ bM p g1 ∧ XQ g0 s g1
def Ol (t : Int) (e0 w0 : List Int) (d : Nat) (g : gT) (r : xR) (Run : Option (Unit × zS)) : Prop := match r with
  | .error p => Oe g0 s p Run
  | .ok q => ∃ g1 L1 m, Run = Dl fu m g1 L1 ∧ mA b n g0 s q.2 d g1 L1 ∧ n + 2 ≤ m + q.2 ∧ (∀ j, j ≤ d + 1 → g1 28 j = g 28 j) ∧ PR s t e0 w0 q.1 g1
def Oh (t : Int) (e0 w0 : List Int) (d : Nat) (g : gT) (r : xR) (Run : Option (Unit × zS)) : Prop := match r with
  | .error p => Oe g0 s p Run
  | .ok q => ∃ g1 L1 m, Run = Dl fu m g1 L1 ∧ mA b n g0 s q.2 d g1 L1 ∧ n + 2 ≤ m + q.2 ∧ (∀ j, j ≤ d → g1 28 j = g 28 j) ∧ (isS b n q.2 60 ∨ isS b n q.2 61 → (g1 28 (d + 1)).toInt ≠ 0) ∧ PR s t e0 w0 q.1 g1
def th (lev : Nat) : Int := match lev with | 0 => 7 | 1 => 6 | 2 => 5 | 5 => 2 | _ => 1
def rk (lev : Nat) : Nat := match lev with | 0 => 1 | 1 => 3 | _ => 4
def SimP (f : Nat) : Prop :=
  (∀ lev, lev ≤ 2 → ∀ (e0 w0 : List Int) (d P m nn : Nat) (v2 : Int32) (g : gT) (L : lT), d ≤ 5 → mO b n g0 s P d g L → StR s e0 w0 g → lowW (th lev) w0 → n + 2 ≤ m + P → n + 2 ≤ nn + P → 16 * (n + 1 - P) + rk lev ≤ f → Ol fu b n g0 s (th lev) e0 w0 d g (xs b n f lev d [] P) (Zl fu m nn v2 g L))
  ∧ (∀ (e0 w0 : List Int) (d P m nn : Nat) (v2 : Int32) (g : gT) (L : lT), d ≤ 5 → mO b n g0 s P d g L → StR s e0 w0 g → lowW 4 w0 → (g 28 (d + 1)).toInt = 0 → n + 2 ≤ m + P → n + 2 ≤ nn + P → 16 * (n + 1 - P) + 5 ≤ f → Oh fu b n g0 s 4 e0 w0 d g (xs b n f 3 d [] P) (Zl fu m nn v2 g L))
  ∧ (∀ (e0 w0 : List Int) (d P m nn j : Nat) (v4 : Int32) (acc : List Int) (g : gT) (L : lT), d ≤ 5 → mO b n g0 s P d g L → acc = List.replicate acc.length (-15) → StR s e0 (List.replicate acc.length 3 ++ w0) g → lowW 3 w0 → (g 28 (d + 1)).toInt = 0 → v4.toInt = (acc.length : Int) → acc.length ≤ 6 → n + 2 ≤ m + P → n + 2 ≤ nn + P → n + 2 ≤ j + P → 16 * (n + 1 - P) + 6 ≤ f → Oh fu b n g0 s 3 e0 w0 d g (xs b n f 4 d acc P) (Nl fu m nn j v4 g L))
  ∧ (∀ lev, lev = 5 ∨ lev = 6 → ∀ (e0 w0 : List Int) (d P m nn : Nat) (g : gT) (L : lT), d ≤ 5 → mO b n g0 s P d g L → StR s e0 w0 g → lowW (th lev) w0 → (g 28 (d + 1)).toInt = 0 → n + 3 ≤ m + P → n + 2 ≤ nn + P → 16 * (n + 1 - P) + lev + 2 ≤ f → Oh fu b n g0 s (th lev) e0 w0 d g (xs b n f lev d [] P) (Cl fu m nn 1 g L))
  ∧ (∀ (e0 w0 : List Int) (d P m : Nat) (acc : List Int) (g : gT) (L : lT), d ≤ 5 → mA b n g0 s P d g L → PR s 6 e0 w0 acc g → lowW 6 w0 → n + 2 ≤ m + P → 16 * (n + 1 - P) + 2 ≤ f → Ol fu b n g0 s 6 e0 w0 d g (xs b n f 7 d acc P) (Dl fu m g L))
  ∧ (∀ (e0 w0 : List Int) (d P m : Nat) (acc : List Int) (g : gT) (L : lT), d ≤ 5 → mA b n g0 s P d g L → PR s 5 e0 w0 acc g → lowW 5 w0 → n2 b n P → n + 2 ≤ m + P → 16 * (n + 1 - P) + 2 ≤ f → Ol fu b n g0 s 5 e0 w0 d g (xs b n f 8 d acc P) (Dl fu m g L))
  ∧ (∀ (e0 w0 : List Int) (d P m : Nat) (acc : List Int) (g : gT) (L : lT), d ≤ 5 → mA b n g0 s P d g L → PR s 2 e0 w0 acc g → lowW 2 w0 → (isS b n P 60 ∨ isS b n P 61 → (g 28 (d + 1)).toInt ≠ 0) → n + 2 ≤ m + P → 16 * (n + 1 - P) + 2 ≤ f → Oh fu b n g0 s 2 e0 w0 d g (xs b n f 10 d acc P) (Dl fu m g L))
  ∧ (∀ (e0 w0 : List Int) (d P m : Nat) (acc : List Int) (g : gT) (L : lT), d ≤ 5 → mA b n g0 s P d g L → PR s 1 e0 w0 acc g → lowW 1 w0 → (isS b n P 60 ∨ isS b n P 61 → (g 28 (d + 1)).toInt ≠ 0) → n + 2 ≤ m + P → 16 * (n + 1 - P) + 2 ≤ f → Oh fu b n g0 s 1 e0 w0 d g (xs b n f 11 d acc P) (Dl fu m g L))
end SIM
theorem Ol.mo {fu : Nat} {b : Nat → Int32} {n s d : Nat} {t : Int} {e0 w0 : List Int} {g0 g g1 : gT} {r : xR} {Run : Option (Unit × zS)} (h : Ol fu b n g0 s t e0 w0 d g1 r Run) (he : ∀ j, j ≤ d + 1 → g1 28 j = g 28 j) : Ol fu b n g0 s t e0 w0 d g r Run := by
  cases r with
  | error p => exact h
  | ok q =>
    obtain ⟨g2, L2, m, h1, h2, h3, h4, h5⟩ := h
    exact ⟨g2, L2, m, h1, h2, h3, fun j hj => (h4 j hj).trans (he j hj), h5⟩
theorem Oh.mo {fu : Nat} {b : Nat → Int32} {n s d : Nat} {t : Int} {e0 w0 : List Int} {g0 g g1 : gT} {r : xR} {Run : Option (Unit × zS)} (h : Oh fu b n g0 s t e0 w0 d g1 r Run) (he : ∀ j, j ≤ d → g1 28 j = g 28 j) : Oh fu b n g0 s t e0 w0 d g r Run := by
  cases r with
  | error p => exact h
  | ok q =>
    obtain ⟨g2, L2, m, h1, h2, h3, h4, h5, h6⟩ := h
    exact ⟨g2, L2, m, h1, h2, h3, fun j hj => (h4 j hj).trans (he j hj), h5, h6⟩
/-- a change of the strength -/
theorem Oh.tt {fu : Nat} {b : Nat → Int32} {n s d : Nat} {t t' : Int} {e0 w0 : List Int} {g0 g : gT} {r : xR} {Run : Option (Unit × zS)} (h : Oh fu b n g0 s t e0 w0 d g r Run) (ht : t' ≤ t) : Oh fu b n g0 s t' e0 w0 d g r Run := by
  cases r with
  | error p => exact h
  | ok q =>
    obtain ⟨g2, L2, m, h1, h2, h3, h4, h5, h6⟩ := h
    exact ⟨g2, L2, m, h1, h2, h3, h4, h5, h6.mo ht⟩
theorem PR.of {s : Nat} {t : Int} {e0 w0 c : List Int} {g : gT} (h : StR s (e0 ++ enc c) w0 g) : PR s t e0 w0 c g := ⟨e0 ++ enc c, [], h, fun a ha => absurd ha (List.not_mem_nil), List.append_nil _⟩
theorem C_0' {fu : Nat} (hfu : 1180591620717411303424 ≤ fu) {nn : Nat} {g : gT} {L : lT} (hg : (g 0 19).toInt = 0) : Cl fu fu nn 0 g L = Zl fu (fu - 1) nn 0 g L := by
  have e : Cl fu fu nn 0 g L = Cl fu (fu - 1 + 1) nn 0 g L := congrArg (fun q => Cl fu q nn 0 g L) (show fu = fu - 1 + 1 by omega)
  rw [e]; exact C_0 hfu hg
theorem mO.g {b : Nat → Int32} {n s P d : Nat} {g0 g : gT} {L : lT} (h : mO b n g0 s P d g L) : (g 0 19).toInt = 0 := h.1.c.2.2.2.2.2.2.2.2.2.2.2.1
theorem mA.g {b : Nat → Int32} {n s P d : Nat} {g0 g : gT} {L : lT} (h : mA b n g0 s P d g L) : (g 0 19).toInt = 0 := h.1.c.2.2.2.2.2.2.2.2.2.2.2.1
/-- an expression that isn't closed -/
theorem p325_deep {fu : Nat} (hfu : 1180591620717411303424 ≤ fu) {b : Nat → Int32} {n s P d : Nat} {g0 g : gT} {L L' : lT} (h : mA b n g0 s P (d + 1) g L) : Oe g0 s P (fX12_expression_p325 fu g L') := by
  obtain ⟨hc, hx, hd⟩ := id h
  obtain ⟨ga, ea, hba, hFa⟩ := wrong_eq0 (fu := fu) (L := L') (w := 1) (by decide) hc.c
  have ha : xI g0 s 1 0 0 0 ga := hx.wrong hba.1 hFa hba.2.2.1
  obtain ⟨g1, L1, e, hq, hF, -⟩ := p345_eq hfu (L := L') ha
  refine ⟨g1, L1, ?_, hba.fr hq.1 hF (by decide) (by decide) (by decide) (by decide) (by decide) (by decide), hq⟩
  unfold fX12_expression_p325
  refine q_cb (good_eq h.g) (q_f (by decide) (q_f (fun h9 => ?_) (q_cb ea e)))
  have h9 := icc_le (m := (g 0 37).toInt) (n := 1) rfl (by decide) h9
  omega
theorem mA.le {b : Nat → Int32} {n s P d : Nat} {g0 g : gT} {L : lT} (h : mA b n g0 s P d g L) : P ≤ n := h.1.2.2.1
theorem mO.le {b : Nat → Int32} {n s P d : Nat} {g0 g : gT} {L : lT} (h : mO b n g0 s P d g L) : P ≤ n := h.1.2.2.1
set_option maxHeartbeats 8000000 in
theorem sim {fu : Nat} (hfu : 1180591620717411303424 ≤ fu) (b : Nat → Int32) (n : Nat) (hn7 : n ≤ 700) (g0 : gT) (s : Nat) : ∀ f, SimP fu b n g0 s f := by
  intro f
  induction f with
  | zero =>
    refine ⟨?_, ?_, ?_, ?_, ?_, ?_, ?_, ?_⟩
    · intro lev hl e0 w0 d P m nn v2 g L _ _ _ _ _ _ hf
      have : 1 ≤ rk lev := by rcases (by omega : lev = 0 ∨ lev = 1 ∨ lev = 2) with rfl | rfl | rfl <;> decide
      omega
    all_goals (intros; omega)
  | succ f ih =>
    obtain ⟨iZ, i3, i4, i56, i7, i8, i10, i11⟩ := ih
    -- a sequel: the sub-expression at Q is read from Z
    have subZ : ∀ (lev : Nat), lev ≤ 2 → ∀ (e0 w0 : List Int) (d Q m : Nat) (g : gT) (L : lT), d ≤ 5 → mO b n g0 s Q d g L → StR s e0 w0 g → lowW (th lev) w0 → n + 2 ≤ m + Q → 16 * (n + 1 - Q) + rk lev ≤ f → Ol fu b n g0 s (th lev) e0 w0 d g (xs b n f lev d [] Q) (Cl fu fu m 0 g L) := by
      intro lev hl e0 w0 d Q m g L hd h hst hlw hm hf
      rw [C_0' hfu h.g]
      exact iZ lev hl e0 w0 d Q (fu - 1) m 0 g L hd h hst hlw (by have := h.le; omega) hm hf
    refine ⟨?_, ?_, ?_, ?_, ?_, ?_, ?_, ?_⟩
    · -- part, product, sum
      intro lev hl e0 w0 d P m nn v2 g L hd h hst hlw hm hnn hf
      have hle := h.le
      have hn := nx_le (b := b) hle
      rcases (by omega : lev = 0 ∨ lev = 1 ∨ lev = 2) with rfl | rfl | rfl
      · obtain ⟨m, rfl⟩ : ∃ m', m = m' + 1 := ⟨m - 1, by omega⟩
        obtain ⟨nn, rfl⟩ : ∃ m', nn = m' + 1 := ⟨nn - 1, by omega⟩
        have hf : 16 * (n + 1 - P) + 1 ≤ f + 1 := hf
        by_cases s40 : isS b n P 40
        · have hlt := isS_lt s40
          have hnl := hn.2.2 hlt
          have hk := s40.1
          rw [xe_0, if_neg (by omega), if_neg (by omega), sB_t s40, if_pos rfl, if_pos hd]
          rcases Z_open hfu (m := m + 1) (nn := nn + 1) (v2 := v2) h s40 with ⟨h4, g1, L1, e1, y1, y2, y3, y4⟩ | ⟨h4, g1, L1, e1, y1, y2⟩
          · rw [e1]
            have k := i56 6 (Or.inr rfl) e0 (14 :: w0) (d + 1) (nx b n P) (m + 1) (nn + 1) g1 L1 (by omega) y1 (y4 _ _ hst) (Or.inl (by decide)) y2 (by omega) (by omega) (by omega)
            cases hxs : xs b n f 6 (d + 1) [] (nx b n P) with
            | error p => rw [hxs] at k; exact k
            | ok q =>
              rw [hxs] at k
              obtain ⟨g2, L2, m2, e2, z1, z2, z3, z4, e1', pd, z6, z7, z8⟩ := k
              have hpost := xs_post f 6 (d + 1) [] _ q.1 q.2 hxs trivial
              have z5 := z1.le
              have hn2 := nx_le (b := b) z5
              rw [eb_ok, e2]
              by_cases s41 : isS b n q.2 41
              · rw [sB_t s41, if_pos rfl]
                have := hn2.2.2 (isS_lt s41)
                obtain ⟨m2, rfl⟩ : ∃ m', m2 = m' + 1 := ⟨m2 - 1, by omega⟩
                obtain ⟨g3, L3, e3, w1, w2, w3⟩ := D_close hfu (m := m2) z1 s41
                have w4 := w3 e1' pd w0 z6 (z7.mo (by decide))
                rw [z8] at w4
                refine ⟨g3, L3, m2, e3, w1, ?_, fun j hj => ?_, PR.of w4⟩
                · show n + 2 ≤ m2 + nx b n q.2
                  omega
                · rw [w2, z3 j (by omega), y3 j (by omega)]
              · rw [sB_f s41, if_neg (by decide)]
                obtain ⟨m2, rfl⟩ : ∃ m', m2 = m' + 2 := ⟨m2 - 2, by omega⟩
                obtain ⟨⟨⟨p1, p2⟩, p3, p4⟩, p5, p6⟩ := hpost
                obtain ⟨L', e3⟩ := D_stop hfu (m := m2) z1 p5 p6 z4 p3 p4 p1 p2 (fun h9 => absurd h9 s41)
                rw [e3]
                exact p325_deep hfu z1
          · rw [e1]
            have e : xs b n f 6 (d + 1) [] (nx b n P) = .error (nx b n P) := by
              obtain ⟨f, rfl⟩ : ∃ f', f = f' + 1 := ⟨f - 1, by omega⟩
              rw [xe_6, if_neg (by omega)]
            rw [e, eb_er]
            exact C_bad hfu y1 y2
        · rcases Z_part hfu (m := m) (nn := nn) (v2 := v2) h s40 with ⟨hp, g1, L1, e1, y1, y2, y3⟩ | ⟨hp, g1, L1, e1, y1⟩
          · have e : ∃ c, xs b n (f + 1) 0 d [] P = .ok (c, nx b n P) ∧ P < n ∧ c = [paV b n P] := by
              rcases hp with ⟨k1, k2⟩ | ⟨k1, k2⟩
              · exact ⟨_, by rw [xe_0, if_pos k1, if_pos k2], tK_n0 (b := b) (by omega), by unfold paV; rw [if_pos k1]⟩
              · exact ⟨_, by rw [xe_0, if_neg (by omega), if_pos k1, if_pos k2], tK_n0 (b := b) (by omega), by unfold paV; rw [if_neg (by omega)]⟩
            obtain ⟨c, e, hlt, rfl⟩ := e
            have := hn.2.2 hlt
            rw [e]
            refine ⟨g1, L1, nn + 1, e1, y1, ?_, fun j _ => by rw [y2], PR.of (y3 _ _ hst)⟩
            show n + 2 ≤ nn + 1 + nx b n P
            omega
          · have e : xs b n (f + 1) 0 d [] P = .error P := by
              rw [xe_0]
              by_cases k1 : tK b n P = 1
              · rw [if_pos k1, if_neg (fun k2 => hp (Or.inl ⟨k1, k2⟩))]
              · rw [if_neg k1]
                by_cases k2 : tK b n P = 2
                · rw [if_pos k2, if_neg (fun k3 => hp (Or.inr ⟨k2, k3⟩))]
                · rw [if_neg k2, sB_f s40, if_neg (by decide)]
            rw [e]
            exact ⟨g1, L1, e1, y1⟩
      · -- product
        have hf : 16 * (n + 1 - P) + 3 ≤ f + 1 := hf
        rw [xe_1]
        have k := iZ 0 (by decide) e0 w0 d P m nn v2 g L hd h hst (lowW.mo (t := 6) hlw (by decide)) hm hnn (show 16 * (n + 1 - P) + 1 ≤ f by omega)
        cases hxs : xs b n f 0 d [] P with
        | error p => rw [hxs] at k; exact k
        | ok q =>
          rw [hxs] at k
          obtain ⟨g1, L1, m1, e1, y1, y2, y3, y4⟩ := k
          have hl := xs_len f 0 d [] P q.1 q.2 hle hxs (fun _ => rfl)
          rw [eb_ok, e1]
          exact (i7 e0 w0 d q.2 m1 q.1 g1 L1 hd y1 (PR.mo (t := 7) y4 (by decide)) hlw y2 (by omega)).mo y3
      · -- sum
        have hf : 16 * (n + 1 - P) + 4 ≤ f + 1 := hf
        rw [xe_2]
        have k := iZ 1 (by decide) e0 w0 d P m nn v2 g L hd h hst (lowW.mo (t := 5) hlw (by decide)) hm hnn (show 16 * (n + 1 - P) + 3 ≤ f by omega)
        cases hxs : xs b n f 1 d [] P with
        | error p => rw [hxs] at k; exact k
        | ok q =>
          rw [hxs] at k
          obtain ⟨g1, L1, m1, e1, y1, y2, y3, y4⟩ := k
          have hl := xs_len f 1 d [] P q.1 q.2 hle hxs (fun _ => rfl)
          have hpost := xs_post f 1 d [] P q.1 q.2 hxs trivial
          rw [eb_ok, e1]
          exact (i8 e0 w0 d q.2 m1 q.1 g1 L1 hd y1 (PR.mo (t := 6) y4 (by decide)) hlw hpost y2 (by omega)).mo y3
    · -- test
      intro e0 w0 d P m nn v2 g L hd h hst hlw ht hm hnn hf
      have hle := h.le
      rw [xe_3]
      have k := iZ 2 (by decide) e0 w0 d P m nn v2 g L hd h hst (lowW.mo (t := 4) hlw (by decide)) hm hnn (show 16 * (n + 1 - P) + 4 ≤ f by omega)
      cases hxs : xs b n f 2 d [] P with
      | error p => rw [hxs] at k; exact k
      | ok q =>
        rw [hxs] at k
        obtain ⟨g1, L1, m1, e1, y1, y2, y3, e1', pd, y6, y7, y8⟩ := k
        have hl := xs_len f 2 d [] P q.1 q.2 hle hxs (fun _ => rfl)
        have hn := nx_le (b := b) y1.le
        rw [eb_ok, e1]
        have more : ∀ op a : Int, ((isS b n q.2 60 ∧ a = 6) ∨ (isS b n q.2 61 ∧ a = 7)) → en1 op = [a] → Oh fu b n g0 s 4 e0 w0 d g (eb (xs b n f 2 d [] (nx b n q.2)) (fun c2 R => .ok (q.1 ++ c2 ++ [op], R))) (Dl fu m1 g1 L1) := by
          intro op a hs hop
          have hlt : q.2 < n := hs.elim (fun h => isS_lt h.1) (fun h => isS_lt h.1)
          have ha : stg a = 4 ∧ 3 ≤ a ∧ a ≤ 11 := by rcases hs with ⟨-, rfl⟩ | ⟨-, rfl⟩ <;> decide
          have hnl := hn.2.2 hlt
          obtain ⟨m1, rfl⟩ : ∃ m', m1 = m' + 1 := ⟨m1 - 1, by omega⟩
          obtain ⟨g2, L2, e2, z1, z2, z3, z4⟩ := D_cmp hfu (m := m1) y1 hs (by rw [y3 (d + 1) (Nat.le_refl _)]; exact ht)
          have z5 := z4 e1' pd w0 y6 (pOk.mo (t := 5) y7 (by decide)) hlw
          rw [y8] at z5
          rw [e2]
          have k := subZ 2 (by decide) (e0 ++ enc q.1) (a :: w0) d (nx b n q.2) m1 g2 L2 hd z1 z5 (Or.inr (show stg a < 5 by omega)) (by omega) (show 16 * (n + 1 - nx b n q.2) + 4 ≤ f by omega)
          cases hys : xs b n f 2 d [] (nx b n q.2) with
          | error p => rw [hys] at k; exact k
          | ok r =>
            rw [hys] at k
            obtain ⟨g3, L3, m3, e3, w1, w2, w3, w4⟩ := k
            refine ⟨g3, L3, m3, e3, w1, w2, fun j hj => ?_, fun _ => ?_, PR.op (t' := 5) w4 (by decide) ha.2.1 ha.2.2 (by omega) hop⟩
            · rw [w3 j (by omega), z3 j (by omega), y3 j (by omega)]
            · rw [w3 (d + 1) (Nat.le_refl _), z2]; decide
        rcases sB_d b n q.2 60 with ⟨s60, e60⟩ | ⟨s60, e60⟩
        · rw [e60, if_pos rfl]; exact more (-11) 6 (Or.inl ⟨s60, rfl⟩) rfl
        rcases sB_d b n q.2 61 with ⟨s61, e61⟩ | ⟨s61, e61⟩
        · rw [e60, e61, if_neg (by decide), if_pos rfl]; exact more (-12) 7 (Or.inr ⟨s61, rfl⟩) rfl
        rw [e60, e61, if_neg (by decide), if_neg (by decide)]
        exact ⟨g1, L1, m1, rfl, y1, y2, fun j hj => y3 j (by omega), fun h9 => absurd h9 (fun h9 => h9.elim s60 s61), e1', pd, y6, pOk.mo (t := 5) y7 (by decide), y8⟩
    · -- nots
      intro e0 w0 d P m nn j v4 acc g L hd h hrep hst hlw ht hv hacc hm hnn hj hf
      have hle := h.le
      have hn := nx_le (b := b) hle
      rw [xe_4]
      rcases wB_d b n P 16 with ⟨hw, ew⟩ | ⟨hw, ew⟩
      · have hnl := hn.2.2 (isW_lt hw)
        rw [ew, if_pos rfl]
        by_cases h6 : acc.length < 6
        · rw [if_pos h6]
          obtain ⟨j, rfl⟩ : ∃ m', j = m' + 1 := ⟨j - 1, by omega⟩
          obtain ⟨g1, L1, e1, y1, y2, y3⟩ := N_more hfu (m := m) (nn := nn) (j := j) (v4 := v4) h hw (by omega)
          have hrep' : (-15 :: acc : List Int) = List.replicate (-15 :: acc : List Int).length (-15) := by
            rw [List.length_cons, List.replicate_succ, ← hrep]
          have hst' : StR s e0 (List.replicate (-15 :: acc : List Int).length 3 ++ w0) g1 := by
            rw [List.length_cons, List.replicate_succ]; exact y3 _ _ hst
          rw [e1]
          have ev : (v4 + 1).toInt = ((-15 :: acc).length : Int) := by
            rw [ic_addc hv (n := 1) (by decide) (by omega) (by omega), List.length_cons]; omega
          exact (i4 e0 w0 d (nx b n P) m nn j (v4 + 1) (-15 :: acc) g1 L1 hd y1 hrep' hst' hlw (by rw [y2]; exact ht) ev (by rw [List.length_cons]; omega) (by omega) (by omega) (by omega) (by omega)).mo (fun j _ => by rw [y2])
        · rw [if_neg h6]
          obtain ⟨m, rfl⟩ : ∃ m', m = m' + 1 := ⟨m - 1, by omega⟩
          obtain ⟨nn, rfl⟩ : ∃ m', nn = m' + 1 := ⟨nn - 1, by omega⟩
          obtain ⟨j, rfl⟩ : ∃ m', j = m' + 2 := ⟨j - 2, by omega⟩
          exact N_bad hfu h hw (by omega)
      · rw [ew, if_neg (by decide)]
        obtain ⟨j, rfl⟩ : ∃ m', j = m' + 1 := ⟨j - 1, by omega⟩
        rw [N_stop hfu h.1 hw]
        have hlw' : lowW 4 (List.replicate acc.length 3 ++ w0) := by
          cases hn : acc.length with
          | zero => exact hlw.mo (by decide)
          | succ k => exact Or.inr (by decide)
        have k := i3 e0 (List.replicate acc.length 3 ++ w0) d P m nn 1 g L hd h hst hlw' ht hm hnn (by omega)
        cases hxs : xs b n f 3 d [] P with
        | error p => rw [hxs] at k; exact k
        | ok q =>
          rw [hxs] at k
          obtain ⟨g2, L2, m2, z1, z2, z3, z4, z5, e1', pd, z6, z7, z8⟩ := k
          refine ⟨g2, L2, m2, z1, z2, z3, z4, z5, e1', pd ++ List.replicate acc.length 3, by rw [List.append_assoc]; exact z6, fun x hx => ?_, ?_⟩
          · rcases List.mem_append.mp hx with hx | hx
            · exact z7.mo (by decide) x hx
            · rw [(List.mem_replicate.mp hx).2]; decide
          · have er : ∀ k : Nat, enc (List.replicate k (-15)) = List.replicate k 3 := by
              intro k
              induction k with
              | zero => rfl
              | succ k ih => rw [List.replicate_succ, List.replicate_succ]; show en1 (-15) ++ enc (List.replicate k (-15)) = _; rw [ih]; rfl
            have ea : enc acc = List.replicate acc.length 3 := by rw [← er, ← hrep]
            show e1' ++ (pd ++ List.replicate acc.length 3) = e0 ++ enc (q.1 ++ acc)
            rw [← List.append_assoc, z8, enc_ap, ea, List.append_assoc]
    · -- and, expression
      intro lev hl e0 w0 d P m nn g L hd h hst hlw ht hm hnn hf
      have hle := h.le
      rcases hl with rfl | rfl
      · rw [xe_5]
        obtain ⟨m, rfl⟩ : ∃ m', m = m' + 1 := ⟨m - 1, by omega⟩
        rw [C_1 h.g]
        have k := i4 e0 w0 d P m nn fu 0 [] g L hd h rfl hst (lowW.mo (t := 2) hlw (by decide)) ht rfl (by decide) (by omega) hnn (by omega) (by omega)
        cases hxs : xs b n f 4 d [] P with
        | error p => rw [hxs] at k; exact k
        | ok q =>
          rw [hxs] at k
          obtain ⟨g1, L1, m1, e1, y1, y2, y3, y4, y5⟩ := k
          have hl := xs_len f 4 d [] P q.1 q.2 hle hxs (fun _ => rfl)
          rw [eb_ok, e1]
          exact (i10 e0 w0 d q.2 m1 q.1 g1 L1 hd y1 (y5.mo (by decide)) hlw y4 y2 (by omega)).mo y3
      · rw [xe_6, if_pos hd]
        have k := i56 5 (Or.inl rfl) e0 w0 d P m nn g L hd h hst (lowW.mo (t := 1) hlw (by decide)) ht hm hnn (by omega)
        cases hxs : xs b n f 5 d [] P with
        | error p => rw [hxs] at k; exact k
        | ok q =>
          rw [hxs] at k
          obtain ⟨g1, L1, m1, e1, y1, y2, y3, y4, y5⟩ := k
          have hl := xs_len f 5 d [] P q.1 q.2 hle hxs (fun _ => rfl)
          rw [eb_ok, e1]
          exact (i11 e0 w0 d q.2 m1 q.1 g1 L1 hd y1 (PR.mo (t := 2) y5 (by decide)) hlw y4 y2 (by omega)).mo y3
    · -- more of a product
      intro e0 w0 d P m acc g L hd h hpr hlw hm hf
      have hle := h.le
      have hn := nx_le (b := b) hle
      have more : ∀ op a : Int, ((isS b n P 42 ∧ a = 10) ∨ (isS b n P 47 ∧ a = 11)) → en1 op = [a] → Ol fu b n g0 s 6 e0 w0 d g (eb (xs b n f 0 d [] (nx b n P)) (fun c Q => xs b n f 7 d (acc ++ c ++ [op]) Q)) (Dl fu m g L) := by
        intro op a hs hop
        have hnl := hn.2.2 (hs.elim (fun h => isS_lt h.1) (fun h => isS_lt h.1))
        have ha : stg a = 6 ∧ 3 ≤ a ∧ a ≤ 11 := by rcases hs with ⟨-, rfl⟩ | ⟨-, rfl⟩ <;> decide
        obtain ⟨m, rfl⟩ : ∃ m', m = m' + 1 := ⟨m - 1, by omega⟩
        obtain ⟨g1, L1, e1, y1, y2, y3⟩ := D_op hfu (m := m) (t := 6) (a := a) h (Or.inr (Or.inr (hs.elim (fun h => Or.inl ⟨h.1, rfl, h.2⟩) (fun h => Or.inr ⟨h.1, rfl, h.2⟩))))
        obtain ⟨e1', pd, x1, x2, x3⟩ := hpr
        have y4 := y3 e1' pd w0 x1 x2 hlw
        rw [x3] at y4
        rw [e1]
        have k := subZ 0 (by decide) (e0 ++ enc acc) (a :: w0) d (nx b n P) m g1 L1 hd y1 y4 (Or.inr (show stg a < 7 by omega)) (by omega) (show 16 * (n + 1 - nx b n P) + 1 ≤ f by omega)
        cases hxs : xs b n f 0 d [] (nx b n P) with
        | error p => rw [hxs] at k; exact k
        | ok q =>
          rw [hxs] at k
          obtain ⟨g2, L2, m2, e2, z1, z2, z3, z4⟩ := k
          have hl := xs_len f 0 d [] (nx b n P) q.1 q.2 hn.2.1 hxs (fun _ => rfl)
          rw [eb_ok, e2]
          exact (i7 e0 w0 d q.2 m2 _ g2 L2 hd z1 (PR.op (t' := 7) z4 (by decide) ha.2.1 ha.2.2 (by omega) hop) hlw z2 (by omega)).mo (fun j hj => by rw [z3 j hj, y2])
      rw [xe_7]
      rcases sB_d b n P 42 with ⟨s1, e1⟩ | ⟨s1, e1⟩
      · rw [e1, if_pos rfl]; exact more (-9) 10 (Or.inl ⟨s1, rfl⟩) rfl
      rcases sB_d b n P 47 with ⟨s2, e2⟩ | ⟨s2, e2⟩
      · rw [e1, e2, if_neg (by decide), if_pos rfl]; exact more (-10) 11 (Or.inr ⟨s2, rfl⟩) rfl
      rw [e1, e2, if_neg (by decide), if_neg (by decide)]
      exact ⟨g, L, m, rfl, h, hm, fun j _ => rfl, hpr⟩
    · -- more of a sum
      intro e0 w0 d P m acc g L hd h hpr hlw hp hm hf
      have hle := h.le
      have hn := nx_le (b := b) hle
      have more : ∀ op a : Int, ((isS b n P 43 ∧ a = 8) ∨ (isS b n P 45 ∧ a = 9)) → en1 op = [a] → Ol fu b n g0 s 5 e0 w0 d g (eb (xs b n f 1 d [] (nx b n P)) (fun c Q => xs b n f 8 d (acc ++ c ++ [op]) Q)) (Dl fu m g L) := by
        intro op a hs hop
        have hnl := hn.2.2 (hs.elim (fun h => isS_lt h.1) (fun h => isS_lt h.1))
        have ha : stg a = 5 ∧ 3 ≤ a ∧ a ≤ 11 := by rcases hs with ⟨-, rfl⟩ | ⟨-, rfl⟩ <;> decide
        obtain ⟨m, rfl⟩ : ∃ m', m = m' + 1 := ⟨m - 1, by omega⟩
        obtain ⟨g1, L1, e1, y1, y2, y3⟩ := D_op hfu (m := m) (t := 5) (a := a) h (hs.elim (fun h => Or.inl ⟨h.1, rfl, h.2⟩) (fun h => Or.inr (Or.inl ⟨h.1, rfl, h.2⟩)))
        obtain ⟨e1', pd, x1, x2, x3⟩ := hpr
        have y4 := y3 e1' pd w0 x1 x2 hlw
        rw [x3] at y4
        rw [e1]
        have k := subZ 1 (by decide) (e0 ++ enc acc) (a :: w0) d (nx b n P) m g1 L1 hd y1 y4 (Or.inr (show stg a < 6 by omega)) (by omega) (show 16 * (n + 1 - nx b n P) + 3 ≤ f by omega)
        cases hxs : xs b n f 1 d [] (nx b n P) with
        | error p => rw [hxs] at k; exact k
        | ok q =>
          rw [hxs] at k
          obtain ⟨g2, L2, m2, e2, z1, z2, z3, z4⟩ := k
          have hl := xs_len f 1 d [] (nx b n P) q.1 q.2 hn.2.1 hxs (fun _ => rfl)
          have hpost := xs_post f 1 d [] _ q.1 q.2 hxs trivial
          rw [eb_ok, e2]
          exact (i8 e0 w0 d q.2 m2 _ g2 L2 hd z1 (PR.op (t' := 6) z4 (by decide) ha.2.1 ha.2.2 (by omega) hop) hlw hpost z2 (by omega)).mo (fun j hj => by rw [z3 j hj, y2])
      rw [xe_8]
      rcases sB_d b n P 43 with ⟨s1, e1⟩ | ⟨s1, e1⟩
      · rw [e1, if_pos rfl]; exact more (-7) 8 (Or.inl ⟨s1, rfl⟩) rfl
      rcases sB_d b n P 45 with ⟨s2, e2⟩ | ⟨s2, e2⟩
      · rw [e1, e2, if_neg (by decide), if_pos rfl]; exact more (-8) 9 (Or.inr ⟨s2, rfl⟩) rfl
      rw [e1, e2, if_neg (by decide), if_neg (by decide)]
      exact ⟨g, L, m, rfl, h, hm, fun j _ => rfl, hpr⟩
    · -- more of and
      intro e0 w0 d P m acc g L hd h hpr hlw ht hm hf
      have hle := h.le
      have hn := nx_le (b := b) hle
      rw [xe_10]
      rcases wB_d b n P 14 with ⟨s1, e1⟩ | ⟨s1, e1⟩
      · rw [e1, if_pos rfl]
        have hnl := hn.2.2 (isW_lt s1)
        obtain ⟨m, rfl⟩ : ∃ m', m = m' + 1 := ⟨m - 1, by omega⟩
        obtain ⟨g1, L1, e2, y1, y2, y3, y4⟩ := D_wrd hfu (m := m) (t := 2) (a := 4) h (Or.inl ⟨s1, rfl, rfl⟩)
        obtain ⟨e1', pd, x1, x2, x3⟩ := hpr
        have y5 := y4 e1' pd w0 x1 x2 hlw
        rw [x3] at y5
        rw [e2]
        have eC : Cl fu fu m 1 g1 L1 = Nl fu (fu - 1) m fu 0 g1 L1 := by
          have e : Cl fu fu m 1 g1 L1 = Cl fu (fu - 1 + 1) m 1 g1 L1 := congrArg (fun q => Cl fu q m 1 g1 L1) (show fu = fu - 1 + 1 by omega)
          rw [e]; exact C_1 y1.g
        rw [eC]
        have k := i4 (e0 ++ enc acc) (4 :: w0) d (nx b n P) (fu - 1) m fu 0 [] g1 L1 hd y1 rfl y5 (Or.inr (by decide)) y2 rfl (by decide) (by omega) (by omega) (by omega) (by omega)
        cases hxs : xs b n f 4 d [] (nx b n P) with
        | error p => rw [hxs] at k; exact k
        | ok q =>
          rw [hxs] at k
          obtain ⟨g2, L2, m2, e3, z1, z2, z3, z4, z5⟩ := k
          have hl := xs_len f 4 d [] (nx b n P) q.1 q.2 hn.2.1 hxs (fun _ => rfl)
          rw [eb_ok, e3]
          exact (i10 e0 w0 d q.2 m2 _ g2 L2 hd z1 (PR.op (t' := 3) z5 (by decide) (by decide) (by decide) (by decide) rfl) hlw z4 z2 (by omega)).mo (fun j hj => by rw [z3 j hj, y3 j (by omega)])
      · rw [e1, if_neg (by decide)]
        exact ⟨g, L, m, rfl, h, hm, fun j _ => rfl, ht, hpr⟩
    · -- more of or
      intro e0 w0 d P m acc g L hd h hpr hlw ht hm hf
      have hle := h.le
      have hn := nx_le (b := b) hle
      rw [xe_11]
      rcases wB_d b n P 15 with ⟨s1, e1⟩ | ⟨s1, e1⟩
      · rw [e1, if_pos rfl]
        have hnl := hn.2.2 (isW_lt s1)
        obtain ⟨m, rfl⟩ : ∃ m', m = m' + 1 := ⟨m - 1, by omega⟩
        obtain ⟨g1, L1, e2, y1, y2, y3, y4⟩ := D_wrd hfu (m := m) (t := 1) (a := 5) h (Or.inr ⟨s1, rfl, rfl⟩)
        obtain ⟨e1', pd, x1, x2, x3⟩ := hpr
        have y5 := y4 e1' pd w0 x1 x2 hlw
        rw [x3] at y5
        rw [e2]
        have k := i56 5 (Or.inl rfl) (e0 ++ enc acc) (5 :: w0) d (nx b n P) fu m g1 L1 hd y1 y5 (Or.inr (by decide)) y2 (by omega) (by omega) (by omega)
        cases hxs : xs b n f 5 d [] (nx b n P) with
        | error p => rw [hxs] at k; exact k
        | ok q =>
          rw [hxs] at k
          obtain ⟨g2, L2, m2, e3, z1, z2, z3, z4, z5⟩ := k
          have hl := xs_len f 5 d [] (nx b n P) q.1 q.2 hn.2.1 hxs (fun _ => rfl)
          rw [eb_ok, e3]
          exact (i11 e0 w0 d q.2 m2 _ g2 L2 hd z1 (PR.op (t' := 2) z5 (by decide) (by decide) (by decide) (by decide) rfl) hlw z4 z2 (by omega)).mo (fun j hj => by rw [z3 j hj, y3 j (by omega)])
      · rw [e1, if_neg (by decide)]
        exact ⟨g, L, m, rfl, h, hm, fun j _ => rfl, ht, hpr⟩
