/-! ===== the reference's lessons are the spec's ===== -/
/-- the reference, the word aside -/
def Sm (b : Nat → Int32) (n : Nat) (r : sR) (g : gT) : Prop := match r with
  | .error p => bM p g
  | .ok P => cm b n P g
theorem SM.m {b : Nat → Int32} {n : Nat} {r : sR} {g : gT} {L : lT} (h : SM b n r g L) : Sm b n r g := by
  cases r with
  | error p => exact h
  | ok P => exact h.c
theorem SM.I {b : Nat → Int32} {n : Nat} {r : sR} {g : gT} {L : lT} (h : SM b n r g L) : zI MT g := by
  cases r with
  | error p => exact h.1
  | ok P => exact h.1
theorem SM.u {b : Nat → Int32} {n : Nat} {r : sR} {g : gT} {L : lT} {k j : Nat} {x : Int32} (h : SM b n r g L) (hI : zI MT (upd2 g k j x)) (h0 : k ≠ 0) (h13 : k ≠ 13) : SM b n r (upd2 g k j x) L := by
  have hF : Fr [] [k] g (upd2 g k j x) := Fr.refl.uk h0 (List.mem_singleton.mpr rfl)
  have m : 13 ∉ [k] := fun h => h13 (List.mem_singleton.mp h).symm
  cases r with
  | error p => exact h.fr hI hF (by decide) (by decide) (by decide) (by decide) (by decide) (by decide)
  | ok P => exact h.fr hI hF (by decide) (by decide) (by decide) (by decide) (by decide) (by decide) (by decide) (by decide) (by decide) m
theorem SM.u0 {b : Nat → Int32} {n : Nat} {r : sR} {g : gT} {L : lT} {j : Nat} {x : Int32} (h : SM b n r g L) (hI : zI MT (upd2 g 0 j x)) (hj : 29 ≤ j) : SM b n r (upd2 g 0 j x) L := by
  have hF : Fr [j] [] g (upd2 g 0 j x) := Fr.refl.u0 (List.mem_singleton.mpr rfl)
  have m : ∀ i, i < 29 → i ∉ [j] := fun i hi h => by have := List.mem_singleton.mp h; omega
  cases r with
  | error p => exact h.fr hI hF (m 19 (by decide)) (m 20 (by decide)) (m 22 (by decide)) (m 23 (by decide)) (m 24 (by decide)) (m 25 (by decide))
  | ok P => exact h.fr hI hF (m 19 (by decide)) (m 20 (by decide)) (m 22 (by decide)) (m 23 (by decide)) (m 24 (by decide)) (m 25 (by decide)) (m 26 (by decide)) (m 27 (by decide)) (m 28 (by decide)) (List.not_mem_nil)
theorem isW_k {b : Nat → Int32} {n P k : Nat} {x : Int32} (hk : k < 17) (hx : (∃ k : Nat, k < 17 ∧ x.toInt = (k : Int) ∧ isW b n P k) ∨ (x.toInt = -1 ∧ ∀ k, k < 17 → ¬ isW b n P k)) : x.toInt = (k : Int) ↔ isW b n P k := by
  rcases hx with ⟨j, hj, h1, h2⟩ | ⟨h1, h2⟩
  · constructor
    · intro h
      have : j = k := by omega
      subst this; exact h2
    · intro h
      have := isW_u hj hk h2 h
      omega
  · constructor
    · intro h; omega
    · intro h; exact absurd h (h2 k hk)
section MSM
variable {ρ : Type} {Q : ρ → gT → lT → Prop} {b : Nat → Int32} {n : Nat} {g : gT} {L : lT} {fu : Nat} {r : sR}
theorem t_num {p1 p2 : Int32} {K : Int32 → gT → lT → Option (ρ × zS)} (hfu : 1180591620717411303424 ≤ fu) (hs : SM b n r g L) (h : ∀ (x : Int32) g1 L1, SM b n (bn r (nuS b n p1.toInt p2.toInt)) g1 L1 → Fr aN [] g g1 → (∀ P, r = .ok P → nuC b n p1.toInt p2.toInt P → x.toInt = tV b n P) → Ex (K x g1 L1) Q) : Ex (cb (fX12_number fu p1 p2 g L) K) Q := by
  cases r with
  | error p => exact m_numB hs.2.2.1 (h 0 g L hs Fr.refl (fun P e => nomatch e))
  | ok P =>
    refine m_num hfu hs (fun hn x g1 L1 k1 k2 k3 => h x g1 L1 ?_ (k3.mo (by decide) (by decide)) (fun P' e _ => by cases e; exact k1)) (fun hn x g1 k1 k2 => h x g1 L ?_ (k2.mo (by decide) (by decide)) (fun P' e hn' => by cases e; exact absurd hn' hn))
    · rw [bn_ok]; unfold nuS; rw [nB_t hn]; exact k2
    · rw [bn_ok]; unfold nuS; rw [nB_f hn]; exact k1
theorem t_perhaps {k : Nat} {p1 p2 p3 : Int32} {K : Int32 → gT → lT → Option (ρ × zS)} (hfu : 1180591620717411303424 ≤ fu) (hk : k < 17) (hp : p1.toInt = (k : Int)) (hs : SM b n r g L) (h : ∀ (x : Int32) g1 L1, SM b n (bn r (opS b n k p3.toInt)) g1 L1 → Fr aN [] g g1 → (∀ R, bn r (opS b n k p3.toInt) = .ok R → ∃ P, r = .ok P ∧ x.toInt = opV b n k p2.toInt P ∧ R = opN b n k P) → Ex (K x g1 L1) Q) : Ex (cb (fX12_perhaps fu p1 p2 p3 g L) K) Q := by
  have key : Ex (fX12_perhaps fu p1 p2 p3 g L) (fun (x : Int32) g1 L1 => SM b n (bn r (opS b n k p3.toInt)) g1 L1 ∧ Fr aN [] g g1 ∧ (∀ R, bn r (opS b n k p3.toInt) = .ok R → ∃ P, r = .ok P ∧ x.toInt = opV b n k p2.toInt P ∧ R = opN b n k P)) := by
    unfold fX12_perhaps fX12_perhaps_p15
    cases r with
    | error p => exact e_good (fun hg => absurd hg hs.2.2.1) (fun _ => Ex.ret ⟨hs, Fr.refl, fun R hR => nomatch hR⟩)
    | ok P =>
      have hs : cM b n P g L := hs
      refine e_good (fun _ => ?_) (fun hb => absurd hs.c.2.2.2.2.2.2.2.2.2.2.2.1 hb)
      refine m_known hfu hs (fun x hx => ?_)
      have hx := isW_k hk hx
      refine Ex.ite (fun c => ?_) (fun c => ?_)
      · have hw : isW b n P k := hx.mp (by rw [c]; exact hp)
        refine m_goes hfu hs (fun g1 L1 k1 k2 => ?_)
        refine t_num (r := .ok (nx b n P)) hfu k1 (fun x g2 L2 m1 m2 vx => Ex.ret ⟨?_, (k2.mo (by decide) (by decide)).tr m2, fun R hR => ⟨P, rfl, ?_⟩⟩)
        · rw [bn_ok]; unfold opS; rw [wB_t hw]; exact m1
        · rw [bn_ok] at hR; unfold opS at hR; rw [wB_t hw, if_pos rfl] at hR
          have e := nuS_ok hR
          unfold opV opN
          rw [wB_t hw, if_pos rfl, if_pos rfl]
          exact ⟨vx _ rfl e.1, e.2⟩
      · have hw : ¬ isW b n P k := fun h => c (ic_eq.mpr ((hx.mpr h).trans hp.symm))
        refine Ex.ret ⟨?_, Fr.refl, fun R hR => ⟨P, rfl, ?_⟩⟩
        · rw [bn_ok]; unfold opS; rw [wB_f hw]; exact hs
        · rw [bn_ok] at hR; unfold opS at hR; rw [wB_f hw, if_neg (by decide)] at hR
          cases hR
          unfold opV opN
          rw [wB_f hw, if_neg (by decide), if_neg (by decide)]
          exact ⟨rfl, rfl⟩
  exact Ex.cb key (fun x g1 L1 hq => h x g1 L1 hq.1 hq.2.1 hq.2.2)
/-- the sign at the end of a line -/
theorem t_170 (hfu : 1180591620717411303424 ≤ fu) (hs : Sm b n r g) : Ex (fX12_line_p170 fu g L) (fun (_ : Unit) g1 L1 => SM b n (bn r (sgS b n 59)) g1 L1 ∧ Fr aN [] g g1) := by
  unfold fX12_line_p170
  cases r with
  | error p =>
    refine e_signK (fun x _ => ?_)
    refine Ex.cb (P := fun (_ : Unit) g1 L1 => g1 = g ∧ L1 = L) ?_ (fun _ g1 L1 hq => Ex.ret ?_)
    · unfold fX12_need
      exact e_good (fun hg => absurd hg hs.2.2.1) (fun _ => Ex.ret ⟨rfl, rfl⟩)
    · rw [hq.1, hq.2]; exact ⟨hs, Fr.refl⟩
  | ok P =>
    have hs : cm b n P g := hs
    have hg : (g 0 19).toInt = 0 := hs.2.2.2.2.2.2.2.2.2.2.2.1
    rw [bn_ok]
    unfold sgS
    rcases sign_eq0 (fu := fu) (L := L) (c := 59) hs with ⟨h, e⟩ | ⟨h, e⟩
    · have h : isS b n P 59 := h
      rw [e, sB_t h, if_pos rfl]
      obtain ⟨g1, L1, e1, h1, h2⟩ := goes_eq0 (fu := fu) (L := L) hfu hs
      refine ⟨(), g1, L1, ?_, h1, h2.2.1.mo (by decide) (by decide)⟩
      unfold fX12_need fX12_need_p24
      exact q_cb rfl (q_cb (q_cb (good_eq hg) (q_f (by decide) (q_f (by decide) (q_cb e1 rfl)))) rfl)
    · have h : ¬ isS b n P 59 := h
      rw [e, sB_f h, if_neg (by decide)]
      obtain ⟨g1, e1, h1, h2⟩ := wrong_eq0 (fu := fu) (L := L) (w := 1) (by decide) hs
      refine ⟨(), g1, L, ?_, h1, h2.mo (by decide) (by decide)⟩
      unfold fX12_need fX12_need_p24
      exact q_cb rfl (q_cb (q_cb (good_eq hg) (q_f (by decide) (q_t rfl (q_cb e1 rfl)))) rfl)
/-- is the lesson named already -/
theorem t_83 {l : Nat} {v1 v2 : Int32} {Q : Unit → gT → lT → Prop} {k12 : Int32 × Int32 × gT × lT → Option (Unit × zS)} (hfu : 1180591620717411303424 ≤ fu) (hl : l ≤ 11) (hv1 : v1.toInt = 6 * (l : Int)) (h0 : 0 ≤ v2.toInt) (h6 : v2.toInt ≤ 6) (hN : ((g 0 19).toInt ≠ 0 ∨ ∀ i : Nat, (i : Int) < v2.toInt → g 23 (6 * l + i) ≠ g 0 27) → Ex (fX12_readsWaits_p140 fu k12 v1 v2 g L) Q) (hY : (g 0 19).toInt = 0 → (∃ i : Nat, (i : Int) < v2.toInt ∧ g 23 (6 * l + i) = g 0 27) → Ex (cb (fX12_wrong fu 4 g L) (fun _ g1 L1 => fX12_readsWaits_p140 fu k12 v1 v2 g1 L1)) Q) : Ex (fX12_readsWaits_l83 fu k12 v1 v2 0 0 g L) Q := by
  unfold fX12_readsWaits_l83
  refine Ex.loop (α := Int32 × Int32 × gT × lT) (fun v => (0 ≤ v.2.1.toInt ∧ v.2.1.toInt ≤ v2.toInt) ∧ v.2.2.1 = g ∧ v.2.2.2 = L ∧ ((v.1 = 0 ∧ ∀ i : Nat, (i : Int) < v.2.1.toInt → g 23 (6 * l + i) ≠ g 0 27) ∨ (v.1 = 1 ∧ ∃ i : Nat, (i : Int) < v.2.1.toInt ∧ g 23 (6 * l + i) = g 0 27))) (fun v => v2.toInt - v.2.1.toInt) (by omega) (by show v2.toInt - (0 : Int32).toInt < (fu : Int); have : (0 : Int32).toInt = 0 := rfl; omega) ⟨(show 0 ≤ (0 : Int32).toInt ∧ (0 : Int32).toInt ≤ v2.toInt from ⟨by decide, h0⟩), rfl, rfl, Or.inl ⟨rfl, fun i hi => absurd (show (i : Int) < 0 from hi) (by omega)⟩⟩ (fun k83 v hv ih => ?_)
  obtain ⟨v4, v5, g', L'⟩ := v
  obtain ⟨hv5, e1, e2, hd⟩ := hv
  have hv5 : 0 ≤ v5.toInt ∧ v5.toInt ≤ v2.toInt := hv5
  have e1 : g' = g := e1
  have e2 : L' = L := e2
  have hd : (v4 = 0 ∧ ∀ i : Nat, (i : Int) < v5.toInt → g 23 (6 * l + i) ≠ g 0 27) ∨ (v4 = 1 ∧ ∃ i : Nat, (i : Int) < v5.toInt ∧ g 23 (6 * l + i) = g 0 27) := hd
  subst e1 e2
  show Ex (fX12_readsWaits_s83 fu k12 v1 v2 k83 v4 v5 g' L') _
  unfold fX12_readsWaits_s83
  refine Ex.ite (fun c5 => ?_) (fun c5 => ?_)
  · have c5 := icc_le (m := v2.toInt) (n := v5.toInt) rfl rfl c5
    refine e_good (fun hg => ?_) (fun hb => hN (Or.inl hb))
    rcases hd with ⟨rfl, hz⟩ | ⟨rfl, i, hi, hz⟩
    · rw [if_pos rfl]; exact hN (Or.inr (fun i hi => hz i (by omega)))
    · rw [if_neg (by decide)]; exact hY hg ⟨i, by omega, hz⟩
  have c5 := icc_nle (m := v2.toInt) (n := v5.toInt) rfl rfl c5
  unfold fX12_readsWaits_p110 fX12_readsWaits_p115
  have ew : (v1 + v5).toInt = v1.toInt + v5.toInt := ic_addc rfl rfl (by omega) (by omega)
  have eN : (v1 + v5).toNatClampNeg = 6 * l + v5.toInt.toNat := by rw [nc, ew]; omega
  generalize hw : v5 + 1 = w
  have ew1 : w.toInt = v5.toInt + 1 := by rw [← hw]; exact ic_addc rfl (by decide) (by omega) (by omega)
  have yes : (∃ i : Nat, (i : Int) < w.toInt ∧ g' 23 (6 * l + i) = g' 0 27) → Ex (k83 (1, w, g', L')) Q := fun hx => ih (1, w, g', L') ⟨show 0 ≤ w.toInt ∧ w.toInt ≤ v2.toInt by omega, rfl, rfl, Or.inr ⟨rfl, hx⟩⟩ (show v2.toInt - w.toInt < v2.toInt - v5.toInt by omega) (show 0 < v2.toInt - v5.toInt by omega)
  rcases hd with ⟨rfl, hz⟩ | ⟨rfl, i, hi, hz⟩
  rotate_left
  · rw [if_neg (by decide)]
    exact yes ⟨i, by omega, hz⟩
  rw [if_pos rfl, ck_eq (by omega) (by omega), eN]
  refine Ex.ite (fun c => yes ⟨v5.toInt.toNat, by omega, c⟩) (fun c => ?_)
  refine ih (0, w, g', L') ⟨show 0 ≤ w.toInt ∧ w.toInt ≤ v2.toInt by omega, rfl, rfl, Or.inl ⟨rfl, fun i hi => ?_⟩⟩ (show v2.toInt - w.toInt < v2.toInt - v5.toInt by omega) (show 0 < v2.toInt - v5.toInt by omega)
  have hi : (i : Int) < w.toInt := hi
  by_cases e : i = v5.toInt.toNat
  · subst e; exact c
  · exact hz i (by omega)
/-- those waited for, in the reference's cells -/
def wM (acc : List Int) (l : Nat) (g : gT) : Prop := (g 22 l).toInt = (acc.length : Int) ∧ ∀ i (hi : i < acc.length), (g 23 (6 * l + i)).toInt = acc[i]
/-- what comes of them -/
def PW (b : Nat → Int32) (n l : Nat) (g : gT) (R : sR) (W : List Int × Nat) (g1 : gT) (L1 : lT) : Prop := SM b n R g1 L1 ∧ (∀ j, j < 6 * l → g1 23 j = g 23 j) ∧ (∀ R1, R = .ok R1 → R1 = W.2 ∧ wM W.1 l g1)
/-- those waited for -/
theorem t_waits (hfu : 1180591620717411303424 ≤ fu) {l : Nat} (hl : l ≤ 11) (hs : SM b n r g L) (h30 : (g 0 30).toInt = (l : Int)) : Ex (fX12_readsWaits fu g L) (fun (_ : Unit) g1 L1 => PW b n l g (bn r (waS b n l (g 20 l).toInt 8 [])) (waR b n r) g1 L1) := by
  unfold fX12_readsWaits
  refine Ex.lti (fun v1 _ x1 => ?_)
  have x1 : v1.toInt = 6 * (l : Int) := by rw [x1, ic_mulc (m := 6) (n := (g 0 30).toInt) (by decide) rfl (by omega) (by omega)]; omega
  have e30 : (g 0 30).toNatClampNeg = l := by rw [nc, h30]; omega
  -- the end
  have P184 : ∀ (r' : sR) (v2 : Int32) (g' : gT) (L' : lT), SM b n r' g' L' → Fr aN [23] g g' → 0 ≤ v2.toInt → v2.toInt ≤ 6 → (∀ j, j < 6 * l → g' 23 j = g 23 j) → ∀ W : List Int × Nat, (∀ R1, r' = .ok R1 → R1 = W.2 ∧ v2.toInt = (W.1.length : Int) ∧ ∀ i (hi : i < W.1.length), (g' 23 (6 * l + i)).toInt = W.1[i]) → Ex (fX12_readsWaits_p184 fu v2 g' L') (fun (_ : Unit) g1 L1 => PW b n l g (bn r' (fun P => if v2.toInt < (g 20 l).toInt then .error P else .ok P)) W g1 L1) := by
    intro r' v2 g' L' hs' hF h0 h6 hlow W hW
    unfold fX12_readsWaits_p184 fX12_readsWaits_p220
    have e : g' 0 30 = g 0 30 := hF.1 30 (by decide)
    rw [e, e30]
    refine Ex.ck (by omega) (by omega) ?_
    refine Ex.sti (hs'.I.upd (lo := 0) (hi := 6) rfl h0 h6) (fun ga gae hIa => ?_)
    have sa : SM b n r' ga L' := by rw [gae] at hIa ⊢; exact hs'.u hIa (by decide) (by decide)
    have a30 : ga 0 30 = g 0 30 := by rw [gae]; exact e
    have a20 : ga 20 = g 20 := by rw [gae]; exact hF.2 20 (by decide) (by decide)
    have a23 : ga 23 = g' 23 := by rw [gae]; exact funext fun i => upd2_nk (by decide)
    have a22 : ga 22 l = v2 := by rw [gae]; exact upd2_at
    cases r' with
    | error p => exact e_good (fun hg => absurd hg sa.2.2.1) (fun _ => Ex.ret ⟨sa, fun j hj => by rw [a23]; exact hlow j hj, fun R1 h => nomatch h⟩)
    | ok P =>
      have sa : cM b n P ga L' := sa
      refine e_good (fun _ => ?_) (fun hb => absurd sa.c.2.2.2.2.2.2.2.2.2.2.2.1 hb)
      rw [a30, e30, a20]
      refine Ex.ck (by omega) (by omega) ?_
      rw [bn_ok]
      refine Ex.ite (fun c => ?_) (fun c => ?_)
      · have c := icc_le (m := (g 20 l).toInt) (n := v2.toInt) rfl rfl c
        rw [if_neg (by omega)]; exact Ex.ret ⟨sa, fun j hj => by rw [a23]; exact hlow j hj, fun R1 h => by cases h; obtain ⟨w1, w2, w3⟩ := hW _ rfl; exact ⟨w1, by rw [a22]; exact w2, fun i hi => by rw [a23]; exact w3 i hi⟩⟩
      · have c := icc_nle (m := (g 20 l).toInt) (n := v2.toInt) rfl rfl c
        rw [if_pos (by omega)]
        exact m_wrong (by decide) sa (fun g1 k1 k2 => Ex.ret ⟨k1, fun j hj => by rw [k2.2 23 (by decide) (by decide), a23]; exact hlow j hj, fun R1 h => nomatch h⟩)
  unfold fX12_readsWaits_l12
  cases r with
  | error p =>
    -- wrong already
    obtain ⟨fu, rfl⟩ : ∃ f, fu = f + 1 := ⟨fu - 1, by omega⟩
    show Ex (fX12_readsWaits_s12 (fu + 1) v1 _ 0 1 g L) _
    unfold fX12_readsWaits_s12
    rw [if_neg (by decide)]
    refine e_good (fun hg => absurd hg hs.2.2.1) (fun _ => ?_)
    exact P184 (.error p) 0 g L hs Fr.refl (by decide) (by decide) (fun _ _ => rfl) _ (fun R1 h => nomatch h)
  | ok P =>
  rw [bn_ok]
  have hs : cM b n P g L := hs
  generalize hR : waS b n l (g 20 l).toInt 8 [] P = R
  generalize hWW : waR b n (.ok P) = W
  have hWW : waL b n 8 [] P = W := hWW
  have fin : ∀ {t : Option (Unit × zS)} {R' : sR}, R' = R → Ex t (fun (_ : Unit) g1 L1 => PW b n l g R' W g1 L1) → Ex t (fun (_ : Unit) g1 L1 => PW b n l g R W g1 L1) := fun e h => by rw [← e]; exact h
  refine Ex.loop (α := Int32 × Int32 × gT × lT) (fun v => ∃ (acc : List Int) (P' f : Nat), waS b n l (g 20 l).toInt f acc P' = R ∧ waL b n f acc P' = W ∧ (∀ j, j < 6 * l → v.2.2.1 23 j = g 23 j) ∧ cM b n P' v.2.2.1 v.2.2.2 ∧ Fr aN [23] g v.2.2.1 ∧ v.1.toInt = (acc.length : Int) ∧ acc.length + f = 8 ∧ acc.length ≤ 6 ∧ (∀ i (hi : i < acc.length), (v.2.2.1 23 (6 * l + i)).toInt = acc[i]) ∧ ((v.2.1 = 1 ∧ (acc.length = 0 ∨ tK b n P' = 1)) ∨ (v.2.1 = 0 ∧ acc.length ≠ 0 ∧ tK b n P' ≠ 1))) (fun v => 7 - v.1.toInt) (by omega) (by show 7 - (0 : Int32).toInt < (fu : Int); have : (0 : Int32).toInt = 0 := rfl; omega) ⟨[], P, 8, hR, hWW, fun _ _ => rfl, hs, Fr.refl, rfl, rfl, Nat.zero_le _, fun i hi => absurd hi (Nat.not_lt_zero _), Or.inl ⟨rfl, Or.inl rfl⟩⟩ (fun k12 v hv ih => ?_)
  obtain ⟨v2, v3, g', L'⟩ := v
  obtain ⟨acc, P', f, q1, qW, qL, q2, q3, q4, q5, q6, q7, q8⟩ := hv
  replace qL : ∀ j, j < 6 * l → g' 23 j = g 23 j := qL
  replace q2 : cM b n P' g' L' := q2
  replace q3 : Fr aN [23] g g' := q3
  replace q4 : v2.toInt = (acc.length : Int) := q4
  replace q7 : ∀ i (hi : i < acc.length), (g' 23 (6 * l + i)).toInt = acc[i] := q7
  replace q8 : (v3 = 1 ∧ (acc.length = 0 ∨ tK b n P' = 1)) ∨ (v3 = 0 ∧ acc.length ≠ 0 ∧ tK b n P' ≠ 1) := q8
  obtain ⟨f, rfl⟩ : ∃ f', f = f' + 1 := ⟨f - 1, by omega⟩
  show Ex (fX12_readsWaits_s12 fu v1 k12 v2 v3 g' L') _
  unfold fX12_readsWaits_s12
  unfold waS at q1
  unfold waL at qW
  have hg : (g' 0 19).toInt = 0 := q2.c.2.2.2.2.2.2.2.2.2.2.2.1
  obtain ⟨a1, a2, a3, a4, a5, a6, a7, a8, a9, a10, a11, a12, a13, a14⟩ := id q2
  -- nothing more after a fault
  have P140b : ∀ (p : Nat) (gb : gT) (Lb : lT), bM p gb → (∀ j, j < 6 * l → gb 23 j = g 23 j) → R = .error p → Ex (fX12_readsWaits_p140 fu k12 v1 v2 gb Lb) (fun (_ : Unit) g1 L1 => PW b n l g R W g1 L1) := by
    intro p gb Lb hb hlo e
    unfold fX12_readsWaits_p140
    exact e_good (fun h => absurd h hb.2.2.1) (fun _ => Ex.ret ⟨by rw [e]; exact hb, hlo, fun R1 h => by rw [e] at h; exact nomatch h⟩)
  have P77b : ∀ (p : Nat) (gb : gT) (Lb : lT), bM p gb → (∀ j, j < 6 * l → gb 23 j = g 23 j) → R = .error p → Ex (fX12_readsWaits_p77 fu k12 v1 v2 gb Lb) (fun (_ : Unit) g1 L1 => PW b n l g R W g1 L1) := by
    intro p gb Lb hb hlo e
    unfold fX12_readsWaits_p77
    exact t_83 hfu hl x1 (by omega) (by omega) (fun _ => P140b p gb Lb hb hlo e) (fun h => absurd h hb.2.2.1)
  have bad : ∀ (w : Int32) (K : Unit → gT → lT → Option (Unit × zS)), w.toInt ≠ 0 → R = .error P' → (∀ gb Lb, K () gb Lb = fX12_readsWaits_p77 fu k12 v1 v2 gb Lb) → Ex (cb (fX12_wrong fu w g' L') K) (fun (_ : Unit) g1 L1 => PW b n l g R W g1 L1) := by
    intro w K hw e hK
    refine m_wrong hw q2 (fun gb k1 k2 => ?_)
    rw [hK]
    exact P77b P' gb L' k1 (fun j hj => by rw [k2.2 23 (by decide) (by decide)]; exact qL j hj) e
  clear hs
  rcases q8 with ⟨e9, q8⟩ | ⟨e9, q8, q9⟩
  all_goals subst e9
  rotate_left
  · rw [if_pos rfl]
    rw [if_neg q9, if_neg q8] at q1
    rw [if_neg q9] at qW
    refine fin ?_ (P184 (.ok P') v2 g' L' q2 q3 (by omega) (by omega) qL W (fun R1 h => by cases h; rw [← qW]; exact ⟨rfl, q4, q7⟩))
    rw [bn_ok, ← q1, q4]
  rw [if_neg (by decide)]
  refine e_good (fun _ => ?_) (fun hb => absurd hg hb)
  unfold fX12_readsWaits_p53
  refine Ex.ite (fun c => ?_) (fun c => ?_)
  rotate_left
  · have c := icc_neq (m := (g' 0 24).toInt) (n := 2) rfl (by decide) c
    have hk : tK b n P' ≠ 1 := fun h => c (by rw [a7]; exact sM_2.mpr h)
    rw [if_neg hk, if_pos (q8.elim (fun h => h) (fun h => absurd h hk))] at q1
    exact bad 1 _ (by decide) q1.symm (fun _ _ => rfl)
  have c := icc_eq (m := (g' 0 24).toInt) (n := 2) rfl (by decide) c
  have hk : tK b n P' = 1 := sM_2.mp (by omega)
  have hlt : P' < n := tK_n0 (b := b) (by omega)
  rw [if_pos hk] at q1 qW
  refine Ex.ite (fun c6 => ?_) (fun c6 => ?_)
  · have c6 := icc_eq (m := v2.toInt) (n := 6) rfl (by decide) c6
    rw [if_neg (by omega)] at q1
    exact bad 2 _ (by decide) q1.symm (fun _ _ => rfl)
  have c6 := icc_neq (m := v2.toInt) (n := 6) rfl (by decide) c6
  refine Ex.ite (fun c4 => ?_) (fun c4 => ?_)
  rotate_left
  · have c4 := icc_nle (m := (g' 0 26).toInt) (n := 4) rfl (by decide) c4
    rw [if_neg (by omega)] at q1
    exact bad 2 _ (by decide) q1.symm (fun _ _ => rfl)
  have c4 := icc_le (m := (g' 0 26).toInt) (n := 4) rfl (by decide) c4
  rw [if_pos (by omega)] at q1
  have f30 := q3.i (j := 30) (by decide)
  refine Ex.ite (fun c7 => ?_) (fun c7 => ?_)
  rotate_left
  · have c7 := icc_nlt (m := (g' 0 27).toInt) (n := (g' 0 30).toInt) rfl rfl c7
    rw [if_neg (by omega)] at q1
    exact bad 3 _ (by decide) q1.symm (fun _ _ => rfl)
  have c7 := icc_lt (m := (g' 0 27).toInt) (n := (g' 0 30).toInt) rfl rfl c7
  rw [if_pos (by omega)] at q1
  have hv := a1 0 27 0 9999 rfl
  unfold fX12_readsWaits_p77
  have hmem : (∃ i : Nat, (i : Int) < v2.toInt ∧ g' 23 (6 * l + i) = g' 0 27) ↔ tV b n P' ∈ acc := by
    constructor
    · rintro ⟨i, hi, he⟩
      have hi : i < acc.length := by omega
      have := q7 i hi
      rw [he, a9] at this
      rw [this]; exact List.getElem_mem hi
    · intro hm
      obtain ⟨i, hi, he⟩ := List.getElem_of_mem hm
      refine ⟨i, by omega, ic_eq.mpr ?_⟩
      rw [q7 i hi, he, a9]
  refine t_83 hfu hl x1 (by omega) (by omega) (fun hno => ?_) (fun _ hyes => ?_)
  rotate_left
  · rw [if_pos (hmem.mp hyes)] at q1
    exact m_wrong (by decide) q2 (fun gb k1 k2 => P140b P' gb L' k1 (fun j hj => by rw [k2.2 23 (by decide) (by decide)]; exact qL j hj) q1.symm)
  have hno : tV b n P' ∉ acc := by
    rcases hno with h | h
    · exact absurd hg h
    · intro hm
      obtain ⟨i, hi, he⟩ := hmem.mpr hm
      exact h i hi he
  rw [if_neg hno] at q1
  unfold fX12_readsWaits_p140
  refine e_good (fun _ => ?_) (fun hb => absurd hg hb)
  have ew : (v1 + v2).toInt = v1.toInt + v2.toInt := ic_addc rfl rfl (by omega) (by omega)
  have eN : (v1 + v2).toNatClampNeg = 6 * l + acc.length := by rw [nc, ew]; omega
  refine Ex.ck (by omega) (by omega) ?_
  rw [eN]
  refine Ex.sti (a1.upd (lo := 0) (hi := 11) rfl (by omega) (by omega)) (fun ga gae hIa => ?_)
  have sa : cM b n P' ga L' := by rw [gae] at hIa ⊢; exact SM.u (r := .ok P') q2 hIa (by decide) (by decide)
  have fa : Fr aN [23] g ga := by rw [gae]; exact q3.uk (by decide) (by decide)
  refine m_goes hfu sa (fun gb Lb k1 k2 => ?_)
  have fb : Fr aN [23] g gb := fa.tr (k2.mo (by decide) (by decide))
  unfold fX12_readsWaits_p180
  have b23 : gb 23 = ga 23 := k2.2 23 (by decide) (by decide)
  have e7 : ∀ i (hi : i < (acc ++ [tV b n P']).length), (gb 23 (6 * l + i)).toInt = (acc ++ [tV b n P'])[i] := by
    intro i hi
    rw [b23, gae]
    by_cases h : i < acc.length
    · rw [upd2_nj (by omega), List.getElem_append_left h]; exact q7 i h
    · have : i = acc.length := by rw [List.length_append, List.length_singleton] at hi; omega
      subst this
      rw [upd2_at, List.getElem_append_right (Nat.le_refl _)]
      simp only [Nat.sub_self, List.getElem_singleton]
      exact a9
  have eL : ∀ j, j < 6 * l → gb 23 j = g 23 j := fun j hj => by rw [b23, gae, upd2_nj (by omega)]; exact qL j hj
  have el : (acc ++ [tV b n P']).length = acc.length + 1 := by rw [List.length_append, List.length_singleton]
  generalize hw : v2 + 1 = w
  have ew1 : w.toInt = v2.toInt + 1 := by rw [← hw]; exact ic_addc rfl (by decide) (by omega) (by omega)
  have b7 : (gb 0 24).toInt = sM (tK b n (nx b n P')) := k1.2.2.2.2.2.2.1
  have d1 : 7 - w.toInt < 7 - v2.toInt := by omega
  have d2 : 0 < 7 - v2.toInt := by omega
  have d3 : w.toInt = ((acc ++ [tV b n P']).length : Int) := by rw [el]; omega
  have d4 : (acc ++ [tV b n P']).length + f = 8 := by omega
  have d5 : (acc ++ [tV b n P']).length ≤ 6 := by omega
  have d6 : (acc ++ [tV b n P']).length ≠ 0 := by omega
  refine Ex.ite (fun c8 => ?_) (fun c8 => ?_)
  · have c8 := icc_eq (m := (gb 0 24).toInt) (n := 2) rfl (by decide) c8
    exact ih (w, 1, gb, Lb) ⟨acc ++ [tV b n P'], nx b n P', f, q1, qW, eL, k1, fb, d3, d4, d5, e7, Or.inl ⟨rfl, Or.inr (sM_2.mp (b7.symm.trans c8))⟩⟩ d1 d2
  · have c8 := icc_neq (m := (gb 0 24).toInt) (n := 2) rfl (by decide) c8
    exact ih (w, 0, gb, Lb) ⟨acc ++ [tV b n P'], nx b n P', f, q1, qW, eL, k1, fb, d3, d4, d5, e7, Or.inr ⟨rfl, d6, fun h => c8 (by rw [b7]; exact sM_2.mpr h)⟩⟩ d1 d2
end MSM
/-- a lesson as the reference keeps it -/
def LM (b : Nat → Int32) (n P l : Nat) (g : gT) : Prop := (g 15 l).toInt = leV b n P 3 ∧ (g 16 l).toInt = leV b n P 4 ∧ (g 17 l).toInt = leV b n P 5 ∧ (g 24 l).toInt = leV b n P 6 ∧ (g 24 (24 + l)).toInt = leV b n P 7 ∧ (g 18 l).toInt = leV b n P 8 ∧ (g 19 l).toInt = leV b n P 9 ∧ (g 20 l).toInt = leV b n P 10 ∧ (g 24 (36 + l)).toInt = leV b n P 11 ∧ (g 21 l).toInt = leV b n P 12 ∧ (g 24 (12 + l)).toInt = leV b n P 13 ∧ wM (leA b n P) l g
/-- the lessons ahead stand as they were -/
def FI (l : Nat) (g g1 : gT) : Prop := (∀ k i, 15 ≤ k → k ≤ 22 → i < l → g1 k i = g k i) ∧ (∀ j, j < 6 * l → g1 23 j = g 23 j) ∧ (∀ m i, m < 4 → i < l → g1 24 (12 * m + i) = g 24 (12 * m + i))
theorem FI.refl {l : Nat} {g : gT} : FI l g g := ⟨fun _ _ _ _ _ => rfl, fun _ _ => rfl, fun _ _ _ _ => rfl⟩
theorem FI.tr {l : Nat} {g g1 g2 : gT} (h1 : FI l g g1) (h2 : FI l g1 g2) : FI l g g2 := ⟨fun k i a c d => (h2.1 k i a c d).trans (h1.1 k i a c d), fun j a => (h2.2.1 j a).trans (h1.2.1 j a), fun m i a c => (h2.2.2 m i a c).trans (h1.2.2 m i a c)⟩
theorem FI.f {l : Nat} {g g1 g2 : gT} {A : List Nat} (h1 : FI l g g1) (hF : Fr A [] g1 g2) : FI l g g2 := h1.tr ⟨fun k i a c d => by rw [hF.2 k (by omega) (List.not_mem_nil)], fun j a => by rw [hF.2 23 (by decide) (List.not_mem_nil)], fun m i a c => by rw [hF.2 24 (by decide) (List.not_mem_nil)]⟩
theorem FI.a {l k : Nat} {g g1 : gT} {x : Int32} (h1 : FI l g g1) (hk : 15 ≤ k) (hk2 : k ≤ 22) : FI l g (upd2 g1 k l x) := h1.tr ⟨fun k' i a c d => by
  by_cases e : k' = k
  · subst e; rw [upd2_nj (by omega)]
  · rw [upd2_nk e], fun j a => by rw [upd2_nk (by omega)], fun m i a c => by rw [upd2_nk (by omega)]⟩
theorem FI.n {l j : Nat} {g g1 : gT} {x : Int32} (h1 : FI l g g1) (hl : l < 12) (hj : j = l ∨ j = 12 + l ∨ j = 24 + l ∨ j = 36 + l) : FI l g (upd2 g1 24 j x) := h1.tr ⟨fun k i a c d => by rw [upd2_nk (by omega)], fun j a => by rw [upd2_nk (by omega)], fun m i a c => by rw [upd2_nj (by omega)]⟩
set_option maxHeartbeats 16000000 in
theorem t_lesson {fu : Nat} (hfu : 1180591620717411303424 ≤ fu) {b : Nat → Int32} {n P l : Nat} {g : gT} {L : lT} (hc : cM b n P g L) (h30 : (g 0 30).toInt = (l : Int)) : Ex (fX12_readsLesson fu g L) (fun (_ : Unit) g1 L1 => SM b n (if l < 12 then leS b n l P else .error P) g1 L1 ∧ (∀ Q, (if l < 12 then leS b n l P else .error P) = .ok Q → (g1 0 30).toInt = (l : Int) + 1 ∧ LM b n P l g1 ∧ FI l g g1)) := by
  have q30 := hc.1 0 30 0 12 rfl
  have hg : (g 0 19).toInt = 0 := hc.c.2.2.2.2.2.2.2.2.2.2.2.1
  unfold fX12_readsLesson
  refine Ex.ite (fun c => ?_) (fun c => ?_)
  · have c := icc_eq (m := (g 0 30).toInt) (n := 12) rfl (by decide) c
    rw [if_neg (by omega)]
    refine m_wrong (by decide) hc (fun g1 k1 _ => ?_)
    unfold fX12_readsLesson_p14
    exact e_good (fun h => absurd h k1.2.2.1) (fun _ => Ex.ret ⟨k1, fun Q hQ => nomatch hQ⟩)
  have c := icc_neq (m := (g 0 30).toInt) (n := 12) rfl (by decide) c
  have hl12 : l < 12 := by omega
  rw [if_pos hl12]
  unfold fX12_readsLesson_p14
  refine e_good (fun _ => ?_) (fun hb => absurd hg hb)
  refine m_goes hfu hc (fun g7 L8 k7 f7 => ?_)
  have h7 : Fr aN bL g g7 := f7.mo (by decide) (by decide)
  have F7 : FI l g g7 := FI.refl.f f7
  have e30 : g7 0 30 = g 0 30 := f7.1 30 (by decide)
  rw [e30]
  refine Ex.lti (fun x10 xe xi => ?_)
  have eN : x10.toNatClampNeg = l := by rw [nc, xi, h30]; omega
  have hli : x10.toInt = (l : Int) := by omega
  have e36 : (36 + x10).toInt = 36 + x10.toInt := ic_addc (by decide) rfl (by omega) (by omega)
  have e12 : (12 + x10).toInt = 12 + x10.toInt := ic_addc (by decide) rfl (by omega) (by omega)
  have e24 : (24 + x10).toInt = 24 + x10.toInt := ic_addc (by decide) rfl (by omega) (by omega)
  have e0 : (0 + x10).toInt = x10.toInt := by rw [ic_addc (m := 0) (n := x10.toInt) (by decide) rfl (by omega) (by omega)]; omega
  have eN0 : (0 + x10).toNatClampNeg = l := by rw [nc, e0]; omega
  have eN12 : (12 + x10).toNatClampNeg = 12 + l := by rw [nc, e12]; omega
  have eN24 : (24 + x10).toNatClampNeg = 24 + l := by rw [nc, e24]; omega
  have eN36 : (36 + x10).toNatClampNeg = 36 + l := by rw [nc, e36]; omega
  -- the end
  obtain ⟨NM, eNM⟩ : ∃ NM : Nat → gT → Prop, NM = fun R g' => ∃ Q, Q = nxI b n 7 P ∧ R = (leL b n Q).2 ∧ (g' 15 l).toInt = leV b n P 3 ∧ (g' 16 l).toInt = leV b n P 4 ∧ (g' 17 l).toInt = leV b n P 5 ∧ (g' 24 l).toInt = leV b n P 6 ∧ (g' 24 (24 + l)).toInt = leV b n P 7 ∧ (g' 18 l).toInt = leV b n P 8 ∧ (g' 19 l).toInt = leV b n P 9 ∧ (g' 20 l).toInt = leV b n P 10 ∧ wM (leL b n Q).1 l g' := ⟨_, rfl⟩
  have P217 : ∀ (r : sR) (g' : gT) (L' : lT), SM b n r g' L' → Fr aN bL g g' → FI l g g' → (∀ R, r = .ok R → NM R g') → Ex (fX12_readsLesson_p217 fu x10 g' L') (fun (_ : Unit) g1 L1 => SM b n (bn r (ops b n)) g1 L1 ∧ (∀ Q, bn r (ops b n) = .ok Q → (g1 0 30).toInt = (l : Int) + 1 ∧ LM b n P l g1 ∧ FI l g g1)) := by
    intro r g' L' hs hF hFI hN
    unfold fX12_readsLesson_p217 fX12_readsLesson_p287
    rw [eN36, eN, eN12]
    refine t_perhaps (k := 8) hfu (by decide) rfl hs (fun x1 g1 L1 s1 f1 o1 => ?_)
    refine Ex.ck (by omega) (by omega) ?_
    refine Ex.sti (s1.I.updN rfl) (fun g2 g2e i2 => ?_)
    have s2 : SM b n (bn r (opS b n 8 99)) g2 L1 := by rw [g2e] at i2 ⊢; exact s1.u i2 (by decide) (by decide)
    have f2 : Fr aN bL g g2 := by rw [g2e]; exact (hF.tr (f1.mo (by decide) (by decide))).uk (by decide) (by decide)
    refine t_perhaps (k := 9) hfu (by decide) rfl s2 (fun x3 g3 L3 s3 f3 o3 => ?_)
    refine Ex.ck (by omega) (by omega) ?_
    refine Ex.sti (s3.I.updN rfl) (fun g4 g4e i4 => ?_)
    have s4 : SM b n (bn (bn r (opS b n 8 99)) (opS b n 9 10)) g4 L3 := by rw [g4e] at i4 ⊢; exact s3.u i4 (by decide) (by decide)
    have f4 : Fr aN bL g g4 := by rw [g4e]; exact (f2.tr (f3.mo (by decide) (by decide))).uk (by decide) (by decide)
    refine t_perhaps (k := 10) hfu (by decide) rfl s4 (fun x5 g5 L5 s5 f5 o5 => ?_)
    refine Ex.ck (by omega) (by omega) ?_
    refine Ex.sti (s5.I.updN rfl) (fun g6 g6e i6 => ?_)
    have s6 : SM b n (bn (bn (bn r (opS b n 8 99)) (opS b n 9 10)) (opS b n 10 30)) g6 L5 := by rw [g6e] at i6 ⊢; exact s5.u i6 (by decide) (by decide)
    have f6 : Fr aN bL g g6 := by rw [g6e]; exact (f4.tr (f5.mo (by decide) (by decide))).uk (by decide) (by decide)
    have F6 : FI l g g6 := by
      rw [g6e]
      refine FI.n (FI.f ?_ f5) hl12 (by omega)
      rw [g4e]
      refine FI.a (FI.f ?_ f3) (by decide) (by decide)
      rw [g2e]
      exact FI.n (FI.f hFI f1) hl12 (by omega)
    have c6 : ∀ R, bn r (ops b n) = .ok R → LM b n P l g6 := by
      intro R hR
      have hR : bn (bn (bn r (opS b n 8 99)) (opS b n 9 10)) (opS b n 10 30) = .ok R := by rw [bn_as, bn_as]; exact hR
      obtain ⟨P3, a3, b3, -⟩ := o5 R hR
      obtain ⟨P2, a2, b2, c2⟩ := o3 P3 a3
      obtain ⟨P1, a1, b1, c1⟩ := o1 P2 a2
      have hNM := hN P1 a1
      rw [eNM] at hNM
      obtain ⟨Q, y0, y1, y2, y3, y4, y5, y6, y7, y8, y9, y10⟩ := hNM
      have K2 : ∀ k, 15 ≤ k → k ≠ 24 → k ≠ 21 → g6 k = g' k := fun k h1 h2 h3 => by
        have a2 : g2 k = g1 k := by rw [g2e]; exact funext fun i => upd2_nk h2
        have a4 : g4 k = g3 k := by rw [g4e]; exact funext fun i => upd2_nk h3
        have a6 : g6 k = g5 k := by rw [g6e]; exact funext fun i => upd2_nk h2
        rw [a6, f5.2 k (by omega) (List.not_mem_nil), a4, f3.2 k (by omega) (List.not_mem_nil), a2, f1.2 k (by omega) (List.not_mem_nil)]
      have K4 : ∀ j, j ≠ 36 + l → j ≠ 12 + l → g6 24 j = g' 24 j := fun j h1 h2 => by
        rw [g6e, upd2_nj h2, f5.2 24 (by decide) (List.not_mem_nil), g4e, upd2_nk (by decide), f3.2 24 (by decide) (List.not_mem_nil), g2e, upd2_nj h1, f1.2 24 (by decide) (List.not_mem_nil)]
      have v13 : g6 24 (12 + l) = x5 := by rw [g6e]; exact upd2_at
      have v12 : g6 21 l = x3 := by rw [g6e, upd2_nk (by decide), f5.2 21 (by decide) (List.not_mem_nil), g4e]; exact upd2_at
      have v11 : g6 24 (36 + l) = x1 := by rw [g6e, upd2_nj (by omega), f5.2 24 (by decide) (List.not_mem_nil), g4e, upd2_nk (by decide), f3.2 24 (by decide) (List.not_mem_nil), g2e]; exact upd2_at
      subst y0
      subst y1
      refine ⟨?_, ?_, ?_, ?_, ?_, ?_, ?_, ?_, ?_, ?_, ?_, ?_, fun i hi => ?_⟩
      · rw [K2 15 (by decide) (by decide) (by decide)]; exact y2
      · rw [K2 16 (by decide) (by decide) (by decide)]; exact y3
      · rw [K2 17 (by decide) (by decide) (by decide)]; exact y4
      · rw [K4 l (by omega) (by omega)]; exact y5
      · rw [K4 (24 + l) (by omega) (by omega)]; exact y6
      · rw [K2 18 (by decide) (by decide) (by decide)]; exact y7
      · rw [K2 19 (by decide) (by decide) (by decide)]; exact y8
      · rw [K2 20 (by decide) (by decide) (by decide)]; exact y9
      · rw [v11]; exact b1
      · rw [v12, b2, c1]; rfl
      · rw [v13, b3, c2, c1]; rfl
      · rw [K2 22 (by decide) (by decide) (by decide)]; exact y10.1
      · rw [K2 23 (by decide) (by decide) (by decide)]; exact y10.2 i hi
    rw [bn_as, bn_as] at s6
    have s6 : SM b n (bn r (ops b n)) g6 L5 := s6
    have d30 : g6 0 30 = g 0 30 := f6.1 30 (by decide)
    generalize bn r (ops b n) = R at s6 c6 ⊢
    cases R with
    | error p => exact e_good (fun h => absurd h s6.2.2.1) (fun _ => Ex.ret ⟨s6, fun Q hQ => nomatch hQ⟩)
    | ok Q =>
      have s6 : cM b n Q g6 L5 := s6
      refine e_good (fun _ => ?_) (fun hb => absurd s6.c.2.2.2.2.2.2.2.2.2.2.2.1 hb)
      rw [d30]
      have ew : (g 0 30 + 1).toInt = (g 0 30).toInt + 1 := ic_addc rfl (by decide) (by omega) (by omega)
      refine Ex.sti (i6.upd (lo := 0) (hi := 12) rfl (by omega) (by omega)) (fun ga gae hIa => Ex.ret ⟨?_, fun Q1 hQ1 => ?_⟩)
      · rw [gae] at hIa ⊢; exact SM.u0 (r := .ok Q) s6 hIa (by decide)
      · have dk : ∀ k, k ≠ 0 → ga k = g6 k := fun k hk => by rw [gae]; exact funext fun i => upd2_nk hk
        obtain ⟨y2, y3, y4, y5, y6, y7, y8, y9, y10, y11, y12, y13, y14⟩ := c6 Q1 hQ1
        refine ⟨by rw [gae, upd2_at]; omega, ⟨?_, ?_, ?_, ?_, ?_, ?_, ?_, ?_, ?_, ?_, ?_, ?_, fun i hi => ?_⟩, F6.tr ⟨fun k i a c d => by rw [dk k (by omega)], fun j a => by rw [dk 23 (by decide)], fun m i a c => by rw [dk 24 (by decide)]⟩⟩
        · rw [dk 15 (by decide)]; exact y2
        · rw [dk 16 (by decide)]; exact y3
        · rw [dk 17 (by decide)]; exact y4
        · rw [dk 24 (by decide)]; exact y5
        · rw [dk 24 (by decide)]; exact y6
        · rw [dk 18 (by decide)]; exact y7
        · rw [dk 19 (by decide)]; exact y8
        · rw [dk 20 (by decide)]; exact y9
        · rw [dk 24 (by decide)]; exact y10
        · rw [dk 21 (by decide)]; exact y11
        · rw [dk 24 (by decide)]; exact y12
        · rw [dk 22 (by decide)]; exact y13
        · rw [dk 23 (by decide)]; exact y14 i hi
  have P213 : ∀ (r : sR) (g' : gT) (L' : lT) (m : Int), SM b n r g' L' → Fr aN bL g g' → FI l g g' → ((g' 20 l).toInt = m) → (∀ R, r = .ok R → ∀ g1 : gT, (∀ k, 15 ≤ k → k ≠ 22 → k ≠ 23 → g1 k = g' k) → wM (waL b n 8 [] R).1 l g1 → NM (waL b n 8 [] R).2 g1) → Ex (fX12_readsLesson_p213 fu x10 g' L') (fun (_ : Unit) g1 L1 => SM b n (bn r (fun P => bn (waS b n l m 8 [] P) (ops b n))) g1 L1 ∧ (∀ Q, bn r (fun P => bn (waS b n l m 8 [] P) (ops b n)) = .ok Q → (g1 0 30).toInt = (l : Int) + 1 ∧ LM b n P l g1 ∧ FI l g g1)) := by
    intro r g' L' m hs hF hFI hm hN
    unfold fX12_readsLesson_p213
    have d30 : (g' 0 30).toInt = (l : Int) := by rw [hF.i (by decide)]; exact h30
    have hpn : pN g' := by
      cases r with
      | error p => exact hs.2.1
      | ok P => exact hs.pn
    have hk := (t_waits hfu (show l ≤ 11 by omega) hs d30).and (sX12_readsWaits fu hfu g' L' hs.I hpn (by omega))
    refine Ex.cb hk (fun _ g1 L1 hq => ?_)
    obtain ⟨⟨h1, h1b, h1c⟩, h2, h2b, -⟩ := hq
    rw [hm] at h1 h1c
    have eL30 : (g' 0 30).toInt.toNat = l := by omega
    rw [eL30] at h2b
    have dk : ∀ k, 15 ≤ k → k ≠ 22 → k ≠ 23 → g1 k = g' k := fun k a c d => h2.2.1.2 k (by omega) (by simp only [List.mem_cons, List.not_mem_nil, or_false]; omega)
    have k := P217 _ g1 L1 h1 (hF.tr (h2.2.1.mo (by decide) (by decide))) (hFI.tr ⟨fun k i a c d => by
      by_cases e : k = 22
      · subst e; exact h2b i (by omega)
      · rw [dk k a e (by omega)], h1b, fun m i a c => by rw [dk 24 (by decide) (by decide) (by decide)]⟩) (fun R hR => by
      obtain ⟨R0, e0, e1⟩ := bn_inv hR
      have z := h1c R hR
      rw [e0] at z
      have z : R = (waL b n 8 [] R0).2 ∧ wM (waL b n 8 [] R0).1 l g1 := z
      rw [z.1]
      exact hN R0 e0 g1 dk z.2)
    rw [bn_as] at k
    exact k
  -- numbers
  refine t_num (r := .ok (nx b n P)) hfu k7 (fun r1 ga La sa fa v1 => ?_)
  rw [bn_ok] at sa
  have sa : SM b n (nuS b n 0 999 (nx b n P)) ga La := sa
  refine Ex.ck (by omega) (by omega) ?_
  refine Ex.sti (sa.I.updN rfl) (fun gb gbe hIb => ?_)
  have sb : SM b n (nuS b n 0 999 (nx b n P)) gb La := by rw [gbe] at hIb ⊢; exact sa.u hIb (by decide) (by decide)
  have fb : Fr aN bL g gb := by rw [gbe]; exact (h7.tr (fa.mo (by decide) (by decide))).uk (by decide) (by decide)
  have b15 : gb 15 x10.toNatClampNeg = r1 := by rw [gbe]; exact upd2_at
  have Fb : FI l g gb := by rw [gbe, eN]; exact (F7.f fa).a (by decide) (by decide)
  rw [b15]
  refine Ex.ck (by omega) (by omega) ?_
  refine t_num hfu sb (fun r2 gc Lc sc fc v2 => ?_)
  have sc : SM b n (bn (nuS b n 0 999 (nx b n P)) (nuS b n (tV b n (nx b n P) + 1) 999)) gc Lc := by
    have e9 : bn (nuS b n 0 999 (nx b n P)) (nuS b n (tV b n (nx b n P) + 1) 999) = bn (nuS b n 0 999 (nx b n P)) (nuS b n (r1 + 1).toInt (999 : Int32).toInt) := by
      refine bn_cg (fun Q hQ => ?_)
      have hn : nuC b n 0 999 (nx b n P) := by
        by_cases h : nuC b n 0 999 (nx b n P)
        · exact h
        · unfold nuS at hQ; rw [nB_f h] at hQ; exact nomatch hQ
      have hv := v1 _ rfl hn
      have h1 := hn.2.2.1
      have h2 := hn.2.2.2
      rw [ic_addc hv (n := 1) (by decide) (by omega) (by omega)]
      rfl
    rw [e9]; exact sc
  rw [eN] at b15
  clear sb gbe
  refine Ex.ck (by omega) (by omega) ?_
  refine Ex.sti (sc.I.updN rfl) (fun gd gde hId => ?_)
  have sd := by have := sc.u (k := 16) (j := x10.toNatClampNeg) (x := r2) (by rw [← gde]; exact hId) (by decide) (by decide); rw [← gde] at this; exact this
  have fd : Fr aN bL g gd := by rw [gde]; exact (fb.tr (fc.mo (by decide) (by decide))).uk (by decide) (by decide)
  have Fd : FI l g gd := by rw [gde, eN]; exact (Fb.f fc).a (by decide) (by decide)
  have V4 : gd 16 l = r2 := by rw [gde, eN]; exact upd2_at
  have Kd : ∀ k, k ≠ 0 → k ≠ 16 → gd k = gb k := fun k h0 h1 => (show gd k = gc k by rw [gde]; exact funext fun i => upd2_nk h1).trans (fc.2 k h0 (List.not_mem_nil))
  clear sc gde
  refine t_num hfu sd (fun r3 ge Le se fe v3 => ?_)
  refine Ex.ck (by omega) (by omega) ?_
  refine Ex.sti (se.I.updN rfl) (fun gf gfe hIf => ?_)
  have sf := by have := se.u (k := 17) (j := x10.toNatClampNeg) (x := r3) (by rw [← gfe]; exact hIf) (by decide) (by decide); rw [← gfe] at this; exact this
  have ff : Fr aN bL g gf := by rw [gfe]; exact (fd.tr (fe.mo (by decide) (by decide))).uk (by decide) (by decide)
  have Ff : FI l g gf := by rw [gfe, eN]; exact (Fd.f fe).a (by decide) (by decide)
  have V5 : gf 17 l = r3 := by rw [gfe, eN]; exact upd2_at
  have Kf : ∀ k, k ≠ 0 → k ≠ 17 → gf k = gd k := fun k h0 h1 => (show gf k = ge k by rw [gfe]; exact funext fun i => upd2_nk h1).trans (fe.2 k h0 (List.not_mem_nil))
  clear sd se gfe
  refine t_num hfu sf (fun r4 gg Lg sg fg v4 => ?_)
  refine Ex.ck (by omega) (by omega) ?_
  refine Ex.sti (sg.I.updN rfl) (fun gh ghe hIh => ?_)
  have sh := by have := sg.u (k := 24) (j := (0 + x10).toNatClampNeg) (x := r4) (by rw [← ghe]; exact hIh) (by decide) (by decide); rw [← ghe] at this; exact this
  have fh : Fr aN bL g gh := by rw [ghe]; exact (ff.tr (fg.mo (by decide) (by decide))).uk (by decide) (by decide)
  have Fh : FI l g gh := by rw [ghe, eN0]; exact (Ff.f fg).n hl12 (Or.inl rfl)
  have V6 : gh 24 l = r4 := by rw [ghe, eN0]; exact upd2_at
  have Kh : ∀ k, k ≠ 0 → k ≠ 24 → gh k = gf k := fun k h0 h1 => (show gh k = gg k by rw [ghe]; exact funext fun i => upd2_nk h1).trans (fg.2 k h0 (List.not_mem_nil))
  clear sf sg ghe
  refine t_num hfu sh (fun r5 gi Li si fi v5 => ?_)
  refine Ex.ck (by omega) (by omega) ?_
  refine Ex.sti (si.I.updN rfl) (fun gj gje hIj => ?_)
  have sj := by have := si.u (k := 24) (j := (24 + x10).toNatClampNeg) (x := r5) (by rw [← gje]; exact hIj) (by decide) (by decide); rw [← gje] at this; exact this
  have fj : Fr aN bL g gj := by rw [gje]; exact (fh.tr (fi.mo (by decide) (by decide))).uk (by decide) (by decide)
  have Fj : FI l g gj := by rw [gje, eN24]; exact (Fh.f fi).n hl12 (Or.inr (Or.inr (Or.inl rfl)))
  have V7 : gj 24 (24 + l) = r5 := by rw [gje, eN24]; exact upd2_at
  have V6j : gj 24 l = r4 := by rw [gje, eN24, upd2_nj (by omega), fi.2 24 (by decide) (List.not_mem_nil)]; exact V6
  have Kj : ∀ k, k ≠ 0 → k ≠ 24 → gj k = gh k := fun k h0 h1 => (show gj k = gi k by rw [gje]; exact funext fun i => upd2_nk h1).trans (fi.2 k h0 (List.not_mem_nil))
  clear sh si gje
  refine t_num hfu sj (fun r6 gk Lk sk' fk v6 => ?_)
  refine Ex.ck (by omega) (by omega) ?_
  refine Ex.sti (sk'.I.updN rfl) (fun gm gme hIm => ?_)
  have sm := by have := sk'.u (k := 18) (j := x10.toNatClampNeg) (x := r6) (by rw [← gme]; exact hIm) (by decide) (by decide); rw [← gme] at this; exact this
  have fm : Fr aN bL g gm := by rw [gme]; exact (fj.tr (fk.mo (by decide) (by decide))).uk (by decide) (by decide)
  have Fm : FI l g gm := by rw [gme, eN]; exact (Fj.f fk).a (by decide) (by decide)
  have V8 : gm 18 l = r6 := by rw [gme, eN]; exact upd2_at
  have Km : ∀ k, k ≠ 0 → k ≠ 18 → gm k = gj k := fun k h0 h1 => (show gm k = gk k by rw [gme]; exact funext fun i => upd2_nk h1).trans (fk.2 k h0 (List.not_mem_nil))
  clear sj sk' gme
  rw [eN]
  refine Ex.ck (by omega) (by omega) ?_
  refine Ex.sti (sm.I.updN rfl) (fun gn gne hIn => ?_)
  have sn := by have := sm.u (k := 19) (j := l) (x := 2) (by rw [← gne]; exact hIn) (by decide) (by decide); rw [← gne] at this; exact this
  have fn : Fr aN bL g gn := by rw [gne]; exact fm.uk (by decide) (by decide)
  have Fn : FI l g gn := by rw [gne]; exact Fm.a (by decide) (by decide)
  have V9n : gn 19 l = 2 := by rw [gne]; exact upd2_at
  have Kn : ∀ k, k ≠ 19 → gn k = gm k := fun k h1 => by rw [gne]; exact funext fun i => upd2_nk h1
  clear sm gne
  refine Ex.ck (by omega) (by omega) ?_
  refine Ex.sti (sn.I.updN rfl) (fun go goe hIo => ?_)
  have so := by have := sn.u (k := 20) (j := l) (x := 0) (by rw [← goe]; exact hIo) (by decide) (by decide); rw [← goe] at this; exact this
  have fo : Fr aN bL g go := by rw [goe]; exact fn.uk (by decide) (by decide)
  have o20 : go 20 l = 0 := by rw [goe]; exact upd2_at
  have Fo : FI l g go := by rw [goe]; exact Fn.a (by decide) (by decide)
  have Ko : ∀ k, k ≠ 20 → go k = gn k := fun k h1 => by rw [goe]; exact funext fun i => upd2_nk h1
  clear sn goe
  refine Ex.ck (by omega) (by omega) ?_
  refine Ex.sti (so.I.upd (lo := 0) (hi := 6) rfl (by decide) (by decide)) (fun gq gqe hIq => ?_)
  have sq := by have := so.u (k := 22) (j := l) (x := 0) (by rw [← gqe]; exact hIq) (by decide) (by decide); rw [← gqe] at this; exact this
  have fq : Fr aN bL g gq := by rw [gqe]; exact fo.uk (by decide) (by decide)
  have q20 : (gq 20 l).toInt = 0 := by rw [gqe, upd2_nk (by decide), o20]; rfl
  have Fq : FI l g gq := by rw [gqe]; exact Fo.a (by decide) (by decide)
  have V22 : (gq 22 l).toInt = 0 := by rw [gqe, upd2_at]; rfl
  have Kq : ∀ k, k ≠ 22 → gq k = go k := fun k h1 => by rw [gqe]; exact funext fun i => upd2_nk h1
  have W9 : (gq 19 l).toInt = 2 := by rw [Kq 19 (by decide), Ko 19 (by decide), V9n]; rfl
  have W8 : gq 18 l = r6 := by rw [Kq 18 (by decide), Ko 18 (by decide), Kn 18 (by decide)]; exact V8
  have W24 : gq 24 = gj 24 := by rw [Kq 24 (by decide), Ko 24 (by decide), Kn 24 (by decide), Km 24 (by decide) (by decide)]
  have W7 : gq 24 (24 + l) = r5 := by rw [W24]; exact V7
  have W6 : gq 24 l = r4 := by rw [W24]; exact V6j
  have W5 : gq 17 l = r3 := by rw [Kq 17 (by decide), Ko 17 (by decide), Kn 17 (by decide), Km 17 (by decide) (by decide), Kj 17 (by decide) (by decide), Kh 17 (by decide) (by decide)]; exact V5
  have W4 : gq 16 l = r2 := by rw [Kq 16 (by decide), Ko 16 (by decide), Kn 16 (by decide), Km 16 (by decide) (by decide), Kj 16 (by decide) (by decide), Kh 16 (by decide) (by decide), Kf 16 (by decide) (by decide)]; exact V4
  have W3 : gq 15 l = r1 := by rw [Kq 15 (by decide), Ko 15 (by decide), Kn 15 (by decide), Km 15 (by decide) (by decide), Kj 15 (by decide) (by decide), Kh 15 (by decide) (by decide), Kf 15 (by decide) (by decide), Kd 15 (by decide) (by decide)]; exact b15
  clear so gqe o20 V4 V5 V6 V7 V8 V6j V9n Kq Ko Kn Km Kj Kh Kf Kd b15
  generalize hσ : bn (bn (bn (bn (bn (nuS b n 0 999 (nx b n P)) (nuS b n (tV b n (nx b n P) + 1) 999)) (nuS b n (Int32.toInt 1) (Int32.toInt 200))) (nuS b n (Int32.toInt 0) (Int32.toInt 60))) (nuS b n (Int32.toInt 0) (Int32.toInt 9))) (nuS b n (Int32.toInt 1) (Int32.toInt 99)) = σ at sq
  have num : ∀ Q, σ = .ok Q → Q = nxI b n 7 P ∧ r1.toInt = leV b n P 3 ∧ r2.toInt = leV b n P 4 ∧ r3.toInt = leV b n P 5 ∧ r4.toInt = leV b n P 6 ∧ r5.toInt = leV b n P 7 ∧ r6.toInt = leV b n P 8 := by
    intro Q hQ
    rw [← hσ] at hQ
    obtain ⟨P6, b6, c6, d6⟩ := nu_ok hQ (fun P' e h => v6 P' e h)
    obtain ⟨P5, b5, c5, d5⟩ := nu_ok b6 (fun P' e h => v5 P' e h)
    obtain ⟨P4, b4, c4, d4⟩ := nu_ok b5 (fun P' e h => v4 P' e h)
    obtain ⟨P3, b3, c3, d3⟩ := nu_ok b4 (fun P' e h => v3 P' e h)
    obtain ⟨P2, b2, c2⟩ := bn_inv b3
    have n1 := nuS_ok b2
    have n2 := nuS_ok c2
    have d1 := v1 _ rfl n1.1
    have d2 := v2 P2 b2 (by
      have e : (r1 + 1).toInt = tV b n (nx b n P) + 1 := by
        have h1 := n1.1.2.2.1
        have h2 := n1.1.2.2.2
        exact ic_addc d1 (by decide) (by omega) (by omega)
      rw [e]; exact n2.1)
    obtain rfl : P2 = nxI b n 2 P := n1.2
    obtain rfl : P3 = nxI b n 3 P := n2.2
    obtain rfl : P4 = nxI b n 4 P := c3
    obtain rfl : P5 = nxI b n 5 P := c4
    obtain rfl : P6 = nxI b n 6 P := c5
    exact ⟨c6, d1, d2, d3, d4, d5, d6⟩
  clear v1 v2 v3 v4 v5 v6
  have hle : leS b n (l : Int) P = bn σ (tlS b n (l : Int)) := by
    rw [← hσ, bn_as, bn_as, bn_as, bn_as, bn_as]; rfl
  rw [hle]
  have key : ∀ (R : sR), (∀ Q, R = .ok Q → Q = nxI b n 7 P ∧ r1.toInt = leV b n P 3 ∧ r2.toInt = leV b n P 4 ∧ r3.toInt = leV b n P 5 ∧ r4.toInt = leV b n P 6 ∧ r5.toInt = leV b n P 7 ∧ r6.toInt = leV b n P 8) → SM b n R gq Lk → Ex (cb (fX12_isGood fu gq Lk) (fun x44 g45 L46 => if x44 = 0 then fX12_readsLesson_p160 fu x10 (-1) g45 L46 else cb (fX12_knownWord fu g45 L46) (fun x88 g89 L90 => fX12_readsLesson_p160 fu x10 x88 g89 L90))) (fun (_ : Unit) g1 L1 => SM b n (bn R (tlS b n l)) g1 L1 ∧ (∀ Q, bn R (tlS b n l) = .ok Q → (g1 0 30).toInt = (l : Int) + 1 ∧ LM b n P l g1 ∧ FI l g g1)) := by
    intro R hnum hs
    cases R with
    | error p =>
      refine e_good (fun h => absurd h hs.2.2.1) (fun _ => ?_)
      unfold fX12_readsLesson_p160
      rw [if_neg (by decide), if_neg (by decide)]
      exact P217 (.error p) gq Lk hs fq Fq (fun R h => nomatch h)
    | ok Q =>
      have hs : cM b n Q gq Lk := hs
      refine e_good (fun _ => ?_) (fun hb => absurd hs.c.2.2.2.2.2.2.2.2.2.2.2.1 hb)
      refine m_known hfu hs (fun x hx => ?_)
      have w6 := isW_k (k := 6) (by decide) hx
      have w7 := isW_k (k := 7) (by decide) hx
      rw [bn_ok]
      unfold tlS
      obtain ⟨eq7, n3, n4, n5, n6, n7, n8⟩ := hnum Q rfl
      unfold fX12_readsLesson_p160 fX12_readsLesson_p173 fX12_readsLesson_p189
      rw [eN]
      by_cases c6 : x = 6
      · have h6 : isW b n Q 6 := w6.mp (by rw [c6]; rfl)
        rw [if_pos c6, if_pos c6, wB_t h6, if_pos (show (true = true) from rfl)]
        refine Ex.ck (by omega) (by omega) ?_
        refine Ex.sti (hs.1.updN rfl) (fun ha hae hIa => ?_)
        have ta : cM b n Q ha Lk := by rw [hae] at hIa ⊢; exact SM.u (r := .ok Q) hs hIa (by decide) (by decide)
        have ua : Fr aN bL g ha := by rw [hae]; exact fq.uk (by decide) (by decide)
        have a20 : (ha 20 l).toInt = 0 := by rw [hae, upd2_nk (by decide)]; exact q20
        have Fa : FI l g ha := by rw [hae]; exact Fq.a (by decide) (by decide)
        have a19 : (ha 19 l).toInt = 0 := by rw [hae, upd2_at]; rfl
        have Ka : ∀ k, k ≠ 19 → ha k = gq k := fun k h1 => by rw [hae]; exact funext fun i => upd2_nk h1
        refine m_goes hfu ta (fun hb Lb tb fb2 => ?_)
        rw [if_neg (by rw [c6]; decide)]
        have k := P213 (.ok (nx b n Q)) hb Lb 0 tb (ua.tr (fb2.mo (by decide) (by decide))) (Fa.f fb2) (by rw [fb2.2 20 (by decide) (by decide)]; exact a20) (fun R hR g1 hk hw => by
          cases hR
          have Kb : ∀ k, 15 ≤ k → k ≠ 22 → k ≠ 23 → g1 k = ha k := fun k a c d => (hk k a c d).trans (fb2.2 k (by omega) (List.not_mem_nil))
          have e1 : leL b n Q = waL b n 8 [] (nx b n Q) := by unfold leL; rw [wB_t h6]; rfl
          rw [eNM]
          refine ⟨Q, eq7, by rw [e1], ?_, ?_, ?_, ?_, ?_, ?_, ?_, ?_, by rw [e1]; exact hw⟩
          · rw [Kb 15 (by decide) (by decide) (by decide), Ka 15 (by decide), W3]; exact n3
          · rw [Kb 16 (by decide) (by decide) (by decide), Ka 16 (by decide), W4]; exact n4
          · rw [Kb 17 (by decide) (by decide) (by decide), Ka 17 (by decide), W5]; exact n5
          · rw [Kb 24 (by decide) (by decide) (by decide), Ka 24 (by decide), W6]; exact n6
          · rw [Kb 24 (by decide) (by decide) (by decide), Ka 24 (by decide), W7]; exact n7
          · rw [Kb 18 (by decide) (by decide) (by decide), Ka 18 (by decide), W8]; exact n8
          · rw [Kb 19 (by decide) (by decide) (by decide), a19]; show 0 = if wB b n (nxI b n 7 P) 6 then (0 : Int) else if wB b n (nxI b n 7 P) 7 then 1 else 2; rw [← eq7, wB_t h6]; rfl
          · rw [Kb 20 (by decide) (by decide) (by decide), a20]; show 0 = if wB b n (nxI b n 7 P) 6 then (0 : Int) else if wB b n (nxI b n 7 P) 7 then _ else 0; rw [← eq7, wB_t h6]; rfl)
        rw [bn_ok] at k
        exact k
      have h6 : ¬ isW b n Q 6 := fun h => c6 (ic_eq.mpr (w6.mpr h))
      rw [if_neg c6, wB_f h6, if_neg (show ¬ (false = true) by decide)]
      by_cases c7 : x = 7
      · have h7' : isW b n Q 7 := w7.mp (by rw [c7]; rfl)
        rw [if_pos c7, if_neg c6, wB_t h7', if_pos (show (true = true) from rfl)]
        refine Ex.ck (by omega) (by omega) ?_
        refine Ex.sti (hs.1.updN rfl) (fun ha hae hIa => ?_)
        have ta : cM b n Q ha Lk := by rw [hae] at hIa ⊢; exact SM.u (r := .ok Q) hs hIa (by decide) (by decide)
        have ua : Fr aN bL g ha := by rw [hae]; exact fq.uk (by decide) (by decide)
        refine m_goes hfu ta (fun hb Lb tb fb2 => ?_)
        rw [if_pos c7]
        refine t_num (r := .ok (nx b n Q)) hfu tb (fun r8 hc' Lc' tc fc2 v8 => ?_)
        rw [bn_ok] at tc
        have tc : SM b n (nuS b n 1 6 (nx b n Q)) hc' Lc' := tc
        refine Ex.ck (by omega) (by omega) ?_
        refine Ex.sti (tc.I.updN rfl) (fun hd hde hId2 => ?_)
        have td : SM b n (nuS b n 1 6 (nx b n Q)) hd Lc' := by rw [hde] at hId2 ⊢; exact tc.u hId2 (by decide) (by decide)
        have ud : Fr aN bL g hd := by rw [hde]; exact ((ua.tr (fb2.mo (by decide) (by decide))).tr (fc2.mo (by decide) (by decide))).uk (by decide) (by decide)
        have d20 : hd 20 l = r8 := by rw [hde]; exact upd2_at
        have Fa : FI l g ha := by rw [hae]; exact Fq.a (by decide) (by decide)
        have Fd2 : FI l g hd := by rw [hde]; exact ((Fa.f fb2).f fc2).a (by decide) (by decide)
        have a19 : (ha 19 l).toInt = 1 := by rw [hae, upd2_at]; rfl
        have Ka : ∀ k, k ≠ 19 → ha k = gq k := fun k h1 => by rw [hae]; exact funext fun i => upd2_nk h1
        have Kd : ∀ k, k ≠ 0 → k ≠ 20 → hd k = ha k := fun k h0 h1 => ((show hd k = hc' k by rw [hde]; exact funext fun i => upd2_nk h1).trans (fc2.2 k h0 (List.not_mem_nil))).trans (fb2.2 k h0 (List.not_mem_nil))
        have k := P213 (nuS b n 1 6 (nx b n Q)) hd Lc' r8.toInt td ud Fd2 (by rw [d20]) (fun R hR g1 hk hw => by
          have m8 := nuS_ok hR
          have Kb : ∀ k, 15 ≤ k → k ≠ 22 → k ≠ 23 → k ≠ 20 → g1 k = ha k := fun k a c d e => (hk k a c d).trans (Kd k (by omega) e)
          have e1 : leL b n Q = waL b n 8 [] (nx b n (nx b n Q)) := by unfold leL; rw [wB_f h6, if_neg (by decide), wB_t h7']; rfl
          rw [m8.2] at hw ⊢
          rw [eNM]
          refine ⟨Q, eq7, by rw [e1], ?_, ?_, ?_, ?_, ?_, ?_, ?_, ?_, by rw [e1]; exact hw⟩
          · rw [Kb 15 (by decide) (by decide) (by decide) (by decide), Ka 15 (by decide), W3]; exact n3
          · rw [Kb 16 (by decide) (by decide) (by decide) (by decide), Ka 16 (by decide), W4]; exact n4
          · rw [Kb 17 (by decide) (by decide) (by decide) (by decide), Ka 17 (by decide), W5]; exact n5
          · rw [Kb 24 (by decide) (by decide) (by decide) (by decide), Ka 24 (by decide), W6]; exact n6
          · rw [Kb 24 (by decide) (by decide) (by decide) (by decide), Ka 24 (by decide), W7]; exact n7
          · rw [Kb 18 (by decide) (by decide) (by decide) (by decide), Ka 18 (by decide), W8]; exact n8
          · rw [Kb 19 (by decide) (by decide) (by decide) (by decide), a19]; show 1 = if wB b n (nxI b n 7 P) 6 then (0 : Int) else if wB b n (nxI b n 7 P) 7 then 1 else 2; rw [← eq7, wB_f h6, wB_t h7']; rfl
          · rw [hk 20 (by decide) (by decide) (by decide), d20, v8 _ rfl m8.1]; show _ = if wB b n (nxI b n 7 P) 6 then (0 : Int) else if wB b n (nxI b n 7 P) 7 then _ else 0; rw [← eq7, wB_f h6, wB_t h7']; rfl)
        have e9 : bn (nuS b n 1 6 (nx b n Q)) (fun P => bn (waS b n l r8.toInt 8 [] P) (ops b n)) = bn (nuS b n 1 6 (nx b n Q)) (fun P => bn (waS b n l (tV b n (nx b n Q)) 8 [] P) (ops b n)) := by
          refine bn_cg (fun Q' hQ' => ?_)
          have hn : nuC b n 1 6 (nx b n Q) := by
            by_cases h : nuC b n 1 6 (nx b n Q)
            · exact h
            · unfold nuS at hQ'; rw [nB_f h] at hQ'; exact nomatch hQ'
          rw [v8 _ rfl hn]
        rw [e9] at k
        exact k
      have h7' : ¬ isW b n Q 7 := fun h => c7 (ic_eq.mpr (w7.mpr h))
      rw [if_neg c7, wB_f h7', if_neg (show ¬ (false = true) by decide)]
      have k := P217 (.ok Q) gq Lk hs fq Fq (fun R hR => by
        cases hR
        have e1 : leL b n Q = ([], Q) := by unfold leL; rw [wB_f h6, if_neg (by decide), wB_f h7', if_neg (by decide)]
        rw [eNM]
        refine ⟨Q, eq7, by rw [e1], by rw [W3]; exact n3, by rw [W4]; exact n4, by rw [W5]; exact n5, by rw [W6]; exact n6, by rw [W7]; exact n7, by rw [W8]; exact n8, ?_, ?_, ?_, fun i hi => ?_⟩
        · rw [W9]; show 2 = if wB b n (nxI b n 7 P) 6 then (0 : Int) else if wB b n (nxI b n 7 P) 7 then 1 else 2; rw [← eq7, wB_f h6, wB_f h7']; rfl
        · rw [q20]; show 0 = if wB b n (nxI b n 7 P) 6 then (0 : Int) else if wB b n (nxI b n 7 P) 7 then _ else 0; rw [← eq7, wB_f h6, wB_f h7']; rfl
        · rw [e1]; exact V22
        · rw [e1] at hi; exact absurd hi (Nat.not_lt_zero _))
      rw [bn_ok] at k
      exact k
  exact key _ num sq
