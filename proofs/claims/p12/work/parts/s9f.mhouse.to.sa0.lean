section
/-! ===== the reference's lines, the whole text ===== -/
theorem t_expr {fu : Nat} (hfu : 1180591620717411303424 ≤ fu) {b : Nat → Int32} {n P : Nat} {g : gT} {L : lT} (hc : cM b n P g L) (hb : (g 0 35).toInt + 2 ≤ 2 * (g 0 25).toInt) : Ex (fX12_expression fu g L) (fun (_ : Unit) g1 L1 => Sm b n (xsP b n P) g1 ∧ (∀ Q, xsP b n P = .ok Q → StR (gP g) (enc (xc b n P) ++ [0]) [] g1)) := by
  obtain ⟨a1, a2, a3, a4, a5, a6, a7, a8, a9, a10, a11, a12, a13, a14⟩ := id hc
  have hp := hc.pn
  have q35 := a1 0 35 0 1900 rfl
  have q25 := a1 0 25 0 700 rfl
  generalize hs : gP g = s
  generalize hgb : upd2 (upd2 g 0 36 0) 0 37 0 = gb
  have hIb : zI MT gb := by rw [← hgb]; exact (a1.upd (lo := 0) (hi := 950) rfl (by decide) (by decide)).updN rfl
  have hFb : Fr [36, 37] [] g gb := by rw [← hgb]; exact (Fr.refl.u0 (by decide)).u0 (by decide)
  have s36 : (gb 0 36).toInt = 0 := by rw [← hgb]; rfl
  have s37 : gb 0 37 = 0 := by rw [← hgb]; rfl
  have h0 : xI g s 0 1 0 0 gb := by
    have f19 := hFb.i (j := 19) (by decide)
    have f25 := hFb.i (j := 25) (by decide)
    have f35 := hFb.i (j := 35) (by decide)
    have f26 : gb 26 = g 26 := hFb.2 26 (by decide) (by decide)
    have eW : gW gb = 0 := by show (gb 0 36).toInt.toNat = 0; omega
    have eP : gP gb = s := by rw [← hs]; show (gb 0 35).toInt.toNat = (g 0 35).toInt.toNat; rw [f35]
    have hs' : (s : Int) = (g 0 35).toInt := by rw [← hs]; show (((g 0 35).toInt.toNat : Nat) : Int) = _; omega
    refine ⟨hIb, hFb.mo (by decide) (by decide), hp.fr hFb (by decide) (by decide) (by decide) (by decide), by omega, by omega, by omega, by omega, fun j hj => by rw [f26], fun _ => ⟨by omega, ?_⟩⟩
    unfold xC
    rw [eW, eP, s37]
    exact ⟨fun i hi => absurd hi (Nat.not_lt_zero _), rfl, by decide, 0, 0, ⟨rfl, rfl⟩, rfl⟩
  have hcb : cM b n P gb L := hc.fr hIb hFb (by decide) (by decide) (by decide) (by decide) (by decide) (by decide) (by decide) (by decide) (by decide) (by decide)
  have hgb19 : (gb 0 19).toInt = 0 := hcb.c.2.2.2.2.2.2.2.2.2.2.2.1
  generalize hgc : upd2 (upd2 gb 0 37 1) 28 1 (vp_nar .boolean 0) = gc
  have edp : fX12_deeper fu gb L = some ((), (gc, L)) := by
    rw [← hgc]
    unfold fX12_deeper
    rw [s37, if_neg (by decide)]
    rfl
  obtain ⟨u, gc', Lc', ec', hx, -⟩ := sX12_deeper fu g gb L s h0 hgb19
  have hxc : xI g s 0 0 0 0 gc := by
    rw [edp] at ec'
    cases ec'
    exact hx
  clear ec' hx
  have hFc : Fr [37] [28] gb gc := by rw [← hgc]; exact (Fr.refl.u0 (by decide)).uk (by decide) (by decide)
  have hcc : cM b n P gc L := hcb.fr hxc.1 hFc (by decide) (by decide) (by decide) (by decide) (by decide) (by decide) (by decide) (by decide) (by decide) (by decide)
  have c37 : (gc 0 37).toInt = ((0 : Nat) : Int) + 1 := by rw [← hgc]; rfl
  have c28 : (gc 28 (0 + 1)).toInt = 0 := by rw [← hgc, upd2_at]; decide
  have hSb : StR s [] [] gb := by
    refine ⟨?_, fun i hi => absurd hi (Nat.not_lt_zero _), ?_⟩
    · show (gb 0 35).toInt.toNat = s + 0
      rw [hFb.i (by decide), ← hs]; rfl
    · show (gb 0 36).toInt.toNat = 0
      omega
  have hSc : StR s [] [] gc := hSb.f hFc (by decide) (by decide) (by decide) (by decide)
  have eR : fX12_expression fu g L = Cl fu fu fu 1 gc L := by
    unfold fX12_expression
    refine q_cb (good_eq a13) (q_f (by decide) (q_sti (q_sti ?_)))
    rw [hgb]
    exact q_cb edp rfl
  have hxF : xF = 11240 := rfl
  have k := (sim hfu b n a2 g s xF).2.2.2.1 6 (Or.inr rfl) [] [] 0 P fu fu gc L (by decide) ⟨hcc, hxc, c37⟩ hSc trivial c28 (by omega) (by omega) (by omega)
  rw [eR]
  unfold xsP
  cases hxs : xs b n xF 6 0 [] P with
  | error p =>
    rw [hxs] at k
    obtain ⟨g1, L1, e1, h1, -⟩ := k
    exact ⟨(), g1, L1, e1, h1, fun Q hQ => nomatch hQ⟩
  | ok q =>
    rw [hxs] at k
    obtain ⟨g2, L2, m2, e2, z1, z2, z3, z4, e1', pd, z6, z7, z8⟩ := k
    obtain ⟨⟨⟨p1, p2⟩, p3, p4⟩, p5, p6⟩ := xs_post xF 6 0 [] P q.1 q.2 hxs trivial
    have z5 := z1.le
    obtain ⟨m2, rfl⟩ : ∃ m', m2 = m' + 2 := ⟨m2 - 2, by omega⟩
    obtain ⟨L', e3⟩ := D_stop hfu (m := m2) z1 p5 p6 z4 p3 p4 p1 p2 (fun _ => rfl)
    obtain ⟨g1, L1, e4, h4, f4, h5⟩ := p345_eq hfu (L := L') z1.2.1
    have h6 := h5 e1' pd (by rw [List.append_nil] at z6; exact z6) (z7.mo (by decide))
    rw [z8] at h6
    have exc : xc b n P = q.1 := by unfold xc; rw [hxs]
    refine ⟨(), g1, L1, ?_, z1.1.c.fr h4.1 f4 (by decide) (by decide) (by decide) (by decide) (by decide) (by decide) (by decide) (by decide) (by decide) (by decide), fun Q _ => by rw [exc]; exact h6⟩
    rw [e2, e3]
    unfold fX12_expression_p325
    have z37 := z1.2.2
    exact q_cb (good_eq z1.g) (q_f (by decide) (q_t (by
      refine Int32.le_iff_toInt_le.mpr ?_
      show (g2 0 37).toInt ≤ 1
      omega) e4))
/-- walk and stair told -/
def tb (w s : Bool) : Int32 := match w, s with
  | false, false => 0
  | true, false => 2048
  | false, true => 4096
  | true, true => 6144
theorem tb_11 (w s : Bool) : ((((tb w s : Int32) >>> ((11 : Int32) &&& 31) : Int32) &&& 1) = 1 ↔ w = true) ∧ (tb w s ||| ((1 : Int32) <<< ((11 : Int32) &&& 31) : Int32)) = tb true s := by cases w <;> cases s <;> decide
theorem tb_12 (w s : Bool) : ((((tb w s : Int32) >>> ((12 : Int32) &&& 31) : Int32) &&& 1) = 1 ↔ s = true) ∧ (tb w s ||| ((1 : Int32) <<< ((12 : Int32) &&& 31) : Int32)) = tb w true := by cases w <;> cases s <;> decide
def tn (t : tS) (g : gT) : Prop := (g 0 30).toInt = (t.1 : Int) ∧ (g 0 31).toInt = (t.2.1 : Int) ∧ g 0 34 = tb t.2.2.1 t.2.2.2
theorem tn.fr {t : tS} {g g1 : gT} {A B : List Nat} (h : tn t g) (hF : Fr A B g g1) (h30 : 30 ∉ A) (h31 : 31 ∉ A) (h34 : 34 ∉ A) : tn t g1 := ⟨(hF.i h30).trans h.1, (hF.i h31).trans h.2.1, (hF.1 34 h34).trans h.2.2⟩
/-- where a rule's code begins, as the reference keeps it -/
def oM (b : Nat → Int32) (n : Nat) (ρ : Nat → Nat) : Nat → Nat
  | 0 => 0
  | r + 1 => oM b n ρ r + ((enc (xc b n (ρ r))).length + 1)
theorem oM_up {b : Nat → Int32} {n : Nat} {ρ : Nat → Nat} {k v : Nat} : ∀ {r : Nat}, r ≤ k → oM b n (upN ρ k v) r = oM b n ρ r := by
  intro r
  induction r with
  | zero => intro _; rfl
  | succ r ih =>
    intro h
    show oM b n (upN ρ k v) r + ((enc (xc b n (upN ρ k v r))).length + 1) = oM b n ρ r + ((enc (xc b n (ρ r))).length + 1)
    rw [ih (by omega), upN_ne (by omega)]
theorem oM_le {b : Nat → Int32} {n : Nat} {ρ : Nat → Nat} {k : Nat} : ∀ {r : Nat}, k ≤ r → oM b n ρ k ≤ oM b n ρ r := by
  intro r
  induction r with
  | zero => intro h; obtain rfl : k = 0 := by omega
            exact Nat.le_refl _
  | succ r ih =>
    intro h
    by_cases e : k = r + 1
    · rw [e]; exact Nat.le_refl _
    · exact Nat.le_trans (ih (by omega)) (Nat.le_add_right _ _)
def RM (b : Nat → Int32) (n m : Nat) (ρ : Nat → Nat) (u : Int) (at_ co : Nat → Int32) : Prop := (∀ r, r < m → (at_ r).toInt = (oM b n ρ r : Int)) ∧ u = (oM b n ρ m : Int) ∧ ∀ r, r < m → ∀ i (hi : i < (enc (xc b n (ρ r)) ++ [0]).length), (co (oM b n ρ r + i)).toInt = (enc (xc b n (ρ r)) ++ [0])[i]
/-- the new plan of the reference holds what the lines have told -/
def dM (b : Nat → Int32) (n : Nat) (t : tS) (D : dT) (g : gT) : Prop := (∀ i, i < t.1 → LM b n (D.1 i) i g) ∧ (g 0 32).toInt = D.2.2.1 ∧ (g 0 33).toInt = D.2.2.2 ∧ RM b n t.2.1 D.2.1 (g 0 35).toInt (g 25) (g 26)
theorem LM.c {b : Nat → Int32} {n P l : Nat} {g g1 : gT} (h : LM b n P l g) (hk : ∀ k, 15 ≤ k → k ≤ 24 → g1 k = g k) : LM b n P l g1 := by
  obtain ⟨y2, y3, y4, y5, y6, y7, y8, y9, y10, y11, y12, y13, y14⟩ := h
  refine ⟨?_, ?_, ?_, ?_, ?_, ?_, ?_, ?_, ?_, ?_, ?_, ?_, fun i hi => ?_⟩
  · rw [hk 15 (by decide) (by decide)]; exact y2
  · rw [hk 16 (by decide) (by decide)]; exact y3
  · rw [hk 17 (by decide) (by decide)]; exact y4
  · rw [hk 24 (by decide) (by decide)]; exact y5
  · rw [hk 24 (by decide) (by decide)]; exact y6
  · rw [hk 18 (by decide) (by decide)]; exact y7
  · rw [hk 19 (by decide) (by decide)]; exact y8
  · rw [hk 20 (by decide) (by decide)]; exact y9
  · rw [hk 24 (by decide) (by decide)]; exact y10
  · rw [hk 21 (by decide) (by decide)]; exact y11
  · rw [hk 24 (by decide) (by decide)]; exact y12
  · rw [hk 22 (by decide) (by decide)]; exact y13
  · rw [hk 23 (by decide) (by decide)]; exact y14 i hi
theorem LM.i {b : Nat → Int32} {n P l i : Nat} {g g1 : gT} (hI : zI MT g) (h : LM b n P i g) (hF : FI l g g1) (hi : i < l) (hl : l < 12) : LM b n P i g1 := by
  obtain ⟨y2, y3, y4, y5, y6, y7, y8, y9, y10, y11, y12, y13, y14⟩ := h
  obtain ⟨f1, f2, f3⟩ := hF
  have e0 := f3 0 i (by decide) hi
  have e1 := f3 1 i (by decide) hi
  have e2 := f3 2 i (by decide) hi
  have e3 := f3 3 i (by decide) hi
  rw [show 12 * 0 + i = i by omega] at e0
  refine ⟨?_, ?_, ?_, ?_, ?_, ?_, ?_, ?_, ?_, ?_, ?_, ?_, fun j hj => ?_⟩
  · rw [f1 15 i (by decide) (by decide) hi]; exact y2
  · rw [f1 16 i (by decide) (by decide) hi]; exact y3
  · rw [f1 17 i (by decide) (by decide) hi]; exact y4
  · rw [e0]; exact y5
  · rw [e2]; exact y6
  · rw [f1 18 i (by decide) (by decide) hi]; exact y7
  · rw [f1 19 i (by decide) (by decide) hi]; exact y8
  · rw [f1 20 i (by decide) (by decide) hi]; exact y9
  · rw [e3]; exact y10
  · rw [f1 21 i (by decide) (by decide) hi]; exact y11
  · rw [e1]; exact y12
  · rw [f1 22 i (by decide) (by decide) hi]; exact y13
  · by_cases h6 : j < 6
    · rw [f2 (6 * i + j) (by omega)]; exact y14 j hj
    · have q22 := hI 22 i 0 6 rfl
      exact absurd hj (by omega)
theorem dM.f {b : Nat → Int32} {n : Nat} {t : tS} {D : dT} {g g1 : gT} {A B : List Nat} (h : dM b n t D g) (hF : Fr A B g g1) (hB : ∀ k, 15 ≤ k → k ≤ 26 → k ∉ B) (h32 : 32 ∉ A) (h33 : 33 ∉ A) (h35 : 35 ∉ A) : dM b n t D g1 := by
  obtain ⟨h1, h2, h3, h4⟩ := h
  refine ⟨fun i hi => (h1 i hi).c (fun k a c => hF.2 k (by omega) (hB k a (by omega))), ?_, ?_, ?_⟩
  · rw [hF.i h32]; exact h2
  · rw [hF.i h33]; exact h3
  · rw [hF.i h35, hF.2 25 (by decide) (hB 25 (by decide) (by decide)), hF.2 26 (by decide) (hB 26 (by decide) (by decide))]; exact h4
def MP (b : Nat → Int32) (n : Nat) (r : Except Nat (tS × Nat)) (D : dT) (g : gT) (L : lT) : Prop := match r with
  | .error p => bM p g
  | .ok q => cM b n q.2 g L ∧ tn q.1 g ∧ dM b n q.1 D g
theorem t_fin {fu : Nat} (hfu : 1180591620717411303424 ≤ fu) {b : Nat → Int32} {n : Nat} {t : tS} {D : dT} {r : sR} {g : gT} {L : lT} (h : Sm b n r g) (ht : ∀ Q, r = .ok Q → tn t g ∧ dM b n t D g) : Ex (fX12_line_p170 fu g L) (fun (_ : Unit) g1 L1 => MP b n (fnS b n r t) D g1 L1) := by
  refine (t_170 hfu h).mono (fun _ g1 L1 hq => ?_)
  obtain ⟨s1, f1⟩ := hq
  unfold fnS
  cases r with
  | error p => exact s1
  | ok Q =>
    have ht := ht Q rfl
    rw [bn_ok] at s1 ⊢
    unfold sgS at s1 ⊢
    rcases sB_d b n Q 59 with ⟨hs, e⟩ | ⟨hs, e⟩
    · rw [e] at s1 ⊢
      exact ⟨s1, ht.1.fr f1 (by decide) (by decide) (by decide), ht.2.f f1 (fun k _ _ => List.not_mem_nil) (by decide) (by decide) (by decide)⟩
    · rw [e] at s1 ⊢
      exact s1
set_option maxHeartbeats 4000000 in
theorem t_line {fu : Nat} (hfu : 1180591620717411303424 ≤ fu) {b : Nat → Int32} {n P : Nat} {t : tS} {D : dT} {g : gT} {L : lT} (hc : cM b n P g L) (ht : tn t g) (hD : dM b n t D g) (hd : gd g) : Ex (fX12_line fu g L) (fun (_ : Unit) g1 L1 => MP b n (liS b n t P) (liD b n t D P) g1 L1) := by
  have hg : (g 0 19).toInt = 0 := hc.c.2.2.2.2.2.2.2.2.2.2.2.1
  unfold fX12_line
  refine m_known hfu hc (fun x hx => ?_)
  have w5 := isW_k (k := 5) (by decide) hx
  have w11 := isW_k (k := 11) (by decide) hx
  have w12 := isW_k (k := 12) (by decide) hx
  have w13 := isW_k (k := 13) (by decide) hx
  clear hx
  unfold liS liD
  -- a lesson
  by_cases c5 : x = 5
  · have h5 : isW b n P 5 := w5.mp (by rw [c5]; rfl)
    rw [if_pos c5, wB_t h5, if_pos (show (true = true) from rfl), if_pos (show (true = true) from rfl)]
    have hs : (g 0 24).toInt ≠ 0 := by rw [hc.c.2.2.2.2.2.2.1]; exact fun h => by have := sM_0.mp h; have := h5.1; omega
    refine Ex.cb ((t_lesson hfu hc ht.1).and (sX12_readsLesson fu hfu g L hc.1 hc.pn hs)) (fun _ g1 L1 hq => ?_)
    obtain ⟨⟨h1, h2⟩, h3⟩ := hq
    refine t_fin hfu h1.m (fun Q hQ => ?_)
    obtain ⟨e, eL, eF⟩ := h2 Q hQ
    have hl12 : t.1 < 12 := by
      by_cases hh : t.1 < 12
      · exact hh
      · rw [if_neg hh] at hQ; exact nomatch hQ
    obtain ⟨z1, z2, z3, z4⟩ := hD
    refine ⟨⟨by rw [e]; show (t.1 : Int) + 1 = ((t.1 + 1 : Nat) : Int); omega, (h3.2.1.i (by decide)).trans ht.2.1, (h3.2.1.1 34 (by decide)).trans ht.2.2⟩, fun i hi => ?_, ?_, ?_, ?_⟩
    · have hi : i < t.1 + 1 := hi
      show LM b n (upN D.1 t.1 P i) i g1
      by_cases ei : i = t.1
      · rw [ei, upN_at]; exact eL
      · rw [upN_ne ei]; exact LM.i hc.1 (z1 i (by omega)) eF (by omega) hl12
    · rw [h3.2.1.i (by decide)]; exact z2
    · rw [h3.2.1.i (by decide)]; exact z3
    · rw [h3.2.1.i (by decide), h3.2.1.2 25 (by decide) (by decide), h3.2.1.2 26 (by decide) (by decide)]; exact z4
  have h5 : ¬ isW b n P 5 := fun h => c5 (ic_eq.mpr (w5.mpr h))
  rw [if_neg c5, wB_f h5, if_neg (show ¬ (false = true) by decide), if_neg (show ¬ (false = true) by decide)]
  -- walk, stair
  have bad46 : ∀ (v1 : Int32) (g1 : gT) (L1 : lT), bM P g1 → Ex (fX12_line_p46 fu v1 g1 L1) (fun (_ : Unit) g2 L2 => bM P g2) := by
    intro v1 g1 L1 hb
    unfold fX12_line_p46
    exact e_good (fun h => absurd h hb.2.2.1) (fun _ => Ex.ret hb)
  have num : ∀ (lo hi : Int32) (j : Nat) (x34 : Int32) (tt : tS) (DD : dT) (gb : gT) (Lb : lT) (K : Int32 → gT → lT → Option (Unit × zS)), (j = 32 ∨ j = 33) → cM b n (nx b n P) gb Lb → tn tt gb → (∀ (r : Int32) (gc : gT), Fr aN [] gb gc → r.toInt = tV b n (nx b n P) → dM b n tt DD (upd2 gc 0 j r)) → (∀ (r : Int32) (g' : gT) (L' : lT), K r g' L' = sti g' 0 j r (fun g'' => fX12_line_p170 fu g'' L')) → Ex (cb (fX12_number fu lo hi gb Lb) K) (fun (_ : Unit) g1 L1 => MP b n (fnS b n (nuS b n lo.toInt hi.toInt (nx b n P)) tt) DD g1 L1) := by
    intro lo hi j x34 tt DD gb Lb K hj hcb htb hdb hK
    refine t_num (r := .ok (nx b n P)) hfu hcb (fun r gc Lc sc fc vr => ?_)
    rw [bn_ok] at sc
    rw [hK]
    have hT : MT 0 j = none := by rcases hj with rfl | rfl <;> rfl
    refine Ex.sti (sc.I.updN hT) (fun ge gee hIe => ?_)
    have se : SM b n (nuS b n lo.toInt hi.toInt (nx b n P)) ge Lc := by rw [gee] at hIe ⊢; exact sc.u0 hIe (by omega)
    have hFe : Fr [32, 33] [] gc ge := by rw [gee]; exact Fr.refl.u0 (by rcases hj with rfl | rfl <;> decide)
    exact t_fin hfu se.m (fun Q hQ => ⟨(htb.fr fc (by decide) (by decide) (by decide)).fr hFe (by decide) (by decide) (by decide), by rw [gee]; exact hdb r gc fc (vr _ rfl (nuS_ok hQ).1)⟩)
  by_cases c11 : x = 11
  · have h11 : isW b n P 11 := w11.mp (by rw [c11]; rfl)
    rw [if_pos c11, wB_t h11, if_pos (show (true = true) from rfl), if_pos (show (true = true) from rfl)]
    subst c11
    have tb1 := tb_11 t.2.2.1 t.2.2.2
    unfold fX12_line_p29
    rw [ht.2.2]
    cases hw : t.2.2.1 with
    | true =>
      rw [hw] at tb1
      rw [if_pos (tb1.1.mpr rfl)]
      exact m_wrong (by decide) hc (fun g1 k1 _ => bad46 11 g1 L k1)
    | false =>
      rw [hw] at tb1
      rw [if_neg (fun h => nomatch tb1.1.mp h)]
      unfold fX12_line_p46
      refine e_good (fun _ => ?_) (fun hb => absurd hg hb)
      rw [ht.2.2, hw, tb1.2]
      refine Ex.sti (hc.1.updN rfl) (fun ga gae hIa => ?_)
      have sa : cM b n P ga L := by rw [gae] at hIa ⊢; exact SM.u0 (r := .ok P) hc hIa (by decide)
      have ta : tn (t.1, t.2.1, true, t.2.2.2) ga := by rw [gae]; exact ⟨ht.1, ht.2.1, upd2_at⟩
      refine m_goes hfu sa (fun gb Lb k1 k2 => ?_)
      rw [if_pos rfl]
      refine num 0 9 32 0 _ _ gb Lb _ (Or.inl rfl) k1 (ta.fr k2 (by decide) (by decide) (by decide)) (fun r gc fc hr => ?_) (fun _ _ _ => rfl)
      have dg : dM b n t D gc := ((hD.f (show Fr [34] [] g ga by rw [gae]; exact Fr.refl.u0 (by decide)) (fun k _ _ => List.not_mem_nil) (by decide) (by decide) (by decide)).f k2 (fun k _ _ => List.not_mem_nil) (by decide) (by decide) (by decide)).f fc (fun k _ _ => List.not_mem_nil) (by decide) (by decide) (by decide)
      obtain ⟨z1, z2, z3, z4⟩ := dg
      refine ⟨fun i hi => (z1 i hi).c (fun k a c => funext fun q => upd2_nk (by omega)), ?_, ?_, ?_⟩
      · rw [upd2_at]; exact hr
      · rw [upd2_nj (by decide)]; exact z3
      · rw [upd2_nj (by decide)]; exact z4
  have h11 : ¬ isW b n P 11 := fun h => c11 (ic_eq.mpr (w11.mpr h))
  rw [if_neg c11, wB_f h11, if_neg (show ¬ (false = true) by decide), if_neg (show ¬ (false = true) by decide)]
  by_cases c12 : x = 12
  · have h12 : isW b n P 12 := w12.mp (by rw [c12]; rfl)
    rw [if_pos c12, wB_t h12, if_pos (show (true = true) from rfl), if_pos (show (true = true) from rfl)]
    subst c12
    have tb1 := tb_12 t.2.2.1 t.2.2.2
    unfold fX12_line_p29
    rw [ht.2.2]
    cases hw : t.2.2.2 with
    | true =>
      rw [hw] at tb1
      rw [if_pos (tb1.1.mpr rfl)]
      exact m_wrong (by decide) hc (fun g1 k1 _ => bad46 12 g1 L k1)
    | false =>
      rw [hw] at tb1
      rw [if_neg (fun h => nomatch tb1.1.mp h)]
      unfold fX12_line_p46
      refine e_good (fun _ => ?_) (fun hb => absurd hg hb)
      rw [ht.2.2, hw, tb1.2]
      refine Ex.sti (hc.1.updN rfl) (fun ga gae hIa => ?_)
      have sa : cM b n P ga L := by rw [gae] at hIa ⊢; exact SM.u0 (r := .ok P) hc hIa (by decide)
      have ta : tn (t.1, t.2.1, t.2.2.1, true) ga := by rw [gae]; exact ⟨ht.1, ht.2.1, upd2_at⟩
      refine m_goes hfu sa (fun gb Lb k1 k2 => ?_)
      rw [if_neg (show ¬ ((12 : Int32) = 11) by decide)]
      refine num 1 99 33 0 _ _ gb Lb _ (Or.inr rfl) k1 (ta.fr k2 (by decide) (by decide) (by decide)) (fun r gc fc hr => ?_) (fun _ _ _ => rfl)
      have dg : dM b n t D gc := ((hD.f (show Fr [34] [] g ga by rw [gae]; exact Fr.refl.u0 (by decide)) (fun k _ _ => List.not_mem_nil) (by decide) (by decide) (by decide)).f k2 (fun k _ _ => List.not_mem_nil) (by decide) (by decide) (by decide)).f fc (fun k _ _ => List.not_mem_nil) (by decide) (by decide) (by decide)
      obtain ⟨z1, z2, z3, z4⟩ := dg
      refine ⟨fun i hi => (z1 i hi).c (fun k a c => funext fun q => upd2_nk (by omega)), ?_, ?_, ?_⟩
      · rw [upd2_nj (by decide)]; exact z2
      · rw [upd2_at]; exact hr
      · rw [upd2_nj (by decide)]; exact z4
  have h12 : ¬ isW b n P 12 := fun h => c12 (ic_eq.mpr (w12.mpr h))
  rw [if_neg c12, wB_f h12, if_neg (show ¬ (false = true) by decide), if_neg (show ¬ (false = true) by decide)]
  -- a rule
  by_cases c13 : x = 13
  rotate_left
  · have h13 : ¬ isW b n P 13 := fun h => c13 (ic_eq.mpr (w13.mpr h))
    rw [if_neg c13, wB_f h13, if_neg (show ¬ (false = true) by decide), if_neg (show ¬ (false = true) by decide)]
    refine m_wrong (by decide) hc (fun g1 k1 _ => ?_)
    exact (t_170 (b := b) (n := n) (r := .error P) hfu k1).mono (fun _ g2 L2 hq => hq.1)
  have h13 : isW b n P 13 := w13.mp (by rw [c13]; rfl)
  rw [if_pos c13, wB_t h13, if_pos (show (true = true) from rfl), if_pos (show (true = true) from rfl)]
  by_cases c4 : g 0 31 = 4
  · have c4' := icc_eq (m := (g 0 31).toInt) (n := 4) rfl (by decide) c4
    rw [if_pos c4]
    have n4 : ¬ t.2.1 < 4 := by have := ht.2.1; omega
    rw [if_neg n4]
    refine m_wrong (by decide) hc (fun g1 k1 _ => ?_)
    unfold fX12_line_p123
    exact e_good (fun h => absurd h k1.2.2.1) (fun _ => Ex.ret k1)
  have c4' := icc_neq (m := (g 0 31).toInt) (n := 4) rfl (by decide) c4
  have q31 := hc.1 0 31 0 4 rfl
  have ht2 := ht.2.1
  have n4 : t.2.1 < 4 := by omega
  rw [if_neg c4, if_pos n4]
  unfold fX12_line_p123
  refine e_good (fun _ => ?_) (fun hb => absurd hg hb)
  have hlt : P < n := isW_lt h13
  have hn := nx_le (b := b) hc.2.2.1
  have hnl := hn.2.2 hlt
  refine m_goes hfu hc (fun ga La k1 k2 => ?_)
  have a31 : ga 0 31 = g 0 31 := k2.1 31 (by decide)
  rw [a31]
  refine Ex.ck (by omega) (by omega) ?_
  refine Ex.sti (k1.1.updN rfl) (fun gb gbe hIb => ?_)
  have b31 : gb 0 31 = g 0 31 := by rw [gbe]; exact a31
  rw [b31]
  have sb : cM b n (nx b n P) gb La := by rw [gbe] at hIb ⊢; exact SM.u (r := .ok (nx b n P)) k1 hIb (by decide) (by decide)
  have ew : (g 0 31 + 1).toInt = (g 0 31).toInt + 1 := ic_addc rfl (by decide) (by omega) (by omega)
  refine Ex.sti (hIb.upd (lo := 0) (hi := 4) rfl (by omega) (by omega)) (fun gc gce hIc => ?_)
  have sc : cM b n (nx b n P) gc La := by rw [gce] at hIc ⊢; exact SM.u0 (r := .ok (nx b n P)) sb hIc (by decide)
  have hFc : Fr [23, 24, 25, 26, 27, 28, 31] [25] g gc := by rw [gce, gbe]; exact ((k2.mo (by decide) (by decide)).uk (by decide) (by decide)).u0 (by decide)
  have c31 : gc 0 31 = g 0 31 + 1 := by rw [gce]; exact upd2_at
  have c35 := hFc.i (j := 35) (by decide)
  have c25 : (gc 0 25).toInt = (nx b n P : Int) := sc.2.2.2.2.2.1
  have g25 : (g 0 25).toInt = (P : Int) := hc.2.2.2.2.2.1
  have d3 := hd.2.2.1
  have hw35 : (gc 0 35).toInt + 2 ≤ 2 * (gc 0 25).toInt := by omega
  have hg19 : (gc 0 19).toInt = 0 := sc.c.2.2.2.2.2.2.2.2.2.2.2.1
  refine Ex.cb ((t_expr hfu sc hw35).and (sX12_expression fu hfu gc La hIc sc.pn hg19 hw35)) (fun _ ge Le hq => ?_)
  obtain ⟨h1, h2⟩ := hq
  obtain ⟨h1, hst⟩ := h1
  have hx26 := h2.2.2.2.2.1
  have c35' : (gc 0 35).toInt = (g 0 35).toInt := c35
  refine t_fin hfu h1 (fun Q hQ => ⟨⟨?_, ?_, ?_⟩, ?_⟩)
  rotate_left 3
  · obtain ⟨s1, s2, -⟩ := hst Q hQ
    obtain ⟨z1, z2, z3, z4, z5, z6⟩ := hD
    have hF2 := h2.2.1
    have q35e := h2.1 0 35 0 1900 rfl
    have eP : gP gc = oM b n D.2.1 t.2.1 := by show (gc 0 35).toInt.toNat = _; rw [c35', z5]; omega
    have e25 : ge 25 = upd (g 25) t.2.1 (g 0 35) := by
      rw [hF2.2 25 (by decide) (by decide), gce]
      show gb 25 = _
      rw [gbe, upd2_k]
      have e1 : (g 0 31).toNatClampNeg = t.2.1 := by rw [nc, ht2]; omega
      have e2 : ga 0 35 = g 0 35 := k2.1 35 (by decide)
      rw [e1, e2, k2.2 25 (by decide) (List.not_mem_nil)]
    have e26 : ∀ j, j < oM b n D.2.1 t.2.1 → ge 26 j = g 26 j := fun j hj => by
      rw [hx26 j (by rw [eP]; exact hj), hFc.2 26 (by decide) (by decide)]
    rw [eP] at s1 s2
    have eo : oM b n (upN D.2.1 t.2.1 (nx b n P)) (t.2.1 + 1) = oM b n D.2.1 t.2.1 + ((enc (xc b n (nx b n P))).length + 1) := by
      show oM b n (upN D.2.1 t.2.1 (nx b n P)) t.2.1 + ((enc (xc b n (upN D.2.1 t.2.1 (nx b n P) t.2.1))).length + 1) = _
      rw [oM_up (Nat.le_refl _), upN_at]
    refine ⟨fun i hi => (z1 i hi).c (fun k a c => ?_), ?_, ?_, ?_⟩
    · rw [hF2.2 k (by omega) (by simp only [List.mem_cons, List.not_mem_nil, or_false]; omega), hFc.2 k (by omega) (by simp only [List.mem_cons, List.not_mem_nil, or_false]; omega)]
    · rw [hF2.i (by decide), hFc.i (by decide)]; exact z2
    · rw [hF2.i (by decide), hFc.i (by decide)]; exact z3
    show RM b n (t.2.1 + 1) (upN D.2.1 t.2.1 (nx b n P)) (ge 0 35).toInt (ge 25) (ge 26)
    refine ⟨fun r hr => ?_, ?_, fun r hr i hi => ?_⟩
    · rw [e25]
      unfold upd
      by_cases er : r = t.2.1
      · rw [if_pos er, er, oM_up (Nat.le_refl _)]; exact z5
      · rw [if_neg er, oM_up (by omega)]; exact z4 r (by omega)
    · rw [eo]
      have s1 : (ge 0 35).toInt.toNat = _ := s1
      rw [List.length_append] at s1
      have s1 : (ge 0 35).toInt.toNat = oM b n D.2.1 t.2.1 + ((enc (xc b n (nx b n P))).length + 1) := s1
      omega
    · by_cases er : r = t.2.1
      · subst er
        rw [oM_up (Nat.le_refl _)]
        revert hi
        rw [upN_at]
        exact fun hi => s2 i hi
      · rw [oM_up (by omega)]
        revert hi
        rw [upN_ne er]
        intro hi
        have hlt2 : oM b n D.2.1 r + i < oM b n D.2.1 t.2.1 := by
          have h1 : oM b n D.2.1 (r + 1) ≤ oM b n D.2.1 t.2.1 := oM_le (by omega)
          have h2 : oM b n D.2.1 (r + 1) = oM b n D.2.1 r + ((enc (xc b n (D.2.1 r))).length + 1) := rfl
          rw [List.length_append] at hi
          have hi : i < (enc (xc b n (D.2.1 r))).length + 1 := hi
          omega
        rw [e26 _ hlt2]
        exact z6 r (by omega) i hi
  · rw [h2.2.1.i (by decide), hFc.i (by decide)]; exact ht.1
  · rw [h2.2.1.i (by decide), c31, ew, ht2]; show (t.2.1 : Int) + 1 = ((t.2.1 + 1 : Nat) : Int); omega
  · rw [h2.2.1.1 34 (by decide), hFc.1 34 (by decide)]; exact ht.2.2
end
section
/-! ===== what a function may write ===== -/
def FW (A : List (Nat × Nat)) (B : List Nat) (g g1 : gT) : Prop := ∀ k j, k ∉ B → (k, j) ∉ A → g1 k j = g k j
theorem FW.refl {A : List (Nat × Nat)} {B : List Nat} {g : gT} : FW A B g g := fun _ _ _ _ => rfl
theorem FW.tr {A : List (Nat × Nat)} {B : List Nat} {g1 g2 g3 : gT} (h1 : FW A B g1 g2) (h2 : FW A B g2 g3) : FW A B g1 g3 := fun k j a b => (h2 k j a b).trans (h1 k j a b)
def sbA (A A' : List (Nat × Nat)) (B' : List Nat) : Bool := A.all (fun x => A'.any (fun y => Nat.beq x.1 y.1 && Nat.beq x.2 y.2) || B'.any (fun y => Nat.beq x.1 y))
def sbB (B B' : List Nat) : Bool := B.all (fun x => B'.any (fun y => Nat.beq x y))
theorem sbB_mem {B B' : List Nat} (h : sbB B B' = true) {k : Nat} (hk : k ∈ B) : k ∈ B' := by
  have h := List.any_eq_true.mp (List.all_eq_true.mp h k hk)
  obtain ⟨y, hy, e⟩ := h
  have := Nat.eq_of_beq_eq_true e
  rw [this]; exact hy
theorem sbA_mem {A A' : List (Nat × Nat)} {B' : List Nat} (h : sbA A A' B' = true) {k j : Nat} (hk : (k, j) ∈ A) : (k, j) ∈ A' ∨ k ∈ B' := by
  have h := List.all_eq_true.mp h (k, j) hk
  rcases Bool.or_eq_true _ _ |>.mp h with h | h
  · obtain ⟨y, hy, e⟩ := List.any_eq_true.mp h
    have e := Bool.and_eq_true _ _ |>.mp e
    have e1 : k = y.1 := Nat.eq_of_beq_eq_true e.1
    have e2 : j = y.2 := Nat.eq_of_beq_eq_true e.2
    left
    rw [e1, e2]; exact hy
  · obtain ⟨y, hy, e⟩ := List.any_eq_true.mp h
    have e1 : k = y := Nat.eq_of_beq_eq_true e
    right
    rw [e1]; exact hy
theorem FW.mo {A A' : List (Nat × Nat)} {B B' : List Nat} {g g1 : gT} (h : FW A B g g1) (hA : sbA A A' B' = true) (hB : sbB B B' = true) : FW A' B' g g1 := fun k j a b => h k j (fun h => a (sbB_mem hB h)) (fun h => (sbA_mem hA h).elim b a)
theorem FW.c {A : List (Nat × Nat)} {B : List Nat} {g g1 : gT} (h : FW A B g g1) {k : Nat} (hB : k ∉ B) (hA : k ∉ A.map Prod.fst) : g1 k = g k := funext fun j => h k j hB (fun hm => hA (List.mem_map.mpr ⟨(k, j), hm, rfl⟩))
def Kp {ρ : Type} (A : List (Nat × Nat)) (B : List Nat) (g0 : gT) (t : Option (ρ × zS)) : Prop := ∀ x s, t = some (x, s) → FW A B g0 s.1
section KP
variable {ρ β : Type} {A A' : List (Nat × Nat)} {B B' : List Nat} {g0 g : gT} {L : lT}
theorem kp_some {x : ρ} (h : FW A B g0 g) : Kp A B g0 (some (x, (g, L))) := fun x' s e => by cases e; exact h
theorem kp_none : Kp A B g0 (none : Option (ρ × zS)) := fun x' s e => nomatch e
theorem kp_ck {i : Int32} {N : Nat} {K : Option (ρ × zS)} (h : Kp A B g0 K) : Kp A B g0 (ck i N K) := by
  unfold ck
  split
  · exact h
  · exact kp_none
theorem kp_cnz {i : Int32} {K : Option (ρ × zS)} (h : Kp A B g0 K) : Kp A B g0 (cnz i K) := by
  unfold cnz
  split
  · exact kp_none
  · exact h
theorem kp_cnzL {i : Int64} {K : Option (ρ × zS)} (h : Kp A B g0 K) : Kp A B g0 (cnzL i K) := by
  unfold cnzL
  split
  · exact kp_none
  · exact h
theorem kp_ckb {i : Int32} {K : Option (ρ × zS)} (h : Kp A B g0 K) : Kp A B g0 (ckb i K) := by
  unfold ckb
  split
  · exact h
  · exact kp_none
theorem kp_ckr {q : Nat} {K : Option (ρ × zS)} (h : 25 ≤ q → q ≤ 28 → Kp A B g0 K) : Kp A B g0 (ckr q K) := by
  unfold ckr
  split
  · rename_i c; exact h c.1 c.2
  · exact kp_none
theorem kp_ite {c : Prop} [Decidable c] {K1 K2 : Option (ρ × zS)} (h1 : Kp A B g0 K1) (h2 : Kp A B g0 K2) : Kp A B g0 (if c then K1 else K2) := by
  split
  · exact h1
  · exact h2
theorem kp_lti {v : Int32} {K : Int32 → Option (ρ × zS)} (h : ∀ x, Kp A B g0 (K x)) : Kp A B g0 (lti v K) := h v
theorem kp_ltl {v : Int64} {K : Int64 → Option (ρ × zS)} (h : ∀ x, Kp A B g0 (K x)) : Kp A B g0 (ltl v K) := h v
theorem kp_ltn {v : Nat} {K : Nat → Option (ρ × zS)} (h : ∀ x, x = v → Kp A B g0 (K x)) : Kp A B g0 (ltn v K) := h v rfl
theorem kp_stl {k j : Nat} {x : Int64} {K : lT → Option (ρ × zS)} (h : ∀ L1, Kp A B g0 (K L1)) : Kp A B g0 (stl L k j x K) := h _
theorem kp_stF {k j : Nat} {x : Int32} {K : gT → Option (ρ × zS)} (hm : (k, j) ∈ A) (h0 : FW A B g0 g) (h : ∀ g1, FW A B g0 g1 → Kp A B g0 (K g1)) : Kp A B g0 (sti g k j x K) := by
  refine h _ (fun k' j' a b => ?_)
  by_cases hk : k' = k
  · subst hk
    by_cases hj : j' = j
    · subst hj; exact absurd hm b
    · rw [upd2_nj hj]; exact h0 _ _ a b
  · rw [upd2_nk hk]; exact h0 _ _ a b
theorem kp_stB {k j : Nat} {x : Int32} {K : gT → Option (ρ × zS)} (hm : k ∈ B) (h0 : FW A B g0 g) (h : ∀ g1, FW A B g0 g1 → Kp A B g0 (K g1)) : Kp A B g0 (sti g k j x K) := by
  refine h _ (fun k' j' a b => ?_)
  by_cases hk : k' = k
  · subst hk; exact absurd hm a
  · rw [upd2_nk hk]; exact h0 _ _ a b
theorem kp_stA {k : Nat} {f : Nat → Int32} {K : gT → Option (ρ × zS)} (hm : k ∈ B) (h0 : FW A B g0 g) (h : ∀ g1, FW A B g0 g1 → Kp A B g0 (K g1)) : Kp A B g0 (stA g k f K) := by
  refine h _ (fun k' j' a b => ?_)
  by_cases hk : k' = k
  · subst hk; exact absurd hm a
  · rw [updA_ne hk]; exact h0 _ _ a b
theorem kp_cb {m : Option (β × zS)} {K : β → gT → lT → Option (ρ × zS)} (hm : Kp A' B' g m) (hA : sbA A' A B = true) (hB : sbB B' B = true) (h0 : FW A B g0 g) (h : ∀ x g1 L1, FW A B g0 g1 → Kp A B g0 (K x g1 L1)) : Kp A B g0 (cb m K) := by
  cases m with
  | none => exact kp_none
  | some q => exact h q.1 q.2.1 q.2.2 (h0.tr ((hm q.1 q.2 rfl).mo hA hB))
theorem kp_cbx {γ : Type} {m : Option (Except String β × zS)} {K : β → gT → lT → Option (Except String γ × zS)} (hm : Kp A' B' g m) (hA : sbA A' A B = true) (hB : sbB B' B = true) (h0 : FW A B g0 g) (h : ∀ x g1 L1, FW A B g0 g1 → Kp A B g0 (K x g1 L1)) : Kp A B g0 (cbx m K) := by
  cases m with
  | none => exact kp_none
  | some q =>
    obtain ⟨q, s⟩ := q
    have e := h0.tr ((hm q s rfl).mo hA hB)
    cases q with
    | error E => exact fun x' s' e' => by cases e'; exact e
    | ok x => exact h x s.1 s.2 e
theorem kp_loop {α : Type} {step : (α → Option (ρ × zS)) → α → Option (ρ × zS)} {n : Nat} {v : α} (st : α → gT) (hs : ∀ k, (∀ v, FW A B g0 (st v) → Kp A B g0 (k v)) → ∀ v, FW A B g0 (st v) → Kp A B g0 (step k v)) (h : FW A B g0 (st v)) : Kp A B g0 (whileK step n v) := by
  induction n generalizing v with
  | zero => exact kp_none
  | succ n ih => exact hs _ (fun v hv => ih hv) v h
end KP
end
