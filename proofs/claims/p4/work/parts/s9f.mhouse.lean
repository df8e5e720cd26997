/-! ===== the reference's lines, the whole text ===== -/
theorem t_expr {fu : Nat} (hfu : 1180591620717411303424 ≤ fu) {b : Nat → Int32} {n P : Nat} {g : gT} {L : lT} (hc : cM b n P g L) (hb : (g 0 35).toInt + 2 ≤ 2 * (g 0 25).toInt) : Ex (fX12_expression fu g L) (fun (_ : Unit) g1 L1 => Sm b n (xsP b n P) g1) := by
  obtain ⟨a1, a2, a3, a4, a5, a6, a7, a8, a9, a10, a11, a12, a13, a14⟩ := id hc
  have hp := hc.pn
  have q35 := a1 0 35 0 1900 rfl
  have q25 := a1 0 25 0 700 rfl
  generalize hs : gP g = s
  generalize hgb : upd2 (upd2 g 0 36 0) 0 37 0 = gb
  have hIb : zI MT gb := by rw [← hgb]; exact (a1.upd (lo := 0) (hi := 950) rfl (by decide) (by decide)).updN rfl
  have hFb : Fr [36, 37] [] g gb := by rw [← hgb]; exact (Fr.refl.u0 (by decide)).u0 (by decide)
  have s36 : (gb 0 36).toInt = 0 := by rw [← hgb]; rfl
  have s37 : gb 0 37 = 0 := by rw [← hgb]; rfl
  have h0 : xI g s 0 1 0 0 gb := by
    have f19 := hFb.i (j := 19) (by decide)
    have f25 := hFb.i (j := 25) (by decide)
    have f35 := hFb.i (j := 35) (by decide)
    have f26 : gb 26 = g 26 := hFb.2 26 (by decide) (by decide)
    have eW : gW gb = 0 := by show (gb 0 36).toInt.toNat = 0; omega
    have eP : gP gb = s := by rw [← hs]; show (gb 0 35).toInt.toNat = (g 0 35).toInt.toNat; rw [f35]
    have hs' : (s : Int) = (g 0 35).toInt := by rw [← hs]; show (((g 0 35).toInt.toNat : Nat) : Int) = _; omega
    refine ⟨hIb, hFb.mo (by decide) (by decide), hp.fr hFb (by decide) (by decide) (by decide) (by decide), by omega, by omega, by omega, by omega, fun j hj => by rw [f26], fun _ => ⟨by omega, ?_⟩⟩
    unfold xC
    rw [eW, eP, s37]
    exact ⟨fun i hi => absurd hi (Nat.not_lt_zero _), rfl, by decide, 0, 0, ⟨rfl, rfl⟩, rfl⟩
  have hcb : cM b n P gb L := hc.fr hIb hFb (by decide) (by decide) (by decide) (by decide) (by decide) (by decide) (by decide) (by decide) (by decide) (by decide)
  have hgb19 : (gb 0 19).toInt = 0 := hcb.c.2.2.2.2.2.2.2.2.2.2.2.1
  generalize hgc : upd2 (upd2 gb 0 37 1) 28 1 (vp_nar .boolean 0) = gc
  have edp : fX12_deeper fu gb L = some ((), (gc, L)) := by
    rw [← hgc]
    unfold fX12_deeper
    rw [s37, if_neg (by decide)]
    rfl
  obtain ⟨u, gc', Lc', ec', hx, -⟩ := sX12_deeper fu g gb L s h0 hgb19
  have hxc : xI g s 0 0 0 0 gc := by
    rw [edp] at ec'
    cases ec'
    exact hx
  clear ec' hx
  have hFc : Fr [37] [28] gb gc := by rw [← hgc]; exact (Fr.refl.u0 (by decide)).uk (by decide) (by decide)
  have hcc : cM b n P gc L := hcb.fr hxc.1 hFc (by decide) (by decide) (by decide) (by decide) (by decide) (by decide) (by decide) (by decide) (by decide) (by decide)
  have c37 : (gc 0 37).toInt = ((0 : Nat) : Int) + 1 := by rw [← hgc]; rfl
  have c28 : (gc 28 (0 + 1)).toInt = 0 := by rw [← hgc, upd2_at]; decide
  have eR : fX12_expression fu g L = Cl fu fu fu 1 gc L := by
    unfold fX12_expression
    refine q_cb (good_eq a13) (q_f (by decide) (q_sti (q_sti ?_)))
    rw [hgb]
    exact q_cb edp rfl
  have hxF : xF = 11240 := rfl
  have k := (sim hfu b n a2 g s xF).2.2.2.1 6 (Or.inr rfl) 0 P fu fu gc L (by decide) ⟨hcc, hxc, c37⟩ c28 (by omega) (by omega) (by omega)
  rw [eR]
  unfold xsP
  cases hxs : xs b n xF 6 0 [] P with
  | error p =>
    rw [hxs] at k
    obtain ⟨g1, L1, e1, h1, -⟩ := k
    exact ⟨(), g1, L1, e1, h1⟩
  | ok q =>
    rw [hxs] at k
    obtain ⟨g2, L2, m2, e2, z1, z2, z3, z4⟩ := k
    obtain ⟨⟨⟨p1, p2⟩, p3, p4⟩, p5, p6⟩ := xs_post xF 6 0 [] P q.1 q.2 hxs trivial
    have z5 := z1.le
    obtain ⟨m2, rfl⟩ : ∃ m', m2 = m' + 2 := ⟨m2 - 2, by omega⟩
    obtain ⟨L', e3⟩ := D_stop hfu (m := m2) z1 p5 p6 z4 p3 p4 p1 p2 (fun _ => rfl)
    obtain ⟨g1, L1, e4, h4, f4⟩ := p345_eq hfu (L := L') z1.2.1
    refine ⟨(), g1, L1, ?_, z1.1.c.fr h4.1 f4 (by decide) (by decide) (by decide) (by decide) (by decide) (by decide) (by decide) (by decide) (by decide) (by decide)⟩
    rw [e2, e3]
    unfold fX12_expression_p325
    have z37 := z1.2.2
    exact q_cb (good_eq z1.g) (q_f (by decide) (q_t (by
      refine Int32.le_iff_toInt_le.mpr ?_
      show (g2 0 37).toInt ≤ 1
      omega) e4))
/-- walk and stair told -/
def tb (w s : Bool) : Int32 := match w, s with
  | false, false => 0
  | true, false => 2048
  | false, true => 4096
  | true, true => 6144
theorem tb_11 (w s : Bool) : ((((tb w s : Int32) >>> ((11 : Int32) &&& 31) : Int32) &&& 1) = 1 ↔ w = true) ∧ (tb w s ||| ((1 : Int32) <<< ((11 : Int32) &&& 31) : Int32)) = tb true s := by cases w <;> cases s <;> decide
theorem tb_12 (w s : Bool) : ((((tb w s : Int32) >>> ((12 : Int32) &&& 31) : Int32) &&& 1) = 1 ↔ s = true) ∧ (tb w s ||| ((1 : Int32) <<< ((12 : Int32) &&& 31) : Int32)) = tb w true := by cases w <;> cases s <;> decide
def tn (t : tS) (g : gT) : Prop := (g 0 30).toInt = (t.1 : Int) ∧ (g 0 31).toInt = (t.2.1 : Int) ∧ g 0 34 = tb t.2.2.1 t.2.2.2
theorem tn.fr {t : tS} {g g1 : gT} {A B : List Nat} (h : tn t g) (hF : Fr A B g g1) (h30 : 30 ∉ A) (h31 : 31 ∉ A) (h34 : 34 ∉ A) : tn t g1 := ⟨(hF.i h30).trans h.1, (hF.i h31).trans h.2.1, (hF.1 34 h34).trans h.2.2⟩
def MP (b : Nat → Int32) (n : Nat) (r : Except Nat (tS × Nat)) (g : gT) (L : lT) : Prop := match r with
  | .error p => bM p g
  | .ok q => cM b n q.2 g L ∧ tn q.1 g
theorem t_fin {fu : Nat} (hfu : 1180591620717411303424 ≤ fu) {b : Nat → Int32} {n : Nat} {t : tS} {r : sR} {g : gT} {L : lT} (h : Sm b n r g) (ht : ∀ Q, r = .ok Q → tn t g) : Ex (fX12_line_p170 fu g L) (fun (_ : Unit) g1 L1 => MP b n (fnS b n r t) g1 L1) := by
  refine (t_170 hfu h).mono (fun _ g1 L1 hq => ?_)
  obtain ⟨s1, f1⟩ := hq
  unfold fnS
  cases r with
  | error p => exact s1
  | ok Q =>
    have ht := ht Q rfl
    rw [bn_ok] at s1 ⊢
    unfold sgS at s1 ⊢
    rcases sB_d b n Q 59 with ⟨hs, e⟩ | ⟨hs, e⟩
    · rw [e] at s1 ⊢
      exact ⟨s1, ht.fr f1 (by decide) (by decide) (by decide)⟩
    · rw [e] at s1 ⊢
      exact s1
set_option maxHeartbeats 4000000 in
theorem t_line {fu : Nat} (hfu : 1180591620717411303424 ≤ fu) {b : Nat → Int32} {n P : Nat} {t : tS} {g : gT} {L : lT} (hc : cM b n P g L) (ht : tn t g) (hd : gd g) : Ex (fX12_line fu g L) (fun (_ : Unit) g1 L1 => MP b n (liS b n t P) g1 L1) := by
  have hg : (g 0 19).toInt = 0 := hc.c.2.2.2.2.2.2.2.2.2.2.2.1
  unfold fX12_line
  refine m_known hfu hc (fun x hx => ?_)
  have w5 := isW_k (k := 5) (by decide) hx
  have w11 := isW_k (k := 11) (by decide) hx
  have w12 := isW_k (k := 12) (by decide) hx
  have w13 := isW_k (k := 13) (by decide) hx
  clear hx
  unfold liS
  -- a lesson
  by_cases c5 : x = 5
  · have h5 : isW b n P 5 := w5.mp (by rw [c5]; rfl)
    rw [if_pos c5, wB_t h5, if_pos (show (true = true) from rfl)]
    have hs : (g 0 24).toInt ≠ 0 := by rw [hc.c.2.2.2.2.2.2.1]; exact fun h => by have := sM_0.mp h; have := h5.1; omega
    refine Ex.cb ((t_lesson hfu hc ht.1).and (sX12_readsLesson fu hfu g L hc.1 hc.pn hs)) (fun _ g1 L1 hq => ?_)
    obtain ⟨⟨h1, h2⟩, h3⟩ := hq
    refine t_fin hfu h1.m (fun Q hQ => ?_)
    have e := h2 Q hQ
    exact ⟨by rw [e]; show (t.1 : Int) + 1 = ((t.1 + 1 : Nat) : Int); omega, (h3.2.1.i (by decide)).trans ht.2.1, (h3.2.1.1 34 (by decide)).trans ht.2.2⟩
  have h5 : ¬ isW b n P 5 := fun h => c5 (ic_eq.mpr (w5.mpr h))
  rw [if_neg c5, wB_f h5, if_neg (show ¬ (false = true) by decide)]
  -- walk, stair
  have bad46 : ∀ (v1 : Int32) (g1 : gT) (L1 : lT), bM P g1 → Ex (fX12_line_p46 fu v1 g1 L1) (fun (_ : Unit) g2 L2 => bM P g2) := by
    intro v1 g1 L1 hb
    unfold fX12_line_p46
    exact e_good (fun h => absurd h hb.2.2.1) (fun _ => Ex.ret hb)
  have num : ∀ (lo hi : Int32) (j : Nat) (x34 : Int32) (tt : tS) (gb : gT) (Lb : lT) (K : Int32 → gT → lT → Option (Unit × zS)), (j = 32 ∨ j = 33) → cM b n (nx b n P) gb Lb → tn tt gb → (∀ (r : Int32) (g' : gT) (L' : lT), K r g' L' = sti g' 0 j r (fun g'' => fX12_line_p170 fu g'' L')) → Ex (cb (fX12_number fu lo hi gb Lb) K) (fun (_ : Unit) g1 L1 => MP b n (fnS b n (nuS b n lo.toInt hi.toInt (nx b n P)) tt) g1 L1) := by
    intro lo hi j x34 tt gb Lb K hj hcb htb hK
    refine t_num (r := .ok (nx b n P)) hfu hcb (fun r gc Lc sc fc _ => ?_)
    rw [bn_ok] at sc
    rw [hK]
    have hT : MT 0 j = none := by rcases hj with rfl | rfl <;> rfl
    refine Ex.sti (sc.I.updN hT) (fun ge gee hIe => ?_)
    have se : SM b n (nuS b n lo.toInt hi.toInt (nx b n P)) ge Lc := by rw [gee] at hIe ⊢; exact sc.u0 hIe (by omega)
    have hFe : Fr [32, 33] [] gc ge := by rw [gee]; exact Fr.refl.u0 (by rcases hj with rfl | rfl <;> decide)
    exact t_fin hfu se.m (fun _ _ => (htb.fr fc (by decide) (by decide) (by decide)).fr hFe (by decide) (by decide) (by decide))
  by_cases c11 : x = 11
  · have h11 : isW b n P 11 := w11.mp (by rw [c11]; rfl)
    rw [if_pos c11, wB_t h11, if_pos (show (true = true) from rfl)]
    subst c11
    have tb1 := tb_11 t.2.2.1 t.2.2.2
    unfold fX12_line_p29
    rw [ht.2.2]
    cases hw : t.2.2.1 with
    | true =>
      rw [hw] at tb1
      rw [if_pos (tb1.1.mpr rfl)]
      exact m_wrong (by decide) hc (fun g1 k1 _ => bad46 11 g1 L k1)
    | false =>
      rw [hw] at tb1
      rw [if_neg (fun h => nomatch tb1.1.mp h)]
      unfold fX12_line_p46
      refine e_good (fun _ => ?_) (fun hb => absurd hg hb)
      rw [ht.2.2, hw, tb1.2]
      refine Ex.sti (hc.1.updN rfl) (fun ga gae hIa => ?_)
      have sa : cM b n P ga L := by rw [gae] at hIa ⊢; exact SM.u0 (r := .ok P) hc hIa (by decide)
      have ta : tn (t.1, t.2.1, true, t.2.2.2) ga := by rw [gae]; exact ⟨ht.1, ht.2.1, upd2_at⟩
      refine m_goes hfu sa (fun gb Lb k1 k2 => ?_)
      rw [if_pos rfl]
      exact num 0 9 32 0 _ gb Lb _ (Or.inl rfl) k1 (ta.fr k2 (by decide) (by decide) (by decide)) (fun _ _ _ => rfl)
  have h11 : ¬ isW b n P 11 := fun h => c11 (ic_eq.mpr (w11.mpr h))
  rw [if_neg c11, wB_f h11, if_neg (show ¬ (false = true) by decide)]
  by_cases c12 : x = 12
  · have h12 : isW b n P 12 := w12.mp (by rw [c12]; rfl)
    rw [if_pos c12, wB_t h12, if_pos (show (true = true) from rfl)]
    subst c12
    have tb1 := tb_12 t.2.2.1 t.2.2.2
    unfold fX12_line_p29
    rw [ht.2.2]
    cases hw : t.2.2.2 with
    | true =>
      rw [hw] at tb1
      rw [if_pos (tb1.1.mpr rfl)]
      exact m_wrong (by decide) hc (fun g1 k1 _ => bad46 12 g1 L k1)
    | false =>
      rw [hw] at tb1
      rw [if_neg (fun h => nomatch tb1.1.mp h)]
      unfold fX12_line_p46
      refine e_good (fun _ => ?_) (fun hb => absurd hg hb)
      rw [ht.2.2, hw, tb1.2]
      refine Ex.sti (hc.1.updN rfl) (fun ga gae hIa => ?_)
      have sa : cM b n P ga L := by rw [gae] at hIa ⊢; exact SM.u0 (r := .ok P) hc hIa (by decide)
      have ta : tn (t.1, t.2.1, t.2.2.1, true) ga := by rw [gae]; exact ⟨ht.1, ht.2.1, upd2_at⟩
      refine m_goes hfu sa (fun gb Lb k1 k2 => ?_)
      rw [if_neg (show ¬ ((12 : Int32) = 11) by decide)]
      exact num 1 99 33 0 _ gb Lb _ (Or.inr rfl) k1 (ta.fr k2 (by decide) (by decide) (by decide)) (fun _ _ _ => rfl)
  have h12 : ¬ isW b n P 12 := fun h => c12 (ic_eq.mpr (w12.mpr h))
  rw [if_neg c12, wB_f h12, if_neg (show ¬ (false = true) by decide)]
  -- a rule
  by_cases c13 : x = 13
  rotate_left
  · have h13 : ¬ isW b n P 13 := fun h => c13 (ic_eq.mpr (w13.mpr h))
    rw [if_neg c13, wB_f h13, if_neg (show ¬ (false = true) by decide)]
    refine m_wrong (by decide) hc (fun g1 k1 _ => ?_)
    exact (t_170 (b := b) (n := n) (r := .error P) hfu k1).mono (fun _ g2 L2 hq => hq.1)
  have h13 : isW b n P 13 := w13.mp (by rw [c13]; rfl)
  rw [if_pos c13, wB_t h13, if_pos (show (true = true) from rfl)]
  by_cases c4 : g 0 31 = 4
  · have c4' := icc_eq (m := (g 0 31).toInt) (n := 4) rfl (by decide) c4
    rw [if_pos c4]
    have n4 : ¬ t.2.1 < 4 := by have := ht.2.1; omega
    rw [if_neg n4]
    refine m_wrong (by decide) hc (fun g1 k1 _ => ?_)
    unfold fX12_line_p123
    exact e_good (fun h => absurd h k1.2.2.1) (fun _ => Ex.ret k1)
  have c4' := icc_neq (m := (g 0 31).toInt) (n := 4) rfl (by decide) c4
  have q31 := hc.1 0 31 0 4 rfl
  have ht2 := ht.2.1
  have n4 : t.2.1 < 4 := by omega
  rw [if_neg c4, if_pos n4]
  unfold fX12_line_p123
  refine e_good (fun _ => ?_) (fun hb => absurd hg hb)
  have hlt : P < n := isW_lt h13
  have hn := nx_le (b := b) hc.2.2.1
  have hnl := hn.2.2 hlt
  refine m_goes hfu hc (fun ga La k1 k2 => ?_)
  have a31 : ga 0 31 = g 0 31 := k2.1 31 (by decide)
  rw [a31]
  refine Ex.ck (by omega) (by omega) ?_
  refine Ex.sti (k1.1.updN rfl) (fun gb gbe hIb => ?_)
  have b31 : gb 0 31 = g 0 31 := by rw [gbe]; exact a31
  rw [b31]
  have sb : cM b n (nx b n P) gb La := by rw [gbe] at hIb ⊢; exact SM.u (r := .ok (nx b n P)) k1 hIb (by decide) (by decide)
  have ew : (g 0 31 + 1).toInt = (g 0 31).toInt + 1 := ic_addc rfl (by decide) (by omega) (by omega)
  refine Ex.sti (hIb.upd (lo := 0) (hi := 4) rfl (by omega) (by omega)) (fun gc gce hIc => ?_)
  have sc : cM b n (nx b n P) gc La := by rw [gce] at hIc ⊢; exact SM.u0 (r := .ok (nx b n P)) sb hIc (by decide)
  have hFc : Fr [23, 24, 25, 26, 27, 28, 31] [25] g gc := by rw [gce, gbe]; exact ((k2.mo (by decide) (by decide)).uk (by decide) (by decide)).u0 (by decide)
  have c31 : gc 0 31 = g 0 31 + 1 := by rw [gce]; exact upd2_at
  have c35 := hFc.i (j := 35) (by decide)
  have c25 : (gc 0 25).toInt = (nx b n P : Int) := sc.2.2.2.2.2.1
  have g25 : (g 0 25).toInt = (P : Int) := hc.2.2.2.2.2.1
  have d3 := hd.2.2.1
  have hw35 : (gc 0 35).toInt + 2 ≤ 2 * (gc 0 25).toInt := by omega
  have hg19 : (gc 0 19).toInt = 0 := sc.c.2.2.2.2.2.2.2.2.2.2.2.1
  refine Ex.cb ((t_expr hfu sc hw35).and (sX12_expression fu hfu gc La hIc sc.pn hg19 hw35)) (fun _ ge Le hq => ?_)
  obtain ⟨h1, h2⟩ := hq
  refine t_fin hfu h1 (fun Q hQ => ⟨?_, ?_, ?_⟩)
  · rw [h2.2.1.i (by decide), hFc.i (by decide)]; exact ht.1
  · rw [h2.2.1.i (by decide), c31, ew, ht2]; show (t.2.1 : Int) + 1 = ((t.2.1 + 1 : Nat) : Int); omega
  · rw [h2.2.1.1 34 (by decide), hFc.1 34 (by decide)]; exact ht.2.2
/-- what the whole text comes to -/
def HM (g0 : gT) (r : Except Nat Unit) (g1 : gT) : Prop := match r with
  | .error p => (g1 0 20).toInt = (p : Int) ∧ g1 0 81 = g0 0 81
  | .ok _ => (g1 0 20).toInt = -1 ∧ g1 0 81 = 0
theorem e_st {ρ : Type} {Q : ρ → gT → lT → Prop} {g : gT} {k j : Nat} {x : Int32} {K : gT → Option (ρ × zS)} (h : ∀ g1, g1 = upd2 g k j x → Ex (K g1) Q) : Ex (sti g k j x K) Q := h _ rfl
def HE (r : Except Nat Unit) (g : gT) : Prop := match r with
  | .error p => bM p g
  | .ok _ => (g 0 19).toInt = 0 ∧ (g 0 20).toInt = -1
set_option maxHeartbeats 8000000 in
theorem t_house {fu : Nat} (hfu : 1180591620717411303424 ≤ fu) {b : Nat → Int32} {n : Nat} {p1 : Int32} {g0 : gT} {L0 : lT} (hI : zI MT g0) (hn : p1.toInt = (n : Int)) (h18 : p1.toInt ≤ (g0 0 18).toInt) (hb : ∀ j, j < n → g0 13 j = b j) : Ex (fX12_house fu p1 g0 L0) (fun (r : Int32) g1 L1 => HM g0 (hoS b n 702 (0, 0, false, false) (sk b n 0)) g1) := by
  have q18 := hI 0 18 0 700 rfl
  have hn7 : n ≤ 700 := by omega
  unfold fX12_house
  refine Ex.sti (hI.updN rfl) (fun ga gae hIa => ?_)
  have a0 : ga 0 0 = 0 := by rw [gae]; exact upd2_at
  have a18 : ga 0 18 = g0 0 18 := by rw [gae]; rfl
  rw [a18]
  refine Ex.ite (fun c => by have := icc_lt (m := p1.toInt) (n := 0) rfl (by decide) c; omega) (fun _ => ?_)
  refine Ex.ite (fun c => by have := icc_lt (m := (g0 0 18).toInt) (n := p1.toInt) rfl rfl c; omega) (fun _ => ?_)
  unfold fX12_house_p23
  have e : fX12_right fu 1 1 ga L0 = some (1, (ga, L0)) := by
    unfold fX12_right
    rw [if_pos a0, if_neg (by decide)]
    unfold fX12_right_p16 fX12_right_p28
    rw [ckb0, ckb1, if_pos a0]
  rw [e]
  refine e_b1 ?_
  refine Ex.sti (hIa.upd (lo := 0) (hi := 700) rfl (by decide) (by decide)) (fun g7 g7e hI7 => ?_)
  refine Ex.sti (hI7.updN rfl) (fun g8 g8e hI8 => ?_)
  refine Ex.sti (hI8.updN rfl) (fun g9 g9e hI9 => ?_)
  refine Ex.sti (hI9.upd (lo := 0) (hi := 700) rfl (by omega) (by omega)) (fun g10 g10e hI10 => ?_)
  refine Ex.sti (hI10.upd (lo := 0) (hi := 700) rfl (by decide) (by decide)) (fun g11 g11e hI11 => ?_)
  refine Ex.sti (hI11.upd (lo := 0) (hi := 12) rfl (by decide) (by decide)) (fun g12 g12e hI12 => ?_)
  refine Ex.sti (hI12.upd (lo := 0) (hi := 4) rfl (by decide) (by decide)) (fun g13 g13e hI13 => ?_)
  refine Ex.sti (hI13.updN rfl) (fun g14 g14e hI14 => ?_)
  refine Ex.sti (hI14.updN rfl) (fun g15 g15e hI15 => ?_)
  refine Ex.sti (hI15.updN rfl) (fun g16 g16e hI16 => ?_)
  refine Ex.sti (hI16.upd (lo := 0) (hi := 1900) rfl (by decide) (by decide)) (fun g17 g17e hI17 => ?_)
  have s19 : g17 0 19 = 0 := by rw [g17e, g16e, g15e, g14e, g13e, g12e, g11e, g10e, g9e]; rfl
  have s20 : g17 0 20 = -1 := by rw [g17e, g16e, g15e, g14e, g13e, g12e, g11e, g10e, g9e, g8e]; rfl
  have s22 : g17 0 22 = p1 := by rw [g17e, g16e, g15e, g14e, g13e, g12e, g11e, g10e]; rfl
  have s23 : g17 0 23 = 0 := by rw [g17e, g16e, g15e, g14e, g13e, g12e, g11e]; rfl
  have s30 : g17 0 30 = 0 := by rw [g17e, g16e, g15e, g14e, g13e, g12e]; rfl
  have s31 : g17 0 31 = 0 := by rw [g17e, g16e, g15e, g14e, g13e]; rfl
  have s33 : g17 0 33 = 99 := by rw [g17e, g16e, g15e]; rfl
  have s34 : g17 0 34 = 0 := by rw [g17e, g16e]; rfl
  have s35 : g17 0 35 = 0 := by rw [g17e]; exact upd2_at
  have s81 : g17 0 81 = g0 0 81 := by rw [g17e, g16e, g15e, g14e, g13e, g12e, g11e, g10e, g9e, g8e, g7e, gae]; rfl
  have s13 : g17 13 = g0 13 := by rw [g17e, g16e, g15e, g14e, g13e, g12e, g11e, g10e, g9e, g8e, g7e, gae]; rfl
  clear g17e g16e g15e g14e g13e g12e g11e g10e g9e g8e g7e hI7 hI8 hI9 hI10 hI11 hI12 hI13 hI14 hI15 hI16
  have u23 : (g17 0 23).toInt = 0 := by rw [s23]; rfl
  have u22 : (g17 0 22).toInt = (n : Int) := by rw [s22]; exact hn
  have b17 : ∀ j, j < n → g17 13 j = b j := fun j hj => by rw [s13]; exact hb j hj
  refine Ex.cb (tX12_goes fu hfu g17 L0 hI17 (by omega)) (fun _ gs Ls hq => ?_)
  obtain ⟨⟨k1, k2, k3, k4⟩, hm⟩ := hq
  have eN : mN g17 = n := by show (g17 0 22).toInt.toNat = n; omega
  have e3 : (g17 0 23).toInt.toNat = 0 := by omega
  have e13 : gs 13 = g17 13 := k2.2 13 (by decide) (by decide)
  have eN1 : mN gs = n := by show (gs 0 22).toInt.toNat = n; rw [k2.i (by decide)]; omega
  rw [eN, e3, sk_c b17] at hm
  have hsk := sk_le (b := b) (n := n) (p := 0) (Nat.zero_le _)
  generalize sk b n 0 = P0 at hm hsk
  obtain ⟨t1, t2, t3, t4, t5, t6, t7⟩ := hm
  rw [e13, eN1] at t2 t3 t4 t5 t6 t7
  rw [tK_c b17] at t2 t7
  rw [tE_c b17] at t3 t6 t7
  rw [tV_c hsk.2 b17] at t4
  have hE2 := tE_le (b := b) hsk.2
  have pc : ∀ k, P0 + k ≤ n → pI (g17 13) P0 k = pI b P0 k := by
    intro k
    induction k with
    | zero => intro _; rfl
    | succ k ih => intro hk; unfold pI; rw [ih (by omega), b17 (P0 + k) (by omega)]
  have hcs : cM b n P0 gs Ls := by
    refine ⟨k1, hn7, hsk.2, (k2.i (by decide)).trans u22, fun j hj => by rw [e13]; exact b17 j hj, t1, t2, t3, t4, fun h => (t5 h).trans (b17 _ h), t6, fun h => ?_, by rw [k2.i (by decide), s19]; rfl, by rw [k2.i (by decide), s20]; rfl⟩
    rw [← pc _ (by omega)]
    exact t7 h
  have hts : tn (0, 0, false, false) gs := ⟨by rw [k2.i (by decide), s30]; rfl, by rw [k2.i (by decide), s31]; rfl, by rw [k2.1 34 (by decide), s34]; rfl⟩
  have v30 : gs 0 30 = 0 := by rw [k2.1 30 (by decide)]; exact s30
  have v31 : gs 0 31 = 0 := by rw [k2.1 31 (by decide)]; exact s31
  have v33 : gs 0 33 = 99 := by rw [k2.1 33 (by decide)]; exact s33
  have v35 : gs 0 35 = 0 := by rw [k2.1 35 (by decide)]; exact s35
  have v81 : gs 0 81 = g0 0 81 := by rw [k2.1 81 (by decide)]; exact s81
  have hds : gd gs := by
    have q25 := k1 0 25 0 700 rfl
    refine ⟨?_, ?_, ?_, ?_, ?_⟩
    · unfold mLs; rw [v30]; intro i hi; exact absurd hi (by show ¬ (i : Int) < 0; omega)
    · unfold rOk; rw [v31]; intro i hi; exact absurd hi (by show ¬ (i : Int) < 0; omega)
    · rw [v35]; show (0 : Int) ≤ _; omega
    · rw [v33]; decide
    · rw [v33]; decide
  clear t1 t2 t3 t4 t5 t6 t7 pc k3 k4 k2 e13 eN1 eN e3 s19 s20 s22 s23 s30 s31 s33 s34 s35 s81 s13
  generalize hR : hoS b n 702 (0, 0, false, false) P0 = R
  unfold fX12_house_l92
  -- the end
  have fin : ∀ (g : gT) (L : lT), g 0 81 = g0 0 81 → HE R g → Ex (fX12_house_p113 fu g L) (fun (r : Int32) g1 L1 => HM g0 R g1) := by
    intro g L h81 h
    unfold fX12_house_p113
    cases R with
    | error p =>
      have h : bM p g := h
      refine e_good (fun hg => absurd hg h.2.2.1) (fun _ => ?_)
      refine Ex.ck (by decide) (by decide) ?_
      refine Ex.ck (by decide) (by decide) ?_
      exact ⟨_, _, _, rfl, h.2.2.2, h81⟩
    | ok u =>
      have h : (g 0 19).toInt = 0 ∧ (g 0 20).toInt = -1 := h
      refine e_good (fun _ => ?_) (fun hb => absurd h.1 hb)
      refine e_st (fun ga1 x1 => ?_)
      refine e_st (fun ga2 x2 => ?_)
      refine e_st (fun ga3 x3 => ?_)
      refine e_st (fun ga4 x4 => ?_)
      have y20 : ga4 0 20 = g 0 20 := by rw [x4, x3, x2, x1]; rfl
      clear x1 x2 x3 x4
      refine Ex.cb (uX12_copies_15_1 fu hfu ga4 L) (fun _ gb1 L1 hc1 => ?_)
      refine Ex.cb (uX12_copies_16_2 fu hfu gb1 L1) (fun _ gb2 L2 hc2 => ?_)
      refine Ex.cb (uX12_copies_17_3 fu hfu gb2 L2) (fun _ gb3 L3 hc3 => ?_)
      refine Ex.cb (uX12_copies_18_4 fu hfu gb3 L3) (fun _ gb4 L4 hc4 => ?_)
      refine Ex.cb (uX12_copies_19_5 fu hfu gb4 L4) (fun _ gb5 L5 hc5 => ?_)
      refine Ex.cb (uX12_copies_20_6 fu hfu gb5 L5) (fun _ gb6 L6 hc6 => ?_)
      refine Ex.cb (uX12_copies_21_7 fu hfu gb6 L6) (fun _ gb7 L7 hc7 => ?_)
      refine Ex.cb (uX12_copies_22_8 fu hfu gb7 L7) (fun _ gb8 L8 hc8 => ?_)
      refine Ex.cb (uX12_copies_23_9 fu hfu gb8 L8) (fun _ gb9 L9 hc9 => ?_)
      refine Ex.cb (uX12_copies_24_12 fu hfu gb9 L9) (fun _ gb10 L10 hc10 => ?_)
      refine Ex.cb (uX12_copies_25_10 fu hfu gb10 L10) (fun _ gb11 L11 hc11 => ?_)
      refine Ex.cb (uX12_copies_26_11 fu hfu gb11 L11) (fun _ gb12 L12 hc12 => ?_)
      have w0 : gb12 0 = ga4 0 := by
        rw [hc12, cpd_ne (by decide), hc11, cpd_ne (by decide), hc10, cpd_ne (by decide), hc9, cpd_ne (by decide), hc8, cpd_ne (by decide), hc7, cpd_ne (by decide), hc6, cpd_ne (by decide), hc5, cpd_ne (by decide), hc4, cpd_ne (by decide), hc3, cpd_ne (by decide), hc2, cpd_ne (by decide), hc1, cpd_ne (by decide)]
      refine ⟨_, _, _, rfl, ?_, rfl⟩
      show (gb12 0 20).toInt = -1
      rw [w0, y20]; exact h.2
  refine Ex.loop (α := gT × lT) (fun v => v.1 0 81 = g0 0 81 ∧ ((∃ (t : tS) (P f : Nat), hoS b n f t P = R ∧ cM b n P v.1 v.2 ∧ tn t v.1 ∧ gd v.1 ∧ n + 1 ≤ f + P) ∨ (∃ p, R = .error p ∧ bM p v.1))) (fun v => mm v.1) (by omega) (by show mm gs < (fu : Int); have := mm_le k1; omega) ⟨v81, Or.inl ⟨(0, 0, false, false), P0, 702, hR, hcs, hts, hds, by omega⟩⟩ (fun k92 v hv ih => ?_)
  obtain ⟨g, L⟩ := v
  obtain ⟨h81, hI2⟩ := hv
  have h81 : g 0 81 = g0 0 81 := h81
  show Ex (fX12_house_s92 fu k92 g L) _
  unfold fX12_house_s92
  rcases hI2 with ⟨t, P, f, q1, q2, q3, q5, q4⟩ | ⟨p, q1, q2⟩
  rotate_left
  · have q2 : bM p g := q2
    refine e_good (fun hg => absurd hg q2.2.2.1) (fun _ => fin g L h81 ?_)
    rw [q1]; exact q2
  have q2 : cM b n P g L := q2
  have q3 : tn t g := q3
  have q5 : gd g := q5
  obtain ⟨a1, a2, a3, a4, a5, a6, a7, a8, a9, a10, a11, a12, a13, a14⟩ := id q2
  obtain ⟨f, rfl⟩ : ∃ f', f = f' + 1 := ⟨f - 1, by omega⟩
  unfold hoS at q1
  refine e_good (fun _ => ?_) (fun hb => absurd a13 hb)
  refine Ex.ite (fun c => ?_) (fun c => ?_)
  · have c := icc_eq (m := (g 0 24).toInt) (n := 0) rfl (by decide) c
    have k0 : tK b n P = 0 := sM_0.mp (by omega)
    rw [if_pos k0] at q1
    refine fin g L h81 ?_
    rw [← q1]; exact ⟨a13, a14⟩
  have c := icc_neq (m := (g 0 24).toInt) (n := 0) rfl (by decide) c
  have k0 : ¬ tK b n P = 0 := fun h => c (by rw [a7]; exact sM_0.mpr h)
  rw [if_neg k0] at q1
  have hpos : 0 < mm g := by rw [mm_g a13]; omega
  refine Ex.cb ((t_line hfu q2 q3 q5).and (sX12_line fu hfu g L a1 q2.pn a13 q5)) (fun _ gl Ll hx => ?_)
  obtain ⟨hx, hl⟩ := hx
  have l81 : gl 0 81 = g0 0 81 := by rw [hl.2.1.1 81 (by decide)]; exact h81
  cases hli : liS b n t P with
  | error p =>
    rw [hli] at hx q1
    exact ih (gl, Ll) ⟨l81, Or.inr ⟨p, q1.symm, hx⟩⟩ (mm_lt a1 a13 (fun hb => absurd hb hx.2.2.1)) hpos
  | ok q =>
    rw [hli] at hx q1
    have hle := liS_le a3 hli
    have hgd := (hl.2.2.2 hx.1.c.2.2.2.2.2.2.2.2.2.2.2.1)
    exact ih (gl, Ll) ⟨l81, Or.inl ⟨q.1, q.2, f, q1, hx.1, hx.2, hgd.2, by omega⟩⟩ (mm_lt a1 a13 (fun _ => hgd.1)) hpos
