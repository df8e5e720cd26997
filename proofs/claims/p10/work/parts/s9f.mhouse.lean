/-! ===== the reference's lines, the whole text ===== -/
theorem t_expr {fu : Nat} (hfu : 1180591620717411303424 ≤ fu) {b : Nat → Int32} {n P : Nat} {g : gT} {L : lT} (hc : cM b n P g L) (hb : (g 0 35).toInt + 2 ≤ 2 * (g 0 25).toInt) : Ex (fX12_expression fu g L) (fun (_ : Unit) g1 L1 => Sm b n (xsP b n P) g1) := by
  obtain ⟨a1, a2, a3, a4, a5, a6, a7, a8, a9, a10, a11, a12, a13, a14⟩ := id hc
  have hp := hc.pn
  have q35 := a1 0 35 0 1900 rfl
  have q25 := a1 0 25 0 700 rfl
  generalize hs : gP g = s
  generalize hgb : upd2 (upd2 g 0 36 0) 0 37 0 = gb
  have hIb : zI MT gb := by rw [← hgb]; exact (a1.upd (lo := 0) (hi := 950) rfl (by decide) (by decide)).updN rfl
  have hFb : Fr [36, 37] [] g gb := by rw [← hgb]; exact (Fr.refl.u0 (by decide)).u0 (by decide)
  have s36 : (gb 0 36).toInt = 0 := by rw [← hgb]; rfl
  have s37 : gb 0 37 = 0 := by rw [← hgb]; rfl
  have h0 : xI g s 0 1 0 0 gb := by
    have f19 := hFb.i (j := 19) (by decide)
    have f25 := hFb.i (j := 25) (by decide)
    have f35 := hFb.i (j := 35) (by decide)
    have f26 : gb 26 = g 26 := hFb.2 26 (by decide) (by decide)
    have eW : gW gb = 0 := by show (gb 0 36).toInt.toNat = 0; omega
    have eP : gP gb = s := by rw [← hs]; show (gb 0 35).toInt.toNat = (g 0 35).toInt.toNat; rw [f35]
    have hs' : (s : Int) = (g 0 35).toInt := by rw [← hs]; show (((g 0 35).toInt.toNat : Nat) : Int) = _; omega
    refine ⟨hIb, hFb.mo (by decide) (by decide), hp.fr hFb (by decide) (by decide) (by decide) (by decide), by omega, by omega, by omega, by omega, fun j hj => by rw [f26], fun _ => ⟨by omega, ?_⟩⟩
    unfold xC
    rw [eW, eP, s37]
    exact ⟨fun i hi => absurd hi (Nat.not_lt_zero _), rfl, by decide, 0, 0, ⟨rfl, rfl⟩, rfl⟩
  have hcb : cM b n P gb L := hc.fr hIb hFb (by decide) (by decide) (by decide) (by decide) (by decide) (by decide) (by decide) (by decide) (by decide) (by decide)
  have hgb19 : (gb 0 19).toInt = 0 := hcb.c.2.2.2.2.2.2.2.2.2.2.2.1
  generalize hgc : upd2 (upd2 gb 0 37 1) 28 1 (vp_nar .boolean 0) = gc
  have edp : fX12_deeper fu gb L = some ((), (gc, L)) := by
    rw [← hgc]
    unfold fX12_deeper
    rw [s37, if_neg (by decide)]
    rfl
  obtain ⟨u, gc', Lc', ec', hx, -⟩ := sX12_deeper fu g gb L s h0 hgb19
  have hxc : xI g s 0 0 0 0 gc := by
    rw [edp] at ec'
    cases ec'
    exact hx
  clear ec' hx
  have hFc : Fr [37] [28] gb gc := by rw [← hgc]; exact (Fr.refl.u0 (by decide)).uk (by decide) (by decide)
  have hcc : cM b n P gc L := hcb.fr hxc.1 hFc (by decide) (by decide) (by decide) (by decide) (by decide) (by decide) (by decide) (by decide) (by decide) (by decide)
  have c37 : (gc 0 37).toInt = ((0 : Nat) : Int) + 1 := by rw [← hgc]; rfl
  have c28 : (gc 28 (0 + 1)).toInt = 0 := by rw [← hgc, upd2_at]; decide
  have eR : fX12_expression fu g L = Cl fu fu fu 1 gc L := by
    unfold fX12_expression
    refine q_cb (good_eq a13) (q_f (by decide) (q_sti (q_sti ?_)))
    rw [hgb]
    exact q_cb edp rfl
  have hxF : xF = 11240 := rfl
  have k := (sim hfu b n a2 g s xF).2.2.2.1 6 (Or.inr rfl) 0 P fu fu gc L (by decide) ⟨hcc, hxc, c37⟩ c28 (by omega) (by omega) (by omega)
  rw [eR]
  unfold xsP
  cases hxs : xs b n xF 6 0 [] P with
  | error p =>
    rw [hxs] at k
    obtain ⟨g1, L1, e1, h1, -⟩ := k
    exact ⟨(), g1, L1, e1, h1⟩
  | ok q =>
    rw [hxs] at k
    obtain ⟨g2, L2, m2, e2, z1, z2, z3, z4⟩ := k
    obtain ⟨⟨⟨p1, p2⟩, p3, p4⟩, p5, p6⟩ := xs_post xF 6 0 [] P q.1 q.2 hxs trivial
    have z5 := z1.le
    obtain ⟨m2, rfl⟩ : ∃ m', m2 = m' + 2 := ⟨m2 - 2, by omega⟩
    obtain ⟨L', e3⟩ := D_stop hfu (m := m2) z1 p5 p6 z4 p3 p4 p1 p2 (fun _ => rfl)
    obtain ⟨g1, L1, e4, h4, f4⟩ := p345_eq hfu (L := L') z1.2.1
    refine ⟨(), g1, L1, ?_, z1.1.c.fr h4.1 f4 (by decide) (by decide) (by decide) (by decide) (by decide) (by decide) (by decide) (by decide) (by decide) (by decide)⟩
    rw [e2, e3]
    unfold fX12_expression_p325
    have z37 := z1.2.2
    exact q_cb (good_eq z1.g) (q_f (by decide) (q_t (by
      refine Int32.le_iff_toInt_le.mpr ?_
      show (g2 0 37).toInt ≤ 1
      omega) e4))
/-- walk and stair told -/
def tb (w s : Bool) : Int32 := match w, s with
  | false, false => 0
  | true, false => 2048
  | false, true => 4096
  | true, true => 6144
theorem tb_11 (w s : Bool) : ((((tb w s : Int32) >>> ((11 : Int32) &&& 31) : Int32) &&& 1) = 1 ↔ w = true) ∧ (tb w s ||| ((1 : Int32) <<< ((11 : Int32) &&& 31) : Int32)) = tb true s := by cases w <;> cases s <;> decide
theorem tb_12 (w s : Bool) : ((((tb w s : Int32) >>> ((12 : Int32) &&& 31) : Int32) &&& 1) = 1 ↔ s = true) ∧ (tb w s ||| ((1 : Int32) <<< ((12 : Int32) &&& 31) : Int32)) = tb w true := by cases w <;> cases s <;> decide
def tn (t : tS) (g : gT) : Prop := (g 0 30).toInt = (t.1 : Int) ∧ (g 0 31).toInt = (t.2.1 : Int) ∧ g 0 34 = tb t.2.2.1 t.2.2.2
theorem tn.fr {t : tS} {g g1 : gT} {A B : List Nat} (h : tn t g) (hF : Fr A B g g1) (h30 : 30 ∉ A) (h31 : 31 ∉ A) (h34 : 34 ∉ A) : tn t g1 := ⟨(hF.i h30).trans h.1, (hF.i h31).trans h.2.1, (hF.1 34 h34).trans h.2.2⟩
def MP (b : Nat → Int32) (n : Nat) (r : Except Nat (tS × Nat)) (g : gT) (L : lT) : Prop := match r with
  | .error p => bM p g
  | .ok q => cM b n q.2 g L ∧ tn q.1 g
theorem t_fin {fu : Nat} (hfu : 1180591620717411303424 ≤ fu) {b : Nat → Int32} {n : Nat} {t : tS} {r : sR} {g : gT} {L : lT} (h : Sm b n r g) (ht : ∀ Q, r = .ok Q → tn t g) : Ex (fX12_line_p170 fu g L) (fun (_ : Unit) g1 L1 => MP b n (fnS b n r t) g1 L1) := by
  refine (t_170 hfu h).mono (fun _ g1 L1 hq => ?_)
  obtain ⟨s1, f1⟩ := hq
  unfold fnS
  cases r with
  | error p => exact s1
  | ok Q =>
    have ht := ht Q rfl
    rw [bn_ok] at s1 ⊢
    unfold sgS at s1 ⊢
    rcases sB_d b n Q 59 with ⟨hs, e⟩ | ⟨hs, e⟩
    · rw [e] at s1 ⊢
      exact ⟨s1, ht.fr f1 (by decide) (by decide) (by decide)⟩
    · rw [e] at s1 ⊢
      exact s1
set_option maxHeartbeats 4000000 in
theorem t_line {fu : Nat} (hfu : 1180591620717411303424 ≤ fu) {b : Nat → Int32} {n P : Nat} {t : tS} {g : gT} {L : lT} (hc : cM b n P g L) (ht : tn t g) (hd : gd g) : Ex (fX12_line fu g L) (fun (_ : Unit) g1 L1 => MP b n (liS b n t P) g1 L1) := by
  have hg : (g 0 19).toInt = 0 := hc.c.2.2.2.2.2.2.2.2.2.2.2.1
  unfold fX12_line
  refine m_known hfu hc (fun x hx => ?_)
  have w5 := isW_k (k := 5) (by decide) hx
  have w11 := isW_k (k := 11) (by decide) hx
  have w12 := isW_k (k := 12) (by decide) hx
  have w13 := isW_k (k := 13) (by decide) hx
  clear hx
  unfold liS
  -- a lesson
  by_cases c5 : x = 5
  · have h5 : isW b n P 5 := w5.mp (by rw [c5]; rfl)
    rw [if_pos c5, wB_t h5, if_pos (show (true = true) from rfl)]
    have hs : (g 0 24).toInt ≠ 0 := by rw [hc.c.2.2.2.2.2.2.1]; exact fun h => by have := sM_0.mp h; have := h5.1; omega
    refine Ex.cb ((t_lesson hfu hc ht.1).and (sX12_readsLesson fu hfu g L hc.1 hc.pn hs)) (fun _ g1 L1 hq => ?_)
    obtain ⟨⟨h1, h2⟩, h3⟩ := hq
    refine t_fin hfu h1.m (fun Q hQ => ?_)
    have e := h2 Q hQ
    exact ⟨by rw [e]; show (t.1 : Int) + 1 = ((t.1 + 1 : Nat) : Int); omega, (h3.2.1.i (by decide)).trans ht.2.1, (h3.2.1.1 34 (by decide)).trans ht.2.2⟩
  have h5 : ¬ isW b n P 5 := fun h => c5 (ic_eq.mpr (w5.mpr h))
  rw [if_neg c5, wB_f h5, if_neg (show ¬ (false = true) by decide)]
  -- walk, stair
  have bad46 : ∀ (v1 : Int32) (g1 : gT) (L1 : lT), bM P g1 → Ex (fX12_line_p46 fu v1 g1 L1) (fun (_ : Unit) g2 L2 => bM P g2) := by
    intro v1 g1 L1 hb
    unfold fX12_line_p46
    exact e_good (fun h => absurd h hb.2.2.1) (fun _ => Ex.ret hb)
  have num : ∀ (lo hi : Int32) (j : Nat) (x34 : Int32) (tt : tS) (gb : gT) (Lb : lT) (K : Int32 → gT → lT → Option (Unit × zS)), (j = 32 ∨ j = 33) → cM b n (nx b n P) gb Lb → tn tt gb → (∀ (r : Int32) (g' : gT) (L' : lT), K r g' L' = sti g' 0 j r (fun g'' => fX12_line_p170 fu g'' L')) → Ex (cb (fX12_number fu lo hi gb Lb) K) (fun (_ : Unit) g1 L1 => MP b n (fnS b n (nuS b n lo.toInt hi.toInt (nx b n P)) tt) g1 L1) := by
    intro lo hi j x34 tt gb Lb K hj hcb htb hK
    refine t_num (r := .ok (nx b n P)) hfu hcb (fun r gc Lc sc fc _ => ?_)
    rw [bn_ok] at sc
    rw [hK]
    have hT : MT 0 j = none := by rcases hj with rfl | rfl <;> rfl
    refine Ex.sti (sc.I.updN hT) (fun ge gee hIe => ?_)
    have se : SM b n (nuS b n lo.toInt hi.toInt (nx b n P)) ge Lc := by rw [gee] at hIe ⊢; exact sc.u0 hIe (by omega)
    have hFe : Fr [32, 33] [] gc ge := by rw [gee]; exact Fr.refl.u0 (by rcases hj with rfl | rfl <;> decide)
    exact t_fin hfu se.m (fun _ _ => (htb.fr fc (by decide) (by decide) (by decide)).fr hFe (by decide) (by decide) (by decide))
  by_cases c11 : x = 11
  · have h11 : isW b n P 11 := w11.mp (by rw [c11]; rfl)
    rw [if_pos c11, wB_t h11, if_pos (show (true = true) from rfl)]
    subst c11
    have tb1 := tb_11 t.2.2.1 t.2.2.2
    unfold fX12_line_p29
    rw [ht.2.2]
    cases hw : t.2.2.1 with
    | true =>
      rw [hw] at tb1
      rw [if_pos (tb1.1.mpr rfl)]
      exact m_wrong (by decide) hc (fun g1 k1 _ => bad46 11 g1 L k1)
    | false =>
      rw [hw] at tb1
      rw [if_neg (fun h => nomatch tb1.1.mp h)]
      unfold fX12_line_p46
      refine e_good (fun _ => ?_) (fun hb => absurd hg hb)
      rw [ht.2.2, hw, tb1.2]
      refine Ex.sti (hc.1.updN rfl) (fun ga gae hIa => ?_)
      have sa : cM b n P ga L := by rw [gae] at hIa ⊢; exact SM.u0 (r := .ok P) hc hIa (by decide)
      have ta : tn (t.1, t.2.1, true, t.2.2.2) ga := by rw [gae]; exact ⟨ht.1, ht.2.1, upd2_at⟩
      refine m_goes hfu sa (fun gb Lb k1 k2 => ?_)
      rw [if_pos rfl]
      exact num 0 9 32 0 _ gb Lb _ (Or.inl rfl) k1 (ta.fr k2 (by decide) (by decide) (by decide)) (fun _ _ _ => rfl)
  have h11 : ¬ isW b n P 11 := fun h => c11 (ic_eq.mpr (w11.mpr h))
  rw [if_neg c11, wB_f h11, if_neg (show ¬ (false = true) by decide)]
  by_cases c12 : x = 12
  · have h12 : isW b n P 12 := w12.mp (by rw [c12]; rfl)
    rw [if_pos c12, wB_t h12, if_pos (show (true = true) from rfl)]
    subst c12
    have tb1 := tb_12 t.2.2.1 t.2.2.2
    unfold fX12_line_p29
    rw [ht.2.2]
    cases hw : t.2.2.2 with
    | true =>
      rw [hw] at tb1
      rw [if_pos (tb1.1.mpr rfl)]
      exact m_wrong (by decide) hc (fun g1 k1 _ => bad46 12 g1 L k1)
    | false =>
      rw [hw] at tb1
      rw [if_neg (fun h => nomatch tb1.1.mp h)]
      unfold fX12_line_p46
      refine e_good (fun _ => ?_) (fun hb => absurd hg hb)
      rw [ht.2.2, hw, tb1.2]
      refine Ex.sti (hc.1.updN rfl) (fun ga gae hIa => ?_)
      have sa : cM b n P ga L := by rw [gae] at hIa ⊢; exact SM.u0 (r := .ok P) hc hIa (by decide)
      have ta : tn (t.1, t.2.1, t.2.2.1, true) ga := by rw [gae]; exact ⟨ht.1, ht.2.1, upd2_at⟩
      refine m_goes hfu sa (fun gb Lb k1 k2 => ?_)
      rw [if_neg (show ¬ ((12 : Int32) = 11) by decide)]
      exact num 1 99 33 0 _ gb Lb _ (Or.inr rfl) k1 (ta.fr k2 (by decide) (by decide) (by decide)) (fun _ _ _ => rfl)
  have h12 : ¬ isW b n P 12 := fun h => c12 (ic_eq.mpr (w12.mpr h))
  rw [if_neg c12, wB_f h12, if_neg (show ¬ (false = true) by decide)]
  -- a rule
  by_cases c13 : x = 13
  rotate_left
  · have h13 : ¬ isW b n P 13 := fun h => c13 (ic_eq.mpr (w13.mpr h))
    rw [if_neg c13, wB_f h13, if_neg (show ¬ (false = true) by decide)]
    refine m_wrong (by decide) hc (fun g1 k1 _ => ?_)
    exact (t_170 (b := b) (n := n) (r := .error P) hfu k1).mono (fun _ g2 L2 hq => hq.1)
  have h13 : isW b n P 13 := w13.mp (by rw [c13]; rfl)
  rw [if_pos c13, wB_t h13, if_pos (show (true = true) from rfl)]
  by_cases c4 : g 0 31 = 4
  · have c4' := icc_eq (m := (g 0 31).toInt) (n := 4) rfl (by decide) c4
    rw [if_pos c4]
    have n4 : ¬ t.2.1 < 4 := by have := ht.2.1; omega
    rw [if_neg n4]
    refine m_wrong (by decide) hc (fun g1 k1 _ => ?_)
    unfold fX12_line_p123
    exact e_good (fun h => absurd h k1.2.2.1) (fun _ => Ex.ret k1)
  have c4' := icc_neq (m := (g 0 31).toInt) (n := 4) rfl (by decide) c4
  have q31 := hc.1 0 31 0 4 rfl
  have ht2 := ht.2.1
  have n4 : t.2.1 < 4 := by omega
  rw [if_neg c4, if_pos n4]
  unfold fX12_line_p123
  refine e_good (fun _ => ?_) (fun hb => absurd hg hb)
  have hlt : P < n := isW_lt h13
  have hn := nx_le (b := b) hc.2.2.1
  have hnl := hn.2.2 hlt
  refine m_goes hfu hc (fun ga La k1 k2 => ?_)
  have a31 : ga 0 31 = g 0 31 := k2.1 31 (by decide)
  rw [a31]
  refine Ex.ck (by omega) (by omega) ?_
  refine Ex.sti (k1.1.updN rfl) (fun gb gbe hIb => ?_)
  have b31 : gb 0 31 = g 0 31 := by rw [gbe]; exact a31
  rw [b31]
  have sb : cM b n (nx b n P) gb La := by rw [gbe] at hIb ⊢; exact SM.u (r := .ok (nx b n P)) k1 hIb (by decide) (by decide)
  have ew : (g 0 31 + 1).toInt = (g 0 31).toInt + 1 := ic_addc rfl (by decide) (by omega) (by omega)
  refine Ex.sti (hIb.upd (lo := 0) (hi := 4) rfl (by omega) (by omega)) (fun gc gce hIc => ?_)
  have sc : cM b n (nx b n P) gc La := by rw [gce] at hIc ⊢; exact SM.u0 (r := .ok (nx b n P)) sb hIc (by decide)
  have hFc : Fr [23, 24, 25, 26, 27, 28, 31] [25] g gc := by rw [gce, gbe]; exact ((k2.mo (by decide) (by decide)).uk (by decide) (by decide)).u0 (by decide)
  have c31 : gc 0 31 = g 0 31 + 1 := by rw [gce]; exact upd2_at
  have c35 := hFc.i (j := 35) (by decide)
  have c25 : (gc 0 25).toInt = (nx b n P : Int) := sc.2.2.2.2.2.1
  have g25 : (g 0 25).toInt = (P : Int) := hc.2.2.2.2.2.1
  have d3 := hd.2.2.1
  have hw35 : (gc 0 35).toInt + 2 ≤ 2 * (gc 0 25).toInt := by omega
  have hg19 : (gc 0 19).toInt = 0 := sc.c.2.2.2.2.2.2.2.2.2.2.2.1
  refine Ex.cb ((t_expr hfu sc hw35).and (sX12_expression fu hfu gc La hIc sc.pn hg19 hw35)) (fun _ ge Le hq => ?_)
  obtain ⟨h1, h2⟩ := hq
  refine t_fin hfu h1 (fun Q hQ => ⟨?_, ?_, ?_⟩)
  · rw [h2.2.1.i (by decide), hFc.i (by decide)]; exact ht.1
  · rw [h2.2.1.i (by decide), c31, ew, ht2]; show (t.2.1 : Int) + 1 = ((t.2.1 + 1 : Nat) : Int); omega
  · rw [h2.2.1.1 34 (by decide), hFc.1 34 (by decide)]; exact ht.2.2
