/-! ===== the reference's parser: lines, house ===== -/
abbrev aP : List Nat := [19, 20, 23, 24, 25, 26, 27, 28, 30, 31, 32, 33, 34, 35, 36, 37]
abbrev bP : List Nat := [15, 16, 17, 18, 19, 20, 21, 22, 23, 24, 25, 26, 27, 28]
theorem Fr.mJ {g g1 : gT} (h : Fr aP bP g g1) (hJ : mJ g) : mJ g1 := by
  refine hJ.congr (fun k j hs => ?_)
  by_cases hk : k = 0
  · subst hk
    refine h.1 j (fun hm => ?_)
    have e : ∀ j ∈ aP, mSup 0 j = false := by decide
    rw [e j hm] at hs; exact nomatch hs
  · refine congrFun (h.2 k hk (fun hm => ?_)) j
    have e : ∀ k ∈ bP, mSup k = fun _ => false := by
      intro k hk
      simp only [bP, List.mem_cons, List.not_mem_nil, or_false] at hk
      rcases hk with rfl | rfl | rfl | rfl | rfl | rfl | rfl | rfl | rfl | rfl | rfl | rfl | rfl | rfl <;> rfl
    rw [e k hm] at hs; exact nomatch hs
def rOk (g : gT) : Prop := ∀ r : Nat, (r : Int) < (g 0 31).toInt → 0 ≤ (g 25 r).toInt ∧ cl (g 26) (g 25 r).toInt.toNat (gP g)
/-- what has been read so far, while there is no fault -/
def gd (g : gT) : Prop := mLs g ∧ rOk g ∧ (g 0 35).toInt ≤ 2 * (g 0 25).toInt ∧ 1 ≤ (g 0 33).toInt ∧ (g 0 33).toInt ≤ 99
theorem gd.fr {g g1 : gT} {A B : List Nat} (h : gd g) (hF : Fr A B g g1) (h25 : (g 0 25).toInt ≤ (g1 0 25).toInt) (a30 : 30 ∉ A) (a31 : 31 ∉ A) (a33 : 33 ∉ A) (a35 : 35 ∉ A) (b19 : 19 ∉ B) (b20 : 20 ∉ B) (b22 : 22 ∉ B) (b25 : 25 ∉ B) (b26 : 26 ∉ B) : gd g1 := by
  obtain ⟨h1, h2, h3, h4, h5⟩ := h
  have e35 := hF.i a35
  have e33 := hF.i a33
  have eP : gP g1 = gP g := by show (g1 0 35).toInt.toNat = (g 0 35).toInt.toNat; rw [e35]
  refine ⟨?_, ?_, by omega, by omega, by omega⟩
  · unfold mLs
    rw [hF.1 30 a30, hF.2 19 (by decide) b19, hF.2 20 (by decide) b20, hF.2 22 (by decide) b22]; exact h1
  · unfold rOk
    rw [hF.1 31 a31, hF.2 25 (by decide) b25, hF.2 26 (by decide) b26, eP]; exact h2
theorem gd.n {g g1 : gT} (h : gd g) (hq : QN g g1) : gd g1 := h.fr hq.2.1 hq.2.2.2.2 (by decide) (by decide) (by decide) (by decide) (by decide) (by decide) (by decide) (by decide) (by decide)
def HQ (g g1 : gT) : Prop := zI MT g1 ∧ Fr aP bP g g1 ∧ pN g1 ∧ ((g1 0 19).toInt = 0 → (g 0 25).toInt < (g1 0 25).toInt ∧ gd g1)
set_option maxHeartbeats 4000000 in
theorem sX12_line (fu : Nat) (hfu : 1180591620717411303424 ≤ fu) (g0 : gT) (L0 : lT) (hI : zI MT g0) (hp : pN g0) (hg : (g0 0 19).toInt = 0) (hd : gd g0) : Ex (fX12_line fu g0 L0) (fun (_ : Unit) g1 L1 => HQ g0 g1) := by
  have P170 : ∀ (g : gT) (L : lT), HQ g0 g → Ex (fX12_line_p170 fu g L) (fun (_ : Unit) g1 L1 => HQ g0 g1) := by
    intro g L h
    obtain ⟨h1, h2, h3, h4⟩ := h
    unfold fX12_line_p170
    refine e_signK (fun x _ => ?_)
    refine Ex.cb (sX12_need fu hfu x g L h1 h3) (fun _ g1 L1 hq => Ex.ret ⟨hq.1, h2.tr (hq.2.1.mo (by decide) (by decide)), hq.2.2.1, fun hb => ?_⟩)
    have hc : (g 0 19).toInt = 0 := by
      by_cases hc : (g 0 19).toInt = 0
      · exact hc
      · exact absurd hb (hq.2.2.2.1 hc)
    have := hq.2.2.2.2
    have h4 := h4 hc
    exact ⟨by omega, h4.2.n hq⟩
  have bad : ∀ (g1 : gT), zI MT g1 → Fr [19, 20] [] g0 g1 → (g1 0 19).toInt ≠ 0 → HQ g0 g1 := fun g1 hI1 hF hb => ⟨hI1, hF.mo (by decide) (by decide), hp.fr hF (by decide) (by decide) (by decide) (by decide), fun h => absurd h hb⟩
  unfold fX12_line
  refine e_known hfu (fun x L1 x1 x2 x3 => ?_)
  -- a lesson
  refine Ex.ite (fun cx => ?_) (fun _ => ?_)
  · have cx := icc_eq (m := x.toInt) (n := 5) rfl (by decide) cx
    have hs := x3 (by omega)
    refine Ex.cb (sX12_readsLesson fu hfu g0 L1 hI hp (by omega)) (fun _ g1 L2 hq => P170 g1 L2 ?_)
    obtain ⟨q1, q2, q3, q4, q5⟩ := hq
    refine ⟨q1, q2.mo (by decide) (by decide), q3, fun hb => ?_⟩
    obtain ⟨q5, q6⟩ := q5 hb
    obtain ⟨d1, d2, d3, d4, d5⟩ := hd
    have e35 := q2.i (j := 35) (by decide)
    have e33 := q2.i (j := 33) (by decide)
    have eP : gP g1 = gP g0 := by show (g1 0 35).toInt.toNat = (g0 0 35).toInt.toNat; rw [e35]
    refine ⟨q5, q6 d1, ?_, by omega, by omega, by omega⟩
    unfold rOk
    rw [q2.1 31 (by decide), q2.2 25 (by decide) (by decide), q2.2 26 (by decide) (by decide), eP]; exact d2
  -- walk, stair
  have P46 : ∀ (g : gT) (L : lT), x.toInt ≠ -1 → ((g = g0 ∧ zI MT g) ∨ ((g 0 19).toInt ≠ 0 ∧ HQ g0 g)) → Ex (fX12_line_p46 fu x g L) (fun (_ : Unit) g1 L1 => HQ g0 g1) := by
    intro g L hx h
    unfold fX12_line_p46
    refine e_good (fun hgg => ?_) (fun hb => ?_)
    rotate_left
    · rcases h with h | h
      · rw [h.1] at hb; exact absurd hg hb
      · exact Ex.ret h.2
    rcases h with h | h
    rotate_left
    · exact absurd hgg h.1
    obtain ⟨rfl, -⟩ := h
    have hs := x3 hx
    refine Ex.sti (hI.updN rfl) (fun ga gae hIa => ?_)
    have hFa : Fr [34] [] g ga := by rw [gae]; exact Fr.refl.u0 (by decide)
    have hpa := hp.fr hFa (by decide) (by decide) (by decide) (by decide)
    have a24 := hFa.i (j := 24) (by decide)
    have a25 := hFa.i (j := 25) (by decide)
    have a23 := hFa.i (j := 23) (by decide)
    refine e_goes hfu hIa hpa (fun gb Lb hqb => ?_)
    have pp := hpa.2.2 (by omega)
    have pq := hqb.2.2.2
    have hFb : Fr aP bP g gb := (hFa.mo (by decide) (by decide)).tr (hqb.2.1.mo (by decide) (by decide))
    have hdb : gd gb := (hd.fr hFa (by omega) (by decide) (by decide) (by decide) (by decide) (by decide) (by decide) (by decide) (by decide) (by decide)).n (hqb.n hpa)
    have num : ∀ (lo hi : Int32) (j : Nat) (K : Int32 → gT → lT → Option (Unit × zS)), (j = 32 ∨ j = 33) → (j = 33 → lo.toInt = 1 ∧ hi.toInt = 99) → (∀ (r : Int32) (g' : gT) (L' : lT), K r g' L' = sti g' 0 j r (fun g'' => fX12_line_p170 fu g'' L')) → Ex (cb (fX12_number fu lo hi gb Lb) K) (fun (_ : Unit) g1 L1 => HQ g g1) := by
      intro lo hi j K hj hlo hK
      refine Ex.cb (sX12_number fu hfu lo hi gb Lb hqb.1 hqb.2.2.1) (fun r gc Lc hr => ?_)
      rw [hK]
      have hT : MT 0 j = none := by rcases hj with rfl | rfl <;> rfl
      refine Ex.sti (hr.1.1.updN hT) (fun ge gee hIe => ?_)
      have hFe : Fr [32, 33] [] gc ge := by rw [gee]; exact Fr.refl.u0 (by rcases hj with rfl | rfl <;> decide)
      have e25 := hFe.i (j := 25) (by decide)
      have e19 := hFe.i (j := 19) (by decide)
      refine P170 ge Lc ⟨hIe, hFb.tr ((hr.1.2.1.mo (by decide) (by decide)).tr (hFe.mo (by decide) (by decide))), hr.1.2.2.1.fr hFe (by decide) (by decide) (by decide) (by decide), fun hbb => ?_⟩
      rw [e19] at hbb
      obtain ⟨r1, r2, r3⟩ := hr.2.2.2 hbb
      refine ⟨by omega, ?_⟩
      obtain ⟨d1, d2, d3, d4, d5⟩ := hdb.n hr.1
      have e35 := hFe.i (j := 35) (by decide)
      have eP : gP ge = gP gc := by show (ge 0 35).toInt.toNat = (gc 0 35).toInt.toNat; rw [e35]
      have e33 : 1 ≤ (ge 0 33).toInt ∧ (ge 0 33).toInt ≤ 99 := by
        rcases hj with rfl | rfl
        · have : ge 0 33 = gc 0 33 := by rw [gee]; rfl
          rw [this]; exact ⟨d4, d5⟩
        · have : ge 0 33 = r := by rw [gee]; exact upd2_at
          rw [this]
          have := hlo rfl
          omega
      refine ⟨?_, ?_, by omega, e33.1, e33.2⟩
      · unfold mLs
        rw [hFe.1 30 (by decide), hFe.2 19 (by decide) (by decide), hFe.2 20 (by decide) (by decide), hFe.2 22 (by decide) (by decide)]; exact d1
      · unfold rOk
        rw [hFe.1 31 (by decide), hFe.2 25 (by decide) (by decide), hFe.2 26 (by decide) (by decide), eP]; exact d2
    refine Ex.ite (fun _ => num 0 9 32 _ (Or.inl rfl) (fun h => absurd h (by decide)) (fun _ _ _ => rfl)) (fun _ => num 1 99 33 _ (Or.inr rfl) (fun _ => ⟨rfl, rfl⟩) (fun _ _ _ => rfl))
  have P29 : x.toInt ≠ -1 → Ex (fX12_line_p29 fu x g0 L1) (fun (_ : Unit) g1 L1 => HQ g0 g1) := by
    intro hx
    unfold fX12_line_p29
    refine Ex.ite (fun _ => ?_) (fun _ => P46 g0 L1 hx (Or.inl ⟨rfl, hI⟩))
    exact e_wrong hI (by decide) (fun g1 hI1 hF hb => P46 g1 L1 hx (Or.inr ⟨hb, bad g1 hI1 hF hb⟩))
  refine Ex.ite (fun cx => P29 ?_) (fun _ => ?_)
  · have cx := icc_eq (m := x.toInt) (n := 11) rfl (by decide) cx; omega
  refine Ex.ite (fun cx => P29 ?_) (fun _ => ?_)
  · have cx := icc_eq (m := x.toInt) (n := 12) rfl (by decide) cx; omega
  -- a rule
  refine Ex.ite (fun cx => ?_) (fun _ => e_wrong hI (by decide) (fun g1 hI1 hF hb => P170 g1 L1 (bad g1 hI1 hF hb)))
  have cx := icc_eq (m := x.toInt) (n := 13) rfl (by decide) cx
  have hs := x3 (by omega)
  refine Ex.ite (fun _ => ?_) (fun c4 => ?_)
  · refine e_wrong hI (by decide) (fun g1 hI1 hF hb => ?_)
    unfold fX12_line_p123
    exact e_good (fun h => absurd h hb) (fun _ => Ex.ret (bad g1 hI1 hF hb))
  have c4 := icc_neq (m := (g0 0 31).toInt) (n := 4) rfl (by decide) c4
  have q31 := hI 0 31 0 4 rfl
  unfold fX12_line_p123
  refine e_good (fun _ => ?_) (fun hb => absurd hg hb)
  refine e_goes hfu hI hp (fun ga La hq => ?_)
  have pp := hp.2.2 (by omega)
  have pq := hq.2.2.2
  have a31 : ga 0 31 = g0 0 31 := hq.2.1.1 31 (by decide)
  have a35 : ga 0 35 = g0 0 35 := hq.2.1.1 35 (by decide)
  have q35 := hI 0 35 0 1900 rfl
  rw [a31]
  refine Ex.ck (by omega) (by omega) ?_
  refine Ex.sti (hq.1.updN rfl) (fun gb gbe hIb => ?_)
  have b31 : gb 0 31 = g0 0 31 := by rw [gbe]; exact a31
  rw [b31]
  have ew : (g0 0 31 + 1).toInt = (g0 0 31).toInt + 1 := ic_addc rfl (by decide) (by omega) (by omega)
  refine Ex.sti (hIb.upd (lo := 0) (hi := 4) rfl (by omega) (by omega)) (fun gc gce hIc => ?_)
  have hFc : Fr [23, 24, 25, 26, 27, 28, 31] [25] g0 gc := by rw [gce, gbe]; exact ((hq.2.1.mo (by decide) (by decide)).uk (by decide) (by decide)).u0 (by decide)
  have hFac : Fr [31] [25] ga gc := by rw [gce, gbe]; exact (Fr.refl.uk (by decide) (by decide)).u0 (by decide)
  have hpc : pN gc := hq.2.2.1.fr hFac (by decide) (by decide) (by decide) (by decide)
  have c19 := hFc.i (j := 19) (by decide)
  have c25 := hFac.i (j := 25) (by decide)
  have c35 := hFc.i (j := 35) (by decide)
  have c31 : gc 0 31 = g0 0 31 + 1 := by rw [gce]; exact upd2_at
  have c26 : gc 26 = g0 26 := hFc.2 26 (by decide) (by decide)
  have c25a : ∀ r, r ≠ (g0 0 31).toInt.toNat → gc 25 r = g0 25 r := by
    intro r hr
    rw [gce, upd2_nk (by decide), gbe, upd2_nj (show r ≠ (g0 0 31).toNatClampNeg from hr), hq.2.1.2 25 (by decide) (by decide)]
  have c25b : gc 25 (g0 0 31).toInt.toNat = g0 0 35 := by
    rw [gce, upd2_nk (by decide), gbe]; exact upd2_at.trans a35
  obtain ⟨d1, d2, d3, d4, d5⟩ := hd
  refine Ex.cb (sX12_expression fu hfu gc La hIc hpc (by omega) (by omega)) (fun _ ge Le hx => P170 ge Le ?_)
  obtain ⟨z1, z2, z3, z4, z5, z6⟩ := hx
  refine ⟨z1, (hFc.mo (by decide) (by decide)).tr (z2.mo (by decide) (by decide)), z3, fun hbb => ?_⟩
  obtain ⟨z6, z7, z8⟩ := z6 hbb
  have ePc : gP gc = gP g0 := by show (gc 0 35).toInt.toNat = (g0 0 35).toInt.toNat; rw [c35]
  rw [ePc] at z5 z6 z8
  have e33 : (ge 0 33).toInt = (g0 0 33).toInt := by rw [z2.i (by decide), hFc.i (by decide)]
  have hPP : gP g0 ≤ gP ge := by
    show gP g0 ≤ (ge 0 35).toInt.toNat
    omega
  refine ⟨by omega, ?_, ?_, z7, by omega, by omega⟩
  · unfold mLs
    rw [z2.1 30 (by decide), z2.2 19 (by decide) (by decide), z2.2 20 (by decide) (by decide), z2.2 22 (by decide) (by decide), hFc.1 30 (by decide), hFc.2 19 (by decide) (by decide), hFc.2 20 (by decide) (by decide), hFc.2 22 (by decide) (by decide)]
    exact d1
  · unfold rOk
    rw [z2.1 31 (by decide), z2.2 25 (by decide) (by decide), c31]
    intro r hr
    rw [ew] at hr
    by_cases h9 : r = (g0 0 31).toInt.toNat
    · subst h9
      rw [c25b]
      exact ⟨q35.1, z6⟩
    · rw [c25a r h9]
      obtain ⟨y1, y2⟩ := d2 r (by omega)
      exact ⟨y1, cl_c (fun j hj => by rw [z5 j hj, c26]) hPP y2⟩
set_option maxHeartbeats 8000000 in
theorem sX12_house (fu : Nat) (hfu : 1180591620717411303424 ≤ fu) (p1 : Int32) (g0 : gT) (L0 : lT) (hI : zI MT g0) (hJ : mJ g0) : Ex (fX12_house fu p1 g0 L0) (fun (r : Int32) g1 L1 => zI MT g1 ∧ mJ g1 ∧ (0 ≤ p1.toInt → p1.toInt ≤ (g0 0 18).toInt → (g1 0 18).toInt = 0) ∧ (p1.toInt < 0 ∨ (g0 0 18).toInt < p1.toInt → g1 0 18 = g0 0 18)) := by
  have q18 := hI 0 18 0 700 rfl
  unfold fX12_house
  refine Ex.sti (hI.updN rfl) (fun ga gae hIa => ?_)
  have a0 : ga 0 0 = 0 := by rw [gae]; exact upd2_at
  have a18 : ga 0 18 = g0 0 18 := by rw [gae]; rfl
  have hJa : mJ ga := by rw [gae]; exact hJ.upd rfl
  rw [a18]
  -- refused
  have no : p1.toInt < 0 ∨ (g0 0 18).toInt < p1.toInt → Ex (fX12_house_p22 fu p1 ga L0) (fun (r : Int32) g1 L1 => zI MT g1 ∧ mJ g1 ∧ (0 ≤ p1.toInt → p1.toInt ≤ (g0 0 18).toInt → (g1 0 18).toInt = 0) ∧ (p1.toInt < 0 ∨ (g0 0 18).toInt < p1.toInt → g1 0 18 = g0 0 18)) := by
    intro hn
    unfold fX12_house_p22 fX12_house_p23
    have e : fX12_right fu 0 1 ga L0 = some (0, (upd2 ga 0 0 1, L0)) := by
      unfold fX12_right
      rw [if_pos a0, if_pos rfl]
      show fX12_right_p16 fu (upd2 ga 0 0 1) L0 = _
      unfold fX12_right_p16 fX12_right_p28
      rw [ckb0, ckb1, if_neg (by rw [upd2_at]; decide)]
    rw [e]
    refine e_b0 (Ex.ret ⟨hIa.updN rfl, hJa.upd rfl, fun h1 h2 => by omega, fun _ => ?_⟩)
    exact a18
  refine Ex.ite (fun c => no (Or.inl (icc_lt (m := p1.toInt) (n := 0) rfl (by decide) c))) (fun c1 => ?_)
  refine Ex.ite (fun c => no (Or.inr (icc_lt (m := (g0 0 18).toInt) (n := p1.toInt) rfl rfl c))) (fun c2 => ?_)
  have c1 := icc_nlt (m := p1.toInt) (n := 0) rfl (by decide) c1
  have c2 := icc_nlt (m := (g0 0 18).toInt) (n := p1.toInt) rfl rfl c2
  unfold fX12_house_p23
  have e : fX12_right fu 1 1 ga L0 = some (1, (ga, L0)) := by
    unfold fX12_right
    rw [if_pos a0, if_neg (by decide)]
    unfold fX12_right_p16 fX12_right_p28
    rw [ckb0, ckb1, if_pos a0]
  rw [e]
  refine e_b1 ?_
  refine Ex.sti (hIa.upd (lo := 0) (hi := 700) rfl (by decide) (by decide)) (fun g7 g7e hI7 => ?_)
  refine Ex.sti (hI7.updN rfl) (fun g8 g8e hI8 => ?_)
  refine Ex.sti (hI8.updN rfl) (fun g9 g9e hI9 => ?_)
  refine Ex.sti (hI9.upd (lo := 0) (hi := 700) rfl (by omega) (by omega)) (fun g10 g10e hI10 => ?_)
  refine Ex.sti (hI10.upd (lo := 0) (hi := 700) rfl (by decide) (by decide)) (fun g11 g11e hI11 => ?_)
  refine Ex.sti (hI11.upd (lo := 0) (hi := 12) rfl (by decide) (by decide)) (fun g12 g12e hI12 => ?_)
  refine Ex.sti (hI12.upd (lo := 0) (hi := 4) rfl (by decide) (by decide)) (fun g13 g13e hI13 => ?_)
  refine Ex.sti (hI13.updN rfl) (fun g14 g14e hI14 => ?_)
  refine Ex.sti (hI14.updN rfl) (fun g15 g15e hI15 => ?_)
  refine Ex.sti (hI15.updN rfl) (fun g16 g16e hI16 => ?_)
  refine Ex.sti (hI16.upd (lo := 0) (hi := 1900) rfl (by decide) (by decide)) (fun g17 g17e hI17 => ?_)
  have hJ17 : mJ g17 := by
    rw [g17e, g16e, g15e, g14e, g13e, g12e, g11e, g10e, g9e, g8e, g7e]
    exact ((((((((((hJa.upd rfl).upd rfl).upd rfl).upd rfl).upd rfl).upd rfl).upd rfl).upd rfl).upd rfl).upd rfl).upd rfl
  have s18 : g17 0 18 = 0 := by rw [g17e, g16e, g15e, g14e, g13e, g12e, g11e, g10e, g9e, g8e, g7e]; rfl
  have s19 : g17 0 19 = 0 := by rw [g17e, g16e, g15e, g14e, g13e, g12e, g11e, g10e, g9e]; rfl
  have s22 : g17 0 22 = p1 := by rw [g17e, g16e, g15e, g14e, g13e, g12e, g11e, g10e]; rfl
  have s23 : g17 0 23 = 0 := by rw [g17e, g16e, g15e, g14e, g13e, g12e, g11e]; rfl
  have s30 : g17 0 30 = 0 := by rw [g17e, g16e, g15e, g14e, g13e, g12e]; rfl
  have s31 : g17 0 31 = 0 := by rw [g17e, g16e, g15e, g14e, g13e]; rfl
  have s33 : g17 0 33 = 99 := by rw [g17e, g16e, g15e]; rfl
  have s35 : g17 0 35 = 0 := by rw [g17e]; exact upd2_at
  clear g17e g16e g15e g14e g13e g12e g11e g10e g9e g8e g7e hI7 hI8 hI9 hI10 hI11 hI12 hI13 hI14 hI15 hI16
  refine Ex.cb (sX12_goes fu hfu g17 L0 hI17 (by rw [s22, s23]; exact c1)) (fun _ gs Ls hq => ?_)
  have t18 : gs 0 18 = 0 := by rw [hq.2.1.1 18 (by decide)]; exact s18
  have t19 : (gs 0 19).toInt = 0 := by rw [hq.2.1.1 19 (by decide), s19]; rfl
  have t30 : gs 0 30 = 0 := by rw [hq.2.1.1 30 (by decide)]; exact s30
  have t31 : gs 0 31 = 0 := by rw [hq.2.1.1 31 (by decide)]; exact s31
  have t33 : gs 0 33 = 99 := by rw [hq.2.1.1 33 (by decide)]; exact s33
  have t35 : gs 0 35 = 0 := by rw [hq.2.1.1 35 (by decide)]; exact s35
  have hIs := hq.1
  have q25 := hIs 0 25 0 700 rfl
  have hds : gd gs := by
    refine ⟨?_, ?_, ?_, ?_, ?_⟩
    · unfold mLs; rw [t30]; intro i hi; exact absurd hi (by show ¬ (i : Int) < 0; omega)
    · unfold rOk; rw [t31]; intro i hi; exact absurd hi (by show ¬ (i : Int) < 0; omega)
    · rw [t35]; show (0 : Int) ≤ _; omega
    · rw [t33]; decide
    · rw [t33]; decide
  have hJs : mJ gs := Fr.mJ (hq.2.1.mo (by decide) (by decide)) hJ17
  unfold fX12_house_l92
  have hm := mm_le hIs
  refine Ex.loop (α := gT × lT) (fun v => zI MT v.1 ∧ Fr aP bP gs v.1 ∧ pN v.1 ∧ ((v.1 0 19).toInt = 0 → gd v.1)) (fun v => mm v.1) (by omega) (by show mm gs < (fu : Int); omega) ⟨hIs, Fr.refl, hq.2.2.1, fun _ => hds⟩ (fun k92 v hv ih => ?_)
  clear hq hm
  obtain ⟨g, L⟩ := v
  obtain ⟨h1, h2, h3, h4⟩ := hv
  have h1 : zI MT g := h1
  have h2 : Fr aP bP gs g := h2
  have h3 : pN g := h3
  have h4 : (g 0 19).toInt = 0 → gd g := h4
  have hJg : mJ g := h2.mJ hJs
  have u18 : g 0 18 = 0 := by rw [h2.1 18 (by decide)]; exact t18
  show Ex (fX12_house_s92 fu k92 g L) _
  unfold fX12_house_s92
  have r25 := h1 0 25 0 700 rfl
  have fin : Ex (fX12_house_p113 fu g L) (fun (r : Int32) g1 L1 => zI MT g1 ∧ mJ g1 ∧ (0 ≤ p1.toInt → p1.toInt ≤ (g0 0 18).toInt → (g1 0 18).toInt = 0) ∧ (p1.toInt < 0 ∨ (g0 0 18).toInt < p1.toInt → g1 0 18 = g0 0 18)) := by
    unfold fX12_house_p113
    refine e_good (fun hgg => ?_) (fun _ => ?_)
    rotate_left
    · refine Ex.ck (by decide) (by decide) ?_
      refine Ex.ck (by decide) (by decide) ?_
      refine Ex.sti (h1.updN rfl) (fun gb gbe hIb => Ex.ret ⟨hIb, by rw [gbe]; exact hJg.upd rfl, fun _ _ => ?_, fun h => by omega⟩)
      have : gb 0 18 = 0 := by rw [gbe]; exact u18
      rw [this]; rfl
    obtain ⟨d1, d2, d3, d4, d5⟩ := h4 hgg
    have q30 := h1 0 30 0 12 rfl
    have q31 := h1 0 31 0 4 rfl
    have q35 := h1 0 35 0 1900 rfl
    refine Ex.sti (h1.upd (lo := 0) (hi := 12) rfl (by omega) (by omega)) (fun ga1 e1 i1 => ?_)
    have x31 : ga1 0 31 = g 0 31 := by rw [e1]; rfl
    rw [x31]
    refine Ex.sti (i1.upd (lo := 0) (hi := 4) rfl (by omega) (by omega)) (fun ga2 e2 i2 => ?_)
    refine Ex.sti (i2.updN rfl) (fun ga3 e3 i3 => ?_)
    have x33 : ga3 0 33 = g 0 33 := by rw [e3, e2, e1]; rfl
    rw [x33]
    refine Ex.sti (i3.upd (lo := 1) (hi := 99) rfl d4 d5) (fun ga4 e4 i4 => ?_)
    have y1 : ga4 0 1 = g 0 30 := by rw [e4, e3, e2, e1]; rfl
    have y2 : ga4 0 2 = g 0 31 := by rw [e4, e3, e2]; rfl
    have y18 : ga4 0 18 = 0 := by rw [e4, e3, e2, e1]; exact u18
    have y19 : ga4 19 = g 19 := by rw [e4, e3, e2, e1]; rfl
    have y20 : ga4 20 = g 20 := by rw [e4, e3, e2, e1]; rfl
    have y22 : ga4 22 = g 22 := by rw [e4, e3, e2, e1]; rfl
    have y25 : ga4 25 = g 25 := by rw [e4, e3, e2, e1]; rfl
    have y26 : ga4 26 = g 26 := by rw [e4, e3, e2, e1]; rfl
    clear e1 e2 e3 e4 x31 x33 i1 i2 i3
    refine Ex.cb (uX12_copies_15_1 fu hfu ga4 L) (fun _ gb1 L1 hc1 => ?_)
    refine Ex.cb (uX12_copies_16_2 fu hfu gb1 L1) (fun _ gb2 L2 hc2 => ?_)
    refine Ex.cb (uX12_copies_17_3 fu hfu gb2 L2) (fun _ gb3 L3 hc3 => ?_)
    refine Ex.cb (uX12_copies_18_4 fu hfu gb3 L3) (fun _ gb4 L4 hc4 => ?_)
    refine Ex.cb (uX12_copies_19_5 fu hfu gb4 L4) (fun _ gb5 L5 hc5 => ?_)
    refine Ex.cb (uX12_copies_20_6 fu hfu gb5 L5) (fun _ gb6 L6 hc6 => ?_)
    refine Ex.cb (uX12_copies_21_7 fu hfu gb6 L6) (fun _ gb7 L7 hc7 => ?_)
    refine Ex.cb (uX12_copies_22_8 fu hfu gb7 L7) (fun _ gb8 L8 hc8 => ?_)
    refine Ex.cb (uX12_copies_23_9 fu hfu gb8 L8) (fun _ gb9 L9 hc9 => ?_)
    refine Ex.cb (uX12_copies_24_12 fu hfu gb9 L9) (fun _ gb10 L10 hc10 => ?_)
    refine Ex.cb (uX12_copies_25_10 fu hfu gb10 L10) (fun _ gb11 L11 hc11 => ?_)
    refine Ex.cb (uX12_copies_26_11 fu hfu gb11 L11) (fun _ gb12 L12 hc12 => ?_)
    have j1 : zI MT gb1 := by rw [hc1]; exact zI_cpd i4 (fun _ _ => Or.inl rfl)
    have j2 : zI MT gb2 := by rw [hc2]; exact zI_cpd j1 (fun _ _ => Or.inl rfl)
    have j3 : zI MT gb3 := by rw [hc3]; exact zI_cpd j2 (fun _ _ => Or.inl rfl)
    have j4 : zI MT gb4 := by rw [hc4]; exact zI_cpd j3 (fun _ _ => Or.inl rfl)
    have j5 : zI MT gb5 := by rw [hc5]; exact zI_cpd j4 (fun _ _ => Or.inl rfl)
    have j6 : zI MT gb6 := by rw [hc6]; exact zI_cpd j5 (fun _ _ => Or.inl rfl)
    have j7 : zI MT gb7 := by rw [hc7]; exact zI_cpd j6 (fun _ _ => Or.inl rfl)
    have j8 : zI MT gb8 := by rw [hc8]; exact zI_cpd j7 (fun _ _ => Or.inl rfl)
    have j9 : zI MT gb9 := by rw [hc9]; exact zI_cpd j8 (fun _ _ => Or.inl rfl)
    have j10 : zI MT gb10 := by rw [hc10]; exact zI_cpd j9 (fun _ _ => Or.inl rfl)
    have j11 : zI MT gb11 := by rw [hc11]; exact zI_cpd j10 (fun _ _ => Or.inl rfl)
    have j12 : zI MT gb12 := by rw [hc12]; exact zI_cpd j11 (fun _ _ => Or.inl rfl)
    have w0 : gb12 0 = ga4 0 := by
      rw [hc12, cpd_ne (by decide), hc11, cpd_ne (by decide), hc10, cpd_ne (by decide), hc9, cpd_ne (by decide), hc8, cpd_ne (by decide), hc7, cpd_ne (by decide), hc6, cpd_ne (by decide), hc5, cpd_ne (by decide), hc4, cpd_ne (by decide), hc3, cpd_ne (by decide), hc2, cpd_ne (by decide), hc1, cpd_ne (by decide)]
    have w5 : ∀ j, j < 12 → gb12 5 j = g 19 j := by
      intro j hj
      rw [hc12, cpd_ne (by decide), hc11, cpd_ne (by decide), hc10, cpd_ne (by decide), hc9, cpd_ne (by decide), hc8, cpd_ne (by decide), hc7, cpd_ne (by decide), hc6, cpd_ne (by decide), hc5, cpd_at hj, hc4, cpd_ne (by decide), hc3, cpd_ne (by decide), hc2, cpd_ne (by decide), hc1, cpd_ne (by decide), y19]
    have w6 : ∀ j, j < 12 → gb12 6 j = g 20 j := by
      intro j hj
      rw [hc12, cpd_ne (by decide), hc11, cpd_ne (by decide), hc10, cpd_ne (by decide), hc9, cpd_ne (by decide), hc8, cpd_ne (by decide), hc7, cpd_ne (by decide), hc6, cpd_at hj, hc5, cpd_ne (by decide), hc4, cpd_ne (by decide), hc3, cpd_ne (by decide), hc2, cpd_ne (by decide), hc1, cpd_ne (by decide), y20]
    have w8 : ∀ j, j < 12 → gb12 8 j = g 22 j := by
      intro j hj
      rw [hc12, cpd_ne (by decide), hc11, cpd_ne (by decide), hc10, cpd_ne (by decide), hc9, cpd_ne (by decide), hc8, cpd_at hj, hc7, cpd_ne (by decide), hc6, cpd_ne (by decide), hc5, cpd_ne (by decide), hc4, cpd_ne (by decide), hc3, cpd_ne (by decide), hc2, cpd_ne (by decide), hc1, cpd_ne (by decide), y22]
    have w10 : ∀ j, j < 4 → gb12 10 j = g 25 j := by
      intro j hj
      rw [hc12, cpd_ne (by decide), hc11, cpd_at hj, hc10, cpd_ne (by decide), hc9, cpd_ne (by decide), hc8, cpd_ne (by decide), hc7, cpd_ne (by decide), hc6, cpd_ne (by decide), hc5, cpd_ne (by decide), hc4, cpd_ne (by decide), hc3, cpd_ne (by decide), hc2, cpd_ne (by decide), hc1, cpd_ne (by decide), y25]
    have w11 : ∀ j, j < 1900 → gb12 11 j = g 26 j := by
      intro j hj
      rw [hc12, cpd_at hj, hc11, cpd_ne (by decide), hc10, cpd_ne (by decide), hc9, cpd_ne (by decide), hc8, cpd_ne (by decide), hc7, cpd_ne (by decide), hc6, cpd_ne (by decide), hc5, cpd_ne (by decide), hc4, cpd_ne (by decide), hc3, cpd_ne (by decide), hc2, cpd_ne (by decide), hc1, cpd_ne (by decide), y26]
    clear hc1 hc2 hc3 hc4 hc5 hc6 hc7 hc8 hc9 hc10 hc11 hc12 j1 j2 j3 j4 j5 j6 j7 j8 j9 j10 j11 y19 y20 y22 y25 y26
    have w1 : gb12 0 1 = g 0 30 := by rw [w0]; exact y1
    have w2 : gb12 0 2 = g 0 31 := by rw [w0]; exact y2
    have w18 : gb12 0 18 = 0 := by rw [w0]; exact y18
    refine Ex.sti (j12.upd (lo := -1) (hi := 3) rfl (by decide) (by decide)) (fun gc1 f1 k1 => ?_)
    refine Ex.sti (k1.upd (lo := 0) (hi := 40) rfl (by decide) (by decide)) (fun gc2 f2 k2 => ?_)
    refine Ex.sti (k2.upd (lo := 0) (hi := 8) rfl (by decide) (by decide)) (fun gc3 f3 k3 => ?_)
    refine Ex.sti (k3.upd (lo := 0) (hi := 1) rfl (by decide) (by decide)) (fun gc4 f4 k4 => ?_)
    refine Ex.sti (k4.upd (lo := 0) (hi := 1) rfl (by decide) (by decide)) (fun gc5 f5 k5 => Ex.ret ?_)
    have v1 : gc5 0 1 = g 0 30 := by rw [f5, f4, f3, f2, f1]; exact w1
    have v2 : gc5 0 2 = g 0 31 := by rw [f5, f4, f3, f2, f1]; exact w2
    have v18 : gc5 0 18 = 0 := by rw [f5, f4, f3, f2, f1]; exact w18
    have v52 : gc5 0 52 = -1 := by rw [f5, f4, f3, f2, f1]; rfl
    have v62 : gc5 0 62 = 0 := by rw [f5, f4, f3, f2]; rfl
    have v73 : gc5 0 73 = 0 := by rw [f5, f4, f3]; rfl
    have v81 : gc5 0 81 = 0 := by rw [f5]; exact upd2_at
    have va : ∀ k, k ≠ 0 → gc5 k = gb12 k := by
      intro k hk
      rw [f5, f4, f3, f2, f1]
      funext j
      rw [upd2_nk hk, upd2_nk hk, upd2_nk hk, upd2_nk hk, upd2_nk hk]
    refine ⟨k5, ⟨?_, ?_, ?_, ?_, ?_, fun h => absurd (by rw [v81]; rfl) h⟩, fun _ _ => by rw [v18]; rfl, fun h => by omega⟩
    · rw [v1, va 5 (by decide), va 6 (by decide), va 8 (by decide)]
      intro i hi
      rw [w5 i (by omega), w6 i (by omega), w8 i (by omega)]
      exact d1 i hi
    · rw [v52, v2]; show (-1 : Int) < _; omega
    · rw [v62]; intro i hi; exact absurd hi (by show ¬ (i : Int) < 0; omega)
    · rw [v73]; intro i hi; exact absurd hi (by show ¬ (i : Int) < 0; omega)
    · rw [v2, va 10 (by decide), va 11 (by decide)]
      intro r hr
      rw [w10 r (by omega)]
      obtain ⟨z1, z2⟩ := d2 r hr
      obtain ⟨n, z3, z4⟩ := cl_wf (by show (g 0 35).toInt.toNat ≤ 1900; omega) z2
      exact ⟨z1, n, z3, wf_c w11 z4⟩
  refine e_good (fun hgg => ?_) (fun _ => fin)
  refine Ex.ite (fun _ => fin) (fun _ => ?_)
  refine Ex.cb (sX12_line fu hfu g L h1 h3 hgg (h4 hgg)) (fun _ gl Ll hl => ?_)
  refine ih (gl, Ll) ⟨hl.1, h2.tr hl.2.1, hl.2.2.1, fun hb => (hl.2.2.2 hb).2⟩ (mm_lt h1 hgg (fun hb => (hl.2.2.2 hb).1)) ?_
  show 0 < mm g
  rw [mm_g hgg]; omega
