/-! ===== the reference's parser: lessons ===== -/
def QB (B : List Nat) (g g1 : gT) : Prop := zI MT g1 ∧ Fr aN B g g1 ∧ pN g1 ∧ mn g g1
theorem QB.refl {B : List Nat} {g : gT} (hI : zI MT g) (hp : pN g) : QB B g g := ⟨hI, Fr.refl, hp, mn.refl⟩
theorem QB.w {B : List Nat} {g g1 g2 : gT} (h : QB B g g1) (hI : zI MT g2) (hF : Fr [19, 20] [] g1 g2) (hb : (g2 0 19).toInt ≠ 0) : QB B g g2 := by
  have e25 := hF.i (j := 25) (by decide)
  have m := h.2.2.2.1
  exact ⟨hI, h.2.1.tr (hF.mo (by decide) (fun k hk => absurd hk (List.not_mem_nil))), h.2.2.1.fr hF (by decide) (by decide) (by decide) (by decide), by omega, fun _ => hb⟩
theorem QB.n {B : List Nat} {g g1 g2 : gT} (h : QB B g g1) (hq : QN g1 g2) : QB B g g2 := ⟨hq.1, h.2.1.tr (hq.2.1.mo (by decide) (fun k hk => absurd hk (List.not_mem_nil))), hq.2.2.1, h.2.2.2.tr ⟨hq.2.2.2.2, hq.2.2.2.1⟩⟩
theorem QB.s {B : List Nat} {g g1 : gT} {k j : Nat} {x : Int32} (h : QB B g g1) (hI : zI MT (upd2 g1 k j x)) (h0 : k ≠ 0) (hk : k ∈ B) : QB B g (upd2 g1 k j x) := by
  have hF : Fr [] [k] g1 (upd2 g1 k j x) := Fr.refl.uk h0 (List.mem_singleton.mpr rfl)
  have e25 := hF.i (j := 25) (by decide)
  have e19 := hF.i (j := 19) (by decide)
  have m := h.2.2.2
  exact ⟨hI, h.2.1.uk h0 hk, h.2.2.1.fr hF (by decide) (by decide) (by decide) (by decide), by have := m.1; omega, fun h => by rw [e19]; exact m.2 h⟩
theorem QB.mo {B B' : List Nat} {g g1 : gT} (h : QB B g g1) (hB : ∀ k ∈ B, k ∈ B') : QB B' g g1 := ⟨h.1, h.2.1.mo (fun _ h => h) hB, h.2.2⟩
set_option maxHeartbeats 4000000 in
theorem sX12_readsWaits (fu : Nat) (hfu : 1180591620717411303424 ≤ fu) (g0 : gT) (L0 : lT) (hI : zI MT g0) (hp : pN g0) (hl : (g0 0 30).toInt ≤ 11) : Ex (fX12_readsWaits fu g0 L0) (fun (_ : Unit) g1 L1 => QB [22, 23] g0 g1 ∧ (∀ i, i ≠ (g0 0 30).toInt.toNat → g1 22 i = g0 22 i) ∧ ((g1 0 19).toInt = 0 → 1 ≤ (g1 22 (g0 0 30).toInt.toNat).toInt)) := by
  have q30 := hI 0 30 0 12 rfl
  unfold fX12_readsWaits
  refine Ex.lti (fun v1 _ x1 => ?_)
  have x1 : v1.toInt = 6 * (g0 0 30).toInt := by rw [x1]; exact ic_mulc (by decide) rfl (by omega) (by omega)
  -- the end
  have P184 : ∀ (v2 : Int32) (g : gT) (L : lT), QB [23] g0 g → 0 ≤ v2.toInt → v2.toInt ≤ 6 → ((g 0 19).toInt = 0 → 1 ≤ v2.toInt) → Ex (fX12_readsWaits_p184 fu v2 g L) (fun (_ : Unit) g1 L1 => QB [22, 23] g0 g1 ∧ (∀ i, i ≠ (g0 0 30).toInt.toNat → g1 22 i = g0 22 i) ∧ ((g1 0 19).toInt = 0 → 1 ≤ (g1 22 (g0 0 30).toInt.toNat).toInt)) := by
    intro v2 g L hq h1 h2 h3
    have e30 : g 0 30 = g0 0 30 := hq.2.1.1 30 (by decide)
    have e22 : g 22 = g0 22 := hq.2.1.2 22 (by decide) (by decide)
    unfold fX12_readsWaits_p184
    rw [e30]
    refine Ex.ck (by omega) (by omega) ?_
    refine Ex.sti (hq.1.upd (lo := 0) (hi := 6) rfl h1 h2) (fun ga gae hIa => ?_)
    have ha : QB [22, 23] g0 ga := by rw [gae] at hIa ⊢; exact (hq.mo (by decide)).s hIa (by decide) (by decide)
    have a22 : ∀ i, i ≠ (g0 0 30).toInt.toNat → ga 22 i = g0 22 i := fun i hi => by rw [gae, upd2_nj (show i ≠ (g0 0 30).toNatClampNeg from hi), e22]
    have b22 : ga 22 (g0 0 30).toInt.toNat = v2 := by rw [gae]; exact upd2_at
    have a19 : (ga 0 19).toInt = (g 0 19).toInt := by rw [gae]; rfl
    have a30 : ga 0 30 = g0 0 30 := ha.2.1.1 30 (by decide)
    have fin : Ex (some ((), (ga, L))) (fun (_ : Unit) g1 L1 => QB [22, 23] g0 g1 ∧ (∀ i, i ≠ (g0 0 30).toInt.toNat → g1 22 i = g0 22 i) ∧ ((g1 0 19).toInt = 0 → 1 ≤ (g1 22 (g0 0 30).toInt.toNat).toInt)) := Ex.ret ⟨ha, a22, fun hg => by rw [b22]; exact h3 (by omega)⟩
    unfold fX12_readsWaits_p220
    refine e_good (fun hg => ?_) (fun _ => fin)
    rw [a30]
    refine Ex.ck (by omega) (by omega) ?_
    refine Ex.ite (fun _ => fin) (fun _ => ?_)
    refine e_wrong hIa (by decide) (fun gb hIb hFb hb => Ex.ret ⟨ha.w hIb hFb hb, fun i hi => ?_, fun h => absurd h hb⟩)
    rw [hFb.2 22 (by decide) (by decide)]; exact a22 i hi
  unfold fX12_readsWaits_l12
  have hm := mm_le hI
  refine Ex.loop (α := Int32 × Int32 × gT × lT) (fun v => QB [23] g0 v.2.2.1 ∧ (0 ≤ v.1.toInt ∧ v.1.toInt ≤ 6) ∧ (v.1.toInt = 0 → v.2.1 ≠ 0)) (fun v => mf v.2.1 v.2.2.1) (by omega) (by show mf 1 g0 < (fu : Int); rw [mf_n (by decide)]; omega) ⟨QB.refl hI hp, (show 0 ≤ (0 : Int32).toInt ∧ (0 : Int32).toInt ≤ 6 from by decide), (show (0 : Int32).toInt = 0 → (1 : Int32) ≠ 0 from fun _ => by decide)⟩ (fun k12 v hv ih => ?_)
  obtain ⟨v2, v3, gg, Lg⟩ := v
  obtain ⟨hq, hv2, hv3⟩ := hv
  have hq : QB [23] g0 gg := hq
  have hv2 : 0 ≤ v2.toInt ∧ v2.toInt ≤ 6 := hv2
  have hv3 : v2.toInt = 0 → v3 ≠ 0 := hv3
  have hmg := mm_0 hq.1
  show Ex (fX12_readsWaits_s12 fu v1 k12 v2 v3 gg Lg) _
  unfold fX12_readsWaits_s12
  refine Ex.ite (fun c => P184 v2 gg Lg hq hv2.1 hv2.2 (fun _ => ?_)) (fun c3 => ?_)
  · by_cases h : v2.toInt = 0
    · exact absurd c (hv3 h)
    · omega
  have ih : ∀ (a b : Int32) (g' : gT) (L' : lT), QB [23] g0 g' → 1 ≤ a.toInt → a.toInt ≤ 6 → mm g' < mm gg → Ex (k12 (a, b, g', L')) (fun (_ : Unit) g1 L1 => QB [22, 23] g0 g1 ∧ (∀ i, i ≠ (g0 0 30).toInt.toNat → g1 22 i = g0 22 i) ∧ ((g1 0 19).toInt = 0 → 1 ≤ (g1 22 (g0 0 30).toInt.toNat).toInt)) := by
    intro a b g' L' h1 h2 h2' h3
    refine ih (a, b, g', L') ⟨h1, (show 0 ≤ a.toInt ∧ a.toInt ≤ 6 by omega), (show a.toInt = 0 → b ≠ 0 from fun h => by omega)⟩ ?_ (by show 0 < mf v3 gg; rw [mf_n c3]; omega)
    show mf b g' < mf v3 gg
    rw [mf_n c3]
    by_cases hb : b = 0
    · rw [mf_z hb]; omega
    · rw [mf_n hb]; omega
  refine e_good (fun hg => ?_) (fun hb => P184 v2 gg Lg hq hv2.1 hv2.2 (fun h => absurd h hb))
  -- is it named already
  have P77 : ∀ (g : gT) (L : lT), QB [23] g0 g → (gg 0 25).toInt ≤ (g 0 25).toInt → ((g 0 19).toInt = 0 → (g 0 24).toInt = 2 ∧ v2.toInt ≤ 5 ∧ (g 0 27).toInt < (g 0 30).toInt) → Ex (fX12_readsWaits_p77 fu k12 v1 v2 g L) (fun (_ : Unit) g1 L1 => QB [22, 23] g0 g1 ∧ (∀ i, i ≠ (g0 0 30).toInt.toNat → g1 22 i = g0 22 i) ∧ ((g1 0 19).toInt = 0 → 1 ≤ (g1 22 (g0 0 30).toInt.toNat).toInt)) := by
    intro g L h1 h2 h3
    have P140 : ∀ (g2 : gT) (L2 : lT), QB [23] g0 g2 → (g2 = g ∨ (g2 0 19).toInt ≠ 0) → Ex (fX12_readsWaits_p140 fu k12 v1 v2 g2 L2) (fun (_ : Unit) g1 L1 => QB [22, 23] g0 g1 ∧ (∀ i, i ≠ (g0 0 30).toInt.toNat → g1 22 i = g0 22 i) ∧ ((g1 0 19).toInt = 0 → 1 ≤ (g1 22 (g0 0 30).toInt.toNat).toInt)) := by
      intro g2 L2 k1 k2
      unfold fX12_readsWaits_p140
      refine e_good (fun hg2 => ?_) (fun hb => Ex.ret ⟨k1.mo (by decide), fun i _ => by rw [k1.2.1.2 22 (by decide) (by decide)], fun h => absurd h hb⟩)
      rcases k2 with k2 | k2
      rotate_left
      · exact absurd hg2 k2
      subst k2
      obtain ⟨s1, s2, s3⟩ := h3 hg2
      have e30 := k1.2.1.i (j := 30) (by decide)
      have q27 := k1.1 0 27 0 9999 rfl
      generalize hw : v1 + v2 = w
      have ew : w.toInt = v1.toInt + v2.toInt := by rw [← hw]; exact ic_addc rfl rfl (by omega) (by omega)
      refine Ex.ck (by omega) (by omega) ?_
      refine Ex.sti (k1.1.upd (lo := 0) (hi := 11) rfl (by omega) (by omega)) (fun ga gae hIa => ?_)
      have ha : QB [23] g0 ga := by rw [gae] at hIa ⊢; exact k1.s hIa (by decide) (by decide)
      have a24 : (ga 0 24).toInt = (g2 0 24).toInt := by rw [gae]; rfl
      have a25 : (ga 0 25).toInt = (g2 0 25).toInt := by rw [gae]; rfl
      have a19 : (ga 0 19).toInt = (g2 0 19).toInt := by rw [gae]; rfl
      refine e_goes hfu hIa ha.2.2.1 (fun gb Lb hqb => ?_)
      have hb := ha.n (hqb.n ha.2.2.1)
      have pp := ha.2.2.1.2.2 (by omega)
      have pq := hqb.2.2.2
      have hlt : mm gb < mm gg := mm_lt hq.1 hg (fun _ => by omega)
      unfold fX12_readsWaits_p180
      generalize hw2 : v2 + 1 = w2
      have ew2 : w2.toInt = v2.toInt + 1 := by rw [← hw2]; exact ic_addc rfl (by decide) (by omega) (by omega)
      exact Ex.ite (fun _ => ih w2 1 gb Lb hb (by omega) (by omega) hlt) (fun _ => ih w2 0 gb Lb hb (by omega) (by omega) hlt)
    unfold fX12_readsWaits_p77 fX12_readsWaits_l83
    refine Ex.loop (α := Int32 × Int32 × gT × lT) (fun v => (0 ≤ v.2.1.toInt ∧ v.2.1.toInt ≤ v2.toInt) ∧ v.2.2.1 = g) (fun v => v2.toInt - v.2.1.toInt) (by omega) (by show v2.toInt - (0 : Int32).toInt < (fu : Int); have : (0 : Int32).toInt = 0 := rfl; omega) ⟨(show 0 ≤ (0 : Int32).toInt ∧ (0 : Int32).toInt ≤ v2.toInt from ⟨by decide, hv2.1⟩), rfl⟩ (fun k83 v hv ih3 => ?_)
    obtain ⟨v4, v5, g', L'⟩ := v
    obtain ⟨hv5, he⟩ := hv
    have hv5 : 0 ≤ v5.toInt ∧ v5.toInt ≤ v2.toInt := hv5
    have he : g' = g := he
    subst he
    show Ex (fX12_readsWaits_s83 fu k12 v1 v2 k83 v4 v5 g' L') _
    unfold fX12_readsWaits_s83
    refine Ex.ite (fun _ => ?_) (fun c5 => ?_)
    · refine e_good (fun _ => ?_) (fun _ => P140 g' L' h1 (Or.inl rfl))
      refine Ex.ite (fun _ => P140 g' L' h1 (Or.inl rfl)) (fun _ => ?_)
      exact e_wrong h1.1 (by decide) (fun ga hIa hFa hb => P140 ga L' (h1.w hIa hFa hb) (Or.inr hb))
    have c5 := icc_nle (m := v2.toInt) (n := v5.toInt) rfl rfl c5
    have go : ∀ t0 : Int32, Ex (fX12_readsWaits_p115 fu k12 k83 v1 v2 v5 t0 g' L') (fun (_ : Unit) g1 L1 => QB [22, 23] g0 g1 ∧ (∀ i, i ≠ (g0 0 30).toInt.toNat → g1 22 i = g0 22 i) ∧ ((g1 0 19).toInt = 0 → 1 ≤ (g1 22 (g0 0 30).toInt.toNat).toInt)) := by
      intro t0
      unfold fX12_readsWaits_p115
      generalize hw : v5 + 1 = w
      have ew : w.toInt = v5.toInt + 1 := by rw [← hw]; exact ic_addc rfl (by decide) (by omega) (by omega)
      exact ih3 (t0, w, g', L') ⟨show 0 ≤ w.toInt ∧ w.toInt ≤ v2.toInt by omega, rfl⟩ (show v2.toInt - w.toInt < v2.toInt - v5.toInt by omega) (show 0 < v2.toInt - v5.toInt by omega)
    unfold fX12_readsWaits_p110
    refine Ex.ite (fun _ => ?_) (fun _ => go 1)
    have ew : (v1 + v5).toInt = v1.toInt + v5.toInt := ic_addc rfl rfl (by omega) (by omega)
    refine Ex.ck (by omega) (by omega) ?_
    exact Ex.ite (fun _ => go 1) (fun _ => go 0)
  have bad : ∀ (w : Int32) (K : Unit → gT → lT → Option (Unit × zS)), w.toInt ≠ 0 → (∀ g' L', K () g' L' = fX12_readsWaits_p77 fu k12 v1 v2 g' L') → Ex (cb (fX12_wrong fu w gg Lg) K) (fun (_ : Unit) g1 L1 => QB [22, 23] g0 g1 ∧ (∀ i, i ≠ (g0 0 30).toInt.toNat → g1 22 i = g0 22 i) ∧ ((g1 0 19).toInt = 0 → 1 ≤ (g1 22 (g0 0 30).toInt.toNat).toInt)) := by
    intro w K hw hK
    refine e_wrong hq.1 hw (fun ga hIa hFa hb => ?_)
    rw [hK]
    have e25 := hFa.i (j := 25) (by decide)
    exact P77 ga Lg (hq.w hIa hFa hb) (by omega) (fun h => absurd h hb)
  unfold fX12_readsWaits_p53
  refine Ex.ite (fun c => ?_) (fun _ => bad 1 _ (by decide) (fun _ _ => rfl))
  have c := icc_eq (m := (gg 0 24).toInt) (n := 2) rfl (by decide) c
  refine Ex.ite (fun _ => bad 2 _ (by decide) (fun _ _ => rfl)) (fun c6 => ?_)
  have c6 := icc_neq (m := v2.toInt) (n := 6) rfl (by decide) c6
  refine Ex.ite (fun _ => ?_) (fun _ => bad 2 _ (by decide) (fun _ _ => rfl))
  refine Ex.ite (fun cl => ?_) (fun _ => bad 3 _ (by decide) (fun _ _ => rfl))
  have cl := icc_lt (m := (gg 0 27).toInt) (n := (gg 0 30).toInt) rfl rfl cl
  exact P77 gg Lg hq (Int.le_refl _) (fun _ => ⟨c, by omega, cl⟩)
abbrev bL : List Nat := [15, 16, 17, 18, 19, 20, 21, 22, 23, 24]
abbrev aL : List Nat := [19, 20, 23, 24, 25, 26, 27, 28, 30]
def mLs (g : gT) : Prop := mLes (g 0 30) (g 19) (g 20) (g 22)
/-- the lesson l is being read; the ones before it stand -/
def LQ (g0 : gT) (l : Nat) (g : gT) : Prop := zI MT g ∧ Fr aN bL g0 g ∧ pN g ∧ (g0 0 25).toInt < (g 0 25).toInt ∧ ∀ i, i < l → g 19 i = g0 19 i ∧ g 20 i = g0 20 i ∧ g 22 i = g0 22 i
theorem LQ.n {g0 g g1 : gT} {l : Nat} (h : LQ g0 l g) (hq : QN g g1) : LQ g0 l g1 := by
  obtain ⟨h1, h2, h3, h4, h5⟩ := h
  have := hq.2.2.2.2
  refine ⟨hq.1, h2.tr (hq.2.1.mo (by decide) (by decide)), hq.2.2.1, by omega, fun i hi => ?_⟩
  rw [hq.2.1.2 19 (by decide) (by decide), hq.2.1.2 20 (by decide) (by decide), hq.2.1.2 22 (by decide) (by decide)]
  exact h5 i hi
theorem LQ.s {g0 g : gT} {l k j : Nat} {x : Int32} (h : LQ g0 l g) (hI : zI MT (upd2 g k j x)) (h0 : k ≠ 0) (hk : k ∈ bL) (hj : l ≤ j ∨ (k ≠ 19 ∧ k ≠ 20 ∧ k ≠ 22)) : LQ g0 l (upd2 g k j x) := by
  obtain ⟨h1, h2, h3, h4, h5⟩ := h
  have hF : Fr [] [k] g (upd2 g k j x) := Fr.refl.uk h0 (List.mem_singleton.mpr rfl)
  have e25 := hF.i (j := 25) (by decide)
  refine ⟨hI, h2.uk h0 hk, h3.fr hF (by decide) (by decide) (by decide) (by decide), by omega, fun i hi => ?_⟩
  have e : ∀ m, (m = 19 ∨ m = 20 ∨ m = 22) → upd2 g k j x m i = g m i := by
    intro m hm
    by_cases hmk : m = k
    · subst hmk
      rcases hj with hj | hj
      · exact upd2_nj (by omega)
      · omega
    · exact upd2_nk hmk
  rw [e 19 (by omega), e 20 (by omega), e 22 (by omega)]
  exact h5 i hi
def lF (g : gT) (l : Nat) : Prop := (g 19 l).toInt = 2 ∨ ((g 19 l).toInt = 0 ∧ 1 ≤ (g 22 l).toInt) ∨ ((g 19 l).toInt = 1 ∧ 1 ≤ (g 20 l).toInt ∧ (g 20 l).toInt ≤ 6)
def LR (g0 g1 : gT) : Prop := zI MT g1 ∧ Fr aL bL g0 g1 ∧ pN g1 ∧ mn g0 g1 ∧ ((g1 0 19).toInt = 0 → (g0 0 25).toInt < (g1 0 25).toInt ∧ (mLs g0 → mLs g1))
set_option maxHeartbeats 8000000 in
theorem sX12_readsLesson (fu : Nat) (hfu : 1180591620717411303424 ≤ fu) (g0 : gT) (L0 : lT) (hI : zI MT g0) (hp : pN g0) (hs : (g0 0 24).toInt ≠ 0) : Ex (fX12_readsLesson fu g0 L0) (fun (_ : Unit) g1 L1 => LR g0 g1) := by
  have q30 := hI 0 30 0 12 rfl
  unfold fX12_readsLesson
  refine Ex.ite (fun _ => ?_) (fun c30 => ?_)
  · refine e_wrong hI (by decide) (fun g1 hI1 hF hb => ?_)
    unfold fX12_readsLesson_p14
    refine e_good (fun h => absurd h hb) (fun _ => Ex.ret ⟨hI1, hF.mo (by decide) (by decide), hp.fr hF (by decide) (by decide) (by decide) (by decide), ⟨?_, fun _ => hb⟩, fun h => absurd h hb⟩)
    have := hF.i (j := 25) (by decide)
    omega
  have c30 := icc_neq (m := (g0 0 30).toInt) (n := 12) rfl (by decide) c30
  unfold fX12_readsLesson_p14
  refine e_good (fun hg => ?_) (fun hb => Ex.ret ⟨hI, Fr.refl, hp, mn.refl, fun h => absurd h hb⟩)
  refine e_goes hfu hI hp (fun g7 L8 hq => ?_)
  have hp7 := hp.2.2 hs
  have h7 : LQ g0 (g0 0 30).toInt.toNat g7 := ⟨hq.1, hq.2.1.mo (by decide) (by decide), hq.2.2.1, by have := hq.2.2.2; omega, fun i _ => by rw [hq.2.1.2 19 (by decide) (by decide), hq.2.1.2 20 (by decide) (by decide), hq.2.1.2 22 (by decide) (by decide)]; exact ⟨rfl, rfl, rfl⟩⟩
  have e30 : g7 0 30 = g0 0 30 := hq.2.1.1 30 (by decide)
  rw [e30]
  refine Ex.lti (fun x10 xe xi => ?_)
  generalize hl : (g0 0 30).toInt.toNat = l at h7
  have eN : x10.toNatClampNeg = l := by rw [nc, xi, hl]
  have hli : (l : Int) = x10.toInt := by omega
  clear hq
  -- the end
  have P217 : ∀ (g : gT) (L : lT), LQ g0 l g → ((g 0 19).toInt = 0 → lF g l) → Ex (fX12_readsLesson_p217 fu x10 g L) (fun (_ : Unit) g1 L1 => LR g0 g1) := by
    intro g L h hf
    have e36 : (36 + x10).toInt = 36 + x10.toInt := ic_addc (by decide) rfl (by omega) (by omega)
    have e12 : (12 + x10).toInt = 12 + x10.toInt := ic_addc (by decide) rfl (by omega) (by omega)
    have kN : ∀ {ga gb : gT}, QN ga gb → ((ga 0 19).toInt = 0 → lF ga l) → ((gb 0 19).toInt = 0 → lF gb l) := by
      intro ga gb hn hf hb
      have e19 : (ga 0 19).toInt = 0 := by
        by_cases hc : (ga 0 19).toInt = 0
        · exact hc
        · exact absurd hb (hn.2.2.2.1 hc)
      unfold lF
      rw [hn.2.1.2 19 (by decide) (by decide), hn.2.1.2 20 (by decide) (by decide), hn.2.1.2 22 (by decide) (by decide)]
      exact hf e19
    unfold fX12_readsLesson_p217
    refine Ex.cb (sX12_perhaps fu hfu 8 99 99 g L h.1 h.2.2.1) (fun r1 g1 L1 hq1 => ?_)
    have h1 := h.n hq1
    have f1 := kN hq1 hf
    refine Ex.ck (by omega) (by omega) ?_
    refine Ex.sti (h1.1.updN rfl) (fun g2 g2e hI2 => ?_)
    have h2 : LQ g0 l g2 := by rw [g2e] at hI2 ⊢; exact h1.s hI2 (by decide) (by decide) (Or.inr (by decide))
    have f2 : (g2 0 19).toInt = 0 → lF g2 l := by rw [g2e]; exact f1
    refine Ex.cb (sX12_perhaps fu hfu 9 10 10 g2 L1 h2.1 h2.2.2.1) (fun r3 g3 L3 hq3 => ?_)
    have h3 := h2.n hq3
    have f3 := kN hq3 f2
    refine Ex.ck (by omega) (by omega) ?_
    refine Ex.sti (h3.1.updN rfl) (fun g4 g4e hI4 => ?_)
    have h4 : LQ g0 l g4 := by rw [g4e] at hI4 ⊢; exact h3.s hI4 (by decide) (by decide) (Or.inr (by decide))
    have f4 : (g4 0 19).toInt = 0 → lF g4 l := by rw [g4e]; exact f3
    refine Ex.cb (sX12_perhaps fu hfu 10 0 30 g4 L3 h4.1 h4.2.2.1) (fun r5 g5 L5 hq5 => ?_)
    have h5 := h4.n hq5
    have f5 := kN hq5 f4
    refine Ex.ck (by omega) (by omega) ?_
    refine Ex.sti (h5.1.updN rfl) (fun g6 g6e hI6 => ?_)
    have h6 : LQ g0 l g6 := by rw [g6e] at hI6 ⊢; exact h5.s hI6 (by decide) (by decide) (Or.inr (by decide))
    have f6 : (g6 0 19).toInt = 0 → lF g6 l := by rw [g6e]; exact f5
    clear f1 f2 f3 f4 f5 h1 h2 h3 h4 h5 hq1 hq3 hq5 g6e g4e g2e
    unfold fX12_readsLesson_p287
    have h6' := h6.2.2.2.1
    refine e_good (fun hg6 => ?_) (fun hb => Ex.ret ⟨h6.1, h6.2.1.mo (by decide) (by decide), h6.2.2.1, ⟨by omega, fun h => absurd hg h⟩, fun h => absurd h hb⟩)
    have d30 : g6 0 30 = g0 0 30 := h6.2.1.1 30 (by decide)
    rw [d30]
    have ew : (g0 0 30 + 1).toInt = (g0 0 30).toInt + 1 := ic_addc rfl (by decide) (by omega) (by omega)
    refine Ex.sti (h6.1.upd (lo := 0) (hi := 12) rfl (by omega) (by omega)) (fun ga gae hIa => Ex.ret ?_)
    have hFa : Fr [30] [] g6 ga := by rw [gae]; exact Fr.refl.u0 (by decide)
    have a25 := hFa.i (j := 25) (by decide)
    have a30 : ga 0 30 = g0 0 30 + 1 := by rw [gae]; exact upd2_at
    refine ⟨hIa, (h6.2.1.mo (by decide) (by decide)).tr (hFa.mo (by decide) (by decide)), h6.2.2.1.fr hFa (by decide) (by decide) (by decide) (by decide), ⟨by omega, fun h => absurd hg h⟩, fun _ => ⟨by omega, fun hm => ?_⟩⟩
    unfold mLs
    rw [a30, hFa.2 19 (by decide) (by decide), hFa.2 20 (by decide) (by decide), hFa.2 22 (by decide) (by decide)]
    intro i hi
    rw [ew] at hi
    by_cases hil : i < l
    · obtain ⟨z1, z2, z3⟩ := h6.2.2.2.2 i hil
      rw [z1, z2, z3]
      exact hm i (by omega)
    · have e : i = l := by omega
      subst e
      have f6 := f6 hg6
      unfold lF at f6
      constructor
      · intro hk; omega
      · intro hk1 hk2; omega
  have P213 : ∀ (g : gT) (L : lT), LQ g0 l g → ((g 0 19).toInt = 0 → (g 19 l).toInt = 0 ∨ ((g 19 l).toInt = 1 ∧ 1 ≤ (g 20 l).toInt ∧ (g 20 l).toInt ≤ 6)) → Ex (fX12_readsLesson_p213 fu x10 g L) (fun (_ : Unit) g1 L1 => LR g0 g1) := by
    intro g L h hf
    have d30 : g 0 30 = g0 0 30 := h.2.1.1 30 (by decide)
    unfold fX12_readsLesson_p213
    refine Ex.cb (sX12_readsWaits fu hfu g L h.1 h.2.2.1 (by rw [d30]; omega)) (fun _ g1 L1 hq => ?_)
    rw [d30, hl] at hq
    obtain ⟨hq, k1, k2⟩ := hq
    have e19 : g1 19 = g 19 := hq.2.1.2 19 (by decide) (by decide)
    have e20 : g1 20 = g 20 := hq.2.1.2 20 (by decide) (by decide)
    refine P217 g1 L1 ⟨hq.1, h.2.1.tr (hq.2.1.mo (by decide) (by decide)), hq.2.2.1, by have := h.2.2.2.1; have := hq.2.2.2.1; omega, fun i hi => ?_⟩ (fun hb => ?_)
    · rw [e19, e20, k1 i (by omega)]; exact h.2.2.2.2 i hi
    · have hgg : (g 0 19).toInt = 0 := by
        by_cases hc : (g 0 19).toInt = 0
        · exact hc
        · exact absurd hb (hq.2.2.2.2 hc)
      have hf := hf hgg
      have k2 := k2 hb
      unfold lF
      rw [e19, e20]
      omega
  have P189 : ∀ (v2 t0 : Int32) (g : gT) (L : lT), LQ g0 l g → (t0.toInt = 0 ∨ (t0.toInt = 1 ∧ v2.toInt = 7)) → Ex (fX12_readsLesson_p189 fu x10 v2 t0 x10 g L) (fun (_ : Unit) g1 L1 => LR g0 g1) := by
    intro v2 t0 g L h ht
    unfold fX12_readsLesson_p189
    rw [eN]
    refine Ex.ck (by omega) (by omega) ?_
    refine Ex.sti (h.1.updN rfl) (fun ga gae hIa => ?_)
    have ha : LQ g0 l ga := by rw [gae] at hIa ⊢; exact h.s hIa (by decide) (by decide) (Or.inl (Nat.le_refl _))
    have a19 : ga 19 l = t0 := by rw [gae]; exact upd2_at
    refine e_goes hfu hIa ha.2.2.1 (fun gb Lb hqb => ?_)
    have hn := hqb.n ha.2.2.1
    have hb := ha.n hn
    have b19 : gb 19 l = t0 := by rw [hn.2.1.2 19 (by decide) (by decide)]; exact a19
    refine Ex.ite (fun c7 => ?_) (fun c7 => ?_)
    · refine Ex.cb (sX12_number fu hfu 1 6 gb Lb hb.1 hb.2.2.1) (fun r gc Lc hr => ?_)
      have hc := hb.n hr.1
      refine Ex.ck (by omega) (by omega) ?_
      refine Ex.sti (hc.1.updN rfl) (fun gd gde hId => ?_)
      have hd : LQ g0 l gd := by rw [gde] at hId ⊢; exact hc.s hId (by decide) (by decide) (Or.inl (Nat.le_refl _))
      have d20 : gd 20 l = r := by rw [gde]; exact upd2_at
      have d19 : gd 19 l = t0 := by
        rw [gde]; show upd2 gc 20 l r 19 l = t0
        rw [upd2_nk (by decide), hr.1.2.1.2 19 (by decide) (by decide)]; exact b19
      refine P213 gd Lc hd (fun hgd => ?_)
      rw [d19, d20]
      have hgc : (gc 0 19).toInt = 0 := by rw [gde] at hgd; exact hgd
      have r1 := (hr.2.2.2 hgc).1
      have r2 := (hr.2.2.2 hgc).2.1
      have u1 : (1 : Int32).toInt = 1 := rfl
      have u6 : (6 : Int32).toInt = 6 := rfl
      omega
    · have c7 := icc_neq (m := v2.toInt) (n := 7) rfl (by decide) c7
      exact P213 gb Lb hb (fun _ => by rw [b19]; omega)
  have P160 : ∀ (t0 : Int32) (g : gT) (L : lT), LQ g0 l g → (g 19 l).toInt = 2 → Ex (fX12_readsLesson_p160 fu x10 t0 g L) (fun (_ : Unit) g1 L1 => LR g0 g1) := by
    intro t0 g L h h2
    have P173 : (t0.toInt = 6 ∨ t0.toInt = 7) → Ex (fX12_readsLesson_p173 fu x10 t0 g L) (fun (_ : Unit) g1 L1 => LR g0 g1) := by
      intro ht
      unfold fX12_readsLesson_p173
      refine Ex.ite (fun _ => P189 t0 0 g L h (Or.inl rfl)) (fun c => P189 t0 1 g L h (Or.inr ⟨rfl, ?_⟩))
      have c := icc_neq (m := t0.toInt) (n := 6) rfl (by decide) c
      omega
    unfold fX12_readsLesson_p160
    refine Ex.ite (fun c => P173 (Or.inl (icc_eq (m := t0.toInt) (n := 6) rfl (by decide) c))) (fun _ => ?_)
    refine Ex.ite (fun c => P173 (Or.inr (icc_eq (m := t0.toInt) (n := 7) rfl (by decide) c))) (fun _ => ?_)
    exact P217 g L h (fun _ => Or.inl h2)
  have e0 : (0 + x10).toInt = x10.toInt := by rw [ic_addc (m := 0) (n := x10.toInt) (by decide) rfl (by omega) (by omega)]; omega
  have e24 : (24 + x10).toInt = 24 + x10.toInt := ic_addc (by decide) rfl (by omega) (by omega)
  refine Ex.cb (sX12_number fu hfu 0 999 g7 L8 h7.1 h7.2.2.1) (fun r1 ga La hr => ?_)
  have ha := h7.n hr.1
  clear hr
  refine Ex.ck (by omega) (by omega) ?_
  refine Ex.sti (ha.1.updN rfl) (fun gb gbe hIb => ?_)
  have hb : LQ g0 l gb := by rw [gbe] at hIb ⊢; exact ha.s hIb (by decide) (by decide) (Or.inr (by decide))
  clear gbe
  refine Ex.ck (by omega) (by omega) ?_
  refine Ex.cb (sX12_number fu hfu _ 999 gb La hb.1 hb.2.2.1) (fun r2 gc Lc hr => ?_)
  have hc := hb.n hr.1
  clear hr
  refine Ex.ck (by omega) (by omega) ?_
  refine Ex.sti (hc.1.updN rfl) (fun gd gde hId => ?_)
  have hd : LQ g0 l gd := by rw [gde] at hId ⊢; exact hc.s hId (by decide) (by decide) (Or.inr (by decide))
  clear gde
  refine Ex.cb (sX12_number fu hfu 1 200 gd Lc hd.1 hd.2.2.1) (fun r3 ge Le hr => ?_)
  have he := hd.n hr.1
  clear hr
  refine Ex.ck (by omega) (by omega) ?_
  refine Ex.sti (he.1.updN rfl) (fun gf gfe hIf => ?_)
  have hf : LQ g0 l gf := by rw [gfe] at hIf ⊢; exact he.s hIf (by decide) (by decide) (Or.inr (by decide))
  clear gfe
  refine Ex.cb (sX12_number fu hfu 0 60 gf Le hf.1 hf.2.2.1) (fun r4 gg Lg hr => ?_)
  have hgg := hf.n hr.1
  clear hr
  refine Ex.ck (by omega) (by omega) ?_
  refine Ex.sti (hgg.1.updN rfl) (fun gh ghe hIh => ?_)
  have hh : LQ g0 l gh := by rw [ghe] at hIh ⊢; exact hgg.s hIh (by decide) (by decide) (Or.inr (by decide))
  clear ghe
  refine Ex.cb (sX12_number fu hfu 0 9 gh Lg hh.1 hh.2.2.1) (fun r5 gi Li hr => ?_)
  have hi := hh.n hr.1
  clear hr
  refine Ex.ck (by omega) (by omega) ?_
  refine Ex.sti (hi.1.updN rfl) (fun gj gje hIj => ?_)
  have hj : LQ g0 l gj := by rw [gje] at hIj ⊢; exact hi.s hIj (by decide) (by decide) (Or.inr (by decide))
  clear gje
  refine Ex.cb (sX12_number fu hfu 1 99 gj Li hj.1 hj.2.2.1) (fun r6 gk Lk hr => ?_)
  have hk := hj.n hr.1
  clear hr
  refine Ex.ck (by omega) (by omega) ?_
  refine Ex.sti (hk.1.updN rfl) (fun gm gme hIm => ?_)
  have hm : LQ g0 l gm := by rw [gme] at hIm ⊢; exact hk.s hIm (by decide) (by decide) (Or.inr (by decide))
  clear gme
  rw [eN]
  refine Ex.ck (by omega) (by omega) ?_
  refine Ex.sti (hm.1.updN rfl) (fun gn gne hIn => ?_)
  have hn : LQ g0 l gn := by rw [gne] at hIn ⊢; exact hm.s hIn (by decide) (by decide) (Or.inl (Nat.le_refl _))
  have n19 : gn 19 l = 2 := by rw [gne]; exact upd2_at
  clear gne
  refine Ex.ck (by omega) (by omega) ?_
  refine Ex.sti (hn.1.updN rfl) (fun go goe hIo => ?_)
  have ho : LQ g0 l go := by rw [goe] at hIo ⊢; exact hn.s hIo (by decide) (by decide) (Or.inl (Nat.le_refl _))
  have o19 : go 19 l = 2 := by rw [goe, upd2_nk (by decide)]; exact n19
  clear goe
  refine Ex.ck (by omega) (by omega) ?_
  refine Ex.sti (ho.1.upd (lo := 0) (hi := 6) rfl (by decide) (by decide)) (fun gq gqe hIq => ?_)
  have hq : LQ g0 l gq := by rw [gqe] at hIq ⊢; exact ho.s hIq (by decide) (by decide) (Or.inl (Nat.le_refl _))
  have q19 : gq 19 l = 2 := by rw [gqe, upd2_nk (by decide)]; exact o19
  clear gqe
  refine e_good (fun _ => ?_) (fun _ => P160 _ gq Lk hq (by rw [q19]; rfl))
  exact e_known hfu (fun x L1 _ _ _ => P160 x gq L1 hq (by rw [q19]; rfl))
