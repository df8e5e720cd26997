section
/-! ===== the reference's parser: lessons ===== -/
def QB (B : List Nat) (g g1 : gT) : Prop := zI MT g1 ∧ Fr aN B g g1 ∧ pN g1 ∧ mn g g1
theorem QB.refl {B : List Nat} {g : gT} (hI : zI MT g) (hp : pN g) : QB B g g := ⟨hI, Fr.refl, hp, mn.refl⟩
theorem QB.w {B : List Nat} {g g1 g2 : gT} (h : QB B g g1) (hI : zI MT g2) (hF : Fr [19, 20] [] g1 g2) (hb : (g2 0 19).toInt ≠ 0) : QB B g g2 := by
  have e25 := hF.i (j := 25) (by decide)
  have m := h.2.2.2.1
  exact ⟨hI, h.2.1.tr (hF.mo (by decide) (fun k hk => absurd hk (List.not_mem_nil))), h.2.2.1.fr hF (by decide) (by decide) (by decide) (by decide), by omega, fun _ => hb⟩
theorem QB.n {B : List Nat} {g g1 g2 : gT} (h : QB B g g1) (hq : QN g1 g2) : QB B g g2 := ⟨hq.1, h.2.1.tr (hq.2.1.mo (by decide) (fun k hk => absurd hk (List.not_mem_nil))), hq.2.2.1, h.2.2.2.tr ⟨hq.2.2.2.2, hq.2.2.2.1⟩⟩
theorem QB.s {B : List Nat} {g g1 : gT} {k j : Nat} {x : Int32} (h : QB B g g1) (hI : zI MT (upd2 g1 k j x)) (h0 : k ≠ 0) (hk : k ∈ B) : QB B g (upd2 g1 k j x) := by
  have hF : Fr [] [k] g1 (upd2 g1 k j x) := Fr.refl.uk h0 (List.mem_singleton.mpr rfl)
  have e25 := hF.i (j := 25) (by decide)
  have e19 := hF.i (j := 19) (by decide)
  have m := h.2.2.2
  exact ⟨hI, h.2.1.uk h0 hk, h.2.2.1.fr hF (by decide) (by decide) (by decide) (by decide), by have := m.1; omega, fun h => by rw [e19]; exact m.2 h⟩
theorem QB.mo {B B' : List Nat} {g g1 : gT} (h : QB B g g1) (hB : ∀ k ∈ B, k ∈ B') : QB B' g g1 := ⟨h.1, h.2.1.mo (fun _ h => h) hB, h.2.2⟩
set_option maxHeartbeats 4000000 in
theorem sX12_readsWaits (fu : Nat) (hfu : 1180591620717411303424 ≤ fu) (g0 : gT) (L0 : lT) (hI : zI MT g0) (hp : pN g0) (hl : (g0 0 30).toInt ≤ 11) : Ex (fX12_readsWaits fu g0 L0) (fun (_ : Unit) g1 L1 => QB [22, 23] g0 g1 ∧ (∀ i, i ≠ (g0 0 30).toInt.toNat → g1 22 i = g0 22 i) ∧ ((g1 0 19).toInt = 0 → 1 ≤ (g1 22 (g0 0 30).toInt.toNat).toInt)) := by
  have q30 := hI 0 30 0 12 rfl
  unfold fX12_readsWaits
  refine Ex.lti (fun v1 _ x1 => ?_)
  have x1 : v1.toInt = 6 * (g0 0 30).toInt := by rw [x1]; exact ic_mulc (by decide) rfl (by omega) (by omega)
  -- the end
  have P184 : ∀ (v2 : Int32) (g : gT) (L : lT), QB [23] g0 g → 0 ≤ v2.toInt → v2.toInt ≤ 6 → ((g 0 19).toInt = 0 → 1 ≤ v2.toInt) → Ex (fX12_readsWaits_p184 fu v2 g L) (fun (_ : Unit) g1 L1 => QB [22, 23] g0 g1 ∧ (∀ i, i ≠ (g0 0 30).toInt.toNat → g1 22 i = g0 22 i) ∧ ((g1 0 19).toInt = 0 → 1 ≤ (g1 22 (g0 0 30).toInt.toNat).toInt)) := by
    intro v2 g L hq h1 h2 h3
    have e30 : g 0 30 = g0 0 30 := hq.2.1.1 30 (by decide)
    have e22 : g 22 = g0 22 := hq.2.1.2 22 (by decide) (by decide)
    unfold fX12_readsWaits_p184
    rw [e30]
    refine Ex.ck (by omega) (by omega) ?_
    refine Ex.sti (hq.1.upd (lo := 0) (hi := 6) rfl h1 h2) (fun ga gae hIa => ?_)
    have ha : QB [22, 23] g0 ga := by rw [gae] at hIa ⊢; exact (hq.mo (by decide)).s hIa (by decide) (by decide)
    have a22 : ∀ i, i ≠ (g0 0 30).toInt.toNat → ga 22 i = g0 22 i := fun i hi => by rw [gae, upd2_nj (show i ≠ (g0 0 30).toNatClampNeg from hi), e22]
    have b22 : ga 22 (g0 0 30).toInt.toNat = v2 := by rw [gae]; exact upd2_at
    have a19 : (ga 0 19).toInt = (g 0 19).toInt := by rw [gae]; rfl
    have a30 : ga 0 30 = g0 0 30 := ha.2.1.1 30 (by decide)
    have fin : Ex (some ((), (ga, L))) (fun (_ : Unit) g1 L1 => QB [22, 23] g0 g1 ∧ (∀ i, i ≠ (g0 0 30).toInt.toNat → g1 22 i = g0 22 i) ∧ ((g1 0 19).toInt = 0 → 1 ≤ (g1 22 (g0 0 30).toInt.toNat).toInt)) := Ex.ret ⟨ha, a22, fun hg => by rw [b22]; exact h3 (by omega)⟩
    unfold fX12_readsWaits_p220
    refine e_good (fun hg => ?_) (fun _ => fin)
    rw [a30]
    refine Ex.ck (by omega) (by omega) ?_
    refine Ex.ite (fun _ => fin) (fun _ => ?_)
    refine e_wrong hIa (by decide) (fun gb hIb hFb hb => Ex.ret ⟨ha.w hIb hFb hb, fun i hi => ?_, fun h => absurd h hb⟩)
    rw [hFb.2 22 (by decide) (by decide)]; exact a22 i hi
  unfold fX12_readsWaits_l12
  have hm := mm_le hI
  refine Ex.loop (α := Int32 × Int32 × gT × lT) (fun v => QB [23] g0 v.2.2.1 ∧ (0 ≤ v.1.toInt ∧ v.1.toInt ≤ 6) ∧ (v.1.toInt = 0 → v.2.1 ≠ 0)) (fun v => mf v.2.1 v.2.2.1) (by omega) (by show mf 1 g0 < (fu : Int); rw [mf_n (by decide)]; omega) ⟨QB.refl hI hp, (show 0 ≤ (0 : Int32).toInt ∧ (0 : Int32).toInt ≤ 6 from by decide), (show (0 : Int32).toInt = 0 → (1 : Int32) ≠ 0 from fun _ => by decide)⟩ (fun k12 v hv ih => ?_)
  obtain ⟨v2, v3, gg, Lg⟩ := v
  obtain ⟨hq, hv2, hv3⟩ := hv
  have hq : QB [23] g0 gg := hq
  have hv2 : 0 ≤ v2.toInt ∧ v2.toInt ≤ 6 := hv2
  have hv3 : v2.toInt = 0 → v3 ≠ 0 := hv3
  have hmg := mm_0 hq.1
  show Ex (fX12_readsWaits_s12 fu v1 k12 v2 v3 gg Lg) _
  unfold fX12_readsWaits_s12
  refine Ex.ite (fun c => P184 v2 gg Lg hq hv2.1 hv2.2 (fun _ => ?_)) (fun c3 => ?_)
  · by_cases h : v2.toInt = 0
    · exact absurd c (hv3 h)
    · omega
  have ih : ∀ (a b : Int32) (g' : gT) (L' : lT), QB [23] g0 g' → 1 ≤ a.toInt → a.toInt ≤ 6 → mm g' < mm gg → Ex (k12 (a, b, g', L')) (fun (_ : Unit) g1 L1 => QB [22, 23] g0 g1 ∧ (∀ i, i ≠ (g0 0 30).toInt.toNat → g1 22 i = g0 22 i) ∧ ((g1 0 19).toInt = 0 → 1 ≤ (g1 22 (g0 0 30).toInt.toNat).toInt)) := by
    intro a b g' L' h1 h2 h2' h3
    refine ih (a, b, g', L') ⟨h1, (show 0 ≤ a.toInt ∧ a.toInt ≤ 6 by omega), (show a.toInt = 0 → b ≠ 0 from fun h => by omega)⟩ ?_ (by show 0 < mf v3 gg; rw [mf_n c3]; omega)
    show mf b g' < mf v3 gg
    rw [mf_n c3]
    by_cases hb : b = 0
    · rw [mf_z hb]; omega
    · rw [mf_n hb]; omega
  refine e_good (fun hg => ?_) (fun hb => P184 v2 gg Lg hq hv2.1 hv2.2 (fun h => absurd h hb))
  -- is it named already
  have P77 : ∀ (g : gT) (L : lT), QB [23] g0 g → (gg 0 25).toInt ≤ (g 0 25).toInt → ((g 0 19).toInt = 0 → (g 0 24).toInt = 2 ∧ v2.toInt ≤ 5 ∧ (g 0 27).toInt < (g 0 30).toInt) → Ex (fX12_readsWaits_p77 fu k12 v1 v2 g L) (fun (_ : Unit) g1 L1 => QB [22, 23] g0 g1 ∧ (∀ i, i ≠ (g0 0 30).toInt.toNat → g1 22 i = g0 22 i) ∧ ((g1 0 19).toInt = 0 → 1 ≤ (g1 22 (g0 0 30).toInt.toNat).toInt)) := by
    intro g L h1 h2 h3
    have P140 : ∀ (g2 : gT) (L2 : lT), QB [23] g0 g2 → (g2 = g ∨ (g2 0 19).toInt ≠ 0) → Ex (fX12_readsWaits_p140 fu k12 v1 v2 g2 L2) (fun (_ : Unit) g1 L1 => QB [22, 23] g0 g1 ∧ (∀ i, i ≠ (g0 0 30).toInt.toNat → g1 22 i = g0 22 i) ∧ ((g1 0 19).toInt = 0 → 1 ≤ (g1 22 (g0 0 30).toInt.toNat).toInt)) := by
      intro g2 L2 k1 k2
      unfold fX12_readsWaits_p140
      refine e_good (fun hg2 => ?_) (fun hb => Ex.ret ⟨k1.mo (by decide), fun i _ => by rw [k1.2.1.2 22 (by decide) (by decide)], fun h => absurd h hb⟩)
      rcases k2 with k2 | k2
      rotate_left
      · exact absurd hg2 k2
      subst k2
      obtain ⟨s1, s2, s3⟩ := h3 hg2
      have e30 := k1.2.1.i (j := 30) (by decide)
      have q27 := k1.1 0 27 0 9999 rfl
      generalize hw : v1 + v2 = w
      have ew : w.toInt = v1.toInt + v2.toInt := by rw [← hw]; exact ic_addc rfl rfl (by omega) (by omega)
      refine Ex.ck (by omega) (by omega) ?_
      refine Ex.sti (k1.1.upd (lo := 0) (hi := 11) rfl (by omega) (by omega)) (fun ga gae hIa => ?_)
      have ha : QB [23] g0 ga := by rw [gae] at hIa ⊢; exact k1.s hIa (by decide) (by decide)
      have a24 : (ga 0 24).toInt = (g2 0 24).toInt := by rw [gae]; rfl
      have a25 : (ga 0 25).toInt = (g2 0 25).toInt := by rw [gae]; rfl
      have a19 : (ga 0 19).toInt = (g2 0 19).toInt := by rw [gae]; rfl
      refine e_goes hfu hIa ha.2.2.1 (fun gb Lb hqb => ?_)
      have hb := ha.n (hqb.n ha.2.2.1)
      have pp := ha.2.2.1.2.2 (by omega)
      have pq := hqb.2.2.2
      have hlt : mm gb < mm gg := mm_lt hq.1 hg (fun _ => by omega)
      unfold fX12_readsWaits_p180
      generalize hw2 : v2 + 1 = w2
      have ew2 : w2.toInt = v2.toInt + 1 := by rw [← hw2]; exact ic_addc rfl (by decide) (by omega) (by omega)
      exact Ex.ite (fun _ => ih w2 1 gb Lb hb (by omega) (by omega) hlt) (fun _ => ih w2 0 gb Lb hb (by omega) (by omega) hlt)
    unfold fX12_readsWaits_p77 fX12_readsWaits_l83
    refine Ex.loop (α := Int32 × Int32 × gT × lT) (fun v => (0 ≤ v.2.1.toInt ∧ v.2.1.toInt ≤ v2.toInt) ∧ v.2.2.1 = g) (fun v => v2.toInt - v.2.1.toInt) (by omega) (by show v2.toInt - (0 : Int32).toInt < (fu : Int); have : (0 : Int32).toInt = 0 := rfl; omega) ⟨(show 0 ≤ (0 : Int32).toInt ∧ (0 : Int32).toInt ≤ v2.toInt from ⟨by decide, hv2.1⟩), rfl⟩ (fun k83 v hv ih3 => ?_)
    obtain ⟨v4, v5, g', L'⟩ := v
    obtain ⟨hv5, he⟩ := hv
    have hv5 : 0 ≤ v5.toInt ∧ v5.toInt ≤ v2.toInt := hv5
    have he : g' = g := he
    subst he
    show Ex (fX12_readsWaits_s83 fu k12 v1 v2 k83 v4 v5 g' L') _
    unfold fX12_readsWaits_s83
    refine Ex.ite (fun _ => ?_) (fun c5 => ?_)
    · refine e_good (fun _ => ?_) (fun _ => P140 g' L' h1 (Or.inl rfl))
      refine Ex.ite (fun _ => P140 g' L' h1 (Or.inl rfl)) (fun _ => ?_)
      exact e_wrong h1.1 (by decide) (fun ga hIa hFa hb => P140 ga L' (h1.w hIa hFa hb) (Or.inr hb))
    have c5 := icc_nle (m := v2.toInt) (n := v5.toInt) rfl rfl c5
    have go : ∀ t0 : Int32, Ex (fX12_readsWaits_p115 fu k12 k83 v1 v2 v5 t0 g' L') (fun (_ : Unit) g1 L1 => QB [22, 23] g0 g1 ∧ (∀ i, i ≠ (g0 0 30).toInt.toNat → g1 22 i = g0 22 i) ∧ ((g1 0 19).toInt = 0 → 1 ≤ (g1 22 (g0 0 30).toInt.toNat).toInt)) := by
      intro t0
      unfold fX12_readsWaits_p115
      generalize hw : v5 + 1 = w
      have ew : w.toInt = v5.toInt + 1 := by rw [← hw]; exact ic_addc rfl (by decide) (by omega) (by omega)
      exact ih3 (t0, w, g', L') ⟨show 0 ≤ w.toInt ∧ w.toInt ≤ v2.toInt by omega, rfl⟩ (show v2.toInt - w.toInt < v2.toInt - v5.toInt by omega) (show 0 < v2.toInt - v5.toInt by omega)
    unfold fX12_readsWaits_p110
    refine Ex.ite (fun _ => ?_) (fun _ => go 1)
    have ew : (v1 + v5).toInt = v1.toInt + v5.toInt := ic_addc rfl rfl (by omega) (by omega)
    refine Ex.ck (by omega) (by omega) ?_
    exact Ex.ite (fun _ => go 1) (fun _ => go 0)
  have bad : ∀ (w : Int32) (K : Unit → gT → lT → Option (Unit × zS)), w.toInt ≠ 0 → (∀ g' L', K () g' L' = fX12_readsWaits_p77 fu k12 v1 v2 g' L') → Ex (cb (fX12_wrong fu w gg Lg) K) (fun (_ : Unit) g1 L1 => QB [22, 23] g0 g1 ∧ (∀ i, i ≠ (g0 0 30).toInt.toNat → g1 22 i = g0 22 i) ∧ ((g1 0 19).toInt = 0 → 1 ≤ (g1 22 (g0 0 30).toInt.toNat).toInt)) := by
    intro w K hw hK
    refine e_wrong hq.1 hw (fun ga hIa hFa hb => ?_)
    rw [hK]
    have e25 := hFa.i (j := 25) (by decide)
    exact P77 ga Lg (hq.w hIa hFa hb) (by omega) (fun h => absurd h hb)
  unfold fX12_readsWaits_p53
  refine Ex.ite (fun c => ?_) (fun _ => bad 1 _ (by decide) (fun _ _ => rfl))
  have c := icc_eq (m := (gg 0 24).toInt) (n := 2) rfl (by decide) c
  refine Ex.ite (fun _ => bad 2 _ (by decide) (fun _ _ => rfl)) (fun c6 => ?_)
  have c6 := icc_neq (m := v2.toInt) (n := 6) rfl (by decide) c6
  refine Ex.ite (fun _ => ?_) (fun _ => bad 2 _ (by decide) (fun _ _ => rfl))
  refine Ex.ite (fun cl => ?_) (fun _ => bad 3 _ (by decide) (fun _ _ => rfl))
  have cl := icc_lt (m := (gg 0 27).toInt) (n := (gg 0 30).toInt) rfl rfl cl
  exact P77 gg Lg hq (Int.le_refl _) (fun _ => ⟨c, by omega, cl⟩)
abbrev bL : List Nat := [15, 16, 17, 18, 19, 20, 21, 22, 23, 24]
abbrev aL : List Nat := [19, 20, 23, 24, 25, 26, 27, 28, 30]
def mLs (g : gT) : Prop := mLes (g 0 30) (g 19) (g 20) (g 22)
/-- the lesson l is being read; the ones before it stand -/
def LQ (g0 : gT) (l : Nat) (g : gT) : Prop := zI MT g ∧ Fr aN bL g0 g ∧ pN g ∧ (g0 0 25).toInt < (g 0 25).toInt ∧ ∀ i, i < l → g 19 i = g0 19 i ∧ g 20 i = g0 20 i ∧ g 22 i = g0 22 i
theorem LQ.n {g0 g g1 : gT} {l : Nat} (h : LQ g0 l g) (hq : QN g g1) : LQ g0 l g1 := by
  obtain ⟨h1, h2, h3, h4, h5⟩ := h
  have := hq.2.2.2.2
  refine ⟨hq.1, h2.tr (hq.2.1.mo (by decide) (by decide)), hq.2.2.1, by omega, fun i hi => ?_⟩
  rw [hq.2.1.2 19 (by decide) (by decide), hq.2.1.2 20 (by decide) (by decide), hq.2.1.2 22 (by decide) (by decide)]
  exact h5 i hi
theorem LQ.s {g0 g : gT} {l k j : Nat} {x : Int32} (h : LQ g0 l g) (hI : zI MT (upd2 g k j x)) (h0 : k ≠ 0) (hk : k ∈ bL) (hj : l ≤ j ∨ (k ≠ 19 ∧ k ≠ 20 ∧ k ≠ 22)) : LQ g0 l (upd2 g k j x) := by
  obtain ⟨h1, h2, h3, h4, h5⟩ := h
  have hF : Fr [] [k] g (upd2 g k j x) := Fr.refl.uk h0 (List.mem_singleton.mpr rfl)
  have e25 := hF.i (j := 25) (by decide)
  refine ⟨hI, h2.uk h0 hk, h3.fr hF (by decide) (by decide) (by decide) (by decide), by omega, fun i hi => ?_⟩
  have e : ∀ m, (m = 19 ∨ m = 20 ∨ m = 22) → upd2 g k j x m i = g m i := by
    intro m hm
    by_cases hmk : m = k
    · subst hmk
      rcases hj with hj | hj
      · exact upd2_nj (by omega)
      · omega
    · exact upd2_nk hmk
  rw [e 19 (by omega), e 20 (by omega), e 22 (by omega)]
  exact h5 i hi
def lF (g : gT) (l : Nat) : Prop := (g 19 l).toInt = 2 ∨ ((g 19 l).toInt = 0 ∧ 1 ≤ (g 22 l).toInt) ∨ ((g 19 l).toInt = 1 ∧ 1 ≤ (g 20 l).toInt ∧ (g 20 l).toInt ≤ 6)
def LR (g0 g1 : gT) : Prop := zI MT g1 ∧ Fr aL bL g0 g1 ∧ pN g1 ∧ mn g0 g1 ∧ ((g1 0 19).toInt = 0 → (g0 0 25).toInt < (g1 0 25).toInt ∧ (mLs g0 → mLs g1))
set_option maxHeartbeats 8000000 in
theorem sX12_readsLesson (fu : Nat) (hfu : 1180591620717411303424 ≤ fu) (g0 : gT) (L0 : lT) (hI : zI MT g0) (hp : pN g0) (hs : (g0 0 24).toInt ≠ 0) : Ex (fX12_readsLesson fu g0 L0) (fun (_ : Unit) g1 L1 => LR g0 g1) := by
  have q30 := hI 0 30 0 12 rfl
  unfold fX12_readsLesson
  refine Ex.ite (fun _ => ?_) (fun c30 => ?_)
  · refine e_wrong hI (by decide) (fun g1 hI1 hF hb => ?_)
    unfold fX12_readsLesson_p14
    refine e_good (fun h => absurd h hb) (fun _ => Ex.ret ⟨hI1, hF.mo (by decide) (by decide), hp.fr hF (by decide) (by decide) (by decide) (by decide), ⟨?_, fun _ => hb⟩, fun h => absurd h hb⟩)
    have := hF.i (j := 25) (by decide)
    omega
  have c30 := icc_neq (m := (g0 0 30).toInt) (n := 12) rfl (by decide) c30
  unfold fX12_readsLesson_p14
  refine e_good (fun hg => ?_) (fun hb => Ex.ret ⟨hI, Fr.refl, hp, mn.refl, fun h => absurd h hb⟩)
  refine e_goes hfu hI hp (fun g7 L8 hq => ?_)
  have hp7 := hp.2.2 hs
  have h7 : LQ g0 (g0 0 30).toInt.toNat g7 := ⟨hq.1, hq.2.1.mo (by decide) (by decide), hq.2.2.1, by have := hq.2.2.2; omega, fun i _ => by rw [hq.2.1.2 19 (by decide) (by decide), hq.2.1.2 20 (by decide) (by decide), hq.2.1.2 22 (by decide) (by decide)]; exact ⟨rfl, rfl, rfl⟩⟩
  have e30 : g7 0 30 = g0 0 30 := hq.2.1.1 30 (by decide)
  rw [e30]
  refine Ex.lti (fun x10 xe xi => ?_)
  generalize hl : (g0 0 30).toInt.toNat = l at h7
  have eN : x10.toNatClampNeg = l := by rw [nc, xi, hl]
  have hli : (l : Int) = x10.toInt := by omega
  clear hq
  -- the end
  have P217 : ∀ (g : gT) (L : lT), LQ g0 l g → ((g 0 19).toInt = 0 → lF g l) → Ex (fX12_readsLesson_p217 fu x10 g L) (fun (_ : Unit) g1 L1 => LR g0 g1) := by
    intro g L h hf
    have e36 : (36 + x10).toInt = 36 + x10.toInt := ic_addc (by decide) rfl (by omega) (by omega)
    have e12 : (12 + x10).toInt = 12 + x10.toInt := ic_addc (by decide) rfl (by omega) (by omega)
    have kN : ∀ {ga gb : gT}, QN ga gb → ((ga 0 19).toInt = 0 → lF ga l) → ((gb 0 19).toInt = 0 → lF gb l) := by
      intro ga gb hn hf hb
      have e19 : (ga 0 19).toInt = 0 := by
        by_cases hc : (ga 0 19).toInt = 0
        · exact hc
        · exact absurd hb (hn.2.2.2.1 hc)
      unfold lF
      rw [hn.2.1.2 19 (by decide) (by decide), hn.2.1.2 20 (by decide) (by decide), hn.2.1.2 22 (by decide) (by decide)]
      exact hf e19
    unfold fX12_readsLesson_p217
    refine Ex.cb (sX12_perhaps fu hfu 8 99 99 g L h.1 h.2.2.1) (fun r1 g1 L1 hq1 => ?_)
    have h1 := h.n hq1
    have f1 := kN hq1 hf
    refine Ex.ck (by omega) (by omega) ?_
    refine Ex.sti (h1.1.updN rfl) (fun g2 g2e hI2 => ?_)
    have h2 : LQ g0 l g2 := by rw [g2e] at hI2 ⊢; exact h1.s hI2 (by decide) (by decide) (Or.inr (by decide))
    have f2 : (g2 0 19).toInt = 0 → lF g2 l := by rw [g2e]; exact f1
    refine Ex.cb (sX12_perhaps fu hfu 9 10 10 g2 L1 h2.1 h2.2.2.1) (fun r3 g3 L3 hq3 => ?_)
    have h3 := h2.n hq3
    have f3 := kN hq3 f2
    refine Ex.ck (by omega) (by omega) ?_
    refine Ex.sti (h3.1.updN rfl) (fun g4 g4e hI4 => ?_)
    have h4 : LQ g0 l g4 := by rw [g4e] at hI4 ⊢; exact h3.s hI4 (by decide) (by decide) (Or.inr (by decide))
    have f4 : (g4 0 19).toInt = 0 → lF g4 l := by rw [g4e]; exact f3
    refine Ex.cb (sX12_perhaps fu hfu 10 0 30 g4 L3 h4.1 h4.2.2.1) (fun r5 g5 L5 hq5 => ?_)
    have h5 := h4.n hq5
    have f5 := kN hq5 f4
    refine Ex.ck (by omega) (by omega) ?_
    refine Ex.sti (h5.1.updN rfl) (fun g6 g6e hI6 => ?_)
    have h6 : LQ g0 l g6 := by rw [g6e] at hI6 ⊢; exact h5.s hI6 (by decide) (by decide) (Or.inr (by decide))
    have f6 : (g6 0 19).toInt = 0 → lF g6 l := by rw [g6e]; exact f5
    clear f1 f2 f3 f4 f5 h1 h2 h3 h4 h5 hq1 hq3 hq5 g6e g4e g2e
    unfold fX12_readsLesson_p287
    have h6' := h6.2.2.2.1
    refine e_good (fun hg6 => ?_) (fun hb => Ex.ret ⟨h6.1, h6.2.1.mo (by decide) (by decide), h6.2.2.1, ⟨by omega, fun h => absurd hg h⟩, fun h => absurd h hb⟩)
    have d30 : g6 0 30 = g0 0 30 := h6.2.1.1 30 (by decide)
    rw [d30]
    have ew : (g0 0 30 + 1).toInt = (g0 0 30).toInt + 1 := ic_addc rfl (by decide) (by omega) (by omega)
    refine Ex.sti (h6.1.upd (lo := 0) (hi := 12) rfl (by omega) (by omega)) (fun ga gae hIa => Ex.ret ?_)
    have hFa : Fr [30] [] g6 ga := by rw [gae]; exact Fr.refl.u0 (by decide)
    have a25 := hFa.i (j := 25) (by decide)
    have a30 : ga 0 30 = g0 0 30 + 1 := by rw [gae]; exact upd2_at
    refine ⟨hIa, (h6.2.1.mo (by decide) (by decide)).tr (hFa.mo (by decide) (by decide)), h6.2.2.1.fr hFa (by decide) (by decide) (by decide) (by decide), ⟨by omega, fun h => absurd hg h⟩, fun _ => ⟨by omega, fun hm => ?_⟩⟩
    unfold mLs
    rw [a30, hFa.2 19 (by decide) (by decide), hFa.2 20 (by decide) (by decide), hFa.2 22 (by decide) (by decide)]
    intro i hi
    rw [ew] at hi
    by_cases hil : i < l
    · obtain ⟨z1, z2, z3⟩ := h6.2.2.2.2 i hil
      rw [z1, z2, z3]
      exact hm i (by omega)
    · have e : i = l := by omega
      subst e
      have f6 := f6 hg6
      unfold lF at f6
      constructor
      · intro hk; omega
      · intro hk1 hk2; omega
  have P213 : ∀ (g : gT) (L : lT), LQ g0 l g → ((g 0 19).toInt = 0 → (g 19 l).toInt = 0 ∨ ((g 19 l).toInt = 1 ∧ 1 ≤ (g 20 l).toInt ∧ (g 20 l).toInt ≤ 6)) → Ex (fX12_readsLesson_p213 fu x10 g L) (fun (_ : Unit) g1 L1 => LR g0 g1) := by
    intro g L h hf
    have d30 : g 0 30 = g0 0 30 := h.2.1.1 30 (by decide)
    unfold fX12_readsLesson_p213
    refine Ex.cb (sX12_readsWaits fu hfu g L h.1 h.2.2.1 (by rw [d30]; omega)) (fun _ g1 L1 hq => ?_)
    rw [d30, hl] at hq
    obtain ⟨hq, k1, k2⟩ := hq
    have e19 : g1 19 = g 19 := hq.2.1.2 19 (by decide) (by decide)
    have e20 : g1 20 = g 20 := hq.2.1.2 20 (by decide) (by decide)
    refine P217 g1 L1 ⟨hq.1, h.2.1.tr (hq.2.1.mo (by decide) (by decide)), hq.2.2.1, by have := h.2.2.2.1; have := hq.2.2.2.1; omega, fun i hi => ?_⟩ (fun hb => ?_)
    · rw [e19, e20, k1 i (by omega)]; exact h.2.2.2.2 i hi
    · have hgg : (g 0 19).toInt = 0 := by
        by_cases hc : (g 0 19).toInt = 0
        · exact hc
        · exact absurd hb (hq.2.2.2.2 hc)
      have hf := hf hgg
      have k2 := k2 hb
      unfold lF
      rw [e19, e20]
      omega
  have P189 : ∀ (v2 t0 : Int32) (g : gT) (L : lT), LQ g0 l g → (t0.toInt = 0 ∨ (t0.toInt = 1 ∧ v2.toInt = 7)) → Ex (fX12_readsLesson_p189 fu x10 v2 t0 x10 g L) (fun (_ : Unit) g1 L1 => LR g0 g1) := by
    intro v2 t0 g L h ht
    unfold fX12_readsLesson_p189
    rw [eN]
    refine Ex.ck (by omega) (by omega) ?_
    refine Ex.sti (h.1.updN rfl) (fun ga gae hIa => ?_)
    have ha : LQ g0 l ga := by rw [gae] at hIa ⊢; exact h.s hIa (by decide) (by decide) (Or.inl (Nat.le_refl _))
    have a19 : ga 19 l = t0 := by rw [gae]; exact upd2_at
    refine e_goes hfu hIa ha.2.2.1 (fun gb Lb hqb => ?_)
    have hn := hqb.n ha.2.2.1
    have hb := ha.n hn
    have b19 : gb 19 l = t0 := by rw [hn.2.1.2 19 (by decide) (by decide)]; exact a19
    refine Ex.ite (fun c7 => ?_) (fun c7 => ?_)
    · refine Ex.cb (sX12_number fu hfu 1 6 gb Lb hb.1 hb.2.2.1) (fun r gc Lc hr => ?_)
      have hc := hb.n hr.1
      refine Ex.ck (by omega) (by omega) ?_
      refine Ex.sti (hc.1.updN rfl) (fun gd gde hId => ?_)
      have hd : LQ g0 l gd := by rw [gde] at hId ⊢; exact hc.s hId (by decide) (by decide) (Or.inl (Nat.le_refl _))
      have d20 : gd 20 l = r := by rw [gde]; exact upd2_at
      have d19 : gd 19 l = t0 := by
        rw [gde]; show upd2 gc 20 l r 19 l = t0
        rw [upd2_nk (by decide), hr.1.2.1.2 19 (by decide) (by decide)]; exact b19
      refine P213 gd Lc hd (fun hgd => ?_)
      rw [d19, d20]
      have hgc : (gc 0 19).toInt = 0 := by rw [gde] at hgd; exact hgd
      have r1 := (hr.2.2.2 hgc).1
      have r2 := (hr.2.2.2 hgc).2.1
      have u1 : (1 : Int32).toInt = 1 := rfl
      have u6 : (6 : Int32).toInt = 6 := rfl
      omega
    · have c7 := icc_neq (m := v2.toInt) (n := 7) rfl (by decide) c7
      exact P213 gb Lb hb (fun _ => by rw [b19]; omega)
  have P160 : ∀ (t0 : Int32) (g : gT) (L : lT), LQ g0 l g → (g 19 l).toInt = 2 → Ex (fX12_readsLesson_p160 fu x10 t0 g L) (fun (_ : Unit) g1 L1 => LR g0 g1) := by
    intro t0 g L h h2
    have P173 : (t0.toInt = 6 ∨ t0.toInt = 7) → Ex (fX12_readsLesson_p173 fu x10 t0 g L) (fun (_ : Unit) g1 L1 => LR g0 g1) := by
      intro ht
      unfold fX12_readsLesson_p173
      refine Ex.ite (fun _ => P189 t0 0 g L h (Or.inl rfl)) (fun c => P189 t0 1 g L h (Or.inr ⟨rfl, ?_⟩))
      have c := icc_neq (m := t0.toInt) (n := 6) rfl (by decide) c
      omega
    unfold fX12_readsLesson_p160
    refine Ex.ite (fun c => P173 (Or.inl (icc_eq (m := t0.toInt) (n := 6) rfl (by decide) c))) (fun _ => ?_)
    refine Ex.ite (fun c => P173 (Or.inr (icc_eq (m := t0.toInt) (n := 7) rfl (by decide) c))) (fun _ => ?_)
    exact P217 g L h (fun _ => Or.inl h2)
  have e0 : (0 + x10).toInt = x10.toInt := by rw [ic_addc (m := 0) (n := x10.toInt) (by decide) rfl (by omega) (by omega)]; omega
  have e24 : (24 + x10).toInt = 24 + x10.toInt := ic_addc (by decide) rfl (by omega) (by omega)
  refine Ex.cb (sX12_number fu hfu 0 999 g7 L8 h7.1 h7.2.2.1) (fun r1 ga La hr => ?_)
  have ha := h7.n hr.1
  clear hr
  refine Ex.ck (by omega) (by omega) ?_
  refine Ex.sti (ha.1.updN rfl) (fun gb gbe hIb => ?_)
  have hb : LQ g0 l gb := by rw [gbe] at hIb ⊢; exact ha.s hIb (by decide) (by decide) (Or.inr (by decide))
  clear gbe
  refine Ex.ck (by omega) (by omega) ?_
  refine Ex.cb (sX12_number fu hfu _ 999 gb La hb.1 hb.2.2.1) (fun r2 gc Lc hr => ?_)
  have hc := hb.n hr.1
  clear hr
  refine Ex.ck (by omega) (by omega) ?_
  refine Ex.sti (hc.1.updN rfl) (fun gd gde hId => ?_)
  have hd : LQ g0 l gd := by rw [gde] at hId ⊢; exact hc.s hId (by decide) (by decide) (Or.inr (by decide))
  clear gde
  refine Ex.cb (sX12_number fu hfu 1 200 gd Lc hd.1 hd.2.2.1) (fun r3 ge Le hr => ?_)
  have he := hd.n hr.1
  clear hr
  refine Ex.ck (by omega) (by omega) ?_
  refine Ex.sti (he.1.updN rfl) (fun gf gfe hIf => ?_)
  have hf : LQ g0 l gf := by rw [gfe] at hIf ⊢; exact he.s hIf (by decide) (by decide) (Or.inr (by decide))
  clear gfe
  refine Ex.cb (sX12_number fu hfu 0 60 gf Le hf.1 hf.2.2.1) (fun r4 gg Lg hr => ?_)
  have hgg := hf.n hr.1
  clear hr
  refine Ex.ck (by omega) (by omega) ?_
  refine Ex.sti (hgg.1.updN rfl) (fun gh ghe hIh => ?_)
  have hh : LQ g0 l gh := by rw [ghe] at hIh ⊢; exact hgg.s hIh (by decide) (by decide) (Or.inr (by decide))
  clear ghe
  refine Ex.cb (sX12_number fu hfu 0 9 gh Lg hh.1 hh.2.2.1) (fun r5 gi Li hr => ?_)
  have hi := hh.n hr.1
  clear hr
  refine Ex.ck (by omega) (by omega) ?_
  refine Ex.sti (hi.1.updN rfl) (fun gj gje hIj => ?_)
  have hj : LQ g0 l gj := by rw [gje] at hIj ⊢; exact hi.s hIj (by decide) (by decide) (Or.inr (by decide))
  clear gje
  refine Ex.cb (sX12_number fu hfu 1 99 gj Li hj.1 hj.2.2.1) (fun r6 gk Lk hr => ?_)
  have hk := hj.n hr.1
  clear hr
  refine Ex.ck (by omega) (by omega) ?_
  refine Ex.sti (hk.1.updN rfl) (fun gm gme hIm => ?_)
  have hm : LQ g0 l gm := by rw [gme] at hIm ⊢; exact hk.s hIm (by decide) (by decide) (Or.inr (by decide))
  clear gme
  rw [eN]
  refine Ex.ck (by omega) (by omega) ?_
  refine Ex.sti (hm.1.updN rfl) (fun gn gne hIn => ?_)
  have hn : LQ g0 l gn := by rw [gne] at hIn ⊢; exact hm.s hIn (by decide) (by decide) (Or.inl (Nat.le_refl _))
  have n19 : gn 19 l = 2 := by rw [gne]; exact upd2_at
  clear gne
  refine Ex.ck (by omega) (by omega) ?_
  refine Ex.sti (hn.1.updN rfl) (fun go goe hIo => ?_)
  have ho : LQ g0 l go := by rw [goe] at hIo ⊢; exact hn.s hIo (by decide) (by decide) (Or.inl (Nat.le_refl _))
  have o19 : go 19 l = 2 := by rw [goe, upd2_nk (by decide)]; exact n19
  clear goe
  refine Ex.ck (by omega) (by omega) ?_
  refine Ex.sti (ho.1.upd (lo := 0) (hi := 6) rfl (by decide) (by decide)) (fun gq gqe hIq => ?_)
  have hq : LQ g0 l gq := by rw [gqe] at hIq ⊢; exact ho.s hIq (by decide) (by decide) (Or.inl (Nat.le_refl _))
  have q19 : gq 19 l = 2 := by rw [gqe, upd2_nk (by decide)]; exact o19
  clear gqe
  refine e_good (fun _ => ?_) (fun _ => P160 _ gq Lk hq (by rw [q19]; rfl))
  exact e_known hfu (fun x L1 _ _ _ => P160 x gq L1 hq (by rw [q19]; rfl))
end
section
/-! ===== the reference's parser: lines, house ===== -/
abbrev aP : List Nat := [19, 20, 23, 24, 25, 26, 27, 28, 30, 31, 32, 33, 34, 35, 36, 37]
abbrev bP : List Nat := [15, 16, 17, 18, 19, 20, 21, 22, 23, 24, 25, 26, 27, 28]
theorem Fr.mJ {g g1 : gT} (h : Fr aP bP g g1) (hJ : mJ g) : mJ g1 := by
  refine hJ.congr (fun k j hs => ?_)
  by_cases hk : k = 0
  · subst hk
    refine h.1 j (fun hm => ?_)
    have e : ∀ j ∈ aP, mSup 0 j = false := by decide
    rw [e j hm] at hs; exact nomatch hs
  · refine congrFun (h.2 k hk (fun hm => ?_)) j
    have e : ∀ k ∈ bP, mSup k = fun _ => false := by
      intro k hk
      simp only [bP, List.mem_cons, List.not_mem_nil, or_false] at hk
      rcases hk with rfl | rfl | rfl | rfl | rfl | rfl | rfl | rfl | rfl | rfl | rfl | rfl | rfl | rfl <;> rfl
    rw [e k hm] at hs; exact nomatch hs
def rOk (g : gT) : Prop := ∀ r : Nat, (r : Int) < (g 0 31).toInt → 0 ≤ (g 25 r).toInt ∧ cl (g 26) (g 25 r).toInt.toNat (gP g)
/-- what has been read so far, while there is no fault -/
def gd (g : gT) : Prop := mLs g ∧ rOk g ∧ (g 0 35).toInt ≤ 2 * (g 0 25).toInt ∧ 1 ≤ (g 0 33).toInt ∧ (g 0 33).toInt ≤ 99
theorem gd.fr {g g1 : gT} {A B : List Nat} (h : gd g) (hF : Fr A B g g1) (h25 : (g 0 25).toInt ≤ (g1 0 25).toInt) (a30 : 30 ∉ A) (a31 : 31 ∉ A) (a33 : 33 ∉ A) (a35 : 35 ∉ A) (b19 : 19 ∉ B) (b20 : 20 ∉ B) (b22 : 22 ∉ B) (b25 : 25 ∉ B) (b26 : 26 ∉ B) : gd g1 := by
  obtain ⟨h1, h2, h3, h4, h5⟩ := h
  have e35 := hF.i a35
  have e33 := hF.i a33
  have eP : gP g1 = gP g := by show (g1 0 35).toInt.toNat = (g 0 35).toInt.toNat; rw [e35]
  refine ⟨?_, ?_, by omega, by omega, by omega⟩
  · unfold mLs
    rw [hF.1 30 a30, hF.2 19 (by decide) b19, hF.2 20 (by decide) b20, hF.2 22 (by decide) b22]; exact h1
  · unfold rOk
    rw [hF.1 31 a31, hF.2 25 (by decide) b25, hF.2 26 (by decide) b26, eP]; exact h2
theorem gd.n {g g1 : gT} (h : gd g) (hq : QN g g1) : gd g1 := h.fr hq.2.1 hq.2.2.2.2 (by decide) (by decide) (by decide) (by decide) (by decide) (by decide) (by decide) (by decide) (by decide)
def HQ (g g1 : gT) : Prop := zI MT g1 ∧ Fr aP bP g g1 ∧ pN g1 ∧ ((g1 0 19).toInt = 0 → (g 0 25).toInt < (g1 0 25).toInt ∧ gd g1)
set_option maxHeartbeats 4000000 in
theorem sX12_line (fu : Nat) (hfu : 1180591620717411303424 ≤ fu) (g0 : gT) (L0 : lT) (hI : zI MT g0) (hp : pN g0) (hg : (g0 0 19).toInt = 0) (hd : gd g0) : Ex (fX12_line fu g0 L0) (fun (_ : Unit) g1 L1 => HQ g0 g1) := by
  have P170 : ∀ (g : gT) (L : lT), HQ g0 g → Ex (fX12_line_p170 fu g L) (fun (_ : Unit) g1 L1 => HQ g0 g1) := by
    intro g L h
    obtain ⟨h1, h2, h3, h4⟩ := h
    unfold fX12_line_p170
    refine e_signK (fun x _ => ?_)
    refine Ex.cb (sX12_need fu hfu x g L h1 h3) (fun _ g1 L1 hq => Ex.ret ⟨hq.1, h2.tr (hq.2.1.mo (by decide) (by decide)), hq.2.2.1, fun hb => ?_⟩)
    have hc : (g 0 19).toInt = 0 := by
      by_cases hc : (g 0 19).toInt = 0
      · exact hc
      · exact absurd hb (hq.2.2.2.1 hc)
    have := hq.2.2.2.2
    have h4 := h4 hc
    exact ⟨by omega, h4.2.n hq⟩
  have bad : ∀ (g1 : gT), zI MT g1 → Fr [19, 20] [] g0 g1 → (g1 0 19).toInt ≠ 0 → HQ g0 g1 := fun g1 hI1 hF hb => ⟨hI1, hF.mo (by decide) (by decide), hp.fr hF (by decide) (by decide) (by decide) (by decide), fun h => absurd h hb⟩
  unfold fX12_line
  refine e_known hfu (fun x L1 x1 x2 x3 => ?_)
  -- a lesson
  refine Ex.ite (fun cx => ?_) (fun _ => ?_)
  · have cx := icc_eq (m := x.toInt) (n := 5) rfl (by decide) cx
    have hs := x3 (by omega)
    refine Ex.cb (sX12_readsLesson fu hfu g0 L1 hI hp (by omega)) (fun _ g1 L2 hq => P170 g1 L2 ?_)
    obtain ⟨q1, q2, q3, q4, q5⟩ := hq
    refine ⟨q1, q2.mo (by decide) (by decide), q3, fun hb => ?_⟩
    obtain ⟨q5, q6⟩ := q5 hb
    obtain ⟨d1, d2, d3, d4, d5⟩ := hd
    have e35 := q2.i (j := 35) (by decide)
    have e33 := q2.i (j := 33) (by decide)
    have eP : gP g1 = gP g0 := by show (g1 0 35).toInt.toNat = (g0 0 35).toInt.toNat; rw [e35]
    refine ⟨q5, q6 d1, ?_, by omega, by omega, by omega⟩
    unfold rOk
    rw [q2.1 31 (by decide), q2.2 25 (by decide) (by decide), q2.2 26 (by decide) (by decide), eP]; exact d2
  -- walk, stair
  have P46 : ∀ (g : gT) (L : lT), x.toInt ≠ -1 → ((g = g0 ∧ zI MT g) ∨ ((g 0 19).toInt ≠ 0 ∧ HQ g0 g)) → Ex (fX12_line_p46 fu x g L) (fun (_ : Unit) g1 L1 => HQ g0 g1) := by
    intro g L hx h
    unfold fX12_line_p46
    refine e_good (fun hgg => ?_) (fun hb => ?_)
    rotate_left
    · rcases h with h | h
      · rw [h.1] at hb; exact absurd hg hb
      · exact Ex.ret h.2
    rcases h with h | h
    rotate_left
    · exact absurd hgg h.1
    obtain ⟨rfl, -⟩ := h
    have hs := x3 hx
    refine Ex.sti (hI.updN rfl) (fun ga gae hIa => ?_)
    have hFa : Fr [34] [] g ga := by rw [gae]; exact Fr.refl.u0 (by decide)
    have hpa := hp.fr hFa (by decide) (by decide) (by decide) (by decide)
    have a24 := hFa.i (j := 24) (by decide)
    have a25 := hFa.i (j := 25) (by decide)
    have a23 := hFa.i (j := 23) (by decide)
    refine e_goes hfu hIa hpa (fun gb Lb hqb => ?_)
    have pp := hpa.2.2 (by omega)
    have pq := hqb.2.2.2
    have hFb : Fr aP bP g gb := (hFa.mo (by decide) (by decide)).tr (hqb.2.1.mo (by decide) (by decide))
    have hdb : gd gb := (hd.fr hFa (by omega) (by decide) (by decide) (by decide) (by decide) (by decide) (by decide) (by decide) (by decide) (by decide)).n (hqb.n hpa)
    have num : ∀ (lo hi : Int32) (j : Nat) (K : Int32 → gT → lT → Option (Unit × zS)), (j = 32 ∨ j = 33) → (j = 33 → lo.toInt = 1 ∧ hi.toInt = 99) → (∀ (r : Int32) (g' : gT) (L' : lT), K r g' L' = sti g' 0 j r (fun g'' => fX12_line_p170 fu g'' L')) → Ex (cb (fX12_number fu lo hi gb Lb) K) (fun (_ : Unit) g1 L1 => HQ g g1) := by
      intro lo hi j K hj hlo hK
      refine Ex.cb (sX12_number fu hfu lo hi gb Lb hqb.1 hqb.2.2.1) (fun r gc Lc hr => ?_)
      rw [hK]
      have hT : MT 0 j = none := by rcases hj with rfl | rfl <;> rfl
      refine Ex.sti (hr.1.1.updN hT) (fun ge gee hIe => ?_)
      have hFe : Fr [32, 33] [] gc ge := by rw [gee]; exact Fr.refl.u0 (by rcases hj with rfl | rfl <;> decide)
      have e25 := hFe.i (j := 25) (by decide)
      have e19 := hFe.i (j := 19) (by decide)
      refine P170 ge Lc ⟨hIe, hFb.tr ((hr.1.2.1.mo (by decide) (by decide)).tr (hFe.mo (by decide) (by decide))), hr.1.2.2.1.fr hFe (by decide) (by decide) (by decide) (by decide), fun hbb => ?_⟩
      rw [e19] at hbb
      obtain ⟨r1, r2, r3⟩ := hr.2.2.2 hbb
      refine ⟨by omega, ?_⟩
      obtain ⟨d1, d2, d3, d4, d5⟩ := hdb.n hr.1
      have e35 := hFe.i (j := 35) (by decide)
      have eP : gP ge = gP gc := by show (ge 0 35).toInt.toNat = (gc 0 35).toInt.toNat; rw [e35]
      have e33 : 1 ≤ (ge 0 33).toInt ∧ (ge 0 33).toInt ≤ 99 := by
        rcases hj with rfl | rfl
        · have : ge 0 33 = gc 0 33 := by rw [gee]; rfl
          rw [this]; exact ⟨d4, d5⟩
        · have : ge 0 33 = r := by rw [gee]; exact upd2_at
          rw [this]
          have := hlo rfl
          omega
      refine ⟨?_, ?_, by omega, e33.1, e33.2⟩
      · unfold mLs
        rw [hFe.1 30 (by decide), hFe.2 19 (by decide) (by decide), hFe.2 20 (by decide) (by decide), hFe.2 22 (by decide) (by decide)]; exact d1
      · unfold rOk
        rw [hFe.1 31 (by decide), hFe.2 25 (by decide) (by decide), hFe.2 26 (by decide) (by decide), eP]; exact d2
    refine Ex.ite (fun _ => num 0 9 32 _ (Or.inl rfl) (fun h => absurd h (by decide)) (fun _ _ _ => rfl)) (fun _ => num 1 99 33 _ (Or.inr rfl) (fun _ => ⟨rfl, rfl⟩) (fun _ _ _ => rfl))
  have P29 : x.toInt ≠ -1 → Ex (fX12_line_p29 fu x g0 L1) (fun (_ : Unit) g1 L1 => HQ g0 g1) := by
    intro hx
    unfold fX12_line_p29
    refine Ex.ite (fun _ => ?_) (fun _ => P46 g0 L1 hx (Or.inl ⟨rfl, hI⟩))
    exact e_wrong hI (by decide) (fun g1 hI1 hF hb => P46 g1 L1 hx (Or.inr ⟨hb, bad g1 hI1 hF hb⟩))
  refine Ex.ite (fun cx => P29 ?_) (fun _ => ?_)
  · have cx := icc_eq (m := x.toInt) (n := 11) rfl (by decide) cx; omega
  refine Ex.ite (fun cx => P29 ?_) (fun _ => ?_)
  · have cx := icc_eq (m := x.toInt) (n := 12) rfl (by decide) cx; omega
  -- a rule
  refine Ex.ite (fun cx => ?_) (fun _ => e_wrong hI (by decide) (fun g1 hI1 hF hb => P170 g1 L1 (bad g1 hI1 hF hb)))
  have cx := icc_eq (m := x.toInt) (n := 13) rfl (by decide) cx
  have hs := x3 (by omega)
  refine Ex.ite (fun _ => ?_) (fun c4 => ?_)
  · refine e_wrong hI (by decide) (fun g1 hI1 hF hb => ?_)
    unfold fX12_line_p123
    exact e_good (fun h => absurd h hb) (fun _ => Ex.ret (bad g1 hI1 hF hb))
  have c4 := icc_neq (m := (g0 0 31).toInt) (n := 4) rfl (by decide) c4
  have q31 := hI 0 31 0 4 rfl
  unfold fX12_line_p123
  refine e_good (fun _ => ?_) (fun hb => absurd hg hb)
  refine e_goes hfu hI hp (fun ga La hq => ?_)
  have pp := hp.2.2 (by omega)
  have pq := hq.2.2.2
  have a31 : ga 0 31 = g0 0 31 := hq.2.1.1 31 (by decide)
  have a35 : ga 0 35 = g0 0 35 := hq.2.1.1 35 (by decide)
  have q35 := hI 0 35 0 1900 rfl
  rw [a31]
  refine Ex.ck (by omega) (by omega) ?_
  refine Ex.sti (hq.1.updN rfl) (fun gb gbe hIb => ?_)
  have b31 : gb 0 31 = g0 0 31 := by rw [gbe]; exact a31
  rw [b31]
  have ew : (g0 0 31 + 1).toInt = (g0 0 31).toInt + 1 := ic_addc rfl (by decide) (by omega) (by omega)
  refine Ex.sti (hIb.upd (lo := 0) (hi := 4) rfl (by omega) (by omega)) (fun gc gce hIc => ?_)
  have hFc : Fr [23, 24, 25, 26, 27, 28, 31] [25] g0 gc := by rw [gce, gbe]; exact ((hq.2.1.mo (by decide) (by decide)).uk (by decide) (by decide)).u0 (by decide)
  have hFac : Fr [31] [25] ga gc := by rw [gce, gbe]; exact (Fr.refl.uk (by decide) (by decide)).u0 (by decide)
  have hpc : pN gc := hq.2.2.1.fr hFac (by decide) (by decide) (by decide) (by decide)
  have c19 := hFc.i (j := 19) (by decide)
  have c25 := hFac.i (j := 25) (by decide)
  have c35 := hFc.i (j := 35) (by decide)
  have c31 : gc 0 31 = g0 0 31 + 1 := by rw [gce]; exact upd2_at
  have c26 : gc 26 = g0 26 := hFc.2 26 (by decide) (by decide)
  have c25a : ∀ r, r ≠ (g0 0 31).toInt.toNat → gc 25 r = g0 25 r := by
    intro r hr
    rw [gce, upd2_nk (by decide), gbe, upd2_nj (show r ≠ (g0 0 31).toNatClampNeg from hr), hq.2.1.2 25 (by decide) (by decide)]
  have c25b : gc 25 (g0 0 31).toInt.toNat = g0 0 35 := by
    rw [gce, upd2_nk (by decide), gbe]; exact upd2_at.trans a35
  obtain ⟨d1, d2, d3, d4, d5⟩ := hd
  refine Ex.cb (sX12_expression fu hfu gc La hIc hpc (by omega) (by omega)) (fun _ ge Le hx => P170 ge Le ?_)
  obtain ⟨z1, z2, z3, z4, z5, z6⟩ := hx
  refine ⟨z1, (hFc.mo (by decide) (by decide)).tr (z2.mo (by decide) (by decide)), z3, fun hbb => ?_⟩
  obtain ⟨z6, z7, z8⟩ := z6 hbb
  have ePc : gP gc = gP g0 := by show (gc 0 35).toInt.toNat = (g0 0 35).toInt.toNat; rw [c35]
  rw [ePc] at z5 z6 z8
  have e33 : (ge 0 33).toInt = (g0 0 33).toInt := by rw [z2.i (by decide), hFc.i (by decide)]
  have hPP : gP g0 ≤ gP ge := by
    show gP g0 ≤ (ge 0 35).toInt.toNat
    omega
  refine ⟨by omega, ?_, ?_, z7, by omega, by omega⟩
  · unfold mLs
    rw [z2.1 30 (by decide), z2.2 19 (by decide) (by decide), z2.2 20 (by decide) (by decide), z2.2 22 (by decide) (by decide), hFc.1 30 (by decide), hFc.2 19 (by decide) (by decide), hFc.2 20 (by decide) (by decide), hFc.2 22 (by decide) (by decide)]
    exact d1
  · unfold rOk
    rw [z2.1 31 (by decide), z2.2 25 (by decide) (by decide), c31]
    intro r hr
    rw [ew] at hr
    by_cases h9 : r = (g0 0 31).toInt.toNat
    · subst h9
      rw [c25b]
      exact ⟨q35.1, z6⟩
    · rw [c25a r h9]
      obtain ⟨y1, y2⟩ := d2 r (by omega)
      exact ⟨y1, cl_c (fun j hj => by rw [z5 j hj, c26]) hPP y2⟩
set_option maxHeartbeats 8000000 in
theorem sX12_house (fu : Nat) (hfu : 1180591620717411303424 ≤ fu) (p1 : Int32) (g0 : gT) (L0 : lT) (hI : zI MT g0) (hJ : mJ g0) : Ex (fX12_house fu p1 g0 L0) (fun (r : Int32) g1 L1 => zI MT g1 ∧ mJ g1 ∧ (0 ≤ p1.toInt → p1.toInt ≤ (g0 0 18).toInt → (g1 0 18).toInt = 0) ∧ (p1.toInt < 0 ∨ (g0 0 18).toInt < p1.toInt → g1 0 18 = g0 0 18)) := by
  have q18 := hI 0 18 0 700 rfl
  unfold fX12_house
  refine Ex.sti (hI.updN rfl) (fun ga gae hIa => ?_)
  have a0 : ga 0 0 = 0 := by rw [gae]; exact upd2_at
  have a18 : ga 0 18 = g0 0 18 := by rw [gae]; rfl
  have hJa : mJ ga := by rw [gae]; exact hJ.upd rfl
  rw [a18]
  -- refused
  have no : p1.toInt < 0 ∨ (g0 0 18).toInt < p1.toInt → Ex (fX12_house_p22 fu p1 ga L0) (fun (r : Int32) g1 L1 => zI MT g1 ∧ mJ g1 ∧ (0 ≤ p1.toInt → p1.toInt ≤ (g0 0 18).toInt → (g1 0 18).toInt = 0) ∧ (p1.toInt < 0 ∨ (g0 0 18).toInt < p1.toInt → g1 0 18 = g0 0 18)) := by
    intro hn
    unfold fX12_house_p22 fX12_house_p23
    have e : fX12_right fu 0 1 ga L0 = some (0, (upd2 ga 0 0 1, L0)) := by
      unfold fX12_right
      rw [if_pos a0, if_pos rfl]
      show fX12_right_p16 fu (upd2 ga 0 0 1) L0 = _
      unfold fX12_right_p16 fX12_right_p28
      rw [ckb0, ckb1, if_neg (by rw [upd2_at]; decide)]
    rw [e]
    refine e_b0 (Ex.ret ⟨hIa.updN rfl, hJa.upd rfl, fun h1 h2 => by omega, fun _ => ?_⟩)
    exact a18
  refine Ex.ite (fun c => no (Or.inl (icc_lt (m := p1.toInt) (n := 0) rfl (by decide) c))) (fun c1 => ?_)
  refine Ex.ite (fun c => no (Or.inr (icc_lt (m := (g0 0 18).toInt) (n := p1.toInt) rfl rfl c))) (fun c2 => ?_)
  have c1 := icc_nlt (m := p1.toInt) (n := 0) rfl (by decide) c1
  have c2 := icc_nlt (m := (g0 0 18).toInt) (n := p1.toInt) rfl rfl c2
  unfold fX12_house_p23
  have e : fX12_right fu 1 1 ga L0 = some (1, (ga, L0)) := by
    unfold fX12_right
    rw [if_pos a0, if_neg (by decide)]
    unfold fX12_right_p16 fX12_right_p28
    rw [ckb0, ckb1, if_pos a0]
  rw [e]
  refine e_b1 ?_
  refine Ex.sti (hIa.upd (lo := 0) (hi := 700) rfl (by decide) (by decide)) (fun g7 g7e hI7 => ?_)
  refine Ex.sti (hI7.updN rfl) (fun g8 g8e hI8 => ?_)
  refine Ex.sti (hI8.updN rfl) (fun g9 g9e hI9 => ?_)
  refine Ex.sti (hI9.upd (lo := 0) (hi := 700) rfl (by omega) (by omega)) (fun g10 g10e hI10 => ?_)
  refine Ex.sti (hI10.upd (lo := 0) (hi := 700) rfl (by decide) (by decide)) (fun g11 g11e hI11 => ?_)
  refine Ex.sti (hI11.upd (lo := 0) (hi := 12) rfl (by decide) (by decide)) (fun g12 g12e hI12 => ?_)
  refine Ex.sti (hI12.upd (lo := 0) (hi := 4) rfl (by decide) (by decide)) (fun g13 g13e hI13 => ?_)
  refine Ex.sti (hI13.updN rfl) (fun g14 g14e hI14 => ?_)
  refine Ex.sti (hI14.updN rfl) (fun g15 g15e hI15 => ?_)
  refine Ex.sti (hI15.updN rfl) (fun g16 g16e hI16 => ?_)
  refine Ex.sti (hI16.upd (lo := 0) (hi := 1900) rfl (by decide) (by decide)) (fun g17 g17e hI17 => ?_)
  have hJ17 : mJ g17 := by
    rw [g17e, g16e, g15e, g14e, g13e, g12e, g11e, g10e, g9e, g8e, g7e]
    exact ((((((((((hJa.upd rfl).upd rfl).upd rfl).upd rfl).upd rfl).upd rfl).upd rfl).upd rfl).upd rfl).upd rfl).upd rfl
  have s18 : g17 0 18 = 0 := by rw [g17e, g16e, g15e, g14e, g13e, g12e, g11e, g10e, g9e, g8e, g7e]; rfl
  have s19 : g17 0 19 = 0 := by rw [g17e, g16e, g15e, g14e, g13e, g12e, g11e, g10e, g9e]; rfl
  have s22 : g17 0 22 = p1 := by rw [g17e, g16e, g15e, g14e, g13e, g12e, g11e, g10e]; rfl
  have s23 : g17 0 23 = 0 := by rw [g17e, g16e, g15e, g14e, g13e, g12e, g11e]; rfl
  have s30 : g17 0 30 = 0 := by rw [g17e, g16e, g15e, g14e, g13e, g12e]; rfl
  have s31 : g17 0 31 = 0 := by rw [g17e, g16e, g15e, g14e, g13e]; rfl
  have s33 : g17 0 33 = 99 := by rw [g17e, g16e, g15e]; rfl
  have s35 : g17 0 35 = 0 := by rw [g17e]; exact upd2_at
  clear g17e g16e g15e g14e g13e g12e g11e g10e g9e g8e g7e hI7 hI8 hI9 hI10 hI11 hI12 hI13 hI14 hI15 hI16
  refine Ex.cb (sX12_goes fu hfu g17 L0 hI17 (by rw [s22, s23]; exact c1)) (fun _ gs Ls hq => ?_)
  have t18 : gs 0 18 = 0 := by rw [hq.2.1.1 18 (by decide)]; exact s18
  have t19 : (gs 0 19).toInt = 0 := by rw [hq.2.1.1 19 (by decide), s19]; rfl
  have t30 : gs 0 30 = 0 := by rw [hq.2.1.1 30 (by decide)]; exact s30
  have t31 : gs 0 31 = 0 := by rw [hq.2.1.1 31 (by decide)]; exact s31
  have t33 : gs 0 33 = 99 := by rw [hq.2.1.1 33 (by decide)]; exact s33
  have t35 : gs 0 35 = 0 := by rw [hq.2.1.1 35 (by decide)]; exact s35
  have hIs := hq.1
  have q25 := hIs 0 25 0 700 rfl
  have hds : gd gs := by
    refine ⟨?_, ?_, ?_, ?_, ?_⟩
    · unfold mLs; rw [t30]; intro i hi; exact absurd hi (by show ¬ (i : Int) < 0; omega)
    · unfold rOk; rw [t31]; intro i hi; exact absurd hi (by show ¬ (i : Int) < 0; omega)
    · rw [t35]; show (0 : Int) ≤ _; omega
    · rw [t33]; decide
    · rw [t33]; decide
  have hJs : mJ gs := Fr.mJ (hq.2.1.mo (by decide) (by decide)) hJ17
  unfold fX12_house_l92
  have hm := mm_le hIs
  refine Ex.loop (α := gT × lT) (fun v => zI MT v.1 ∧ Fr aP bP gs v.1 ∧ pN v.1 ∧ ((v.1 0 19).toInt = 0 → gd v.1)) (fun v => mm v.1) (by omega) (by show mm gs < (fu : Int); omega) ⟨hIs, Fr.refl, hq.2.2.1, fun _ => hds⟩ (fun k92 v hv ih => ?_)
  clear hq hm
  obtain ⟨g, L⟩ := v
  obtain ⟨h1, h2, h3, h4⟩ := hv
  have h1 : zI MT g := h1
  have h2 : Fr aP bP gs g := h2
  have h3 : pN g := h3
  have h4 : (g 0 19).toInt = 0 → gd g := h4
  have hJg : mJ g := h2.mJ hJs
  have u18 : g 0 18 = 0 := by rw [h2.1 18 (by decide)]; exact t18
  show Ex (fX12_house_s92 fu k92 g L) _
  unfold fX12_house_s92
  have r25 := h1 0 25 0 700 rfl
  have fin : Ex (fX12_house_p113 fu g L) (fun (r : Int32) g1 L1 => zI MT g1 ∧ mJ g1 ∧ (0 ≤ p1.toInt → p1.toInt ≤ (g0 0 18).toInt → (g1 0 18).toInt = 0) ∧ (p1.toInt < 0 ∨ (g0 0 18).toInt < p1.toInt → g1 0 18 = g0 0 18)) := by
    unfold fX12_house_p113
    refine e_good (fun hgg => ?_) (fun _ => ?_)
    rotate_left
    · refine Ex.ck (by decide) (by decide) ?_
      refine Ex.ck (by decide) (by decide) ?_
      refine Ex.sti (h1.updN rfl) (fun gb gbe hIb => Ex.ret ⟨hIb, by rw [gbe]; exact hJg.upd rfl, fun _ _ => ?_, fun h => by omega⟩)
      have : gb 0 18 = 0 := by rw [gbe]; exact u18
      rw [this]; rfl
    obtain ⟨d1, d2, d3, d4, d5⟩ := h4 hgg
    have q30 := h1 0 30 0 12 rfl
    have q31 := h1 0 31 0 4 rfl
    have q35 := h1 0 35 0 1900 rfl
    refine Ex.sti (h1.upd (lo := 0) (hi := 12) rfl (by omega) (by omega)) (fun ga1 e1 i1 => ?_)
    have x31 : ga1 0 31 = g 0 31 := by rw [e1]; rfl
    rw [x31]
    refine Ex.sti (i1.upd (lo := 0) (hi := 4) rfl (by omega) (by omega)) (fun ga2 e2 i2 => ?_)
    refine Ex.sti (i2.updN rfl) (fun ga3 e3 i3 => ?_)
    have x33 : ga3 0 33 = g 0 33 := by rw [e3, e2, e1]; rfl
    rw [x33]
    refine Ex.sti (i3.upd (lo := 1) (hi := 99) rfl d4 d5) (fun ga4 e4 i4 => ?_)
    have y1 : ga4 0 1 = g 0 30 := by rw [e4, e3, e2, e1]; rfl
    have y2 : ga4 0 2 = g 0 31 := by rw [e4, e3, e2]; rfl
    have y18 : ga4 0 18 = 0 := by rw [e4, e3, e2, e1]; exact u18
    have y19 : ga4 19 = g 19 := by rw [e4, e3, e2, e1]; rfl
    have y20 : ga4 20 = g 20 := by rw [e4, e3, e2, e1]; rfl
    have y22 : ga4 22 = g 22 := by rw [e4, e3, e2, e1]; rfl
    have y25 : ga4 25 = g 25 := by rw [e4, e3, e2, e1]; rfl
    have y26 : ga4 26 = g 26 := by rw [e4, e3, e2, e1]; rfl
    clear e1 e2 e3 e4 x31 x33 i1 i2 i3
    refine Ex.cb (uX12_copies_15_1 fu hfu ga4 L) (fun _ gb1 L1 hc1 => ?_)
    refine Ex.cb (uX12_copies_16_2 fu hfu gb1 L1) (fun _ gb2 L2 hc2 => ?_)
    refine Ex.cb (uX12_copies_17_3 fu hfu gb2 L2) (fun _ gb3 L3 hc3 => ?_)
    refine Ex.cb (uX12_copies_18_4 fu hfu gb3 L3) (fun _ gb4 L4 hc4 => ?_)
    refine Ex.cb (uX12_copies_19_5 fu hfu gb4 L4) (fun _ gb5 L5 hc5 => ?_)
    refine Ex.cb (uX12_copies_20_6 fu hfu gb5 L5) (fun _ gb6 L6 hc6 => ?_)
    refine Ex.cb (uX12_copies_21_7 fu hfu gb6 L6) (fun _ gb7 L7 hc7 => ?_)
    refine Ex.cb (uX12_copies_22_8 fu hfu gb7 L7) (fun _ gb8 L8 hc8 => ?_)
    refine Ex.cb (uX12_copies_23_9 fu hfu gb8 L8) (fun _ gb9 L9 hc9 => ?_)
    refine Ex.cb (uX12_copies_24_12 fu hfu gb9 L9) (fun _ gb10 L10 hc10 => ?_)
    refine Ex.cb (uX12_copies_25_10 fu hfu gb10 L10) (fun _ gb11 L11 hc11 => ?_)
    refine Ex.cb (uX12_copies_26_11 fu hfu gb11 L11) (fun _ gb12 L12 hc12 => ?_)
    have j1 : zI MT gb1 := by rw [hc1]; exact zI_cpd i4 (fun _ _ => Or.inl rfl)
    have j2 : zI MT gb2 := by rw [hc2]; exact zI_cpd j1 (fun _ _ => Or.inl rfl)
    have j3 : zI MT gb3 := by rw [hc3]; exact zI_cpd j2 (fun _ _ => Or.inl rfl)
    have j4 : zI MT gb4 := by rw [hc4]; exact zI_cpd j3 (fun _ _ => Or.inl rfl)
    have j5 : zI MT gb5 := by rw [hc5]; exact zI_cpd j4 (fun _ _ => Or.inl rfl)
    have j6 : zI MT gb6 := by rw [hc6]; exact zI_cpd j5 (fun _ _ => Or.inl rfl)
    have j7 : zI MT gb7 := by rw [hc7]; exact zI_cpd j6 (fun _ _ => Or.inl rfl)
    have j8 : zI MT gb8 := by rw [hc8]; exact zI_cpd j7 (fun _ _ => Or.inl rfl)
    have j9 : zI MT gb9 := by rw [hc9]; exact zI_cpd j8 (fun _ _ => Or.inl rfl)
    have j10 : zI MT gb10 := by rw [hc10]; exact zI_cpd j9 (fun _ _ => Or.inl rfl)
    have j11 : zI MT gb11 := by rw [hc11]; exact zI_cpd j10 (fun _ _ => Or.inl rfl)
    have j12 : zI MT gb12 := by rw [hc12]; exact zI_cpd j11 (fun _ _ => Or.inl rfl)
    have w0 : gb12 0 = ga4 0 := by
      rw [hc12, cpd_ne (by decide), hc11, cpd_ne (by decide), hc10, cpd_ne (by decide), hc9, cpd_ne (by decide), hc8, cpd_ne (by decide), hc7, cpd_ne (by decide), hc6, cpd_ne (by decide), hc5, cpd_ne (by decide), hc4, cpd_ne (by decide), hc3, cpd_ne (by decide), hc2, cpd_ne (by decide), hc1, cpd_ne (by decide)]
    have w5 : ∀ j, j < 12 → gb12 5 j = g 19 j := by
      intro j hj
      rw [hc12, cpd_ne (by decide), hc11, cpd_ne (by decide), hc10, cpd_ne (by decide), hc9, cpd_ne (by decide), hc8, cpd_ne (by decide), hc7, cpd_ne (by decide), hc6, cpd_ne (by decide), hc5, cpd_at hj, hc4, cpd_ne (by decide), hc3, cpd_ne (by decide), hc2, cpd_ne (by decide), hc1, cpd_ne (by decide), y19]
    have w6 : ∀ j, j < 12 → gb12 6 j = g 20 j := by
      intro j hj
      rw [hc12, cpd_ne (by decide), hc11, cpd_ne (by decide), hc10, cpd_ne (by decide), hc9, cpd_ne (by decide), hc8, cpd_ne (by decide), hc7, cpd_ne (by decide), hc6, cpd_at hj, hc5, cpd_ne (by decide), hc4, cpd_ne (by decide), hc3, cpd_ne (by decide), hc2, cpd_ne (by decide), hc1, cpd_ne (by decide), y20]
    have w8 : ∀ j, j < 12 → gb12 8 j = g 22 j := by
      intro j hj
      rw [hc12, cpd_ne (by decide), hc11, cpd_ne (by decide), hc10, cpd_ne (by decide), hc9, cpd_ne (by decide), hc8, cpd_at hj, hc7, cpd_ne (by decide), hc6, cpd_ne (by decide), hc5, cpd_ne (by decide), hc4, cpd_ne (by decide), hc3, cpd_ne (by decide), hc2, cpd_ne (by decide), hc1, cpd_ne (by decide), y22]
    have w10 : ∀ j, j < 4 → gb12 10 j = g 25 j := by
      intro j hj
      rw [hc12, cpd_ne (by decide), hc11, cpd_at hj, hc10, cpd_ne (by decide), hc9, cpd_ne (by decide), hc8, cpd_ne (by decide), hc7, cpd_ne (by decide), hc6, cpd_ne (by decide), hc5, cpd_ne (by decide), hc4, cpd_ne (by decide), hc3, cpd_ne (by decide), hc2, cpd_ne (by decide), hc1, cpd_ne (by decide), y25]
    have w11 : ∀ j, j < 1900 → gb12 11 j = g 26 j := by
      intro j hj
      rw [hc12, cpd_at hj, hc11, cpd_ne (by decide), hc10, cpd_ne (by decide), hc9, cpd_ne (by decide), hc8, cpd_ne (by decide), hc7, cpd_ne (by decide), hc6, cpd_ne (by decide), hc5, cpd_ne (by decide), hc4, cpd_ne (by decide), hc3, cpd_ne (by decide), hc2, cpd_ne (by decide), hc1, cpd_ne (by decide), y26]
    clear hc1 hc2 hc3 hc4 hc5 hc6 hc7 hc8 hc9 hc10 hc11 hc12 j1 j2 j3 j4 j5 j6 j7 j8 j9 j10 j11 y19 y20 y22 y25 y26
    have w1 : gb12 0 1 = g 0 30 := by rw [w0]; exact y1
    have w2 : gb12 0 2 = g 0 31 := by rw [w0]; exact y2
    have w18 : gb12 0 18 = 0 := by rw [w0]; exact y18
    refine Ex.sti (j12.upd (lo := -1) (hi := 3) rfl (by decide) (by decide)) (fun gc1 f1 k1 => ?_)
    refine Ex.sti (k1.upd (lo := 0) (hi := 40) rfl (by decide) (by decide)) (fun gc2 f2 k2 => ?_)
    refine Ex.sti (k2.upd (lo := 0) (hi := 8) rfl (by decide) (by decide)) (fun gc3 f3 k3 => ?_)
    refine Ex.sti (k3.upd (lo := 0) (hi := 1) rfl (by decide) (by decide)) (fun gc4 f4 k4 => ?_)
    refine Ex.sti (k4.upd (lo := 0) (hi := 1) rfl (by decide) (by decide)) (fun gc5 f5 k5 => Ex.ret ?_)
    have v1 : gc5 0 1 = g 0 30 := by rw [f5, f4, f3, f2, f1]; exact w1
    have v2 : gc5 0 2 = g 0 31 := by rw [f5, f4, f3, f2, f1]; exact w2
    have v18 : gc5 0 18 = 0 := by rw [f5, f4, f3, f2, f1]; exact w18
    have v52 : gc5 0 52 = -1 := by rw [f5, f4, f3, f2, f1]; rfl
    have v62 : gc5 0 62 = 0 := by rw [f5, f4, f3, f2]; rfl
    have v73 : gc5 0 73 = 0 := by rw [f5, f4, f3]; rfl
    have v81 : gc5 0 81 = 0 := by rw [f5]; exact upd2_at
    have va : ∀ k, k ≠ 0 → gc5 k = gb12 k := by
      intro k hk
      rw [f5, f4, f3, f2, f1]
      funext j
      rw [upd2_nk hk, upd2_nk hk, upd2_nk hk, upd2_nk hk, upd2_nk hk]
    refine ⟨k5, ⟨?_, ?_, ?_, ?_, ?_, fun h => absurd (by rw [v81]; rfl) h⟩, fun _ _ => by rw [v18]; rfl, fun h => by omega⟩
    · rw [v1, va 5 (by decide), va 6 (by decide), va 8 (by decide)]
      intro i hi
      rw [w5 i (by omega), w6 i (by omega), w8 i (by omega)]
      exact d1 i hi
    · rw [v52, v2]; show (-1 : Int) < _; omega
    · rw [v62]; intro i hi; exact absurd hi (by show ¬ (i : Int) < 0; omega)
    · rw [v73]; intro i hi; exact absurd hi (by show ¬ (i : Int) < 0; omega)
    · rw [v2, va 10 (by decide), va 11 (by decide)]
      intro r hr
      rw [w10 r (by omega)]
      obtain ⟨z1, z2⟩ := d2 r hr
      obtain ⟨n, z3, z4⟩ := cl_wf (by show (g 0 35).toInt.toNat ≤ 1900; omega) z2
      exact ⟨z1, n, z3, wf_c w11 z4⟩
  refine e_good (fun hgg => ?_) (fun _ => fin)
  refine Ex.ite (fun _ => fin) (fun _ => ?_)
  refine Ex.cb (sX12_line fu hfu g L h1 h3 hgg (h4 hgg)) (fun _ gl Ll hl => ?_)
  refine ih (gl, Ll) ⟨hl.1, h2.tr hl.2.1, hl.2.2.1, fun hb => (hl.2.2.2 hb).2⟩ (mm_lt h1 hgg (fun hb => (hl.2.2.2 hb).1)) ?_
  show 0 < mm g
  rw [mm_g hgg]; omega
end
section
/-! ===== tokens, as functions of the bytes ===== -/
def kd (c : Int) : Int := if 97 ≤ c ∧ c ≤ 122 then 2 else if 48 ≤ c ∧ c ≤ 57 then 1 else if c = 59 ∨ c = 40 ∨ c = 41 ∨ c = 43 ∨ c = 45 ∨ c = 42 ∨ c = 47 ∨ c = 60 ∨ c = 61 then 3 else 4
theorem kd_l {c : Int} (h : 97 ≤ c ∧ c ≤ 122) : kd c = 2 := if_pos h
theorem kd_d {c : Int} (h : 48 ≤ c ∧ c ≤ 57) : kd c = 1 := by unfold kd; rw [if_neg (by omega), if_pos h]
theorem kd_s {c : Int} (h : c = 59 ∨ c = 40 ∨ c = 41 ∨ c = 43 ∨ c = 45 ∨ c = 42 ∨ c = 47 ∨ c = 60 ∨ c = 61) : kd c = 3 := by unfold kd; rw [if_neg (by omega), if_neg (by omega), if_pos h]
theorem kd_b {c : Int} (h1 : ¬ (97 ≤ c ∧ c ≤ 122)) (h2 : ¬ (48 ≤ c ∧ c ≤ 57)) (h3 : ¬ (c = 59 ∨ c = 40 ∨ c = 41 ∨ c = 43 ∨ c = 45 ∨ c = 42 ∨ c = 47 ∨ c = 60 ∨ c = 61)) : kd c = 4 := by unfold kd; rw [if_neg h1, if_neg h2, if_neg h3]
theorem kd_rg (c : Int) : 1 ≤ kd c ∧ kd c ≤ 4 := by unfold kd; split <;> (try split) <;> (try split) <;> omega
theorem kd_2 {c : Int} (h : kd c = 2) : 97 ≤ c ∧ c ≤ 122 := by
  unfold kd at h
  by_cases c1 : 97 ≤ c ∧ c ≤ 122
  · exact c1
  · rw [if_neg c1] at h
    split at h
    · omega
    · split at h <;> omega
theorem kd_1 {c : Int} (h : kd c = 1) : 48 ≤ c ∧ c ≤ 57 := by
  unfold kd at h
  by_cases c1 : 97 ≤ c ∧ c ≤ 122
  · rw [if_pos c1] at h; omega
  · rw [if_neg c1] at h
    by_cases c2 : 48 ≤ c ∧ c ≤ 57
    · exact c2
    · rw [if_neg c2] at h; split at h <;> omega
def skF (b : Nat → Int32) (n : Nat) : Nat → Nat → Nat
  | 0, p => p
  | f + 1, p => if p < n ∧ ((b p).toInt = 32 ∨ (b p).toInt = 10) then skF b n f (p + 1) else p
/-- the first place from p on that is not blank -/
def sk (b : Nat → Int32) (n p : Nat) : Nat := skF b n (n - p) p
theorem sk_b {b : Nat → Int32} {n p : Nat} (h : p < n) (hb : (b p).toInt = 32 ∨ (b p).toInt = 10) : sk b n p = sk b n (p + 1) := by
  unfold sk
  rw [show n - p = (n - (p + 1)) + 1 by omega]
  exact if_pos ⟨h, hb⟩
theorem sk_n {b : Nat → Int32} {n p : Nat} (h : ¬ (p < n ∧ ((b p).toInt = 32 ∨ (b p).toInt = 10))) : sk b n p = p := by
  unfold sk
  cases n - p with
  | zero => rfl
  | succ f => exact if_neg h
theorem skF_le {b : Nat → Int32} {n : Nat} : ∀ {f p : Nat}, p ≤ n → p ≤ skF b n f p ∧ skF b n f p ≤ n := by
  intro f
  induction f with
  | zero => intro p h; exact ⟨Nat.le_refl _, h⟩
  | succ f ih =>
    intro p h
    unfold skF
    split
    · rename_i c
      have := ih (p := p + 1) (by omega)
      omega
    · exact ⟨Nat.le_refl _, h⟩
theorem sk_le {b : Nat → Int32} {n p : Nat} (h : p ≤ n) : p ≤ sk b n p ∧ sk b n p ≤ n := skF_le h
def rF (b : Nat → Int32) (n : Nat) (c : Int) : Nat → Nat → Nat
  | 0, p => p
  | f + 1, p => if p < n ∧ kd (b p).toInt = c then rF b n c f (p + 1) else p
/-- where a run of signs of one kind ends -/
def rE (b : Nat → Int32) (n : Nat) (c : Int) (p : Nat) : Nat := rF b n c (n - p) p
theorem rE_s {b : Nat → Int32} {n p : Nat} {c : Int} (h : p < n) (hb : kd (b p).toInt = c) : rE b n c p = rE b n c (p + 1) := by
  unfold rE
  rw [show n - p = (n - (p + 1)) + 1 by omega]
  exact if_pos ⟨h, hb⟩
theorem rE_n {b : Nat → Int32} {n p : Nat} {c : Int} (h : ¬ (p < n ∧ kd (b p).toInt = c)) : rE b n c p = p := by
  unfold rE
  cases n - p with
  | zero => rfl
  | succ f => exact if_neg h
theorem rF_le {b : Nat → Int32} {n : Nat} {c : Int} : ∀ {f p : Nat}, p ≤ n → p ≤ rF b n c f p ∧ rF b n c f p ≤ n := by
  intro f
  induction f with
  | zero => intro p h; exact ⟨Nat.le_refl _, h⟩
  | succ f ih =>
    intro p h
    unfold rF
    split
    · rename_i c
      have := ih (p := p + 1) (by omega)
      omega
    · exact ⟨Nat.le_refl _, h⟩
theorem rE_le {b : Nat → Int32} {n p : Nat} {c : Int} (h : p ≤ n) : p ≤ rE b n c p ∧ rE b n c p ≤ n := rF_le h
/-- all signs of the run are of the kind -/
theorem rF_all {b : Nat → Int32} {n : Nat} {c : Int} : ∀ {f p i : Nat}, p ≤ i → i < rF b n c f p → kd (b i).toInt = c := by
  intro f
  induction f with
  | zero => intro p i h1 h2; have h2 : i < p := h2; omega
  | succ f ih =>
    intro p i h1 h2
    unfold rF at h2
    split at h2
    · rename_i hc
      by_cases e : i = p
      · subst e; exact hc.2
      · exact ih (p := p + 1) (by omega) h2
    · omega
theorem rE_all {b : Nat → Int32} {n p i : Nat} {c : Int} (h1 : p ≤ i) (h2 : i < rE b n c p) : kd (b i).toInt = c := rF_all h1 h2
def vl (b : Nat → Int32) (P : Nat) : Nat → Int
  | 0 => 0
  | k + 1 => if k < 4 then 10 * vl b P k + (b (P + k)).toInt - 48 else vl b P k
theorem vl_s {b : Nat → Int32} {P k : Nat} (h : k < 4) : vl b P (k + 1) = 10 * vl b P k + (b (P + k)).toInt - 48 := if_pos h
theorem vl_e {b : Nat → Int32} {P k : Nat} (h : ¬ k < 4) : vl b P (k + 1) = vl b P k := if_neg h
def vb (k : Nat) : Int := if k = 0 then 0 else if k = 1 then 9 else if k = 2 then 99 else if k = 3 then 999 else 9999
theorem vl_b {b : Nat → Int32} {P : Nat} : ∀ {k : Nat}, (∀ i, i < k → 48 ≤ (b (P + i)).toInt ∧ (b (P + i)).toInt ≤ 57) → 0 ≤ vl b P k ∧ vl b P k ≤ vb k := by
  intro k
  induction k with
  | zero => intro _; exact ⟨Int.le_refl _, Int.le_refl _⟩
  | succ k ih =>
    intro h
    have h1 := ih (fun i hi => h i (by omega))
    have h2 := h k (by omega)
    by_cases hk : k < 4
    · rw [vl_s hk]
      generalize (b (P + k)).toInt = x at h2 ⊢
      unfold vb at h1 ⊢
      rcases (by omega : k = 0 ∨ k = 1 ∨ k = 2 ∨ k = 3) with rfl | rfl | rfl | rfl <;> simp at h1 ⊢ <;> omega
    · rw [vl_e hk]
      unfold vb at h1 ⊢
      rw [if_neg (by omega), if_neg (by omega), if_neg (by omega)]
      rw [if_neg (by omega), if_neg (by omega), if_neg (by omega)] at h1
      split at h1 <;> omega
theorem vb_le (k : Nat) : vb k ≤ 9999 := by unfold vb; split <;> (try split) <;> (try split) <;> (try split) <;> omega
def pI (b : Nat → Int32) (P : Nat) : Nat → Int
  | 0 => 0
  | k + 1 => if k < 6 then 32 * pI b P k + ((b (P + k)).toInt - 96) else pI b P k
theorem pI_s {b : Nat → Int32} {P k : Nat} (h : k < 6) : pI b P (k + 1) = 32 * pI b P k + ((b (P + k)).toInt - 96) := if_pos h
theorem pI_e {b : Nat → Int32} {P k : Nat} (h : ¬ k < 6) : pI b P (k + 1) = pI b P k := if_neg h
theorem pI_b {b : Nat → Int32} {P : Nat} : ∀ {k : Nat}, (∀ i, i < k → 97 ≤ (b (P + i)).toInt ∧ (b (P + i)).toInt ≤ 122) → 0 ≤ pI b P k ∧ pI b P k < 1073741824 ∧ (k < 6 → pI b P k < 33554432) ∧ (k < 5 → pI b P k < 1048576) ∧ (k < 4 → pI b P k < 32768) ∧ (k < 3 → pI b P k < 1024) ∧ (k < 2 → pI b P k < 32) ∧ (k < 1 → pI b P k < 1) := by
  intro k
  induction k with
  | zero =>
    intro _
    have e : pI b P 0 = 0 := rfl
    rw [e]; omega
  | succ k ih =>
    intro h
    have h1 := ih (fun i hi => h i (by omega))
    have h2 := h k (by omega)
    by_cases hk : k < 6
    · rw [pI_s hk]
      omega
    · rw [pI_e hk]
      omega
def tK (b : Nat → Int32) (n P : Nat) : Int := if P < n then kd (b P).toInt else 0
def tE (b : Nat → Int32) (n P : Nat) : Nat := if P < n then (if kd (b P).toInt = 1 ∨ kd (b P).toInt = 2 then rE b n (kd (b P).toInt) P else P + 1) else P
def tV (b : Nat → Int32) (n P : Nat) : Int := if tK b n P = 1 then vl b P (tE b n P - P) else 0
theorem tK_lt {b : Nat → Int32} {n P : Nat} (h : P < n) : tK b n P = kd (b P).toInt := if_pos h
theorem tK_ge {b : Nat → Int32} {n P : Nat} (h : ¬ P < n) : tK b n P = 0 := if_neg h
theorem tK_rg (b : Nat → Int32) (n P : Nat) : 0 ≤ tK b n P ∧ tK b n P ≤ 4 := by
  unfold tK
  have := kd_rg (b P).toInt
  split <;> omega
theorem tK_n0 {b : Nat → Int32} {n P : Nat} (h : tK b n P ≠ 0) : P < n := by
  by_cases c : P < n
  · exact c
  · exact absurd (tK_ge c) h
theorem tE_r {b : Nat → Int32} {n P : Nat} (h : P < n) (hk : kd (b P).toInt = 1 ∨ kd (b P).toInt = 2) : tE b n P = rE b n (kd (b P).toInt) P := by unfold tE; rw [if_pos h, if_pos hk]
theorem tE_1 {b : Nat → Int32} {n P : Nat} (h : P < n) (hk : ¬ (kd (b P).toInt = 1 ∨ kd (b P).toInt = 2)) : tE b n P = P + 1 := by unfold tE; rw [if_pos h, if_neg hk]
theorem tE_e {b : Nat → Int32} {n P : Nat} (h : ¬ P < n) : tE b n P = P := if_neg h
theorem tE_le {b : Nat → Int32} {n P : Nat} (h : P ≤ n) : P ≤ tE b n P ∧ tE b n P ≤ n ∧ (P < n → P < tE b n P) := by
  by_cases c : P < n
  · by_cases hk : kd (b P).toInt = 1 ∨ kd (b P).toInt = 2
    · rw [tE_r c hk, rE_s c rfl]
      have := rE_le (b := b) (n := n) (p := P + 1) (c := kd (b P).toInt) (by omega)
      omega
    · rw [tE_1 c hk]; omega
  · rw [tE_e c]; omega
theorem tE_all {b : Nat → Int32} {n P i : Nat} (hk : tK b n P = 1 ∨ tK b n P = 2) (h1 : P ≤ i) (h2 : i < tE b n P) : kd (b i).toInt = tK b n P := by
  have c : P < n := tK_n0 (b := b) (by omega)
  rw [tK_lt c] at hk ⊢
  rw [tE_r c hk] at h2
  exact rE_all h1 h2
/-- everything here depends on the bytes before n alone -/
theorem skF_c {b b' : Nat → Int32} {n : Nat} (hb : ∀ j, j < n → b' j = b j) : ∀ {f p : Nat}, skF b' n f p = skF b n f p := by
  intro f
  induction f with
  | zero => intro p; rfl
  | succ f ih =>
    intro p
    unfold skF
    by_cases c : p < n
    · rw [hb p c, ih]
    · rw [if_neg (by omega), if_neg (by omega)]
theorem sk_c {b b' : Nat → Int32} {n p : Nat} (hb : ∀ j, j < n → b' j = b j) : sk b' n p = sk b n p := skF_c hb
theorem rF_c {b b' : Nat → Int32} {n : Nat} {c : Int} (hb : ∀ j, j < n → b' j = b j) : ∀ {f p : Nat}, rF b' n c f p = rF b n c f p := by
  intro f
  induction f with
  | zero => intro p; rfl
  | succ f ih =>
    intro p
    unfold rF
    by_cases c : p < n
    · rw [hb p c, ih]
    · rw [if_neg (by omega), if_neg (by omega)]
theorem tK_c {b b' : Nat → Int32} {n P : Nat} (hb : ∀ j, j < n → b' j = b j) : tK b' n P = tK b n P := by
  unfold tK
  by_cases c : P < n
  · rw [hb P c]
  · rw [if_neg c, if_neg c]
theorem tE_c {b b' : Nat → Int32} {n P : Nat} (hb : ∀ j, j < n → b' j = b j) : tE b' n P = tE b n P := by
  unfold tE rE
  by_cases c : P < n
  · rw [hb P c, rF_c hb]
  · rw [if_neg c, if_neg c]
theorem vl_c {b b' : Nat → Int32} {P n : Nat} (hb : ∀ j, j < n → b' j = b j) : ∀ {k : Nat}, P + k ≤ n → vl b' P k = vl b P k := by
  intro k
  induction k with
  | zero => intro _; rfl
  | succ k ih => intro h; unfold vl; rw [ih (by omega), hb (P + k) (by omega)]
theorem tV_c {b b' : Nat → Int32} {n P : Nat} (hP : P ≤ n) (hb : ∀ j, j < n → b' j = b j) : tV b' n P = tV b n P := by
  have h := tE_le (b := b) hP
  unfold tV
  rw [tK_c hb, tE_c hb, vl_c hb (by omega)]
end
section
/-! ===== the class's parser: the reading of signs, as a function of the bytes ===== -/
def FX (A B : List Nat) (g g' : gT) : Prop := (∀ j, j ∉ A → g' 5 j = g 5 j) ∧ (∀ k, k ≠ 5 → k ∉ B → g' k = g k)
theorem FX.refl {A B : List Nat} {g : gT} : FX A B g g := ⟨fun _ _ => rfl, fun _ _ _ => rfl⟩
theorem FX.tr {A B : List Nat} {g1 g2 g3 : gT} (h1 : FX A B g1 g2) (h2 : FX A B g2 g3) : FX A B g1 g3 := ⟨fun j hj => (h2.1 j hj).trans (h1.1 j hj), fun k h0 hk => (h2.2 k h0 hk).trans (h1.2 k h0 hk)⟩
theorem FX.mo {A B A' B' : List Nat} {g g' : gT} (h : FX A B g g') (hA : ∀ j ∈ A, j ∈ A') (hB : ∀ k ∈ B, k ∈ B') : FX A' B' g g' := ⟨fun j hj => h.1 j (fun h => hj (hA j h)), fun k h0 hk => h.2 k h0 (fun h => hk (hB k h))⟩
theorem FX.u5 {A B : List Nat} {g g' : gT} {j : Nat} {x : Int32} (h : FX A B g g') (hj : j ∈ A) : FX A B g (upd2 g' 5 j x) := ⟨fun i hi => (upd2_nj (show i ≠ j from fun e => hi (by rw [e]; exact hj))).trans (h.1 i hi), fun k h0 hk => (funext fun i => upd2_nk h0).trans (h.2 k h0 hk)⟩
theorem FX.uk {A B : List Nat} {g g' : gT} {k j : Nat} {x : Int32} (h : FX A B g g') (h0 : k ≠ 5) (hk : k ∈ B) : FX A B g (upd2 g' k j x) := ⟨fun i hi => (upd2_nk (Ne.symm h0)).trans (h.1 i hi), fun k' h0' hk' => (funext fun i => upd2_nk (show k' ≠ k from fun e => hk' (by rw [e]; exact hk))).trans (h.2 k' h0' hk')⟩
theorem FX.i {A B : List Nat} {g g' : gT} (h : FX A B g g') {j : Nat} (hj : j ∉ A) : (g' 5 j).toInt = (g 5 j).toInt := congrArg Int32.toInt (h.1 j hj)
theorem e_kind {ρ : Type} {Q : ρ → gT → lT → Prop} {g : gT} {L : lT} {fu : Nat} {x : Int32} {K : Int32 → gT → lT → Option (ρ × zS)} (h : ∀ r : Int32, r.toInt = kd x.toInt → Ex (K r g L) Q) : Ex (cb (fX6_kindOf fu x g L) K) Q := by
  have e : ∃ r : Int32, r.toInt = kd x.toInt ∧ fX6_kindOf fu x g L = some (r, (g, L)) := by
    have e28 : ¬ (97 ≤ x.toInt ∧ x.toInt ≤ 122) → ¬ (48 ≤ x.toInt ∧ x.toInt ≤ 57) → ∃ r : Int32, r.toInt = kd x.toInt ∧ fX6_kindOf_p28 fu x g L = some (r, (g, L)) := by
      intro h1 h2
      by_cases hs : x.toInt = 59 ∨ x.toInt = 40 ∨ x.toInt = 41 ∨ x.toInt = 43 ∨ x.toInt = 45 ∨ x.toInt = 42 ∨ x.toInt = 47 ∨ x.toInt = 60 ∨ x.toInt = 61
      · refine ⟨3, (kd_s hs).symm ▸ rfl, ?_⟩
        unfold fX6_kindOf_p28
        rcases hs with hs | hs | hs | hs | hs | hs | hs | hs | hs <;> rw [hs] <;> rfl
      · refine ⟨4, (kd_b h1 h2 hs).symm ▸ rfl, ?_⟩
        unfold fX6_kindOf_p28
        have e : ∀ (p : Prop) [Decidable p] (A : Option (Int32 × zS)), A = some (4, (g, L)) → (if p then some (4, (g, L)) else A) = some (4, (g, L)) := by
          intro p _ A hA
          split
          · rfl
          · exact hA
        rw [if_neg (by omega), if_neg (by omega), if_neg (by omega), if_neg (by omega)]
        refine e _ _ ?_
        rw [if_neg (by omega)]
        refine e _ _ ?_
        rw [if_neg (by omega)]
        iterate 11 refine e _ _ ?_
        rw [if_neg (by omega), if_neg (by omega), if_neg (by omega)]
    unfold fX6_kindOf fX6_kindOf_p14
    split
    · rename_i c1
      have c1 := icc_lt (m := x.toInt) (n := 97) rfl (by decide) c1
      split
      · rename_i c2
        have c2 := icc_lt (m := x.toInt) (n := 48) rfl (by decide) c2
        exact e28 (by omega) (by omega)
      · rename_i c2
        have c2 := icc_nlt (m := x.toInt) (n := 48) rfl (by decide) c2
        split
        · rename_i c3
          have c3 := icc_lt (m := 57) (n := x.toInt) (by decide) rfl c3
          exact e28 (by omega) (by omega)
        · rename_i c3
          have c3 := icc_nlt (m := 57) (n := x.toInt) (by decide) rfl c3
          exact ⟨1, (kd_d ⟨c2, c3⟩).symm ▸ rfl, rfl⟩
    · rename_i c1
      have c1 := icc_nlt (m := x.toInt) (n := 97) rfl (by decide) c1
      split
      · rename_i c4
        have c4 := icc_lt (m := 122) (n := x.toInt) (by decide) rfl c4
        split
        · exact e28 (by omega) (by omega)
        · split
          · exact e28 (by omega) (by omega)
          · rename_i c3
            have c3 := icc_nlt (m := 57) (n := x.toInt) (by decide) rfl c3
            omega
      · rename_i c4
        have c4 := icc_nlt (m := 122) (n := x.toInt) (by decide) rfl c4
        exact ⟨2, (kd_l ⟨c1, c4⟩).symm ▸ rfl, rfl⟩
  obtain ⟨r, h1, h2⟩ := e
  rw [h2]; exact h r h1
abbrev xN (g : gT) : Nat := (g 5 2).toInt.toNat
/-- the sign that stands at place P is the one that was read last -/
def xT (g : gT) (P : Nat) : Prop := (g 5 5).toInt = (P : Int) ∧ (g 5 4).toInt = tK (g 14) (xN g) P ∧ (g 5 3).toInt = (tE (g 14) (xN g) P : Int) ∧ (g 5 6).toInt = tV (g 14) (xN g) P
def XA (g g1 : gT) : Prop := zI XT g1 ∧ FX [3, 4, 5, 6] [] g g1 ∧ xT g1 (sk (g 14) (xN g) (g 5 3).toInt.toNat)
set_option maxHeartbeats 4000000 in
theorem tX6_advance (fu : Nat) (hfu : 1180591620717411303424 ≤ fu) (g0 : gT) (L0 : lT) (hI : zI XT g0) (hk : (g0 5 4).toInt ≠ 5) (hn : (g0 5 3).toInt ≤ (g0 5 2).toInt) : Ex (fX6_advance_5 fu g0 L0) (fun (_ : Unit) g1 L1 => XA g0 g1) := by
  generalize hb : g0 14 = b
  generalize hN : xN g0 = n
  have q2 := hI 5 2 0 700 rfl
  have q3 := hI 5 3 0 700 rfl
  have hNi : (n : Int) = (g0 5 2).toInt := by rw [← hN]; show (((g0 5 2).toInt.toNat : Nat) : Int) = _; omega
  -- the end
  have fin : ∀ (g : gT) (L : lT) (P : Nat), zI XT g → FX [3, 4, 5, 6] [] g0 g → P = sk b n (g0 5 3).toInt.toNat → (g 5 5).toInt = (P : Int) → (g 5 4).toInt = tK b n P → (g 5 3).toInt = (tE b n P : Int) → (g 5 6).toInt = tV b n P → Ex (some ((), (g, L))) (fun (_ : Unit) g1 L1 => XA g0 g1) := by
    intro g L P h1 h2 h3 h4 h5 h6 h7
    have e14 : g 14 = b := by rw [← hb]; exact h2.2 14 (by decide) (by decide)
    have eN : xN g = n := by rw [← hN]; show (g 5 2).toInt.toNat = (g0 5 2).toInt.toNat; rw [h2.i (by decide)]
    refine Ex.ret ⟨h1, h2, ?_⟩
    unfold xT
    rw [e14, eN, hb, hN, ← h3]
    exact ⟨h4, h5, h6, h7⟩
  -- the rest of a word or of a number
  have P134 : ∀ (g : gT) (L : lT) (P : Nat), zI XT g → FX [3, 4, 5, 6] [] g0 g → P = sk b n (g0 5 3).toInt.toNat → P < n → (g 5 5).toInt = (P : Int) → (g 5 4).toInt = kd (b P).toInt → (kd (b P).toInt = 1 ∨ kd (b P).toInt = 2) → (g 5 3).toInt = (P : Int) → (g 5 6).toInt = 0 → Ex (fX6_advance_5_l134 fu g L) (fun (_ : Unit) g1 L1 => XA g0 g1) := by
    intro g L P h1 h2 h3 hP h4 h5 hk h6 h7
    generalize hc : kd (b P).toInt = c at h5 hk
    unfold fX6_advance_5_l134
    refine Ex.loop (α := gT × lT) (fun v => ∃ q : Nat, zI XT v.1 ∧ FX [3, 4, 5, 6] [] g0 v.1 ∧ (v.1 5 5).toInt = (P : Int) ∧ (v.1 5 4).toInt = c ∧ (v.1 5 3).toInt = (q : Int) ∧ P ≤ q ∧ q ≤ n ∧ rE b n c P = rE b n c q ∧ (∀ i, P ≤ i → i < q → kd (b i).toInt = c) ∧ (v.1 5 6).toInt = (if c = 1 then vl b P (q - P) else 0)) (fun v => 701 - (v.1 5 3).toInt) (by omega) (by show 701 - (g 5 3).toInt < (fu : Int); omega) ⟨P, h1, h2, h4, h5, h6, Nat.le_refl _, by omega, rfl, fun i h8 h9 => by omega, by rw [Nat.sub_self]; show (g 5 6).toInt = _; rw [h7]; split <;> rfl⟩ (fun k134 v hv ih => ?_)
    clear h1 h2 h4 h5 h6 h7 g L
    obtain ⟨g, L⟩ := v
    obtain ⟨q, h1, h2, h4, h5, h6, h7, h8, h9, h10, h11⟩ := hv
    have h1 : zI XT g := h1
    have h2 : FX [3, 4, 5, 6] [] g0 g := h2
    have h4 : (g 5 5).toInt = (P : Int) := h4
    have h5 : (g 5 4).toInt = c := h5
    have h6 : (g 5 3).toInt = (q : Int) := h6
    have h11 : (g 5 6).toInt = (if c = 1 then vl b P (q - P) else 0) := h11
    have e14 : g 14 = b := by rw [← hb]; exact h2.2 14 (by decide) (by decide)
    have e2 := h2.i (j := 2) (by decide)
    show Ex (fX6_advance_5_s134 fu k134 g L) _
    unfold fX6_advance_5_s134 fX6_advance_5_p222
    have stop : ¬ (q < n ∧ kd (b q).toInt = c) → Ex (some ((), (g, L))) (fun (_ : Unit) g1 L1 => XA g0 g1) := by
      intro hs
      have hE : tE b n P = q := by rw [tE_r hP (by rw [hc]; exact hk), hc, h9, rE_n hs]
      have hKt : tK b n P = c := by rw [tK_lt hP, hc]
      refine fin g L P h1 h2 h3 h4 (by rw [hKt]; exact h5) (by rw [hE]; exact h6) ?_
      unfold tV
      rw [hKt, hE]; exact h11
    refine Ex.ite (fun c1 => stop ?_) (fun c1 => ?_)
    · have c1 := icc_le (m := (g 5 2).toInt) (n := (g 5 3).toInt) rfl rfl c1
      omega
    have c1 := icc_nle (m := (g 5 2).toInt) (n := (g 5 3).toInt) rfl rfl c1
    have hq : q < n := by omega
    have eq : (g 5 3).toNatClampNeg = q := by rw [nc, h6]; omega
    rw [eq, e14]
    refine Ex.ck (by omega) (by omega) ?_
    refine e_kind (fun r hr => ?_)
    refine Ex.ite (fun c2 => ?_) (fun c2 => stop ?_)
    rotate_left
    · have c2 := icc_neq (m := r.toInt) (n := (g 5 4).toInt) rfl rfl c2
      omega
    have c2 := icc_eq (m := r.toInt) (n := (g 5 4).toInt) rfl rfl c2
    have hkq : kd (b q).toInt = c := by omega
    -- the next sign
    have P209 : ∀ (g1 : gT), zI XT g1 → FX [6] [] g g1 → (g1 5 6).toInt = (if c = 1 then vl b P (q + 1 - P) else 0) → Ex (fX6_advance_5_p209 fu k134 g1 L) (fun (_ : Unit) g1 L1 => XA g0 g1) := by
      intro g1 k1 k2 k3
      have r3 : g1 5 3 = g 5 3 := k2.1 3 (by decide)
      unfold fX6_advance_5_p209
      rw [r3]
      generalize hw : (g 5 3) + 1 = w
      have ew : w.toInt = (g 5 3).toInt + 1 := by rw [← hw]; exact ic_addc rfl (by decide) (by omega) (by omega)
      refine Ex.sti (k1.upd (lo := 0) (hi := 700) rfl (by omega) (by omega)) (fun ga gae hIa => ?_)
      have hFa : FX [3, 6] [] g ga := by rw [gae]; exact (k2.mo (by decide) (by decide)).u5 (by decide)
      have s3 : (ga 5 3).toInt = (g 5 3).toInt + 1 := by rw [gae, upd2_at]; exact ew
      have s6 : (ga 5 6).toInt = (g1 5 6).toInt := by rw [gae]; rfl
      refine ih (ga, L) ⟨q + 1, hIa, h2.tr (hFa.mo (by decide) (by decide)), (hFa.i (by decide)).trans h4, (hFa.i (by decide)).trans h5, ?_, by omega, by omega, by rw [h9, rE_s hq hkq], fun i hi1 hi2 => ?_, ?_⟩ ?_ ?_
      · show (ga 5 3).toInt = ((q + 1 : Nat) : Int)
        omega
      · by_cases e : i = q
        · rw [e]; exact hkq
        · exact h10 i hi1 (by omega)
      · show (ga 5 6).toInt = _
        rw [s6]; exact k3
      · show 701 - (ga 5 3).toInt < 701 - (g 5 3).toInt
        omega
      · show 0 < 701 - (g 5 3).toInt
        omega
    refine Ex.ite (fun c3 => ?_) (fun c3 => ?_)
    rotate_left
    · have c3 := icc_neq (m := (g 5 4).toInt) (n := 1) rfl (by decide) c3
      exact P209 g h1 FX.refl (by rw [h11, if_neg (by omega), if_neg (by omega)])
    have c3 := icc_eq (m := (g 5 4).toInt) (n := 1) rfl (by decide) c3
    have hc1 : c = 1 := by omega
    rw [if_pos hc1] at h11
    have hd : ∀ i, i < q - P → 48 ≤ (b (P + i)).toInt ∧ (b (P + i)).toInt ≤ 57 := fun i hi => kd_1 (by rw [h10 (P + i) (by omega) (by omega)]; exact hc1)
    have hv := vl_b hd
    have hbq := kd_1 (hkq.trans hc1)
    generalize hz : (g 5 3) - (g 5 5) = z
    have ez : z.toInt = (g 5 3).toInt - (g 5 5).toInt := by rw [← hz]; exact ic_subc rfl rfl (by omega) (by omega)
    refine Ex.ite (fun c4 => ?_) (fun c4 => ?_)
    · have c4 := icc_le (m := 4) (n := z.toInt) (by decide) rfl c4
      exact P209 g h1 FX.refl (by rw [h11, if_pos hc1, show q + 1 - P = (q - P) + 1 by omega, vl_e (by omega)])
    · have c4 := icc_nle (m := 4) (n := z.toInt) (by decide) rfl c4
      refine Ex.ck (by omega) (by omega) ?_
      have hvb : vl b P (q - P) ≤ 999 := by
        have h9 := hv.2
        unfold vb at h9
        split at h9
        · omega
        · split at h9
          · omega
          · split at h9
            · omega
            · split at h9 <;> omega
      have hvs := vl_s (b := b) (P := P) (k := q - P) (by omega)
      rw [show P + (q - P) = q by omega] at hvs
      rw [eq, e14]
      generalize hbb : b q = y at hbq hvs ⊢
      generalize hm : (g 5 6) * 10 = m
      have em : m.toInt = (g 5 6).toInt * 10 := by rw [← hm]; exact ic_mulc rfl (by decide) (by omega) (by omega)
      generalize hs : m + y = s
      have es : s.toInt = m.toInt + y.toInt := by rw [← hs]; exact ic_addc rfl rfl (by omega) (by omega)
      generalize ht : s - 48 = t
      have et : t.toInt = s.toInt - 48 := by rw [← ht]; exact ic_subc rfl (by decide) (by omega) (by omega)
      refine Ex.sti (h1.upd (lo := 0) (hi := 9999) rfl (by omega) (by omega)) (fun ga gae hIa => ?_)
      refine P209 ga hIa (by rw [gae]; exact FX.refl.u5 (by decide)) ?_
      have s6 : (ga 5 6).toInt = t.toInt := by rw [gae, upd2_at]
      rw [s6, if_pos hc1, show q + 1 - P = (q - P) + 1 by omega, hvs]
      omega
  -- a sign's beginning
  have P61 : ∀ (g : gT) (L : lT) (P : Nat), zI XT g → FX [3, 4, 5, 6] [] g0 g → P = sk b n (g0 5 3).toInt.toNat → P ≤ n → (g 5 3).toInt = (P : Int) → Ex (fX6_advance_5_p61 fu g L) (fun (_ : Unit) g1 L1 => XA g0 g1) := by
    intro g L P h1 h2 h3 hP h4
    have e2 := h2.i (j := 2) (by decide)
    unfold fX6_advance_5_p61
    refine Ex.sti (h1.upd (lo := 0) (hi := 700) rfl (by omega) (by omega)) (fun ga gae hIa => ?_)
    refine Ex.sti (hIa.upd (lo := 0) (hi := 9999) rfl (by decide) (by decide)) (fun gb gbe hIb => ?_)
    have hFb : FX [5, 6] [] g gb := by rw [gbe, gae]; exact (FX.refl.u5 (by decide)).u5 (by decide)
    have b5 : (gb 5 5).toInt = (P : Int) := by rw [gbe, gae]; exact h4
    have b6 : (gb 5 6).toInt = 0 := by rw [gbe, upd2_at]; rfl
    have b3 : gb 5 3 = g 5 3 := hFb.1 3 (by decide)
    have b2 : gb 5 2 = g 5 2 := hFb.1 2 (by decide)
    have b14 : gb 14 = b := by rw [hFb.2 14 (by decide) (by decide), ← hb]; exact h2.2 14 (by decide) (by decide)
    have h2b : FX [3, 4, 5, 6] [] g0 gb := h2.tr (hFb.mo (by decide) (by decide))
    rw [b3, b2]
    have eq : (g 5 3).toNatClampNeg = P := by rw [nc, h4]; omega
    refine Ex.ite (fun c => ?_) (fun c => ?_)
    · have c := icc_lt (m := (g 5 3).toInt) (n := (g 5 2).toInt) rfl rfl c
      have hPn : P < n := by omega
      rw [eq, b14]
      refine Ex.ck (by omega) (by omega) ?_
      refine e_kind (fun r hr => ?_)
      refine Ex.sti (hIb.updN rfl) (fun gc gce hIc => ?_)
      have hFc : FX [4, 5, 6] [] g gc := by rw [gce]; exact (hFb.mo (by decide) (by decide)).u5 (by decide)
      have c4 : gc 5 4 = r := by rw [gce]; exact upd2_at
      have c5 : (gc 5 5).toInt = (P : Int) := by rw [gce]; exact b5
      have c6 : (gc 5 6).toInt = 0 := by rw [gce]; exact b6
      have c3 : gc 5 3 = g 5 3 := hFc.1 3 (by decide)
      have h2c : FX [3, 4, 5, 6] [] g0 gc := h2.tr (hFc.mo (by decide) (by decide))
      have krg := kd_rg (b P).toInt
      rw [c4]
      have P123 : ¬ (kd (b P).toInt = 1 ∨ kd (b P).toInt = 2) → Ex (fX6_advance_5_p123 fu gc L) (fun (_ : Unit) g1 L1 => XA g0 g1) := by
        intro hk2
        unfold fX6_advance_5_p123
        rw [c3]
        generalize hw : (g 5 3) + 1 = w
        have ew : w.toInt = (g 5 3).toInt + 1 := by rw [← hw]; exact ic_addc rfl (by decide) (by omega) (by omega)
        refine Ex.sti (hIc.upd (lo := 0) (hi := 700) rfl (by omega) (by omega)) (fun gd gde hId => ?_)
        have d3 : (gd 5 3).toInt = (g 5 3).toInt + 1 := by rw [gde, upd2_at]; exact ew
        have d4 : (gd 5 4).toInt = r.toInt := by rw [gde]; show (gc 5 4).toInt = _; rw [c4]
        have d5 : (gd 5 5).toInt = (P : Int) := by rw [gde]; exact c5
        have d6 : (gd 5 6).toInt = 0 := by rw [gde]; exact c6
        refine fin gd L P hId (by rw [gde]; exact h2c.u5 (by decide)) h3 d5 (by rw [d4, hr, tK_lt hPn]) (by rw [tE_1 hPn hk2]; omega) ?_
        unfold tV
        rw [tK_lt hPn, if_neg (by omega)]; exact d6
      refine Ex.ite (fun c7 => P123 ?_) (fun c7 => ?_)
      · have c7 := icc_eq (m := r.toInt) (n := 3) rfl (by decide) c7
        omega
      refine Ex.ite (fun c8 => P123 ?_) (fun c8 => ?_)
      · have c8 := icc_eq (m := r.toInt) (n := 4) rfl (by decide) c8
        omega
      have c7 := icc_neq (m := r.toInt) (n := 3) rfl (by decide) c7
      have c8 := icc_neq (m := r.toInt) (n := 4) rfl (by decide) c8
      exact P134 gc L P hIc h2c h3 hPn c5 (by rw [c4]; exact hr) (by omega) (by rw [c3]; exact h4) c6
    · have c := icc_nlt (m := (g 5 3).toInt) (n := (g 5 2).toInt) rfl rfl c
      have hPn : ¬ P < n := by omega
      refine Ex.sti (hIb.updN rfl) (fun gc gce hIc => ?_)
      refine fin gc L P hIc (by rw [gce]; exact h2b.u5 (by decide)) h3 (by rw [gce]; exact b5) ?_ ?_ ?_
      · rw [tK_ge hPn, gce, upd2_at]; rfl
      · rw [tE_e hPn, gce]; show (gb 5 3).toInt = _; rw [b3]; exact h4
      · unfold tV; rw [tK_ge hPn, if_neg (by decide), gce]; exact b6
  unfold fX6_advance_5
  refine Ex.ite (fun c => absurd (icc_eq (m := (g0 5 4).toInt) (n := 5) rfl (by decide) c) hk) (fun _ => ?_)
  unfold fX6_advance_5_l9
  generalize hp0 : sk b n (g0 5 3).toInt.toNat = P0 at fin P134 P61
  refine Ex.loop (α := gT × lT) (fun v => ∃ q : Nat, zI XT v.1 ∧ FX [3] [] g0 v.1 ∧ (v.1 5 3).toInt = (q : Int) ∧ q ≤ n ∧ sk b n q = P0) (fun v => 701 - (v.1 5 3).toInt) (by omega) (by show 701 - (g0 5 3).toInt < (fu : Int); omega) ⟨(g0 5 3).toInt.toNat, hI, FX.refl, (show (g0 5 3).toInt = (((g0 5 3).toInt.toNat : Nat) : Int) by omega), by omega, hp0⟩ (fun k9 v hv ih => ?_)
  obtain ⟨g, L⟩ := v
  obtain ⟨q, h1, h2, h3, h4, h5⟩ := hv
  have h1 : zI XT g := h1
  have h2 : FX [3] [] g0 g := h2
  have h3 : (g 5 3).toInt = (q : Int) := h3
  have e14 : g 14 = b := by rw [← hb]; exact h2.2 14 (by decide) (by decide)
  have e2 := h2.i (j := 2) (by decide)
  show Ex (fX6_advance_5_s9 fu k9 g L) _
  unfold fX6_advance_5_s9
  have go : ¬ (q < n ∧ ((b q).toInt = 32 ∨ (b q).toInt = 10)) → Ex (fX6_advance_5_p61 fu g L) (fun (_ : Unit) g1 L1 => XA g0 g1) := fun hs => P61 g L q h1 (h2.mo (by decide) (by decide)) ((sk_n hs).symm.trans h5) h4 h3
  refine Ex.ite (fun c => go ?_) (fun c => ?_)
  · have c := icc_le (m := (g 5 2).toInt) (n := (g 5 3).toInt) rfl rfl c
    omega
  have c := icc_nle (m := (g 5 2).toInt) (n := (g 5 3).toInt) rfl rfl c
  have hq : q < n := by omega
  have eq : (g 5 3).toNatClampNeg = q := by rw [nc, h3]; omega
  have P48 : ((b q).toInt = 32 ∨ (b q).toInt = 10) → Ex (fX6_advance_5_p48 fu k9 g L) (fun (_ : Unit) g1 L1 => XA g0 g1) := by
    intro hbq
    unfold fX6_advance_5_p48
    generalize hw : (g 5 3) + 1 = w
    have ew : w.toInt = (g 5 3).toInt + 1 := by rw [← hw]; exact ic_addc rfl (by decide) (by omega) (by omega)
    refine Ex.sti (h1.upd (lo := 0) (hi := 700) rfl (by omega) (by omega)) (fun ga gae hIa => ?_)
    have s3 : (ga 5 3).toInt = (g 5 3).toInt + 1 := by rw [gae, upd2_at]; exact ew
    refine ih (ga, L) ⟨q + 1, hIa, by rw [gae]; exact h2.u5 (by decide), (show (ga 5 3).toInt = ((q + 1 : Nat) : Int) by omega), by omega, (sk_b hq hbq).symm.trans h5⟩ ?_ ?_
    · show 701 - (ga 5 3).toInt < 701 - (g 5 3).toInt
      omega
    · show 0 < 701 - (g 5 3).toInt
      omega
  rw [eq, e14]
  refine Ex.ck (by omega) (by omega) ?_
  refine Ex.ite (fun c1 => P48 (Or.inl (icc_eq (m := (b q).toInt) (n := 32) rfl (by decide) c1))) (fun c1 => ?_)
  refine Ex.ck (by omega) (by omega) ?_
  refine Ex.ite (fun c2 => P48 (Or.inr (icc_eq (m := (b q).toInt) (n := 10) rfl (by decide) c2))) (fun c2 => go ?_)
  have c1 := icc_neq (m := (b q).toInt) (n := 32) rfl (by decide) c1
  have c2 := icc_neq (m := (b q).toInt) (n := 10) rfl (by decide) c2
  omega
end
section
/-! ===== the reference's parser: the reading of signs, as a function of the bytes ===== -/
theorem sh5 : (Int32.toInt64 5 &&& 63 : Int64) = 5 := by decide
theorem nat_of (x : Int64) (h0 : 0 ≤ x.toInt) : (x.toBitVec.toNat : Int) = x.toInt := by
  have e : x.toInt = x.toBitVec.toInt := rfl
  rw [e] at h0 ⊢
  rw [BitVec.toInt_eq_toNat_cond] at h0 ⊢
  have hl := x.toBitVec.isLt
  split at h0
  · rename_i h; rw [if_pos h]
  · omega
theorem shl5or {x : Int64} {y : Int32} (h0 : 0 ≤ x.toInt) (h1 : x.toInt < 1099511627776) (h2 : 0 ≤ y.toInt) (h3 : y.toInt < 32) : ((x <<< (Int32.toInt64 5 &&& 63)) ||| Int32.toInt64 y).toInt = 32 * x.toInt + y.toInt := by
  rw [sh5]
  have hy : (Int32.toInt64 y).toInt = y.toInt := Int32.toInt_toInt64 y
  have hx' := nat_of x h0
  have hy' := nat_of (Int32.toInt64 y) (by rw [hy]; exact h2)
  rw [hy] at hy'
  have e : ((x <<< 5) ||| Int32.toInt64 y).toBitVec.toNat = 32 * x.toBitVec.toNat + (Int32.toInt64 y).toBitVec.toNat := by
    rw [Int64.toBitVec_or, BitVec.toNat_or, Int64.toBitVec_shiftLeft]
    rw [show ((5 : Int64).toBitVec.smod 64) = 5#64 by decide]
    rw [show x.toBitVec <<< 5#64 = x.toBitVec <<< (5 : Nat) from rfl]
    rw [BitVec.toNat_shiftLeft]
    rw [Nat.mod_eq_of_lt (by rw [Nat.shiftLeft_eq]; omega)]
    rw [← Nat.shiftLeft_add_eq_or_of_lt (by omega), Nat.shiftLeft_eq]
    omega
  have e2 : ((x <<< 5) ||| Int32.toInt64 y).toInt = (((x <<< 5) ||| Int32.toInt64 y).toBitVec.toNat : Int) := by
    show ((x <<< 5) ||| Int32.toInt64 y).toBitVec.toInt = _
    exact BitVec.toInt_eq_toNat_of_lt (by rw [e]; omega)
  rw [e2, e]
  omega
abbrev mN (g : gT) : Nat := (g 0 22).toInt.toNat
def sM (k : Int) : Int := if k = 1 then 2 else if k = 2 then 1 else k
def mT (g : gT) (L : lT) (P : Nat) : Prop := (g 0 25).toInt = (P : Int) ∧ (g 0 24).toInt = sM (tK (g 13) (mN g) P) ∧ (g 0 23).toInt = (tE (g 13) (mN g) P : Int) ∧ (g 0 27).toInt = tV (g 13) (mN g) P ∧ (P < mN g → g 0 28 = g 13 P) ∧ (g 0 26).toInt = (tE (g 13) (mN g) P : Int) - (P : Int) ∧ (tK (g 13) (mN g) P = 2 → (L 0 29).toInt = pI (g 13) P (tE (g 13) (mN g) P - P))
def MA (g g1 : gT) (L1 : lT) : Prop := QG g g1 ∧ mT g1 L1 (sk (g 13) (mN g) (g 0 23).toInt.toNat)
set_option maxHeartbeats 4000000 in
theorem tX12_goes (fu : Nat) (hfu : 1180591620717411303424 ≤ fu) (g0 : gT) (L0 : lT) (hI : zI MT g0) (hn : (g0 0 23).toInt ≤ (g0 0 22).toInt) : Ex (fX12_goes fu g0 L0) (fun (_ : Unit) g1 L1 => MA g0 g1 L1) := by
  generalize hb : g0 13 = b
  generalize hN : mN g0 = n
  have z22 := hI 0 22 0 700 rfl
  have z23 := hI 0 23 0 700 rfl
  have hNi : (n : Int) = (g0 0 22).toInt := by rw [← hN]; show (((g0 0 22).toInt.toNat : Nat) : Int) = _; omega
  have hbt : ∀ (g : gT) (k : Int32) (q : Nat), Fr aG [] g0 g → k.toInt = (q : Int) → bt g k = if q < n then b q else 0 := by
    intro g k q hF hk
    have e22 := hF.1 22 (by decide)
    have e13 : g 13 = b := by rw [← hb]; exact hF.2 13 (by decide) (by decide)
    unfold bt
    rw [e22, e13]
    by_cases c : q < n
    · rw [if_pos c, if_neg (fun h => by have := ic_le.mp h; omega)]
      rw [nc, hk]; rfl
    · rw [if_neg c, if_pos (ic_le.mpr (by omega))]
  have fin : ∀ (t0 : Int32) (g : gT) (L : lT) (P : Nat), zI MT g → Fr aG [] g0 g → P = sk b n (g0 0 23).toInt.toNat → P ≤ n → (g 0 25).toInt = (P : Int) → t0.toInt = sM (tK b n P) → (g 0 23).toInt = (tE b n P : Int) → (g 0 27).toInt = tV b n P → (P < n → g 0 28 = b P) → (tK b n P = 2 → (L 0 29).toInt = pI b P (tE b n P - P)) → Ex (sti g 0 24 t0 (fun g22 => fX12_goes_p331 fu g22 L)) (fun (_ : Unit) g1 L1 => MA g0 g1 L1) := by
    intro t0 g L P hI hF hP hPn h25 h24 h23 h27 h28 hw
    have hE := tE_le (b := b) hPn
    have hp := sk_le (b := b) (n := n) (p := (g0 0 23).toInt.toNat) (by omega)
    refine Ex.sti (hI.updN rfl) (fun ga gae hI => ?_)
    unfold fX12_goes_p331
    refine Ex.sti (hI.updN rfl) (fun gb gbe hI => Ex.ret ?_)
    have e22 := hF.i (j := 22) (by decide)
    have hF : Fr aG [] g0 gb := by rw [gbe, gae]; exact (hF.u0 (by decide)).u0 (by decide)
    have r22 : (gb 0 22).toInt = (g0 0 22).toInt := hF.i (by decide)
    have r23 : gb 0 23 = g 0 23 := by rw [gbe, gae]; rfl
    have r24 : gb 0 24 = t0 := by rw [gbe, gae]; rfl
    have r25 : gb 0 25 = g 0 25 := by rw [gbe, gae]; rfl
    have r27 : gb 0 27 = g 0 27 := by rw [gbe, gae]; rfl
    have r28 : gb 0 28 = g 0 28 := by rw [gbe, gae]; rfl
    have a23 : ga 0 23 = g 0 23 := by rw [gae]; rfl
    have a25 : ga 0 25 = g 0 25 := by rw [gae]; rfl
    have r26 : (gb 0 26).toInt = (tE b n P : Int) - (P : Int) := by
      rw [gbe, upd2_at, a23, a25, ic_subc h23 h25 (by omega) (by omega)]
    have e13 : gb 13 = b := by rw [← hb]; exact hF.2 13 (by decide) (by decide)
    have eN : mN gb = n := by rw [← hN]; show (gb 0 22).toInt.toNat = (g0 0 22).toInt.toNat; rw [r22]
    refine ⟨⟨hI, hF, ?_, ?_⟩, ?_⟩
    · unfold pN
      rw [r22, r23, r24, r25, h23, h25, h24]
      refine ⟨by omega, by omega, fun hs => ?_⟩
      have : P < n := by
        by_cases c : P < n
        · exact c
        · rw [tK_ge c] at hs; exact absurd rfl hs
      have := hE.2.2 this
      omega
    · rw [r25, h25]; omega
    · unfold mT
      rw [e13, eN, hb, hN, ← hP, r23, r24, r25, r27, r28]
      exact ⟨h25, h24, h23, h27, h28, r26, hw⟩
  -- the rest of a number
  have P187 : ∀ (g : gT) (L : lT) (P : Nat), zI MT g → Fr aG [] g0 g → P = sk b n (g0 0 23).toInt.toNat → P < n → kd (b P).toInt = 1 → (g 0 25).toInt = (P : Int) → (g 0 23).toInt = (P : Int) → (g 0 27).toInt = 0 → g 0 28 = b P → Ex (fX12_goes_l187 fu g L) (fun (_ : Unit) g1 L1 => MA g0 g1 L1) := by
    intro g L P hI hF hP hPn hk h25 h23 h27 h28
    unfold fX12_goes_l187
    refine Ex.loop (α := gT × lT) (fun v => ∃ q : Nat, zI MT v.1 ∧ Fr aG [] g0 v.1 ∧ (v.1 0 25).toInt = (P : Int) ∧ (v.1 0 23).toInt = (q : Int) ∧ P ≤ q ∧ q ≤ n ∧ rE b n 1 P = rE b n 1 q ∧ (∀ i, P ≤ i → i < q → kd (b i).toInt = 1) ∧ (v.1 0 27).toInt = vl b P (q - P) ∧ v.1 0 28 = b P) (fun v => 701 - (v.1 0 23).toInt) (by omega) (by show 701 - (g 0 23).toInt < (fu : Int); omega) ⟨P, hI, hF, h25, h23, Nat.le_refl _, by omega, rfl, fun i h8 h9 => by omega, by rw [Nat.sub_self]; exact h27, h28⟩ (fun k187 v hv ih => ?_)
    clear hI hF h25 h23 h27 h28 g L
    obtain ⟨g, L⟩ := v
    obtain ⟨q, hI, hF, h25, h23, h7, h8, h9, h10, h27, h28⟩ := hv
    have hI : zI MT g := hI
    have hF : Fr aG [] g0 g := hF
    have h25 : (g 0 25).toInt = (P : Int) := h25
    have h23 : (g 0 23).toInt = (q : Int) := h23
    have h27 : (g 0 27).toInt = vl b P (q - P) := h27
    have h28 : g 0 28 = b P := h28
    have e22 := hF.i (j := 22) (by decide)
    show Ex (fX12_goes_s187 fu k187 g L) _
    unfold fX12_goes_s187
    refine e_byte (by omega) (by omega) ?_
    have hB := hbt g (g 0 23) q hF h23
    have stop : ¬ (q < n ∧ kd (b q).toInt = 1) → Ex (sti g 0 24 2 (fun g41 => fX12_goes_p331 fu g41 L)) (fun (_ : Unit) g1 L1 => MA g0 g1 L1) := by
      intro hs
      have hE : tE b n P = q := by rw [tE_r hPn (Or.inl hk), hk, h9, rE_n hs]
      have hKt : tK b n P = 1 := by rw [tK_lt hPn, hk]
      refine fin 2 g L P hI hF hP (by omega) h25 (by rw [hKt]; rfl) (by rw [hE]; exact h23) ?_ (fun _ => h28) (fun h => by omega)
      unfold tV
      rw [if_pos hKt, hE]; exact h27
    rw [hB]
    by_cases hq : q < n
    rotate_left
    · rw [if_neg hq]
      exact e_digit (fun _ => stop (fun h => hq h.1)) (fun c1 _ => absurd c1 (by decide))
    rw [if_pos hq]
    refine e_digit (fun c => stop (fun h => ?_)) (fun c1 c2 => ?_)
    · have := kd_1 h.2; omega
    have hkq : kd (b q).toInt = 1 := kd_d ⟨c1, c2⟩
    have P237 : ∀ (g1 : gT), zI MT g1 → Fr [27] [] g g1 → (g1 0 27).toInt = vl b P (q + 1 - P) → Ex (fX12_goes_p237 fu k187 g1 L) (fun (_ : Unit) g1 L1 => MA g0 g1 L1) := by
      intro g1 k1 k2 k3
      have r23 : g1 0 23 = g 0 23 := k2.1 23 (by decide)
      unfold fX12_goes_p237
      rw [r23]
      generalize hw : (g 0 23) + 1 = w
      have ew : w.toInt = (g 0 23).toInt + 1 := by rw [← hw]; exact ic_addc rfl (by decide) (by omega) (by omega)
      refine Ex.sti (k1.upd (lo := 0) (hi := 700) rfl (by omega) (by omega)) (fun ga gae hIa => ?_)
      have hFa : Fr [23, 27] [] g ga := by rw [gae]; exact (k2.mo (by decide) (by decide)).u0 (by decide)
      have s23 : (ga 0 23).toInt = (g 0 23).toInt + 1 := by rw [gae, upd2_at]; exact ew
      have s27 : (ga 0 27).toInt = (g1 0 27).toInt := by rw [gae]; rfl
      have s28 : ga 0 28 = g 0 28 := hFa.1 28 (by decide)
      refine ih (ga, L) ⟨q + 1, hIa, hF.tr (hFa.mo (by decide) (by decide)), (hFa.i (by decide)).trans h25, ?_, by omega, by omega, by rw [h9, rE_s hq hkq], fun i hi1 hi2 => ?_, ?_, s28.trans h28⟩ ?_ ?_
      · show (ga 0 23).toInt = ((q + 1 : Nat) : Int)
        omega
      · by_cases e : i = q
        · rw [e]; exact hkq
        · exact h10 i hi1 (by omega)
      · show (ga 0 27).toInt = _
        rw [s27]; exact k3
      · show 701 - (ga 0 23).toInt < 701 - (g 0 23).toInt
        omega
      · show 0 < 701 - (g 0 23).toInt
        omega
    have hd : ∀ i, i < q - P → 48 ≤ (b (P + i)).toInt ∧ (b (P + i)).toInt ≤ 57 := fun i hi => kd_1 (h10 (P + i) (by omega) (by omega))
    have hv := vl_b hd
    generalize hz : (g 0 23) - (g 0 25) = z
    have ez : z.toInt = (g 0 23).toInt - (g 0 25).toInt := by rw [← hz]; exact ic_subc rfl rfl (by omega) (by omega)
    refine Ex.ite (fun c4 => ?_) (fun c4 => ?_)
    · have c4 := icc_le (m := 4) (n := z.toInt) (by decide) rfl c4
      exact P237 g hI Fr.refl (by rw [h27, show q + 1 - P = (q - P) + 1 by omega, vl_e (by omega)])
    · have c4 := icc_nle (m := 4) (n := z.toInt) (by decide) rfl c4
      refine e_byte (by omega) (by omega) ?_
      rw [hB, if_pos hq]
      have hvb : vl b P (q - P) ≤ 999 := by
        have h9 := hv.2
        unfold vb at h9
        split at h9
        · omega
        · split at h9
          · omega
          · split at h9
            · omega
            · split at h9 <;> omega
      have hvs := vl_s (b := b) (P := P) (k := q - P) (by omega)
      rw [show P + (q - P) = q by omega] at hvs
      generalize hbb : b q = y at c1 c2 hvs ⊢
      generalize hm : 10 * (g 0 27) = m
      have em : m.toInt = 10 * (g 0 27).toInt := by rw [← hm]; exact ic_mulc (by decide) rfl (by omega) (by omega)
      generalize hs : m + y = s
      have es : s.toInt = m.toInt + y.toInt := by rw [← hs]; exact ic_addc rfl rfl (by omega) (by omega)
      generalize ht : s - 48 = t
      have et : t.toInt = s.toInt - 48 := by rw [← ht]; exact ic_subc rfl (by decide) (by omega) (by omega)
      refine Ex.sti (hI.upd (lo := 0) (hi := 9999) rfl (by omega) (by omega)) (fun ga gae hIa => ?_)
      refine P237 ga hIa (by rw [gae]; exact Fr.refl.u0 (by decide)) ?_
      have s27 : (ga 0 27).toInt = t.toInt := by rw [gae, upd2_at]
      rw [s27, show q + 1 - P = (q - P) + 1 by omega, hvs]
      omega
  -- the rest of a word
  have P108 : ∀ (g : gT) (L : lT) (P : Nat), zI MT g → Fr aG [] g0 g → P = sk b n (g0 0 23).toInt.toNat → P < n → kd (b P).toInt = 2 → (g 0 25).toInt = (P : Int) → (g 0 23).toInt = (P : Int) → (g 0 27).toInt = 0 → g 0 28 = b P → (L 0 29).toInt = 0 → Ex (fX12_goes_l108 fu g L) (fun (_ : Unit) g1 L1 => MA g0 g1 L1) := by
    intro g L P hI hF hP hPn hk h25 h23 h27 h28 hL
    unfold fX12_goes_l108
    refine Ex.loop (α := gT × lT) (fun v => ∃ q : Nat, zI MT v.1 ∧ Fr aG [] g0 v.1 ∧ (v.1 0 25).toInt = (P : Int) ∧ (v.1 0 23).toInt = (q : Int) ∧ P ≤ q ∧ q ≤ n ∧ rE b n 2 P = rE b n 2 q ∧ (∀ i, P ≤ i → i < q → kd (b i).toInt = 2) ∧ (v.1 0 27).toInt = 0 ∧ v.1 0 28 = b P ∧ (v.2 0 29).toInt = pI b P (q - P)) (fun v => 701 - (v.1 0 23).toInt) (by omega) (by show 701 - (g 0 23).toInt < (fu : Int); omega) ⟨P, hI, hF, h25, h23, Nat.le_refl _, by omega, rfl, fun i h8 h9 => by omega, h27, h28, by rw [Nat.sub_self]; exact hL⟩ (fun k108 v hv ih => ?_)
    clear hI hF h25 h23 h27 h28 hL g L
    obtain ⟨g, L⟩ := v
    obtain ⟨q, hI, hF, h25, h23, h7, h8, h9, h10, h27, h28, hL⟩ := hv
    have hI : zI MT g := hI
    have hF : Fr aG [] g0 g := hF
    have h25 : (g 0 25).toInt = (P : Int) := h25
    have h23 : (g 0 23).toInt = (q : Int) := h23
    have h27 : (g 0 27).toInt = 0 := h27
    have h28 : g 0 28 = b P := h28
    have hL : (L 0 29).toInt = pI b P (q - P) := hL
    have e22 := hF.i (j := 22) (by decide)
    show Ex (fX12_goes_s108 fu k108 g L) _
    unfold fX12_goes_s108
    refine e_byte (by omega) (by omega) ?_
    have hB := hbt g (g 0 23) q hF h23
    have stop : ¬ (q < n ∧ kd (b q).toInt = 2) → Ex (sti g 0 24 1 (fun g58 => fX12_goes_p331 fu g58 L)) (fun (_ : Unit) g1 L1 => MA g0 g1 L1) := by
      intro hs
      have hE : tE b n P = q := by rw [tE_r hPn (Or.inr hk), hk, h9, rE_n hs]
      have hKt : tK b n P = 2 := by rw [tK_lt hPn, hk]
      refine fin 1 g L P hI hF hP (by omega) h25 (by rw [hKt]; rfl) (by rw [hE]; exact h23) ?_ (fun _ => h28) (fun _ => by rw [hE]; exact hL)
      unfold tV
      rw [if_neg (by omega)]; exact h27
    rw [hB]
    by_cases hq : q < n
    rotate_left
    · rw [if_neg hq]
      exact e_letter (fun _ => stop (fun h => hq h.1)) (fun c1 _ => absurd c1 (by decide))
    rw [if_pos hq]
    refine e_letter (fun c => stop (fun h => ?_)) (fun c1 c2 => ?_)
    · have := kd_2 h.2; omega
    have hkq : kd (b q).toInt = 2 := kd_l ⟨c1, c2⟩
    have P159 : ∀ L1 : lT, (L1 0 29).toInt = pI b P (q + 1 - P) → Ex (fX12_goes_p159 fu k108 g L1) (fun (_ : Unit) g1 L1 => MA g0 g1 L1) := by
      intro L1 hL1
      unfold fX12_goes_p159
      generalize hw : (g 0 23) + 1 = w
      have ew : w.toInt = (g 0 23).toInt + 1 := by rw [← hw]; exact ic_addc rfl (by decide) (by omega) (by omega)
      refine Ex.sti (hI.upd (lo := 0) (hi := 700) rfl (by omega) (by omega)) (fun ga gae hIa => ?_)
      have hFa : Fr [23] [] g ga := by rw [gae]; exact Fr.refl.u0 (by decide)
      have s23 : (ga 0 23).toInt = (g 0 23).toInt + 1 := by rw [gae, upd2_at]; exact ew
      refine ih (ga, L1) ⟨q + 1, hIa, hF.tr (hFa.mo (by decide) (by decide)), (hFa.i (by decide)).trans h25, ?_, by omega, by omega, by rw [h9, rE_s hq hkq], fun i hi1 hi2 => ?_, (hFa.i (by decide)).trans h27, (hFa.1 28 (by decide)).trans h28, hL1⟩ ?_ ?_
      · show (ga 0 23).toInt = ((q + 1 : Nat) : Int)
        omega
      · by_cases e : i = q
        · rw [e]; exact hkq
        · exact h10 i hi1 (by omega)
      · show 701 - (ga 0 23).toInt < 701 - (g 0 23).toInt
        omega
      · show 0 < 701 - (g 0 23).toInt
        omega
    have hd : ∀ i, i < q - P → 97 ≤ (b (P + i)).toInt ∧ (b (P + i)).toInt ≤ 122 := fun i hi => kd_2 (h10 (P + i) (by omega) (by omega))
    have hv := pI_b hd
    generalize hz : (g 0 23) - (g 0 25) = z
    have ez : z.toInt = (g 0 23).toInt - (g 0 25).toInt := by rw [← hz]; exact ic_subc rfl rfl (by omega) (by omega)
    refine Ex.ite (fun c4 => ?_) (fun c4 => ?_)
    · have c4 := icc_le (m := 6) (n := z.toInt) (by decide) rfl c4
      exact P159 L (by rw [hL, show q + 1 - P = (q - P) + 1 by omega, pI_e (by omega)])
    · have c4 := icc_nle (m := 6) (n := z.toInt) (by decide) rfl c4
      refine e_byte (by omega) (by omega) ?_
      rw [hB, if_pos hq]
      have hvs := pI_s (b := b) (P := P) (k := q - P) (by omega)
      rw [show P + (q - P) = q by omega] at hvs
      generalize hbb : b q = y at c1 c2 hvs ⊢
      generalize ht : y - 96 = t
      have et : t.toInt = y.toInt - 96 := by rw [← ht]; exact ic_subc rfl (by decide) (by omega) (by omega)
      refine Ex.stl (fun L1 hL1 => P159 L1 ?_)
      have e1 : L1 0 29 = (L 0 29 <<< (Int32.toInt64 5 &&& 63)) ||| Int32.toInt64 t := by
        rw [hL1]; unfold updL; rw [if_pos rfl]; exact if_pos rfl
      rw [e1, shl5or (by omega) (by omega) (by omega) (by omega), show q + 1 - P = (q - P) + 1 by omega, hvs, hL]
      omega
  -- a sign's beginning
  have P50 : ∀ (g : gT) (L : lT) (P : Nat), zI MT g → Fr aG [] g0 g → P = sk b n (g0 0 23).toInt.toNat → P ≤ n → (g 0 23).toInt = (P : Int) → Ex (fX12_goes_p50 fu g L) (fun (_ : Unit) g1 L1 => MA g0 g1 L1) := by
    intro g L P hI hF hP hPn h23
    have e22 := hF.i (j := 22) (by decide)
    unfold fX12_goes_p50
    refine Ex.sti (hI.upd (lo := 0) (hi := 700) rfl (by omega) (by omega)) (fun g1 g1e hI => ?_)
    refine Ex.stl (fun L2 hL2 => ?_)
    have hL : (L2 0 29).toInt = 0 := by
      have e1 : L2 0 29 = 0 := by rw [hL2]; unfold updL; rw [if_pos rfl]; exact if_pos rfl
      rw [e1]; rfl
    refine Ex.sti (hI.upd (lo := 0) (hi := 9999) rfl (by decide) (by decide)) (fun g3 g3e hI => ?_)
    have s22 : g3 0 22 = g 0 22 := by rw [g3e, g1e]; rfl
    have s23 : g3 0 23 = g 0 23 := by rw [g3e, g1e]; rfl
    have s25 : g3 0 25 = g 0 23 := by rw [g3e, g1e]; rfl
    have s27 : g3 0 27 = 0 := by rw [g3e]; exact upd2_at
    have hF : Fr aG [] g0 g3 := by rw [g3e, g1e]; exact (hF.u0 (by decide)).u0 (by decide)
    clear g3e g1e
    rw [s23]
    refine e_byte (by omega) (by rw [s22]; omega) ?_
    rw [hbt g3 (g 0 23) P hF h23]
    refine Ex.sti (hI.updN rfl) (fun g8 g8e hI => ?_)
    have t22 : g8 0 22 = g 0 22 := by rw [g8e]; exact s22
    have t23 : g8 0 23 = g 0 23 := by rw [g8e]; exact s23
    have t25 : (g8 0 25).toInt = (P : Int) := by rw [g8e]; show (g3 0 25).toInt = _; rw [s25]; exact h23
    have t27 : (g8 0 27).toInt = 0 := by rw [g8e]; show (g3 0 27).toInt = _; rw [s27]; rfl
    have t28 : g8 0 28 = if P < n then b P else 0 := by rw [g8e]; exact upd2_at
    have hF : Fr aG [] g0 g8 := by rw [g8e]; exact hF.u0 (by decide)
    clear g8e s22 s23 s25 s27
    rw [t23, t22]
    refine Ex.ite (fun c => ?_) (fun c => ?_)
    rotate_left
    · have c := icc_nlt (m := (g 0 23).toInt) (n := (g 0 22).toInt) rfl rfl c
      have hPN : ¬ P < n := by omega
      refine fin 0 g8 L2 P hI hF hP hPn t25 (by rw [tK_ge hPN]; rfl) (by rw [tE_e hPN, t23]; exact h23) ?_ (fun h => absurd h hPN) (fun h => by rw [tK_ge hPN] at h; exact absurd h (by decide))
      unfold tV; rw [tK_ge hPN, if_neg (by decide)]; exact t27
    have c := icc_lt (m := (g 0 23).toInt) (n := (g 0 22).toInt) rfl rfl c
    have hPN : P < n := by omega
    rw [if_pos hPN] at t28
    rw [if_pos hPN]
    refine e_letter (fun l1 => ?_) (fun l1 l2 => P108 g8 L2 P hI hF hP hPN (kd_l ⟨l1, l2⟩) t25 (by rw [t23]; exact h23) t27 t28 hL)
    refine e_digit (fun l2 => ?_) (fun l1 l2 => P187 g8 L2 P hI hF hP hPN (kd_d ⟨l1, l2⟩) t25 (by rw [t23]; exact h23) t27 t28)
    rw [t23]
    generalize hw : (g 0 23) + 1 = w
    have ew : w.toInt = (g 0 23).toInt + 1 := by rw [← hw]; exact ic_addc rfl (by decide) (by omega) (by omega)
    refine Ex.sti (hI.upd (lo := 0) (hi := 700) rfl (by omega) (by omega)) (fun ga gae hI => ?_)
    have u23 : (ga 0 23).toInt = (P : Int) + 1 := by rw [gae, upd2_at]; omega
    have u25 : (ga 0 25).toInt = (P : Int) := by rw [gae]; exact t25
    have u27 : (ga 0 27).toInt = 0 := by rw [gae]; exact t27
    have u28 : ga 0 28 = b P := by rw [gae]; exact t28
    have hF : Fr aG [] g0 ga := by rw [gae]; exact hF.u0 (by decide)
    clear gae
    have hk2 : kd (b P).toInt = 3 ∨ kd (b P).toInt = 4 := by
      have k1 := kd_rg (b P).toInt
      have k2 : kd (b P).toInt ≠ 2 := fun h => by have := kd_2 h; omega
      have k3 : kd (b P).toInt ≠ 1 := fun h => by have := kd_1 h; omega
      omega
    have e : ∀ t0 : Int32, t0.toInt = kd (b P).toInt → Ex (fX12_goes_p328 fu t0 ga L2) (fun (_ : Unit) g1 L1 => MA g0 g1 L1) := by
      intro t0 ht
      unfold fX12_goes_p328
      refine fin t0 ga L2 P hI hF hP hPn u25 ?_ ?_ ?_ (fun _ => u28) (fun h => by rw [tK_lt hPN] at h; omega)
      · rw [tK_lt hPN, ht]; unfold sM; rw [if_neg (by omega), if_neg (by omega)]
      · rw [tE_1 hPN (by omega)]; omega
      · unfold tV; rw [tK_lt hPN, if_neg (by omega)]; exact u27
    have hs : ∀ m : Int32, (m.toInt = 59 ∨ m.toInt = 40 ∨ m.toInt = 41 ∨ m.toInt = 43 ∨ m.toInt = 45 ∨ m.toInt = 42 ∨ m.toInt = 47 ∨ m.toInt = 60 ∨ m.toInt = 61) → b P = m → Ex (fX12_goes_p328 fu 3 ga L2) (fun (_ : Unit) g1 L1 => MA g0 g1 L1) := fun m hm he => e 3 (by rw [he, kd_s hm]; rfl)
    unfold fX12_goes_p323
    refine Ex.ite (fun c1 => hs 59 (by decide) c1) (fun c1 => ?_)
    refine Ex.ite (fun c2 => hs 40 (by decide) c2) (fun c2 => ?_)
    refine Ex.ite (fun c3 => hs 41 (by decide) c3) (fun c3 => ?_)
    refine Ex.ite (fun c4 => hs 43 (by decide) c4) (fun c4 => ?_)
    refine Ex.ite (fun c5 => hs 45 (by decide) c5) (fun c5 => ?_)
    refine Ex.ite (fun c6 => hs 42 (by decide) c6) (fun c6 => ?_)
    refine Ex.ite (fun c7 => hs 47 (by decide) c7) (fun c7 => ?_)
    refine Ex.ite (fun c8 => hs 60 (by decide) c8) (fun c8 => ?_)
    refine Ex.ite (fun c9 => hs 61 (by decide) c9) (fun c9 => ?_)
    refine e 4 ?_
    have c1 := icc_neq (m := (b P).toInt) (n := 59) rfl (by decide) c1
    have c2 := icc_neq (m := (b P).toInt) (n := 40) rfl (by decide) c2
    have c3 := icc_neq (m := (b P).toInt) (n := 41) rfl (by decide) c3
    have c4 := icc_neq (m := (b P).toInt) (n := 43) rfl (by decide) c4
    have c5 := icc_neq (m := (b P).toInt) (n := 45) rfl (by decide) c5
    have c6 := icc_neq (m := (b P).toInt) (n := 42) rfl (by decide) c6
    have c7 := icc_neq (m := (b P).toInt) (n := 47) rfl (by decide) c7
    have c8 := icc_neq (m := (b P).toInt) (n := 60) rfl (by decide) c8
    have c9 := icc_neq (m := (b P).toInt) (n := 61) rfl (by decide) c9
    rw [kd_b (by omega) (by omega) (by omega)]; rfl
  unfold fX12_goes fX12_goes_l0
  generalize hp0 : sk b n (g0 0 23).toInt.toNat = P0 at fin P187 P108 P50
  refine Ex.loop (α := gT × lT) (fun v => ∃ q : Nat, zI MT v.1 ∧ Fr [23] [] g0 v.1 ∧ (v.1 0 23).toInt = (q : Int) ∧ q ≤ n ∧ sk b n q = P0) (fun v => 701 - (v.1 0 23).toInt) (by omega) (by show 701 - (g0 0 23).toInt < (fu : Int); omega) ⟨(g0 0 23).toInt.toNat, hI, Fr.refl, (show (g0 0 23).toInt = (((g0 0 23).toInt.toNat : Nat) : Int) by omega), by omega, hp0⟩ (fun k0 v hv ih => ?_)
  obtain ⟨g, L⟩ := v
  obtain ⟨q, h1, h2, h3, h4, h5⟩ := hv
  have h1 : zI MT g := h1
  have h2 : Fr [23] [] g0 g := h2
  have h3 : (g 0 23).toInt = (q : Int) := h3
  have e22 := h2.i (j := 22) (by decide)
  have hB := hbt g (g 0 23) q (h2.mo (by decide) (by decide)) h3
  show Ex (fX12_goes_s0 fu k0 g L) _
  unfold fX12_goes_s0
  have go : ∀ L1 : lT, ¬ (q < n ∧ ((b q).toInt = 32 ∨ (b q).toInt = 10)) → Ex (fX12_goes_p50 fu g L1) (fun (_ : Unit) g1 L1 => MA g0 g1 L1) := fun L1 hs => P50 g L1 q h1 (h2.mo (by decide) (by decide)) ((sk_n hs).symm.trans h5) h4 h3
  refine Ex.ite (fun c => go L ?_) (fun c => ?_)
  · have c := icc_le (m := (g 0 22).toInt) (n := (g 0 23).toInt) rfl rfl c
    omega
  have c := icc_nle (m := (g 0 22).toInt) (n := (g 0 23).toInt) rfl rfl c
  have hq : q < n := by omega
  rw [if_pos hq] at hB
  have P37 : ((b q).toInt = 32 ∨ (b q).toInt = 10) → Ex (fX12_goes_p37 fu k0 g L) (fun (_ : Unit) g1 L1 => MA g0 g1 L1) := by
    intro hbq
    unfold fX12_goes_p37
    generalize hw : (g 0 23) + 1 = w
    have ew : w.toInt = (g 0 23).toInt + 1 := by rw [← hw]; exact ic_addc rfl (by decide) (by omega) (by omega)
    refine Ex.sti (h1.upd (lo := 0) (hi := 700) rfl (by omega) (by omega)) (fun ga gae hIa => ?_)
    have s3 : (ga 0 23).toInt = (g 0 23).toInt + 1 := by rw [gae, upd2_at]; exact ew
    refine ih (ga, L) ⟨q + 1, hIa, by rw [gae]; exact h2.u0 (by decide), (show (ga 0 23).toInt = ((q + 1 : Nat) : Int) by omega), by omega, (sk_b hq hbq).symm.trans h5⟩ ?_ ?_
    · show 701 - (ga 0 23).toInt < 701 - (g 0 23).toInt
      omega
    · show 0 < 701 - (g 0 23).toInt
      omega
  refine e_byte (by omega) (by omega) ?_
  rw [hB]
  refine Ex.ite (fun c1 => P37 (Or.inl (icc_eq (m := (b q).toInt) (n := 32) rfl (by decide) c1))) (fun c1 => ?_)
  refine e_byte (by omega) (by omega) ?_
  rw [hB]
  refine Ex.ite (fun c2 => P37 (Or.inr (icc_eq (m := (b q).toInt) (n := 10) rfl (by decide) c2))) (fun c2 => go L ?_)
  have c1 := icc_neq (m := (b q).toInt) (n := 32) rfl (by decide) c1
  have c2 := icc_neq (m := (b q).toInt) (n := 10) rfl (by decide) c2
  omega
end
