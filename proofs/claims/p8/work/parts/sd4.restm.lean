/-! ===== the reference's trials put back what they changed ===== -/
def cZ (k j : Nat) : Prop := (k = 12 ∧ j < 48) ∨ k = 1 ∨ k = 2 ∨ (k = 0 ∧ (j = 52 ∨ j = 60 ∨ j = 61))
def Rm (S : Nat → Nat → Prop) (g g1 : gT) : Prop := ∀ k j, cZ k j → ¬ S k j → g1 k j = g k j
theorem Rm.refl {S : Nat → Nat → Prop} {g : gT} : Rm S g g := fun _ _ _ _ => rfl
theorem Rm.tr {S : Nat → Nat → Prop} {g g1 g2 : gT} (h1 : Rm S g g1) (h2 : Rm S g1 g2) : Rm S g g2 := fun k j a c => (h2 k j a c).trans (h1 k j a c)
theorem Rm.mo {S S' : Nat → Nat → Prop} {g g1 : gT} (h : Rm S g g1) (hS : ∀ k j, S k j → S' k j) : Rm S' g g1 := fun k j a c => h k j a (fun hs => c (hS k j hs))
theorem Rm.m0 {S : Nat → Nat → Prop} {g g1 : gT} (h : Rm S0 g g1) : Rm S g g1 := h.mo (fun _ _ h => absurd h id)
theorem Rm.st {S : Nat → Nat → Prop} {g g1 g2 : gT} {k i : Nat} {x : Int32} (h : Rm S g g1) (e : g2 = upd2 g1 k i x) (hS : S k i) : Rm S g g2 := fun a b hc hn => by
  rw [e]
  by_cases ha : a = k
  · subst ha
    by_cases hb : b = i
    · subst hb; exact absurd hS hn
    · rw [upd2_nj hb]; exact h a b hc hn
  · rw [upd2_nk ha]; exact h a b hc hn
theorem Rm.so {S : Nat → Nat → Prop} {g g1 g2 : gT} {k i : Nat} {x : Int32} (h : Rm S g g1) (e : g2 = upd2 g1 k i x) (hS : ¬ cZ k i) : Rm S g g2 := fun a b hc hn => by
  rw [e]
  by_cases ha : a = k
  · subst ha
    by_cases hb : b = i
    · subst hb; exact absurd hc hS
    · rw [upd2_nj hb]; exact h a b hc hn
  · rw [upd2_nk ha]; exact h a b hc hn
abbrev okZ (A : List (Nat × Nat)) (B : List Nat) : Prop := okw [1, 2, 12] [(0, 52), (0, 60), (0, 61)] A B = true
theorem Rm.f {S : Nat → Nat → Prop} {A : List (Nat × Nat)} {B : List Nat} {g g0 g1 : gT} (h : Rm S g g0) (f : FW A B g0 g1) (o : okZ A B) : Rm S g g1 := fun k j hc hn => by
  rw [← h k j hc hn]
  rcases hc with ⟨rfl, -⟩ | rfl | rfl | ⟨rfl, rfl | rfl | rfl⟩
  · rw [okw_c (k := 12) o f (by decide)]
  · rw [okw_c (k := 1) o f (by decide)]
  · rw [okw_c (k := 2) o f (by decide)]
  · exact okw_f o f (by decide)
  · exact okw_f o f (by decide)
  · exact okw_f o f (by decide)
theorem Rm.bk {S : Nat → Nat → Prop} {g g1 g2 : gT} {k i : Nat} {x : Int32} (h : Rm S g g1) (e : g2 = upd2 g1 k i x) (hx : x = g k i) : Rm (fun a b => S a b ∧ ¬ (a = k ∧ b = i)) g g2 := fun a b hc hn => by
  rw [e]
  by_cases ha : a = k
  · subst ha
    by_cases hb : b = i
    · subst hb; rw [upd2_at]; exact hx
    · rw [upd2_nj hb]; exact h a b hc (fun hs => hn ⟨hs, fun h => hb h.2⟩)
  · rw [upd2_nk ha]; exact h a b hc (fun hs => hn ⟨hs, fun h => ha h.1⟩)
theorem Rm.b1 {g g1 g2 : gT} {k i : Nat} {x : Int32} (h : Rm (S1 k i) g g1) (e : g2 = upd2 g1 k i x) (hx : x = g k i) : Rm S0 g g2 := (h.bk e hx).mo (fun _ _ h => h.2 h.1)
theorem pc_cnz {ρ : Type} {Q : ρ → gT → lT → Prop} {y : Int32} {K : Option (ρ × zS)} (h : Pc K Q) : Pc (cnz y K) Q := by
  unfold cnz
  split
  · exact pc_none
  · exact h
theorem cz_0 {j : Nat} (h1 : j ≠ 52) (h2 : j ≠ 60) (h3 : j ≠ 61) : ¬ cZ 0 j := fun h => by
  rcases h with ⟨h, -⟩ | h | h | ⟨-, h | h | h⟩
  · exact absurd h (by decide)
  · exact absurd h (by decide)
  · exact absurd h (by decide)
  · exact h1 h
  · exact h2 h
  · exact h3 h
theorem cz_12 {i : Nat} (h : i < 48) : cZ 12 i := Or.inl ⟨rfl, h⟩
theorem cz_n {k j : Nat} (h0 : k ≠ 0) (h1 : k ≠ 1) (h2 : k ≠ 2) (h12 : k ≠ 12) : ¬ cZ k j := fun h => by
  rcases h with ⟨h, -⟩ | h | h | ⟨h, -⟩
  · exact h12 h
  · exact h1 h
  · exact h2 h
  · exact h0 h
set_option maxHeartbeats 4000000 in
theorem uX12_copies_12_42 (fu : Nat) (hfu : 1180591620717411303424 ≤ fu) (g0 : Nat → Nat → Int32) (L0 : Nat → Nat → Int64) : Ex (fX12_copies_12_42 fu g0 L0) (fun (r : Unit) g1 L1 => g1 = cpd g0 12 42 48) := by
  unfold fX12_copies_12_42 fX12_copies_12_42_l2
  have e0 : (0 : Int32).toInt = 0 := by decide
  refine Ex.loop (α := Int32 × (Nat → Nat → Int32) × (Nat → Nat → Int64)) (fun v => (0 ≤ v.1.toInt ∧ v.1.toInt ≤ 48) ∧ v.2.1 = cpd g0 12 42 v.1.toNatClampNeg) (fun v => 49 - v.1.toInt) (by omega) (by show 49 - (0 : Int32).toInt < (fu : Int); omega) ⟨(show 0 ≤ (0 : Int32).toInt ∧ (0 : Int32).toInt ≤ 48 from by omega), (cpd_0 g0 12 42).symm⟩ (fun k2 v hv ih => ?_)
  obtain ⟨v3, g, L⟩ := v
  obtain ⟨hb, hg⟩ := hv
  have hb : 0 ≤ v3.toInt ∧ v3.toInt ≤ 48 := hb
  have hg : g = cpd g0 12 42 v3.toNatClampNeg := hg
  show Ex (fX12_copies_12_42_s2 fu k2 v3 g L) _
  unfold fX12_copies_12_42_s2
  refine Ex.ite (fun c => ?_) (fun c => ?_)
  · have c := icc_le (m := 48) (n := v3.toInt) (by decide) rfl c
    have n12 : v3.toNatClampNeg = 48 := by rw [nc]; omega
    rw [n12] at hg
    exact Ex.ret hg
  · have c := icc_nle (m := 48) (n := v3.toInt) (by decide) rfl c
    refine Ex.ck (by omega) (by omega) (Ex.ck (by omega) (by omega) ?_)
    refine Ex.sti z_none (fun g2 g2e _ => ?_)
    generalize hw : v3 + 1 = w
    have ew : w.toInt = v3.toInt + 1 := by rw [← hw]; exact ic_addc rfl (by decide) (by omega) (by omega)
    have nw : w.toNatClampNeg = v3.toNatClampNeg + 1 := by rw [nc, nc]; omega
    refine ih (w, g2, L) ⟨(show 0 ≤ w.toInt ∧ w.toInt ≤ 48 from by omega), ?_⟩ (by show 49 - w.toInt < 49 - v3.toInt; omega) (by show 0 < 49 - v3.toInt; omega)
    show g2 = cpd g0 12 42 w.toNatClampNeg
    rw [nw, g2e, hg]; exact cpd_s g0 (by decide) v3.toNatClampNeg
set_option maxHeartbeats 4000000 in
theorem uX12_copies_42_12 (fu : Nat) (hfu : 1180591620717411303424 ≤ fu) (g0 : Nat → Nat → Int32) (L0 : Nat → Nat → Int64) : Ex (fX12_copies_42_12 fu g0 L0) (fun (r : Unit) g1 L1 => g1 = cpd g0 42 12 48) := by
  unfold fX12_copies_42_12 fX12_copies_42_12_l2
  have e0 : (0 : Int32).toInt = 0 := by decide
  refine Ex.loop (α := Int32 × (Nat → Nat → Int32) × (Nat → Nat → Int64)) (fun v => (0 ≤ v.1.toInt ∧ v.1.toInt ≤ 48) ∧ v.2.1 = cpd g0 42 12 v.1.toNatClampNeg) (fun v => 49 - v.1.toInt) (by omega) (by show 49 - (0 : Int32).toInt < (fu : Int); omega) ⟨(show 0 ≤ (0 : Int32).toInt ∧ (0 : Int32).toInt ≤ 48 from by omega), (cpd_0 g0 42 12).symm⟩ (fun k2 v hv ih => ?_)
  obtain ⟨v3, g, L⟩ := v
  obtain ⟨hb, hg⟩ := hv
  have hb : 0 ≤ v3.toInt ∧ v3.toInt ≤ 48 := hb
  have hg : g = cpd g0 42 12 v3.toNatClampNeg := hg
  show Ex (fX12_copies_42_12_s2 fu k2 v3 g L) _
  unfold fX12_copies_42_12_s2
  refine Ex.ite (fun c => ?_) (fun c => ?_)
  · have c := icc_le (m := 48) (n := v3.toInt) (by decide) rfl c
    have n12 : v3.toNatClampNeg = 48 := by rw [nc]; omega
    rw [n12] at hg
    exact Ex.ret hg
  · have c := icc_nle (m := 48) (n := v3.toInt) (by decide) rfl c
    refine Ex.ck (by omega) (by omega) (Ex.ck (by omega) (by omega) ?_)
    refine Ex.sti z_none (fun g2 g2e _ => ?_)
    generalize hw : v3 + 1 = w
    have ew : w.toInt = v3.toInt + 1 := by rw [← hw]; exact ic_addc rfl (by decide) (by omega) (by omega)
    have nw : w.toNatClampNeg = v3.toNatClampNeg + 1 := by rw [nc, nc]; omega
    refine ih (w, g2, L) ⟨(show 0 ≤ w.toInt ∧ w.toInt ≤ 48 from by omega), ?_⟩ (by show 49 - w.toInt < 49 - v3.toInt; omega) (by show 0 < 49 - v3.toInt; omega)
    show g2 = cpd g0 42 12 w.toNatClampNeg
    rw [nw, g2e, hg]; exact cpd_s g0 (by decide) v3.toNatClampNeg
section RM
variable {fu : Nat} {g : gT} {L : lT}
theorem rm_moreBy {p1 p2 : Int32} (h61 : g 0 61 = -1) : Pc (fX12_moreBy fu p1 p2 g L) (fun _ g1 _ => Rm S0 g g1) := by
  unfold fX12_moreBy
  refine pc_cb (pc_kp (w_fX12_works0 _ _ _ _ FW.refl)) (fun _ g2 L2 f2 => pc_cb (pc_kp (w_fX12_copies_32_37 _ _ _ _ FW.refl)) (fun _ g6 L6 f6 => pc_cb (pc_kp (w_fX12_lates _ _ _ _ FW.refl)) (fun _ g10 L10 f10 => pc_ck (fun a1 a2 => pc_ck (fun _ _ => pc_st (fun g13 e13 => pc_st (fun g14 e14 => pc_cb (pc_kp (w_fX12_works0 _ _ _ _ FW.refl)) (fun _ g16 L16 f16 => pc_st (fun g19 e19 => pc_ck (fun _ _ => pc_ck (fun _ _ => pc_st (fun g20 e20 => pc_cb (pc_kp (w_fX12_lates _ _ _ _ FW.refl)) (fun _ g22 L22 f22 => pc_some ?_)))))))))))))
  have h10 : Rm S0 g g10 := ((Rm.refl.f f2 (by decide)).f f6 (by decide)).f f10 (by decide)
  have hi : (0 + p1).toNatClampNeg < 48 := by rw [nc]; omega
  generalize (0 + p1).toNatClampNeg = i at *
  have r16 : Rm (S1 0 61) g13 g16 := (Rm.refl.st e14 ⟨rfl, rfl⟩).f f16 (by decide)
  have e61 : g13 0 61 = -1 := by rw [e13, upd2_nk (by decide), h10 0 61 (Or.inr (Or.inr (Or.inr ⟨rfl, Or.inr (Or.inr rfl)⟩))) id]; exact h61
  have r19 : Rm S0 g13 g19 := r16.b1 e19 e61.symm
  have v : g19 12 i - p2 = g10 12 i := by rw [r19 12 i (cz_12 hi) id, e13, upd2_at, Int32.add_sub_cancel]
  have r20 : Rm S0 g10 g20 := ((Rm.refl.st e13 (S := S1 12 i) ⟨rfl, rfl⟩).tr r19.m0).b1 e20 v
  exact (h10.tr r20).f f22 (by decide)
theorem m61 {g1 : gT} (h : Rm S0 g g1) : g1 0 61 = g 0 61 := h 0 61 (Or.inr (Or.inr (Or.inr ⟨rfl, Or.inr (Or.inr rfl)⟩))) id
theorem m60 {g1 : gT} (h : Rm S0 g g1) : g1 0 60 = g 0 60 := h 0 60 (Or.inr (Or.inr (Or.inr ⟨rfl, Or.inr (Or.inl rfl)⟩))) id
theorem rm_far {p1 p2 p3 : Int32} (h61 : g 0 61 = -1) : Pc (fX12_far fu p1 p2 p3 g L) (fun _ g1 _ => Rm S0 g g1) := by
  unfold fX12_far fX12_far_p37 fX12_far_p60
  refine pc_st (fun g1 e1 => pc_cb (pc_kp (w_fX12_isLesson _ _ _ _ _ FW.refl)) (fun _ g3 L3 f3 => ?_))
  have h3 : Rm S0 g g3 := (Rm.refl.so e1 (cz_0 (by decide) (by decide) (by decide))).f f3 (by decide)
  refine pc_ite (fun _ => pc_some h3) (fun _ => pc_cb (pc_kp (w_fX12_isWhat _ _ _ _ _ _ FW.refl)) (fun _ g8 L8 f8 => ?_))
  have h8 := h3.f f8 (by decide)
  refine pc_ite (fun _ => pc_some h8) (fun _ => pc_cb (pc_kp (w_fX12_within _ _ _ _ _ _ _ FW.refl)) (fun _ g13 L13 f13 => pc_cb (pc_kp (w_fX12_right _ _ _ _ _ _ FW.refl)) (fun _ g17 L17 f17 => ?_)))
  have h17 := (h8.f f13 (by decide)).f f17 (by decide)
  refine pc_ite (fun _ => pc_some h17) (fun _ => pc_cb (rm_moreBy (by rw [m61 h17]; exact h61)) (fun _ g22 L22 f22 => ?_))
  exact pc_ite (fun _ => pc_cb (pc_kp (w_fX12_later _ _ _ _ FW.refl)) (fun _ g27 L27 f27 => pc_some ((h17.tr f22).f f27 (by decide)))) (fun _ => pc_some (h17.tr f22))
theorem rm_reaches {p1 p2 : Int32} (h61 : g 0 61 = -1) : Pc (fX12_reaches fu p1 p2 g L) (fun _ g1 _ => Rm S0 g g1) := by
  unfold fX12_reaches fX12_reaches_p32 fX12_reaches_p39
  refine pc_st (fun g1 e1 => pc_cb (pc_kp (w_fX12_isLesson _ _ _ _ _ FW.refl)) (fun _ g3 L3 f3 => ?_))
  have h3 : Rm S0 g g3 := (Rm.refl.so e1 (cz_0 (by decide) (by decide) (by decide))).f f3 (by decide)
  refine pc_ite (fun _ => pc_some h3) (fun _ => pc_cb (pc_kp (w_fX12_isLesson _ _ _ _ _ FW.refl)) (fun _ g8 L8 f8 => ?_))
  have h8 := h3.f f8 (by decide)
  have go : ∀ t0 : Int32, Pc (cb (fX12_right fu t0 2 g8 L8) (fun x12 g13 L14 => if x12 = 0 then some (0, (g13, L14)) else fX12_reaches_l43 fu p1 p2 1 g13 L14)) (fun _ g1 _ => Rm S0 g g1) := by
    intro t0
    refine pc_cb (pc_kp (w_fX12_right _ _ _ _ _ _ FW.refl)) (fun _ g13 L13 f13 => ?_)
    have h13 := h8.f f13 (by decide)
    refine pc_ite (fun _ => pc_some h13) (fun _ => ?_)
    unfold fX12_reaches_l43
    refine pc_loop (fun v => Rm S0 g v.2.1) (fun k hk v hv => ?_) h13
    obtain ⟨v3, g', L'⟩ := v
    replace hv : Rm S0 g g' := hv
    show Pc (fX12_reaches_s43 fu p1 p2 k v3 g' L') _
    unfold fX12_reaches_s43
    refine pc_ite (fun _ => pc_some hv) (fun _ => pc_cb (rm_moreBy (by rw [m61 hv]; exact h61)) (fun _ ga La fa => pc_cb (pc_kp (w_fX12_later _ _ _ _ FW.refl)) (fun _ gb Lb fb => ?_)))
    have hb := (hv.tr fa).f fb (by decide)
    exact pc_ite (fun _ => pc_some hb) (fun _ => hk _ hb)
  exact pc_ite (fun _ => pc_some h8) (fun _ => pc_ite (fun _ => go 0) (fun _ => go 1))
theorem rm_slack {p1 : Int32} (h61 : g 0 61 = -1) : Pc (fX12_slack fu p1 g L) (fun _ g1 _ => Rm S0 g g1) := by
  unfold fX12_slack
  refine pc_st (fun g1 e1 => pc_cb (pc_kp (w_fX12_isLesson _ _ _ _ _ FW.refl)) (fun _ g3 L3 f3 => ?_))
  have h3 : Rm S0 g g3 := (Rm.refl.so e1 (cz_0 (by decide) (by decide) (by decide))).f f3 (by decide)
  refine pc_ite (fun _ => pc_some h3) (fun _ => ?_)
  unfold fX12_slack_l18
  refine pc_loop (fun v => Rm S0 g v.2.1) (fun k hk v hv => ?_) h3
  obtain ⟨v3, g', L'⟩ := v
  replace hv : Rm S0 g g' := hv
  show Pc (fX12_slack_s18 fu p1 k v3 g' L') _
  unfold fX12_slack_s18
  refine pc_ite (fun _ => pc_some hv) (fun _ => pc_cb (rm_moreBy (by rw [m61 hv]; exact h61)) (fun _ ga La fa => pc_cb (pc_kp (w_fX12_later _ _ _ _ FW.refl)) (fun _ gb Lb fb => ?_)))
  have hb := (hv.tr fa).f fb (by decide)
  exact pc_ite (fun _ => pc_some hb) (fun _ => hk _ hb)
/-- two are swapped -/
theorem swaps_m {p1 p2 : Int32} : Pc (fX12_swaps fu p1 p2 g L) (fun _ g1 _ => (0 + p1).toNatClampNeg < 48 ∧ (0 + p2).toNatClampNeg < 48 ∧ g1 = upd2 (upd2 g 12 (0 + p1).toNatClampNeg (g 12 (0 + p2).toNatClampNeg)) 12 (0 + p2).toNatClampNeg (g 12 (0 + p1).toNatClampNeg)) := by
  unfold fX12_swaps
  refine pc_ck (fun a1 a2 => pc_lti (fun x ex => pc_ck (fun b1 b2 => pc_ck (fun _ _ => pc_st (fun g2 e2 => pc_ck (fun _ _ => pc_st (fun g3 e3 => pc_some ⟨by rw [nc]; omega, by rw [nc]; omega, ?_⟩)))))))
  rw [e3, e2, ex]
theorem rm_swap {p1 : Int32} : Pc (fX12_swap fu p1 g L) (fun _ g1 _ => Rm S0 g g1) := by
  unfold fX12_swap
  refine pc_st (fun g1 e1 => pc_cb (pc_kp (w_fX12_isWhat _ _ _ _ _ _ FW.refl)) (fun _ g3 L3 f3 => ?_))
  have h3 : Rm S0 g g3 := (Rm.refl.so e1 (cz_0 (by decide) (by decide) (by decide))).f f3 (by decide)
  refine pc_ite (fun _ => pc_some h3) (fun _ => pc_cb (pc_kp (w_fX12_lost _ _ _ _ FW.refl)) (fun x7 g8 L8 f8 => ?_))
  unfold fX12_swap_l26
  refine pc_loop (fun v => Rm S0 g v.2.2.2.1) (fun k hk v hv => ?_) (h3.f f8 (by decide))
  obtain ⟨v2, v3, v4, g', L'⟩ := v
  replace hv : Rm S0 g g' := hv
  show Pc (fX12_swap_s26 fu p1 k v2 v3 v4 g' L') _
  unfold fX12_swap_s26 fX12_swap_p114 fX12_swap_p119
  refine pc_ite (fun _ => pc_ite (fun _ => pc_some hv) (fun _ => pc_ite (fun _ => pc_some hv) (fun _ => pc_some hv))) (fun _ => pc_lti (fun x14 _ => ?_))
  unfold fX12_swap_l41
  refine pc_loop (fun v => Rm S0 g v.2.2.2.1) (fun k41 hk41 v hv => ?_) hv
  obtain ⟨w2, w3, w5, ga, La⟩ := v
  replace hv : Rm S0 g ga := hv
  show Pc (fX12_swap_s41 fu k p1 v4 k41 w2 w3 w5 ga La) _
  unfold fX12_swap_s41 fX12_swap_p93
  refine pc_ite (fun _ => hk _ hv) (fun _ => pc_cb swaps_m (fun _ gb Lb fb => pc_cb (pc_kp (w_fX12_lost _ _ _ _ FW.refl)) (fun _ gd Ld fd => pc_cb swaps_m (fun _ ge Le fe => ?_))))
  have key : Rm S0 ga ge := by
    obtain ⟨h1, h2, eb⟩ := fb
    obtain ⟨-, -, ee⟩ := fe
    have hd : Rm S0 gb gd := Rm.refl.f fd (by decide)
    generalize (0 + v4).toNatClampNeg = i at *
    generalize (0 + w5).toNatClampNeg = j at *
    have di : gd 12 i = gb 12 i := hd 12 i (cz_12 h1) id
    have dj : gd 12 j = gb 12 j := hd 12 j (cz_12 h2) id
    have bj : gb 12 j = ga 12 i := by rw [eb, upd2_at]
    have bi : gb 12 i = ga 12 j := by
      rw [eb]
      by_cases e : i = j
      · rw [e, upd2_at]
      · rw [upd2_nj e, upd2_at]
    intro a b hc hn
    rw [ee]
    by_cases hk : a = 12
    · subst hk
      by_cases hj : b = j
      · rw [hj, upd2_at, di, bi]
      · rw [upd2_nj hj]
        by_cases hi : b = i
        · rw [hi, upd2_at, dj, bj]
        · rw [upd2_nj hi, hd 12 b hc id, eb, upd2_nj hj, upd2_nj hi]
    · rw [upd2_nk hk, upd2_nk hk, hd a b hc id, eb, upd2_nk hk, upd2_nk hk]
  exact pc_ite (fun _ => pc_lti (fun _ _ => hk41 _ (hv.tr key))) (fun _ => hk41 _ (hv.tr key))
theorem rm_bestOf {p1 p2 p3 : Int32} : Pc (fX12_bestOf fu p1 p2 p3 g L) (fun _ g1 _ => Rm S0 g g1) := by
  unfold fX12_bestOf
  refine pc_ck (fun _ _ => pc_lti (fun x1 ex => ?_))
  unfold fX12_bestOf_l17
  refine pc_loop (fun v => Rm (S1 12 p1.toNatClampNeg) g v.2.2.2.1) (fun k hk v hv => ?_) Rm.refl
  obtain ⟨v5, v6, v7, g', L'⟩ := v
  replace hv : Rm (S1 12 p1.toNatClampNeg) g g' := hv
  show Pc (fX12_bestOf_s17 fu p1 p2 p3 x1 k v5 v6 v7 g' L') _
  unfold fX12_bestOf_s17 fX12_bestOf_p86 fX12_bestOf_p53 fX12_bestOf_p61
  refine pc_ite (fun _ => pc_ck (fun _ _ => pc_st (fun ga ea => pc_ite (fun _ => pc_some (hv.b1 ea ex)) (fun _ => pc_some (hv.b1 ea ex))))) (fun _ => pc_ck (fun _ _ => pc_st (fun ga ea => pc_cb (pc_kp (w_fX12_lost _ _ _ _ FW.refl)) (fun _ gb Lb fb => ?_))))
  have hb := (hv.st ea ⟨rfl, rfl⟩).f fb (by decide)
  exact pc_ite (fun _ => hk _ hb) (fun _ => pc_ite (fun _ => hk _ hb) (fun _ => hk _ hb))
theorem rm_room {p1 p2 : Int32} : Pc (fX12_room fu p1 p2 g L) (fun _ g1 _ => Rm S0 g g1) := by
  unfold fX12_room fX12_room_p36 fX12_room_p37
  refine pc_st (fun g1 e1 => pc_cb (pc_kp (w_fX12_isLesson _ _ _ _ _ FW.refl)) (fun _ g3 L3 f3 => ?_))
  have h3 : Rm S0 g g3 := (Rm.refl.so e1 (cz_0 (by decide) (by decide) (by decide))).f f3 (by decide)
  refine pc_ite (fun _ => pc_some h3) (fun _ => pc_cb (pc_kp (w_fX12_isWhat _ _ _ _ _ _ FW.refl)) (fun _ g8 L8 f8 => ?_))
  have h8 := h3.f f8 (by decide)
  exact pc_ite (fun _ => pc_some h8) (fun _ => pc_cb rm_bestOf (fun _ ga La fa => pc_some (h8.tr fa)))
theorem rm_limit {p1 p2 : Int32} : Pc (fX12_limit fu p1 p2 g L) (fun _ g1 _ => Rm S0 g g1) := by
  unfold fX12_limit fX12_limit_p36 fX12_limit_p37
  refine pc_st (fun g1 e1 => pc_cb (pc_kp (w_fX12_isLesson _ _ _ _ _ FW.refl)) (fun _ g3 L3 f3 => ?_))
  have h3 : Rm S0 g g3 := (Rm.refl.so e1 (cz_0 (by decide) (by decide) (by decide))).f f3 (by decide)
  refine pc_ite (fun _ => pc_some h3) (fun _ => pc_cb (pc_kp (w_fX12_isWhat _ _ _ _ _ _ FW.refl)) (fun _ g8 L8 f8 => ?_))
  have h8 := h3.f f8 (by decide)
  exact pc_ite (fun _ => pc_some h8) (fun _ => pc_cb rm_bestOf (fun _ ga La fa => pc_some (h8.tr fa)))
theorem rm_last : Pc (fX12_last fu g L) (fun _ g1 _ => Rm S0 g g1) := by
  unfold fX12_last fX12_last_l11
  refine pc_st (fun g1 e1 => ?_)
  refine pc_loop (fun v => Rm S0 g v.2.2.2.1) (fun k hk v hv => ?_) (Rm.refl.so e1 (cz_0 (by decide) (by decide) (by decide)))
  obtain ⟨v1, v2, v3, g', L'⟩ := v
  replace hv : Rm S0 g g' := hv
  show Pc (fX12_last_s11 fu k v1 v2 v3 g' L') _
  unfold fX12_last_s11 fX12_last_p68 fX12_last_p73
  refine pc_ite (fun _ => pc_some hv) (fun _ => pc_ck (fun a1 a2 => pc_lti (fun x3 ex => pc_ck (fun _ _ => pc_st (fun ga ea => pc_cb (pc_kp (w_fX12_lost _ _ _ _ FW.refl)) (fun _ gb Lb fb => pc_ck (fun _ _ => pc_st (fun gc ec => ?_))))))))
  have hc := hv.tr (((Rm.refl.st ea (S := S1 12 (0 + v3).toNatClampNeg) ⟨rfl, rfl⟩).f fb (by decide)).b1 ec ex)
  exact pc_ite (fun _ => hk _ hc) (fun _ => pc_ite (fun _ => hk _ hc) (fun _ => hk _ hc))
theorem rm_lostBy {p1 : Int32} : Pc (fX12_lostBy fu p1 g L) (fun _ g1 _ => Rm S0 g g1) := by
  unfold fX12_lostBy
  refine pc_lti (fun x1 ex => pc_st (fun ga ea => pc_cb (pc_kp (w_fX12_lost _ _ _ _ FW.refl)) (fun _ gb Lb fb => pc_st (fun gc ec => pc_some ?_))))
  exact ((Rm.refl.st ea (S := S1 0 52) ⟨rfl, rfl⟩).f fb (by decide)).b1 ec ex
theorem rm_compare {p1 : Int32} : Pc (fX12_compare fu p1 g L) (fun _ g1 _ => Rm S0 g g1) := by
  unfold fX12_compare fX12_compare_p23 fX12_compare_p24 fX12_compare_p40
  refine pc_st (fun g1 e1 => ?_)
  have h1 : Rm S0 g g1 := Rm.refl.so e1 (cz_0 (by decide) (by decide) (by decide))
  have go : ∀ t0 : Int32, Pc (cb (fX12_right fu t0 1 g1 L) (fun x2 g3 L4 => if x2 = 0 then some ((0 : Int32), (g3, L4)) else cb (fX12_lostBy fu p1 g3 L4) (fun x7 g8 L9 => some (x7, (g8, L9))))) (fun _ g1 _ => Rm S0 g g1) := by
    intro t0
    refine pc_cb (pc_kp (w_fX12_right _ _ _ _ _ _ FW.refl)) (fun _ g3 L3 f3 => ?_)
    have h3 := h1.f f3 (by decide)
    exact pc_ite (fun _ => pc_some h3) (fun _ => pc_cb rm_lostBy (fun _ ga La fa => pc_some (h3.tr fa)))
  exact pc_ite (fun _ => go 0) (fun _ => pc_ite (fun _ => go 0) (fun _ => go 1))
theorem rm_best : Pc (fX12_best fu g L) (fun _ g1 _ => Rm S0 g g1) := by
  unfold fX12_best fX12_best_l9
  refine pc_st (fun g1 e1 => ?_)
  refine pc_loop (fun v => Rm S0 g v.2.2.1) (fun k hk v hv => ?_) (Rm.refl.so e1 (cz_0 (by decide) (by decide) (by decide)))
  obtain ⟨v1, v2, g', L'⟩ := v
  replace hv : Rm S0 g g' := hv
  show Pc (fX12_best_s9 fu k v1 v2 g' L') _
  unfold fX12_best_s9 fX12_best_p32
  refine pc_ite (fun _ => pc_some hv) (fun _ => pc_cb rm_lostBy (fun _ ga La fa => pc_cb rm_lostBy (fun _ gb Lb fb => ?_)))
  exact pc_ite (fun _ => hk _ ((hv.tr fa).tr fb)) (fun _ => hk _ ((hv.tr fa).tr fb))
/-- kept aside -/
theorem cp_12 (hfu : 1180591620717411303424 ≤ fu) : Pc (fX12_copies_12_42 fu g L) (fun _ g1 _ => Rm S0 g g1 ∧ ∀ j, j < 48 → g1 42 j = g 12 j) := by
  refine pc_mo (pc_ex (uX12_copies_12_42 fu hfu g L)) (fun _ g1 _ e => ?_)
  rw [e]
  refine ⟨fun k j hc _ => ?_, fun j hj => cpd_at hj⟩
  rw [cpd_ne (by rcases hc with ⟨h, -⟩ | h | h | ⟨h, -⟩ <;> omega)]
theorem cp_42 (hfu : 1180591620717411303424 ≤ fu) {g0 : gT} (h : Rm (fun a _ => a = 12) g0 g) (h42 : ∀ j, j < 48 → g 42 j = g0 12 j) : Pc (fX12_copies_42_12 fu g L) (fun _ g1 _ => Rm S0 g0 g1 ∧ ∀ j, j < 48 → g1 42 j = g0 12 j) := by
  refine pc_mo (pc_ex (uX12_copies_42_12 fu hfu g L)) (fun _ g1 _ e => ?_)
  rw [e]
  refine ⟨fun k j hc _ => ?_, fun j hj => by rw [cpd_ne (by decide)]; exact h42 j hj⟩
  by_cases hk : k = 12
  · subst hk
    have hj : j < 48 := by
      rcases hc with ⟨-, h⟩ | h | h | ⟨h, -⟩
      · exact h
      · exact absurd h (by decide)
      · exact absurd h (by decide)
      · exact absurd h (by decide)
    rw [cpd_at hj]; exact h42 j hj
  · rw [cpd_ne hk]; exact h k j hc hk
theorem rm_bell (hfu : 1180591620717411303424 ≤ fu) {p1 : Int32} : Pc (fX12_bell fu p1 g L) (fun _ g1 _ => Rm S0 g g1) := by
  unfold fX12_bell
  refine pc_st (fun g1 e1 => pc_cb (pc_kp (w_fX12_within _ _ _ _ _ _ _ FW.refl)) (fun _ g3 L3 f3 => pc_cb (pc_kp (w_fX12_right _ _ _ _ _ _ FW.refl)) (fun _ g7 L7 f7 => ?_)))
  have h7 : Rm S0 g g7 := ((Rm.refl.so e1 (cz_0 (by decide) (by decide) (by decide))).f f3 (by decide)).f f7 (by decide)
  refine pc_ite (fun _ => pc_some h7) (fun _ => pc_cb (pc_kp (w_fX12_lost _ _ _ _ FW.refl)) (fun x11 g12 L12 f12 => pc_cb (cp_12 hfu) (fun _ g16 L16 f16 => ?_)))
  have h12 := h7.f f12 (by decide)
  unfold fX12_bell_l41
  refine pc_loop (fun v => Rm (fun a _ => a = 12) g v.2.1 ∧ ∀ j, j < 48 → v.2.1 42 j = g 12 j) (fun k hk v hv => ?_) ⟨(h12.tr f16.1).m0, fun j hj => (f16.2 j hj).trans (h12 12 j (cz_12 hj) id)⟩
  obtain ⟨v3, g', L'⟩ := v
  obtain ⟨hv, hs⟩ := hv
  replace hv : Rm (fun a _ => a = 12) g g' := hv
  replace hs : ∀ j, j < 48 → g' 42 j = g 12 j := hs
  show Pc (fX12_bell_s41 fu p1 x11 k v3 g' L') _
  unfold fX12_bell_s41 fX12_bell_p70
  refine pc_ite (fun _ => pc_cb (pc_kp (w_fX12_lost _ _ _ _ FW.refl)) (fun _ ga La fa => pc_lti (fun _ _ => pc_cb (cp_42 hfu (hv.f fa (by decide)) (fun j hj => by rw [fa.c (k := 42) (by decide) (by decide)]; exact hs j hj)) (fun _ gb Lb fb => pc_some fb.1)))) (fun _ => pc_ck (fun _ _ => pc_ite (fun _ => hk _ ⟨hv, hs⟩) (fun _ => pc_ck (fun _ _ => pc_st (fun ga ea => hk _ ⟨hv.st ea rfl, fun j hj => ?_⟩)))))
  show ga 42 j = g 12 j
  rw [ea, upd2_nk (by decide)]; exact hs j hj
theorem rm_harm {p1 p2 : Int32} : Pc (fX12_harm fu p1 p2 g L) (fun _ g1 _ => Rm S0 g g1) := by
  unfold fX12_harm fX12_harm_p21
  refine pc_st (fun g1 e1 => pc_cb (pc_kp (w_fX12_isLesson _ _ _ _ _ FW.refl)) (fun _ g3 L3 f3 => ?_))
  have h3 : Rm S0 g g3 := (Rm.refl.so e1 (cz_0 (by decide) (by decide) (by decide))).f f3 (by decide)
  refine pc_ite (fun _ => pc_some h3) (fun _ => pc_cb (pc_kp (w_fX12_isLesson _ _ _ _ _ FW.refl)) (fun _ g8 L8 f8 => ?_))
  have h8 := h3.f f8 (by decide)
  refine pc_ite (fun _ => pc_some h8) (fun _ => pc_cb (pc_kp (w_fX12_works0 _ _ _ _ FW.refl)) (fun _ g13 L13 f13 => pc_cb (pc_kp (w_fX12_late _ _ _ _ _ FW.refl)) (fun _ g17 L17 f17 => pc_ck (fun a1 a2 => pc_lti (fun x20 ex => pc_ck (fun _ _ => pc_st (fun g21 e21 => pc_cb (pc_kp (w_fX12_works0 _ _ _ _ FW.refl)) (fun _ g23 L23 f23 => pc_ck (fun _ _ => pc_st (fun g26 e26 => pc_cb (pc_kp (w_fX12_late _ _ _ _ _ FW.refl)) (fun _ g28 L28 f28 => pc_some ?_)))))))))))
  have h17 := (h8.f f13 (by decide)).f f17 (by decide)
  exact (h17.tr (((Rm.refl.st e21 (S := S1 12 (0 + p1).toNatClampNeg) ⟨rfl, rfl⟩).f f23 (by decide)).b1 e26 ex)).f f28 (by decide)
theorem rm_pair (hfu : 1180591620717411303424 ≤ fu) {p1 : Int32} : Pc (fX12_pair fu p1 g L) (fun _ g1 _ => Rm S0 g g1) := by
  unfold fX12_pair
  refine pc_st (fun g1 e1 => pc_cb (pc_kp (w_fX12_isWhat _ _ _ _ _ _ FW.refl)) (fun _ g3 L3 f3 => ?_))
  have h3 : Rm S0 g g3 := (Rm.refl.so e1 (cz_0 (by decide) (by decide) (by decide))).f f3 (by decide)
  refine pc_ite (fun _ => pc_some h3) (fun _ => pc_cb (cp_12 hfu) (fun _ g8 L8 f8 => ?_))
  unfold fX12_pair_l35
  refine pc_loop (fun v => Rm S0 g v.2.2.2.1 ∧ ∀ j, j < 48 → v.2.2.2.1 42 j = g 12 j) (fun k hk v hv => ?_) ⟨h3.tr f8.1, fun j hj => (f8.2 j hj).trans (h3 12 j (cz_12 hj) id)⟩
  obtain ⟨v2, v3, v4, g', L'⟩ := v
  obtain ⟨hv, hs⟩ := hv
  replace hv : Rm S0 g g' := hv
  replace hs : ∀ j, j < 48 → g' 42 j = g 12 j := hs
  show Pc (fX12_pair_s35 fu p1 k v2 v3 v4 g' L') _
  unfold fX12_pair_s35 fX12_pair_p144 fX12_pair_p149
  refine pc_ite (fun _ => pc_ite (fun _ => pc_some hv) (fun _ => pc_ite (fun _ => pc_some hv) (fun _ => pc_some hv))) (fun _ => pc_lti (fun x14 _ => ?_))
  unfold fX12_pair_l50
  refine pc_loop (fun v => Rm S0 g v.2.2.2.1 ∧ ∀ j, j < 48 → v.2.2.2.1 42 j = g 12 j) (fun k50 hk50 v hv => ?_) ⟨hv, hs⟩
  obtain ⟨w2, w3, w5, g', L'⟩ := v
  obtain ⟨hv, hs⟩ := hv
  replace hv : Rm S0 g g' := hv
  replace hs : ∀ j, j < 48 → g' 42 j = g 12 j := hs
  show Pc (fX12_pair_s50 fu k p1 v4 k50 w2 w3 w5 g' L') _
  unfold fX12_pair_s50 fX12_pair_p111 fX12_pair_p123
  refine pc_ite (fun _ => hk _ ⟨hv, hs⟩) (fun _ => pc_ck (fun _ _ => pc_st (fun ga ea => pc_ck (fun _ _ => pc_st (fun gb eb => pc_cb (pc_kp (w_fX12_lost _ _ _ _ FW.refl)) (fun _ gc Lc fc => pc_cb (cp_42 hfu (((hv.m0.st ea rfl).st eb rfl).f fc (by decide)) (fun j hj => by rw [fc.c (k := 42) (by decide) (by decide), eb, upd2_nk (by decide), ea, upd2_nk (by decide)]; exact hs j hj)) (fun _ gd Ld fd => ?_)))))))
  exact pc_ite (fun _ => pc_lti (fun _ _ => hk50 _ fd)) (fun _ => pc_ite (fun _ => pc_lti (fun _ _ => hk50 _ fd)) (fun _ => hk50 _ fd))
theorem rm_pause (hfu : 1180591620717411303424 ≤ fu) {p1 p2 : Int32} : Pc (fX12_pause fu p1 p2 g L) (fun _ g1 _ => Rm S0 g g1) := by
  unfold fX12_pause fX12_pause_p29
  refine pc_st (fun g1 e1 => pc_cb (pc_kp (w_fX12_isWhat _ _ _ _ _ _ FW.refl)) (fun _ g3 L3 f3 => ?_))
  have h3 : Rm S0 g g3 := (Rm.refl.so e1 (cz_0 (by decide) (by decide) (by decide))).f f3 (by decide)
  refine pc_ite (fun _ => pc_some h3) (fun _ => pc_cb (pc_kp (w_fX12_within _ _ _ _ _ _ _ FW.refl)) (fun _ g8 L8 f8 => pc_cb (pc_kp (w_fX12_right _ _ _ _ _ _ FW.refl)) (fun _ g12 L12 f12 => ?_)))
  have h12 := (h3.f f8 (by decide)).f f12 (by decide)
  refine pc_ite (fun _ => pc_some h12) (fun _ => pc_cb (cp_12 hfu) (fun _ g17 L17 f17 => ?_))
  unfold fX12_pause_l51
  refine pc_loop (fun v => Rm S0 g v.2.2.2.1 ∧ ∀ j, j < 48 → v.2.2.2.1 42 j = g 12 j) (fun k hk v hv => ?_) ⟨h12.tr f17.1, fun j hj => (f17.2 j hj).trans (h12 12 j (cz_12 hj) id)⟩
  obtain ⟨v3, v4, v5, g', L'⟩ := v
  obtain ⟨hv, hs⟩ := hv
  replace hv : Rm S0 g g' := hv
  replace hs : ∀ j, j < 48 → g' 42 j = g 12 j := hs
  show Pc (fX12_pause_s51 fu p1 p2 k v3 v4 v5 g' L') _
  unfold fX12_pause_s51 fX12_pause_p191 fX12_pause_p197
  refine pc_ite (fun _ => pc_ite (fun _ => pc_some hv) (fun _ => pc_ite (fun _ => pc_some hv) (fun _ => pc_some hv))) (fun _ => ?_)
  unfold fX12_pause_l63
  refine pc_loop (fun v => Rm (fun a _ => a = 12) g v.2.1 ∧ ∀ j, j < 48 → v.2.1 42 j = g 12 j) (fun k63 hk63 v hv => ?_) ⟨hv.m0, hs⟩
  obtain ⟨v6, g', L'⟩ := v
  obtain ⟨hv, hs⟩ := hv
  replace hv : Rm (fun a _ => a = 12) g g' := hv
  replace hs : ∀ j, j < 48 → g' 42 j = g 12 j := hs
  show Pc (fX12_pause_s63 fu k p1 p2 v3 v4 v5 k63 v6 g' L') _
  unfold fX12_pause_s63 fX12_pause_p164 fX12_pause_p176 fX12_pause_p105
  have st : ∀ (ga : gT) (i : Nat) (x : Int32), ga = upd2 g' 12 i x → Rm (fun a _ => a = 12) g ga ∧ ∀ j, j < 48 → ga 42 j = g 12 j := fun ga i x ea => ⟨hv.st ea rfl, fun j hj => by rw [ea, upd2_nk (by decide)]; exact hs j hj⟩
  refine pc_ite (fun _ => pc_cb (pc_kp (w_fX12_lost _ _ _ _ FW.refl)) (fun _ ga La fa => pc_cb (cp_42 hfu (hv.f fa (by decide)) (fun j hj => by rw [fa.c (k := 42) (by decide) (by decide)]; exact hs j hj)) (fun _ gb Lb fb => ?_))) (fun _ => pc_ck (fun _ _ => pc_ck (fun _ _ => pc_ck (fun _ _ => pc_ite (fun _ => pc_ck (fun _ _ => pc_st (fun ga ea => hk63 _ (st ga _ _ ea)))) (fun _ => pc_ck (fun _ _ => pc_st (fun ga ea => hk63 _ (st ga _ _ ea))))))))
  exact pc_ite (fun _ => pc_ck (fun _ _ => pc_lti (fun _ _ => hk _ fb))) (fun _ => pc_ite (fun _ => hk _ fb) (fun _ => pc_ite (fun _ => pc_ck (fun _ _ => pc_ite (fun _ => pc_ck (fun _ _ => pc_lti (fun _ _ => hk _ fb))) (fun _ => hk _ fb))) (fun _ => pc_ck (fun _ _ => pc_lti (fun _ _ => hk _ fb)))))
theorem rm_shift {p1 p2 : Int32} : Pc (fX12_shift fu p1 p2 g L) (fun _ g1 _ => Rm S0 g g1) := by
  unfold fX12_shift fX12_shift_p22
  refine pc_st (fun g1 e1 => pc_cb (pc_kp (w_fX12_isLesson _ _ _ _ _ FW.refl)) (fun _ g3 L3 f3 => ?_))
  have h3 : Rm S0 g g3 := (Rm.refl.so e1 (cz_0 (by decide) (by decide) (by decide))).f f3 (by decide)
  refine pc_ite (fun _ => pc_some h3) (fun _ => pc_cb (pc_kp (w_fX12_isWhat _ _ _ _ _ _ FW.refl)) (fun _ g8 L8 f8 => ?_))
  have h8 := h3.f f8 (by decide)
  refine pc_ite (fun _ => pc_some h8) (fun _ => pc_ck (fun _ _ => pc_lti (fun x12 ex12 => pc_ck (fun _ _ => pc_lti (fun x13 ex13 => ?_)))))
  have ex12' : x12 = g 1 p1.toNatClampNeg := ex12.trans (h8 1 _ (Or.inr (Or.inl rfl)) id)
  have ex13' : x13 = g 2 p1.toNatClampNeg := ex13.trans (h8 2 _ (Or.inr (Or.inr (Or.inl rfl))) id)
  unfold fX12_shift_l52
  refine pc_loop (fun v => Rm (fun a b => (a = 1 ∨ a = 2) ∧ b = p1.toNatClampNeg) g v.2.2.2.2.1) (fun k hk v hv => ?_) h8.m0
  obtain ⟨v5, v6, v7, v8, g', L'⟩ := v
  replace hv : Rm (fun a b => (a = 1 ∨ a = 2) ∧ b = p1.toNatClampNeg) g g' := hv
  show Pc (fX12_shift_s52 fu p1 p2 x12 x13 k v5 v6 v7 v8 g' L') _
  unfold fX12_shift_s52 fX12_shift_p165 fX12_shift_p133 fX12_shift_p122
  refine pc_ite (fun _ => pc_ck (fun _ _ => pc_st (fun ga ea => pc_ck (fun _ _ => pc_st (fun gb eb => ?_))))) (fun _ => pc_ite (fun _ => hk _ hv) (fun _ => pc_ite (fun _ => pc_ck (fun _ _ => pc_st (fun ga ea => pc_ck (fun _ _ => pc_st (fun gb eb => pc_cb (pc_kp (w_fX12_lost _ _ _ _ FW.refl)) (fun _ gc Lc fc => ?_)))))) (fun _ => hk _ hv)))
  · have hb := ((hv.bk ea ex12').bk eb ex13').mo (S' := S0) (fun a b h => by
      obtain ⟨⟨⟨h1, h2⟩, h3⟩, h4⟩ := h
      rcases h1 with h1 | h1
      · exact h3 ⟨h1, h2⟩
      · exact h4 ⟨h1, h2⟩)
    exact pc_ite (fun _ => pc_some hb) (fun _ => pc_some hb)
  · have hc := (((hv.st ea ⟨Or.inl rfl, rfl⟩).st eb ⟨Or.inr rfl, rfl⟩).f fc (by decide))
    exact pc_ite (fun _ => hk _ hc) (fun _ => pc_ite (fun _ => hk _ hc) (fun _ => hk _ hc))
theorem rm_fits {p1 : Int32} : Pc (fX12_fits fu p1 g L) (fun _ g1 _ => Rm S0 g g1) := by
  unfold fX12_fits
  refine pc_st (fun g1 e1 => pc_cb (pc_kp (w_fX12_isWhat _ _ _ _ _ _ FW.refl)) (fun _ g3 L3 f3 => ?_))
  have h3 : Rm S0 g g3 := (Rm.refl.so e1 (cz_0 (by decide) (by decide) (by decide))).f f3 (by decide)
  refine pc_ite (fun _ => pc_some h3) (fun _ => ?_)
  unfold fX12_fits_l29
  refine pc_loop (fun v => Rm S0 g v.2.2.2.2.2.1) (fun k hk v hv => ?_) h3
  obtain ⟨v2, v3, v4, v5, v6, g', L'⟩ := v
  replace hv : Rm S0 g g' := hv
  show Pc (fX12_fits_s29 fu p1 k v2 v3 v4 v5 v6 g' L') _
  unfold fX12_fits_s29 fX12_fits_p177
  refine pc_ite (fun _ => pc_ite (fun _ => pc_some hv) (fun _ => pc_ite (fun _ => pc_some hv) (fun _ => pc_ite (fun _ => pc_some hv) (fun _ => pc_some hv)))) (fun _ => pc_ck (fun a1 a2 => pc_lti (fun x11 ex => ?_)))
  have ex' : x11 = g 12 (0 + v6).toNatClampNeg := ex.trans (hv 12 _ (cz_12 (by rw [nc]; omega)) id)
  unfold fX12_fits_l52
  refine pc_loop (fun v => Rm (S1 12 (0 + v6).toNatClampNeg) g v.2.2.2.2.2.1) (fun k52 hk52 v hv => ?_) hv.m0
  obtain ⟨w2, w3, w4, w5, w8, g', L'⟩ := v
  replace hv : Rm (S1 12 (0 + v6).toNatClampNeg) g g' := hv
  show Pc (fX12_fits_s52 fu k p1 v6 x11 k52 w2 w3 w4 w5 w8 g' L') _
  unfold fX12_fits_s52 fX12_fits_p126 fX12_fits_p97 fX12_fits_p119 fX12_fits_p115 fX12_fits_p120 fX12_fits_p126
  refine pc_ite (fun _ => pc_ck (fun _ _ => pc_st (fun ga ea => hk _ (hv.b1 ea ex')))) (fun _ => pc_ck (fun _ _ => pc_st (fun ga ea => pc_cb (pc_kp (w_fX12_isSeen _ _ _ _ FW.refl)) (fun _ gb Lb fb => ?_))))
  have hb := (hv.st ea ⟨rfl, rfl⟩).f fb (by decide)
  have p97 : ∀ (a b c d : Int32), Pc (if w5 = 0 then k52 (a, b, v6, 0, w8 + 1, gb, Lb) else if w4 = -1 then k52 (a, b, v6, 1, w8 + 1, gb, Lb) else if w4 = v6 then k52 (a, b, v6, 1, w8 + 1, gb, Lb) else k52 (a, b, v6, 0, w8 + 1, gb, Lb)) (fun _ g1 _ => Rm S0 g g1) := fun a b c d => pc_ite (fun _ => hk52 _ hb) (fun _ => pc_ite (fun _ => hk52 _ hb) (fun _ => pc_ite (fun _ => hk52 _ hb) (fun _ => hk52 _ hb)))
  exact pc_ite (fun _ => hk52 _ hb) (fun _ => pc_ite (fun _ => pc_lti (fun x _ => p97 _ x 0 0)) (fun _ => p97 _ _ 0 0))
theorem rm_weighs {p1 p2 : Int32} : Pc (fX12_weighs fu p1 p2 g L) (fun _ g1 _ => Rm (S1 0 60) g g1 ∧ g1 0 60 = 0) := by
  unfold fX12_weighs fX12_weighs_l5
  refine pc_loop (fun v => Rm (S1 0 60) g v.2.2.1) (fun k hk v hv => ?_) Rm.refl
  obtain ⟨v3, v5, g', L'⟩ := v
  replace hv : Rm (S1 0 60) g g' := hv
  show Pc (fX12_weighs_s5 fu p1 p2 k v3 v5 g' L') _
  unfold fX12_weighs_s5
  refine pc_ite (fun _ => pc_st (fun ga ea => pc_some ⟨hv.st ea ⟨rfl, rfl⟩, by rw [ea]; exact upd2_at⟩)) (fun _ => pc_st (fun ga ea => ?_))
  unfold fX12_weighs_l30
  refine pc_loop (fun v => Rm (S1 0 60) g v.2.2.1) (fun k30 hk30 v hv => ?_) (hv.st ea ⟨rfl, rfl⟩)
  obtain ⟨v6, v8, g', L'⟩ := v
  replace hv : Rm (S1 0 60) g g' := hv
  show Pc (fX12_weighs_s30 fu k p1 p2 v3 v5 k30 v6 v8 g' L') _
  unfold fX12_weighs_s30 fX12_weighs_p169
  have p122 : ∀ (a : Int64) (b c : Int32), Pc (fX12_weighs_p122 fu k k30 p1 p2 v3 v5 a v8 b c g' L') (fun _ g1 _ => Rm (S1 0 60) g g1 ∧ g1 0 60 = 0) := by
    intro a b c
    unfold fX12_weighs_p122
    exact pc_st (fun ga ea => hk30 _ (hv.st ea ⟨rfl, rfl⟩))
  have p96 : ∀ (t0 : Int32) (a b : Int64), Pc (fX12_weighs_p96 fu k k30 p1 p2 v3 v5 v8 t0 a b g' L') (fun _ g1 _ => Rm (S1 0 60) g g1 ∧ g1 0 60 = 0) := by
    intro t0 a b
    unfold fX12_weighs_p96
    intro x g1 L1
    exact (pc_ite (fun _ => pc_ck (fun _ _ => p122 _ _ _)) (fun _ => p122 _ _ _) : Pc _ _) x g1 L1
  have p55 : ∀ t0 : Int32, Pc (fX12_weighs_p55 fu k k30 p1 p2 v3 v5 v6 v8 t0 g' L') (fun _ g1 _ => Rm (S1 0 60) g g1 ∧ g1 0 60 = 0) := by
    intro t0
    unfold fX12_weighs_p55
    exact pc_ite (fun _ => pc_ck (fun _ _ => pc_ck (fun _ _ => p96 _ _ _))) (fun _ => pc_ck (fun _ _ => pc_ck (fun _ _ => p96 _ _ _)))
  refine pc_ite (fun _ => pc_cb (pc_kp (w_fX12_works0 _ _ _ _ FW.refl)) (fun _ ga La fa => ?_)) (fun _ => pc_ite (fun _ => p55 1) (fun _ => p55 0))
  have ha := hv.f fa (by decide)
  refine pc_ite (fun _ => pc_cb (pc_kp (w_fX12_late _ _ _ _ _ FW.refl)) (fun _ gb Lb fb => ?_)) (fun _ => pc_cb (pc_kp (w_fX12_late _ _ _ _ _ FW.refl)) (fun _ gb Lb fb => ?_))
  · intro x g1 L1
    exact hk _ (ha.f fb (by decide)) x g1 L1
  · have hb := ha.f fb (by decide)
    refine pc_ite (fun _ => ?_) (fun _ => ?_)
    · intro x g1 L1
      exact hk _ hb x g1 L1
    · intro x g1 L1
      exact hk _ hb x g1 L1
theorem rm_w {g1 : gT} (h60 : g 0 60 = 0) (h : Rm (S1 0 60) g g1 ∧ g1 0 60 = 0) : Rm S0 g g1 := fun k j hc _ => by
  by_cases e : k = 0 ∧ j = 60
  · obtain ⟨rfl, rfl⟩ := e
    rw [h.2, h60]
  · exact h.1 k j hc e
theorem rm_chance {p1 p2 p3 : Int32} (h60 : g 0 60 = 0) : Pc (fX12_chance fu p1 p2 p3 g L) (fun _ g1 _ => Rm S0 g g1) := by
  unfold fX12_chance fX12_chance_p38
  refine pc_st (fun g1 e1 => pc_cb (pc_kp (w_fX12_isLesson _ _ _ _ _ FW.refl)) (fun _ g3 L3 f3 => ?_))
  have h3 : Rm S0 g g3 := (Rm.refl.so e1 (cz_0 (by decide) (by decide) (by decide))).f f3 (by decide)
  refine pc_ite (fun _ => pc_some h3) (fun _ => pc_cb (pc_kp (w_fX12_isWhat _ _ _ _ _ _ FW.refl)) (fun _ g8 L8 f8 => ?_))
  have h8 := h3.f f8 (by decide)
  refine pc_ite (fun _ => pc_some h8) (fun _ => pc_cb (pc_kp (w_fX12_within _ _ _ _ _ _ _ FW.refl)) (fun _ g13 L13 f13 => pc_cb (pc_kp (w_fX12_right _ _ _ _ _ _ FW.refl)) (fun _ g17 L17 f17 => ?_)))
  have h17 := (h8.f f13 (by decide)).f f17 (by decide)
  refine pc_ite (fun _ => pc_some h17) (fun _ => pc_cb (pc_kp (w_fX12_asks _ _ _ _ FW.refl)) (fun _ g22 L22 f22 => pc_cb rm_weighs (fun _ g26 L26 f26 => pc_cb (P := fun _ g1 _ => Rm S0 g26 g1) (pc_mo (pc_kp (w_fX12_tens _ _ _ _ FW.refl)) (fun _ _ _ f => Rm.refl.f f (by decide))) (fun _ g30 L30 f30 => pc_cb (P := fun _ g1 _ => Rm S0 g30 g1) (pc_mo (pc_kp (w_fX12_portion _ _ _ _ _ _ _ FW.refl)) (fun _ _ _ f => Rm.refl.f f (by decide))) (fun _ g34 L34 f34 => pc_some ?_)))))
  have h22 := h17.f f22 (by decide)
  exact ((h22.tr (rm_w (by rw [m60 h22]; exact h60) f26)).tr f30).tr f34
theorem rm_mean {p1 p2 : Int32} (h60 : g 0 60 = 0) : Pc (fX12_mean fu p1 p2 g L) (fun _ g1 _ => Rm S0 g g1) := by
  unfold fX12_mean fX12_mean_p22
  refine pc_st (fun g1 e1 => pc_cb (pc_kp (w_fX12_isLesson _ _ _ _ _ FW.refl)) (fun _ g3 L3 f3 => ?_))
  have h3 : Rm S0 g g3 := (Rm.refl.so e1 (cz_0 (by decide) (by decide) (by decide))).f f3 (by decide)
  refine pc_ite (fun _ => pc_some h3) (fun _ => pc_cb (pc_kp (w_fX12_isWhat _ _ _ _ _ _ FW.refl)) (fun _ g8 L8 f8 => ?_))
  have h8 := h3.f f8 (by decide)
  refine pc_ite (fun _ => pc_some h8) (fun _ => pc_cb (pc_kp (w_fX12_asks _ _ _ _ FW.refl)) (fun _ g22 L22 f22 => pc_cb rm_weighs (fun _ g26 L26 f26 => pc_cb (P := fun _ g1 _ => Rm S0 g26 g1) (pc_mo (pc_kp (w_fX12_tens _ _ _ _ FW.refl)) (fun _ _ _ f => Rm.refl.f f (by decide))) (fun _ g30 L30 f30 => pc_cb (P := fun _ g1 _ => Rm S0 g30 g1) (pc_mo (pc_kp (w_fX12_portion _ _ _ _ _ _ _ FW.refl)) (fun _ _ _ f => Rm.refl.f f (by decide))) (fun _ g34 L34 f34 => pc_some ?_)))))
  have h22 := h8.f f22 (by decide)
  exact ((h22.tr (rm_w (by rw [m60 h22]; exact h60) f26)).tr f30).tr f34
theorem rm_term {p1 p2 p3 p4 : Int32} (h60 : g 0 60 = 0) : Pc (fX12_term fu p1 p2 p3 p4 g L) (fun _ g1 _ => Rm S0 g g1) := by
  unfold fX12_term fX12_term_p38
  refine pc_st (fun g1 e1 => pc_cb (pc_kp (w_fX12_isLesson _ _ _ _ _ FW.refl)) (fun _ g3 L3 f3 => ?_))
  have h3 : Rm S0 g g3 := (Rm.refl.so e1 (cz_0 (by decide) (by decide) (by decide))).f f3 (by decide)
  refine pc_ite (fun _ => pc_some h3) (fun _ => pc_cb (pc_kp (w_fX12_isWhat _ _ _ _ _ _ FW.refl)) (fun _ g8 L8 f8 => ?_))
  have h8 := h3.f f8 (by decide)
  refine pc_ite (fun _ => pc_some h8) (fun _ => pc_cb (pc_kp (w_fX12_within _ _ _ _ _ _ _ FW.refl)) (fun _ g13 L13 f13 => pc_cb (pc_kp (w_fX12_right _ _ _ _ _ _ FW.refl)) (fun _ g17 L17 f17 => ?_)))
  have h17 := (h8.f f13 (by decide)).f f17 (by decide)
  refine pc_ite (fun _ => pc_some h17) (fun _ => pc_st (fun g21 e21 => ?_))
  have h21 : Rm S0 g g21 := h17.so e21 (cz_0 (by decide) (by decide) (by decide))
  unfold fX12_term_l57
  refine pc_loop (fun v => Rm (S1 0 60) g v.2.2.2.2.1) (fun k hk v hv => ?_) h21.m0
  obtain ⟨v5, v6, v7, v8, g', L'⟩ := v
  replace hv : Rm (S1 0 60) g g' := hv
  show Pc (fX12_term_s57 fu p2 p3 p4 k v5 v6 v7 v8 g' L') _
  unfold fX12_term_s57 fX12_term_p208
  refine pc_ite (fun _ => pc_st (fun ga ea => ?_)) (fun _ => pc_st (fun ga ea => ?_))
  · have ha := hv.b1 ea h60.symm
    exact pc_ite (fun _ => pc_some ha) (fun _ => pc_ite (fun _ => pc_some ha) (fun _ => pc_some ha))
  unfold fX12_term_l71
  refine pc_loop (fun v => Rm (S1 0 60) g v.2.1) (fun k71 hk71 v hv => ?_) (hv.st ea ⟨rfl, rfl⟩)
  obtain ⟨v9, g', L'⟩ := v
  replace hv : Rm (S1 0 60) g g' := hv
  show Pc (fX12_term_s71 fu k p2 p3 p4 v5 v6 v7 v8 k71 v9 g' L') _
  unfold fX12_term_s71 fX12_term_p121 fX12_term_p154 fX12_term_p171
  refine pc_ite (fun _ => pc_cb (pc_kp (w_fX12_lost _ _ _ _ FW.refl)) (fun _ ga La fa => pc_lti (fun _ _ => ?_))) (fun _ => pc_ck (fun _ _ => pc_ite (fun _ => hk71 _ hv) (fun _ => pc_cb (pc_kp (w_fX12_draw _ _ _ _ _ FW.refl)) (fun _ ga La fa => pc_ck (fun _ _ => pc_ite (fun _ => hk71 _ (hv.f fa (by decide))) (fun _ => pc_st (fun gb eb => hk71 _ ((hv.f fa (by decide)).st eb ⟨rfl, rfl⟩))))))))
  have ha := hv.f fa (by decide)
  refine pc_ite (fun _ => pc_cb (pc_kp (w_fX12_late _ _ _ _ _ FW.refl)) (fun _ gb Lb fb => ?_)) (fun _ => pc_cb (pc_kp (w_fX12_late _ _ _ _ _ FW.refl)) (fun _ gb Lb fb => ?_))
  · exact pc_ite (fun _ => pc_lti (fun _ _ => hk _ (ha.f fb (by decide)))) (fun _ => pc_lti (fun _ _ => hk _ (ha.f fb (by decide))))
  · exact pc_ite (fun _ => pc_lti (fun _ _ => hk _ (ha.f fb (by decide)))) (fun _ => pc_lti (fun _ _ => hk _ (ha.f fb (by decide))))
/-- the gaps' row -/
abbrev Sg (v : Int) : Nat → Nat → Prop := fun a b => a = 12 ∧ 12 + v ≤ (b : Int) ∧ b < 24
theorem rm_gaps {p1 p2 p3 : Int32} : Pc (fX12_gaps fu p1 p2 p3 g L) (fun _ g1 _ => Rm S0 g g1) := by
  -- the end: the row is put back
  have fin : ∀ (v6 : Int32) (ga : gT) (La : lT), Rm (Sg 0) g ga → (∀ j, j < 12 → ga 39 j = g 12 (12 + j)) → Pc (fX12_gaps_l295 fu v6 0 ga La) (fun _ g1 _ => Rm S0 g g1) := by
    intro v6 ga La ha sa
    unfold fX12_gaps_l295
    refine pc_loop (fun v => (0 ≤ v.1.toInt ∧ v.1.toInt ≤ 12) ∧ Rm (Sg v.1.toInt) g v.2.1 ∧ ∀ j, j < 12 → v.2.1 39 j = g 12 (12 + j)) (fun k hk v hv => ?_) ⟨(show 0 ≤ (0 : Int32).toInt ∧ (0 : Int32).toInt ≤ 12 from by decide), ha, sa⟩
    obtain ⟨v7, g', L'⟩ := v
    obtain ⟨hr, hv, hs⟩ := hv
    replace hr : 0 ≤ v7.toInt ∧ v7.toInt ≤ 12 := hr
    replace hv : Rm (Sg v7.toInt) g g' := hv
    replace hs : ∀ j, j < 12 → g' 39 j = g 12 (12 + j) := hs
    show Pc (fX12_gaps_s295 fu v6 k v7 g' L') _
    unfold fX12_gaps_s295 fX12_gaps_p336
    refine pc_ite (fun c => ?_) (fun c => pc_ck (fun _ _ => pc_ck (fun _ _ => pc_st (fun gb eb => hk _ ?_))))
    · have c := icc_le (m := 12) (n := v7.toInt) (by decide) rfl c
      have h0 : Rm S0 g g' := hv.mo (fun a b h => by have := h.2; omega)
      exact pc_ite (fun _ => pc_some h0) (fun _ => pc_st (fun gc ec => pc_some (h0.so ec (cz_0 (by decide) (by decide) (by decide)))))
    · have c := icc_nle (m := 12) (n := v7.toInt) (by decide) rfl c
      have ew : (v7 + 1).toInt = v7.toInt + 1 := ic_addc rfl (by decide) (by omega) (by omega)
      have e12 : (12 + v7).toInt = 12 + v7.toInt := ic_addc (by decide) rfl (by omega) (by omega)
      have eN : (12 + v7).toNatClampNeg = 12 + v7.toInt.toNat := by rw [nc, e12]; omega
      have eM : v7.toNatClampNeg = v7.toInt.toNat := by rw [nc]
      rw [eN, eM] at eb
      refine ⟨(show 0 ≤ (v7 + 1).toInt ∧ (v7 + 1).toInt ≤ 12 by omega), (hv.bk eb (hs _ (by omega))).mo (fun a b h => ?_), fun j hj => ?_⟩
      · obtain ⟨⟨h1, h2, h3⟩, h4⟩ := h
        refine ⟨h1, ?_, h3⟩
        show 12 + (v7 + 1).toInt ≤ (b : Int)
        have : b ≠ 12 + v7.toInt.toNat := fun e => h4 ⟨h1, e⟩
        omega
      · show gb 39 j = _
        rw [eb, upd2_nk (by decide)]; exact hs j hj
  have tr0 : ∀ {ga gb : gT}, Rm S0 ga gb → Rm (Sg 0) ga gb := fun h => h.m0
  -- all rows of gaps
  have mid : ∀ (v4 v5 : Int32) (ga : gT) (La : lT), (0 ≤ v4.toInt ∧ v4.toInt ≤ 5) → Rm (Sg 0) g ga → (∀ j, j < 12 → ga 39 j = g 12 (12 + j)) → (∀ k : Nat, (k : Int) < v4.toInt → 0 ≤ (ga 40 k).toInt ∧ (ga 40 k).toInt ≤ 11) → Pc (fX12_gaps_l152 fu p2 p3 v4 v5 (-1) 0 ga La) (fun _ g1 _ => Rm S0 g g1) := by
    intro v4 v5 ga La h4 ha sa ra
    unfold fX12_gaps_l152
    refine pc_loop (fun v => Rm (Sg 0) g v.2.2.1 ∧ (∀ j, j < 12 → v.2.2.1 39 j = g 12 (12 + j)) ∧ (∀ k : Nat, (k : Int) < v4.toInt → 0 ≤ (v.2.2.1 40 k).toInt ∧ (v.2.2.1 40 k).toInt ≤ 11)) (fun k152 hk152 v hv => ?_) ⟨ha, sa, ra⟩
    obtain ⟨v6, v7, g', L'⟩ := v
    obtain ⟨hv, hs, hr⟩ := hv
    replace hv : Rm (Sg 0) g g' := hv
    replace hs : ∀ j, j < 12 → g' 39 j = g 12 (12 + j) := hs
    replace hr : ∀ k : Nat, (k : Int) < v4.toInt → 0 ≤ (g' 40 k).toInt ∧ (g' 40 k).toInt ≤ 11 := hr
    show Pc (fX12_gaps_s152 fu p2 p3 v4 v5 k152 v6 v7 g' L') _
    unfold fX12_gaps_s152
    refine pc_ite (fun _ => fin v6 g' L' hv hs) (fun _ => pc_lti (fun x19 e19 => ?_))
    have e19 : x19.toInt = v4.toInt - 1 := by rw [e19]; exact ic_subc rfl (by decide) (by omega) (by omega)
    unfold fX12_gaps_l172
    refine pc_loop (fun v => v.2.2.1.toInt < v4.toInt ∧ Rm (Sg 0) g v.2.2.2.1 ∧ (∀ j, j < 12 → v.2.2.2.1 39 j = g 12 (12 + j)) ∧ (∀ k : Nat, (k : Int) < v4.toInt → 0 ≤ (v.2.2.2.1 40 k).toInt ∧ (v.2.2.2.1 40 k).toInt ≤ 11)) (fun k172 hk172 v hv => ?_) ⟨(show x19.toInt < v4.toInt by omega), hv, hs, hr⟩
    obtain ⟨v8, v9, v10, g', L'⟩ := v
    obtain ⟨h10, hv, hs, hr⟩ := hv
    replace h10 : v10.toInt < v4.toInt := h10
    replace hv : Rm (Sg 0) g g' := hv
    replace hs : ∀ j, j < 12 → g' 39 j = g 12 (12 + j) := hs
    replace hr : ∀ k : Nat, (k : Int) < v4.toInt → 0 ≤ (g' 40 k).toInt ∧ (g' 40 k).toInt ≤ 11 := hr
    show Pc (fX12_gaps_s172 fu k152 p2 p3 v4 v5 v6 v7 k172 v8 v9 v10 g' L') _
    unfold fX12_gaps_s172 fX12_gaps_p286
    have p233 : Pc (fX12_gaps_p233 fu k152 p2 p3 v4 v5 v6 v7 v8 g' L') (fun _ g1 _ => Rm S0 g g1) := by
      unfold fX12_gaps_p233 fX12_gaps_p286
      refine pc_cb (pc_kp (w_fX12_works0 _ _ _ _ FW.refl)) (fun _ gb Lb fb => pc_cb (pc_kp (w_fX12_late _ _ _ _ _ FW.refl)) (fun _ gc Lc fc => ?_))
      have hc := (hv.f fb (by decide)).f fc (by decide)
      have sc : ∀ j, j < 12 → gc 39 j = g 12 (12 + j) := fun j hj => by rw [fc.c (k := 39) (by decide) (by decide), fb.c (k := 39) (by decide) (by decide)]; exact hs j hj
      have rc : ∀ k : Nat, (k : Int) < v4.toInt → 0 ≤ (gc 40 k).toInt ∧ (gc 40 k).toInt ≤ 11 := fun k hk => by rw [fc.c (k := 40) (by decide) (by decide), fb.c (k := 40) (by decide) (by decide)]; exact hr k hk
      refine pc_ite (fun _ => ?_) (fun _ => hk152 _ ⟨hc, sc, rc⟩)
      unfold fX12_gaps_l256
      refine pc_loop (fun v => Rm (Sg 0) g v.2.1 ∧ (∀ j, j < 12 → v.2.1 39 j = g 12 (12 + j)) ∧ (∀ k : Nat, (k : Int) < v4.toInt → 0 ≤ (v.2.1 40 k).toInt ∧ (v.2.1 40 k).toInt ≤ 11)) (fun k256 hk256 v hv => ?_) ⟨hc, sc, rc⟩
      obtain ⟨w10, g'', L''⟩ := v
      obtain ⟨hv, hs, hr⟩ := hv
      replace hv : Rm (Sg 0) g g'' := hv
      replace hs : ∀ j, j < 12 → g'' 39 j = g 12 (12 + j) := hs
      replace hr : ∀ k : Nat, (k : Int) < v4.toInt → 0 ≤ (g'' 40 k).toInt ∧ (g'' 40 k).toInt ≤ 11 := hr
      show Pc (fX12_gaps_s256 fu k152 p2 p3 v4 v5 v8 v7 k256 w10 g'' L'') _
      unfold fX12_gaps_s256 fX12_gaps_p286
      refine pc_ite (fun _ => hk152 _ ⟨hv, hs, hr⟩) (fun _ => pc_ck (fun _ _ => pc_ck (fun _ _ => pc_st (fun gd ed => hk256 _ ⟨hv.so ed (cz_n (by decide) (by decide) (by decide) (by decide)), fun j hj => ?_, fun k hk => ?_⟩))))
      · show gd 39 j = _
        rw [ed, upd2_nk (by decide)]; exact hs j hj
      · show 0 ≤ (gd 40 k).toInt ∧ (gd 40 k).toInt ≤ 11
        rw [ed, upd2_nk (by decide)]; exact hr k hk
    refine pc_ite (fun _ => pc_ite (fun _ => p233) (fun _ => pc_ite (fun _ => p233) (fun _ => hk152 _ ⟨hv, hs, hr⟩))) (fun c => pc_ck (fun _ _ => pc_cnz (pc_ck (fun _ _ => pc_st (fun gb eb => pc_cnz (pc_lti (fun _ _ => pc_cnz (pc_lti (fun _ _ => hk172 _ ⟨?_, ?_, fun j hj => ?_, fun k hk => ?_⟩)))))))))
    · have c := icc_nlt (m := v10.toInt) (n := 0) rfl (by decide) c
      show (v10 + (-1)).toInt < v4.toInt
      rw [ic_addc (m := v10.toInt) (n := -1) rfl (by decide) (by omega) (by omega)]; omega
    · have c := icc_nlt (m := v10.toInt) (n := 0) rfl (by decide) c
      have hq := hr v10.toNatClampNeg (by rw [nc]; omega)
      refine hv.st eb ⟨rfl, ?_, ?_⟩
      · rw [nc, ic_addc (m := 12) (n := (g' 40 v10.toNatClampNeg).toInt) (by decide) rfl (by omega) (by omega)]; omega
      · rw [nc, ic_addc (m := 12) (n := (g' 40 v10.toNatClampNeg).toInt) (by decide) rfl (by omega) (by omega)]; omega
    · show gb 39 j = _
      rw [eb, upd2_nk (by decide)]; exact hs j hj
    · show 0 ≤ (gb 40 k).toInt ∧ (gb 40 k).toInt ≤ 11
      rw [eb, upd2_nk (by decide)]; exact hr k hk
  have beg : ∀ (ga : gT) (La : lT), Rm S0 g ga → Pc (fX12_gaps_l67 fu p1 p2 p3 0 0 ga La) (fun _ g1 _ => Rm S0 g g1) := by
    intro ga La ha
    unfold fX12_gaps_l67
    refine pc_loop (fun v => (0 ≤ v.1.toInt ∧ v.1.toInt ≤ 5) ∧ (0 ≤ v.2.1.toInt ∧ v.2.1.toInt ≤ 12) ∧ Rm S0 g v.2.2.1 ∧ (∀ j : Nat, (j : Int) < v.2.1.toInt → v.2.2.1 39 j = g 12 (12 + j)) ∧ (∀ k : Nat, (k : Int) < v.1.toInt → 0 ≤ (v.2.2.1 40 k).toInt ∧ (v.2.2.1 40 k).toInt ≤ 11)) (fun k67 hk67 v hv => ?_) ⟨(show 0 ≤ (0 : Int32).toInt ∧ (0 : Int32).toInt ≤ 5 from by decide), (show 0 ≤ (0 : Int32).toInt ∧ (0 : Int32).toInt ≤ 12 from by decide), ha, fun j hj => absurd (show (j : Int) < 0 from hj) (by omega), fun j hj => absurd (show (j : Int) < 0 from hj) (by omega)⟩
    obtain ⟨v4, v5, g', L'⟩ := v
    obtain ⟨h4, h5, hv, hs, hr⟩ := hv
    replace h4 : 0 ≤ v4.toInt ∧ v4.toInt ≤ 5 := h4
    replace h5 : 0 ≤ v5.toInt ∧ v5.toInt ≤ 12 := h5
    replace hv : Rm S0 g g' := hv
    replace hs : ∀ j : Nat, (j : Int) < v5.toInt → g' 39 j = g 12 (12 + j) := hs
    replace hr : ∀ k : Nat, (k : Int) < v4.toInt → 0 ≤ (g' 40 k).toInt ∧ (g' 40 k).toInt ≤ 11 := hr
    show Pc (fX12_gaps_s67 fu p1 p2 p3 k67 v4 v5 g' L') _
    unfold fX12_gaps_s67 fX12_gaps_p115
    refine pc_ite (fun c => ?_) (fun c => pc_ck (fun _ _ => pc_ck (fun _ _ => pc_st (fun gb eb => ?_))))
    · have c := icc_le (m := 12) (n := v5.toInt) (by decide) rfl c
      unfold fX12_gaps_l127
      refine pc_loop (fun v => v.2.2.1 = g') (fun k127 hk127 v hv2 => ?_) rfl
      obtain ⟨w5, w6, g'', L''⟩ := v
      replace hv2 : g'' = g' := hv2
      subst hv2
      show Pc (fX12_gaps_s127 fu p2 p3 v4 k127 w5 w6 g'' L'') _
      unfold fX12_gaps_s127
      exact pc_ite (fun _ => mid v4 w5 g'' L'' h4 (tr0 hv) (fun j hj => hs j (by omega)) hr) (fun _ => pc_lti (fun _ _ => hk127 _ rfl))
    · have c := icc_nle (m := 12) (n := v5.toInt) (by decide) rfl c
      have ew : (v5 + 1).toInt = v5.toInt + 1 := ic_addc rfl (by decide) (by omega) (by omega)
      have e12 : (12 + v5).toInt = 12 + v5.toInt := ic_addc (by decide) rfl (by omega) (by omega)
      have eN : (12 + v5).toNatClampNeg = 12 + v5.toInt.toNat := by rw [nc, e12]; omega
      have eM : v5.toNatClampNeg = v5.toInt.toNat := by rw [nc]
      rw [eN, eM] at eb
      have hb : Rm S0 g gb := hv.so eb (cz_n (by decide) (by decide) (by decide) (by decide))
      have sb : ∀ j : Nat, (j : Int) < (v5 + 1).toInt → gb 39 j = g 12 (12 + j) := fun j hj => by
        rw [eb]
        by_cases e : j = v5.toInt.toNat
        · rw [e, upd2_at]; exact hv 12 _ (cz_12 (by omega)) id
        · rw [upd2_nj e]; exact hs j (by omega)
      have rb : ∀ k : Nat, (k : Int) < v4.toInt → 0 ≤ (gb 40 k).toInt ∧ (gb 40 k).toInt ≤ 11 := fun k hk => by rw [eb, upd2_nk (by decide)]; exact hr k hk
      refine pc_ite (fun _ => hk67 _ ⟨h4, (show 0 ≤ (v5 + 1).toInt ∧ (v5 + 1).toInt ≤ 12 by omega), hb, sb, rb⟩) (fun _ => pc_ck (fun c1 c2 => pc_st (fun gc ec => hk67 _ ?_)))
      have ew4 : (v4 + 1).toInt = v4.toInt + 1 := ic_addc rfl (by decide) (by omega) (by omega)
      have e4 : v4.toNatClampNeg = v4.toInt.toNat := by rw [nc]
      rw [e4] at ec
      refine ⟨(show 0 ≤ (v4 + 1).toInt ∧ (v4 + 1).toInt ≤ 5 by omega), (show 0 ≤ (v5 + 1).toInt ∧ (v5 + 1).toInt ≤ 12 by omega), hb.so ec (cz_n (by decide) (by decide) (by decide) (by decide)), fun j hj => ?_, fun k hk => ?_⟩
      · show gc 39 j = _
        rw [ec, upd2_nk (by decide)]; exact sb j hj
      · show 0 ≤ (gc 40 k).toInt ∧ (gc 40 k).toInt ≤ 11
        replace hk : (k : Int) < (v4 + 1).toInt := hk
        rw [ec]
        by_cases e : k = v4.toInt.toNat
        · rw [e, upd2_at]; omega
        · rw [upd2_nj e]; exact rb k (by omega)
  unfold fX12_gaps fX12_gaps_p51 fX12_gaps_p52 fX12_gaps_p59
  refine pc_st (fun g1 e1 => pc_cb (pc_kp (w_fX12_isLesson _ _ _ _ _ FW.refl)) (fun _ g3 L3 f3 => ?_))
  have h3 : Rm S0 g g3 := (Rm.refl.so e1 (cz_0 (by decide) (by decide) (by decide))).f f3 (by decide)
  have p52 : ∀ (t0 : Int32) (ga : gT) (La : lT), Rm S0 g ga → Pc (cb (fX12_right fu t0 2 ga La) (fun x7 g8 L9 => if x7 = 0 then some ((0 : Int32), (g8, L9)) else fX12_gaps_l67 fu p1 p2 p3 0 0 g8 L9)) (fun _ g1 _ => Rm S0 g g1) := by
    intro t0 ga La ha
    refine pc_cb (pc_kp (w_fX12_right _ _ _ _ _ _ FW.refl)) (fun _ g8 L8 f8 => ?_)
    have h8 := ha.f f8 (by decide)
    exact pc_ite (fun _ => pc_some h8) (fun _ => beg g8 L8 h8)
  refine pc_ite (fun _ => pc_some h3) (fun _ => pc_ite (fun _ => p52 0 g3 L3 h3) (fun _ => pc_ite (fun _ => p52 0 g3 L3 h3) (fun _ => pc_cb (pc_kp (w_fX12_bits _ _ _ _ _ FW.refl)) (fun _ ga La fa => ?_))))
  have ha := h3.f fa (by decide)
  refine pc_ite (fun _ => p52 0 ga La ha) (fun _ => pc_cb (pc_kp (w_fX12_within _ _ _ _ _ _ _ FW.refl)) (fun _ gb Lb fb => ?_))
  have hb := ha.f fb (by decide)
  exact pc_ite (fun _ => p52 0 gb Lb hb) (fun _ => p52 1 gb Lb hb)
end RM
