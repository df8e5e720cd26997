/-! ===== the reference: bits, copies, seeing, images ===== -/
def pb1 (s v : Int32) : Int := ((s >>> (v &&& 31)) &&& 1).toInt
def pbs (s : Int32) : Nat → Int
  | 0 => 0
  | k + 1 => pbs s k + pb1 s (Int32.ofNat k)
theorem pb1_rg (s v : Int32) : 0 ≤ pb1 s v ∧ pb1 s v ≤ 1 := ic_and1 _
theorem pbs_succ {s v : Int32} (h1 : 0 ≤ v.toInt) : pbs s (v.toNatClampNeg + 1) = pbs s v.toNatClampNeg + pb1 s v := by
  have e : Int32.ofNat v.toNatClampNeg = v := by
    apply Int32.toInt_inj.mp
    have hr := ic_rg v
    rw [nc, Int32.toInt_ofNat_of_lt (by omega)]
    omega
  show pbs s v.toNatClampNeg + pb1 s (Int32.ofNat v.toNatClampNeg) = _
  rw [e]
theorem pbs_mono (s : Int32) (k n : Nat) : pbs s k ≤ pbs s (k + n) := by
  induction n with
  | zero => exact Int.le_refl _
  | succ n ih => have := (pb1_rg s (Int32.ofNat (k + n))).1; show _ ≤ pbs s (k + n) + pb1 s (Int32.ofNat (k + n)); omega
theorem pbs_le {s : Int32} {k : Nat} (h : k ≤ 12) : pbs s k ≤ pbs s 12 := by
  have := pbs_mono s k (12 - k)
  rw [show k + (12 - k) = 12 by omega] at this
  exact this
theorem pbs_pos (s : Int32) (k : Nat) : 0 ≤ pbs s k := by
  have := pbs_mono s 0 k
  rw [Nat.zero_add] at this
  exact this
set_option maxHeartbeats 4000000 in
theorem tX12_bits (fu : Nat) (hfu : 1180591620717411303424 ≤ fu) (p1 : Int32) (g0 : Nat → Nat → Int32) (L0 : Nat → Nat → Int64) (hI : zI MT g0) (hJ : mJ g0) : Ex (fX12_bits fu p1 g0 L0) (fun (r : Int32) g1 L1 => zI MT g1 ∧ mJ g1 ∧ g1 0 18 = g0 0 18 ∧ g1 0 2 = g0 0 2 ∧ r.toInt = pbs p1 12) := by
  unfold fX12_bits fX12_bits_l4
  have e0 : (0 : Int32).toInt = 0 := by decide
  refine Ex.loop (α := Int32 × Int32 × (Nat → Nat → Int32) × (Nat → Nat → Int64)) (fun v => (0 ≤ v.2.1.toInt ∧ v.2.1.toInt ≤ 12) ∧ v.1.toInt = pbs p1 v.2.1.toNatClampNeg ∧ v.1.toInt ≤ v.2.1.toInt ∧ v.2.2.1 = g0) (fun v => 13 - v.2.1.toInt) (by omega) (by show 13 - (0 : Int32).toInt < (fu : Int); omega) ⟨(show 0 ≤ (0 : Int32).toInt ∧ (0 : Int32).toInt ≤ 12 from by omega), rfl, Int.le_refl _, rfl⟩ (fun k4 v hv ih => ?_)
  obtain ⟨v1, v2, g, L⟩ := v
  obtain ⟨hb, hp, hq, hg⟩ := hv
  have hb : 0 ≤ v2.toInt ∧ v2.toInt ≤ 12 := hb
  have hp : v1.toInt = pbs p1 v2.toNatClampNeg := hp
  have hq : v1.toInt ≤ v2.toInt := hq
  have hg : g = g0 := hg
  subst hg
  show Ex (fX12_bits_s4 fu p1 k4 v1 v2 g L) _
  unfold fX12_bits_s4
  refine Ex.ite (fun c => ?_) (fun c => ?_)
  · have c := icc_le (m := 12) (n := v2.toInt) (by decide) rfl c
    have n12 : v2.toNatClampNeg = 12 := by rw [nc]; omega
    rw [n12] at hp
    exact Ex.ret ⟨hI, hJ, rfl, rfl, hp⟩
  · have c := icc_nle (m := 12) (n := v2.toInt) (by decide) rfl c
    have hs := pbs_succ (s := p1) (v := v2) hb.1
    have h1 := pb1_rg p1 v2
    have h0 := pbs_pos p1 v2.toNatClampNeg
    refine Ex.lti (fun x xe _ => ?_)
    have ex : x.toInt = v1.toInt + pb1 p1 v2 := by rw [xe]; exact ic_add (by show -2147483648 ≤ v1.toInt + pb1 p1 v2; omega) (by show v1.toInt + pb1 p1 v2 ≤ 2147483647; omega)
    generalize hw : v2 + 1 = w
    have ew : w.toInt = v2.toInt + 1 := by rw [← hw]; exact ic_addc rfl (by decide) (by omega) (by omega)
    have nw : w.toNatClampNeg = v2.toNatClampNeg + 1 := by rw [nc, nc]; omega
    refine ih (x, w, g, L) ⟨(show 0 ≤ w.toInt ∧ w.toInt ≤ 12 from by omega), ?_, (show x.toInt ≤ w.toInt from by omega), rfl⟩ (by show 13 - w.toInt < 13 - v2.toInt; omega) (by show 0 < 13 - v2.toInt; omega)
    show x.toInt = pbs p1 w.toNatClampNeg
    rw [nw]; omega
/-- b's cell after a copy of a's -/
def cpd (g : Nat → Nat → Int32) (a b n : Nat) : Nat → Nat → Int32 := updA g b (fun j => if j < n then g a j else g b j)
theorem cpd_0 (g : Nat → Nat → Int32) (a b : Nat) : cpd g a b 0 = g := by
  funext k j
  unfold cpd updA
  split
  · rename_i h; subst h; simp
  · rfl
theorem cpd_s (g : Nat → Nat → Int32) {a b : Nat} (hab : a ≠ b) (n : Nat) : upd2 (cpd g a b n) b n (cpd g a b n a n) = cpd g a b (n + 1) := by
  have ea : cpd g a b n a n = g a n := by unfold cpd; rw [updA_ne hab]
  rw [ea]
  funext k j
  by_cases hk : k = b
  · subst hk
    by_cases hj : j = n
    · subst hj; rw [upd2_at]; unfold cpd; rw [updA_at, if_pos (by omega)]
    · rw [upd2_nj hj]; unfold cpd; rw [updA_at, updA_at]
      by_cases h : j < n
      · rw [if_pos h, if_pos (by omega)]
      · rw [if_neg h, if_neg (by omega)]
  · rw [upd2_nk hk]; unfold cpd; rw [updA_ne hk, updA_ne hk]
theorem cpd_ne {g : Nat → Nat → Int32} {a b n k : Nat} (h : k ≠ b) : cpd g a b n k = g k := updA_ne h
theorem cpd_at {g : Nat → Nat → Int32} {a b n j : Nat} (h : j < n) : cpd g a b n b j = g a j := by
  unfold cpd; rw [updA_at, if_pos h]
theorem zI_cpd {T : Nat → Nat → Option (Int × Int)} {g : Nat → Nat → Int32} {a b n : Nat} (hI : zI T g) (e : ∀ j, j < n → T b j = T a j ∨ T b j = none) : zI T (cpd g a b n) := by
  intro k j lo hi h
  by_cases hk : k = b
  · subst hk
    by_cases hj : j < n
    · rw [cpd_at hj]
      rcases e j hj with q | q
      · exact hI a j lo hi (q.symm.trans h)
      · rw [q] at h; exact nomatch h
    · have : cpd g a k n k j = g k j := by unfold cpd; rw [updA_at, if_neg hj]
      rw [this]; exact hI k j lo hi h
  · rw [cpd_ne hk]; exact hI k j lo hi h
set_option maxHeartbeats 4000000 in
theorem uX12_copies_15_1 (fu : Nat) (hfu : 1180591620717411303424 ≤ fu) (g0 : Nat → Nat → Int32) (L0 : Nat → Nat → Int64) : Ex (fX12_copies_15_1 fu g0 L0) (fun (r : Unit) g1 L1 => g1 = cpd g0 15 1 12) := by
  unfold fX12_copies_15_1 fX12_copies_15_1_l2
  have e0 : (0 : Int32).toInt = 0 := by decide
  refine Ex.loop (α := Int32 × (Nat → Nat → Int32) × (Nat → Nat → Int64)) (fun v => (0 ≤ v.1.toInt ∧ v.1.toInt ≤ 12) ∧ v.2.1 = cpd g0 15 1 v.1.toNatClampNeg) (fun v => 13 - v.1.toInt) (by omega) (by show 13 - (0 : Int32).toInt < (fu : Int); omega) ⟨(show 0 ≤ (0 : Int32).toInt ∧ (0 : Int32).toInt ≤ 12 from by omega), (cpd_0 g0 15 1).symm⟩ (fun k2 v hv ih => ?_)
  obtain ⟨v3, g, L⟩ := v
  obtain ⟨hb, hg⟩ := hv
  have hb : 0 ≤ v3.toInt ∧ v3.toInt ≤ 12 := hb
  have hg : g = cpd g0 15 1 v3.toNatClampNeg := hg
  show Ex (fX12_copies_15_1_s2 fu k2 v3 g L) _
  unfold fX12_copies_15_1_s2
  refine Ex.ite (fun c => ?_) (fun c => ?_)
  · have c := icc_le (m := 12) (n := v3.toInt) (by decide) rfl c
    have n12 : v3.toNatClampNeg = 12 := by rw [nc]; omega
    rw [n12] at hg
    exact Ex.ret hg
  · have c := icc_nle (m := 12) (n := v3.toInt) (by decide) rfl c
    refine Ex.ck (by omega) (by omega) (Ex.ck (by omega) (by omega) ?_)
    refine Ex.sti z_none (fun g2 g2e _ => ?_)
    generalize hw : v3 + 1 = w
    have ew : w.toInt = v3.toInt + 1 := by rw [← hw]; exact ic_addc rfl (by decide) (by omega) (by omega)
    have nw : w.toNatClampNeg = v3.toNatClampNeg + 1 := by rw [nc, nc]; omega
    refine ih (w, g2, L) ⟨(show 0 ≤ w.toInt ∧ w.toInt ≤ 12 from by omega), ?_⟩ (by show 13 - w.toInt < 13 - v3.toInt; omega) (by show 0 < 13 - v3.toInt; omega)
    show g2 = cpd g0 15 1 w.toNatClampNeg
    rw [nw, g2e, hg]; exact cpd_s g0 (by decide) v3.toNatClampNeg
set_option maxHeartbeats 4000000 in
theorem uX12_copies_16_2 (fu : Nat) (hfu : 1180591620717411303424 ≤ fu) (g0 : Nat → Nat → Int32) (L0 : Nat → Nat → Int64) : Ex (fX12_copies_16_2 fu g0 L0) (fun (r : Unit) g1 L1 => g1 = cpd g0 16 2 12) := by
  unfold fX12_copies_16_2 fX12_copies_16_2_l2
  have e0 : (0 : Int32).toInt = 0 := by decide
  refine Ex.loop (α := Int32 × (Nat → Nat → Int32) × (Nat → Nat → Int64)) (fun v => (0 ≤ v.1.toInt ∧ v.1.toInt ≤ 12) ∧ v.2.1 = cpd g0 16 2 v.1.toNatClampNeg) (fun v => 13 - v.1.toInt) (by omega) (by show 13 - (0 : Int32).toInt < (fu : Int); omega) ⟨(show 0 ≤ (0 : Int32).toInt ∧ (0 : Int32).toInt ≤ 12 from by omega), (cpd_0 g0 16 2).symm⟩ (fun k2 v hv ih => ?_)
  obtain ⟨v3, g, L⟩ := v
  obtain ⟨hb, hg⟩ := hv
  have hb : 0 ≤ v3.toInt ∧ v3.toInt ≤ 12 := hb
  have hg : g = cpd g0 16 2 v3.toNatClampNeg := hg
  show Ex (fX12_copies_16_2_s2 fu k2 v3 g L) _
  unfold fX12_copies_16_2_s2
  refine Ex.ite (fun c => ?_) (fun c => ?_)
  · have c := icc_le (m := 12) (n := v3.toInt) (by decide) rfl c
    have n12 : v3.toNatClampNeg = 12 := by rw [nc]; omega
    rw [n12] at hg
    exact Ex.ret hg
  · have c := icc_nle (m := 12) (n := v3.toInt) (by decide) rfl c
    refine Ex.ck (by omega) (by omega) (Ex.ck (by omega) (by omega) ?_)
    refine Ex.sti z_none (fun g2 g2e _ => ?_)
    generalize hw : v3 + 1 = w
    have ew : w.toInt = v3.toInt + 1 := by rw [← hw]; exact ic_addc rfl (by decide) (by omega) (by omega)
    have nw : w.toNatClampNeg = v3.toNatClampNeg + 1 := by rw [nc, nc]; omega
    refine ih (w, g2, L) ⟨(show 0 ≤ w.toInt ∧ w.toInt ≤ 12 from by omega), ?_⟩ (by show 13 - w.toInt < 13 - v3.toInt; omega) (by show 0 < 13 - v3.toInt; omega)
    show g2 = cpd g0 16 2 w.toNatClampNeg
    rw [nw, g2e, hg]; exact cpd_s g0 (by decide) v3.toNatClampNeg
set_option maxHeartbeats 4000000 in
theorem uX12_copies_17_3 (fu : Nat) (hfu : 1180591620717411303424 ≤ fu) (g0 : Nat → Nat → Int32) (L0 : Nat → Nat → Int64) : Ex (fX12_copies_17_3 fu g0 L0) (fun (r : Unit) g1 L1 => g1 = cpd g0 17 3 12) := by
  unfold fX12_copies_17_3 fX12_copies_17_3_l2
  have e0 : (0 : Int32).toInt = 0 := by decide
  refine Ex.loop (α := Int32 × (Nat → Nat → Int32) × (Nat → Nat → Int64)) (fun v => (0 ≤ v.1.toInt ∧ v.1.toInt ≤ 12) ∧ v.2.1 = cpd g0 17 3 v.1.toNatClampNeg) (fun v => 13 - v.1.toInt) (by omega) (by show 13 - (0 : Int32).toInt < (fu : Int); omega) ⟨(show 0 ≤ (0 : Int32).toInt ∧ (0 : Int32).toInt ≤ 12 from by omega), (cpd_0 g0 17 3).symm⟩ (fun k2 v hv ih => ?_)
  obtain ⟨v3, g, L⟩ := v
  obtain ⟨hb, hg⟩ := hv
  have hb : 0 ≤ v3.toInt ∧ v3.toInt ≤ 12 := hb
  have hg : g = cpd g0 17 3 v3.toNatClampNeg := hg
  show Ex (fX12_copies_17_3_s2 fu k2 v3 g L) _
  unfold fX12_copies_17_3_s2
  refine Ex.ite (fun c => ?_) (fun c => ?_)
  · have c := icc_le (m := 12) (n := v3.toInt) (by decide) rfl c
    have n12 : v3.toNatClampNeg = 12 := by rw [nc]; omega
    rw [n12] at hg
    exact Ex.ret hg
  · have c := icc_nle (m := 12) (n := v3.toInt) (by decide) rfl c
    refine Ex.ck (by omega) (by omega) (Ex.ck (by omega) (by omega) ?_)
    refine Ex.sti z_none (fun g2 g2e _ => ?_)
    generalize hw : v3 + 1 = w
    have ew : w.toInt = v3.toInt + 1 := by rw [← hw]; exact ic_addc rfl (by decide) (by omega) (by omega)
    have nw : w.toNatClampNeg = v3.toNatClampNeg + 1 := by rw [nc, nc]; omega
    refine ih (w, g2, L) ⟨(show 0 ≤ w.toInt ∧ w.toInt ≤ 12 from by omega), ?_⟩ (by show 13 - w.toInt < 13 - v3.toInt; omega) (by show 0 < 13 - v3.toInt; omega)
    show g2 = cpd g0 17 3 w.toNatClampNeg
    rw [nw, g2e, hg]; exact cpd_s g0 (by decide) v3.toNatClampNeg
set_option maxHeartbeats 4000000 in
theorem uX12_copies_18_4 (fu : Nat) (hfu : 1180591620717411303424 ≤ fu) (g0 : Nat → Nat → Int32) (L0 : Nat → Nat → Int64) : Ex (fX12_copies_18_4 fu g0 L0) (fun (r : Unit) g1 L1 => g1 = cpd g0 18 4 12) := by
  unfold fX12_copies_18_4 fX12_copies_18_4_l2
  have e0 : (0 : Int32).toInt = 0 := by decide
  refine Ex.loop (α := Int32 × (Nat → Nat → Int32) × (Nat → Nat → Int64)) (fun v => (0 ≤ v.1.toInt ∧ v.1.toInt ≤ 12) ∧ v.2.1 = cpd g0 18 4 v.1.toNatClampNeg) (fun v => 13 - v.1.toInt) (by omega) (by show 13 - (0 : Int32).toInt < (fu : Int); omega) ⟨(show 0 ≤ (0 : Int32).toInt ∧ (0 : Int32).toInt ≤ 12 from by omega), (cpd_0 g0 18 4).symm⟩ (fun k2 v hv ih => ?_)
  obtain ⟨v3, g, L⟩ := v
  obtain ⟨hb, hg⟩ := hv
  have hb : 0 ≤ v3.toInt ∧ v3.toInt ≤ 12 := hb
  have hg : g = cpd g0 18 4 v3.toNatClampNeg := hg
  show Ex (fX12_copies_18_4_s2 fu k2 v3 g L) _
  unfold fX12_copies_18_4_s2
  refine Ex.ite (fun c => ?_) (fun c => ?_)
  · have c := icc_le (m := 12) (n := v3.toInt) (by decide) rfl c
    have n12 : v3.toNatClampNeg = 12 := by rw [nc]; omega
    rw [n12] at hg
    exact Ex.ret hg
  · have c := icc_nle (m := 12) (n := v3.toInt) (by decide) rfl c
    refine Ex.ck (by omega) (by omega) (Ex.ck (by omega) (by omega) ?_)
    refine Ex.sti z_none (fun g2 g2e _ => ?_)
    generalize hw : v3 + 1 = w
    have ew : w.toInt = v3.toInt + 1 := by rw [← hw]; exact ic_addc rfl (by decide) (by omega) (by omega)
    have nw : w.toNatClampNeg = v3.toNatClampNeg + 1 := by rw [nc, nc]; omega
    refine ih (w, g2, L) ⟨(show 0 ≤ w.toInt ∧ w.toInt ≤ 12 from by omega), ?_⟩ (by show 13 - w.toInt < 13 - v3.toInt; omega) (by show 0 < 13 - v3.toInt; omega)
    show g2 = cpd g0 18 4 w.toNatClampNeg
    rw [nw, g2e, hg]; exact cpd_s g0 (by decide) v3.toNatClampNeg
set_option maxHeartbeats 4000000 in
theorem uX12_copies_19_5 (fu : Nat) (hfu : 1180591620717411303424 ≤ fu) (g0 : Nat → Nat → Int32) (L0 : Nat → Nat → Int64) : Ex (fX12_copies_19_5 fu g0 L0) (fun (r : Unit) g1 L1 => g1 = cpd g0 19 5 12) := by
  unfold fX12_copies_19_5 fX12_copies_19_5_l2
  have e0 : (0 : Int32).toInt = 0 := by decide
  refine Ex.loop (α := Int32 × (Nat → Nat → Int32) × (Nat → Nat → Int64)) (fun v => (0 ≤ v.1.toInt ∧ v.1.toInt ≤ 12) ∧ v.2.1 = cpd g0 19 5 v.1.toNatClampNeg) (fun v => 13 - v.1.toInt) (by omega) (by show 13 - (0 : Int32).toInt < (fu : Int); omega) ⟨(show 0 ≤ (0 : Int32).toInt ∧ (0 : Int32).toInt ≤ 12 from by omega), (cpd_0 g0 19 5).symm⟩ (fun k2 v hv ih => ?_)
  obtain ⟨v3, g, L⟩ := v
  obtain ⟨hb, hg⟩ := hv
  have hb : 0 ≤ v3.toInt ∧ v3.toInt ≤ 12 := hb
  have hg : g = cpd g0 19 5 v3.toNatClampNeg := hg
  show Ex (fX12_copies_19_5_s2 fu k2 v3 g L) _
  unfold fX12_copies_19_5_s2
  refine Ex.ite (fun c => ?_) (fun c => ?_)
  · have c := icc_le (m := 12) (n := v3.toInt) (by decide) rfl c
    have n12 : v3.toNatClampNeg = 12 := by rw [nc]; omega
    rw [n12] at hg
    exact Ex.ret hg
  · have c := icc_nle (m := 12) (n := v3.toInt) (by decide) rfl c
    refine Ex.ck (by omega) (by omega) (Ex.ck (by omega) (by omega) ?_)
    refine Ex.sti z_none (fun g2 g2e _ => ?_)
    generalize hw : v3 + 1 = w
    have ew : w.toInt = v3.toInt + 1 := by rw [← hw]; exact ic_addc rfl (by decide) (by omega) (by omega)
    have nw : w.toNatClampNeg = v3.toNatClampNeg + 1 := by rw [nc, nc]; omega
    refine ih (w, g2, L) ⟨(show 0 ≤ w.toInt ∧ w.toInt ≤ 12 from by omega), ?_⟩ (by show 13 - w.toInt < 13 - v3.toInt; omega) (by show 0 < 13 - v3.toInt; omega)
    show g2 = cpd g0 19 5 w.toNatClampNeg
    rw [nw, g2e, hg]; exact cpd_s g0 (by decide) v3.toNatClampNeg
set_option maxHeartbeats 4000000 in
theorem uX12_copies_20_6 (fu : Nat) (hfu : 1180591620717411303424 ≤ fu) (g0 : Nat → Nat → Int32) (L0 : Nat → Nat → Int64) : Ex (fX12_copies_20_6 fu g0 L0) (fun (r : Unit) g1 L1 => g1 = cpd g0 20 6 12) := by
  unfold fX12_copies_20_6 fX12_copies_20_6_l2
  have e0 : (0 : Int32).toInt = 0 := by decide
  refine Ex.loop (α := Int32 × (Nat → Nat → Int32) × (Nat → Nat → Int64)) (fun v => (0 ≤ v.1.toInt ∧ v.1.toInt ≤ 12) ∧ v.2.1 = cpd g0 20 6 v.1.toNatClampNeg) (fun v => 13 - v.1.toInt) (by omega) (by show 13 - (0 : Int32).toInt < (fu : Int); omega) ⟨(show 0 ≤ (0 : Int32).toInt ∧ (0 : Int32).toInt ≤ 12 from by omega), (cpd_0 g0 20 6).symm⟩ (fun k2 v hv ih => ?_)
  obtain ⟨v3, g, L⟩ := v
  obtain ⟨hb, hg⟩ := hv
  have hb : 0 ≤ v3.toInt ∧ v3.toInt ≤ 12 := hb
  have hg : g = cpd g0 20 6 v3.toNatClampNeg := hg
  show Ex (fX12_copies_20_6_s2 fu k2 v3 g L) _
  unfold fX12_copies_20_6_s2
  refine Ex.ite (fun c => ?_) (fun c => ?_)
  · have c := icc_le (m := 12) (n := v3.toInt) (by decide) rfl c
    have n12 : v3.toNatClampNeg = 12 := by rw [nc]; omega
    rw [n12] at hg
    exact Ex.ret hg
  · have c := icc_nle (m := 12) (n := v3.toInt) (by decide) rfl c
    refine Ex.ck (by omega) (by omega) (Ex.ck (by omega) (by omega) ?_)
    refine Ex.sti z_none (fun g2 g2e _ => ?_)
    generalize hw : v3 + 1 = w
    have ew : w.toInt = v3.toInt + 1 := by rw [← hw]; exact ic_addc rfl (by decide) (by omega) (by omega)
    have nw : w.toNatClampNeg = v3.toNatClampNeg + 1 := by rw [nc, nc]; omega
    refine ih (w, g2, L) ⟨(show 0 ≤ w.toInt ∧ w.toInt ≤ 12 from by omega), ?_⟩ (by show 13 - w.toInt < 13 - v3.toInt; omega) (by show 0 < 13 - v3.toInt; omega)
    show g2 = cpd g0 20 6 w.toNatClampNeg
    rw [nw, g2e, hg]; exact cpd_s g0 (by decide) v3.toNatClampNeg
set_option maxHeartbeats 4000000 in
theorem uX12_copies_21_7 (fu : Nat) (hfu : 1180591620717411303424 ≤ fu) (g0 : Nat → Nat → Int32) (L0 : Nat → Nat → Int64) : Ex (fX12_copies_21_7 fu g0 L0) (fun (r : Unit) g1 L1 => g1 = cpd g0 21 7 12) := by
  unfold fX12_copies_21_7 fX12_copies_21_7_l2
  have e0 : (0 : Int32).toInt = 0 := by decide
  refine Ex.loop (α := Int32 × (Nat → Nat → Int32) × (Nat → Nat → Int64)) (fun v => (0 ≤ v.1.toInt ∧ v.1.toInt ≤ 12) ∧ v.2.1 = cpd g0 21 7 v.1.toNatClampNeg) (fun v => 13 - v.1.toInt) (by omega) (by show 13 - (0 : Int32).toInt < (fu : Int); omega) ⟨(show 0 ≤ (0 : Int32).toInt ∧ (0 : Int32).toInt ≤ 12 from by omega), (cpd_0 g0 21 7).symm⟩ (fun k2 v hv ih => ?_)
  obtain ⟨v3, g, L⟩ := v
  obtain ⟨hb, hg⟩ := hv
  have hb : 0 ≤ v3.toInt ∧ v3.toInt ≤ 12 := hb
  have hg : g = cpd g0 21 7 v3.toNatClampNeg := hg
  show Ex (fX12_copies_21_7_s2 fu k2 v3 g L) _
  unfold fX12_copies_21_7_s2
  refine Ex.ite (fun c => ?_) (fun c => ?_)
  · have c := icc_le (m := 12) (n := v3.toInt) (by decide) rfl c
    have n12 : v3.toNatClampNeg = 12 := by rw [nc]; omega
    rw [n12] at hg
    exact Ex.ret hg
  · have c := icc_nle (m := 12) (n := v3.toInt) (by decide) rfl c
    refine Ex.ck (by omega) (by omega) (Ex.ck (by omega) (by omega) ?_)
    refine Ex.sti z_none (fun g2 g2e _ => ?_)
    generalize hw : v3 + 1 = w
    have ew : w.toInt = v3.toInt + 1 := by rw [← hw]; exact ic_addc rfl (by decide) (by omega) (by omega)
    have nw : w.toNatClampNeg = v3.toNatClampNeg + 1 := by rw [nc, nc]; omega
    refine ih (w, g2, L) ⟨(show 0 ≤ w.toInt ∧ w.toInt ≤ 12 from by omega), ?_⟩ (by show 13 - w.toInt < 13 - v3.toInt; omega) (by show 0 < 13 - v3.toInt; omega)
    show g2 = cpd g0 21 7 w.toNatClampNeg
    rw [nw, g2e, hg]; exact cpd_s g0 (by decide) v3.toNatClampNeg
set_option maxHeartbeats 4000000 in
theorem uX12_copies_22_8 (fu : Nat) (hfu : 1180591620717411303424 ≤ fu) (g0 : Nat → Nat → Int32) (L0 : Nat → Nat → Int64) : Ex (fX12_copies_22_8 fu g0 L0) (fun (r : Unit) g1 L1 => g1 = cpd g0 22 8 12) := by
  unfold fX12_copies_22_8 fX12_copies_22_8_l2
  have e0 : (0 : Int32).toInt = 0 := by decide
  refine Ex.loop (α := Int32 × (Nat → Nat → Int32) × (Nat → Nat → Int64)) (fun v => (0 ≤ v.1.toInt ∧ v.1.toInt ≤ 12) ∧ v.2.1 = cpd g0 22 8 v.1.toNatClampNeg) (fun v => 13 - v.1.toInt) (by omega) (by show 13 - (0 : Int32).toInt < (fu : Int); omega) ⟨(show 0 ≤ (0 : Int32).toInt ∧ (0 : Int32).toInt ≤ 12 from by omega), (cpd_0 g0 22 8).symm⟩ (fun k2 v hv ih => ?_)
  obtain ⟨v3, g, L⟩ := v
  obtain ⟨hb, hg⟩ := hv
  have hb : 0 ≤ v3.toInt ∧ v3.toInt ≤ 12 := hb
  have hg : g = cpd g0 22 8 v3.toNatClampNeg := hg
  show Ex (fX12_copies_22_8_s2 fu k2 v3 g L) _
  unfold fX12_copies_22_8_s2
  refine Ex.ite (fun c => ?_) (fun c => ?_)
  · have c := icc_le (m := 12) (n := v3.toInt) (by decide) rfl c
    have n12 : v3.toNatClampNeg = 12 := by rw [nc]; omega
    rw [n12] at hg
    exact Ex.ret hg
  · have c := icc_nle (m := 12) (n := v3.toInt) (by decide) rfl c
    refine Ex.ck (by omega) (by omega) (Ex.ck (by omega) (by omega) ?_)
    refine Ex.sti z_none (fun g2 g2e _ => ?_)
    generalize hw : v3 + 1 = w
    have ew : w.toInt = v3.toInt + 1 := by rw [← hw]; exact ic_addc rfl (by decide) (by omega) (by omega)
    have nw : w.toNatClampNeg = v3.toNatClampNeg + 1 := by rw [nc, nc]; omega
    refine ih (w, g2, L) ⟨(show 0 ≤ w.toInt ∧ w.toInt ≤ 12 from by omega), ?_⟩ (by show 13 - w.toInt < 13 - v3.toInt; omega) (by show 0 < 13 - v3.toInt; omega)
    show g2 = cpd g0 22 8 w.toNatClampNeg
    rw [nw, g2e, hg]; exact cpd_s g0 (by decide) v3.toNatClampNeg
set_option maxHeartbeats 4000000 in
theorem uX12_copies_23_9 (fu : Nat) (hfu : 1180591620717411303424 ≤ fu) (g0 : Nat → Nat → Int32) (L0 : Nat → Nat → Int64) : Ex (fX12_copies_23_9 fu g0 L0) (fun (r : Unit) g1 L1 => g1 = cpd g0 23 9 72) := by
  unfold fX12_copies_23_9 fX12_copies_23_9_l2
  have e0 : (0 : Int32).toInt = 0 := by decide
  refine Ex.loop (α := Int32 × (Nat → Nat → Int32) × (Nat → Nat → Int64)) (fun v => (0 ≤ v.1.toInt ∧ v.1.toInt ≤ 72) ∧ v.2.1 = cpd g0 23 9 v.1.toNatClampNeg) (fun v => 73 - v.1.toInt) (by omega) (by show 73 - (0 : Int32).toInt < (fu : Int); omega) ⟨(show 0 ≤ (0 : Int32).toInt ∧ (0 : Int32).toInt ≤ 72 from by omega), (cpd_0 g0 23 9).symm⟩ (fun k2 v hv ih => ?_)
  obtain ⟨v3, g, L⟩ := v
  obtain ⟨hb, hg⟩ := hv
  have hb : 0 ≤ v3.toInt ∧ v3.toInt ≤ 72 := hb
  have hg : g = cpd g0 23 9 v3.toNatClampNeg := hg
  show Ex (fX12_copies_23_9_s2 fu k2 v3 g L) _
  unfold fX12_copies_23_9_s2
  refine Ex.ite (fun c => ?_) (fun c => ?_)
  · have c := icc_le (m := 72) (n := v3.toInt) (by decide) rfl c
    have n12 : v3.toNatClampNeg = 72 := by rw [nc]; omega
    rw [n12] at hg
    exact Ex.ret hg
  · have c := icc_nle (m := 72) (n := v3.toInt) (by decide) rfl c
    refine Ex.ck (by omega) (by omega) (Ex.ck (by omega) (by omega) ?_)
    refine Ex.sti z_none (fun g2 g2e _ => ?_)
    generalize hw : v3 + 1 = w
    have ew : w.toInt = v3.toInt + 1 := by rw [← hw]; exact ic_addc rfl (by decide) (by omega) (by omega)
    have nw : w.toNatClampNeg = v3.toNatClampNeg + 1 := by rw [nc, nc]; omega
    refine ih (w, g2, L) ⟨(show 0 ≤ w.toInt ∧ w.toInt ≤ 72 from by omega), ?_⟩ (by show 73 - w.toInt < 73 - v3.toInt; omega) (by show 0 < 73 - v3.toInt; omega)
    show g2 = cpd g0 23 9 w.toNatClampNeg
    rw [nw, g2e, hg]; exact cpd_s g0 (by decide) v3.toNatClampNeg
set_option maxHeartbeats 4000000 in
theorem uX12_copies_24_12 (fu : Nat) (hfu : 1180591620717411303424 ≤ fu) (g0 : Nat → Nat → Int32) (L0 : Nat → Nat → Int64) : Ex (fX12_copies_24_12 fu g0 L0) (fun (r : Unit) g1 L1 => g1 = cpd g0 24 12 48) := by
  unfold fX12_copies_24_12 fX12_copies_24_12_l2
  have e0 : (0 : Int32).toInt = 0 := by decide
  refine Ex.loop (α := Int32 × (Nat → Nat → Int32) × (Nat → Nat → Int64)) (fun v => (0 ≤ v.1.toInt ∧ v.1.toInt ≤ 48) ∧ v.2.1 = cpd g0 24 12 v.1.toNatClampNeg) (fun v => 49 - v.1.toInt) (by omega) (by show 49 - (0 : Int32).toInt < (fu : Int); omega) ⟨(show 0 ≤ (0 : Int32).toInt ∧ (0 : Int32).toInt ≤ 48 from by omega), (cpd_0 g0 24 12).symm⟩ (fun k2 v hv ih => ?_)
  obtain ⟨v3, g, L⟩ := v
  obtain ⟨hb, hg⟩ := hv
  have hb : 0 ≤ v3.toInt ∧ v3.toInt ≤ 48 := hb
  have hg : g = cpd g0 24 12 v3.toNatClampNeg := hg
  show Ex (fX12_copies_24_12_s2 fu k2 v3 g L) _
  unfold fX12_copies_24_12_s2
  refine Ex.ite (fun c => ?_) (fun c => ?_)
  · have c := icc_le (m := 48) (n := v3.toInt) (by decide) rfl c
    have n12 : v3.toNatClampNeg = 48 := by rw [nc]; omega
    rw [n12] at hg
    exact Ex.ret hg
  · have c := icc_nle (m := 48) (n := v3.toInt) (by decide) rfl c
    refine Ex.ck (by omega) (by omega) (Ex.ck (by omega) (by omega) ?_)
    refine Ex.sti z_none (fun g2 g2e _ => ?_)
    generalize hw : v3 + 1 = w
    have ew : w.toInt = v3.toInt + 1 := by rw [← hw]; exact ic_addc rfl (by decide) (by omega) (by omega)
    have nw : w.toNatClampNeg = v3.toNatClampNeg + 1 := by rw [nc, nc]; omega
    refine ih (w, g2, L) ⟨(show 0 ≤ w.toInt ∧ w.toInt ≤ 48 from by omega), ?_⟩ (by show 49 - w.toInt < 49 - v3.toInt; omega) (by show 0 < 49 - v3.toInt; omega)
    show g2 = cpd g0 24 12 w.toNatClampNeg
    rw [nw, g2e, hg]; exact cpd_s g0 (by decide) v3.toNatClampNeg
set_option maxHeartbeats 4000000 in
theorem uX12_copies_25_10 (fu : Nat) (hfu : 1180591620717411303424 ≤ fu) (g0 : Nat → Nat → Int32) (L0 : Nat → Nat → Int64) : Ex (fX12_copies_25_10 fu g0 L0) (fun (r : Unit) g1 L1 => g1 = cpd g0 25 10 4) := by
  unfold fX12_copies_25_10 fX12_copies_25_10_l2
  have e0 : (0 : Int32).toInt = 0 := by decide
  refine Ex.loop (α := Int32 × (Nat → Nat → Int32) × (Nat → Nat → Int64)) (fun v => (0 ≤ v.1.toInt ∧ v.1.toInt ≤ 4) ∧ v.2.1 = cpd g0 25 10 v.1.toNatClampNeg) (fun v => 5 - v.1.toInt) (by omega) (by show 5 - (0 : Int32).toInt < (fu : Int); omega) ⟨(show 0 ≤ (0 : Int32).toInt ∧ (0 : Int32).toInt ≤ 4 from by omega), (cpd_0 g0 25 10).symm⟩ (fun k2 v hv ih => ?_)
  obtain ⟨v3, g, L⟩ := v
  obtain ⟨hb, hg⟩ := hv
  have hb : 0 ≤ v3.toInt ∧ v3.toInt ≤ 4 := hb
  have hg : g = cpd g0 25 10 v3.toNatClampNeg := hg
  show Ex (fX12_copies_25_10_s2 fu k2 v3 g L) _
  unfold fX12_copies_25_10_s2
  refine Ex.ite (fun c => ?_) (fun c => ?_)
  · have c := icc_le (m := 4) (n := v3.toInt) (by decide) rfl c
    have n12 : v3.toNatClampNeg = 4 := by rw [nc]; omega
    rw [n12] at hg
    exact Ex.ret hg
  · have c := icc_nle (m := 4) (n := v3.toInt) (by decide) rfl c
    refine Ex.ck (by omega) (by omega) (Ex.ck (by omega) (by omega) ?_)
    refine Ex.sti z_none (fun g2 g2e _ => ?_)
    generalize hw : v3 + 1 = w
    have ew : w.toInt = v3.toInt + 1 := by rw [← hw]; exact ic_addc rfl (by decide) (by omega) (by omega)
    have nw : w.toNatClampNeg = v3.toNatClampNeg + 1 := by rw [nc, nc]; omega
    refine ih (w, g2, L) ⟨(show 0 ≤ w.toInt ∧ w.toInt ≤ 4 from by omega), ?_⟩ (by show 5 - w.toInt < 5 - v3.toInt; omega) (by show 0 < 5 - v3.toInt; omega)
    show g2 = cpd g0 25 10 w.toNatClampNeg
    rw [nw, g2e, hg]; exact cpd_s g0 (by decide) v3.toNatClampNeg
set_option maxHeartbeats 4000000 in
theorem uX12_copies_26_11 (fu : Nat) (hfu : 1180591620717411303424 ≤ fu) (g0 : Nat → Nat → Int32) (L0 : Nat → Nat → Int64) : Ex (fX12_copies_26_11 fu g0 L0) (fun (r : Unit) g1 L1 => g1 = cpd g0 26 11 1900) := by
  unfold fX12_copies_26_11 fX12_copies_26_11_l2
  have e0 : (0 : Int32).toInt = 0 := by decide
  refine Ex.loop (α := Int32 × (Nat → Nat → Int32) × (Nat → Nat → Int64)) (fun v => (0 ≤ v.1.toInt ∧ v.1.toInt ≤ 1900) ∧ v.2.1 = cpd g0 26 11 v.1.toNatClampNeg) (fun v => 1901 - v.1.toInt) (by omega) (by show 1901 - (0 : Int32).toInt < (fu : Int); omega) ⟨(show 0 ≤ (0 : Int32).toInt ∧ (0 : Int32).toInt ≤ 1900 from by omega), (cpd_0 g0 26 11).symm⟩ (fun k2 v hv ih => ?_)
  obtain ⟨v3, g, L⟩ := v
  obtain ⟨hb, hg⟩ := hv
  have hb : 0 ≤ v3.toInt ∧ v3.toInt ≤ 1900 := hb
  have hg : g = cpd g0 26 11 v3.toNatClampNeg := hg
  show Ex (fX12_copies_26_11_s2 fu k2 v3 g L) _
  unfold fX12_copies_26_11_s2
  refine Ex.ite (fun c => ?_) (fun c => ?_)
  · have c := icc_le (m := 1900) (n := v3.toInt) (by decide) rfl c
    have n12 : v3.toNatClampNeg = 1900 := by rw [nc]; omega
    rw [n12] at hg
    exact Ex.ret hg
  · have c := icc_nle (m := 1900) (n := v3.toInt) (by decide) rfl c
    refine Ex.ck (by omega) (by omega) (Ex.ck (by omega) (by omega) ?_)
    refine Ex.sti z_none (fun g2 g2e _ => ?_)
    generalize hw : v3 + 1 = w
    have ew : w.toInt = v3.toInt + 1 := by rw [← hw]; exact ic_addc rfl (by decide) (by omega) (by omega)
    have nw : w.toNatClampNeg = v3.toNatClampNeg + 1 := by rw [nc, nc]; omega
    refine ih (w, g2, L) ⟨(show 0 ≤ w.toInt ∧ w.toInt ≤ 1900 from by omega), ?_⟩ (by show 1901 - w.toInt < 1901 - v3.toInt; omega) (by show 0 < 1901 - v3.toInt; omega)
    show g2 = cpd g0 26 11 w.toNatClampNeg
    rw [nw, g2e, hg]; exact cpd_s g0 (by decide) v3.toNatClampNeg
set_option maxHeartbeats 4000000 in
theorem uX12_copies_12_48 (fu : Nat) (hfu : 1180591620717411303424 ≤ fu) (g0 : Nat → Nat → Int32) (L0 : Nat → Nat → Int64) : Ex (fX12_copies_12_48 fu g0 L0) (fun (r : Unit) g1 L1 => g1 = cpd g0 12 48 48) := by
  unfold fX12_copies_12_48 fX12_copies_12_48_l2
  have e0 : (0 : Int32).toInt = 0 := by decide
  refine Ex.loop (α := Int32 × (Nat → Nat → Int32) × (Nat → Nat → Int64)) (fun v => (0 ≤ v.1.toInt ∧ v.1.toInt ≤ 48) ∧ v.2.1 = cpd g0 12 48 v.1.toNatClampNeg) (fun v => 49 - v.1.toInt) (by omega) (by show 49 - (0 : Int32).toInt < (fu : Int); omega) ⟨(show 0 ≤ (0 : Int32).toInt ∧ (0 : Int32).toInt ≤ 48 from by omega), (cpd_0 g0 12 48).symm⟩ (fun k2 v hv ih => ?_)
  obtain ⟨v3, g, L⟩ := v
  obtain ⟨hb, hg⟩ := hv
  have hb : 0 ≤ v3.toInt ∧ v3.toInt ≤ 48 := hb
  have hg : g = cpd g0 12 48 v3.toNatClampNeg := hg
  show Ex (fX12_copies_12_48_s2 fu k2 v3 g L) _
  unfold fX12_copies_12_48_s2
  refine Ex.ite (fun c => ?_) (fun c => ?_)
  · have c := icc_le (m := 48) (n := v3.toInt) (by decide) rfl c
    have n12 : v3.toNatClampNeg = 48 := by rw [nc]; omega
    rw [n12] at hg
    exact Ex.ret hg
  · have c := icc_nle (m := 48) (n := v3.toInt) (by decide) rfl c
    refine Ex.ck (by omega) (by omega) (Ex.ck (by omega) (by omega) ?_)
    refine Ex.sti z_none (fun g2 g2e _ => ?_)
    generalize hw : v3 + 1 = w
    have ew : w.toInt = v3.toInt + 1 := by rw [← hw]; exact ic_addc rfl (by decide) (by omega) (by omega)
    have nw : w.toNatClampNeg = v3.toNatClampNeg + 1 := by rw [nc, nc]; omega
    refine ih (w, g2, L) ⟨(show 0 ≤ w.toInt ∧ w.toInt ≤ 48 from by omega), ?_⟩ (by show 49 - w.toInt < 49 - v3.toInt; omega) (by show 0 < 49 - v3.toInt; omega)
    show g2 = cpd g0 12 48 w.toNatClampNeg
    rw [nw, g2e, hg]; exact cpd_s g0 (by decide) v3.toNatClampNeg
set_option maxHeartbeats 4000000 in
theorem uX12_copies_36_49 (fu : Nat) (hfu : 1180591620717411303424 ≤ fu) (g0 : Nat → Nat → Int32) (L0 : Nat → Nat → Int64) : Ex (fX12_copies_36_49 fu g0 L0) (fun (r : Unit) g1 L1 => g1 = cpd g0 36 49 80) := by
  unfold fX12_copies_36_49 fX12_copies_36_49_l2
  have e0 : (0 : Int32).toInt = 0 := by decide
  refine Ex.loop (α := Int32 × (Nat → Nat → Int32) × (Nat → Nat → Int64)) (fun v => (0 ≤ v.1.toInt ∧ v.1.toInt ≤ 80) ∧ v.2.1 = cpd g0 36 49 v.1.toNatClampNeg) (fun v => 81 - v.1.toInt) (by omega) (by show 81 - (0 : Int32).toInt < (fu : Int); omega) ⟨(show 0 ≤ (0 : Int32).toInt ∧ (0 : Int32).toInt ≤ 80 from by omega), (cpd_0 g0 36 49).symm⟩ (fun k2 v hv ih => ?_)
  obtain ⟨v3, g, L⟩ := v
  obtain ⟨hb, hg⟩ := hv
  have hb : 0 ≤ v3.toInt ∧ v3.toInt ≤ 80 := hb
  have hg : g = cpd g0 36 49 v3.toNatClampNeg := hg
  show Ex (fX12_copies_36_49_s2 fu k2 v3 g L) _
  unfold fX12_copies_36_49_s2
  refine Ex.ite (fun c => ?_) (fun c => ?_)
  · have c := icc_le (m := 80) (n := v3.toInt) (by decide) rfl c
    have n12 : v3.toNatClampNeg = 80 := by rw [nc]; omega
    rw [n12] at hg
    exact Ex.ret hg
  · have c := icc_nle (m := 80) (n := v3.toInt) (by decide) rfl c
    refine Ex.ck (by omega) (by omega) (Ex.ck (by omega) (by omega) ?_)
    refine Ex.sti z_none (fun g2 g2e _ => ?_)
    generalize hw : v3 + 1 = w
    have ew : w.toInt = v3.toInt + 1 := by rw [← hw]; exact ic_addc rfl (by decide) (by omega) (by omega)
    have nw : w.toNatClampNeg = v3.toNatClampNeg + 1 := by rw [nc, nc]; omega
    refine ih (w, g2, L) ⟨(show 0 ≤ w.toInt ∧ w.toInt ≤ 80 from by omega), ?_⟩ (by show 81 - w.toInt < 81 - v3.toInt; omega) (by show 0 < 81 - v3.toInt; omega)
    show g2 = cpd g0 36 49 w.toNatClampNeg
    rw [nw, g2e, hg]; exact cpd_s g0 (by decide) v3.toNatClampNeg
set_option maxHeartbeats 4000000 in
theorem uX12_copies_43_50 (fu : Nat) (hfu : 1180591620717411303424 ≤ fu) (g0 : Nat → Nat → Int32) (L0 : Nat → Nat → Int64) : Ex (fX12_copies_43_50 fu g0 L0) (fun (r : Unit) g1 L1 => g1 = cpd g0 43 50 16) := by
  unfold fX12_copies_43_50 fX12_copies_43_50_l2
  have e0 : (0 : Int32).toInt = 0 := by decide
  refine Ex.loop (α := Int32 × (Nat → Nat → Int32) × (Nat → Nat → Int64)) (fun v => (0 ≤ v.1.toInt ∧ v.1.toInt ≤ 16) ∧ v.2.1 = cpd g0 43 50 v.1.toNatClampNeg) (fun v => 17 - v.1.toInt) (by omega) (by show 17 - (0 : Int32).toInt < (fu : Int); omega) ⟨(show 0 ≤ (0 : Int32).toInt ∧ (0 : Int32).toInt ≤ 16 from by omega), (cpd_0 g0 43 50).symm⟩ (fun k2 v hv ih => ?_)
  obtain ⟨v3, g, L⟩ := v
  obtain ⟨hb, hg⟩ := hv
  have hb : 0 ≤ v3.toInt ∧ v3.toInt ≤ 16 := hb
  have hg : g = cpd g0 43 50 v3.toNatClampNeg := hg
  show Ex (fX12_copies_43_50_s2 fu k2 v3 g L) _
  unfold fX12_copies_43_50_s2
  refine Ex.ite (fun c => ?_) (fun c => ?_)
  · have c := icc_le (m := 16) (n := v3.toInt) (by decide) rfl c
    have n12 : v3.toNatClampNeg = 16 := by rw [nc]; omega
    rw [n12] at hg
    exact Ex.ret hg
  · have c := icc_nle (m := 16) (n := v3.toInt) (by decide) rfl c
    refine Ex.ck (by omega) (by omega) (Ex.ck (by omega) (by omega) ?_)
    refine Ex.sti z_none (fun g2 g2e _ => ?_)
    generalize hw : v3 + 1 = w
    have ew : w.toInt = v3.toInt + 1 := by rw [← hw]; exact ic_addc rfl (by decide) (by omega) (by omega)
    have nw : w.toNatClampNeg = v3.toNatClampNeg + 1 := by rw [nc, nc]; omega
    refine ih (w, g2, L) ⟨(show 0 ≤ w.toInt ∧ w.toInt ≤ 16 from by omega), ?_⟩ (by show 17 - w.toInt < 17 - v3.toInt; omega) (by show 0 < 17 - v3.toInt; omega)
    show g2 = cpd g0 43 50 w.toNatClampNeg
    rw [nw, g2e, hg]; exact cpd_s g0 (by decide) v3.toNatClampNeg
set_option maxHeartbeats 4000000 in
theorem uX12_copies_48_12 (fu : Nat) (hfu : 1180591620717411303424 ≤ fu) (g0 : Nat → Nat → Int32) (L0 : Nat → Nat → Int64) : Ex (fX12_copies_48_12 fu g0 L0) (fun (r : Unit) g1 L1 => g1 = cpd g0 48 12 48) := by
  unfold fX12_copies_48_12 fX12_copies_48_12_l2
  have e0 : (0 : Int32).toInt = 0 := by decide
  refine Ex.loop (α := Int32 × (Nat → Nat → Int32) × (Nat → Nat → Int64)) (fun v => (0 ≤ v.1.toInt ∧ v.1.toInt ≤ 48) ∧ v.2.1 = cpd g0 48 12 v.1.toNatClampNeg) (fun v => 49 - v.1.toInt) (by omega) (by show 49 - (0 : Int32).toInt < (fu : Int); omega) ⟨(show 0 ≤ (0 : Int32).toInt ∧ (0 : Int32).toInt ≤ 48 from by omega), (cpd_0 g0 48 12).symm⟩ (fun k2 v hv ih => ?_)
  obtain ⟨v3, g, L⟩ := v
  obtain ⟨hb, hg⟩ := hv
  have hb : 0 ≤ v3.toInt ∧ v3.toInt ≤ 48 := hb
  have hg : g = cpd g0 48 12 v3.toNatClampNeg := hg
  show Ex (fX12_copies_48_12_s2 fu k2 v3 g L) _
  unfold fX12_copies_48_12_s2
  refine Ex.ite (fun c => ?_) (fun c => ?_)
  · have c := icc_le (m := 48) (n := v3.toInt) (by decide) rfl c
    have n12 : v3.toNatClampNeg = 48 := by rw [nc]; omega
    rw [n12] at hg
    exact Ex.ret hg
  · have c := icc_nle (m := 48) (n := v3.toInt) (by decide) rfl c
    refine Ex.ck (by omega) (by omega) (Ex.ck (by omega) (by omega) ?_)
    refine Ex.sti z_none (fun g2 g2e _ => ?_)
    generalize hw : v3 + 1 = w
    have ew : w.toInt = v3.toInt + 1 := by rw [← hw]; exact ic_addc rfl (by decide) (by omega) (by omega)
    have nw : w.toNatClampNeg = v3.toNatClampNeg + 1 := by rw [nc, nc]; omega
    refine ih (w, g2, L) ⟨(show 0 ≤ w.toInt ∧ w.toInt ≤ 48 from by omega), ?_⟩ (by show 49 - w.toInt < 49 - v3.toInt; omega) (by show 0 < 49 - v3.toInt; omega)
    show g2 = cpd g0 48 12 w.toNatClampNeg
    rw [nw, g2e, hg]; exact cpd_s g0 (by decide) v3.toNatClampNeg
set_option maxHeartbeats 4000000 in
theorem uX12_copies_49_36 (fu : Nat) (hfu : 1180591620717411303424 ≤ fu) (g0 : Nat → Nat → Int32) (L0 : Nat → Nat → Int64) : Ex (fX12_copies_49_36 fu g0 L0) (fun (r : Unit) g1 L1 => g1 = cpd g0 49 36 80) := by
  unfold fX12_copies_49_36 fX12_copies_49_36_l2
  have e0 : (0 : Int32).toInt = 0 := by decide
  refine Ex.loop (α := Int32 × (Nat → Nat → Int32) × (Nat → Nat → Int64)) (fun v => (0 ≤ v.1.toInt ∧ v.1.toInt ≤ 80) ∧ v.2.1 = cpd g0 49 36 v.1.toNatClampNeg) (fun v => 81 - v.1.toInt) (by omega) (by show 81 - (0 : Int32).toInt < (fu : Int); omega) ⟨(show 0 ≤ (0 : Int32).toInt ∧ (0 : Int32).toInt ≤ 80 from by omega), (cpd_0 g0 49 36).symm⟩ (fun k2 v hv ih => ?_)
  obtain ⟨v3, g, L⟩ := v
  obtain ⟨hb, hg⟩ := hv
  have hb : 0 ≤ v3.toInt ∧ v3.toInt ≤ 80 := hb
  have hg : g = cpd g0 49 36 v3.toNatClampNeg := hg
  show Ex (fX12_copies_49_36_s2 fu k2 v3 g L) _
  unfold fX12_copies_49_36_s2
  refine Ex.ite (fun c => ?_) (fun c => ?_)
  · have c := icc_le (m := 80) (n := v3.toInt) (by decide) rfl c
    have n12 : v3.toNatClampNeg = 80 := by rw [nc]; omega
    rw [n12] at hg
    exact Ex.ret hg
  · have c := icc_nle (m := 80) (n := v3.toInt) (by decide) rfl c
    refine Ex.ck (by omega) (by omega) (Ex.ck (by omega) (by omega) ?_)
    refine Ex.sti z_none (fun g2 g2e _ => ?_)
    generalize hw : v3 + 1 = w
    have ew : w.toInt = v3.toInt + 1 := by rw [← hw]; exact ic_addc rfl (by decide) (by omega) (by omega)
    have nw : w.toNatClampNeg = v3.toNatClampNeg + 1 := by rw [nc, nc]; omega
    refine ih (w, g2, L) ⟨(show 0 ≤ w.toInt ∧ w.toInt ≤ 80 from by omega), ?_⟩ (by show 81 - w.toInt < 81 - v3.toInt; omega) (by show 0 < 81 - v3.toInt; omega)
    show g2 = cpd g0 49 36 w.toNatClampNeg
    rw [nw, g2e, hg]; exact cpd_s g0 (by decide) v3.toNatClampNeg
set_option maxHeartbeats 4000000 in
theorem uX12_copies_50_43 (fu : Nat) (hfu : 1180591620717411303424 ≤ fu) (g0 : Nat → Nat → Int32) (L0 : Nat → Nat → Int64) : Ex (fX12_copies_50_43 fu g0 L0) (fun (r : Unit) g1 L1 => g1 = cpd g0 50 43 16) := by
  unfold fX12_copies_50_43 fX12_copies_50_43_l2
  have e0 : (0 : Int32).toInt = 0 := by decide
  refine Ex.loop (α := Int32 × (Nat → Nat → Int32) × (Nat → Nat → Int64)) (fun v => (0 ≤ v.1.toInt ∧ v.1.toInt ≤ 16) ∧ v.2.1 = cpd g0 50 43 v.1.toNatClampNeg) (fun v => 17 - v.1.toInt) (by omega) (by show 17 - (0 : Int32).toInt < (fu : Int); omega) ⟨(show 0 ≤ (0 : Int32).toInt ∧ (0 : Int32).toInt ≤ 16 from by omega), (cpd_0 g0 50 43).symm⟩ (fun k2 v hv ih => ?_)
  obtain ⟨v3, g, L⟩ := v
  obtain ⟨hb, hg⟩ := hv
  have hb : 0 ≤ v3.toInt ∧ v3.toInt ≤ 16 := hb
  have hg : g = cpd g0 50 43 v3.toNatClampNeg := hg
  show Ex (fX12_copies_50_43_s2 fu k2 v3 g L) _
  unfold fX12_copies_50_43_s2
  refine Ex.ite (fun c => ?_) (fun c => ?_)
  · have c := icc_le (m := 16) (n := v3.toInt) (by decide) rfl c
    have n12 : v3.toNatClampNeg = 16 := by rw [nc]; omega
    rw [n12] at hg
    exact Ex.ret hg
  · have c := icc_nle (m := 16) (n := v3.toInt) (by decide) rfl c
    refine Ex.ck (by omega) (by omega) (Ex.ck (by omega) (by omega) ?_)
    refine Ex.sti z_none (fun g2 g2e _ => ?_)
    generalize hw : v3 + 1 = w
    have ew : w.toInt = v3.toInt + 1 := by rw [← hw]; exact ic_addc rfl (by decide) (by omega) (by omega)
    have nw : w.toNatClampNeg = v3.toNatClampNeg + 1 := by rw [nc, nc]; omega
    refine ih (w, g2, L) ⟨(show 0 ≤ w.toInt ∧ w.toInt ≤ 16 from by omega), ?_⟩ (by show 17 - w.toInt < 17 - v3.toInt; omega) (by show 0 < 17 - v3.toInt; omega)
    show g2 = cpd g0 50 43 w.toNatClampNeg
    rw [nw, g2e, hg]; exact cpd_s g0 (by decide) v3.toNatClampNeg
set_option maxHeartbeats 4000000 in
theorem sX12_see (fu : Nat) (hfu : 1180591620717411303424 ≤ fu) (p1 p2 : Int32) (g0 : Nat → Nat → Int32) (L0 : Nat → Nat → Int64) (hI : zI MT g0) (hJ : mJ g0) : Ex (fX12_see fu p1 p2 g0 L0) (fun (r : Int32) g1 L1 => MQ1 g0 g1) := by
  unfold fX12_see
  refine Ex.sti (hI.updN rfl) (fun g1 g1e hI => ?_)
  have hJ : mJ g1 := by rw [g1e]; exact hJ.upd rfl
  have a1 : g1 0 18 = g0 0 18 := by rw [g1e]; rfl
  have a2 : g1 0 2 = g0 0 2 := by rw [g1e]; rfl
  refine Ex.cb (sX12_isLesson fu hfu p1 g1 L0 hI hJ) (fun x2 g3 L4 hq => ?_)
  obtain ⟨hI, hJ, b1, b2, rb, ip⟩ := hq
  have P35 : ∀ (g : Nat → Nat → Int32) (L : Nat → Nat → Int64), zI MT g → mJ g → g 0 18 = g0 0 18 → g 0 2 = g0 0 2 → Ex (fX12_see_p35 fu g L) (fun (r : Int32) g1 L1 => MQ1 g0 g1) := by
    intro g L hI hJ h1 h2
    unfold fX12_see_p35
    refine Ex.cb (sX12_refuses fu hfu 2 g L hI hJ (by decide)) (fun x g' L' hq => ?_)
    exact Ex.ret ⟨hq.1, hq.2.1, hq.2.2.1.trans h1, hq.2.2.2.1.trans h2⟩
  refine Ex.ite (fun c => Ex.ret ⟨hI, hJ, b1.trans a1, b2.trans a2⟩) (fun c => ?_)
  have c := icc_neq (m := x2.toInt) (n := 0) rfl (by decide) c
  have hp := ip (by omega)
  refine Ex.ite (fun c8 => P35 g3 L4 hI hJ (b1.trans a1) (b2.trans a2)) (fun c8 => ?_)
  have c8 := icc_neq (m := (g3 0 73).toInt) (n := 8) rfl (by decide) c8
  refine Ex.cb (sX12_within fu hfu p2 0 999 g3 L4 hI hJ) (fun x12 g13 L14 hq => ?_)
  obtain ⟨hI, hJ, -, -, d3, d1, d2, -, -⟩ := hq
  have f1 : g13 0 18 = g0 0 18 := d1.trans (b1.trans a1)
  have f2 : g13 0 2 = g0 0 2 := d2.trans (b2.trans a2)
  refine Ex.ite (fun c12 => P35 g13 L14 hI hJ f1 f2) (fun c12 => ?_)
  have h73 := hI 0 73 0 8 rfl
  have d3' : (g13 0 73).toInt = (g3 0 73).toInt := congrArg Int32.toInt d3
  generalize hz : 2 * (g13 0 73) = z
  have ez : z.toInt = 2 * (g13 0 73).toInt := by rw [← hz]; exact ic_mulc (by decide) rfl (by omega) (by omega)
  refine Ex.ck (by omega) (by omega) ?_
  refine Ex.sti (hI.updN rfl) (fun g17 g17e hI => ?_)
  have e1 : g17 0 73 = g13 0 73 := by rw [g17e]; rfl
  rw [e1, hz]
  generalize hy : z + 1 = y
  have ey : y.toInt = z.toInt + 1 := by rw [← hy]; exact ic_addc rfl (by decide) (by omega) (by omega)
  refine Ex.ck (by omega) (by omega) ?_
  refine Ex.sti (hI.updN rfl) (fun g18 g18e hI => ?_)
  have e2 : g18 0 73 = g13 0 73 := by rw [g18e, g17e]; rfl
  rw [e2]
  generalize hw : (g13 0 73) + 1 = w
  have ew : w.toInt = (g13 0 73).toInt + 1 := by rw [← hw]; exact ic_addc rfl (by decide) (by omega) (by omega)
  refine Ex.sti (hI.upd (lo := 0) (hi := 8) rfl (by omega) (by omega)) (fun g19 g19e hI => ?_)
  have o : ∀ k, k ≠ 43 → k ≠ 0 → g19 k = g13 k := fun k hk h0 => by rw [g19e, g18e, g17e]; funext j; rw [upd2_nk h0, upd2_nk hk, upd2_nk hk]
  have o0 : ∀ j, j ≠ 73 → g19 0 j = g13 0 j := fun j hj => by rw [g19e, upd2_nj hj, g18e, g17e]; rfl
  have q1 : g19 0 73 = w := by rw [g19e]; exact upd2_at
  have q2 : g19 43 = g18 43 := by rw [g19e]; rfl
  obtain ⟨j1, j2, j3, j4, j5, j6⟩ := hJ
  refine Ex.ret ⟨hI, ?_, (o0 18 (by decide)).trans f1, (o0 2 (by decide)).trans f2⟩
  unfold mJ
  refine ⟨?_, ?_, ?_, ?_, ?_, ?_⟩
  · rw [o0 1 (by decide), o 5 (by decide) (by decide), o 6 (by decide) (by decide), o 8 (by decide) (by decide)]; exact j1
  · rw [o0 52 (by decide), o0 2 (by decide)]; exact j2
  · rw [o0 2 (by decide), o0 62 (by decide), o 36 (by decide) (by decide)]; exact j3
  · rw [q1, q2]
    intro k hk
    by_cases hka : (k : Int) < (g13 0 73).toInt
    · have u1 : g18 43 (2 * k) = g13 43 (2 * k) := by rw [g18e, upd2_nj (by rw [nc]; omega), g17e, upd2_nj (by rw [nc]; omega)]
      rw [u1]; exact j4 k hka
    · have n1 : z.toNatClampNeg = 2 * k := toNat_eq (by omega)
      have n2 : y.toNatClampNeg = 2 * k + 1 := toNat_eq (by omega)
      have u1 : g18 43 (2 * k) = p1 := by rw [g18e, upd2_nj (by rw [n2]; omega), g17e, n1, upd2_at]
      rw [u1]; exact hp
  · rw [o0 2 (by decide), o 10 (by decide) (by decide), o 11 (by decide) (by decide)]; exact j5
  · rw [o0 2 (by decide), o0 81 (by decide), o0 82 (by decide), o0 83 (by decide), o0 84 (by decide), o 49 (by decide) (by decide), o 50 (by decide) (by decide)]; exact j6
theorem mAct.cp {r n n' : Int32} {a b : Nat → Int32} (h : mAct r n a) (hn : n' = n) (h40 : n.toInt ≤ 40) (e : ∀ j, j < 80 → b j = a j) : mAct r n' b := by
  subst hn
  intro k hk
  rw [e (2 * k) (by omega), e (2 * k + 1) (by omega)]
  exact h k hk
theorem mSee.cp {n n' : Int32} {a b : Nat → Int32} (h : mSee n a) (hn : n' = n) (h8 : n.toInt ≤ 8) (e : ∀ j, j < 16 → b j = a j) : mSee n' b := by
  subst hn
  intro k hk
  rw [e (2 * k) (by omega)]
  exact h k hk
set_option maxHeartbeats 4000000 in
theorem sX12_image (fu : Nat) (hfu : 1180591620717411303424 ≤ fu) (g0 : Nat → Nat → Int32) (L0 : Nat → Nat → Int64) (hI : zI MT g0) (hJ : mJ g0) : Ex (fX12_image fu g0 L0) (fun (r : Unit) g1 L1 => MQ1 g0 g1) := by
  have h62 := hI 0 62 0 40 rfl
  have h73 := hI 0 73 0 8 rfl
  have h52 := hI 0 52 (-1) 3 rfl
  unfold fX12_image
  refine Ex.sti (hI.updN rfl) (fun g1 g1e hI => ?_)
  refine Ex.sti (hI.upd (lo := 0) (hi := 1) rfl (by decide) (by decide)) (fun g2 g2e hI => ?_)
  have r52 : g2 0 52 = g0 0 52 := by rw [g2e, g1e]; rfl
  rw [r52]
  refine Ex.sti (hI.upd (lo := -1) (hi := 3) rfl h52.1 h52.2) (fun g3 g3e hI => ?_)
  have r62 : g3 0 62 = g0 0 62 := by rw [g3e, g2e, g1e]; rfl
  rw [r62]
  refine Ex.sti (hI.upd (lo := 0) (hi := 40) rfl h62.1 h62.2) (fun g4 g4e hI => ?_)
  have r73 : g4 0 73 = g0 0 73 := by rw [g4e, g3e, g2e, g1e]; rfl
  rw [r73]
  refine Ex.sti (hI.upd (lo := 0) (hi := 8) rfl h73.1 h73.2) (fun g5 g5e hI => ?_)
  have s0 : ∀ k, k ≠ 0 → g5 k = g0 k := fun k hk => by rw [g5e, g4e, g3e, g2e, g1e]; funext j; rw [upd2_nk hk, upd2_nk hk, upd2_nk hk, upd2_nk hk, upd2_nk hk]
  have s1 : ∀ j, j ≠ 0 → j ≠ 81 → j ≠ 82 → j ≠ 83 → j ≠ 84 → g5 0 j = g0 0 j := fun j a b c d e => by rw [g5e, upd2_nj e, g4e, upd2_nj d, g3e, upd2_nj c, g2e, upd2_nj b, g1e, upd2_nj a]
  have t82 : g5 0 82 = g0 0 52 := by rw [g5e, g4e, g3e]; rfl
  have t83 : g5 0 83 = g0 0 62 := by rw [g5e, g4e]; rfl
  have t84 : g5 0 84 = g0 0 73 := by rw [g5e]; rfl
  refine Ex.cb (uX12_copies_12_48 fu hfu g5 L0) (fun _ g7 L8 g7e => ?_)
  have hI7 : zI MT g7 := by rw [g7e]; exact zI_cpd hI (fun _ _ => Or.inr rfl)
  refine Ex.cb (uX12_copies_36_49 fu hfu g7 L8) (fun _ g11 L12 g11e => ?_)
  have hI11 : zI MT g11 := by rw [g11e]; exact zI_cpd hI7 (fun _ _ => Or.inr rfl)
  refine Ex.cb (uX12_copies_43_50 fu hfu g11 L12) (fun _ g15 L16 g15e => ?_)
  have hI15 : zI MT g15 := by rw [g15e]; exact zI_cpd hI11 (fun _ _ => Or.inr rfl)
  have w : ∀ k, k ≠ 48 → k ≠ 49 → k ≠ 50 → g15 k = g5 k := fun k a b c => by rw [g15e, cpd_ne c, g11e, cpd_ne b, g7e, cpd_ne a]
  have w0 : g15 0 = g5 0 := w 0 (by decide) (by decide) (by decide)
  obtain ⟨j1, j2, j3, j4, j5, j6⟩ := hJ
  refine Ex.ret ⟨hI15, ?_, by rw [w0]; exact s1 18 (by decide) (by decide) (by decide) (by decide) (by decide), by rw [w0]; exact s1 2 (by decide) (by decide) (by decide) (by decide) (by decide)⟩
  have v2 : g15 0 2 = g0 0 2 := by rw [w0]; exact s1 2 (by decide) (by decide) (by decide) (by decide) (by decide)
  have vv : ∀ k, k ≠ 48 → k ≠ 49 → k ≠ 50 → k ≠ 0 → g15 k = g0 k := fun k a b c d => (w k a b c).trans (s0 k d)
  unfold mJ
  rw [v2]
  refine ⟨?_, ?_, ?_, ?_, ?_, fun _ => ⟨?_, ?_, ?_⟩⟩
  · rw [w0, s1 1 (by decide) (by decide) (by decide) (by decide) (by decide), vv 5 (by decide) (by decide) (by decide) (by decide), vv 6 (by decide) (by decide) (by decide) (by decide), vv 8 (by decide) (by decide) (by decide) (by decide)]; exact j1
  · rw [w0, s1 52 (by decide) (by decide) (by decide) (by decide) (by decide)]; exact j2
  · rw [w0, s1 62 (by decide) (by decide) (by decide) (by decide) (by decide), vv 36 (by decide) (by decide) (by decide) (by decide)]; exact j3
  · rw [w0, s1 73 (by decide) (by decide) (by decide) (by decide) (by decide), vv 43 (by decide) (by decide) (by decide) (by decide)]; exact j4
  · rw [vv 10 (by decide) (by decide) (by decide) (by decide), vv 11 (by decide) (by decide) (by decide) (by decide)]; exact j5
  · rw [w0, t82]; exact j2
  · refine j3.cp (by rw [w0]; exact t83) h62.2 (fun j hj => ?_)
    rw [g15e, cpd_ne (by decide), g11e, cpd_at hj, g7e, cpd_ne (by decide), s0 36 (by decide)]
  · refine j4.cp (by rw [w0]; exact t84) h73.2 (fun j hj => ?_)
    rw [g15e, cpd_at hj, g11e, cpd_ne (by decide), g7e, cpd_ne (by decide), s0 43 (by decide)]
set_option maxHeartbeats 4000000 in
theorem sX12_restore (fu : Nat) (hfu : 1180591620717411303424 ≤ fu) (g0 : Nat → Nat → Int32) (L0 : Nat → Nat → Int64) (hI : zI MT g0) (hJ : mJ g0) : Ex (fX12_restore fu g0 L0) (fun (r : Int32) g1 L1 => MQ1 g0 g1) := by
  have h62 := hI 0 83 0 40 rfl
  have h73 := hI 0 84 0 8 rfl
  have h52 := hI 0 82 (-1) 3 rfl
  unfold fX12_restore
  refine Ex.sti (hI.updN rfl) (fun g1 g1e hI => ?_)
  have hJ1 : mJ g1 := by rw [g1e]; exact hJ.upd rfl
  have q0 : ∀ j, j ≠ 0 → g1 0 j = g0 0 j := fun j hj => by rw [g1e, upd2_nj hj]
  refine Ex.ite (fun c => Ex.ckb rfl (Ex.ret ⟨hI, hJ1, q0 18 (by decide), q0 2 (by decide)⟩)) (fun c => ?_)
  have c := icc_neq (m := (g1 0 81).toInt) (n := 0) rfl (by decide) c
  rw [q0 81 (by decide)] at c
  rw [q0 82 (by decide)]
  refine Ex.sti (hI.upd (lo := -1) (hi := 3) rfl h52.1 h52.2) (fun g3 g3e hI => ?_)
  have r83 : g3 0 83 = g0 0 83 := by rw [g3e, g1e]; rfl
  rw [r83]
  refine Ex.sti (hI.upd (lo := 0) (hi := 40) rfl h62.1 h62.2) (fun g4 g4e hI => ?_)
  have r84 : g4 0 84 = g0 0 84 := by rw [g4e, g3e, g1e]; rfl
  rw [r84]
  refine Ex.sti (hI.upd (lo := 0) (hi := 8) rfl h73.1 h73.2) (fun g5 g5e hI => ?_)
  have s0 : ∀ k, k ≠ 0 → g5 k = g0 k := fun k hk => by rw [g5e, g4e, g3e, g1e]; funext j; rw [upd2_nk hk, upd2_nk hk, upd2_nk hk, upd2_nk hk]
  have s1 : ∀ j, j ≠ 0 → j ≠ 52 → j ≠ 62 → j ≠ 73 → g5 0 j = g0 0 j := fun j a b c d => by rw [g5e, upd2_nj d, g4e, upd2_nj c, g3e, upd2_nj b, g1e, upd2_nj a]
  have t52 : g5 0 52 = g0 0 82 := by rw [g5e, g4e, g3e]; rfl
  have t62 : g5 0 62 = g0 0 83 := by rw [g5e, g4e]; rfl
  have t73 : g5 0 73 = g0 0 84 := by rw [g5e]; rfl
  refine Ex.cb (uX12_copies_48_12 fu hfu g5 L0) (fun _ g7 L8 g7e => ?_)
  have hI7 : zI MT g7 := by rw [g7e]; exact zI_cpd hI (fun _ _ => Or.inr rfl)
  refine Ex.cb (uX12_copies_49_36 fu hfu g7 L8) (fun _ g11 L12 g11e => ?_)
  have hI11 : zI MT g11 := by rw [g11e]; exact zI_cpd hI7 (fun _ _ => Or.inr rfl)
  refine Ex.cb (uX12_copies_50_43 fu hfu g11 L12) (fun _ g15 L16 g15e => ?_)
  have hI15 : zI MT g15 := by rw [g15e]; exact zI_cpd hI11 (fun _ _ => Or.inr rfl)
  have w : ∀ k, k ≠ 12 → k ≠ 36 → k ≠ 43 → g15 k = g5 k := fun k a b c => by rw [g15e, cpd_ne c, g11e, cpd_ne b, g7e, cpd_ne a]
  have w0 : g15 0 = g5 0 := w 0 (by decide) (by decide) (by decide)
  obtain ⟨j1, j2, j3, j4, j5, j6⟩ := hJ
  obtain ⟨i1, i2, i3⟩ := j6 c
  have v2 : g15 0 2 = g0 0 2 := by rw [w0]; exact s1 2 (by decide) (by decide) (by decide) (by decide)
  have vv : ∀ k, k ≠ 12 → k ≠ 36 → k ≠ 43 → k ≠ 0 → g15 k = g0 k := fun k a b c d => (w k a b c).trans (s0 k d)
  refine Ex.ckb rfl (Ex.ret ⟨hI15, ?_, by rw [w0]; exact s1 18 (by decide) (by decide) (by decide) (by decide), v2⟩)
  unfold mJ
  rw [v2]
  refine ⟨?_, ?_, ?_, ?_, ?_, fun _ => ⟨?_, ?_, ?_⟩⟩
  · rw [w0, s1 1 (by decide) (by decide) (by decide) (by decide), vv 5 (by decide) (by decide) (by decide) (by decide), vv 6 (by decide) (by decide) (by decide) (by decide), vv 8 (by decide) (by decide) (by decide) (by decide)]; exact j1
  · rw [w0, t52]; exact i1
  · refine i2.cp (by rw [w0]; exact t62) h62.2 (fun j hj => ?_)
    rw [g15e, cpd_ne (by decide), g11e, cpd_at hj, g7e, cpd_ne (by decide), s0 49 (by decide)]
  · refine i3.cp (by rw [w0]; exact t73) h73.2 (fun j hj => ?_)
    rw [g15e, cpd_at hj, g11e, cpd_ne (by decide), g7e, cpd_ne (by decide), s0 50 (by decide)]
  · rw [vv 10 (by decide) (by decide) (by decide) (by decide), vv 11 (by decide) (by decide) (by decide) (by decide)]; exact j5
  · rw [w0, s1 82 (by decide) (by decide) (by decide) (by decide)]; exact i1
  · rw [w0, s1 83 (by decide) (by decide) (by decide) (by decide), vv 49 (by decide) (by decide) (by decide) (by decide)]; exact i2
  · rw [w0, s1 84 (by decide) (by decide) (by decide) (by decide), vv 50 (by decide) (by decide) (by decide) (by decide)]; exact i3
