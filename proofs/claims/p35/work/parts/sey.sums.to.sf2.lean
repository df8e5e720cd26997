section
/-! ===== sums over subsets; longs; the greatest common divisor ===== -/
def sF (h : Nat → Int) : Nat → Int
  | 0 => 0
  | x + 1 => sF h x + h x
theorem sF_c {h h' : Nat → Int} : ∀ {n : Nat}, (∀ x, x < n → h x = h' x) → sF h n = sF h' n := by
  intro n
  induction n with
  | zero => intro _; rfl
  | succ n ih =>
    intro e
    show sF h n + h n = sF h' n + h' n
    rw [ih (fun x hx => e x (by omega)), e n (by omega)]
theorem sF_add {h : Nat → Int} {a : Nat} : ∀ b : Nat, sF h (a + b) = sF h a + sF (fun y => h (a + y)) b := by
  intro b
  induction b with
  | zero => show sF h a = sF h a + 0; omega
  | succ b ih =>
    show sF h (a + b) + h (a + b) = sF h a + (sF (fun y => h (a + y)) b + h (a + b))
    rw [ih]; omega
theorem sF_two {h1 h2 : Nat → Int} : ∀ n : Nat, sF h1 n + sF h2 n = sF (fun x => h1 x + h2 x) n := by
  intro n
  induction n with
  | zero => rfl
  | succ n ih =>
    show sF h1 n + h1 n + (sF h2 n + h2 n) = sF (fun x => h1 x + h2 x) n + (h1 n + h2 n)
    rw [← ih]; omega
theorem sF_mul {h : Nat → Int} {c : Int} : ∀ n : Nat, sF (fun x => c * h x) n = c * sF h n := by
  intro n
  induction n with
  | zero => show (0 : Int) = c * 0; rw [Int.mul_zero]
  | succ n ih =>
    show sF (fun x => c * h x) n + c * h n = c * (sF h n + h n)
    rw [ih, Int.mul_add]
theorem sF_b {h : Nat → Int} {B : Int} : ∀ n : Nat, (∀ x, x < n → 0 ≤ h x ∧ h x ≤ B) → 0 ≤ sF h n ∧ sF h n ≤ (n : Int) * B := by
  intro n
  induction n with
  | zero => intro _; show (0 : Int) ≤ 0 ∧ (0 : Int) ≤ ((0 : Nat) : Int) * B; rw [Int.ofNat_zero, Int.zero_mul]; exact ⟨Int.le_refl _, Int.le_refl _⟩
  | succ n ih =>
    intro e
    have a := ih (fun x hx => e x (by omega))
    have b := e n (by omega)
    show 0 ≤ sF h n + h n ∧ sF h n + h n ≤ ((n + 1 : Nat) : Int) * B
    have c : ((n + 1 : Nat) : Int) * B = (n : Int) * B + B := by rw [Int.natCast_add, Int.add_mul]; show _ + 1 * B = _; rw [Int.one_mul]
    rw [c]; omega
/-- the weight of a subset of the first m -/
def wt (p : Nat → Int) : Nat → Nat → Int
  | 0, _ => 1
  | m + 1, x => wt p m x * (if x.testBit m = true then p m else 10 - p m)
theorem wt_c {p : Nat → Int} {x y : Nat} : ∀ m : Nat, (∀ k, k < m → x.testBit k = y.testBit k) → wt p m x = wt p m y := by
  intro m
  induction m with
  | zero => intro _; rfl
  | succ m ih =>
    intro h
    show wt p m x * _ = wt p m y * _
    rw [ih (fun k hk => h k (by omega)), h m (by omega)]
theorem wt_b {p : Nat → Int} {x : Nat} : ∀ m : Nat, m ≤ 8 → (∀ k, k < m → 1 ≤ p k ∧ p k ≤ 9) → 0 ≤ wt p m x ∧ wt p m x ≤ 10 ^ m := by
  intro m
  induction m with
  | zero => intro _ _; exact ⟨by show (0 : Int) ≤ 1; omega, by show (1 : Int) ≤ 10 ^ 0; decide⟩
  | succ m ih =>
    intro hm h
    obtain ⟨a1, a2⟩ := ih (by omega) (fun k hk => h k (by omega))
    have b := h m (by omega)
    have e : (10 : Int) ^ (m + 1) = 10 ^ m * 10 := Int.pow_succ _ _
    show 0 ≤ wt p m x * _ ∧ wt p m x * _ ≤ _
    rw [e]
    have q : 0 ≤ (if x.testBit m = true then p m else 10 - p m) ∧ (if x.testBit m = true then p m else 10 - p m) ≤ 10 := by split <;> omega
    exact ⟨Int.mul_nonneg a1 q.1, Int.mul_le_mul a2 q.2 q.1 (by omega)⟩
/-- one more of which nothing depends: ten times as much -/
theorem sum_s {p : Nat → Int} {m : Nat} {f f' : Nat → Int} (h1 : ∀ x, x < 2 ^ m → f' x = f x) (h2 : ∀ x, x < 2 ^ m → f' (2 ^ m + x) = f x) : sF (fun x => wt p (m + 1) x * f' x) (2 ^ (m + 1)) = 10 * sF (fun x => wt p m x * f x) (2 ^ m) := by
  have e : 2 ^ (m + 1) = 2 ^ m + 2 ^ m := by rw [Nat.pow_succ]; omega
  rw [e, sF_add]
  have a : sF (fun x => wt p (m + 1) x * f' x) (2 ^ m) = sF (fun x => wt p m x * (10 - p m) * f x) (2 ^ m) := sF_c (fun x hx => by
    show wt p m x * _ * f' x = _
    rw [Nat.testBit_lt_two_pow hx, h1 x hx, if_neg (by decide)])
  have b : sF (fun y => wt p (m + 1) (2 ^ m + y) * f' (2 ^ m + y)) (2 ^ m) = sF (fun x => wt p m x * p m * f x) (2 ^ m) := sF_c (fun x hx => by
    show wt p m (2 ^ m + x) * _ * f' (2 ^ m + x) = _
    rw [Nat.testBit_two_pow_add_eq, Nat.testBit_lt_two_pow hx, h2 x hx, if_pos (by decide), wt_c m (fun k hk => Nat.testBit_two_pow_add_gt hk x)])
  rw [a, b, sF_two, ← sF_mul]
  refine sF_c (fun x _ => ?_)
  rw [← Int.add_mul, ← Int.mul_add, show 10 - p m + p m = 10 by omega, Int.mul_comm (wt p m x) 10, Int.mul_assoc]
/-! longs -/
theorem lg_rg (x : Int64) : -9223372036854775808 ≤ x.toInt ∧ x.toInt ≤ 9223372036854775807 := ⟨Int64.le_toInt x, Int.le_of_lt_add_one (Int64.toInt_lt x)⟩
theorem lg_b {n : Int} (h1 : -9223372036854775808 ≤ n) (h2 : n ≤ 9223372036854775807) : n.bmod (2 ^ 64) = n := Int.bmod_eq_of_le (by omega) (by omega)
theorem lg_addc {x y : Int64} {m n : Int} (hx : x.toInt = m) (hy : y.toInt = n) (h1 : -9223372036854775808 ≤ m + n) (h2 : m + n ≤ 9223372036854775807) : (x + y).toInt = m + n := by
  rw [Int64.toInt_add, hx, hy, lg_b h1 h2]
theorem lg_subc {x y : Int64} {m n : Int} (hx : x.toInt = m) (hy : y.toInt = n) (h1 : -9223372036854775808 ≤ m - n) (h2 : m - n ≤ 9223372036854775807) : (x - y).toInt = m - n := by
  rw [Int64.toInt_sub, hx, hy, lg_b h1 h2]
theorem lg_mulc {x y : Int64} {m n : Int} (hx : x.toInt = m) (hy : y.toInt = n) (h1 : -9223372036854775808 ≤ m * n) (h2 : m * n ≤ 9223372036854775807) : (x * y).toInt = m * n := by
  rw [Int64.toInt_mul, hx, hy, lg_b h1 h2]
theorem lg_divc {x y : Int64} {m n : Nat} (hx : x.toInt = (m : Int)) (hy : y.toInt = (n : Int)) : (x / y).toInt = ((m / n : Nat) : Int) := by
  rw [Int64.toInt_div_of_ne_right _ _ (fun q => by
    rw [q] at hy
    have : (-1 : Int64).toInt = -1 := rfl
    omega), hx, hy, Int.tdiv_eq_ediv_of_nonneg (by omega)]
  rfl
theorem lg_modc {x y : Int64} {m n : Nat} (hx : x.toInt = (m : Int)) (hy : y.toInt = (n : Int)) : (x - x / y * y).toInt = ((m % n : Nat) : Int) := by
  have r := lg_rg x
  rw [hx] at r
  have d := lg_divc hx hy
  have e : m / n * n + m % n = m := by rw [Nat.mul_comm]; exact Nat.div_add_mod m n
  have le : m / n * n ≤ m := by omega
  have c : ((m / n : Nat) : Int) * (n : Int) = ((m / n * n : Nat) : Int) := (Int.natCast_mul _ _).symm
  have mu : (x / y * y).toInt = ((m / n * n : Nat) : Int) := by
    rw [lg_mulc d hy (by rw [c]; omega) (by rw [c]; omega), c]
  rw [lg_subc hx mu (by omega) (by omega)]
  omega
theorem lg_c0 {x : Int64} {m : Nat} (hx : x.toInt = (m : Int)) : (lg_cmp x 0) = 0 ↔ m = 0 := by
  have z : (0 : Int64).toInt = 0 := rfl
  unfold lg_cmp
  constructor
  · intro h
    split at h
    · exact absurd h (by decide)
    · split at h
      · rename_i h9; rw [h9] at hx; omega
      · exact absurd h (by decide)
  · intro h
    have e : x = 0 := Int64.toInt_inj.mp (by rw [hx, h]; rfl)
    rw [e]; rfl
theorem lg_c1 {x : Int64} {m : Nat} (hx : x.toInt = (m : Int)) : (lg_cmp x 1) ≤ 0 ↔ m ≤ 1 := by
  have z : (1 : Int64).toInt = 1 := rfl
  unfold lg_cmp
  by_cases c : (1 : Int64) < x
  · have c' := Int64.lt_iff_toInt_lt.mp c
    rw [if_pos (show x > 1 from c)]
    exact ⟨fun h => absurd h (by decide), fun h => by omega⟩
  · have c' : ¬ (1 : Int64).toInt < x.toInt := fun q => c (Int64.lt_iff_toInt_lt.mpr q)
    rw [if_neg (show ¬ x > 1 from c)]
    refine ⟨fun _ => by omega, fun _ => ?_⟩
    by_cases e : x = 1
    · rw [if_pos e]; decide
    · rw [if_neg e]; decide
theorem pc_ltl {ρ : Type} {Q : ρ → gT → lT → Prop} {v : Int64} {K : Int64 → Option (ρ × zS)} (h : ∀ x, x = v → Pc (K x) Q) : Pc (ltl v K) Q := h v rfl
theorem pc_stle {ρ : Type} {Q : ρ → gT → lT → Prop} {L : lT} {k j : Nat} {x : Int64} {K : lT → Option (ρ × zS)} (h : ∀ L1, L1 = updL L k j x → Pc (K L1) Q) : Pc (stl L k j x K) Q := h _ rfl
theorem pc_cnzL {ρ : Type} {Q : ρ → gT → lT → Prop} {y : Int64} {K : Option (ρ × zS)} (h : Pc K Q) : Pc (cnzL y K) Q := by
  unfold cnzL
  split
  · exact pc_none
  · exact h
theorem updL_at {L : lT} {k j : Nat} {x : Int64} : updL L k j x k j = x := by
  unfold updL
  rw [if_pos rfl]
  exact if_pos rfl
theorem updL_nj {L : lT} {k j j' : Nat} {x : Int64} (h : j' ≠ j) : updL L k j x k j' = L k j' := by
  unfold updL
  rw [if_pos rfl]
  exact if_neg h
/-- Euclid's steps -/
theorem eu_step {A B s : Nat} (b0 : B ≠ 0) (h1 : B * 2 ^ (s / 2) < 9223372036854775808) (h2 : 1 ≤ s → B < A ∧ A * 2 ^ ((s - 1) / 2) < 9223372036854775808) : (A % B) * 2 ^ ((s + 1) / 2) < 9223372036854775808 ∧ A % B < B ∧ B * 2 ^ ((s + 1 - 1) / 2) < 9223372036854775808 := by
  have lt : A % B < B := Nat.mod_lt _ (by omega)
  refine ⟨?_, lt, h1⟩
  by_cases c : 1 ≤ s
  · obtain ⟨q1, q2⟩ := h2 c
    have e : (s + 1) / 2 = (s - 1) / 2 + 1 := by omega
    have d := Nat.div_add_mod A B
    have d1 : 1 ≤ A / B := (Nat.le_div_iff_mul_le (by omega)).mpr (by omega)
    have d2 : B * 1 ≤ B * (A / B) := Nat.mul_le_mul_left _ d1
    have two : 2 * (A % B) ≤ A := by omega
    rw [e, Nat.pow_succ, Nat.mul_comm (2 ^ _) 2, ← Nat.mul_assoc, Nat.mul_comm (A % B) 2]
    exact Nat.lt_of_le_of_lt (Nat.mul_le_mul_right _ two) q2
  · have e : (s + 1) / 2 = s / 2 := by omega
    rw [e]
    exact Nat.lt_of_le_of_lt (Nat.mul_le_mul_right _ (by omega)) h1
theorem reduce_x {fu : Nat} {g : gT} {L : lT} {up low : Nat} (h5 : (L 11 5).toInt = (up : Int)) (h6 : (L 11 6).toInt = (low : Int)) (l0 : 0 < low) : Pc (fX0_reduce_11 fu g L) (fun _ _ L1 => (L1 11 5).toInt = ((up / Nat.gcd low up : Nat) : Int) ∧ (L1 11 6).toInt = ((low / Nat.gcd low up : Nat) : Int)) := by
  have r5 := lg_rg (L 11 5)
  rw [h5] at r5
  unfold fX0_reduce_11
  refine pc_ltl (fun y1 e1 => pc_ltl (fun y2 e2 => ?_))
  have fin : ∀ (v : Int64) (g' : gT), v.toInt = ((Nat.gcd low up : Nat) : Int) → Pc (fX0_reduce_11_p43 fu v g' L) (fun _ _ L1 => (L1 11 5).toInt = ((up / Nat.gcd low up : Nat) : Int) ∧ (L1 11 6).toInt = ((low / Nat.gcd low up : Nat) : Int)) := by
    intro v g' hv
    have gp : 0 < Nat.gcd low up := Nat.gcd_pos_of_pos_left _ l0
    unfold fX0_reduce_11_p43 fX0_reduce_11_p69
    refine pc_ite (fun c => pc_some ?_) (fun c => pc_cnzL (pc_stle (fun L4 e4 => pc_cnzL (pc_stle (fun L5 e5 => pc_some ⟨?_, ?_⟩)))))
    · have c := (lg_c1 hv).mp c
      have e : Nat.gcd low up = 1 := by omega
      rw [e, Nat.div_one, Nat.div_one]
      exact ⟨h5, h6⟩
    · rw [e5, updL_nj (by decide), e4, updL_at]
      exact lg_divc h5 hv
    · rw [e5, updL_at, e4, updL_nj (by decide)]
      exact lg_divc h6 hv
  unfold fX0_reduce_11_l13
  refine pc_loop (fun v => ∃ (s A B : Nat), v.2.2.1.toInt = (s : Int) ∧ s ≤ 200 ∧ v.1.toInt = (A : Int) ∧ v.2.1.toInt = (B : Int) ∧ Nat.gcd A B = Nat.gcd low up ∧ B * 2 ^ (s / 2) < 9223372036854775808 ∧ (1 ≤ s → B < A ∧ A * 2 ^ ((s - 1) / 2) < 9223372036854775808) ∧ v.2.2.2.2 = L) (fun k13 hk v hv => ?_) ⟨0, low, up, rfl, by omega, by rw [e1]; exact h6, by rw [e2]; exact h5, rfl, by rw [Nat.zero_div, Nat.pow_zero]; omega, fun h => by omega, rfl⟩
  obtain ⟨v1, v3, v5, g', L'⟩ := v
  obtain ⟨s, A, B, hs, s2, hA, hB, hg, b1, b2, eL⟩ := hv
  replace hs : v5.toInt = (s : Int) := hs
  replace hA : v1.toInt = (A : Int) := hA
  replace hB : v3.toInt = (B : Int) := hB
  replace eL : L' = L := eL
  rw [eL]
  show Pc (fX0_reduce_11_s13 fu k13 v1 v3 v5 g' L) _
  unfold fX0_reduce_11_s13
  refine pc_ite (fun c => fin v1 g' ?_) (fun c => pc_ite (fun c2 => fin v1 g' ?_) (fun c2 => pc_cnzL (pc_ltl (fun y8 e8 => hk _ ⟨s + 1, B, A % B, ?_, ?_, hB, ?_, ?_, ?_, ?_, rfl⟩))))
  · have c := icc_le (m := 200) rfl hs c
    have es : s = 200 := by omega
    have bz : B = 0 := by
      refine Classical.byContradiction (fun hb => ?_)
      rw [es] at b1
      have : 1 * 2 ^ (200 / 2) ≤ B * 2 ^ (200 / 2) := Nat.mul_le_mul_right _ (by omega)
      have k : (9223372036854775808 : Nat) ≤ 1 * 2 ^ (200 / 2) := by decide
      omega
    rw [bz, Nat.gcd_zero_right] at hg
    rw [hA, hg]
  · have c2 := (lg_c0 hB).mp c2
    rw [c2, Nat.gcd_zero_right] at hg
    rw [hA, hg]
  · have c := icc_nle (m := 200) rfl hs c
    show (v5 + 1).toInt = _
    rw [ic_addc hs (n := 1) rfl (by omega) (by omega)]; omega
  · have c := icc_nle (m := 200) rfl hs c
    omega
  · show y8.toInt = _
    rw [e8]; exact lg_modc hA hB
  · rw [← hg, Nat.gcd_comm A B, Nat.gcd_rec B A, Nat.gcd_comm]
  · exact (eu_step (fun q => c2 ((lg_c0 hB).mpr q)) b1 b2).1
  · intro _
    exact (eu_step (fun q => c2 ((lg_c0 hB).mpr q)) b1 b2).2
theorem portion_m {fu : Nat} {p1 p2 : Int64} {p3 : Int32} {g : gT} {L : lT} {up low : Nat} (h1 : p1.toInt = (up : Int)) (h2 : p2.toInt = (low : Int)) : Pc (fX12_portion fu p1 p2 p3 g L) (fun x g1 _ => g1 = g ∧ x.toInt = (((if p3 = 0 then up else low) / Nat.gcd low up : Nat) : Int)) := by
  unfold fX12_portion fX12_portion_l6
  refine pc_loop (fun v => ∃ (A B : Nat), v.1.toInt = (A : Int) ∧ v.2.1.toInt = (B : Int) ∧ Nat.gcd A B = Nat.gcd low up ∧ v.2.2.1 = g) (fun k6 hk v hv => ?_) ⟨low, up, h2, h1, rfl, rfl⟩
  obtain ⟨v5, v7, g', L'⟩ := v
  obtain ⟨A, B, hA, hB, hg, eg⟩ := hv
  replace hA : v5.toInt = (A : Int) := hA
  replace hB : v7.toInt = (B : Int) := hB
  replace eg : g' = g := eg
  subst eg
  show Pc (fX12_portion_s6 fu p1 p2 p3 k6 v5 v7 g' L') _
  unfold fX12_portion_s6 fX12_portion_p41
  refine pc_ite (fun c2 => ?_) (fun c2 => pc_cnzL (pc_ltl (fun y3 e3 => hk _ ⟨B, A % B, hB, ?_, ?_, rfl⟩)))
  · have c2 := (lg_c0 hB).mp c2
    rw [c2, Nat.gcd_zero_right] at hg
    rw [hg] at hA
    refine pc_ite (fun c0 => pc_cnzL (pc_some ⟨rfl, ?_⟩)) (fun c0 => pc_cnzL (pc_some ⟨rfl, ?_⟩))
    · rw [if_pos c0]; exact lg_divc h1 hA
    · rw [if_neg c0]; exact lg_divc h2 hA
  · show y3.toInt = _
    rw [e3]; exact lg_modc hA hB
  · rw [← hg, Nat.gcd_comm A B, Nat.gcd_rec B A, Nat.gcd_comm]
end
section
/-! ===== the longs stand while lessons run ===== -/
section PLL
variable {fu : Nat} {g : gT} {L : lT}
theorem pl_up {p1 : Int32} : Pc (fX1_isUpstairs_8 fu p1 g L) (fun _ _ L1 => L1 = L) := by
  unfold fX1_isUpstairs_8 fX1_isUpstairs_8_p18
  exact pc_ck (fun _ _ => pc_ite (fun _ => pc_ckb (pc_some rfl)) (fun _ => pc_ckb (pc_some rfl)))
theorem pl_way {p1 p2 : Int32} : Pc (fX1_way_8 fu p1 p2 g L) (fun _ _ L1 => L1 = L) := by
  unfold fX1_way_8 fX1_way_8_p55
  refine pc_ck (fun _ _ => pc_ck (fun _ _ => pc_lti (fun _ _ => pc_cb pl_up (fun _ _ L1 e => ?_))))
  subst e
  refine pc_cb pl_up (fun _ _ L2 e => ?_)
  subst e
  exact pc_ite (fun _ => pc_some rfl) (fun _ => pc_ite (fun _ => pc_ck (fun _ _ => pc_ltn (fun _ _ => pc_cnz (pc_some rfl)))) (fun _ => pc_some rfl))
theorem pl_co {p1 p2 p3 : Int32} : Pc (fX1_comingOf_8 fu p1 p2 p3 g L) (fun _ _ L1 => L1 = L) := by
  unfold fX1_comingOf_8 fX1_comingOf_8_l6
  refine pc_loop (fun v => v.2.2.2 = L) (fun k6 hk v hv => ?_) rfl
  obtain ⟨v4, v5, g', L'⟩ := v
  replace hv : L' = L := hv
  subst hv
  show Pc (fX1_comingOf_8_s6 fu p1 p2 k6 v4 v5 g' L') _
  unfold fX1_comingOf_8_s6
  refine pc_ite (fun _ => pc_some rfl) (fun _ => ?_)
  unfold fX1_comingOf_8_l18
  refine pc_loop (fun v => v.2.2.2 = L') (fun k18 hk2 v hv => ?_) rfl
  obtain ⟨v6, v7, g2, L2⟩ := v
  replace hv : L2 = L' := hv
  subst hv
  show Pc (fX1_comingOf_8_s18 fu k6 p1 p2 v4 v5 k18 v6 v7 g2 L2) _
  unfold fX1_comingOf_8_s18 fX1_comingOf_8_p84 fX1_comingOf_8_p48
  refine pc_ite (fun _ => pc_ite (fun _ => hk _ rfl) (fun _ => pc_ck (fun _ _ => pc_ite (fun _ => hk _ rfl) (fun _ => pc_ck (fun _ _ => pc_lti (fun _ _ => hk _ rfl)))))) (fun _ => pc_ck (fun _ _ => pc_ck (fun _ _ => pc_ite (fun _ => pc_lti (fun _ _ => hk2 _ rfl)) (fun _ => pc_lti (fun _ _ => hk2 _ rfl)))))
theorem pl_fc {p1 : Int32} {q : Nat} : Pc (fX1_firstComingAt_8_les fu p1 q g L) (fun _ _ L1 => L1 = L) := by
  unfold fX1_firstComingAt_8_les fX1_firstComingAt_8_les_l2
  refine pc_loop (fun v => v.2.2 = L) (fun k2 hk v hv => ?_) rfl
  obtain ⟨v3, g', L'⟩ := v
  replace hv : L' = L := hv
  subst hv
  show Pc (fX1_firstComingAt_8_les_s2 fu p1 q k2 v3 g' L') _
  unfold fX1_firstComingAt_8_les_s2
  exact pc_ite (fun _ => pc_some rfl) (fun _ => pc_ck (fun _ _ => pc_ite (fun _ => pc_ck (fun _ _ => pc_some rfl)) (fun _ => hk _ rfl)))
theorem pl_bt {p1 v3 : Int32} {q : Nat} : Pc (fX1_begin_8_les_p115 fu p1 q v3 g L) (fun _ _ L1 => L1 = L) := by
  unfold fX1_begin_8_les_p115
  refine pc_ite (fun _ => pc_ck (fun _ _ => pc_lti (fun _ _ => pc_ite (fun _ => pc_ck (fun _ _ => pc_st (fun _ _ => pc_cb pl_fc (fun _ _ L1 e => ?_)))) (fun _ => pc_ck (fun _ _ => pc_st (fun _ _ => pc_some rfl)))))) (fun _ => pc_some rfl)
  subst e
  exact pc_ck (fun _ _ => pc_st (fun _ _ => pc_some rfl))
theorem pl_be {p1 : Int32} {q : Nat} : Pc (fX1_begin_8_les fu p1 q g L) (fun _ _ L1 => L1 = L) := by
  unfold fX1_begin_8_les
  refine pc_ck (fun _ _ => pc_st (fun _ _ => pc_ck (fun _ _ => pc_st (fun g2 _ => pc_lti (fun x3 _ => ?_)))))
  unfold fX1_begin_8_les_l25
  refine pc_loop (fun v => v.2.2.2 = L) (fun k25 hk v hv => ?_) rfl
  obtain ⟨v3, v4, g', L'⟩ := v
  replace hv : L' = L := hv
  subst hv
  show Pc (fX1_begin_8_les_s25 fu p1 q k25 v3 v4 g' L') _
  unfold fX1_begin_8_les_s25
  refine pc_ite (fun _ => pc_ite (fun _ => pc_cb pl_co (fun _ _ L1 e => ?_)) (fun _ => pl_bt)) (fun _ => pc_ck (fun _ _ => pc_lti (fun _ _ => pc_ck (fun _ _ => pc_cb pl_way (fun _ _ L1 e => ?_)))))
  · subst e; exact pl_bt
  · subst e
    exact pc_ck (fun _ _ => pc_ck (fun _ _ => pc_st (fun _ _ => pc_ck (fun _ _ => pc_lti (fun _ _ => hk _ rfl)))))
theorem pl_jo {p1 p2 p3 : Int32} : Pc (fX8_joined fu p1 p2 p3 g L) (fun _ _ L1 => L1 = L) := by
  unfold fX8_joined fX8_joined_p102 fX8_joined_p103 fX8_joined_p89 fX8_joined_p78 fX8_joined_p67 fX8_joined_p112 fX8_joined_p117
  repeat' first
    | exact pc_cnz (pc_some rfl)
    | exact pc_some rfl
    | refine pc_ite (fun _ => ?_) (fun _ => ?_)
theorem pl_va {p1 : Int32} : Pc (fX8_value_3_48 fu p1 g L) (fun _ _ L1 => L1 = L) := by
  unfold fX8_value_3_48 fX8_value_3_48_p12
  refine pc_ite (fun _ => pc_some rfl) (fun _ => pc_ite (fun _ => pc_ck (fun _ _ => pc_lti (fun x3 _ => ?_))) (fun _ => pc_some rfl))
  unfold fX8_value_3_48_l24
  refine pc_loop (fun v => v.2.2.2 = L) (fun k24 hk v hv => ?_) rfl
  obtain ⟨v3, v4, g', L'⟩ := v
  replace hv : L' = L := hv
  subst hv
  show Pc (fX8_value_3_48_s24 fu p1 k24 v3 v4 g' L') _
  unfold fX8_value_3_48_s24 fX8_value_3_48_p126 fX8_value_3_48_p82 fX8_value_3_48_p167 fX8_value_3_48_p188
  refine pc_ck (fun _ _ => pc_ite (fun _ => pc_ite (fun _ => pc_ck (fun _ _ => pc_some rfl)) (fun _ => pc_some rfl)) (fun _ => pc_ck (fun _ _ => pc_lti (fun x6 _ => pc_ite (fun _ => pc_ite (fun _ => pc_ite (fun _ => pc_ck (fun _ _ => pc_ite (fun _ => pc_ck (fun _ _ => pc_st (fun _ _ => hk _ rfl))) (fun _ => pc_ck (fun _ _ => pc_st (fun _ _ => hk _ rfl))))) (fun _ => pc_some rfl)) (fun _ => pc_ite (fun _ => pc_ck (fun _ _ => pc_ck (fun _ _ => pc_cb pl_jo (fun _ _ L1 e => ?_)))) (fun _ => pc_some rfl))) (fun _ => pc_ite (fun _ => pc_ite (fun _ => pc_ck (fun _ _ => pc_ck (fun _ _ => pc_st (fun _ _ => hk _ rfl)))) (fun _ => pc_ck (fun _ _ => pc_st (fun _ _ => hk _ rfl)))) (fun _ => pc_some rfl))))))
  subst e
  exact pc_ck (fun _ _ => pc_st (fun _ _ => hk _ rfl))
theorem pl_ot {p1 t0 : Int32} {q : Nat} : Pc (fX1_overrun_8_les_p29 fu p1 q t0 g L) (fun _ _ L1 => L1 = L) := by
  unfold fX1_overrun_8_les_p29 fX1_overrun_8_les_p151
  refine pc_ck (fun _ _ => pc_lti (fun _ _ => pc_ite (fun _ => pc_some rfl) (fun _ => pc_ck (fun _ _ => pc_ck (fun _ _ => pc_st (fun _ _ => pc_ck (fun _ _ => pc_ck (fun _ _ => pc_st (fun _ _ => pc_ck (fun _ _ => pc_ck (fun _ _ => pc_st (fun _ _ => pc_ck (fun _ _ => pc_ck (fun _ _ => pc_st (fun _ _ => pc_ck (fun _ _ => pc_st (fun _ _ => pc_ck (fun _ _ => pc_st (fun _ _ => pc_cb pl_va (fun _ _ L1 e => ?_))))))))))))))))))))
  subst e
  exact pc_some rfl
theorem pl_ou {p1 : Int32} {q : Nat} : Pc (fX1_overrun_8_les fu p1 q g L) (fun _ _ L1 => L1 = L) := by
  unfold fX1_overrun_8_les
  exact pc_ite (fun _ => pc_some rfl) (fun _ => pc_ite (fun _ => pl_ot) (fun _ => pl_ot))
theorem pl_ro {p1 : Int32} : Pc (fX1_runOne_8 fu p1 g L) (fun _ _ L1 => L1 = L) := by
  unfold fX1_runOne_8
  refine pc_ck (fun _ _ => pc_ltn (fun _ _ => pc_cb pl_be (fun _ _ L1 e => ?_)))
  subst e
  refine pc_cb pl_ou (fun _ _ L1 e => ?_)
  subst e
  exact pc_ck (fun _ _ => pc_st (fun _ _ => pc_ck (fun _ _ => pc_ck (fun _ _ => pc_ck (fun _ _ => pc_st (fun _ _ => pc_some rfl))))))
theorem pl_late {p1 : Int32} : Pc (fX1_late_8 fu p1 g L) (fun _ _ L1 => L1 = L) := by
  unfold fX1_late_8
  exact pc_ck (fun _ _ => pc_ck (fun _ _ => pc_ltn (fun _ _ => pc_some rfl)))
end PLL
/-! ===== who is unsure ===== -/
/-- of the first i lessons, those that may run over or not: eight at most -/
def us (d : gT) : Nat → List Nat
  | 0 => []
  | i + 1 => if (1 ≤ (d 7 i).toInt ∧ (d 7 i).toInt ≤ 9) ∧ (us d i).length < 8 then us d i ++ [i] else us d i
theorem us_t {d : gT} {i : Nat} (h : (1 ≤ (d 7 i).toInt ∧ (d 7 i).toInt ≤ 9) ∧ (us d i).length < 8) : us d (i + 1) = us d i ++ [i] := if_pos h
theorem us_f {d : gT} {i : Nat} (h : ¬ ((1 ≤ (d 7 i).toInt ∧ (d 7 i).toInt ≤ 9) ∧ (us d i).length < 8)) : us d (i + 1) = us d i := if_neg h
theorem us_len {d : gT} : ∀ i, (us d i).length ≤ 8 := by
  intro i
  induction i with
  | zero => show 0 ≤ 8; omega
  | succ i ih =>
    by_cases c : (1 ≤ (d 7 i).toInt ∧ (d 7 i).toInt ≤ 9) ∧ (us d i).length < 8
    · rw [us_t c, List.length_append]; show _ + 1 ≤ 8; omega
    · rw [us_f c]; exact ih
theorem us_lt {d : gT} : ∀ i, ∀ x ∈ us d i, x < i ∧ 1 ≤ (d 7 x).toInt ∧ (d 7 x).toInt ≤ 9 := by
  intro i
  induction i with
  | zero => intro x hx; exact absurd hx List.not_mem_nil
  | succ i ih =>
    intro x hx
    by_cases c : (1 ≤ (d 7 i).toInt ∧ (d 7 i).toInt ≤ 9) ∧ (us d i).length < 8
    · rw [us_t c] at hx
      rcases List.mem_append.mp hx with hx | hx
      · have := ih x hx; omega
      · rw [List.mem_singleton.mp hx]; exact ⟨by omega, c.1⟩
    · rw [us_f c] at hx
      have := ih x hx; omega
theorem us_pre {d : gT} {i : Nat} : ∀ j, i ≤ j → ∃ r, us d j = us d i ++ r ∧ ∀ x ∈ r, i ≤ x := by
  intro j
  induction j with
  | zero => intro h; rw [show i = 0 by omega]; exact ⟨[], by rw [List.append_nil], fun x hx => absurd hx List.not_mem_nil⟩
  | succ j ih =>
    intro h
    by_cases e : i = j + 1
    · rw [e]; exact ⟨[], by rw [List.append_nil], fun x hx => absurd hx List.not_mem_nil⟩
    · obtain ⟨r, h1, h2⟩ := ih (by omega)
      by_cases c : (1 ≤ (d 7 j).toInt ∧ (d 7 j).toInt ≤ 9) ∧ (us d j).length < 8
      · refine ⟨r ++ [j], by rw [us_t c, h1, List.append_assoc], fun x hx => ?_⟩
        rcases List.mem_append.mp hx with hx | hx
        · exact h2 x hx
        · rw [List.mem_singleton.mp hx]; omega
      · exact ⟨r, by rw [us_f c, h1], h2⟩
/-- the k-th of them -/
def un (d : gT) (n k : Nat) : Nat := (us d n).getD k 0
theorem un_e {d : gT} {n k x : Nat} (h : (us d n)[k]? = some x) : un d n k = x := by
  unfold un
  rw [List.getD_eq_getElem?_getD, h]; rfl
theorem un_m {d : gT} {n k : Nat} (h : k < (us d n).length) : un d n k ∈ us d n := by
  rw [un_e (List.getElem?_eq_getElem h)]; exact List.getElem_mem _
theorem un_pre {d : gT} {i n k : Nat} (hi : i ≤ n) (h : k < (us d i).length) : un d i k = un d n k := by
  obtain ⟨r, h1, -⟩ := us_pre (d := d) n hi
  refine (un_e ?_).symm
  rw [h1, List.getElem?_append, if_pos h, un_e (List.getElem?_eq_getElem h)]
  exact List.getElem?_eq_getElem h
theorem un_behind {d : gT} {i n k : Nat} (hi : i ≤ n) (h1 : (us d i).length ≤ k) (h2 : k < (us d n).length) : i ≤ un d n k := by
  obtain ⟨r, e, hr⟩ := us_pre (d := d) n hi
  rw [e, List.length_append] at h2
  have : (us d n)[k]? = some (r[k - (us d i).length]'(by omega)) := by
    rw [e, List.getElem?_append, if_neg (by omega)]
    exact List.getElem?_eq_getElem (by omega)
  rw [un_e this]
  exact hr _ (List.getElem_mem _)
/-- who runs over, if of those that are unsure just x do -/
def RS (d : gT) (u : Nat → Nat) (m x i : Nat) : Prop := ¬ d 7 i = 0 ∧ ∀ k, k < m → u k = i → x.testBit k = true
def LT (cs : Nat → List Int) (d : gT) (l : Nat) (R : Nat → Prop) (t : Int32) : Prop := ∃ v, TD cs (l + 1) d R l v t
theorem LT.u {cs : Nat → List Int} {d : gT} {l : Nat} {R : Nat → Prop} (hW : WF (l + 1) d) : ∀ t t', LT cs d l R t → LT cs d l R t' → t = t' := fun t t' h h' => by
  obtain ⟨v, h⟩ := h
  obtain ⟨v', h'⟩ := h'
  exact (TD.u hW (Nat.lt_succ_self l) h h').2
theorem LT.c {cs : Nat → List Int} {d : gT} {l : Nat} {R R' : Nat → Prop} (e : ∀ i, i < l + 1 → (R i ↔ R' i)) : LT cs d l R = LT cs d l R' := by
  funext t
  refine propext ⟨fun h => ?_, fun h => ?_⟩
  · obtain ⟨v, m, bg, en, ru, by_, h1, h2⟩ := h
    exact ⟨v, m, bg, en, ru, by_, fun i hi => (h1 i hi).trans ⟨fun q w => q ((e i hi).mpr w), fun q w => q ((e i hi).mp w)⟩, h2⟩
  · obtain ⟨v, m, bg, en, ru, by_, h1, h2⟩ := h
    exact ⟨v, m, bg, en, ru, by_, fun i hi => (h1 i hi).trans ⟨fun q w => q ((e i hi).mp w), fun q w => q ((e i hi).mpr w)⟩, h2⟩
/-- how late it is then -/
noncomputable def lf (P : Int32 → Prop) : Int32 := @dite Int32 (∃ t, P t) (Classical.propDecidable _) (fun h => Classical.choose h) (fun _ => 0)
theorem lf_e {P : Int32 → Prop} {t : Int32} (u : ∀ t t', P t → P t' → t = t') (h : P t) : lf P = t := by
  have e : ∃ t, P t := ⟨t, h⟩
  have q : lf P = Classical.choose e := @dif_pos (∃ t, P t) (Classical.propDecidable _) e Int32 _ _
  rw [q]
  exact u _ _ (Classical.choose_spec e) h
noncomputable def fQ (cs : Nat → List Int) (d : gT) (l : Nat) (u : Nat → Nat) (F : Int32 → Int) (m x : Nat) : Int := F (lf (LT cs d l (RS d u m x)))
/-- the sum over all of them -/
noncomputable def SQm (cs : Nat → List Int) (d : gT) (l : Nat) (u : Nat → Nat) (F : Int32 → Int) (m : Nat) : Int := sF (fun x => wt (fun k => (d 7 (u k)).toInt) m x * fQ cs d l u F m x) (2 ^ m)
theorem sq_s {cs : Nat → List Int} {d : gT} {l m : Nat} {u : Nat → Nat} {F : Int32 → Int} (h : l < u m) : SQm cs d l u F (m + 1) = 10 * SQm cs d l u F m := by
  unfold SQm
  refine sum_s (fun x hx => ?_) (fun x hx => ?_)
  · unfold fQ
    rw [LT.c (R' := RS d u m x) (fun i hi => ?_)]
    constructor
    · intro ⟨a, b⟩; exact ⟨a, fun k hk e => b k (by omega) e⟩
    · intro ⟨a, b⟩
      refine ⟨a, fun k hk e => ?_⟩
      by_cases q : k = m
      · rw [q] at e; omega
      · exact b k (by omega) e
  · unfold fQ
    rw [LT.c (R' := RS d u m x) (fun i hi => ?_)]
    constructor
    · intro ⟨a, b⟩
      refine ⟨a, fun k hk e => ?_⟩
      have := b k (by omega) e
      rw [Nat.testBit_two_pow_add_gt hk] at this
      exact this
    · intro ⟨a, b⟩
      refine ⟨a, fun k hk e => ?_⟩
      by_cases q : k = m
      · rw [q] at e; omega
      · rw [Nat.testBit_two_pow_add_gt (by omega)]
        exact b k (by omega) e
theorem sq_all {cs : Nat → List Int} {d : gT} {l a : Nat} {u : Nat → Nat} {F : Int32 → Int} : ∀ b : Nat, (∀ k, a ≤ k → k < a + b → l < u k) → SQm cs d l u F (a + b) = 10 ^ b * SQm cs d l u F a := by
  intro b
  induction b with
  | zero => intro _; show SQm cs d l u F a = 10 ^ 0 * _; rw [Int.pow_zero, Int.one_mul]
  | succ b ih =>
    intro h
    show SQm cs d l u F (a + b + 1) = _
    rw [sq_s (h (a + b) (by omega) (by omega)), ih (fun k x y => h k x (by omega)), Int.pow_succ, Int.mul_comm (10 ^ b) 10, Int.mul_assoc]
theorem RS.c {d : gT} {u u' : Nat → Nat} {m x i : Nat} (h : ∀ k, k < m → u k = u' k) : RS d u m x i ↔ RS d u' m x i := by
  constructor
  · intro ⟨a, b⟩; exact ⟨a, fun k hk e => b k hk (by rw [h k hk]; exact e)⟩
  · intro ⟨a, b⟩; exact ⟨a, fun k hk e => b k hk (by rw [← h k hk]; exact e)⟩
theorem wt_p {p p' : Nat → Int} {x : Nat} : ∀ m : Nat, (∀ k, k < m → p k = p' k) → wt p m x = wt p' m x := by
  intro m
  induction m with
  | zero => intro _; rfl
  | succ m ih =>
    intro h
    show wt p m x * _ = wt p' m x * _
    rw [ih (fun k hk => h k (by omega)), h m (by omega)]
theorem sq_u {cs : Nat → List Int} {d : gT} {l m : Nat} {u u' : Nat → Nat} {F : Int32 → Int} (h : ∀ k, k < m → u k = u' k) : SQm cs d l u F m = SQm cs d l u' F m := by
  unfold SQm
  refine sF_c (fun x _ => ?_)
  unfold fQ
  rw [LT.c (fun i _ => RS.c h), wt_p m (fun k hk => by rw [h k hk])]
/-! bits of a subset -/
theorem tb_x : ∀ x : Nat, x < 257 → ∀ k : Nat, k < 8 → tbi (Int32.ofInt (x : Int)) k = x.testBit k := by decide +kernel
theorem sh_m : ∀ m : Nat, m ≤ 8 → ((1 : Int32) <<< (Int32.ofInt (m : Int) &&& 31)).toInt = ((2 ^ m : Nat) : Int) ∧ 2 ^ m ≤ 256 := by decide
theorem p10 : ∀ m : Nat, m ≤ 8 → 1 ≤ 10 ^ m ∧ 10 ^ m ≤ 100000000 := by decide
theorem p10i (m : Nat) : (10 : Int) ^ m = ((10 ^ m : Nat) : Int) := (Int.natCast_pow 10 m).symm
end
section
/-! ===== chance and mean: the class ===== -/
/-- who is unsure, as the class holds it -/
def UX (d : gT) (i : Nat) (g : gT) (L : lT) : Prop := (g 11 2).toInt = ((us d i).length : Int) ∧ (∀ (k x : Nat), (us d i)[k]? = some x → g 52 k = Int32.ofInt (x : Int)) ∧ (∀ o, o < 12 → (tbi (g 11 3) o = true ↔ (o < i ∧ d 7 o = 0))) ∧ (L 11 6).toInt = ((10 ^ (us d i).length : Nat) : Int)
theorem UX.c {d : gT} {i : Nat} {g g' : gT} {L L' : lT} (h : UX d i g L) (e1 : g' 11 = g 11) (e2 : g' 52 = g 52) (e3 : L' 11 6 = L 11 6) : UX d i g' L' := by
  unfold UX
  rw [e1, e2, e3]; exact h
theorem ap_n {l : List Nat} {p q w : Nat} (h : (l ++ [p])[w]? = some q) : (w < l.length ∧ l[w]? = some q) ∨ (w = l.length ∧ q = p) := by
  rw [List.getElem?_append] at h
  by_cases c : w < l.length
  · rw [if_pos c] at h; exact Or.inl ⟨c, h⟩
  · rw [if_neg c] at h
    cases hk : w - l.length with
    | zero =>
      rw [hk] at h
      have h : some p = some q := h
      cases h
      exact Or.inr ⟨by omega, rfl⟩
    | succ k =>
      rw [hk] at h
      exact nomatch h
theorem unsure_x {cs : Nat → List Int} {n l fu : Nat} {p1 : Int32} {g d : gT} {L : lT} (h : DC cs n g d) (h7 : ∀ i, i < n → g (57 + i) 12 = d 7 i) (hb : ∀ i, i < n → 0 ≤ (d 7 i).toInt ∧ (d 7 i).toInt ≤ 10) (hl : p1.toInt = (l : Int)) (ln : l < n) : Pc (fX0_findUnsure_11 fu p1 g L) (fun _ g1 L1 => (∀ k, k ≠ 11 → k ≠ 52 → g1 k = g k) ∧ UX d (l + 1) g1 L1) := by
  have n12 := h.1.2
  unfold fX0_findUnsure_11
  refine pc_st (fun g1 e1 => pc_st (fun g2 e2 => pc_stle (fun L3 e3 => ?_)))
  have k2 : ∀ k, k ≠ 11 → g2 k = g k := fun k hk => by rw [e2, e1]; exact funext fun _ => by rw [upd2_nk hk, upd2_nk hk]
  unfold fX0_findUnsure_11_l17
  refine pc_loop (fun v => ∃ i : Nat, v.1.toInt = (i : Int) ∧ i ≤ l + 1 ∧ (∀ k, k ≠ 11 → k ≠ 52 → v.2.1 k = g k) ∧ UX d i v.2.1 v.2.2) (fun k17 hk v hv => ?_) ⟨0, rfl, by omega, fun k a _ => k2 k a, ?_, (fun k x hx => nomatch hx), fun o ho => ?_, ?_⟩
  rotate_left
  · show (g2 11 2).toInt = ((0 : Nat) : Int)
    rw [e2, upd2_nj (by decide), e1, upd2_at]; rfl
  · show tbi (g2 11 3) o = true ↔ _
    rw [e2, upd2_at, tb_0]
    exact ⟨fun q => absurd q (by decide), fun q => absurd q.1 (Nat.not_lt_zero _)⟩
  · show (L3 11 6).toInt = ((10 ^ 0 : Nat) : Int)
    rw [e3, updL_at]; rfl
  obtain ⟨v2, g', L'⟩ := v
  obtain ⟨i, hi, il, ek, hu⟩ := hv
  replace hi : v2.toInt = (i : Int) := hi
  replace ek : ∀ k, k ≠ 11 → k ≠ 52 → g' k = g k := ek
  replace hu : UX d i g' L' := hu
  obtain ⟨u1, u2, u3, u4⟩ := hu
  show Pc (fX0_findUnsure_11_s17 fu p1 k17 v2 g' L') _
  unfold fX0_findUnsure_11_s17 fX0_findUnsure_11_p104
  refine pc_ite (fun c => pc_some ⟨ek, ?_⟩) (fun c => ?_)
  · have c := icc_lt hl hi c
    rw [show l + 1 = i by omega]
    exact ⟨u1, u2, u3, u4⟩
  have c := icc_nlt hl hi c
  have i' : i < n := by omega
  have ew : (v2 + 1).toInt = ((i + 1 : Nat) : Int) := by rw [ic_addc hi (n := 1) rfl (by omega) (by omega)]; omega
  have ei : v2.toNatClampNeg = i := by rw [nc, hi]; omega
  have vi : v2 = Int32.ofInt (i : Int) := by rw [← hi]; exact io_i.symm
  have len := us_len (d := d) i
  have b := hb i i'
  rw [ei, show i % 12 = i by omega]
  refine pc_ck (fun _ _ => pc_ltn (fun q eq => ?_))
  subst eq
  refine pc_lti (fun x6 e6 => ?_)
  have d6 : x6 = d 7 i := by rw [e6, ek (57 + i) (by omega) (by omega)]; exact h7 i i'
  have same : ¬ d 7 i = 0 → ∀ o, o < 12 → (tbi (g' 11 3) o = true ↔ (o < i + 1 ∧ d 7 o = 0)) := fun hne o ho =>
    (u3 o ho).trans ⟨fun w => ⟨by omega, w.2⟩, fun w => ⟨by
      by_cases q : o = i
      · rw [q] at w; exact absurd w.2 hne
      · omega, w.2⟩⟩
  refine pc_ite (fun c1 => pc_st (fun g13 e13 => hk _ ⟨i + 1, ew, by omega, fun k a b => ?_, ?_⟩)) (fun c1 => pc_ite (fun c2 => hk _ ⟨i + 1, ew, by omega, ek, ?_⟩) (fun c2 => pc_ite (fun c3 => hk _ ⟨i + 1, ew, by omega, ek, ?_⟩) (fun c3 => ?_)))
  · show g13 k = g k
    rw [e13, ← ek k a b]; exact funext fun _ => upd2_nk a
  · show UX d (i + 1) g13 L'
    have z : d 7 i = 0 := by rw [← d6]; exact c1
    have z0 : (d 7 i).toInt = 0 := by rw [z]; rfl
    unfold UX
    rw [us_f (fun q => by omega)]
    refine ⟨by rw [e13, upd2_nj (by decide)]; exact u1, fun k x hx => by rw [e13, upd2_nk (by decide)]; exact u2 k x hx, fun o ho => ?_, u4⟩
    rw [e13, upd2_at, tb_or, vi, tb_s i (by omega) o ho]
    by_cases q : i = o
    · rw [decide_eq_true q, Bool.or_true]
      exact ⟨fun _ => ⟨by omega, by rw [← q]; exact z⟩, fun _ => rfl⟩
    · rw [decide_eq_false q, Bool.or_false]
      exact (u3 o ho).trans ⟨fun w => ⟨by omega, w.2⟩, fun w => ⟨by omega, w.2⟩⟩
  · show UX d (i + 1) g' L'
    have c2 := icc_le (m := 10) (n := x6.toInt) rfl rfl c2
    rw [d6] at c2
    unfold UX
    rw [us_f (fun q => by omega)]
    exact ⟨u1, u2, same (fun q => by rw [q] at c2; exact absurd c2 (by decide)), u4⟩
  · show UX d (i + 1) g' L'
    have c3 := icc_le (m := 8) rfl u1 c3
    unfold UX
    rw [us_f (fun q => by omega)]
    exact ⟨u1, u2, same (fun q => c1 (by rw [d6]; exact q)), u4⟩
  · have c2 := icc_nle (m := 10) (n := x6.toInt) rfl rfl c2
    have c3 := icc_nle (m := 8) rfl u1 c3
    rw [d6] at c2
    have nz : ¬ d 7 i = 0 := fun q => c1 (by rw [d6]; exact q)
    have nz' : ¬ (d 7 i).toInt = 0 := fun q => nz (ic_eq.mpr q)
    have eM : (g' 11 2).toNatClampNeg = (us d i).length := by rw [nc, u1]; omega
    rw [eM]
    refine pc_ck (fun _ _ => pc_st (fun g10 e10 => pc_st (fun g11 e11 => pc_stle (fun L12 e12 => hk _ ⟨i + 1, ew, by omega, fun k a b => ?_, ?_⟩))))
    · show g11 k = g k
      rw [e11, ← ek k a b, e10]; exact funext fun _ => by rw [upd2_nk a, upd2_nk b]
    · show UX d (i + 1) g11 L12
      have a10 : g10 11 2 = g' 11 2 := by rw [e10, upd2_nk (by decide)]
      have pl := p10 (us d i).length (by omega)
      unfold UX
      rw [us_t ⟨⟨by omega, by omega⟩, by omega⟩, List.length_append]
      refine ⟨?_, fun k x hx => ?_, fun o ho => ?_, ?_⟩
      · show _ = (((us d i).length + 1 : Nat) : Int)
        rw [e11, upd2_at, a10, ic_addc u1 (n := 1) rfl (by omega) (by omega)]; omega
      · rw [e11, upd2_nk (by decide), e10]
        rcases ap_n hx with ⟨q, hq⟩ | ⟨q, hq⟩
        · rw [upd2_nj (by omega)]; exact u2 k x hq
        · rw [q, upd2_at, hq]; exact vi
      · rw [e11, upd2_nj (by decide), e10, upd2_nk (by decide)]
        exact same nz o ho
      · show _ = ((10 ^ ((us d i).length + 1) : Nat) : Int)
        rw [e12, updL_at, lg_mulc u4 (n := 10) rfl (by omega) (by omega), Nat.pow_succ]
        omega
theorem runWith_x {cs : Nat → List Int} {n l x fu : Nat} {p1 p2 : Int32} {g d : gT} {L : lT} (h : DC cs n g d) (h88 : g 8 8 = -1) (hu : UX d (l + 1) g L) (hl : p2.toInt = (l : Int)) (ln : l < n) (hx : p1 = Int32.ofInt (x : Int)) (x257 : x < 257) : Pc (fX0_runWith_11 fu p1 p2 g L) (fun _ g1 L1 => L1 = L ∧ (∀ k, k ≠ 21 → (k < 43 ∨ 48 < k) → g1 k = g k) ∧ LT cs d l (RS d (un d (l + 1)) (us d (l + 1)).length x) (g1 44 l - d 2 l)) := by
  have n12 := h.1.2
  obtain ⟨u1, u2, u3, -⟩ := hu
  have len := us_len (d := d) (l + 1)
  unfold fX0_runWith_11
  refine pc_lti (fun x1 e1 => ?_)
  unfold fX0_runWith_11_l10
  refine pc_loop (fun v => ∃ k : Nat, v.2.1.toInt = (k : Int) ∧ k ≤ (us d (l + 1)).length ∧ v.2.2.1 = g ∧ v.2.2.2 = L ∧ ∀ o, o < l + 1 → (tbi v.1 o = true ↔ (¬ d 7 o = 0 ∧ ∀ k', k' < k → un d (l + 1) k' = o → x.testBit k' = true))) (fun k10 hk v hv => ?_) ⟨0, rfl, by omega, rfl, rfl, fun o ho => ?_⟩
  rotate_left
  · show tbi x1 o = true ↔ _
    have a := u3 o (by omega)
    rw [e1, tb_n1x (by omega)]
    by_cases q : tbi (g 11 3) o = true
    · have b := a.mp q
      rw [q]
      exact ⟨fun w => absurd w (by decide), fun w => absurd b.2 w.1⟩
    · rw [Bool.not_eq_true] at q
      rw [q]
      refine ⟨fun _ => ⟨fun w => ?_, fun k' hk' => absurd hk' (Nat.not_lt_zero _)⟩, fun _ => rfl⟩
      have := a.mpr ⟨ho, w⟩
      rw [q] at this; exact absurd this (by decide)
  obtain ⟨v3, v4, g', L'⟩ := v
  obtain ⟨k, hkk, kl, eg, eL, hb⟩ := hv
  replace hkk : v4.toInt = (k : Int) := hkk
  replace eg : g' = g := eg
  replace eL : L' = L := eL
  replace hb : ∀ o, o < l + 1 → (tbi v3 o = true ↔ (¬ d 7 o = 0 ∧ ∀ k', k' < k → un d (l + 1) k' = o → x.testBit k' = true)) := hb
  subst eg
  subst eL
  show Pc (fX0_runWith_11_s10 fu p1 p2 k10 v3 v4 g' L') _
  unfold fX0_runWith_11_s10 fX0_runWith_11_p42
  refine pc_ite (fun c => pc_st (fun g3 e3 => ?_)) (fun c => ?_)
  · have c := icc_le u1 hkk c
    rw [show k = (us d (l + 1)).length by omega] at hb
    have mk : ∀ i, i < l + 1 → (stb (v3 ^^^ -1) i = 1 ↔ ¬ RS d (un d (l + 1)) (us d (l + 1)).length x i) := fun i hi => by
      rw [stb_1i (by omega), tb_n1x (by omega)]
      have a := hb i hi
      unfold RS
      rw [← a]
      cases tbi v3 i <;> decide
    have hD : DC cs n g3 (rn0 d (v3 ^^^ -1)) := by
      rw [e3]
      exact h.run (fun i hi => by
        rw [stb_0i (by omega), stb_1i (by omega), tb_n1x (by omega)]
        cases tbi v3 i <;> decide)
    have k3 : ∀ k, k ≠ 8 → g3 k = g' k := fun k hk => by rw [e3]; exact funext fun _ => upd2_nk hk
    unfold fX0_runWith_11_l59
    refine pc_loop (fun v => ∃ i : Nat, v.1.toInt = (i : Int) ∧ i ≤ l + 1 ∧ RF cs (rn0 d (v3 ^^^ -1)) 0 i g3 v.2.1 ∧ v.2.2 = L') (fun k59 hk2 v hv => ?_) ⟨0, rfl, by omega, ⟨fun i _ hi => absurd hi (Nat.not_lt_zero _), fun _ _ => ⟨rfl, rfl, rfl, rfl⟩, fun _ _ _ => rfl⟩, rfl⟩
    obtain ⟨w4, g4, L4⟩ := v
    obtain ⟨i, hi, il, hR, eL⟩ := hv
    replace hi : w4.toInt = (i : Int) := hi
    replace hR : RF cs (rn0 d (v3 ^^^ -1)) 0 i g3 g4 := hR
    replace eL : L4 = L' := eL
    subst eL
    show Pc (fX0_runWith_11_s59 fu p2 k59 w4 g4 L4) _
    unfold fX0_runWith_11_s59
    refine pc_ite (fun c1 => pc_st (fun g5 e5 => pc_some ⟨rfl, fun k a b => ?_, ?_⟩)) (fun c1 => ?_)
    · by_cases k8 : k = 8
      · subst k8
        funext j
        by_cases j8 : j = 8
        · rw [j8, e5, upd2_at, h88]
        · rw [e5, upd2_nj j8, hR.2.2 8 (by decide) (by omega), e3, upd2_nj j8]
      · rw [e5, ← k3 k k8, ← hR.2.2 k a b]
        exact funext fun _ => upd2_nk k8
    · have c1 := icc_lt hl hi c1
      rw [show i = l + 1 by omega] at hR
      have q44 : g5 44 = g4 44 := by rw [e5]; exact funext fun _ => upd2_nk (by decide)
      rw [q44]
      exact ⟨_, _, _, _, _, _, mk, fun i hi => hR.1 i (Nat.zero_le _) hi, rfl, rfl⟩
    · have c1 := icc_nlt hl hi c1
      refine pc_cb (pc_and (rf_s hD hi (by omega) (Nat.zero_le _) hR) pl_ro) (fun _ g7 L8 e7 => hk2 _ ⟨i + 1, ?_, by omega, e7.1, e7.2⟩)
      show (w4 + 1).toInt = _
      rw [ic_addc hi (n := 1) rfl (by omega) (by omega)]; omega
  · have c := icc_nle u1 hkk c
    have ew : (v4 + 1).toInt = ((k + 1 : Nat) : Int) := by rw [ic_addc hkk (n := 1) rfl (by omega) (by omega)]; omega
    have ek : v4.toNatClampNeg = k := by rw [nc, hkk]; omega
    have vk : v4 = Int32.ofInt (k : Int) := by rw [← hkk]; exact io_i.symm
    have gk : g' 52 k = Int32.ofInt ((un d (l + 1) k : Nat) : Int) := u2 k _ (by rw [un_e (List.getElem?_eq_getElem (show k < (us d (l + 1)).length by omega))]; exact List.getElem?_eq_getElem (by omega))
    have ul := us_lt (l + 1) _ (un_m (d := d) (n := l + 1) (k := k) (by omega))
    have bit : (p1 >>> (v4 &&& 31)) &&& 1 = 0 ↔ x.testBit k = false := by
      rw [vk]
      show stb p1 k = 0 ↔ _
      rw [stb_0i (by omega), hx, tb_x x x257 k (by omega)]
    refine pc_ite (fun c1 => pc_ck (fun _ _ => pc_lti (fun x11 e11 => hk _ ⟨k + 1, ew, by omega, rfl, rfl, fun o ho => ?_⟩))) (fun c1 => hk _ ⟨k + 1, ew, by omega, rfl, rfl, fun o ho => ?_⟩)
    · show tbi x11 o = true ↔ _
      rw [e11, ek, gk, tb_and, tb_n1x (by omega), tb_s _ (by omega) o (by omega)]
      have a := hb o ho
      have c1 := bit.mp c1
      by_cases q : un d (l + 1) k = o
      · rw [decide_eq_true q, Bool.not_true, Bool.and_false]
        refine ⟨fun w => absurd w (by decide), fun w => ?_⟩
        have := w.2 k (by omega) q
        rw [c1] at this; exact absurd this (by decide)
      · rw [decide_eq_false q, Bool.not_false, Bool.and_true]
        refine a.trans ⟨fun w => ⟨w.1, fun k' hk' e => ?_⟩, fun w => ⟨w.1, fun k' hk' e => w.2 k' (by omega) e⟩⟩
        by_cases q' : k' = k
        · rw [q'] at e; exact absurd e q
        · exact w.2 k' (by omega) e
    · show tbi v3 o = true ↔ _
      have c1 : x.testBit k = true := by
        cases hb2 : x.testBit k with
        | false => exact absurd (bit.mpr hb2) c1
        | true => rfl
      refine (hb o ho).trans ⟨fun w => ⟨w.1, fun k' hk' e => ?_⟩, fun w => ⟨w.1, fun k' hk' e => w.2 k' (by omega) e⟩⟩
      by_cases q' : k' = k
      · rw [q']; exact c1
      · exact w.2 k' (by omega) e
theorem weight_x {cs : Nat → List Int} {n l x fu : Nat} {p1 : Int32} {g d : gT} {L : lT} (h : DC cs n g d) (h7 : ∀ i, i < n → g (57 + i) 12 = d 7 i) (hu : UX d (l + 1) g L) (ln : l < n) (hx : p1 = Int32.ofInt (x : Int)) (x257 : x < 257) : Pc (fX0_weight_11 fu p1 g L) (fun y g1 L1 => g1 = g ∧ L1 = L ∧ y.toInt = wt (fun k => (d 7 (un d (l + 1) k)).toInt) (us d (l + 1)).length x) := by
  have n12 := h.1.2
  obtain ⟨u1, u2, u3, -⟩ := hu
  have len := us_len (d := d) (l + 1)
  have pb : ∀ k, k < (us d (l + 1)).length → 1 ≤ (d 7 (un d (l + 1) k)).toInt ∧ (d 7 (un d (l + 1) k)).toInt ≤ 9 := fun k hk => (us_lt (l + 1) _ (un_m hk)).2
  unfold fX0_weight_11 fX0_weight_11_l5
  refine pc_loop (fun v => ∃ k : Nat, v.2.1.toInt = (k : Int) ∧ k ≤ (us d (l + 1)).length ∧ v.2.2.1 = g ∧ v.2.2.2 = L ∧ v.1.toInt = wt (fun k => (d 7 (un d (l + 1) k)).toInt) k x) (fun k5 hk v hv => ?_) ⟨0, rfl, by omega, rfl, rfl, rfl⟩
  obtain ⟨v2, v4, g', L'⟩ := v
  obtain ⟨k, hkk, kl, eg, eL, hw⟩ := hv
  replace hkk : v4.toInt = (k : Int) := hkk
  replace eg : g' = g := eg
  replace eL : L' = L := eL
  replace hw : v2.toInt = wt (fun k => (d 7 (un d (l + 1) k)).toInt) k x := hw
  subst eg
  subst eL
  show Pc (fX0_weight_11_s5 fu p1 k5 v2 v4 g' L') _
  unfold fX0_weight_11_s5 fX0_weight_11_p59
  refine pc_ite (fun c => pc_some ⟨rfl, rfl, ?_⟩) (fun c => ?_)
  · have c := icc_le u1 hkk c
    rw [hw, show k = (us d (l + 1)).length by omega]
  have c := icc_nle u1 hkk c
  have k' : k < (us d (l + 1)).length := by omega
  have ew : (v4 + 1).toInt = ((k + 1 : Nat) : Int) := by rw [ic_addc hkk (n := 1) rfl (by omega) (by omega)]; omega
  have ek : v4.toNatClampNeg = k := by rw [nc, hkk]; omega
  have vk : v4 = Int32.ofInt (k : Int) := by rw [← hkk]; exact io_i.symm
  have gk : g' 52 k = Int32.ofInt ((un d (l + 1) k : Nat) : Int) := u2 k _ (by rw [un_e (List.getElem?_eq_getElem k')]; exact List.getElem?_eq_getElem k')
  have ul := us_lt (l + 1) _ (un_m (d := d) (n := l + 1) (k := k) k')
  have gi : (Int32.ofInt ((un d (l + 1) k : Nat) : Int)).toInt = ((un d (l + 1) k : Nat) : Int) := Int32.toInt_ofInt_of_le (by omega) (by omega)
  have gn : (Int32.ofInt ((un d (l + 1) k : Nat) : Int)).toNatClampNeg = un d (l + 1) k := by rw [nc, gi]; omega
  have bit : (p1 >>> (v4 &&& 31)) &&& 1 = 0 ↔ x.testBit k = false := by
    rw [vk]
    show stb p1 k = 0 ↔ _
    rw [stb_0i (by omega), hx, tb_x x x257 k (by omega)]
  have wb := wt_b (p := fun k => (d 7 (un d (l + 1) k)).toInt) (x := x) (k + 1) (by omega) (fun k hk => pb k (by omega))
  have pl := p10 (k + 1) (by omega)
  rw [p10i] at wb
  rw [ek, gk, gn, show un d (l + 1) k % 12 = un d (l + 1) k by omega]
  refine pc_ck (fun _ _ => pc_ck (fun _ _ => pc_ltn (fun q eq => ?_)))
  subst eq
  refine pc_lti (fun x3 e3 => ?_)
  rw [h7 _ (by omega)] at e3
  have fin : ∀ (t : Int64), t.toInt = (if x.testBit k = true then (d 7 (un d (l + 1) k)).toInt else 10 - (d 7 (un d (l + 1) k)).toInt) → Pc (ltl (v2 * t) (fun y4 => k5 (y4, (v4 + 1), g', L'))) (fun y g1 L1 => g1 = g' ∧ L1 = L' ∧ y.toInt = wt (fun k => (d 7 (un d (l + 1) k)).toInt) (us d (l + 1)).length x) := fun t ht => pc_ltl (fun y4 e4 => hk _ ⟨k + 1, ew, by omega, rfl, rfl, by
    show y4.toInt = wt (fun k => (d 7 (un d (l + 1) k)).toInt) k x * (if x.testBit k = true then (d 7 (un d (l + 1) k)).toInt else 10 - (d 7 (un d (l + 1) k)).toInt)
    have wb' : 0 ≤ wt (fun k => (d 7 (un d (l + 1) k)).toInt) k x * (if x.testBit k = true then (d 7 (un d (l + 1) k)).toInt else 10 - (d 7 (un d (l + 1) k)).toInt) ∧ wt (fun k => (d 7 (un d (l + 1) k)).toInt) k x * (if x.testBit k = true then (d 7 (un d (l + 1) k)).toInt else 10 - (d 7 (un d (l + 1) k)).toInt) ≤ ((10 ^ (k + 1) : Nat) : Int) := wb
    rw [e4, lg_mulc hw ht (by omega) (by omega)]⟩)
  have pk := pb k k'
  refine pc_ite (fun c1 => fin _ ?_) (fun c1 => fin _ ?_)
  · rw [bit.mp c1, if_neg (by decide), Int32.toInt_toInt64, e3, ic_subc (m := 10) rfl rfl (by omega) (by omega)]
  · have c1 : x.testBit k = true := by
      cases hb2 : x.testBit k with
      | false => exact absurd (bit.mpr hb2) c1
      | true => rfl
    rw [if_pos c1, Int32.toInt_toInt64, e3]
/-! bounds -/
theorem nb_rn {n l : Nat} {d : gT} {m : Int32} (h : NB n d) (ln : l < n) : NB (l + 1) (rn0 d m) := by
  unfold NB
  rw [rn0_k (k := 1) (by decide), rn0_k (k := 2) (by decide), rn0_k (k := 3) (by decide), rn0_k (k := 4) (by decide), rn0_k (k := 7) (by decide), rn0_k (k := 12) (by decide), rn0_j (j := 3) (by decide), rn0_j (j := 4) (by decide)]
  exact ⟨fun i hi => h.1 i (by omega), h.2⟩
theorem td_b {cs : Nat → List Int} {n l : Nat} {d : gT} {R : Nat → Prop} {t : Int32} (hN : NB n d) (ln : l < n) (h : LT cs d l R t) : 0 ≤ t.toInt ∧ t.toInt ≤ 1478 := by
  obtain ⟨v, m, bg, en, ru, by_, h1, h2, -, ht⟩ := h
  have b := (dy_b (nb_rn hN ln) h2 l (Nat.lt_succ_self l)).2
  rw [rn0_k (by decide)] at b
  have f := (hN.1 l ln).1.1
  rw [ht, ic_sub (by omega) (by omega)]
  omega
theorem lf_b {cs : Nat → List Int} {n l : Nat} {d : gT} {R : Nat → Prop} (hN : NB n d) (hW : WF (l + 1) d) (ln : l < n) : 0 ≤ (lf (LT cs d l R)).toInt ∧ (lf (LT cs d l R)).toInt ≤ 1478 := by
  by_cases e : ∃ t, LT cs d l R t
  · obtain ⟨t, ht⟩ := e
    rw [lf_e (LT.u hW) ht]; exact td_b hN ln ht
  · have q : lf (LT cs d l R) = 0 := @dif_neg (∃ t, LT cs d l R t) (Classical.propDecidable _) e Int32 _ _
    rw [q]; exact ⟨by decide, by decide⟩
/-- a number of minutes is counted by something small -/
def FF (F : Int32 → Int) : Prop := ∀ t : Int32, 0 ≤ t.toInt → t.toInt ≤ 1478 → 0 ≤ F t ∧ F t ≤ 1478
theorem sq_b {cs : Nat → List Int} {n l m X : Nat} {d : gT} {u : Nat → Nat} {F : Int32 → Int} (hN : NB n d) (hW : WF (l + 1) d) (ln : l < n) (hF : FF F) (m8 : m ≤ 8) (hu : ∀ k, k < m → 1 ≤ (d 7 (u k)).toInt ∧ (d 7 (u k)).toInt ≤ 9) (hX : X ≤ 256) : (0 ≤ sF (fun x => wt (fun k => (d 7 (u k)).toInt) m x * fQ cs d l u F m x) X ∧ sF (fun x => wt (fun k => (d 7 (u k)).toInt) m x * fQ cs d l u F m x) X ≤ 37836800000000) ∧ ∀ x, 0 ≤ wt (fun k => (d 7 (u k)).toInt) m x * fQ cs d l u F m x ∧ wt (fun k => (d 7 (u k)).toInt) m x * fQ cs d l u F m x ≤ 147800000000 := by
  have each : ∀ x, 0 ≤ wt (fun k => (d 7 (u k)).toInt) m x * fQ cs d l u F m x ∧ wt (fun k => (d 7 (u k)).toInt) m x * fQ cs d l u F m x ≤ 147800000000 := fun x => by
    have a := wt_b (p := fun k => (d 7 (u k)).toInt) (x := x) m m8 hu
    have pl := p10 m m8
    rw [p10i] at a
    have b := lf_b (cs := cs) (R := RS d u m x) hN hW ln
    have c := hF _ b.1 b.2
    refine ⟨Int.mul_nonneg a.1 c.1, ?_⟩
    have e : wt (fun k => (d 7 (u k)).toInt) m x * fQ cs d l u F m x ≤ 100000000 * 1478 := Int.mul_le_mul (by omega) c.2 c.1 (by omega)
    omega
  refine ⟨?_, each⟩
  have a := sF_b (h := fun x => wt (fun k => (d 7 (u k)).toInt) m x * fQ cs d l u F m x) (B := 147800000000) X (fun x _ => each x)
  omega
/-- what holds while the class adds up -/
def CX (cs : Nat → List Int) (n l : Nat) (d g2 : gT) (F : Int32 → Int) (x : Nat) (g' : gT) (L2 L' : lT) : Prop := (∀ k, k ≠ 21 → (k < 43 ∨ 48 < k) → g' k = g2 k) ∧ L' 11 6 = L2 11 6 ∧ (L' 11 5).toInt = sF (fun x => wt (fun k => (d 7 (un d (l + 1) k)).toInt) (us d (l + 1)).length x * fQ cs d l (un d (l + 1)) F (us d (l + 1)).length x) x
/-- what the class answers: reduced -/
def RXm (cs : Nat → List Int) (d : gT) (l : Nat) (F : Int32 → Int) (L1 : lT) : Prop := ∃ up : Nat, (up : Int) = SQm cs d l (un d (l + 1)) F (us d (l + 1)).length ∧ (L1 11 5).toInt = ((up / Nat.gcd (10 ^ (us d (l + 1)).length) up : Nat) : Int) ∧ (L1 11 6).toInt = ((10 ^ (us d (l + 1)).length / Nat.gcd (10 ^ (us d (l + 1)).length) up : Nat) : Int)
section CLS
variable {cs : Nat → List Int} {n l fu : Nat} {g d : gT} {L : lT}
theorem cx_end {F : Int32 → Int} {g2 g' : gT} {L2 L' : lT} (hN : NB n d) (hW : WF (l + 1) d) (ln : l < n) (hF : FF F) (hu : UX d (l + 1) g2 L2) (hc : CX cs n l d g2 F (2 ^ (us d (l + 1)).length) g' L2 L') : Pc (cb (fX0_reduce_11 fu g' L') (fun _ g8 L9 => some ((), (g8, L9)))) (fun _ _ L1 => RXm cs d l F L1) := by
  obtain ⟨-, c6, c5⟩ := hc
  have len := us_len (d := d) (l + 1)
  have b := (sq_b (cs := cs) (u := un d (l + 1)) (m := (us d (l + 1)).length) (X := 2 ^ (us d (l + 1)).length) hN hW ln hF len (fun k hk => (us_lt (l + 1) _ (un_m hk)).2) (sh_m _ len).2).1
  have e5 : (L' 11 5).toInt = (((SQm cs d l (un d (l + 1)) F (us d (l + 1)).length).toNat : Nat) : Int) := by
    rw [c5]
    show sF _ _ = _
    unfold SQm
    omega
  have e6 : (L' 11 6).toInt = ((10 ^ (us d (l + 1)).length : Nat) : Int) := by rw [c6]; exact hu.2.2.2
  refine pc_cb (reduce_x e5 e6 (by have := (p10 _ len).1; omega)) (fun _ g8 L9 q => pc_some ⟨_, ?_, q.1, q.2⟩)
  unfold SQm
  omega
theorem ofLate_x {p1 p2 : Int32} (h : DC cs n g d) (h88 : g 8 8 = -1) (h7 : ∀ i, i < n → g (57 + i) 12 = d 7 i) (hN : NB n d) (hl : p1.toInt = (l : Int)) (ln : l < n) : Pc (fX0_ofLate_11 fu p1 p2 g L) (fun _ _ L1 => RXm cs d l (fun t => if t ≤ p2 then 0 else 1) L1) := by
  have hW : WF (l + 1) d := fun i hi => h.2.2.2.1 i (by omega)
  have n12 := h.1.2
  have len := us_len (d := d) (l + 1)
  have hF : FF (fun t => if t ≤ p2 then 0 else 1) := fun t _ _ => by
    show 0 ≤ (if t ≤ p2 then (0 : Int) else 1) ∧ (if t ≤ p2 then (0 : Int) else 1) ≤ 1478
    split <;> omega
  unfold fX0_ofLate_11
  refine pc_cb (unsure_x h h7 (fun i hi => (hN.1 i hi).1.2.2.2) hl ln) (fun _ g2 L3 e2 => pc_stle (fun L5 e5 => ?_))
  obtain ⟨k2, hu⟩ := e2
  have hu : UX d (l + 1) g2 L5 := hu.c rfl rfl (by rw [e5, updL_nj (by decide)])
  have h2 : DC cs n g2 d := h.c3 (fun k a => k2 k (by omega) (by omega))
  have g88 : g2 8 8 = -1 := by rw [k2 8 (by decide) (by decide)]; exact h88
  have h72 : ∀ i, i < n → g2 (57 + i) 12 = d 7 i := fun i hi => by rw [k2 _ (by omega) (by omega)]; exact h7 i hi
  have sh := sh_m _ len
  have e11 : g2 11 2 = Int32.ofInt (((us d (l + 1)).length : Nat) : Int) := ic_eq.mpr (by rw [hu.1, Int32.toInt_ofInt_of_le (by omega) (by omega)])
  unfold fX0_ofLate_11_l12
  refine pc_loop (fun v => ∃ x : Nat, v.1.toInt = (x : Int) ∧ x ≤ 2 ^ (us d (l + 1)).length ∧ CX cs n l d g2 (fun t => if t ≤ p2 then 0 else 1) x v.2.1 L5 v.2.2) (fun k12 hk v hv => ?_) ⟨0, rfl, Nat.zero_le _, fun _ _ _ => rfl, rfl, by show (L5 11 5).toInt = 0; rw [e5, updL_at]; rfl⟩
  obtain ⟨v3, g', L'⟩ := v
  obtain ⟨x, hx, xm, hc⟩ := hv
  replace hx : v3.toInt = (x : Int) := hx
  replace hc : CX cs n l d g2 (fun t => if t ≤ p2 then 0 else 1) x g' L5 L' := hc
  have hc0 := hc
  obtain ⟨ck, c6, c5⟩ := hc
  show Pc (fX0_ofLate_11_s12 fu p1 p2 k12 v3 g' L') _
  unfold fX0_ofLate_11_s12 fX0_ofLate_11_p54
  rw [ck 11 (by decide) (by omega), e11]
  refine pc_ite (fun c => ?_) (fun c => ?_)
  · have c := icc_le sh.1 hx c
    rw [show x = 2 ^ (us d (l + 1)).length by omega] at hc0
    exact cx_end hN hW ln hF hu hc0
  have c := icc_nle sh.1 hx c
  have vx : v3 = Int32.ofInt (x : Int) := by rw [← hx]; exact io_i.symm
  have ew : (v3 + 1).toInt = ((x + 1 : Nat) : Int) := by rw [ic_addc hx (n := 1) rfl (by omega) (by omega)]; omega
  have h' : DC cs n g' d := h2.c3 (fun k a => ck k (by omega) (by omega))
  have hu' : UX d (l + 1) g' L' := hu.c (ck 11 (by decide) (by omega)) (ck 52 (by decide) (by omega)) c6
  refine pc_cb (runWith_x h' (by rw [ck 8 (by decide) (by omega)]; exact g88) hu' hl ln vx (by omega)) (fun _ g12 L13 e12 => ?_)
  obtain ⟨rfl, r2, r3⟩ := e12
  have c12 : ∀ k, k ≠ 21 → (k < 43 ∨ 48 < k) → g12 k = g2 k := fun k a b => (r2 k a b).trans (ck k a b)
  have h12 : DC cs n g12 d := h2.c3 (fun k a => c12 k (by omega) (by omega))
  refine pc_cb (pc_and (late_x h12 hl ln) pl_late) (fun x15 g16 L17 q => ?_)
  obtain ⟨⟨rfl, q⟩, rfl⟩ := q
  rw [← q] at r3
  have fq : fQ cs d l (un d (l + 1)) (fun t => if t ≤ p2 then 0 else 1) (us d (l + 1)).length x = if x15 ≤ p2 then 0 else 1 := by
    unfold fQ
    rw [lf_e (LT.u hW) r3]
  have sb := sq_b (cs := cs) (u := un d (l + 1)) (m := (us d (l + 1)).length) (X := x) hN hW ln hF len (fun k hk => (us_lt (l + 1) _ (un_m hk)).2) (by omega)
  refine pc_ite (fun c1 => hk _ ⟨x + 1, ew, by omega, c12, c6, ?_⟩) (fun c1 => ?_)
  · show (L17 11 5).toInt = sF _ x + _ * fQ cs d l (un d (l + 1)) (fun t => if t ≤ p2 then 0 else 1) (us d (l + 1)).length x
    rw [fq, if_pos c1, Int.mul_zero, Int.add_zero]; exact c5
  · have hu12 : UX d (l + 1) g16 L17 := hu.c (c12 11 (by decide) (by omega)) (c12 52 (by decide) (by omega)) c6
    refine pc_cb (weight_x h12 (fun i hi => by rw [c12 _ (by omega) (by omega)]; exact h72 i hi) hu12 ln vx (by omega)) (fun x20 g21 L22 w => ?_)
    obtain ⟨rfl, rfl, w⟩ := w
    refine pc_stle (fun L24 e24 => hk _ ⟨x + 1, ew, by omega, c12, ?_, ?_⟩)
    · show L24 11 6 = L5 11 6
      rw [e24, updL_nj (by decide)]; exact c6
    · show (L24 11 5).toInt = sF _ x + _ * fQ cs d l (un d (l + 1)) (fun t => if t ≤ p2 then 0 else 1) (us d (l + 1)).length x
      have sx := sb.2 x
      rw [fq, if_neg c1, Int.mul_one] at sx ⊢
      rw [e24, updL_at, lg_addc c5 w (by omega) (by omega)]
theorem meanLate_x {p1 : Int32} (h : DC cs n g d) (h88 : g 8 8 = -1) (h7 : ∀ i, i < n → g (57 + i) 12 = d 7 i) (hN : NB n d) (hl : p1.toInt = (l : Int)) (ln : l < n) : Pc (fX0_meanLate_11 fu p1 g L) (fun _ _ L1 => RXm cs d l (fun t => t.toInt) L1) := by
  have hW : WF (l + 1) d := fun i hi => h.2.2.2.1 i (by omega)
  have n12 := h.1.2
  have len := us_len (d := d) (l + 1)
  have hF : FF (fun t => t.toInt) := fun t a b => ⟨a, b⟩
  unfold fX0_meanLate_11
  refine pc_cb (unsure_x h h7 (fun i hi => (hN.1 i hi).1.2.2.2) hl ln) (fun _ g2 L3 e2 => pc_stle (fun L5 e5 => ?_))
  obtain ⟨k2, hu⟩ := e2
  have hu : UX d (l + 1) g2 L5 := hu.c rfl rfl (by rw [e5, updL_nj (by decide)])
  have h2 : DC cs n g2 d := h.c3 (fun k a => k2 k (by omega) (by omega))
  have g88 : g2 8 8 = -1 := by rw [k2 8 (by decide) (by decide)]; exact h88
  have h72 : ∀ i, i < n → g2 (57 + i) 12 = d 7 i := fun i hi => by rw [k2 _ (by omega) (by omega)]; exact h7 i hi
  have sh := sh_m _ len
  have e11 : g2 11 2 = Int32.ofInt (((us d (l + 1)).length : Nat) : Int) := ic_eq.mpr (by rw [hu.1, Int32.toInt_ofInt_of_le (by omega) (by omega)])
  unfold fX0_meanLate_11_l12
  refine pc_loop (fun v => ∃ x : Nat, v.1.toInt = (x : Int) ∧ x ≤ 2 ^ (us d (l + 1)).length ∧ CX cs n l d g2 (fun t => t.toInt) x v.2.1 L5 v.2.2) (fun k12 hk v hv => ?_) ⟨0, rfl, Nat.zero_le _, fun _ _ _ => rfl, rfl, by show (L5 11 5).toInt = 0; rw [e5, updL_at]; rfl⟩
  obtain ⟨v2, g', L'⟩ := v
  obtain ⟨x, hx, xm, hc⟩ := hv
  replace hx : v2.toInt = (x : Int) := hx
  replace hc : CX cs n l d g2 (fun t => t.toInt) x g' L5 L' := hc
  have hc0 := hc
  obtain ⟨ck, c6, c5⟩ := hc
  show Pc (fX0_meanLate_11_s12 fu p1 k12 v2 g' L') _
  unfold fX0_meanLate_11_s12
  rw [ck 11 (by decide) (by omega), e11]
  refine pc_ite (fun c => ?_) (fun c => ?_)
  · have c := icc_le sh.1 hx c
    rw [show x = 2 ^ (us d (l + 1)).length by omega] at hc0
    exact cx_end hN hW ln hF hu hc0
  have c := icc_nle sh.1 hx c
  have vx : v2 = Int32.ofInt (x : Int) := by rw [← hx]; exact io_i.symm
  have ew : (v2 + 1).toInt = ((x + 1 : Nat) : Int) := by rw [ic_addc hx (n := 1) rfl (by omega) (by omega)]; omega
  have h' : DC cs n g' d := h2.c3 (fun k a => ck k (by omega) (by omega))
  have hu' : UX d (l + 1) g' L' := hu.c (ck 11 (by decide) (by omega)) (ck 52 (by decide) (by omega)) c6
  refine pc_cb (runWith_x h' (by rw [ck 8 (by decide) (by omega)]; exact g88) hu' hl ln vx (by omega)) (fun _ g12 L13 e12 => ?_)
  obtain ⟨rfl, r2, r3⟩ := e12
  have c12 : ∀ k, k ≠ 21 → (k < 43 ∨ 48 < k) → g12 k = g2 k := fun k a b => (r2 k a b).trans (ck k a b)
  have h12 : DC cs n g12 d := h2.c3 (fun k a => c12 k (by omega) (by omega))
  have hu12 : UX d (l + 1) g12 L13 := hu.c (c12 11 (by decide) (by omega)) (c12 52 (by decide) (by omega)) c6
  refine pc_cb (weight_x h12 (fun i hi => by rw [c12 _ (by omega) (by omega)]; exact h72 i hi) hu12 ln vx (by omega)) (fun x15 g16 L17 w => ?_)
  obtain ⟨rfl, rfl, w⟩ := w
  refine pc_cb (pc_and (late_x h12 hl ln) pl_late) (fun x19 g20 L21 q => ?_)
  obtain ⟨⟨rfl, q⟩, rfl⟩ := q
  rw [← q] at r3
  have fq : fQ cs d l (un d (l + 1)) (fun t => t.toInt) (us d (l + 1)).length x = x19.toInt := by
    unfold fQ
    rw [lf_e (LT.u hW) r3]
  have sb := sq_b (cs := cs) (u := un d (l + 1)) (m := (us d (l + 1)).length) (X := x) hN hW ln hF len (fun k hk => (us_lt (l + 1) _ (un_m hk)).2) (by omega)
  have sx := sb.2 x
  rw [fq] at sx
  refine pc_stle (fun L23 e23 => hk _ ⟨x + 1, ew, by omega, c12, ?_, ?_⟩)
  · show L23 11 6 = L5 11 6
    rw [e23, updL_nj (by decide)]; exact c6
  · show (L23 11 5).toInt = sF _ x + _ * fQ cs d l (un d (l + 1)) (fun t => t.toInt) (us d (l + 1)).length x
    rw [fq, e23, updL_at, lg_addc c5 (lg_mulc w (Int32.toInt_toInt64 x19) (by omega) (by omega)) (by omega) (by omega)]
end CLS
end
section
/-! ===== gaps: days with other gaps ===== -/
def gpd (d : gT) (γ : Nat → Int32) : gT := fun k j => if k = 12 ∧ 12 ≤ j ∧ j < 24 then γ (j - 12) else d k j
theorem gpd_k {d : gT} {γ : Nat → Int32} {k : Nat} (hk : k ≠ 12) : gpd d γ k = d k := funext fun _ => if_neg (fun h => hk h.1)
theorem gpd_o {d : gT} {γ : Nat → Int32} {j : Nat} (hj : ¬ (12 ≤ j ∧ j < 24)) : gpd d γ 12 j = d 12 j := if_neg (fun h => hj h.2)
theorem gpd_i {d : gT} {γ : Nat → Int32} {i : Nat} (hi : i < 12) : gpd d γ 12 (12 + i) = γ i := by
  have e : 12 + i - 12 = i := by omega
  show (if 12 = 12 ∧ 12 ≤ 12 + i ∧ 12 + i < 24 then γ (12 + i - 12) else d 12 (12 + i)) = _
  rw [if_pos ⟨rfl, by omega, by omega⟩, e]
def LBC (d : gT) (C : Nat → Int32) (i : Nat) (b y : Int32) : Prop :=
  ((d 5 i).toInt = 2 ∧ b = d 1 i ∧ y = -1) ∨
  ((d 5 i).toInt ≠ 2 ∧ ∃ v : Int32, KTH (fun k => (C k).toInt) (d 8 i).toInt.toNat (if (d 5 i).toInt = 0 then d 8 i else d 6 i).toInt.toNat v.toInt ∧
    ((v.toInt ≤ (d 1 i).toInt ∧ b = d 1 i ∧ y = -1) ∨ ((d 1 i).toInt < v.toInt ∧ (d 1 i + d 12 (36 + i)).toInt < v.toInt ∧ b = d 1 i + d 12 (36 + i) ∧ y = -1) ∨ ((d 1 i).toInt < v.toInt ∧ v.toInt ≤ (d 1 i + d 12 (36 + i)).toInt ∧ b = v ∧ ∃ k, k < (d 8 i).toInt.toNat ∧ y = d 9 (6 * i + k) ∧ C k = v ∧ ∀ m, m < k → C m ≠ v)))
def cmx (d : gT) (γ en : Nat → Int32) (i k : Nat) : Int32 := en (wf0 d i k) + wy d (wf0 d i k) i - γ i
theorem cmg_g {d : gT} {γ en : Nat → Int32} {i : Nat} (hi : i < 12) : cmg (gpd d γ) en i = cmx d γ en i := by
  funext k
  have w : wf0 (gpd d γ) i k = wf0 d i k := by unfold wf0; rw [gpd_k (by decide)]
  have y : wy (gpd d γ) (wf0 d i k) i = wy d (wf0 d i k) i := by
    unfold wy
    rw [gpd_k (k := 0) (by decide), gpd_k (k := 4) (by decide), gpd_o (j := 24 + wf0 d i k) (by omega), gpd_o (j := 24 + i) (by omega)]
  unfold cmg cmx
  rw [w, y, gpd_i hi]
theorem lb_g {d : gT} {γ en : Nat → Int32} {i : Nat} {b y : Int32} (hi : i < 12) : LB (gpd d γ) en i b y ↔ LBC d (cmx d γ en i) i b y := by
  unfold LB FC LBC
  rw [cmg_g hi, gpd_k (k := 5) (by decide), gpd_k (k := 1) (by decide), gpd_k (k := 8) (by decide), gpd_k (k := 6) (by decide), gpd_k (k := 9) (by decide), gpd_o (j := 36 + i) (by omega)]
  all_goals exact Iff.rfl
theorem LBC.c {d : gT} {C C' : Nat → Int32} {i : Nat} {b y : Int32} (hc : ∀ k, k < (d 8 i).toInt.toNat → C k = C' k) (h : LBC d C i b y) : LBC d C' i b y := by
  rcases h with h | ⟨h1, v, h2, h3⟩
  · exact Or.inl h
  · refine Or.inr ⟨h1, v, kth_c h2 (fun k hk => congrArg Int32.toInt (hc k hk)), ?_⟩
    rcases h3 with h3 | h3 | ⟨a, c, f, k, k1, k2, k3, k4⟩
    · exact Or.inl h3
    · exact Or.inr (Or.inl h3)
    · exact Or.inr (Or.inr ⟨a, c, f, k, k1, k2, by rw [← hc k k1]; exact k3, fun m hm => by rw [← hc m (by omega)]; exact k4 m hm⟩)
/-- one lesson of such a day -/
def L1 (cs : Nat → List Int) (d : gT) (γ en : Nat → Int32) (i : Nat) (b e r y : Int32) : Prop := LBC d (cmx d γ en i) i b y ∧ r = ov cs d i b ∧ e = (if d 2 i < b + d 3 i then b + d 3 i else d 2 i) + r
theorem ov_g {cs : Nat → List Int} {d : gT} {γ : Nat → Int32} {i : Nat} {b : Int32} (hi : i < 12) : ov cs (gpd d γ) i b = ov cs d i b := by
  have t : tl (gpd d γ) b i = tl d b i := by
    funext j
    match j with
    | 0 => show gpd d γ 12 i = d 12 i; exact gpd_o (by omega)
    | 1 => show b - gpd d γ 1 i = b - d 1 i; rw [gpd_k (by decide)]
    | 2 => rfl
    | 3 => show gpd d γ 12 (24 + i) = d 12 (24 + i); exact gpd_o (by omega)
    | 4 => show gpd d γ 4 i = d 4 i; rw [gpd_k (by decide)]
    | 5 => rfl
    | j + 6 => rfl
  rw [ov_e, ov_e]
  unfold gv
  rw [t, gpd_k (k := 0) (by decide), gpd_o (j := i) (by omega)]
theorem ld_g {cs : Nat → List Int} {d : gT} {γ bg en ru by_ : Nat → Int32} {i : Nat} (hi : i < 12) : LD cs (gpd d γ) bg en ru by_ i ↔ L1 cs d γ en i (bg i) (en i) (ru i) (by_ i) := by
  unfold LD L1
  rw [lb_g hi, ov_g hi, gpd_k (k := 2) (by decide), gpd_k (k := 3) (by decide)]
  all_goals exact Iff.rfl
theorem L1.c {cs : Nat → List Int} {d : gT} {γ γ' en en' : Nat → Int32} {i : Nat} {b e r y : Int32} (h : L1 cs d γ en i b e r y) (hγ : γ i = γ' i) (he : ∀ k, k < (d 8 i).toInt.toNat → en (wf0 d i k) = en' (wf0 d i k)) : L1 cs d γ' en' i b e r y :=
  ⟨h.1.c (fun k hk => by unfold cmx; rw [he k hk, hγ]), h.2⟩
theorem L1.u {cs : Nat → List Int} {d : gT} {γ en : Nat → Int32} {n i : Nat} {b e r y b' e' r' y' : Int32} (hW : WF n d) (hi : i < n) (n12 : n ≤ 12) (h : L1 cs d γ en i b e r y) (h' : L1 cs d γ en i b' e' r' y') : b = b' ∧ e = e' ∧ r = r' ∧ y = y' := by
  obtain ⟨a1, a2, a3⟩ := h
  obtain ⟨b1, b2, b3⟩ := h'
  obtain ⟨u1, u2⟩ := LB.u (wf_e hW (gpd_k (γ := γ) (by decide)) (gpd_k (by decide)) (gpd_k (by decide)) (gpd_k (by decide))) hi ((lb_g (by omega)).mpr a1) ((lb_g (by omega)).mpr b1)
  rw [← u1] at b2 b3
  have r1 : r = r' := a2.trans b2.symm
  rw [← r1] at b3
  exact ⟨u1, a3.trans b3.symm, r1, u2⟩
theorem l1_b {cs : Nat → List Int} {d : gT} {γ en : Nat → Int32} {n i : Nat} {b e r y : Int32} (hN : NB n d) (hi : i < n) (h : L1 cs d γ en i b e r y) : 0 < e.toInt := by
  obtain ⟨⟨f1, f2, f3⟩, ⟨f4, f5⟩, -⟩ := (hN.1 i hi).1
  obtain ⟨f6, f7⟩ := (hN.1 i hi).2.1
  obtain ⟨hl, hr, he⟩ := h
  have sl : (d 1 i + d 12 (36 + i)).toInt = (d 1 i).toInt + (d 12 (36 + i)).toInt := ic_addc rfl rfl (by omega) (by omega)
  have hb : (d 1 i).toInt ≤ b.toInt ∧ b.toInt ≤ 1098 := by
    rcases hl with ⟨-, b, -⟩ | ⟨-, v, -, ⟨-, b, -⟩ | ⟨-, -, b, -⟩ | ⟨c1, c2, b, -⟩⟩
    · rw [b]; omega
    · rw [b]; omega
    · rw [b]; omega
    · rw [b]; omega
  have o := ov_b (cs := cs) (d := d) (i := i) (b := b)
  rw [← hr] at o
  have s1 : (b + d 3 i).toInt = b.toInt + (d 3 i).toInt := ic_addc rfl rfl (by omega) (by omega)
  by_cases c : d 2 i < b + d 3 i
  · rw [if_pos c] at he
    have e : e.toInt = b.toInt + (d 3 i).toInt + r.toInt := by rw [he]; exact ic_addc s1 rfl (by omega) (by omega)
    omega
  · rw [if_neg c] at he
    have e : e.toInt = (d 2 i).toInt + r.toInt := by rw [he]; exact ic_addc rfl rfl (by omega) (by omega)
    omega
/-- the day of those asked -/
def AD (cs : Nat → List Int) (d : gT) (l : Nat) (A : Nat → Prop) (γ bg en ru by_ : Nat → Int32) : Prop := ∀ i, i ≤ l → A i → L1 cs d γ en i (bg i) (en i) (ru i) (by_ i)
def CLO (d : gT) (A : Nat → Prop) (n : Nat) : Prop := ∀ i, i < n → A i → ∀ k, k < (d 8 i).toInt.toNat → A (wf0 d i k)
theorem AD.u {cs : Nat → List Int} {d : gT} {n l m : Nat} {A : Nat → Prop} {γ bg en ru by_ γ' bg' en' ru' by' : Nat → Int32} (hW : WF n d) (ln : l < n) (n12 : n ≤ 12) (hC : CLO d A n) (h : AD cs d l A γ bg en ru by_) (h' : ∀ i, i < m → A i → L1 cs d γ' en' i (bg' i) (en' i) (ru' i) (by' i)) (ml : m ≤ l + 1) (hγ : ∀ i, i < m → A i → γ i = γ' i) : ∀ i, i < m → A i → en i = en' i := by
  intro i
  induction i using Nat.strongRecOn with
  | ind i ih =>
    intro him hA
    have a := (h i (by omega) hA).c (en' := en') (hγ i him hA) (fun k hk => by
      have w := wf_lt hW (show i < n by omega) hk
      exact ih _ w (by omega) (hC i (by omega) hA k hk))
    exact (a.u hW (by omega) n12 (h' i him hA)).2.1
/-- on time with such gaps -/
def OT (cs : Nat → List Int) (d : gT) (l : Nat) (A : Nat → Prop) (p : Int) (γ : Nat → Int32) : Prop := ∃ bg en ru by_, AD cs d l A γ bg en ru by_ ∧ (en l - d 2 l).toInt ≤ p
theorem OT.c {cs : Nat → List Int} {d : gT} {l : Nat} {A : Nat → Prop} {p : Int} {γ γ' : Nat → Int32} (hγ : ∀ i, i ≤ l → A i → γ i = γ' i) (h : OT cs d l A p γ) : OT cs d l A p γ' := by
  obtain ⟨bg, en, ru, by_, h, le⟩ := h
  exact ⟨bg, en, ru, by_, fun i hi hA => (h i hi hA).c (hγ i hi hA) (fun _ _ => rfl), le⟩
theorem ot_i {cs : Nat → List Int} {d : gT} {n l : Nat} {A : Nat → Prop} {p : Int} {γ bg en ru by_ : Nat → Int32} (hW : WF n d) (ln : l < n) (n12 : n ≤ 12) (hC : CLO d A n) (Al : A l) (h : AD cs d l A γ bg en ru by_) : OT cs d l A p γ ↔ (en l - d 2 l).toInt ≤ p := by
  constructor
  · intro ⟨bg', en', ru', by', h', le⟩
    rw [← h'.u hW ln n12 hC (m := l + 1) (fun i hi hA => h i (by omega) hA) (by omega) (fun _ _ _ => rfl) l (by omega) Al]
    exact le
  · intro le
    exact ⟨bg, en, ru, by_, h, le⟩
def putg (γ : Nat → Int32) (k : Nat) (t : Int32) : Nat → Int32 := fun i => if i = k then t else γ i
theorem putg_at {γ : Nat → Int32} {k : Nat} {t : Int32} : putg γ k t k = t := if_pos rfl
theorem putg_ne {γ : Nat → Int32} {k i : Nat} {t : Int32} (h : i ≠ k) : putg γ k t i = γ i := if_neg h
/-- the same end leads to the same day -/
theorem ot_skip {cs : Nat → List Int} {d : gT} {n l k : Nat} {A : Nat → Prop} {p : Int} {δ π bg en ru by_ : Nat → Int32} {t e b r y b' r' y' : Int32} (hW : WF n d) (ln : l < n) (n12 : n ≤ 12) (hC : CLO d A n) (kl : k ≤ l) (Ak : A k)
    (hπ : ∀ i, i < k → A i → L1 cs d π en i (bg i) (en i) (ru i) (by_ i)) (hδ : ∀ i, i < k → A i → δ i = π i)
    (ht : L1 cs d (putg π k t) en k b e r y) (hj : L1 cs d δ en k b' e r' y') (h : OT cs d l A p δ) : OT cs d l A p (putg δ k t) := by
  obtain ⟨bg2, en2, ru2, by2, h, le⟩ := h
  have same : ∀ i, i < k → A i → en2 i = en i := h.u hW ln n12 hC hπ (by omega) hδ
  have wk : ∀ j, j < (d 8 k).toInt.toNat → en2 (wf0 d k j) = en (wf0 d k j) := fun j hj => same _ (wf_lt hW (by omega) hj) (hC k (by omega) Ak j hj)
  have ek : en2 k = e := (((h k kl Ak).c (γ' := δ) (en' := en) rfl wk).u hW (by omega) n12 hj).2.1
  refine ⟨putg bg2 k b, en2, putg ru2 k r, putg by2 k y, fun i hi hA => ?_, le⟩
  by_cases q : i = k
  · subst q
    rw [putg_at, putg_at, putg_at, ek]
    exact ht.c (by rw [putg_at, putg_at]) (fun j hj => (wk j hj).symm)
  · rw [putg_ne q, putg_ne q, putg_ne q]
    exact (h i hi hA).c (putg_ne q).symm (fun _ _ => rfl)
/-! ===== the minutes of all gaps; rows in their order ===== -/
def SU (s : Int32) (γ : Nat → Int32) : Nat → Int
  | 0 => 0
  | i + 1 => SU s γ i + (if tbi s i = true then (γ i).toInt else 0)
theorem su_t {s : Int32} {γ : Nat → Int32} {i : Nat} (h : tbi s i = true) : SU s γ (i + 1) = SU s γ i + (γ i).toInt := by
  show SU s γ i + (if tbi s i = true then (γ i).toInt else 0) = _
  rw [if_pos h]
theorem su_f {s : Int32} {γ : Nat → Int32} {i : Nat} (h : ¬ tbi s i = true) : SU s γ (i + 1) = SU s γ i := by
  show SU s γ i + (if tbi s i = true then (γ i).toInt else 0) = _
  rw [if_neg h, Int.add_zero]
theorem su_le {s : Int32} {γ δ : Nat → Int32} : ∀ m, (∀ i, i < m → tbi s i = true → (γ i).toInt ≤ (δ i).toInt) → SU s γ m ≤ SU s δ m := by
  intro m
  induction m with
  | zero => intro _; exact Int.le_refl _
  | succ m ih =>
    intro h
    have a := ih (fun i hi => h i (by omega))
    by_cases c : tbi s m = true
    · rw [su_t c, su_t c]
      have := h m (by omega) c
      omega
    · rw [su_f c, su_f c]; exact a
theorem su_lt {s : Int32} {γ δ : Nat → Int32} {i0 : Nat} (t0 : tbi s i0 = true) (l0 : (γ i0).toInt < (δ i0).toInt) : ∀ m, i0 < m → (∀ i, i < m → tbi s i = true → (γ i).toInt ≤ (δ i).toInt) → SU s γ m < SU s δ m := by
  intro m
  induction m with
  | zero => intro q; exact absurd q (Nat.not_lt_zero _)
  | succ m ih =>
    intro q h
    by_cases e : i0 = m
    · have a := su_le (s := s) (γ := γ) (δ := δ) m (fun i hi => h i (by omega))
      rw [← e] at a ⊢
      rw [su_t t0, su_t t0]
      omega
    · have a := ih (by omega) (fun i hi => h i (by omega))
      by_cases c : tbi s m = true
      · rw [su_t c, su_t c]
        have := h m (by omega) c
        omega
      · rw [su_f c, su_f c]; exact a
theorem su_c {s : Int32} {γ δ : Nat → Int32} (m : Nat) (h : ∀ i, i < m → tbi s i = true → γ i = δ i) : SU s γ m = SU s δ m := by
  have a := su_le (s := s) (γ := γ) (δ := δ) m (fun i hi t => by rw [h i hi t]; exact Int.le_refl _)
  have b := su_le (s := s) (γ := δ) (δ := γ) m (fun i hi t => by rw [h i hi t]; exact Int.le_refl _)
  omega
theorem su_mo {s : Int32} {γ : Nat → Int32} {k : Nat} : ∀ m, k ≤ m → (∀ i, k ≤ i → i < m → tbi s i = true → 0 ≤ (γ i).toInt) → SU s γ k ≤ SU s γ m := by
  intro m
  induction m with
  | zero => intro q _; rw [show k = 0 by omega]; exact Int.le_refl _
  | succ m ih =>
    intro q h
    by_cases e : k = m + 1
    · rw [e]; exact Int.le_refl _
    · have a := ih (by omega) (fun i x y => h i x (by omega))
      by_cases c : tbi s m = true
      · rw [su_t c]
        have := h m (by omega) (by omega) c
        omega
      · rw [su_f c]; exact a
theorem su_z {s : Int32} {γ : Nat → Int32} {k : Nat} : ∀ m, k ≤ m → (∀ i, k ≤ i → i < m → tbi s i = true → (γ i).toInt = 0) → SU s γ m = SU s γ k := by
  intro m
  induction m with
  | zero => intro q _; rw [show k = 0 by omega]
  | succ m ih =>
    intro q h
    by_cases e : k = m + 1
    · rw [e]
    · have a := ih (by omega) (fun i x y => h i x (by omega))
      by_cases c : tbi s m = true
      · rw [su_t c, a, h m (by omega) (by omega) c]; omega
      · rw [su_f c]; exact a
def ct (s : Int32) : Nat → Nat
  | 0 => 0
  | i + 1 => ct s i + (if tbi s i = true then 1 else 0)
theorem ct_t {s : Int32} {i : Nat} (h : tbi s i = true) : ct s (i + 1) = ct s i + 1 := by
  show ct s i + (if tbi s i = true then 1 else 0) = _
  rw [if_pos h]
theorem ct_f {s : Int32} {i : Nat} (h : ¬ tbi s i = true) : ct s (i + 1) = ct s i := by
  show ct s i + (if tbi s i = true then 1 else 0) = _
  rw [if_neg h, Nat.add_zero]
theorem ct_mo {s : Int32} {i : Nat} : ∀ j, i ≤ j → ct s i ≤ ct s j := by
  intro j
  induction j with
  | zero => intro q; rw [show i = 0 by omega]; exact Nat.le_refl _
  | succ j ih =>
    intro q
    by_cases e : i = j + 1
    · rw [e]; exact Nat.le_refl _
    · have a := ih (by omega)
      by_cases c : tbi s j = true
      · rw [ct_t c]; omega
      · rw [ct_f c]; exact a
theorem su_4 {s : Int32} {γ : Nat → Int32} : ∀ m, (∀ i, i < m → tbi s i = true → (γ i).toInt ≤ 4) → SU s γ m ≤ 4 * (ct s m : Int) := by
  intro m
  induction m with
  | zero => intro _; exact Int.le_refl _
  | succ m ih =>
    intro h
    have a := ih (fun i hi => h i (by omega))
    by_cases c : tbi s m = true
    · rw [su_t c, ct_t c]
      have := h m (by omega) c
      omega
    · rw [su_f c, ct_f c]; exact a
/-- the rows that may be taken; those with nothing where nothing is asked -/
def RWg (n : Nat) (s : Int32) (own γ : Nat → Int32) : Prop := ∀ i, i < n → (tbi s i = true → 0 ≤ (γ i).toInt ∧ (γ i).toInt ≤ 4) ∧ (¬ tbi s i = true → γ i = own i)
def RA (n : Nat) (s a : Int32) (own γ : Nat → Int32) : Prop := RWg n s own γ ∧ ∀ i, i < n → tbi s i = true → ¬ tbi a i = true → γ i = 0
def LEx (γ δ : Nat → Int32) : Nat → Nat → Prop
  | _, 0 => True
  | k, r + 1 => (γ k).toInt < (δ k).toInt ∨ (γ k = δ k ∧ LEx γ δ (k + 1) r)
theorem lex_eq {γ δ : Nat → Int32} : ∀ r k, (∀ i, k ≤ i → i < k + r → γ i = δ i) → LEx γ δ k r := by
  intro r
  induction r with
  | zero => intro k _; exact trivial
  | succ r ih => intro k h; exact Or.inr ⟨h k (by omega) (by omega), ih (k + 1) (fun i x y => h i (by omega) (by omega))⟩
theorem lex_anti {γ δ : Nat → Int32} : ∀ r k, LEx γ δ k r → LEx δ γ k r → ∀ i, k ≤ i → i < k + r → γ i = δ i := by
  intro r
  induction r with
  | zero => intro k _ _ i x y; omega
  | succ r ih =>
    intro k h h' i x y
    rcases h with h | ⟨h1, h2⟩
    · rcases h' with h' | ⟨h1', -⟩
      · omega
      · rw [h1'] at h; omega
    · rcases h' with h' | ⟨-, h2'⟩
      · rw [h1] at h'; omega
      · by_cases e : i = k
        · rw [e]; exact h1
        · exact ih (k + 1) h2 h2' i (by omega) (by omega)
theorem lex_c {γ δ γ' δ' : Nat → Int32} : ∀ r k, (∀ i, k ≤ i → i < k + r → γ i = γ' i ∧ δ i = δ' i) → LEx γ δ k r → LEx γ' δ' k r := by
  intro r
  induction r with
  | zero => intro k _ _; exact trivial
  | succ r ih =>
    intro k h q
    obtain ⟨a, b⟩ := h k (by omega) (by omega)
    rcases q with q | ⟨q1, q2⟩
    · exact Or.inl (by rw [← a, ← b]; exact q)
    · exact Or.inr ⟨by rw [← a, ← b]; exact q1, ih (k + 1) (fun i x y => h i (by omega) (by omega)) q2⟩
theorem lex_lt {γ δ : Nat → Int32} {n k : Nat} (hk : k < n) (h : (γ k).toInt < (δ k).toInt) : LEx γ δ k (n - k) := by
  rw [show n - k = (n - (k + 1)) + 1 by omega]
  exact Or.inl h
theorem lex_up {γ δ : Nat → Int32} {n k : Nat} (hk : k < n) (h : γ k = δ k) (h1 : LEx γ δ (k + 1) (n - (k + 1))) : LEx γ δ k (n - k) := by
  rw [show n - k = (n - (k + 1)) + 1 by omega]
  exact Or.inr ⟨h, h1⟩
/-- the best row there is -/
def BT (n : Nat) (O : (Nat → Int32) → Prop) (s : Int32) (own : Nat → Int32) (F : Int) (B : Nat → Int32) : Prop := RWg n s own B ∧ O B ∧ SU s B n = F ∧ ∀ δ, RWg n s own δ → O δ → F < SU s δ n ∨ (F = SU s δ n ∧ LEx B δ 0 n)
theorem bt_u {n : Nat} {O : (Nat → Int32) → Prop} {s : Int32} {own : Nat → Int32} {F F' : Int} {B B' : Nat → Int32} (h : BT n O s own F B) (h' : BT n O s own F' B') : F = F' ∧ ∀ i, i < n → B i = B' i := by
  obtain ⟨a1, a2, a3, a4⟩ := h
  obtain ⟨b1, b2, b3, b4⟩ := h'
  rcases a4 B' b1 b2 with x | ⟨x1, x2⟩
  · rcases b4 B a1 a2 with y | ⟨y1, -⟩
    · omega
    · omega
  · rcases b4 B a1 a2 with y | ⟨y1, y2⟩
    · omega
    · exact ⟨by omega, fun i hi => lex_anti n 0 x2 y2 i (by omega) (by omega)⟩
/-- what a search among E makes of the best so far -/
def RSk (n : Nat) (O : (Nat → Int32) → Prop) (s : Int32) (k : Nat) (E : (Nat → Int32) → Prop) (F0 : Int32) (B0 : Nat → Int32) (F1 : Int32) (B1 : Nat → Int32) : Prop :=
  (F1 = F0 ∧ B1 = B0 ∧ ∀ δ, E δ → O δ → F0.toInt ≤ SU s δ n) ∨ (F1.toInt < F0.toInt ∧ E B1 ∧ O B1 ∧ SU s B1 n = F1.toInt ∧ ∀ δ, E δ → O δ → F1.toInt < SU s δ n ∨ (F1.toInt = SU s δ n ∧ LEx B1 δ k (n - k)))
theorem RSk.le {n : Nat} {O : (Nat → Int32) → Prop} {s : Int32} {k : Nat} {E : (Nat → Int32) → Prop} {F0 F1 : Int32} {B0 B1 : Nat → Int32} (h : RSk n O s k E F0 B0 F1 B1) : F1.toInt ≤ F0.toInt ∧ ∀ δ, E δ → O δ → F1.toInt ≤ SU s δ n := by
  rcases h with ⟨f, -, u⟩ | ⟨f, -, -, -, u⟩
  · rw [f]; exact ⟨Int.le_refl _, u⟩
  · refine ⟨by omega, fun δ a b => ?_⟩
    rcases u δ a b with w | w
    · omega
    · omega
theorem RSk.join {n : Nat} {O : (Nat → Int32) → Prop} {s : Int32} {k : Nat} {E1 E2 E : (Nat → Int32) → Prop} {F0 F1 F2 : Int32} {B0 B1 B2 : Nat → Int32} (hk : k < n) (h1 : RSk n O s k E1 F0 B0 F1 B1) (h2 : RSk n O s k E2 F1 B1 F2 B2) (lt : ∀ B δ, E1 B → E2 δ → (B k).toInt < (δ k).toInt) (i1 : ∀ δ, E1 δ → E δ) (i2 : ∀ δ, E2 δ → E δ) (iE : ∀ δ, E δ → E1 δ ∨ E2 δ) : RSk n O s k E F0 B0 F2 B2 := by
  have l1 := h1.le
  have l2 := h2.le
  rcases h2 with ⟨f2, b2, u2⟩ | ⟨f2, e2, o2, s2, u2⟩
  · rw [f2, b2]
    rcases h1 with ⟨f1, b1, u1⟩ | ⟨f1, e1, o1, s1, u1⟩
    · refine Or.inl ⟨f1, b1, fun δ hδ hO => ?_⟩
      rcases iE δ hδ with q | q
      · exact u1 δ q hO
      · have := u2 δ q hO
        rw [f1] at this; exact this
    · refine Or.inr ⟨f1, i1 _ e1, o1, s1, fun δ hδ hO => ?_⟩
      rcases iE δ hδ with q | q
      · exact u1 δ q hO
      · have a := u2 δ q hO
        by_cases c : F1.toInt < SU s δ n
        · exact Or.inl c
        · exact Or.inr ⟨by omega, lex_lt hk (lt _ _ e1 q)⟩
  · refine Or.inr ⟨by have := l1.1; omega, i2 _ e2, o2, s2, fun δ hδ hO => ?_⟩
    rcases iE δ hδ with q | q
    · have := l1.2 δ q hO
      exact Or.inl (by omega)
    · exact u2 δ q hO
theorem RSk.up {n : Nat} {O : (Nat → Int32) → Prop} {s : Int32} {k : Nat} {E : (Nat → Int32) → Prop} {F0 F1 : Int32} {B0 B1 : Nat → Int32} (hk : k < n) (h : RSk n O s (k + 1) E F0 B0 F1 B1) (he : ∀ B δ, E B → E δ → B k = δ k) : RSk n O s k E F0 B0 F1 B1 := by
  rcases h with h | ⟨f1, e1, o1, s1, u1⟩
  · exact Or.inl h
  · refine Or.inr ⟨f1, e1, o1, s1, fun δ hδ hO => ?_⟩
    rcases u1 δ hδ hO with w | ⟨w1, w2⟩
    · exact Or.inl w
    · exact Or.inr ⟨w1, lex_up hk (he _ _ e1 hδ) w2⟩
theorem RSk.more {n : Nat} {O : (Nat → Int32) → Prop} {s : Int32} {k : Nat} {E E' : (Nat → Int32) → Prop} {F0 F1 : Int32} {B0 B1 : Nat → Int32} (h : RSk n O s k E F0 B0 F1 B1) (hE : ∀ δ, E δ → E' δ) (hn : ∀ δ, E' δ → O δ → E δ ∨ ∃ δ', E δ' ∧ O δ' ∧ SU s δ' n < SU s δ n) : RSk n O s k E' F0 B0 F1 B1 := by
  have l := h.le
  rcases h with ⟨f, b, u⟩ | ⟨f, e, o, su, u⟩
  · refine Or.inl ⟨f, b, fun δ hδ hO => ?_⟩
    rcases hn δ hδ hO with q | ⟨δ', q1, q2, q3⟩
    · exact u δ q hO
    · have := u δ' q1 q2
      omega
  · refine Or.inr ⟨f, hE _ e, o, su, fun δ hδ hO => ?_⟩
    rcases hn δ hδ hO with q | ⟨δ', q1, q2, q3⟩
    · exact u δ q hO
    · have := l.2 δ' q1 q2
      exact Or.inl (by omega)
end
