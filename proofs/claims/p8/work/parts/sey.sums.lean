/-! ===== sums over subsets; longs; the greatest common divisor ===== -/
def sF (h : Nat → Int) : Nat → Int
  | 0 => 0
  | x + 1 => sF h x + h x
theorem sF_c {h h' : Nat → Int} : ∀ {n : Nat}, (∀ x, x < n → h x = h' x) → sF h n = sF h' n := by
  intro n
  induction n with
  | zero => intro _; rfl
  | succ n ih =>
    intro e
    show sF h n + h n = sF h' n + h' n
    rw [ih (fun x hx => e x (by omega)), e n (by omega)]
theorem sF_add {h : Nat → Int} {a : Nat} : ∀ b : Nat, sF h (a + b) = sF h a + sF (fun y => h (a + y)) b := by
  intro b
  induction b with
  | zero => show sF h a = sF h a + 0; omega
  | succ b ih =>
    show sF h (a + b) + h (a + b) = sF h a + (sF (fun y => h (a + y)) b + h (a + b))
    rw [ih]; omega
theorem sF_two {h1 h2 : Nat → Int} : ∀ n : Nat, sF h1 n + sF h2 n = sF (fun x => h1 x + h2 x) n := by
  intro n
  induction n with
  | zero => rfl
  | succ n ih =>
    show sF h1 n + h1 n + (sF h2 n + h2 n) = sF (fun x => h1 x + h2 x) n + (h1 n + h2 n)
    rw [← ih]; omega
theorem sF_mul {h : Nat → Int} {c : Int} : ∀ n : Nat, sF (fun x => c * h x) n = c * sF h n := by
  intro n
  induction n with
  | zero => show (0 : Int) = c * 0; rw [Int.mul_zero]
  | succ n ih =>
    show sF (fun x => c * h x) n + c * h n = c * (sF h n + h n)
    rw [ih, Int.mul_add]
theorem sF_b {h : Nat → Int} {B : Int} : ∀ n : Nat, (∀ x, x < n → 0 ≤ h x ∧ h x ≤ B) → 0 ≤ sF h n ∧ sF h n ≤ (n : Int) * B := by
  intro n
  induction n with
  | zero => intro _; show (0 : Int) ≤ 0 ∧ (0 : Int) ≤ ((0 : Nat) : Int) * B; rw [Int.ofNat_zero, Int.zero_mul]; exact ⟨Int.le_refl _, Int.le_refl _⟩
  | succ n ih =>
    intro e
    have a := ih (fun x hx => e x (by omega))
    have b := e n (by omega)
    show 0 ≤ sF h n + h n ∧ sF h n + h n ≤ ((n + 1 : Nat) : Int) * B
    have c : ((n + 1 : Nat) : Int) * B = (n : Int) * B + B := by rw [Int.natCast_add, Int.add_mul]; show _ + 1 * B = _; rw [Int.one_mul]
    rw [c]; omega
/-- the weight of a subset of the first m -/
def wt (p : Nat → Int) : Nat → Nat → Int
  | 0, _ => 1
  | m + 1, x => wt p m x * (if x.testBit m = true then p m else 10 - p m)
theorem wt_c {p : Nat → Int} {x y : Nat} : ∀ m : Nat, (∀ k, k < m → x.testBit k = y.testBit k) → wt p m x = wt p m y := by
  intro m
  induction m with
  | zero => intro _; rfl
  | succ m ih =>
    intro h
    show wt p m x * _ = wt p m y * _
    rw [ih (fun k hk => h k (by omega)), h m (by omega)]
theorem wt_b {p : Nat → Int} {x : Nat} : ∀ m : Nat, m ≤ 8 → (∀ k, k < m → 1 ≤ p k ∧ p k ≤ 9) → 0 ≤ wt p m x ∧ wt p m x ≤ 10 ^ m := by
  intro m
  induction m with
  | zero => intro _ _; exact ⟨by show (0 : Int) ≤ 1; omega, by show (1 : Int) ≤ 10 ^ 0; decide⟩
  | succ m ih =>
    intro hm h
    obtain ⟨a1, a2⟩ := ih (by omega) (fun k hk => h k (by omega))
    have b := h m (by omega)
    have e : (10 : Int) ^ (m + 1) = 10 ^ m * 10 := Int.pow_succ _ _
    show 0 ≤ wt p m x * _ ∧ wt p m x * _ ≤ _
    rw [e]
    have q : 0 ≤ (if x.testBit m = true then p m else 10 - p m) ∧ (if x.testBit m = true then p m else 10 - p m) ≤ 10 := by split <;> omega
    exact ⟨Int.mul_nonneg a1 q.1, Int.mul_le_mul a2 q.2 q.1 (by omega)⟩
/-- one more of which nothing depends: ten times as much -/
theorem sum_s {p : Nat → Int} {m : Nat} {f f' : Nat → Int} (h1 : ∀ x, x < 2 ^ m → f' x = f x) (h2 : ∀ x, x < 2 ^ m → f' (2 ^ m + x) = f x) : sF (fun x => wt p (m + 1) x * f' x) (2 ^ (m + 1)) = 10 * sF (fun x => wt p m x * f x) (2 ^ m) := by
  have e : 2 ^ (m + 1) = 2 ^ m + 2 ^ m := by rw [Nat.pow_succ]; omega
  rw [e, sF_add]
  have a : sF (fun x => wt p (m + 1) x * f' x) (2 ^ m) = sF (fun x => wt p m x * (10 - p m) * f x) (2 ^ m) := sF_c (fun x hx => by
    show wt p m x * _ * f' x = _
    rw [Nat.testBit_lt_two_pow hx, h1 x hx, if_neg (by decide)])
  have b : sF (fun y => wt p (m + 1) (2 ^ m + y) * f' (2 ^ m + y)) (2 ^ m) = sF (fun x => wt p m x * p m * f x) (2 ^ m) := sF_c (fun x hx => by
    show wt p m (2 ^ m + x) * _ * f' (2 ^ m + x) = _
    rw [Nat.testBit_two_pow_add_eq, Nat.testBit_lt_two_pow hx, h2 x hx, if_pos (by decide), wt_c m (fun k hk => Nat.testBit_two_pow_add_gt hk x)])
  rw [a, b, sF_two, ← sF_mul]
  refine sF_c (fun x _ => ?_)
  rw [← Int.add_mul, ← Int.mul_add, show 10 - p m + p m = 10 by omega, Int.mul_comm (wt p m x) 10, Int.mul_assoc]
/-! longs -/
theorem lg_rg (x : Int64) : -9223372036854775808 ≤ x.toInt ∧ x.toInt ≤ 9223372036854775807 := ⟨Int64.le_toInt x, Int.le_of_lt_add_one (Int64.toInt_lt x)⟩
theorem lg_b {n : Int} (h1 : -9223372036854775808 ≤ n) (h2 : n ≤ 9223372036854775807) : n.bmod (2 ^ 64) = n := Int.bmod_eq_of_le (by omega) (by omega)
theorem lg_addc {x y : Int64} {m n : Int} (hx : x.toInt = m) (hy : y.toInt = n) (h1 : -9223372036854775808 ≤ m + n) (h2 : m + n ≤ 9223372036854775807) : (x + y).toInt = m + n := by
  rw [Int64.toInt_add, hx, hy, lg_b h1 h2]
theorem lg_subc {x y : Int64} {m n : Int} (hx : x.toInt = m) (hy : y.toInt = n) (h1 : -9223372036854775808 ≤ m - n) (h2 : m - n ≤ 9223372036854775807) : (x - y).toInt = m - n := by
  rw [Int64.toInt_sub, hx, hy, lg_b h1 h2]
theorem lg_mulc {x y : Int64} {m n : Int} (hx : x.toInt = m) (hy : y.toInt = n) (h1 : -9223372036854775808 ≤ m * n) (h2 : m * n ≤ 9223372036854775807) : (x * y).toInt = m * n := by
  rw [Int64.toInt_mul, hx, hy, lg_b h1 h2]
theorem lg_divc {x y : Int64} {m n : Nat} (hx : x.toInt = (m : Int)) (hy : y.toInt = (n : Int)) : (x / y).toInt = ((m / n : Nat) : Int) := by
  rw [Int64.toInt_div_of_ne_right _ _ (fun q => by
    rw [q] at hy
    have : (-1 : Int64).toInt = -1 := rfl
    omega), hx, hy, Int.tdiv_eq_ediv_of_nonneg (by omega)]
  rfl
theorem lg_modc {x y : Int64} {m n : Nat} (hx : x.toInt = (m : Int)) (hy : y.toInt = (n : Int)) : (x - x / y * y).toInt = ((m % n : Nat) : Int) := by
  have r := lg_rg x
  rw [hx] at r
  have d := lg_divc hx hy
  have e : m / n * n + m % n = m := by rw [Nat.mul_comm]; exact Nat.div_add_mod m n
  have le : m / n * n ≤ m := by omega
  have c : ((m / n : Nat) : Int) * (n : Int) = ((m / n * n : Nat) : Int) := (Int.natCast_mul _ _).symm
  have mu : (x / y * y).toInt = ((m / n * n : Nat) : Int) := by
    rw [lg_mulc d hy (by rw [c]; omega) (by rw [c]; omega), c]
  rw [lg_subc hx mu (by omega) (by omega)]
  omega
theorem lg_c0 {x : Int64} {m : Nat} (hx : x.toInt = (m : Int)) : (lg_cmp x 0) = 0 ↔ m = 0 := by
  have z : (0 : Int64).toInt = 0 := rfl
  unfold lg_cmp
  constructor
  · intro h
    split at h
    · exact absurd h (by decide)
    · split at h
      · rename_i h9; rw [h9] at hx; omega
      · exact absurd h (by decide)
  · intro h
    have e : x = 0 := Int64.toInt_inj.mp (by rw [hx, h]; rfl)
    rw [e]; rfl
theorem lg_c1 {x : Int64} {m : Nat} (hx : x.toInt = (m : Int)) : (lg_cmp x 1) ≤ 0 ↔ m ≤ 1 := by
  have z : (1 : Int64).toInt = 1 := rfl
  unfold lg_cmp
  by_cases c : (1 : Int64) < x
  · have c' := Int64.lt_iff_toInt_lt.mp c
    rw [if_pos (show x > 1 from c)]
    exact ⟨fun h => absurd h (by decide), fun h => by omega⟩
  · have c' : ¬ (1 : Int64).toInt < x.toInt := fun q => c (Int64.lt_iff_toInt_lt.mpr q)
    rw [if_neg (show ¬ x > 1 from c)]
    refine ⟨fun _ => by omega, fun _ => ?_⟩
    by_cases e : x = 1
    · rw [if_pos e]; decide
    · rw [if_neg e]; decide
theorem pc_ltl {ρ : Type} {Q : ρ → gT → lT → Prop} {v : Int64} {K : Int64 → Option (ρ × zS)} (h : ∀ x, x = v → Pc (K x) Q) : Pc (ltl v K) Q := h v rfl
theorem pc_stle {ρ : Type} {Q : ρ → gT → lT → Prop} {L : lT} {k j : Nat} {x : Int64} {K : lT → Option (ρ × zS)} (h : ∀ L1, L1 = updL L k j x → Pc (K L1) Q) : Pc (stl L k j x K) Q := h _ rfl
theorem pc_cnzL {ρ : Type} {Q : ρ → gT → lT → Prop} {y : Int64} {K : Option (ρ × zS)} (h : Pc K Q) : Pc (cnzL y K) Q := by
  unfold cnzL
  split
  · exact pc_none
  · exact h
theorem updL_at {L : lT} {k j : Nat} {x : Int64} : updL L k j x k j = x := by
  unfold updL
  rw [if_pos rfl]
  exact if_pos rfl
theorem updL_nj {L : lT} {k j j' : Nat} {x : Int64} (h : j' ≠ j) : updL L k j x k j' = L k j' := by
  unfold updL
  rw [if_pos rfl]
  exact if_neg h
/-- Euclid's steps -/
theorem eu_step {A B s : Nat} (b0 : B ≠ 0) (h1 : B * 2 ^ (s / 2) < 9223372036854775808) (h2 : 1 ≤ s → B < A ∧ A * 2 ^ ((s - 1) / 2) < 9223372036854775808) : (A % B) * 2 ^ ((s + 1) / 2) < 9223372036854775808 ∧ A % B < B ∧ B * 2 ^ ((s + 1 - 1) / 2) < 9223372036854775808 := by
  have lt : A % B < B := Nat.mod_lt _ (by omega)
  refine ⟨?_, lt, h1⟩
  by_cases c : 1 ≤ s
  · obtain ⟨q1, q2⟩ := h2 c
    have e : (s + 1) / 2 = (s - 1) / 2 + 1 := by omega
    have d := Nat.div_add_mod A B
    have d1 : 1 ≤ A / B := (Nat.le_div_iff_mul_le (by omega)).mpr (by omega)
    have d2 : B * 1 ≤ B * (A / B) := Nat.mul_le_mul_left _ d1
    have two : 2 * (A % B) ≤ A := by omega
    rw [e, Nat.pow_succ, Nat.mul_comm (2 ^ _) 2, ← Nat.mul_assoc, Nat.mul_comm (A % B) 2]
    exact Nat.lt_of_le_of_lt (Nat.mul_le_mul_right _ two) q2
  · have e : (s + 1) / 2 = s / 2 := by omega
    rw [e]
    exact Nat.lt_of_le_of_lt (Nat.mul_le_mul_right _ (by omega)) h1
theorem reduce_x {fu : Nat} {g : gT} {L : lT} {up low : Nat} (h5 : (L 11 5).toInt = (up : Int)) (h6 : (L 11 6).toInt = (low : Int)) (l0 : 0 < low) : Pc (fX0_reduce_11 fu g L) (fun _ _ L1 => (L1 11 5).toInt = ((up / Nat.gcd low up : Nat) : Int) ∧ (L1 11 6).toInt = ((low / Nat.gcd low up : Nat) : Int)) := by
  have r5 := lg_rg (L 11 5)
  rw [h5] at r5
  unfold fX0_reduce_11
  refine pc_ltl (fun y1 e1 => pc_ltl (fun y2 e2 => ?_))
  have fin : ∀ (v : Int64) (g' : gT), v.toInt = ((Nat.gcd low up : Nat) : Int) → Pc (fX0_reduce_11_p43 fu v g' L) (fun _ _ L1 => (L1 11 5).toInt = ((up / Nat.gcd low up : Nat) : Int) ∧ (L1 11 6).toInt = ((low / Nat.gcd low up : Nat) : Int)) := by
    intro v g' hv
    have gp : 0 < Nat.gcd low up := Nat.gcd_pos_of_pos_left _ l0
    unfold fX0_reduce_11_p43 fX0_reduce_11_p69
    refine pc_ite (fun c => pc_some ?_) (fun c => pc_cnzL (pc_stle (fun L4 e4 => pc_cnzL (pc_stle (fun L5 e5 => pc_some ⟨?_, ?_⟩)))))
    · have c := (lg_c1 hv).mp c
      have e : Nat.gcd low up = 1 := by omega
      rw [e, Nat.div_one, Nat.div_one]
      exact ⟨h5, h6⟩
    · rw [e5, updL_nj (by decide), e4, updL_at]
      exact lg_divc h5 hv
    · rw [e5, updL_at, e4, updL_nj (by decide)]
      exact lg_divc h6 hv
  unfold fX0_reduce_11_l13
  refine pc_loop (fun v => ∃ (s A B : Nat), v.2.2.1.toInt = (s : Int) ∧ s ≤ 200 ∧ v.1.toInt = (A : Int) ∧ v.2.1.toInt = (B : Int) ∧ Nat.gcd A B = Nat.gcd low up ∧ B * 2 ^ (s / 2) < 9223372036854775808 ∧ (1 ≤ s → B < A ∧ A * 2 ^ ((s - 1) / 2) < 9223372036854775808) ∧ v.2.2.2.2 = L) (fun k13 hk v hv => ?_) ⟨0, low, up, rfl, by omega, by rw [e1]; exact h6, by rw [e2]; exact h5, rfl, by rw [Nat.zero_div, Nat.pow_zero]; omega, fun h => by omega, rfl⟩
  obtain ⟨v1, v3, v5, g', L'⟩ := v
  obtain ⟨s, A, B, hs, s2, hA, hB, hg, b1, b2, eL⟩ := hv
  replace hs : v5.toInt = (s : Int) := hs
  replace hA : v1.toInt = (A : Int) := hA
  replace hB : v3.toInt = (B : Int) := hB
  replace eL : L' = L := eL
  rw [eL]
  show Pc (fX0_reduce_11_s13 fu k13 v1 v3 v5 g' L) _
  unfold fX0_reduce_11_s13
  refine pc_ite (fun c => fin v1 g' ?_) (fun c => pc_ite (fun c2 => fin v1 g' ?_) (fun c2 => pc_cnzL (pc_ltl (fun y8 e8 => hk _ ⟨s + 1, B, A % B, ?_, ?_, hB, ?_, ?_, ?_, ?_, rfl⟩))))
  · have c := icc_le (m := 200) rfl hs c
    have es : s = 200 := by omega
    have bz : B = 0 := by
      refine Classical.byContradiction (fun hb => ?_)
      rw [es] at b1
      have : 1 * 2 ^ (200 / 2) ≤ B * 2 ^ (200 / 2) := Nat.mul_le_mul_right _ (by omega)
      have k : (9223372036854775808 : Nat) ≤ 1 * 2 ^ (200 / 2) := by decide
      omega
    rw [bz, Nat.gcd_zero_right] at hg
    rw [hA, hg]
  · have c2 := (lg_c0 hB).mp c2
    rw [c2, Nat.gcd_zero_right] at hg
    rw [hA, hg]
  · have c := icc_nle (m := 200) rfl hs c
    show (v5 + 1).toInt = _
    rw [ic_addc hs (n := 1) rfl (by omega) (by omega)]; omega
  · have c := icc_nle (m := 200) rfl hs c
    omega
  · show y8.toInt = _
    rw [e8]; exact lg_modc hA hB
  · rw [← hg, Nat.gcd_comm A B, Nat.gcd_rec B A, Nat.gcd_comm]
  · exact (eu_step (fun q => c2 ((lg_c0 hB).mpr q)) b1 b2).1
  · intro _
    exact (eu_step (fun q => c2 ((lg_c0 hB).mpr q)) b1 b2).2
theorem portion_m {fu : Nat} {p1 p2 : Int64} {p3 : Int32} {g : gT} {L : lT} {up low : Nat} (h1 : p1.toInt = (up : Int)) (h2 : p2.toInt = (low : Int)) : Pc (fX12_portion fu p1 p2 p3 g L) (fun x g1 _ => g1 = g ∧ x.toInt = (((if p3 = 0 then up else low) / Nat.gcd low up : Nat) : Int)) := by
  unfold fX12_portion fX12_portion_l6
  refine pc_loop (fun v => ∃ (A B : Nat), v.1.toInt = (A : Int) ∧ v.2.1.toInt = (B : Int) ∧ Nat.gcd A B = Nat.gcd low up ∧ v.2.2.1 = g) (fun k6 hk v hv => ?_) ⟨low, up, h2, h1, rfl, rfl⟩
  obtain ⟨v5, v7, g', L'⟩ := v
  obtain ⟨A, B, hA, hB, hg, eg⟩ := hv
  replace hA : v5.toInt = (A : Int) := hA
  replace hB : v7.toInt = (B : Int) := hB
  replace eg : g' = g := eg
  subst eg
  show Pc (fX12_portion_s6 fu p1 p2 p3 k6 v5 v7 g' L') _
  unfold fX12_portion_s6 fX12_portion_p41
  refine pc_ite (fun c2 => ?_) (fun c2 => pc_cnzL (pc_ltl (fun y3 e3 => hk _ ⟨B, A % B, hB, ?_, ?_, rfl⟩)))
  · have c2 := (lg_c0 hB).mp c2
    rw [c2, Nat.gcd_zero_right] at hg
    rw [hg] at hA
    refine pc_ite (fun c0 => pc_cnzL (pc_some ⟨rfl, ?_⟩)) (fun c0 => pc_cnzL (pc_some ⟨rfl, ?_⟩))
    · rw [if_pos c0]; exact lg_divc h1 hA
    · rw [if_neg c0]; exact lg_divc h2 hA
  · show y3.toInt = _
    rw [e3]; exact lg_modc hA hB
  · rw [← hg, Nat.gcd_comm A B, Nat.gcd_rec B A, Nat.gcd_comm]
