/-! ===== the cells of the class ===== -/
def xf_0 (b : Nat) : Nat → Option (Option Nat) := fun j => match j with | 0 => some (some 14) | 1 => some (some 15) | 2 => some (some 16) | 3 => some (some 1) | 4 => some (some 2) | 5 => some (some 5) | 6 => some (some 6) | 7 => some (some 7) | 8 => some (some 8) | 9 => some (some 9) | 10 => some (some 10) | 11 => some (some 11) | 12 => some (some 12)  | _ => none
def xf_1 (b : Nat) : Nat → Option (Option Nat) := fun j => match j with | 0 => some (some 17) | 1 => some (some 3)  | _ => none
def xf_2 (b : Nat) : Nat → Option (Option Nat) := fun j => match j with | 0 => some (some 18) | 1 => some (some 4)  | _ => none
def xf_3 (b : Nat) : Nat → Option (Option Nat) := fun j => match j with | 0 => some (some 19) | 1 => some (some 20) | 2 => some (some 21)  | _ => none
def xf_4 (b : Nat) : Nat → Option (Option Nat) := fun j => match j with | 0 => some (some 22) | 1 => some (some 23) | 2 => some (some 24)  | _ => none
def xf_5 (b : Nat) : Nat → Option (Option Nat) := fun j => match j with | 0 => some (some 14) | 1 => some (some b)  | _ => none
def xf_6 (b : Nat) : Nat → Option (Option Nat) := fun j => match j with | 0 => some (some 25) | 1 => some (some 26) | 2 => some (some 27) | 3 => some (some 28) | 4 => some (some 29) | 5 => some (some 30) | 6 => some (some 31) | 7 => some (some 32) | 8 => some (some 33)  | _ => none
def xf_7 (b : Nat) : Nat → Option (Option Nat) := fun j => match j with | 0 => some (some 34) | 1 => some (some 35) | 2 => some (some 36) | 3 => some (some 37) | 4 => some (some 38) | 5 => some (some 39) | 6 => some (some 40) | 7 => some (some 41) | 8 => some (some 42)  | _ => none
def xf_8 (b : Nat) : Nat → Option (Option Nat) := fun j => match j with | 0 => some (some 6) | 1 => some (some 43) | 2 => some (some 44) | 3 => some (some 45) | 4 => some (some 46) | 5 => some (some 47) | 6 => some (some 48) | 7 => some (some 1)  | _ => none
def xf_9 (b : Nat) : Nat → Option (Option Nat) := fun j => match j with | 0 => some (some 8) | 1 => some (some 6) | 2 => some (some 13) | 3 => some (some 49)  | _ => none
def xf_10 (b : Nat) : Nat → Option (Option Nat) := fun j => match j with | 0 => some (some 8) | 1 => some (some 6) | 2 => some (some 50) | 3 => some (some 51)  | _ => none
def xf_11 (b : Nat) : Nat → Option (Option Nat) := fun j => match j with | 0 => some (some 8) | 1 => some (some 52) | 5 => some none | 6 => some none | _ => none
def xf_12 (b : Nat) : Nat → Option (Option Nat) := fun j => match j with | 0 => some (some 8) | 1 => some (some 53) | 2 => some (some 54) | 3 => some (some 55) | 4 => some (some 56)  | _ => none
def xf_13 (b : Nat) : Nat → Option (Option Nat) := fun j => none
def xf_les (k : Nat) : Nat → Option (Option Nat) := fun j => match j with | 0 => some (some (k + 24)) | _ => none
def XS (b k : Nat) : zSh := if k < 57 then (match k with | 0 => .inl (11, 17, xf_0 b) | 1 => .inl (7, 5, xf_1 b) | 2 => .inl (7, 5, xf_2 b) | 3 => .inl (8, 5, xf_3 b) | 4 => .inl (8, 5, xf_4 b) | 5 => .inl (6, 11, xf_5 b) | 6 => .inl (3, 12, xf_6 b) | 7 => .inl (3, 12, xf_7 b) | 8 => .inl (1, 10, xf_8 b) | 9 => .inl (10, 7, xf_9 b) | 10 => .inl (2, 9, xf_10 b) | 11 => .inl (0, 7, xf_11 b) | 12 => .inl (9, 6, xf_12 b) | 13 => .inl (4, 3, xf_13 b) | 14 => .inr (0, 700) | 15 => .inr (0, 3) | 16 => .inr (0, 12) | 17 => .inr (59, 12) | 18 => .inr (71, 12) | 19 => .inr (0, 700) | 20 => .inr (0, 5) | 21 => .inr (0, 64) | 22 => .inr (0, 700) | 23 => .inr (0, 5) | 24 => .inr (0, 64) | 25 => .inr (0, 12) | 26 => .inr (0, 12) | 27 => .inr (0, 12) | 28 => .inr (0, 12) | 29 => .inr (0, 40) | 30 => .inr (0, 40) | 31 => .inr (0, 40) | 32 => .inr (0, 8) | 33 => .inr (0, 8) | 34 => .inr (0, 12) | 35 => .inr (0, 12) | 36 => .inr (0, 12) | 37 => .inr (0, 12) | 38 => .inr (0, 40) | 39 => .inr (0, 40) | 40 => .inr (0, 40) | 41 => .inr (0, 8) | 42 => .inr (0, 8) | 43 => .inr (0, 12) | 44 => .inr (0, 12) | 45 => .inr (0, 12) | 46 => .inr (0, 12) | 47 => .inr (0, 6) | 48 => .inr (0, 6) | 49 => .inr (0, 12) | 50 => .inr (0, 12) | 51 => .inr (0, 12) | 52 => .inr (0, 8) | 53 => .inr (0, 72) | 54 => .inr (0, 72) | 55 => .inr (0, 72) | 56 => .inr (1, 72) | _ => .inr (0, 0)) else if k < 81 then .inl (5, 14, xf_les k) else .inr (0, 6)
theorem xs_0 {b : Nat} : XS b 0 = .inl (11, 17, xf_0 b) := rfl
theorem xs_1 {b : Nat} : XS b 1 = .inl (7, 5, xf_1 b) := rfl
theorem xs_2 {b : Nat} : XS b 2 = .inl (7, 5, xf_2 b) := rfl
theorem xs_3 {b : Nat} : XS b 3 = .inl (8, 5, xf_3 b) := rfl
theorem xs_4 {b : Nat} : XS b 4 = .inl (8, 5, xf_4 b) := rfl
theorem xs_5 {b : Nat} : XS b 5 = .inl (6, 11, xf_5 b) := rfl
theorem xs_6 {b : Nat} : XS b 6 = .inl (3, 12, xf_6 b) := rfl
theorem xs_7 {b : Nat} : XS b 7 = .inl (3, 12, xf_7 b) := rfl
theorem xs_8 {b : Nat} : XS b 8 = .inl (1, 10, xf_8 b) := rfl
theorem xs_9 {b : Nat} : XS b 9 = .inl (10, 7, xf_9 b) := rfl
theorem xs_10 {b : Nat} : XS b 10 = .inl (2, 9, xf_10 b) := rfl
theorem xs_11 {b : Nat} : XS b 11 = .inl (0, 7, xf_11 b) := rfl
theorem xs_12 {b : Nat} : XS b 12 = .inl (9, 6, xf_12 b) := rfl
theorem xs_13 {b : Nat} : XS b 13 = .inl (4, 3, xf_13 b) := rfl
theorem xs_14 {b : Nat} : XS b 14 = .inr (0, 700) := rfl
theorem xs_15 {b : Nat} : XS b 15 = .inr (0, 3) := rfl
theorem xs_16 {b : Nat} : XS b 16 = .inr (0, 12) := rfl
theorem xs_17 {b : Nat} : XS b 17 = .inr (59, 12) := rfl
theorem xs_18 {b : Nat} : XS b 18 = .inr (71, 12) := rfl
theorem xs_19 {b : Nat} : XS b 19 = .inr (0, 700) := rfl
theorem xs_20 {b : Nat} : XS b 20 = .inr (0, 5) := rfl
theorem xs_21 {b : Nat} : XS b 21 = .inr (0, 64) := rfl
theorem xs_22 {b : Nat} : XS b 22 = .inr (0, 700) := rfl
theorem xs_23 {b : Nat} : XS b 23 = .inr (0, 5) := rfl
theorem xs_24 {b : Nat} : XS b 24 = .inr (0, 64) := rfl
theorem xs_25 {b : Nat} : XS b 25 = .inr (0, 12) := rfl
theorem xs_26 {b : Nat} : XS b 26 = .inr (0, 12) := rfl
theorem xs_27 {b : Nat} : XS b 27 = .inr (0, 12) := rfl
theorem xs_28 {b : Nat} : XS b 28 = .inr (0, 12) := rfl
theorem xs_29 {b : Nat} : XS b 29 = .inr (0, 40) := rfl
theorem xs_30 {b : Nat} : XS b 30 = .inr (0, 40) := rfl
theorem xs_31 {b : Nat} : XS b 31 = .inr (0, 40) := rfl
theorem xs_32 {b : Nat} : XS b 32 = .inr (0, 8) := rfl
theorem xs_33 {b : Nat} : XS b 33 = .inr (0, 8) := rfl
theorem xs_34 {b : Nat} : XS b 34 = .inr (0, 12) := rfl
theorem xs_35 {b : Nat} : XS b 35 = .inr (0, 12) := rfl
theorem xs_36 {b : Nat} : XS b 36 = .inr (0, 12) := rfl
theorem xs_37 {b : Nat} : XS b 37 = .inr (0, 12) := rfl
theorem xs_38 {b : Nat} : XS b 38 = .inr (0, 40) := rfl
theorem xs_39 {b : Nat} : XS b 39 = .inr (0, 40) := rfl
theorem xs_40 {b : Nat} : XS b 40 = .inr (0, 40) := rfl
theorem xs_41 {b : Nat} : XS b 41 = .inr (0, 8) := rfl
theorem xs_42 {b : Nat} : XS b 42 = .inr (0, 8) := rfl
theorem xs_43 {b : Nat} : XS b 43 = .inr (0, 12) := rfl
theorem xs_44 {b : Nat} : XS b 44 = .inr (0, 12) := rfl
theorem xs_45 {b : Nat} : XS b 45 = .inr (0, 12) := rfl
theorem xs_46 {b : Nat} : XS b 46 = .inr (0, 12) := rfl
theorem xs_47 {b : Nat} : XS b 47 = .inr (0, 6) := rfl
theorem xs_48 {b : Nat} : XS b 48 = .inr (0, 6) := rfl
theorem xs_49 {b : Nat} : XS b 49 = .inr (0, 12) := rfl
theorem xs_50 {b : Nat} : XS b 50 = .inr (0, 12) := rfl
theorem xs_51 {b : Nat} : XS b 51 = .inr (0, 12) := rfl
theorem xs_52 {b : Nat} : XS b 52 = .inr (0, 8) := rfl
theorem xs_53 {b : Nat} : XS b 53 = .inr (0, 72) := rfl
theorem xs_54 {b : Nat} : XS b 54 = .inr (0, 72) := rfl
theorem xs_55 {b : Nat} : XS b 55 = .inr (0, 72) := rfl
theorem xs_56 {b : Nat} : XS b 56 = .inr (1, 72) := rfl
theorem xs_les {b k : Nat} (h1 : 57 ≤ k) (h2 : k < 81) : XS b k = .inl (5, 14, xf_les k) := by unfold XS; rw [if_neg (by omega), if_pos h2]
theorem xs_wai {b k : Nat} (h1 : 81 ≤ k) : XS b k = .inr (0, 6) := by unfold XS; rw [if_neg (by omega), if_neg (by omega)]
def XT (k j : Nat) : Option (Int × Int) := if k < 57 then (match k with | 0 => (match j with | 13 => some (0, 700) | 15 => some (0, 1) | 16 => some (0, 1) | _ => none) | 1 => (match j with | 2 => some (0, 12) | _ => none) | 2 => (match j with | 2 => some (0, 12) | _ => none) | 3 => (match j with | 3 => some (0, 4) | 4 => some (0, 700) | _ => none) | 4 => (match j with | 3 => some (0, 4) | 4 => some (0, 700) | _ => none) | 5 => (match j with | 2 => some (0, 700) | 3 => some (0, 700) | 5 => some (0, 700) | 6 => some (0, 9999) | 9 => some (0, 1) | 10 => some (0, 1) | _ => none) | 6 => (match j with | 9 => some (0, 40) | 10 => some (0, 8) | _ => none) | 7 => (match j with | 9 => some (0, 40) | 10 => some (0, 8) | _ => none) | 10 => (match j with | 5 => some (0, 11) | _ => none) | 11 => (match j with | 2 => some (0, 8) | _ => none) | 12 => (match j with | 5 => some (0, 72) | _ => none) | 13 => (match j with | 0 => some (0, 1) | _ => none) | 14 => some (0, 255) | 20 => some (0, 700) | 23 => some (0, 700) | 30 => some (0, 11) | 32 => some (0, 11) | 39 => some (0, 11) | 41 => some (0, 11) | 46 => some (-1, 11) | 52 => some (0, 11) | 56 => some (0, 1) | _ => none) else if k < 81 then (match j with | 1 => some (0, 6) | _ => none) else some (0, 11)
theorem xt_les {k : Nat} (h1 : 57 ≤ k) (h2 : k < 81) : XT k 1 = some (0, 6) := by unfold XT; rw [if_neg (by omega), if_pos h2]; rfl
theorem xt_lesN {k j : Nat} (h1 : 57 ≤ k) (h2 : k < 81) (h3 : j ≠ 1) : XT k j = none := by
  unfold XT; rw [if_neg (by omega), if_pos h2]
  split
  · exact absurd rfl h3
  · rfl
theorem xt_wai {k j : Nat} (h1 : 81 ≤ k) : XT k j = some (0, 11) := by unfold XT; rw [if_neg (by omega), if_neg (by omega)]
abbrev zS : Type := (Nat → Nat → Int32) × (Nat → Nat → Int64)
theorem ic_addc {x y : Int32} {m n : Int} (hx : x.toInt = m) (hy : y.toInt = n) (h1 : -2147483648 ≤ m + n) (h2 : m + n ≤ 2147483647) : (x + y).toInt = m + n := by subst hx hy; exact ic_add h1 h2
theorem ic_subc {x y : Int32} {m n : Int} (hx : x.toInt = m) (hy : y.toInt = n) (h1 : -2147483648 ≤ m - n) (h2 : m - n ≤ 2147483647) : (x - y).toInt = m - n := by subst hx hy; exact ic_sub h1 h2
theorem ic_mulc {x y : Int32} {m n : Int} (hx : x.toInt = m) (hy : y.toInt = n) (h1 : -2147483648 ≤ m * n) (h2 : m * n ≤ 2147483647) : (x * y).toInt = m * n := by subst hx hy; exact ic_mul h1 h2
theorem icc_lt {x y : Int32} {m n : Int} (hx : x.toInt = m) (hy : y.toInt = n) (c : x < y) : m < n := by subst hx hy; exact ic_lt.mp c
theorem icc_nlt {x y : Int32} {m n : Int} (hx : x.toInt = m) (hy : y.toInt = n) (c : ¬ x < y) : n ≤ m := by subst hx hy; exact Int.not_lt.mp (fun h => c (ic_lt.mpr h))
theorem icc_le {x y : Int32} {m n : Int} (hx : x.toInt = m) (hy : y.toInt = n) (c : x ≤ y) : m ≤ n := by subst hx hy; exact ic_le.mp c
theorem icc_nle {x y : Int32} {m n : Int} (hx : x.toInt = m) (hy : y.toInt = n) (c : ¬ x ≤ y) : n < m := by subst hx hy; exact Int.not_le.mp (fun h => c (ic_le.mpr h))
theorem icc_eq {x y : Int32} {m n : Int} (hx : x.toInt = m) (hy : y.toInt = n) (c : x = y) : m = n := by subst hx hy; rw [c]
theorem icc_neq {x y : Int32} {m n : Int} (hx : x.toInt = m) (hy : y.toInt = n) (c : ¬ x = y) : ¬ m = n := by subst hx hy; exact fun h => c (ic_eq.mpr h)
theorem ic_min {x y : Int32} {m n : Int} (hx : x.toInt = m) (hy : y.toInt = n) : (if y < x then y else x).toInt ≤ m ∧ (if y < x then y else x).toInt ≤ n ∧ ((if y < x then y else x).toInt = m ∨ (if y < x then y else x).toInt = n) := by
  subst hx hy
  split
  · rename_i h; have := ic_lt.mp h; omega
  · rename_i h; have := icc_nlt rfl rfl h; omega
theorem ic_max {x y : Int32} {m n : Int} (hx : x.toInt = m) (hy : y.toInt = n) : m ≤ (if x < y then y else x).toInt ∧ n ≤ (if x < y then y else x).toInt ∧ ((if x < y then y else x).toInt = m ∨ (if x < y then y else x).toInt = n) := by
  subst hx hy
  split
  · rename_i h; have := ic_lt.mp h; omega
  · rename_i h; have := icc_nlt rfl rfl h; omega
theorem z_bool {x : Int32} (h : 0 ≤ x.toInt ∧ x.toInt ≤ 1) : narrow .boolean (.int x) = .int x := by
  have h' : x.toInt = 0 ∨ x.toInt = 1 := by omega
  rcases h' with h | h
  · have e : x = 0 := ic_eq.mpr h
    subst e; rfl
  · have e : x = 1 := ic_eq.mpr h
    subst e; rfl
