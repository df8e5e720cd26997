/-! ===== the cells of the reference ===== -/
def mf_0 : Nat → Option (Option Nat) := fun j => match j with | 5 => some (some 1) | 6 => some (some 2) | 7 => some (some 3) | 8 => some (some 4) | 9 => some (some 5) | 10 => some (some 6) | 11 => some (some 7) | 12 => some (some 8) | 13 => some (some 9) | 14 => some (some 10) | 15 => some (some 11) | 16 => some (some 12) | 17 => some (some 13) | 21 => some (some 14) | 38 => some (some 15) | 39 => some (some 16) | 40 => some (some 17) | 41 => some (some 18) | 42 => some (some 19) | 43 => some (some 20) | 44 => some (some 21) | 45 => some (some 22) | 46 => some (some 23) | 47 => some (some 24) | 48 => some (some 25) | 49 => some (some 26) | 50 => some (some 27) | 51 => some (some 28) | 53 => some (some 29) | 54 => some (some 30) | 55 => some (some 31) | 56 => some (some 32) | 57 => some (some 33) | 58 => some (some 34) | 59 => some (some 35) | 63 => some (some 36) | 64 => some (some 37) | 66 => some (some 38) | 67 => some (some 39) | 68 => some (some 40) | 69 => some (some 41) | 72 => some (some 42) | 74 => some (some 43) | 75 => some (some 44) | 76 => some (some 45) | 77 => some (some 46) | 78 => some (some 47) | 85 => some (some 48) | 86 => some (some 49) | 87 => some (some 50) | 29 => some none | _ => none
def MS (k : Nat) : zSh := match k with | 0 => .inl (12, 88, mf_0) | 1 => .inr (0, 12) | 2 => .inr (0, 12) | 3 => .inr (0, 12) | 4 => .inr (0, 12) | 5 => .inr (0, 12) | 6 => .inr (0, 12) | 7 => .inr (0, 12) | 8 => .inr (0, 12) | 9 => .inr (0, 72) | 10 => .inr (0, 4) | 11 => .inr (0, 1900) | 12 => .inr (0, 48) | 13 => .inr (0, 700) | 14 => .inr (0, 3) | 15 => .inr (0, 12) | 16 => .inr (0, 12) | 17 => .inr (0, 12) | 18 => .inr (0, 12) | 19 => .inr (0, 12) | 20 => .inr (0, 12) | 21 => .inr (0, 12) | 22 => .inr (0, 12) | 23 => .inr (0, 72) | 24 => .inr (0, 48) | 25 => .inr (0, 4) | 26 => .inr (0, 1900) | 27 => .inr (0, 950) | 28 => .inr (1, 9) | 29 => .inr (0, 6) | 30 => .inr (0, 950) | 31 => .inr (0, 12) | 32 => .inr (0, 12) | 33 => .inr (0, 12) | 34 => .inr (0, 12) | 35 => .inr (0, 6) | 36 => .inr (0, 80) | 37 => .inr (0, 12) | 38 => .inr (0, 12) | 39 => .inr (0, 12) | 40 => .inr (0, 5) | 41 => .inr (0, 8) | 42 => .inr (0, 48) | 43 => .inr (0, 16) | 44 => .inr (0, 72) | 45 => .inr (0, 72) | 46 => .inr (0, 72) | 47 => .inr (0, 72) | 48 => .inr (0, 48) | 49 => .inr (0, 80) | 50 => .inr (0, 16) | _ => .inr (0, 0)
theorem ms_0 : MS 0 = .inl (12, 88, mf_0) := rfl
theorem ms_1 : MS 1 = .inr (0, 12) := rfl
theorem ms_2 : MS 2 = .inr (0, 12) := rfl
theorem ms_3 : MS 3 = .inr (0, 12) := rfl
theorem ms_4 : MS 4 = .inr (0, 12) := rfl
theorem ms_5 : MS 5 = .inr (0, 12) := rfl
theorem ms_6 : MS 6 = .inr (0, 12) := rfl
theorem ms_7 : MS 7 = .inr (0, 12) := rfl
theorem ms_8 : MS 8 = .inr (0, 12) := rfl
theorem ms_9 : MS 9 = .inr (0, 72) := rfl
theorem ms_10 : MS 10 = .inr (0, 4) := rfl
theorem ms_11 : MS 11 = .inr (0, 1900) := rfl
theorem ms_12 : MS 12 = .inr (0, 48) := rfl
theorem ms_13 : MS 13 = .inr (0, 700) := rfl
theorem ms_14 : MS 14 = .inr (0, 3) := rfl
theorem ms_15 : MS 15 = .inr (0, 12) := rfl
theorem ms_16 : MS 16 = .inr (0, 12) := rfl
theorem ms_17 : MS 17 = .inr (0, 12) := rfl
theorem ms_18 : MS 18 = .inr (0, 12) := rfl
theorem ms_19 : MS 19 = .inr (0, 12) := rfl
theorem ms_20 : MS 20 = .inr (0, 12) := rfl
theorem ms_21 : MS 21 = .inr (0, 12) := rfl
theorem ms_22 : MS 22 = .inr (0, 12) := rfl
theorem ms_23 : MS 23 = .inr (0, 72) := rfl
theorem ms_24 : MS 24 = .inr (0, 48) := rfl
theorem ms_25 : MS 25 = .inr (0, 4) := rfl
theorem ms_26 : MS 26 = .inr (0, 1900) := rfl
theorem ms_27 : MS 27 = .inr (0, 950) := rfl
theorem ms_28 : MS 28 = .inr (1, 9) := rfl
theorem ms_29 : MS 29 = .inr (0, 6) := rfl
theorem ms_30 : MS 30 = .inr (0, 950) := rfl
theorem ms_31 : MS 31 = .inr (0, 12) := rfl
theorem ms_32 : MS 32 = .inr (0, 12) := rfl
theorem ms_33 : MS 33 = .inr (0, 12) := rfl
theorem ms_34 : MS 34 = .inr (0, 12) := rfl
theorem ms_35 : MS 35 = .inr (0, 6) := rfl
theorem ms_36 : MS 36 = .inr (0, 80) := rfl
theorem ms_37 : MS 37 = .inr (0, 12) := rfl
theorem ms_38 : MS 38 = .inr (0, 12) := rfl
theorem ms_39 : MS 39 = .inr (0, 12) := rfl
theorem ms_40 : MS 40 = .inr (0, 5) := rfl
theorem ms_41 : MS 41 = .inr (0, 8) := rfl
theorem ms_42 : MS 42 = .inr (0, 48) := rfl
theorem ms_43 : MS 43 = .inr (0, 16) := rfl
theorem ms_44 : MS 44 = .inr (0, 72) := rfl
theorem ms_45 : MS 45 = .inr (0, 72) := rfl
theorem ms_46 : MS 46 = .inr (0, 72) := rfl
theorem ms_47 : MS 47 = .inr (0, 72) := rfl
theorem ms_48 : MS 48 = .inr (0, 48) := rfl
theorem ms_49 : MS 49 = .inr (0, 80) := rfl
theorem ms_50 : MS 50 = .inr (0, 16) := rfl
def MT (k j : Nat) : Option (Int × Int) := match k with | 0 => (match j with | 1 => some (0, 12) | 2 => some (0, 4) | 4 => some (1, 99) | 18 => some (0, 700) | 22 => some (0, 700) | 23 => some (0, 700) | 25 => some (0, 700) | 27 => some (0, 9999) | 30 => some (0, 12) | 31 => some (0, 4) | 35 => some (0, 1900) | 36 => some (0, 950) | 52 => some (-1, 3) | 62 => some (0, 40) | 65 => some (0, 1) | 70 => some (0, 8) | 73 => some (0, 8) | 79 => some (0, 72) | 81 => some (0, 1) | 82 => some (-1, 3) | 83 => some (0, 40) | 84 => some (0, 8) | _ => none) | 8 => some (0, 6) | 9 => some (0, 11) | 13 => some (0, 255) | 22 => some (0, 6) | 23 => some (0, 11) | 28 => some (0, 1) | 34 => some (-1, 11) | 40 => some (0, 11) | 41 => some (0, 11) | 44 => some (0, 11) | _ => none
