/-! ===== the swap of the plans: cells in another order ===== -/
def sg (k : Nat) : Nat := if k < 57 then (match k with | 1 => 2 | 2 => 1 | 3 => 4 | 4 => 3 | 17 => 18 | 18 => 17 | 19 => 22 | 20 => 23 | 21 => 24 | 22 => 19 | 23 => 20 | 24 => 21 | k => k) else if k < 69 then k + 12 else if k < 81 then k - 12 else if k < 93 then k + 12 else if k < 105 then k - 12 else k
def xg_0 (p q : Nat) : Nat → Option (Option Nat) := fun j => match j with | 3 => some (some p) | 4 => some (some q) | j => xf_0 0 j
def xg_8 (d : Nat) : Nat → Option (Option Nat) := fun j => match j with | 7 => some (some d) | j => xf_8 0 j
def XG (b p q d k : Nat) : zSh := match k with | 0 => .inl (11, 17, xg_0 p q) | 8 => .inl (1, 10, xg_8 d) | k => XS b k
theorem xg_0n {p q p' q' j : Nat} (h3 : j ≠ 3 ∨ p = p') (h4 : j ≠ 4 ∨ q = q') : xg_0 p' q' j = xg_0 p q j := by
  unfold xg_0
  split
  · rcases h3 with h | h
    · exact absurd rfl h
    · rw [h]
  · rcases h4 with h | h
    · exact absurd rfl h
    · rw [h]
  · rfl
theorem xg_8n {d d' j : Nat} (h : j ≠ 7) : xg_8 d' j = xg_8 d j := by
  unfold xg_8
  split
  · exact absurd rfl h
  · rfl
theorem xg_b0 {b p q d : Nat} : XG b p q d 0 = .inl (11, 17, xg_0 p q) := rfl
theorem xg_b8 {b p q d : Nat} : XG b p q d 8 = .inl (1, 10, xg_8 d) := rfl
theorem xg_n0 {b p q p' q' d k : Nat} (h : k ≠ 0) : XG b p' q' d k = XG b p q d k := by
  unfold XG
  split
  · exact absurd rfl h
  · rfl
  · rfl
theorem xg_n8 {b p q d d' k : Nat} (h : k ≠ 8) : XG b p q d' k = XG b p q d k := by
  unfold XG
  split
  · rfl
  · exact absurd rfl h
  · rfl
theorem xg_start : XS 2 = XG 2 1 2 1 := by
  funext k
  unfold XG
  split
  · show (Sum.inl (11, 17, xf_0 2) : zSh) = .inl (11, 17, xg_0 1 2)
    have e : xf_0 2 = xg_0 1 2 := by
      funext j
      unfold xg_0
      split
      · rfl
      · rfl
      · rfl
    rw [e]
  · show (Sum.inl (1, 10, xf_8 2) : zSh) = .inl (1, 10, xg_8 1)
    have e : xf_8 2 = xg_8 1 := by
      funext j
      unfold xg_8
      split
      · rfl
      · rfl
    rw [e]
  · rfl
theorem sg_lt {k : Nat} (h : k < 105) : sg k < 105 := by
  have h1 : ∀ k, k < 57 → sg k < 57 := by decide +kernel
  by_cases h57 : k < 57
  · have := h1 k h57; omega
  · unfold sg; rw [if_neg h57]; split
    · omega
    · split
      · omega
      · split
        · omega
        · omega
theorem sg_les1 {k : Nat} (h1 : 57 ≤ k) (h2 : k < 69) : sg k = k + 12 := by unfold sg; rw [if_neg (by omega), if_pos h2]
theorem sg_les2 {k : Nat} (h1 : 69 ≤ k) (h2 : k < 81) : sg k = k - 12 := by unfold sg; rw [if_neg (by omega), if_neg (by omega), if_pos h2]
theorem sg_wai1 {k : Nat} (h1 : 81 ≤ k) (h2 : k < 93) : sg k = k + 12 := by unfold sg; rw [if_neg (by omega), if_neg (by omega), if_neg (by omega), if_pos h2]
theorem sg_wai2 {k : Nat} (h1 : 93 ≤ k) (h2 : k < 105) : sg k = k - 12 := by unfold sg; rw [if_neg (by omega), if_neg (by omega), if_neg (by omega), if_neg (by omega), if_pos h2]
theorem xg_57 {b p q d k : Nat} (h : 57 ≤ k) : XG b p q d k = XS b k := by
  unfold XG
  split
  · omega
  · omega
  · rfl
section ZSW
variable {G : kG} {a : Nat → Nat} {g : Nat → Nat → Int32} {L : Nat → Nat → Int64}
theorem zsw_o {k k' ci N : Nat} {ft ft' : Nat → Option (Option Nat)} (hk : sg k = k') (h : ∀ j, (ft j = none ∧ ft' j = none) ∨ (ft j = some none ∧ ft' j = some none) ∨ ∃ t, ft j = some (some t) ∧ ∃ t', ft' j = some (some t') ∧ t' = sg t) : zE G a g L k' (.inl (ci, N, ft')) = zE G (fun k => a (sg k)) (fun k => g (sg k)) (fun k => L (sg k)) k (.inl (ci, N, ft)) := by
  subst hk
  show (Sum.inr (ci, ofL N (zF a g L (sg k) ft')) : va_E) = .inr (ci, ofL N (zF (fun k => a (sg k)) (fun k => g (sg k)) (fun k => L (sg k)) k ft))
  congr 3
  funext j
  unfold zF
  rcases h j with ⟨h1, h2⟩ | ⟨h1, h2⟩ | ⟨t, h1, t', h2, h3⟩
  · rw [h1, h2]
  · rw [h1, h2]
  · rw [h1, h2, h3]
def zft (ft ft' : Nat → Option (Option Nat)) (N : Nat) : Bool := (List.range N).all (fun j => match ft j, ft' j with | none, none => true | some none, some none => true | some (some t), some (some t') => t' == sg t | _, _ => false)
theorem zft_of {ft ft' : Nat → Option (Option Nat)} {N : Nat} (h : zft ft ft' N = true) (h1 : ∀ j, N ≤ j → ft j = none ∧ ft' j = none) : ∀ j, (ft j = none ∧ ft' j = none) ∨ (ft j = some none ∧ ft' j = some none) ∨ ∃ t, ft j = some (some t) ∧ ∃ t', ft' j = some (some t') ∧ t' = sg t := by
  intro j
  by_cases hj : j < N
  · have := List.all_eq_true.mp h j (List.mem_range.mpr hj)
    revert this
    cases h2 : ft j with
    | none =>
      cases h3 : ft' j with
      | none => intro _; exact Or.inl ⟨rfl, rfl⟩
      | some o => cases o <;> simp
    | some o =>
      cases o with
      | none =>
        cases h3 : ft' j with
        | none => simp
        | some o' => cases o' with
          | none => intro _; exact Or.inr (Or.inl ⟨rfl, rfl⟩)
          | some t' => simp
      | some t =>
        cases h3 : ft' j with
        | none => simp
        | some o' => cases o' with
          | none => simp
          | some t' => intro q; exact Or.inr (Or.inr ⟨t, rfl, t', rfl, by simpa using q⟩)
  · exact Or.inl (h1 j (by omega))
end ZSW
section ZSW2
variable {G : kG} {a : Nat → Nat} {g : Nat → Nat → Int32} {L : Nat → Nat → Int64}
theorem zsw_0 : zE G a g L 0 (XG 2 2 1 2 0) = zE G (fun k => a (sg k)) (fun k => g (sg k)) (fun k => L (sg k)) 0 (XS 1 0) := zsw_o (k := 0) (ft := xf_0 1) (ft' := xg_0 2 1) rfl (zft_of (N := 17) (by decide +kernel) (fun j hj => by
  obtain ⟨i, rfl⟩ : ∃ i, j = i + 17 := ⟨j - 17, by omega⟩
  exact ⟨rfl, rfl⟩))
theorem zsw_1 : zE G a g L 2 (XG 2 2 1 2 2) = zE G (fun k => a (sg k)) (fun k => g (sg k)) (fun k => L (sg k)) 1 (XS 1 1) := zsw_o (k := 1) (ft := xf_1 1) (ft' := xf_2 2) rfl (zft_of (N := 5) (by decide +kernel) (fun j hj => by
  obtain ⟨i, rfl⟩ : ∃ i, j = i + 5 := ⟨j - 5, by omega⟩
  exact ⟨rfl, rfl⟩))
theorem zsw_2 : zE G a g L 1 (XG 2 2 1 2 1) = zE G (fun k => a (sg k)) (fun k => g (sg k)) (fun k => L (sg k)) 2 (XS 1 2) := zsw_o (k := 2) (ft := xf_2 1) (ft' := xf_1 2) rfl (zft_of (N := 5) (by decide +kernel) (fun j hj => by
  obtain ⟨i, rfl⟩ : ∃ i, j = i + 5 := ⟨j - 5, by omega⟩
  exact ⟨rfl, rfl⟩))
theorem zsw_3 : zE G a g L 4 (XG 2 2 1 2 4) = zE G (fun k => a (sg k)) (fun k => g (sg k)) (fun k => L (sg k)) 3 (XS 1 3) := zsw_o (k := 3) (ft := xf_3 1) (ft' := xf_4 2) rfl (zft_of (N := 5) (by decide +kernel) (fun j hj => by
  obtain ⟨i, rfl⟩ : ∃ i, j = i + 5 := ⟨j - 5, by omega⟩
  exact ⟨rfl, rfl⟩))
theorem zsw_4 : zE G a g L 3 (XG 2 2 1 2 3) = zE G (fun k => a (sg k)) (fun k => g (sg k)) (fun k => L (sg k)) 4 (XS 1 4) := zsw_o (k := 4) (ft := xf_4 1) (ft' := xf_3 2) rfl (zft_of (N := 5) (by decide +kernel) (fun j hj => by
  obtain ⟨i, rfl⟩ : ∃ i, j = i + 5 := ⟨j - 5, by omega⟩
  exact ⟨rfl, rfl⟩))
theorem zsw_5 : zE G a g L 5 (XG 2 2 1 2 5) = zE G (fun k => a (sg k)) (fun k => g (sg k)) (fun k => L (sg k)) 5 (XS 1 5) := zsw_o (k := 5) (ft := xf_5 1) (ft' := xf_5 2) rfl (zft_of (N := 11) (by decide +kernel) (fun j hj => by
  obtain ⟨i, rfl⟩ : ∃ i, j = i + 11 := ⟨j - 11, by omega⟩
  exact ⟨rfl, rfl⟩))
theorem zsw_6 : zE G a g L 6 (XG 2 2 1 2 6) = zE G (fun k => a (sg k)) (fun k => g (sg k)) (fun k => L (sg k)) 6 (XS 1 6) := zsw_o (k := 6) (ft := xf_6 1) (ft' := xf_6 2) rfl (zft_of (N := 12) (by decide +kernel) (fun j hj => by
  obtain ⟨i, rfl⟩ : ∃ i, j = i + 12 := ⟨j - 12, by omega⟩
  exact ⟨rfl, rfl⟩))
theorem zsw_7 : zE G a g L 7 (XG 2 2 1 2 7) = zE G (fun k => a (sg k)) (fun k => g (sg k)) (fun k => L (sg k)) 7 (XS 1 7) := zsw_o (k := 7) (ft := xf_7 1) (ft' := xf_7 2) rfl (zft_of (N := 12) (by decide +kernel) (fun j hj => by
  obtain ⟨i, rfl⟩ : ∃ i, j = i + 12 := ⟨j - 12, by omega⟩
  exact ⟨rfl, rfl⟩))
theorem zsw_8 : zE G a g L 8 (XG 2 2 1 2 8) = zE G (fun k => a (sg k)) (fun k => g (sg k)) (fun k => L (sg k)) 8 (XS 1 8) := zsw_o (k := 8) (ft := xf_8 1) (ft' := xg_8 2) rfl (zft_of (N := 10) (by decide +kernel) (fun j hj => by
  obtain ⟨i, rfl⟩ : ∃ i, j = i + 10 := ⟨j - 10, by omega⟩
  exact ⟨rfl, rfl⟩))
theorem zsw_9 : zE G a g L 9 (XG 2 2 1 2 9) = zE G (fun k => a (sg k)) (fun k => g (sg k)) (fun k => L (sg k)) 9 (XS 1 9) := zsw_o (k := 9) (ft := xf_9 1) (ft' := xf_9 2) rfl (zft_of (N := 7) (by decide +kernel) (fun j hj => by
  obtain ⟨i, rfl⟩ : ∃ i, j = i + 7 := ⟨j - 7, by omega⟩
  exact ⟨rfl, rfl⟩))
theorem zsw_10 : zE G a g L 10 (XG 2 2 1 2 10) = zE G (fun k => a (sg k)) (fun k => g (sg k)) (fun k => L (sg k)) 10 (XS 1 10) := zsw_o (k := 10) (ft := xf_10 1) (ft' := xf_10 2) rfl (zft_of (N := 9) (by decide +kernel) (fun j hj => by
  obtain ⟨i, rfl⟩ : ∃ i, j = i + 9 := ⟨j - 9, by omega⟩
  exact ⟨rfl, rfl⟩))
theorem zsw_11 : zE G a g L 11 (XG 2 2 1 2 11) = zE G (fun k => a (sg k)) (fun k => g (sg k)) (fun k => L (sg k)) 11 (XS 1 11) := zsw_o (k := 11) (ft := xf_11 1) (ft' := xf_11 2) rfl (zft_of (N := 7) (by decide +kernel) (fun j hj => by
  obtain ⟨i, rfl⟩ : ∃ i, j = i + 7 := ⟨j - 7, by omega⟩
  exact ⟨rfl, rfl⟩))
theorem zsw_12 : zE G a g L 12 (XG 2 2 1 2 12) = zE G (fun k => a (sg k)) (fun k => g (sg k)) (fun k => L (sg k)) 12 (XS 1 12) := zsw_o (k := 12) (ft := xf_12 1) (ft' := xf_12 2) rfl (zft_of (N := 6) (by decide +kernel) (fun j hj => by
  obtain ⟨i, rfl⟩ : ∃ i, j = i + 6 := ⟨j - 6, by omega⟩
  exact ⟨rfl, rfl⟩))
theorem zsw_13 : zE G a g L 13 (XG 2 2 1 2 13) = zE G (fun k => a (sg k)) (fun k => g (sg k)) (fun k => L (sg k)) 13 (XS 1 13) := zsw_o (k := 13) (ft := xf_13 1) (ft' := xf_13 2) rfl (zft_of (N := 3) (by decide +kernel) (fun j hj => by
  obtain ⟨i, rfl⟩ : ∃ i, j = i + 3 := ⟨j - 3, by omega⟩
  exact ⟨rfl, rfl⟩))
theorem zsw_14 : zE G a g L 14 (XG 2 2 1 2 14) = zE G (fun k => a (sg k)) (fun k => g (sg k)) (fun k => L (sg k)) 14 (XS 1 14) := rfl
theorem zsw_15 : zE G a g L 15 (XG 2 2 1 2 15) = zE G (fun k => a (sg k)) (fun k => g (sg k)) (fun k => L (sg k)) 15 (XS 1 15) := rfl
theorem zsw_16 : zE G a g L 16 (XG 2 2 1 2 16) = zE G (fun k => a (sg k)) (fun k => g (sg k)) (fun k => L (sg k)) 16 (XS 1 16) := rfl
theorem zsw_17 : zE G a g L 18 (XG 2 2 1 2 18) = zE G (fun k => a (sg k)) (fun k => g (sg k)) (fun k => L (sg k)) 17 (XS 1 17) := by
  show (Sum.inl (G.2.2.2.1, 12, .inr (.inr (.inr (.inr (fun i => some (a (69 + i % 12))))))) : va_E) = .inl (G.2.2.2.1, 12, .inr (.inr (.inr (.inr (fun i => some (a (sg (57 + i % 12))))))))
  congr 7
  funext i
  have := Nat.mod_lt i (show 12 > 0 by decide)
  rw [sg_les1 (by omega) (by omega)]
  congr 2
  omega
theorem zsw_18 : zE G a g L 17 (XG 2 2 1 2 17) = zE G (fun k => a (sg k)) (fun k => g (sg k)) (fun k => L (sg k)) 18 (XS 1 18) := by
  show (Sum.inl (G.2.2.2.1, 12, .inr (.inr (.inr (.inr (fun i => some (a (57 + i % 12))))))) : va_E) = .inl (G.2.2.2.1, 12, .inr (.inr (.inr (.inr (fun i => some (a (sg (69 + i % 12))))))))
  congr 7
  funext i
  have := Nat.mod_lt i (show 12 > 0 by decide)
  rw [sg_les2 (by omega) (by omega)]
  congr 2
  omega
theorem zsw_19 : zE G a g L 22 (XG 2 2 1 2 22) = zE G (fun k => a (sg k)) (fun k => g (sg k)) (fun k => L (sg k)) 19 (XS 1 19) := rfl
theorem zsw_20 : zE G a g L 23 (XG 2 2 1 2 23) = zE G (fun k => a (sg k)) (fun k => g (sg k)) (fun k => L (sg k)) 20 (XS 1 20) := rfl
theorem zsw_21 : zE G a g L 24 (XG 2 2 1 2 24) = zE G (fun k => a (sg k)) (fun k => g (sg k)) (fun k => L (sg k)) 21 (XS 1 21) := rfl
theorem zsw_22 : zE G a g L 19 (XG 2 2 1 2 19) = zE G (fun k => a (sg k)) (fun k => g (sg k)) (fun k => L (sg k)) 22 (XS 1 22) := rfl
theorem zsw_23 : zE G a g L 20 (XG 2 2 1 2 20) = zE G (fun k => a (sg k)) (fun k => g (sg k)) (fun k => L (sg k)) 23 (XS 1 23) := rfl
theorem zsw_24 : zE G a g L 21 (XG 2 2 1 2 21) = zE G (fun k => a (sg k)) (fun k => g (sg k)) (fun k => L (sg k)) 24 (XS 1 24) := rfl
theorem zsw_25 : zE G a g L 25 (XG 2 2 1 2 25) = zE G (fun k => a (sg k)) (fun k => g (sg k)) (fun k => L (sg k)) 25 (XS 1 25) := rfl
theorem zsw_26 : zE G a g L 26 (XG 2 2 1 2 26) = zE G (fun k => a (sg k)) (fun k => g (sg k)) (fun k => L (sg k)) 26 (XS 1 26) := rfl
theorem zsw_27 : zE G a g L 27 (XG 2 2 1 2 27) = zE G (fun k => a (sg k)) (fun k => g (sg k)) (fun k => L (sg k)) 27 (XS 1 27) := rfl
theorem zsw_28 : zE G a g L 28 (XG 2 2 1 2 28) = zE G (fun k => a (sg k)) (fun k => g (sg k)) (fun k => L (sg k)) 28 (XS 1 28) := rfl
theorem zsw_29 : zE G a g L 29 (XG 2 2 1 2 29) = zE G (fun k => a (sg k)) (fun k => g (sg k)) (fun k => L (sg k)) 29 (XS 1 29) := rfl
theorem zsw_30 : zE G a g L 30 (XG 2 2 1 2 30) = zE G (fun k => a (sg k)) (fun k => g (sg k)) (fun k => L (sg k)) 30 (XS 1 30) := rfl
theorem zsw_31 : zE G a g L 31 (XG 2 2 1 2 31) = zE G (fun k => a (sg k)) (fun k => g (sg k)) (fun k => L (sg k)) 31 (XS 1 31) := rfl
theorem zsw_32 : zE G a g L 32 (XG 2 2 1 2 32) = zE G (fun k => a (sg k)) (fun k => g (sg k)) (fun k => L (sg k)) 32 (XS 1 32) := rfl
theorem zsw_33 : zE G a g L 33 (XG 2 2 1 2 33) = zE G (fun k => a (sg k)) (fun k => g (sg k)) (fun k => L (sg k)) 33 (XS 1 33) := rfl
theorem zsw_34 : zE G a g L 34 (XG 2 2 1 2 34) = zE G (fun k => a (sg k)) (fun k => g (sg k)) (fun k => L (sg k)) 34 (XS 1 34) := rfl
theorem zsw_35 : zE G a g L 35 (XG 2 2 1 2 35) = zE G (fun k => a (sg k)) (fun k => g (sg k)) (fun k => L (sg k)) 35 (XS 1 35) := rfl
theorem zsw_36 : zE G a g L 36 (XG 2 2 1 2 36) = zE G (fun k => a (sg k)) (fun k => g (sg k)) (fun k => L (sg k)) 36 (XS 1 36) := rfl
theorem zsw_37 : zE G a g L 37 (XG 2 2 1 2 37) = zE G (fun k => a (sg k)) (fun k => g (sg k)) (fun k => L (sg k)) 37 (XS 1 37) := rfl
theorem zsw_38 : zE G a g L 38 (XG 2 2 1 2 38) = zE G (fun k => a (sg k)) (fun k => g (sg k)) (fun k => L (sg k)) 38 (XS 1 38) := rfl
theorem zsw_39 : zE G a g L 39 (XG 2 2 1 2 39) = zE G (fun k => a (sg k)) (fun k => g (sg k)) (fun k => L (sg k)) 39 (XS 1 39) := rfl
theorem zsw_40 : zE G a g L 40 (XG 2 2 1 2 40) = zE G (fun k => a (sg k)) (fun k => g (sg k)) (fun k => L (sg k)) 40 (XS 1 40) := rfl
theorem zsw_41 : zE G a g L 41 (XG 2 2 1 2 41) = zE G (fun k => a (sg k)) (fun k => g (sg k)) (fun k => L (sg k)) 41 (XS 1 41) := rfl
theorem zsw_42 : zE G a g L 42 (XG 2 2 1 2 42) = zE G (fun k => a (sg k)) (fun k => g (sg k)) (fun k => L (sg k)) 42 (XS 1 42) := rfl
theorem zsw_43 : zE G a g L 43 (XG 2 2 1 2 43) = zE G (fun k => a (sg k)) (fun k => g (sg k)) (fun k => L (sg k)) 43 (XS 1 43) := rfl
theorem zsw_44 : zE G a g L 44 (XG 2 2 1 2 44) = zE G (fun k => a (sg k)) (fun k => g (sg k)) (fun k => L (sg k)) 44 (XS 1 44) := rfl
theorem zsw_45 : zE G a g L 45 (XG 2 2 1 2 45) = zE G (fun k => a (sg k)) (fun k => g (sg k)) (fun k => L (sg k)) 45 (XS 1 45) := rfl
theorem zsw_46 : zE G a g L 46 (XG 2 2 1 2 46) = zE G (fun k => a (sg k)) (fun k => g (sg k)) (fun k => L (sg k)) 46 (XS 1 46) := rfl
theorem zsw_47 : zE G a g L 47 (XG 2 2 1 2 47) = zE G (fun k => a (sg k)) (fun k => g (sg k)) (fun k => L (sg k)) 47 (XS 1 47) := rfl
theorem zsw_48 : zE G a g L 48 (XG 2 2 1 2 48) = zE G (fun k => a (sg k)) (fun k => g (sg k)) (fun k => L (sg k)) 48 (XS 1 48) := rfl
theorem zsw_49 : zE G a g L 49 (XG 2 2 1 2 49) = zE G (fun k => a (sg k)) (fun k => g (sg k)) (fun k => L (sg k)) 49 (XS 1 49) := rfl
theorem zsw_50 : zE G a g L 50 (XG 2 2 1 2 50) = zE G (fun k => a (sg k)) (fun k => g (sg k)) (fun k => L (sg k)) 50 (XS 1 50) := rfl
theorem zsw_51 : zE G a g L 51 (XG 2 2 1 2 51) = zE G (fun k => a (sg k)) (fun k => g (sg k)) (fun k => L (sg k)) 51 (XS 1 51) := rfl
theorem zsw_52 : zE G a g L 52 (XG 2 2 1 2 52) = zE G (fun k => a (sg k)) (fun k => g (sg k)) (fun k => L (sg k)) 52 (XS 1 52) := rfl
theorem zsw_53 : zE G a g L 53 (XG 2 2 1 2 53) = zE G (fun k => a (sg k)) (fun k => g (sg k)) (fun k => L (sg k)) 53 (XS 1 53) := rfl
theorem zsw_54 : zE G a g L 54 (XG 2 2 1 2 54) = zE G (fun k => a (sg k)) (fun k => g (sg k)) (fun k => L (sg k)) 54 (XS 1 54) := rfl
theorem zsw_55 : zE G a g L 55 (XG 2 2 1 2 55) = zE G (fun k => a (sg k)) (fun k => g (sg k)) (fun k => L (sg k)) 55 (XS 1 55) := rfl
theorem zsw_56 : zE G a g L 56 (XG 2 2 1 2 56) = zE G (fun k => a (sg k)) (fun k => g (sg k)) (fun k => L (sg k)) 56 (XS 1 56) := rfl
theorem zsw_les {k : Nat} (h1 : 57 ≤ k) (h2 : k < 81) : zE G a g L (sg k) (XG 2 2 1 2 (sg k)) = zE G (fun k => a (sg k)) (fun k => g (sg k)) (fun k => L (sg k)) k (XS 1 k) := by
  have e1 : 57 ≤ sg k ∧ sg k < 81 ∧ sg (k + 24) = sg k + 24 := by
    by_cases h : k < 69
    · rw [sg_les1 h1 h, sg_wai1 (by omega) (by omega)]; omega
    · rw [sg_les2 (by omega) h2, sg_wai2 (by omega) (by omega)]; omega
  rw [xg_57 e1.1, xs_les e1.1 e1.2.1, xs_les h1 h2]
  refine zsw_o rfl (fun j => ?_)
  cases j with
  | zero => exact Or.inr (Or.inr ⟨k + 24, rfl, sg k + 24, rfl, e1.2.2.symm⟩)
  | succ j => exact Or.inl ⟨rfl, rfl⟩
theorem zsw_wai {k : Nat} (h1 : 81 ≤ k) (h2 : k < 105) : zE G a g L (sg k) (XG 2 2 1 2 (sg k)) = zE G (fun k => a (sg k)) (fun k => g (sg k)) (fun k => L (sg k)) k (XS 1 k) := by
  have e1 : 81 ≤ sg k := by
    by_cases h : k < 93
    · rw [sg_wai1 h1 h]; omega
    · rw [sg_wai2 (by omega) h2]; omega
  rw [xg_57 (by omega), xs_wai e1, xs_wai h1]
  rfl
theorem zsw_all : ∀ k, k < 105 → zE G a g L (sg k) (XG 2 2 1 2 (sg k)) = zE G (fun k => a (sg k)) (fun k => g (sg k)) (fun k => L (sg k)) k (XS 1 k) := by
  intro k hk
  by_cases h : k < 57
  · exact match k, h with
    | 0, _ => zsw_0
    | 1, _ => zsw_1
    | 2, _ => zsw_2
    | 3, _ => zsw_3
    | 4, _ => zsw_4
    | 5, _ => zsw_5
    | 6, _ => zsw_6
    | 7, _ => zsw_7
    | 8, _ => zsw_8
    | 9, _ => zsw_9
    | 10, _ => zsw_10
    | 11, _ => zsw_11
    | 12, _ => zsw_12
    | 13, _ => zsw_13
    | 14, _ => zsw_14
    | 15, _ => zsw_15
    | 16, _ => zsw_16
    | 17, _ => zsw_17
    | 18, _ => zsw_18
    | 19, _ => zsw_19
    | 20, _ => zsw_20
    | 21, _ => zsw_21
    | 22, _ => zsw_22
    | 23, _ => zsw_23
    | 24, _ => zsw_24
    | 25, _ => zsw_25
    | 26, _ => zsw_26
    | 27, _ => zsw_27
    | 28, _ => zsw_28
    | 29, _ => zsw_29
    | 30, _ => zsw_30
    | 31, _ => zsw_31
    | 32, _ => zsw_32
    | 33, _ => zsw_33
    | 34, _ => zsw_34
    | 35, _ => zsw_35
    | 36, _ => zsw_36
    | 37, _ => zsw_37
    | 38, _ => zsw_38
    | 39, _ => zsw_39
    | 40, _ => zsw_40
    | 41, _ => zsw_41
    | 42, _ => zsw_42
    | 43, _ => zsw_43
    | 44, _ => zsw_44
    | 45, _ => zsw_45
    | 46, _ => zsw_46
    | 47, _ => zsw_47
    | 48, _ => zsw_48
    | 49, _ => zsw_49
    | 50, _ => zsw_50
    | 51, _ => zsw_51
    | 52, _ => zsw_52
    | 53, _ => zsw_53
    | 54, _ => zsw_54
    | 55, _ => zsw_55
    | 56, _ => zsw_56
    | k + 57, h => absurd h (by omega)
  · by_cases h2 : k < 81
    · exact zsw_les (by omega) h2
    · exact zsw_wai (by omega) hk
theorem zsw_list : ((List.range 105).map sg).map (fun i => (zw G (XG 2 2 1 2) 105 a g L)[i]?) = (zw G (XS 1) 105 (fun k => a (sg k)) (fun k => g (sg k)) (fun k => L (sg k))).map some := by
  unfold zw
  rw [List.map_map, List.map_map]
  apply List.map_congr_left
  intro k hk
  have hk := List.mem_range.mp hk
  show ((List.range 105).map (fun k => (a k, zE G a g L k (XG 2 2 1 2 k))))[sg k]? = some (a (sg k), zE G (fun k => a (sg k)) (fun k => g (sg k)) (fun k => L (sg k)) k (XS 1 k))
  rw [← zsw_all k hk]
  simp [sg_lt hk]
theorem zsw_nd : va_nd ((List.range 105).map sg) = true := by decide +kernel
theorem zsw_P {H : Heap} (h : va_P G.1 vwCl (zw G (XG 2 2 1 2) 105 a g L) H) : va_P G.1 vwCl (zw G (XS 1) 105 (fun k => a (sg k)) (fun k => g (sg k)) (fun k => L (sg k))) H := h.sub _ (k_fm zsw_list)
theorem zsw_D {A : Nat → Prop} (h : va_D A (zw G (XG 2 2 1 2) 105 a g L)) : va_D A (zw G (XS 1) 105 (fun k => a (sg k)) (fun k => g (sg k)) (fun k => L (sg k))) := h.sub _ zsw_nd zsw_list
end ZSW2
section XPR
variable {p : Program} {l : Launch} {e : Env} {R : Room} {s : State} {m : MethodId} {args : Array Value} {below : List Frame} {meth : Method} {c : Code} {H : Heap} {locs : List Loc} {cells slots : Nat} {Q : State → Prop} {cc : ByteArray} {nL pc : Nat} {ls : Array Slot} {rest : List Value} {G : kG} {own : String} {A : Nat → Prop} {a : Nat → Nat} {g : Nat → Nat → Int32} {L : Nat → Nat → Int64} {Z Z' : Nat → zSh} {n : Nat}
theorem x_putr {index ci N k j t : Nat} {ft ft' : Nat → Option (Option Nat)} {ty : FieldType} {O : String} (hZ : Z k = .inl (ci, N, ft)) (hZ' : Z' k = .inl (ci, N, ft')) (hne : ∀ k', k' ≠ k → Z' k' = Z k') (hf : ft' j = some (some t)) (hfn : ∀ j', j' ≠ j → ft' j' = ft j') (hk : k < n) (Lk : kFG own index ci N j) (FT : kFT ci j ty false O) (C : kC G p s m c cc nL own A) (hP : va_P G.1 vwCl (zw G Z n a g L) H) (hD : va_D A (zw G Z n a g L)) (hS : va_S A s.heap H locs) (hn : narrow ty (.ref (a t)) = .ref (a t)) (hfit : fits ty (.ref (a t)) = true) (hdg : decode cc pc = .ok (.putfield index, 3)) (kk : ∀ (H1 : Heap) (locs1 : List Loc), va_P G.1 vwCl (zw G Z' n a g L) H1 → va_D A (zw G Z' n a g L) → va_S A s.heap H1 locs1 → W p l e R s m args below meth c H1 locs1 cells slots Q (F0 m (pc + 3) ls rest)) : W p l e R s m args below meth c H locs cells slots Q (F0 m pc ls (.ref (a t) :: .ref (a k) :: rest)) := by
  have hz : (zw G Z n a g L).set k (a k, .inr (ci, ofL N (updV (zF a g L k ft) j (.ref (a t))))) = zw G Z' n a g L := zset_r hZ hZ' hne hf hfn
  rcases Lk with h | h
  · refine k_put h FT C hP hD hS k (zat hk hZ) hn hfit hdg (fun H1 locs1 h1 h2 h3 => ?_)
    rw [hz] at h1 h2
    exact kk H1 locs1 h1 h2 h3
  · refine k_putN h FT C hP hD hS k (zat hk hZ) hn hfit hdg (fun H1 locs1 h1 h2 h3 => ?_)
    rw [hz] at h1 h2
    exact kk H1 locs1 h1 h2 h3
end XPR
