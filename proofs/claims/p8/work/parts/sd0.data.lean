/-! ===== the data, side by side ===== -/
/-- a code that runs from height h to height h', never above 64 -/
def rp : List Int → Nat → Nat → Prop
  | [], h, h' => h = h'
  | x :: c, h, h' => (-15 ≤ x ∧ -6 ≤ x ∧ h < 64 ∧ rp c (h + 1) h') ∨ (x = -15 ∧ 1 ≤ h ∧ rp c h h') ∨ ((-14 ≤ x ∧ x ≤ -7) ∧ 2 ≤ h ∧ rp c (h - 1) h')
theorem rp_ap : ∀ {c d : List Int} {h h' h'' : Nat}, rp c h h' → rp d h' h'' → rp (c ++ d) h h'' := by
  intro c
  induction c with
  | nil => intro d h h' h'' h1 h2; have h1 : h = h' := h1; rw [h1]; exact h2
  | cons x c ih =>
    intro d h h' h'' h1 h2
    rcases h1 with ⟨a, b, c1, e⟩ | ⟨a, b, e⟩ | ⟨a, b, e⟩
    · exact Or.inl ⟨a, b, c1, ih e h2⟩
    · exact Or.inr (Or.inl ⟨a, b, ih e h2⟩)
    · exact Or.inr (Or.inr ⟨a, b, ih e h2⟩)
theorem rp_op {h : Nat} {x : Int} (h1 : -14 ≤ x) (h2 : x ≤ -7) : rp [x] (h + 2) (h + 1) := Or.inr (Or.inr ⟨⟨h1, h2⟩, by omega, rfl⟩)
theorem tV_ge {b : Nat → Int32} {n P : Nat} : 0 ≤ tV b n P := by
  unfold tV
  by_cases hk : tK b n P = 1
  · rw [if_pos hk]
    refine (vl_b (fun i hi => ?_)).1
    have := tE_all (b := b) (n := n) (Or.inl hk) (show P ≤ P + i by omega) (by omega)
    rw [hk] at this
    revert this
    generalize (b (P + i)).toInt = c
    unfold kd
    intro this
    split at this
    · exact absurd this (by decide)
    · split at this
      · assumption
      · split at this
        · exact absurd this (by decide)
        · exact absurd this (by decide)
  · rw [if_neg hk]; decide
/-- what is read is a code that leaves one value -/
theorem xs_rp {b : Nat → Int32} {n : Nat} : ∀ (f lev d : Nat) (acc : List Int) (P : Nat) (c : List Int) (Q : Nat), xs b n f lev d acc P = .ok (c, Q) → d ≤ 5 → ∀ h : Nat,
    (lev = 0 → h + 5 * (5 - d) + 1 ≤ 64 → rp c h (h + 1)) ∧ (lev = 1 → h + 5 * (5 - d) + 2 ≤ 64 → rp c h (h + 1)) ∧ (lev = 2 → h + 5 * (5 - d) + 3 ≤ 64 → rp c h (h + 1)) ∧ (lev = 3 → h + 5 * (5 - d) + 4 ≤ 64 → rp c h (h + 1)) ∧ (lev = 4 → h + 5 * (5 - d) + 4 ≤ 64 → (∀ x ∈ acc, x = -15) → rp c h (h + 1)) ∧ (lev = 5 → h + 5 * (5 - d) + 5 ≤ 64 → rp c h (h + 1)) ∧ (lev = 6 → h + 5 * (5 - d) + 6 ≤ 64 → rp c h (h + 1)) ∧ (lev = 7 → h + 5 * (5 - d) + 2 ≤ 64 → rp acc h (h + 1) → rp c h (h + 1)) ∧ (lev = 8 → h + 5 * (5 - d) + 3 ≤ 64 → rp acc h (h + 1) → rp c h (h + 1)) ∧ (lev = 10 → h + 5 * (5 - d) + 5 ≤ 64 → rp acc h (h + 1) → rp c h (h + 1)) ∧ (lev = 11 → h + 5 * (5 - d) + 6 ≤ 64 → rp acc h (h + 1) → rp c h (h + 1)) := by
  intro f
  induction f with
  | zero => intro lev d acc P c Q h; exact nomatch h
  | succ f ih =>
    intro lev d acc P c Q hx hd h
    have opm : ∀ {a c1 : List Int} {o : Int}, -14 ≤ o → o ≤ -7 → rp a h (h + 1) → rp c1 (h + 1) (h + 2) → rp (a ++ c1 ++ [o]) h (h + 1) := fun h1 h2 ha hc => rp_ap (rp_ap ha hc) (rp_op h1 h2)
    refine ⟨?_, ?_, ?_, ?_, ?_, ?_, ?_, ?_, ?_, ?_, ?_⟩
    · rintro rfl hh
      rw [xe_0] at hx
      split at hx
      · split at hx
        · cases hx
          have := tV_ge (b := b) (n := n) (P := P)
          exact Or.inl ⟨by omega, by omega, by omega, rfl⟩
        · exact nomatch hx
      · split at hx
        · split at hx
          · cases hx
            exact Or.inl ⟨by omega, by omega, by omega, rfl⟩
          · exact nomatch hx
        · split at hx
          · obtain ⟨c1, Q1, e1, e2⟩ := eb_inv hx
            split at e2
            · cases e2
              by_cases h4 : d ≤ 4
              · exact (ih 6 (d + 1) [] _ _ _ e1 (by omega) h).2.2.2.2.2.2.1 rfl (by omega)
              · obtain ⟨f, rfl⟩ : ∃ f', f = f' + 1 := by
                  cases f with
                  | zero => exact nomatch e1
                  | succ f => exact ⟨f, rfl⟩
                rw [xe_6, if_neg (by omega)] at e1
                exact nomatch e1
            · exact nomatch e2
          · exact nomatch hx
    · rintro rfl hh
      rw [xe_1] at hx
      obtain ⟨c1, Q1, e1, e2⟩ := eb_inv hx
      exact (ih 7 d c1 Q1 c Q e2 hd h).2.2.2.2.2.2.2.1 rfl hh ((ih 0 d [] P c1 Q1 e1 hd h).1 rfl (by omega))
    · rintro rfl hh
      rw [xe_2] at hx
      obtain ⟨c1, Q1, e1, e2⟩ := eb_inv hx
      exact (ih 8 d c1 Q1 c Q e2 hd h).2.2.2.2.2.2.2.2.1 rfl hh ((ih 1 d [] P c1 Q1 e1 hd h).2.1 rfl (by omega))
    · rintro rfl hh
      rw [xe_3] at hx
      obtain ⟨c1, Q1, e1, e2⟩ := eb_inv hx
      have r1 := (ih 2 d [] P c1 Q1 e1 hd h).2.2.1 rfl (by omega)
      split at e2
      · obtain ⟨c2, Q2, e3, e4⟩ := eb_inv e2
        cases e4
        exact opm (by decide) (by decide) r1 ((ih 2 d [] _ c2 Q e3 hd (h + 1)).2.2.1 rfl (by omega))
      · split at e2
        · obtain ⟨c2, Q2, e3, e4⟩ := eb_inv e2
          cases e4
          exact opm (by decide) (by decide) r1 ((ih 2 d [] _ c2 Q e3 hd (h + 1)).2.2.1 rfl (by omega))
        · cases e2; exact r1
    · rintro rfl hh hacc
      rw [xe_4] at hx
      split at hx
      · split at hx
        · exact (ih 4 d _ _ c Q hx hd h).2.2.2.2.1 rfl hh (fun x hx => by rcases List.mem_cons.mp hx with e | e; exact e; exact hacc x e)
        · exact nomatch hx
      · obtain ⟨c1, Q1, e1, e2⟩ := eb_inv hx
        cases e2
        refine rp_ap ((ih 3 d [] P c1 Q e1 hd h).2.2.2.1 rfl hh) ?_
        clear ih opm hx e1
        induction acc with
        | nil => rfl
        | cons x acc ia => exact Or.inr (Or.inl ⟨hacc x List.mem_cons_self, by omega, ia (fun y hy => hacc y (List.mem_cons_of_mem _ hy))⟩)
    · rintro rfl hh
      rw [xe_5] at hx
      obtain ⟨c1, Q1, e1, e2⟩ := eb_inv hx
      exact (ih 10 d c1 Q1 c Q e2 hd h).2.2.2.2.2.2.2.2.2.1 rfl hh ((ih 4 d [] P c1 Q1 e1 hd h).2.2.2.2.1 rfl (by omega) (fun x hx => absurd hx (List.not_mem_nil)))
    · rintro rfl hh
      rw [xe_6, if_pos hd] at hx
      obtain ⟨c1, Q1, e1, e2⟩ := eb_inv hx
      exact (ih 11 d c1 Q1 c Q e2 hd h).2.2.2.2.2.2.2.2.2.2 rfl hh ((ih 5 d [] P c1 Q1 e1 hd h).2.2.2.2.2.1 rfl (by omega))
    · rintro rfl hh ha
      rw [xe_7] at hx
      split at hx
      · obtain ⟨c1, Q1, e1, e2⟩ := eb_inv hx
        exact (ih 7 d _ Q1 c Q e2 hd h).2.2.2.2.2.2.2.1 rfl hh (opm (by decide) (by decide) ha ((ih 0 d [] _ c1 Q1 e1 hd (h + 1)).1 rfl (by omega)))
      · split at hx
        · obtain ⟨c1, Q1, e1, e2⟩ := eb_inv hx
          exact (ih 7 d _ Q1 c Q e2 hd h).2.2.2.2.2.2.2.1 rfl hh (opm (by decide) (by decide) ha ((ih 0 d [] _ c1 Q1 e1 hd (h + 1)).1 rfl (by omega)))
        · cases hx; exact ha
    · rintro rfl hh ha
      rw [xe_8] at hx
      split at hx
      · obtain ⟨c1, Q1, e1, e2⟩ := eb_inv hx
        exact (ih 8 d _ Q1 c Q e2 hd h).2.2.2.2.2.2.2.2.1 rfl hh (opm (by decide) (by decide) ha ((ih 1 d [] _ c1 Q1 e1 hd (h + 1)).2.1 rfl (by omega)))
      · split at hx
        · obtain ⟨c1, Q1, e1, e2⟩ := eb_inv hx
          exact (ih 8 d _ Q1 c Q e2 hd h).2.2.2.2.2.2.2.2.1 rfl hh (opm (by decide) (by decide) ha ((ih 1 d [] _ c1 Q1 e1 hd (h + 1)).2.1 rfl (by omega)))
        · cases hx; exact ha
    · rintro rfl hh ha
      rw [xe_10] at hx
      split at hx
      · obtain ⟨c1, Q1, e1, e2⟩ := eb_inv hx
        exact (ih 10 d _ Q1 c Q e2 hd h).2.2.2.2.2.2.2.2.2.1 rfl hh (opm (by decide) (by decide) ha ((ih 4 d [] _ c1 Q1 e1 hd (h + 1)).2.2.2.2.1 rfl (by omega) (fun x hx => absurd hx (List.not_mem_nil))))
      · cases hx; exact ha
    · rintro rfl hh ha
      rw [xe_11] at hx
      split at hx
      · obtain ⟨c1, Q1, e1, e2⟩ := eb_inv hx
        exact (ih 11 d _ Q1 c Q e2 hd h).2.2.2.2.2.2.2.2.2.2 rfl hh (opm (by decide) (by decide) ha ((ih 5 d [] _ c1 Q1 e1 hd (h + 1)).2.2.2.2.2.1 rfl (by omega)))
      · cases hx; exact ha
