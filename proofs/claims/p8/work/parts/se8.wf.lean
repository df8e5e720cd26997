/-! ===== who waits: what a text tells ===== -/
theorem waS_w {b : Nat → Int32} {n : Nat} {l s : Int} : ∀ {f : Nat} {acc : List Int} {P R : Nat}, waS b n l s f acc P = .ok R → (∀ x ∈ acc, 0 ≤ x ∧ x < l) → 1 ≤ (waL b n f acc P).1.length ∧ s ≤ ((waL b n f acc P).1.length : Int) ∧ ∀ x ∈ (waL b n f acc P).1, 0 ≤ x ∧ x < l := by
  intro f
  induction f with
  | zero => intro acc P R h; exact nomatch h
  | succ f ih =>
    intro acc P R h ha
    unfold waS at h
    unfold waL
    by_cases k : tK b n P = 1
    · rw [if_pos k] at h ⊢
      split at h
      · split at h
        · rename_i hl
          split at h
          · exact nomatch h
          · refine ih h (fun x hx => ?_)
            rcases List.mem_append.mp hx with hx | hx
            · exact ha x hx
            · rw [List.mem_singleton.mp hx]
              exact ⟨tV_ge, hl⟩
        · exact nomatch h
      · exact nomatch h
    · rw [if_neg k] at h ⊢
      split at h
      · exact nomatch h
      · split at h
        · exact nomatch h
        · rename_i h1 h2
          exact ⟨by show 1 ≤ acc.length; omega, by show s ≤ (acc.length : Int); omega, ha⟩
/-- of a lesson that was read -/
theorem leS_w {b : Nat → Int32} {n P R : Nat} {l : Int} (h : leS b n l P = .ok R) : (leV b n P 9 = 2 → (leA b n P).length = 0) ∧ (leV b n P 9 ≠ 2 → 1 ≤ (leA b n P).length ∧ (leV b n P 9 = 0 ∨ (leV b n P 9 = 1 ∧ 1 ≤ leV b n P 10 ∧ leV b n P 10 ≤ ((leA b n P).length : Int)))) ∧ (∀ x ∈ leA b n P, 0 ≤ x ∧ x < l) := by
  unfold leS at h
  obtain ⟨P1, e1, h⟩ := bn_inv h
  obtain ⟨P2, e2, h⟩ := bn_inv h
  obtain ⟨P3, e3, h⟩ := bn_inv h
  obtain ⟨P4, e4, h⟩ := bn_inv h
  obtain ⟨P5, e5, h⟩ := bn_inv h
  obtain ⟨P6, e6, h⟩ := bn_inv h
  have q : P6 = nxI b n 7 P := by
    rw [(nuS_ok e6).2, (nuS_ok e5).2, (nuS_ok e4).2, (nuS_ok e3).2, (nuS_ok e2).2, (nuS_ok e1).2]; rfl
  rw [q] at h
  clear e1 e2 e3 e4 e5 e6 q
  have l9 : leV b n P 9 = if wB b n (nxI b n 7 P) 6 then 0 else if wB b n (nxI b n 7 P) 7 then 1 else 2 := rfl
  have l10 : leV b n P 10 = if wB b n (nxI b n 7 P) 6 then 0 else if wB b n (nxI b n 7 P) 7 then tV b n (nx b n (nxI b n 7 P)) else 0 := rfl
  have la : leA b n P = (leL b n (nxI b n 7 P)).1 := rfl
  rw [l9, l10, la]
  generalize nxI b n 7 P = Q at *
  unfold leL
  unfold tlS at h
  by_cases w6 : wB b n Q 6
  · rw [if_pos w6] at h ⊢
    rw [if_pos w6, if_pos w6]
    obtain ⟨R1, e, -⟩ := bn_inv h
    have a := waS_w e (fun x hx => absurd hx List.not_mem_nil)
    exact ⟨fun h => absurd h (by decide), fun _ => ⟨a.1, Or.inl rfl⟩, a.2.2⟩
  · rw [if_neg w6] at h ⊢
    rw [if_neg w6, if_neg w6]
    by_cases w7 : wB b n Q 7
    · rw [if_pos w7] at h ⊢
      rw [if_pos w7, if_pos w7]
      obtain ⟨R1, e1, h⟩ := bn_inv h
      obtain ⟨R2, e2, -⟩ := bn_inv h
      obtain ⟨c, e1⟩ := nuS_ok e1
      rw [e1] at e2
      have a := waS_w e2 (fun x hx => absurd hx List.not_mem_nil)
      exact ⟨fun h => absurd h (by decide), fun _ => ⟨a.1, Or.inr ⟨rfl, c.2.2.1, a.2.1⟩⟩, a.2.2⟩
    · rw [if_neg w7] at h ⊢
      rw [if_neg w7, if_neg w7]
      exact ⟨fun _ => rfl, fun h => absurd rfl h, fun x hx => absurd hx List.not_mem_nil⟩
/-- the lessons that stand were read -/
theorem ho_les {b : Nat → Int32} {n : Nat} : ∀ (f : Nat) (t : tS) (D : dT) (P : Nat) (t' : tS), hoS b n f t P = .ok t' → (∀ i, i < t.1 → ∃ R, leS b n (i : Int) (D.1 i) = .ok R) → ∀ i, i < t'.1 → ∃ R, leS b n (i : Int) ((hoD b n f t D P).1 i) = .ok R := by
  intro f
  induction f with
  | zero => intro t D P t' h; exact nomatch h
  | succ f ih =>
    intro t D P t' h hD
    unfold hoS at h
    unfold hoD
    by_cases k0 : tK b n P = 0
    · rw [if_pos k0] at h ⊢
      cases h; exact hD
    rw [if_neg k0] at h ⊢
    cases hli : liS b n t P with
    | error p => rw [hli] at h; exact nomatch h
    | ok q =>
      rw [hli] at h
      have h : hoS b n f q.1 q.2 = .ok t' := h
      show ∀ i, i < t'.1 → ∃ R, leS b n (i : Int) ((hoD b n f q.1 (liD b n t D P) q.2).1 i) = .ok R
      refine ih q.1 (liD b n t D P) q.2 t' h ?_
      have fn : ∀ {r : sR} {t1 : tS}, fnS b n r t1 = .ok q → q.1 = t1 ∧ ∃ Q, r = .ok Q := by
        intro r t1 e
        unfold fnS at e
        cases hr : r with
        | error p => rw [hr] at e; exact nomatch e
        | ok Q =>
          refine ⟨?_, Q, rfl⟩
          rw [hr] at e
          split at e
          · exact nomatch e
          · cases e; rfl
      unfold liS at hli
      unfold liD
      split at hli
      · rename_i w
        rw [if_pos w]
        obtain ⟨e1, Q, e2⟩ := fn hli
        rw [e1]
        intro i hi
        have hi : i < t.1 + 1 := hi
        show ∃ R, leS b n (i : Int) (upN D.1 t.1 P i) = .ok R
        by_cases er : i = t.1
        · rw [er, upN_at]
          split at e2
          · exact ⟨Q, e2⟩
          · exact nomatch e2
        · rw [upN_ne er]; exact hD i (by omega)
      · rename_i w5
        rw [if_neg w5]
        split at hli
        · rename_i w
          rw [if_pos w]
          obtain ⟨e1, -⟩ := fn hli
          rw [e1]; exact hD
        · rename_i w11
          rw [if_neg w11]
          split at hli
          · rename_i w
            rw [if_pos w]
            obtain ⟨e1, -⟩ := fn hli
            rw [e1]; exact hD
          · rename_i w12
            rw [if_neg w12]
            split at hli
            · rename_i w
              rw [if_pos w]
              obtain ⟨e1, -⟩ := fn hli
              rw [e1]; exact hD
            · exact nomatch hli
/-- a lesson in the reference, as it was read -/
theorem wf_les {b : Nat → Int32} {n P i R : Nat} {gm : gT} (hM : LM b n P i (fun k => gm (cpk k))) (h : leS b n (i : Int) P = .ok R) : ((gm 5 i).toInt = 2 → (gm 8 i).toInt = 0) ∧ ((gm 5 i).toInt ≠ 2 → 1 ≤ (gm 8 i).toInt ∧ ((gm 5 i).toInt = 0 ∨ ((gm 5 i).toInt = 1 ∧ 1 ≤ (gm 6 i).toInt ∧ (gm 6 i).toInt ≤ (gm 8 i).toInt))) ∧ (∀ k : Nat, (k : Int) < (gm 8 i).toInt → 0 ≤ (gm 9 (6 * i + k)).toInt ∧ (gm 9 (6 * i + k)).toInt < (i : Int)) := by
  obtain ⟨-, -, -, -, -, -, y8, y9, -, -, -, y13, y14⟩ := hM
  replace y8 : (gm 5 i).toInt = leV b n P 9 := y8
  replace y9 : (gm 6 i).toInt = leV b n P 10 := y9
  replace y13 : (gm 8 i).toInt = ((leA b n P).length : Int) := y13
  replace y14 : ∀ j (hj : j < (leA b n P).length), (gm 9 (6 * i + j)).toInt = (leA b n P)[j] := y14
  obtain ⟨a1, a2, a3⟩ := leS_w h
  rw [y8, y9, y13]
  refine ⟨fun h => by rw [a1 h]; rfl, fun h => ?_, fun k hk => ?_⟩
  · obtain ⟨u1, u2⟩ := a2 h
    exact ⟨by omega, u2⟩
  · rw [y14 k (by omega)]
    exact a3 _ (List.getElem_mem _)
