/-! ===== what an expression is: the code that it stands for, and where it ends; or the place of its fault ===== -/
def dS (b : Nat → Int32) (n P : Nat) (c : Int) : Decidable (isS b n P c) := by unfold isS; exact inferInstance
def dW (b : Nat → Int32) (n P k : Nat) : Decidable (isW b n P k) := by unfold isW; exact inferInstance
def sB (b : Nat → Int32) (n P : Nat) (c : Int) : Bool := @decide (isS b n P c) (dS b n P c)
def wB (b : Nat → Int32) (n P k : Nat) : Bool := @decide (isW b n P k) (dW b n P k)
theorem sB_t {b : Nat → Int32} {n P : Nat} {c : Int} (h : isS b n P c) : sB b n P c = true := @decide_eq_true _ (dS b n P c) h
theorem sB_f {b : Nat → Int32} {n P : Nat} {c : Int} (h : ¬ isS b n P c) : sB b n P c = false := @decide_eq_false _ (dS b n P c) h
theorem wB_t {b : Nat → Int32} {n P k : Nat} (h : isW b n P k) : wB b n P k = true := @decide_eq_true _ (dW b n P k) h
theorem wB_f {b : Nat → Int32} {n P k : Nat} (h : ¬ isW b n P k) : wB b n P k = false := @decide_eq_false _ (dW b n P k) h
theorem sB_d (b : Nat → Int32) (n P : Nat) (c : Int) : (isS b n P c ∧ sB b n P c = true) ∨ (¬ isS b n P c ∧ sB b n P c = false) := by
  by_cases h : isS b n P c
  · exact Or.inl ⟨h, sB_t h⟩
  · exact Or.inr ⟨h, sB_f h⟩
theorem wB_d (b : Nat → Int32) (n P k : Nat) : (isW b n P k ∧ wB b n P k = true) ∨ (¬ isW b n P k ∧ wB b n P k = false) := by
  by_cases h : isW b n P k
  · exact Or.inl ⟨h, wB_t h⟩
  · exact Or.inr ⟨h, wB_f h⟩
/-- which value a word is; 6: none -/
def vW (b : Nat → Int32) (n P : Nat) : Nat := if wB b n P 0 then 0 else if wB b n P 1 then 1 else if wB b n P 2 then 2 else if wB b n P 3 then 3 else if wB b n P 4 then 4 else if wB b n P 5 then 5 else 6
abbrev xR : Type := Except Nat (List Int × Nat)
def eb (r : xR) (k : List Int → Nat → xR) : xR := match r with
  | .error p => .error p
  | .ok q => k q.1 q.2
theorem eb_ok {c : List Int} {Q : Nat} {k : List Int → Nat → xR} : eb (.ok (c, Q)) k = k c Q := rfl
theorem eb_er {p : Nat} {k : List Int → Nat → xR} : eb (.error p) k = .error p := rfl
/-- 0 part, 1 product, 2 sum, 3 test, 4 nots, 5 and, 6 expression; 7, 8, 10, 11: more of 1, 2, 5, 6 -/
def xs (b : Nat → Int32) (n : Nat) : Nat → Nat → Nat → List Int → Nat → xR
  | 0, _, _, _, P => .error P
  | f + 1, lev, d, acc, P => match lev with
    | 0 => if tK b n P = 1 then (if tE b n P ≤ P + 4 then .ok ([tV b n P], nx b n P) else .error P)
      else if tK b n P = 2 then (if vW b n P < 6 then .ok ([-1 - (vW b n P : Int)], nx b n P) else .error P)
      else if sB b n P 40 then (if d ≤ 5 then eb (xs b n f 6 (d + 1) [] (nx b n P)) (fun c Q => if sB b n Q 41 then .ok (c, nx b n Q) else .error Q) else .error P)
      else .error P
    | 1 => eb (xs b n f 0 d [] P) (fun c Q => xs b n f 7 d c Q)
    | 2 => eb (xs b n f 1 d [] P) (fun c Q => xs b n f 8 d c Q)
    | 3 => eb (xs b n f 2 d [] P) (fun c Q => if sB b n Q 60 then eb (xs b n f 2 d [] (nx b n Q)) (fun c2 R => .ok (c ++ c2 ++ [-11], R))
        else if sB b n Q 61 then eb (xs b n f 2 d [] (nx b n Q)) (fun c2 R => .ok (c ++ c2 ++ [-12], R)) else .ok (c, Q))
    | 4 => if wB b n P 16 then (if acc.length < 6 then xs b n f 4 d (-15 :: acc) (nx b n P) else .error P) else eb (xs b n f 3 d [] P) (fun c Q => .ok (c ++ acc, Q))
    | 5 => eb (xs b n f 4 d [] P) (fun c Q => xs b n f 10 d c Q)
    | 6 => if d ≤ 5 then eb (xs b n f 5 d [] P) (fun c Q => xs b n f 11 d c Q) else .error P
    | 7 => if sB b n P 42 then eb (xs b n f 0 d [] (nx b n P)) (fun c Q => xs b n f 7 d (acc ++ c ++ [-9]) Q)
      else if sB b n P 47 then eb (xs b n f 0 d [] (nx b n P)) (fun c Q => xs b n f 7 d (acc ++ c ++ [-10]) Q) else .ok (acc, P)
    | 8 => if sB b n P 43 then eb (xs b n f 1 d [] (nx b n P)) (fun c Q => xs b n f 8 d (acc ++ c ++ [-7]) Q)
      else if sB b n P 45 then eb (xs b n f 1 d [] (nx b n P)) (fun c Q => xs b n f 8 d (acc ++ c ++ [-8]) Q) else .ok (acc, P)
    | 10 => if wB b n P 14 then eb (xs b n f 4 d [] (nx b n P)) (fun c Q => xs b n f 10 d (acc ++ c ++ [-13]) Q) else .ok (acc, P)
    | 11 => if wB b n P 15 then eb (xs b n f 5 d [] (nx b n P)) (fun c Q => xs b n f 11 d (acc ++ c ++ [-14]) Q) else .ok (acc, P)
    | _ => .error P
section XSE
variable {b : Nat → Int32} {n f d P : Nat} {acc : List Int}
theorem xe_0 : xs b n (f + 1) 0 d acc P = (if tK b n P = 1 then (if tE b n P ≤ P + 4 then .ok ([tV b n P], nx b n P) else .error P) else if tK b n P = 2 then (if vW b n P < 6 then .ok ([-1 - (vW b n P : Int)], nx b n P) else .error P) else if sB b n P 40 then (if d ≤ 5 then eb (xs b n f 6 (d + 1) [] (nx b n P)) (fun c Q => if sB b n Q 41 then .ok (c, nx b n Q) else .error Q) else .error P) else .error P) := rfl
theorem xe_1 : xs b n (f + 1) 1 d acc P = eb (xs b n f 0 d [] P) (fun c Q => xs b n f 7 d c Q) := rfl
theorem xe_2 : xs b n (f + 1) 2 d acc P = eb (xs b n f 1 d [] P) (fun c Q => xs b n f 8 d c Q) := rfl
theorem xe_3 : xs b n (f + 1) 3 d acc P = eb (xs b n f 2 d [] P) (fun c Q => if sB b n Q 60 then eb (xs b n f 2 d [] (nx b n Q)) (fun c2 R => .ok (c ++ c2 ++ [-11], R)) else if sB b n Q 61 then eb (xs b n f 2 d [] (nx b n Q)) (fun c2 R => .ok (c ++ c2 ++ [-12], R)) else .ok (c, Q)) := rfl
theorem xe_4 : xs b n (f + 1) 4 d acc P = (if wB b n P 16 then (if acc.length < 6 then xs b n f 4 d (-15 :: acc) (nx b n P) else .error P) else eb (xs b n f 3 d [] P) (fun c Q => .ok (c ++ acc, Q))) := rfl
theorem xe_5 : xs b n (f + 1) 5 d acc P = eb (xs b n f 4 d [] P) (fun c Q => xs b n f 10 d c Q) := rfl
theorem xe_6 : xs b n (f + 1) 6 d acc P = (if d ≤ 5 then eb (xs b n f 5 d [] P) (fun c Q => xs b n f 11 d c Q) else .error P) := rfl
theorem xe_7 : xs b n (f + 1) 7 d acc P = (if sB b n P 42 then eb (xs b n f 0 d [] (nx b n P)) (fun c Q => xs b n f 7 d (acc ++ c ++ [-9]) Q) else if sB b n P 47 then eb (xs b n f 0 d [] (nx b n P)) (fun c Q => xs b n f 7 d (acc ++ c ++ [-10]) Q) else .ok (acc, P)) := rfl
theorem xe_8 : xs b n (f + 1) 8 d acc P = (if sB b n P 43 then eb (xs b n f 1 d [] (nx b n P)) (fun c Q => xs b n f 8 d (acc ++ c ++ [-7]) Q) else if sB b n P 45 then eb (xs b n f 1 d [] (nx b n P)) (fun c Q => xs b n f 8 d (acc ++ c ++ [-8]) Q) else .ok (acc, P)) := rfl
theorem xe_10 : xs b n (f + 1) 10 d acc P = (if wB b n P 14 then eb (xs b n f 4 d [] (nx b n P)) (fun c Q => xs b n f 10 d (acc ++ c ++ [-13]) Q) else .ok (acc, P)) := rfl
theorem xe_11 : xs b n (f + 1) 11 d acc P = (if wB b n P 15 then eb (xs b n f 5 d [] (nx b n P)) (fun c Q => xs b n f 11 d (acc ++ c ++ [-14]) Q) else .ok (acc, P)) := rfl
end XSE
theorem eb_inv {r : xR} {k : List Int → Nat → xR} {c : List Int} {Q : Nat} (h : eb r k = .ok (c, Q)) : ∃ c1 Q1, r = .ok (c1, Q1) ∧ k c1 Q1 = .ok (c, Q) := by
  cases r with
  | error p => exact nomatch h
  | ok q => exact ⟨q.1, q.2, rfl, h⟩
theorem isS_lt {b : Nat → Int32} {n P : Nat} {c : Int} (h : isS b n P c) : P < n := tK_n0 (b := b) (by have := h.1; omega)
theorem isW_lt {b : Nat → Int32} {n P k : Nat} (h : isW b n P k) : P < n := tK_n0 (b := b) (by have := h.1; omega)
theorem sB_lt {b : Nat → Int32} {n P : Nat} {c : Int} (h : sB b n P c = true) : P < n := isS_lt (@of_decide_eq_true _ (dS b n P c) h)
theorem wB_lt {b : Nat → Int32} {n P k : Nat} (h : wB b n P k = true) : P < n := isW_lt (@of_decide_eq_true _ (dW b n P k) h)
/-- an expression goes on in the bytes, and has no more code than bytes -/
theorem xs_len {b : Nat → Int32} {n : Nat} : ∀ (f lev d : Nat) (acc : List Int) (P : Nat) (c : List Int) (Q : Nat), P ≤ n → xs b n f lev d acc P = .ok (c, Q) → (lev ≤ 3 ∨ lev = 5 ∨ lev = 6 → acc = []) → P ≤ Q ∧ Q ≤ n ∧ c.length + P ≤ acc.length + Q ∧ (lev ≤ 6 → P < Q) := by
  intro f
  induction f with
  | zero => intro lev d acc P c Q _ h _; exact nomatch h
  | succ f ih =>
    intro lev d acc P c Q hP h ha
    have hn := nx_le (b := b) hP
    have two : ∀ (l1 l2 : Nat) (A : List Int) (op : Int) (c : List Int) (Q : Nat), (l1 ≤ 6 ∧ l1 ≠ 4 ∨ l1 = 4) → l2 = 7 ∨ l2 = 8 ∨ l2 = 10 ∨ l2 = 11 → P < n → eb (xs b n f l1 d [] (nx b n P)) (fun c1 Q1 => xs b n f l2 d (A ++ c1 ++ [op]) Q1) = .ok (c, Q) → P ≤ Q ∧ Q ≤ n ∧ c.length + P ≤ A.length + Q := by
      intro l1 l2 A op c Q h1 h2 hlt h
      obtain ⟨c1, Q1, e1, e2⟩ := eb_inv h
      have k1 := ih l1 d [] _ c1 Q1 hn.2.1 e1 (fun _ => rfl)
      have k2 := ih l2 d _ Q1 c Q k1.2.1 e2 (fun h => by omega)
      have k3 := k1.2.2.1
      have k4 := k2.2.2.1
      simp only [List.length_append, List.length_cons, List.length_nil] at k3 k4
      have := hn.2.2 hlt
      omega
    have seq : ∀ (l1 l2 : Nat) (c : List Int) (Q : Nat), l1 ≤ 6 → l2 = 7 ∨ l2 = 8 ∨ l2 = 10 ∨ l2 = 11 → eb (xs b n f l1 d [] P) (fun c1 Q1 => xs b n f l2 d c1 Q1) = .ok (c, Q) → P ≤ Q ∧ Q ≤ n ∧ c.length + P ≤ 0 + Q ∧ P < Q := by
      intro l1 l2 c Q h1 h2 h
      obtain ⟨c1, Q1, e1, e2⟩ := eb_inv h
      have k1 := ih l1 d [] P c1 Q1 hP e1 (fun _ => rfl)
      have k2 := ih l2 d c1 Q1 c Q k1.2.1 e2 (fun h => by omega)
      have k3 := k1.2.2.1
      have k5 := k1.2.2.2 h1
      simp only [List.length_nil] at k3
      omega
    match lev, h, ha with
    | 0, h, ha =>
      rw [ha (Or.inl (by decide))] at h ⊢
      rw [xe_0] at h
      split at h
      · split at h
        · cases h
          have hlt : P < n := tK_n0 (b := b) (by omega)
          have := hn.2.2 hlt
          simp only [List.length_cons, List.length_nil]
          omega
        · exact nomatch h
      · split at h
        · split at h
          · cases h
            have hlt : P < n := tK_n0 (b := b) (by omega)
            have := hn.2.2 hlt
            simp only [List.length_cons, List.length_nil]
            omega
          · exact nomatch h
        · split at h
          · rename_i hs
            split at h
            · obtain ⟨c1, Q1, e1, e2⟩ := eb_inv h
              have k1 := ih 6 (d + 1) [] _ c1 Q1 hn.2.1 e1 (fun _ => rfl)
              have k3 := k1.2.2.1
              split at e2
              · cases e2
                have hlt := sB_lt hs
                have := hn.2.2 hlt
                have m := nx_le (b := b) k1.2.1
                simp only [List.length_nil] at k3 ⊢
                omega
              · exact nomatch e2
            · exact nomatch h
          · exact nomatch h
    | 1, h, ha =>
      rw [ha (Or.inl (by decide))]
      rw [xe_1] at h
      have := seq 0 7 c Q (by decide) (Or.inl rfl) h
      exact ⟨this.1, this.2.1, this.2.2.1, fun _ => this.2.2.2⟩
    | 2, h, ha =>
      rw [ha (Or.inl (by decide))]
      rw [xe_2] at h
      have := seq 1 8 c Q (by decide) (Or.inr (Or.inl rfl)) h
      exact ⟨this.1, this.2.1, this.2.2.1, fun _ => this.2.2.2⟩
    | 3, h, ha =>
      rw [ha (Or.inl (by decide))]
      rw [xe_3] at h
      obtain ⟨c1, Q1, e1, e2⟩ := eb_inv h
      have k1 := ih 2 d [] P c1 Q1 hP e1 (fun _ => rfl)
      have k3 := k1.2.2.1
      have k4 := k1.2.2.2 (by decide)
      have m := nx_le (b := b) k1.2.1
      have tl : ∀ op : Int, Q1 < n → eb (xs b n f 2 d [] (nx b n Q1)) (fun c2 R => .ok (c1 ++ c2 ++ [op], R)) = .ok (c, Q) → P ≤ Q ∧ Q ≤ n ∧ c.length + P ≤ ([] : List Int).length + Q ∧ (3 ≤ 6 → P < Q) := by
        intro op hlt h
        obtain ⟨c2, Q2, e3, e4⟩ := eb_inv h
        cases e4
        have k5 := ih 2 d [] _ c2 Q m.2.1 e3 (fun _ => rfl)
        have k6 := k5.2.2.1
        have := m.2.2 hlt
        simp only [List.length_append, List.length_cons, List.length_nil] at k3 k6 ⊢
        omega
      split at e2
      · rename_i hs; exact tl _ (sB_lt hs) e2
      · split at e2
        · rename_i hs; exact tl _ (sB_lt hs) e2
        · cases e2
          simp only [List.length_nil] at k3 ⊢
          omega
    | 4, h, _ =>
      rw [xe_4] at h
      split at h
      · rename_i hw
        split at h
        · have k1 := ih 4 d _ _ c Q hn.2.1 h (fun h => by omega)
          have k3 := k1.2.2.1
          have := hn.2.2 (wB_lt hw)
          simp only [List.length_cons] at k3
          omega
        · exact nomatch h
      · obtain ⟨c1, Q1, e1, e2⟩ := eb_inv h
        cases e2
        have k1 := ih 3 d [] P c1 Q hP e1 (fun _ => rfl)
        have k3 := k1.2.2.1
        have k4 := k1.2.2.2 (by decide)
        simp only [List.length_append, List.length_nil] at k3 ⊢
        omega
    | 5, h, ha =>
      rw [ha (Or.inr (Or.inl rfl))]
      rw [xe_5] at h
      have := seq 4 10 c Q (by decide) (Or.inr (Or.inr (Or.inl rfl))) h
      exact ⟨this.1, this.2.1, this.2.2.1, fun _ => this.2.2.2⟩
    | 6, h, ha =>
      rw [ha (Or.inr (Or.inr rfl))]
      rw [xe_6] at h
      split at h
      · have := seq 5 11 c Q (by decide) (Or.inr (Or.inr (Or.inr rfl))) h
        exact ⟨this.1, this.2.1, this.2.2.1, fun _ => this.2.2.2⟩
      · exact nomatch h
    | 7, h, _ =>
      rw [xe_7] at h
      split at h
      · rename_i hs
        have := two 0 7 acc (-9) c Q (Or.inl (by decide)) (Or.inl rfl) (sB_lt hs) h
        exact ⟨this.1, this.2.1, this.2.2, fun h => absurd h (by decide)⟩
      · split at h
        · rename_i hs
          have := two 0 7 acc (-10) c Q (Or.inl (by decide)) (Or.inl rfl) (sB_lt hs) h
          exact ⟨this.1, this.2.1, this.2.2, fun h => absurd h (by decide)⟩
        · cases h; exact ⟨Nat.le_refl _, hP, Nat.le_refl _, fun h => absurd h (by decide)⟩
    | 8, h, _ =>
      rw [xe_8] at h
      split at h
      · rename_i hs
        have := two 1 8 acc (-7) c Q (Or.inl (by decide)) (Or.inr (Or.inl rfl)) (sB_lt hs) h
        exact ⟨this.1, this.2.1, this.2.2, fun h => absurd h (by decide)⟩
      · split at h
        · rename_i hs
          have := two 1 8 acc (-8) c Q (Or.inl (by decide)) (Or.inr (Or.inl rfl)) (sB_lt hs) h
          exact ⟨this.1, this.2.1, this.2.2, fun h => absurd h (by decide)⟩
        · cases h; exact ⟨Nat.le_refl _, hP, Nat.le_refl _, fun h => absurd h (by decide)⟩
    | 9, h, _ => exact nomatch h
    | 10, h, _ =>
      rw [xe_10] at h
      split at h
      · rename_i hs
        have := two 4 10 acc (-13) c Q (Or.inr rfl) (Or.inr (Or.inr (Or.inl rfl))) (wB_lt hs) h
        exact ⟨this.1, this.2.1, this.2.2, fun h => absurd h (by decide)⟩
      · cases h; exact ⟨Nat.le_refl _, hP, Nat.le_refl _, fun h => absurd h (by decide)⟩
    | 11, h, _ =>
      rw [xe_11] at h
      split at h
      · rename_i hs
        have := two 5 11 acc (-14) c Q (Or.inl (by decide)) (Or.inr (Or.inr (Or.inr rfl))) (wB_lt hs) h
        exact ⟨this.1, this.2.1, this.2.2, fun h => absurd h (by decide)⟩
      · cases h; exact ⟨Nat.le_refl _, hP, Nat.le_refl _, fun h => absurd h (by decide)⟩
    | lev + 12, h, _ => exact nomatch h
