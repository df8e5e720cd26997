/-! ===== what a function may write ===== -/
def FW (A : List (Nat × Nat)) (B : List Nat) (g g1 : gT) : Prop := ∀ k j, k ∉ B → (k, j) ∉ A → g1 k j = g k j
theorem FW.refl {A : List (Nat × Nat)} {B : List Nat} {g : gT} : FW A B g g := fun _ _ _ _ => rfl
theorem FW.tr {A : List (Nat × Nat)} {B : List Nat} {g1 g2 g3 : gT} (h1 : FW A B g1 g2) (h2 : FW A B g2 g3) : FW A B g1 g3 := fun k j a b => (h2 k j a b).trans (h1 k j a b)
def sbA (A A' : List (Nat × Nat)) (B' : List Nat) : Bool := A.all (fun x => A'.any (fun y => Nat.beq x.1 y.1 && Nat.beq x.2 y.2) || B'.any (fun y => Nat.beq x.1 y))
def sbB (B B' : List Nat) : Bool := B.all (fun x => B'.any (fun y => Nat.beq x y))
theorem sbB_mem {B B' : List Nat} (h : sbB B B' = true) {k : Nat} (hk : k ∈ B) : k ∈ B' := by
  have h := List.any_eq_true.mp (List.all_eq_true.mp h k hk)
  obtain ⟨y, hy, e⟩ := h
  have := Nat.eq_of_beq_eq_true e
  rw [this]; exact hy
theorem sbA_mem {A A' : List (Nat × Nat)} {B' : List Nat} (h : sbA A A' B' = true) {k j : Nat} (hk : (k, j) ∈ A) : (k, j) ∈ A' ∨ k ∈ B' := by
  have h := List.all_eq_true.mp h (k, j) hk
  rcases Bool.or_eq_true _ _ |>.mp h with h | h
  · obtain ⟨y, hy, e⟩ := List.any_eq_true.mp h
    have e := Bool.and_eq_true _ _ |>.mp e
    have e1 : k = y.1 := Nat.eq_of_beq_eq_true e.1
    have e2 : j = y.2 := Nat.eq_of_beq_eq_true e.2
    left
    rw [e1, e2]; exact hy
  · obtain ⟨y, hy, e⟩ := List.any_eq_true.mp h
    have e1 : k = y := Nat.eq_of_beq_eq_true e
    right
    rw [e1]; exact hy
theorem FW.mo {A A' : List (Nat × Nat)} {B B' : List Nat} {g g1 : gT} (h : FW A B g g1) (hA : sbA A A' B' = true) (hB : sbB B B' = true) : FW A' B' g g1 := fun k j a b => h k j (fun h => a (sbB_mem hB h)) (fun h => (sbA_mem hA h).elim b a)
theorem FW.c {A : List (Nat × Nat)} {B : List Nat} {g g1 : gT} (h : FW A B g g1) {k : Nat} (hB : k ∉ B) (hA : k ∉ A.map Prod.fst) : g1 k = g k := funext fun j => h k j hB (fun hm => hA (List.mem_map.mpr ⟨(k, j), hm, rfl⟩))
def Kp {ρ : Type} (A : List (Nat × Nat)) (B : List Nat) (g0 : gT) (t : Option (ρ × zS)) : Prop := ∀ x s, t = some (x, s) → FW A B g0 s.1
section KP
variable {ρ β : Type} {A A' : List (Nat × Nat)} {B B' : List Nat} {g0 g : gT} {L : lT}
theorem kp_some {x : ρ} (h : FW A B g0 g) : Kp A B g0 (some (x, (g, L))) := fun x' s e => by cases e; exact h
theorem kp_none : Kp A B g0 (none : Option (ρ × zS)) := fun x' s e => nomatch e
theorem kp_ck {i : Int32} {N : Nat} {K : Option (ρ × zS)} (h : Kp A B g0 K) : Kp A B g0 (ck i N K) := by
  unfold ck
  split
  · exact h
  · exact kp_none
theorem kp_cnz {i : Int32} {K : Option (ρ × zS)} (h : Kp A B g0 K) : Kp A B g0 (cnz i K) := by
  unfold cnz
  split
  · exact kp_none
  · exact h
theorem kp_cnzL {i : Int64} {K : Option (ρ × zS)} (h : Kp A B g0 K) : Kp A B g0 (cnzL i K) := by
  unfold cnzL
  split
  · exact kp_none
  · exact h
theorem kp_ckb {i : Int32} {K : Option (ρ × zS)} (h : Kp A B g0 K) : Kp A B g0 (ckb i K) := by
  unfold ckb
  split
  · exact h
  · exact kp_none
theorem kp_ckr {q : Nat} {K : Option (ρ × zS)} (h : 25 ≤ q → q ≤ 28 → Kp A B g0 K) : Kp A B g0 (ckr q K) := by
  unfold ckr
  split
  · rename_i c; exact h c.1 c.2
  · exact kp_none
theorem kp_ite {c : Prop} [Decidable c] {K1 K2 : Option (ρ × zS)} (h1 : Kp A B g0 K1) (h2 : Kp A B g0 K2) : Kp A B g0 (if c then K1 else K2) := by
  split
  · exact h1
  · exact h2
theorem kp_lti {v : Int32} {K : Int32 → Option (ρ × zS)} (h : ∀ x, Kp A B g0 (K x)) : Kp A B g0 (lti v K) := h v
theorem kp_ltl {v : Int64} {K : Int64 → Option (ρ × zS)} (h : ∀ x, Kp A B g0 (K x)) : Kp A B g0 (ltl v K) := h v
theorem kp_ltn {v : Nat} {K : Nat → Option (ρ × zS)} (h : ∀ x, x = v → Kp A B g0 (K x)) : Kp A B g0 (ltn v K) := h v rfl
theorem kp_stl {k j : Nat} {x : Int64} {K : lT → Option (ρ × zS)} (h : ∀ L1, Kp A B g0 (K L1)) : Kp A B g0 (stl L k j x K) := h _
theorem kp_stF {k j : Nat} {x : Int32} {K : gT → Option (ρ × zS)} (hm : (k, j) ∈ A) (h0 : FW A B g0 g) (h : ∀ g1, FW A B g0 g1 → Kp A B g0 (K g1)) : Kp A B g0 (sti g k j x K) := by
  refine h _ (fun k' j' a b => ?_)
  by_cases hk : k' = k
  · subst hk
    by_cases hj : j' = j
    · subst hj; exact absurd hm b
    · rw [upd2_nj hj]; exact h0 _ _ a b
  · rw [upd2_nk hk]; exact h0 _ _ a b
theorem kp_stB {k j : Nat} {x : Int32} {K : gT → Option (ρ × zS)} (hm : k ∈ B) (h0 : FW A B g0 g) (h : ∀ g1, FW A B g0 g1 → Kp A B g0 (K g1)) : Kp A B g0 (sti g k j x K) := by
  refine h _ (fun k' j' a b => ?_)
  by_cases hk : k' = k
  · subst hk; exact absurd hm a
  · rw [upd2_nk hk]; exact h0 _ _ a b
theorem kp_stA {k : Nat} {f : Nat → Int32} {K : gT → Option (ρ × zS)} (hm : k ∈ B) (h0 : FW A B g0 g) (h : ∀ g1, FW A B g0 g1 → Kp A B g0 (K g1)) : Kp A B g0 (stA g k f K) := by
  refine h _ (fun k' j' a b => ?_)
  by_cases hk : k' = k
  · subst hk; exact absurd hm a
  · rw [updA_ne hk]; exact h0 _ _ a b
theorem kp_cb {m : Option (β × zS)} {K : β → gT → lT → Option (ρ × zS)} (hm : Kp A' B' g m) (hA : sbA A' A B = true) (hB : sbB B' B = true) (h0 : FW A B g0 g) (h : ∀ x g1 L1, FW A B g0 g1 → Kp A B g0 (K x g1 L1)) : Kp A B g0 (cb m K) := by
  cases m with
  | none => exact kp_none
  | some q => exact h q.1 q.2.1 q.2.2 (h0.tr ((hm q.1 q.2 rfl).mo hA hB))
theorem kp_cbx {γ : Type} {m : Option (Except String β × zS)} {K : β → gT → lT → Option (Except String γ × zS)} (hm : Kp A' B' g m) (hA : sbA A' A B = true) (hB : sbB B' B = true) (h0 : FW A B g0 g) (h : ∀ x g1 L1, FW A B g0 g1 → Kp A B g0 (K x g1 L1)) : Kp A B g0 (cbx m K) := by
  cases m with
  | none => exact kp_none
  | some q =>
    obtain ⟨q, s⟩ := q
    have e := h0.tr ((hm q s rfl).mo hA hB)
    cases q with
    | error E => exact fun x' s' e' => by cases e'; exact e
    | ok x => exact h x s.1 s.2 e
theorem kp_loop {α : Type} {step : (α → Option (ρ × zS)) → α → Option (ρ × zS)} {n : Nat} {v : α} (st : α → gT) (hs : ∀ k, (∀ v, FW A B g0 (st v) → Kp A B g0 (k v)) → ∀ v, FW A B g0 (st v) → Kp A B g0 (step k v)) (h : FW A B g0 (st v)) : Kp A B g0 (whileK step n v) := by
  induction n generalizing v with
  | zero => exact kp_none
  | succ n ih => exact hs _ (fun v hv => ih hv) v h
end KP
