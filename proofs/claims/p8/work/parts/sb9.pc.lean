/-! ===== what holds of a run that ends ===== -/
def Pc {ρ : Type} (t : Option (ρ × zS)) (Q : ρ → gT → lT → Prop) : Prop := ∀ x g L, t = some (x, (g, L)) → Q x g L
section PC
variable {ρ β : Type} {Q : ρ → gT → lT → Prop} {g : gT} {L : lT}
theorem pc_some {x : ρ} (h : Q x g L) : Pc (some (x, (g, L))) Q := fun x' g' L' e => by cases e; exact h
theorem pc_none : Pc (none : Option (ρ × zS)) Q := fun x' g' L' e => nomatch e
theorem pc_mo {t : Option (ρ × zS)} {P : ρ → gT → lT → Prop} (h : Pc t P) (hq : ∀ x g L, P x g L → Q x g L) : Pc t Q := fun x g L e => hq x g L (h x g L e)
theorem pc_and {t : Option (ρ × zS)} {P : ρ → gT → lT → Prop} (h1 : Pc t P) (h2 : Pc t Q) : Pc t (fun x g L => P x g L ∧ Q x g L) := fun x g L e => ⟨h1 x g L e, h2 x g L e⟩
theorem pc_ex {t : Option (ρ × zS)} (h : Ex t Q) : Pc t Q := fun x g L e => by
  obtain ⟨x', g', L', e', h⟩ := h
  rw [e] at e'
  cases e'
  exact h
theorem pc_kp {A : List (Nat × Nat)} {B : List Nat} {t : Option (ρ × zS)} (h : Kp A B g t) : Pc t (fun _ g1 _ => FW A B g g1) := fun x g1 L1 e => h x (g1, L1) e
theorem pc_ck {i : Int32} {N : Nat} {K : Option (ρ × zS)} (h : 0 ≤ i.toInt → i.toInt < (N : Int) → Pc K Q) : Pc (ck i N K) Q := by
  unfold ck
  split
  · rename_i c; exact h c.1 c.2
  · exact pc_none
theorem pc_ckb {i : Int32} {K : Option (ρ × zS)} (h : Pc K Q) : Pc (ckb i K) Q := by
  unfold ckb
  split
  · exact h
  · exact pc_none
theorem pc_ckr {q : Nat} {K : Option (ρ × zS)} (h : 25 ≤ q → q ≤ 28 → Pc K Q) : Pc (ckr q K) Q := by
  unfold ckr
  split
  · rename_i c; exact h c.1 c.2
  · exact pc_none
theorem pc_ite {c : Prop} [Decidable c] {K1 K2 : Option (ρ × zS)} (h1 : c → Pc K1 Q) (h2 : ¬ c → Pc K2 Q) : Pc (if c then K1 else K2) Q := by
  split
  · rename_i c; exact h1 c
  · rename_i c; exact h2 c
theorem pc_lti {v : Int32} {K : Int32 → Option (ρ × zS)} (h : ∀ x, x = v → Pc (K x) Q) : Pc (lti v K) Q := h v rfl
theorem pc_ltn {v : Nat} {K : Nat → Option (ρ × zS)} (h : ∀ x, x = v → Pc (K x) Q) : Pc (ltn v K) Q := h v rfl
theorem pc_stl {k j : Nat} {x : Int64} {K : lT → Option (ρ × zS)} (h : ∀ L1, Pc (K L1) Q) : Pc (stl L k j x K) Q := h _
theorem pc_st {k j : Nat} {x : Int32} {K : gT → Option (ρ × zS)} (h : ∀ g1, g1 = upd2 g k j x → Pc (K g1) Q) : Pc (sti g k j x K) Q := h _ rfl
theorem pc_stA {k : Nat} {f : Nat → Int32} {K : gT → Option (ρ × zS)} (h : ∀ g1, g1 = updA g k f → Pc (K g1) Q) : Pc (stA g k f K) Q := h _ rfl
theorem pc_cb {m : Option (β × zS)} {P : β → gT → lT → Prop} {K : β → gT → lT → Option (ρ × zS)} (hm : Pc m P) (h : ∀ x g1 L1, P x g1 L1 → Pc (K x g1 L1) Q) : Pc (cb m K) Q := by
  cases m with
  | none => exact pc_none
  | some q => exact h q.1 q.2.1 q.2.2 (hm q.1 q.2.1 q.2.2 rfl)
theorem pc_loop {α : Type} {step : (α → Option (ρ × zS)) → α → Option (ρ × zS)} {n : Nat} {v : α} (I : α → Prop) (hs : ∀ k, (∀ v, I v → Pc (k v) Q) → ∀ v, I v → Pc (step k v) Q) (h : I v) : Pc (whileK step n v) Q := by
  induction n generalizing v with
  | zero => exact pc_none
  | succ n ih => exact hs _ (fun v hv => ih hv) v h
end PC
theorem pc_cbx {β γ : Type} {Q : Except String γ → gT → lT → Prop} {m : Option (Except String β × zS)} {P : Except String β → gT → lT → Prop} {K : β → gT → lT → Option (Except String γ × zS)} (hm : Pc m P) (he : ∀ E g1 L1, P (.error E) g1 L1 → Q (.error E) g1 L1) (h : ∀ x g1 L1, P (.ok x) g1 L1 → Pc (K x g1 L1) Q) : Pc (cbx m K) Q := by
  cases m with
  | none => exact pc_none
  | some q =>
    obtain ⟨q, s⟩ := q
    have e := hm q s.1 s.2 rfl
    cases q with
    | error E => exact fun x' g' L' e' => by cases e'; exact he _ _ _ e
    | ok x => exact h x s.1 s.2 e
