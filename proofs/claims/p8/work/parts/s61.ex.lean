/-! ===== a pure function comes to an end, and its end is such ===== -/
def Ex {ρ : Type} (t : Option (ρ × zS)) (Q : ρ → (Nat → Nat → Int32) → (Nat → Nat → Int64) → Prop) : Prop := ∃ x g L, t = some (x, (g, L)) ∧ Q x g L
section EX
variable {ρ β : Type} {Q : ρ → (Nat → Nat → Int32) → (Nat → Nat → Int64) → Prop} {g : Nat → Nat → Int32} {L : Nat → Nat → Int64}
theorem Ex.ret {x : ρ} (h : Q x g L) : Ex (some (x, (g, L))) Q := ⟨x, g, L, rfl, h⟩
theorem Ex.mono {t : Option (ρ × zS)} {P : ρ → (Nat → Nat → Int32) → (Nat → Nat → Int64) → Prop} (h : Ex t P) (hq : ∀ x g L, P x g L → Q x g L) : Ex t Q := by
  obtain ⟨x, g, L, e, p⟩ := h
  exact ⟨x, g, L, e, hq x g L p⟩
theorem Ex.ck {i : Int32} {N : Nat} {K : Option (ρ × zS)} (h1 : 0 ≤ i.toInt) (h2 : i.toInt < (N : Int)) (h : Ex K Q) : Ex (ck i N K) Q := by rw [ck_eq h1 h2]; exact h
theorem Ex.cnz {y : Int32} {K : Option (ρ × zS)} (h1 : ¬ y = 0) (h : Ex K Q) : Ex (cnz y K) Q := by show Ex (if y = 0 then none else K) Q; rw [if_neg h1]; exact h
theorem Ex.cnzL {y : Int64} {K : Option (ρ × zS)} (h1 : ¬ y = 0) (h : Ex K Q) : Ex (cnzL y K) Q := by show Ex (if y = 0 then none else K) Q; rw [if_neg h1]; exact h
theorem Ex.ckb {x : Int32} {K : Option (ρ × zS)} (h1 : narrow .boolean (.int x) = .int x) (h : Ex K Q) : Ex (ckb x K) Q := by show Ex (if narrow .boolean (.int x) = .int x then K else none) Q; rw [if_pos h1]; exact h
theorem Ex.ckr {q : Nat} {K : Option (ρ × zS)} (h1 : 25 ≤ q) (h2 : q ≤ 28) (h : Ex K Q) : Ex (ckr q K) Q := by show Ex (if 25 ≤ q ∧ q ≤ 28 then K else none) Q; rw [if_pos ⟨h1, h2⟩]; exact h
theorem Ex.lti {v : Int32} {K : Int32 → Option (ρ × zS)} (h : ∀ x : Int32, x = v → x.toInt = v.toInt → Ex (K x) Q) : Ex (lti v K) Q := h v rfl rfl
theorem Ex.ltl {v : Int64} {K : Int64 → Option (ρ × zS)} (h : ∀ x : Int64, x = v → Ex (K x) Q) : Ex (ltl v K) Q := h v rfl
theorem Ex.ltn {v : Nat} {K : Nat → Option (ρ × zS)} (h : ∀ x : Nat, x = v → Ex (K x) Q) : Ex (ltn v K) Q := h v rfl
theorem Ex.sti {T : Nat → Nat → Option (Int × Int)} {k j : Nat} {x : Int32} {K : (Nat → Nat → Int32) → Option (ρ × zS)} (hI : zI T (upd2 g k j x)) (h : ∀ g1, g1 = upd2 g k j x → zI T g1 → Ex (K g1) Q) : Ex (sti g k j x K) Q := h _ rfl hI
theorem Ex.stA {T : Nat → Nat → Option (Int × Int)} {k : Nat} {f : Nat → Int32} {K : (Nat → Nat → Int32) → Option (ρ × zS)} (hI : zI T (updA g k f)) (h : ∀ g1, g1 = updA g k f → zI T g1 → Ex (K g1) Q) : Ex (stA g k f K) Q := h _ rfl hI
theorem Ex.stl {k j : Nat} {x : Int64} {K : (Nat → Nat → Int64) → Option (ρ × zS)} (h : ∀ L1, L1 = updL L k j x → Ex (K L1) Q) : Ex (stl L k j x K) Q := h _ rfl
theorem Ex.cb {m : Option (β × zS)} {P : β → (Nat → Nat → Int32) → (Nat → Nat → Int64) → Prop} {K : β → (Nat → Nat → Int32) → (Nat → Nat → Int64) → Option (ρ × zS)} (hm : Ex m P) (h : ∀ x g1 L1, P x g1 L1 → Ex (K x g1 L1) Q) : Ex (cb m K) Q := by
  obtain ⟨x, g1, L1, e, p⟩ := hm
  rw [e]; exact h x g1 L1 p
theorem Ex.ite {c : Prop} [Decidable c] {A B : Option (ρ × zS)} (h1 : c → Ex A Q) (h2 : ¬ c → Ex B Q) : Ex (if c then A else B) Q := by
  by_cases hc : c
  · rw [if_pos hc]; exact h1 hc
  · rw [if_neg hc]; exact h2 hc
theorem Ex.loop {α : Type} {step : (α → Option (ρ × zS)) → α → Option (ρ × zS)} {n : Nat} {v : α} (I : α → Prop) (m : α → Int) (h0 : 0 < n) (hn : m v < (n : Int)) (hv : I v) (H : ∀ (k : α → Option (ρ × zS)) v, I v → (∀ v', I v' → m v' < m v → 0 < m v → Ex (k v') Q) → Ex (step k v) Q) : Ex (whileK step n v) Q := by
  have key : ∀ (n : Nat) (v : α), I v → (m v).toNat < n → Ex (whileK step n v) Q := by
    intro n
    induction n with
    | zero => intro v _ h; exact absurd h (Nat.not_lt_zero _)
    | succ n ih => intro v hv h; exact H _ v hv (fun v' h1 h2 h3 => ih v' h1 (by omega))
  exact key n v hv (by omega)
end EX
section EXX
variable {ρ β : Type} {Q : Except String ρ → (Nat → Nat → Int32) → (Nat → Nat → Int64) → Prop} {g : Nat → Nat → Int32} {L : Nat → Nat → Int64}
theorem Ex.cbx {m : Option (Except String β × zS)} {P : Except String β → (Nat → Nat → Int32) → (Nat → Nat → Int64) → Prop} {K : β → (Nat → Nat → Int32) → (Nat → Nat → Int64) → Option (Except String ρ × zS)} (hm : Ex m P) (hE : ∀ E g1 L1, P (.error E) g1 L1 → Q (.error E) g1 L1) (h : ∀ x g1 L1, P (.ok x) g1 L1 → Ex (K x g1 L1) Q) : Ex (cbx m K) Q := by
  obtain ⟨x, g1, L1, e, p⟩ := hm
  rw [e]
  cases x with
  | error E => exact ⟨.error E, g1, L1, rfl, hE E g1 L1 p⟩
  | ok x => exact h x g1 L1 p
end EXX
